theorem dX12_node_5 : decode cX12_node 5 = .ok (.aload_n 0, 1) := by decide +kernel
theorem dX12_node_6 : decode cX12_node 6 = .ok (.iload_n 1, 1) := by decide +kernel
theorem dX12_node_7 : decode cX12_node 7 = .ok (.invokevirtual 291, 3) := by decide +kernel
theorem dX12_node_10 : decode cX12_node 10 = .ok (.ifCond .eq 16, 3) := by decide +kernel
theorem dX12_node_13 : decode cX12_node 13 = .ok (.iload_n 2, 1) := by decide +kernel
theorem dX12_node_14 : decode cX12_node 14 = .ok (.ifCond .lt 12, 3) := by decide +kernel
theorem dX12_node_17 : decode cX12_node 17 = .ok (.iload_n 3, 1) := by decide +kernel
theorem dX12_node_18 : decode cX12_node 18 = .ok (.iconst 0, 1) := by decide +kernel
theorem dX12_node_19 : decode cX12_node 19 = .ok (.iconst 5, 1) := by decide +kernel
theorem dX12_node_20 : decode cX12_node 20 = .ok (.invokestatic 156, 3) := by decide +kernel
theorem dX12_node_23 : decode cX12_node 23 = .ok (.ifCond .ne 9, 3) := by decide +kernel
theorem dX12_node_26 : decode cX12_node 26 = .ok (.aload_n 0, 1) := by decide +kernel
theorem dX12_node_27 : decode cX12_node 27 = .ok (.iconst 1, 1) := by decide +kernel
theorem dX12_node_28 : decode cX12_node 28 = .ok (.invokevirtual 270, 3) := by decide +kernel
theorem dX12_node_31 : decode cX12_node 31 = .ok (.ireturn, 1) := by decide +kernel
theorem dX12_node_32 : decode cX12_node 32 = .ok (.aload_n 0, 1) := by decide +kernel
theorem dX12_node_33 : decode cX12_node 33 = .ok (.iload_n 1, 1) := by decide +kernel
theorem dX12_node_34 : decode cX12_node 34 = .ok (.iload_n 2, 1) := by decide +kernel
theorem dX12_node_35 : decode cX12_node 35 = .ok (.invokevirtual 378, 3) := by decide +kernel
theorem dX12_node_38 : decode cX12_node 38 = .ok (.istore 4, 2) := by decide +kernel
theorem dX12_node_40 : decode cX12_node 40 = .ok (.iload 4, 2) := by decide +kernel
theorem dX12_node_42 : decode cX12_node 42 = .ok (.ifCond .le 10, 3) := by decide +kernel
theorem dX12_node_45 : decode cX12_node 45 = .ok (.aload_n 0, 1) := by decide +kernel
theorem dX12_node_46 : decode cX12_node 46 = .ok (.iload 4, 2) := by decide +kernel
theorem dX12_node_48 : decode cX12_node 48 = .ok (.invokevirtual 270, 3) := by decide +kernel
theorem dX12_node_51 : decode cX12_node 51 = .ok (.ireturn, 1) := by decide +kernel
theorem dX12_node_52 : decode cX12_node 52 = .ok (.iload_n 3, 1) := by decide +kernel
theorem dX12_node_53 : decode cX12_node 53 = .ok (.tableswitch 110 0 4 #[35, 46, 57, 68, 86], 35) := by decide +kernel
theorem dX12_node_88 : decode cX12_node 88 = .ok (.aload_n 0, 1) := by decide +kernel
theorem dX12_node_89 : decode cX12_node 89 = .ok (.aload_n 0, 1) := by decide +kernel
theorem dX12_node_90 : decode cX12_node 90 = .ok (.getfield 36, 3) := by decide +kernel
theorem dX12_node_93 : decode cX12_node 93 = .ok (.iload_n 2, 1) := by decide +kernel
theorem dX12_node_94 : decode cX12_node 94 = .ok (.iaload, 1) := by decide +kernel
theorem dX12_node_95 : decode cX12_node 95 = .ok (.invokevirtual 288, 3) := by decide +kernel
theorem dX12_node_98 : decode cX12_node 98 = .ok (.ireturn, 1) := by decide +kernel
theorem dX12_node_99 : decode cX12_node 99 = .ok (.aload_n 0, 1) := by decide +kernel
theorem dX12_node_100 : decode cX12_node 100 = .ok (.aload_n 0, 1) := by decide +kernel
theorem dX12_node_101 : decode cX12_node 101 = .ok (.getfield 39, 3) := by decide +kernel
theorem dX12_node_104 : decode cX12_node 104 = .ok (.iload_n 2, 1) := by decide +kernel
theorem dX12_node_105 : decode cX12_node 105 = .ok (.iaload, 1) := by decide +kernel
theorem dX12_node_106 : decode cX12_node 106 = .ok (.invokevirtual 288, 3) := by decide +kernel
theorem dX12_node_109 : decode cX12_node 109 = .ok (.ireturn, 1) := by decide +kernel
theorem dX12_node_110 : decode cX12_node 110 = .ok (.aload_n 0, 1) := by decide +kernel
theorem dX12_node_111 : decode cX12_node 111 = .ok (.aload_n 0, 1) := by decide +kernel
theorem dX12_node_112 : decode cX12_node 112 = .ok (.getfield 45, 3) := by decide +kernel
theorem dX12_node_115 : decode cX12_node 115 = .ok (.iload_n 2, 1) := by decide +kernel
theorem dX12_node_116 : decode cX12_node 116 = .ok (.iaload, 1) := by decide +kernel
theorem dX12_node_117 : decode cX12_node 117 = .ok (.invokevirtual 288, 3) := by decide +kernel
theorem dX12_node_120 : decode cX12_node 120 = .ok (.ireturn, 1) := by decide +kernel
theorem dX12_node_121 : decode cX12_node 121 = .ok (.aload_n 0, 1) := by decide +kernel
theorem dX12_node_122 : decode cX12_node 122 = .ok (.aload_n 0, 1) := by decide +kernel
theorem dX12_node_123 : decode cX12_node 123 = .ok (.iload_n 2, 1) := by decide +kernel
theorem dX12_node_124 : decode cX12_node 124 = .ok (.invokevirtual 381, 3) := by decide +kernel
theorem dX12_node_127 : decode cX12_node 127 = .ok (.ifCond .eq 7, 3) := by decide +kernel
theorem dX12_node_130 : decode cX12_node 130 = .ok (.iconst 1, 1) := by decide +kernel
theorem dX12_node_131 : decode cX12_node 131 = .ok (.goto 4, 3) := by decide +kernel
theorem dX12_node_134 : decode cX12_node 134 = .ok (.iconst 0, 1) := by decide +kernel
theorem dX12_node_135 : decode cX12_node 135 = .ok (.invokevirtual 288, 3) := by decide +kernel
theorem dX12_node_138 : decode cX12_node 138 = .ok (.ireturn, 1) := by decide +kernel
theorem dX12_node_139 : decode cX12_node 139 = .ok (.aload_n 0, 1) := by decide +kernel
theorem dX12_node_140 : decode cX12_node 140 = .ok (.aload_n 0, 1) := by decide +kernel
theorem dX12_node_141 : decode cX12_node 141 = .ok (.getfield 54, 3) := by decide +kernel
theorem dX12_node_144 : decode cX12_node 144 = .ok (.iconst 3, 1) := by decide +kernel
theorem dX12_node_145 : decode cX12_node 145 = .ok (.iload_n 2, 1) := by decide +kernel
theorem dX12_node_146 : decode cX12_node 146 = .ok (.iconst 1, 1) := by decide +kernel
theorem dX12_node_147 : decode cX12_node 147 = .ok (.iadd, 1) := by decide +kernel
theorem dX12_node_148 : decode cX12_node 148 = .ok (.imul, 1) := by decide +kernel
theorem dX12_node_149 : decode cX12_node 149 = .ok (.iaload, 1) := by decide +kernel
theorem dX12_node_150 : decode cX12_node 150 = .ok (.aload_n 0, 1) := by decide +kernel
theorem dX12_node_151 : decode cX12_node 151 = .ok (.getfield 54, 3) := by decide +kernel
theorem dX12_node_154 : decode cX12_node 154 = .ok (.iconst 3, 1) := by decide +kernel
theorem dX12_node_155 : decode cX12_node 155 = .ok (.iload_n 2, 1) := by decide +kernel
theorem dX12_node_156 : decode cX12_node 156 = .ok (.imul, 1) := by decide +kernel
theorem dX12_node_157 : decode cX12_node 157 = .ok (.iaload, 1) := by decide +kernel
theorem dX12_node_158 : decode cX12_node 158 = .ok (.isub, 1) := by decide +kernel
theorem dX12_node_159 : decode cX12_node 159 = .ok (.invokevirtual 288, 3) := by decide +kernel
theorem dX12_node_162 : decode cX12_node 162 = .ok (.ireturn, 1) := by decide +kernel
theorem dX12_node_163 : decode cX12_node 163 = .ok (.aload_n 0, 1) := by decide +kernel
theorem dX12_node_164 : decode cX12_node 164 = .ok (.aload_n 0, 1) := by decide +kernel
theorem dX12_node_165 : decode cX12_node 165 = .ok (.iload_n 2, 1) := by decide +kernel
theorem dX12_node_166 : decode cX12_node 166 = .ok (.invokevirtual 384, 3) := by decide +kernel
theorem dX12_node_169 : decode cX12_node 169 = .ok (.invokevirtual 288, 3) := by decide +kernel
theorem dX12_node_172 : decode cX12_node 172 = .ok (.ireturn, 1) := by decide +kernel
theorem dX12_rank_0 : decode cX12_rank 0 = .ok (.aload_n 0, 1) := by decide +kernel
theorem dX12_rank_1 : decode cX12_rank 1 = .ok (.iconst 0, 1) := by decide +kernel
theorem dX12_rank_2 : decode cX12_rank 2 = .ok (.putfield 131, 3) := by decide +kernel
theorem dX12_rank_5 : decode cX12_rank 5 = .ok (.aload_n 0, 1) := by decide +kernel
theorem dX12_rank_6 : decode cX12_rank 6 = .ok (.iload_n 1, 1) := by decide +kernel
theorem dX12_rank_7 : decode cX12_rank 7 = .ok (.iload_n 3, 1) := by decide +kernel
theorem dX12_rank_8 : decode cX12_rank 8 = .ok (.invokevirtual 302, 3) := by decide +kernel
theorem dX12_rank_11 : decode cX12_rank 11 = .ok (.ifCond .eq 7, 3) := by decide +kernel
theorem dX12_rank_14 : decode cX12_rank 14 = .ok (.iload_n 2, 1) := by decide +kernel
theorem dX12_rank_15 : decode cX12_rank 15 = .ok (.ifCond .ge 9, 3) := by decide +kernel
theorem dX12_rank_18 : decode cX12_rank 18 = .ok (.aload_n 0, 1) := by decide +kernel
theorem dX12_rank_19 : decode cX12_rank 19 = .ok (.iconst 1, 1) := by decide +kernel
theorem dX12_rank_20 : decode cX12_rank 20 = .ok (.invokevirtual 270, 3) := by decide +kernel
theorem dX12_rank_23 : decode cX12_rank 23 = .ok (.ireturn, 1) := by decide +kernel
theorem dX12_rank_24 : decode cX12_rank 24 = .ok (.aload_n 0, 1) := by decide +kernel
theorem dX12_rank_25 : decode cX12_rank 25 = .ok (.iload_n 1, 1) := by decide +kernel
theorem dX12_rank_26 : decode cX12_rank 26 = .ok (.iload_n 2, 1) := by decide +kernel
theorem dX12_rank_27 : decode cX12_rank 27 = .ok (.invokevirtual 378, 3) := by decide +kernel
theorem dX12_rank_30 : decode cX12_rank 30 = .ok (.istore 4, 2) := by decide +kernel
theorem dX12_rank_32 : decode cX12_rank 32 = .ok (.iload 4, 2) := by decide +kernel
theorem dX12_rank_34 : decode cX12_rank 34 = .ok (.ifCond .le 10, 3) := by decide +kernel
theorem dX12_rank_37 : decode cX12_rank 37 = .ok (.aload_n 0, 1) := by decide +kernel
theorem dX12_rank_38 : decode cX12_rank 38 = .ok (.iload 4, 2) := by decide +kernel
theorem dX12_rank_40 : decode cX12_rank 40 = .ok (.invokevirtual 270, 3) := by decide +kernel
theorem dX12_rank_43 : decode cX12_rank 43 = .ok (.ireturn, 1) := by decide +kernel
theorem dX12_rank_44 : decode cX12_rank 44 = .ok (.aload_n 0, 1) := by decide +kernel
theorem dX12_rank_45 : decode cX12_rank 45 = .ok (.aload_n 0, 1) := by decide +kernel
theorem dX12_rank_46 : decode cX12_rank 46 = .ok (.getfield 39, 3) := by decide +kernel
theorem dX12_rank_49 : decode cX12_rank 49 = .ok (.iload_n 2, 1) := by decide +kernel
theorem dX12_rank_50 : decode cX12_rank 50 = .ok (.iaload, 1) := by decide +kernel
theorem dX12_rank_51 : decode cX12_rank 51 = .ok (.bipush (-2), 2) := by decide +kernel
theorem dX12_rank_53 : decode cX12_rank 53 = .ok (.if_icmp .eq 16, 3) := by decide +kernel
theorem dX12_rank_56 : decode cX12_rank 56 = .ok (.aload_n 0, 1) := by decide +kernel
theorem dX12_rank_57 : decode cX12_rank 57 = .ok (.getfield 36, 3) := by decide +kernel
theorem dX12_rank_60 : decode cX12_rank 60 = .ok (.iload_n 2, 1) := by decide +kernel
theorem dX12_rank_61 : decode cX12_rank 61 = .ok (.iaload, 1) := by decide +kernel
theorem dX12_rank_62 : decode cX12_rank 62 = .ok (.iload_n 3, 1) := by decide +kernel
theorem dX12_rank_63 : decode cX12_rank 63 = .ok (.ishr, 1) := by decide +kernel
theorem dX12_rank_64 : decode cX12_rank 64 = .ok (.iconst 1, 1) := by decide +kernel
theorem dX12_rank_65 : decode cX12_rank 65 = .ok (.iand, 1) := by decide +kernel
theorem dX12_rank_66 : decode cX12_rank 66 = .ok (.ifCond .ne 8, 3) := by decide +kernel
theorem dX12_rank_69 : decode cX12_rank 69 = .ok (.bipush (-2), 2) := by decide +kernel
theorem dX12_rank_71 : decode cX12_rank 71 = .ok (.goto 13, 3) := by decide +kernel
theorem dX12_rank_74 : decode cX12_rank 74 = .ok (.aload_n 0, 1) := by decide +kernel
theorem dX12_rank_75 : decode cX12_rank 75 = .ok (.getfield 42, 3) := by decide +kernel
theorem dX12_rank_78 : decode cX12_rank 78 = .ok (.iload_n 2, 1) := by decide +kernel
theorem dX12_rank_79 : decode cX12_rank 79 = .ok (.iaload, 1) := by decide +kernel
theorem dX12_rank_80 : decode cX12_rank 80 = .ok (.iload_n 3, 1) := by decide +kernel
theorem dX12_rank_81 : decode cX12_rank 81 = .ok (.invokestatic 353, 3) := by decide +kernel
theorem dX12_rank_84 : decode cX12_rank 84 = .ok (.invokevirtual 288, 3) := by decide +kernel
theorem dX12_rank_87 : decode cX12_rank 87 = .ok (.ireturn, 1) := by decide +kernel
theorem dX12_next_0 : decode cX12_next 0 = .ok (.aload_n 0, 1) := by decide +kernel
theorem dX12_next_1 : decode cX12_next 1 = .ok (.iconst 0, 1) := by decide +kernel
theorem dX12_next_2 : decode cX12_next 2 = .ok (.putfield 131, 3) := by decide +kernel
theorem dX12_next_5 : decode cX12_next 5 = .ok (.aload_n 0, 1) := by decide +kernel
theorem dX12_next_6 : decode cX12_next 6 = .ok (.iload_n 1, 1) := by decide +kernel
theorem dX12_next_7 : decode cX12_next 7 = .ok (.invokevirtual 291, 3) := by decide +kernel
theorem dX12_next_10 : decode cX12_next 10 = .ok (.ifCond .eq 20, 3) := by decide +kernel
theorem dX12_next_13 : decode cX12_next 13 = .ok (.iload_n 2, 1) := by decide +kernel
theorem dX12_next_14 : decode cX12_next 14 = .ok (.ifCond .lt 16, 3) := by decide +kernel
theorem dX12_next_17 : decode cX12_next 17 = .ok (.aload_n 0, 1) := by decide +kernel
theorem dX12_next_18 : decode cX12_next 18 = .ok (.iload_n 3, 1) := by decide +kernel
theorem dX12_next_19 : decode cX12_next 19 = .ok (.invokevirtual 306, 3) := by decide +kernel
theorem dX12_next_22 : decode cX12_next 22 = .ok (.ifCond .eq 8, 3) := by decide +kernel
theorem dX12_next_25 : decode cX12_next 25 = .ok (.iload 4, 2) := by decide +kernel
theorem dX12_next_27 : decode cX12_next 27 = .ok (.ifCond .ge 9, 3) := by decide +kernel
theorem dX12_next_30 : decode cX12_next 30 = .ok (.aload_n 0, 1) := by decide +kernel
theorem dX12_next_31 : decode cX12_next 31 = .ok (.iconst 1, 1) := by decide +kernel
theorem dX12_next_32 : decode cX12_next 32 = .ok (.invokevirtual 270, 3) := by decide +kernel
theorem dX12_next_35 : decode cX12_next 35 = .ok (.ireturn, 1) := by decide +kernel
theorem dX12_next_36 : decode cX12_next 36 = .ok (.aload_n 0, 1) := by decide +kernel
theorem dX12_next_37 : decode cX12_next 37 = .ok (.iload_n 1, 1) := by decide +kernel
theorem dX12_next_38 : decode cX12_next 38 = .ok (.iload_n 2, 1) := by decide +kernel
theorem dX12_next_39 : decode cX12_next 39 = .ok (.invokevirtual 378, 3) := by decide +kernel
theorem dX12_next_42 : decode cX12_next 42 = .ok (.istore 5, 2) := by decide +kernel
theorem dX12_next_44 : decode cX12_next 44 = .ok (.iload 5, 2) := by decide +kernel
theorem dX12_next_46 : decode cX12_next 46 = .ok (.ifCond .le 10, 3) := by decide +kernel
theorem dX12_next_49 : decode cX12_next 49 = .ok (.aload_n 0, 1) := by decide +kernel
theorem dX12_next_50 : decode cX12_next 50 = .ok (.iload 5, 2) := by decide +kernel
theorem dX12_next_52 : decode cX12_next 52 = .ok (.invokevirtual 270, 3) := by decide +kernel
theorem dX12_next_55 : decode cX12_next 55 = .ok (.ireturn, 1) := by decide +kernel
theorem dX12_next_56 : decode cX12_next 56 = .ok (.aload_n 0, 1) := by decide +kernel
theorem dX12_next_57 : decode cX12_next 57 = .ok (.iload 4, 2) := by decide +kernel
theorem dX12_next_59 : decode cX12_next 59 = .ok (.aload_n 0, 1) := by decide +kernel
theorem dX12_next_60 : decode cX12_next 60 = .ok (.iload_n 2, 1) := by decide +kernel
theorem dX12_next_61 : decode cX12_next 61 = .ok (.iload_n 3, 1) := by decide +kernel
theorem dX12_next_62 : decode cX12_next 62 = .ok (.invokevirtual 387, 3) := by decide +kernel
theorem dX12_next_65 : decode cX12_next 65 = .ok (.if_icmp .ge 24, 3) := by decide +kernel
theorem dX12_next_68 : decode cX12_next 68 = .ok (.aload_n 0, 1) := by decide +kernel
theorem dX12_next_69 : decode cX12_next 69 = .ok (.getfield 58, 3) := by decide +kernel
theorem dX12_next_72 : decode cX12_next 72 = .ok (.aload_n 0, 1) := by decide +kernel
theorem dX12_next_73 : decode cX12_next 73 = .ok (.getfield 54, 3) := by decide +kernel
theorem dX12_next_76 : decode cX12_next 76 = .ok (.iconst 3, 1) := by decide +kernel
theorem dX12_next_77 : decode cX12_next 77 = .ok (.iload_n 2, 1) := by decide +kernel
theorem dX12_next_78 : decode cX12_next 78 = .ok (.imul, 1) := by decide +kernel
theorem dX12_next_79 : decode cX12_next 79 = .ok (.iload_n 3, 1) := by decide +kernel
theorem dX12_next_80 : decode cX12_next 80 = .ok (.iadd, 1) := by decide +kernel
theorem dX12_next_81 : decode cX12_next 81 = .ok (.iaload, 1) := by decide +kernel
theorem dX12_next_82 : decode cX12_next 82 = .ok (.iload 4, 2) := by decide +kernel
theorem dX12_next_84 : decode cX12_next 84 = .ok (.iadd, 1) := by decide +kernel
theorem dX12_next_85 : decode cX12_next 85 = .ok (.iaload, 1) := by decide +kernel
theorem dX12_next_86 : decode cX12_next 86 = .ok (.goto 5, 3) := by decide +kernel
theorem dX12_next_89 : decode cX12_next 89 = .ok (.bipush (-2), 2) := by decide +kernel
theorem dX12_next_91 : decode cX12_next 91 = .ok (.invokevirtual 288, 3) := by decide +kernel
theorem dX12_next_94 : decode cX12_next 94 = .ok (.ireturn, 1) := by decide +kernel
theorem dX12_nodes_0 : decode cX12_nodes 0 = .ok (.aload_n 0, 1) := by decide +kernel
theorem dX12_nodes_1 : decode cX12_nodes 1 = .ok (.iconst 0, 1) := by decide +kernel
theorem dX12_nodes_2 : decode cX12_nodes 2 = .ok (.putfield 131, 3) := by decide +kernel
theorem dX12_nodes_5 : decode cX12_nodes 5 = .ok (.aload_n 0, 1) := by decide +kernel
theorem dX12_nodes_6 : decode cX12_nodes 6 = .ok (.iload_n 1, 1) := by decide +kernel
theorem dX12_nodes_7 : decode cX12_nodes 7 = .ok (.invokevirtual 291, 3) := by decide +kernel
theorem dX12_nodes_10 : decode cX12_nodes 10 = .ok (.ifCond .eq 12, 3) := by decide +kernel
theorem dX12_nodes_13 : decode cX12_nodes 13 = .ok (.iload_n 2, 1) := by decide +kernel
theorem dX12_nodes_14 : decode cX12_nodes 14 = .ok (.iconst 0, 1) := by decide +kernel
theorem dX12_nodes_15 : decode cX12_nodes 15 = .ok (.iconst 2, 1) := by decide +kernel
theorem dX12_nodes_16 : decode cX12_nodes 16 = .ok (.invokestatic 156, 3) := by decide +kernel
theorem dX12_nodes_19 : decode cX12_nodes 19 = .ok (.ifCond .ne 9, 3) := by decide +kernel
theorem dX12_nodes_22 : decode cX12_nodes 22 = .ok (.aload_n 0, 1) := by decide +kernel
theorem dX12_nodes_23 : decode cX12_nodes 23 = .ok (.iconst 1, 1) := by decide +kernel
theorem dX12_nodes_24 : decode cX12_nodes 24 = .ok (.invokevirtual 270, 3) := by decide +kernel
theorem dX12_nodes_27 : decode cX12_nodes 27 = .ok (.ireturn, 1) := by decide +kernel
theorem dX12_nodes_28 : decode cX12_nodes 28 = .ok (.aload_n 0, 1) := by decide +kernel
theorem dX12_nodes_29 : decode cX12_nodes 29 = .ok (.iload_n 1, 1) := by decide +kernel
theorem dX12_nodes_30 : decode cX12_nodes 30 = .ok (.invokevirtual 372, 3) := by decide +kernel
theorem dX12_nodes_33 : decode cX12_nodes 33 = .ok (.ifCond .ne 9, 3) := by decide +kernel
theorem dX12_nodes_36 : decode cX12_nodes 36 = .ok (.aload_n 0, 1) := by decide +kernel
theorem dX12_nodes_37 : decode cX12_nodes 37 = .ok (.iconst 3, 1) := by decide +kernel
theorem dX12_nodes_38 : decode cX12_nodes 38 = .ok (.invokevirtual 270, 3) := by decide +kernel
theorem dX12_nodes_41 : decode cX12_nodes 41 = .ok (.ireturn, 1) := by decide +kernel
theorem dX12_nodes_42 : decode cX12_nodes 42 = .ok (.iconst 0, 1) := by decide +kernel
theorem dX12_nodes_43 : decode cX12_nodes 43 = .ok (.istore_n 3, 1) := by decide +kernel
theorem dX12_nodes_44 : decode cX12_nodes 44 = .ok (.iconst 0, 1) := by decide +kernel
theorem dX12_nodes_45 : decode cX12_nodes 45 = .ok (.istore 4, 2) := by decide +kernel
theorem dX12_nodes_47 : decode cX12_nodes 47 = .ok (.iload 4, 2) := by decide +kernel
theorem dX12_nodes_49 : decode cX12_nodes 49 = .ok (.aload_n 0, 1) := by decide +kernel
theorem dX12_nodes_50 : decode cX12_nodes 50 = .ok (.getfield 334, 3) := by decide +kernel
theorem dX12_nodes_53 : decode cX12_nodes 53 = .ok (.if_icmp .ge 79, 3) := by decide +kernel
theorem dX12_nodes_56 : decode cX12_nodes 56 = .ok (.aload_n 0, 1) := by decide +kernel
theorem dX12_nodes_57 : decode cX12_nodes 57 = .ok (.getfield 39, 3) := by decide +kernel
theorem dX12_nodes_60 : decode cX12_nodes 60 = .ok (.iload 4, 2) := by decide +kernel
theorem dX12_nodes_62 : decode cX12_nodes 62 = .ok (.iaload, 1) := by decide +kernel
theorem dX12_nodes_63 : decode cX12_nodes 63 = .ok (.bipush (-2), 2) := by decide +kernel
theorem dX12_nodes_65 : decode cX12_nodes 65 = .ok (.if_icmp .ne 7, 3) := by decide +kernel
theorem dX12_nodes_68 : decode cX12_nodes 68 = .ok (.iconst 1, 1) := by decide +kernel
theorem dX12_nodes_69 : decode cX12_nodes 69 = .ok (.goto 4, 3) := by decide +kernel
theorem dX12_nodes_72 : decode cX12_nodes 72 = .ok (.iconst 0, 1) := by decide +kernel
theorem dX12_nodes_73 : decode cX12_nodes 73 = .ok (.istore 5, 2) := by decide +kernel
theorem dX12_nodes_75 : decode cX12_nodes 75 = .ok (.iload_n 3, 1) := by decide +kernel
theorem dX12_nodes_76 : decode cX12_nodes 76 = .ok (.iload_n 2, 1) := by decide +kernel
theorem dX12_nodes_77 : decode cX12_nodes 77 = .ok (.ifCond .ne 11, 3) := by decide +kernel
theorem dX12_nodes_80 : decode cX12_nodes 80 = .ok (.iload 5, 2) := by decide +kernel
theorem dX12_nodes_82 : decode cX12_nodes 82 = .ok (.ifCond .eq 41, 3) := by decide +kernel
theorem dX12_nodes_85 : decode cX12_nodes 85 = .ok (.goto 34, 3) := by decide +kernel
theorem dX12_nodes_88 : decode cX12_nodes 88 = .ok (.iload_n 2, 1) := by decide +kernel
theorem dX12_nodes_89 : decode cX12_nodes 89 = .ok (.iconst 1, 1) := by decide +kernel
theorem dX12_nodes_90 : decode cX12_nodes 90 = .ok (.if_icmp .ne 15, 3) := by decide +kernel
theorem dX12_nodes_93 : decode cX12_nodes 93 = .ok (.aload_n 0, 1) := by decide +kernel
theorem dX12_nodes_94 : decode cX12_nodes 94 = .ok (.iload 4, 2) := by decide +kernel
theorem dX12_nodes_96 : decode cX12_nodes 96 = .ok (.invokevirtual 381, 3) := by decide +kernel
theorem dX12_nodes_99 : decode cX12_nodes 99 = .ok (.ifCond .eq 24, 3) := by decide +kernel
theorem dX12_nodes_102 : decode cX12_nodes 102 = .ok (.goto 17, 3) := by decide +kernel
theorem dX12_nodes_105 : decode cX12_nodes 105 = .ok (.iload 5, 2) := by decide +kernel
theorem dX12_nodes_107 : decode cX12_nodes 107 = .ok (.ifCond .ne 16, 3) := by decide +kernel
theorem dX12_nodes_110 : decode cX12_nodes 110 = .ok (.aload_n 0, 1) := by decide +kernel
theorem dX12_nodes_111 : decode cX12_nodes 111 = .ok (.iload 4, 2) := by decide +kernel
theorem dX12_nodes_113 : decode cX12_nodes 113 = .ok (.invokevirtual 384, 3) := by decide +kernel
theorem dX12_nodes_116 : decode cX12_nodes 116 = .ok (.ifCond .ne 7, 3) := by decide +kernel
theorem dX12_nodes_119 : decode cX12_nodes 119 = .ok (.iconst 1, 1) := by decide +kernel
theorem dX12_nodes_120 : decode cX12_nodes 120 = .ok (.goto 4, 3) := by decide +kernel
theorem dX12_nodes_123 : decode cX12_nodes 123 = .ok (.iconst 0, 1) := by decide +kernel
theorem dX12_nodes_124 : decode cX12_nodes 124 = .ok (.iadd, 1) := by decide +kernel
theorem dX12_nodes_125 : decode cX12_nodes 125 = .ok (.istore_n 3, 1) := by decide +kernel
theorem dX12_nodes_126 : decode cX12_nodes 126 = .ok (.iinc 4 1, 3) := by decide +kernel
theorem dX12_nodes_129 : decode cX12_nodes 129 = .ok (.goto (-82), 3) := by decide +kernel
theorem dX12_nodes_132 : decode cX12_nodes 132 = .ok (.aload_n 0, 1) := by decide +kernel
theorem dX12_nodes_133 : decode cX12_nodes 133 = .ok (.iload_n 3, 1) := by decide +kernel
theorem dX12_nodes_134 : decode cX12_nodes 134 = .ok (.invokevirtual 288, 3) := by decide +kernel
theorem dX12_nodes_137 : decode cX12_nodes 137 = .ok (.ireturn, 1) := by decide +kernel
theorem dX12_edgeFrom_0 : decode cX12_edgeFrom 0 = .ok (.iload_n 2, 1) := by decide +kernel
theorem dX12_edgeFrom_1 : decode cX12_edgeFrom 1 = .ok (.istore_n 3, 1) := by decide +kernel
theorem dX12_edgeFrom_2 : decode cX12_edgeFrom 2 = .ok (.sipush 6144, 3) := by decide +kernel
theorem dX12_edgeFrom_5 : decode cX12_edgeFrom 5 = .ok (.istore 4, 2) := by decide +kernel
theorem dX12_edgeFrom_7 : decode cX12_edgeFrom 7 = .ok (.iload_n 3, 1) := by decide +kernel
theorem dX12_edgeFrom_8 : decode cX12_edgeFrom 8 = .ok (.iload 4, 2) := by decide +kernel
theorem dX12_edgeFrom_10 : decode cX12_edgeFrom 10 = .ok (.if_icmp .ge 91, 3) := by decide +kernel
theorem dX12_edgeFrom_13 : decode cX12_edgeFrom 13 = .ok (.iload_n 3, 1) := by decide +kernel
theorem dX12_edgeFrom_14 : decode cX12_edgeFrom 14 = .ok (.sipush 2048, 3) := by decide +kernel
theorem dX12_edgeFrom_17 : decode cX12_edgeFrom 17 = .ok (.idiv, 1) := by decide +kernel
theorem dX12_edgeFrom_18 : decode cX12_edgeFrom 18 = .ok (.istore 5, 2) := by decide +kernel
theorem dX12_edgeFrom_20 : decode cX12_edgeFrom 20 = .ok (.iload_n 3, 1) := by decide +kernel
theorem dX12_edgeFrom_21 : decode cX12_edgeFrom 21 = .ok (.sipush 2048, 3) := by decide +kernel
theorem dX12_edgeFrom_24 : decode cX12_edgeFrom 24 = .ok (.irem, 1) := by decide +kernel
theorem dX12_edgeFrom_25 : decode cX12_edgeFrom 25 = .ok (.sipush 512, 3) := by decide +kernel
theorem dX12_edgeFrom_28 : decode cX12_edgeFrom 28 = .ok (.idiv, 1) := by decide +kernel
theorem dX12_edgeFrom_29 : decode cX12_edgeFrom 29 = .ok (.istore 6, 2) := by decide +kernel
theorem dX12_edgeFrom_31 : decode cX12_edgeFrom 31 = .ok (.iload_n 3, 1) := by decide +kernel
theorem dX12_edgeFrom_32 : decode cX12_edgeFrom 32 = .ok (.sipush 512, 3) := by decide +kernel
theorem dX12_edgeFrom_35 : decode cX12_edgeFrom 35 = .ok (.irem, 1) := by decide +kernel
theorem dX12_edgeFrom_36 : decode cX12_edgeFrom 36 = .ok (.istore 7, 2) := by decide +kernel
theorem dX12_edgeFrom_38 : decode cX12_edgeFrom 38 = .ok (.iload 5, 2) := by decide +kernel
theorem dX12_edgeFrom_40 : decode cX12_edgeFrom 40 = .ok (.aload_n 0, 1) := by decide +kernel
theorem dX12_edgeFrom_41 : decode cX12_edgeFrom 41 = .ok (.getfield 283, 3) := by decide +kernel
theorem dX12_edgeFrom_44 : decode cX12_edgeFrom 44 = .ok (.if_icmp .lt 5, 3) := by decide +kernel
theorem dX12_edgeFrom_47 : decode cX12_edgeFrom 47 = .ok (.iconst (-1), 1) := by decide +kernel
theorem dX12_edgeFrom_48 : decode cX12_edgeFrom 48 = .ok (.ireturn, 1) := by decide +kernel
theorem dX12_edgeFrom_49 : decode cX12_edgeFrom 49 = .ok (.aload_n 0, 1) := by decide +kernel
theorem dX12_edgeFrom_50 : decode cX12_edgeFrom 50 = .ok (.iload_n 1, 1) := by decide +kernel
theorem dX12_edgeFrom_51 : decode cX12_edgeFrom 51 = .ok (.iload 5, 2) := by decide +kernel
theorem dX12_edgeFrom_53 : decode cX12_edgeFrom 53 = .ok (.iload 6, 2) := by decide +kernel
theorem dX12_edgeFrom_55 : decode cX12_edgeFrom 55 = .ok (.iload 7, 2) := by decide +kernel
theorem dX12_edgeFrom_57 : decode cX12_edgeFrom 57 = .ok (.invokevirtual 390, 3) := by decide +kernel
theorem dX12_edgeFrom_60 : decode cX12_edgeFrom 60 = .ok (.istore 8, 2) := by decide +kernel
theorem dX12_edgeFrom_62 : decode cX12_edgeFrom 62 = .ok (.iload 8, 2) := by decide +kernel
theorem dX12_edgeFrom_64 : decode cX12_edgeFrom 64 = .ok (.iconst 1, 1) := by decide +kernel
theorem dX12_edgeFrom_65 : decode cX12_edgeFrom 65 = .ok (.if_icmp .ne 5, 3) := by decide +kernel
theorem dX12_edgeFrom_68 : decode cX12_edgeFrom 68 = .ok (.iload_n 3, 1) := by decide +kernel
theorem dX12_edgeFrom_69 : decode cX12_edgeFrom 69 = .ok (.ireturn, 1) := by decide +kernel
theorem dX12_edgeFrom_70 : decode cX12_edgeFrom 70 = .ok (.iload 8, 2) := by decide +kernel
theorem dX12_edgeFrom_72 : decode cX12_edgeFrom 72 = .ok (.ifCond .ne 14, 3) := by decide +kernel
theorem dX12_edgeFrom_75 : decode cX12_edgeFrom 75 = .ok (.iload_n 3, 1) := by decide +kernel
theorem dX12_edgeFrom_76 : decode cX12_edgeFrom 76 = .ok (.iload 7, 2) := by decide +kernel
theorem dX12_edgeFrom_78 : decode cX12_edgeFrom 78 = .ok (.isub, 1) := by decide +kernel
theorem dX12_edgeFrom_79 : decode cX12_edgeFrom 79 = .ok (.sipush 512, 3) := by decide +kernel
theorem dX12_edgeFrom_82 : decode cX12_edgeFrom 82 = .ok (.iadd, 1) := by decide +kernel
theorem dX12_edgeFrom_83 : decode cX12_edgeFrom 83 = .ok (.goto 14, 3) := by decide +kernel
theorem dX12_edgeFrom_86 : decode cX12_edgeFrom 86 = .ok (.iload_n 3, 1) := by decide +kernel
theorem dX12_edgeFrom_87 : decode cX12_edgeFrom 87 = .ok (.iload_n 3, 1) := by decide +kernel
theorem dX12_edgeFrom_88 : decode cX12_edgeFrom 88 = .ok (.sipush 2048, 3) := by decide +kernel
theorem dX12_edgeFrom_91 : decode cX12_edgeFrom 91 = .ok (.irem, 1) := by decide +kernel
theorem dX12_edgeFrom_92 : decode cX12_edgeFrom 92 = .ok (.isub, 1) := by decide +kernel
theorem dX12_edgeFrom_93 : decode cX12_edgeFrom 93 = .ok (.sipush 2048, 3) := by decide +kernel
theorem dX12_edgeFrom_96 : decode cX12_edgeFrom 96 = .ok (.iadd, 1) := by decide +kernel
theorem dX12_edgeFrom_97 : decode cX12_edgeFrom 97 = .ok (.istore_n 3, 1) := by decide +kernel
theorem dX12_edgeFrom_98 : decode cX12_edgeFrom 98 = .ok (.goto (-91), 3) := by decide +kernel
theorem dX12_edgeFrom_101 : decode cX12_edgeFrom 101 = .ok (.iconst (-1), 1) := by decide +kernel
theorem dX12_edgeFrom_102 : decode cX12_edgeFrom 102 = .ok (.ireturn, 1) := by decide +kernel
theorem dX12_hasEdge_0 : decode cX12_hasEdge 0 = .ok (.aload_n 0, 1) := by decide +kernel
theorem dX12_hasEdge_1 : decode cX12_hasEdge 1 = .ok (.getfield 393, 3) := by decide +kernel
theorem dX12_hasEdge_4 : decode cX12_hasEdge 4 = .ok (.tableswitch 179 0 3 #[32, 56, 77, 122], 32) := by decide +kernel
theorem dX12_hasEdge_36 : decode cX12_hasEdge 36 = .ok (.iload 4, 2) := by decide +kernel
theorem dX12_hasEdge_38 : decode cX12_hasEdge 38 = .ok (.ifCond .ne 20, 3) := by decide +kernel
theorem dX12_hasEdge_41 : decode cX12_hasEdge 41 = .ok (.aload_n 0, 1) := by decide +kernel
theorem dX12_hasEdge_42 : decode cX12_hasEdge 42 = .ok (.aload_n 0, 1) := by decide +kernel
theorem dX12_hasEdge_43 : decode cX12_hasEdge 43 = .ok (.getfield 396, 3) := by decide +kernel
theorem dX12_hasEdge_46 : decode cX12_hasEdge 46 = .ok (.iload_n 2, 1) := by decide +kernel
theorem dX12_hasEdge_47 : decode cX12_hasEdge 47 = .ok (.iload_n 1, 1) := by decide +kernel
theorem dX12_hasEdge_48 : decode cX12_hasEdge 48 = .ok (.invokevirtual 309, 3) := by decide +kernel
theorem dX12_hasEdge_51 : decode cX12_hasEdge 51 = .ok (.iload_n 3, 1) := by decide +kernel
theorem dX12_hasEdge_52 : decode cX12_hasEdge 52 = .ok (.ishr, 1) := by decide +kernel
theorem dX12_hasEdge_53 : decode cX12_hasEdge 53 = .ok (.iconst 1, 1) := by decide +kernel
theorem dX12_hasEdge_54 : decode cX12_hasEdge 54 = .ok (.iand, 1) := by decide +kernel
theorem dX12_hasEdge_55 : decode cX12_hasEdge 55 = .ok (.goto 4, 3) := by decide +kernel
theorem dX12_hasEdge_58 : decode cX12_hasEdge 58 = .ok (.iconst 0, 1) := by decide +kernel
theorem dX12_hasEdge_59 : decode cX12_hasEdge 59 = .ok (.ireturn, 1) := by decide +kernel
theorem dX12_hasEdge_60 : decode cX12_hasEdge 60 = .ok (.iload_n 3, 1) := by decide +kernel
theorem dX12_hasEdge_61 : decode cX12_hasEdge 61 = .ok (.ifCond .ne 18, 3) := by decide +kernel
theorem dX12_hasEdge_64 : decode cX12_hasEdge 64 = .ok (.iload 4, 2) := by decide +kernel
theorem dX12_hasEdge_66 : decode cX12_hasEdge 66 = .ok (.aload_n 0, 1) := by decide +kernel
theorem dX12_hasEdge_67 : decode cX12_hasEdge 67 = .ok (.iload_n 1, 1) := by decide +kernel
theorem dX12_hasEdge_68 : decode cX12_hasEdge 68 = .ok (.iload_n 2, 1) := by decide +kernel
theorem dX12_hasEdge_69 : decode cX12_hasEdge 69 = .ok (.invokevirtual 387, 3) := by decide +kernel
theorem dX12_hasEdge_72 : decode cX12_hasEdge 72 = .ok (.if_icmp .ge 7, 3) := by decide +kernel
theorem dX12_hasEdge_75 : decode cX12_hasEdge 75 = .ok (.iconst 1, 1) := by decide +kernel
theorem dX12_hasEdge_76 : decode cX12_hasEdge 76 = .ok (.goto 4, 3) := by decide +kernel
theorem dX12_hasEdge_79 : decode cX12_hasEdge 79 = .ok (.iconst (-1), 1) := by decide +kernel
theorem dX12_hasEdge_80 : decode cX12_hasEdge 80 = .ok (.ireturn, 1) := by decide +kernel
theorem dX12_hasEdge_81 : decode cX12_hasEdge 81 = .ok (.aload_n 0, 1) := by decide +kernel
theorem dX12_hasEdge_82 : decode cX12_hasEdge 82 = .ok (.aload_n 0, 1) := by decide +kernel
theorem dX12_hasEdge_83 : decode cX12_hasEdge 83 = .ok (.getfield 396, 3) := by decide +kernel
theorem dX12_hasEdge_86 : decode cX12_hasEdge 86 = .ok (.iload_n 2, 1) := by decide +kernel
theorem dX12_hasEdge_87 : decode cX12_hasEdge 87 = .ok (.aload_n 0, 1) := by decide +kernel
theorem dX12_hasEdge_88 : decode cX12_hasEdge 88 = .ok (.getfield 73, 3) := by decide +kernel
theorem dX12_hasEdge_91 : decode cX12_hasEdge 91 = .ok (.iload_n 1, 1) := by decide +kernel
theorem dX12_hasEdge_92 : decode cX12_hasEdge 92 = .ok (.iaload, 1) := by decide +kernel
theorem dX12_hasEdge_93 : decode cX12_hasEdge 93 = .ok (.invokevirtual 309, 3) := by decide +kernel
theorem dX12_hasEdge_96 : decode cX12_hasEdge 96 = .ok (.iload_n 3, 1) := by decide +kernel
theorem dX12_hasEdge_97 : decode cX12_hasEdge 97 = .ok (.ishr, 1) := by decide +kernel
theorem dX12_hasEdge_98 : decode cX12_hasEdge 98 = .ok (.iconst 1, 1) := by decide +kernel
theorem dX12_hasEdge_99 : decode cX12_hasEdge 99 = .ok (.iand, 1) := by decide +kernel
theorem dX12_hasEdge_100 : decode cX12_hasEdge 100 = .ok (.iconst 1, 1) := by decide +kernel
theorem dX12_hasEdge_101 : decode cX12_hasEdge 101 = .ok (.if_icmp .ne 23, 3) := by decide +kernel
theorem dX12_hasEdge_104 : decode cX12_hasEdge 104 = .ok (.iload 4, 2) := by decide +kernel
theorem dX12_hasEdge_106 : decode cX12_hasEdge 106 = .ok (.aload_n 0, 1) := by decide +kernel
theorem dX12_hasEdge_107 : decode cX12_hasEdge 107 = .ok (.aload_n 0, 1) := by decide +kernel
theorem dX12_hasEdge_108 : decode cX12_hasEdge 108 = .ok (.getfield 76, 3) := by decide +kernel
theorem dX12_hasEdge_111 : decode cX12_hasEdge 111 = .ok (.iload_n 1, 1) := by decide +kernel
theorem dX12_hasEdge_112 : decode cX12_hasEdge 112 = .ok (.iaload, 1) := by decide +kernel
theorem dX12_hasEdge_113 : decode cX12_hasEdge 113 = .ok (.iload_n 2, 1) := by decide +kernel
theorem dX12_hasEdge_114 : decode cX12_hasEdge 114 = .ok (.invokevirtual 387, 3) := by decide +kernel
theorem dX12_hasEdge_117 : decode cX12_hasEdge 117 = .ok (.if_icmp .ge 7, 3) := by decide +kernel
theorem dX12_hasEdge_120 : decode cX12_hasEdge 120 = .ok (.iconst 1, 1) := by decide +kernel
theorem dX12_hasEdge_121 : decode cX12_hasEdge 121 = .ok (.goto 4, 3) := by decide +kernel
theorem dX12_hasEdge_124 : decode cX12_hasEdge 124 = .ok (.iconst 0, 1) := by decide +kernel
theorem dX12_hasEdge_125 : decode cX12_hasEdge 125 = .ok (.ireturn, 1) := by decide +kernel
theorem dX12_hasEdge_126 : decode cX12_hasEdge 126 = .ok (.iload_n 2, 1) := by decide +kernel
theorem dX12_hasEdge_127 : decode cX12_hasEdge 127 = .ok (.aload_n 0, 1) := by decide +kernel
theorem dX12_hasEdge_128 : decode cX12_hasEdge 128 = .ok (.getfield 70, 3) := by decide +kernel
theorem dX12_hasEdge_131 : decode cX12_hasEdge 131 = .ok (.iload_n 1, 1) := by decide +kernel
theorem dX12_hasEdge_132 : decode cX12_hasEdge 132 = .ok (.bipush 10, 2) := by decide +kernel
theorem dX12_hasEdge_134 : decode cX12_hasEdge 134 = .ok (.irem, 1) := by decide +kernel
theorem dX12_hasEdge_135 : decode cX12_hasEdge 135 = .ok (.iaload, 1) := by decide +kernel
theorem dX12_hasEdge_136 : decode cX12_hasEdge 136 = .ok (.if_icmp .ne 28, 3) := by decide +kernel
theorem dX12_hasEdge_139 : decode cX12_hasEdge 139 = .ok (.iload 4, 2) := by decide +kernel
theorem dX12_hasEdge_141 : decode cX12_hasEdge 141 = .ok (.ifCond .ne 23, 3) := by decide +kernel
theorem dX12_hasEdge_144 : decode cX12_hasEdge 144 = .ok (.aload_n 0, 1) := by decide +kernel
theorem dX12_hasEdge_145 : decode cX12_hasEdge 145 = .ok (.aload_n 0, 1) := by decide +kernel
theorem dX12_hasEdge_146 : decode cX12_hasEdge 146 = .ok (.getfield 396, 3) := by decide +kernel
theorem dX12_hasEdge_149 : decode cX12_hasEdge 149 = .ok (.iload_n 2, 1) := by decide +kernel
theorem dX12_hasEdge_150 : decode cX12_hasEdge 150 = .ok (.iload_n 1, 1) := by decide +kernel
theorem dX12_hasEdge_151 : decode cX12_hasEdge 151 = .ok (.bipush 10, 2) := by decide +kernel
theorem dX12_hasEdge_153 : decode cX12_hasEdge 153 = .ok (.idiv, 1) := by decide +kernel
theorem dX12_hasEdge_154 : decode cX12_hasEdge 154 = .ok (.invokevirtual 309, 3) := by decide +kernel
theorem dX12_hasEdge_157 : decode cX12_hasEdge 157 = .ok (.iload_n 3, 1) := by decide +kernel
theorem dX12_hasEdge_158 : decode cX12_hasEdge 158 = .ok (.ishr, 1) := by decide +kernel
theorem dX12_hasEdge_159 : decode cX12_hasEdge 159 = .ok (.iconst 1, 1) := by decide +kernel
theorem dX12_hasEdge_160 : decode cX12_hasEdge 160 = .ok (.iand, 1) := by decide +kernel
theorem dX12_hasEdge_161 : decode cX12_hasEdge 161 = .ok (.goto 21, 3) := by decide +kernel
theorem dX12_hasEdge_164 : decode cX12_hasEdge 164 = .ok (.iload_n 2, 1) := by decide +kernel
theorem dX12_hasEdge_165 : decode cX12_hasEdge 165 = .ok (.aload_n 0, 1) := by decide +kernel
theorem dX12_hasEdge_166 : decode cX12_hasEdge 166 = .ok (.getfield 70, 3) := by decide +kernel
theorem dX12_hasEdge_169 : decode cX12_hasEdge 169 = .ok (.iload_n 1, 1) := by decide +kernel
theorem dX12_hasEdge_170 : decode cX12_hasEdge 170 = .ok (.bipush 10, 2) := by decide +kernel
theorem dX12_hasEdge_172 : decode cX12_hasEdge 172 = .ok (.irem, 1) := by decide +kernel
theorem dX12_hasEdge_173 : decode cX12_hasEdge 173 = .ok (.iaload, 1) := by decide +kernel
theorem dX12_hasEdge_174 : decode cX12_hasEdge 174 = .ok (.if_icmp .ne 7, 3) := by decide +kernel
theorem dX12_hasEdge_177 : decode cX12_hasEdge 177 = .ok (.iconst 0, 1) := by decide +kernel
theorem dX12_hasEdge_178 : decode cX12_hasEdge 178 = .ok (.goto 4, 3) := by decide +kernel
theorem dX12_hasEdge_181 : decode cX12_hasEdge 181 = .ok (.iconst (-1), 1) := by decide +kernel
theorem dX12_hasEdge_182 : decode cX12_hasEdge 182 = .ok (.ireturn, 1) := by decide +kernel
theorem dX12_hasEdge_183 : decode cX12_hasEdge 183 = .ok (.iload_n 2, 1) := by decide +kernel
theorem dX12_hasEdge_184 : decode cX12_hasEdge 184 = .ok (.aload_n 0, 1) := by decide +kernel
theorem dX12_hasEdge_185 : decode cX12_hasEdge 185 = .ok (.getfield 70, 3) := by decide +kernel
theorem dX12_hasEdge_188 : decode cX12_hasEdge 188 = .ok (.iload_n 1, 1) := by decide +kernel
theorem dX12_hasEdge_189 : decode cX12_hasEdge 189 = .ok (.bipush 10, 2) := by decide +kernel
theorem dX12_hasEdge_191 : decode cX12_hasEdge 191 = .ok (.irem, 1) := by decide +kernel
theorem dX12_hasEdge_192 : decode cX12_hasEdge 192 = .ok (.iaload, 1) := by decide +kernel
theorem dX12_hasEdge_193 : decode cX12_hasEdge 193 = .ok (.if_icmp .ne 25, 3) := by decide +kernel
theorem dX12_hasEdge_196 : decode cX12_hasEdge 196 = .ok (.iload_n 3, 1) := by decide +kernel
theorem dX12_hasEdge_197 : decode cX12_hasEdge 197 = .ok (.ifCond .ne 21, 3) := by decide +kernel
theorem dX12_hasEdge_200 : decode cX12_hasEdge 200 = .ok (.iload 4, 2) := by decide +kernel
theorem dX12_hasEdge_202 : decode cX12_hasEdge 202 = .ok (.aload_n 0, 1) := by decide +kernel
theorem dX12_hasEdge_203 : decode cX12_hasEdge 203 = .ok (.iload_n 1, 1) := by decide +kernel
theorem dX12_hasEdge_204 : decode cX12_hasEdge 204 = .ok (.bipush 10, 2) := by decide +kernel
theorem dX12_hasEdge_206 : decode cX12_hasEdge 206 = .ok (.idiv, 1) := by decide +kernel
theorem dX12_hasEdge_207 : decode cX12_hasEdge 207 = .ok (.iload_n 2, 1) := by decide +kernel
theorem dX12_hasEdge_208 : decode cX12_hasEdge 208 = .ok (.invokevirtual 387, 3) := by decide +kernel
theorem dX12_hasEdge_211 : decode cX12_hasEdge 211 = .ok (.if_icmp .ge 7, 3) := by decide +kernel
theorem dX12_hasEdge_214 : decode cX12_hasEdge 214 = .ok (.iconst 1, 1) := by decide +kernel
theorem dX12_hasEdge_215 : decode cX12_hasEdge 215 = .ok (.goto 4, 3) := by decide +kernel
theorem dX12_hasEdge_218 : decode cX12_hasEdge 218 = .ok (.iconst (-1), 1) := by decide +kernel
theorem dX12_hasEdge_219 : decode cX12_hasEdge 219 = .ok (.ireturn, 1) := by decide +kernel
theorem dX12_edgeAt_0 : decode cX12_edgeAt 0 = .ok (.aload_n 0, 1) := by decide +kernel
theorem dX12_edgeAt_1 : decode cX12_edgeAt 1 = .ok (.getfield 58, 3) := by decide +kernel
theorem dX12_edgeAt_4 : decode cX12_edgeAt 4 = .ok (.aload_n 0, 1) := by decide +kernel
theorem dX12_edgeAt_5 : decode cX12_edgeAt 5 = .ok (.getfield 54, 3) := by decide +kernel
theorem dX12_edgeAt_8 : decode cX12_edgeAt 8 = .ok (.iconst 3, 1) := by decide +kernel
theorem dX12_edgeAt_9 : decode cX12_edgeAt 9 = .ok (.iload_n 1, 1) := by decide +kernel
theorem dX12_edgeAt_10 : decode cX12_edgeAt 10 = .ok (.imul, 1) := by decide +kernel
theorem dX12_edgeAt_11 : decode cX12_edgeAt 11 = .ok (.iload_n 2, 1) := by decide +kernel
theorem dX12_edgeAt_12 : decode cX12_edgeAt 12 = .ok (.iadd, 1) := by decide +kernel
theorem dX12_edgeAt_13 : decode cX12_edgeAt 13 = .ok (.iaload, 1) := by decide +kernel
theorem dX12_edgeAt_14 : decode cX12_edgeAt 14 = .ok (.iload_n 3, 1) := by decide +kernel
theorem dX12_edgeAt_15 : decode cX12_edgeAt 15 = .ok (.iadd, 1) := by decide +kernel
theorem dX12_edgeAt_16 : decode cX12_edgeAt 16 = .ok (.iaload, 1) := by decide +kernel
theorem dX12_edgeAt_17 : decode cX12_edgeAt 17 = .ok (.ireturn, 1) := by decide +kernel
theorem dX12_goesBy_0 : decode cX12_goesBy 0 = .ok (.iload_n 2, 1) := by decide +kernel
theorem dX12_goesBy_1 : decode cX12_goesBy 1 = .ok (.sipush 2048, 3) := by decide +kernel
theorem dX12_goesBy_4 : decode cX12_goesBy 4 = .ok (.idiv, 1) := by decide +kernel
theorem dX12_goesBy_5 : decode cX12_goesBy 5 = .ok (.istore_n 3, 1) := by decide +kernel
theorem dX12_goesBy_6 : decode cX12_goesBy 6 = .ok (.iload_n 2, 1) := by decide +kernel
theorem dX12_goesBy_7 : decode cX12_goesBy 7 = .ok (.sipush 2048, 3) := by decide +kernel
theorem dX12_goesBy_10 : decode cX12_goesBy 10 = .ok (.irem, 1) := by decide +kernel
theorem dX12_goesBy_11 : decode cX12_goesBy 11 = .ok (.sipush 512, 3) := by decide +kernel
theorem dX12_goesBy_14 : decode cX12_goesBy 14 = .ok (.idiv, 1) := by decide +kernel
theorem dX12_goesBy_15 : decode cX12_goesBy 15 = .ok (.istore 4, 2) := by decide +kernel
theorem dX12_goesBy_17 : decode cX12_goesBy 17 = .ok (.iload_n 2, 1) := by decide +kernel
theorem dX12_goesBy_18 : decode cX12_goesBy 18 = .ok (.sipush 512, 3) := by decide +kernel
theorem dX12_goesBy_21 : decode cX12_goesBy 21 = .ok (.irem, 1) := by decide +kernel
theorem dX12_goesBy_22 : decode cX12_goesBy 22 = .ok (.istore 5, 2) := by decide +kernel
theorem dX12_goesBy_24 : decode cX12_goesBy 24 = .ok (.aload_n 0, 1) := by decide +kernel
theorem dX12_goesBy_25 : decode cX12_goesBy 25 = .ok (.getfield 393, 3) := by decide +kernel
theorem dX12_goesBy_28 : decode cX12_goesBy 28 = .ok (.tableswitch 134 0 3 #[32, 35, 44, 116], 32) := by decide +kernel
theorem dX12_goesBy_60 : decode cX12_goesBy 60 = .ok (.iload 4, 2) := by decide +kernel
theorem dX12_goesBy_62 : decode cX12_goesBy 62 = .ok (.ireturn, 1) := by decide +kernel
theorem dX12_goesBy_63 : decode cX12_goesBy 63 = .ok (.aload_n 0, 1) := by decide +kernel
theorem dX12_goesBy_64 : decode cX12_goesBy 64 = .ok (.iload_n 1, 1) := by decide +kernel
theorem dX12_goesBy_65 : decode cX12_goesBy 65 = .ok (.iload_n 3, 1) := by decide +kernel
theorem dX12_goesBy_66 : decode cX12_goesBy 66 = .ok (.iload 5, 2) := by decide +kernel
theorem dX12_goesBy_68 : decode cX12_goesBy 68 = .ok (.invokevirtual 399, 3) := by decide +kernel
theorem dX12_goesBy_71 : decode cX12_goesBy 71 = .ok (.ireturn, 1) := by decide +kernel
theorem dX12_goesBy_72 : decode cX12_goesBy 72 = .ok (.aload_n 0, 1) := by decide +kernel
theorem dX12_goesBy_73 : decode cX12_goesBy 73 = .ok (.getfield 79, 3) := by decide +kernel
theorem dX12_goesBy_76 : decode cX12_goesBy 76 = .ok (.iload_n 1, 1) := by decide +kernel
theorem dX12_goesBy_77 : decode cX12_goesBy 77 = .ok (.iaload, 1) := by decide +kernel
theorem dX12_goesBy_78 : decode cX12_goesBy 78 = .ok (.ifCond .ne 24, 3) := by decide +kernel
theorem dX12_goesBy_81 : decode cX12_goesBy 81 = .ok (.aload_n 0, 1) := by decide +kernel
theorem dX12_goesBy_82 : decode cX12_goesBy 82 = .ok (.getfield 23, 3) := by decide +kernel
theorem dX12_goesBy_85 : decode cX12_goesBy 85 = .ok (.aload_n 0, 1) := by decide +kernel
theorem dX12_goesBy_86 : decode cX12_goesBy 86 = .ok (.getfield 396, 3) := by decide +kernel
theorem dX12_goesBy_89 : decode cX12_goesBy 89 = .ok (.iaload, 1) := by decide +kernel
theorem dX12_goesBy_90 : decode cX12_goesBy 90 = .ok (.aload_n 0, 1) := by decide +kernel
theorem dX12_goesBy_91 : decode cX12_goesBy 91 = .ok (.getfield 73, 3) := by decide +kernel
theorem dX12_goesBy_94 : decode cX12_goesBy 94 = .ok (.iload_n 1, 1) := by decide +kernel
theorem dX12_goesBy_95 : decode cX12_goesBy 95 = .ok (.iaload, 1) := by decide +kernel
theorem dX12_goesBy_96 : decode cX12_goesBy 96 = .ok (.ishr, 1) := by decide +kernel
theorem dX12_goesBy_97 : decode cX12_goesBy 97 = .ok (.iconst 1, 1) := by decide +kernel
theorem dX12_goesBy_98 : decode cX12_goesBy 98 = .ok (.iand, 1) := by decide +kernel
theorem dX12_goesBy_99 : decode cX12_goesBy 99 = .ok (.goto 21, 3) := by decide +kernel
theorem dX12_goesBy_102 : decode cX12_goesBy 102 = .ok (.aload_n 0, 1) := by decide +kernel
theorem dX12_goesBy_103 : decode cX12_goesBy 103 = .ok (.aload_n 0, 1) := by decide +kernel
theorem dX12_goesBy_104 : decode cX12_goesBy 104 = .ok (.getfield 76, 3) := by decide +kernel
theorem dX12_goesBy_107 : decode cX12_goesBy 107 = .ok (.iload_n 1, 1) := by decide +kernel
theorem dX12_goesBy_108 : decode cX12_goesBy 108 = .ok (.iaload, 1) := by decide +kernel
theorem dX12_goesBy_109 : decode cX12_goesBy 109 = .ok (.invokevirtual 381, 3) := by decide +kernel
theorem dX12_goesBy_112 : decode cX12_goesBy 112 = .ok (.ifCond .eq 7, 3) := by decide +kernel
theorem dX12_goesBy_115 : decode cX12_goesBy 115 = .ok (.iconst 0, 1) := by decide +kernel
theorem dX12_goesBy_116 : decode cX12_goesBy 116 = .ok (.goto 4, 3) := by decide +kernel
theorem dX12_goesBy_119 : decode cX12_goesBy 119 = .ok (.iconst 1, 1) := by decide +kernel
theorem dX12_goesBy_120 : decode cX12_goesBy 120 = .ok (.istore 6, 2) := by decide +kernel
theorem dX12_goesBy_122 : decode cX12_goesBy 122 = .ok (.aload_n 0, 1) := by decide +kernel
theorem dX12_goesBy_123 : decode cX12_goesBy 123 = .ok (.iload 4, 2) := by decide +kernel
theorem dX12_goesBy_125 : decode cX12_goesBy 125 = .ok (.aload_n 0, 1) := by decide +kernel
theorem dX12_goesBy_126 : decode cX12_goesBy 126 = .ok (.aload_n 0, 1) := by decide +kernel
theorem dX12_goesBy_127 : decode cX12_goesBy 127 = .ok (.getfield 76, 3) := by decide +kernel
theorem dX12_goesBy_130 : decode cX12_goesBy 130 = .ok (.iload_n 1, 1) := by decide +kernel
theorem dX12_goesBy_131 : decode cX12_goesBy 131 = .ok (.iaload, 1) := by decide +kernel
theorem dX12_goesBy_132 : decode cX12_goesBy 132 = .ok (.iload_n 3, 1) := by decide +kernel
theorem dX12_goesBy_133 : decode cX12_goesBy 133 = .ok (.iload 5, 2) := by decide +kernel
theorem dX12_goesBy_135 : decode cX12_goesBy 135 = .ok (.invokevirtual 399, 3) := by decide +kernel
theorem dX12_goesBy_138 : decode cX12_goesBy 138 = .ok (.iload 6, 2) := by decide +kernel
theorem dX12_goesBy_140 : decode cX12_goesBy 140 = .ok (.invokevirtual 402, 3) := by decide +kernel
theorem dX12_goesBy_143 : decode cX12_goesBy 143 = .ok (.ireturn, 1) := by decide +kernel
theorem dX12_goesBy_144 : decode cX12_goesBy 144 = .ok (.bipush 10, 2) := by decide +kernel
theorem dX12_goesBy_146 : decode cX12_goesBy 146 = .ok (.iload 4, 2) := by decide +kernel
theorem dX12_goesBy_148 : decode cX12_goesBy 148 = .ok (.imul, 1) := by decide +kernel
theorem dX12_goesBy_149 : decode cX12_goesBy 149 = .ok (.iload_n 1, 1) := by decide +kernel
theorem dX12_goesBy_150 : decode cX12_goesBy 150 = .ok (.bipush 10, 2) := by decide +kernel
theorem dX12_goesBy_152 : decode cX12_goesBy 152 = .ok (.irem, 1) := by decide +kernel
theorem dX12_goesBy_153 : decode cX12_goesBy 153 = .ok (.iconst 1, 1) := by decide +kernel
theorem dX12_goesBy_154 : decode cX12_goesBy 154 = .ok (.iadd, 1) := by decide +kernel
theorem dX12_goesBy_155 : decode cX12_goesBy 155 = .ok (.aload_n 0, 1) := by decide +kernel
theorem dX12_goesBy_156 : decode cX12_goesBy 156 = .ok (.getfield 405, 3) := by decide +kernel
theorem dX12_goesBy_159 : decode cX12_goesBy 159 = .ok (.irem, 1) := by decide +kernel
theorem dX12_goesBy_160 : decode cX12_goesBy 160 = .ok (.iadd, 1) := by decide +kernel
theorem dX12_goesBy_161 : decode cX12_goesBy 161 = .ok (.ireturn, 1) := by decide +kernel
theorem dX12_goesBy_162 : decode cX12_goesBy 162 = .ok (.bipush 10, 2) := by decide +kernel
theorem dX12_goesBy_164 : decode cX12_goesBy 164 = .ok (.aload_n 0, 1) := by decide +kernel
theorem dX12_goesBy_165 : decode cX12_goesBy 165 = .ok (.iload_n 1, 1) := by decide +kernel
theorem dX12_goesBy_166 : decode cX12_goesBy 166 = .ok (.bipush 10, 2) := by decide +kernel
theorem dX12_goesBy_168 : decode cX12_goesBy 168 = .ok (.idiv, 1) := by decide +kernel
theorem dX12_goesBy_169 : decode cX12_goesBy 169 = .ok (.iload_n 3, 1) := by decide +kernel
theorem dX12_goesBy_170 : decode cX12_goesBy 170 = .ok (.iload 5, 2) := by decide +kernel
theorem dX12_goesBy_172 : decode cX12_goesBy 172 = .ok (.invokevirtual 399, 3) := by decide +kernel
theorem dX12_goesBy_175 : decode cX12_goesBy 175 = .ok (.imul, 1) := by decide +kernel
theorem dX12_goesBy_176 : decode cX12_goesBy 176 = .ok (.iload_n 1, 1) := by decide +kernel
theorem dX12_goesBy_177 : decode cX12_goesBy 177 = .ok (.bipush 10, 2) := by decide +kernel
theorem dX12_goesBy_179 : decode cX12_goesBy 179 = .ok (.irem, 1) := by decide +kernel
theorem dX12_goesBy_180 : decode cX12_goesBy 180 = .ok (.iconst 1, 1) := by decide +kernel
theorem dX12_goesBy_181 : decode cX12_goesBy 181 = .ok (.iadd, 1) := by decide +kernel
theorem dX12_goesBy_182 : decode cX12_goesBy 182 = .ok (.aload_n 0, 1) := by decide +kernel
theorem dX12_goesBy_183 : decode cX12_goesBy 183 = .ok (.getfield 405, 3) := by decide +kernel
theorem dX12_goesBy_186 : decode cX12_goesBy 186 = .ok (.irem, 1) := by decide +kernel
theorem dX12_goesBy_187 : decode cX12_goesBy 187 = .ok (.iadd, 1) := by decide +kernel
theorem dX12_goesBy_188 : decode cX12_goesBy 188 = .ok (.ireturn, 1) := by decide +kernel
theorem dX12_three_0 : decode cX12_three 0 = .ok (.iload_n 1, 1) := by decide +kernel
theorem dX12_three_1 : decode cX12_three 1 = .ok (.sipush 300, 3) := by decide +kernel
theorem dX12_three_4 : decode cX12_three 4 = .ok (.imul, 1) := by decide +kernel
theorem dX12_three_5 : decode cX12_three 5 = .ok (.iload_n 2, 1) := by decide +kernel
theorem dX12_three_6 : decode cX12_three 6 = .ok (.iadd, 1) := by decide +kernel
theorem dX12_three_7 : decode cX12_three 7 = .ok (.iconst 2, 1) := by decide +kernel
theorem dX12_three_8 : decode cX12_three 8 = .ok (.imul, 1) := by decide +kernel
theorem dX12_three_9 : decode cX12_three 9 = .ok (.iload_n 3, 1) := by decide +kernel
theorem dX12_three_10 : decode cX12_three 10 = .ok (.iadd, 1) := by decide +kernel
theorem dX12_three_11 : decode cX12_three 11 = .ok (.istore 4, 2) := by decide +kernel
theorem dX12_three_13 : decode cX12_three 13 = .ok (.aload_n 0, 1) := by decide +kernel
theorem dX12_three_14 : decode cX12_three 14 = .ok (.getfield 82, 3) := by decide +kernel
theorem dX12_three_17 : decode cX12_three 17 = .ok (.iload 4, 2) := by decide +kernel
theorem dX12_three_19 : decode cX12_three 19 = .ok (.iaload, 1) := by decide +kernel
theorem dX12_three_20 : decode cX12_three 20 = .ok (.iconst (-1), 1) := by decide +kernel
theorem dX12_three_21 : decode cX12_three 21 = .ok (.if_icmp .eq 11, 3) := by decide +kernel
theorem dX12_three_24 : decode cX12_three 24 = .ok (.aload_n 0, 1) := by decide +kernel
theorem dX12_three_25 : decode cX12_three 25 = .ok (.getfield 82, 3) := by decide +kernel
theorem dX12_three_28 : decode cX12_three 28 = .ok (.iload 4, 2) := by decide +kernel
theorem dX12_three_30 : decode cX12_three 30 = .ok (.iaload, 1) := by decide +kernel
theorem dX12_three_31 : decode cX12_three 31 = .ok (.ireturn, 1) := by decide +kernel
theorem dX12_three_32 : decode cX12_three 32 = .ok (.aload_n 0, 1) := by decide +kernel
theorem dX12_three_33 : decode cX12_three 33 = .ok (.getfield 408, 3) := by decide +kernel
theorem dX12_three_36 : decode cX12_three 36 = .ok (.sipush 1000, 3) := by decide +kernel
theorem dX12_three_39 : decode cX12_three 39 = .ok (.if_icmp .ne 10, 3) := by decide +kernel
theorem dX12_three_42 : decode cX12_three 42 = .ok (.aload_n 0, 1) := by decide +kernel
theorem dX12_three_43 : decode cX12_three 43 = .ok (.iconst 0, 1) := by decide +kernel
theorem dX12_three_44 : decode cX12_three 44 = .ok (.putfield 411, 3) := by decide +kernel
theorem dX12_three_47 : decode cX12_three 47 = .ok (.iconst (-1), 1) := by decide +kernel
theorem dX12_three_48 : decode cX12_three 48 = .ok (.ireturn, 1) := by decide +kernel
theorem dX12_three_49 : decode cX12_three 49 = .ok (.aload_n 0, 1) := by decide +kernel
theorem dX12_three_50 : decode cX12_three 50 = .ok (.getfield 73, 3) := by decide +kernel
theorem dX12_three_53 : decode cX12_three 53 = .ok (.aload_n 0, 1) := by decide +kernel
theorem dX12_three_54 : decode cX12_three 54 = .ok (.getfield 408, 3) := by decide +kernel
theorem dX12_three_57 : decode cX12_three 57 = .ok (.iload_n 1, 1) := by decide +kernel
theorem dX12_three_58 : decode cX12_three 58 = .ok (.iastore, 1) := by decide +kernel
theorem dX12_three_59 : decode cX12_three 59 = .ok (.aload_n 0, 1) := by decide +kernel
theorem dX12_three_60 : decode cX12_three 60 = .ok (.getfield 76, 3) := by decide +kernel
theorem dX12_three_63 : decode cX12_three 63 = .ok (.aload_n 0, 1) := by decide +kernel
theorem dX12_three_64 : decode cX12_three 64 = .ok (.getfield 408, 3) := by decide +kernel
theorem dX12_three_67 : decode cX12_three 67 = .ok (.iload_n 2, 1) := by decide +kernel
theorem dX12_three_68 : decode cX12_three 68 = .ok (.iastore, 1) := by decide +kernel
theorem dX12_three_69 : decode cX12_three 69 = .ok (.aload_n 0, 1) := by decide +kernel
theorem dX12_three_70 : decode cX12_three 70 = .ok (.getfield 79, 3) := by decide +kernel
theorem dX12_three_73 : decode cX12_three 73 = .ok (.aload_n 0, 1) := by decide +kernel
theorem dX12_three_74 : decode cX12_three 74 = .ok (.getfield 408, 3) := by decide +kernel
theorem dX12_three_77 : decode cX12_three 77 = .ok (.iload_n 3, 1) := by decide +kernel
theorem dX12_three_78 : decode cX12_three 78 = .ok (.iastore, 1) := by decide +kernel
theorem dX12_three_79 : decode cX12_three 79 = .ok (.aload_n 0, 1) := by decide +kernel
theorem dX12_three_80 : decode cX12_three 80 = .ok (.getfield 82, 3) := by decide +kernel
theorem dX12_three_83 : decode cX12_three 83 = .ok (.iload 4, 2) := by decide +kernel
theorem dX12_three_85 : decode cX12_three 85 = .ok (.aload_n 0, 1) := by decide +kernel
theorem dX12_three_86 : decode cX12_three 86 = .ok (.getfield 408, 3) := by decide +kernel
theorem dX12_three_89 : decode cX12_three 89 = .ok (.iastore, 1) := by decide +kernel
theorem dX12_three_90 : decode cX12_three 90 = .ok (.aload_n 0, 1) := by decide +kernel
theorem dX12_three_91 : decode cX12_three 91 = .ok (.dup, 1) := by decide +kernel
theorem dX12_three_92 : decode cX12_three 92 = .ok (.getfield 408, 3) := by decide +kernel
theorem dX12_three_95 : decode cX12_three 95 = .ok (.iconst 1, 1) := by decide +kernel
theorem dX12_three_96 : decode cX12_three 96 = .ok (.iadd, 1) := by decide +kernel
theorem dX12_three_97 : decode cX12_three 97 = .ok (.putfield 408, 3) := by decide +kernel
theorem dX12_three_100 : decode cX12_three 100 = .ok (.aload_n 0, 1) := by decide +kernel
theorem dX12_three_101 : decode cX12_three 101 = .ok (.getfield 408, 3) := by decide +kernel
theorem dX12_three_104 : decode cX12_three 104 = .ok (.iconst 1, 1) := by decide +kernel
theorem dX12_three_105 : decode cX12_three 105 = .ok (.isub, 1) := by decide +kernel
theorem dX12_three_106 : decode cX12_three 106 = .ok (.ireturn, 1) := by decide +kernel
theorem dX12_isMarked_0 : decode cX12_isMarked 0 = .ok (.aload_n 0, 1) := by decide +kernel
theorem dX12_isMarked_1 : decode cX12_isMarked 1 = .ok (.getfield 393, 3) := by decide +kernel
theorem dX12_isMarked_4 : decode cX12_isMarked 4 = .ok (.tableswitch 116 0 3 #[32, 55, 61, 90], 32) := by decide +kernel
theorem dX12_isMarked_36 : decode cX12_isMarked 36 = .ok (.aload_n 0, 1) := by decide +kernel
theorem dX12_isMarked_37 : decode cX12_isMarked 37 = .ok (.getfield 23, 3) := by decide +kernel
theorem dX12_isMarked_40 : decode cX12_isMarked 40 = .ok (.aload_n 0, 1) := by decide +kernel
theorem dX12_isMarked_41 : decode cX12_isMarked 41 = .ok (.getfield 396, 3) := by decide +kernel
theorem dX12_isMarked_44 : decode cX12_isMarked 44 = .ok (.iaload, 1) := by decide +kernel
theorem dX12_isMarked_45 : decode cX12_isMarked 45 = .ok (.iload_n 1, 1) := by decide +kernel
theorem dX12_isMarked_46 : decode cX12_isMarked 46 = .ok (.ishr, 1) := by decide +kernel
theorem dX12_isMarked_47 : decode cX12_isMarked 47 = .ok (.iconst 1, 1) := by decide +kernel
theorem dX12_isMarked_48 : decode cX12_isMarked 48 = .ok (.iand, 1) := by decide +kernel
theorem dX12_isMarked_49 : decode cX12_isMarked 49 = .ok (.iconst 1, 1) := by decide +kernel
theorem dX12_isMarked_50 : decode cX12_isMarked 50 = .ok (.if_icmp .ne 7, 3) := by decide +kernel
theorem dX12_isMarked_53 : decode cX12_isMarked 53 = .ok (.iconst 1, 1) := by decide +kernel
theorem dX12_isMarked_54 : decode cX12_isMarked 54 = .ok (.goto 4, 3) := by decide +kernel
theorem dX12_isMarked_57 : decode cX12_isMarked 57 = .ok (.iconst 0, 1) := by decide +kernel
theorem dX12_isMarked_58 : decode cX12_isMarked 58 = .ok (.ireturn, 1) := by decide +kernel
theorem dX12_isMarked_59 : decode cX12_isMarked 59 = .ok (.aload_n 0, 1) := by decide +kernel
theorem dX12_isMarked_60 : decode cX12_isMarked 60 = .ok (.iload_n 1, 1) := by decide +kernel
theorem dX12_isMarked_61 : decode cX12_isMarked 61 = .ok (.invokevirtual 381, 3) := by decide +kernel
theorem dX12_isMarked_64 : decode cX12_isMarked 64 = .ok (.ireturn, 1) := by decide +kernel
theorem dX12_isMarked_65 : decode cX12_isMarked 65 = .ok (.aload_n 0, 1) := by decide +kernel
theorem dX12_isMarked_66 : decode cX12_isMarked 66 = .ok (.getfield 79, 3) := by decide +kernel
theorem dX12_isMarked_69 : decode cX12_isMarked 69 = .ok (.iload_n 1, 1) := by decide +kernel
theorem dX12_isMarked_70 : decode cX12_isMarked 70 = .ok (.iaload, 1) := by decide +kernel
theorem dX12_isMarked_71 : decode cX12_isMarked 71 = .ok (.iconst 1, 1) := by decide +kernel
theorem dX12_isMarked_72 : decode cX12_isMarked 72 = .ok (.if_icmp .ne 20, 3) := by decide +kernel
theorem dX12_isMarked_75 : decode cX12_isMarked 75 = .ok (.aload_n 0, 1) := by decide +kernel
theorem dX12_isMarked_76 : decode cX12_isMarked 76 = .ok (.aload_n 0, 1) := by decide +kernel
theorem dX12_isMarked_77 : decode cX12_isMarked 77 = .ok (.getfield 76, 3) := by decide +kernel
theorem dX12_isMarked_80 : decode cX12_isMarked 80 = .ok (.iload_n 1, 1) := by decide +kernel
theorem dX12_isMarked_81 : decode cX12_isMarked 81 = .ok (.iaload, 1) := by decide +kernel
theorem dX12_isMarked_82 : decode cX12_isMarked 82 = .ok (.invokevirtual 381, 3) := by decide +kernel
theorem dX12_isMarked_85 : decode cX12_isMarked 85 = .ok (.ifCond .eq 7, 3) := by decide +kernel
theorem dX12_isMarked_88 : decode cX12_isMarked 88 = .ok (.iconst 1, 1) := by decide +kernel
theorem dX12_isMarked_89 : decode cX12_isMarked 89 = .ok (.goto 4, 3) := by decide +kernel
theorem dX12_isMarked_92 : decode cX12_isMarked 92 = .ok (.iconst 0, 1) := by decide +kernel
theorem dX12_isMarked_93 : decode cX12_isMarked 93 = .ok (.ireturn, 1) := by decide +kernel
theorem dX12_isMarked_94 : decode cX12_isMarked 94 = .ok (.aload_n 0, 1) := by decide +kernel
theorem dX12_isMarked_95 : decode cX12_isMarked 95 = .ok (.getfield 23, 3) := by decide +kernel
theorem dX12_isMarked_98 : decode cX12_isMarked 98 = .ok (.aload_n 0, 1) := by decide +kernel
theorem dX12_isMarked_99 : decode cX12_isMarked 99 = .ok (.getfield 396, 3) := by decide +kernel
theorem dX12_isMarked_102 : decode cX12_isMarked 102 = .ok (.iaload, 1) := by decide +kernel
theorem dX12_isMarked_103 : decode cX12_isMarked 103 = .ok (.iload_n 1, 1) := by decide +kernel
theorem dX12_isMarked_104 : decode cX12_isMarked 104 = .ok (.bipush 10, 2) := by decide +kernel
theorem dX12_isMarked_106 : decode cX12_isMarked 106 = .ok (.idiv, 1) := by decide +kernel
theorem dX12_isMarked_107 : decode cX12_isMarked 107 = .ok (.ishr, 1) := by decide +kernel
theorem dX12_isMarked_108 : decode cX12_isMarked 108 = .ok (.iconst 1, 1) := by decide +kernel
theorem dX12_isMarked_109 : decode cX12_isMarked 109 = .ok (.iand, 1) := by decide +kernel
theorem dX12_isMarked_110 : decode cX12_isMarked 110 = .ok (.iconst 1, 1) := by decide +kernel
theorem dX12_isMarked_111 : decode cX12_isMarked 111 = .ok (.if_icmp .ne 7, 3) := by decide +kernel
theorem dX12_isMarked_114 : decode cX12_isMarked 114 = .ok (.iconst 1, 1) := by decide +kernel
theorem dX12_isMarked_115 : decode cX12_isMarked 115 = .ok (.goto 4, 3) := by decide +kernel
theorem dX12_isMarked_118 : decode cX12_isMarked 118 = .ok (.iconst 0, 1) := by decide +kernel
theorem dX12_isMarked_119 : decode cX12_isMarked 119 = .ok (.ireturn, 1) := by decide +kernel
theorem dX12_isMarked_120 : decode cX12_isMarked 120 = .ok (.aload_n 0, 1) := by decide +kernel
theorem dX12_isMarked_121 : decode cX12_isMarked 121 = .ok (.iload_n 1, 1) := by decide +kernel
theorem dX12_isMarked_122 : decode cX12_isMarked 122 = .ok (.bipush 10, 2) := by decide +kernel
theorem dX12_isMarked_124 : decode cX12_isMarked 124 = .ok (.idiv, 1) := by decide +kernel
theorem dX12_isMarked_125 : decode cX12_isMarked 125 = .ok (.invokevirtual 381, 3) := by decide +kernel
theorem dX12_isMarked_128 : decode cX12_isMarked 128 = .ok (.ireturn, 1) := by decide +kernel
theorem dX12_meetsNone_0 : decode cX12_meetsNone 0 = .ok (.aload_n 0, 1) := by decide +kernel
theorem dX12_meetsNone_1 : decode cX12_meetsNone 1 = .ok (.iconst 0, 1) := by decide +kernel
theorem dX12_meetsNone_2 : decode cX12_meetsNone 2 = .ok (.putfield 414, 3) := by decide +kernel
theorem dX12_meetsNone_5 : decode cX12_meetsNone 5 = .ok (.iconst 0, 1) := by decide +kernel
theorem dX12_meetsNone_6 : decode cX12_meetsNone 6 = .ok (.istore_n 1, 1) := by decide +kernel
theorem dX12_meetsNone_7 : decode cX12_meetsNone 7 = .ok (.iload_n 1, 1) := by decide +kernel
theorem dX12_meetsNone_8 : decode cX12_meetsNone 8 = .ok (.sipush 3000, 3) := by decide +kernel
theorem dX12_meetsNone_11 : decode cX12_meetsNone 11 = .ok (.if_icmp .ge 16, 3) := by decide +kernel
theorem dX12_meetsNone_14 : decode cX12_meetsNone 14 = .ok (.aload_n 0, 1) := by decide +kernel
theorem dX12_meetsNone_15 : decode cX12_meetsNone 15 = .ok (.getfield 94, 3) := by decide +kernel
theorem dX12_meetsNone_18 : decode cX12_meetsNone 18 = .ok (.iload_n 1, 1) := by decide +kernel
theorem dX12_meetsNone_19 : decode cX12_meetsNone 19 = .ok (.iconst 0, 1) := by decide +kernel
theorem dX12_meetsNone_20 : decode cX12_meetsNone 20 = .ok (.bastore, 1) := by decide +kernel
theorem dX12_meetsNone_21 : decode cX12_meetsNone 21 = .ok (.iinc 1 1, 3) := by decide +kernel
theorem dX12_meetsNone_24 : decode cX12_meetsNone 24 = .ok (.goto (-17), 3) := by decide +kernel
theorem dX12_meetsNone_27 : decode cX12_meetsNone 27 = .ok (.return_, 1) := by decide +kernel
theorem dX12_meets_0 : decode cX12_meets 0 = .ok (.aload_n 0, 1) := by decide +kernel
theorem dX12_meets_1 : decode cX12_meets 1 = .ok (.getfield 94, 3) := by decide +kernel
theorem dX12_meets_4 : decode cX12_meets 4 = .ok (.iload_n 1, 1) := by decide +kernel
theorem dX12_meets_5 : decode cX12_meets 5 = .ok (.baload, 1) := by decide +kernel
theorem dX12_meets_6 : decode cX12_meets 6 = .ok (.ifCond .eq 4, 3) := by decide +kernel
theorem dX12_meets_9 : decode cX12_meets 9 = .ok (.return_, 1) := by decide +kernel
theorem dX12_meets_10 : decode cX12_meets 10 = .ok (.aload_n 0, 1) := by decide +kernel
theorem dX12_meets_11 : decode cX12_meets 11 = .ok (.getfield 94, 3) := by decide +kernel
theorem dX12_meets_14 : decode cX12_meets 14 = .ok (.iload_n 1, 1) := by decide +kernel
theorem dX12_meets_15 : decode cX12_meets 15 = .ok (.iconst 1, 1) := by decide +kernel
theorem dX12_meets_16 : decode cX12_meets 16 = .ok (.bastore, 1) := by decide +kernel
theorem dX12_meets_17 : decode cX12_meets 17 = .ok (.aload_n 0, 1) := by decide +kernel
theorem dX12_meets_18 : decode cX12_meets 18 = .ok (.getfield 88, 3) := by decide +kernel
theorem dX12_meets_21 : decode cX12_meets 21 = .ok (.iload_n 1, 1) := by decide +kernel
theorem dX12_meets_22 : decode cX12_meets 22 = .ok (.iload_n 2, 1) := by decide +kernel
theorem dX12_meets_23 : decode cX12_meets 23 = .ok (.iastore, 1) := by decide +kernel
theorem dX12_meets_24 : decode cX12_meets 24 = .ok (.aload_n 0, 1) := by decide +kernel
theorem dX12_meets_25 : decode cX12_meets 25 = .ok (.getfield 91, 3) := by decide +kernel
theorem dX12_meets_28 : decode cX12_meets 28 = .ok (.iload_n 1, 1) := by decide +kernel
theorem dX12_meets_29 : decode cX12_meets 29 = .ok (.iload_n 3, 1) := by decide +kernel
theorem dX12_meets_30 : decode cX12_meets 30 = .ok (.iastore, 1) := by decide +kernel
theorem dX12_meets_31 : decode cX12_meets 31 = .ok (.aload_n 0, 1) := by decide +kernel
theorem dX12_meets_32 : decode cX12_meets 32 = .ok (.getfield 85, 3) := by decide +kernel
theorem dX12_meets_35 : decode cX12_meets 35 = .ok (.aload_n 0, 1) := by decide +kernel
theorem dX12_meets_36 : decode cX12_meets 36 = .ok (.getfield 414, 3) := by decide +kernel
theorem dX12_meets_39 : decode cX12_meets 39 = .ok (.iload_n 1, 1) := by decide +kernel
theorem dX12_meets_40 : decode cX12_meets 40 = .ok (.iastore, 1) := by decide +kernel
theorem dX12_meets_41 : decode cX12_meets 41 = .ok (.aload_n 0, 1) := by decide +kernel
theorem dX12_meets_42 : decode cX12_meets 42 = .ok (.dup, 1) := by decide +kernel
theorem dX12_meets_43 : decode cX12_meets 43 = .ok (.getfield 414, 3) := by decide +kernel
theorem dX12_meets_46 : decode cX12_meets 46 = .ok (.iconst 1, 1) := by decide +kernel
theorem dX12_meets_47 : decode cX12_meets 47 = .ok (.iadd, 1) := by decide +kernel
theorem dX12_meets_48 : decode cX12_meets 48 = .ok (.putfield 414, 3) := by decide +kernel
theorem dX12_meets_51 : decode cX12_meets 51 = .ok (.return_, 1) := by decide +kernel
theorem dX12_meetsAll_0 : decode cX12_meetsAll 0 = .ok (.iconst 0, 1) := by decide +kernel
theorem dX12_meetsAll_1 : decode cX12_meetsAll 1 = .ok (.istore_n 1, 1) := by decide +kernel
theorem dX12_meetsAll_2 : decode cX12_meetsAll 2 = .ok (.iload_n 1, 1) := by decide +kernel
theorem dX12_meetsAll_3 : decode cX12_meetsAll 3 = .ok (.aload_n 0, 1) := by decide +kernel
theorem dX12_meetsAll_4 : decode cX12_meetsAll 4 = .ok (.getfield 414, 3) := by decide +kernel
theorem dX12_meetsAll_7 : decode cX12_meetsAll 7 = .ok (.if_icmp .ge 67, 3) := by decide +kernel
theorem dX12_meetsAll_10 : decode cX12_meetsAll 10 = .ok (.aload_n 0, 1) := by decide +kernel
theorem dX12_meetsAll_11 : decode cX12_meetsAll 11 = .ok (.getfield 85, 3) := by decide +kernel
theorem dX12_meetsAll_14 : decode cX12_meetsAll 14 = .ok (.iload_n 1, 1) := by decide +kernel
theorem dX12_meetsAll_15 : decode cX12_meetsAll 15 = .ok (.iaload, 1) := by decide +kernel
theorem dX12_meetsAll_16 : decode cX12_meetsAll 16 = .ok (.istore_n 2, 1) := by decide +kernel
theorem dX12_meetsAll_17 : decode cX12_meetsAll 17 = .ok (.aload_n 0, 1) := by decide +kernel
theorem dX12_meetsAll_18 : decode cX12_meetsAll 18 = .ok (.iload_n 2, 1) := by decide +kernel
theorem dX12_meetsAll_19 : decode cX12_meetsAll 19 = .ok (.iconst 0, 1) := by decide +kernel
theorem dX12_meetsAll_20 : decode cX12_meetsAll 20 = .ok (.invokevirtual 417, 3) := by decide +kernel
theorem dX12_meetsAll_23 : decode cX12_meetsAll 23 = .ok (.istore_n 3, 1) := by decide +kernel
theorem dX12_meetsAll_24 : decode cX12_meetsAll 24 = .ok (.iload_n 3, 1) := by decide +kernel
theorem dX12_meetsAll_25 : decode cX12_meetsAll 25 = .ok (.iconst (-1), 1) := by decide +kernel
theorem dX12_meetsAll_26 : decode cX12_meetsAll 26 = .ok (.if_icmp .eq 42, 3) := by decide +kernel
theorem dX12_meetsAll_29 : decode cX12_meetsAll 29 = .ok (.aload_n 0, 1) := by decide +kernel
theorem dX12_meetsAll_30 : decode cX12_meetsAll 30 = .ok (.iload_n 2, 1) := by decide +kernel
theorem dX12_meetsAll_31 : decode cX12_meetsAll 31 = .ok (.iload_n 3, 1) := by decide +kernel
theorem dX12_meetsAll_32 : decode cX12_meetsAll 32 = .ok (.invokevirtual 420, 3) := by decide +kernel
theorem dX12_meetsAll_35 : decode cX12_meetsAll 35 = .ok (.istore 4, 2) := by decide +kernel
theorem dX12_meetsAll_37 : decode cX12_meetsAll 37 = .ok (.iload 4, 2) := by decide +kernel
theorem dX12_meetsAll_39 : decode cX12_meetsAll 39 = .ok (.iconst (-1), 1) := by decide +kernel
theorem dX12_meetsAll_40 : decode cX12_meetsAll 40 = .ok (.if_icmp .ne 4, 3) := by decide +kernel
theorem dX12_meetsAll_43 : decode cX12_meetsAll 43 = .ok (.return_, 1) := by decide +kernel
theorem dX12_meetsAll_44 : decode cX12_meetsAll 44 = .ok (.aload_n 0, 1) := by decide +kernel
theorem dX12_meetsAll_45 : decode cX12_meetsAll 45 = .ok (.iload 4, 2) := by decide +kernel
theorem dX12_meetsAll_47 : decode cX12_meetsAll 47 = .ok (.iload_n 2, 1) := by decide +kernel
theorem dX12_meetsAll_48 : decode cX12_meetsAll 48 = .ok (.iload_n 3, 1) := by decide +kernel
theorem dX12_meetsAll_49 : decode cX12_meetsAll 49 = .ok (.sipush 2048, 3) := by decide +kernel
theorem dX12_meetsAll_52 : decode cX12_meetsAll 52 = .ok (.idiv, 1) := by decide +kernel
theorem dX12_meetsAll_53 : decode cX12_meetsAll 53 = .ok (.invokevirtual 423, 3) := by decide +kernel
theorem dX12_meetsAll_56 : decode cX12_meetsAll 56 = .ok (.aload_n 0, 1) := by decide +kernel
theorem dX12_meetsAll_57 : decode cX12_meetsAll 57 = .ok (.iload_n 2, 1) := by decide +kernel
theorem dX12_meetsAll_58 : decode cX12_meetsAll 58 = .ok (.iload_n 3, 1) := by decide +kernel
theorem dX12_meetsAll_59 : decode cX12_meetsAll 59 = .ok (.iconst 1, 1) := by decide +kernel
theorem dX12_meetsAll_60 : decode cX12_meetsAll 60 = .ok (.iadd, 1) := by decide +kernel
theorem dX12_meetsAll_61 : decode cX12_meetsAll 61 = .ok (.invokevirtual 417, 3) := by decide +kernel
theorem dX12_meetsAll_64 : decode cX12_meetsAll 64 = .ok (.istore_n 3, 1) := by decide +kernel
theorem dX12_meetsAll_65 : decode cX12_meetsAll 65 = .ok (.goto (-41), 3) := by decide +kernel
theorem dX12_meetsAll_68 : decode cX12_meetsAll 68 = .ok (.iinc 1 1, 3) := by decide +kernel
theorem dX12_meetsAll_71 : decode cX12_meetsAll 71 = .ok (.goto (-69), 3) := by decide +kernel
theorem dX12_meetsAll_74 : decode cX12_meetsAll 74 = .ok (.return_, 1) := by decide +kernel
theorem dX12_enters_0 : decode cX12_enters 0 = .ok (.aload_n 0, 1) := by decide +kernel
theorem dX12_enters_1 : decode cX12_enters 1 = .ok (.getfield 98, 3) := by decide +kernel
theorem dX12_enters_4 : decode cX12_enters 4 = .ok (.iload_n 1, 1) := by decide +kernel
theorem dX12_enters_5 : decode cX12_enters 5 = .ok (.aload_n 0, 1) := by decide +kernel
theorem dX12_enters_6 : decode cX12_enters 6 = .ok (.getfield 427, 3) := by decide +kernel
theorem dX12_enters_9 : decode cX12_enters 9 = .ok (.iastore, 1) := by decide +kernel
theorem dX12_enters_10 : decode cX12_enters 10 = .ok (.aload_n 0, 1) := by decide +kernel
theorem dX12_enters_11 : decode cX12_enters 11 = .ok (.getfield 101, 3) := by decide +kernel
theorem dX12_enters_14 : decode cX12_enters 14 = .ok (.iload_n 1, 1) := by decide +kernel
theorem dX12_enters_15 : decode cX12_enters 15 = .ok (.aload_n 0, 1) := by decide +kernel
theorem dX12_enters_16 : decode cX12_enters 16 = .ok (.getfield 427, 3) := by decide +kernel
theorem dX12_enters_19 : decode cX12_enters 19 = .ok (.iastore, 1) := by decide +kernel
theorem dX12_enters_20 : decode cX12_enters 20 = .ok (.aload_n 0, 1) := by decide +kernel
theorem dX12_enters_21 : decode cX12_enters 21 = .ok (.dup, 1) := by decide +kernel
theorem dX12_enters_22 : decode cX12_enters 22 = .ok (.getfield 427, 3) := by decide +kernel
theorem dX12_enters_25 : decode cX12_enters 25 = .ok (.iconst 1, 1) := by decide +kernel
theorem dX12_enters_26 : decode cX12_enters 26 = .ok (.iadd, 1) := by decide +kernel
theorem dX12_enters_27 : decode cX12_enters 27 = .ok (.putfield 427, 3) := by decide +kernel
theorem dX12_enters_30 : decode cX12_enters 30 = .ok (.aload_n 0, 1) := by decide +kernel
theorem dX12_enters_31 : decode cX12_enters 31 = .ok (.getfield 104, 3) := by decide +kernel
theorem dX12_enters_34 : decode cX12_enters 34 = .ok (.aload_n 0, 1) := by decide +kernel
theorem dX12_enters_35 : decode cX12_enters 35 = .ok (.getfield 430, 3) := by decide +kernel
theorem dX12_enters_38 : decode cX12_enters 38 = .ok (.iload_n 1, 1) := by decide +kernel
theorem dX12_enters_39 : decode cX12_enters 39 = .ok (.iastore, 1) := by decide +kernel
theorem dX12_enters_40 : decode cX12_enters 40 = .ok (.aload_n 0, 1) := by decide +kernel
theorem dX12_enters_41 : decode cX12_enters 41 = .ok (.dup, 1) := by decide +kernel
theorem dX12_enters_42 : decode cX12_enters 42 = .ok (.getfield 430, 3) := by decide +kernel
theorem dX12_enters_45 : decode cX12_enters 45 = .ok (.iconst 1, 1) := by decide +kernel
theorem dX12_enters_46 : decode cX12_enters 46 = .ok (.iadd, 1) := by decide +kernel
theorem dX12_enters_47 : decode cX12_enters 47 = .ok (.putfield 430, 3) := by decide +kernel
theorem dX12_enters_50 : decode cX12_enters 50 = .ok (.aload_n 0, 1) := by decide +kernel
theorem dX12_enters_51 : decode cX12_enters 51 = .ok (.getfield 113, 3) := by decide +kernel
theorem dX12_enters_54 : decode cX12_enters 54 = .ok (.iload_n 1, 1) := by decide +kernel
theorem dX12_enters_55 : decode cX12_enters 55 = .ok (.iconst 1, 1) := by decide +kernel
theorem dX12_enters_56 : decode cX12_enters 56 = .ok (.bastore, 1) := by decide +kernel
theorem dX12_enters_57 : decode cX12_enters 57 = .ok (.aload_n 0, 1) := by decide +kernel
theorem dX12_enters_58 : decode cX12_enters 58 = .ok (.getfield 107, 3) := by decide +kernel
theorem dX12_enters_61 : decode cX12_enters 61 = .ok (.aload_n 0, 1) := by decide +kernel
theorem dX12_enters_62 : decode cX12_enters 62 = .ok (.getfield 433, 3) := by decide +kernel
theorem dX12_enters_65 : decode cX12_enters 65 = .ok (.iload_n 1, 1) := by decide +kernel
theorem dX12_enters_66 : decode cX12_enters 66 = .ok (.iastore, 1) := by decide +kernel
theorem dX12_enters_67 : decode cX12_enters 67 = .ok (.aload_n 0, 1) := by decide +kernel
theorem dX12_enters_68 : decode cX12_enters 68 = .ok (.getfield 110, 3) := by decide +kernel
theorem dX12_enters_71 : decode cX12_enters 71 = .ok (.aload_n 0, 1) := by decide +kernel
theorem dX12_enters_72 : decode cX12_enters 72 = .ok (.getfield 433, 3) := by decide +kernel
theorem dX12_enters_75 : decode cX12_enters 75 = .ok (.iconst 0, 1) := by decide +kernel
theorem dX12_enters_76 : decode cX12_enters 76 = .ok (.iastore, 1) := by decide +kernel
theorem dX12_enters_77 : decode cX12_enters 77 = .ok (.aload_n 0, 1) := by decide +kernel
theorem dX12_enters_78 : decode cX12_enters 78 = .ok (.dup, 1) := by decide +kernel
theorem dX12_enters_79 : decode cX12_enters 79 = .ok (.getfield 433, 3) := by decide +kernel
theorem dX12_enters_82 : decode cX12_enters 82 = .ok (.iconst 1, 1) := by decide +kernel
theorem dX12_enters_83 : decode cX12_enters 83 = .ok (.iadd, 1) := by decide +kernel
theorem dX12_enters_84 : decode cX12_enters 84 = .ok (.putfield 433, 3) := by decide +kernel
theorem dX12_enters_87 : decode cX12_enters 87 = .ok (.return_, 1) := by decide +kernel
theorem dX12_leaves_0 : decode cX12_leaves 0 = .ok (.aload_n 0, 1) := by decide +kernel
theorem dX12_leaves_1 : decode cX12_leaves 1 = .ok (.getfield 104, 3) := by decide +kernel
theorem dX12_leaves_4 : decode cX12_leaves 4 = .ok (.aload_n 0, 1) := by decide +kernel
theorem dX12_leaves_5 : decode cX12_leaves 5 = .ok (.getfield 430, 3) := by decide +kernel
theorem dX12_leaves_8 : decode cX12_leaves 8 = .ok (.iconst 1, 1) := by decide +kernel
theorem dX12_leaves_9 : decode cX12_leaves 9 = .ok (.isub, 1) := by decide +kernel
theorem dX12_leaves_10 : decode cX12_leaves 10 = .ok (.iaload, 1) := by decide +kernel
theorem dX12_leaves_11 : decode cX12_leaves 11 = .ok (.iload_n 1, 1) := by decide +kernel
theorem dX12_leaves_12 : decode cX12_leaves 12 = .ok (.if_icmp .ne 7, 3) := by decide +kernel
theorem dX12_leaves_15 : decode cX12_leaves 15 = .ok (.iconst 1, 1) := by decide +kernel
theorem dX12_leaves_16 : decode cX12_leaves 16 = .ok (.goto 4, 3) := by decide +kernel
theorem dX12_leaves_19 : decode cX12_leaves 19 = .ok (.iconst 0, 1) := by decide +kernel
theorem dX12_leaves_20 : decode cX12_leaves 20 = .ok (.istore_n 2, 1) := by decide +kernel
theorem dX12_leaves_21 : decode cX12_leaves 21 = .ok (.iload_n 2, 1) := by decide +kernel
theorem dX12_leaves_22 : decode cX12_leaves 22 = .ok (.ifCond .ne 7, 3) := by decide +kernel
theorem dX12_leaves_25 : decode cX12_leaves 25 = .ok (.iconst 1, 1) := by decide +kernel
theorem dX12_leaves_26 : decode cX12_leaves 26 = .ok (.goto 4, 3) := by decide +kernel
theorem dX12_leaves_29 : decode cX12_leaves 29 = .ok (.iconst 0, 1) := by decide +kernel
theorem dX12_leaves_30 : decode cX12_leaves 30 = .ok (.istore_n 3, 1) := by decide +kernel
theorem dX12_leaves_31 : decode cX12_leaves 31 = .ok (.aload_n 0, 1) := by decide +kernel
theorem dX12_leaves_32 : decode cX12_leaves 32 = .ok (.iload_n 1, 1) := by decide +kernel
theorem dX12_leaves_33 : decode cX12_leaves 33 = .ok (.iconst 0, 1) := by decide +kernel
theorem dX12_leaves_34 : decode cX12_leaves 34 = .ok (.invokevirtual 417, 3) := by decide +kernel
theorem dX12_leaves_37 : decode cX12_leaves 37 = .ok (.istore 4, 2) := by decide +kernel
theorem dX12_leaves_39 : decode cX12_leaves 39 = .ok (.iload 4, 2) := by decide +kernel
theorem dX12_leaves_41 : decode cX12_leaves 41 = .ok (.iconst (-1), 1) := by decide +kernel
theorem dX12_leaves_42 : decode cX12_leaves 42 = .ok (.if_icmp .eq 38, 3) := by decide +kernel
theorem dX12_leaves_45 : decode cX12_leaves 45 = .ok (.iload_n 3, 1) := by decide +kernel
theorem dX12_leaves_46 : decode cX12_leaves 46 = .ok (.ifCond .ne 34, 3) := by decide +kernel
theorem dX12_leaves_49 : decode cX12_leaves 49 = .ok (.aload_n 0, 1) := by decide +kernel
theorem dX12_leaves_50 : decode cX12_leaves 50 = .ok (.iload_n 1, 1) := by decide +kernel
theorem dX12_leaves_51 : decode cX12_leaves 51 = .ok (.iload 4, 2) := by decide +kernel
theorem dX12_leaves_53 : decode cX12_leaves 53 = .ok (.invokevirtual 420, 3) := by decide +kernel
theorem dX12_leaves_56 : decode cX12_leaves 56 = .ok (.iload_n 1, 1) := by decide +kernel
theorem dX12_leaves_57 : decode cX12_leaves 57 = .ok (.if_icmp .ne 7, 3) := by decide +kernel
theorem dX12_leaves_60 : decode cX12_leaves 60 = .ok (.iconst 1, 1) := by decide +kernel
theorem dX12_leaves_61 : decode cX12_leaves 61 = .ok (.goto 4, 3) := by decide +kernel
theorem dX12_leaves_64 : decode cX12_leaves 64 = .ok (.iconst 0, 1) := by decide +kernel
theorem dX12_leaves_65 : decode cX12_leaves 65 = .ok (.istore_n 3, 1) := by decide +kernel
theorem dX12_leaves_66 : decode cX12_leaves 66 = .ok (.aload_n 0, 1) := by decide +kernel
theorem dX12_leaves_67 : decode cX12_leaves 67 = .ok (.iload_n 1, 1) := by decide +kernel
theorem dX12_leaves_68 : decode cX12_leaves 68 = .ok (.iload 4, 2) := by decide +kernel
theorem dX12_leaves_70 : decode cX12_leaves 70 = .ok (.iconst 1, 1) := by decide +kernel
theorem dX12_leaves_71 : decode cX12_leaves 71 = .ok (.iadd, 1) := by decide +kernel
theorem dX12_leaves_72 : decode cX12_leaves 72 = .ok (.invokevirtual 417, 3) := by decide +kernel
theorem dX12_leaves_75 : decode cX12_leaves 75 = .ok (.istore 4, 2) := by decide +kernel
theorem dX12_leaves_77 : decode cX12_leaves 77 = .ok (.goto (-38), 3) := by decide +kernel
theorem dX12_leaves_80 : decode cX12_leaves 80 = .ok (.iconst 1, 1) := by decide +kernel
theorem dX12_leaves_81 : decode cX12_leaves 81 = .ok (.istore 4, 2) := by decide +kernel
theorem dX12_leaves_83 : decode cX12_leaves 83 = .ok (.iload 4, 2) := by decide +kernel
theorem dX12_leaves_85 : decode cX12_leaves 85 = .ok (.ifCond .eq 56, 3) := by decide +kernel
theorem dX12_leaves_88 : decode cX12_leaves 88 = .ok (.aload_n 0, 1) := by decide +kernel
theorem dX12_leaves_89 : decode cX12_leaves 89 = .ok (.dup, 1) := by decide +kernel
theorem dX12_leaves_90 : decode cX12_leaves 90 = .ok (.getfield 430, 3) := by decide +kernel
theorem dX12_leaves_93 : decode cX12_leaves 93 = .ok (.iconst 1, 1) := by decide +kernel
theorem dX12_leaves_94 : decode cX12_leaves 94 = .ok (.isub, 1) := by decide +kernel
theorem dX12_leaves_95 : decode cX12_leaves 95 = .ok (.putfield 430, 3) := by decide +kernel
theorem dX12_leaves_98 : decode cX12_leaves 98 = .ok (.aload_n 0, 1) := by decide +kernel
theorem dX12_leaves_99 : decode cX12_leaves 99 = .ok (.getfield 104, 3) := by decide +kernel
theorem dX12_leaves_102 : decode cX12_leaves 102 = .ok (.aload_n 0, 1) := by decide +kernel
theorem dX12_leaves_103 : decode cX12_leaves 103 = .ok (.getfield 430, 3) := by decide +kernel
theorem dX12_leaves_106 : decode cX12_leaves 106 = .ok (.iaload, 1) := by decide +kernel
theorem dX12_leaves_107 : decode cX12_leaves 107 = .ok (.istore 5, 2) := by decide +kernel
theorem dX12_leaves_109 : decode cX12_leaves 109 = .ok (.aload_n 0, 1) := by decide +kernel
theorem dX12_leaves_110 : decode cX12_leaves 110 = .ok (.getfield 113, 3) := by decide +kernel
theorem dX12_leaves_113 : decode cX12_leaves 113 = .ok (.iload 5, 2) := by decide +kernel
theorem dX12_leaves_115 : decode cX12_leaves 115 = .ok (.iconst 0, 1) := by decide +kernel
theorem dX12_leaves_116 : decode cX12_leaves 116 = .ok (.bastore, 1) := by decide +kernel
theorem dX12_leaves_117 : decode cX12_leaves 117 = .ok (.aload_n 0, 1) := by decide +kernel
theorem dX12_leaves_118 : decode cX12_leaves 118 = .ok (.getfield 116, 3) := by decide +kernel
theorem dX12_leaves_121 : decode cX12_leaves 121 = .ok (.iload 5, 2) := by decide +kernel
theorem dX12_leaves_123 : decode cX12_leaves 123 = .ok (.iload_n 3, 1) := by decide +kernel
theorem dX12_leaves_124 : decode cX12_leaves 124 = .ok (.bastore, 1) := by decide +kernel
theorem dX12_leaves_125 : decode cX12_leaves 125 = .ok (.iload 5, 2) := by decide +kernel
theorem dX12_leaves_127 : decode cX12_leaves 127 = .ok (.iload_n 1, 1) := by decide +kernel
theorem dX12_leaves_128 : decode cX12_leaves 128 = .ok (.if_icmp .eq 7, 3) := by decide +kernel
theorem dX12_leaves_131 : decode cX12_leaves 131 = .ok (.iconst 1, 1) := by decide +kernel
theorem dX12_leaves_132 : decode cX12_leaves 132 = .ok (.goto 4, 3) := by decide +kernel
theorem dX12_leaves_135 : decode cX12_leaves 135 = .ok (.iconst 0, 1) := by decide +kernel
theorem dX12_leaves_136 : decode cX12_leaves 136 = .ok (.istore 4, 2) := by decide +kernel
theorem dX12_leaves_138 : decode cX12_leaves 138 = .ok (.goto (-55), 3) := by decide +kernel
theorem dX12_leaves_141 : decode cX12_leaves 141 = .ok (.return_, 1) := by decide +kernel
theorem dX12_turnsAll_0 : decode cX12_turnsAll 0 = .ok (.aload_n 0, 1) := by decide +kernel
theorem dX12_turnsAll_1 : decode cX12_turnsAll 1 = .ok (.iconst 0, 1) := by decide +kernel
theorem dX12_turnsAll_2 : decode cX12_turnsAll 2 = .ok (.putfield 427, 3) := by decide +kernel
theorem dX12_turnsAll_5 : decode cX12_turnsAll 5 = .ok (.iconst 0, 1) := by decide +kernel
theorem dX12_turnsAll_6 : decode cX12_turnsAll 6 = .ok (.istore_n 1, 1) := by decide +kernel
theorem dX12_turnsAll_7 : decode cX12_turnsAll 7 = .ok (.iload_n 1, 1) := by decide +kernel
theorem dX12_turnsAll_8 : decode cX12_turnsAll 8 = .ok (.aload_n 0, 1) := by decide +kernel
theorem dX12_turnsAll_9 : decode cX12_turnsAll 9 = .ok (.getfield 414, 3) := by decide +kernel
theorem dX12_turnsAll_12 : decode cX12_turnsAll 12 = .ok (.if_icmp .ge 33, 3) := by decide +kernel
theorem dX12_turnsAll_15 : decode cX12_turnsAll 15 = .ok (.aload_n 0, 1) := by decide +kernel
theorem dX12_turnsAll_16 : decode cX12_turnsAll 16 = .ok (.getfield 98, 3) := by decide +kernel
theorem dX12_turnsAll_19 : decode cX12_turnsAll 19 = .ok (.aload_n 0, 1) := by decide +kernel
theorem dX12_turnsAll_20 : decode cX12_turnsAll 20 = .ok (.getfield 85, 3) := by decide +kernel
theorem dX12_turnsAll_23 : decode cX12_turnsAll 23 = .ok (.iload_n 1, 1) := by decide +kernel
theorem dX12_turnsAll_24 : decode cX12_turnsAll 24 = .ok (.iaload, 1) := by decide +kernel
theorem dX12_turnsAll_25 : decode cX12_turnsAll 25 = .ok (.iconst (-1), 1) := by decide +kernel
theorem dX12_turnsAll_26 : decode cX12_turnsAll 26 = .ok (.iastore, 1) := by decide +kernel
theorem dX12_turnsAll_27 : decode cX12_turnsAll 27 = .ok (.aload_n 0, 1) := by decide +kernel
theorem dX12_turnsAll_28 : decode cX12_turnsAll 28 = .ok (.getfield 113, 3) := by decide +kernel
theorem dX12_turnsAll_31 : decode cX12_turnsAll 31 = .ok (.aload_n 0, 1) := by decide +kernel
theorem dX12_turnsAll_32 : decode cX12_turnsAll 32 = .ok (.getfield 85, 3) := by decide +kernel
theorem dX12_turnsAll_35 : decode cX12_turnsAll 35 = .ok (.iload_n 1, 1) := by decide +kernel
theorem dX12_turnsAll_36 : decode cX12_turnsAll 36 = .ok (.iaload, 1) := by decide +kernel
theorem dX12_turnsAll_37 : decode cX12_turnsAll 37 = .ok (.iconst 0, 1) := by decide +kernel
theorem dX12_turnsAll_38 : decode cX12_turnsAll 38 = .ok (.bastore, 1) := by decide +kernel
theorem dX12_turnsAll_39 : decode cX12_turnsAll 39 = .ok (.iinc 1 1, 3) := by decide +kernel
theorem dX12_turnsAll_42 : decode cX12_turnsAll 42 = .ok (.goto (-35), 3) := by decide +kernel
theorem dX12_turnsAll_45 : decode cX12_turnsAll 45 = .ok (.iconst 0, 1) := by decide +kernel
theorem dX12_turnsAll_46 : decode cX12_turnsAll 46 = .ok (.istore_n 1, 1) := by decide +kernel
theorem dX12_turnsAll_47 : decode cX12_turnsAll 47 = .ok (.iload_n 1, 1) := by decide +kernel
theorem dX12_turnsAll_48 : decode cX12_turnsAll 48 = .ok (.aload_n 0, 1) := by decide +kernel
theorem dX12_turnsAll_49 : decode cX12_turnsAll 49 = .ok (.getfield 414, 3) := by decide +kernel
theorem dX12_turnsAll_52 : decode cX12_turnsAll 52 = .ok (.if_icmp .ge 34, 3) := by decide +kernel
theorem dX12_turnsAll_55 : decode cX12_turnsAll 55 = .ok (.aload_n 0, 1) := by decide +kernel
theorem dX12_turnsAll_56 : decode cX12_turnsAll 56 = .ok (.getfield 98, 3) := by decide +kernel
theorem dX12_turnsAll_59 : decode cX12_turnsAll 59 = .ok (.aload_n 0, 1) := by decide +kernel
theorem dX12_turnsAll_60 : decode cX12_turnsAll 60 = .ok (.getfield 85, 3) := by decide +kernel
theorem dX12_turnsAll_63 : decode cX12_turnsAll 63 = .ok (.iload_n 1, 1) := by decide +kernel
theorem dX12_turnsAll_64 : decode cX12_turnsAll 64 = .ok (.iaload, 1) := by decide +kernel
theorem dX12_turnsAll_65 : decode cX12_turnsAll 65 = .ok (.iaload, 1) := by decide +kernel
theorem dX12_turnsAll_66 : decode cX12_turnsAll 66 = .ok (.iconst (-1), 1) := by decide +kernel
theorem dX12_turnsAll_67 : decode cX12_turnsAll 67 = .ok (.if_icmp .ne 13, 3) := by decide +kernel
theorem dX12_turnsAll_70 : decode cX12_turnsAll 70 = .ok (.aload_n 0, 1) := by decide +kernel
theorem dX12_turnsAll_71 : decode cX12_turnsAll 71 = .ok (.aload_n 0, 1) := by decide +kernel
theorem dX12_turnsAll_72 : decode cX12_turnsAll 72 = .ok (.getfield 85, 3) := by decide +kernel
theorem dX12_turnsAll_75 : decode cX12_turnsAll 75 = .ok (.iload_n 1, 1) := by decide +kernel
theorem dX12_turnsAll_76 : decode cX12_turnsAll 76 = .ok (.iaload, 1) := by decide +kernel
theorem dX12_turnsAll_77 : decode cX12_turnsAll 77 = .ok (.invokevirtual 436, 3) := by decide +kernel
theorem dX12_turnsAll_80 : decode cX12_turnsAll 80 = .ok (.iinc 1 1, 3) := by decide +kernel
theorem dX12_turnsAll_83 : decode cX12_turnsAll 83 = .ok (.goto (-36), 3) := by decide +kernel
theorem dX12_turnsAll_86 : decode cX12_turnsAll 86 = .ok (.return_, 1) := by decide +kernel
theorem dX12_turnsFrom_0 : decode cX12_turnsFrom 0 = .ok (.aload_n 0, 1) := by decide +kernel
theorem dX12_turnsFrom_1 : decode cX12_turnsFrom 1 = .ok (.iconst 0, 1) := by decide +kernel
theorem dX12_turnsFrom_2 : decode cX12_turnsFrom 2 = .ok (.putfield 430, 3) := by decide +kernel
theorem dX12_turnsFrom_5 : decode cX12_turnsFrom 5 = .ok (.aload_n 0, 1) := by decide +kernel
theorem dX12_turnsFrom_6 : decode cX12_turnsFrom 6 = .ok (.iconst 0, 1) := by decide +kernel
theorem dX12_turnsFrom_7 : decode cX12_turnsFrom 7 = .ok (.putfield 433, 3) := by decide +kernel
theorem dX12_turnsFrom_10 : decode cX12_turnsFrom 10 = .ok (.aload_n 0, 1) := by decide +kernel
theorem dX12_turnsFrom_11 : decode cX12_turnsFrom 11 = .ok (.iload_n 1, 1) := by decide +kernel
theorem dX12_turnsFrom_12 : decode cX12_turnsFrom 12 = .ok (.invokevirtual 439, 3) := by decide +kernel
theorem dX12_turnsFrom_15 : decode cX12_turnsFrom 15 = .ok (.aload_n 0, 1) := by decide +kernel
theorem dX12_turnsFrom_16 : decode cX12_turnsFrom 16 = .ok (.getfield 433, 3) := by decide +kernel
theorem dX12_turnsFrom_19 : decode cX12_turnsFrom 19 = .ok (.ifCond .le 208, 3) := by decide +kernel
theorem dX12_turnsFrom_22 : decode cX12_turnsFrom 22 = .ok (.aload_n 0, 1) := by decide +kernel
theorem dX12_turnsFrom_23 : decode cX12_turnsFrom 23 = .ok (.getfield 107, 3) := by decide +kernel
theorem dX12_turnsFrom_26 : decode cX12_turnsFrom 26 = .ok (.aload_n 0, 1) := by decide +kernel
theorem dX12_turnsFrom_27 : decode cX12_turnsFrom 27 = .ok (.getfield 433, 3) := by decide +kernel
theorem dX12_turnsFrom_30 : decode cX12_turnsFrom 30 = .ok (.iconst 1, 1) := by decide +kernel
theorem dX12_turnsFrom_31 : decode cX12_turnsFrom 31 = .ok (.isub, 1) := by decide +kernel
theorem dX12_turnsFrom_32 : decode cX12_turnsFrom 32 = .ok (.iaload, 1) := by decide +kernel
theorem dX12_turnsFrom_33 : decode cX12_turnsFrom 33 = .ok (.istore_n 2, 1) := by decide +kernel
theorem dX12_turnsFrom_34 : decode cX12_turnsFrom 34 = .ok (.aload_n 0, 1) := by decide +kernel
theorem dX12_turnsFrom_35 : decode cX12_turnsFrom 35 = .ok (.iload_n 2, 1) := by decide +kernel
theorem dX12_turnsFrom_36 : decode cX12_turnsFrom 36 = .ok (.aload_n 0, 1) := by decide +kernel
theorem dX12_turnsFrom_37 : decode cX12_turnsFrom 37 = .ok (.getfield 110, 3) := by decide +kernel
theorem dX12_turnsFrom_40 : decode cX12_turnsFrom 40 = .ok (.aload_n 0, 1) := by decide +kernel
theorem dX12_turnsFrom_41 : decode cX12_turnsFrom 41 = .ok (.getfield 433, 3) := by decide +kernel
theorem dX12_turnsFrom_44 : decode cX12_turnsFrom 44 = .ok (.iconst 1, 1) := by decide +kernel
theorem dX12_turnsFrom_45 : decode cX12_turnsFrom 45 = .ok (.isub, 1) := by decide +kernel
theorem dX12_turnsFrom_46 : decode cX12_turnsFrom 46 = .ok (.iaload, 1) := by decide +kernel
theorem dX12_turnsFrom_47 : decode cX12_turnsFrom 47 = .ok (.invokevirtual 417, 3) := by decide +kernel
theorem dX12_turnsFrom_50 : decode cX12_turnsFrom 50 = .ok (.istore_n 3, 1) := by decide +kernel
theorem dX12_turnsFrom_51 : decode cX12_turnsFrom 51 = .ok (.iload_n 3, 1) := by decide +kernel
theorem dX12_turnsFrom_52 : decode cX12_turnsFrom 52 = .ok (.iconst (-1), 1) := by decide +kernel
theorem dX12_turnsFrom_53 : decode cX12_turnsFrom 53 = .ok (.if_icmp .eq 87, 3) := by decide +kernel
theorem dX12_turnsFrom_56 : decode cX12_turnsFrom 56 = .ok (.aload_n 0, 1) := by decide +kernel
theorem dX12_turnsFrom_57 : decode cX12_turnsFrom 57 = .ok (.getfield 110, 3) := by decide +kernel
theorem dX12_turnsFrom_60 : decode cX12_turnsFrom 60 = .ok (.aload_n 0, 1) := by decide +kernel
theorem dX12_turnsFrom_61 : decode cX12_turnsFrom 61 = .ok (.getfield 433, 3) := by decide +kernel
theorem dX12_turnsFrom_64 : decode cX12_turnsFrom 64 = .ok (.iconst 1, 1) := by decide +kernel
theorem dX12_turnsFrom_65 : decode cX12_turnsFrom 65 = .ok (.isub, 1) := by decide +kernel
theorem dX12_turnsFrom_66 : decode cX12_turnsFrom 66 = .ok (.iload_n 3, 1) := by decide +kernel
theorem dX12_turnsFrom_67 : decode cX12_turnsFrom 67 = .ok (.iconst 1, 1) := by decide +kernel
theorem dX12_turnsFrom_68 : decode cX12_turnsFrom 68 = .ok (.iadd, 1) := by decide +kernel
theorem dX12_turnsFrom_69 : decode cX12_turnsFrom 69 = .ok (.iastore, 1) := by decide +kernel
theorem dX12_turnsFrom_70 : decode cX12_turnsFrom 70 = .ok (.aload_n 0, 1) := by decide +kernel
theorem dX12_turnsFrom_71 : decode cX12_turnsFrom 71 = .ok (.iload_n 2, 1) := by decide +kernel
theorem dX12_turnsFrom_72 : decode cX12_turnsFrom 72 = .ok (.iload_n 3, 1) := by decide +kernel
theorem dX12_turnsFrom_73 : decode cX12_turnsFrom 73 = .ok (.invokevirtual 420, 3) := by decide +kernel
theorem dX12_turnsFrom_76 : decode cX12_turnsFrom 76 = .ok (.istore 4, 2) := by decide +kernel
theorem dX12_turnsFrom_78 : decode cX12_turnsFrom 78 = .ok (.aload_n 0, 1) := by decide +kernel
theorem dX12_turnsFrom_79 : decode cX12_turnsFrom 79 = .ok (.getfield 98, 3) := by decide +kernel
theorem dX12_turnsFrom_82 : decode cX12_turnsFrom 82 = .ok (.iload 4, 2) := by decide +kernel
theorem dX12_turnsFrom_84 : decode cX12_turnsFrom 84 = .ok (.iaload, 1) := by decide +kernel
theorem dX12_turnsFrom_85 : decode cX12_turnsFrom 85 = .ok (.iconst (-1), 1) := by decide +kernel
theorem dX12_turnsFrom_86 : decode cX12_turnsFrom 86 = .ok (.if_icmp .ne 12, 3) := by decide +kernel
theorem dX12_turnsFrom_89 : decode cX12_turnsFrom 89 = .ok (.aload_n 0, 1) := by decide +kernel
theorem dX12_turnsFrom_90 : decode cX12_turnsFrom 90 = .ok (.iload 4, 2) := by decide +kernel
theorem dX12_turnsFrom_92 : decode cX12_turnsFrom 92 = .ok (.invokevirtual 439, 3) := by decide +kernel
theorem dX12_turnsFrom_95 : decode cX12_turnsFrom 95 = .ok (.goto 42, 3) := by decide +kernel
theorem dX12_turnsFrom_98 : decode cX12_turnsFrom 98 = .ok (.aload_n 0, 1) := by decide +kernel
theorem dX12_turnsFrom_99 : decode cX12_turnsFrom 99 = .ok (.getfield 113, 3) := by decide +kernel
theorem dX12_turnsFrom_102 : decode cX12_turnsFrom 102 = .ok (.iload 4, 2) := by decide +kernel
theorem dX12_turnsFrom_104 : decode cX12_turnsFrom 104 = .ok (.baload, 1) := by decide +kernel
theorem dX12_turnsFrom_105 : decode cX12_turnsFrom 105 = .ok (.ifCond .eq 32, 3) := by decide +kernel
theorem dX12_turnsFrom_108 : decode cX12_turnsFrom 108 = .ok (.aload_n 0, 1) := by decide +kernel
theorem dX12_turnsFrom_109 : decode cX12_turnsFrom 109 = .ok (.getfield 98, 3) := by decide +kernel
theorem dX12_turnsFrom_112 : decode cX12_turnsFrom 112 = .ok (.iload 4, 2) := by decide +kernel
theorem dX12_turnsFrom_114 : decode cX12_turnsFrom 114 = .ok (.iaload, 1) := by decide +kernel
theorem dX12_turnsFrom_115 : decode cX12_turnsFrom 115 = .ok (.aload_n 0, 1) := by decide +kernel
theorem dX12_turnsFrom_116 : decode cX12_turnsFrom 116 = .ok (.getfield 101, 3) := by decide +kernel
theorem dX12_turnsFrom_119 : decode cX12_turnsFrom 119 = .ok (.iload_n 2, 1) := by decide +kernel
theorem dX12_turnsFrom_120 : decode cX12_turnsFrom 120 = .ok (.iaload, 1) := by decide +kernel
theorem dX12_turnsFrom_121 : decode cX12_turnsFrom 121 = .ok (.if_icmp .ge 16, 3) := by decide +kernel
theorem dX12_turnsFrom_124 : decode cX12_turnsFrom 124 = .ok (.aload_n 0, 1) := by decide +kernel
theorem dX12_turnsFrom_125 : decode cX12_turnsFrom 125 = .ok (.getfield 101, 3) := by decide +kernel
theorem dX12_turnsFrom_128 : decode cX12_turnsFrom 128 = .ok (.iload_n 2, 1) := by decide +kernel
theorem dX12_turnsFrom_129 : decode cX12_turnsFrom 129 = .ok (.aload_n 0, 1) := by decide +kernel
theorem dX12_turnsFrom_130 : decode cX12_turnsFrom 130 = .ok (.getfield 98, 3) := by decide +kernel
theorem dX12_turnsFrom_133 : decode cX12_turnsFrom 133 = .ok (.iload 4, 2) := by decide +kernel
theorem dX12_turnsFrom_135 : decode cX12_turnsFrom 135 = .ok (.iaload, 1) := by decide +kernel
theorem dX12_turnsFrom_136 : decode cX12_turnsFrom 136 = .ok (.iastore, 1) := by decide +kernel
theorem dX12_turnsFrom_137 : decode cX12_turnsFrom 137 = .ok (.goto 87, 3) := by decide +kernel
theorem dX12_turnsFrom_140 : decode cX12_turnsFrom 140 = .ok (.aload_n 0, 1) := by decide +kernel
theorem dX12_turnsFrom_141 : decode cX12_turnsFrom 141 = .ok (.dup, 1) := by decide +kernel
theorem dX12_turnsFrom_142 : decode cX12_turnsFrom 142 = .ok (.getfield 433, 3) := by decide +kernel
theorem dX12_turnsFrom_145 : decode cX12_turnsFrom 145 = .ok (.iconst 1, 1) := by decide +kernel
theorem dX12_turnsFrom_146 : decode cX12_turnsFrom 146 = .ok (.isub, 1) := by decide +kernel
theorem dX12_turnsFrom_147 : decode cX12_turnsFrom 147 = .ok (.putfield 433, 3) := by decide +kernel
theorem dX12_turnsFrom_150 : decode cX12_turnsFrom 150 = .ok (.aload_n 0, 1) := by decide +kernel
theorem dX12_turnsFrom_151 : decode cX12_turnsFrom 151 = .ok (.getfield 101, 3) := by decide +kernel
theorem dX12_turnsFrom_154 : decode cX12_turnsFrom 154 = .ok (.iload_n 2, 1) := by decide +kernel
theorem dX12_turnsFrom_155 : decode cX12_turnsFrom 155 = .ok (.iaload, 1) := by decide +kernel
theorem dX12_turnsFrom_156 : decode cX12_turnsFrom 156 = .ok (.aload_n 0, 1) := by decide +kernel
theorem dX12_turnsFrom_157 : decode cX12_turnsFrom 157 = .ok (.getfield 98, 3) := by decide +kernel
theorem dX12_turnsFrom_160 : decode cX12_turnsFrom 160 = .ok (.iload_n 2, 1) := by decide +kernel
theorem dX12_turnsFrom_161 : decode cX12_turnsFrom 161 = .ok (.iaload, 1) := by decide +kernel
theorem dX12_turnsFrom_162 : decode cX12_turnsFrom 162 = .ok (.if_icmp .ne 8, 3) := by decide +kernel
theorem dX12_turnsFrom_165 : decode cX12_turnsFrom 165 = .ok (.aload_n 0, 1) := by decide +kernel
theorem dX12_turnsFrom_166 : decode cX12_turnsFrom 166 = .ok (.iload_n 2, 1) := by decide +kernel
theorem dX12_turnsFrom_167 : decode cX12_turnsFrom 167 = .ok (.invokevirtual 442, 3) := by decide +kernel
theorem dX12_turnsFrom_170 : decode cX12_turnsFrom 170 = .ok (.aload_n 0, 1) := by decide +kernel
theorem dX12_turnsFrom_171 : decode cX12_turnsFrom 171 = .ok (.getfield 433, 3) := by decide +kernel
theorem dX12_turnsFrom_174 : decode cX12_turnsFrom 174 = .ok (.ifCond .le 50, 3) := by decide +kernel
theorem dX12_turnsFrom_177 : decode cX12_turnsFrom 177 = .ok (.aload_n 0, 1) := by decide +kernel
theorem dX12_turnsFrom_178 : decode cX12_turnsFrom 178 = .ok (.getfield 101, 3) := by decide +kernel
theorem dX12_turnsFrom_181 : decode cX12_turnsFrom 181 = .ok (.iload_n 2, 1) := by decide +kernel
theorem dX12_turnsFrom_182 : decode cX12_turnsFrom 182 = .ok (.iaload, 1) := by decide +kernel
theorem dX12_turnsFrom_183 : decode cX12_turnsFrom 183 = .ok (.aload_n 0, 1) := by decide +kernel
theorem dX12_turnsFrom_184 : decode cX12_turnsFrom 184 = .ok (.getfield 101, 3) := by decide +kernel
theorem dX12_turnsFrom_187 : decode cX12_turnsFrom 187 = .ok (.aload_n 0, 1) := by decide +kernel
theorem dX12_turnsFrom_188 : decode cX12_turnsFrom 188 = .ok (.getfield 107, 3) := by decide +kernel
theorem dX12_turnsFrom_191 : decode cX12_turnsFrom 191 = .ok (.aload_n 0, 1) := by decide +kernel
theorem dX12_turnsFrom_192 : decode cX12_turnsFrom 192 = .ok (.getfield 433, 3) := by decide +kernel
theorem dX12_turnsFrom_195 : decode cX12_turnsFrom 195 = .ok (.iconst 1, 1) := by decide +kernel
theorem dX12_turnsFrom_196 : decode cX12_turnsFrom 196 = .ok (.isub, 1) := by decide +kernel
theorem dX12_turnsFrom_197 : decode cX12_turnsFrom 197 = .ok (.iaload, 1) := by decide +kernel
theorem dX12_turnsFrom_198 : decode cX12_turnsFrom 198 = .ok (.iaload, 1) := by decide +kernel
theorem dX12_turnsFrom_199 : decode cX12_turnsFrom 199 = .ok (.if_icmp .ge 25, 3) := by decide +kernel
theorem dX12_turnsFrom_202 : decode cX12_turnsFrom 202 = .ok (.aload_n 0, 1) := by decide +kernel
theorem dX12_turnsFrom_203 : decode cX12_turnsFrom 203 = .ok (.getfield 101, 3) := by decide +kernel
theorem dX12_turnsFrom_206 : decode cX12_turnsFrom 206 = .ok (.aload_n 0, 1) := by decide +kernel
theorem dX12_turnsFrom_207 : decode cX12_turnsFrom 207 = .ok (.getfield 107, 3) := by decide +kernel
theorem dX12_turnsFrom_210 : decode cX12_turnsFrom 210 = .ok (.aload_n 0, 1) := by decide +kernel
theorem dX12_turnsFrom_211 : decode cX12_turnsFrom 211 = .ok (.getfield 433, 3) := by decide +kernel
theorem dX12_turnsFrom_214 : decode cX12_turnsFrom 214 = .ok (.iconst 1, 1) := by decide +kernel
theorem dX12_turnsFrom_215 : decode cX12_turnsFrom 215 = .ok (.isub, 1) := by decide +kernel
theorem dX12_turnsFrom_216 : decode cX12_turnsFrom 216 = .ok (.iaload, 1) := by decide +kernel
theorem dX12_turnsFrom_217 : decode cX12_turnsFrom 217 = .ok (.aload_n 0, 1) := by decide +kernel
theorem dX12_turnsFrom_218 : decode cX12_turnsFrom 218 = .ok (.getfield 101, 3) := by decide +kernel
theorem dX12_turnsFrom_221 : decode cX12_turnsFrom 221 = .ok (.iload_n 2, 1) := by decide +kernel
theorem dX12_turnsFrom_222 : decode cX12_turnsFrom 222 = .ok (.iaload, 1) := by decide +kernel
theorem dX12_turnsFrom_223 : decode cX12_turnsFrom 223 = .ok (.iastore, 1) := by decide +kernel
theorem dX12_turnsFrom_224 : decode cX12_turnsFrom 224 = .ok (.goto (-209), 3) := by decide +kernel
theorem dX12_turnsFrom_227 : decode cX12_turnsFrom 227 = .ok (.return_, 1) := by decide +kernel
theorem dX12_found_0 : decode cX12_found 0 = .ok (.aload_n 0, 1) := by decide +kernel
theorem dX12_found_1 : decode cX12_found 1 = .ok (.invokevirtual 445, 3) := by decide +kernel
theorem dX12_found_4 : decode cX12_found 4 = .ok (.iconst 0, 1) := by decide +kernel
theorem dX12_found_5 : decode cX12_found 5 = .ok (.istore_n 1, 1) := by decide +kernel
theorem dX12_found_6 : decode cX12_found 6 = .ok (.iload_n 1, 1) := by decide +kernel
theorem dX12_found_7 : decode cX12_found 7 = .ok (.aload_n 0, 1) := by decide +kernel
theorem dX12_found_8 : decode cX12_found 8 = .ok (.getfield 414, 3) := by decide +kernel
theorem dX12_found_11 : decode cX12_found 11 = .ok (.if_icmp .ge 43, 3) := by decide +kernel
theorem dX12_found_14 : decode cX12_found 14 = .ok (.aload_n 0, 1) := by decide +kernel
theorem dX12_found_15 : decode cX12_found 15 = .ok (.aload_n 0, 1) := by decide +kernel
theorem dX12_found_16 : decode cX12_found 16 = .ok (.getfield 85, 3) := by decide +kernel
theorem dX12_found_19 : decode cX12_found 19 = .ok (.iload_n 1, 1) := by decide +kernel
theorem dX12_found_20 : decode cX12_found 20 = .ok (.iaload, 1) := by decide +kernel
theorem dX12_found_21 : decode cX12_found 21 = .ok (.invokevirtual 448, 3) := by decide +kernel
theorem dX12_found_24 : decode cX12_found 24 = .ok (.ifCond .eq 24, 3) := by decide +kernel
theorem dX12_found_27 : decode cX12_found 27 = .ok (.aload_n 0, 1) := by decide +kernel
theorem dX12_found_28 : decode cX12_found 28 = .ok (.getfield 116, 3) := by decide +kernel
theorem dX12_found_31 : decode cX12_found 31 = .ok (.aload_n 0, 1) := by decide +kernel
theorem dX12_found_32 : decode cX12_found 32 = .ok (.getfield 85, 3) := by decide +kernel
theorem dX12_found_35 : decode cX12_found 35 = .ok (.iload_n 1, 1) := by decide +kernel
theorem dX12_found_36 : decode cX12_found 36 = .ok (.iaload, 1) := by decide +kernel
theorem dX12_found_37 : decode cX12_found 37 = .ok (.baload, 1) := by decide +kernel
theorem dX12_found_38 : decode cX12_found 38 = .ok (.ifCond .eq 10, 3) := by decide +kernel
theorem dX12_found_41 : decode cX12_found 41 = .ok (.aload_n 0, 1) := by decide +kernel
theorem dX12_found_42 : decode cX12_found 42 = .ok (.getfield 85, 3) := by decide +kernel
theorem dX12_found_45 : decode cX12_found 45 = .ok (.iload_n 1, 1) := by decide +kernel
theorem dX12_found_46 : decode cX12_found 46 = .ok (.iaload, 1) := by decide +kernel
theorem dX12_found_47 : decode cX12_found 47 = .ok (.ireturn, 1) := by decide +kernel
theorem dX12_found_48 : decode cX12_found 48 = .ok (.iinc 1 1, 3) := by decide +kernel
theorem dX12_found_51 : decode cX12_found 51 = .ok (.goto (-45), 3) := by decide +kernel
theorem dX12_found_54 : decode cX12_found 54 = .ok (.iconst (-1), 1) := by decide +kernel
theorem dX12_found_55 : decode cX12_found 55 = .ok (.ireturn, 1) := by decide +kernel
theorem dX12_isTaken_0 : decode cX12_isTaken 0 = .ok (.aload_n 0, 1) := by decide +kernel
theorem dX12_isTaken_1 : decode cX12_isTaken 1 = .ok (.iload_n 1, 1) := by decide +kernel
theorem dX12_isTaken_2 : decode cX12_isTaken 2 = .ok (.putfield 396, 3) := by decide +kernel
theorem dX12_isTaken_5 : decode cX12_isTaken 5 = .ok (.aload_n 0, 1) := by decide +kernel
theorem dX12_isTaken_6 : decode cX12_isTaken 6 = .ok (.invokevirtual 451, 3) := by decide +kernel
theorem dX12_isTaken_9 : decode cX12_isTaken 9 = .ok (.iload_n 2, 1) := by decide +kernel
theorem dX12_isTaken_10 : decode cX12_isTaken 10 = .ok (.ifCond .eq 10, 3) := by decide +kernel
theorem dX12_isTaken_13 : decode cX12_isTaken 13 = .ok (.aload_n 0, 1) := by decide +kernel
theorem dX12_isTaken_14 : decode cX12_isTaken 14 = .ok (.invokevirtual 454, 3) := by decide +kernel
theorem dX12_isTaken_17 : decode cX12_isTaken 17 = .ok (.goto 8, 3) := by decide +kernel
theorem dX12_isTaken_20 : decode cX12_isTaken 20 = .ok (.aload_n 0, 1) := by decide +kernel
theorem dX12_isTaken_21 : decode cX12_isTaken 21 = .ok (.iload_n 1, 1) := by decide +kernel
theorem dX12_isTaken_22 : decode cX12_isTaken 22 = .ok (.invokevirtual 457, 3) := by decide +kernel
theorem dX12_isTaken_25 : decode cX12_isTaken 25 = .ok (.aload_n 0, 1) := by decide +kernel
theorem dX12_isTaken_26 : decode cX12_isTaken 26 = .ok (.invokevirtual 460, 3) := by decide +kernel
theorem dX12_isTaken_29 : decode cX12_isTaken 29 = .ok (.aload_n 0, 1) := by decide +kernel
theorem dX12_isTaken_30 : decode cX12_isTaken 30 = .ok (.invokevirtual 463, 3) := by decide +kernel
theorem dX12_isTaken_33 : decode cX12_isTaken 33 = .ok (.iconst (-1), 1) := by decide +kernel
theorem dX12_isTaken_34 : decode cX12_isTaken 34 = .ok (.if_icmp .eq 7, 3) := by decide +kernel
theorem dX12_isTaken_37 : decode cX12_isTaken 37 = .ok (.iconst 1, 1) := by decide +kernel
theorem dX12_isTaken_38 : decode cX12_isTaken 38 = .ok (.goto 4, 3) := by decide +kernel
theorem dX12_isTaken_41 : decode cX12_isTaken 41 = .ok (.iconst 0, 1) := by decide +kernel
theorem dX12_isTaken_42 : decode cX12_isTaken 42 = .ok (.ireturn, 1) := by decide +kernel
theorem dX12_begunStates_0 : decode cX12_begunStates 0 = .ok (.aload_n 0, 1) := by decide +kernel
theorem dX12_begunStates_1 : decode cX12_begunStates 1 = .ok (.getfield 20, 3) := by decide +kernel
theorem dX12_begunStates_4 : decode cX12_begunStates 4 = .ok (.iload_n 1, 1) := by decide +kernel
theorem dX12_begunStates_5 : decode cX12_begunStates 5 = .ok (.iaload, 1) := by decide +kernel
theorem dX12_begunStates_6 : decode cX12_begunStates 6 = .ok (.istore_n 2, 1) := by decide +kernel
theorem dX12_begunStates_7 : decode cX12_begunStates 7 = .ok (.iconst 0, 1) := by decide +kernel
theorem dX12_begunStates_8 : decode cX12_begunStates 8 = .ok (.istore_n 3, 1) := by decide +kernel
theorem dX12_begunStates_9 : decode cX12_begunStates 9 = .ok (.iload_n 3, 1) := by decide +kernel
theorem dX12_begunStates_10 : decode cX12_begunStates 10 = .ok (.aload_n 0, 1) := by decide +kernel
theorem dX12_begunStates_11 : decode cX12_begunStates 11 = .ok (.getfield 466, 3) := by decide +kernel
theorem dX12_begunStates_14 : decode cX12_begunStates 14 = .ok (.if_icmp .ge 22, 3) := by decide +kernel
theorem dX12_begunStates_17 : decode cX12_begunStates 17 = .ok (.aload_n 0, 1) := by decide +kernel
theorem dX12_begunStates_18 : decode cX12_begunStates 18 = .ok (.iload_n 1, 1) := by decide +kernel
theorem dX12_begunStates_19 : decode cX12_begunStates 19 = .ok (.iload_n 2, 1) := by decide +kernel
theorem dX12_begunStates_20 : decode cX12_begunStates 20 = .ok (.aload_n 0, 1) := by decide +kernel
theorem dX12_begunStates_21 : decode cX12_begunStates 21 = .ok (.getfield 67, 3) := by decide +kernel
theorem dX12_begunStates_24 : decode cX12_begunStates 24 = .ok (.iload_n 3, 1) := by decide +kernel
theorem dX12_begunStates_25 : decode cX12_begunStates 25 = .ok (.iaload, 1) := by decide +kernel
theorem dX12_begunStates_26 : decode cX12_begunStates 26 = .ok (.invokevirtual 316, 3) := by decide +kernel
theorem dX12_begunStates_29 : decode cX12_begunStates 29 = .ok (.istore_n 2, 1) := by decide +kernel
theorem dX12_begunStates_30 : decode cX12_begunStates 30 = .ok (.iinc 3 1, 3) := by decide +kernel
theorem dX12_begunStates_33 : decode cX12_begunStates 33 = .ok (.goto (-24), 3) := by decide +kernel
theorem dX12_begunStates_36 : decode cX12_begunStates 36 = .ok (.aload_n 0, 1) := by decide +kernel
theorem dX12_begunStates_37 : decode cX12_begunStates 37 = .ok (.iconst 3, 1) := by decide +kernel
theorem dX12_begunStates_38 : decode cX12_begunStates 38 = .ok (.putfield 393, 3) := by decide +kernel
theorem dX12_begunStates_41 : decode cX12_begunStates 41 = .ok (.iconst 0, 1) := by decide +kernel
theorem dX12_begunStates_42 : decode cX12_begunStates 42 = .ok (.istore_n 3, 1) := by decide +kernel
theorem dX12_begunStates_43 : decode cX12_begunStates 43 = .ok (.iload_n 3, 1) := by decide +kernel
theorem dX12_begunStates_44 : decode cX12_begunStates 44 = .ok (.iconst 4, 1) := by decide +kernel
theorem dX12_begunStates_45 : decode cX12_begunStates 45 = .ok (.if_icmp .ge 28, 3) := by decide +kernel
theorem dX12_begunStates_48 : decode cX12_begunStates 48 = .ok (.iload_n 2, 1) := by decide +kernel
theorem dX12_begunStates_49 : decode cX12_begunStates 49 = .ok (.iload_n 3, 1) := by decide +kernel
theorem dX12_begunStates_50 : decode cX12_begunStates 50 = .ok (.ishr, 1) := by decide +kernel
theorem dX12_begunStates_51 : decode cX12_begunStates 51 = .ok (.iconst 1, 1) := by decide +kernel
theorem dX12_begunStates_52 : decode cX12_begunStates 52 = .ok (.iand, 1) := by decide +kernel
theorem dX12_begunStates_53 : decode cX12_begunStates 53 = .ok (.iconst 1, 1) := by decide +kernel
theorem dX12_begunStates_54 : decode cX12_begunStates 54 = .ok (.if_icmp .ne 13, 3) := by decide +kernel
theorem dX12_begunStates_57 : decode cX12_begunStates 57 = .ok (.aload_n 0, 1) := by decide +kernel
theorem dX12_begunStates_58 : decode cX12_begunStates 58 = .ok (.bipush 10, 2) := by decide +kernel
theorem dX12_begunStates_60 : decode cX12_begunStates 60 = .ok (.iload_n 3, 1) := by decide +kernel
theorem dX12_begunStates_61 : decode cX12_begunStates 61 = .ok (.imul, 1) := by decide +kernel
theorem dX12_begunStates_62 : decode cX12_begunStates 62 = .ok (.iconst (-1), 1) := by decide +kernel
theorem dX12_begunStates_63 : decode cX12_begunStates 63 = .ok (.iconst (-1), 1) := by decide +kernel
theorem dX12_begunStates_64 : decode cX12_begunStates 64 = .ok (.invokevirtual 423, 3) := by decide +kernel
theorem dX12_begunStates_67 : decode cX12_begunStates 67 = .ok (.iinc 3 1, 3) := by decide +kernel
theorem dX12_begunStates_70 : decode cX12_begunStates 70 = .ok (.goto (-27), 3) := by decide +kernel
theorem dX12_begunStates_73 : decode cX12_begunStates 73 = .ok (.return_, 1) := by decide +kernel
theorem dX12_begunNodes_0 : decode cX12_begunNodes 0 = .ok (.iconst 0, 1) := by decide +kernel
theorem dX12_begunNodes_1 : decode cX12_begunNodes 1 = .ok (.istore_n 1, 1) := by decide +kernel
theorem dX12_begunNodes_2 : decode cX12_begunNodes 2 = .ok (.iload_n 1, 1) := by decide +kernel
theorem dX12_begunNodes_3 : decode cX12_begunNodes 3 = .ok (.aload_n 0, 1) := by decide +kernel
theorem dX12_begunNodes_4 : decode cX12_begunNodes 4 = .ok (.getfield 334, 3) := by decide +kernel
theorem dX12_begunNodes_7 : decode cX12_begunNodes 7 = .ok (.if_icmp .ge 24, 3) := by decide +kernel
theorem dX12_begunNodes_10 : decode cX12_begunNodes 10 = .ok (.aload_n 0, 1) := by decide +kernel
