theorem dX12_evens_34 : decode cX12_evens 34 = .ok (.istore_n 2, 1) := by decide +kernel
theorem dX12_evens_35 : decode cX12_evens 35 = .ok (.iinc 3 1, 3) := by decide +kernel
theorem dX12_evens_38 : decode cX12_evens 38 = .ok (.goto (-34), 3) := by decide +kernel
theorem dX12_evens_41 : decode cX12_evens 41 = .ok (.iload_n 2, 1) := by decide +kernel
theorem dX12_evens_42 : decode cX12_evens 42 = .ok (.ireturn, 1) := by decide +kernel
theorem dX12_goesFromPair_0 : decode cX12_goesFromPair 0 = .ok (.iconst 0, 1) := by decide +kernel
theorem dX12_goesFromPair_1 : decode cX12_goesFromPair 1 = .ok (.istore 5, 2) := by decide +kernel
theorem dX12_goesFromPair_3 : decode cX12_goesFromPair 3 = .ok (.iload 5, 2) := by decide +kernel
theorem dX12_goesFromPair_5 : decode cX12_goesFromPair 5 = .ok (.iconst 4, 1) := by decide +kernel
theorem dX12_goesFromPair_6 : decode cX12_goesFromPair 6 = .ok (.if_icmp .ge 25, 3) := by decide +kernel
theorem dX12_goesFromPair_9 : decode cX12_goesFromPair 9 = .ok (.aload_n 0, 1) := by decide +kernel
theorem dX12_goesFromPair_10 : decode cX12_goesFromPair 10 = .ok (.getfield 64, 3) := by decide +kernel
theorem dX12_goesFromPair_13 : decode cX12_goesFromPair 13 = .ok (.iload 5, 2) := by decide +kernel
theorem dX12_goesFromPair_15 : decode cX12_goesFromPair 15 = .ok (.aload_n 0, 1) := by decide +kernel
theorem dX12_goesFromPair_16 : decode cX12_goesFromPair 16 = .ok (.iload_n 1, 1) := by decide +kernel
theorem dX12_goesFromPair_17 : decode cX12_goesFromPair 17 = .ok (.iload_n 2, 1) := by decide +kernel
theorem dX12_goesFromPair_18 : decode cX12_goesFromPair 18 = .ok (.iload_n 3, 1) := by decide +kernel
theorem dX12_goesFromPair_19 : decode cX12_goesFromPair 19 = .ok (.iload 5, 2) := by decide +kernel
theorem dX12_goesFromPair_21 : decode cX12_goesFromPair 21 = .ok (.invokevirtual 356, 3) := by decide +kernel
theorem dX12_goesFromPair_24 : decode cX12_goesFromPair 24 = .ok (.iastore, 1) := by decide +kernel
theorem dX12_goesFromPair_25 : decode cX12_goesFromPair 25 = .ok (.iinc 5 1, 3) := by decide +kernel
theorem dX12_goesFromPair_28 : decode cX12_goesFromPair 28 = .ok (.goto (-25), 3) := by decide +kernel
theorem dX12_goesFromPair_31 : decode cX12_goesFromPair 31 = .ok (.aload_n 0, 1) := by decide +kernel
theorem dX12_goesFromPair_32 : decode cX12_goesFromPair 32 = .ok (.getfield 39, 3) := by decide +kernel
theorem dX12_goesFromPair_35 : decode cX12_goesFromPair 35 = .ok (.iload_n 2, 1) := by decide +kernel
theorem dX12_goesFromPair_36 : decode cX12_goesFromPair 36 = .ok (.iaload, 1) := by decide +kernel
theorem dX12_goesFromPair_37 : decode cX12_goesFromPair 37 = .ok (.istore 5, 2) := by decide +kernel
theorem dX12_goesFromPair_39 : decode cX12_goesFromPair 39 = .ok (.aload_n 0, 1) := by decide +kernel
theorem dX12_goesFromPair_40 : decode cX12_goesFromPair 40 = .ok (.getfield 45, 3) := by decide +kernel
theorem dX12_goesFromPair_43 : decode cX12_goesFromPair 43 = .ok (.iload_n 2, 1) := by decide +kernel
theorem dX12_goesFromPair_44 : decode cX12_goesFromPair 44 = .ok (.iaload, 1) := by decide +kernel
theorem dX12_goesFromPair_45 : decode cX12_goesFromPair 45 = .ok (.ifCond .ne 8, 3) := by decide +kernel
theorem dX12_goesFromPair_48 : decode cX12_goesFromPair 48 = .ok (.iload 4, 2) := by decide +kernel
theorem dX12_goesFromPair_50 : decode cX12_goesFromPair 50 = .ok (.goto 15, 3) := by decide +kernel
theorem dX12_goesFromPair_53 : decode cX12_goesFromPair 53 = .ok (.aload_n 0, 1) := by decide +kernel
theorem dX12_goesFromPair_54 : decode cX12_goesFromPair 54 = .ok (.iload_n 1, 1) := by decide +kernel
theorem dX12_goesFromPair_55 : decode cX12_goesFromPair 55 = .ok (.aload_n 0, 1) := by decide +kernel
theorem dX12_goesFromPair_56 : decode cX12_goesFromPair 56 = .ok (.getfield 45, 3) := by decide +kernel
theorem dX12_goesFromPair_59 : decode cX12_goesFromPair 59 = .ok (.iload_n 2, 1) := by decide +kernel
theorem dX12_goesFromPair_60 : decode cX12_goesFromPair 60 = .ok (.iaload, 1) := by decide +kernel
theorem dX12_goesFromPair_61 : decode cX12_goesFromPair 61 = .ok (.iload_n 3, 1) := by decide +kernel
theorem dX12_goesFromPair_62 : decode cX12_goesFromPair 62 = .ok (.invokevirtual 316, 3) := by decide +kernel
theorem dX12_goesFromPair_65 : decode cX12_goesFromPair 65 = .ok (.istore 6, 2) := by decide +kernel
theorem dX12_goesFromPair_67 : decode cX12_goesFromPair 67 = .ok (.aload_n 0, 1) := by decide +kernel
theorem dX12_goesFromPair_68 : decode cX12_goesFromPair 68 = .ok (.invokevirtual 325, 3) := by decide +kernel
theorem dX12_goesFromPair_71 : decode cX12_goesFromPair 71 = .ok (.iload 4, 2) := by decide +kernel
theorem dX12_goesFromPair_73 : decode cX12_goesFromPair 73 = .ok (.ifCond .eq 7, 3) := by decide +kernel
theorem dX12_goesFromPair_76 : decode cX12_goesFromPair 76 = .ok (.iconst 1, 1) := by decide +kernel
theorem dX12_goesFromPair_77 : decode cX12_goesFromPair 77 = .ok (.goto 4, 3) := by decide +kernel
theorem dX12_goesFromPair_80 : decode cX12_goesFromPair 80 = .ok (.iconst 0, 1) := by decide +kernel
theorem dX12_goesFromPair_81 : decode cX12_goesFromPair 81 = .ok (.istore 7, 2) := by decide +kernel
theorem dX12_goesFromPair_83 : decode cX12_goesFromPair 83 = .ok (.iload 7, 2) := by decide +kernel
theorem dX12_goesFromPair_85 : decode cX12_goesFromPair 85 = .ok (.ifCond .eq 71, 3) := by decide +kernel
theorem dX12_goesFromPair_88 : decode cX12_goesFromPair 88 = .ok (.aload_n 0, 1) := by decide +kernel
theorem dX12_goesFromPair_89 : decode cX12_goesFromPair 89 = .ok (.getfield 337, 3) := by decide +kernel
theorem dX12_goesFromPair_92 : decode cX12_goesFromPair 92 = .ok (.ifCond .ne 64, 3) := by decide +kernel
theorem dX12_goesFromPair_95 : decode cX12_goesFromPair 95 = .ok (.aload_n 0, 1) := by decide +kernel
theorem dX12_goesFromPair_96 : decode cX12_goesFromPair 96 = .ok (.iload 4, 2) := by decide +kernel
theorem dX12_goesFromPair_98 : decode cX12_goesFromPair 98 = .ok (.invokevirtual 359, 3) := by decide +kernel
theorem dX12_goesFromPair_101 : decode cX12_goesFromPair 101 = .ok (.ifCond .eq 42, 3) := by decide +kernel
theorem dX12_goesFromPair_104 : decode cX12_goesFromPair 104 = .ok (.aload_n 0, 1) := by decide +kernel
theorem dX12_goesFromPair_105 : decode cX12_goesFromPair 105 = .ok (.iload_n 1, 1) := by decide +kernel
theorem dX12_goesFromPair_106 : decode cX12_goesFromPair 106 = .ok (.iload 4, 2) := by decide +kernel
theorem dX12_goesFromPair_108 : decode cX12_goesFromPair 108 = .ok (.iload 5, 2) := by decide +kernel
theorem dX12_goesFromPair_110 : decode cX12_goesFromPair 110 = .ok (.invokevirtual 328, 3) := by decide +kernel
theorem dX12_goesFromPair_113 : decode cX12_goesFromPair 113 = .ok (.ifCond .eq 30, 3) := by decide +kernel
theorem dX12_goesFromPair_116 : decode cX12_goesFromPair 116 = .ok (.aload_n 0, 1) := by decide +kernel
theorem dX12_goesFromPair_117 : decode cX12_goesFromPair 117 = .ok (.aload_n 0, 1) := by decide +kernel
theorem dX12_goesFromPair_118 : decode cX12_goesFromPair 118 = .ok (.iload 4, 2) := by decide +kernel
theorem dX12_goesFromPair_120 : decode cX12_goesFromPair 120 = .ok (.iload 5, 2) := by decide +kernel
theorem dX12_goesFromPair_122 : decode cX12_goesFromPair 122 = .ok (.aload_n 0, 1) := by decide +kernel
theorem dX12_goesFromPair_123 : decode cX12_goesFromPair 123 = .ok (.iload 4, 2) := by decide +kernel
theorem dX12_goesFromPair_125 : decode cX12_goesFromPair 125 = .ok (.invokevirtual 350, 3) := by decide +kernel
theorem dX12_goesFromPair_128 : decode cX12_goesFromPair 128 = .ok (.aload_n 0, 1) := by decide +kernel
theorem dX12_goesFromPair_129 : decode cX12_goesFromPair 129 = .ok (.iload 4, 2) := by decide +kernel
theorem dX12_goesFromPair_131 : decode cX12_goesFromPair 131 = .ok (.invokevirtual 362, 3) := by decide +kernel
theorem dX12_goesFromPair_134 : decode cX12_goesFromPair 134 = .ok (.iload 6, 2) := by decide +kernel
theorem dX12_goesFromPair_136 : decode cX12_goesFromPair 136 = .ok (.iand, 1) := by decide +kernel
theorem dX12_goesFromPair_137 : decode cX12_goesFromPair 137 = .ok (.invokevirtual 343, 3) := by decide +kernel
theorem dX12_goesFromPair_140 : decode cX12_goesFromPair 140 = .ok (.invokevirtual 347, 3) := by decide +kernel
theorem dX12_goesFromPair_143 : decode cX12_goesFromPair 143 = .ok (.aload_n 0, 1) := by decide +kernel
theorem dX12_goesFromPair_144 : decode cX12_goesFromPair 144 = .ok (.iload 4, 2) := by decide +kernel
theorem dX12_goesFromPair_146 : decode cX12_goesFromPair 146 = .ok (.iload 5, 2) := by decide +kernel
theorem dX12_goesFromPair_148 : decode cX12_goesFromPair 148 = .ok (.invokevirtual 331, 3) := by decide +kernel
theorem dX12_goesFromPair_151 : decode cX12_goesFromPair 151 = .ok (.istore 7, 2) := by decide +kernel
theorem dX12_goesFromPair_153 : decode cX12_goesFromPair 153 = .ok (.goto (-70), 3) := by decide +kernel
theorem dX12_goesFromPair_156 : decode cX12_goesFromPair 156 = .ok (.return_, 1) := by decide +kernel
theorem dX12_lays_0 : decode cX12_lays 0 = .ok (.aload_n 0, 1) := by decide +kernel
theorem dX12_lays_1 : decode cX12_lays 1 = .ok (.getfield 61, 3) := by decide +kernel
theorem dX12_lays_4 : decode cX12_lays 4 = .ok (.iload_n 1, 1) := by decide +kernel
theorem dX12_lays_5 : decode cX12_lays 5 = .ok (.if_icmp .ne 16, 3) := by decide +kernel
theorem dX12_lays_8 : decode cX12_lays 8 = .ok (.aload_n 0, 1) := by decide +kernel
theorem dX12_lays_9 : decode cX12_lays 9 = .ok (.getfield 337, 3) := by decide +kernel
theorem dX12_lays_12 : decode cX12_lays 12 = .ok (.ifCond .ne 7, 3) := by decide +kernel
theorem dX12_lays_15 : decode cX12_lays 15 = .ok (.iconst 1, 1) := by decide +kernel
theorem dX12_lays_16 : decode cX12_lays 16 = .ok (.goto 4, 3) := by decide +kernel
theorem dX12_lays_19 : decode cX12_lays 19 = .ok (.iconst 0, 1) := by decide +kernel
theorem dX12_lays_20 : decode cX12_lays 20 = .ok (.ireturn, 1) := by decide +kernel
theorem dX12_lays_21 : decode cX12_lays 21 = .ok (.aload_n 0, 1) := by decide +kernel
theorem dX12_lays_22 : decode cX12_lays 22 = .ok (.iload_n 1, 1) := by decide +kernel
theorem dX12_lays_23 : decode cX12_lays 23 = .ok (.putfield 61, 3) := by decide +kernel
theorem dX12_lays_26 : decode cX12_lays 26 = .ok (.aload_n 0, 1) := by decide +kernel
theorem dX12_lays_27 : decode cX12_lays 27 = .ok (.iconst 0, 1) := by decide +kernel
theorem dX12_lays_28 : decode cX12_lays 28 = .ok (.putfield 337, 3) := by decide +kernel
theorem dX12_lays_31 : decode cX12_lays 31 = .ok (.aload_n 0, 1) := by decide +kernel
theorem dX12_lays_32 : decode cX12_lays 32 = .ok (.iconst 0, 1) := by decide +kernel
theorem dX12_lays_33 : decode cX12_lays 33 = .ok (.putfield 334, 3) := by decide +kernel
theorem dX12_lays_36 : decode cX12_lays 36 = .ok (.aload_n 0, 1) := by decide +kernel
theorem dX12_lays_37 : decode cX12_lays 37 = .ok (.iconst 0, 1) := by decide +kernel
theorem dX12_lays_38 : decode cX12_lays 38 = .ok (.putfield 341, 3) := by decide +kernel
theorem dX12_lays_41 : decode cX12_lays 41 = .ok (.iconst 0, 1) := by decide +kernel
theorem dX12_lays_42 : decode cX12_lays 42 = .ok (.istore_n 2, 1) := by decide +kernel
theorem dX12_lays_43 : decode cX12_lays 43 = .ok (.iload_n 2, 1) := by decide +kernel
theorem dX12_lays_44 : decode cX12_lays 44 = .ok (.sipush 1024, 3) := by decide +kernel
theorem dX12_lays_47 : decode cX12_lays 47 = .ok (.if_icmp .ge 16, 3) := by decide +kernel
theorem dX12_lays_50 : decode cX12_lays 50 = .ok (.aload_n 0, 1) := by decide +kernel
theorem dX12_lays_51 : decode cX12_lays 51 = .ok (.getfield 51, 3) := by decide +kernel
theorem dX12_lays_54 : decode cX12_lays 54 = .ok (.iload_n 2, 1) := by decide +kernel
theorem dX12_lays_55 : decode cX12_lays 55 = .ok (.iconst (-1), 1) := by decide +kernel
theorem dX12_lays_56 : decode cX12_lays 56 = .ok (.iastore, 1) := by decide +kernel
theorem dX12_lays_57 : decode cX12_lays 57 = .ok (.iinc 2 1, 3) := by decide +kernel
theorem dX12_lays_60 : decode cX12_lays 60 = .ok (.goto (-17), 3) := by decide +kernel
theorem dX12_lays_63 : decode cX12_lays 63 = .ok (.aload_n 0, 1) := by decide +kernel
theorem dX12_lays_64 : decode cX12_lays 64 = .ok (.aload_n 0, 1) := by decide +kernel
theorem dX12_lays_65 : decode cX12_lays 65 = .ok (.getfield 20, 3) := by decide +kernel
theorem dX12_lays_68 : decode cX12_lays 68 = .ok (.iload_n 1, 1) := by decide +kernel
theorem dX12_lays_69 : decode cX12_lays 69 = .ok (.iaload, 1) := by decide +kernel
theorem dX12_lays_70 : decode cX12_lays 70 = .ok (.bipush (-2), 2) := by decide +kernel
theorem dX12_lays_72 : decode cX12_lays 72 = .ok (.iconst 0, 1) := by decide +kernel
theorem dX12_lays_73 : decode cX12_lays 73 = .ok (.iconst 0, 1) := by decide +kernel
theorem dX12_lays_74 : decode cX12_lays 74 = .ok (.invokevirtual 343, 3) := by decide +kernel
theorem dX12_lays_77 : decode cX12_lays 77 = .ok (.istore_n 2, 1) := by decide +kernel
theorem dX12_lays_78 : decode cX12_lays 78 = .ok (.iconst 0, 1) := by decide +kernel
theorem dX12_lays_79 : decode cX12_lays 79 = .ok (.istore_n 3, 1) := by decide +kernel
theorem dX12_lays_80 : decode cX12_lays 80 = .ok (.iload_n 3, 1) := by decide +kernel
theorem dX12_lays_81 : decode cX12_lays 81 = .ok (.aload_n 0, 1) := by decide +kernel
theorem dX12_lays_82 : decode cX12_lays 82 = .ok (.getfield 334, 3) := by decide +kernel
theorem dX12_lays_85 : decode cX12_lays 85 = .ok (.if_icmp .ge 111, 3) := by decide +kernel
theorem dX12_lays_88 : decode cX12_lays 88 = .ok (.aload_n 0, 1) := by decide +kernel
theorem dX12_lays_89 : decode cX12_lays 89 = .ok (.getfield 337, 3) := by decide +kernel
theorem dX12_lays_92 : decode cX12_lays 92 = .ok (.ifCond .ne 104, 3) := by decide +kernel
theorem dX12_lays_95 : decode cX12_lays 95 = .ok (.iconst 0, 1) := by decide +kernel
theorem dX12_lays_96 : decode cX12_lays 96 = .ok (.istore 4, 2) := by decide +kernel
theorem dX12_lays_98 : decode cX12_lays 98 = .ok (.iload 4, 2) := by decide +kernel
theorem dX12_lays_100 : decode cX12_lays 100 = .ok (.iconst 3, 1) := by decide +kernel
theorem dX12_lays_101 : decode cX12_lays 101 = .ok (.if_icmp .ge 89, 3) := by decide +kernel
theorem dX12_lays_104 : decode cX12_lays 104 = .ok (.aload_n 0, 1) := by decide +kernel
theorem dX12_lays_105 : decode cX12_lays 105 = .ok (.getfield 54, 3) := by decide +kernel
theorem dX12_lays_108 : decode cX12_lays 108 = .ok (.iconst 3, 1) := by decide +kernel
theorem dX12_lays_109 : decode cX12_lays 109 = .ok (.iload_n 3, 1) := by decide +kernel
theorem dX12_lays_110 : decode cX12_lays 110 = .ok (.imul, 1) := by decide +kernel
theorem dX12_lays_111 : decode cX12_lays 111 = .ok (.iload 4, 2) := by decide +kernel
theorem dX12_lays_113 : decode cX12_lays 113 = .ok (.iadd, 1) := by decide +kernel
theorem dX12_lays_114 : decode cX12_lays 114 = .ok (.aload_n 0, 1) := by decide +kernel
theorem dX12_lays_115 : decode cX12_lays 115 = .ok (.getfield 341, 3) := by decide +kernel
theorem dX12_lays_118 : decode cX12_lays 118 = .ok (.iastore, 1) := by decide +kernel
theorem dX12_lays_119 : decode cX12_lays 119 = .ok (.iload 4, 2) := by decide +kernel
theorem dX12_lays_121 : decode cX12_lays 121 = .ok (.aload_n 0, 1) := by decide +kernel
theorem dX12_lays_122 : decode cX12_lays 122 = .ok (.getfield 283, 3) := by decide +kernel
theorem dX12_lays_125 : decode cX12_lays 125 = .ok (.if_icmp .ge 59, 3) := by decide +kernel
theorem dX12_lays_128 : decode cX12_lays 128 = .ok (.aload_n 0, 1) := by decide +kernel
theorem dX12_lays_129 : decode cX12_lays 129 = .ok (.getfield 337, 3) := by decide +kernel
theorem dX12_lays_132 : decode cX12_lays 132 = .ok (.ifCond .eq 6, 3) := by decide +kernel
theorem dX12_lays_135 : decode cX12_lays 135 = .ok (.goto 49, 3) := by decide +kernel
theorem dX12_lays_138 : decode cX12_lays 138 = .ok (.aload_n 0, 1) := by decide +kernel
theorem dX12_lays_139 : decode cX12_lays 139 = .ok (.iload_n 1, 1) := by decide +kernel
theorem dX12_lays_140 : decode cX12_lays 140 = .ok (.aload_n 0, 1) := by decide +kernel
theorem dX12_lays_141 : decode cX12_lays 141 = .ok (.getfield 36, 3) := by decide +kernel
theorem dX12_lays_144 : decode cX12_lays 144 = .ok (.iload_n 3, 1) := by decide +kernel
theorem dX12_lays_145 : decode cX12_lays 145 = .ok (.iaload, 1) := by decide +kernel
theorem dX12_lays_146 : decode cX12_lays 146 = .ok (.iload 4, 2) := by decide +kernel
theorem dX12_lays_148 : decode cX12_lays 148 = .ok (.invokevirtual 316, 3) := by decide +kernel
theorem dX12_lays_151 : decode cX12_lays 151 = .ok (.istore 5, 2) := by decide +kernel
theorem dX12_lays_153 : decode cX12_lays 153 = .ok (.aload_n 0, 1) := by decide +kernel
theorem dX12_lays_154 : decode cX12_lays 154 = .ok (.getfield 39, 3) := by decide +kernel
theorem dX12_lays_157 : decode cX12_lays 157 = .ok (.iload_n 3, 1) := by decide +kernel
theorem dX12_lays_158 : decode cX12_lays 158 = .ok (.iaload, 1) := by decide +kernel
theorem dX12_lays_159 : decode cX12_lays 159 = .ok (.bipush (-2), 2) := by decide +kernel
theorem dX12_lays_161 : decode cX12_lays 161 = .ok (.if_icmp .ne 13, 3) := by decide +kernel
theorem dX12_lays_164 : decode cX12_lays 164 = .ok (.aload_n 0, 1) := by decide +kernel
theorem dX12_lays_165 : decode cX12_lays 165 = .ok (.iload_n 1, 1) := by decide +kernel
theorem dX12_lays_166 : decode cX12_lays 166 = .ok (.iload 5, 2) := by decide +kernel
theorem dX12_lays_168 : decode cX12_lays 168 = .ok (.invokevirtual 365, 3) := by decide +kernel
theorem dX12_lays_171 : decode cX12_lays 171 = .ok (.goto 13, 3) := by decide +kernel
theorem dX12_lays_174 : decode cX12_lays 174 = .ok (.aload_n 0, 1) := by decide +kernel
theorem dX12_lays_175 : decode cX12_lays 175 = .ok (.iload_n 1, 1) := by decide +kernel
theorem dX12_lays_176 : decode cX12_lays 176 = .ok (.iload_n 3, 1) := by decide +kernel
theorem dX12_lays_177 : decode cX12_lays 177 = .ok (.iload 4, 2) := by decide +kernel
theorem dX12_lays_179 : decode cX12_lays 179 = .ok (.iload 5, 2) := by decide +kernel
theorem dX12_lays_181 : decode cX12_lays 181 = .ok (.invokevirtual 368, 3) := by decide +kernel
theorem dX12_lays_184 : decode cX12_lays 184 = .ok (.iinc 4 1, 3) := by decide +kernel
theorem dX12_lays_187 : decode cX12_lays 187 = .ok (.goto (-89), 3) := by decide +kernel
theorem dX12_lays_190 : decode cX12_lays 190 = .ok (.iinc 3 1, 3) := by decide +kernel
theorem dX12_lays_193 : decode cX12_lays 193 = .ok (.goto (-113), 3) := by decide +kernel
theorem dX12_lays_196 : decode cX12_lays 196 = .ok (.aload_n 0, 1) := by decide +kernel
theorem dX12_lays_197 : decode cX12_lays 197 = .ok (.getfield 54, 3) := by decide +kernel
theorem dX12_lays_200 : decode cX12_lays 200 = .ok (.iconst 3, 1) := by decide +kernel
theorem dX12_lays_201 : decode cX12_lays 201 = .ok (.aload_n 0, 1) := by decide +kernel
theorem dX12_lays_202 : decode cX12_lays 202 = .ok (.getfield 334, 3) := by decide +kernel
theorem dX12_lays_205 : decode cX12_lays 205 = .ok (.imul, 1) := by decide +kernel
theorem dX12_lays_206 : decode cX12_lays 206 = .ok (.aload_n 0, 1) := by decide +kernel
theorem dX12_lays_207 : decode cX12_lays 207 = .ok (.getfield 341, 3) := by decide +kernel
theorem dX12_lays_210 : decode cX12_lays 210 = .ok (.iastore, 1) := by decide +kernel
theorem dX12_lays_211 : decode cX12_lays 211 = .ok (.aload_n 0, 1) := by decide +kernel
theorem dX12_lays_212 : decode cX12_lays 212 = .ok (.getfield 337, 3) := by decide +kernel
theorem dX12_lays_215 : decode cX12_lays 215 = .ok (.ifCond .ne 7, 3) := by decide +kernel
theorem dX12_lays_218 : decode cX12_lays 218 = .ok (.iconst 1, 1) := by decide +kernel
theorem dX12_lays_219 : decode cX12_lays 219 = .ok (.goto 4, 3) := by decide +kernel
theorem dX12_lays_222 : decode cX12_lays 222 = .ok (.iconst 0, 1) := by decide +kernel
theorem dX12_lays_223 : decode cX12_lays 223 = .ok (.ireturn, 1) := by decide +kernel
theorem dX12_edgesFrom_0 : decode cX12_edgesFrom 0 = .ok (.aload_n 0, 1) := by decide +kernel
theorem dX12_edgesFrom_1 : decode cX12_edgesFrom 1 = .ok (.getfield 54, 3) := by decide +kernel
theorem dX12_edgesFrom_4 : decode cX12_edgesFrom 4 = .ok (.iconst 3, 1) := by decide +kernel
theorem dX12_edgesFrom_5 : decode cX12_edgesFrom 5 = .ok (.iload_n 1, 1) := by decide +kernel
theorem dX12_edgesFrom_6 : decode cX12_edgesFrom 6 = .ok (.imul, 1) := by decide +kernel
theorem dX12_edgesFrom_7 : decode cX12_edgesFrom 7 = .ok (.iload_n 2, 1) := by decide +kernel
theorem dX12_edgesFrom_8 : decode cX12_edgesFrom 8 = .ok (.iadd, 1) := by decide +kernel
theorem dX12_edgesFrom_9 : decode cX12_edgesFrom 9 = .ok (.iconst 1, 1) := by decide +kernel
theorem dX12_edgesFrom_10 : decode cX12_edgesFrom 10 = .ok (.iadd, 1) := by decide +kernel
theorem dX12_edgesFrom_11 : decode cX12_edgesFrom 11 = .ok (.iaload, 1) := by decide +kernel
theorem dX12_edgesFrom_12 : decode cX12_edgesFrom 12 = .ok (.aload_n 0, 1) := by decide +kernel
theorem dX12_edgesFrom_13 : decode cX12_edgesFrom 13 = .ok (.getfield 54, 3) := by decide +kernel
theorem dX12_edgesFrom_16 : decode cX12_edgesFrom 16 = .ok (.iconst 3, 1) := by decide +kernel
theorem dX12_edgesFrom_17 : decode cX12_edgesFrom 17 = .ok (.iload_n 1, 1) := by decide +kernel
theorem dX12_edgesFrom_18 : decode cX12_edgesFrom 18 = .ok (.imul, 1) := by decide +kernel
theorem dX12_edgesFrom_19 : decode cX12_edgesFrom 19 = .ok (.iload_n 2, 1) := by decide +kernel
theorem dX12_edgesFrom_20 : decode cX12_edgesFrom 20 = .ok (.iadd, 1) := by decide +kernel
theorem dX12_edgesFrom_21 : decode cX12_edgesFrom 21 = .ok (.iaload, 1) := by decide +kernel
theorem dX12_edgesFrom_22 : decode cX12_edgesFrom 22 = .ok (.isub, 1) := by decide +kernel
theorem dX12_edgesFrom_23 : decode cX12_edgesFrom 23 = .ok (.ireturn, 1) := by decide +kernel
theorem dX12_isFinalNode_0 : decode cX12_isFinalNode 0 = .ok (.aload_n 0, 1) := by decide +kernel
theorem dX12_isFinalNode_1 : decode cX12_isFinalNode 1 = .ok (.getfield 39, 3) := by decide +kernel
theorem dX12_isFinalNode_4 : decode cX12_isFinalNode 4 = .ok (.iload_n 1, 1) := by decide +kernel
theorem dX12_isFinalNode_5 : decode cX12_isFinalNode 5 = .ok (.iaload, 1) := by decide +kernel
theorem dX12_isFinalNode_6 : decode cX12_isFinalNode 6 = .ok (.bipush (-2), 2) := by decide +kernel
theorem dX12_isFinalNode_8 : decode cX12_isFinalNode 8 = .ok (.if_icmp .ne 20, 3) := by decide +kernel
theorem dX12_isFinalNode_11 : decode cX12_isFinalNode 11 = .ok (.aload_n 0, 1) := by decide +kernel
theorem dX12_isFinalNode_12 : decode cX12_isFinalNode 12 = .ok (.getfield 36, 3) := by decide +kernel
theorem dX12_isFinalNode_15 : decode cX12_isFinalNode 15 = .ok (.iload_n 1, 1) := by decide +kernel
theorem dX12_isFinalNode_16 : decode cX12_isFinalNode 16 = .ok (.iaload, 1) := by decide +kernel
theorem dX12_isFinalNode_17 : decode cX12_isFinalNode 17 = .ok (.ifCond .ne 7, 3) := by decide +kernel
theorem dX12_isFinalNode_20 : decode cX12_isFinalNode 20 = .ok (.iconst 1, 1) := by decide +kernel
theorem dX12_isFinalNode_21 : decode cX12_isFinalNode 21 = .ok (.goto 21, 3) := by decide +kernel
theorem dX12_isFinalNode_24 : decode cX12_isFinalNode 24 = .ok (.iconst 0, 1) := by decide +kernel
theorem dX12_isFinalNode_25 : decode cX12_isFinalNode 25 = .ok (.goto 17, 3) := by decide +kernel
theorem dX12_isFinalNode_28 : decode cX12_isFinalNode 28 = .ok (.aload_n 0, 1) := by decide +kernel
theorem dX12_isFinalNode_29 : decode cX12_isFinalNode 29 = .ok (.getfield 45, 3) := by decide +kernel
theorem dX12_isFinalNode_32 : decode cX12_isFinalNode 32 = .ok (.iload_n 1, 1) := by decide +kernel
theorem dX12_isFinalNode_33 : decode cX12_isFinalNode 33 = .ok (.iaload, 1) := by decide +kernel
theorem dX12_isFinalNode_34 : decode cX12_isFinalNode 34 = .ok (.ifCond .ne 7, 3) := by decide +kernel
theorem dX12_isFinalNode_37 : decode cX12_isFinalNode 37 = .ok (.iconst 1, 1) := by decide +kernel
theorem dX12_isFinalNode_38 : decode cX12_isFinalNode 38 = .ok (.goto 4, 3) := by decide +kernel
theorem dX12_isFinalNode_41 : decode cX12_isFinalNode 41 = .ok (.iconst 0, 1) := by decide +kernel
theorem dX12_isFinalNode_42 : decode cX12_isFinalNode 42 = .ok (.ireturn, 1) := by decide +kernel
theorem dX12_complement_0 : decode cX12_complement 0 = .ok (.aload_n 0, 1) := by decide +kernel
theorem dX12_complement_1 : decode cX12_complement 1 = .ok (.iconst 0, 1) := by decide +kernel
theorem dX12_complement_2 : decode cX12_complement 2 = .ok (.putfield 131, 3) := by decide +kernel
theorem dX12_complement_5 : decode cX12_complement 5 = .ok (.aload_n 0, 1) := by decide +kernel
theorem dX12_complement_6 : decode cX12_complement 6 = .ok (.iload_n 1, 1) := by decide +kernel
theorem dX12_complement_7 : decode cX12_complement 7 = .ok (.invokevirtual 291, 3) := by decide +kernel
theorem dX12_complement_10 : decode cX12_complement 10 = .ok (.ifCond .ne 9, 3) := by decide +kernel
theorem dX12_complement_13 : decode cX12_complement 13 = .ok (.aload_n 0, 1) := by decide +kernel
theorem dX12_complement_14 : decode cX12_complement 14 = .ok (.iconst 1, 1) := by decide +kernel
theorem dX12_complement_15 : decode cX12_complement 15 = .ok (.invokevirtual 270, 3) := by decide +kernel
theorem dX12_complement_18 : decode cX12_complement 18 = .ok (.ireturn, 1) := by decide +kernel
theorem dX12_complement_19 : decode cX12_complement 19 = .ok (.aload_n 0, 1) := by decide +kernel
theorem dX12_complement_20 : decode cX12_complement 20 = .ok (.iload_n 1, 1) := by decide +kernel
theorem dX12_complement_21 : decode cX12_complement 21 = .ok (.invokevirtual 372, 3) := by decide +kernel
theorem dX12_complement_24 : decode cX12_complement 24 = .ok (.ifCond .eq 14, 3) := by decide +kernel
theorem dX12_complement_27 : decode cX12_complement 27 = .ok (.aload_n 0, 1) := by decide +kernel
theorem dX12_complement_28 : decode cX12_complement 28 = .ok (.aload_n 0, 1) := by decide +kernel
theorem dX12_complement_29 : decode cX12_complement 29 = .ok (.getfield 334, 3) := by decide +kernel
theorem dX12_complement_32 : decode cX12_complement 32 = .ok (.invokevirtual 288, 3) := by decide +kernel
theorem dX12_complement_35 : decode cX12_complement 35 = .ok (.goto 8, 3) := by decide +kernel
theorem dX12_complement_38 : decode cX12_complement 38 = .ok (.aload_n 0, 1) := by decide +kernel
theorem dX12_complement_39 : decode cX12_complement 39 = .ok (.iconst 3, 1) := by decide +kernel
theorem dX12_complement_40 : decode cX12_complement 40 = .ok (.invokevirtual 270, 3) := by decide +kernel
theorem dX12_complement_43 : decode cX12_complement 43 = .ok (.ireturn, 1) := by decide +kernel
theorem dX12_isBelow_0 : decode cX12_isBelow 0 = .ok (.iload_n 1, 1) := by decide +kernel
theorem dX12_isBelow_1 : decode cX12_isBelow 1 = .ok (.iload_n 2, 1) := by decide +kernel
theorem dX12_isBelow_2 : decode cX12_isBelow 2 = .ok (.if_icmp .eq 62, 3) := by decide +kernel
theorem dX12_isBelow_5 : decode cX12_isBelow 5 = .ok (.aload_n 0, 1) := by decide +kernel
theorem dX12_isBelow_6 : decode cX12_isBelow 6 = .ok (.getfield 39, 3) := by decide +kernel
theorem dX12_isBelow_9 : decode cX12_isBelow 9 = .ok (.iload_n 1, 1) := by decide +kernel
theorem dX12_isBelow_10 : decode cX12_isBelow 10 = .ok (.iaload, 1) := by decide +kernel
theorem dX12_isBelow_11 : decode cX12_isBelow 11 = .ok (.bipush (-2), 2) := by decide +kernel
theorem dX12_isBelow_13 : decode cX12_isBelow 13 = .ok (.if_icmp .eq 51, 3) := by decide +kernel
theorem dX12_isBelow_16 : decode cX12_isBelow 16 = .ok (.aload_n 0, 1) := by decide +kernel
theorem dX12_isBelow_17 : decode cX12_isBelow 17 = .ok (.getfield 36, 3) := by decide +kernel
theorem dX12_isBelow_20 : decode cX12_isBelow 20 = .ok (.iload_n 1, 1) := by decide +kernel
theorem dX12_isBelow_21 : decode cX12_isBelow 21 = .ok (.iaload, 1) := by decide +kernel
theorem dX12_isBelow_22 : decode cX12_isBelow 22 = .ok (.aload_n 0, 1) := by decide +kernel
theorem dX12_isBelow_23 : decode cX12_isBelow 23 = .ok (.getfield 36, 3) := by decide +kernel
theorem dX12_isBelow_26 : decode cX12_isBelow 26 = .ok (.iload_n 2, 1) := by decide +kernel
theorem dX12_isBelow_27 : decode cX12_isBelow 27 = .ok (.iaload, 1) := by decide +kernel
theorem dX12_isBelow_28 : decode cX12_isBelow 28 = .ok (.if_icmp .ne 36, 3) := by decide +kernel
theorem dX12_isBelow_31 : decode cX12_isBelow 31 = .ok (.aload_n 0, 1) := by decide +kernel
theorem dX12_isBelow_32 : decode cX12_isBelow 32 = .ok (.getfield 39, 3) := by decide +kernel
theorem dX12_isBelow_35 : decode cX12_isBelow 35 = .ok (.iload_n 1, 1) := by decide +kernel
theorem dX12_isBelow_36 : decode cX12_isBelow 36 = .ok (.iaload, 1) := by decide +kernel
theorem dX12_isBelow_37 : decode cX12_isBelow 37 = .ok (.aload_n 0, 1) := by decide +kernel
theorem dX12_isBelow_38 : decode cX12_isBelow 38 = .ok (.getfield 39, 3) := by decide +kernel
theorem dX12_isBelow_41 : decode cX12_isBelow 41 = .ok (.iload_n 2, 1) := by decide +kernel
theorem dX12_isBelow_42 : decode cX12_isBelow 42 = .ok (.iaload, 1) := by decide +kernel
theorem dX12_isBelow_43 : decode cX12_isBelow 43 = .ok (.if_icmp .ne 21, 3) := by decide +kernel
theorem dX12_isBelow_46 : decode cX12_isBelow 46 = .ok (.aload_n 0, 1) := by decide +kernel
theorem dX12_isBelow_47 : decode cX12_isBelow 47 = .ok (.getfield 45, 3) := by decide +kernel
theorem dX12_isBelow_50 : decode cX12_isBelow 50 = .ok (.iload_n 2, 1) := by decide +kernel
theorem dX12_isBelow_51 : decode cX12_isBelow 51 = .ok (.iaload, 1) := by decide +kernel
theorem dX12_isBelow_52 : decode cX12_isBelow 52 = .ok (.aload_n 0, 1) := by decide +kernel
theorem dX12_isBelow_53 : decode cX12_isBelow 53 = .ok (.getfield 45, 3) := by decide +kernel
theorem dX12_isBelow_56 : decode cX12_isBelow 56 = .ok (.iload_n 1, 1) := by decide +kernel
theorem dX12_isBelow_57 : decode cX12_isBelow 57 = .ok (.iaload, 1) := by decide +kernel
theorem dX12_isBelow_58 : decode cX12_isBelow 58 = .ok (.iconst (-1), 1) := by decide +kernel
theorem dX12_isBelow_59 : decode cX12_isBelow 59 = .ok (.ixor, 1) := by decide +kernel
theorem dX12_isBelow_60 : decode cX12_isBelow 60 = .ok (.iand, 1) := by decide +kernel
theorem dX12_isBelow_61 : decode cX12_isBelow 61 = .ok (.ifCond .eq 5, 3) := by decide +kernel
theorem dX12_isBelow_64 : decode cX12_isBelow 64 = .ok (.iconst 0, 1) := by decide +kernel
theorem dX12_isBelow_65 : decode cX12_isBelow 65 = .ok (.ireturn, 1) := by decide +kernel
theorem dX12_isBelow_66 : decode cX12_isBelow 66 = .ok (.iconst 0, 1) := by decide +kernel
theorem dX12_isBelow_67 : decode cX12_isBelow 67 = .ok (.istore_n 3, 1) := by decide +kernel
theorem dX12_isBelow_68 : decode cX12_isBelow 68 = .ok (.iload_n 3, 1) := by decide +kernel
theorem dX12_isBelow_69 : decode cX12_isBelow 69 = .ok (.iconst 4, 1) := by decide +kernel
theorem dX12_isBelow_70 : decode cX12_isBelow 70 = .ok (.if_icmp .ge 34, 3) := by decide +kernel
theorem dX12_isBelow_73 : decode cX12_isBelow 73 = .ok (.aload_n 0, 1) := by decide +kernel
theorem dX12_isBelow_74 : decode cX12_isBelow 74 = .ok (.getfield 42, 3) := by decide +kernel
theorem dX12_isBelow_77 : decode cX12_isBelow 77 = .ok (.iload_n 1, 1) := by decide +kernel
theorem dX12_isBelow_78 : decode cX12_isBelow 78 = .ok (.iaload, 1) := by decide +kernel
theorem dX12_isBelow_79 : decode cX12_isBelow 79 = .ok (.iload_n 3, 1) := by decide +kernel
theorem dX12_isBelow_80 : decode cX12_isBelow 80 = .ok (.invokestatic 353, 3) := by decide +kernel
theorem dX12_isBelow_83 : decode cX12_isBelow 83 = .ok (.aload_n 0, 1) := by decide +kernel
theorem dX12_isBelow_84 : decode cX12_isBelow 84 = .ok (.getfield 42, 3) := by decide +kernel
theorem dX12_isBelow_87 : decode cX12_isBelow 87 = .ok (.iload_n 2, 1) := by decide +kernel
theorem dX12_isBelow_88 : decode cX12_isBelow 88 = .ok (.iaload, 1) := by decide +kernel
theorem dX12_isBelow_89 : decode cX12_isBelow 89 = .ok (.iload_n 3, 1) := by decide +kernel
theorem dX12_isBelow_90 : decode cX12_isBelow 90 = .ok (.invokestatic 353, 3) := by decide +kernel
theorem dX12_isBelow_93 : decode cX12_isBelow 93 = .ok (.if_icmp .le 5, 3) := by decide +kernel
theorem dX12_isBelow_96 : decode cX12_isBelow 96 = .ok (.iconst 0, 1) := by decide +kernel
theorem dX12_isBelow_97 : decode cX12_isBelow 97 = .ok (.ireturn, 1) := by decide +kernel
theorem dX12_isBelow_98 : decode cX12_isBelow 98 = .ok (.iinc 3 1, 3) := by decide +kernel
theorem dX12_isBelow_101 : decode cX12_isBelow 101 = .ok (.goto (-33), 3) := by decide +kernel
theorem dX12_isBelow_104 : decode cX12_isBelow 104 = .ok (.iconst 1, 1) := by decide +kernel
theorem dX12_isBelow_105 : decode cX12_isBelow 105 = .ok (.ireturn, 1) := by decide +kernel
theorem dX12_below_0 : decode cX12_below 0 = .ok (.iconst 0, 1) := by decide +kernel
theorem dX12_below_1 : decode cX12_below 1 = .ok (.istore_n 2, 1) := by decide +kernel
theorem dX12_below_2 : decode cX12_below 2 = .ok (.iconst 0, 1) := by decide +kernel
theorem dX12_below_3 : decode cX12_below 3 = .ok (.istore_n 3, 1) := by decide +kernel
theorem dX12_below_4 : decode cX12_below 4 = .ok (.iload_n 3, 1) := by decide +kernel
theorem dX12_below_5 : decode cX12_below 5 = .ok (.aload_n 0, 1) := by decide +kernel
theorem dX12_below_6 : decode cX12_below 6 = .ok (.getfield 334, 3) := by decide +kernel
theorem dX12_below_9 : decode cX12_below 9 = .ok (.if_icmp .ge 26, 3) := by decide +kernel
theorem dX12_below_12 : decode cX12_below 12 = .ok (.iload_n 2, 1) := by decide +kernel
theorem dX12_below_13 : decode cX12_below 13 = .ok (.aload_n 0, 1) := by decide +kernel
theorem dX12_below_14 : decode cX12_below 14 = .ok (.iload_n 1, 1) := by decide +kernel
theorem dX12_below_15 : decode cX12_below 15 = .ok (.iload_n 3, 1) := by decide +kernel
theorem dX12_below_16 : decode cX12_below 16 = .ok (.invokevirtual 375, 3) := by decide +kernel
theorem dX12_below_19 : decode cX12_below 19 = .ok (.ifCond .eq 7, 3) := by decide +kernel
theorem dX12_below_22 : decode cX12_below 22 = .ok (.iconst 1, 1) := by decide +kernel
theorem dX12_below_23 : decode cX12_below 23 = .ok (.goto 4, 3) := by decide +kernel
theorem dX12_below_26 : decode cX12_below 26 = .ok (.iconst 0, 1) := by decide +kernel
theorem dX12_below_27 : decode cX12_below 27 = .ok (.iadd, 1) := by decide +kernel
theorem dX12_below_28 : decode cX12_below 28 = .ok (.istore_n 2, 1) := by decide +kernel
theorem dX12_below_29 : decode cX12_below 29 = .ok (.iinc 3 1, 3) := by decide +kernel
theorem dX12_below_32 : decode cX12_below 32 = .ok (.goto (-28), 3) := by decide +kernel
theorem dX12_below_35 : decode cX12_below 35 = .ok (.iload_n 2, 1) := by decide +kernel
theorem dX12_below_36 : decode cX12_below 36 = .ok (.ireturn, 1) := by decide +kernel
theorem dX12_whyNot_0 : decode cX12_whyNot 0 = .ok (.aload_n 0, 1) := by decide +kernel
theorem dX12_whyNot_1 : decode cX12_whyNot 1 = .ok (.iload_n 1, 1) := by decide +kernel
theorem dX12_whyNot_2 : decode cX12_whyNot 2 = .ok (.invokevirtual 372, 3) := by decide +kernel
theorem dX12_whyNot_5 : decode cX12_whyNot 5 = .ok (.ifCond .ne 7, 3) := by decide +kernel
theorem dX12_whyNot_8 : decode cX12_whyNot 8 = .ok (.iconst 3, 1) := by decide +kernel
theorem dX12_whyNot_9 : decode cX12_whyNot 9 = .ok (.goto 16, 3) := by decide +kernel
theorem dX12_whyNot_12 : decode cX12_whyNot 12 = .ok (.iload_n 2, 1) := by decide +kernel
theorem dX12_whyNot_13 : decode cX12_whyNot 13 = .ok (.aload_n 0, 1) := by decide +kernel
theorem dX12_whyNot_14 : decode cX12_whyNot 14 = .ok (.getfield 334, 3) := by decide +kernel
theorem dX12_whyNot_17 : decode cX12_whyNot 17 = .ok (.if_icmp .lt 7, 3) := by decide +kernel
theorem dX12_whyNot_20 : decode cX12_whyNot 20 = .ok (.iconst 1, 1) := by decide +kernel
theorem dX12_whyNot_21 : decode cX12_whyNot 21 = .ok (.goto 4, 3) := by decide +kernel
theorem dX12_whyNot_24 : decode cX12_whyNot 24 = .ok (.iconst 0, 1) := by decide +kernel
theorem dX12_whyNot_25 : decode cX12_whyNot 25 = .ok (.ireturn, 1) := by decide +kernel
theorem dX12_node_0 : decode cX12_node 0 = .ok (.aload_n 0, 1) := by decide +kernel
theorem dX12_node_1 : decode cX12_node 1 = .ok (.iconst 0, 1) := by decide +kernel
theorem dX12_node_2 : decode cX12_node 2 = .ok (.putfield 131, 3) := by decide +kernel
theorem dX12_node_5 : decode cX12_node 5 = .ok (.aload_n 0, 1) := by decide +kernel
theorem dX12_node_6 : decode cX12_node 6 = .ok (.iload_n 1, 1) := by decide +kernel
theorem dX12_node_7 : decode cX12_node 7 = .ok (.invokevirtual 291, 3) := by decide +kernel
theorem dX12_node_10 : decode cX12_node 10 = .ok (.ifCond .eq 16, 3) := by decide +kernel
theorem dX12_node_13 : decode cX12_node 13 = .ok (.iload_n 2, 1) := by decide +kernel
theorem dX12_node_14 : decode cX12_node 14 = .ok (.ifCond .lt 12, 3) := by decide +kernel
theorem dX12_node_17 : decode cX12_node 17 = .ok (.iload_n 3, 1) := by decide +kernel
theorem dX12_node_18 : decode cX12_node 18 = .ok (.iconst 0, 1) := by decide +kernel
theorem dX12_node_19 : decode cX12_node 19 = .ok (.iconst 5, 1) := by decide +kernel
theorem dX12_node_20 : decode cX12_node 20 = .ok (.invokestatic 156, 3) := by decide +kernel
theorem dX12_node_23 : decode cX12_node 23 = .ok (.ifCond .ne 9, 3) := by decide +kernel
theorem dX12_node_26 : decode cX12_node 26 = .ok (.aload_n 0, 1) := by decide +kernel
theorem dX12_node_27 : decode cX12_node 27 = .ok (.iconst 1, 1) := by decide +kernel
theorem dX12_node_28 : decode cX12_node 28 = .ok (.invokevirtual 270, 3) := by decide +kernel
theorem dX12_node_31 : decode cX12_node 31 = .ok (.ireturn, 1) := by decide +kernel
theorem dX12_node_32 : decode cX12_node 32 = .ok (.aload_n 0, 1) := by decide +kernel
theorem dX12_node_33 : decode cX12_node 33 = .ok (.iload_n 1, 1) := by decide +kernel
theorem dX12_node_34 : decode cX12_node 34 = .ok (.iload_n 2, 1) := by decide +kernel
theorem dX12_node_35 : decode cX12_node 35 = .ok (.invokevirtual 378, 3) := by decide +kernel
theorem dX12_node_38 : decode cX12_node 38 = .ok (.istore 4, 2) := by decide +kernel
theorem dX12_node_40 : decode cX12_node 40 = .ok (.iload 4, 2) := by decide +kernel
theorem dX12_node_42 : decode cX12_node 42 = .ok (.ifCond .le 10, 3) := by decide +kernel
theorem dX12_node_45 : decode cX12_node 45 = .ok (.aload_n 0, 1) := by decide +kernel
theorem dX12_node_46 : decode cX12_node 46 = .ok (.iload 4, 2) := by decide +kernel
theorem dX12_node_48 : decode cX12_node 48 = .ok (.invokevirtual 270, 3) := by decide +kernel
theorem dX12_node_51 : decode cX12_node 51 = .ok (.ireturn, 1) := by decide +kernel
theorem dX12_node_52 : decode cX12_node 52 = .ok (.iload_n 3, 1) := by decide +kernel
theorem dX12_node_53 : decode cX12_node 53 = .ok (.tableswitch 110 0 4 #[35, 46, 57, 68, 86], 35) := by decide +kernel
theorem dX12_node_88 : decode cX12_node 88 = .ok (.aload_n 0, 1) := by decide +kernel
theorem dX12_node_89 : decode cX12_node 89 = .ok (.aload_n 0, 1) := by decide +kernel
theorem dX12_node_90 : decode cX12_node 90 = .ok (.getfield 36, 3) := by decide +kernel
theorem dX12_node_93 : decode cX12_node 93 = .ok (.iload_n 2, 1) := by decide +kernel
theorem dX12_node_94 : decode cX12_node 94 = .ok (.iaload, 1) := by decide +kernel
theorem dX12_node_95 : decode cX12_node 95 = .ok (.invokevirtual 288, 3) := by decide +kernel
theorem dX12_node_98 : decode cX12_node 98 = .ok (.ireturn, 1) := by decide +kernel
theorem dX12_node_99 : decode cX12_node 99 = .ok (.aload_n 0, 1) := by decide +kernel
theorem dX12_node_100 : decode cX12_node 100 = .ok (.aload_n 0, 1) := by decide +kernel
theorem dX12_node_101 : decode cX12_node 101 = .ok (.getfield 39, 3) := by decide +kernel
theorem dX12_node_104 : decode cX12_node 104 = .ok (.iload_n 2, 1) := by decide +kernel
theorem dX12_node_105 : decode cX12_node 105 = .ok (.iaload, 1) := by decide +kernel
theorem dX12_node_106 : decode cX12_node 106 = .ok (.invokevirtual 288, 3) := by decide +kernel
theorem dX12_node_109 : decode cX12_node 109 = .ok (.ireturn, 1) := by decide +kernel
theorem dX12_node_110 : decode cX12_node 110 = .ok (.aload_n 0, 1) := by decide +kernel
theorem dX12_node_111 : decode cX12_node 111 = .ok (.aload_n 0, 1) := by decide +kernel
theorem dX12_node_112 : decode cX12_node 112 = .ok (.getfield 45, 3) := by decide +kernel
theorem dX12_node_115 : decode cX12_node 115 = .ok (.iload_n 2, 1) := by decide +kernel
theorem dX12_node_116 : decode cX12_node 116 = .ok (.iaload, 1) := by decide +kernel
theorem dX12_node_117 : decode cX12_node 117 = .ok (.invokevirtual 288, 3) := by decide +kernel
theorem dX12_node_120 : decode cX12_node 120 = .ok (.ireturn, 1) := by decide +kernel
theorem dX12_node_121 : decode cX12_node 121 = .ok (.aload_n 0, 1) := by decide +kernel
theorem dX12_node_122 : decode cX12_node 122 = .ok (.aload_n 0, 1) := by decide +kernel
theorem dX12_node_123 : decode cX12_node 123 = .ok (.iload_n 2, 1) := by decide +kernel
theorem dX12_node_124 : decode cX12_node 124 = .ok (.invokevirtual 381, 3) := by decide +kernel
theorem dX12_node_127 : decode cX12_node 127 = .ok (.ifCond .eq 7, 3) := by decide +kernel
theorem dX12_node_130 : decode cX12_node 130 = .ok (.iconst 1, 1) := by decide +kernel
theorem dX12_node_131 : decode cX12_node 131 = .ok (.goto 4, 3) := by decide +kernel
theorem dX12_node_134 : decode cX12_node 134 = .ok (.iconst 0, 1) := by decide +kernel
theorem dX12_node_135 : decode cX12_node 135 = .ok (.invokevirtual 288, 3) := by decide +kernel
theorem dX12_node_138 : decode cX12_node 138 = .ok (.ireturn, 1) := by decide +kernel
theorem dX12_node_139 : decode cX12_node 139 = .ok (.aload_n 0, 1) := by decide +kernel
theorem dX12_node_140 : decode cX12_node 140 = .ok (.aload_n 0, 1) := by decide +kernel
theorem dX12_node_141 : decode cX12_node 141 = .ok (.getfield 54, 3) := by decide +kernel
theorem dX12_node_144 : decode cX12_node 144 = .ok (.iconst 3, 1) := by decide +kernel
theorem dX12_node_145 : decode cX12_node 145 = .ok (.iload_n 2, 1) := by decide +kernel
theorem dX12_node_146 : decode cX12_node 146 = .ok (.iconst 1, 1) := by decide +kernel
theorem dX12_node_147 : decode cX12_node 147 = .ok (.iadd, 1) := by decide +kernel
theorem dX12_node_148 : decode cX12_node 148 = .ok (.imul, 1) := by decide +kernel
theorem dX12_node_149 : decode cX12_node 149 = .ok (.iaload, 1) := by decide +kernel
theorem dX12_node_150 : decode cX12_node 150 = .ok (.aload_n 0, 1) := by decide +kernel
theorem dX12_node_151 : decode cX12_node 151 = .ok (.getfield 54, 3) := by decide +kernel
theorem dX12_node_154 : decode cX12_node 154 = .ok (.iconst 3, 1) := by decide +kernel
theorem dX12_node_155 : decode cX12_node 155 = .ok (.iload_n 2, 1) := by decide +kernel
theorem dX12_node_156 : decode cX12_node 156 = .ok (.imul, 1) := by decide +kernel
theorem dX12_node_157 : decode cX12_node 157 = .ok (.iaload, 1) := by decide +kernel
theorem dX12_node_158 : decode cX12_node 158 = .ok (.isub, 1) := by decide +kernel
theorem dX12_node_159 : decode cX12_node 159 = .ok (.invokevirtual 288, 3) := by decide +kernel
theorem dX12_node_162 : decode cX12_node 162 = .ok (.ireturn, 1) := by decide +kernel
theorem dX12_node_163 : decode cX12_node 163 = .ok (.aload_n 0, 1) := by decide +kernel
theorem dX12_node_164 : decode cX12_node 164 = .ok (.aload_n 0, 1) := by decide +kernel
theorem dX12_node_165 : decode cX12_node 165 = .ok (.iload_n 2, 1) := by decide +kernel
theorem dX12_node_166 : decode cX12_node 166 = .ok (.invokevirtual 384, 3) := by decide +kernel
theorem dX12_node_169 : decode cX12_node 169 = .ok (.invokevirtual 288, 3) := by decide +kernel
theorem dX12_node_172 : decode cX12_node 172 = .ok (.ireturn, 1) := by decide +kernel
theorem dX12_rank_0 : decode cX12_rank 0 = .ok (.aload_n 0, 1) := by decide +kernel
theorem dX12_rank_1 : decode cX12_rank 1 = .ok (.iconst 0, 1) := by decide +kernel
theorem dX12_rank_2 : decode cX12_rank 2 = .ok (.putfield 131, 3) := by decide +kernel
theorem dX12_rank_5 : decode cX12_rank 5 = .ok (.aload_n 0, 1) := by decide +kernel
theorem dX12_rank_6 : decode cX12_rank 6 = .ok (.iload_n 1, 1) := by decide +kernel
theorem dX12_rank_7 : decode cX12_rank 7 = .ok (.iload_n 3, 1) := by decide +kernel
theorem dX12_rank_8 : decode cX12_rank 8 = .ok (.invokevirtual 302, 3) := by decide +kernel
theorem dX12_rank_11 : decode cX12_rank 11 = .ok (.ifCond .eq 7, 3) := by decide +kernel
theorem dX12_rank_14 : decode cX12_rank 14 = .ok (.iload_n 2, 1) := by decide +kernel
theorem dX12_rank_15 : decode cX12_rank 15 = .ok (.ifCond .ge 9, 3) := by decide +kernel
theorem dX12_rank_18 : decode cX12_rank 18 = .ok (.aload_n 0, 1) := by decide +kernel
theorem dX12_rank_19 : decode cX12_rank 19 = .ok (.iconst 1, 1) := by decide +kernel
theorem dX12_rank_20 : decode cX12_rank 20 = .ok (.invokevirtual 270, 3) := by decide +kernel
theorem dX12_rank_23 : decode cX12_rank 23 = .ok (.ireturn, 1) := by decide +kernel
theorem dX12_rank_24 : decode cX12_rank 24 = .ok (.aload_n 0, 1) := by decide +kernel
theorem dX12_rank_25 : decode cX12_rank 25 = .ok (.iload_n 1, 1) := by decide +kernel
theorem dX12_rank_26 : decode cX12_rank 26 = .ok (.iload_n 2, 1) := by decide +kernel
theorem dX12_rank_27 : decode cX12_rank 27 = .ok (.invokevirtual 378, 3) := by decide +kernel
theorem dX12_rank_30 : decode cX12_rank 30 = .ok (.istore 4, 2) := by decide +kernel
theorem dX12_rank_32 : decode cX12_rank 32 = .ok (.iload 4, 2) := by decide +kernel
theorem dX12_rank_34 : decode cX12_rank 34 = .ok (.ifCond .le 10, 3) := by decide +kernel
theorem dX12_rank_37 : decode cX12_rank 37 = .ok (.aload_n 0, 1) := by decide +kernel
theorem dX12_rank_38 : decode cX12_rank 38 = .ok (.iload 4, 2) := by decide +kernel
theorem dX12_rank_40 : decode cX12_rank 40 = .ok (.invokevirtual 270, 3) := by decide +kernel
theorem dX12_rank_43 : decode cX12_rank 43 = .ok (.ireturn, 1) := by decide +kernel
theorem dX12_rank_44 : decode cX12_rank 44 = .ok (.aload_n 0, 1) := by decide +kernel
theorem dX12_rank_45 : decode cX12_rank 45 = .ok (.aload_n 0, 1) := by decide +kernel
theorem dX12_rank_46 : decode cX12_rank 46 = .ok (.getfield 39, 3) := by decide +kernel
theorem dX12_rank_49 : decode cX12_rank 49 = .ok (.iload_n 2, 1) := by decide +kernel
theorem dX12_rank_50 : decode cX12_rank 50 = .ok (.iaload, 1) := by decide +kernel
theorem dX12_rank_51 : decode cX12_rank 51 = .ok (.bipush (-2), 2) := by decide +kernel
theorem dX12_rank_53 : decode cX12_rank 53 = .ok (.if_icmp .eq 16, 3) := by decide +kernel
theorem dX12_rank_56 : decode cX12_rank 56 = .ok (.aload_n 0, 1) := by decide +kernel
theorem dX12_rank_57 : decode cX12_rank 57 = .ok (.getfield 36, 3) := by decide +kernel
theorem dX12_rank_60 : decode cX12_rank 60 = .ok (.iload_n 2, 1) := by decide +kernel
theorem dX12_rank_61 : decode cX12_rank 61 = .ok (.iaload, 1) := by decide +kernel
theorem dX12_rank_62 : decode cX12_rank 62 = .ok (.iload_n 3, 1) := by decide +kernel
theorem dX12_rank_63 : decode cX12_rank 63 = .ok (.ishr, 1) := by decide +kernel
theorem dX12_rank_64 : decode cX12_rank 64 = .ok (.iconst 1, 1) := by decide +kernel
theorem dX12_rank_65 : decode cX12_rank 65 = .ok (.iand, 1) := by decide +kernel
theorem dX12_rank_66 : decode cX12_rank 66 = .ok (.ifCond .ne 8, 3) := by decide +kernel
theorem dX12_rank_69 : decode cX12_rank 69 = .ok (.bipush (-2), 2) := by decide +kernel
theorem dX12_rank_71 : decode cX12_rank 71 = .ok (.goto 13, 3) := by decide +kernel
theorem dX12_rank_74 : decode cX12_rank 74 = .ok (.aload_n 0, 1) := by decide +kernel
theorem dX12_rank_75 : decode cX12_rank 75 = .ok (.getfield 42, 3) := by decide +kernel
theorem dX12_rank_78 : decode cX12_rank 78 = .ok (.iload_n 2, 1) := by decide +kernel
theorem dX12_rank_79 : decode cX12_rank 79 = .ok (.iaload, 1) := by decide +kernel
theorem dX12_rank_80 : decode cX12_rank 80 = .ok (.iload_n 3, 1) := by decide +kernel
theorem dX12_rank_81 : decode cX12_rank 81 = .ok (.invokestatic 353, 3) := by decide +kernel
theorem dX12_rank_84 : decode cX12_rank 84 = .ok (.invokevirtual 288, 3) := by decide +kernel
theorem dX12_rank_87 : decode cX12_rank 87 = .ok (.ireturn, 1) := by decide +kernel
theorem dX12_next_0 : decode cX12_next 0 = .ok (.aload_n 0, 1) := by decide +kernel
theorem dX12_next_1 : decode cX12_next 1 = .ok (.iconst 0, 1) := by decide +kernel
theorem dX12_next_2 : decode cX12_next 2 = .ok (.putfield 131, 3) := by decide +kernel
theorem dX12_next_5 : decode cX12_next 5 = .ok (.aload_n 0, 1) := by decide +kernel
theorem dX12_next_6 : decode cX12_next 6 = .ok (.iload_n 1, 1) := by decide +kernel
theorem dX12_next_7 : decode cX12_next 7 = .ok (.invokevirtual 291, 3) := by decide +kernel
theorem dX12_next_10 : decode cX12_next 10 = .ok (.ifCond .eq 20, 3) := by decide +kernel
theorem dX12_next_13 : decode cX12_next 13 = .ok (.iload_n 2, 1) := by decide +kernel
theorem dX12_next_14 : decode cX12_next 14 = .ok (.ifCond .lt 16, 3) := by decide +kernel
theorem dX12_next_17 : decode cX12_next 17 = .ok (.aload_n 0, 1) := by decide +kernel
theorem dX12_next_18 : decode cX12_next 18 = .ok (.iload_n 3, 1) := by decide +kernel
theorem dX12_next_19 : decode cX12_next 19 = .ok (.invokevirtual 306, 3) := by decide +kernel
theorem dX12_next_22 : decode cX12_next 22 = .ok (.ifCond .eq 8, 3) := by decide +kernel
theorem dX12_next_25 : decode cX12_next 25 = .ok (.iload 4, 2) := by decide +kernel
theorem dX12_next_27 : decode cX12_next 27 = .ok (.ifCond .ge 9, 3) := by decide +kernel
theorem dX12_next_30 : decode cX12_next 30 = .ok (.aload_n 0, 1) := by decide +kernel
theorem dX12_next_31 : decode cX12_next 31 = .ok (.iconst 1, 1) := by decide +kernel
theorem dX12_next_32 : decode cX12_next 32 = .ok (.invokevirtual 270, 3) := by decide +kernel
theorem dX12_next_35 : decode cX12_next 35 = .ok (.ireturn, 1) := by decide +kernel
theorem dX12_next_36 : decode cX12_next 36 = .ok (.aload_n 0, 1) := by decide +kernel
theorem dX12_next_37 : decode cX12_next 37 = .ok (.iload_n 1, 1) := by decide +kernel
theorem dX12_next_38 : decode cX12_next 38 = .ok (.iload_n 2, 1) := by decide +kernel
theorem dX12_next_39 : decode cX12_next 39 = .ok (.invokevirtual 378, 3) := by decide +kernel
theorem dX12_next_42 : decode cX12_next 42 = .ok (.istore 5, 2) := by decide +kernel
theorem dX12_next_44 : decode cX12_next 44 = .ok (.iload 5, 2) := by decide +kernel
theorem dX12_next_46 : decode cX12_next 46 = .ok (.ifCond .le 10, 3) := by decide +kernel
theorem dX12_next_49 : decode cX12_next 49 = .ok (.aload_n 0, 1) := by decide +kernel
theorem dX12_next_50 : decode cX12_next 50 = .ok (.iload 5, 2) := by decide +kernel
theorem dX12_next_52 : decode cX12_next 52 = .ok (.invokevirtual 270, 3) := by decide +kernel
theorem dX12_next_55 : decode cX12_next 55 = .ok (.ireturn, 1) := by decide +kernel
theorem dX12_next_56 : decode cX12_next 56 = .ok (.aload_n 0, 1) := by decide +kernel
theorem dX12_next_57 : decode cX12_next 57 = .ok (.iload 4, 2) := by decide +kernel
theorem dX12_next_59 : decode cX12_next 59 = .ok (.aload_n 0, 1) := by decide +kernel
theorem dX12_next_60 : decode cX12_next 60 = .ok (.iload_n 2, 1) := by decide +kernel
theorem dX12_next_61 : decode cX12_next 61 = .ok (.iload_n 3, 1) := by decide +kernel
theorem dX12_next_62 : decode cX12_next 62 = .ok (.invokevirtual 387, 3) := by decide +kernel
theorem dX12_next_65 : decode cX12_next 65 = .ok (.if_icmp .ge 24, 3) := by decide +kernel
theorem dX12_next_68 : decode cX12_next 68 = .ok (.aload_n 0, 1) := by decide +kernel
theorem dX12_next_69 : decode cX12_next 69 = .ok (.getfield 58, 3) := by decide +kernel
theorem dX12_next_72 : decode cX12_next 72 = .ok (.aload_n 0, 1) := by decide +kernel
theorem dX12_next_73 : decode cX12_next 73 = .ok (.getfield 54, 3) := by decide +kernel
theorem dX12_next_76 : decode cX12_next 76 = .ok (.iconst 3, 1) := by decide +kernel
theorem dX12_next_77 : decode cX12_next 77 = .ok (.iload_n 2, 1) := by decide +kernel
theorem dX12_next_78 : decode cX12_next 78 = .ok (.imul, 1) := by decide +kernel
theorem dX12_next_79 : decode cX12_next 79 = .ok (.iload_n 3, 1) := by decide +kernel
theorem dX12_next_80 : decode cX12_next 80 = .ok (.iadd, 1) := by decide +kernel
theorem dX12_next_81 : decode cX12_next 81 = .ok (.iaload, 1) := by decide +kernel
theorem dX12_next_82 : decode cX12_next 82 = .ok (.iload 4, 2) := by decide +kernel
theorem dX12_next_84 : decode cX12_next 84 = .ok (.iadd, 1) := by decide +kernel
theorem dX12_next_85 : decode cX12_next 85 = .ok (.iaload, 1) := by decide +kernel
theorem dX12_next_86 : decode cX12_next 86 = .ok (.goto 5, 3) := by decide +kernel
theorem dX12_next_89 : decode cX12_next 89 = .ok (.bipush (-2), 2) := by decide +kernel
theorem dX12_next_91 : decode cX12_next 91 = .ok (.invokevirtual 288, 3) := by decide +kernel
theorem dX12_next_94 : decode cX12_next 94 = .ok (.ireturn, 1) := by decide +kernel
theorem dX12_nodes_0 : decode cX12_nodes 0 = .ok (.aload_n 0, 1) := by decide +kernel
theorem dX12_nodes_1 : decode cX12_nodes 1 = .ok (.iconst 0, 1) := by decide +kernel
theorem dX12_nodes_2 : decode cX12_nodes 2 = .ok (.putfield 131, 3) := by decide +kernel
theorem dX12_nodes_5 : decode cX12_nodes 5 = .ok (.aload_n 0, 1) := by decide +kernel
theorem dX12_nodes_6 : decode cX12_nodes 6 = .ok (.iload_n 1, 1) := by decide +kernel
theorem dX12_nodes_7 : decode cX12_nodes 7 = .ok (.invokevirtual 291, 3) := by decide +kernel
theorem dX12_nodes_10 : decode cX12_nodes 10 = .ok (.ifCond .eq 12, 3) := by decide +kernel
theorem dX12_nodes_13 : decode cX12_nodes 13 = .ok (.iload_n 2, 1) := by decide +kernel
theorem dX12_nodes_14 : decode cX12_nodes 14 = .ok (.iconst 0, 1) := by decide +kernel
theorem dX12_nodes_15 : decode cX12_nodes 15 = .ok (.iconst 2, 1) := by decide +kernel
theorem dX12_nodes_16 : decode cX12_nodes 16 = .ok (.invokestatic 156, 3) := by decide +kernel
theorem dX12_nodes_19 : decode cX12_nodes 19 = .ok (.ifCond .ne 9, 3) := by decide +kernel
theorem dX12_nodes_22 : decode cX12_nodes 22 = .ok (.aload_n 0, 1) := by decide +kernel
theorem dX12_nodes_23 : decode cX12_nodes 23 = .ok (.iconst 1, 1) := by decide +kernel
theorem dX12_nodes_24 : decode cX12_nodes 24 = .ok (.invokevirtual 270, 3) := by decide +kernel
theorem dX12_nodes_27 : decode cX12_nodes 27 = .ok (.ireturn, 1) := by decide +kernel
theorem dX12_nodes_28 : decode cX12_nodes 28 = .ok (.aload_n 0, 1) := by decide +kernel
theorem dX12_nodes_29 : decode cX12_nodes 29 = .ok (.iload_n 1, 1) := by decide +kernel
theorem dX12_nodes_30 : decode cX12_nodes 30 = .ok (.invokevirtual 372, 3) := by decide +kernel
theorem dX12_nodes_33 : decode cX12_nodes 33 = .ok (.ifCond .ne 9, 3) := by decide +kernel
theorem dX12_nodes_36 : decode cX12_nodes 36 = .ok (.aload_n 0, 1) := by decide +kernel
theorem dX12_nodes_37 : decode cX12_nodes 37 = .ok (.iconst 3, 1) := by decide +kernel
theorem dX12_nodes_38 : decode cX12_nodes 38 = .ok (.invokevirtual 270, 3) := by decide +kernel
theorem dX12_nodes_41 : decode cX12_nodes 41 = .ok (.ireturn, 1) := by decide +kernel
theorem dX12_nodes_42 : decode cX12_nodes 42 = .ok (.iconst 0, 1) := by decide +kernel
theorem dX12_nodes_43 : decode cX12_nodes 43 = .ok (.istore_n 3, 1) := by decide +kernel
theorem dX12_nodes_44 : decode cX12_nodes 44 = .ok (.iconst 0, 1) := by decide +kernel
theorem dX12_nodes_45 : decode cX12_nodes 45 = .ok (.istore 4, 2) := by decide +kernel
theorem dX12_nodes_47 : decode cX12_nodes 47 = .ok (.iload 4, 2) := by decide +kernel
theorem dX12_nodes_49 : decode cX12_nodes 49 = .ok (.aload_n 0, 1) := by decide +kernel
theorem dX12_nodes_50 : decode cX12_nodes 50 = .ok (.getfield 334, 3) := by decide +kernel
theorem dX12_nodes_53 : decode cX12_nodes 53 = .ok (.if_icmp .ge 79, 3) := by decide +kernel
theorem dX12_nodes_56 : decode cX12_nodes 56 = .ok (.aload_n 0, 1) := by decide +kernel
theorem dX12_nodes_57 : decode cX12_nodes 57 = .ok (.getfield 39, 3) := by decide +kernel
theorem dX12_nodes_60 : decode cX12_nodes 60 = .ok (.iload 4, 2) := by decide +kernel
theorem dX12_nodes_62 : decode cX12_nodes 62 = .ok (.iaload, 1) := by decide +kernel
theorem dX12_nodes_63 : decode cX12_nodes 63 = .ok (.bipush (-2), 2) := by decide +kernel
theorem dX12_nodes_65 : decode cX12_nodes 65 = .ok (.if_icmp .ne 7, 3) := by decide +kernel
theorem dX12_nodes_68 : decode cX12_nodes 68 = .ok (.iconst 1, 1) := by decide +kernel
theorem dX12_nodes_69 : decode cX12_nodes 69 = .ok (.goto 4, 3) := by decide +kernel
theorem dX12_nodes_72 : decode cX12_nodes 72 = .ok (.iconst 0, 1) := by decide +kernel
theorem dX12_nodes_73 : decode cX12_nodes 73 = .ok (.istore 5, 2) := by decide +kernel
theorem dX12_nodes_75 : decode cX12_nodes 75 = .ok (.iload_n 3, 1) := by decide +kernel
theorem dX12_nodes_76 : decode cX12_nodes 76 = .ok (.iload_n 2, 1) := by decide +kernel
theorem dX12_nodes_77 : decode cX12_nodes 77 = .ok (.ifCond .ne 11, 3) := by decide +kernel
theorem dX12_nodes_80 : decode cX12_nodes 80 = .ok (.iload 5, 2) := by decide +kernel
theorem dX12_nodes_82 : decode cX12_nodes 82 = .ok (.ifCond .eq 41, 3) := by decide +kernel
theorem dX12_nodes_85 : decode cX12_nodes 85 = .ok (.goto 34, 3) := by decide +kernel
theorem dX12_nodes_88 : decode cX12_nodes 88 = .ok (.iload_n 2, 1) := by decide +kernel
theorem dX12_nodes_89 : decode cX12_nodes 89 = .ok (.iconst 1, 1) := by decide +kernel
theorem dX12_nodes_90 : decode cX12_nodes 90 = .ok (.if_icmp .ne 15, 3) := by decide +kernel
theorem dX12_nodes_93 : decode cX12_nodes 93 = .ok (.aload_n 0, 1) := by decide +kernel
theorem dX12_nodes_94 : decode cX12_nodes 94 = .ok (.iload 4, 2) := by decide +kernel
theorem dX12_nodes_96 : decode cX12_nodes 96 = .ok (.invokevirtual 381, 3) := by decide +kernel
theorem dX12_nodes_99 : decode cX12_nodes 99 = .ok (.ifCond .eq 24, 3) := by decide +kernel
theorem dX12_nodes_102 : decode cX12_nodes 102 = .ok (.goto 17, 3) := by decide +kernel
theorem dX12_nodes_105 : decode cX12_nodes 105 = .ok (.iload 5, 2) := by decide +kernel
theorem dX12_nodes_107 : decode cX12_nodes 107 = .ok (.ifCond .ne 16, 3) := by decide +kernel
theorem dX12_nodes_110 : decode cX12_nodes 110 = .ok (.aload_n 0, 1) := by decide +kernel
theorem dX12_nodes_111 : decode cX12_nodes 111 = .ok (.iload 4, 2) := by decide +kernel
theorem dX12_nodes_113 : decode cX12_nodes 113 = .ok (.invokevirtual 384, 3) := by decide +kernel
theorem dX12_nodes_116 : decode cX12_nodes 116 = .ok (.ifCond .ne 7, 3) := by decide +kernel
theorem dX12_nodes_119 : decode cX12_nodes 119 = .ok (.iconst 1, 1) := by decide +kernel
theorem dX12_nodes_120 : decode cX12_nodes 120 = .ok (.goto 4, 3) := by decide +kernel
theorem dX12_nodes_123 : decode cX12_nodes 123 = .ok (.iconst 0, 1) := by decide +kernel
theorem dX12_nodes_124 : decode cX12_nodes 124 = .ok (.iadd, 1) := by decide +kernel
theorem dX12_nodes_125 : decode cX12_nodes 125 = .ok (.istore_n 3, 1) := by decide +kernel
theorem dX12_nodes_126 : decode cX12_nodes 126 = .ok (.iinc 4 1, 3) := by decide +kernel
theorem dX12_nodes_129 : decode cX12_nodes 129 = .ok (.goto (-82), 3) := by decide +kernel
theorem dX12_nodes_132 : decode cX12_nodes 132 = .ok (.aload_n 0, 1) := by decide +kernel
theorem dX12_nodes_133 : decode cX12_nodes 133 = .ok (.iload_n 3, 1) := by decide +kernel
theorem dX12_nodes_134 : decode cX12_nodes 134 = .ok (.invokevirtual 288, 3) := by decide +kernel
theorem dX12_nodes_137 : decode cX12_nodes 137 = .ok (.ireturn, 1) := by decide +kernel
theorem dX12_edgeFrom_0 : decode cX12_edgeFrom 0 = .ok (.iload_n 2, 1) := by decide +kernel
theorem dX12_edgeFrom_1 : decode cX12_edgeFrom 1 = .ok (.istore_n 3, 1) := by decide +kernel
theorem dX12_edgeFrom_2 : decode cX12_edgeFrom 2 = .ok (.sipush 6144, 3) := by decide +kernel
theorem dX12_edgeFrom_5 : decode cX12_edgeFrom 5 = .ok (.istore 4, 2) := by decide +kernel
theorem dX12_edgeFrom_7 : decode cX12_edgeFrom 7 = .ok (.iload_n 3, 1) := by decide +kernel
theorem dX12_edgeFrom_8 : decode cX12_edgeFrom 8 = .ok (.iload 4, 2) := by decide +kernel
theorem dX12_edgeFrom_10 : decode cX12_edgeFrom 10 = .ok (.if_icmp .ge 91, 3) := by decide +kernel
theorem dX12_edgeFrom_13 : decode cX12_edgeFrom 13 = .ok (.iload_n 3, 1) := by decide +kernel
theorem dX12_edgeFrom_14 : decode cX12_edgeFrom 14 = .ok (.sipush 2048, 3) := by decide +kernel
theorem dX12_edgeFrom_17 : decode cX12_edgeFrom 17 = .ok (.idiv, 1) := by decide +kernel
theorem dX12_edgeFrom_18 : decode cX12_edgeFrom 18 = .ok (.istore 5, 2) := by decide +kernel
theorem dX12_edgeFrom_20 : decode cX12_edgeFrom 20 = .ok (.iload_n 3, 1) := by decide +kernel
theorem dX12_edgeFrom_21 : decode cX12_edgeFrom 21 = .ok (.sipush 2048, 3) := by decide +kernel
theorem dX12_edgeFrom_24 : decode cX12_edgeFrom 24 = .ok (.irem, 1) := by decide +kernel
theorem dX12_edgeFrom_25 : decode cX12_edgeFrom 25 = .ok (.sipush 512, 3) := by decide +kernel
theorem dX12_edgeFrom_28 : decode cX12_edgeFrom 28 = .ok (.idiv, 1) := by decide +kernel
theorem dX12_edgeFrom_29 : decode cX12_edgeFrom 29 = .ok (.istore 6, 2) := by decide +kernel
theorem dX12_edgeFrom_31 : decode cX12_edgeFrom 31 = .ok (.iload_n 3, 1) := by decide +kernel
theorem dX12_edgeFrom_32 : decode cX12_edgeFrom 32 = .ok (.sipush 512, 3) := by decide +kernel
theorem dX12_edgeFrom_35 : decode cX12_edgeFrom 35 = .ok (.irem, 1) := by decide +kernel
theorem dX12_edgeFrom_36 : decode cX12_edgeFrom 36 = .ok (.istore 7, 2) := by decide +kernel
theorem dX12_edgeFrom_38 : decode cX12_edgeFrom 38 = .ok (.iload 5, 2) := by decide +kernel
theorem dX12_edgeFrom_40 : decode cX12_edgeFrom 40 = .ok (.aload_n 0, 1) := by decide +kernel
theorem dX12_edgeFrom_41 : decode cX12_edgeFrom 41 = .ok (.getfield 283, 3) := by decide +kernel
theorem dX12_edgeFrom_44 : decode cX12_edgeFrom 44 = .ok (.if_icmp .lt 5, 3) := by decide +kernel
theorem dX12_edgeFrom_47 : decode cX12_edgeFrom 47 = .ok (.iconst (-1), 1) := by decide +kernel
theorem dX12_edgeFrom_48 : decode cX12_edgeFrom 48 = .ok (.ireturn, 1) := by decide +kernel
theorem dX12_edgeFrom_49 : decode cX12_edgeFrom 49 = .ok (.aload_n 0, 1) := by decide +kernel
theorem dX12_edgeFrom_50 : decode cX12_edgeFrom 50 = .ok (.iload_n 1, 1) := by decide +kernel
theorem dX12_edgeFrom_51 : decode cX12_edgeFrom 51 = .ok (.iload 5, 2) := by decide +kernel
theorem dX12_edgeFrom_53 : decode cX12_edgeFrom 53 = .ok (.iload 6, 2) := by decide +kernel
theorem dX12_edgeFrom_55 : decode cX12_edgeFrom 55 = .ok (.iload 7, 2) := by decide +kernel
theorem dX12_edgeFrom_57 : decode cX12_edgeFrom 57 = .ok (.invokevirtual 390, 3) := by decide +kernel
theorem dX12_edgeFrom_60 : decode cX12_edgeFrom 60 = .ok (.istore 8, 2) := by decide +kernel
theorem dX12_edgeFrom_62 : decode cX12_edgeFrom 62 = .ok (.iload 8, 2) := by decide +kernel
theorem dX12_edgeFrom_64 : decode cX12_edgeFrom 64 = .ok (.iconst 1, 1) := by decide +kernel
theorem dX12_edgeFrom_65 : decode cX12_edgeFrom 65 = .ok (.if_icmp .ne 5, 3) := by decide +kernel
theorem dX12_edgeFrom_68 : decode cX12_edgeFrom 68 = .ok (.iload_n 3, 1) := by decide +kernel
theorem dX12_edgeFrom_69 : decode cX12_edgeFrom 69 = .ok (.ireturn, 1) := by decide +kernel
theorem dX12_edgeFrom_70 : decode cX12_edgeFrom 70 = .ok (.iload 8, 2) := by decide +kernel
theorem dX12_edgeFrom_72 : decode cX12_edgeFrom 72 = .ok (.ifCond .ne 14, 3) := by decide +kernel
theorem dX12_edgeFrom_75 : decode cX12_edgeFrom 75 = .ok (.iload_n 3, 1) := by decide +kernel
theorem dX12_edgeFrom_76 : decode cX12_edgeFrom 76 = .ok (.iload 7, 2) := by decide +kernel
theorem dX12_edgeFrom_78 : decode cX12_edgeFrom 78 = .ok (.isub, 1) := by decide +kernel
theorem dX12_edgeFrom_79 : decode cX12_edgeFrom 79 = .ok (.sipush 512, 3) := by decide +kernel
theorem dX12_edgeFrom_82 : decode cX12_edgeFrom 82 = .ok (.iadd, 1) := by decide +kernel
theorem dX12_edgeFrom_83 : decode cX12_edgeFrom 83 = .ok (.goto 14, 3) := by decide +kernel
theorem dX12_edgeFrom_86 : decode cX12_edgeFrom 86 = .ok (.iload_n 3, 1) := by decide +kernel
theorem dX12_edgeFrom_87 : decode cX12_edgeFrom 87 = .ok (.iload_n 3, 1) := by decide +kernel
theorem dX12_edgeFrom_88 : decode cX12_edgeFrom 88 = .ok (.sipush 2048, 3) := by decide +kernel
theorem dX12_edgeFrom_91 : decode cX12_edgeFrom 91 = .ok (.irem, 1) := by decide +kernel
theorem dX12_edgeFrom_92 : decode cX12_edgeFrom 92 = .ok (.isub, 1) := by decide +kernel
theorem dX12_edgeFrom_93 : decode cX12_edgeFrom 93 = .ok (.sipush 2048, 3) := by decide +kernel
theorem dX12_edgeFrom_96 : decode cX12_edgeFrom 96 = .ok (.iadd, 1) := by decide +kernel
theorem dX12_edgeFrom_97 : decode cX12_edgeFrom 97 = .ok (.istore_n 3, 1) := by decide +kernel
theorem dX12_edgeFrom_98 : decode cX12_edgeFrom 98 = .ok (.goto (-91), 3) := by decide +kernel
theorem dX12_edgeFrom_101 : decode cX12_edgeFrom 101 = .ok (.iconst (-1), 1) := by decide +kernel
theorem dX12_edgeFrom_102 : decode cX12_edgeFrom 102 = .ok (.ireturn, 1) := by decide +kernel
theorem dX12_hasEdge_0 : decode cX12_hasEdge 0 = .ok (.aload_n 0, 1) := by decide +kernel
theorem dX12_hasEdge_1 : decode cX12_hasEdge 1 = .ok (.getfield 393, 3) := by decide +kernel
theorem dX12_hasEdge_4 : decode cX12_hasEdge 4 = .ok (.tableswitch 179 0 3 #[32, 56, 77, 122], 32) := by decide +kernel
theorem dX12_hasEdge_36 : decode cX12_hasEdge 36 = .ok (.iload 4, 2) := by decide +kernel
theorem dX12_hasEdge_38 : decode cX12_hasEdge 38 = .ok (.ifCond .ne 20, 3) := by decide +kernel
theorem dX12_hasEdge_41 : decode cX12_hasEdge 41 = .ok (.aload_n 0, 1) := by decide +kernel
theorem dX12_hasEdge_42 : decode cX12_hasEdge 42 = .ok (.aload_n 0, 1) := by decide +kernel
theorem dX12_hasEdge_43 : decode cX12_hasEdge 43 = .ok (.getfield 396, 3) := by decide +kernel
theorem dX12_hasEdge_46 : decode cX12_hasEdge 46 = .ok (.iload_n 2, 1) := by decide +kernel
theorem dX12_hasEdge_47 : decode cX12_hasEdge 47 = .ok (.iload_n 1, 1) := by decide +kernel
theorem dX12_hasEdge_48 : decode cX12_hasEdge 48 = .ok (.invokevirtual 309, 3) := by decide +kernel
theorem dX12_hasEdge_51 : decode cX12_hasEdge 51 = .ok (.iload_n 3, 1) := by decide +kernel
theorem dX12_hasEdge_52 : decode cX12_hasEdge 52 = .ok (.ishr, 1) := by decide +kernel
theorem dX12_hasEdge_53 : decode cX12_hasEdge 53 = .ok (.iconst 1, 1) := by decide +kernel
theorem dX12_hasEdge_54 : decode cX12_hasEdge 54 = .ok (.iand, 1) := by decide +kernel
theorem dX12_hasEdge_55 : decode cX12_hasEdge 55 = .ok (.goto 4, 3) := by decide +kernel
theorem dX12_hasEdge_58 : decode cX12_hasEdge 58 = .ok (.iconst 0, 1) := by decide +kernel
theorem dX12_hasEdge_59 : decode cX12_hasEdge 59 = .ok (.ireturn, 1) := by decide +kernel
theorem dX12_hasEdge_60 : decode cX12_hasEdge 60 = .ok (.iload_n 3, 1) := by decide +kernel
theorem dX12_hasEdge_61 : decode cX12_hasEdge 61 = .ok (.ifCond .ne 18, 3) := by decide +kernel
theorem dX12_hasEdge_64 : decode cX12_hasEdge 64 = .ok (.iload 4, 2) := by decide +kernel
theorem dX12_hasEdge_66 : decode cX12_hasEdge 66 = .ok (.aload_n 0, 1) := by decide +kernel
theorem dX12_hasEdge_67 : decode cX12_hasEdge 67 = .ok (.iload_n 1, 1) := by decide +kernel
theorem dX12_hasEdge_68 : decode cX12_hasEdge 68 = .ok (.iload_n 2, 1) := by decide +kernel
theorem dX12_hasEdge_69 : decode cX12_hasEdge 69 = .ok (.invokevirtual 387, 3) := by decide +kernel
theorem dX12_hasEdge_72 : decode cX12_hasEdge 72 = .ok (.if_icmp .ge 7, 3) := by decide +kernel
theorem dX12_hasEdge_75 : decode cX12_hasEdge 75 = .ok (.iconst 1, 1) := by decide +kernel
theorem dX12_hasEdge_76 : decode cX12_hasEdge 76 = .ok (.goto 4, 3) := by decide +kernel
theorem dX12_hasEdge_79 : decode cX12_hasEdge 79 = .ok (.iconst (-1), 1) := by decide +kernel
theorem dX12_hasEdge_80 : decode cX12_hasEdge 80 = .ok (.ireturn, 1) := by decide +kernel
theorem dX12_hasEdge_81 : decode cX12_hasEdge 81 = .ok (.aload_n 0, 1) := by decide +kernel
theorem dX12_hasEdge_82 : decode cX12_hasEdge 82 = .ok (.aload_n 0, 1) := by decide +kernel
theorem dX12_hasEdge_83 : decode cX12_hasEdge 83 = .ok (.getfield 396, 3) := by decide +kernel
theorem dX12_hasEdge_86 : decode cX12_hasEdge 86 = .ok (.iload_n 2, 1) := by decide +kernel
theorem dX12_hasEdge_87 : decode cX12_hasEdge 87 = .ok (.aload_n 0, 1) := by decide +kernel
theorem dX12_hasEdge_88 : decode cX12_hasEdge 88 = .ok (.getfield 73, 3) := by decide +kernel
theorem dX12_hasEdge_91 : decode cX12_hasEdge 91 = .ok (.iload_n 1, 1) := by decide +kernel
theorem dX12_hasEdge_92 : decode cX12_hasEdge 92 = .ok (.iaload, 1) := by decide +kernel
theorem dX12_hasEdge_93 : decode cX12_hasEdge 93 = .ok (.invokevirtual 309, 3) := by decide +kernel
theorem dX12_hasEdge_96 : decode cX12_hasEdge 96 = .ok (.iload_n 3, 1) := by decide +kernel
theorem dX12_hasEdge_97 : decode cX12_hasEdge 97 = .ok (.ishr, 1) := by decide +kernel
theorem dX12_hasEdge_98 : decode cX12_hasEdge 98 = .ok (.iconst 1, 1) := by decide +kernel
theorem dX12_hasEdge_99 : decode cX12_hasEdge 99 = .ok (.iand, 1) := by decide +kernel
theorem dX12_hasEdge_100 : decode cX12_hasEdge 100 = .ok (.iconst 1, 1) := by decide +kernel
theorem dX12_hasEdge_101 : decode cX12_hasEdge 101 = .ok (.if_icmp .ne 23, 3) := by decide +kernel
theorem dX12_hasEdge_104 : decode cX12_hasEdge 104 = .ok (.iload 4, 2) := by decide +kernel
theorem dX12_hasEdge_106 : decode cX12_hasEdge 106 = .ok (.aload_n 0, 1) := by decide +kernel
theorem dX12_hasEdge_107 : decode cX12_hasEdge 107 = .ok (.aload_n 0, 1) := by decide +kernel
theorem dX12_hasEdge_108 : decode cX12_hasEdge 108 = .ok (.getfield 76, 3) := by decide +kernel
theorem dX12_hasEdge_111 : decode cX12_hasEdge 111 = .ok (.iload_n 1, 1) := by decide +kernel
theorem dX12_hasEdge_112 : decode cX12_hasEdge 112 = .ok (.iaload, 1) := by decide +kernel
theorem dX12_hasEdge_113 : decode cX12_hasEdge 113 = .ok (.iload_n 2, 1) := by decide +kernel
theorem dX12_hasEdge_114 : decode cX12_hasEdge 114 = .ok (.invokevirtual 387, 3) := by decide +kernel
theorem dX12_hasEdge_117 : decode cX12_hasEdge 117 = .ok (.if_icmp .ge 7, 3) := by decide +kernel
theorem dX12_hasEdge_120 : decode cX12_hasEdge 120 = .ok (.iconst 1, 1) := by decide +kernel
theorem dX12_hasEdge_121 : decode cX12_hasEdge 121 = .ok (.goto 4, 3) := by decide +kernel
theorem dX12_hasEdge_124 : decode cX12_hasEdge 124 = .ok (.iconst 0, 1) := by decide +kernel
theorem dX12_hasEdge_125 : decode cX12_hasEdge 125 = .ok (.ireturn, 1) := by decide +kernel
theorem dX12_hasEdge_126 : decode cX12_hasEdge 126 = .ok (.iload_n 2, 1) := by decide +kernel
theorem dX12_hasEdge_127 : decode cX12_hasEdge 127 = .ok (.aload_n 0, 1) := by decide +kernel
theorem dX12_hasEdge_128 : decode cX12_hasEdge 128 = .ok (.getfield 70, 3) := by decide +kernel
theorem dX12_hasEdge_131 : decode cX12_hasEdge 131 = .ok (.iload_n 1, 1) := by decide +kernel
theorem dX12_hasEdge_132 : decode cX12_hasEdge 132 = .ok (.bipush 10, 2) := by decide +kernel
theorem dX12_hasEdge_134 : decode cX12_hasEdge 134 = .ok (.irem, 1) := by decide +kernel
theorem dX12_hasEdge_135 : decode cX12_hasEdge 135 = .ok (.iaload, 1) := by decide +kernel
theorem dX12_hasEdge_136 : decode cX12_hasEdge 136 = .ok (.if_icmp .ne 28, 3) := by decide +kernel
theorem dX12_hasEdge_139 : decode cX12_hasEdge 139 = .ok (.iload 4, 2) := by decide +kernel
theorem dX12_hasEdge_141 : decode cX12_hasEdge 141 = .ok (.ifCond .ne 23, 3) := by decide +kernel
theorem dX12_hasEdge_144 : decode cX12_hasEdge 144 = .ok (.aload_n 0, 1) := by decide +kernel
theorem dX12_hasEdge_145 : decode cX12_hasEdge 145 = .ok (.aload_n 0, 1) := by decide +kernel
theorem dX12_hasEdge_146 : decode cX12_hasEdge 146 = .ok (.getfield 396, 3) := by decide +kernel
theorem dX12_hasEdge_149 : decode cX12_hasEdge 149 = .ok (.iload_n 2, 1) := by decide +kernel
theorem dX12_hasEdge_150 : decode cX12_hasEdge 150 = .ok (.iload_n 1, 1) := by decide +kernel
theorem dX12_hasEdge_151 : decode cX12_hasEdge 151 = .ok (.bipush 10, 2) := by decide +kernel
theorem dX12_hasEdge_153 : decode cX12_hasEdge 153 = .ok (.idiv, 1) := by decide +kernel
theorem dX12_hasEdge_154 : decode cX12_hasEdge 154 = .ok (.invokevirtual 309, 3) := by decide +kernel
theorem dX12_hasEdge_157 : decode cX12_hasEdge 157 = .ok (.iload_n 3, 1) := by decide +kernel
theorem dX12_hasEdge_158 : decode cX12_hasEdge 158 = .ok (.ishr, 1) := by decide +kernel
theorem dX12_hasEdge_159 : decode cX12_hasEdge 159 = .ok (.iconst 1, 1) := by decide +kernel
theorem dX12_hasEdge_160 : decode cX12_hasEdge 160 = .ok (.iand, 1) := by decide +kernel
theorem dX12_hasEdge_161 : decode cX12_hasEdge 161 = .ok (.goto 21, 3) := by decide +kernel
theorem dX12_hasEdge_164 : decode cX12_hasEdge 164 = .ok (.iload_n 2, 1) := by decide +kernel
theorem dX12_hasEdge_165 : decode cX12_hasEdge 165 = .ok (.aload_n 0, 1) := by decide +kernel
theorem dX12_hasEdge_166 : decode cX12_hasEdge 166 = .ok (.getfield 70, 3) := by decide +kernel
theorem dX12_hasEdge_169 : decode cX12_hasEdge 169 = .ok (.iload_n 1, 1) := by decide +kernel
theorem dX12_hasEdge_170 : decode cX12_hasEdge 170 = .ok (.bipush 10, 2) := by decide +kernel
theorem dX12_hasEdge_172 : decode cX12_hasEdge 172 = .ok (.irem, 1) := by decide +kernel
theorem dX12_hasEdge_173 : decode cX12_hasEdge 173 = .ok (.iaload, 1) := by decide +kernel
theorem dX12_hasEdge_174 : decode cX12_hasEdge 174 = .ok (.if_icmp .ne 7, 3) := by decide +kernel
theorem dX12_hasEdge_177 : decode cX12_hasEdge 177 = .ok (.iconst 0, 1) := by decide +kernel
theorem dX12_hasEdge_178 : decode cX12_hasEdge 178 = .ok (.goto 4, 3) := by decide +kernel
theorem dX12_hasEdge_181 : decode cX12_hasEdge 181 = .ok (.iconst (-1), 1) := by decide +kernel
theorem dX12_hasEdge_182 : decode cX12_hasEdge 182 = .ok (.ireturn, 1) := by decide +kernel
theorem dX12_hasEdge_183 : decode cX12_hasEdge 183 = .ok (.iload_n 2, 1) := by decide +kernel
theorem dX12_hasEdge_184 : decode cX12_hasEdge 184 = .ok (.aload_n 0, 1) := by decide +kernel
theorem dX12_hasEdge_185 : decode cX12_hasEdge 185 = .ok (.getfield 70, 3) := by decide +kernel
theorem dX12_hasEdge_188 : decode cX12_hasEdge 188 = .ok (.iload_n 1, 1) := by decide +kernel
theorem dX12_hasEdge_189 : decode cX12_hasEdge 189 = .ok (.bipush 10, 2) := by decide +kernel
theorem dX12_hasEdge_191 : decode cX12_hasEdge 191 = .ok (.irem, 1) := by decide +kernel
theorem dX12_hasEdge_192 : decode cX12_hasEdge 192 = .ok (.iaload, 1) := by decide +kernel
theorem dX12_hasEdge_193 : decode cX12_hasEdge 193 = .ok (.if_icmp .ne 25, 3) := by decide +kernel
theorem dX12_hasEdge_196 : decode cX12_hasEdge 196 = .ok (.iload_n 3, 1) := by decide +kernel
theorem dX12_hasEdge_197 : decode cX12_hasEdge 197 = .ok (.ifCond .ne 21, 3) := by decide +kernel
theorem dX12_hasEdge_200 : decode cX12_hasEdge 200 = .ok (.iload 4, 2) := by decide +kernel
theorem dX12_hasEdge_202 : decode cX12_hasEdge 202 = .ok (.aload_n 0, 1) := by decide +kernel
theorem dX12_hasEdge_203 : decode cX12_hasEdge 203 = .ok (.iload_n 1, 1) := by decide +kernel
theorem dX12_hasEdge_204 : decode cX12_hasEdge 204 = .ok (.bipush 10, 2) := by decide +kernel
theorem dX12_hasEdge_206 : decode cX12_hasEdge 206 = .ok (.idiv, 1) := by decide +kernel
theorem dX12_hasEdge_207 : decode cX12_hasEdge 207 = .ok (.iload_n 2, 1) := by decide +kernel
theorem dX12_hasEdge_208 : decode cX12_hasEdge 208 = .ok (.invokevirtual 387, 3) := by decide +kernel
theorem dX12_hasEdge_211 : decode cX12_hasEdge 211 = .ok (.if_icmp .ge 7, 3) := by decide +kernel
theorem dX12_hasEdge_214 : decode cX12_hasEdge 214 = .ok (.iconst 1, 1) := by decide +kernel
theorem dX12_hasEdge_215 : decode cX12_hasEdge 215 = .ok (.goto 4, 3) := by decide +kernel
theorem dX12_hasEdge_218 : decode cX12_hasEdge 218 = .ok (.iconst (-1), 1) := by decide +kernel
theorem dX12_hasEdge_219 : decode cX12_hasEdge 219 = .ok (.ireturn, 1) := by decide +kernel
theorem dX12_edgeAt_0 : decode cX12_edgeAt 0 = .ok (.aload_n 0, 1) := by decide +kernel
theorem dX12_edgeAt_1 : decode cX12_edgeAt 1 = .ok (.getfield 58, 3) := by decide +kernel
theorem dX12_edgeAt_4 : decode cX12_edgeAt 4 = .ok (.aload_n 0, 1) := by decide +kernel
theorem dX12_edgeAt_5 : decode cX12_edgeAt 5 = .ok (.getfield 54, 3) := by decide +kernel
theorem dX12_edgeAt_8 : decode cX12_edgeAt 8 = .ok (.iconst 3, 1) := by decide +kernel
theorem dX12_edgeAt_9 : decode cX12_edgeAt 9 = .ok (.iload_n 1, 1) := by decide +kernel
theorem dX12_edgeAt_10 : decode cX12_edgeAt 10 = .ok (.imul, 1) := by decide +kernel
theorem dX12_edgeAt_11 : decode cX12_edgeAt 11 = .ok (.iload_n 2, 1) := by decide +kernel
theorem dX12_edgeAt_12 : decode cX12_edgeAt 12 = .ok (.iadd, 1) := by decide +kernel
theorem dX12_edgeAt_13 : decode cX12_edgeAt 13 = .ok (.iaload, 1) := by decide +kernel
theorem dX12_edgeAt_14 : decode cX12_edgeAt 14 = .ok (.iload_n 3, 1) := by decide +kernel
theorem dX12_edgeAt_15 : decode cX12_edgeAt 15 = .ok (.iadd, 1) := by decide +kernel
theorem dX12_edgeAt_16 : decode cX12_edgeAt 16 = .ok (.iaload, 1) := by decide +kernel
theorem dX12_edgeAt_17 : decode cX12_edgeAt 17 = .ok (.ireturn, 1) := by decide +kernel
theorem dX12_goesBy_0 : decode cX12_goesBy 0 = .ok (.iload_n 2, 1) := by decide +kernel
theorem dX12_goesBy_1 : decode cX12_goesBy 1 = .ok (.sipush 2048, 3) := by decide +kernel
theorem dX12_goesBy_4 : decode cX12_goesBy 4 = .ok (.idiv, 1) := by decide +kernel
theorem dX12_goesBy_5 : decode cX12_goesBy 5 = .ok (.istore_n 3, 1) := by decide +kernel
theorem dX12_goesBy_6 : decode cX12_goesBy 6 = .ok (.iload_n 2, 1) := by decide +kernel
theorem dX12_goesBy_7 : decode cX12_goesBy 7 = .ok (.sipush 2048, 3) := by decide +kernel
theorem dX12_goesBy_10 : decode cX12_goesBy 10 = .ok (.irem, 1) := by decide +kernel
theorem dX12_goesBy_11 : decode cX12_goesBy 11 = .ok (.sipush 512, 3) := by decide +kernel
theorem dX12_goesBy_14 : decode cX12_goesBy 14 = .ok (.idiv, 1) := by decide +kernel
theorem dX12_goesBy_15 : decode cX12_goesBy 15 = .ok (.istore 4, 2) := by decide +kernel
theorem dX12_goesBy_17 : decode cX12_goesBy 17 = .ok (.iload_n 2, 1) := by decide +kernel
theorem dX12_goesBy_18 : decode cX12_goesBy 18 = .ok (.sipush 512, 3) := by decide +kernel
theorem dX12_goesBy_21 : decode cX12_goesBy 21 = .ok (.irem, 1) := by decide +kernel
theorem dX12_goesBy_22 : decode cX12_goesBy 22 = .ok (.istore 5, 2) := by decide +kernel
theorem dX12_goesBy_24 : decode cX12_goesBy 24 = .ok (.aload_n 0, 1) := by decide +kernel
theorem dX12_goesBy_25 : decode cX12_goesBy 25 = .ok (.getfield 393, 3) := by decide +kernel
theorem dX12_goesBy_28 : decode cX12_goesBy 28 = .ok (.tableswitch 134 0 3 #[32, 35, 44, 116], 32) := by decide +kernel
theorem dX12_goesBy_60 : decode cX12_goesBy 60 = .ok (.iload 4, 2) := by decide +kernel
theorem dX12_goesBy_62 : decode cX12_goesBy 62 = .ok (.ireturn, 1) := by decide +kernel
theorem dX12_goesBy_63 : decode cX12_goesBy 63 = .ok (.aload_n 0, 1) := by decide +kernel
theorem dX12_goesBy_64 : decode cX12_goesBy 64 = .ok (.iload_n 1, 1) := by decide +kernel
theorem dX12_goesBy_65 : decode cX12_goesBy 65 = .ok (.iload_n 3, 1) := by decide +kernel
theorem dX12_goesBy_66 : decode cX12_goesBy 66 = .ok (.iload 5, 2) := by decide +kernel
theorem dX12_goesBy_68 : decode cX12_goesBy 68 = .ok (.invokevirtual 399, 3) := by decide +kernel
theorem dX12_goesBy_71 : decode cX12_goesBy 71 = .ok (.ireturn, 1) := by decide +kernel
theorem dX12_goesBy_72 : decode cX12_goesBy 72 = .ok (.aload_n 0, 1) := by decide +kernel
theorem dX12_goesBy_73 : decode cX12_goesBy 73 = .ok (.getfield 79, 3) := by decide +kernel
theorem dX12_goesBy_76 : decode cX12_goesBy 76 = .ok (.iload_n 1, 1) := by decide +kernel
theorem dX12_goesBy_77 : decode cX12_goesBy 77 = .ok (.iaload, 1) := by decide +kernel
theorem dX12_goesBy_78 : decode cX12_goesBy 78 = .ok (.ifCond .ne 24, 3) := by decide +kernel
theorem dX12_goesBy_81 : decode cX12_goesBy 81 = .ok (.aload_n 0, 1) := by decide +kernel
theorem dX12_goesBy_82 : decode cX12_goesBy 82 = .ok (.getfield 23, 3) := by decide +kernel
theorem dX12_goesBy_85 : decode cX12_goesBy 85 = .ok (.aload_n 0, 1) := by decide +kernel
theorem dX12_goesBy_86 : decode cX12_goesBy 86 = .ok (.getfield 396, 3) := by decide +kernel
theorem dX12_goesBy_89 : decode cX12_goesBy 89 = .ok (.iaload, 1) := by decide +kernel
theorem dX12_goesBy_90 : decode cX12_goesBy 90 = .ok (.aload_n 0, 1) := by decide +kernel
theorem dX12_goesBy_91 : decode cX12_goesBy 91 = .ok (.getfield 73, 3) := by decide +kernel
theorem dX12_goesBy_94 : decode cX12_goesBy 94 = .ok (.iload_n 1, 1) := by decide +kernel
theorem dX12_goesBy_95 : decode cX12_goesBy 95 = .ok (.iaload, 1) := by decide +kernel
theorem dX12_goesBy_96 : decode cX12_goesBy 96 = .ok (.ishr, 1) := by decide +kernel
theorem dX12_goesBy_97 : decode cX12_goesBy 97 = .ok (.iconst 1, 1) := by decide +kernel
theorem dX12_goesBy_98 : decode cX12_goesBy 98 = .ok (.iand, 1) := by decide +kernel
theorem dX12_goesBy_99 : decode cX12_goesBy 99 = .ok (.goto 21, 3) := by decide +kernel
theorem dX12_goesBy_102 : decode cX12_goesBy 102 = .ok (.aload_n 0, 1) := by decide +kernel
theorem dX12_goesBy_103 : decode cX12_goesBy 103 = .ok (.aload_n 0, 1) := by decide +kernel
theorem dX12_goesBy_104 : decode cX12_goesBy 104 = .ok (.getfield 76, 3) := by decide +kernel
theorem dX12_goesBy_107 : decode cX12_goesBy 107 = .ok (.iload_n 1, 1) := by decide +kernel
theorem dX12_goesBy_108 : decode cX12_goesBy 108 = .ok (.iaload, 1) := by decide +kernel
theorem dX12_goesBy_109 : decode cX12_goesBy 109 = .ok (.invokevirtual 381, 3) := by decide +kernel
theorem dX12_goesBy_112 : decode cX12_goesBy 112 = .ok (.ifCond .eq 7, 3) := by decide +kernel
theorem dX12_goesBy_115 : decode cX12_goesBy 115 = .ok (.iconst 0, 1) := by decide +kernel
theorem dX12_goesBy_116 : decode cX12_goesBy 116 = .ok (.goto 4, 3) := by decide +kernel
theorem dX12_goesBy_119 : decode cX12_goesBy 119 = .ok (.iconst 1, 1) := by decide +kernel
theorem dX12_goesBy_120 : decode cX12_goesBy 120 = .ok (.istore 6, 2) := by decide +kernel
theorem dX12_goesBy_122 : decode cX12_goesBy 122 = .ok (.aload_n 0, 1) := by decide +kernel
theorem dX12_goesBy_123 : decode cX12_goesBy 123 = .ok (.iload 4, 2) := by decide +kernel
theorem dX12_goesBy_125 : decode cX12_goesBy 125 = .ok (.aload_n 0, 1) := by decide +kernel
theorem dX12_goesBy_126 : decode cX12_goesBy 126 = .ok (.aload_n 0, 1) := by decide +kernel
theorem dX12_goesBy_127 : decode cX12_goesBy 127 = .ok (.getfield 76, 3) := by decide +kernel
theorem dX12_goesBy_130 : decode cX12_goesBy 130 = .ok (.iload_n 1, 1) := by decide +kernel
theorem dX12_goesBy_131 : decode cX12_goesBy 131 = .ok (.iaload, 1) := by decide +kernel
theorem dX12_goesBy_132 : decode cX12_goesBy 132 = .ok (.iload_n 3, 1) := by decide +kernel
theorem dX12_goesBy_133 : decode cX12_goesBy 133 = .ok (.iload 5, 2) := by decide +kernel
theorem dX12_goesBy_135 : decode cX12_goesBy 135 = .ok (.invokevirtual 399, 3) := by decide +kernel
theorem dX12_goesBy_138 : decode cX12_goesBy 138 = .ok (.iload 6, 2) := by decide +kernel
theorem dX12_goesBy_140 : decode cX12_goesBy 140 = .ok (.invokevirtual 402, 3) := by decide +kernel
theorem dX12_goesBy_143 : decode cX12_goesBy 143 = .ok (.ireturn, 1) := by decide +kernel
theorem dX12_goesBy_144 : decode cX12_goesBy 144 = .ok (.bipush 10, 2) := by decide +kernel
theorem dX12_goesBy_146 : decode cX12_goesBy 146 = .ok (.iload 4, 2) := by decide +kernel
theorem dX12_goesBy_148 : decode cX12_goesBy 148 = .ok (.imul, 1) := by decide +kernel
theorem dX12_goesBy_149 : decode cX12_goesBy 149 = .ok (.iload_n 1, 1) := by decide +kernel
theorem dX12_goesBy_150 : decode cX12_goesBy 150 = .ok (.bipush 10, 2) := by decide +kernel
theorem dX12_goesBy_152 : decode cX12_goesBy 152 = .ok (.irem, 1) := by decide +kernel
theorem dX12_goesBy_153 : decode cX12_goesBy 153 = .ok (.iconst 1, 1) := by decide +kernel
theorem dX12_goesBy_154 : decode cX12_goesBy 154 = .ok (.iadd, 1) := by decide +kernel
theorem dX12_goesBy_155 : decode cX12_goesBy 155 = .ok (.aload_n 0, 1) := by decide +kernel
theorem dX12_goesBy_156 : decode cX12_goesBy 156 = .ok (.getfield 405, 3) := by decide +kernel
theorem dX12_goesBy_159 : decode cX12_goesBy 159 = .ok (.irem, 1) := by decide +kernel
theorem dX12_goesBy_160 : decode cX12_goesBy 160 = .ok (.iadd, 1) := by decide +kernel
theorem dX12_goesBy_161 : decode cX12_goesBy 161 = .ok (.ireturn, 1) := by decide +kernel
theorem dX12_goesBy_162 : decode cX12_goesBy 162 = .ok (.bipush 10, 2) := by decide +kernel
theorem dX12_goesBy_164 : decode cX12_goesBy 164 = .ok (.aload_n 0, 1) := by decide +kernel
theorem dX12_goesBy_165 : decode cX12_goesBy 165 = .ok (.iload_n 1, 1) := by decide +kernel
theorem dX12_goesBy_166 : decode cX12_goesBy 166 = .ok (.bipush 10, 2) := by decide +kernel
theorem dX12_goesBy_168 : decode cX12_goesBy 168 = .ok (.idiv, 1) := by decide +kernel
theorem dX12_goesBy_169 : decode cX12_goesBy 169 = .ok (.iload_n 3, 1) := by decide +kernel
theorem dX12_goesBy_170 : decode cX12_goesBy 170 = .ok (.iload 5, 2) := by decide +kernel
theorem dX12_goesBy_172 : decode cX12_goesBy 172 = .ok (.invokevirtual 399, 3) := by decide +kernel
theorem dX12_goesBy_175 : decode cX12_goesBy 175 = .ok (.imul, 1) := by decide +kernel
theorem dX12_goesBy_176 : decode cX12_goesBy 176 = .ok (.iload_n 1, 1) := by decide +kernel
theorem dX12_goesBy_177 : decode cX12_goesBy 177 = .ok (.bipush 10, 2) := by decide +kernel
theorem dX12_goesBy_179 : decode cX12_goesBy 179 = .ok (.irem, 1) := by decide +kernel
theorem dX12_goesBy_180 : decode cX12_goesBy 180 = .ok (.iconst 1, 1) := by decide +kernel
theorem dX12_goesBy_181 : decode cX12_goesBy 181 = .ok (.iadd, 1) := by decide +kernel
theorem dX12_goesBy_182 : decode cX12_goesBy 182 = .ok (.aload_n 0, 1) := by decide +kernel
theorem dX12_goesBy_183 : decode cX12_goesBy 183 = .ok (.getfield 405, 3) := by decide +kernel
theorem dX12_goesBy_186 : decode cX12_goesBy 186 = .ok (.irem, 1) := by decide +kernel
theorem dX12_goesBy_187 : decode cX12_goesBy 187 = .ok (.iadd, 1) := by decide +kernel
theorem dX12_goesBy_188 : decode cX12_goesBy 188 = .ok (.ireturn, 1) := by decide +kernel
theorem dX12_three_0 : decode cX12_three 0 = .ok (.iload_n 1, 1) := by decide +kernel
theorem dX12_three_1 : decode cX12_three 1 = .ok (.sipush 300, 3) := by decide +kernel
theorem dX12_three_4 : decode cX12_three 4 = .ok (.imul, 1) := by decide +kernel
theorem dX12_three_5 : decode cX12_three 5 = .ok (.iload_n 2, 1) := by decide +kernel
theorem dX12_three_6 : decode cX12_three 6 = .ok (.iadd, 1) := by decide +kernel
theorem dX12_three_7 : decode cX12_three 7 = .ok (.iconst 2, 1) := by decide +kernel
theorem dX12_three_8 : decode cX12_three 8 = .ok (.imul, 1) := by decide +kernel
theorem dX12_three_9 : decode cX12_three 9 = .ok (.iload_n 3, 1) := by decide +kernel
theorem dX12_three_10 : decode cX12_three 10 = .ok (.iadd, 1) := by decide +kernel
theorem dX12_three_11 : decode cX12_three 11 = .ok (.istore 4, 2) := by decide +kernel
theorem dX12_three_13 : decode cX12_three 13 = .ok (.aload_n 0, 1) := by decide +kernel
theorem dX12_three_14 : decode cX12_three 14 = .ok (.getfield 82, 3) := by decide +kernel
theorem dX12_three_17 : decode cX12_three 17 = .ok (.iload 4, 2) := by decide +kernel
theorem dX12_three_19 : decode cX12_three 19 = .ok (.iaload, 1) := by decide +kernel
theorem dX12_three_20 : decode cX12_three 20 = .ok (.iconst (-1), 1) := by decide +kernel
theorem dX12_three_21 : decode cX12_three 21 = .ok (.if_icmp .eq 11, 3) := by decide +kernel
theorem dX12_three_24 : decode cX12_three 24 = .ok (.aload_n 0, 1) := by decide +kernel
theorem dX12_three_25 : decode cX12_three 25 = .ok (.getfield 82, 3) := by decide +kernel
theorem dX12_three_28 : decode cX12_three 28 = .ok (.iload 4, 2) := by decide +kernel
theorem dX12_three_30 : decode cX12_three 30 = .ok (.iaload, 1) := by decide +kernel
theorem dX12_three_31 : decode cX12_three 31 = .ok (.ireturn, 1) := by decide +kernel
theorem dX12_three_32 : decode cX12_three 32 = .ok (.aload_n 0, 1) := by decide +kernel
theorem dX12_three_33 : decode cX12_three 33 = .ok (.getfield 408, 3) := by decide +kernel
theorem dX12_three_36 : decode cX12_three 36 = .ok (.sipush 1000, 3) := by decide +kernel
theorem dX12_three_39 : decode cX12_three 39 = .ok (.if_icmp .ne 10, 3) := by decide +kernel
theorem dX12_three_42 : decode cX12_three 42 = .ok (.aload_n 0, 1) := by decide +kernel
theorem dX12_three_43 : decode cX12_three 43 = .ok (.iconst 0, 1) := by decide +kernel
theorem dX12_three_44 : decode cX12_three 44 = .ok (.putfield 411, 3) := by decide +kernel
theorem dX12_three_47 : decode cX12_three 47 = .ok (.iconst (-1), 1) := by decide +kernel
theorem dX12_three_48 : decode cX12_three 48 = .ok (.ireturn, 1) := by decide +kernel
theorem dX12_three_49 : decode cX12_three 49 = .ok (.aload_n 0, 1) := by decide +kernel
theorem dX12_three_50 : decode cX12_three 50 = .ok (.getfield 73, 3) := by decide +kernel
theorem dX12_three_53 : decode cX12_three 53 = .ok (.aload_n 0, 1) := by decide +kernel
theorem dX12_three_54 : decode cX12_three 54 = .ok (.getfield 408, 3) := by decide +kernel
theorem dX12_three_57 : decode cX12_three 57 = .ok (.iload_n 1, 1) := by decide +kernel
theorem dX12_three_58 : decode cX12_three 58 = .ok (.iastore, 1) := by decide +kernel
theorem dX12_three_59 : decode cX12_three 59 = .ok (.aload_n 0, 1) := by decide +kernel
theorem dX12_three_60 : decode cX12_three 60 = .ok (.getfield 76, 3) := by decide +kernel
theorem dX12_three_63 : decode cX12_three 63 = .ok (.aload_n 0, 1) := by decide +kernel
theorem dX12_three_64 : decode cX12_three 64 = .ok (.getfield 408, 3) := by decide +kernel
theorem dX12_three_67 : decode cX12_three 67 = .ok (.iload_n 2, 1) := by decide +kernel
theorem dX12_three_68 : decode cX12_three 68 = .ok (.iastore, 1) := by decide +kernel
theorem dX12_three_69 : decode cX12_three 69 = .ok (.aload_n 0, 1) := by decide +kernel
theorem dX12_three_70 : decode cX12_three 70 = .ok (.getfield 79, 3) := by decide +kernel
theorem dX12_three_73 : decode cX12_three 73 = .ok (.aload_n 0, 1) := by decide +kernel
theorem dX12_three_74 : decode cX12_three 74 = .ok (.getfield 408, 3) := by decide +kernel
theorem dX12_three_77 : decode cX12_three 77 = .ok (.iload_n 3, 1) := by decide +kernel
theorem dX12_three_78 : decode cX12_three 78 = .ok (.iastore, 1) := by decide +kernel
theorem dX12_three_79 : decode cX12_three 79 = .ok (.aload_n 0, 1) := by decide +kernel
theorem dX12_three_80 : decode cX12_three 80 = .ok (.getfield 82, 3) := by decide +kernel
theorem dX12_three_83 : decode cX12_three 83 = .ok (.iload 4, 2) := by decide +kernel
theorem dX12_three_85 : decode cX12_three 85 = .ok (.aload_n 0, 1) := by decide +kernel
theorem dX12_three_86 : decode cX12_three 86 = .ok (.getfield 408, 3) := by decide +kernel
theorem dX12_three_89 : decode cX12_three 89 = .ok (.iastore, 1) := by decide +kernel
theorem dX12_three_90 : decode cX12_three 90 = .ok (.aload_n 0, 1) := by decide +kernel
theorem dX12_three_91 : decode cX12_three 91 = .ok (.dup, 1) := by decide +kernel
theorem dX12_three_92 : decode cX12_three 92 = .ok (.getfield 408, 3) := by decide +kernel
theorem dX12_three_95 : decode cX12_three 95 = .ok (.iconst 1, 1) := by decide +kernel
theorem dX12_three_96 : decode cX12_three 96 = .ok (.iadd, 1) := by decide +kernel
theorem dX12_three_97 : decode cX12_three 97 = .ok (.putfield 408, 3) := by decide +kernel
theorem dX12_three_100 : decode cX12_three 100 = .ok (.aload_n 0, 1) := by decide +kernel
theorem dX12_three_101 : decode cX12_three 101 = .ok (.getfield 408, 3) := by decide +kernel
theorem dX12_three_104 : decode cX12_three 104 = .ok (.iconst 1, 1) := by decide +kernel
theorem dX12_three_105 : decode cX12_three 105 = .ok (.isub, 1) := by decide +kernel
theorem dX12_three_106 : decode cX12_three 106 = .ok (.ireturn, 1) := by decide +kernel
theorem dX12_isMarked_0 : decode cX12_isMarked 0 = .ok (.aload_n 0, 1) := by decide +kernel
theorem dX12_isMarked_1 : decode cX12_isMarked 1 = .ok (.getfield 393, 3) := by decide +kernel
theorem dX12_isMarked_4 : decode cX12_isMarked 4 = .ok (.tableswitch 116 0 3 #[32, 55, 61, 90], 32) := by decide +kernel
theorem dX12_isMarked_36 : decode cX12_isMarked 36 = .ok (.aload_n 0, 1) := by decide +kernel
theorem dX12_isMarked_37 : decode cX12_isMarked 37 = .ok (.getfield 23, 3) := by decide +kernel
theorem dX12_isMarked_40 : decode cX12_isMarked 40 = .ok (.aload_n 0, 1) := by decide +kernel
theorem dX12_isMarked_41 : decode cX12_isMarked 41 = .ok (.getfield 396, 3) := by decide +kernel
theorem dX12_isMarked_44 : decode cX12_isMarked 44 = .ok (.iaload, 1) := by decide +kernel
theorem dX12_isMarked_45 : decode cX12_isMarked 45 = .ok (.iload_n 1, 1) := by decide +kernel
theorem dX12_isMarked_46 : decode cX12_isMarked 46 = .ok (.ishr, 1) := by decide +kernel
theorem dX12_isMarked_47 : decode cX12_isMarked 47 = .ok (.iconst 1, 1) := by decide +kernel
theorem dX12_isMarked_48 : decode cX12_isMarked 48 = .ok (.iand, 1) := by decide +kernel
theorem dX12_isMarked_49 : decode cX12_isMarked 49 = .ok (.iconst 1, 1) := by decide +kernel
theorem dX12_isMarked_50 : decode cX12_isMarked 50 = .ok (.if_icmp .ne 7, 3) := by decide +kernel
theorem dX12_isMarked_53 : decode cX12_isMarked 53 = .ok (.iconst 1, 1) := by decide +kernel
theorem dX12_isMarked_54 : decode cX12_isMarked 54 = .ok (.goto 4, 3) := by decide +kernel
theorem dX12_isMarked_57 : decode cX12_isMarked 57 = .ok (.iconst 0, 1) := by decide +kernel
theorem dX12_isMarked_58 : decode cX12_isMarked 58 = .ok (.ireturn, 1) := by decide +kernel
theorem dX12_isMarked_59 : decode cX12_isMarked 59 = .ok (.aload_n 0, 1) := by decide +kernel
theorem dX12_isMarked_60 : decode cX12_isMarked 60 = .ok (.iload_n 1, 1) := by decide +kernel
theorem dX12_isMarked_61 : decode cX12_isMarked 61 = .ok (.invokevirtual 381, 3) := by decide +kernel
theorem dX12_isMarked_64 : decode cX12_isMarked 64 = .ok (.ireturn, 1) := by decide +kernel
theorem dX12_isMarked_65 : decode cX12_isMarked 65 = .ok (.aload_n 0, 1) := by decide +kernel
theorem dX12_isMarked_66 : decode cX12_isMarked 66 = .ok (.getfield 79, 3) := by decide +kernel
theorem dX12_isMarked_69 : decode cX12_isMarked 69 = .ok (.iload_n 1, 1) := by decide +kernel
theorem dX12_isMarked_70 : decode cX12_isMarked 70 = .ok (.iaload, 1) := by decide +kernel
theorem dX12_isMarked_71 : decode cX12_isMarked 71 = .ok (.iconst 1, 1) := by decide +kernel
theorem dX12_isMarked_72 : decode cX12_isMarked 72 = .ok (.if_icmp .ne 20, 3) := by decide +kernel
theorem dX12_isMarked_75 : decode cX12_isMarked 75 = .ok (.aload_n 0, 1) := by decide +kernel
theorem dX12_isMarked_76 : decode cX12_isMarked 76 = .ok (.aload_n 0, 1) := by decide +kernel
theorem dX12_isMarked_77 : decode cX12_isMarked 77 = .ok (.getfield 76, 3) := by decide +kernel
theorem dX12_isMarked_80 : decode cX12_isMarked 80 = .ok (.iload_n 1, 1) := by decide +kernel
theorem dX12_isMarked_81 : decode cX12_isMarked 81 = .ok (.iaload, 1) := by decide +kernel
theorem dX12_isMarked_82 : decode cX12_isMarked 82 = .ok (.invokevirtual 381, 3) := by decide +kernel
theorem dX12_isMarked_85 : decode cX12_isMarked 85 = .ok (.ifCond .eq 7, 3) := by decide +kernel
theorem dX12_isMarked_88 : decode cX12_isMarked 88 = .ok (.iconst 1, 1) := by decide +kernel
theorem dX12_isMarked_89 : decode cX12_isMarked 89 = .ok (.goto 4, 3) := by decide +kernel
theorem dX12_isMarked_92 : decode cX12_isMarked 92 = .ok (.iconst 0, 1) := by decide +kernel
theorem dX12_isMarked_93 : decode cX12_isMarked 93 = .ok (.ireturn, 1) := by decide +kernel
theorem dX12_isMarked_94 : decode cX12_isMarked 94 = .ok (.aload_n 0, 1) := by decide +kernel
theorem dX12_isMarked_95 : decode cX12_isMarked 95 = .ok (.getfield 23, 3) := by decide +kernel
theorem dX12_isMarked_98 : decode cX12_isMarked 98 = .ok (.aload_n 0, 1) := by decide +kernel
theorem dX12_isMarked_99 : decode cX12_isMarked 99 = .ok (.getfield 396, 3) := by decide +kernel
theorem dX12_isMarked_102 : decode cX12_isMarked 102 = .ok (.iaload, 1) := by decide +kernel
theorem dX12_isMarked_103 : decode cX12_isMarked 103 = .ok (.iload_n 1, 1) := by decide +kernel
theorem dX12_isMarked_104 : decode cX12_isMarked 104 = .ok (.bipush 10, 2) := by decide +kernel
theorem dX12_isMarked_106 : decode cX12_isMarked 106 = .ok (.idiv, 1) := by decide +kernel
theorem dX12_isMarked_107 : decode cX12_isMarked 107 = .ok (.ishr, 1) := by decide +kernel
theorem dX12_isMarked_108 : decode cX12_isMarked 108 = .ok (.iconst 1, 1) := by decide +kernel
theorem dX12_isMarked_109 : decode cX12_isMarked 109 = .ok (.iand, 1) := by decide +kernel
theorem dX12_isMarked_110 : decode cX12_isMarked 110 = .ok (.iconst 1, 1) := by decide +kernel
theorem dX12_isMarked_111 : decode cX12_isMarked 111 = .ok (.if_icmp .ne 7, 3) := by decide +kernel
theorem dX12_isMarked_114 : decode cX12_isMarked 114 = .ok (.iconst 1, 1) := by decide +kernel
theorem dX12_isMarked_115 : decode cX12_isMarked 115 = .ok (.goto 4, 3) := by decide +kernel
theorem dX12_isMarked_118 : decode cX12_isMarked 118 = .ok (.iconst 0, 1) := by decide +kernel
theorem dX12_isMarked_119 : decode cX12_isMarked 119 = .ok (.ireturn, 1) := by decide +kernel
theorem dX12_isMarked_120 : decode cX12_isMarked 120 = .ok (.aload_n 0, 1) := by decide +kernel
theorem dX12_isMarked_121 : decode cX12_isMarked 121 = .ok (.iload_n 1, 1) := by decide +kernel
theorem dX12_isMarked_122 : decode cX12_isMarked 122 = .ok (.bipush 10, 2) := by decide +kernel
theorem dX12_isMarked_124 : decode cX12_isMarked 124 = .ok (.idiv, 1) := by decide +kernel
theorem dX12_isMarked_125 : decode cX12_isMarked 125 = .ok (.invokevirtual 381, 3) := by decide +kernel
theorem dX12_isMarked_128 : decode cX12_isMarked 128 = .ok (.ireturn, 1) := by decide +kernel
theorem dX12_meetsNone_0 : decode cX12_meetsNone 0 = .ok (.aload_n 0, 1) := by decide +kernel
theorem dX12_meetsNone_1 : decode cX12_meetsNone 1 = .ok (.iconst 0, 1) := by decide +kernel
theorem dX12_meetsNone_2 : decode cX12_meetsNone 2 = .ok (.putfield 414, 3) := by decide +kernel
theorem dX12_meetsNone_5 : decode cX12_meetsNone 5 = .ok (.iconst 0, 1) := by decide +kernel
theorem dX12_meetsNone_6 : decode cX12_meetsNone 6 = .ok (.istore_n 1, 1) := by decide +kernel
theorem dX12_meetsNone_7 : decode cX12_meetsNone 7 = .ok (.iload_n 1, 1) := by decide +kernel
theorem dX12_meetsNone_8 : decode cX12_meetsNone 8 = .ok (.sipush 3000, 3) := by decide +kernel
theorem dX12_meetsNone_11 : decode cX12_meetsNone 11 = .ok (.if_icmp .ge 16, 3) := by decide +kernel
theorem dX12_meetsNone_14 : decode cX12_meetsNone 14 = .ok (.aload_n 0, 1) := by decide +kernel
theorem dX12_meetsNone_15 : decode cX12_meetsNone 15 = .ok (.getfield 94, 3) := by decide +kernel
theorem dX12_meetsNone_18 : decode cX12_meetsNone 18 = .ok (.iload_n 1, 1) := by decide +kernel
theorem dX12_meetsNone_19 : decode cX12_meetsNone 19 = .ok (.iconst 0, 1) := by decide +kernel
theorem dX12_meetsNone_20 : decode cX12_meetsNone 20 = .ok (.bastore, 1) := by decide +kernel
theorem dX12_meetsNone_21 : decode cX12_meetsNone 21 = .ok (.iinc 1 1, 3) := by decide +kernel
theorem dX12_meetsNone_24 : decode cX12_meetsNone 24 = .ok (.goto (-17), 3) := by decide +kernel
theorem dX12_meetsNone_27 : decode cX12_meetsNone 27 = .ok (.return_, 1) := by decide +kernel
theorem dX12_meets_0 : decode cX12_meets 0 = .ok (.aload_n 0, 1) := by decide +kernel
theorem dX12_meets_1 : decode cX12_meets 1 = .ok (.getfield 94, 3) := by decide +kernel
theorem dX12_meets_4 : decode cX12_meets 4 = .ok (.iload_n 1, 1) := by decide +kernel
theorem dX12_meets_5 : decode cX12_meets 5 = .ok (.baload, 1) := by decide +kernel
theorem dX12_meets_6 : decode cX12_meets 6 = .ok (.ifCond .eq 4, 3) := by decide +kernel
theorem dX12_meets_9 : decode cX12_meets 9 = .ok (.return_, 1) := by decide +kernel
theorem dX12_meets_10 : decode cX12_meets 10 = .ok (.aload_n 0, 1) := by decide +kernel
theorem dX12_meets_11 : decode cX12_meets 11 = .ok (.getfield 94, 3) := by decide +kernel
theorem dX12_meets_14 : decode cX12_meets 14 = .ok (.iload_n 1, 1) := by decide +kernel
theorem dX12_meets_15 : decode cX12_meets 15 = .ok (.iconst 1, 1) := by decide +kernel
theorem dX12_meets_16 : decode cX12_meets 16 = .ok (.bastore, 1) := by decide +kernel
theorem dX12_meets_17 : decode cX12_meets 17 = .ok (.aload_n 0, 1) := by decide +kernel
theorem dX12_meets_18 : decode cX12_meets 18 = .ok (.getfield 88, 3) := by decide +kernel
theorem dX12_meets_21 : decode cX12_meets 21 = .ok (.iload_n 1, 1) := by decide +kernel
theorem dX12_meets_22 : decode cX12_meets 22 = .ok (.iload_n 2, 1) := by decide +kernel
theorem dX12_meets_23 : decode cX12_meets 23 = .ok (.iastore, 1) := by decide +kernel
theorem dX12_meets_24 : decode cX12_meets 24 = .ok (.aload_n 0, 1) := by decide +kernel
theorem dX12_meets_25 : decode cX12_meets 25 = .ok (.getfield 91, 3) := by decide +kernel
theorem dX12_meets_28 : decode cX12_meets 28 = .ok (.iload_n 1, 1) := by decide +kernel
theorem dX12_meets_29 : decode cX12_meets 29 = .ok (.iload_n 3, 1) := by decide +kernel
theorem dX12_meets_30 : decode cX12_meets 30 = .ok (.iastore, 1) := by decide +kernel
theorem dX12_meets_31 : decode cX12_meets 31 = .ok (.aload_n 0, 1) := by decide +kernel
theorem dX12_meets_32 : decode cX12_meets 32 = .ok (.getfield 85, 3) := by decide +kernel
theorem dX12_meets_35 : decode cX12_meets 35 = .ok (.aload_n 0, 1) := by decide +kernel
theorem dX12_meets_36 : decode cX12_meets 36 = .ok (.getfield 414, 3) := by decide +kernel
theorem dX12_meets_39 : decode cX12_meets 39 = .ok (.iload_n 1, 1) := by decide +kernel
theorem dX12_meets_40 : decode cX12_meets 40 = .ok (.iastore, 1) := by decide +kernel
theorem dX12_meets_41 : decode cX12_meets 41 = .ok (.aload_n 0, 1) := by decide +kernel
theorem dX12_meets_42 : decode cX12_meets 42 = .ok (.dup, 1) := by decide +kernel
theorem dX12_meets_43 : decode cX12_meets 43 = .ok (.getfield 414, 3) := by decide +kernel
theorem dX12_meets_46 : decode cX12_meets 46 = .ok (.iconst 1, 1) := by decide +kernel
theorem dX12_meets_47 : decode cX12_meets 47 = .ok (.iadd, 1) := by decide +kernel
theorem dX12_meets_48 : decode cX12_meets 48 = .ok (.putfield 414, 3) := by decide +kernel
theorem dX12_meets_51 : decode cX12_meets 51 = .ok (.return_, 1) := by decide +kernel
theorem dX12_meetsAll_0 : decode cX12_meetsAll 0 = .ok (.iconst 0, 1) := by decide +kernel
theorem dX12_meetsAll_1 : decode cX12_meetsAll 1 = .ok (.istore_n 1, 1) := by decide +kernel
theorem dX12_meetsAll_2 : decode cX12_meetsAll 2 = .ok (.iload_n 1, 1) := by decide +kernel
theorem dX12_meetsAll_3 : decode cX12_meetsAll 3 = .ok (.aload_n 0, 1) := by decide +kernel
theorem dX12_meetsAll_4 : decode cX12_meetsAll 4 = .ok (.getfield 414, 3) := by decide +kernel
theorem dX12_meetsAll_7 : decode cX12_meetsAll 7 = .ok (.if_icmp .ge 67, 3) := by decide +kernel
theorem dX12_meetsAll_10 : decode cX12_meetsAll 10 = .ok (.aload_n 0, 1) := by decide +kernel
theorem dX12_meetsAll_11 : decode cX12_meetsAll 11 = .ok (.getfield 85, 3) := by decide +kernel
theorem dX12_meetsAll_14 : decode cX12_meetsAll 14 = .ok (.iload_n 1, 1) := by decide +kernel
theorem dX12_meetsAll_15 : decode cX12_meetsAll 15 = .ok (.iaload, 1) := by decide +kernel
theorem dX12_meetsAll_16 : decode cX12_meetsAll 16 = .ok (.istore_n 2, 1) := by decide +kernel
theorem dX12_meetsAll_17 : decode cX12_meetsAll 17 = .ok (.aload_n 0, 1) := by decide +kernel
theorem dX12_meetsAll_18 : decode cX12_meetsAll 18 = .ok (.iload_n 2, 1) := by decide +kernel
theorem dX12_meetsAll_19 : decode cX12_meetsAll 19 = .ok (.iconst 0, 1) := by decide +kernel
theorem dX12_meetsAll_20 : decode cX12_meetsAll 20 = .ok (.invokevirtual 417, 3) := by decide +kernel
theorem dX12_meetsAll_23 : decode cX12_meetsAll 23 = .ok (.istore_n 3, 1) := by decide +kernel
theorem dX12_meetsAll_24 : decode cX12_meetsAll 24 = .ok (.iload_n 3, 1) := by decide +kernel
theorem dX12_meetsAll_25 : decode cX12_meetsAll 25 = .ok (.iconst (-1), 1) := by decide +kernel
theorem dX12_meetsAll_26 : decode cX12_meetsAll 26 = .ok (.if_icmp .eq 42, 3) := by decide +kernel
theorem dX12_meetsAll_29 : decode cX12_meetsAll 29 = .ok (.aload_n 0, 1) := by decide +kernel
theorem dX12_meetsAll_30 : decode cX12_meetsAll 30 = .ok (.iload_n 2, 1) := by decide +kernel
theorem dX12_meetsAll_31 : decode cX12_meetsAll 31 = .ok (.iload_n 3, 1) := by decide +kernel
theorem dX12_meetsAll_32 : decode cX12_meetsAll 32 = .ok (.invokevirtual 420, 3) := by decide +kernel
theorem dX12_meetsAll_35 : decode cX12_meetsAll 35 = .ok (.istore 4, 2) := by decide +kernel
theorem dX12_meetsAll_37 : decode cX12_meetsAll 37 = .ok (.iload 4, 2) := by decide +kernel
theorem dX12_meetsAll_39 : decode cX12_meetsAll 39 = .ok (.iconst (-1), 1) := by decide +kernel
theorem dX12_meetsAll_40 : decode cX12_meetsAll 40 = .ok (.if_icmp .ne 4, 3) := by decide +kernel
theorem dX12_meetsAll_43 : decode cX12_meetsAll 43 = .ok (.return_, 1) := by decide +kernel
theorem dX12_meetsAll_44 : decode cX12_meetsAll 44 = .ok (.aload_n 0, 1) := by decide +kernel
theorem dX12_meetsAll_45 : decode cX12_meetsAll 45 = .ok (.iload 4, 2) := by decide +kernel
theorem dX12_meetsAll_47 : decode cX12_meetsAll 47 = .ok (.iload_n 2, 1) := by decide +kernel
theorem dX12_meetsAll_48 : decode cX12_meetsAll 48 = .ok (.iload_n 3, 1) := by decide +kernel
theorem dX12_meetsAll_49 : decode cX12_meetsAll 49 = .ok (.sipush 2048, 3) := by decide +kernel
theorem dX12_meetsAll_52 : decode cX12_meetsAll 52 = .ok (.idiv, 1) := by decide +kernel
theorem dX12_meetsAll_53 : decode cX12_meetsAll 53 = .ok (.invokevirtual 423, 3) := by decide +kernel
theorem dX12_meetsAll_56 : decode cX12_meetsAll 56 = .ok (.aload_n 0, 1) := by decide +kernel
theorem dX12_meetsAll_57 : decode cX12_meetsAll 57 = .ok (.iload_n 2, 1) := by decide +kernel
theorem dX12_meetsAll_58 : decode cX12_meetsAll 58 = .ok (.iload_n 3, 1) := by decide +kernel
theorem dX12_meetsAll_59 : decode cX12_meetsAll 59 = .ok (.iconst 1, 1) := by decide +kernel
theorem dX12_meetsAll_60 : decode cX12_meetsAll 60 = .ok (.iadd, 1) := by decide +kernel
theorem dX12_meetsAll_61 : decode cX12_meetsAll 61 = .ok (.invokevirtual 417, 3) := by decide +kernel
theorem dX12_meetsAll_64 : decode cX12_meetsAll 64 = .ok (.istore_n 3, 1) := by decide +kernel
theorem dX12_meetsAll_65 : decode cX12_meetsAll 65 = .ok (.goto (-41), 3) := by decide +kernel
theorem dX12_meetsAll_68 : decode cX12_meetsAll 68 = .ok (.iinc 1 1, 3) := by decide +kernel
theorem dX12_meetsAll_71 : decode cX12_meetsAll 71 = .ok (.goto (-69), 3) := by decide +kernel
theorem dX12_meetsAll_74 : decode cX12_meetsAll 74 = .ok (.return_, 1) := by decide +kernel
theorem dX12_enters_0 : decode cX12_enters 0 = .ok (.aload_n 0, 1) := by decide +kernel
theorem dX12_enters_1 : decode cX12_enters 1 = .ok (.getfield 98, 3) := by decide +kernel
theorem dX12_enters_4 : decode cX12_enters 4 = .ok (.iload_n 1, 1) := by decide +kernel
theorem dX12_enters_5 : decode cX12_enters 5 = .ok (.aload_n 0, 1) := by decide +kernel
theorem dX12_enters_6 : decode cX12_enters 6 = .ok (.getfield 427, 3) := by decide +kernel
theorem dX12_enters_9 : decode cX12_enters 9 = .ok (.iastore, 1) := by decide +kernel
theorem dX12_enters_10 : decode cX12_enters 10 = .ok (.aload_n 0, 1) := by decide +kernel
theorem dX12_enters_11 : decode cX12_enters 11 = .ok (.getfield 101, 3) := by decide +kernel
theorem dX12_enters_14 : decode cX12_enters 14 = .ok (.iload_n 1, 1) := by decide +kernel
theorem dX12_enters_15 : decode cX12_enters 15 = .ok (.aload_n 0, 1) := by decide +kernel
theorem dX12_enters_16 : decode cX12_enters 16 = .ok (.getfield 427, 3) := by decide +kernel
theorem dX12_enters_19 : decode cX12_enters 19 = .ok (.iastore, 1) := by decide +kernel
theorem dX12_enters_20 : decode cX12_enters 20 = .ok (.aload_n 0, 1) := by decide +kernel
theorem dX12_enters_21 : decode cX12_enters 21 = .ok (.dup, 1) := by decide +kernel
theorem dX12_enters_22 : decode cX12_enters 22 = .ok (.getfield 427, 3) := by decide +kernel
theorem dX12_enters_25 : decode cX12_enters 25 = .ok (.iconst 1, 1) := by decide +kernel
theorem dX12_enters_26 : decode cX12_enters 26 = .ok (.iadd, 1) := by decide +kernel
theorem dX12_enters_27 : decode cX12_enters 27 = .ok (.putfield 427, 3) := by decide +kernel
theorem dX12_enters_30 : decode cX12_enters 30 = .ok (.aload_n 0, 1) := by decide +kernel
theorem dX12_enters_31 : decode cX12_enters 31 = .ok (.getfield 104, 3) := by decide +kernel
theorem dX12_enters_34 : decode cX12_enters 34 = .ok (.aload_n 0, 1) := by decide +kernel
theorem dX12_enters_35 : decode cX12_enters 35 = .ok (.getfield 430, 3) := by decide +kernel
theorem dX12_enters_38 : decode cX12_enters 38 = .ok (.iload_n 1, 1) := by decide +kernel
theorem dX12_enters_39 : decode cX12_enters 39 = .ok (.iastore, 1) := by decide +kernel
theorem dX12_enters_40 : decode cX12_enters 40 = .ok (.aload_n 0, 1) := by decide +kernel
theorem dX12_enters_41 : decode cX12_enters 41 = .ok (.dup, 1) := by decide +kernel
theorem dX12_enters_42 : decode cX12_enters 42 = .ok (.getfield 430, 3) := by decide +kernel
theorem dX12_enters_45 : decode cX12_enters 45 = .ok (.iconst 1, 1) := by decide +kernel
theorem dX12_enters_46 : decode cX12_enters 46 = .ok (.iadd, 1) := by decide +kernel
theorem dX12_enters_47 : decode cX12_enters 47 = .ok (.putfield 430, 3) := by decide +kernel
theorem dX12_enters_50 : decode cX12_enters 50 = .ok (.aload_n 0, 1) := by decide +kernel
theorem dX12_enters_51 : decode cX12_enters 51 = .ok (.getfield 113, 3) := by decide +kernel
theorem dX12_enters_54 : decode cX12_enters 54 = .ok (.iload_n 1, 1) := by decide +kernel
theorem dX12_enters_55 : decode cX12_enters 55 = .ok (.iconst 1, 1) := by decide +kernel
theorem dX12_enters_56 : decode cX12_enters 56 = .ok (.bastore, 1) := by decide +kernel
theorem dX12_enters_57 : decode cX12_enters 57 = .ok (.aload_n 0, 1) := by decide +kernel
theorem dX12_enters_58 : decode cX12_enters 58 = .ok (.getfield 107, 3) := by decide +kernel
theorem dX12_enters_61 : decode cX12_enters 61 = .ok (.aload_n 0, 1) := by decide +kernel
theorem dX12_enters_62 : decode cX12_enters 62 = .ok (.getfield 433, 3) := by decide +kernel
theorem dX12_enters_65 : decode cX12_enters 65 = .ok (.iload_n 1, 1) := by decide +kernel
theorem dX12_enters_66 : decode cX12_enters 66 = .ok (.iastore, 1) := by decide +kernel
theorem dX12_enters_67 : decode cX12_enters 67 = .ok (.aload_n 0, 1) := by decide +kernel
theorem dX12_enters_68 : decode cX12_enters 68 = .ok (.getfield 110, 3) := by decide +kernel
theorem dX12_enters_71 : decode cX12_enters 71 = .ok (.aload_n 0, 1) := by decide +kernel
theorem dX12_enters_72 : decode cX12_enters 72 = .ok (.getfield 433, 3) := by decide +kernel
theorem dX12_enters_75 : decode cX12_enters 75 = .ok (.iconst 0, 1) := by decide +kernel
theorem dX12_enters_76 : decode cX12_enters 76 = .ok (.iastore, 1) := by decide +kernel
