theorem dX12_readAuto_135 : decode cX12_readAuto 135 = .ok (.iconst 3, 1) := by decide +kernel
theorem dX12_readAuto_136 : decode cX12_readAuto 136 = .ok (.aload_n 0, 1) := by decide +kernel
theorem dX12_readAuto_137 : decode cX12_readAuto 137 = .ok (.getfield 215, 3) := by decide +kernel
theorem dX12_readAuto_140 : decode cX12_readAuto 140 = .ok (.iadd, 1) := by decide +kernel
theorem dX12_readAuto_141 : decode cX12_readAuto 141 = .ok (.iload_n 3, 1) := by decide +kernel
theorem dX12_readAuto_142 : decode cX12_readAuto 142 = .ok (.iastore, 1) := by decide +kernel
theorem dX12_readAuto_143 : decode cX12_readAuto 143 = .ok (.aload_n 0, 1) := by decide +kernel
theorem dX12_readAuto_144 : decode cX12_readAuto 144 = .ok (.getfield 20, 3) := by decide +kernel
theorem dX12_readAuto_147 : decode cX12_readAuto 147 = .ok (.iconst 3, 1) := by decide +kernel
theorem dX12_readAuto_148 : decode cX12_readAuto 148 = .ok (.aload_n 0, 1) := by decide +kernel
theorem dX12_readAuto_149 : decode cX12_readAuto 149 = .ok (.getfield 215, 3) := by decide +kernel
theorem dX12_readAuto_152 : decode cX12_readAuto 152 = .ok (.iadd, 1) := by decide +kernel
theorem dX12_readAuto_153 : decode cX12_readAuto 153 = .ok (.iconst 0, 1) := by decide +kernel
theorem dX12_readAuto_154 : decode cX12_readAuto 154 = .ok (.iastore, 1) := by decide +kernel
theorem dX12_readAuto_155 : decode cX12_readAuto 155 = .ok (.aload_n 0, 1) := by decide +kernel
theorem dX12_readAuto_156 : decode cX12_readAuto 156 = .ok (.getfield 23, 3) := by decide +kernel
theorem dX12_readAuto_159 : decode cX12_readAuto 159 = .ok (.iconst 3, 1) := by decide +kernel
theorem dX12_readAuto_160 : decode cX12_readAuto 160 = .ok (.aload_n 0, 1) := by decide +kernel
theorem dX12_readAuto_161 : decode cX12_readAuto 161 = .ok (.getfield 215, 3) := by decide +kernel
theorem dX12_readAuto_164 : decode cX12_readAuto 164 = .ok (.iadd, 1) := by decide +kernel
theorem dX12_readAuto_165 : decode cX12_readAuto 165 = .ok (.iconst 0, 1) := by decide +kernel
theorem dX12_readAuto_166 : decode cX12_readAuto 166 = .ok (.iastore, 1) := by decide +kernel
theorem dX12_readAuto_167 : decode cX12_readAuto 167 = .ok (.aload_n 0, 1) := by decide +kernel
theorem dX12_readAuto_168 : decode cX12_readAuto 168 = .ok (.dup, 1) := by decide +kernel
theorem dX12_readAuto_169 : decode cX12_readAuto 169 = .ok (.getfield 215, 3) := by decide +kernel
theorem dX12_readAuto_172 : decode cX12_readAuto 172 = .ok (.iconst 1, 1) := by decide +kernel
theorem dX12_readAuto_173 : decode cX12_readAuto 173 = .ok (.iadd, 1) := by decide +kernel
theorem dX12_readAuto_174 : decode cX12_readAuto 174 = .ok (.putfield 215, 3) := by decide +kernel
theorem dX12_readAuto_177 : decode cX12_readAuto 177 = .ok (.return_, 1) := by decide +kernel
theorem dX12_needsAuto_0 : decode cX12_needsAuto 0 = .ok (.aload_n 0, 1) := by decide +kernel
theorem dX12_needsAuto_1 : decode cX12_needsAuto 1 = .ok (.getfield 212, 3) := by decide +kernel
theorem dX12_needsAuto_4 : decode cX12_needsAuto 4 = .ok (.ifCond .eq 10, 3) := by decide +kernel
theorem dX12_needsAuto_7 : decode cX12_needsAuto 7 = .ok (.aload_n 0, 1) := by decide +kernel
theorem dX12_needsAuto_8 : decode cX12_needsAuto 8 = .ok (.getfield 215, 3) := by decide +kernel
theorem dX12_needsAuto_11 : decode cX12_needsAuto 11 = .ok (.ifCond .ne 8, 3) := by decide +kernel
theorem dX12_needsAuto_14 : decode cX12_needsAuto 14 = .ok (.aload_n 0, 1) := by decide +kernel
theorem dX12_needsAuto_15 : decode cX12_needsAuto 15 = .ok (.iconst 5, 1) := by decide +kernel
theorem dX12_needsAuto_16 : decode cX12_needsAuto 16 = .ok (.invokevirtual 205, 3) := by decide +kernel
theorem dX12_needsAuto_19 : decode cX12_needsAuto 19 = .ok (.return_, 1) := by decide +kernel
theorem dX12_readState_0 : decode cX12_readState 0 = .ok (.aload_n 0, 1) := by decide +kernel
theorem dX12_readState_1 : decode cX12_readState 1 = .ok (.iconst 0, 1) := by decide +kernel
theorem dX12_readState_2 : decode cX12_readState 2 = .ok (.aload_n 0, 1) := by decide +kernel
theorem dX12_readState_3 : decode cX12_readState 3 = .ok (.getfield 17, 3) := by decide +kernel
theorem dX12_readState_6 : decode cX12_readState 6 = .ok (.iconst 3, 1) := by decide +kernel
theorem dX12_readState_7 : decode cX12_readState 7 = .ok (.aload_n 0, 1) := by decide +kernel
theorem dX12_readState_8 : decode cX12_readState 8 = .ok (.getfield 215, 3) := by decide +kernel
theorem dX12_readState_11 : decode cX12_readState 11 = .ok (.iadd, 1) := by decide +kernel
theorem dX12_readState_12 : decode cX12_readState 12 = .ok (.iconst 1, 1) := by decide +kernel
theorem dX12_readState_13 : decode cX12_readState 13 = .ok (.isub, 1) := by decide +kernel
theorem dX12_readState_14 : decode cX12_readState 14 = .ok (.iaload, 1) := by decide +kernel
theorem dX12_readState_15 : decode cX12_readState 15 = .ok (.iconst 1, 1) := by decide +kernel
theorem dX12_readState_16 : decode cX12_readState 16 = .ok (.isub, 1) := by decide +kernel
theorem dX12_readState_17 : decode cX12_readState 17 = .ok (.invokevirtual 249, 3) := by decide +kernel
theorem dX12_readState_20 : decode cX12_readState 20 = .ok (.ireturn, 1) := by decide +kernel
theorem dX12_readMark_0 : decode cX12_readMark 0 = .ok (.aload_n 0, 1) := by decide +kernel
theorem dX12_readMark_1 : decode cX12_readMark 1 = .ok (.getfield 146, 3) := by decide +kernel
theorem dX12_readMark_4 : decode cX12_readMark 4 = .ok (.istore_n 2, 1) := by decide +kernel
theorem dX12_readMark_5 : decode cX12_readMark 5 = .ok (.aload_n 0, 1) := by decide +kernel
theorem dX12_readMark_6 : decode cX12_readMark 6 = .ok (.invokevirtual 261, 3) := by decide +kernel
theorem dX12_readMark_9 : decode cX12_readMark 9 = .ok (.aload_n 0, 1) := by decide +kernel
theorem dX12_readMark_10 : decode cX12_readMark 10 = .ok (.getfield 140, 3) := by decide +kernel
theorem dX12_readMark_13 : decode cX12_readMark 13 = .ok (.ifCond .le 4, 3) := by decide +kernel
theorem dX12_readMark_16 : decode cX12_readMark 16 = .ok (.return_, 1) := by decide +kernel
theorem dX12_readMark_17 : decode cX12_readMark 17 = .ok (.aload_n 0, 1) := by decide +kernel
theorem dX12_readMark_18 : decode cX12_readMark 18 = .ok (.invokevirtual 209, 3) := by decide +kernel
theorem dX12_readMark_21 : decode cX12_readMark 21 = .ok (.aload_n 0, 1) := by decide +kernel
theorem dX12_readMark_22 : decode cX12_readMark 22 = .ok (.invokevirtual 264, 3) := by decide +kernel
theorem dX12_readMark_25 : decode cX12_readMark 25 = .ok (.istore_n 3, 1) := by decide +kernel
theorem dX12_readMark_26 : decode cX12_readMark 26 = .ok (.aload_n 0, 1) := by decide +kernel
theorem dX12_readMark_27 : decode cX12_readMark 27 = .ok (.getfield 140, 3) := by decide +kernel
theorem dX12_readMark_30 : decode cX12_readMark 30 = .ok (.ifCond .le 4, 3) := by decide +kernel
theorem dX12_readMark_33 : decode cX12_readMark 33 = .ok (.return_, 1) := by decide +kernel
theorem dX12_readMark_34 : decode cX12_readMark 34 = .ok (.iconst 3, 1) := by decide +kernel
theorem dX12_readMark_35 : decode cX12_readMark 35 = .ok (.aload_n 0, 1) := by decide +kernel
theorem dX12_readMark_36 : decode cX12_readMark 36 = .ok (.getfield 215, 3) := by decide +kernel
theorem dX12_readMark_39 : decode cX12_readMark 39 = .ok (.iadd, 1) := by decide +kernel
theorem dX12_readMark_40 : decode cX12_readMark 40 = .ok (.iconst 1, 1) := by decide +kernel
theorem dX12_readMark_41 : decode cX12_readMark 41 = .ok (.isub, 1) := by decide +kernel
theorem dX12_readMark_42 : decode cX12_readMark 42 = .ok (.istore 4, 2) := by decide +kernel
theorem dX12_readMark_44 : decode cX12_readMark 44 = .ok (.iload_n 1, 1) := by decide +kernel
theorem dX12_readMark_45 : decode cX12_readMark 45 = .ok (.ifCond .eq 13, 3) := by decide +kernel
theorem dX12_readMark_48 : decode cX12_readMark 48 = .ok (.aload_n 0, 1) := by decide +kernel
theorem dX12_readMark_49 : decode cX12_readMark 49 = .ok (.getfield 20, 3) := by decide +kernel
theorem dX12_readMark_52 : decode cX12_readMark 52 = .ok (.iload 4, 2) := by decide +kernel
theorem dX12_readMark_54 : decode cX12_readMark 54 = .ok (.iaload, 1) := by decide +kernel
theorem dX12_readMark_55 : decode cX12_readMark 55 = .ok (.goto 10, 3) := by decide +kernel
theorem dX12_readMark_58 : decode cX12_readMark 58 = .ok (.aload_n 0, 1) := by decide +kernel
theorem dX12_readMark_59 : decode cX12_readMark 59 = .ok (.getfield 23, 3) := by decide +kernel
theorem dX12_readMark_62 : decode cX12_readMark 62 = .ok (.iload 4, 2) := by decide +kernel
theorem dX12_readMark_64 : decode cX12_readMark 64 = .ok (.iaload, 1) := by decide +kernel
theorem dX12_readMark_65 : decode cX12_readMark 65 = .ok (.iload_n 3, 1) := by decide +kernel
theorem dX12_readMark_66 : decode cX12_readMark 66 = .ok (.ishr, 1) := by decide +kernel
theorem dX12_readMark_67 : decode cX12_readMark 67 = .ok (.iconst 1, 1) := by decide +kernel
theorem dX12_readMark_68 : decode cX12_readMark 68 = .ok (.iand, 1) := by decide +kernel
theorem dX12_readMark_69 : decode cX12_readMark 69 = .ok (.iconst 1, 1) := by decide +kernel
theorem dX12_readMark_70 : decode cX12_readMark 70 = .ok (.if_icmp .ne 9, 3) := by decide +kernel
theorem dX12_readMark_73 : decode cX12_readMark 73 = .ok (.aload_n 0, 1) := by decide +kernel
theorem dX12_readMark_74 : decode cX12_readMark 74 = .ok (.iconst 3, 1) := by decide +kernel
theorem dX12_readMark_75 : decode cX12_readMark 75 = .ok (.iload_n 2, 1) := by decide +kernel
theorem dX12_readMark_76 : decode cX12_readMark 76 = .ok (.invokevirtual 149, 3) := by decide +kernel
theorem dX12_readMark_79 : decode cX12_readMark 79 = .ok (.iload_n 1, 1) := by decide +kernel
theorem dX12_readMark_80 : decode cX12_readMark 80 = .ok (.ifCond .eq 19, 3) := by decide +kernel
theorem dX12_readMark_83 : decode cX12_readMark 83 = .ok (.aload_n 0, 1) := by decide +kernel
theorem dX12_readMark_84 : decode cX12_readMark 84 = .ok (.getfield 20, 3) := by decide +kernel
theorem dX12_readMark_87 : decode cX12_readMark 87 = .ok (.iload 4, 2) := by decide +kernel
theorem dX12_readMark_89 : decode cX12_readMark 89 = .ok (.dup2, 1) := by decide +kernel
theorem dX12_readMark_90 : decode cX12_readMark 90 = .ok (.iaload, 1) := by decide +kernel
theorem dX12_readMark_91 : decode cX12_readMark 91 = .ok (.iconst 1, 1) := by decide +kernel
theorem dX12_readMark_92 : decode cX12_readMark 92 = .ok (.iload_n 3, 1) := by decide +kernel
theorem dX12_readMark_93 : decode cX12_readMark 93 = .ok (.ishl, 1) := by decide +kernel
theorem dX12_readMark_94 : decode cX12_readMark 94 = .ok (.ior, 1) := by decide +kernel
theorem dX12_readMark_95 : decode cX12_readMark 95 = .ok (.iastore, 1) := by decide +kernel
theorem dX12_readMark_96 : decode cX12_readMark 96 = .ok (.goto 16, 3) := by decide +kernel
theorem dX12_readMark_99 : decode cX12_readMark 99 = .ok (.aload_n 0, 1) := by decide +kernel
theorem dX12_readMark_100 : decode cX12_readMark 100 = .ok (.getfield 23, 3) := by decide +kernel
theorem dX12_readMark_103 : decode cX12_readMark 103 = .ok (.iload 4, 2) := by decide +kernel
theorem dX12_readMark_105 : decode cX12_readMark 105 = .ok (.dup2, 1) := by decide +kernel
theorem dX12_readMark_106 : decode cX12_readMark 106 = .ok (.iaload, 1) := by decide +kernel
theorem dX12_readMark_107 : decode cX12_readMark 107 = .ok (.iconst 1, 1) := by decide +kernel
theorem dX12_readMark_108 : decode cX12_readMark 108 = .ok (.iload_n 3, 1) := by decide +kernel
theorem dX12_readMark_109 : decode cX12_readMark 109 = .ok (.ishl, 1) := by decide +kernel
theorem dX12_readMark_110 : decode cX12_readMark 110 = .ok (.ior, 1) := by decide +kernel
theorem dX12_readMark_111 : decode cX12_readMark 111 = .ok (.iastore, 1) := by decide +kernel
theorem dX12_readMark_112 : decode cX12_readMark 112 = .ok (.return_, 1) := by decide +kernel
theorem dX12_readEdge_0 : decode cX12_readEdge 0 = .ok (.aload_n 0, 1) := by decide +kernel
theorem dX12_readEdge_1 : decode cX12_readEdge 1 = .ok (.getfield 146, 3) := by decide +kernel
theorem dX12_readEdge_4 : decode cX12_readEdge 4 = .ok (.istore_n 1, 1) := by decide +kernel
theorem dX12_readEdge_5 : decode cX12_readEdge 5 = .ok (.aload_n 0, 1) := by decide +kernel
theorem dX12_readEdge_6 : decode cX12_readEdge 6 = .ok (.invokevirtual 261, 3) := by decide +kernel
theorem dX12_readEdge_9 : decode cX12_readEdge 9 = .ok (.aload_n 0, 1) := by decide +kernel
theorem dX12_readEdge_10 : decode cX12_readEdge 10 = .ok (.getfield 140, 3) := by decide +kernel
theorem dX12_readEdge_13 : decode cX12_readEdge 13 = .ok (.ifCond .le 4, 3) := by decide +kernel
theorem dX12_readEdge_16 : decode cX12_readEdge 16 = .ok (.return_, 1) := by decide +kernel
theorem dX12_readEdge_17 : decode cX12_readEdge 17 = .ok (.aload_n 0, 1) := by decide +kernel
theorem dX12_readEdge_18 : decode cX12_readEdge 18 = .ok (.invokevirtual 209, 3) := by decide +kernel
theorem dX12_readEdge_21 : decode cX12_readEdge 21 = .ok (.aload_n 0, 1) := by decide +kernel
theorem dX12_readEdge_22 : decode cX12_readEdge 22 = .ok (.invokevirtual 264, 3) := by decide +kernel
theorem dX12_readEdge_25 : decode cX12_readEdge 25 = .ok (.istore_n 2, 1) := by decide +kernel
theorem dX12_readEdge_26 : decode cX12_readEdge 26 = .ok (.aload_n 0, 1) := by decide +kernel
theorem dX12_readEdge_27 : decode cX12_readEdge 27 = .ok (.getfield 163, 3) := by decide +kernel
theorem dX12_readEdge_30 : decode cX12_readEdge 30 = .ok (.iconst 2, 1) := by decide +kernel
theorem dX12_readEdge_31 : decode cX12_readEdge 31 = .ok (.if_icmp .ne 20, 3) := by decide +kernel
theorem dX12_readEdge_34 : decode cX12_readEdge 34 = .ok (.aload_n 0, 1) := by decide +kernel
theorem dX12_readEdge_35 : decode cX12_readEdge 35 = .ok (.getfield 170, 3) := by decide +kernel
theorem dX12_readEdge_38 : decode cX12_readEdge 38 = .ok (.aload_n 0, 1) := by decide +kernel
theorem dX12_readEdge_39 : decode cX12_readEdge 39 = .ok (.getfield 212, 3) := by decide +kernel
theorem dX12_readEdge_42 : decode cX12_readEdge 42 = .ok (.i2l, 1) := by decide +kernel
theorem dX12_readEdge_43 : decode cX12_readEdge 43 = .ok (.lcmp, 1) := by decide +kernel
theorem dX12_readEdge_44 : decode cX12_readEdge 44 = .ok (.ifCond .gt 7, 3) := by decide +kernel
theorem dX12_readEdge_47 : decode cX12_readEdge 47 = .ok (.iconst 1, 1) := by decide +kernel
theorem dX12_readEdge_48 : decode cX12_readEdge 48 = .ok (.goto 4, 3) := by decide +kernel
theorem dX12_readEdge_51 : decode cX12_readEdge 51 = .ok (.iconst 0, 1) := by decide +kernel
theorem dX12_readEdge_52 : decode cX12_readEdge 52 = .ok (.istore_n 3, 1) := by decide +kernel
theorem dX12_readEdge_53 : decode cX12_readEdge 53 = .ok (.iload_n 3, 1) := by decide +kernel
theorem dX12_readEdge_54 : decode cX12_readEdge 54 = .ok (.ifCond .ne 8, 3) := by decide +kernel
theorem dX12_readEdge_57 : decode cX12_readEdge 57 = .ok (.aload_n 0, 1) := by decide +kernel
theorem dX12_readEdge_58 : decode cX12_readEdge 58 = .ok (.iconst 1, 1) := by decide +kernel
theorem dX12_readEdge_59 : decode cX12_readEdge 59 = .ok (.invokevirtual 205, 3) := by decide +kernel
theorem dX12_readEdge_62 : decode cX12_readEdge 62 = .ok (.iload_n 3, 1) := by decide +kernel
theorem dX12_readEdge_63 : decode cX12_readEdge 63 = .ok (.ifCond .eq 13, 3) := by decide +kernel
theorem dX12_readEdge_66 : decode cX12_readEdge 66 = .ok (.aload_n 0, 1) := by decide +kernel
theorem dX12_readEdge_67 : decode cX12_readEdge 67 = .ok (.getfield 170, 3) := by decide +kernel
theorem dX12_readEdge_70 : decode cX12_readEdge 70 = .ok (.l2i, 1) := by decide +kernel
theorem dX12_readEdge_71 : decode cX12_readEdge 71 = .ok (.iconst 1, 1) := by decide +kernel
theorem dX12_readEdge_72 : decode cX12_readEdge 72 = .ok (.isub, 1) := by decide +kernel
theorem dX12_readEdge_73 : decode cX12_readEdge 73 = .ok (.goto 4, 3) := by decide +kernel
theorem dX12_readEdge_76 : decode cX12_readEdge 76 = .ok (.iconst 0, 1) := by decide +kernel
theorem dX12_readEdge_77 : decode cX12_readEdge 77 = .ok (.istore 4, 2) := by decide +kernel
theorem dX12_readEdge_79 : decode cX12_readEdge 79 = .ok (.aload_n 0, 1) := by decide +kernel
theorem dX12_readEdge_80 : decode cX12_readEdge 80 = .ok (.invokevirtual 209, 3) := by decide +kernel
theorem dX12_readEdge_83 : decode cX12_readEdge 83 = .ok (.aload_n 0, 1) := by decide +kernel
theorem dX12_readEdge_84 : decode cX12_readEdge 84 = .ok (.invokevirtual 264, 3) := by decide +kernel
theorem dX12_readEdge_87 : decode cX12_readEdge 87 = .ok (.istore 5, 2) := by decide +kernel
theorem dX12_readEdge_89 : decode cX12_readEdge 89 = .ok (.aload_n 0, 1) := by decide +kernel
theorem dX12_readEdge_90 : decode cX12_readEdge 90 = .ok (.getfield 140, 3) := by decide +kernel
theorem dX12_readEdge_93 : decode cX12_readEdge 93 = .ok (.ifCond .le 4, 3) := by decide +kernel
theorem dX12_readEdge_96 : decode cX12_readEdge 96 = .ok (.return_, 1) := by decide +kernel
theorem dX12_readEdge_97 : decode cX12_readEdge 97 = .ok (.bipush 16, 2) := by decide +kernel
theorem dX12_readEdge_99 : decode cX12_readEdge 99 = .ok (.iconst 3, 1) := by decide +kernel
theorem dX12_readEdge_100 : decode cX12_readEdge 100 = .ok (.aload_n 0, 1) := by decide +kernel
theorem dX12_readEdge_101 : decode cX12_readEdge 101 = .ok (.getfield 215, 3) := by decide +kernel
theorem dX12_readEdge_104 : decode cX12_readEdge 104 = .ok (.iadd, 1) := by decide +kernel
theorem dX12_readEdge_105 : decode cX12_readEdge 105 = .ok (.iconst 1, 1) := by decide +kernel
theorem dX12_readEdge_106 : decode cX12_readEdge 106 = .ok (.isub, 1) := by decide +kernel
theorem dX12_readEdge_107 : decode cX12_readEdge 107 = .ok (.imul, 1) := by decide +kernel
theorem dX12_readEdge_108 : decode cX12_readEdge 108 = .ok (.iconst 4, 1) := by decide +kernel
theorem dX12_readEdge_109 : decode cX12_readEdge 109 = .ok (.iload 4, 2) := by decide +kernel
theorem dX12_readEdge_111 : decode cX12_readEdge 111 = .ok (.imul, 1) := by decide +kernel
theorem dX12_readEdge_112 : decode cX12_readEdge 112 = .ok (.iadd, 1) := by decide +kernel
theorem dX12_readEdge_113 : decode cX12_readEdge 113 = .ok (.iload_n 2, 1) := by decide +kernel
theorem dX12_readEdge_114 : decode cX12_readEdge 114 = .ok (.iadd, 1) := by decide +kernel
theorem dX12_readEdge_115 : decode cX12_readEdge 115 = .ok (.istore 6, 2) := by decide +kernel
theorem dX12_readEdge_117 : decode cX12_readEdge 117 = .ok (.aload_n 0, 1) := by decide +kernel
theorem dX12_readEdge_118 : decode cX12_readEdge 118 = .ok (.getfield 26, 3) := by decide +kernel
theorem dX12_readEdge_121 : decode cX12_readEdge 121 = .ok (.iload 6, 2) := by decide +kernel
theorem dX12_readEdge_123 : decode cX12_readEdge 123 = .ok (.iaload, 1) := by decide +kernel
theorem dX12_readEdge_124 : decode cX12_readEdge 124 = .ok (.iload 5, 2) := by decide +kernel
theorem dX12_readEdge_126 : decode cX12_readEdge 126 = .ok (.ishr, 1) := by decide +kernel
theorem dX12_readEdge_127 : decode cX12_readEdge 127 = .ok (.iconst 1, 1) := by decide +kernel
theorem dX12_readEdge_128 : decode cX12_readEdge 128 = .ok (.iand, 1) := by decide +kernel
theorem dX12_readEdge_129 : decode cX12_readEdge 129 = .ok (.iconst 1, 1) := by decide +kernel
theorem dX12_readEdge_130 : decode cX12_readEdge 130 = .ok (.if_icmp .ne 9, 3) := by decide +kernel
theorem dX12_readEdge_133 : decode cX12_readEdge 133 = .ok (.aload_n 0, 1) := by decide +kernel
theorem dX12_readEdge_134 : decode cX12_readEdge 134 = .ok (.iconst 3, 1) := by decide +kernel
theorem dX12_readEdge_135 : decode cX12_readEdge 135 = .ok (.iload_n 1, 1) := by decide +kernel
theorem dX12_readEdge_136 : decode cX12_readEdge 136 = .ok (.invokevirtual 149, 3) := by decide +kernel
theorem dX12_readEdge_139 : decode cX12_readEdge 139 = .ok (.aload_n 0, 1) := by decide +kernel
theorem dX12_readEdge_140 : decode cX12_readEdge 140 = .ok (.getfield 26, 3) := by decide +kernel
theorem dX12_readEdge_143 : decode cX12_readEdge 143 = .ok (.iload 6, 2) := by decide +kernel
theorem dX12_readEdge_145 : decode cX12_readEdge 145 = .ok (.dup2, 1) := by decide +kernel
theorem dX12_readEdge_146 : decode cX12_readEdge 146 = .ok (.iaload, 1) := by decide +kernel
theorem dX12_readEdge_147 : decode cX12_readEdge 147 = .ok (.iconst 1, 1) := by decide +kernel
theorem dX12_readEdge_148 : decode cX12_readEdge 148 = .ok (.iload 5, 2) := by decide +kernel
theorem dX12_readEdge_150 : decode cX12_readEdge 150 = .ok (.ishl, 1) := by decide +kernel
theorem dX12_readEdge_151 : decode cX12_readEdge 151 = .ok (.ior, 1) := by decide +kernel
theorem dX12_readEdge_152 : decode cX12_readEdge 152 = .ok (.iastore, 1) := by decide +kernel
theorem dX12_readEdge_153 : decode cX12_readEdge 153 = .ok (.return_, 1) := by decide +kernel
theorem dX12_automata_0 : decode cX12_automata 0 = .ok (.aload_n 0, 1) := by decide +kernel
theorem dX12_automata_1 : decode cX12_automata 1 = .ok (.iconst 0, 1) := by decide +kernel
theorem dX12_automata_2 : decode cX12_automata 2 = .ok (.putfield 131, 3) := by decide +kernel
theorem dX12_automata_5 : decode cX12_automata 5 = .ok (.aload_n 0, 1) := by decide +kernel
theorem dX12_automata_6 : decode cX12_automata 6 = .ok (.iload_n 1, 1) := by decide +kernel
theorem dX12_automata_7 : decode cX12_automata 7 = .ok (.invokevirtual 267, 3) := by decide +kernel
theorem dX12_automata_10 : decode cX12_automata 10 = .ok (.ifCond .eq 9, 3) := by decide +kernel
theorem dX12_automata_13 : decode cX12_automata 13 = .ok (.aload_n 0, 1) := by decide +kernel
theorem dX12_automata_14 : decode cX12_automata 14 = .ok (.iconst 2, 1) := by decide +kernel
theorem dX12_automata_15 : decode cX12_automata 15 = .ok (.invokevirtual 270, 3) := by decide +kernel
theorem dX12_automata_18 : decode cX12_automata 18 = .ok (.ireturn, 1) := by decide +kernel
theorem dX12_automata_19 : decode cX12_automata 19 = .ok (.aload_n 0, 1) := by decide +kernel
theorem dX12_automata_20 : decode cX12_automata 20 = .ok (.iload_n 1, 1) := by decide +kernel
theorem dX12_automata_21 : decode cX12_automata 21 = .ok (.invokevirtual 274, 3) := by decide +kernel
theorem dX12_automata_24 : decode cX12_automata 24 = .ok (.aload_n 0, 1) := by decide +kernel
theorem dX12_automata_25 : decode cX12_automata 25 = .ok (.invokevirtual 277, 3) := by decide +kernel
theorem dX12_automata_28 : decode cX12_automata 28 = .ok (.aload_n 0, 1) := by decide +kernel
theorem dX12_automata_29 : decode cX12_automata 29 = .ok (.getfield 140, 3) := by decide +kernel
theorem dX12_automata_32 : decode cX12_automata 32 = .ok (.ifCond .le 8, 3) := by decide +kernel
theorem dX12_automata_35 : decode cX12_automata 35 = .ok (.aload_n 0, 1) := by decide +kernel
theorem dX12_automata_36 : decode cX12_automata 36 = .ok (.invokevirtual 280, 3) := by decide +kernel
theorem dX12_automata_39 : decode cX12_automata 39 = .ok (.ireturn, 1) := by decide +kernel
theorem dX12_automata_40 : decode cX12_automata 40 = .ok (.aload_n 0, 1) := by decide +kernel
theorem dX12_automata_41 : decode cX12_automata 41 = .ok (.aload_n 0, 1) := by decide +kernel
theorem dX12_automata_42 : decode cX12_automata 42 = .ok (.getfield 212, 3) := by decide +kernel
theorem dX12_automata_45 : decode cX12_automata 45 = .ok (.putfield 283, 3) := by decide +kernel
theorem dX12_automata_48 : decode cX12_automata 48 = .ok (.aload_n 0, 1) := by decide +kernel
theorem dX12_automata_49 : decode cX12_automata 49 = .ok (.aload_n 0, 1) := by decide +kernel
theorem dX12_automata_50 : decode cX12_automata 50 = .ok (.getfield 215, 3) := by decide +kernel
theorem dX12_automata_53 : decode cX12_automata 53 = .ok (.putfield 285, 3) := by decide +kernel
theorem dX12_automata_56 : decode cX12_automata 56 = .ok (.iconst 0, 1) := by decide +kernel
theorem dX12_automata_57 : decode cX12_automata 57 = .ok (.istore_n 2, 1) := by decide +kernel
theorem dX12_automata_58 : decode cX12_automata 58 = .ok (.iload_n 2, 1) := by decide +kernel
theorem dX12_automata_59 : decode cX12_automata 59 = .ok (.aload_n 0, 1) := by decide +kernel
theorem dX12_automata_60 : decode cX12_automata 60 = .ok (.getfield 285, 3) := by decide +kernel
theorem dX12_automata_63 : decode cX12_automata 63 = .ok (.if_icmp .ge 89, 3) := by decide +kernel
theorem dX12_automata_66 : decode cX12_automata 66 = .ok (.aload_n 0, 1) := by decide +kernel
theorem dX12_automata_67 : decode cX12_automata 67 = .ok (.getfield 17, 3) := by decide +kernel
theorem dX12_automata_70 : decode cX12_automata 70 = .ok (.iload_n 2, 1) := by decide +kernel
theorem dX12_automata_71 : decode cX12_automata 71 = .ok (.aload_n 0, 1) := by decide +kernel
theorem dX12_automata_72 : decode cX12_automata 72 = .ok (.getfield 17, 3) := by decide +kernel
theorem dX12_automata_75 : decode cX12_automata 75 = .ok (.iconst 3, 1) := by decide +kernel
theorem dX12_automata_76 : decode cX12_automata 76 = .ok (.iload_n 2, 1) := by decide +kernel
theorem dX12_automata_77 : decode cX12_automata 77 = .ok (.iadd, 1) := by decide +kernel
theorem dX12_automata_78 : decode cX12_automata 78 = .ok (.iaload, 1) := by decide +kernel
theorem dX12_automata_79 : decode cX12_automata 79 = .ok (.iastore, 1) := by decide +kernel
theorem dX12_automata_80 : decode cX12_automata 80 = .ok (.aload_n 0, 1) := by decide +kernel
theorem dX12_automata_81 : decode cX12_automata 81 = .ok (.getfield 20, 3) := by decide +kernel
theorem dX12_automata_84 : decode cX12_automata 84 = .ok (.iload_n 2, 1) := by decide +kernel
theorem dX12_automata_85 : decode cX12_automata 85 = .ok (.aload_n 0, 1) := by decide +kernel
theorem dX12_automata_86 : decode cX12_automata 86 = .ok (.getfield 20, 3) := by decide +kernel
theorem dX12_automata_89 : decode cX12_automata 89 = .ok (.iconst 3, 1) := by decide +kernel
theorem dX12_automata_90 : decode cX12_automata 90 = .ok (.iload_n 2, 1) := by decide +kernel
theorem dX12_automata_91 : decode cX12_automata 91 = .ok (.iadd, 1) := by decide +kernel
theorem dX12_automata_92 : decode cX12_automata 92 = .ok (.iaload, 1) := by decide +kernel
theorem dX12_automata_93 : decode cX12_automata 93 = .ok (.iastore, 1) := by decide +kernel
theorem dX12_automata_94 : decode cX12_automata 94 = .ok (.aload_n 0, 1) := by decide +kernel
theorem dX12_automata_95 : decode cX12_automata 95 = .ok (.getfield 23, 3) := by decide +kernel
theorem dX12_automata_98 : decode cX12_automata 98 = .ok (.iload_n 2, 1) := by decide +kernel
theorem dX12_automata_99 : decode cX12_automata 99 = .ok (.aload_n 0, 1) := by decide +kernel
theorem dX12_automata_100 : decode cX12_automata 100 = .ok (.getfield 23, 3) := by decide +kernel
theorem dX12_automata_103 : decode cX12_automata 103 = .ok (.iconst 3, 1) := by decide +kernel
theorem dX12_automata_104 : decode cX12_automata 104 = .ok (.iload_n 2, 1) := by decide +kernel
theorem dX12_automata_105 : decode cX12_automata 105 = .ok (.iadd, 1) := by decide +kernel
theorem dX12_automata_106 : decode cX12_automata 106 = .ok (.iaload, 1) := by decide +kernel
theorem dX12_automata_107 : decode cX12_automata 107 = .ok (.iastore, 1) := by decide +kernel
theorem dX12_automata_108 : decode cX12_automata 108 = .ok (.iconst 0, 1) := by decide +kernel
theorem dX12_automata_109 : decode cX12_automata 109 = .ok (.istore_n 3, 1) := by decide +kernel
theorem dX12_automata_110 : decode cX12_automata 110 = .ok (.iload_n 3, 1) := by decide +kernel
theorem dX12_automata_111 : decode cX12_automata 111 = .ok (.bipush 16, 2) := by decide +kernel
theorem dX12_automata_113 : decode cX12_automata 113 = .ok (.if_icmp .ge 33, 3) := by decide +kernel
theorem dX12_automata_116 : decode cX12_automata 116 = .ok (.aload_n 0, 1) := by decide +kernel
theorem dX12_automata_117 : decode cX12_automata 117 = .ok (.getfield 26, 3) := by decide +kernel
theorem dX12_automata_120 : decode cX12_automata 120 = .ok (.bipush 16, 2) := by decide +kernel
theorem dX12_automata_122 : decode cX12_automata 122 = .ok (.iload_n 2, 1) := by decide +kernel
theorem dX12_automata_123 : decode cX12_automata 123 = .ok (.imul, 1) := by decide +kernel
theorem dX12_automata_124 : decode cX12_automata 124 = .ok (.iload_n 3, 1) := by decide +kernel
theorem dX12_automata_125 : decode cX12_automata 125 = .ok (.iadd, 1) := by decide +kernel
theorem dX12_automata_126 : decode cX12_automata 126 = .ok (.aload_n 0, 1) := by decide +kernel
theorem dX12_automata_127 : decode cX12_automata 127 = .ok (.getfield 26, 3) := by decide +kernel
theorem dX12_automata_130 : decode cX12_automata 130 = .ok (.bipush 16, 2) := by decide +kernel
theorem dX12_automata_132 : decode cX12_automata 132 = .ok (.iconst 3, 1) := by decide +kernel
theorem dX12_automata_133 : decode cX12_automata 133 = .ok (.iload_n 2, 1) := by decide +kernel
theorem dX12_automata_134 : decode cX12_automata 134 = .ok (.iadd, 1) := by decide +kernel
theorem dX12_automata_135 : decode cX12_automata 135 = .ok (.imul, 1) := by decide +kernel
theorem dX12_automata_136 : decode cX12_automata 136 = .ok (.iload_n 3, 1) := by decide +kernel
theorem dX12_automata_137 : decode cX12_automata 137 = .ok (.iadd, 1) := by decide +kernel
theorem dX12_automata_138 : decode cX12_automata 138 = .ok (.iaload, 1) := by decide +kernel
theorem dX12_automata_139 : decode cX12_automata 139 = .ok (.iastore, 1) := by decide +kernel
theorem dX12_automata_140 : decode cX12_automata 140 = .ok (.iinc 3 1, 3) := by decide +kernel
theorem dX12_automata_143 : decode cX12_automata 143 = .ok (.goto (-33), 3) := by decide +kernel
theorem dX12_automata_146 : decode cX12_automata 146 = .ok (.iinc 2 1, 3) := by decide +kernel
theorem dX12_automata_149 : decode cX12_automata 149 = .ok (.goto (-91), 3) := by decide +kernel
theorem dX12_automata_152 : decode cX12_automata 152 = .ok (.aload_n 0, 1) := by decide +kernel
theorem dX12_automata_153 : decode cX12_automata 153 = .ok (.iconst (-1), 1) := by decide +kernel
theorem dX12_automata_154 : decode cX12_automata 154 = .ok (.putfield 61, 3) := by decide +kernel
theorem dX12_automata_157 : decode cX12_automata 157 = .ok (.aload_n 0, 1) := by decide +kernel
theorem dX12_automata_158 : decode cX12_automata 158 = .ok (.aload_n 0, 1) := by decide +kernel
theorem dX12_automata_159 : decode cX12_automata 159 = .ok (.getfield 285, 3) := by decide +kernel
theorem dX12_automata_162 : decode cX12_automata 162 = .ok (.invokevirtual 288, 3) := by decide +kernel
theorem dX12_automata_165 : decode cX12_automata 165 = .ok (.ireturn, 1) := by decide +kernel
theorem dX12_isAuto_0 : decode cX12_isAuto 0 = .ok (.iload_n 1, 1) := by decide +kernel
theorem dX12_isAuto_1 : decode cX12_isAuto 1 = .ok (.iconst 0, 1) := by decide +kernel
theorem dX12_isAuto_2 : decode cX12_isAuto 2 = .ok (.aload_n 0, 1) := by decide +kernel
theorem dX12_isAuto_3 : decode cX12_isAuto 3 = .ok (.getfield 285, 3) := by decide +kernel
theorem dX12_isAuto_6 : decode cX12_isAuto 6 = .ok (.iconst 1, 1) := by decide +kernel
theorem dX12_isAuto_7 : decode cX12_isAuto 7 = .ok (.isub, 1) := by decide +kernel
theorem dX12_isAuto_8 : decode cX12_isAuto 8 = .ok (.invokestatic 156, 3) := by decide +kernel
theorem dX12_isAuto_11 : decode cX12_isAuto 11 = .ok (.ireturn, 1) := by decide +kernel
theorem dX12_isState_0 : decode cX12_isState 0 = .ok (.aload_n 0, 1) := by decide +kernel
theorem dX12_isState_1 : decode cX12_isState 1 = .ok (.iload_n 1, 1) := by decide +kernel
theorem dX12_isState_2 : decode cX12_isState 2 = .ok (.invokevirtual 291, 3) := by decide +kernel
theorem dX12_isState_5 : decode cX12_isState 5 = .ok (.ifCond .eq 23, 3) := by decide +kernel
theorem dX12_isState_8 : decode cX12_isState 8 = .ok (.iload_n 2, 1) := by decide +kernel
theorem dX12_isState_9 : decode cX12_isState 9 = .ok (.iconst 0, 1) := by decide +kernel
theorem dX12_isState_10 : decode cX12_isState 10 = .ok (.aload_n 0, 1) := by decide +kernel
theorem dX12_isState_11 : decode cX12_isState 11 = .ok (.getfield 17, 3) := by decide +kernel
theorem dX12_isState_14 : decode cX12_isState 14 = .ok (.iload_n 1, 1) := by decide +kernel
theorem dX12_isState_15 : decode cX12_isState 15 = .ok (.iaload, 1) := by decide +kernel
theorem dX12_isState_16 : decode cX12_isState 16 = .ok (.iconst 1, 1) := by decide +kernel
theorem dX12_isState_17 : decode cX12_isState 17 = .ok (.isub, 1) := by decide +kernel
theorem dX12_isState_18 : decode cX12_isState 18 = .ok (.invokestatic 156, 3) := by decide +kernel
theorem dX12_isState_21 : decode cX12_isState 21 = .ok (.ifCond .eq 7, 3) := by decide +kernel
theorem dX12_isState_24 : decode cX12_isState 24 = .ok (.iconst 1, 1) := by decide +kernel
theorem dX12_isState_25 : decode cX12_isState 25 = .ok (.goto 4, 3) := by decide +kernel
theorem dX12_isState_28 : decode cX12_isState 28 = .ok (.iconst 0, 1) := by decide +kernel
theorem dX12_isState_29 : decode cX12_isState 29 = .ok (.ireturn, 1) := by decide +kernel
theorem dX12_isLetter_0 : decode cX12_isLetter 0 = .ok (.iload_n 1, 1) := by decide +kernel
theorem dX12_isLetter_1 : decode cX12_isLetter 1 = .ok (.iconst 0, 1) := by decide +kernel
theorem dX12_isLetter_2 : decode cX12_isLetter 2 = .ok (.aload_n 0, 1) := by decide +kernel
theorem dX12_isLetter_3 : decode cX12_isLetter 3 = .ok (.getfield 283, 3) := by decide +kernel
theorem dX12_isLetter_6 : decode cX12_isLetter 6 = .ok (.iconst 1, 1) := by decide +kernel
theorem dX12_isLetter_7 : decode cX12_isLetter 7 = .ok (.isub, 1) := by decide +kernel
theorem dX12_isLetter_8 : decode cX12_isLetter 8 = .ok (.invokestatic 156, 3) := by decide +kernel
theorem dX12_isLetter_11 : decode cX12_isLetter 11 = .ok (.ireturn, 1) := by decide +kernel
theorem dX12_isSet_0 : decode cX12_isSet 0 = .ok (.iload_n 2, 1) := by decide +kernel
theorem dX12_isSet_1 : decode cX12_isSet 1 = .ok (.iconst 0, 1) := by decide +kernel
theorem dX12_isSet_2 : decode cX12_isSet 2 = .ok (.iconst 1, 1) := by decide +kernel
theorem dX12_isSet_3 : decode cX12_isSet 3 = .ok (.aload_n 0, 1) := by decide +kernel
theorem dX12_isSet_4 : decode cX12_isSet 4 = .ok (.getfield 17, 3) := by decide +kernel
theorem dX12_isSet_7 : decode cX12_isSet 7 = .ok (.iload_n 1, 1) := by decide +kernel
theorem dX12_isSet_8 : decode cX12_isSet 8 = .ok (.iaload, 1) := by decide +kernel
theorem dX12_isSet_9 : decode cX12_isSet 9 = .ok (.ishl, 1) := by decide +kernel
theorem dX12_isSet_10 : decode cX12_isSet 10 = .ok (.iconst 1, 1) := by decide +kernel
theorem dX12_isSet_11 : decode cX12_isSet 11 = .ok (.isub, 1) := by decide +kernel
theorem dX12_isSet_12 : decode cX12_isSet 12 = .ok (.invokestatic 156, 3) := by decide +kernel
theorem dX12_isSet_15 : decode cX12_isSet 15 = .ok (.ireturn, 1) := by decide +kernel
theorem dX12_automaton_0 : decode cX12_automaton 0 = .ok (.aload_n 0, 1) := by decide +kernel
theorem dX12_automaton_1 : decode cX12_automaton 1 = .ok (.iconst 0, 1) := by decide +kernel
theorem dX12_automaton_2 : decode cX12_automaton 2 = .ok (.putfield 131, 3) := by decide +kernel
theorem dX12_automaton_5 : decode cX12_automaton 5 = .ok (.aload_n 0, 1) := by decide +kernel
theorem dX12_automaton_6 : decode cX12_automaton 6 = .ok (.iload_n 1, 1) := by decide +kernel
theorem dX12_automaton_7 : decode cX12_automaton 7 = .ok (.invokevirtual 291, 3) := by decide +kernel
theorem dX12_automaton_10 : decode cX12_automaton 10 = .ok (.ifCond .ne 9, 3) := by decide +kernel
theorem dX12_automaton_13 : decode cX12_automaton 13 = .ok (.aload_n 0, 1) := by decide +kernel
theorem dX12_automaton_14 : decode cX12_automaton 14 = .ok (.iconst 1, 1) := by decide +kernel
theorem dX12_automaton_15 : decode cX12_automaton 15 = .ok (.invokevirtual 270, 3) := by decide +kernel
theorem dX12_automaton_18 : decode cX12_automaton 18 = .ok (.ireturn, 1) := by decide +kernel
theorem dX12_automaton_19 : decode cX12_automaton 19 = .ok (.iload_n 2, 1) := by decide +kernel
theorem dX12_automaton_20 : decode cX12_automaton 20 = .ok (.tableswitch 88 0 4 #[36, 47, 58, 69, 79], 36) := by decide +kernel
theorem dX12_automaton_56 : decode cX12_automaton 56 = .ok (.aload_n 0, 1) := by decide +kernel
theorem dX12_automaton_57 : decode cX12_automaton 57 = .ok (.aload_n 0, 1) := by decide +kernel
theorem dX12_automaton_58 : decode cX12_automaton 58 = .ok (.getfield 17, 3) := by decide +kernel
theorem dX12_automaton_61 : decode cX12_automaton 61 = .ok (.iload_n 1, 1) := by decide +kernel
theorem dX12_automaton_62 : decode cX12_automaton 62 = .ok (.iaload, 1) := by decide +kernel
theorem dX12_automaton_63 : decode cX12_automaton 63 = .ok (.invokevirtual 288, 3) := by decide +kernel
theorem dX12_automaton_66 : decode cX12_automaton 66 = .ok (.ireturn, 1) := by decide +kernel
theorem dX12_automaton_67 : decode cX12_automaton 67 = .ok (.aload_n 0, 1) := by decide +kernel
theorem dX12_automaton_68 : decode cX12_automaton 68 = .ok (.aload_n 0, 1) := by decide +kernel
theorem dX12_automaton_69 : decode cX12_automaton 69 = .ok (.getfield 20, 3) := by decide +kernel
theorem dX12_automaton_72 : decode cX12_automaton 72 = .ok (.iload_n 1, 1) := by decide +kernel
theorem dX12_automaton_73 : decode cX12_automaton 73 = .ok (.iaload, 1) := by decide +kernel
theorem dX12_automaton_74 : decode cX12_automaton 74 = .ok (.invokevirtual 288, 3) := by decide +kernel
theorem dX12_automaton_77 : decode cX12_automaton 77 = .ok (.ireturn, 1) := by decide +kernel
theorem dX12_automaton_78 : decode cX12_automaton 78 = .ok (.aload_n 0, 1) := by decide +kernel
theorem dX12_automaton_79 : decode cX12_automaton 79 = .ok (.aload_n 0, 1) := by decide +kernel
theorem dX12_automaton_80 : decode cX12_automaton 80 = .ok (.getfield 23, 3) := by decide +kernel
theorem dX12_automaton_83 : decode cX12_automaton 83 = .ok (.iload_n 1, 1) := by decide +kernel
theorem dX12_automaton_84 : decode cX12_automaton 84 = .ok (.iaload, 1) := by decide +kernel
theorem dX12_automaton_85 : decode cX12_automaton 85 = .ok (.invokevirtual 288, 3) := by decide +kernel
theorem dX12_automaton_88 : decode cX12_automaton 88 = .ok (.ireturn, 1) := by decide +kernel
theorem dX12_automaton_89 : decode cX12_automaton 89 = .ok (.aload_n 0, 1) := by decide +kernel
theorem dX12_automaton_90 : decode cX12_automaton 90 = .ok (.aload_n 0, 1) := by decide +kernel
theorem dX12_automaton_91 : decode cX12_automaton 91 = .ok (.iload_n 1, 1) := by decide +kernel
theorem dX12_automaton_92 : decode cX12_automaton 92 = .ok (.invokevirtual 294, 3) := by decide +kernel
theorem dX12_automaton_95 : decode cX12_automaton 95 = .ok (.invokevirtual 288, 3) := by decide +kernel
theorem dX12_automaton_98 : decode cX12_automaton 98 = .ok (.ireturn, 1) := by decide +kernel
theorem dX12_automaton_99 : decode cX12_automaton 99 = .ok (.aload_n 0, 1) := by decide +kernel
theorem dX12_automaton_100 : decode cX12_automaton 100 = .ok (.aload_n 0, 1) := by decide +kernel
theorem dX12_automaton_101 : decode cX12_automaton 101 = .ok (.getfield 283, 3) := by decide +kernel
theorem dX12_automaton_104 : decode cX12_automaton 104 = .ok (.invokevirtual 288, 3) := by decide +kernel
theorem dX12_automaton_107 : decode cX12_automaton 107 = .ok (.ireturn, 1) := by decide +kernel
theorem dX12_automaton_108 : decode cX12_automaton 108 = .ok (.aload_n 0, 1) := by decide +kernel
theorem dX12_automaton_109 : decode cX12_automaton 109 = .ok (.iconst 1, 1) := by decide +kernel
theorem dX12_automaton_110 : decode cX12_automaton 110 = .ok (.invokevirtual 270, 3) := by decide +kernel
theorem dX12_automaton_113 : decode cX12_automaton 113 = .ok (.ireturn, 1) := by decide +kernel
theorem dX12_edgeMany_0 : decode cX12_edgeMany 0 = .ok (.iconst 0, 1) := by decide +kernel
theorem dX12_edgeMany_1 : decode cX12_edgeMany 1 = .ok (.istore_n 2, 1) := by decide +kernel
theorem dX12_edgeMany_2 : decode cX12_edgeMany 2 = .ok (.iconst 0, 1) := by decide +kernel
theorem dX12_edgeMany_3 : decode cX12_edgeMany 3 = .ok (.istore_n 3, 1) := by decide +kernel
theorem dX12_edgeMany_4 : decode cX12_edgeMany 4 = .ok (.iload_n 3, 1) := by decide +kernel
theorem dX12_edgeMany_5 : decode cX12_edgeMany 5 = .ok (.bipush 16, 2) := by decide +kernel
theorem dX12_edgeMany_7 : decode cX12_edgeMany 7 = .ok (.if_icmp .ge 26, 3) := by decide +kernel
theorem dX12_edgeMany_10 : decode cX12_edgeMany 10 = .ok (.iload_n 2, 1) := by decide +kernel
theorem dX12_edgeMany_11 : decode cX12_edgeMany 11 = .ok (.aload_n 0, 1) := by decide +kernel
theorem dX12_edgeMany_12 : decode cX12_edgeMany 12 = .ok (.getfield 26, 3) := by decide +kernel
theorem dX12_edgeMany_15 : decode cX12_edgeMany 15 = .ok (.bipush 16, 2) := by decide +kernel
theorem dX12_edgeMany_17 : decode cX12_edgeMany 17 = .ok (.iload_n 1, 1) := by decide +kernel
theorem dX12_edgeMany_18 : decode cX12_edgeMany 18 = .ok (.imul, 1) := by decide +kernel
theorem dX12_edgeMany_19 : decode cX12_edgeMany 19 = .ok (.iload_n 3, 1) := by decide +kernel
theorem dX12_edgeMany_20 : decode cX12_edgeMany 20 = .ok (.iadd, 1) := by decide +kernel
theorem dX12_edgeMany_21 : decode cX12_edgeMany 21 = .ok (.iaload, 1) := by decide +kernel
theorem dX12_edgeMany_22 : decode cX12_edgeMany 22 = .ok (.invokestatic 297, 3) := by decide +kernel
theorem dX12_edgeMany_25 : decode cX12_edgeMany 25 = .ok (.iadd, 1) := by decide +kernel
theorem dX12_edgeMany_26 : decode cX12_edgeMany 26 = .ok (.istore_n 2, 1) := by decide +kernel
theorem dX12_edgeMany_27 : decode cX12_edgeMany 27 = .ok (.iinc 3 1, 3) := by decide +kernel
theorem dX12_edgeMany_30 : decode cX12_edgeMany 30 = .ok (.goto (-26), 3) := by decide +kernel
theorem dX12_edgeMany_33 : decode cX12_edgeMany 33 = .ok (.iload_n 2, 1) := by decide +kernel
theorem dX12_edgeMany_34 : decode cX12_edgeMany 34 = .ok (.ireturn, 1) := by decide +kernel
theorem dX12_edgesOf_0 : decode cX12_edgesOf 0 = .ok (.aload_n 0, 1) := by decide +kernel
theorem dX12_edgesOf_1 : decode cX12_edgesOf 1 = .ok (.getfield 26, 3) := by decide +kernel
theorem dX12_edgesOf_4 : decode cX12_edgesOf 4 = .ok (.bipush 16, 2) := by decide +kernel
theorem dX12_edgesOf_6 : decode cX12_edgesOf 6 = .ok (.iload_n 1, 1) := by decide +kernel
theorem dX12_edgesOf_7 : decode cX12_edgesOf 7 = .ok (.imul, 1) := by decide +kernel
theorem dX12_edgesOf_8 : decode cX12_edgesOf 8 = .ok (.iconst 4, 1) := by decide +kernel
theorem dX12_edgesOf_9 : decode cX12_edgesOf 9 = .ok (.iload_n 2, 1) := by decide +kernel
theorem dX12_edgesOf_10 : decode cX12_edgesOf 10 = .ok (.imul, 1) := by decide +kernel
theorem dX12_edgesOf_11 : decode cX12_edgesOf 11 = .ok (.iadd, 1) := by decide +kernel
theorem dX12_edgesOf_12 : decode cX12_edgesOf 12 = .ok (.iload_n 3, 1) := by decide +kernel
theorem dX12_edgesOf_13 : decode cX12_edgesOf 13 = .ok (.iadd, 1) := by decide +kernel
theorem dX12_edgesOf_14 : decode cX12_edgesOf 14 = .ok (.iaload, 1) := by decide +kernel
theorem dX12_edgesOf_15 : decode cX12_edgesOf 15 = .ok (.ireturn, 1) := by decide +kernel
theorem dX12_edge_0 : decode cX12_edge 0 = .ok (.aload_n 0, 1) := by decide +kernel
theorem dX12_edge_1 : decode cX12_edge 1 = .ok (.iconst 0, 1) := by decide +kernel
theorem dX12_edge_2 : decode cX12_edge 2 = .ok (.putfield 131, 3) := by decide +kernel
theorem dX12_edge_5 : decode cX12_edge 5 = .ok (.aload_n 0, 1) := by decide +kernel
theorem dX12_edge_6 : decode cX12_edge 6 = .ok (.iload_n 1, 1) := by decide +kernel
theorem dX12_edge_7 : decode cX12_edge 7 = .ok (.iload_n 2, 1) := by decide +kernel
theorem dX12_edge_8 : decode cX12_edge 8 = .ok (.invokevirtual 302, 3) := by decide +kernel
theorem dX12_edge_11 : decode cX12_edge 11 = .ok (.ifCond .eq 21, 3) := by decide +kernel
theorem dX12_edge_14 : decode cX12_edge 14 = .ok (.aload_n 0, 1) := by decide +kernel
theorem dX12_edge_15 : decode cX12_edge 15 = .ok (.iload_n 3, 1) := by decide +kernel
theorem dX12_edge_16 : decode cX12_edge 16 = .ok (.invokevirtual 306, 3) := by decide +kernel
theorem dX12_edge_19 : decode cX12_edge 19 = .ok (.ifCond .eq 13, 3) := by decide +kernel
theorem dX12_edge_22 : decode cX12_edge 22 = .ok (.aload_n 0, 1) := by decide +kernel
theorem dX12_edge_23 : decode cX12_edge 23 = .ok (.iload_n 1, 1) := by decide +kernel
theorem dX12_edge_24 : decode cX12_edge 24 = .ok (.iload 4, 2) := by decide +kernel
theorem dX12_edge_26 : decode cX12_edge 26 = .ok (.invokevirtual 302, 3) := by decide +kernel
theorem dX12_edge_29 : decode cX12_edge 29 = .ok (.ifCond .ne 9, 3) := by decide +kernel
theorem dX12_edge_32 : decode cX12_edge 32 = .ok (.aload_n 0, 1) := by decide +kernel
theorem dX12_edge_33 : decode cX12_edge 33 = .ok (.iconst 1, 1) := by decide +kernel
theorem dX12_edge_34 : decode cX12_edge 34 = .ok (.invokevirtual 270, 3) := by decide +kernel
theorem dX12_edge_37 : decode cX12_edge 37 = .ok (.ireturn, 1) := by decide +kernel
theorem dX12_edge_38 : decode cX12_edge 38 = .ok (.aload_n 0, 1) := by decide +kernel
theorem dX12_edge_39 : decode cX12_edge 39 = .ok (.aload_n 0, 1) := by decide +kernel
theorem dX12_edge_40 : decode cX12_edge 40 = .ok (.iload_n 1, 1) := by decide +kernel
theorem dX12_edge_41 : decode cX12_edge 41 = .ok (.iload_n 3, 1) := by decide +kernel
theorem dX12_edge_42 : decode cX12_edge 42 = .ok (.iload_n 2, 1) := by decide +kernel
theorem dX12_edge_43 : decode cX12_edge 43 = .ok (.invokevirtual 309, 3) := by decide +kernel
theorem dX12_edge_46 : decode cX12_edge 46 = .ok (.iload 4, 2) := by decide +kernel
theorem dX12_edge_48 : decode cX12_edge 48 = .ok (.ishr, 1) := by decide +kernel
theorem dX12_edge_49 : decode cX12_edge 49 = .ok (.iconst 1, 1) := by decide +kernel
theorem dX12_edge_50 : decode cX12_edge 50 = .ok (.iand, 1) := by decide +kernel
theorem dX12_edge_51 : decode cX12_edge 51 = .ok (.invokevirtual 288, 3) := by decide +kernel
theorem dX12_edge_54 : decode cX12_edge 54 = .ok (.ireturn, 1) := by decide +kernel
theorem dX12_afterOf_0 : decode cX12_afterOf 0 = .ok (.iconst 0, 1) := by decide +kernel
theorem dX12_afterOf_1 : decode cX12_afterOf 1 = .ok (.istore 4, 2) := by decide +kernel
theorem dX12_afterOf_3 : decode cX12_afterOf 3 = .ok (.iconst 0, 1) := by decide +kernel
theorem dX12_afterOf_4 : decode cX12_afterOf 4 = .ok (.istore 5, 2) := by decide +kernel
theorem dX12_afterOf_6 : decode cX12_afterOf 6 = .ok (.iload 5, 2) := by decide +kernel
theorem dX12_afterOf_8 : decode cX12_afterOf 8 = .ok (.iconst 4, 1) := by decide +kernel
theorem dX12_afterOf_9 : decode cX12_afterOf 9 = .ok (.if_icmp .ge 32, 3) := by decide +kernel
theorem dX12_afterOf_12 : decode cX12_afterOf 12 = .ok (.iload_n 2, 1) := by decide +kernel
theorem dX12_afterOf_13 : decode cX12_afterOf 13 = .ok (.iload 5, 2) := by decide +kernel
theorem dX12_afterOf_15 : decode cX12_afterOf 15 = .ok (.ishr, 1) := by decide +kernel
theorem dX12_afterOf_16 : decode cX12_afterOf 16 = .ok (.iconst 1, 1) := by decide +kernel
theorem dX12_afterOf_17 : decode cX12_afterOf 17 = .ok (.iand, 1) := by decide +kernel
theorem dX12_afterOf_18 : decode cX12_afterOf 18 = .ok (.iconst 1, 1) := by decide +kernel
theorem dX12_afterOf_19 : decode cX12_afterOf 19 = .ok (.if_icmp .ne 16, 3) := by decide +kernel
theorem dX12_afterOf_22 : decode cX12_afterOf 22 = .ok (.iload 4, 2) := by decide +kernel
theorem dX12_afterOf_24 : decode cX12_afterOf 24 = .ok (.aload_n 0, 1) := by decide +kernel
theorem dX12_afterOf_25 : decode cX12_afterOf 25 = .ok (.iload_n 1, 1) := by decide +kernel
theorem dX12_afterOf_26 : decode cX12_afterOf 26 = .ok (.iload_n 3, 1) := by decide +kernel
theorem dX12_afterOf_27 : decode cX12_afterOf 27 = .ok (.iload 5, 2) := by decide +kernel
theorem dX12_afterOf_29 : decode cX12_afterOf 29 = .ok (.invokevirtual 309, 3) := by decide +kernel
theorem dX12_afterOf_32 : decode cX12_afterOf 32 = .ok (.ior, 1) := by decide +kernel
theorem dX12_afterOf_33 : decode cX12_afterOf 33 = .ok (.istore 4, 2) := by decide +kernel
theorem dX12_afterOf_35 : decode cX12_afterOf 35 = .ok (.iinc 5 1, 3) := by decide +kernel
theorem dX12_afterOf_38 : decode cX12_afterOf 38 = .ok (.goto (-32), 3) := by decide +kernel
theorem dX12_afterOf_41 : decode cX12_afterOf 41 = .ok (.iload 4, 2) := by decide +kernel
theorem dX12_afterOf_43 : decode cX12_afterOf 43 = .ok (.ireturn, 1) := by decide +kernel
theorem dX12_after_0 : decode cX12_after 0 = .ok (.aload_n 0, 1) := by decide +kernel
theorem dX12_after_1 : decode cX12_after 1 = .ok (.iconst 0, 1) := by decide +kernel
theorem dX12_after_2 : decode cX12_after 2 = .ok (.putfield 131, 3) := by decide +kernel
theorem dX12_after_5 : decode cX12_after 5 = .ok (.aload_n 0, 1) := by decide +kernel
theorem dX12_after_6 : decode cX12_after 6 = .ok (.iload_n 1, 1) := by decide +kernel
theorem dX12_after_7 : decode cX12_after 7 = .ok (.invokevirtual 291, 3) := by decide +kernel
theorem dX12_after_10 : decode cX12_after 10 = .ok (.ifCond .eq 11, 3) := by decide +kernel
theorem dX12_after_13 : decode cX12_after 13 = .ok (.aload_n 0, 1) := by decide +kernel
theorem dX12_after_14 : decode cX12_after 14 = .ok (.iload_n 3, 1) := by decide +kernel
theorem dX12_after_15 : decode cX12_after 15 = .ok (.invokevirtual 306, 3) := by decide +kernel
theorem dX12_after_18 : decode cX12_after 18 = .ok (.ifCond .ne 9, 3) := by decide +kernel
theorem dX12_after_21 : decode cX12_after 21 = .ok (.aload_n 0, 1) := by decide +kernel
theorem dX12_after_22 : decode cX12_after 22 = .ok (.iconst 1, 1) := by decide +kernel
theorem dX12_after_23 : decode cX12_after 23 = .ok (.invokevirtual 270, 3) := by decide +kernel
theorem dX12_after_26 : decode cX12_after 26 = .ok (.ireturn, 1) := by decide +kernel
theorem dX12_after_27 : decode cX12_after 27 = .ok (.aload_n 0, 1) := by decide +kernel
theorem dX12_after_28 : decode cX12_after 28 = .ok (.iload_n 1, 1) := by decide +kernel
theorem dX12_after_29 : decode cX12_after 29 = .ok (.iload_n 2, 1) := by decide +kernel
theorem dX12_after_30 : decode cX12_after 30 = .ok (.invokevirtual 313, 3) := by decide +kernel
theorem dX12_after_33 : decode cX12_after 33 = .ok (.ifCond .eq 17, 3) := by decide +kernel
theorem dX12_after_36 : decode cX12_after 36 = .ok (.aload_n 0, 1) := by decide +kernel
theorem dX12_after_37 : decode cX12_after 37 = .ok (.aload_n 0, 1) := by decide +kernel
theorem dX12_after_38 : decode cX12_after 38 = .ok (.iload_n 1, 1) := by decide +kernel
theorem dX12_after_39 : decode cX12_after 39 = .ok (.iload_n 2, 1) := by decide +kernel
theorem dX12_after_40 : decode cX12_after 40 = .ok (.iload_n 3, 1) := by decide +kernel
theorem dX12_after_41 : decode cX12_after 41 = .ok (.invokevirtual 316, 3) := by decide +kernel
theorem dX12_after_44 : decode cX12_after 44 = .ok (.invokevirtual 288, 3) := by decide +kernel
theorem dX12_after_47 : decode cX12_after 47 = .ok (.goto 8, 3) := by decide +kernel
theorem dX12_after_50 : decode cX12_after 50 = .ok (.aload_n 0, 1) := by decide +kernel
theorem dX12_after_51 : decode cX12_after 51 = .ok (.iconst 2, 1) := by decide +kernel
theorem dX12_after_52 : decode cX12_after 52 = .ok (.invokevirtual 270, 3) := by decide +kernel
theorem dX12_after_55 : decode cX12_after 55 = .ok (.ireturn, 1) := by decide +kernel
theorem dX12_firstRanking_0 : decode cX12_firstRanking 0 = .ok (.iconst 0, 1) := by decide +kernel
theorem dX12_firstRanking_1 : decode cX12_firstRanking 1 = .ok (.istore_n 1, 1) := by decide +kernel
theorem dX12_firstRanking_2 : decode cX12_firstRanking 2 = .ok (.iload_n 1, 1) := by decide +kernel
theorem dX12_firstRanking_3 : decode cX12_firstRanking 3 = .ok (.iconst 4, 1) := by decide +kernel
theorem dX12_firstRanking_4 : decode cX12_firstRanking 4 = .ok (.if_icmp .ge 16, 3) := by decide +kernel
theorem dX12_firstRanking_7 : decode cX12_firstRanking 7 = .ok (.aload_n 0, 1) := by decide +kernel
theorem dX12_firstRanking_8 : decode cX12_firstRanking 8 = .ok (.getfield 33, 3) := by decide +kernel
theorem dX12_firstRanking_11 : decode cX12_firstRanking 11 = .ok (.iload_n 1, 1) := by decide +kernel
theorem dX12_firstRanking_12 : decode cX12_firstRanking 12 = .ok (.iconst 0, 1) := by decide +kernel
theorem dX12_firstRanking_13 : decode cX12_firstRanking 13 = .ok (.iastore, 1) := by decide +kernel
theorem dX12_firstRanking_14 : decode cX12_firstRanking 14 = .ok (.iinc 1 1, 3) := by decide +kernel
theorem dX12_firstRanking_17 : decode cX12_firstRanking 17 = .ok (.goto (-15), 3) := by decide +kernel
theorem dX12_firstRanking_20 : decode cX12_firstRanking 20 = .ok (.return_, 1) := by decide +kernel
theorem dX12_nextRanking_0 : decode cX12_nextRanking 0 = .ok (.iconst 3, 1) := by decide +kernel
theorem dX12_nextRanking_1 : decode cX12_nextRanking 1 = .ok (.istore_n 3, 1) := by decide +kernel
theorem dX12_nextRanking_2 : decode cX12_nextRanking 2 = .ok (.iload_n 3, 1) := by decide +kernel
theorem dX12_nextRanking_3 : decode cX12_nextRanking 3 = .ok (.ifCond .lt 49, 3) := by decide +kernel
theorem dX12_nextRanking_6 : decode cX12_nextRanking 6 = .ok (.iload_n 1, 1) := by decide +kernel
theorem dX12_nextRanking_7 : decode cX12_nextRanking 7 = .ok (.iload_n 3, 1) := by decide +kernel
theorem dX12_nextRanking_8 : decode cX12_nextRanking 8 = .ok (.ishr, 1) := by decide +kernel
theorem dX12_nextRanking_9 : decode cX12_nextRanking 9 = .ok (.iconst 1, 1) := by decide +kernel
theorem dX12_nextRanking_10 : decode cX12_nextRanking 10 = .ok (.iand, 1) := by decide +kernel
theorem dX12_nextRanking_11 : decode cX12_nextRanking 11 = .ok (.ifCond .ne 6, 3) := by decide +kernel
theorem dX12_nextRanking_14 : decode cX12_nextRanking 14 = .ok (.goto 32, 3) := by decide +kernel
theorem dX12_nextRanking_17 : decode cX12_nextRanking 17 = .ok (.aload_n 0, 1) := by decide +kernel
theorem dX12_nextRanking_18 : decode cX12_nextRanking 18 = .ok (.getfield 33, 3) := by decide +kernel
theorem dX12_nextRanking_21 : decode cX12_nextRanking 21 = .ok (.iload_n 3, 1) := by decide +kernel
theorem dX12_nextRanking_22 : decode cX12_nextRanking 22 = .ok (.iaload, 1) := by decide +kernel
theorem dX12_nextRanking_23 : decode cX12_nextRanking 23 = .ok (.iload_n 2, 1) := by decide +kernel
theorem dX12_nextRanking_24 : decode cX12_nextRanking 24 = .ok (.if_icmp .ge 15, 3) := by decide +kernel
theorem dX12_nextRanking_27 : decode cX12_nextRanking 27 = .ok (.aload_n 0, 1) := by decide +kernel
theorem dX12_nextRanking_28 : decode cX12_nextRanking 28 = .ok (.getfield 33, 3) := by decide +kernel
theorem dX12_nextRanking_31 : decode cX12_nextRanking 31 = .ok (.iload_n 3, 1) := by decide +kernel
theorem dX12_nextRanking_32 : decode cX12_nextRanking 32 = .ok (.dup2, 1) := by decide +kernel
theorem dX12_nextRanking_33 : decode cX12_nextRanking 33 = .ok (.iaload, 1) := by decide +kernel
theorem dX12_nextRanking_34 : decode cX12_nextRanking 34 = .ok (.iconst 1, 1) := by decide +kernel
theorem dX12_nextRanking_35 : decode cX12_nextRanking 35 = .ok (.iadd, 1) := by decide +kernel
theorem dX12_nextRanking_36 : decode cX12_nextRanking 36 = .ok (.iastore, 1) := by decide +kernel
theorem dX12_nextRanking_37 : decode cX12_nextRanking 37 = .ok (.iconst 1, 1) := by decide +kernel
theorem dX12_nextRanking_38 : decode cX12_nextRanking 38 = .ok (.ireturn, 1) := by decide +kernel
theorem dX12_nextRanking_39 : decode cX12_nextRanking 39 = .ok (.aload_n 0, 1) := by decide +kernel
theorem dX12_nextRanking_40 : decode cX12_nextRanking 40 = .ok (.getfield 33, 3) := by decide +kernel
theorem dX12_nextRanking_43 : decode cX12_nextRanking 43 = .ok (.iload_n 3, 1) := by decide +kernel
theorem dX12_nextRanking_44 : decode cX12_nextRanking 44 = .ok (.iconst 0, 1) := by decide +kernel
theorem dX12_nextRanking_45 : decode cX12_nextRanking 45 = .ok (.iastore, 1) := by decide +kernel
theorem dX12_nextRanking_46 : decode cX12_nextRanking 46 = .ok (.iinc 3 (-1), 3) := by decide +kernel
theorem dX12_nextRanking_49 : decode cX12_nextRanking 49 = .ok (.goto (-47), 3) := by decide +kernel
theorem dX12_nextRanking_52 : decode cX12_nextRanking 52 = .ok (.iconst 0, 1) := by decide +kernel
theorem dX12_nextRanking_53 : decode cX12_nextRanking 53 = .ok (.ireturn, 1) := by decide +kernel
theorem dX12_isTight_0 : decode cX12_isTight 0 = .ok (.iconst 0, 1) := by decide +kernel
theorem dX12_isTight_1 : decode cX12_isTight 1 = .ok (.istore 4, 2) := by decide +kernel
theorem dX12_isTight_3 : decode cX12_isTight 3 = .ok (.iconst (-1), 1) := by decide +kernel
theorem dX12_isTight_4 : decode cX12_isTight 4 = .ok (.istore 5, 2) := by decide +kernel
theorem dX12_isTight_6 : decode cX12_isTight 6 = .ok (.iconst 0, 1) := by decide +kernel
theorem dX12_isTight_7 : decode cX12_isTight 7 = .ok (.istore 6, 2) := by decide +kernel
theorem dX12_isTight_9 : decode cX12_isTight 9 = .ok (.iload 6, 2) := by decide +kernel
theorem dX12_isTight_11 : decode cX12_isTight 11 = .ok (.iconst 4, 1) := by decide +kernel
theorem dX12_isTight_12 : decode cX12_isTight 12 = .ok (.if_icmp .ge 104, 3) := by decide +kernel
theorem dX12_isTight_15 : decode cX12_isTight 15 = .ok (.iload_n 2, 1) := by decide +kernel
theorem dX12_isTight_16 : decode cX12_isTight 16 = .ok (.iload 6, 2) := by decide +kernel
theorem dX12_isTight_18 : decode cX12_isTight 18 = .ok (.ishr, 1) := by decide +kernel
theorem dX12_isTight_19 : decode cX12_isTight 19 = .ok (.iconst 1, 1) := by decide +kernel
theorem dX12_isTight_20 : decode cX12_isTight 20 = .ok (.iand, 1) := by decide +kernel
theorem dX12_isTight_21 : decode cX12_isTight 21 = .ok (.ifCond .ne 6, 3) := by decide +kernel
theorem dX12_isTight_24 : decode cX12_isTight 24 = .ok (.goto 86, 3) := by decide +kernel
theorem dX12_isTight_27 : decode cX12_isTight 27 = .ok (.aload_n 0, 1) := by decide +kernel
theorem dX12_isTight_28 : decode cX12_isTight 28 = .ok (.getfield 33, 3) := by decide +kernel
theorem dX12_isTight_31 : decode cX12_isTight 31 = .ok (.iload 6, 2) := by decide +kernel
theorem dX12_isTight_33 : decode cX12_isTight 33 = .ok (.iaload, 1) := by decide +kernel
theorem dX12_isTight_34 : decode cX12_isTight 34 = .ok (.iconst 2, 1) := by decide +kernel
theorem dX12_isTight_35 : decode cX12_isTight 35 = .ok (.irem, 1) := by decide +kernel
theorem dX12_isTight_36 : decode cX12_isTight 36 = .ok (.iconst 1, 1) := by decide +kernel
theorem dX12_isTight_37 : decode cX12_isTight 37 = .ok (.if_icmp .ne 20, 3) := by decide +kernel
theorem dX12_isTight_40 : decode cX12_isTight 40 = .ok (.aload_n 0, 1) := by decide +kernel
theorem dX12_isTight_41 : decode cX12_isTight 41 = .ok (.getfield 23, 3) := by decide +kernel
theorem dX12_isTight_44 : decode cX12_isTight 44 = .ok (.iload_n 1, 1) := by decide +kernel
theorem dX12_isTight_45 : decode cX12_isTight 45 = .ok (.iaload, 1) := by decide +kernel
theorem dX12_isTight_46 : decode cX12_isTight 46 = .ok (.iload 6, 2) := by decide +kernel
theorem dX12_isTight_48 : decode cX12_isTight 48 = .ok (.ishr, 1) := by decide +kernel
theorem dX12_isTight_49 : decode cX12_isTight 49 = .ok (.iconst 1, 1) := by decide +kernel
theorem dX12_isTight_50 : decode cX12_isTight 50 = .ok (.iand, 1) := by decide +kernel
theorem dX12_isTight_51 : decode cX12_isTight 51 = .ok (.iconst 1, 1) := by decide +kernel
theorem dX12_isTight_52 : decode cX12_isTight 52 = .ok (.if_icmp .ne 5, 3) := by decide +kernel
theorem dX12_isTight_55 : decode cX12_isTight 55 = .ok (.iconst 0, 1) := by decide +kernel
theorem dX12_isTight_56 : decode cX12_isTight 56 = .ok (.ireturn, 1) := by decide +kernel
theorem dX12_isTight_57 : decode cX12_isTight 57 = .ok (.aload_n 0, 1) := by decide +kernel
theorem dX12_isTight_58 : decode cX12_isTight 58 = .ok (.getfield 33, 3) := by decide +kernel
theorem dX12_isTight_61 : decode cX12_isTight 61 = .ok (.iload 6, 2) := by decide +kernel
theorem dX12_isTight_63 : decode cX12_isTight 63 = .ok (.iaload, 1) := by decide +kernel
theorem dX12_isTight_64 : decode cX12_isTight 64 = .ok (.iconst 2, 1) := by decide +kernel
theorem dX12_isTight_65 : decode cX12_isTight 65 = .ok (.irem, 1) := by decide +kernel
theorem dX12_isTight_66 : decode cX12_isTight 66 = .ok (.iconst 1, 1) := by decide +kernel
theorem dX12_isTight_67 : decode cX12_isTight 67 = .ok (.if_icmp .ne 17, 3) := by decide +kernel
theorem dX12_isTight_70 : decode cX12_isTight 70 = .ok (.iload 4, 2) := by decide +kernel
theorem dX12_isTight_72 : decode cX12_isTight 72 = .ok (.iconst 1, 1) := by decide +kernel
theorem dX12_isTight_73 : decode cX12_isTight 73 = .ok (.aload_n 0, 1) := by decide +kernel
theorem dX12_isTight_74 : decode cX12_isTight 74 = .ok (.getfield 33, 3) := by decide +kernel
theorem dX12_isTight_77 : decode cX12_isTight 77 = .ok (.iload 6, 2) := by decide +kernel
theorem dX12_isTight_79 : decode cX12_isTight 79 = .ok (.iaload, 1) := by decide +kernel
theorem dX12_isTight_80 : decode cX12_isTight 80 = .ok (.ishl, 1) := by decide +kernel
theorem dX12_isTight_81 : decode cX12_isTight 81 = .ok (.ior, 1) := by decide +kernel
theorem dX12_isTight_82 : decode cX12_isTight 82 = .ok (.istore 4, 2) := by decide +kernel
theorem dX12_isTight_84 : decode cX12_isTight 84 = .ok (.aload_n 0, 1) := by decide +kernel
theorem dX12_isTight_85 : decode cX12_isTight 85 = .ok (.getfield 33, 3) := by decide +kernel
theorem dX12_isTight_88 : decode cX12_isTight 88 = .ok (.iload 6, 2) := by decide +kernel
theorem dX12_isTight_90 : decode cX12_isTight 90 = .ok (.iaload, 1) := by decide +kernel
theorem dX12_isTight_91 : decode cX12_isTight 91 = .ok (.iload 5, 2) := by decide +kernel
theorem dX12_isTight_93 : decode cX12_isTight 93 = .ok (.if_icmp .le 13, 3) := by decide +kernel
theorem dX12_isTight_96 : decode cX12_isTight 96 = .ok (.aload_n 0, 1) := by decide +kernel
theorem dX12_isTight_97 : decode cX12_isTight 97 = .ok (.getfield 33, 3) := by decide +kernel
theorem dX12_isTight_100 : decode cX12_isTight 100 = .ok (.iload 6, 2) := by decide +kernel
theorem dX12_isTight_102 : decode cX12_isTight 102 = .ok (.iaload, 1) := by decide +kernel
theorem dX12_isTight_103 : decode cX12_isTight 103 = .ok (.goto 5, 3) := by decide +kernel
theorem dX12_isTight_106 : decode cX12_isTight 106 = .ok (.iload 5, 2) := by decide +kernel
theorem dX12_isTight_108 : decode cX12_isTight 108 = .ok (.istore 5, 2) := by decide +kernel
theorem dX12_isTight_110 : decode cX12_isTight 110 = .ok (.iinc 6 1, 3) := by decide +kernel
theorem dX12_isTight_113 : decode cX12_isTight 113 = .ok (.goto (-104), 3) := by decide +kernel
theorem dX12_isTight_116 : decode cX12_isTight 116 = .ok (.iconst 1, 1) := by decide +kernel
theorem dX12_isTight_117 : decode cX12_isTight 117 = .ok (.istore 6, 2) := by decide +kernel
theorem dX12_isTight_119 : decode cX12_isTight 119 = .ok (.iload 6, 2) := by decide +kernel
theorem dX12_isTight_121 : decode cX12_isTight 121 = .ok (.iload_n 3, 1) := by decide +kernel
theorem dX12_isTight_122 : decode cX12_isTight 122 = .ok (.if_icmp .gt 21, 3) := by decide +kernel
theorem dX12_isTight_125 : decode cX12_isTight 125 = .ok (.iload 4, 2) := by decide +kernel
theorem dX12_isTight_127 : decode cX12_isTight 127 = .ok (.iload 6, 2) := by decide +kernel
theorem dX12_isTight_129 : decode cX12_isTight 129 = .ok (.ishr, 1) := by decide +kernel
theorem dX12_isTight_130 : decode cX12_isTight 130 = .ok (.iconst 1, 1) := by decide +kernel
theorem dX12_isTight_131 : decode cX12_isTight 131 = .ok (.iand, 1) := by decide +kernel
theorem dX12_isTight_132 : decode cX12_isTight 132 = .ok (.ifCond .ne 5, 3) := by decide +kernel
theorem dX12_isTight_135 : decode cX12_isTight 135 = .ok (.iconst 0, 1) := by decide +kernel
theorem dX12_isTight_136 : decode cX12_isTight 136 = .ok (.ireturn, 1) := by decide +kernel
theorem dX12_isTight_137 : decode cX12_isTight 137 = .ok (.iinc 6 2, 3) := by decide +kernel
theorem dX12_isTight_140 : decode cX12_isTight 140 = .ok (.goto (-21), 3) := by decide +kernel
theorem dX12_isTight_143 : decode cX12_isTight 143 = .ok (.iload 5, 2) := by decide +kernel
theorem dX12_isTight_145 : decode cX12_isTight 145 = .ok (.iload_n 3, 1) := by decide +kernel
theorem dX12_isTight_146 : decode cX12_isTight 146 = .ok (.if_icmp .ne 7, 3) := by decide +kernel
theorem dX12_isTight_149 : decode cX12_isTight 149 = .ok (.iconst 1, 1) := by decide +kernel
theorem dX12_isTight_150 : decode cX12_isTight 150 = .ok (.goto 4, 3) := by decide +kernel
theorem dX12_isTight_153 : decode cX12_isTight 153 = .ok (.iconst 0, 1) := by decide +kernel
theorem dX12_isTight_154 : decode cX12_isTight 154 = .ok (.ireturn, 1) := by decide +kernel
theorem dX12_isOddRank_0 : decode cX12_isOddRank 0 = .ok (.iload_n 0, 1) := by decide +kernel
theorem dX12_isOddRank_1 : decode cX12_isOddRank 1 = .ok (.iconst 1, 1) := by decide +kernel
theorem dX12_isOddRank_2 : decode cX12_isOddRank 2 = .ok (.bipush 7, 2) := by decide +kernel
theorem dX12_isOddRank_4 : decode cX12_isOddRank 4 = .ok (.invokestatic 156, 3) := by decide +kernel
theorem dX12_isOddRank_7 : decode cX12_isOddRank 7 = .ok (.ifCond .eq 14, 3) := by decide +kernel
theorem dX12_isOddRank_10 : decode cX12_isOddRank 10 = .ok (.iload_n 0, 1) := by decide +kernel
theorem dX12_isOddRank_11 : decode cX12_isOddRank 11 = .ok (.iconst 2, 1) := by decide +kernel
theorem dX12_isOddRank_12 : decode cX12_isOddRank 12 = .ok (.irem, 1) := by decide +kernel
theorem dX12_isOddRank_13 : decode cX12_isOddRank 13 = .ok (.iconst 1, 1) := by decide +kernel
theorem dX12_isOddRank_14 : decode cX12_isOddRank 14 = .ok (.if_icmp .ne 7, 3) := by decide +kernel
theorem dX12_isOddRank_17 : decode cX12_isOddRank 17 = .ok (.iconst 1, 1) := by decide +kernel
theorem dX12_isOddRank_18 : decode cX12_isOddRank 18 = .ok (.goto 4, 3) := by decide +kernel
theorem dX12_isOddRank_21 : decode cX12_isOddRank 21 = .ok (.iconst 0, 1) := by decide +kernel
theorem dX12_isOddRank_22 : decode cX12_isOddRank 22 = .ok (.ireturn, 1) := by decide +kernel
theorem dX12_boundOf_0 : decode cX12_boundOf 0 = .ok (.iconst 2, 1) := by decide +kernel
theorem dX12_boundOf_1 : decode cX12_boundOf 1 = .ok (.iload_n 2, 1) := by decide +kernel
theorem dX12_boundOf_2 : decode cX12_boundOf 2 = .ok (.aload_n 0, 1) := by decide +kernel
theorem dX12_boundOf_3 : decode cX12_boundOf 3 = .ok (.getfield 23, 3) := by decide +kernel
theorem dX12_boundOf_6 : decode cX12_boundOf 6 = .ok (.iload_n 1, 1) := by decide +kernel
theorem dX12_boundOf_7 : decode cX12_boundOf 7 = .ok (.iaload, 1) := by decide +kernel
theorem dX12_boundOf_8 : decode cX12_boundOf 8 = .ok (.iconst (-1), 1) := by decide +kernel
theorem dX12_boundOf_9 : decode cX12_boundOf 9 = .ok (.ixor, 1) := by decide +kernel
theorem dX12_boundOf_10 : decode cX12_boundOf 10 = .ok (.iand, 1) := by decide +kernel
theorem dX12_boundOf_11 : decode cX12_boundOf 11 = .ok (.invokestatic 297, 3) := by decide +kernel
theorem dX12_boundOf_14 : decode cX12_boundOf 14 = .ok (.imul, 1) := by decide +kernel
theorem dX12_boundOf_15 : decode cX12_boundOf 15 = .ok (.iconst 1, 1) := by decide +kernel
theorem dX12_boundOf_16 : decode cX12_boundOf 16 = .ok (.isub, 1) := by decide +kernel
theorem dX12_boundOf_17 : decode cX12_boundOf 17 = .ok (.ireturn, 1) := by decide +kernel
theorem dX12_bound_0 : decode cX12_bound 0 = .ok (.aload_n 0, 1) := by decide +kernel
theorem dX12_bound_1 : decode cX12_bound 1 = .ok (.iconst 0, 1) := by decide +kernel
theorem dX12_bound_2 : decode cX12_bound 2 = .ok (.putfield 131, 3) := by decide +kernel
theorem dX12_bound_5 : decode cX12_bound 5 = .ok (.aload_n 0, 1) := by decide +kernel
theorem dX12_bound_6 : decode cX12_bound 6 = .ok (.iload_n 1, 1) := by decide +kernel
theorem dX12_bound_7 : decode cX12_bound 7 = .ok (.invokevirtual 291, 3) := by decide +kernel
theorem dX12_bound_10 : decode cX12_bound 10 = .ok (.ifCond .ne 9, 3) := by decide +kernel
theorem dX12_bound_13 : decode cX12_bound 13 = .ok (.aload_n 0, 1) := by decide +kernel
theorem dX12_bound_14 : decode cX12_bound 14 = .ok (.iconst 1, 1) := by decide +kernel
theorem dX12_bound_15 : decode cX12_bound 15 = .ok (.invokevirtual 270, 3) := by decide +kernel
theorem dX12_bound_18 : decode cX12_bound 18 = .ok (.ireturn, 1) := by decide +kernel
theorem dX12_bound_19 : decode cX12_bound 19 = .ok (.aload_n 0, 1) := by decide +kernel
theorem dX12_bound_20 : decode cX12_bound 20 = .ok (.iload_n 1, 1) := by decide +kernel
theorem dX12_bound_21 : decode cX12_bound 21 = .ok (.iload_n 2, 1) := by decide +kernel
theorem dX12_bound_22 : decode cX12_bound 22 = .ok (.invokevirtual 313, 3) := by decide +kernel
theorem dX12_bound_25 : decode cX12_bound 25 = .ok (.ifCond .ne 9, 3) := by decide +kernel
theorem dX12_bound_28 : decode cX12_bound 28 = .ok (.aload_n 0, 1) := by decide +kernel
theorem dX12_bound_29 : decode cX12_bound 29 = .ok (.iconst 2, 1) := by decide +kernel
theorem dX12_bound_30 : decode cX12_bound 30 = .ok (.invokevirtual 270, 3) := by decide +kernel
theorem dX12_bound_33 : decode cX12_bound 33 = .ok (.ireturn, 1) := by decide +kernel
theorem dX12_bound_34 : decode cX12_bound 34 = .ok (.aload_n 0, 1) := by decide +kernel
theorem dX12_bound_35 : decode cX12_bound 35 = .ok (.aload_n 0, 1) := by decide +kernel
theorem dX12_bound_36 : decode cX12_bound 36 = .ok (.iload_n 1, 1) := by decide +kernel
theorem dX12_bound_37 : decode cX12_bound 37 = .ok (.iload_n 2, 1) := by decide +kernel
theorem dX12_bound_38 : decode cX12_bound 38 = .ok (.invokevirtual 319, 3) := by decide +kernel
theorem dX12_bound_41 : decode cX12_bound 41 = .ok (.ifCond .ge 8, 3) := by decide +kernel
theorem dX12_bound_44 : decode cX12_bound 44 = .ok (.bipush (-2), 2) := by decide +kernel
theorem dX12_bound_46 : decode cX12_bound 46 = .ok (.goto 9, 3) := by decide +kernel
theorem dX12_bound_49 : decode cX12_bound 49 = .ok (.aload_n 0, 1) := by decide +kernel
theorem dX12_bound_50 : decode cX12_bound 50 = .ok (.iload_n 1, 1) := by decide +kernel
theorem dX12_bound_51 : decode cX12_bound 51 = .ok (.iload_n 2, 1) := by decide +kernel
theorem dX12_bound_52 : decode cX12_bound 52 = .ok (.invokevirtual 319, 3) := by decide +kernel
theorem dX12_bound_55 : decode cX12_bound 55 = .ok (.invokevirtual 288, 3) := by decide +kernel
theorem dX12_bound_58 : decode cX12_bound 58 = .ok (.ireturn, 1) := by decide +kernel
theorem dX12_rankings_0 : decode cX12_rankings 0 = .ok (.aload_n 0, 1) := by decide +kernel
theorem dX12_rankings_1 : decode cX12_rankings 1 = .ok (.iconst 0, 1) := by decide +kernel
theorem dX12_rankings_2 : decode cX12_rankings 2 = .ok (.putfield 131, 3) := by decide +kernel
theorem dX12_rankings_5 : decode cX12_rankings 5 = .ok (.aload_n 0, 1) := by decide +kernel
theorem dX12_rankings_6 : decode cX12_rankings 6 = .ok (.iload_n 1, 1) := by decide +kernel
theorem dX12_rankings_7 : decode cX12_rankings 7 = .ok (.invokevirtual 291, 3) := by decide +kernel
theorem dX12_rankings_10 : decode cX12_rankings 10 = .ok (.ifCond .ne 9, 3) := by decide +kernel
theorem dX12_rankings_13 : decode cX12_rankings 13 = .ok (.aload_n 0, 1) := by decide +kernel
theorem dX12_rankings_14 : decode cX12_rankings 14 = .ok (.iconst 1, 1) := by decide +kernel
theorem dX12_rankings_15 : decode cX12_rankings 15 = .ok (.invokevirtual 270, 3) := by decide +kernel
theorem dX12_rankings_18 : decode cX12_rankings 18 = .ok (.ireturn, 1) := by decide +kernel
theorem dX12_rankings_19 : decode cX12_rankings 19 = .ok (.aload_n 0, 1) := by decide +kernel
theorem dX12_rankings_20 : decode cX12_rankings 20 = .ok (.iload_n 1, 1) := by decide +kernel
theorem dX12_rankings_21 : decode cX12_rankings 21 = .ok (.iload_n 2, 1) := by decide +kernel
theorem dX12_rankings_22 : decode cX12_rankings 22 = .ok (.invokevirtual 313, 3) := by decide +kernel
theorem dX12_rankings_25 : decode cX12_rankings 25 = .ok (.ifCond .eq 10, 3) := by decide +kernel
theorem dX12_rankings_28 : decode cX12_rankings 28 = .ok (.iload_n 3, 1) := by decide +kernel
theorem dX12_rankings_29 : decode cX12_rankings 29 = .ok (.invokestatic 322, 3) := by decide +kernel
theorem dX12_rankings_32 : decode cX12_rankings 32 = .ok (.ifCond .ne 9, 3) := by decide +kernel
theorem dX12_rankings_35 : decode cX12_rankings 35 = .ok (.aload_n 0, 1) := by decide +kernel
theorem dX12_rankings_36 : decode cX12_rankings 36 = .ok (.iconst 2, 1) := by decide +kernel
theorem dX12_rankings_37 : decode cX12_rankings 37 = .ok (.invokevirtual 270, 3) := by decide +kernel
theorem dX12_rankings_40 : decode cX12_rankings 40 = .ok (.ireturn, 1) := by decide +kernel
theorem dX12_rankings_41 : decode cX12_rankings 41 = .ok (.iconst 0, 1) := by decide +kernel
theorem dX12_rankings_42 : decode cX12_rankings 42 = .ok (.istore 4, 2) := by decide +kernel
theorem dX12_rankings_44 : decode cX12_rankings 44 = .ok (.aload_n 0, 1) := by decide +kernel
theorem dX12_rankings_45 : decode cX12_rankings 45 = .ok (.invokevirtual 325, 3) := by decide +kernel
theorem dX12_rankings_48 : decode cX12_rankings 48 = .ok (.iconst 1, 1) := by decide +kernel
theorem dX12_rankings_49 : decode cX12_rankings 49 = .ok (.istore 5, 2) := by decide +kernel
theorem dX12_rankings_51 : decode cX12_rankings 51 = .ok (.iload 5, 2) := by decide +kernel
theorem dX12_rankings_53 : decode cX12_rankings 53 = .ok (.ifCond .eq 34, 3) := by decide +kernel
theorem dX12_rankings_56 : decode cX12_rankings 56 = .ok (.iload 4, 2) := by decide +kernel
theorem dX12_rankings_58 : decode cX12_rankings 58 = .ok (.aload_n 0, 1) := by decide +kernel
theorem dX12_rankings_59 : decode cX12_rankings 59 = .ok (.iload_n 1, 1) := by decide +kernel
theorem dX12_rankings_60 : decode cX12_rankings 60 = .ok (.iload_n 2, 1) := by decide +kernel
theorem dX12_rankings_61 : decode cX12_rankings 61 = .ok (.iload_n 3, 1) := by decide +kernel
theorem dX12_rankings_62 : decode cX12_rankings 62 = .ok (.invokevirtual 328, 3) := by decide +kernel
theorem dX12_rankings_65 : decode cX12_rankings 65 = .ok (.ifCond .eq 7, 3) := by decide +kernel
theorem dX12_rankings_68 : decode cX12_rankings 68 = .ok (.iconst 1, 1) := by decide +kernel
theorem dX12_rankings_69 : decode cX12_rankings 69 = .ok (.goto 4, 3) := by decide +kernel
theorem dX12_rankings_72 : decode cX12_rankings 72 = .ok (.iconst 0, 1) := by decide +kernel
theorem dX12_rankings_73 : decode cX12_rankings 73 = .ok (.iadd, 1) := by decide +kernel
theorem dX12_rankings_74 : decode cX12_rankings 74 = .ok (.istore 4, 2) := by decide +kernel
theorem dX12_rankings_76 : decode cX12_rankings 76 = .ok (.aload_n 0, 1) := by decide +kernel
theorem dX12_rankings_77 : decode cX12_rankings 77 = .ok (.iload_n 2, 1) := by decide +kernel
theorem dX12_rankings_78 : decode cX12_rankings 78 = .ok (.iload_n 3, 1) := by decide +kernel
theorem dX12_rankings_79 : decode cX12_rankings 79 = .ok (.invokevirtual 331, 3) := by decide +kernel
theorem dX12_rankings_82 : decode cX12_rankings 82 = .ok (.istore 5, 2) := by decide +kernel
theorem dX12_rankings_84 : decode cX12_rankings 84 = .ok (.goto (-33), 3) := by decide +kernel
theorem dX12_rankings_87 : decode cX12_rankings 87 = .ok (.aload_n 0, 1) := by decide +kernel
theorem dX12_rankings_88 : decode cX12_rankings 88 = .ok (.iload 4, 2) := by decide +kernel
theorem dX12_rankings_90 : decode cX12_rankings 90 = .ok (.invokevirtual 288, 3) := by decide +kernel
theorem dX12_rankings_93 : decode cX12_rankings 93 = .ok (.ireturn, 1) := by decide +kernel
theorem dX12_ranked_0 : decode cX12_ranked 0 = .ok (.aload_n 0, 1) := by decide +kernel
theorem dX12_ranked_1 : decode cX12_ranked 1 = .ok (.iconst 0, 1) := by decide +kernel
theorem dX12_ranked_2 : decode cX12_ranked 2 = .ok (.putfield 131, 3) := by decide +kernel
theorem dX12_ranked_5 : decode cX12_ranked 5 = .ok (.aload_n 0, 1) := by decide +kernel
theorem dX12_ranked_6 : decode cX12_ranked 6 = .ok (.iload_n 1, 1) := by decide +kernel
theorem dX12_ranked_7 : decode cX12_ranked 7 = .ok (.iload 5, 2) := by decide +kernel
theorem dX12_ranked_9 : decode cX12_ranked 9 = .ok (.invokevirtual 302, 3) := by decide +kernel
theorem dX12_ranked_12 : decode cX12_ranked 12 = .ok (.ifCond .ne 9, 3) := by decide +kernel
theorem dX12_ranked_15 : decode cX12_ranked 15 = .ok (.aload_n 0, 1) := by decide +kernel
theorem dX12_ranked_16 : decode cX12_ranked 16 = .ok (.iconst 1, 1) := by decide +kernel
theorem dX12_ranked_17 : decode cX12_ranked 17 = .ok (.invokevirtual 270, 3) := by decide +kernel
theorem dX12_ranked_20 : decode cX12_ranked 20 = .ok (.ireturn, 1) := by decide +kernel
theorem dX12_ranked_21 : decode cX12_ranked 21 = .ok (.aload_n 0, 1) := by decide +kernel
theorem dX12_ranked_22 : decode cX12_ranked 22 = .ok (.iload_n 1, 1) := by decide +kernel
theorem dX12_ranked_23 : decode cX12_ranked 23 = .ok (.iload_n 2, 1) := by decide +kernel
theorem dX12_ranked_24 : decode cX12_ranked 24 = .ok (.invokevirtual 313, 3) := by decide +kernel
theorem dX12_ranked_27 : decode cX12_ranked 27 = .ok (.ifCond .eq 10, 3) := by decide +kernel
theorem dX12_ranked_30 : decode cX12_ranked 30 = .ok (.iload_n 3, 1) := by decide +kernel
theorem dX12_ranked_31 : decode cX12_ranked 31 = .ok (.invokestatic 322, 3) := by decide +kernel
theorem dX12_ranked_34 : decode cX12_ranked 34 = .ok (.ifCond .ne 9, 3) := by decide +kernel
theorem dX12_ranked_37 : decode cX12_ranked 37 = .ok (.aload_n 0, 1) := by decide +kernel
theorem dX12_ranked_38 : decode cX12_ranked 38 = .ok (.iconst 2, 1) := by decide +kernel
theorem dX12_ranked_39 : decode cX12_ranked 39 = .ok (.invokevirtual 270, 3) := by decide +kernel
theorem dX12_ranked_42 : decode cX12_ranked 42 = .ok (.ireturn, 1) := by decide +kernel
theorem dX12_ranked_43 : decode cX12_ranked 43 = .ok (.iload 4, 2) := by decide +kernel
theorem dX12_ranked_45 : decode cX12_ranked 45 = .ok (.ifCond .lt 12, 3) := by decide +kernel
theorem dX12_ranked_48 : decode cX12_ranked 48 = .ok (.iload_n 2, 1) := by decide +kernel
theorem dX12_ranked_49 : decode cX12_ranked 49 = .ok (.iload 5, 2) := by decide +kernel
theorem dX12_ranked_51 : decode cX12_ranked 51 = .ok (.ishr, 1) := by decide +kernel
theorem dX12_ranked_52 : decode cX12_ranked 52 = .ok (.iconst 1, 1) := by decide +kernel
theorem dX12_ranked_53 : decode cX12_ranked 53 = .ok (.iand, 1) := by decide +kernel
theorem dX12_ranked_54 : decode cX12_ranked 54 = .ok (.ifCond .ne 9, 3) := by decide +kernel
theorem dX12_ranked_57 : decode cX12_ranked 57 = .ok (.aload_n 0, 1) := by decide +kernel
theorem dX12_ranked_58 : decode cX12_ranked 58 = .ok (.iconst 5, 1) := by decide +kernel
theorem dX12_ranked_59 : decode cX12_ranked 59 = .ok (.invokevirtual 270, 3) := by decide +kernel
theorem dX12_ranked_62 : decode cX12_ranked 62 = .ok (.ireturn, 1) := by decide +kernel
theorem dX12_ranked_63 : decode cX12_ranked 63 = .ok (.iload 4, 2) := by decide +kernel
theorem dX12_ranked_65 : decode cX12_ranked 65 = .ok (.istore 6, 2) := by decide +kernel
theorem dX12_ranked_67 : decode cX12_ranked 67 = .ok (.aload_n 0, 1) := by decide +kernel
theorem dX12_ranked_68 : decode cX12_ranked 68 = .ok (.invokevirtual 325, 3) := by decide +kernel
theorem dX12_ranked_71 : decode cX12_ranked 71 = .ok (.iconst 1, 1) := by decide +kernel
theorem dX12_ranked_72 : decode cX12_ranked 72 = .ok (.istore 7, 2) := by decide +kernel
theorem dX12_ranked_74 : decode cX12_ranked 74 = .ok (.iload 7, 2) := by decide +kernel
theorem dX12_ranked_76 : decode cX12_ranked 76 = .ok (.ifCond .eq 60, 3) := by decide +kernel
theorem dX12_ranked_79 : decode cX12_ranked 79 = .ok (.aload_n 0, 1) := by decide +kernel
theorem dX12_ranked_80 : decode cX12_ranked 80 = .ok (.iload_n 1, 1) := by decide +kernel
theorem dX12_ranked_81 : decode cX12_ranked 81 = .ok (.iload_n 2, 1) := by decide +kernel
theorem dX12_ranked_82 : decode cX12_ranked 82 = .ok (.iload_n 3, 1) := by decide +kernel
theorem dX12_ranked_83 : decode cX12_ranked 83 = .ok (.invokevirtual 328, 3) := by decide +kernel
theorem dX12_ranked_86 : decode cX12_ranked 86 = .ok (.istore 8, 2) := by decide +kernel
theorem dX12_ranked_88 : decode cX12_ranked 88 = .ok (.iload 8, 2) := by decide +kernel
theorem dX12_ranked_90 : decode cX12_ranked 90 = .ok (.ifCond .eq 20, 3) := by decide +kernel
theorem dX12_ranked_93 : decode cX12_ranked 93 = .ok (.iload 6, 2) := by decide +kernel
theorem dX12_ranked_95 : decode cX12_ranked 95 = .ok (.ifCond .ne 15, 3) := by decide +kernel
theorem dX12_ranked_98 : decode cX12_ranked 98 = .ok (.aload_n 0, 1) := by decide +kernel
theorem dX12_ranked_99 : decode cX12_ranked 99 = .ok (.aload_n 0, 1) := by decide +kernel
theorem dX12_ranked_100 : decode cX12_ranked 100 = .ok (.getfield 33, 3) := by decide +kernel
theorem dX12_ranked_103 : decode cX12_ranked 103 = .ok (.iload 5, 2) := by decide +kernel
theorem dX12_ranked_105 : decode cX12_ranked 105 = .ok (.iaload, 1) := by decide +kernel
theorem dX12_ranked_106 : decode cX12_ranked 106 = .ok (.invokevirtual 288, 3) := by decide +kernel
theorem dX12_ranked_109 : decode cX12_ranked 109 = .ok (.ireturn, 1) := by decide +kernel
theorem dX12_ranked_110 : decode cX12_ranked 110 = .ok (.iload 6, 2) := by decide +kernel
theorem dX12_ranked_112 : decode cX12_ranked 112 = .ok (.iload 8, 2) := by decide +kernel
theorem dX12_ranked_114 : decode cX12_ranked 114 = .ok (.ifCond .eq 7, 3) := by decide +kernel
theorem dX12_ranked_117 : decode cX12_ranked 117 = .ok (.iconst 1, 1) := by decide +kernel
theorem dX12_ranked_118 : decode cX12_ranked 118 = .ok (.goto 4, 3) := by decide +kernel
theorem dX12_ranked_121 : decode cX12_ranked 121 = .ok (.iconst 0, 1) := by decide +kernel
theorem dX12_ranked_122 : decode cX12_ranked 122 = .ok (.isub, 1) := by decide +kernel
theorem dX12_ranked_123 : decode cX12_ranked 123 = .ok (.istore 6, 2) := by decide +kernel
theorem dX12_ranked_125 : decode cX12_ranked 125 = .ok (.aload_n 0, 1) := by decide +kernel
theorem dX12_ranked_126 : decode cX12_ranked 126 = .ok (.iload_n 2, 1) := by decide +kernel
theorem dX12_ranked_127 : decode cX12_ranked 127 = .ok (.iload_n 3, 1) := by decide +kernel
theorem dX12_ranked_128 : decode cX12_ranked 128 = .ok (.invokevirtual 331, 3) := by decide +kernel
theorem dX12_ranked_131 : decode cX12_ranked 131 = .ok (.istore 7, 2) := by decide +kernel
theorem dX12_ranked_133 : decode cX12_ranked 133 = .ok (.goto (-59), 3) := by decide +kernel
theorem dX12_ranked_136 : decode cX12_ranked 136 = .ok (.aload_n 0, 1) := by decide +kernel
theorem dX12_ranked_137 : decode cX12_ranked 137 = .ok (.iconst 5, 1) := by decide +kernel
theorem dX12_ranked_138 : decode cX12_ranked 138 = .ok (.invokevirtual 270, 3) := by decide +kernel
theorem dX12_ranked_141 : decode cX12_ranked 141 = .ok (.ireturn, 1) := by decide +kernel
theorem dX12_packed_0 : decode cX12_packed 0 = .ok (.iconst 0, 1) := by decide +kernel
theorem dX12_packed_1 : decode cX12_packed 1 = .ok (.istore_n 2, 1) := by decide +kernel
theorem dX12_packed_2 : decode cX12_packed 2 = .ok (.iconst 0, 1) := by decide +kernel
theorem dX12_packed_3 : decode cX12_packed 3 = .ok (.istore_n 3, 1) := by decide +kernel
theorem dX12_packed_4 : decode cX12_packed 4 = .ok (.iload_n 3, 1) := by decide +kernel
theorem dX12_packed_5 : decode cX12_packed 5 = .ok (.iconst 4, 1) := by decide +kernel
theorem dX12_packed_6 : decode cX12_packed 6 = .ok (.if_icmp .ge 34, 3) := by decide +kernel
theorem dX12_packed_9 : decode cX12_packed 9 = .ok (.iload_n 2, 1) := by decide +kernel
theorem dX12_packed_10 : decode cX12_packed 10 = .ok (.bipush 8, 2) := by decide +kernel
theorem dX12_packed_12 : decode cX12_packed 12 = .ok (.imul, 1) := by decide +kernel
theorem dX12_packed_13 : decode cX12_packed 13 = .ok (.iload_n 1, 1) := by decide +kernel
theorem dX12_packed_14 : decode cX12_packed 14 = .ok (.iload_n 3, 1) := by decide +kernel
theorem dX12_packed_15 : decode cX12_packed 15 = .ok (.ishr, 1) := by decide +kernel
theorem dX12_packed_16 : decode cX12_packed 16 = .ok (.iconst 1, 1) := by decide +kernel
theorem dX12_packed_17 : decode cX12_packed 17 = .ok (.iand, 1) := by decide +kernel
theorem dX12_packed_18 : decode cX12_packed 18 = .ok (.iconst 1, 1) := by decide +kernel
theorem dX12_packed_19 : decode cX12_packed 19 = .ok (.if_icmp .ne 12, 3) := by decide +kernel
theorem dX12_packed_22 : decode cX12_packed 22 = .ok (.aload_n 0, 1) := by decide +kernel
theorem dX12_packed_23 : decode cX12_packed 23 = .ok (.getfield 33, 3) := by decide +kernel
theorem dX12_packed_26 : decode cX12_packed 26 = .ok (.iload_n 3, 1) := by decide +kernel
theorem dX12_packed_27 : decode cX12_packed 27 = .ok (.iaload, 1) := by decide +kernel
theorem dX12_packed_28 : decode cX12_packed 28 = .ok (.goto 4, 3) := by decide +kernel
theorem dX12_packed_31 : decode cX12_packed 31 = .ok (.iconst 0, 1) := by decide +kernel
theorem dX12_packed_32 : decode cX12_packed 32 = .ok (.iadd, 1) := by decide +kernel
theorem dX12_packed_33 : decode cX12_packed 33 = .ok (.istore_n 2, 1) := by decide +kernel
theorem dX12_packed_34 : decode cX12_packed 34 = .ok (.iinc 3 1, 3) := by decide +kernel
theorem dX12_packed_37 : decode cX12_packed 37 = .ok (.goto (-33), 3) := by decide +kernel
theorem dX12_packed_40 : decode cX12_packed 40 = .ok (.iload_n 2, 1) := by decide +kernel
theorem dX12_packed_41 : decode cX12_packed 41 = .ok (.ireturn, 1) := by decide +kernel
theorem dX12_rankIn_0 : decode cX12_rankIn 0 = .ok (.iload_n 0, 1) := by decide +kernel
theorem dX12_rankIn_1 : decode cX12_rankIn 1 = .ok (.iconst 3, 1) := by decide +kernel
theorem dX12_rankIn_2 : decode cX12_rankIn 2 = .ok (.iconst 3, 1) := by decide +kernel
theorem dX12_rankIn_3 : decode cX12_rankIn 3 = .ok (.iload_n 1, 1) := by decide +kernel
theorem dX12_rankIn_4 : decode cX12_rankIn 4 = .ok (.isub, 1) := by decide +kernel
theorem dX12_rankIn_5 : decode cX12_rankIn 5 = .ok (.imul, 1) := by decide +kernel
theorem dX12_rankIn_6 : decode cX12_rankIn 6 = .ok (.ishr, 1) := by decide +kernel
theorem dX12_rankIn_7 : decode cX12_rankIn 7 = .ok (.bipush 7, 2) := by decide +kernel
theorem dX12_rankIn_9 : decode cX12_rankIn 9 = .ok (.iand, 1) := by decide +kernel
theorem dX12_rankIn_10 : decode cX12_rankIn 10 = .ok (.ireturn, 1) := by decide +kernel
theorem dX12_nodeOf_0 : decode cX12_nodeOf 0 = .ok (.iload_n 1, 1) := by decide +kernel
theorem dX12_nodeOf_1 : decode cX12_nodeOf 1 = .ok (.bipush 17, 2) := by decide +kernel
theorem dX12_nodeOf_3 : decode cX12_nodeOf 3 = .ok (.iload 4, 2) := by decide +kernel
theorem dX12_nodeOf_5 : decode cX12_nodeOf 5 = .ok (.imul, 1) := by decide +kernel
theorem dX12_nodeOf_6 : decode cX12_nodeOf 6 = .ok (.iadd, 1) := by decide +kernel
theorem dX12_nodeOf_7 : decode cX12_nodeOf 7 = .ok (.bipush 31, 2) := by decide +kernel
theorem dX12_nodeOf_9 : decode cX12_nodeOf 9 = .ok (.iload_n 3, 1) := by decide +kernel
theorem dX12_nodeOf_10 : decode cX12_nodeOf 10 = .ok (.imul, 1) := by decide +kernel
theorem dX12_nodeOf_11 : decode cX12_nodeOf 11 = .ok (.iadd, 1) := by decide +kernel
theorem dX12_nodeOf_12 : decode cX12_nodeOf 12 = .ok (.bipush 7, 2) := by decide +kernel
theorem dX12_nodeOf_14 : decode cX12_nodeOf 14 = .ok (.iload_n 2, 1) := by decide +kernel
theorem dX12_nodeOf_15 : decode cX12_nodeOf 15 = .ok (.iconst 2, 1) := by decide +kernel
theorem dX12_nodeOf_16 : decode cX12_nodeOf 16 = .ok (.iadd, 1) := by decide +kernel
theorem dX12_nodeOf_17 : decode cX12_nodeOf 17 = .ok (.imul, 1) := by decide +kernel
theorem dX12_nodeOf_18 : decode cX12_nodeOf 18 = .ok (.iadd, 1) := by decide +kernel
theorem dX12_nodeOf_19 : decode cX12_nodeOf 19 = .ok (.sipush 1024, 3) := by decide +kernel
theorem dX12_nodeOf_22 : decode cX12_nodeOf 22 = .ok (.irem, 1) := by decide +kernel
theorem dX12_nodeOf_23 : decode cX12_nodeOf 23 = .ok (.istore 5, 2) := by decide +kernel
theorem dX12_nodeOf_25 : decode cX12_nodeOf 25 = .ok (.aload_n 0, 1) := by decide +kernel
theorem dX12_nodeOf_26 : decode cX12_nodeOf 26 = .ok (.getfield 51, 3) := by decide +kernel
theorem dX12_nodeOf_29 : decode cX12_nodeOf 29 = .ok (.iload 5, 2) := by decide +kernel
theorem dX12_nodeOf_31 : decode cX12_nodeOf 31 = .ok (.iaload, 1) := by decide +kernel
theorem dX12_nodeOf_32 : decode cX12_nodeOf 32 = .ok (.istore 6, 2) := by decide +kernel
theorem dX12_nodeOf_34 : decode cX12_nodeOf 34 = .ok (.iload 6, 2) := by decide +kernel
theorem dX12_nodeOf_36 : decode cX12_nodeOf 36 = .ok (.iconst (-1), 1) := by decide +kernel
theorem dX12_nodeOf_37 : decode cX12_nodeOf 37 = .ok (.if_icmp .eq 63, 3) := by decide +kernel
theorem dX12_nodeOf_40 : decode cX12_nodeOf 40 = .ok (.aload_n 0, 1) := by decide +kernel
theorem dX12_nodeOf_41 : decode cX12_nodeOf 41 = .ok (.getfield 36, 3) := by decide +kernel
theorem dX12_nodeOf_44 : decode cX12_nodeOf 44 = .ok (.iload 6, 2) := by decide +kernel
theorem dX12_nodeOf_46 : decode cX12_nodeOf 46 = .ok (.iaload, 1) := by decide +kernel
theorem dX12_nodeOf_47 : decode cX12_nodeOf 47 = .ok (.iload_n 1, 1) := by decide +kernel
theorem dX12_nodeOf_48 : decode cX12_nodeOf 48 = .ok (.if_icmp .ne 40, 3) := by decide +kernel
theorem dX12_nodeOf_51 : decode cX12_nodeOf 51 = .ok (.aload_n 0, 1) := by decide +kernel
theorem dX12_nodeOf_52 : decode cX12_nodeOf 52 = .ok (.getfield 39, 3) := by decide +kernel
theorem dX12_nodeOf_55 : decode cX12_nodeOf 55 = .ok (.iload 6, 2) := by decide +kernel
theorem dX12_nodeOf_57 : decode cX12_nodeOf 57 = .ok (.iaload, 1) := by decide +kernel
theorem dX12_nodeOf_58 : decode cX12_nodeOf 58 = .ok (.iload_n 2, 1) := by decide +kernel
theorem dX12_nodeOf_59 : decode cX12_nodeOf 59 = .ok (.if_icmp .ne 29, 3) := by decide +kernel
theorem dX12_nodeOf_62 : decode cX12_nodeOf 62 = .ok (.aload_n 0, 1) := by decide +kernel
theorem dX12_nodeOf_63 : decode cX12_nodeOf 63 = .ok (.getfield 42, 3) := by decide +kernel
theorem dX12_nodeOf_66 : decode cX12_nodeOf 66 = .ok (.iload 6, 2) := by decide +kernel
theorem dX12_nodeOf_68 : decode cX12_nodeOf 68 = .ok (.iaload, 1) := by decide +kernel
theorem dX12_nodeOf_69 : decode cX12_nodeOf 69 = .ok (.iload_n 3, 1) := by decide +kernel
theorem dX12_nodeOf_70 : decode cX12_nodeOf 70 = .ok (.if_icmp .ne 18, 3) := by decide +kernel
theorem dX12_nodeOf_73 : decode cX12_nodeOf 73 = .ok (.aload_n 0, 1) := by decide +kernel
theorem dX12_nodeOf_74 : decode cX12_nodeOf 74 = .ok (.getfield 45, 3) := by decide +kernel
theorem dX12_nodeOf_77 : decode cX12_nodeOf 77 = .ok (.iload 6, 2) := by decide +kernel
theorem dX12_nodeOf_79 : decode cX12_nodeOf 79 = .ok (.iaload, 1) := by decide +kernel
theorem dX12_nodeOf_80 : decode cX12_nodeOf 80 = .ok (.iload 4, 2) := by decide +kernel
theorem dX12_nodeOf_82 : decode cX12_nodeOf 82 = .ok (.if_icmp .ne 6, 3) := by decide +kernel
theorem dX12_nodeOf_85 : decode cX12_nodeOf 85 = .ok (.iload 6, 2) := by decide +kernel
theorem dX12_nodeOf_87 : decode cX12_nodeOf 87 = .ok (.ireturn, 1) := by decide +kernel
theorem dX12_nodeOf_88 : decode cX12_nodeOf 88 = .ok (.aload_n 0, 1) := by decide +kernel
theorem dX12_nodeOf_89 : decode cX12_nodeOf 89 = .ok (.getfield 48, 3) := by decide +kernel
theorem dX12_nodeOf_92 : decode cX12_nodeOf 92 = .ok (.iload 6, 2) := by decide +kernel
theorem dX12_nodeOf_94 : decode cX12_nodeOf 94 = .ok (.iaload, 1) := by decide +kernel
theorem dX12_nodeOf_95 : decode cX12_nodeOf 95 = .ok (.istore 6, 2) := by decide +kernel
theorem dX12_nodeOf_97 : decode cX12_nodeOf 97 = .ok (.goto (-63), 3) := by decide +kernel
theorem dX12_nodeOf_100 : decode cX12_nodeOf 100 = .ok (.aload_n 0, 1) := by decide +kernel
theorem dX12_nodeOf_101 : decode cX12_nodeOf 101 = .ok (.getfield 334, 3) := by decide +kernel
theorem dX12_nodeOf_104 : decode cX12_nodeOf 104 = .ok (.sipush 300, 3) := by decide +kernel
theorem dX12_nodeOf_107 : decode cX12_nodeOf 107 = .ok (.if_icmp .ne 10, 3) := by decide +kernel
theorem dX12_nodeOf_110 : decode cX12_nodeOf 110 = .ok (.aload_n 0, 1) := by decide +kernel
theorem dX12_nodeOf_111 : decode cX12_nodeOf 111 = .ok (.iconst 1, 1) := by decide +kernel
theorem dX12_nodeOf_112 : decode cX12_nodeOf 112 = .ok (.putfield 337, 3) := by decide +kernel
theorem dX12_nodeOf_115 : decode cX12_nodeOf 115 = .ok (.iconst (-1), 1) := by decide +kernel
theorem dX12_nodeOf_116 : decode cX12_nodeOf 116 = .ok (.ireturn, 1) := by decide +kernel
theorem dX12_nodeOf_117 : decode cX12_nodeOf 117 = .ok (.aload_n 0, 1) := by decide +kernel
theorem dX12_nodeOf_118 : decode cX12_nodeOf 118 = .ok (.getfield 36, 3) := by decide +kernel
theorem dX12_nodeOf_121 : decode cX12_nodeOf 121 = .ok (.aload_n 0, 1) := by decide +kernel
theorem dX12_nodeOf_122 : decode cX12_nodeOf 122 = .ok (.getfield 334, 3) := by decide +kernel
theorem dX12_nodeOf_125 : decode cX12_nodeOf 125 = .ok (.iload_n 1, 1) := by decide +kernel
theorem dX12_nodeOf_126 : decode cX12_nodeOf 126 = .ok (.iastore, 1) := by decide +kernel
theorem dX12_nodeOf_127 : decode cX12_nodeOf 127 = .ok (.aload_n 0, 1) := by decide +kernel
theorem dX12_nodeOf_128 : decode cX12_nodeOf 128 = .ok (.getfield 39, 3) := by decide +kernel
theorem dX12_nodeOf_131 : decode cX12_nodeOf 131 = .ok (.aload_n 0, 1) := by decide +kernel
theorem dX12_nodeOf_132 : decode cX12_nodeOf 132 = .ok (.getfield 334, 3) := by decide +kernel
theorem dX12_nodeOf_135 : decode cX12_nodeOf 135 = .ok (.iload_n 2, 1) := by decide +kernel
theorem dX12_nodeOf_136 : decode cX12_nodeOf 136 = .ok (.iastore, 1) := by decide +kernel
theorem dX12_nodeOf_137 : decode cX12_nodeOf 137 = .ok (.aload_n 0, 1) := by decide +kernel
theorem dX12_nodeOf_138 : decode cX12_nodeOf 138 = .ok (.getfield 42, 3) := by decide +kernel
theorem dX12_nodeOf_141 : decode cX12_nodeOf 141 = .ok (.aload_n 0, 1) := by decide +kernel
theorem dX12_nodeOf_142 : decode cX12_nodeOf 142 = .ok (.getfield 334, 3) := by decide +kernel
theorem dX12_nodeOf_145 : decode cX12_nodeOf 145 = .ok (.iload_n 3, 1) := by decide +kernel
theorem dX12_nodeOf_146 : decode cX12_nodeOf 146 = .ok (.iastore, 1) := by decide +kernel
theorem dX12_nodeOf_147 : decode cX12_nodeOf 147 = .ok (.aload_n 0, 1) := by decide +kernel
theorem dX12_nodeOf_148 : decode cX12_nodeOf 148 = .ok (.getfield 45, 3) := by decide +kernel
theorem dX12_nodeOf_151 : decode cX12_nodeOf 151 = .ok (.aload_n 0, 1) := by decide +kernel
theorem dX12_nodeOf_152 : decode cX12_nodeOf 152 = .ok (.getfield 334, 3) := by decide +kernel
theorem dX12_nodeOf_155 : decode cX12_nodeOf 155 = .ok (.iload 4, 2) := by decide +kernel
theorem dX12_nodeOf_157 : decode cX12_nodeOf 157 = .ok (.iastore, 1) := by decide +kernel
theorem dX12_nodeOf_158 : decode cX12_nodeOf 158 = .ok (.aload_n 0, 1) := by decide +kernel
theorem dX12_nodeOf_159 : decode cX12_nodeOf 159 = .ok (.getfield 48, 3) := by decide +kernel
theorem dX12_nodeOf_162 : decode cX12_nodeOf 162 = .ok (.aload_n 0, 1) := by decide +kernel
theorem dX12_nodeOf_163 : decode cX12_nodeOf 163 = .ok (.getfield 334, 3) := by decide +kernel
theorem dX12_nodeOf_166 : decode cX12_nodeOf 166 = .ok (.aload_n 0, 1) := by decide +kernel
theorem dX12_nodeOf_167 : decode cX12_nodeOf 167 = .ok (.getfield 51, 3) := by decide +kernel
theorem dX12_nodeOf_170 : decode cX12_nodeOf 170 = .ok (.iload 5, 2) := by decide +kernel
theorem dX12_nodeOf_172 : decode cX12_nodeOf 172 = .ok (.iaload, 1) := by decide +kernel
theorem dX12_nodeOf_173 : decode cX12_nodeOf 173 = .ok (.iastore, 1) := by decide +kernel
theorem dX12_nodeOf_174 : decode cX12_nodeOf 174 = .ok (.aload_n 0, 1) := by decide +kernel
theorem dX12_nodeOf_175 : decode cX12_nodeOf 175 = .ok (.getfield 51, 3) := by decide +kernel
theorem dX12_nodeOf_178 : decode cX12_nodeOf 178 = .ok (.iload 5, 2) := by decide +kernel
theorem dX12_nodeOf_180 : decode cX12_nodeOf 180 = .ok (.aload_n 0, 1) := by decide +kernel
theorem dX12_nodeOf_181 : decode cX12_nodeOf 181 = .ok (.getfield 334, 3) := by decide +kernel
theorem dX12_nodeOf_184 : decode cX12_nodeOf 184 = .ok (.iastore, 1) := by decide +kernel
theorem dX12_nodeOf_185 : decode cX12_nodeOf 185 = .ok (.aload_n 0, 1) := by decide +kernel
theorem dX12_nodeOf_186 : decode cX12_nodeOf 186 = .ok (.dup, 1) := by decide +kernel
theorem dX12_nodeOf_187 : decode cX12_nodeOf 187 = .ok (.getfield 334, 3) := by decide +kernel
theorem dX12_nodeOf_190 : decode cX12_nodeOf 190 = .ok (.iconst 1, 1) := by decide +kernel
theorem dX12_nodeOf_191 : decode cX12_nodeOf 191 = .ok (.iadd, 1) := by decide +kernel
theorem dX12_nodeOf_192 : decode cX12_nodeOf 192 = .ok (.putfield 334, 3) := by decide +kernel
theorem dX12_nodeOf_195 : decode cX12_nodeOf 195 = .ok (.aload_n 0, 1) := by decide +kernel
theorem dX12_nodeOf_196 : decode cX12_nodeOf 196 = .ok (.getfield 334, 3) := by decide +kernel
theorem dX12_nodeOf_199 : decode cX12_nodeOf 199 = .ok (.iconst 1, 1) := by decide +kernel
theorem dX12_nodeOf_200 : decode cX12_nodeOf 200 = .ok (.isub, 1) := by decide +kernel
theorem dX12_nodeOf_201 : decode cX12_nodeOf 201 = .ok (.ireturn, 1) := by decide +kernel
theorem dX12_goesTo_0 : decode cX12_goesTo 0 = .ok (.aload_n 0, 1) := by decide +kernel
theorem dX12_goesTo_1 : decode cX12_goesTo 1 = .ok (.getfield 337, 3) := by decide +kernel
theorem dX12_goesTo_4 : decode cX12_goesTo 4 = .ok (.ifCond .eq 4, 3) := by decide +kernel
theorem dX12_goesTo_7 : decode cX12_goesTo 7 = .ok (.return_, 1) := by decide +kernel
theorem dX12_goesTo_8 : decode cX12_goesTo 8 = .ok (.aload_n 0, 1) := by decide +kernel
theorem dX12_goesTo_9 : decode cX12_goesTo 9 = .ok (.getfield 58, 3) := by decide +kernel
theorem dX12_goesTo_12 : decode cX12_goesTo 12 = .ok (.aload_n 0, 1) := by decide +kernel
theorem dX12_goesTo_13 : decode cX12_goesTo 13 = .ok (.getfield 341, 3) := by decide +kernel
theorem dX12_goesTo_16 : decode cX12_goesTo 16 = .ok (.iload_n 1, 1) := by decide +kernel
theorem dX12_goesTo_17 : decode cX12_goesTo 17 = .ok (.iastore, 1) := by decide +kernel
theorem dX12_goesTo_18 : decode cX12_goesTo 18 = .ok (.aload_n 0, 1) := by decide +kernel
theorem dX12_goesTo_19 : decode cX12_goesTo 19 = .ok (.dup, 1) := by decide +kernel
theorem dX12_goesTo_20 : decode cX12_goesTo 20 = .ok (.getfield 341, 3) := by decide +kernel
theorem dX12_goesTo_23 : decode cX12_goesTo 23 = .ok (.iconst 1, 1) := by decide +kernel
theorem dX12_goesTo_24 : decode cX12_goesTo 24 = .ok (.iadd, 1) := by decide +kernel
theorem dX12_goesTo_25 : decode cX12_goesTo 25 = .ok (.putfield 341, 3) := by decide +kernel
theorem dX12_goesTo_28 : decode cX12_goesTo 28 = .ok (.return_, 1) := by decide +kernel
theorem dX12_goesFromSet_0 : decode cX12_goesFromSet 0 = .ok (.aload_n 0, 1) := by decide +kernel
theorem dX12_goesFromSet_1 : decode cX12_goesFromSet 1 = .ok (.aload_n 0, 1) := by decide +kernel
theorem dX12_goesFromSet_2 : decode cX12_goesFromSet 2 = .ok (.iload_n 2, 1) := by decide +kernel
theorem dX12_goesFromSet_3 : decode cX12_goesFromSet 3 = .ok (.bipush (-2), 2) := by decide +kernel
theorem dX12_goesFromSet_5 : decode cX12_goesFromSet 5 = .ok (.iconst 0, 1) := by decide +kernel
theorem dX12_goesFromSet_6 : decode cX12_goesFromSet 6 = .ok (.iconst 0, 1) := by decide +kernel
theorem dX12_goesFromSet_7 : decode cX12_goesFromSet 7 = .ok (.invokevirtual 343, 3) := by decide +kernel
theorem dX12_goesFromSet_10 : decode cX12_goesFromSet 10 = .ok (.invokevirtual 347, 3) := by decide +kernel
theorem dX12_goesFromSet_13 : decode cX12_goesFromSet 13 = .ok (.iconst 1, 1) := by decide +kernel
theorem dX12_goesFromSet_14 : decode cX12_goesFromSet 14 = .ok (.istore_n 3, 1) := by decide +kernel
theorem dX12_goesFromSet_15 : decode cX12_goesFromSet 15 = .ok (.iload_n 3, 1) := by decide +kernel
theorem dX12_goesFromSet_16 : decode cX12_goesFromSet 16 = .ok (.aload_n 0, 1) := by decide +kernel
theorem dX12_goesFromSet_17 : decode cX12_goesFromSet 17 = .ok (.iload_n 1, 1) := by decide +kernel
theorem dX12_goesFromSet_18 : decode cX12_goesFromSet 18 = .ok (.iload_n 2, 1) := by decide +kernel
theorem dX12_goesFromSet_19 : decode cX12_goesFromSet 19 = .ok (.invokevirtual 319, 3) := by decide +kernel
theorem dX12_goesFromSet_22 : decode cX12_goesFromSet 22 = .ok (.if_icmp .gt 73, 3) := by decide +kernel
theorem dX12_goesFromSet_25 : decode cX12_goesFromSet 25 = .ok (.aload_n 0, 1) := by decide +kernel
theorem dX12_goesFromSet_26 : decode cX12_goesFromSet 26 = .ok (.invokevirtual 325, 3) := by decide +kernel
theorem dX12_goesFromSet_29 : decode cX12_goesFromSet 29 = .ok (.iload_n 2, 1) := by decide +kernel
theorem dX12_goesFromSet_30 : decode cX12_goesFromSet 30 = .ok (.ifCond .eq 7, 3) := by decide +kernel
theorem dX12_goesFromSet_33 : decode cX12_goesFromSet 33 = .ok (.iconst 1, 1) := by decide +kernel
theorem dX12_goesFromSet_34 : decode cX12_goesFromSet 34 = .ok (.goto 4, 3) := by decide +kernel
theorem dX12_goesFromSet_37 : decode cX12_goesFromSet 37 = .ok (.iconst 0, 1) := by decide +kernel
theorem dX12_goesFromSet_38 : decode cX12_goesFromSet 38 = .ok (.istore 4, 2) := by decide +kernel
theorem dX12_goesFromSet_40 : decode cX12_goesFromSet 40 = .ok (.iload 4, 2) := by decide +kernel
theorem dX12_goesFromSet_42 : decode cX12_goesFromSet 42 = .ok (.ifCond .eq 47, 3) := by decide +kernel
theorem dX12_goesFromSet_45 : decode cX12_goesFromSet 45 = .ok (.aload_n 0, 1) := by decide +kernel
theorem dX12_goesFromSet_46 : decode cX12_goesFromSet 46 = .ok (.getfield 337, 3) := by decide +kernel
theorem dX12_goesFromSet_49 : decode cX12_goesFromSet 49 = .ok (.ifCond .ne 40, 3) := by decide +kernel
theorem dX12_goesFromSet_52 : decode cX12_goesFromSet 52 = .ok (.aload_n 0, 1) := by decide +kernel
theorem dX12_goesFromSet_53 : decode cX12_goesFromSet 53 = .ok (.iload_n 1, 1) := by decide +kernel
theorem dX12_goesFromSet_54 : decode cX12_goesFromSet 54 = .ok (.iload_n 2, 1) := by decide +kernel
theorem dX12_goesFromSet_55 : decode cX12_goesFromSet 55 = .ok (.iload_n 3, 1) := by decide +kernel
theorem dX12_goesFromSet_56 : decode cX12_goesFromSet 56 = .ok (.invokevirtual 328, 3) := by decide +kernel
theorem dX12_goesFromSet_59 : decode cX12_goesFromSet 59 = .ok (.ifCond .eq 19, 3) := by decide +kernel
theorem dX12_goesFromSet_62 : decode cX12_goesFromSet 62 = .ok (.aload_n 0, 1) := by decide +kernel
theorem dX12_goesFromSet_63 : decode cX12_goesFromSet 63 = .ok (.aload_n 0, 1) := by decide +kernel
theorem dX12_goesFromSet_64 : decode cX12_goesFromSet 64 = .ok (.iload_n 2, 1) := by decide +kernel
theorem dX12_goesFromSet_65 : decode cX12_goesFromSet 65 = .ok (.iload_n 3, 1) := by decide +kernel
theorem dX12_goesFromSet_66 : decode cX12_goesFromSet 66 = .ok (.aload_n 0, 1) := by decide +kernel
theorem dX12_goesFromSet_67 : decode cX12_goesFromSet 67 = .ok (.iload_n 2, 1) := by decide +kernel
theorem dX12_goesFromSet_68 : decode cX12_goesFromSet 68 = .ok (.invokevirtual 350, 3) := by decide +kernel
theorem dX12_goesFromSet_71 : decode cX12_goesFromSet 71 = .ok (.iconst 0, 1) := by decide +kernel
theorem dX12_goesFromSet_72 : decode cX12_goesFromSet 72 = .ok (.invokevirtual 343, 3) := by decide +kernel
theorem dX12_goesFromSet_75 : decode cX12_goesFromSet 75 = .ok (.invokevirtual 347, 3) := by decide +kernel
theorem dX12_goesFromSet_78 : decode cX12_goesFromSet 78 = .ok (.aload_n 0, 1) := by decide +kernel
theorem dX12_goesFromSet_79 : decode cX12_goesFromSet 79 = .ok (.iload_n 2, 1) := by decide +kernel
theorem dX12_goesFromSet_80 : decode cX12_goesFromSet 80 = .ok (.iload_n 3, 1) := by decide +kernel
theorem dX12_goesFromSet_81 : decode cX12_goesFromSet 81 = .ok (.invokevirtual 331, 3) := by decide +kernel
theorem dX12_goesFromSet_84 : decode cX12_goesFromSet 84 = .ok (.istore 4, 2) := by decide +kernel
theorem dX12_goesFromSet_86 : decode cX12_goesFromSet 86 = .ok (.goto (-46), 3) := by decide +kernel
theorem dX12_goesFromSet_89 : decode cX12_goesFromSet 89 = .ok (.iinc 3 2, 3) := by decide +kernel
theorem dX12_goesFromSet_92 : decode cX12_goesFromSet 92 = .ok (.goto (-77), 3) := by decide +kernel
theorem dX12_goesFromSet_95 : decode cX12_goesFromSet 95 = .ok (.return_, 1) := by decide +kernel
theorem dX12_mostOf_0 : decode cX12_mostOf 0 = .ok (.bipush 7, 2) := by decide +kernel
theorem dX12_mostOf_2 : decode cX12_mostOf 2 = .ok (.istore 5, 2) := by decide +kernel
theorem dX12_mostOf_4 : decode cX12_mostOf 4 = .ok (.iconst 0, 1) := by decide +kernel
theorem dX12_mostOf_5 : decode cX12_mostOf 5 = .ok (.istore 6, 2) := by decide +kernel
theorem dX12_mostOf_7 : decode cX12_mostOf 7 = .ok (.iload 6, 2) := by decide +kernel
theorem dX12_mostOf_9 : decode cX12_mostOf 9 = .ok (.iconst 4, 1) := by decide +kernel
theorem dX12_mostOf_10 : decode cX12_mostOf 10 = .ok (.if_icmp .ge 70, 3) := by decide +kernel
theorem dX12_mostOf_13 : decode cX12_mostOf 13 = .ok (.aload_n 0, 1) := by decide +kernel
theorem dX12_mostOf_14 : decode cX12_mostOf 14 = .ok (.getfield 36, 3) := by decide +kernel
theorem dX12_mostOf_17 : decode cX12_mostOf 17 = .ok (.iload_n 2, 1) := by decide +kernel
theorem dX12_mostOf_18 : decode cX12_mostOf 18 = .ok (.iaload, 1) := by decide +kernel
theorem dX12_mostOf_19 : decode cX12_mostOf 19 = .ok (.iload 6, 2) := by decide +kernel
theorem dX12_mostOf_21 : decode cX12_mostOf 21 = .ok (.ishr, 1) := by decide +kernel
theorem dX12_mostOf_22 : decode cX12_mostOf 22 = .ok (.iconst 1, 1) := by decide +kernel
theorem dX12_mostOf_23 : decode cX12_mostOf 23 = .ok (.iand, 1) := by decide +kernel
theorem dX12_mostOf_24 : decode cX12_mostOf 24 = .ok (.iconst 1, 1) := by decide +kernel
theorem dX12_mostOf_25 : decode cX12_mostOf 25 = .ok (.if_icmp .ne 49, 3) := by decide +kernel
theorem dX12_mostOf_28 : decode cX12_mostOf 28 = .ok (.aload_n 0, 1) := by decide +kernel
theorem dX12_mostOf_29 : decode cX12_mostOf 29 = .ok (.iload_n 1, 1) := by decide +kernel
theorem dX12_mostOf_30 : decode cX12_mostOf 30 = .ok (.iload_n 3, 1) := by decide +kernel
theorem dX12_mostOf_31 : decode cX12_mostOf 31 = .ok (.iload 6, 2) := by decide +kernel
theorem dX12_mostOf_33 : decode cX12_mostOf 33 = .ok (.invokevirtual 309, 3) := by decide +kernel
theorem dX12_mostOf_36 : decode cX12_mostOf 36 = .ok (.iload 4, 2) := by decide +kernel
theorem dX12_mostOf_38 : decode cX12_mostOf 38 = .ok (.ishr, 1) := by decide +kernel
theorem dX12_mostOf_39 : decode cX12_mostOf 39 = .ok (.iconst 1, 1) := by decide +kernel
theorem dX12_mostOf_40 : decode cX12_mostOf 40 = .ok (.iand, 1) := by decide +kernel
theorem dX12_mostOf_41 : decode cX12_mostOf 41 = .ok (.iconst 1, 1) := by decide +kernel
theorem dX12_mostOf_42 : decode cX12_mostOf 42 = .ok (.if_icmp .ne 32, 3) := by decide +kernel
theorem dX12_mostOf_45 : decode cX12_mostOf 45 = .ok (.aload_n 0, 1) := by decide +kernel
theorem dX12_mostOf_46 : decode cX12_mostOf 46 = .ok (.getfield 42, 3) := by decide +kernel
theorem dX12_mostOf_49 : decode cX12_mostOf 49 = .ok (.iload_n 2, 1) := by decide +kernel
theorem dX12_mostOf_50 : decode cX12_mostOf 50 = .ok (.iaload, 1) := by decide +kernel
theorem dX12_mostOf_51 : decode cX12_mostOf 51 = .ok (.iload 6, 2) := by decide +kernel
theorem dX12_mostOf_53 : decode cX12_mostOf 53 = .ok (.invokestatic 353, 3) := by decide +kernel
theorem dX12_mostOf_56 : decode cX12_mostOf 56 = .ok (.iload 5, 2) := by decide +kernel
theorem dX12_mostOf_58 : decode cX12_mostOf 58 = .ok (.if_icmp .ge 16, 3) := by decide +kernel
theorem dX12_mostOf_61 : decode cX12_mostOf 61 = .ok (.aload_n 0, 1) := by decide +kernel
theorem dX12_mostOf_62 : decode cX12_mostOf 62 = .ok (.getfield 42, 3) := by decide +kernel
theorem dX12_mostOf_65 : decode cX12_mostOf 65 = .ok (.iload_n 2, 1) := by decide +kernel
theorem dX12_mostOf_66 : decode cX12_mostOf 66 = .ok (.iaload, 1) := by decide +kernel
theorem dX12_mostOf_67 : decode cX12_mostOf 67 = .ok (.iload 6, 2) := by decide +kernel
theorem dX12_mostOf_69 : decode cX12_mostOf 69 = .ok (.invokestatic 353, 3) := by decide +kernel
theorem dX12_mostOf_72 : decode cX12_mostOf 72 = .ok (.istore 5, 2) := by decide +kernel
theorem dX12_mostOf_74 : decode cX12_mostOf 74 = .ok (.iinc 6 1, 3) := by decide +kernel
theorem dX12_mostOf_77 : decode cX12_mostOf 77 = .ok (.goto (-70), 3) := by decide +kernel
theorem dX12_mostOf_80 : decode cX12_mostOf 80 = .ok (.iload 5, 2) := by decide +kernel
theorem dX12_mostOf_82 : decode cX12_mostOf 82 = .ok (.ireturn, 1) := by decide +kernel
theorem dX12_isUnder_0 : decode cX12_isUnder 0 = .ok (.iconst 0, 1) := by decide +kernel
theorem dX12_isUnder_1 : decode cX12_isUnder 1 = .ok (.istore_n 2, 1) := by decide +kernel
theorem dX12_isUnder_2 : decode cX12_isUnder 2 = .ok (.iload_n 2, 1) := by decide +kernel
theorem dX12_isUnder_3 : decode cX12_isUnder 3 = .ok (.iconst 4, 1) := by decide +kernel
theorem dX12_isUnder_4 : decode cX12_isUnder 4 = .ok (.if_icmp .ge 35, 3) := by decide +kernel
theorem dX12_isUnder_7 : decode cX12_isUnder 7 = .ok (.iload_n 1, 1) := by decide +kernel
theorem dX12_isUnder_8 : decode cX12_isUnder 8 = .ok (.iload_n 2, 1) := by decide +kernel
theorem dX12_isUnder_9 : decode cX12_isUnder 9 = .ok (.ishr, 1) := by decide +kernel
theorem dX12_isUnder_10 : decode cX12_isUnder 10 = .ok (.iconst 1, 1) := by decide +kernel
theorem dX12_isUnder_11 : decode cX12_isUnder 11 = .ok (.iand, 1) := by decide +kernel
theorem dX12_isUnder_12 : decode cX12_isUnder 12 = .ok (.iconst 1, 1) := by decide +kernel
theorem dX12_isUnder_13 : decode cX12_isUnder 13 = .ok (.if_icmp .ne 20, 3) := by decide +kernel
theorem dX12_isUnder_16 : decode cX12_isUnder 16 = .ok (.aload_n 0, 1) := by decide +kernel
theorem dX12_isUnder_17 : decode cX12_isUnder 17 = .ok (.getfield 33, 3) := by decide +kernel
theorem dX12_isUnder_20 : decode cX12_isUnder 20 = .ok (.iload_n 2, 1) := by decide +kernel
theorem dX12_isUnder_21 : decode cX12_isUnder 21 = .ok (.iaload, 1) := by decide +kernel
theorem dX12_isUnder_22 : decode cX12_isUnder 22 = .ok (.aload_n 0, 1) := by decide +kernel
theorem dX12_isUnder_23 : decode cX12_isUnder 23 = .ok (.getfield 64, 3) := by decide +kernel
theorem dX12_isUnder_26 : decode cX12_isUnder 26 = .ok (.iload_n 2, 1) := by decide +kernel
theorem dX12_isUnder_27 : decode cX12_isUnder 27 = .ok (.iaload, 1) := by decide +kernel
theorem dX12_isUnder_28 : decode cX12_isUnder 28 = .ok (.if_icmp .le 5, 3) := by decide +kernel
theorem dX12_isUnder_31 : decode cX12_isUnder 31 = .ok (.iconst 0, 1) := by decide +kernel
theorem dX12_isUnder_32 : decode cX12_isUnder 32 = .ok (.ireturn, 1) := by decide +kernel
theorem dX12_isUnder_33 : decode cX12_isUnder 33 = .ok (.iinc 2 1, 3) := by decide +kernel
theorem dX12_isUnder_36 : decode cX12_isUnder 36 = .ok (.goto (-34), 3) := by decide +kernel
theorem dX12_isUnder_39 : decode cX12_isUnder 39 = .ok (.iconst 1, 1) := by decide +kernel
theorem dX12_isUnder_40 : decode cX12_isUnder 40 = .ok (.ireturn, 1) := by decide +kernel
theorem dX12_evens_0 : decode cX12_evens 0 = .ok (.iconst 0, 1) := by decide +kernel
theorem dX12_evens_1 : decode cX12_evens 1 = .ok (.istore_n 2, 1) := by decide +kernel
theorem dX12_evens_2 : decode cX12_evens 2 = .ok (.iconst 0, 1) := by decide +kernel
theorem dX12_evens_3 : decode cX12_evens 3 = .ok (.istore_n 3, 1) := by decide +kernel
theorem dX12_evens_4 : decode cX12_evens 4 = .ok (.iload_n 3, 1) := by decide +kernel
theorem dX12_evens_5 : decode cX12_evens 5 = .ok (.iconst 4, 1) := by decide +kernel
theorem dX12_evens_6 : decode cX12_evens 6 = .ok (.if_icmp .ge 35, 3) := by decide +kernel
theorem dX12_evens_9 : decode cX12_evens 9 = .ok (.iload_n 1, 1) := by decide +kernel
theorem dX12_evens_10 : decode cX12_evens 10 = .ok (.iload_n 3, 1) := by decide +kernel
theorem dX12_evens_11 : decode cX12_evens 11 = .ok (.ishr, 1) := by decide +kernel
theorem dX12_evens_12 : decode cX12_evens 12 = .ok (.iconst 1, 1) := by decide +kernel
theorem dX12_evens_13 : decode cX12_evens 13 = .ok (.iand, 1) := by decide +kernel
theorem dX12_evens_14 : decode cX12_evens 14 = .ok (.iconst 1, 1) := by decide +kernel
theorem dX12_evens_15 : decode cX12_evens 15 = .ok (.if_icmp .ne 20, 3) := by decide +kernel
theorem dX12_evens_18 : decode cX12_evens 18 = .ok (.aload_n 0, 1) := by decide +kernel
theorem dX12_evens_19 : decode cX12_evens 19 = .ok (.getfield 33, 3) := by decide +kernel
theorem dX12_evens_22 : decode cX12_evens 22 = .ok (.iload_n 3, 1) := by decide +kernel
theorem dX12_evens_23 : decode cX12_evens 23 = .ok (.iaload, 1) := by decide +kernel
theorem dX12_evens_24 : decode cX12_evens 24 = .ok (.iconst 2, 1) := by decide +kernel
theorem dX12_evens_25 : decode cX12_evens 25 = .ok (.irem, 1) := by decide +kernel
theorem dX12_evens_26 : decode cX12_evens 26 = .ok (.ifCond .ne 9, 3) := by decide +kernel
theorem dX12_evens_29 : decode cX12_evens 29 = .ok (.iload_n 2, 1) := by decide +kernel
theorem dX12_evens_30 : decode cX12_evens 30 = .ok (.iconst 1, 1) := by decide +kernel
theorem dX12_evens_31 : decode cX12_evens 31 = .ok (.iload_n 3, 1) := by decide +kernel
theorem dX12_evens_32 : decode cX12_evens 32 = .ok (.ishl, 1) := by decide +kernel
theorem dX12_evens_33 : decode cX12_evens 33 = .ok (.ior, 1) := by decide +kernel
