theorem dX12_begunNodes_11 : decode cX12_begunNodes 11 = .ok (.getfield 119, 3) := by decide +kernel
theorem dX12_begunNodes_14 : decode cX12_begunNodes 14 = .ok (.iload_n 1, 1) := by decide +kernel
theorem dX12_begunNodes_15 : decode cX12_begunNodes 15 = .ok (.iload_n 1, 1) := by decide +kernel
theorem dX12_begunNodes_16 : decode cX12_begunNodes 16 = .ok (.ifCond .ne 7, 3) := by decide +kernel
theorem dX12_begunNodes_19 : decode cX12_begunNodes 19 = .ok (.iconst 1, 1) := by decide +kernel
theorem dX12_begunNodes_20 : decode cX12_begunNodes 20 = .ok (.goto 4, 3) := by decide +kernel
theorem dX12_begunNodes_23 : decode cX12_begunNodes 23 = .ok (.iconst 0, 1) := by decide +kernel
theorem dX12_begunNodes_24 : decode cX12_begunNodes 24 = .ok (.bastore, 1) := by decide +kernel
theorem dX12_begunNodes_25 : decode cX12_begunNodes 25 = .ok (.iinc 1 1, 3) := by decide +kernel
theorem dX12_begunNodes_28 : decode cX12_begunNodes 28 = .ok (.goto (-26), 3) := by decide +kernel
theorem dX12_begunNodes_31 : decode cX12_begunNodes 31 = .ok (.iconst 0, 1) := by decide +kernel
theorem dX12_begunNodes_32 : decode cX12_begunNodes 32 = .ok (.istore_n 1, 1) := by decide +kernel
theorem dX12_begunNodes_33 : decode cX12_begunNodes 33 = .ok (.iload_n 1, 1) := by decide +kernel
theorem dX12_begunNodes_34 : decode cX12_begunNodes 34 = .ok (.aload_n 0, 1) := by decide +kernel
theorem dX12_begunNodes_35 : decode cX12_begunNodes 35 = .ok (.getfield 466, 3) := by decide +kernel
theorem dX12_begunNodes_38 : decode cX12_begunNodes 38 = .ok (.if_icmp .ge 126, 3) := by decide +kernel
theorem dX12_begunNodes_41 : decode cX12_begunNodes 41 = .ok (.iconst 0, 1) := by decide +kernel
theorem dX12_begunNodes_42 : decode cX12_begunNodes 42 = .ok (.istore_n 2, 1) := by decide +kernel
theorem dX12_begunNodes_43 : decode cX12_begunNodes 43 = .ok (.iload_n 2, 1) := by decide +kernel
theorem dX12_begunNodes_44 : decode cX12_begunNodes 44 = .ok (.aload_n 0, 1) := by decide +kernel
theorem dX12_begunNodes_45 : decode cX12_begunNodes 45 = .ok (.getfield 334, 3) := by decide +kernel
theorem dX12_begunNodes_48 : decode cX12_begunNodes 48 = .ok (.if_icmp .ge 16, 3) := by decide +kernel
theorem dX12_begunNodes_51 : decode cX12_begunNodes 51 = .ok (.aload_n 0, 1) := by decide +kernel
theorem dX12_begunNodes_52 : decode cX12_begunNodes 52 = .ok (.getfield 122, 3) := by decide +kernel
theorem dX12_begunNodes_55 : decode cX12_begunNodes 55 = .ok (.iload_n 2, 1) := by decide +kernel
theorem dX12_begunNodes_56 : decode cX12_begunNodes 56 = .ok (.iconst 0, 1) := by decide +kernel
theorem dX12_begunNodes_57 : decode cX12_begunNodes 57 = .ok (.bastore, 1) := by decide +kernel
theorem dX12_begunNodes_58 : decode cX12_begunNodes 58 = .ok (.iinc 2 1, 3) := by decide +kernel
theorem dX12_begunNodes_61 : decode cX12_begunNodes 61 = .ok (.goto (-18), 3) := by decide +kernel
theorem dX12_begunNodes_64 : decode cX12_begunNodes 64 = .ok (.iconst 0, 1) := by decide +kernel
theorem dX12_begunNodes_65 : decode cX12_begunNodes 65 = .ok (.istore_n 2, 1) := by decide +kernel
theorem dX12_begunNodes_66 : decode cX12_begunNodes 66 = .ok (.iload_n 2, 1) := by decide +kernel
theorem dX12_begunNodes_67 : decode cX12_begunNodes 67 = .ok (.aload_n 0, 1) := by decide +kernel
theorem dX12_begunNodes_68 : decode cX12_begunNodes 68 = .ok (.getfield 334, 3) := by decide +kernel
theorem dX12_begunNodes_71 : decode cX12_begunNodes 71 = .ok (.if_icmp .ge 59, 3) := by decide +kernel
theorem dX12_begunNodes_74 : decode cX12_begunNodes 74 = .ok (.iconst 0, 1) := by decide +kernel
theorem dX12_begunNodes_75 : decode cX12_begunNodes 75 = .ok (.istore_n 3, 1) := by decide +kernel
theorem dX12_begunNodes_76 : decode cX12_begunNodes 76 = .ok (.aload_n 0, 1) := by decide +kernel
theorem dX12_begunNodes_77 : decode cX12_begunNodes 77 = .ok (.getfield 119, 3) := by decide +kernel
theorem dX12_begunNodes_80 : decode cX12_begunNodes 80 = .ok (.iload_n 2, 1) := by decide +kernel
theorem dX12_begunNodes_81 : decode cX12_begunNodes 81 = .ok (.baload, 1) := by decide +kernel
theorem dX12_begunNodes_82 : decode cX12_begunNodes 82 = .ok (.ifCond .eq 42, 3) := by decide +kernel
theorem dX12_begunNodes_85 : decode cX12_begunNodes 85 = .ok (.iload_n 3, 1) := by decide +kernel
theorem dX12_begunNodes_86 : decode cX12_begunNodes 86 = .ok (.aload_n 0, 1) := by decide +kernel
theorem dX12_begunNodes_87 : decode cX12_begunNodes 87 = .ok (.iload_n 2, 1) := by decide +kernel
theorem dX12_begunNodes_88 : decode cX12_begunNodes 88 = .ok (.aload_n 0, 1) := by decide +kernel
theorem dX12_begunNodes_89 : decode cX12_begunNodes 89 = .ok (.getfield 67, 3) := by decide +kernel
theorem dX12_begunNodes_92 : decode cX12_begunNodes 92 = .ok (.iload_n 1, 1) := by decide +kernel
theorem dX12_begunNodes_93 : decode cX12_begunNodes 93 = .ok (.iaload, 1) := by decide +kernel
theorem dX12_begunNodes_94 : decode cX12_begunNodes 94 = .ok (.invokevirtual 387, 3) := by decide +kernel
theorem dX12_begunNodes_97 : decode cX12_begunNodes 97 = .ok (.if_icmp .ge 27, 3) := by decide +kernel
theorem dX12_begunNodes_100 : decode cX12_begunNodes 100 = .ok (.aload_n 0, 1) := by decide +kernel
theorem dX12_begunNodes_101 : decode cX12_begunNodes 101 = .ok (.getfield 122, 3) := by decide +kernel
theorem dX12_begunNodes_104 : decode cX12_begunNodes 104 = .ok (.aload_n 0, 1) := by decide +kernel
theorem dX12_begunNodes_105 : decode cX12_begunNodes 105 = .ok (.iload_n 2, 1) := by decide +kernel
theorem dX12_begunNodes_106 : decode cX12_begunNodes 106 = .ok (.aload_n 0, 1) := by decide +kernel
theorem dX12_begunNodes_107 : decode cX12_begunNodes 107 = .ok (.getfield 67, 3) := by decide +kernel
theorem dX12_begunNodes_110 : decode cX12_begunNodes 110 = .ok (.iload_n 1, 1) := by decide +kernel
theorem dX12_begunNodes_111 : decode cX12_begunNodes 111 = .ok (.iaload, 1) := by decide +kernel
theorem dX12_begunNodes_112 : decode cX12_begunNodes 112 = .ok (.iload_n 3, 1) := by decide +kernel
theorem dX12_begunNodes_113 : decode cX12_begunNodes 113 = .ok (.invokevirtual 399, 3) := by decide +kernel
theorem dX12_begunNodes_116 : decode cX12_begunNodes 116 = .ok (.iconst 1, 1) := by decide +kernel
theorem dX12_begunNodes_117 : decode cX12_begunNodes 117 = .ok (.bastore, 1) := by decide +kernel
theorem dX12_begunNodes_118 : decode cX12_begunNodes 118 = .ok (.iinc 3 1, 3) := by decide +kernel
theorem dX12_begunNodes_121 : decode cX12_begunNodes 121 = .ok (.goto (-45), 3) := by decide +kernel
theorem dX12_begunNodes_124 : decode cX12_begunNodes 124 = .ok (.iinc 2 1, 3) := by decide +kernel
theorem dX12_begunNodes_127 : decode cX12_begunNodes 127 = .ok (.goto (-61), 3) := by decide +kernel
theorem dX12_begunNodes_130 : decode cX12_begunNodes 130 = .ok (.iconst 0, 1) := by decide +kernel
theorem dX12_begunNodes_131 : decode cX12_begunNodes 131 = .ok (.istore_n 2, 1) := by decide +kernel
theorem dX12_begunNodes_132 : decode cX12_begunNodes 132 = .ok (.iload_n 2, 1) := by decide +kernel
theorem dX12_begunNodes_133 : decode cX12_begunNodes 133 = .ok (.aload_n 0, 1) := by decide +kernel
theorem dX12_begunNodes_134 : decode cX12_begunNodes 134 = .ok (.getfield 334, 3) := by decide +kernel
theorem dX12_begunNodes_137 : decode cX12_begunNodes 137 = .ok (.if_icmp .ge 21, 3) := by decide +kernel
theorem dX12_begunNodes_140 : decode cX12_begunNodes 140 = .ok (.aload_n 0, 1) := by decide +kernel
theorem dX12_begunNodes_141 : decode cX12_begunNodes 141 = .ok (.getfield 119, 3) := by decide +kernel
theorem dX12_begunNodes_144 : decode cX12_begunNodes 144 = .ok (.iload_n 2, 1) := by decide +kernel
theorem dX12_begunNodes_145 : decode cX12_begunNodes 145 = .ok (.aload_n 0, 1) := by decide +kernel
theorem dX12_begunNodes_146 : decode cX12_begunNodes 146 = .ok (.getfield 122, 3) := by decide +kernel
theorem dX12_begunNodes_149 : decode cX12_begunNodes 149 = .ok (.iload_n 2, 1) := by decide +kernel
theorem dX12_begunNodes_150 : decode cX12_begunNodes 150 = .ok (.baload, 1) := by decide +kernel
theorem dX12_begunNodes_151 : decode cX12_begunNodes 151 = .ok (.bastore, 1) := by decide +kernel
theorem dX12_begunNodes_152 : decode cX12_begunNodes 152 = .ok (.iinc 2 1, 3) := by decide +kernel
theorem dX12_begunNodes_155 : decode cX12_begunNodes 155 = .ok (.goto (-23), 3) := by decide +kernel
theorem dX12_begunNodes_158 : decode cX12_begunNodes 158 = .ok (.iinc 1 1, 3) := by decide +kernel
theorem dX12_begunNodes_161 : decode cX12_begunNodes 161 = .ok (.goto (-128), 3) := by decide +kernel
theorem dX12_begunNodes_164 : decode cX12_begunNodes 164 = .ok (.aload_n 0, 1) := by decide +kernel
theorem dX12_begunNodes_165 : decode cX12_begunNodes 165 = .ok (.iconst 4, 1) := by decide +kernel
theorem dX12_begunNodes_166 : decode cX12_begunNodes 166 = .ok (.putfield 393, 3) := by decide +kernel
theorem dX12_begunNodes_169 : decode cX12_begunNodes 169 = .ok (.iconst 0, 1) := by decide +kernel
theorem dX12_begunNodes_170 : decode cX12_begunNodes 170 = .ok (.istore_n 1, 1) := by decide +kernel
theorem dX12_begunNodes_171 : decode cX12_begunNodes 171 = .ok (.iload_n 1, 1) := by decide +kernel
theorem dX12_begunNodes_172 : decode cX12_begunNodes 172 = .ok (.aload_n 0, 1) := by decide +kernel
theorem dX12_begunNodes_173 : decode cX12_begunNodes 173 = .ok (.getfield 334, 3) := by decide +kernel
theorem dX12_begunNodes_176 : decode cX12_begunNodes 176 = .ok (.if_icmp .ge 28, 3) := by decide +kernel
theorem dX12_begunNodes_179 : decode cX12_begunNodes 179 = .ok (.aload_n 0, 1) := by decide +kernel
theorem dX12_begunNodes_180 : decode cX12_begunNodes 180 = .ok (.getfield 119, 3) := by decide +kernel
theorem dX12_begunNodes_183 : decode cX12_begunNodes 183 = .ok (.iload_n 1, 1) := by decide +kernel
theorem dX12_begunNodes_184 : decode cX12_begunNodes 184 = .ok (.baload, 1) := by decide +kernel
theorem dX12_begunNodes_185 : decode cX12_begunNodes 185 = .ok (.ifCond .eq 13, 3) := by decide +kernel
theorem dX12_begunNodes_188 : decode cX12_begunNodes 188 = .ok (.aload_n 0, 1) := by decide +kernel
theorem dX12_begunNodes_189 : decode cX12_begunNodes 189 = .ok (.bipush 10, 2) := by decide +kernel
theorem dX12_begunNodes_191 : decode cX12_begunNodes 191 = .ok (.iload_n 1, 1) := by decide +kernel
theorem dX12_begunNodes_192 : decode cX12_begunNodes 192 = .ok (.imul, 1) := by decide +kernel
theorem dX12_begunNodes_193 : decode cX12_begunNodes 193 = .ok (.iconst (-1), 1) := by decide +kernel
theorem dX12_begunNodes_194 : decode cX12_begunNodes 194 = .ok (.iconst (-1), 1) := by decide +kernel
theorem dX12_begunNodes_195 : decode cX12_begunNodes 195 = .ok (.invokevirtual 423, 3) := by decide +kernel
theorem dX12_begunNodes_198 : decode cX12_begunNodes 198 = .ok (.iinc 1 1, 3) := by decide +kernel
theorem dX12_begunNodes_201 : decode cX12_begunNodes 201 = .ok (.goto (-30), 3) := by decide +kernel
theorem dX12_begunNodes_204 : decode cX12_begunNodes 204 = .ok (.return_, 1) := by decide +kernel
theorem dX12_readLetters__0 : decode cX12_readLetters_ 0 = .ok (.iload_n 2, 1) := by decide +kernel
theorem dX12_readLetters__1 : decode cX12_readLetters_ 1 = .ok (.istore_n 3, 1) := by decide +kernel
theorem dX12_readLetters__2 : decode cX12_readLetters_ 2 = .ok (.aload_n 0, 1) := by decide +kernel
theorem dX12_readLetters__3 : decode cX12_readLetters_ 3 = .ok (.getfield 146, 3) := by decide +kernel
theorem dX12_readLetters__6 : decode cX12_readLetters_ 6 = .ok (.istore 4, 2) := by decide +kernel
theorem dX12_readLetters__8 : decode cX12_readLetters_ 8 = .ok (.iload 4, 2) := by decide +kernel
theorem dX12_readLetters__10 : decode cX12_readLetters_ 10 = .ok (.aload_n 0, 1) := by decide +kernel
theorem dX12_readLetters__11 : decode cX12_readLetters_ 11 = .ok (.getfield 160, 3) := by decide +kernel
theorem dX12_readLetters__14 : decode cX12_readLetters_ 14 = .ok (.if_icmp .ge 67, 3) := by decide +kernel
theorem dX12_readLetters__17 : decode cX12_readLetters_ 17 = .ok (.aload_n 0, 1) := by decide +kernel
theorem dX12_readLetters__18 : decode cX12_readLetters_ 18 = .ok (.getfield 140, 3) := by decide +kernel
theorem dX12_readLetters__21 : decode cX12_readLetters_ 21 = .ok (.ifCond .ne 60, 3) := by decide +kernel
theorem dX12_readLetters__24 : decode cX12_readLetters_ 24 = .ok (.aload_n 0, 1) := by decide +kernel
theorem dX12_readLetters__25 : decode cX12_readLetters_ 25 = .ok (.getfield 13, 3) := by decide +kernel
theorem dX12_readLetters__28 : decode cX12_readLetters_ 28 = .ok (.iload 4, 2) := by decide +kernel
theorem dX12_readLetters__30 : decode cX12_readLetters_ 30 = .ok (.iaload, 1) := by decide +kernel
theorem dX12_readLetters__31 : decode cX12_readLetters_ 31 = .ok (.bipush 97, 2) := by decide +kernel
theorem dX12_readLetters__33 : decode cX12_readLetters_ 33 = .ok (.isub, 1) := by decide +kernel
theorem dX12_readLetters__34 : decode cX12_readLetters_ 34 = .ok (.istore 5, 2) := by decide +kernel
theorem dX12_readLetters__36 : decode cX12_readLetters_ 36 = .ok (.iload 5, 2) := by decide +kernel
theorem dX12_readLetters__38 : decode cX12_readLetters_ 38 = .ok (.aload_n 0, 1) := by decide +kernel
theorem dX12_readLetters__39 : decode cX12_readLetters_ 39 = .ok (.getfield 283, 3) := by decide +kernel
theorem dX12_readLetters__42 : decode cX12_readLetters_ 42 = .ok (.if_icmp .lt 11, 3) := by decide +kernel
theorem dX12_readLetters__45 : decode cX12_readLetters_ 45 = .ok (.aload_n 0, 1) := by decide +kernel
theorem dX12_readLetters__46 : decode cX12_readLetters_ 46 = .ok (.iconst 1, 1) := by decide +kernel
theorem dX12_readLetters__47 : decode cX12_readLetters_ 47 = .ok (.invokevirtual 205, 3) := by decide +kernel
theorem dX12_readLetters__50 : decode cX12_readLetters_ 50 = .ok (.goto 25, 3) := by decide +kernel
theorem dX12_readLetters__53 : decode cX12_readLetters_ 53 = .ok (.iload_n 3, 1) := by decide +kernel
theorem dX12_readLetters__54 : decode cX12_readLetters_ 54 = .ok (.bipush 10, 2) := by decide +kernel
theorem dX12_readLetters__56 : decode cX12_readLetters_ 56 = .ok (.if_icmp .ne 11, 3) := by decide +kernel
theorem dX12_readLetters__59 : decode cX12_readLetters_ 59 = .ok (.aload_n 0, 1) := by decide +kernel
theorem dX12_readLetters__60 : decode cX12_readLetters_ 60 = .ok (.iconst 4, 1) := by decide +kernel
theorem dX12_readLetters__61 : decode cX12_readLetters_ 61 = .ok (.invokevirtual 205, 3) := by decide +kernel
theorem dX12_readLetters__64 : decode cX12_readLetters_ 64 = .ok (.goto 11, 3) := by decide +kernel
theorem dX12_readLetters__67 : decode cX12_readLetters_ 67 = .ok (.aload_n 1, 1) := by decide +kernel
theorem dX12_readLetters__68 : decode cX12_readLetters_ 68 = .ok (.iload_n 3, 1) := by decide +kernel
theorem dX12_readLetters__69 : decode cX12_readLetters_ 69 = .ok (.iload 5, 2) := by decide +kernel
theorem dX12_readLetters__71 : decode cX12_readLetters_ 71 = .ok (.iastore, 1) := by decide +kernel
theorem dX12_readLetters__72 : decode cX12_readLetters_ 72 = .ok (.iinc 3 1, 3) := by decide +kernel
theorem dX12_readLetters__75 : decode cX12_readLetters_ 75 = .ok (.iinc 4 1, 3) := by decide +kernel
theorem dX12_readLetters__78 : decode cX12_readLetters_ 78 = .ok (.goto (-70), 3) := by decide +kernel
theorem dX12_readLetters__81 : decode cX12_readLetters_ 81 = .ok (.aload_n 0, 1) := by decide +kernel
theorem dX12_readLetters__82 : decode cX12_readLetters_ 82 = .ok (.invokevirtual 209, 3) := by decide +kernel
theorem dX12_readLetters__85 : decode cX12_readLetters_ 85 = .ok (.iload_n 3, 1) := by decide +kernel
theorem dX12_readLetters__86 : decode cX12_readLetters_ 86 = .ok (.ireturn, 1) := by decide +kernel
theorem dX12_readLasso_0 : decode cX12_readLasso 0 = .ok (.aload_n 0, 1) := by decide +kernel
theorem dX12_readLasso_1 : decode cX12_readLasso 1 = .ok (.iconst 0, 1) := by decide +kernel
theorem dX12_readLasso_2 : decode cX12_readLasso 2 = .ok (.putfield 466, 3) := by decide +kernel
theorem dX12_readLasso_5 : decode cX12_readLasso 5 = .ok (.aload_n 0, 1) := by decide +kernel
theorem dX12_readLasso_6 : decode cX12_readLasso 6 = .ok (.iconst 0, 1) := by decide +kernel
theorem dX12_readLasso_7 : decode cX12_readLasso 7 = .ok (.putfield 405, 3) := by decide +kernel
theorem dX12_readLasso_10 : decode cX12_readLasso 10 = .ok (.aload_n 0, 1) := by decide +kernel
theorem dX12_readLasso_11 : decode cX12_readLasso 11 = .ok (.getfield 140, 3) := by decide +kernel
theorem dX12_readLasso_14 : decode cX12_readLasso 14 = .ok (.ifCond .ne 30, 3) := by decide +kernel
theorem dX12_readLasso_17 : decode cX12_readLasso 17 = .ok (.aload_n 0, 1) := by decide +kernel
theorem dX12_readLasso_18 : decode cX12_readLasso 18 = .ok (.getfield 163, 3) := by decide +kernel
theorem dX12_readLasso_21 : decode cX12_readLasso 21 = .ok (.iconst 2, 1) := by decide +kernel
theorem dX12_readLasso_22 : decode cX12_readLasso 22 = .ok (.if_icmp .ne 22, 3) := by decide +kernel
theorem dX12_readLasso_25 : decode cX12_readLasso 25 = .ok (.aload_n 0, 1) := by decide +kernel
theorem dX12_readLasso_26 : decode cX12_readLasso 26 = .ok (.aload_n 0, 1) := by decide +kernel
theorem dX12_readLasso_27 : decode cX12_readLasso 27 = .ok (.aload_n 0, 1) := by decide +kernel
theorem dX12_readLasso_28 : decode cX12_readLasso 28 = .ok (.getfield 67, 3) := by decide +kernel
theorem dX12_readLasso_31 : decode cX12_readLasso 31 = .ok (.aload_n 0, 1) := by decide +kernel
theorem dX12_readLasso_32 : decode cX12_readLasso 32 = .ok (.getfield 466, 3) := by decide +kernel
theorem dX12_readLasso_35 : decode cX12_readLasso 35 = .ok (.invokevirtual 469, 3) := by decide +kernel
theorem dX12_readLasso_38 : decode cX12_readLasso 38 = .ok (.putfield 466, 3) := by decide +kernel
theorem dX12_readLasso_41 : decode cX12_readLasso 41 = .ok (.goto (-31), 3) := by decide +kernel
theorem dX12_readLasso_44 : decode cX12_readLasso 44 = .ok (.aload_n 0, 1) := by decide +kernel
theorem dX12_readLasso_45 : decode cX12_readLasso 45 = .ok (.bipush 40, 2) := by decide +kernel
theorem dX12_readLasso_47 : decode cX12_readLasso 47 = .ok (.invokevirtual 221, 3) := by decide +kernel
theorem dX12_readLasso_50 : decode cX12_readLasso 50 = .ok (.ifCond .ne 8, 3) := by decide +kernel
theorem dX12_readLasso_53 : decode cX12_readLasso 53 = .ok (.aload_n 0, 1) := by decide +kernel
theorem dX12_readLasso_54 : decode cX12_readLasso 54 = .ok (.iconst 1, 1) := by decide +kernel
theorem dX12_readLasso_55 : decode cX12_readLasso 55 = .ok (.invokevirtual 205, 3) := by decide +kernel
theorem dX12_readLasso_58 : decode cX12_readLasso 58 = .ok (.aload_n 0, 1) := by decide +kernel
theorem dX12_readLasso_59 : decode cX12_readLasso 59 = .ok (.invokevirtual 209, 3) := by decide +kernel
theorem dX12_readLasso_62 : decode cX12_readLasso 62 = .ok (.aload_n 0, 1) := by decide +kernel
theorem dX12_readLasso_63 : decode cX12_readLasso 63 = .ok (.getfield 140, 3) := by decide +kernel
theorem dX12_readLasso_66 : decode cX12_readLasso 66 = .ok (.ifCond .ne 16, 3) := by decide +kernel
theorem dX12_readLasso_69 : decode cX12_readLasso 69 = .ok (.aload_n 0, 1) := by decide +kernel
theorem dX12_readLasso_70 : decode cX12_readLasso 70 = .ok (.getfield 163, 3) := by decide +kernel
theorem dX12_readLasso_73 : decode cX12_readLasso 73 = .ok (.iconst 2, 1) := by decide +kernel
theorem dX12_readLasso_74 : decode cX12_readLasso 74 = .ok (.if_icmp .eq 8, 3) := by decide +kernel
theorem dX12_readLasso_77 : decode cX12_readLasso 77 = .ok (.aload_n 0, 1) := by decide +kernel
theorem dX12_readLasso_78 : decode cX12_readLasso 78 = .ok (.iconst 1, 1) := by decide +kernel
theorem dX12_readLasso_79 : decode cX12_readLasso 79 = .ok (.invokevirtual 205, 3) := by decide +kernel
theorem dX12_readLasso_82 : decode cX12_readLasso 82 = .ok (.aload_n 0, 1) := by decide +kernel
theorem dX12_readLasso_83 : decode cX12_readLasso 83 = .ok (.getfield 140, 3) := by decide +kernel
theorem dX12_readLasso_86 : decode cX12_readLasso 86 = .ok (.ifCond .ne 30, 3) := by decide +kernel
theorem dX12_readLasso_89 : decode cX12_readLasso 89 = .ok (.aload_n 0, 1) := by decide +kernel
theorem dX12_readLasso_90 : decode cX12_readLasso 90 = .ok (.getfield 163, 3) := by decide +kernel
theorem dX12_readLasso_93 : decode cX12_readLasso 93 = .ok (.iconst 2, 1) := by decide +kernel
theorem dX12_readLasso_94 : decode cX12_readLasso 94 = .ok (.if_icmp .ne 22, 3) := by decide +kernel
theorem dX12_readLasso_97 : decode cX12_readLasso 97 = .ok (.aload_n 0, 1) := by decide +kernel
theorem dX12_readLasso_98 : decode cX12_readLasso 98 = .ok (.aload_n 0, 1) := by decide +kernel
theorem dX12_readLasso_99 : decode cX12_readLasso 99 = .ok (.aload_n 0, 1) := by decide +kernel
theorem dX12_readLasso_100 : decode cX12_readLasso 100 = .ok (.getfield 70, 3) := by decide +kernel
theorem dX12_readLasso_103 : decode cX12_readLasso 103 = .ok (.aload_n 0, 1) := by decide +kernel
theorem dX12_readLasso_104 : decode cX12_readLasso 104 = .ok (.getfield 405, 3) := by decide +kernel
theorem dX12_readLasso_107 : decode cX12_readLasso 107 = .ok (.invokevirtual 469, 3) := by decide +kernel
theorem dX12_readLasso_110 : decode cX12_readLasso 110 = .ok (.putfield 405, 3) := by decide +kernel
theorem dX12_readLasso_113 : decode cX12_readLasso 113 = .ok (.goto (-31), 3) := by decide +kernel
theorem dX12_readLasso_116 : decode cX12_readLasso 116 = .ok (.aload_n 0, 1) := by decide +kernel
theorem dX12_readLasso_117 : decode cX12_readLasso 117 = .ok (.bipush 41, 2) := by decide +kernel
theorem dX12_readLasso_119 : decode cX12_readLasso 119 = .ok (.invokevirtual 221, 3) := by decide +kernel
theorem dX12_readLasso_122 : decode cX12_readLasso 122 = .ok (.ifCond .ne 8, 3) := by decide +kernel
theorem dX12_readLasso_125 : decode cX12_readLasso 125 = .ok (.aload_n 0, 1) := by decide +kernel
theorem dX12_readLasso_126 : decode cX12_readLasso 126 = .ok (.iconst 1, 1) := by decide +kernel
theorem dX12_readLasso_127 : decode cX12_readLasso 127 = .ok (.invokevirtual 205, 3) := by decide +kernel
theorem dX12_readLasso_130 : decode cX12_readLasso 130 = .ok (.aload_n 0, 1) := by decide +kernel
theorem dX12_readLasso_131 : decode cX12_readLasso 131 = .ok (.invokevirtual 209, 3) := by decide +kernel
theorem dX12_readLasso_134 : decode cX12_readLasso 134 = .ok (.aload_n 0, 1) := by decide +kernel
theorem dX12_readLasso_135 : decode cX12_readLasso 135 = .ok (.invokevirtual 224, 3) := by decide +kernel
theorem dX12_readLasso_138 : decode cX12_readLasso 138 = .ok (.return_, 1) := by decide +kernel
theorem dX12_takes_0 : decode cX12_takes 0 = .ok (.aload_n 0, 1) := by decide +kernel
theorem dX12_takes_1 : decode cX12_takes 1 = .ok (.iconst 0, 1) := by decide +kernel
theorem dX12_takes_2 : decode cX12_takes 2 = .ok (.putfield 131, 3) := by decide +kernel
theorem dX12_takes_5 : decode cX12_takes 5 = .ok (.aload_n 0, 1) := by decide +kernel
theorem dX12_takes_6 : decode cX12_takes 6 = .ok (.iload_n 1, 1) := by decide +kernel
theorem dX12_takes_7 : decode cX12_takes 7 = .ok (.invokevirtual 291, 3) := by decide +kernel
theorem dX12_takes_10 : decode cX12_takes 10 = .ok (.ifCond .ne 9, 3) := by decide +kernel
theorem dX12_takes_13 : decode cX12_takes 13 = .ok (.aload_n 0, 1) := by decide +kernel
theorem dX12_takes_14 : decode cX12_takes 14 = .ok (.iconst 1, 1) := by decide +kernel
theorem dX12_takes_15 : decode cX12_takes 15 = .ok (.invokevirtual 270, 3) := by decide +kernel
theorem dX12_takes_18 : decode cX12_takes 18 = .ok (.ireturn, 1) := by decide +kernel
theorem dX12_takes_19 : decode cX12_takes 19 = .ok (.aload_n 0, 1) := by decide +kernel
theorem dX12_takes_20 : decode cX12_takes 20 = .ok (.iload_n 2, 1) := by decide +kernel
theorem dX12_takes_21 : decode cX12_takes 21 = .ok (.invokevirtual 267, 3) := by decide +kernel
theorem dX12_takes_24 : decode cX12_takes 24 = .ok (.ifCond .eq 9, 3) := by decide +kernel
theorem dX12_takes_27 : decode cX12_takes 27 = .ok (.aload_n 0, 1) := by decide +kernel
theorem dX12_takes_28 : decode cX12_takes 28 = .ok (.iconst 2, 1) := by decide +kernel
theorem dX12_takes_29 : decode cX12_takes 29 = .ok (.invokevirtual 270, 3) := by decide +kernel
theorem dX12_takes_32 : decode cX12_takes 32 = .ok (.ireturn, 1) := by decide +kernel
theorem dX12_takes_33 : decode cX12_takes 33 = .ok (.aload_n 0, 1) := by decide +kernel
theorem dX12_takes_34 : decode cX12_takes 34 = .ok (.iload_n 2, 1) := by decide +kernel
theorem dX12_takes_35 : decode cX12_takes 35 = .ok (.invokevirtual 274, 3) := by decide +kernel
theorem dX12_takes_38 : decode cX12_takes 38 = .ok (.aload_n 0, 1) := by decide +kernel
theorem dX12_takes_39 : decode cX12_takes 39 = .ok (.invokevirtual 472, 3) := by decide +kernel
theorem dX12_takes_42 : decode cX12_takes 42 = .ok (.aload_n 0, 1) := by decide +kernel
theorem dX12_takes_43 : decode cX12_takes 43 = .ok (.getfield 140, 3) := by decide +kernel
theorem dX12_takes_46 : decode cX12_takes 46 = .ok (.ifCond .le 8, 3) := by decide +kernel
theorem dX12_takes_49 : decode cX12_takes 49 = .ok (.aload_n 0, 1) := by decide +kernel
theorem dX12_takes_50 : decode cX12_takes 50 = .ok (.invokevirtual 280, 3) := by decide +kernel
theorem dX12_takes_53 : decode cX12_takes 53 = .ok (.ireturn, 1) := by decide +kernel
theorem dX12_takes_54 : decode cX12_takes 54 = .ok (.aload_n 0, 1) := by decide +kernel
theorem dX12_takes_55 : decode cX12_takes 55 = .ok (.aload_n 0, 1) := by decide +kernel
theorem dX12_takes_56 : decode cX12_takes 56 = .ok (.iload_n 1, 1) := by decide +kernel
theorem dX12_takes_57 : decode cX12_takes 57 = .ok (.iconst 0, 1) := by decide +kernel
theorem dX12_takes_58 : decode cX12_takes 58 = .ok (.invokevirtual 475, 3) := by decide +kernel
theorem dX12_takes_61 : decode cX12_takes 61 = .ok (.ifCond .eq 7, 3) := by decide +kernel
theorem dX12_takes_64 : decode cX12_takes 64 = .ok (.iconst 1, 1) := by decide +kernel
theorem dX12_takes_65 : decode cX12_takes 65 = .ok (.goto 4, 3) := by decide +kernel
theorem dX12_takes_68 : decode cX12_takes 68 = .ok (.iconst 0, 1) := by decide +kernel
theorem dX12_takes_69 : decode cX12_takes 69 = .ok (.invokevirtual 288, 3) := by decide +kernel
theorem dX12_takes_72 : decode cX12_takes 72 = .ok (.ireturn, 1) := by decide +kernel
theorem dX12_lacks_0 : decode cX12_lacks 0 = .ok (.aload_n 0, 1) := by decide +kernel
theorem dX12_lacks_1 : decode cX12_lacks 1 = .ok (.iconst 0, 1) := by decide +kernel
theorem dX12_lacks_2 : decode cX12_lacks 2 = .ok (.putfield 131, 3) := by decide +kernel
theorem dX12_lacks_5 : decode cX12_lacks 5 = .ok (.aload_n 0, 1) := by decide +kernel
theorem dX12_lacks_6 : decode cX12_lacks 6 = .ok (.iload_n 1, 1) := by decide +kernel
theorem dX12_lacks_7 : decode cX12_lacks 7 = .ok (.invokevirtual 291, 3) := by decide +kernel
theorem dX12_lacks_10 : decode cX12_lacks 10 = .ok (.ifCond .ne 9, 3) := by decide +kernel
theorem dX12_lacks_13 : decode cX12_lacks 13 = .ok (.aload_n 0, 1) := by decide +kernel
theorem dX12_lacks_14 : decode cX12_lacks 14 = .ok (.iconst 1, 1) := by decide +kernel
theorem dX12_lacks_15 : decode cX12_lacks 15 = .ok (.invokevirtual 270, 3) := by decide +kernel
theorem dX12_lacks_18 : decode cX12_lacks 18 = .ok (.ireturn, 1) := by decide +kernel
theorem dX12_lacks_19 : decode cX12_lacks 19 = .ok (.aload_n 0, 1) := by decide +kernel
theorem dX12_lacks_20 : decode cX12_lacks 20 = .ok (.iload_n 2, 1) := by decide +kernel
theorem dX12_lacks_21 : decode cX12_lacks 21 = .ok (.invokevirtual 267, 3) := by decide +kernel
theorem dX12_lacks_24 : decode cX12_lacks 24 = .ok (.ifCond .eq 9, 3) := by decide +kernel
theorem dX12_lacks_27 : decode cX12_lacks 27 = .ok (.aload_n 0, 1) := by decide +kernel
theorem dX12_lacks_28 : decode cX12_lacks 28 = .ok (.iconst 2, 1) := by decide +kernel
theorem dX12_lacks_29 : decode cX12_lacks 29 = .ok (.invokevirtual 270, 3) := by decide +kernel
theorem dX12_lacks_32 : decode cX12_lacks 32 = .ok (.ireturn, 1) := by decide +kernel
theorem dX12_lacks_33 : decode cX12_lacks 33 = .ok (.aload_n 0, 1) := by decide +kernel
theorem dX12_lacks_34 : decode cX12_lacks 34 = .ok (.iload_n 2, 1) := by decide +kernel
theorem dX12_lacks_35 : decode cX12_lacks 35 = .ok (.invokevirtual 274, 3) := by decide +kernel
theorem dX12_lacks_38 : decode cX12_lacks 38 = .ok (.aload_n 0, 1) := by decide +kernel
theorem dX12_lacks_39 : decode cX12_lacks 39 = .ok (.invokevirtual 472, 3) := by decide +kernel
theorem dX12_lacks_42 : decode cX12_lacks 42 = .ok (.aload_n 0, 1) := by decide +kernel
theorem dX12_lacks_43 : decode cX12_lacks 43 = .ok (.getfield 140, 3) := by decide +kernel
theorem dX12_lacks_46 : decode cX12_lacks 46 = .ok (.ifCond .le 8, 3) := by decide +kernel
theorem dX12_lacks_49 : decode cX12_lacks 49 = .ok (.aload_n 0, 1) := by decide +kernel
theorem dX12_lacks_50 : decode cX12_lacks 50 = .ok (.invokevirtual 280, 3) := by decide +kernel
theorem dX12_lacks_53 : decode cX12_lacks 53 = .ok (.ireturn, 1) := by decide +kernel
theorem dX12_lacks_54 : decode cX12_lacks 54 = .ok (.aload_n 0, 1) := by decide +kernel
theorem dX12_lacks_55 : decode cX12_lacks 55 = .ok (.iload_n 1, 1) := by decide +kernel
theorem dX12_lacks_56 : decode cX12_lacks 56 = .ok (.invokevirtual 372, 3) := by decide +kernel
theorem dX12_lacks_59 : decode cX12_lacks 59 = .ok (.ifCond .ne 9, 3) := by decide +kernel
theorem dX12_lacks_62 : decode cX12_lacks 62 = .ok (.aload_n 0, 1) := by decide +kernel
theorem dX12_lacks_63 : decode cX12_lacks 63 = .ok (.iconst 3, 1) := by decide +kernel
theorem dX12_lacks_64 : decode cX12_lacks 64 = .ok (.invokevirtual 270, 3) := by decide +kernel
theorem dX12_lacks_67 : decode cX12_lacks 67 = .ok (.ireturn, 1) := by decide +kernel
theorem dX12_lacks_68 : decode cX12_lacks 68 = .ok (.aload_n 0, 1) := by decide +kernel
theorem dX12_lacks_69 : decode cX12_lacks 69 = .ok (.aload_n 0, 1) := by decide +kernel
theorem dX12_lacks_70 : decode cX12_lacks 70 = .ok (.iload_n 1, 1) := by decide +kernel
theorem dX12_lacks_71 : decode cX12_lacks 71 = .ok (.iconst 1, 1) := by decide +kernel
theorem dX12_lacks_72 : decode cX12_lacks 72 = .ok (.invokevirtual 475, 3) := by decide +kernel
theorem dX12_lacks_75 : decode cX12_lacks 75 = .ok (.ifCond .eq 7, 3) := by decide +kernel
theorem dX12_lacks_78 : decode cX12_lacks 78 = .ok (.iconst 1, 1) := by decide +kernel
theorem dX12_lacks_79 : decode cX12_lacks 79 = .ok (.goto 4, 3) := by decide +kernel
theorem dX12_lacks_82 : decode cX12_lacks 82 = .ok (.iconst 0, 1) := by decide +kernel
theorem dX12_lacks_83 : decode cX12_lacks 83 = .ok (.invokevirtual 288, 3) := by decide +kernel
theorem dX12_lacks_86 : decode cX12_lacks 86 = .ok (.ireturn, 1) := by decide +kernel
theorem dX12_follows_0 : decode cX12_follows 0 = .ok (.aload_n 0, 1) := by decide +kernel
theorem dX12_follows_1 : decode cX12_follows 1 = .ok (.iconst 0, 1) := by decide +kernel
theorem dX12_follows_2 : decode cX12_follows 2 = .ok (.putfield 131, 3) := by decide +kernel
theorem dX12_follows_5 : decode cX12_follows 5 = .ok (.aload_n 0, 1) := by decide +kernel
theorem dX12_follows_6 : decode cX12_follows 6 = .ok (.iload_n 1, 1) := by decide +kernel
theorem dX12_follows_7 : decode cX12_follows 7 = .ok (.invokevirtual 291, 3) := by decide +kernel
theorem dX12_follows_10 : decode cX12_follows 10 = .ok (.ifCond .ne 9, 3) := by decide +kernel
theorem dX12_follows_13 : decode cX12_follows 13 = .ok (.aload_n 0, 1) := by decide +kernel
theorem dX12_follows_14 : decode cX12_follows 14 = .ok (.iconst 1, 1) := by decide +kernel
theorem dX12_follows_15 : decode cX12_follows 15 = .ok (.invokevirtual 270, 3) := by decide +kernel
theorem dX12_follows_18 : decode cX12_follows 18 = .ok (.ireturn, 1) := by decide +kernel
theorem dX12_follows_19 : decode cX12_follows 19 = .ok (.iload_n 2, 1) := by decide +kernel
theorem dX12_follows_20 : decode cX12_follows 20 = .ok (.iconst 0, 1) := by decide +kernel
theorem dX12_follows_21 : decode cX12_follows 21 = .ok (.bipush 20, 2) := by decide +kernel
theorem dX12_follows_23 : decode cX12_follows 23 = .ok (.invokestatic 156, 3) := by decide +kernel
theorem dX12_follows_26 : decode cX12_follows 26 = .ok (.ifCond .eq 11, 3) := by decide +kernel
theorem dX12_follows_29 : decode cX12_follows 29 = .ok (.aload_n 0, 1) := by decide +kernel
theorem dX12_follows_30 : decode cX12_follows 30 = .ok (.iload_n 3, 1) := by decide +kernel
theorem dX12_follows_31 : decode cX12_follows 31 = .ok (.invokevirtual 267, 3) := by decide +kernel
theorem dX12_follows_34 : decode cX12_follows 34 = .ok (.ifCond .eq 9, 3) := by decide +kernel
theorem dX12_follows_37 : decode cX12_follows 37 = .ok (.aload_n 0, 1) := by decide +kernel
theorem dX12_follows_38 : decode cX12_follows 38 = .ok (.iconst 2, 1) := by decide +kernel
theorem dX12_follows_39 : decode cX12_follows 39 = .ok (.invokevirtual 270, 3) := by decide +kernel
theorem dX12_follows_42 : decode cX12_follows 42 = .ok (.ireturn, 1) := by decide +kernel
theorem dX12_follows_43 : decode cX12_follows 43 = .ok (.aload_n 0, 1) := by decide +kernel
theorem dX12_follows_44 : decode cX12_follows 44 = .ok (.iload_n 3, 1) := by decide +kernel
theorem dX12_follows_45 : decode cX12_follows 45 = .ok (.invokevirtual 274, 3) := by decide +kernel
theorem dX12_follows_48 : decode cX12_follows 48 = .ok (.aload_n 0, 1) := by decide +kernel
theorem dX12_follows_49 : decode cX12_follows 49 = .ok (.invokevirtual 472, 3) := by decide +kernel
theorem dX12_follows_52 : decode cX12_follows 52 = .ok (.aload_n 0, 1) := by decide +kernel
theorem dX12_follows_53 : decode cX12_follows 53 = .ok (.getfield 140, 3) := by decide +kernel
theorem dX12_follows_56 : decode cX12_follows 56 = .ok (.ifCond .le 8, 3) := by decide +kernel
theorem dX12_follows_59 : decode cX12_follows 59 = .ok (.aload_n 0, 1) := by decide +kernel
theorem dX12_follows_60 : decode cX12_follows 60 = .ok (.invokevirtual 280, 3) := by decide +kernel
theorem dX12_follows_63 : decode cX12_follows 63 = .ok (.ireturn, 1) := by decide +kernel
theorem dX12_follows_64 : decode cX12_follows 64 = .ok (.aload_n 0, 1) := by decide +kernel
theorem dX12_follows_65 : decode cX12_follows 65 = .ok (.getfield 20, 3) := by decide +kernel
theorem dX12_follows_68 : decode cX12_follows 68 = .ok (.iload_n 1, 1) := by decide +kernel
theorem dX12_follows_69 : decode cX12_follows 69 = .ok (.iaload, 1) := by decide +kernel
theorem dX12_follows_70 : decode cX12_follows 70 = .ok (.istore 4, 2) := by decide +kernel
theorem dX12_follows_72 : decode cX12_follows 72 = .ok (.iconst 0, 1) := by decide +kernel
theorem dX12_follows_73 : decode cX12_follows 73 = .ok (.istore 5, 2) := by decide +kernel
theorem dX12_follows_75 : decode cX12_follows 75 = .ok (.iload 5, 2) := by decide +kernel
theorem dX12_follows_77 : decode cX12_follows 77 = .ok (.aload_n 0, 1) := by decide +kernel
theorem dX12_follows_78 : decode cX12_follows 78 = .ok (.getfield 466, 3) := by decide +kernel
theorem dX12_follows_81 : decode cX12_follows 81 = .ok (.if_icmp .ge 25, 3) := by decide +kernel
theorem dX12_follows_84 : decode cX12_follows 84 = .ok (.aload_n 0, 1) := by decide +kernel
theorem dX12_follows_85 : decode cX12_follows 85 = .ok (.iload_n 1, 1) := by decide +kernel
theorem dX12_follows_86 : decode cX12_follows 86 = .ok (.iload 4, 2) := by decide +kernel
theorem dX12_follows_88 : decode cX12_follows 88 = .ok (.aload_n 0, 1) := by decide +kernel
theorem dX12_follows_89 : decode cX12_follows 89 = .ok (.getfield 67, 3) := by decide +kernel
theorem dX12_follows_92 : decode cX12_follows 92 = .ok (.iload 5, 2) := by decide +kernel
theorem dX12_follows_94 : decode cX12_follows 94 = .ok (.iaload, 1) := by decide +kernel
theorem dX12_follows_95 : decode cX12_follows 95 = .ok (.invokevirtual 316, 3) := by decide +kernel
theorem dX12_follows_98 : decode cX12_follows 98 = .ok (.istore 4, 2) := by decide +kernel
theorem dX12_follows_100 : decode cX12_follows 100 = .ok (.iinc 5 1, 3) := by decide +kernel
theorem dX12_follows_103 : decode cX12_follows 103 = .ok (.goto (-28), 3) := by decide +kernel
theorem dX12_follows_106 : decode cX12_follows 106 = .ok (.iconst 0, 1) := by decide +kernel
theorem dX12_follows_107 : decode cX12_follows 107 = .ok (.istore 5, 2) := by decide +kernel
theorem dX12_follows_109 : decode cX12_follows 109 = .ok (.iload 5, 2) := by decide +kernel
theorem dX12_follows_111 : decode cX12_follows 111 = .ok (.iload_n 2, 1) := by decide +kernel
theorem dX12_follows_112 : decode cX12_follows 112 = .ok (.if_icmp .ge 43, 3) := by decide +kernel
theorem dX12_follows_115 : decode cX12_follows 115 = .ok (.iconst 0, 1) := by decide +kernel
theorem dX12_follows_116 : decode cX12_follows 116 = .ok (.istore 6, 2) := by decide +kernel
theorem dX12_follows_118 : decode cX12_follows 118 = .ok (.iload 6, 2) := by decide +kernel
theorem dX12_follows_120 : decode cX12_follows 120 = .ok (.aload_n 0, 1) := by decide +kernel
theorem dX12_follows_121 : decode cX12_follows 121 = .ok (.getfield 405, 3) := by decide +kernel
theorem dX12_follows_124 : decode cX12_follows 124 = .ok (.if_icmp .ge 25, 3) := by decide +kernel
theorem dX12_follows_127 : decode cX12_follows 127 = .ok (.aload_n 0, 1) := by decide +kernel
theorem dX12_follows_128 : decode cX12_follows 128 = .ok (.iload_n 1, 1) := by decide +kernel
theorem dX12_follows_129 : decode cX12_follows 129 = .ok (.iload 4, 2) := by decide +kernel
theorem dX12_follows_131 : decode cX12_follows 131 = .ok (.aload_n 0, 1) := by decide +kernel
theorem dX12_follows_132 : decode cX12_follows 132 = .ok (.getfield 70, 3) := by decide +kernel
theorem dX12_follows_135 : decode cX12_follows 135 = .ok (.iload 6, 2) := by decide +kernel
theorem dX12_follows_137 : decode cX12_follows 137 = .ok (.iaload, 1) := by decide +kernel
theorem dX12_follows_138 : decode cX12_follows 138 = .ok (.invokevirtual 316, 3) := by decide +kernel
theorem dX12_follows_141 : decode cX12_follows 141 = .ok (.istore 4, 2) := by decide +kernel
theorem dX12_follows_143 : decode cX12_follows 143 = .ok (.iinc 6 1, 3) := by decide +kernel
theorem dX12_follows_146 : decode cX12_follows 146 = .ok (.goto (-28), 3) := by decide +kernel
theorem dX12_follows_149 : decode cX12_follows 149 = .ok (.iinc 5 1, 3) := by decide +kernel
theorem dX12_follows_152 : decode cX12_follows 152 = .ok (.goto (-43), 3) := by decide +kernel
theorem dX12_follows_155 : decode cX12_follows 155 = .ok (.aload_n 0, 1) := by decide +kernel
theorem dX12_follows_156 : decode cX12_follows 156 = .ok (.iload 4, 2) := by decide +kernel
theorem dX12_follows_158 : decode cX12_follows 158 = .ok (.invokevirtual 288, 3) := by decide +kernel
theorem dX12_follows_161 : decode cX12_follows 161 = .ok (.ireturn, 1) := by decide +kernel
theorem dX12_areLong_0 : decode cX12_areLong 0 = .ok (.iload_n 0, 1) := by decide +kernel
theorem dX12_areLong_1 : decode cX12_areLong 1 = .ok (.iconst 0, 1) := by decide +kernel
theorem dX12_areLong_2 : decode cX12_areLong 2 = .ok (.iconst 3, 1) := by decide +kernel
theorem dX12_areLong_3 : decode cX12_areLong 3 = .ok (.invokestatic 156, 3) := by decide +kernel
theorem dX12_areLong_6 : decode cX12_areLong 6 = .ok (.ifCond .eq 16, 3) := by decide +kernel
theorem dX12_areLong_9 : decode cX12_areLong 9 = .ok (.iload_n 1, 1) := by decide +kernel
theorem dX12_areLong_10 : decode cX12_areLong 10 = .ok (.iconst 1, 1) := by decide +kernel
theorem dX12_areLong_11 : decode cX12_areLong 11 = .ok (.iconst 3, 1) := by decide +kernel
theorem dX12_areLong_12 : decode cX12_areLong 12 = .ok (.invokestatic 156, 3) := by decide +kernel
theorem dX12_areLong_15 : decode cX12_areLong 15 = .ok (.ifCond .eq 7, 3) := by decide +kernel
theorem dX12_areLong_18 : decode cX12_areLong 18 = .ok (.iconst 1, 1) := by decide +kernel
theorem dX12_areLong_19 : decode cX12_areLong 19 = .ok (.goto 4, 3) := by decide +kernel
theorem dX12_areLong_22 : decode cX12_areLong 22 = .ok (.iconst 0, 1) := by decide +kernel
theorem dX12_areLong_23 : decode cX12_areLong 23 = .ok (.ireturn, 1) := by decide +kernel
theorem dX12_taken_0 : decode cX12_taken 0 = .ok (.iconst 1, 1) := by decide +kernel
theorem dX12_taken_1 : decode cX12_taken 1 = .ok (.istore 5, 2) := by decide +kernel
theorem dX12_taken_3 : decode cX12_taken 3 = .ok (.iconst 0, 1) := by decide +kernel
theorem dX12_taken_4 : decode cX12_taken 4 = .ok (.istore 6, 2) := by decide +kernel
theorem dX12_taken_6 : decode cX12_taken 6 = .ok (.iload 6, 2) := by decide +kernel
theorem dX12_taken_8 : decode cX12_taken 8 = .ok (.iload_n 2, 1) := by decide +kernel
theorem dX12_taken_9 : decode cX12_taken 9 = .ok (.iload_n 3, 1) := by decide +kernel
theorem dX12_taken_10 : decode cX12_taken 10 = .ok (.iadd, 1) := by decide +kernel
theorem dX12_taken_11 : decode cX12_taken 11 = .ok (.if_icmp .ge 18, 3) := by decide +kernel
theorem dX12_taken_14 : decode cX12_taken 14 = .ok (.iload 5, 2) := by decide +kernel
theorem dX12_taken_16 : decode cX12_taken 16 = .ok (.aload_n 0, 1) := by decide +kernel
theorem dX12_taken_17 : decode cX12_taken 17 = .ok (.getfield 283, 3) := by decide +kernel
theorem dX12_taken_20 : decode cX12_taken 20 = .ok (.imul, 1) := by decide +kernel
theorem dX12_taken_21 : decode cX12_taken 21 = .ok (.istore 5, 2) := by decide +kernel
theorem dX12_taken_23 : decode cX12_taken 23 = .ok (.iinc 6 1, 3) := by decide +kernel
theorem dX12_taken_26 : decode cX12_taken 26 = .ok (.goto (-20), 3) := by decide +kernel
theorem dX12_taken_29 : decode cX12_taken 29 = .ok (.iconst 0, 1) := by decide +kernel
theorem dX12_taken_30 : decode cX12_taken 30 = .ok (.istore 6, 2) := by decide +kernel
theorem dX12_taken_32 : decode cX12_taken 32 = .ok (.aload_n 0, 1) := by decide +kernel
theorem dX12_taken_33 : decode cX12_taken 33 = .ok (.iload_n 2, 1) := by decide +kernel
theorem dX12_taken_34 : decode cX12_taken 34 = .ok (.putfield 466, 3) := by decide +kernel
theorem dX12_taken_37 : decode cX12_taken 37 = .ok (.aload_n 0, 1) := by decide +kernel
theorem dX12_taken_38 : decode cX12_taken 38 = .ok (.iload_n 3, 1) := by decide +kernel
theorem dX12_taken_39 : decode cX12_taken 39 = .ok (.putfield 405, 3) := by decide +kernel
theorem dX12_taken_42 : decode cX12_taken 42 = .ok (.iconst 0, 1) := by decide +kernel
theorem dX12_taken_43 : decode cX12_taken 43 = .ok (.istore 7, 2) := by decide +kernel
theorem dX12_taken_45 : decode cX12_taken 45 = .ok (.iload 7, 2) := by decide +kernel
theorem dX12_taken_47 : decode cX12_taken 47 = .ok (.iload 5, 2) := by decide +kernel
theorem dX12_taken_49 : decode cX12_taken 49 = .ok (.if_icmp .ge 98, 3) := by decide +kernel
theorem dX12_taken_52 : decode cX12_taken 52 = .ok (.iload 7, 2) := by decide +kernel
theorem dX12_taken_54 : decode cX12_taken 54 = .ok (.istore 8, 2) := by decide +kernel
theorem dX12_taken_56 : decode cX12_taken 56 = .ok (.iconst 0, 1) := by decide +kernel
theorem dX12_taken_57 : decode cX12_taken 57 = .ok (.istore 9, 2) := by decide +kernel
theorem dX12_taken_59 : decode cX12_taken 59 = .ok (.iload 9, 2) := by decide +kernel
theorem dX12_taken_61 : decode cX12_taken 61 = .ok (.iload_n 2, 1) := by decide +kernel
theorem dX12_taken_62 : decode cX12_taken 62 = .ok (.iload_n 3, 1) := by decide +kernel
theorem dX12_taken_63 : decode cX12_taken 63 = .ok (.iadd, 1) := by decide +kernel
theorem dX12_taken_64 : decode cX12_taken 64 = .ok (.if_icmp .ge 57, 3) := by decide +kernel
theorem dX12_taken_67 : decode cX12_taken 67 = .ok (.iload 9, 2) := by decide +kernel
theorem dX12_taken_69 : decode cX12_taken 69 = .ok (.iload_n 2, 1) := by decide +kernel
theorem dX12_taken_70 : decode cX12_taken 70 = .ok (.if_icmp .ge 20, 3) := by decide +kernel
theorem dX12_taken_73 : decode cX12_taken 73 = .ok (.aload_n 0, 1) := by decide +kernel
theorem dX12_taken_74 : decode cX12_taken 74 = .ok (.getfield 67, 3) := by decide +kernel
theorem dX12_taken_77 : decode cX12_taken 77 = .ok (.iload 9, 2) := by decide +kernel
theorem dX12_taken_79 : decode cX12_taken 79 = .ok (.iload 8, 2) := by decide +kernel
theorem dX12_taken_81 : decode cX12_taken 81 = .ok (.aload_n 0, 1) := by decide +kernel
theorem dX12_taken_82 : decode cX12_taken 82 = .ok (.getfield 283, 3) := by decide +kernel
theorem dX12_taken_85 : decode cX12_taken 85 = .ok (.irem, 1) := by decide +kernel
theorem dX12_taken_86 : decode cX12_taken 86 = .ok (.iastore, 1) := by decide +kernel
theorem dX12_taken_87 : decode cX12_taken 87 = .ok (.goto 19, 3) := by decide +kernel
theorem dX12_taken_90 : decode cX12_taken 90 = .ok (.aload_n 0, 1) := by decide +kernel
theorem dX12_taken_91 : decode cX12_taken 91 = .ok (.getfield 70, 3) := by decide +kernel
theorem dX12_taken_94 : decode cX12_taken 94 = .ok (.iload 9, 2) := by decide +kernel
theorem dX12_taken_96 : decode cX12_taken 96 = .ok (.iload_n 2, 1) := by decide +kernel
theorem dX12_taken_97 : decode cX12_taken 97 = .ok (.isub, 1) := by decide +kernel
theorem dX12_taken_98 : decode cX12_taken 98 = .ok (.iload 8, 2) := by decide +kernel
theorem dX12_taken_100 : decode cX12_taken 100 = .ok (.aload_n 0, 1) := by decide +kernel
theorem dX12_taken_101 : decode cX12_taken 101 = .ok (.getfield 283, 3) := by decide +kernel
theorem dX12_taken_104 : decode cX12_taken 104 = .ok (.irem, 1) := by decide +kernel
theorem dX12_taken_105 : decode cX12_taken 105 = .ok (.iastore, 1) := by decide +kernel
theorem dX12_taken_106 : decode cX12_taken 106 = .ok (.iload 8, 2) := by decide +kernel
theorem dX12_taken_108 : decode cX12_taken 108 = .ok (.aload_n 0, 1) := by decide +kernel
theorem dX12_taken_109 : decode cX12_taken 109 = .ok (.getfield 283, 3) := by decide +kernel
theorem dX12_taken_112 : decode cX12_taken 112 = .ok (.idiv, 1) := by decide +kernel
theorem dX12_taken_113 : decode cX12_taken 113 = .ok (.istore 8, 2) := by decide +kernel
theorem dX12_taken_115 : decode cX12_taken 115 = .ok (.iinc 9 1, 3) := by decide +kernel
theorem dX12_taken_118 : decode cX12_taken 118 = .ok (.goto (-59), 3) := by decide +kernel
theorem dX12_taken_121 : decode cX12_taken 121 = .ok (.iload 6, 2) := by decide +kernel
theorem dX12_taken_123 : decode cX12_taken 123 = .ok (.aload_n 0, 1) := by decide +kernel
theorem dX12_taken_124 : decode cX12_taken 124 = .ok (.iload_n 1, 1) := by decide +kernel
theorem dX12_taken_125 : decode cX12_taken 125 = .ok (.iload 4, 2) := by decide +kernel
theorem dX12_taken_127 : decode cX12_taken 127 = .ok (.invokevirtual 475, 3) := by decide +kernel
theorem dX12_taken_130 : decode cX12_taken 130 = .ok (.ifCond .eq 7, 3) := by decide +kernel
theorem dX12_taken_133 : decode cX12_taken 133 = .ok (.iconst 1, 1) := by decide +kernel
theorem dX12_taken_134 : decode cX12_taken 134 = .ok (.goto 4, 3) := by decide +kernel
theorem dX12_taken_137 : decode cX12_taken 137 = .ok (.iconst 0, 1) := by decide +kernel
theorem dX12_taken_138 : decode cX12_taken 138 = .ok (.iadd, 1) := by decide +kernel
theorem dX12_taken_139 : decode cX12_taken 139 = .ok (.istore 6, 2) := by decide +kernel
theorem dX12_taken_141 : decode cX12_taken 141 = .ok (.iinc 7 1, 3) := by decide +kernel
theorem dX12_taken_144 : decode cX12_taken 144 = .ok (.goto (-99), 3) := by decide +kernel
theorem dX12_taken_147 : decode cX12_taken 147 = .ok (.iload 6, 2) := by decide +kernel
theorem dX12_taken_149 : decode cX12_taken 149 = .ok (.ireturn, 1) := by decide +kernel
theorem dX12_counts_0 : decode cX12_counts 0 = .ok (.aload_n 0, 1) := by decide +kernel
theorem dX12_counts_1 : decode cX12_counts 1 = .ok (.iconst 0, 1) := by decide +kernel
theorem dX12_counts_2 : decode cX12_counts 2 = .ok (.putfield 131, 3) := by decide +kernel
theorem dX12_counts_5 : decode cX12_counts 5 = .ok (.aload_n 0, 1) := by decide +kernel
theorem dX12_counts_6 : decode cX12_counts 6 = .ok (.iload_n 1, 1) := by decide +kernel
theorem dX12_counts_7 : decode cX12_counts 7 = .ok (.invokevirtual 291, 3) := by decide +kernel
theorem dX12_counts_10 : decode cX12_counts 10 = .ok (.ifCond .ne 9, 3) := by decide +kernel
theorem dX12_counts_13 : decode cX12_counts 13 = .ok (.aload_n 0, 1) := by decide +kernel
theorem dX12_counts_14 : decode cX12_counts 14 = .ok (.iconst 1, 1) := by decide +kernel
theorem dX12_counts_15 : decode cX12_counts 15 = .ok (.invokevirtual 270, 3) := by decide +kernel
theorem dX12_counts_18 : decode cX12_counts 18 = .ok (.ireturn, 1) := by decide +kernel
theorem dX12_counts_19 : decode cX12_counts 19 = .ok (.iload_n 2, 1) := by decide +kernel
theorem dX12_counts_20 : decode cX12_counts 20 = .ok (.iload_n 3, 1) := by decide +kernel
theorem dX12_counts_21 : decode cX12_counts 21 = .ok (.invokestatic 479, 3) := by decide +kernel
theorem dX12_counts_24 : decode cX12_counts 24 = .ok (.ifCond .eq 18, 3) := by decide +kernel
theorem dX12_counts_27 : decode cX12_counts 27 = .ok (.aload_n 0, 1) := by decide +kernel
theorem dX12_counts_28 : decode cX12_counts 28 = .ok (.aload_n 0, 1) := by decide +kernel
theorem dX12_counts_29 : decode cX12_counts 29 = .ok (.iload_n 1, 1) := by decide +kernel
theorem dX12_counts_30 : decode cX12_counts 30 = .ok (.iload_n 2, 1) := by decide +kernel
theorem dX12_counts_31 : decode cX12_counts 31 = .ok (.iload_n 3, 1) := by decide +kernel
theorem dX12_counts_32 : decode cX12_counts 32 = .ok (.iconst 0, 1) := by decide +kernel
theorem dX12_counts_33 : decode cX12_counts 33 = .ok (.invokevirtual 482, 3) := by decide +kernel
theorem dX12_counts_36 : decode cX12_counts 36 = .ok (.invokevirtual 288, 3) := by decide +kernel
theorem dX12_counts_39 : decode cX12_counts 39 = .ok (.goto 8, 3) := by decide +kernel
theorem dX12_counts_42 : decode cX12_counts 42 = .ok (.aload_n 0, 1) := by decide +kernel
theorem dX12_counts_43 : decode cX12_counts 43 = .ok (.iconst 2, 1) := by decide +kernel
theorem dX12_counts_44 : decode cX12_counts 44 = .ok (.invokevirtual 270, 3) := by decide +kernel
theorem dX12_counts_47 : decode cX12_counts 47 = .ok (.ireturn, 1) := by decide +kernel
theorem dX12_others_0 : decode cX12_others 0 = .ok (.aload_n 0, 1) := by decide +kernel
theorem dX12_others_1 : decode cX12_others 1 = .ok (.iconst 0, 1) := by decide +kernel
theorem dX12_others_2 : decode cX12_others 2 = .ok (.putfield 131, 3) := by decide +kernel
theorem dX12_others_5 : decode cX12_others 5 = .ok (.aload_n 0, 1) := by decide +kernel
theorem dX12_others_6 : decode cX12_others 6 = .ok (.iload_n 1, 1) := by decide +kernel
theorem dX12_others_7 : decode cX12_others 7 = .ok (.invokevirtual 291, 3) := by decide +kernel
theorem dX12_others_10 : decode cX12_others 10 = .ok (.ifCond .ne 9, 3) := by decide +kernel
theorem dX12_others_13 : decode cX12_others 13 = .ok (.aload_n 0, 1) := by decide +kernel
theorem dX12_others_14 : decode cX12_others 14 = .ok (.iconst 1, 1) := by decide +kernel
theorem dX12_others_15 : decode cX12_others 15 = .ok (.invokevirtual 270, 3) := by decide +kernel
theorem dX12_others_18 : decode cX12_others 18 = .ok (.ireturn, 1) := by decide +kernel
theorem dX12_others_19 : decode cX12_others 19 = .ok (.iload_n 2, 1) := by decide +kernel
theorem dX12_others_20 : decode cX12_others 20 = .ok (.iload_n 3, 1) := by decide +kernel
theorem dX12_others_21 : decode cX12_others 21 = .ok (.invokestatic 479, 3) := by decide +kernel
theorem dX12_others_24 : decode cX12_others 24 = .ok (.ifCond .ne 9, 3) := by decide +kernel
theorem dX12_others_27 : decode cX12_others 27 = .ok (.aload_n 0, 1) := by decide +kernel
theorem dX12_others_28 : decode cX12_others 28 = .ok (.iconst 2, 1) := by decide +kernel
theorem dX12_others_29 : decode cX12_others 29 = .ok (.invokevirtual 270, 3) := by decide +kernel
theorem dX12_others_32 : decode cX12_others 32 = .ok (.ireturn, 1) := by decide +kernel
theorem dX12_others_33 : decode cX12_others 33 = .ok (.aload_n 0, 1) := by decide +kernel
theorem dX12_others_34 : decode cX12_others 34 = .ok (.iload_n 1, 1) := by decide +kernel
theorem dX12_others_35 : decode cX12_others 35 = .ok (.invokevirtual 372, 3) := by decide +kernel
theorem dX12_others_38 : decode cX12_others 38 = .ok (.ifCond .eq 18, 3) := by decide +kernel
theorem dX12_others_41 : decode cX12_others 41 = .ok (.aload_n 0, 1) := by decide +kernel
theorem dX12_others_42 : decode cX12_others 42 = .ok (.aload_n 0, 1) := by decide +kernel
theorem dX12_others_43 : decode cX12_others 43 = .ok (.iload_n 1, 1) := by decide +kernel
theorem dX12_others_44 : decode cX12_others 44 = .ok (.iload_n 2, 1) := by decide +kernel
theorem dX12_others_45 : decode cX12_others 45 = .ok (.iload_n 3, 1) := by decide +kernel
theorem dX12_others_46 : decode cX12_others 46 = .ok (.iconst 1, 1) := by decide +kernel
theorem dX12_others_47 : decode cX12_others 47 = .ok (.invokevirtual 482, 3) := by decide +kernel
theorem dX12_others_50 : decode cX12_others 50 = .ok (.invokevirtual 288, 3) := by decide +kernel
theorem dX12_others_53 : decode cX12_others 53 = .ok (.goto 8, 3) := by decide +kernel
theorem dX12_others_56 : decode cX12_others 56 = .ok (.aload_n 0, 1) := by decide +kernel
theorem dX12_others_57 : decode cX12_others 57 = .ok (.iconst 3, 1) := by decide +kernel
theorem dX12_others_58 : decode cX12_others 58 = .ok (.invokevirtual 270, 3) := by decide +kernel
theorem dX12_others_61 : decode cX12_others 61 = .ok (.ireturn, 1) := by decide +kernel
theorem dX12_way_0 : decode cX12_way 0 = .ok (.iconst 0, 1) := by decide +kernel
theorem dX12_way_1 : decode cX12_way 1 = .ok (.istore_n 3, 1) := by decide +kernel
theorem dX12_way_2 : decode cX12_way 2 = .ok (.iload_n 2, 1) := by decide +kernel
theorem dX12_way_3 : decode cX12_way 3 = .ok (.istore 4, 2) := by decide +kernel
theorem dX12_way_5 : decode cX12_way 5 = .ok (.aload_n 0, 1) := by decide +kernel
theorem dX12_way_6 : decode cX12_way 6 = .ok (.getfield 88, 3) := by decide +kernel
theorem dX12_way_9 : decode cX12_way 9 = .ok (.iload 4, 2) := by decide +kernel
theorem dX12_way_11 : decode cX12_way 11 = .ok (.iaload, 1) := by decide +kernel
theorem dX12_way_12 : decode cX12_way 12 = .ok (.iconst (-1), 1) := by decide +kernel
theorem dX12_way_13 : decode cX12_way 13 = .ok (.if_icmp .eq 18, 3) := by decide +kernel
theorem dX12_way_16 : decode cX12_way 16 = .ok (.iinc 3 1, 3) := by decide +kernel
theorem dX12_way_19 : decode cX12_way 19 = .ok (.aload_n 0, 1) := by decide +kernel
theorem dX12_way_20 : decode cX12_way 20 = .ok (.getfield 88, 3) := by decide +kernel
theorem dX12_way_23 : decode cX12_way 23 = .ok (.iload 4, 2) := by decide +kernel
theorem dX12_way_25 : decode cX12_way 25 = .ok (.iaload, 1) := by decide +kernel
theorem dX12_way_26 : decode cX12_way 26 = .ok (.istore 4, 2) := by decide +kernel
theorem dX12_way_28 : decode cX12_way 28 = .ok (.goto (-23), 3) := by decide +kernel
theorem dX12_way_31 : decode cX12_way 31 = .ok (.iload_n 3, 1) := by decide +kernel
theorem dX12_way_32 : decode cX12_way 32 = .ok (.istore 4, 2) := by decide +kernel
theorem dX12_way_34 : decode cX12_way 34 = .ok (.iload_n 2, 1) := by decide +kernel
theorem dX12_way_35 : decode cX12_way 35 = .ok (.istore 5, 2) := by decide +kernel
theorem dX12_way_37 : decode cX12_way 37 = .ok (.aload_n 0, 1) := by decide +kernel
theorem dX12_way_38 : decode cX12_way 38 = .ok (.getfield 88, 3) := by decide +kernel
theorem dX12_way_41 : decode cX12_way 41 = .ok (.iload 5, 2) := by decide +kernel
theorem dX12_way_43 : decode cX12_way 43 = .ok (.iaload, 1) := by decide +kernel
theorem dX12_way_44 : decode cX12_way 44 = .ok (.iconst (-1), 1) := by decide +kernel
theorem dX12_way_45 : decode cX12_way 45 = .ok (.if_icmp .eq 29, 3) := by decide +kernel
theorem dX12_way_48 : decode cX12_way 48 = .ok (.iinc 4 (-1), 3) := by decide +kernel
theorem dX12_way_51 : decode cX12_way 51 = .ok (.aload_n 1, 1) := by decide +kernel
theorem dX12_way_52 : decode cX12_way 52 = .ok (.iload 4, 2) := by decide +kernel
theorem dX12_way_54 : decode cX12_way 54 = .ok (.aload_n 0, 1) := by decide +kernel
theorem dX12_way_55 : decode cX12_way 55 = .ok (.getfield 91, 3) := by decide +kernel
theorem dX12_way_58 : decode cX12_way 58 = .ok (.iload 5, 2) := by decide +kernel
theorem dX12_way_60 : decode cX12_way 60 = .ok (.iaload, 1) := by decide +kernel
theorem dX12_way_61 : decode cX12_way 61 = .ok (.iastore, 1) := by decide +kernel
theorem dX12_way_62 : decode cX12_way 62 = .ok (.aload_n 0, 1) := by decide +kernel
theorem dX12_way_63 : decode cX12_way 63 = .ok (.getfield 88, 3) := by decide +kernel
theorem dX12_way_66 : decode cX12_way 66 = .ok (.iload 5, 2) := by decide +kernel
theorem dX12_way_68 : decode cX12_way 68 = .ok (.iaload, 1) := by decide +kernel
theorem dX12_way_69 : decode cX12_way 69 = .ok (.istore 5, 2) := by decide +kernel
theorem dX12_way_71 : decode cX12_way 71 = .ok (.goto (-34), 3) := by decide +kernel
theorem dX12_way_74 : decode cX12_way 74 = .ok (.iload_n 3, 1) := by decide +kernel
theorem dX12_way_75 : decode cX12_way 75 = .ok (.ireturn, 1) := by decide +kernel
theorem dX12_showsRound_0 : decode cX12_showsRound 0 = .ok (.aload_n 0, 1) := by decide +kernel
theorem dX12_showsRound_1 : decode cX12_showsRound 1 = .ok (.invokevirtual 451, 3) := by decide +kernel
theorem dX12_showsRound_4 : decode cX12_showsRound 4 = .ok (.aload_n 0, 1) := by decide +kernel
theorem dX12_showsRound_5 : decode cX12_showsRound 5 = .ok (.iload_n 1, 1) := by decide +kernel
theorem dX12_showsRound_6 : decode cX12_showsRound 6 = .ok (.iconst (-1), 1) := by decide +kernel
theorem dX12_showsRound_7 : decode cX12_showsRound 7 = .ok (.iconst (-1), 1) := by decide +kernel
theorem dX12_showsRound_8 : decode cX12_showsRound 8 = .ok (.invokevirtual 423, 3) := by decide +kernel
theorem dX12_showsRound_11 : decode cX12_showsRound 11 = .ok (.iconst 0, 1) := by decide +kernel
theorem dX12_showsRound_12 : decode cX12_showsRound 12 = .ok (.istore_n 2, 1) := by decide +kernel
theorem dX12_showsRound_13 : decode cX12_showsRound 13 = .ok (.iload_n 2, 1) := by decide +kernel
theorem dX12_showsRound_14 : decode cX12_showsRound 14 = .ok (.aload_n 0, 1) := by decide +kernel
theorem dX12_showsRound_15 : decode cX12_showsRound 15 = .ok (.getfield 414, 3) := by decide +kernel
theorem dX12_showsRound_18 : decode cX12_showsRound 18 = .ok (.if_icmp .ge 111, 3) := by decide +kernel
theorem dX12_showsRound_21 : decode cX12_showsRound 21 = .ok (.aload_n 0, 1) := by decide +kernel
theorem dX12_showsRound_22 : decode cX12_showsRound 22 = .ok (.getfield 85, 3) := by decide +kernel
theorem dX12_showsRound_25 : decode cX12_showsRound 25 = .ok (.iload_n 2, 1) := by decide +kernel
theorem dX12_showsRound_26 : decode cX12_showsRound 26 = .ok (.iaload, 1) := by decide +kernel
theorem dX12_showsRound_27 : decode cX12_showsRound 27 = .ok (.istore_n 3, 1) := by decide +kernel
theorem dX12_showsRound_28 : decode cX12_showsRound 28 = .ok (.aload_n 0, 1) := by decide +kernel
theorem dX12_showsRound_29 : decode cX12_showsRound 29 = .ok (.iload_n 3, 1) := by decide +kernel
theorem dX12_showsRound_30 : decode cX12_showsRound 30 = .ok (.iconst 0, 1) := by decide +kernel
theorem dX12_showsRound_31 : decode cX12_showsRound 31 = .ok (.invokevirtual 417, 3) := by decide +kernel
theorem dX12_showsRound_34 : decode cX12_showsRound 34 = .ok (.istore 4, 2) := by decide +kernel
theorem dX12_showsRound_36 : decode cX12_showsRound 36 = .ok (.iload 4, 2) := by decide +kernel
theorem dX12_showsRound_38 : decode cX12_showsRound 38 = .ok (.iconst (-1), 1) := by decide +kernel
theorem dX12_showsRound_39 : decode cX12_showsRound 39 = .ok (.if_icmp .eq 84, 3) := by decide +kernel
theorem dX12_showsRound_42 : decode cX12_showsRound 42 = .ok (.aload_n 0, 1) := by decide +kernel
theorem dX12_showsRound_43 : decode cX12_showsRound 43 = .ok (.iload_n 3, 1) := by decide +kernel
theorem dX12_showsRound_44 : decode cX12_showsRound 44 = .ok (.iload 4, 2) := by decide +kernel
theorem dX12_showsRound_46 : decode cX12_showsRound 46 = .ok (.invokevirtual 420, 3) := by decide +kernel
theorem dX12_showsRound_49 : decode cX12_showsRound 49 = .ok (.istore 5, 2) := by decide +kernel
theorem dX12_showsRound_51 : decode cX12_showsRound 51 = .ok (.iload 5, 2) := by decide +kernel
theorem dX12_showsRound_53 : decode cX12_showsRound 53 = .ok (.iload_n 1, 1) := by decide +kernel
theorem dX12_showsRound_54 : decode cX12_showsRound 54 = .ok (.if_icmp .ne 42, 3) := by decide +kernel
theorem dX12_showsRound_57 : decode cX12_showsRound 57 = .ok (.aload_n 0, 1) := by decide +kernel
theorem dX12_showsRound_58 : decode cX12_showsRound 58 = .ok (.aload_n 0, 1) := by decide +kernel
theorem dX12_showsRound_59 : decode cX12_showsRound 59 = .ok (.aload_n 0, 1) := by decide +kernel
theorem dX12_showsRound_60 : decode cX12_showsRound 60 = .ok (.getfield 128, 3) := by decide +kernel
theorem dX12_showsRound_63 : decode cX12_showsRound 63 = .ok (.iload_n 3, 1) := by decide +kernel
theorem dX12_showsRound_64 : decode cX12_showsRound 64 = .ok (.invokevirtual 486, 3) := by decide +kernel
theorem dX12_showsRound_67 : decode cX12_showsRound 67 = .ok (.putfield 489, 3) := by decide +kernel
theorem dX12_showsRound_70 : decode cX12_showsRound 70 = .ok (.aload_n 0, 1) := by decide +kernel
theorem dX12_showsRound_71 : decode cX12_showsRound 71 = .ok (.getfield 128, 3) := by decide +kernel
theorem dX12_showsRound_74 : decode cX12_showsRound 74 = .ok (.aload_n 0, 1) := by decide +kernel
theorem dX12_showsRound_75 : decode cX12_showsRound 75 = .ok (.getfield 489, 3) := by decide +kernel
theorem dX12_showsRound_78 : decode cX12_showsRound 78 = .ok (.iload 4, 2) := by decide +kernel
theorem dX12_showsRound_80 : decode cX12_showsRound 80 = .ok (.sipush 2048, 3) := by decide +kernel
theorem dX12_showsRound_83 : decode cX12_showsRound 83 = .ok (.idiv, 1) := by decide +kernel
theorem dX12_showsRound_84 : decode cX12_showsRound 84 = .ok (.iastore, 1) := by decide +kernel
theorem dX12_showsRound_85 : decode cX12_showsRound 85 = .ok (.aload_n 0, 1) := by decide +kernel
theorem dX12_showsRound_86 : decode cX12_showsRound 86 = .ok (.dup, 1) := by decide +kernel
theorem dX12_showsRound_87 : decode cX12_showsRound 87 = .ok (.getfield 489, 3) := by decide +kernel
theorem dX12_showsRound_90 : decode cX12_showsRound 90 = .ok (.iconst 1, 1) := by decide +kernel
theorem dX12_showsRound_91 : decode cX12_showsRound 91 = .ok (.iadd, 1) := by decide +kernel
theorem dX12_showsRound_92 : decode cX12_showsRound 92 = .ok (.putfield 489, 3) := by decide +kernel
theorem dX12_showsRound_95 : decode cX12_showsRound 95 = .ok (.return_, 1) := by decide +kernel
theorem dX12_showsRound_96 : decode cX12_showsRound 96 = .ok (.aload_n 0, 1) := by decide +kernel
theorem dX12_showsRound_97 : decode cX12_showsRound 97 = .ok (.iload 5, 2) := by decide +kernel
theorem dX12_showsRound_99 : decode cX12_showsRound 99 = .ok (.iload_n 3, 1) := by decide +kernel
theorem dX12_showsRound_100 : decode cX12_showsRound 100 = .ok (.iload 4, 2) := by decide +kernel
theorem dX12_showsRound_102 : decode cX12_showsRound 102 = .ok (.sipush 2048, 3) := by decide +kernel
theorem dX12_showsRound_105 : decode cX12_showsRound 105 = .ok (.idiv, 1) := by decide +kernel
theorem dX12_showsRound_106 : decode cX12_showsRound 106 = .ok (.invokevirtual 423, 3) := by decide +kernel
theorem dX12_showsRound_109 : decode cX12_showsRound 109 = .ok (.aload_n 0, 1) := by decide +kernel
theorem dX12_showsRound_110 : decode cX12_showsRound 110 = .ok (.iload_n 3, 1) := by decide +kernel
theorem dX12_showsRound_111 : decode cX12_showsRound 111 = .ok (.iload 4, 2) := by decide +kernel
theorem dX12_showsRound_113 : decode cX12_showsRound 113 = .ok (.iconst 1, 1) := by decide +kernel
theorem dX12_showsRound_114 : decode cX12_showsRound 114 = .ok (.iadd, 1) := by decide +kernel
theorem dX12_showsRound_115 : decode cX12_showsRound 115 = .ok (.invokevirtual 417, 3) := by decide +kernel
theorem dX12_showsRound_118 : decode cX12_showsRound 118 = .ok (.istore 4, 2) := by decide +kernel
theorem dX12_showsRound_120 : decode cX12_showsRound 120 = .ok (.goto (-84), 3) := by decide +kernel
theorem dX12_showsRound_123 : decode cX12_showsRound 123 = .ok (.iinc 2 1, 3) := by decide +kernel
theorem dX12_showsRound_126 : decode cX12_showsRound 126 = .ok (.goto (-113), 3) := by decide +kernel
theorem dX12_showsRound_129 : decode cX12_showsRound 129 = .ok (.return_, 1) := by decide +kernel
theorem dX12_shows_0 : decode cX12_shows 0 = .ok (.aload_n 0, 1) := by decide +kernel
theorem dX12_shows_1 : decode cX12_shows 1 = .ok (.invokevirtual 463, 3) := by decide +kernel
theorem dX12_shows_4 : decode cX12_shows 4 = .ok (.istore_n 1, 1) := by decide +kernel
theorem dX12_shows_5 : decode cX12_shows 5 = .ok (.aload_n 0, 1) := by decide +kernel
theorem dX12_shows_6 : decode cX12_shows 6 = .ok (.iload_n 1, 1) := by decide +kernel
theorem dX12_shows_7 : decode cX12_shows 7 = .ok (.iconst (-1), 1) := by decide +kernel
theorem dX12_shows_8 : decode cX12_shows 8 = .ok (.if_icmp .eq 7, 3) := by decide +kernel
theorem dX12_shows_11 : decode cX12_shows 11 = .ok (.iconst 1, 1) := by decide +kernel
theorem dX12_shows_12 : decode cX12_shows 12 = .ok (.goto 4, 3) := by decide +kernel
theorem dX12_shows_15 : decode cX12_shows 15 = .ok (.iconst 0, 1) := by decide +kernel
theorem dX12_shows_16 : decode cX12_shows 16 = .ok (.putfield 492, 3) := by decide +kernel
theorem dX12_shows_19 : decode cX12_shows 19 = .ok (.aload_n 0, 1) := by decide +kernel
theorem dX12_shows_20 : decode cX12_shows 20 = .ok (.getfield 492, 3) := by decide +kernel
theorem dX12_shows_23 : decode cX12_shows 23 = .ok (.ifCond .ne 5, 3) := by decide +kernel
theorem dX12_shows_26 : decode cX12_shows 26 = .ok (.iconst 0, 1) := by decide +kernel
theorem dX12_shows_27 : decode cX12_shows 27 = .ok (.ireturn, 1) := by decide +kernel
theorem dX12_shows_28 : decode cX12_shows 28 = .ok (.aload_n 0, 1) := by decide +kernel
theorem dX12_shows_29 : decode cX12_shows 29 = .ok (.aload_n 0, 1) := by decide +kernel
theorem dX12_shows_30 : decode cX12_shows 30 = .ok (.aload_n 0, 1) := by decide +kernel
theorem dX12_shows_31 : decode cX12_shows 31 = .ok (.getfield 125, 3) := by decide +kernel
theorem dX12_shows_34 : decode cX12_shows 34 = .ok (.iload_n 1, 1) := by decide +kernel
theorem dX12_shows_35 : decode cX12_shows 35 = .ok (.invokevirtual 486, 3) := by decide +kernel
theorem dX12_shows_38 : decode cX12_shows 38 = .ok (.putfield 495, 3) := by decide +kernel
theorem dX12_shows_41 : decode cX12_shows 41 = .ok (.aload_n 0, 1) := by decide +kernel
theorem dX12_shows_42 : decode cX12_shows 42 = .ok (.iload_n 1, 1) := by decide +kernel
theorem dX12_shows_43 : decode cX12_shows 43 = .ok (.invokevirtual 498, 3) := by decide +kernel
theorem dX12_shows_46 : decode cX12_shows 46 = .ok (.iconst 1, 1) := by decide +kernel
theorem dX12_shows_47 : decode cX12_shows 47 = .ok (.ireturn, 1) := by decide +kernel
theorem dX12_empty_0 : decode cX12_empty 0 = .ok (.aload_n 0, 1) := by decide +kernel
theorem dX12_empty_1 : decode cX12_empty 1 = .ok (.iconst 0, 1) := by decide +kernel
theorem dX12_empty_2 : decode cX12_empty 2 = .ok (.putfield 131, 3) := by decide +kernel
theorem dX12_empty_5 : decode cX12_empty 5 = .ok (.aload_n 0, 1) := by decide +kernel
theorem dX12_empty_6 : decode cX12_empty 6 = .ok (.iload_n 1, 1) := by decide +kernel
theorem dX12_empty_7 : decode cX12_empty 7 = .ok (.invokevirtual 291, 3) := by decide +kernel
theorem dX12_empty_10 : decode cX12_empty 10 = .ok (.ifCond .ne 9, 3) := by decide +kernel
theorem dX12_empty_13 : decode cX12_empty 13 = .ok (.aload_n 0, 1) := by decide +kernel
theorem dX12_empty_14 : decode cX12_empty 14 = .ok (.iconst 1, 1) := by decide +kernel
theorem dX12_empty_15 : decode cX12_empty 15 = .ok (.invokevirtual 270, 3) := by decide +kernel
theorem dX12_empty_18 : decode cX12_empty 18 = .ok (.ireturn, 1) := by decide +kernel
theorem dX12_empty_19 : decode cX12_empty 19 = .ok (.aload_n 0, 1) := by decide +kernel
theorem dX12_empty_20 : decode cX12_empty 20 = .ok (.iconst 0, 1) := by decide +kernel
theorem dX12_empty_21 : decode cX12_empty 21 = .ok (.putfield 393, 3) := by decide +kernel
theorem dX12_empty_24 : decode cX12_empty 24 = .ok (.aload_n 0, 1) := by decide +kernel
theorem dX12_empty_25 : decode cX12_empty 25 = .ok (.iload_n 1, 1) := by decide +kernel
theorem dX12_empty_26 : decode cX12_empty 26 = .ok (.putfield 396, 3) := by decide +kernel
theorem dX12_empty_29 : decode cX12_empty 29 = .ok (.aload_n 0, 1) := by decide +kernel
theorem dX12_empty_30 : decode cX12_empty 30 = .ok (.invokevirtual 451, 3) := by decide +kernel
theorem dX12_empty_33 : decode cX12_empty 33 = .ok (.iconst 0, 1) := by decide +kernel
theorem dX12_empty_34 : decode cX12_empty 34 = .ok (.istore_n 2, 1) := by decide +kernel
theorem dX12_empty_35 : decode cX12_empty 35 = .ok (.iload_n 2, 1) := by decide +kernel
theorem dX12_empty_36 : decode cX12_empty 36 = .ok (.iconst 4, 1) := by decide +kernel
theorem dX12_empty_37 : decode cX12_empty 37 = .ok (.if_icmp .ge 30, 3) := by decide +kernel
theorem dX12_empty_40 : decode cX12_empty 40 = .ok (.aload_n 0, 1) := by decide +kernel
theorem dX12_empty_41 : decode cX12_empty 41 = .ok (.getfield 20, 3) := by decide +kernel
theorem dX12_empty_44 : decode cX12_empty 44 = .ok (.iload_n 1, 1) := by decide +kernel
theorem dX12_empty_45 : decode cX12_empty 45 = .ok (.iaload, 1) := by decide +kernel
theorem dX12_empty_46 : decode cX12_empty 46 = .ok (.iload_n 2, 1) := by decide +kernel
theorem dX12_empty_47 : decode cX12_empty 47 = .ok (.ishr, 1) := by decide +kernel
theorem dX12_empty_48 : decode cX12_empty 48 = .ok (.iconst 1, 1) := by decide +kernel
theorem dX12_empty_49 : decode cX12_empty 49 = .ok (.iand, 1) := by decide +kernel
theorem dX12_empty_50 : decode cX12_empty 50 = .ok (.iconst 1, 1) := by decide +kernel
theorem dX12_empty_51 : decode cX12_empty 51 = .ok (.if_icmp .ne 10, 3) := by decide +kernel
theorem dX12_empty_54 : decode cX12_empty 54 = .ok (.aload_n 0, 1) := by decide +kernel
theorem dX12_empty_55 : decode cX12_empty 55 = .ok (.iload_n 2, 1) := by decide +kernel
theorem dX12_empty_56 : decode cX12_empty 56 = .ok (.iconst (-1), 1) := by decide +kernel
theorem dX12_empty_57 : decode cX12_empty 57 = .ok (.iconst (-1), 1) := by decide +kernel
theorem dX12_empty_58 : decode cX12_empty 58 = .ok (.invokevirtual 423, 3) := by decide +kernel
theorem dX12_empty_61 : decode cX12_empty 61 = .ok (.iinc 2 1, 3) := by decide +kernel
theorem dX12_empty_64 : decode cX12_empty 64 = .ok (.goto (-29), 3) := by decide +kernel
theorem dX12_empty_67 : decode cX12_empty 67 = .ok (.aload_n 0, 1) := by decide +kernel
theorem dX12_empty_68 : decode cX12_empty 68 = .ok (.invokevirtual 460, 3) := by decide +kernel
theorem dX12_empty_71 : decode cX12_empty 71 = .ok (.aload_n 0, 1) := by decide +kernel
theorem dX12_empty_72 : decode cX12_empty 72 = .ok (.aload_n 0, 1) := by decide +kernel
theorem dX12_empty_73 : decode cX12_empty 73 = .ok (.invokevirtual 501, 3) := by decide +kernel
theorem dX12_empty_76 : decode cX12_empty 76 = .ok (.ifCond .eq 7, 3) := by decide +kernel
theorem dX12_empty_79 : decode cX12_empty 79 = .ok (.iconst 0, 1) := by decide +kernel
theorem dX12_empty_80 : decode cX12_empty 80 = .ok (.goto 4, 3) := by decide +kernel
theorem dX12_empty_83 : decode cX12_empty 83 = .ok (.iconst 1, 1) := by decide +kernel
theorem dX12_empty_84 : decode cX12_empty 84 = .ok (.invokevirtual 288, 3) := by decide +kernel
theorem dX12_empty_87 : decode cX12_empty 87 = .ok (.ireturn, 1) := by decide +kernel
theorem dX12_all_0 : decode cX12_all 0 = .ok (.aload_n 0, 1) := by decide +kernel
theorem dX12_all_1 : decode cX12_all 1 = .ok (.iconst 0, 1) := by decide +kernel
theorem dX12_all_2 : decode cX12_all 2 = .ok (.putfield 131, 3) := by decide +kernel
theorem dX12_all_5 : decode cX12_all 5 = .ok (.aload_n 0, 1) := by decide +kernel
theorem dX12_all_6 : decode cX12_all 6 = .ok (.iload_n 1, 1) := by decide +kernel
theorem dX12_all_7 : decode cX12_all 7 = .ok (.invokevirtual 291, 3) := by decide +kernel
theorem dX12_all_10 : decode cX12_all 10 = .ok (.ifCond .ne 9, 3) := by decide +kernel
theorem dX12_all_13 : decode cX12_all 13 = .ok (.aload_n 0, 1) := by decide +kernel
theorem dX12_all_14 : decode cX12_all 14 = .ok (.iconst 1, 1) := by decide +kernel
theorem dX12_all_15 : decode cX12_all 15 = .ok (.invokevirtual 270, 3) := by decide +kernel
theorem dX12_all_18 : decode cX12_all 18 = .ok (.ireturn, 1) := by decide +kernel
theorem dX12_all_19 : decode cX12_all 19 = .ok (.aload_n 0, 1) := by decide +kernel
theorem dX12_all_20 : decode cX12_all 20 = .ok (.iload_n 1, 1) := by decide +kernel
theorem dX12_all_21 : decode cX12_all 21 = .ok (.invokevirtual 372, 3) := by decide +kernel
theorem dX12_all_24 : decode cX12_all 24 = .ok (.ifCond .ne 9, 3) := by decide +kernel
theorem dX12_all_27 : decode cX12_all 27 = .ok (.aload_n 0, 1) := by decide +kernel
theorem dX12_all_28 : decode cX12_all 28 = .ok (.iconst 3, 1) := by decide +kernel
theorem dX12_all_29 : decode cX12_all 29 = .ok (.invokevirtual 270, 3) := by decide +kernel
theorem dX12_all_32 : decode cX12_all 32 = .ok (.ireturn, 1) := by decide +kernel
theorem dX12_all_33 : decode cX12_all 33 = .ok (.aload_n 0, 1) := by decide +kernel
theorem dX12_all_34 : decode cX12_all 34 = .ok (.iconst 1, 1) := by decide +kernel
theorem dX12_all_35 : decode cX12_all 35 = .ok (.putfield 393, 3) := by decide +kernel
theorem dX12_all_38 : decode cX12_all 38 = .ok (.aload_n 0, 1) := by decide +kernel
theorem dX12_all_39 : decode cX12_all 39 = .ok (.iload_n 1, 1) := by decide +kernel
theorem dX12_all_40 : decode cX12_all 40 = .ok (.putfield 396, 3) := by decide +kernel
theorem dX12_all_43 : decode cX12_all 43 = .ok (.aload_n 0, 1) := by decide +kernel
theorem dX12_all_44 : decode cX12_all 44 = .ok (.invokevirtual 451, 3) := by decide +kernel
theorem dX12_all_47 : decode cX12_all 47 = .ok (.aload_n 0, 1) := by decide +kernel
theorem dX12_all_48 : decode cX12_all 48 = .ok (.iconst 0, 1) := by decide +kernel
theorem dX12_all_49 : decode cX12_all 49 = .ok (.iconst (-1), 1) := by decide +kernel
theorem dX12_all_50 : decode cX12_all 50 = .ok (.iconst (-1), 1) := by decide +kernel
theorem dX12_all_51 : decode cX12_all 51 = .ok (.invokevirtual 423, 3) := by decide +kernel
theorem dX12_all_54 : decode cX12_all 54 = .ok (.aload_n 0, 1) := by decide +kernel
theorem dX12_all_55 : decode cX12_all 55 = .ok (.invokevirtual 460, 3) := by decide +kernel
theorem dX12_all_58 : decode cX12_all 58 = .ok (.aload_n 0, 1) := by decide +kernel
theorem dX12_all_59 : decode cX12_all 59 = .ok (.aload_n 0, 1) := by decide +kernel
theorem dX12_all_60 : decode cX12_all 60 = .ok (.invokevirtual 501, 3) := by decide +kernel
theorem dX12_all_63 : decode cX12_all 63 = .ok (.ifCond .eq 7, 3) := by decide +kernel
theorem dX12_all_66 : decode cX12_all 66 = .ok (.iconst 0, 1) := by decide +kernel
theorem dX12_all_67 : decode cX12_all 67 = .ok (.goto 4, 3) := by decide +kernel
theorem dX12_all_70 : decode cX12_all 70 = .ok (.iconst 1, 1) := by decide +kernel
theorem dX12_all_71 : decode cX12_all 71 = .ok (.invokevirtual 288, 3) := by decide +kernel
theorem dX12_all_74 : decode cX12_all 74 = .ok (.ireturn, 1) := by decide +kernel
theorem dX12_within_0 : decode cX12_within 0 = .ok (.aload_n 0, 1) := by decide +kernel
theorem dX12_within_1 : decode cX12_within 1 = .ok (.iconst 0, 1) := by decide +kernel
theorem dX12_within_2 : decode cX12_within 2 = .ok (.putfield 131, 3) := by decide +kernel
theorem dX12_within_5 : decode cX12_within 5 = .ok (.aload_n 0, 1) := by decide +kernel
theorem dX12_within_6 : decode cX12_within 6 = .ok (.iload_n 1, 1) := by decide +kernel
theorem dX12_within_7 : decode cX12_within 7 = .ok (.invokevirtual 291, 3) := by decide +kernel
theorem dX12_within_10 : decode cX12_within 10 = .ok (.ifCond .eq 11, 3) := by decide +kernel
theorem dX12_within_13 : decode cX12_within 13 = .ok (.aload_n 0, 1) := by decide +kernel
theorem dX12_within_14 : decode cX12_within 14 = .ok (.iload_n 2, 1) := by decide +kernel
theorem dX12_within_15 : decode cX12_within 15 = .ok (.invokevirtual 291, 3) := by decide +kernel
theorem dX12_within_18 : decode cX12_within 18 = .ok (.ifCond .ne 9, 3) := by decide +kernel
theorem dX12_within_21 : decode cX12_within 21 = .ok (.aload_n 0, 1) := by decide +kernel
theorem dX12_within_22 : decode cX12_within 22 = .ok (.iconst 1, 1) := by decide +kernel
theorem dX12_within_23 : decode cX12_within 23 = .ok (.invokevirtual 270, 3) := by decide +kernel
theorem dX12_within_26 : decode cX12_within 26 = .ok (.ireturn, 1) := by decide +kernel
theorem dX12_within_27 : decode cX12_within 27 = .ok (.aload_n 0, 1) := by decide +kernel
theorem dX12_within_28 : decode cX12_within 28 = .ok (.iload_n 2, 1) := by decide +kernel
theorem dX12_within_29 : decode cX12_within 29 = .ok (.invokevirtual 372, 3) := by decide +kernel
theorem dX12_within_32 : decode cX12_within 32 = .ok (.ifCond .ne 9, 3) := by decide +kernel
theorem dX12_within_35 : decode cX12_within 35 = .ok (.aload_n 0, 1) := by decide +kernel
theorem dX12_within_36 : decode cX12_within 36 = .ok (.iconst 3, 1) := by decide +kernel
theorem dX12_within_37 : decode cX12_within 37 = .ok (.invokevirtual 270, 3) := by decide +kernel
theorem dX12_within_40 : decode cX12_within 40 = .ok (.ireturn, 1) := by decide +kernel
theorem dX12_within_41 : decode cX12_within 41 = .ok (.aload_n 0, 1) := by decide +kernel
theorem dX12_within_42 : decode cX12_within 42 = .ok (.iconst 2, 1) := by decide +kernel
theorem dX12_within_43 : decode cX12_within 43 = .ok (.putfield 393, 3) := by decide +kernel
theorem dX12_within_46 : decode cX12_within 46 = .ok (.aload_n 0, 1) := by decide +kernel
theorem dX12_within_47 : decode cX12_within 47 = .ok (.iload_n 1, 1) := by decide +kernel
theorem dX12_within_48 : decode cX12_within 48 = .ok (.putfield 396, 3) := by decide +kernel
theorem dX12_within_51 : decode cX12_within 51 = .ok (.aload_n 0, 1) := by decide +kernel
theorem dX12_within_52 : decode cX12_within 52 = .ok (.iconst 0, 1) := by decide +kernel
theorem dX12_within_53 : decode cX12_within 53 = .ok (.putfield 408, 3) := by decide +kernel
theorem dX12_within_56 : decode cX12_within 56 = .ok (.aload_n 0, 1) := by decide +kernel
theorem dX12_within_57 : decode cX12_within 57 = .ok (.iconst 1, 1) := by decide +kernel
theorem dX12_within_58 : decode cX12_within 58 = .ok (.putfield 411, 3) := by decide +kernel
theorem dX12_within_61 : decode cX12_within 61 = .ok (.iconst 0, 1) := by decide +kernel
theorem dX12_within_62 : decode cX12_within 62 = .ok (.istore_n 3, 1) := by decide +kernel
theorem dX12_within_63 : decode cX12_within 63 = .ok (.iload_n 3, 1) := by decide +kernel
theorem dX12_within_64 : decode cX12_within 64 = .ok (.sipush 2400, 3) := by decide +kernel
theorem dX12_within_67 : decode cX12_within 67 = .ok (.if_icmp .ge 16, 3) := by decide +kernel
theorem dX12_within_70 : decode cX12_within 70 = .ok (.aload_n 0, 1) := by decide +kernel
theorem dX12_within_71 : decode cX12_within 71 = .ok (.getfield 82, 3) := by decide +kernel
theorem dX12_within_74 : decode cX12_within 74 = .ok (.iload_n 3, 1) := by decide +kernel
theorem dX12_within_75 : decode cX12_within 75 = .ok (.iconst (-1), 1) := by decide +kernel
theorem dX12_within_76 : decode cX12_within 76 = .ok (.iastore, 1) := by decide +kernel
theorem dX12_within_77 : decode cX12_within 77 = .ok (.iinc 3 1, 3) := by decide +kernel
theorem dX12_within_80 : decode cX12_within 80 = .ok (.goto (-17), 3) := by decide +kernel
theorem dX12_within_83 : decode cX12_within 83 = .ok (.aload_n 0, 1) := by decide +kernel
theorem dX12_within_84 : decode cX12_within 84 = .ok (.invokevirtual 451, 3) := by decide +kernel
theorem dX12_within_87 : decode cX12_within 87 = .ok (.iconst 0, 1) := by decide +kernel
theorem dX12_within_88 : decode cX12_within 88 = .ok (.istore_n 3, 1) := by decide +kernel
theorem dX12_within_89 : decode cX12_within 89 = .ok (.iload_n 3, 1) := by decide +kernel
theorem dX12_within_90 : decode cX12_within 90 = .ok (.iconst 4, 1) := by decide +kernel
theorem dX12_within_91 : decode cX12_within 91 = .ok (.if_icmp .ge 36, 3) := by decide +kernel
theorem dX12_within_94 : decode cX12_within 94 = .ok (.aload_n 0, 1) := by decide +kernel
theorem dX12_within_95 : decode cX12_within 95 = .ok (.getfield 20, 3) := by decide +kernel
theorem dX12_within_98 : decode cX12_within 98 = .ok (.iload_n 1, 1) := by decide +kernel
theorem dX12_within_99 : decode cX12_within 99 = .ok (.iaload, 1) := by decide +kernel
theorem dX12_within_100 : decode cX12_within 100 = .ok (.iload_n 3, 1) := by decide +kernel
theorem dX12_within_101 : decode cX12_within 101 = .ok (.ishr, 1) := by decide +kernel
theorem dX12_within_102 : decode cX12_within 102 = .ok (.iconst 1, 1) := by decide +kernel
theorem dX12_within_103 : decode cX12_within 103 = .ok (.iand, 1) := by decide +kernel
theorem dX12_within_104 : decode cX12_within 104 = .ok (.iconst 1, 1) := by decide +kernel
theorem dX12_within_105 : decode cX12_within 105 = .ok (.if_icmp .ne 16, 3) := by decide +kernel
theorem dX12_within_108 : decode cX12_within 108 = .ok (.aload_n 0, 1) := by decide +kernel
theorem dX12_within_109 : decode cX12_within 109 = .ok (.aload_n 0, 1) := by decide +kernel
theorem dX12_within_110 : decode cX12_within 110 = .ok (.iload_n 3, 1) := by decide +kernel
theorem dX12_within_111 : decode cX12_within 111 = .ok (.iconst 0, 1) := by decide +kernel
theorem dX12_within_112 : decode cX12_within 112 = .ok (.iconst 0, 1) := by decide +kernel
theorem dX12_within_113 : decode cX12_within 113 = .ok (.invokevirtual 402, 3) := by decide +kernel
theorem dX12_within_116 : decode cX12_within 116 = .ok (.iconst (-1), 1) := by decide +kernel
theorem dX12_within_117 : decode cX12_within 117 = .ok (.iconst (-1), 1) := by decide +kernel
theorem dX12_within_118 : decode cX12_within 118 = .ok (.invokevirtual 423, 3) := by decide +kernel
theorem dX12_within_121 : decode cX12_within 121 = .ok (.iinc 3 1, 3) := by decide +kernel
theorem dX12_within_124 : decode cX12_within 124 = .ok (.goto (-35), 3) := by decide +kernel
theorem dX12_within_127 : decode cX12_within 127 = .ok (.aload_n 0, 1) := by decide +kernel
theorem dX12_within_128 : decode cX12_within 128 = .ok (.invokevirtual 460, 3) := by decide +kernel
theorem dX12_within_131 : decode cX12_within 131 = .ok (.aload_n 0, 1) := by decide +kernel
theorem dX12_within_132 : decode cX12_within 132 = .ok (.getfield 411, 3) := by decide +kernel
theorem dX12_within_135 : decode cX12_within 135 = .ok (.ifCond .ne 9, 3) := by decide +kernel
theorem dX12_within_138 : decode cX12_within 138 = .ok (.aload_n 0, 1) := by decide +kernel
theorem dX12_within_139 : decode cX12_within 139 = .ok (.iconst 3, 1) := by decide +kernel
theorem dX12_within_140 : decode cX12_within 140 = .ok (.invokevirtual 270, 3) := by decide +kernel
theorem dX12_within_143 : decode cX12_within 143 = .ok (.ireturn, 1) := by decide +kernel
theorem dX12_within_144 : decode cX12_within 144 = .ok (.aload_n 0, 1) := by decide +kernel
theorem dX12_within_145 : decode cX12_within 145 = .ok (.aload_n 0, 1) := by decide +kernel
theorem dX12_within_146 : decode cX12_within 146 = .ok (.getfield 408, 3) := by decide +kernel
theorem dX12_within_149 : decode cX12_within 149 = .ok (.putfield 504, 3) := by decide +kernel
theorem dX12_within_152 : decode cX12_within 152 = .ok (.aload_n 0, 1) := by decide +kernel
theorem dX12_within_153 : decode cX12_within 153 = .ok (.aload_n 0, 1) := by decide +kernel
theorem dX12_within_154 : decode cX12_within 154 = .ok (.invokevirtual 501, 3) := by decide +kernel
theorem dX12_within_157 : decode cX12_within 157 = .ok (.ifCond .eq 7, 3) := by decide +kernel
theorem dX12_within_160 : decode cX12_within 160 = .ok (.iconst 0, 1) := by decide +kernel
theorem dX12_within_161 : decode cX12_within 161 = .ok (.goto 4, 3) := by decide +kernel
theorem dX12_within_164 : decode cX12_within 164 = .ok (.iconst 1, 1) := by decide +kernel
theorem dX12_within_165 : decode cX12_within 165 = .ok (.invokevirtual 288, 3) := by decide +kernel
theorem dX12_within_168 : decode cX12_within 168 = .ok (.ireturn, 1) := by decide +kernel
theorem dX12_met_0 : decode cX12_met 0 = .ok (.aload_n 0, 1) := by decide +kernel
theorem dX12_met_1 : decode cX12_met 1 = .ok (.iconst 0, 1) := by decide +kernel
theorem dX12_met_2 : decode cX12_met 2 = .ok (.putfield 131, 3) := by decide +kernel
theorem dX12_met_5 : decode cX12_met 5 = .ok (.aload_n 0, 1) := by decide +kernel
theorem dX12_met_6 : decode cX12_met 6 = .ok (.getfield 504, 3) := by decide +kernel
theorem dX12_met_9 : decode cX12_met 9 = .ok (.ireturn, 1) := by decide +kernel
theorem dX12_shown_0 : decode cX12_shown 0 = .ok (.aload_n 0, 1) := by decide +kernel
theorem dX12_shown_1 : decode cX12_shown 1 = .ok (.iconst 0, 1) := by decide +kernel
theorem dX12_shown_2 : decode cX12_shown 2 = .ok (.putfield 131, 3) := by decide +kernel
theorem dX12_shown_5 : decode cX12_shown 5 = .ok (.iload_n 1, 1) := by decide +kernel
theorem dX12_shown_6 : decode cX12_shown 6 = .ok (.iconst 0, 1) := by decide +kernel
theorem dX12_shown_7 : decode cX12_shown 7 = .ok (.iconst 1, 1) := by decide +kernel
theorem dX12_shown_8 : decode cX12_shown 8 = .ok (.invokestatic 156, 3) := by decide +kernel
theorem dX12_shown_11 : decode cX12_shown 11 = .ok (.ifCond .ne 9, 3) := by decide +kernel
theorem dX12_shown_14 : decode cX12_shown 14 = .ok (.aload_n 0, 1) := by decide +kernel
theorem dX12_shown_15 : decode cX12_shown 15 = .ok (.iconst 1, 1) := by decide +kernel
theorem dX12_shown_16 : decode cX12_shown 16 = .ok (.invokevirtual 270, 3) := by decide +kernel
theorem dX12_shown_19 : decode cX12_shown 19 = .ok (.ireturn, 1) := by decide +kernel
theorem dX12_shown_20 : decode cX12_shown 20 = .ok (.aload_n 0, 1) := by decide +kernel
theorem dX12_shown_21 : decode cX12_shown 21 = .ok (.aload_n 0, 1) := by decide +kernel
theorem dX12_shown_22 : decode cX12_shown 22 = .ok (.getfield 492, 3) := by decide +kernel
theorem dX12_shown_25 : decode cX12_shown 25 = .ok (.ifCond .ne 8, 3) := by decide +kernel
theorem dX12_shown_28 : decode cX12_shown 28 = .ok (.bipush (-2), 2) := by decide +kernel
theorem dX12_shown_30 : decode cX12_shown 30 = .ok (.goto 18, 3) := by decide +kernel
theorem dX12_shown_33 : decode cX12_shown 33 = .ok (.iload_n 1, 1) := by decide +kernel
theorem dX12_shown_34 : decode cX12_shown 34 = .ok (.ifCond .ne 10, 3) := by decide +kernel
theorem dX12_shown_37 : decode cX12_shown 37 = .ok (.aload_n 0, 1) := by decide +kernel
theorem dX12_shown_38 : decode cX12_shown 38 = .ok (.getfield 495, 3) := by decide +kernel
theorem dX12_shown_41 : decode cX12_shown 41 = .ok (.goto 7, 3) := by decide +kernel
theorem dX12_shown_44 : decode cX12_shown 44 = .ok (.aload_n 0, 1) := by decide +kernel
theorem dX12_shown_45 : decode cX12_shown 45 = .ok (.getfield 489, 3) := by decide +kernel
theorem dX12_shown_48 : decode cX12_shown 48 = .ok (.invokevirtual 288, 3) := by decide +kernel
theorem dX12_shown_51 : decode cX12_shown 51 = .ok (.ireturn, 1) := by decide +kernel
theorem dX12_letter_0 : decode cX12_letter 0 = .ok (.aload_n 0, 1) := by decide +kernel
theorem dX12_letter_1 : decode cX12_letter 1 = .ok (.iconst 0, 1) := by decide +kernel
theorem dX12_letter_2 : decode cX12_letter 2 = .ok (.putfield 131, 3) := by decide +kernel
theorem dX12_letter_5 : decode cX12_letter 5 = .ok (.aload_n 0, 1) := by decide +kernel
theorem dX12_letter_6 : decode cX12_letter 6 = .ok (.getfield 492, 3) := by decide +kernel
theorem dX12_letter_9 : decode cX12_letter 9 = .ok (.ifCond .eq 51, 3) := by decide +kernel
theorem dX12_letter_12 : decode cX12_letter 12 = .ok (.iload_n 1, 1) := by decide +kernel
theorem dX12_letter_13 : decode cX12_letter 13 = .ok (.iconst 0, 1) := by decide +kernel
theorem dX12_letter_14 : decode cX12_letter 14 = .ok (.aload_n 0, 1) := by decide +kernel
theorem dX12_letter_15 : decode cX12_letter 15 = .ok (.getfield 495, 3) := by decide +kernel
theorem dX12_letter_18 : decode cX12_letter 18 = .ok (.aload_n 0, 1) := by decide +kernel
theorem dX12_letter_19 : decode cX12_letter 19 = .ok (.getfield 489, 3) := by decide +kernel
theorem dX12_letter_22 : decode cX12_letter 22 = .ok (.iadd, 1) := by decide +kernel
theorem dX12_letter_23 : decode cX12_letter 23 = .ok (.iconst 1, 1) := by decide +kernel
theorem dX12_letter_24 : decode cX12_letter 24 = .ok (.isub, 1) := by decide +kernel
theorem dX12_letter_25 : decode cX12_letter 25 = .ok (.invokestatic 156, 3) := by decide +kernel
theorem dX12_letter_28 : decode cX12_letter 28 = .ok (.ifCond .eq 32, 3) := by decide +kernel
theorem dX12_letter_31 : decode cX12_letter 31 = .ok (.iload_n 1, 1) := by decide +kernel
theorem dX12_letter_32 : decode cX12_letter 32 = .ok (.aload_n 0, 1) := by decide +kernel
theorem dX12_letter_33 : decode cX12_letter 33 = .ok (.getfield 495, 3) := by decide +kernel
theorem dX12_letter_36 : decode cX12_letter 36 = .ok (.if_icmp .ge 12, 3) := by decide +kernel
theorem dX12_letter_39 : decode cX12_letter 39 = .ok (.aload_n 0, 1) := by decide +kernel
theorem dX12_letter_40 : decode cX12_letter 40 = .ok (.getfield 125, 3) := by decide +kernel
theorem dX12_letter_43 : decode cX12_letter 43 = .ok (.iload_n 1, 1) := by decide +kernel
theorem dX12_letter_44 : decode cX12_letter 44 = .ok (.iaload, 1) := by decide +kernel
theorem dX12_letter_45 : decode cX12_letter 45 = .ok (.goto 14, 3) := by decide +kernel
theorem dX12_letter_48 : decode cX12_letter 48 = .ok (.aload_n 0, 1) := by decide +kernel
theorem dX12_letter_49 : decode cX12_letter 49 = .ok (.getfield 128, 3) := by decide +kernel
theorem dX12_letter_52 : decode cX12_letter 52 = .ok (.iload_n 1, 1) := by decide +kernel
theorem dX12_letter_53 : decode cX12_letter 53 = .ok (.aload_n 0, 1) := by decide +kernel
theorem dX12_letter_54 : decode cX12_letter 54 = .ok (.getfield 495, 3) := by decide +kernel
theorem dX12_letter_57 : decode cX12_letter 57 = .ok (.isub, 1) := by decide +kernel
theorem dX12_letter_58 : decode cX12_letter 58 = .ok (.iaload, 1) := by decide +kernel
theorem dX12_letter_59 : decode cX12_letter 59 = .ok (.ireturn, 1) := by decide +kernel
theorem dX12_letter_60 : decode cX12_letter 60 = .ok (.aload_n 0, 1) := by decide +kernel
theorem dX12_letter_61 : decode cX12_letter 61 = .ok (.iconst 1, 1) := by decide +kernel
theorem dX12_letter_62 : decode cX12_letter 62 = .ok (.putfield 131, 3) := by decide +kernel
theorem dX12_letter_65 : decode cX12_letter 65 = .ok (.iconst 0, 1) := by decide +kernel
theorem dX12_letter_66 : decode cX12_letter 66 = .ok (.ireturn, 1) := by decide +kernel
theorem dX12_link_0 : decode cX12_link 0 = .ok (.aload_n 0, 1) := by decide +kernel
theorem dX12_link_1 : decode cX12_link 1 = .ok (.iconst 0, 1) := by decide +kernel
theorem dX12_link_2 : decode cX12_link 2 = .ok (.putfield 131, 3) := by decide +kernel
theorem dX12_link_5 : decode cX12_link 5 = .ok (.aload_n 0, 1) := by decide +kernel
theorem dX12_link_6 : decode cX12_link 6 = .ok (.iload_n 1, 1) := by decide +kernel
theorem dX12_link_7 : decode cX12_link 7 = .ok (.iload_n 2, 1) := by decide +kernel
theorem dX12_link_8 : decode cX12_link 8 = .ok (.invokevirtual 302, 3) := by decide +kernel
theorem dX12_link_11 : decode cX12_link 11 = .ok (.ifCond .eq 21, 3) := by decide +kernel
theorem dX12_link_14 : decode cX12_link 14 = .ok (.aload_n 0, 1) := by decide +kernel
theorem dX12_link_15 : decode cX12_link 15 = .ok (.iload_n 3, 1) := by decide +kernel
theorem dX12_link_16 : decode cX12_link 16 = .ok (.invokevirtual 306, 3) := by decide +kernel
theorem dX12_link_19 : decode cX12_link 19 = .ok (.ifCond .eq 13, 3) := by decide +kernel
theorem dX12_link_22 : decode cX12_link 22 = .ok (.aload_n 0, 1) := by decide +kernel
theorem dX12_link_23 : decode cX12_link 23 = .ok (.iload_n 1, 1) := by decide +kernel
theorem dX12_link_24 : decode cX12_link 24 = .ok (.iload 4, 2) := by decide +kernel
theorem dX12_link_26 : decode cX12_link 26 = .ok (.invokevirtual 302, 3) := by decide +kernel
theorem dX12_link_29 : decode cX12_link 29 = .ok (.ifCond .ne 9, 3) := by decide +kernel
theorem dX12_link_32 : decode cX12_link 32 = .ok (.aload_n 0, 1) := by decide +kernel
theorem dX12_link_33 : decode cX12_link 33 = .ok (.iconst 1, 1) := by decide +kernel
theorem dX12_link_34 : decode cX12_link 34 = .ok (.invokevirtual 270, 3) := by decide +kernel
theorem dX12_link_37 : decode cX12_link 37 = .ok (.ireturn, 1) := by decide +kernel
theorem dX12_link_38 : decode cX12_link 38 = .ok (.bipush 16, 2) := by decide +kernel
theorem dX12_link_40 : decode cX12_link 40 = .ok (.iload_n 1, 1) := by decide +kernel
theorem dX12_link_41 : decode cX12_link 41 = .ok (.imul, 1) := by decide +kernel
theorem dX12_link_42 : decode cX12_link 42 = .ok (.iconst 4, 1) := by decide +kernel
theorem dX12_link_43 : decode cX12_link 43 = .ok (.iload_n 3, 1) := by decide +kernel
theorem dX12_link_44 : decode cX12_link 44 = .ok (.imul, 1) := by decide +kernel
theorem dX12_link_45 : decode cX12_link 45 = .ok (.iadd, 1) := by decide +kernel
theorem dX12_link_46 : decode cX12_link 46 = .ok (.iload_n 2, 1) := by decide +kernel
theorem dX12_link_47 : decode cX12_link 47 = .ok (.iadd, 1) := by decide +kernel
theorem dX12_link_48 : decode cX12_link 48 = .ok (.istore 6, 2) := by decide +kernel
theorem dX12_link_50 : decode cX12_link 50 = .ok (.aload_n 0, 1) := by decide +kernel
theorem dX12_link_51 : decode cX12_link 51 = .ok (.getfield 26, 3) := by decide +kernel
theorem dX12_link_54 : decode cX12_link 54 = .ok (.iload 6, 2) := by decide +kernel
theorem dX12_link_56 : decode cX12_link 56 = .ok (.iaload, 1) := by decide +kernel
theorem dX12_link_57 : decode cX12_link 57 = .ok (.iload 4, 2) := by decide +kernel
theorem dX12_link_59 : decode cX12_link 59 = .ok (.ishr, 1) := by decide +kernel
theorem dX12_link_60 : decode cX12_link 60 = .ok (.iconst 1, 1) := by decide +kernel
theorem dX12_link_61 : decode cX12_link 61 = .ok (.iand, 1) := by decide +kernel
theorem dX12_link_62 : decode cX12_link 62 = .ok (.iconst 1, 1) := by decide +kernel
theorem dX12_link_63 : decode cX12_link 63 = .ok (.if_icmp .ne 7, 3) := by decide +kernel
theorem dX12_link_66 : decode cX12_link 66 = .ok (.iconst 1, 1) := by decide +kernel
theorem dX12_link_67 : decode cX12_link 67 = .ok (.goto 4, 3) := by decide +kernel
theorem dX12_link_70 : decode cX12_link 70 = .ok (.iconst 0, 1) := by decide +kernel
theorem dX12_link_71 : decode cX12_link 71 = .ok (.iload 5, 2) := by decide +kernel
theorem dX12_link_73 : decode cX12_link 73 = .ok (.if_icmp .ne 9, 3) := by decide +kernel
theorem dX12_link_76 : decode cX12_link 76 = .ok (.aload_n 0, 1) := by decide +kernel
theorem dX12_link_77 : decode cX12_link 77 = .ok (.iconst 5, 1) := by decide +kernel
theorem dX12_link_78 : decode cX12_link 78 = .ok (.invokevirtual 270, 3) := by decide +kernel
theorem dX12_link_81 : decode cX12_link 81 = .ok (.ireturn, 1) := by decide +kernel
theorem dX12_link_82 : decode cX12_link 82 = .ok (.aload_n 0, 1) := by decide +kernel
theorem dX12_link_83 : decode cX12_link 83 = .ok (.getfield 26, 3) := by decide +kernel
theorem dX12_link_86 : decode cX12_link 86 = .ok (.iload 6, 2) := by decide +kernel
theorem dX12_link_88 : decode cX12_link 88 = .ok (.dup2, 1) := by decide +kernel
theorem dX12_link_89 : decode cX12_link 89 = .ok (.iaload, 1) := by decide +kernel
theorem dX12_link_90 : decode cX12_link 90 = .ok (.iconst 1, 1) := by decide +kernel
theorem dX12_link_91 : decode cX12_link 91 = .ok (.iload 4, 2) := by decide +kernel
theorem dX12_link_93 : decode cX12_link 93 = .ok (.ishl, 1) := by decide +kernel
theorem dX12_link_94 : decode cX12_link 94 = .ok (.ixor, 1) := by decide +kernel
theorem dX12_link_95 : decode cX12_link 95 = .ok (.iastore, 1) := by decide +kernel
theorem dX12_link_96 : decode cX12_link 96 = .ok (.aload_n 0, 1) := by decide +kernel
theorem dX12_link_97 : decode cX12_link 97 = .ok (.iconst (-1), 1) := by decide +kernel
theorem dX12_link_98 : decode cX12_link 98 = .ok (.putfield 61, 3) := by decide +kernel
theorem dX12_link_101 : decode cX12_link 101 = .ok (.aload_n 0, 1) := by decide +kernel
theorem dX12_link_102 : decode cX12_link 102 = .ok (.aload_n 0, 1) := by decide +kernel
theorem dX12_link_103 : decode cX12_link 103 = .ok (.iload_n 1, 1) := by decide +kernel
theorem dX12_link_104 : decode cX12_link 104 = .ok (.invokevirtual 294, 3) := by decide +kernel
theorem dX12_link_107 : decode cX12_link 107 = .ok (.invokevirtual 288, 3) := by decide +kernel
theorem dX12_link_110 : decode cX12_link 110 = .ok (.ireturn, 1) := by decide +kernel
theorem dX12_mark_0 : decode cX12_mark 0 = .ok (.aload_n 0, 1) := by decide +kernel
theorem dX12_mark_1 : decode cX12_mark 1 = .ok (.iconst 0, 1) := by decide +kernel
theorem dX12_mark_2 : decode cX12_mark 2 = .ok (.putfield 131, 3) := by decide +kernel
theorem dX12_mark_5 : decode cX12_mark 5 = .ok (.aload_n 0, 1) := by decide +kernel
theorem dX12_mark_6 : decode cX12_mark 6 = .ok (.iload_n 1, 1) := by decide +kernel
theorem dX12_mark_7 : decode cX12_mark 7 = .ok (.iload_n 2, 1) := by decide +kernel
theorem dX12_mark_8 : decode cX12_mark 8 = .ok (.invokevirtual 302, 3) := by decide +kernel
theorem dX12_mark_11 : decode cX12_mark 11 = .ok (.ifCond .ne 9, 3) := by decide +kernel
theorem dX12_mark_14 : decode cX12_mark 14 = .ok (.aload_n 0, 1) := by decide +kernel
theorem dX12_mark_15 : decode cX12_mark 15 = .ok (.iconst 1, 1) := by decide +kernel
theorem dX12_mark_16 : decode cX12_mark 16 = .ok (.invokevirtual 270, 3) := by decide +kernel
theorem dX12_mark_19 : decode cX12_mark 19 = .ok (.ireturn, 1) := by decide +kernel
theorem dX12_mark_20 : decode cX12_mark 20 = .ok (.aload_n 0, 1) := by decide +kernel
theorem dX12_mark_21 : decode cX12_mark 21 = .ok (.getfield 23, 3) := by decide +kernel
theorem dX12_mark_24 : decode cX12_mark 24 = .ok (.iload_n 1, 1) := by decide +kernel
theorem dX12_mark_25 : decode cX12_mark 25 = .ok (.iaload, 1) := by decide +kernel
theorem dX12_mark_26 : decode cX12_mark 26 = .ok (.iload_n 2, 1) := by decide +kernel
theorem dX12_mark_27 : decode cX12_mark 27 = .ok (.ishr, 1) := by decide +kernel
theorem dX12_mark_28 : decode cX12_mark 28 = .ok (.iconst 1, 1) := by decide +kernel
theorem dX12_mark_29 : decode cX12_mark 29 = .ok (.iand, 1) := by decide +kernel
theorem dX12_mark_30 : decode cX12_mark 30 = .ok (.iconst 1, 1) := by decide +kernel
theorem dX12_mark_31 : decode cX12_mark 31 = .ok (.if_icmp .ne 7, 3) := by decide +kernel
theorem dX12_mark_34 : decode cX12_mark 34 = .ok (.iconst 1, 1) := by decide +kernel
theorem dX12_mark_35 : decode cX12_mark 35 = .ok (.goto 4, 3) := by decide +kernel
theorem dX12_mark_38 : decode cX12_mark 38 = .ok (.iconst 0, 1) := by decide +kernel
theorem dX12_mark_39 : decode cX12_mark 39 = .ok (.iload_n 3, 1) := by decide +kernel
theorem dX12_mark_40 : decode cX12_mark 40 = .ok (.if_icmp .ne 9, 3) := by decide +kernel
theorem dX12_mark_43 : decode cX12_mark 43 = .ok (.aload_n 0, 1) := by decide +kernel
theorem dX12_mark_44 : decode cX12_mark 44 = .ok (.iconst 5, 1) := by decide +kernel
theorem dX12_mark_45 : decode cX12_mark 45 = .ok (.invokevirtual 270, 3) := by decide +kernel
theorem dX12_mark_48 : decode cX12_mark 48 = .ok (.ireturn, 1) := by decide +kernel
theorem dX12_mark_49 : decode cX12_mark 49 = .ok (.aload_n 0, 1) := by decide +kernel
theorem dX12_mark_50 : decode cX12_mark 50 = .ok (.getfield 23, 3) := by decide +kernel
theorem dX12_mark_53 : decode cX12_mark 53 = .ok (.iload_n 1, 1) := by decide +kernel
theorem dX12_mark_54 : decode cX12_mark 54 = .ok (.dup2, 1) := by decide +kernel
theorem dX12_mark_55 : decode cX12_mark 55 = .ok (.iaload, 1) := by decide +kernel
theorem dX12_mark_56 : decode cX12_mark 56 = .ok (.iconst 1, 1) := by decide +kernel
theorem dX12_mark_57 : decode cX12_mark 57 = .ok (.iload_n 2, 1) := by decide +kernel
theorem dX12_mark_58 : decode cX12_mark 58 = .ok (.ishl, 1) := by decide +kernel
theorem dX12_mark_59 : decode cX12_mark 59 = .ok (.ixor, 1) := by decide +kernel
theorem dX12_mark_60 : decode cX12_mark 60 = .ok (.iastore, 1) := by decide +kernel
theorem dX12_mark_61 : decode cX12_mark 61 = .ok (.aload_n 0, 1) := by decide +kernel
theorem dX12_mark_62 : decode cX12_mark 62 = .ok (.iconst (-1), 1) := by decide +kernel
theorem dX12_mark_63 : decode cX12_mark 63 = .ok (.putfield 61, 3) := by decide +kernel
theorem dX12_mark_66 : decode cX12_mark 66 = .ok (.aload_n 0, 1) := by decide +kernel
theorem dX12_mark_67 : decode cX12_mark 67 = .ok (.aload_n 0, 1) := by decide +kernel
theorem dX12_mark_68 : decode cX12_mark 68 = .ok (.getfield 23, 3) := by decide +kernel
theorem dX12_mark_71 : decode cX12_mark 71 = .ok (.iload_n 1, 1) := by decide +kernel
theorem dX12_mark_72 : decode cX12_mark 72 = .ok (.iaload, 1) := by decide +kernel
theorem dX12_mark_73 : decode cX12_mark 73 = .ok (.invokevirtual 288, 3) := by decide +kernel
theorem dX12_mark_76 : decode cX12_mark 76 = .ok (.ireturn, 1) := by decide +kernel
theorem dX12_begin_0 : decode cX12_begin 0 = .ok (.aload_n 0, 1) := by decide +kernel
theorem dX12_begin_1 : decode cX12_begin 1 = .ok (.iconst 0, 1) := by decide +kernel
theorem dX12_begin_2 : decode cX12_begin 2 = .ok (.putfield 131, 3) := by decide +kernel
theorem dX12_begin_5 : decode cX12_begin 5 = .ok (.aload_n 0, 1) := by decide +kernel
theorem dX12_begin_6 : decode cX12_begin 6 = .ok (.iload_n 1, 1) := by decide +kernel
theorem dX12_begin_7 : decode cX12_begin 7 = .ok (.iload_n 2, 1) := by decide +kernel
theorem dX12_begin_8 : decode cX12_begin 8 = .ok (.invokevirtual 302, 3) := by decide +kernel
theorem dX12_begin_11 : decode cX12_begin 11 = .ok (.ifCond .ne 9, 3) := by decide +kernel
theorem dX12_begin_14 : decode cX12_begin 14 = .ok (.aload_n 0, 1) := by decide +kernel
theorem dX12_begin_15 : decode cX12_begin 15 = .ok (.iconst 1, 1) := by decide +kernel
theorem dX12_begin_16 : decode cX12_begin 16 = .ok (.invokevirtual 270, 3) := by decide +kernel
theorem dX12_begin_19 : decode cX12_begin 19 = .ok (.ireturn, 1) := by decide +kernel
theorem dX12_begin_20 : decode cX12_begin 20 = .ok (.aload_n 0, 1) := by decide +kernel
theorem dX12_begin_21 : decode cX12_begin 21 = .ok (.getfield 20, 3) := by decide +kernel
theorem dX12_begin_24 : decode cX12_begin 24 = .ok (.iload_n 1, 1) := by decide +kernel
theorem dX12_begin_25 : decode cX12_begin 25 = .ok (.iaload, 1) := by decide +kernel
theorem dX12_begin_26 : decode cX12_begin 26 = .ok (.iload_n 2, 1) := by decide +kernel
theorem dX12_begin_27 : decode cX12_begin 27 = .ok (.ishr, 1) := by decide +kernel
theorem dX12_begin_28 : decode cX12_begin 28 = .ok (.iconst 1, 1) := by decide +kernel
theorem dX12_begin_29 : decode cX12_begin 29 = .ok (.iand, 1) := by decide +kernel
theorem dX12_begin_30 : decode cX12_begin 30 = .ok (.iconst 1, 1) := by decide +kernel
theorem dX12_begin_31 : decode cX12_begin 31 = .ok (.if_icmp .ne 7, 3) := by decide +kernel
theorem dX12_begin_34 : decode cX12_begin 34 = .ok (.iconst 1, 1) := by decide +kernel
theorem dX12_begin_35 : decode cX12_begin 35 = .ok (.goto 4, 3) := by decide +kernel
theorem dX12_begin_38 : decode cX12_begin 38 = .ok (.iconst 0, 1) := by decide +kernel
theorem dX12_begin_39 : decode cX12_begin 39 = .ok (.iload_n 3, 1) := by decide +kernel
theorem dX12_begin_40 : decode cX12_begin 40 = .ok (.if_icmp .ne 9, 3) := by decide +kernel
theorem dX12_begin_43 : decode cX12_begin 43 = .ok (.aload_n 0, 1) := by decide +kernel
theorem dX12_begin_44 : decode cX12_begin 44 = .ok (.iconst 5, 1) := by decide +kernel
theorem dX12_begin_45 : decode cX12_begin 45 = .ok (.invokevirtual 270, 3) := by decide +kernel
theorem dX12_begin_48 : decode cX12_begin 48 = .ok (.ireturn, 1) := by decide +kernel
theorem dX12_begin_49 : decode cX12_begin 49 = .ok (.aload_n 0, 1) := by decide +kernel
theorem dX12_begin_50 : decode cX12_begin 50 = .ok (.getfield 20, 3) := by decide +kernel
theorem dX12_begin_53 : decode cX12_begin 53 = .ok (.iload_n 1, 1) := by decide +kernel
theorem dX12_begin_54 : decode cX12_begin 54 = .ok (.dup2, 1) := by decide +kernel
theorem dX12_begin_55 : decode cX12_begin 55 = .ok (.iaload, 1) := by decide +kernel
theorem dX12_begin_56 : decode cX12_begin 56 = .ok (.iconst 1, 1) := by decide +kernel
theorem dX12_begin_57 : decode cX12_begin 57 = .ok (.iload_n 2, 1) := by decide +kernel
theorem dX12_begin_58 : decode cX12_begin 58 = .ok (.ishl, 1) := by decide +kernel
theorem dX12_begin_59 : decode cX12_begin 59 = .ok (.ixor, 1) := by decide +kernel
theorem dX12_begin_60 : decode cX12_begin 60 = .ok (.iastore, 1) := by decide +kernel
theorem dX12_begin_61 : decode cX12_begin 61 = .ok (.aload_n 0, 1) := by decide +kernel
theorem dX12_begin_62 : decode cX12_begin 62 = .ok (.iconst (-1), 1) := by decide +kernel
theorem dX12_begin_63 : decode cX12_begin 63 = .ok (.putfield 61, 3) := by decide +kernel
theorem dX12_begin_66 : decode cX12_begin 66 = .ok (.aload_n 0, 1) := by decide +kernel
theorem dX12_begin_67 : decode cX12_begin 67 = .ok (.aload_n 0, 1) := by decide +kernel
theorem dX12_begin_68 : decode cX12_begin 68 = .ok (.getfield 20, 3) := by decide +kernel
theorem dX12_begin_71 : decode cX12_begin 71 = .ok (.iload_n 1, 1) := by decide +kernel
theorem dX12_begin_72 : decode cX12_begin 72 = .ok (.iaload, 1) := by decide +kernel
theorem dX12_begin_73 : decode cX12_begin 73 = .ok (.invokevirtual 288, 3) := by decide +kernel
theorem dX12_begin_76 : decode cX12_begin 76 = .ok (.ireturn, 1) := by decide +kernel
theorem dX12_size_0 : decode cX12_size 0 = .ok (.aload_n 0, 1) := by decide +kernel
theorem dX12_size_1 : decode cX12_size 1 = .ok (.iconst 0, 1) := by decide +kernel
theorem dX12_size_2 : decode cX12_size 2 = .ok (.putfield 131, 3) := by decide +kernel
theorem dX12_size_5 : decode cX12_size 5 = .ok (.aload_n 0, 1) := by decide +kernel
theorem dX12_size_6 : decode cX12_size 6 = .ok (.getfield 137, 3) := by decide +kernel
theorem dX12_size_9 : decode cX12_size 9 = .ok (.ireturn, 1) := by decide +kernel
theorem dX12_trouble_0 : decode cX12_trouble 0 = .ok (.aload_n 0, 1) := by decide +kernel
theorem dX12_trouble_1 : decode cX12_trouble 1 = .ok (.iconst 0, 1) := by decide +kernel
theorem dX12_trouble_2 : decode cX12_trouble 2 = .ok (.putfield 131, 3) := by decide +kernel
theorem dX12_trouble_5 : decode cX12_trouble 5 = .ok (.aload_n 0, 1) := by decide +kernel
theorem dX12_trouble_6 : decode cX12_trouble 6 = .ok (.getfield 134, 3) := by decide +kernel
theorem dX12_trouble_9 : decode cX12_trouble 9 = .ok (.ireturn, 1) := by decide +kernel
