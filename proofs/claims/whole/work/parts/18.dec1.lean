theorem dX1_init_0 : decode cX1_init 0 = .ok (.aload_n 0, 1) := by decide +kernel
theorem dX1_init_1 : decode cX1_init 1 = .ok (.invokespecial 3, 3) := by decide +kernel
theorem dX1_init_4 : decode cX1_init 4 = .ok (.aload_n 0, 1) := by decide +kernel
theorem dX1_init_5 : decode cX1_init 5 = .ok (.new 9, 3) := by decide +kernel
theorem dX1_init_8 : decode cX1_init 8 = .ok (.dup, 1) := by decide +kernel
theorem dX1_init_9 : decode cX1_init 9 = .ok (.iconst 0, 1) := by decide +kernel
theorem dX1_init_10 : decode cX1_init 10 = .ok (.invokespecial 11, 3) := by decide +kernel
theorem dX1_init_13 : decode cX1_init 13 = .ok (.putfield 14, 3) := by decide +kernel
theorem dX1_init_16 : decode cX1_init 16 = .ok (.aload_n 0, 1) := by decide +kernel
theorem dX1_init_17 : decode cX1_init 17 = .ok (.new 9, 3) := by decide +kernel
theorem dX1_init_20 : decode cX1_init 20 = .ok (.dup, 1) := by decide +kernel
theorem dX1_init_21 : decode cX1_init 21 = .ok (.iconst 0, 1) := by decide +kernel
theorem dX1_init_22 : decode cX1_init 22 = .ok (.invokespecial 11, 3) := by decide +kernel
theorem dX1_init_25 : decode cX1_init 25 = .ok (.putfield 20, 3) := by decide +kernel
theorem dX1_init_28 : decode cX1_init 28 = .ok (.aload_n 0, 1) := by decide +kernel
theorem dX1_init_29 : decode cX1_init 29 = .ok (.new 9, 3) := by decide +kernel
theorem dX1_init_32 : decode cX1_init 32 = .ok (.dup, 1) := by decide +kernel
theorem dX1_init_33 : decode cX1_init 33 = .ok (.iconst 0, 1) := by decide +kernel
theorem dX1_init_34 : decode cX1_init 34 = .ok (.invokespecial 11, 3) := by decide +kernel
theorem dX1_init_37 : decode cX1_init 37 = .ok (.putfield 23, 3) := by decide +kernel
theorem dX1_init_40 : decode cX1_init 40 = .ok (.aload_n 0, 1) := by decide +kernel
theorem dX1_init_41 : decode cX1_init 41 = .ok (.aload_n 1, 1) := by decide +kernel
theorem dX1_init_42 : decode cX1_init 42 = .ok (.putfield 26, 3) := by decide +kernel
theorem dX1_init_45 : decode cX1_init 45 = .ok (.aload_n 0, 1) := by decide +kernel
theorem dX1_init_46 : decode cX1_init 46 = .ok (.aload_n 2, 1) := by decide +kernel
theorem dX1_init_47 : decode cX1_init 47 = .ok (.putfield 30, 3) := by decide +kernel
theorem dX1_init_50 : decode cX1_init 50 = .ok (.aload_n 0, 1) := by decide +kernel
theorem dX1_init_51 : decode cX1_init 51 = .ok (.aload_n 3, 1) := by decide +kernel
theorem dX1_init_52 : decode cX1_init 52 = .ok (.putfield 34, 3) := by decide +kernel
theorem dX1_init_55 : decode cX1_init 55 = .ok (.return_, 1) := by decide +kernel
theorem dX1_forget_0 : decode cX1_forget 0 = .ok (.aload_n 0, 1) := by decide +kernel
theorem dX1_forget_1 : decode cX1_forget 1 = .ok (.iconst 0, 1) := by decide +kernel
theorem dX1_forget_2 : decode cX1_forget 2 = .ok (.putfield 37, 3) := by decide +kernel
theorem dX1_forget_5 : decode cX1_forget 5 = .ok (.return_, 1) := by decide +kernel
theorem dX1_stands_0 : decode cX1_stands 0 = .ok (.aload_n 0, 1) := by decide +kernel
theorem dX1_stands_1 : decode cX1_stands 1 = .ok (.getfield 37, 3) := by decide +kernel
theorem dX1_stands_4 : decode cX1_stands 4 = .ok (.ifCond .ne 12, 3) := by decide +kernel
theorem dX1_stands_7 : decode cX1_stands 7 = .ok (.aload_n 0, 1) := by decide +kernel
theorem dX1_stands_8 : decode cX1_stands 8 = .ok (.iconst 1, 1) := by decide +kernel
theorem dX1_stands_9 : decode cX1_stands 9 = .ok (.putfield 37, 3) := by decide +kernel
theorem dX1_stands_12 : decode cX1_stands 12 = .ok (.aload_n 0, 1) := by decide +kernel
theorem dX1_stands_13 : decode cX1_stands 13 = .ok (.invokevirtual 41, 3) := by decide +kernel
theorem dX1_stands_16 : decode cX1_stands 16 = .ok (.aload_n 0, 1) := by decide +kernel
theorem dX1_stands_17 : decode cX1_stands 17 = .ok (.getfield 37, 3) := by decide +kernel
theorem dX1_stands_20 : decode cX1_stands 20 = .ok (.iconst 1, 1) := by decide +kernel
theorem dX1_stands_21 : decode cX1_stands 21 = .ok (.if_icmp .ne 7, 3) := by decide +kernel
theorem dX1_stands_24 : decode cX1_stands 24 = .ok (.iconst 1, 1) := by decide +kernel
theorem dX1_stands_25 : decode cX1_stands 25 = .ok (.goto 4, 3) := by decide +kernel
theorem dX1_stands_28 : decode cX1_stands 28 = .ok (.iconst 0, 1) := by decide +kernel
theorem dX1_stands_29 : decode cX1_stands 29 = .ok (.ireturn, 1) := by decide +kernel
theorem dX1_meetAll_0 : decode cX1_meetAll 0 = .ok (.aload_n 0, 1) := by decide +kernel
theorem dX1_meetAll_1 : decode cX1_meetAll 1 = .ok (.getfield 34, 3) := by decide +kernel
theorem dX1_meetAll_4 : decode cX1_meetAll 4 = .ok (.sipush 1024, 3) := by decide +kernel
theorem dX1_meetAll_7 : decode cX1_meetAll 7 = .ok (.invokevirtual 44, 3) := by decide +kernel
theorem dX1_meetAll_10 : decode cX1_meetAll 10 = .ok (.aload_n 0, 1) := by decide +kernel
theorem dX1_meetAll_11 : decode cX1_meetAll 11 = .ok (.getfield 14, 3) := by decide +kernel
theorem dX1_meetAll_14 : decode cX1_meetAll 14 = .ok (.sipush 300, 3) := by decide +kernel
theorem dX1_meetAll_17 : decode cX1_meetAll 17 = .ok (.invokevirtual 47, 3) := by decide +kernel
theorem dX1_meetAll_20 : decode cX1_meetAll 20 = .ok (.aload_n 0, 1) := by decide +kernel
theorem dX1_meetAll_21 : decode cX1_meetAll 21 = .ok (.getfield 20, 3) := by decide +kernel
theorem dX1_meetAll_24 : decode cX1_meetAll 24 = .ok (.iconst 0, 1) := by decide +kernel
theorem dX1_meetAll_25 : decode cX1_meetAll 25 = .ok (.putfield 50, 3) := by decide +kernel
theorem dX1_meetAll_28 : decode cX1_meetAll 28 = .ok (.aload_n 0, 1) := by decide +kernel
theorem dX1_meetAll_29 : decode cX1_meetAll 29 = .ok (.getfield 23, 3) := by decide +kernel
theorem dX1_meetAll_32 : decode cX1_meetAll 32 = .ok (.iconst 0, 1) := by decide +kernel
theorem dX1_meetAll_33 : decode cX1_meetAll 33 = .ok (.putfield 50, 3) := by decide +kernel
theorem dX1_meetAll_36 : decode cX1_meetAll 36 = .ok (.aload_n 0, 1) := by decide +kernel
theorem dX1_meetAll_37 : decode cX1_meetAll 37 = .ok (.iconst 0, 1) := by decide +kernel
theorem dX1_meetAll_38 : decode cX1_meetAll 38 = .ok (.putfield 53, 3) := by decide +kernel
theorem dX1_meetAll_41 : decode cX1_meetAll 41 = .ok (.aload_n 0, 1) := by decide +kernel
theorem dX1_meetAll_42 : decode cX1_meetAll 42 = .ok (.aload_n 0, 1) := by decide +kernel
theorem dX1_meetAll_43 : decode cX1_meetAll 43 = .ok (.getfield 26, 3) := by decide +kernel
theorem dX1_meetAll_46 : decode cX1_meetAll 46 = .ok (.getfield 56, 3) := by decide +kernel
theorem dX1_meetAll_49 : decode cX1_meetAll 49 = .ok (.invokevirtual 61, 3) := by decide +kernel
theorem dX1_meetAll_52 : decode cX1_meetAll 52 = .ok (.pop, 1) := by decide +kernel
theorem dX1_meetAll_53 : decode cX1_meetAll 53 = .ok (.iconst 0, 1) := by decide +kernel
theorem dX1_meetAll_54 : decode cX1_meetAll 54 = .ok (.istore_n 1, 1) := by decide +kernel
theorem dX1_meetAll_55 : decode cX1_meetAll 55 = .ok (.iload_n 1, 1) := by decide +kernel
theorem dX1_meetAll_56 : decode cX1_meetAll 56 = .ok (.aload_n 0, 1) := by decide +kernel
theorem dX1_meetAll_57 : decode cX1_meetAll 57 = .ok (.getfield 53, 3) := by decide +kernel
theorem dX1_meetAll_60 : decode cX1_meetAll 60 = .ok (.if_icmp .ge 71, 3) := by decide +kernel
theorem dX1_meetAll_63 : decode cX1_meetAll 63 = .ok (.iload_n 1, 1) := by decide +kernel
theorem dX1_meetAll_64 : decode cX1_meetAll 64 = .ok (.sipush 300, 3) := by decide +kernel
theorem dX1_meetAll_67 : decode cX1_meetAll 67 = .ok (.if_icmp .ge 64, 3) := by decide +kernel
theorem dX1_meetAll_70 : decode cX1_meetAll 70 = .ok (.iconst 0, 1) := by decide +kernel
theorem dX1_meetAll_71 : decode cX1_meetAll 71 = .ok (.istore_n 2, 1) := by decide +kernel
theorem dX1_meetAll_72 : decode cX1_meetAll 72 = .ok (.iload_n 2, 1) := by decide +kernel
theorem dX1_meetAll_73 : decode cX1_meetAll 73 = .ok (.aload_n 0, 1) := by decide +kernel
theorem dX1_meetAll_74 : decode cX1_meetAll 74 = .ok (.getfield 26, 3) := by decide +kernel
theorem dX1_meetAll_77 : decode cX1_meetAll 77 = .ok (.getfield 65, 3) := by decide +kernel
theorem dX1_meetAll_80 : decode cX1_meetAll 80 = .ok (.if_icmp .ge 45, 3) := by decide +kernel
theorem dX1_meetAll_83 : decode cX1_meetAll 83 = .ok (.aload_n 0, 1) := by decide +kernel
theorem dX1_meetAll_84 : decode cX1_meetAll 84 = .ok (.getfield 20, 3) := by decide +kernel
theorem dX1_meetAll_87 : decode cX1_meetAll 87 = .ok (.aload_n 0, 1) := by decide +kernel
theorem dX1_meetAll_88 : decode cX1_meetAll 88 = .ok (.getfield 23, 3) := by decide +kernel
theorem dX1_meetAll_91 : decode cX1_meetAll 91 = .ok (.getfield 50, 3) := by decide +kernel
theorem dX1_meetAll_94 : decode cX1_meetAll 94 = .ok (.invokevirtual 68, 3) := by decide +kernel
theorem dX1_meetAll_97 : decode cX1_meetAll 97 = .ok (.aload_n 0, 1) := by decide +kernel
theorem dX1_meetAll_98 : decode cX1_meetAll 98 = .ok (.aload_n 0, 1) := by decide +kernel
theorem dX1_meetAll_99 : decode cX1_meetAll 99 = .ok (.getfield 14, 3) := by decide +kernel
theorem dX1_meetAll_102 : decode cX1_meetAll 102 = .ok (.iload_n 1, 1) := by decide +kernel
theorem dX1_meetAll_103 : decode cX1_meetAll 103 = .ok (.invokevirtual 71, 3) := by decide +kernel
theorem dX1_meetAll_106 : decode cX1_meetAll 106 = .ok (.iload_n 2, 1) := by decide +kernel
theorem dX1_meetAll_107 : decode cX1_meetAll 107 = .ok (.invokevirtual 74, 3) := by decide +kernel
theorem dX1_meetAll_110 : decode cX1_meetAll 110 = .ok (.aload_n 0, 1) := by decide +kernel
theorem dX1_meetAll_111 : decode cX1_meetAll 111 = .ok (.getfield 37, 3) := by decide +kernel
theorem dX1_meetAll_114 : decode cX1_meetAll 114 = .ok (.iconst 2, 1) := by decide +kernel
theorem dX1_meetAll_115 : decode cX1_meetAll 115 = .ok (.if_icmp .ne 4, 3) := by decide +kernel
theorem dX1_meetAll_118 : decode cX1_meetAll 118 = .ok (.return_, 1) := by decide +kernel
theorem dX1_meetAll_119 : decode cX1_meetAll 119 = .ok (.iinc 2 1, 3) := by decide +kernel
theorem dX1_meetAll_122 : decode cX1_meetAll 122 = .ok (.goto (-50), 3) := by decide +kernel
theorem dX1_meetAll_125 : decode cX1_meetAll 125 = .ok (.iinc 1 1, 3) := by decide +kernel
theorem dX1_meetAll_128 : decode cX1_meetAll 128 = .ok (.goto (-73), 3) := by decide +kernel
theorem dX1_meetAll_131 : decode cX1_meetAll 131 = .ok (.aload_n 0, 1) := by decide +kernel
theorem dX1_meetAll_132 : decode cX1_meetAll 132 = .ok (.getfield 20, 3) := by decide +kernel
theorem dX1_meetAll_135 : decode cX1_meetAll 135 = .ok (.aload_n 0, 1) := by decide +kernel
theorem dX1_meetAll_136 : decode cX1_meetAll 136 = .ok (.getfield 23, 3) := by decide +kernel
theorem dX1_meetAll_139 : decode cX1_meetAll 139 = .ok (.getfield 50, 3) := by decide +kernel
theorem dX1_meetAll_142 : decode cX1_meetAll 142 = .ok (.invokevirtual 68, 3) := by decide +kernel
theorem dX1_meetAll_145 : decode cX1_meetAll 145 = .ok (.return_, 1) := by decide +kernel
theorem dX1_goFrom_0 : decode cX1_goFrom 0 = .ok (.aload_n 0, 1) := by decide +kernel
theorem dX1_goFrom_1 : decode cX1_goFrom 1 = .ok (.getfield 26, 3) := by decide +kernel
theorem dX1_goFrom_4 : decode cX1_goFrom 4 = .ok (.iload_n 1, 1) := by decide +kernel
theorem dX1_goFrom_5 : decode cX1_goFrom 5 = .ok (.bipush 15, 2) := by decide +kernel
theorem dX1_goFrom_7 : decode cX1_goFrom 7 = .ok (.iand, 1) := by decide +kernel
theorem dX1_goFrom_8 : decode cX1_goFrom 8 = .ok (.iload_n 2, 1) := by decide +kernel
theorem dX1_goFrom_9 : decode cX1_goFrom 9 = .ok (.invokevirtual 78, 3) := by decide +kernel
theorem dX1_goFrom_12 : decode cX1_goFrom 12 = .ok (.istore_n 3, 1) := by decide +kernel
theorem dX1_goFrom_13 : decode cX1_goFrom 13 = .ok (.iload_n 1, 1) := by decide +kernel
theorem dX1_goFrom_14 : decode cX1_goFrom 14 = .ok (.ldc 82, 2) := by decide +kernel
theorem dX1_goFrom_16 : decode cX1_goFrom 16 = .ok (.iand, 1) := by decide +kernel
theorem dX1_goFrom_17 : decode cX1_goFrom 17 = .ok (.ifCond .ne 75, 3) := by decide +kernel
theorem dX1_goFrom_20 : decode cX1_goFrom 20 = .ok (.aload_n 0, 1) := by decide +kernel
theorem dX1_goFrom_21 : decode cX1_goFrom 21 = .ok (.getfield 23, 3) := by decide +kernel
theorem dX1_goFrom_24 : decode cX1_goFrom 24 = .ok (.aload_n 0, 1) := by decide +kernel
theorem dX1_goFrom_25 : decode cX1_goFrom 25 = .ok (.iload_n 3, 1) := by decide +kernel
theorem dX1_goFrom_26 : decode cX1_goFrom 26 = .ok (.invokevirtual 61, 3) := by decide +kernel
theorem dX1_goFrom_29 : decode cX1_goFrom 29 = .ok (.invokevirtual 68, 3) := by decide +kernel
theorem dX1_goFrom_32 : decode cX1_goFrom 32 = .ok (.iload_n 3, 1) := by decide +kernel
theorem dX1_goFrom_33 : decode cX1_goFrom 33 = .ok (.aload_n 0, 1) := by decide +kernel
theorem dX1_goFrom_34 : decode cX1_goFrom 34 = .ok (.getfield 26, 3) := by decide +kernel
theorem dX1_goFrom_37 : decode cX1_goFrom 37 = .ok (.getfield 83, 3) := by decide +kernel
theorem dX1_goFrom_40 : decode cX1_goFrom 40 = .ok (.invokestatic 86, 3) := by decide +kernel
theorem dX1_goFrom_43 : decode cX1_goFrom 43 = .ok (.istore 4, 2) := by decide +kernel
theorem dX1_goFrom_45 : decode cX1_goFrom 45 = .ok (.iconst 1, 1) := by decide +kernel
theorem dX1_goFrom_46 : decode cX1_goFrom 46 = .ok (.istore 5, 2) := by decide +kernel
theorem dX1_goFrom_48 : decode cX1_goFrom 48 = .ok (.iload 5, 2) := by decide +kernel
theorem dX1_goFrom_50 : decode cX1_goFrom 50 = .ok (.iload 4, 2) := by decide +kernel
theorem dX1_goFrom_52 : decode cX1_goFrom 52 = .ok (.if_icmp .gt 37, 3) := by decide +kernel
theorem dX1_goFrom_55 : decode cX1_goFrom 55 = .ok (.aload_n 0, 1) := by decide +kernel
theorem dX1_goFrom_56 : decode cX1_goFrom 56 = .ok (.getfield 30, 3) := by decide +kernel
theorem dX1_goFrom_59 : decode cX1_goFrom 59 = .ok (.iload_n 3, 1) := by decide +kernel
theorem dX1_goFrom_60 : decode cX1_goFrom 60 = .ok (.aload_n 0, 1) := by decide +kernel
theorem dX1_goFrom_61 : decode cX1_goFrom 61 = .ok (.getfield 26, 3) := by decide +kernel
theorem dX1_goFrom_64 : decode cX1_goFrom 64 = .ok (.getfield 83, 3) := by decide +kernel
theorem dX1_goFrom_67 : decode cX1_goFrom 67 = .ok (.iload 5, 2) := by decide +kernel
theorem dX1_goFrom_69 : decode cX1_goFrom 69 = .ok (.iload 5, 2) := by decide +kernel
theorem dX1_goFrom_71 : decode cX1_goFrom 71 = .ok (.invokestatic 91, 3) := by decide +kernel
theorem dX1_goFrom_74 : decode cX1_goFrom 74 = .ok (.invokevirtual 94, 3) := by decide +kernel
theorem dX1_goFrom_77 : decode cX1_goFrom 77 = .ok (.aload_n 0, 1) := by decide +kernel
theorem dX1_goFrom_78 : decode cX1_goFrom 78 = .ok (.iload_n 3, 1) := by decide +kernel
theorem dX1_goFrom_79 : decode cX1_goFrom 79 = .ok (.iconst 0, 1) := by decide +kernel
theorem dX1_goFrom_80 : decode cX1_goFrom 80 = .ok (.invokevirtual 98, 3) := by decide +kernel
theorem dX1_goFrom_83 : decode cX1_goFrom 83 = .ok (.iinc 5 2, 3) := by decide +kernel
theorem dX1_goFrom_86 : decode cX1_goFrom 86 = .ok (.goto (-38), 3) := by decide +kernel
theorem dX1_goFrom_89 : decode cX1_goFrom 89 = .ok (.goto 75, 3) := by decide +kernel
theorem dX1_goFrom_92 : decode cX1_goFrom 92 = .ok (.aload_n 0, 1) := by decide +kernel
theorem dX1_goFrom_93 : decode cX1_goFrom 93 = .ok (.iload_n 1, 1) := by decide +kernel
theorem dX1_goFrom_94 : decode cX1_goFrom 94 = .ok (.iload_n 2, 1) := by decide +kernel
theorem dX1_goFrom_95 : decode cX1_goFrom 95 = .ok (.invokevirtual 101, 3) := by decide +kernel
theorem dX1_goFrom_98 : decode cX1_goFrom 98 = .ok (.istore 4, 2) := by decide +kernel
theorem dX1_goFrom_100 : decode cX1_goFrom 100 = .ok (.iload_n 1, 1) := by decide +kernel
theorem dX1_goFrom_101 : decode cX1_goFrom 101 = .ok (.bipush 8, 2) := by decide +kernel
theorem dX1_goFrom_103 : decode cX1_goFrom 103 = .ok (.ishr, 1) := by decide +kernel
theorem dX1_goFrom_104 : decode cX1_goFrom 104 = .ok (.sipush 4095, 3) := by decide +kernel
theorem dX1_goFrom_107 : decode cX1_goFrom 107 = .ok (.iand, 1) := by decide +kernel
theorem dX1_goFrom_108 : decode cX1_goFrom 108 = .ok (.invokestatic 104, 3) := by decide +kernel
theorem dX1_goFrom_111 : decode cX1_goFrom 111 = .ok (.istore 5, 2) := by decide +kernel
theorem dX1_goFrom_113 : decode cX1_goFrom 113 = .ok (.aload_n 0, 1) := by decide +kernel
theorem dX1_goFrom_114 : decode cX1_goFrom 114 = .ok (.getfield 30, 3) := by decide +kernel
theorem dX1_goFrom_117 : decode cX1_goFrom 117 = .ok (.iload_n 3, 1) := by decide +kernel
theorem dX1_goFrom_118 : decode cX1_goFrom 118 = .ok (.aload_n 0, 1) := by decide +kernel
theorem dX1_goFrom_119 : decode cX1_goFrom 119 = .ok (.getfield 26, 3) := by decide +kernel
theorem dX1_goFrom_122 : decode cX1_goFrom 122 = .ok (.getfield 83, 3) := by decide +kernel
theorem dX1_goFrom_125 : decode cX1_goFrom 125 = .ok (.iload 5, 2) := by decide +kernel
theorem dX1_goFrom_127 : decode cX1_goFrom 127 = .ok (.iload 4, 2) := by decide +kernel
theorem dX1_goFrom_129 : decode cX1_goFrom 129 = .ok (.invokevirtual 94, 3) := by decide +kernel
theorem dX1_goFrom_132 : decode cX1_goFrom 132 = .ok (.iload_n 1, 1) := by decide +kernel
theorem dX1_goFrom_133 : decode cX1_goFrom 133 = .ok (.iconst 4, 1) := by decide +kernel
theorem dX1_goFrom_134 : decode cX1_goFrom 134 = .ok (.ishr, 1) := by decide +kernel
theorem dX1_goFrom_135 : decode cX1_goFrom 135 = .ok (.bipush 15, 2) := by decide +kernel
theorem dX1_goFrom_137 : decode cX1_goFrom 137 = .ok (.iand, 1) := by decide +kernel
theorem dX1_goFrom_138 : decode cX1_goFrom 138 = .ok (.istore 6, 2) := by decide +kernel
theorem dX1_goFrom_140 : decode cX1_goFrom 140 = .ok (.aload_n 0, 1) := by decide +kernel
theorem dX1_goFrom_141 : decode cX1_goFrom 141 = .ok (.iload_n 3, 1) := by decide +kernel
theorem dX1_goFrom_142 : decode cX1_goFrom 142 = .ok (.iload 6, 2) := by decide +kernel
theorem dX1_goFrom_144 : decode cX1_goFrom 144 = .ok (.ifCond .ne 7, 3) := by decide +kernel
theorem dX1_goFrom_147 : decode cX1_goFrom 147 = .ok (.iload_n 3, 1) := by decide +kernel
theorem dX1_goFrom_148 : decode cX1_goFrom 148 = .ok (.goto 13, 3) := by decide +kernel
theorem dX1_goFrom_151 : decode cX1_goFrom 151 = .ok (.aload_n 0, 1) := by decide +kernel
theorem dX1_goFrom_152 : decode cX1_goFrom 152 = .ok (.getfield 26, 3) := by decide +kernel
theorem dX1_goFrom_155 : decode cX1_goFrom 155 = .ok (.iload 6, 2) := by decide +kernel
theorem dX1_goFrom_157 : decode cX1_goFrom 157 = .ok (.iload_n 2, 1) := by decide +kernel
theorem dX1_goFrom_158 : decode cX1_goFrom 158 = .ok (.invokevirtual 78, 3) := by decide +kernel
theorem dX1_goFrom_161 : decode cX1_goFrom 161 = .ok (.invokevirtual 98, 3) := by decide +kernel
theorem dX1_goFrom_164 : decode cX1_goFrom 164 = .ok (.return_, 1) := by decide +kernel
theorem dX1_goToPairs_0 : decode cX1_goToPairs 0 = .ok (.iconst 0, 1) := by decide +kernel
theorem dX1_goToPairs_1 : decode cX1_goToPairs 1 = .ok (.istore_n 3, 1) := by decide +kernel
theorem dX1_goToPairs_2 : decode cX1_goToPairs 2 = .ok (.iload_n 3, 1) := by decide +kernel
theorem dX1_goToPairs_3 : decode cX1_goToPairs 3 = .ok (.aload_n 0, 1) := by decide +kernel
theorem dX1_goToPairs_4 : decode cX1_goToPairs 4 = .ok (.getfield 30, 3) := by decide +kernel
theorem dX1_goToPairs_7 : decode cX1_goToPairs 7 = .ok (.getfield 107, 3) := by decide +kernel
theorem dX1_goToPairs_10 : decode cX1_goToPairs 10 = .ok (.if_icmp .ge 63, 3) := by decide +kernel
theorem dX1_goToPairs_13 : decode cX1_goToPairs 13 = .ok (.aload_n 0, 1) := by decide +kernel
theorem dX1_goToPairs_14 : decode cX1_goToPairs 14 = .ok (.getfield 37, 3) := by decide +kernel
theorem dX1_goToPairs_17 : decode cX1_goToPairs 17 = .ok (.iconst 2, 1) := by decide +kernel
theorem dX1_goToPairs_18 : decode cX1_goToPairs 18 = .ok (.if_icmp .eq 55, 3) := by decide +kernel
theorem dX1_goToPairs_21 : decode cX1_goToPairs 21 = .ok (.aload_n 0, 1) := by decide +kernel
theorem dX1_goToPairs_22 : decode cX1_goToPairs 22 = .ok (.getfield 30, 3) := by decide +kernel
theorem dX1_goToPairs_25 : decode cX1_goToPairs 25 = .ok (.iload_n 3, 1) := by decide +kernel
theorem dX1_goToPairs_26 : decode cX1_goToPairs 26 = .ok (.invokevirtual 108, 3) := by decide +kernel
theorem dX1_goToPairs_29 : decode cX1_goToPairs 29 = .ok (.istore 4, 2) := by decide +kernel
theorem dX1_goToPairs_31 : decode cX1_goToPairs 31 = .ok (.iload_n 2, 1) := by decide +kernel
theorem dX1_goToPairs_32 : decode cX1_goToPairs 32 = .ok (.iload_n 1, 1) := by decide +kernel
theorem dX1_goToPairs_33 : decode cX1_goToPairs 33 = .ok (.iload 4, 2) := by decide +kernel
theorem dX1_goToPairs_35 : decode cX1_goToPairs 35 = .ok (.invokestatic 111, 3) := by decide +kernel
theorem dX1_goToPairs_38 : decode cX1_goToPairs 38 = .ok (.iand, 1) := by decide +kernel
theorem dX1_goToPairs_39 : decode cX1_goToPairs 39 = .ok (.istore 5, 2) := by decide +kernel
theorem dX1_goToPairs_41 : decode cX1_goToPairs 41 = .ok (.aload_n 0, 1) := by decide +kernel
theorem dX1_goToPairs_42 : decode cX1_goToPairs 42 = .ok (.getfield 23, 3) := by decide +kernel
theorem dX1_goToPairs_45 : decode cX1_goToPairs 45 = .ok (.aload_n 0, 1) := by decide +kernel
theorem dX1_goToPairs_46 : decode cX1_goToPairs 46 = .ok (.ldc 82, 2) := by decide +kernel
theorem dX1_goToPairs_48 : decode cX1_goToPairs 48 = .ok (.iload 4, 2) := by decide +kernel
theorem dX1_goToPairs_50 : decode cX1_goToPairs 50 = .ok (.bipush 8, 2) := by decide +kernel
theorem dX1_goToPairs_52 : decode cX1_goToPairs 52 = .ok (.ishl, 1) := by decide +kernel
theorem dX1_goToPairs_53 : decode cX1_goToPairs 53 = .ok (.ior, 1) := by decide +kernel
theorem dX1_goToPairs_54 : decode cX1_goToPairs 54 = .ok (.iload 5, 2) := by decide +kernel
theorem dX1_goToPairs_56 : decode cX1_goToPairs 56 = .ok (.iconst 4, 1) := by decide +kernel
theorem dX1_goToPairs_57 : decode cX1_goToPairs 57 = .ok (.ishl, 1) := by decide +kernel
theorem dX1_goToPairs_58 : decode cX1_goToPairs 58 = .ok (.ior, 1) := by decide +kernel
theorem dX1_goToPairs_59 : decode cX1_goToPairs 59 = .ok (.iload_n 1, 1) := by decide +kernel
theorem dX1_goToPairs_60 : decode cX1_goToPairs 60 = .ok (.ior, 1) := by decide +kernel
theorem dX1_goToPairs_61 : decode cX1_goToPairs 61 = .ok (.invokevirtual 61, 3) := by decide +kernel
theorem dX1_goToPairs_64 : decode cX1_goToPairs 64 = .ok (.invokevirtual 68, 3) := by decide +kernel
theorem dX1_goToPairs_67 : decode cX1_goToPairs 67 = .ok (.iinc 3 1, 3) := by decide +kernel
theorem dX1_goToPairs_70 : decode cX1_goToPairs 70 = .ok (.goto (-68), 3) := by decide +kernel
theorem dX1_goToPairs_73 : decode cX1_goToPairs 73 = .ok (.return_, 1) := by decide +kernel
theorem dX1_evenOnes_0 : decode cX1_evenOnes 0 = .ok (.iconst 0, 1) := by decide +kernel
theorem dX1_evenOnes_1 : decode cX1_evenOnes 1 = .ok (.istore_n 2, 1) := by decide +kernel
theorem dX1_evenOnes_2 : decode cX1_evenOnes 2 = .ok (.iconst 0, 1) := by decide +kernel
theorem dX1_evenOnes_3 : decode cX1_evenOnes 3 = .ok (.istore_n 3, 1) := by decide +kernel
theorem dX1_evenOnes_4 : decode cX1_evenOnes 4 = .ok (.iload_n 3, 1) := by decide +kernel
theorem dX1_evenOnes_5 : decode cX1_evenOnes 5 = .ok (.iconst 4, 1) := by decide +kernel
theorem dX1_evenOnes_6 : decode cX1_evenOnes 6 = .ok (.if_icmp .ge 33, 3) := by decide +kernel
theorem dX1_evenOnes_9 : decode cX1_evenOnes 9 = .ok (.iload_n 3, 1) := by decide +kernel
theorem dX1_evenOnes_10 : decode cX1_evenOnes 10 = .ok (.iload_n 0, 1) := by decide +kernel
theorem dX1_evenOnes_11 : decode cX1_evenOnes 11 = .ok (.invokestatic 114, 3) := by decide +kernel
theorem dX1_evenOnes_14 : decode cX1_evenOnes 14 = .ok (.ifCond .eq 19, 3) := by decide +kernel
theorem dX1_evenOnes_17 : decode cX1_evenOnes 17 = .ok (.iload_n 1, 1) := by decide +kernel
theorem dX1_evenOnes_18 : decode cX1_evenOnes 18 = .ok (.iload_n 3, 1) := by decide +kernel
theorem dX1_evenOnes_19 : decode cX1_evenOnes 19 = .ok (.invokestatic 118, 3) := by decide +kernel
theorem dX1_evenOnes_22 : decode cX1_evenOnes 22 = .ok (.iconst 1, 1) := by decide +kernel
theorem dX1_evenOnes_23 : decode cX1_evenOnes 23 = .ok (.iand, 1) := by decide +kernel
theorem dX1_evenOnes_24 : decode cX1_evenOnes 24 = .ok (.ifCond .ne 9, 3) := by decide +kernel
theorem dX1_evenOnes_27 : decode cX1_evenOnes 27 = .ok (.iload_n 2, 1) := by decide +kernel
theorem dX1_evenOnes_28 : decode cX1_evenOnes 28 = .ok (.iconst 1, 1) := by decide +kernel
theorem dX1_evenOnes_29 : decode cX1_evenOnes 29 = .ok (.iload_n 3, 1) := by decide +kernel
theorem dX1_evenOnes_30 : decode cX1_evenOnes 30 = .ok (.ishl, 1) := by decide +kernel
theorem dX1_evenOnes_31 : decode cX1_evenOnes 31 = .ok (.ior, 1) := by decide +kernel
theorem dX1_evenOnes_32 : decode cX1_evenOnes 32 = .ok (.istore_n 2, 1) := by decide +kernel
theorem dX1_evenOnes_33 : decode cX1_evenOnes 33 = .ok (.iinc 3 1, 3) := by decide +kernel
theorem dX1_evenOnes_36 : decode cX1_evenOnes 36 = .ok (.goto (-32), 3) := by decide +kernel
theorem dX1_evenOnes_39 : decode cX1_evenOnes 39 = .ok (.iload_n 2, 1) := by decide +kernel
theorem dX1_evenOnes_40 : decode cX1_evenOnes 40 = .ok (.ireturn, 1) := by decide +kernel
theorem dX1_capsAfter_0 : decode cX1_capsAfter 0 = .ok (.iconst 0, 1) := by decide +kernel
theorem dX1_capsAfter_1 : decode cX1_capsAfter 1 = .ok (.istore_n 3, 1) := by decide +kernel
theorem dX1_capsAfter_2 : decode cX1_capsAfter 2 = .ok (.iconst 0, 1) := by decide +kernel
theorem dX1_capsAfter_3 : decode cX1_capsAfter 3 = .ok (.istore 4, 2) := by decide +kernel
theorem dX1_capsAfter_5 : decode cX1_capsAfter 5 = .ok (.iload 4, 2) := by decide +kernel
theorem dX1_capsAfter_7 : decode cX1_capsAfter 7 = .ok (.aload_n 0, 1) := by decide +kernel
theorem dX1_capsAfter_8 : decode cX1_capsAfter 8 = .ok (.getfield 26, 3) := by decide +kernel
theorem dX1_capsAfter_11 : decode cX1_capsAfter 11 = .ok (.getfield 121, 3) := by decide +kernel
theorem dX1_capsAfter_14 : decode cX1_capsAfter 14 = .ok (.if_icmp .ge 86, 3) := by decide +kernel
theorem dX1_capsAfter_17 : decode cX1_capsAfter 17 = .ok (.bipush 7, 2) := by decide +kernel
theorem dX1_capsAfter_19 : decode cX1_capsAfter 19 = .ok (.istore 5, 2) := by decide +kernel
theorem dX1_capsAfter_21 : decode cX1_capsAfter 21 = .ok (.iconst 0, 1) := by decide +kernel
theorem dX1_capsAfter_22 : decode cX1_capsAfter 22 = .ok (.istore 6, 2) := by decide +kernel
theorem dX1_capsAfter_24 : decode cX1_capsAfter 24 = .ok (.iload 6, 2) := by decide +kernel
theorem dX1_capsAfter_26 : decode cX1_capsAfter 26 = .ok (.aload_n 0, 1) := by decide +kernel
theorem dX1_capsAfter_27 : decode cX1_capsAfter 27 = .ok (.getfield 26, 3) := by decide +kernel
theorem dX1_capsAfter_30 : decode cX1_capsAfter 30 = .ok (.getfield 121, 3) := by decide +kernel
theorem dX1_capsAfter_33 : decode cX1_capsAfter 33 = .ok (.if_icmp .ge 52, 3) := by decide +kernel
theorem dX1_capsAfter_36 : decode cX1_capsAfter 36 = .ok (.iload 6, 2) := by decide +kernel
theorem dX1_capsAfter_38 : decode cX1_capsAfter 38 = .ok (.iload_n 1, 1) := by decide +kernel
theorem dX1_capsAfter_39 : decode cX1_capsAfter 39 = .ok (.bipush 15, 2) := by decide +kernel
theorem dX1_capsAfter_41 : decode cX1_capsAfter 41 = .ok (.iand, 1) := by decide +kernel
theorem dX1_capsAfter_42 : decode cX1_capsAfter 42 = .ok (.invokestatic 114, 3) := by decide +kernel
theorem dX1_capsAfter_45 : decode cX1_capsAfter 45 = .ok (.ifCond .eq 34, 3) := by decide +kernel
theorem dX1_capsAfter_48 : decode cX1_capsAfter 48 = .ok (.aload_n 0, 1) := by decide +kernel
theorem dX1_capsAfter_49 : decode cX1_capsAfter 49 = .ok (.getfield 26, 3) := by decide +kernel
theorem dX1_capsAfter_52 : decode cX1_capsAfter 52 = .ok (.iload 6, 2) := by decide +kernel
theorem dX1_capsAfter_54 : decode cX1_capsAfter 54 = .ok (.iload_n 2, 1) := by decide +kernel
theorem dX1_capsAfter_55 : decode cX1_capsAfter 55 = .ok (.iload 4, 2) := by decide +kernel
theorem dX1_capsAfter_57 : decode cX1_capsAfter 57 = .ok (.invokevirtual 124, 3) := by decide +kernel
theorem dX1_capsAfter_60 : decode cX1_capsAfter 60 = .ok (.ifCond .eq 19, 3) := by decide +kernel
theorem dX1_capsAfter_63 : decode cX1_capsAfter 63 = .ok (.iload 5, 2) := by decide +kernel
theorem dX1_capsAfter_65 : decode cX1_capsAfter 65 = .ok (.iload_n 1, 1) := by decide +kernel
theorem dX1_capsAfter_66 : decode cX1_capsAfter 66 = .ok (.bipush 8, 2) := by decide +kernel
theorem dX1_capsAfter_68 : decode cX1_capsAfter 68 = .ok (.ishr, 1) := by decide +kernel
theorem dX1_capsAfter_69 : decode cX1_capsAfter 69 = .ok (.iload 6, 2) := by decide +kernel
theorem dX1_capsAfter_71 : decode cX1_capsAfter 71 = .ok (.invokestatic 118, 3) := by decide +kernel
theorem dX1_capsAfter_74 : decode cX1_capsAfter 74 = .ok (.invokestatic 128, 3) := by decide +kernel
theorem dX1_capsAfter_77 : decode cX1_capsAfter 77 = .ok (.istore 5, 2) := by decide +kernel
theorem dX1_capsAfter_79 : decode cX1_capsAfter 79 = .ok (.iinc 6 1, 3) := by decide +kernel
theorem dX1_capsAfter_82 : decode cX1_capsAfter 82 = .ok (.goto (-58), 3) := by decide +kernel
theorem dX1_capsAfter_85 : decode cX1_capsAfter 85 = .ok (.iload_n 3, 1) := by decide +kernel
theorem dX1_capsAfter_86 : decode cX1_capsAfter 86 = .ok (.iload 4, 2) := by decide +kernel
theorem dX1_capsAfter_88 : decode cX1_capsAfter 88 = .ok (.iload 5, 2) := by decide +kernel
theorem dX1_capsAfter_90 : decode cX1_capsAfter 90 = .ok (.invokestatic 133, 3) := by decide +kernel
theorem dX1_capsAfter_93 : decode cX1_capsAfter 93 = .ok (.istore_n 3, 1) := by decide +kernel
theorem dX1_capsAfter_94 : decode cX1_capsAfter 94 = .ok (.iinc 4 1, 3) := by decide +kernel
theorem dX1_capsAfter_97 : decode cX1_capsAfter 97 = .ok (.goto (-92), 3) := by decide +kernel
theorem dX1_capsAfter_100 : decode cX1_capsAfter 100 = .ok (.iload_n 3, 1) := by decide +kernel
theorem dX1_capsAfter_101 : decode cX1_capsAfter 101 = .ok (.ireturn, 1) := by decide +kernel
theorem dX1_meet_0 : decode cX1_meet 0 = .ok (.aload_n 0, 1) := by decide +kernel
theorem dX1_meet_1 : decode cX1_meet 1 = .ok (.iload_n 1, 1) := by decide +kernel
theorem dX1_meet_2 : decode cX1_meet 2 = .ok (.invokevirtual 137, 3) := by decide +kernel
theorem dX1_meet_5 : decode cX1_meet 5 = .ok (.istore_n 2, 1) := by decide +kernel
theorem dX1_meet_6 : decode cX1_meet 6 = .ok (.aload_n 0, 1) := by decide +kernel
theorem dX1_meet_7 : decode cX1_meet 7 = .ok (.getfield 34, 3) := by decide +kernel
theorem dX1_meet_10 : decode cX1_meet 10 = .ok (.iload_n 2, 1) := by decide +kernel
theorem dX1_meet_11 : decode cX1_meet 11 = .ok (.invokevirtual 71, 3) := by decide +kernel
theorem dX1_meet_14 : decode cX1_meet 14 = .ok (.iconst 1, 1) := by decide +kernel
theorem dX1_meet_15 : decode cX1_meet 15 = .ok (.isub, 1) := by decide +kernel
theorem dX1_meet_16 : decode cX1_meet 16 = .ok (.istore_n 3, 1) := by decide +kernel
theorem dX1_meet_17 : decode cX1_meet 17 = .ok (.iload_n 3, 1) := by decide +kernel
theorem dX1_meet_18 : decode cX1_meet 18 = .ok (.ifCond .lt 5, 3) := by decide +kernel
theorem dX1_meet_21 : decode cX1_meet 21 = .ok (.iload_n 3, 1) := by decide +kernel
theorem dX1_meet_22 : decode cX1_meet 22 = .ok (.ireturn, 1) := by decide +kernel
theorem dX1_meet_23 : decode cX1_meet 23 = .ok (.aload_n 0, 1) := by decide +kernel
theorem dX1_meet_24 : decode cX1_meet 24 = .ok (.getfield 53, 3) := by decide +kernel
theorem dX1_meet_27 : decode cX1_meet 27 = .ok (.sipush 300, 3) := by decide +kernel
theorem dX1_meet_30 : decode cX1_meet 30 = .ok (.if_icmp .lt 10, 3) := by decide +kernel
theorem dX1_meet_33 : decode cX1_meet 33 = .ok (.aload_n 0, 1) := by decide +kernel
theorem dX1_meet_34 : decode cX1_meet 34 = .ok (.iconst 2, 1) := by decide +kernel
theorem dX1_meet_35 : decode cX1_meet 35 = .ok (.putfield 37, 3) := by decide +kernel
theorem dX1_meet_38 : decode cX1_meet 38 = .ok (.iconst (-1), 1) := by decide +kernel
theorem dX1_meet_39 : decode cX1_meet 39 = .ok (.ireturn, 1) := by decide +kernel
theorem dX1_meet_40 : decode cX1_meet 40 = .ok (.aload_n 0, 1) := by decide +kernel
theorem dX1_meet_41 : decode cX1_meet 41 = .ok (.getfield 14, 3) := by decide +kernel
theorem dX1_meet_44 : decode cX1_meet 44 = .ok (.aload_n 0, 1) := by decide +kernel
theorem dX1_meet_45 : decode cX1_meet 45 = .ok (.getfield 53, 3) := by decide +kernel
theorem dX1_meet_48 : decode cX1_meet 48 = .ok (.iload_n 1, 1) := by decide +kernel
theorem dX1_meet_49 : decode cX1_meet 49 = .ok (.invokevirtual 140, 3) := by decide +kernel
theorem dX1_meet_52 : decode cX1_meet 52 = .ok (.aload_n 0, 1) := by decide +kernel
theorem dX1_meet_53 : decode cX1_meet 53 = .ok (.dup, 1) := by decide +kernel
theorem dX1_meet_54 : decode cX1_meet 54 = .ok (.getfield 53, 3) := by decide +kernel
theorem dX1_meet_57 : decode cX1_meet 57 = .ok (.iconst 1, 1) := by decide +kernel
theorem dX1_meet_58 : decode cX1_meet 58 = .ok (.iadd, 1) := by decide +kernel
theorem dX1_meet_59 : decode cX1_meet 59 = .ok (.putfield 53, 3) := by decide +kernel
theorem dX1_meet_62 : decode cX1_meet 62 = .ok (.aload_n 0, 1) := by decide +kernel
theorem dX1_meet_63 : decode cX1_meet 63 = .ok (.getfield 34, 3) := by decide +kernel
theorem dX1_meet_66 : decode cX1_meet 66 = .ok (.iload_n 2, 1) := by decide +kernel
theorem dX1_meet_67 : decode cX1_meet 67 = .ok (.aload_n 0, 1) := by decide +kernel
theorem dX1_meet_68 : decode cX1_meet 68 = .ok (.getfield 53, 3) := by decide +kernel
theorem dX1_meet_71 : decode cX1_meet 71 = .ok (.invokevirtual 140, 3) := by decide +kernel
theorem dX1_meet_74 : decode cX1_meet 74 = .ok (.aload_n 0, 1) := by decide +kernel
theorem dX1_meet_75 : decode cX1_meet 75 = .ok (.getfield 53, 3) := by decide +kernel
theorem dX1_meet_78 : decode cX1_meet 78 = .ok (.iconst 1, 1) := by decide +kernel
theorem dX1_meet_79 : decode cX1_meet 79 = .ok (.isub, 1) := by decide +kernel
theorem dX1_meet_80 : decode cX1_meet 80 = .ok (.ireturn, 1) := by decide +kernel
theorem dX1_slotOf_0 : decode cX1_slotOf 0 = .ok (.iload_n 1, 1) := by decide +kernel
theorem dX1_slotOf_1 : decode cX1_slotOf 1 = .ok (.iload_n 1, 1) := by decide +kernel
theorem dX1_slotOf_2 : decode cX1_slotOf 2 = .ok (.bipush 7, 2) := by decide +kernel
theorem dX1_slotOf_4 : decode cX1_slotOf 4 = .ok (.ishr, 1) := by decide +kernel
theorem dX1_slotOf_5 : decode cX1_slotOf 5 = .ok (.ixor, 1) := by decide +kernel
theorem dX1_slotOf_6 : decode cX1_slotOf 6 = .ok (.iload_n 1, 1) := by decide +kernel
theorem dX1_slotOf_7 : decode cX1_slotOf 7 = .ok (.bipush 13, 2) := by decide +kernel
theorem dX1_slotOf_9 : decode cX1_slotOf 9 = .ok (.ishr, 1) := by decide +kernel
theorem dX1_slotOf_10 : decode cX1_slotOf 10 = .ok (.ixor, 1) := by decide +kernel
theorem dX1_slotOf_11 : decode cX1_slotOf 11 = .ok (.sipush 1023, 3) := by decide +kernel
theorem dX1_slotOf_14 : decode cX1_slotOf 14 = .ok (.iand, 1) := by decide +kernel
theorem dX1_slotOf_15 : decode cX1_slotOf 15 = .ok (.istore_n 2, 1) := by decide +kernel
theorem dX1_slotOf_16 : decode cX1_slotOf 16 = .ok (.iconst 0, 1) := by decide +kernel
theorem dX1_slotOf_17 : decode cX1_slotOf 17 = .ok (.istore_n 3, 1) := by decide +kernel
theorem dX1_slotOf_18 : decode cX1_slotOf 18 = .ok (.iload_n 3, 1) := by decide +kernel
theorem dX1_slotOf_19 : decode cX1_slotOf 19 = .ok (.sipush 1024, 3) := by decide +kernel
theorem dX1_slotOf_22 : decode cX1_slotOf 22 = .ok (.if_icmp .ge 50, 3) := by decide +kernel
theorem dX1_slotOf_25 : decode cX1_slotOf 25 = .ok (.aload_n 0, 1) := by decide +kernel
theorem dX1_slotOf_26 : decode cX1_slotOf 26 = .ok (.getfield 34, 3) := by decide +kernel
theorem dX1_slotOf_29 : decode cX1_slotOf 29 = .ok (.iload_n 2, 1) := by decide +kernel
theorem dX1_slotOf_30 : decode cX1_slotOf 30 = .ok (.invokevirtual 71, 3) := by decide +kernel
theorem dX1_slotOf_33 : decode cX1_slotOf 33 = .ok (.iconst 1, 1) := by decide +kernel
theorem dX1_slotOf_34 : decode cX1_slotOf 34 = .ok (.isub, 1) := by decide +kernel
theorem dX1_slotOf_35 : decode cX1_slotOf 35 = .ok (.istore 4, 2) := by decide +kernel
theorem dX1_slotOf_37 : decode cX1_slotOf 37 = .ok (.iload 4, 2) := by decide +kernel
theorem dX1_slotOf_39 : decode cX1_slotOf 39 = .ok (.ifCond .lt 33, 3) := by decide +kernel
theorem dX1_slotOf_42 : decode cX1_slotOf 42 = .ok (.aload_n 0, 1) := by decide +kernel
theorem dX1_slotOf_43 : decode cX1_slotOf 43 = .ok (.getfield 14, 3) := by decide +kernel
theorem dX1_slotOf_46 : decode cX1_slotOf 46 = .ok (.iload 4, 2) := by decide +kernel
theorem dX1_slotOf_48 : decode cX1_slotOf 48 = .ok (.invokevirtual 71, 3) := by decide +kernel
theorem dX1_slotOf_51 : decode cX1_slotOf 51 = .ok (.iload_n 1, 1) := by decide +kernel
theorem dX1_slotOf_52 : decode cX1_slotOf 52 = .ok (.if_icmp .ne 6, 3) := by decide +kernel
theorem dX1_slotOf_55 : decode cX1_slotOf 55 = .ok (.goto 17, 3) := by decide +kernel
theorem dX1_slotOf_58 : decode cX1_slotOf 58 = .ok (.iload_n 2, 1) := by decide +kernel
theorem dX1_slotOf_59 : decode cX1_slotOf 59 = .ok (.iconst 1, 1) := by decide +kernel
theorem dX1_slotOf_60 : decode cX1_slotOf 60 = .ok (.iadd, 1) := by decide +kernel
theorem dX1_slotOf_61 : decode cX1_slotOf 61 = .ok (.sipush 1023, 3) := by decide +kernel
theorem dX1_slotOf_64 : decode cX1_slotOf 64 = .ok (.iand, 1) := by decide +kernel
theorem dX1_slotOf_65 : decode cX1_slotOf 65 = .ok (.istore_n 2, 1) := by decide +kernel
theorem dX1_slotOf_66 : decode cX1_slotOf 66 = .ok (.iinc 3 1, 3) := by decide +kernel
theorem dX1_slotOf_69 : decode cX1_slotOf 69 = .ok (.goto (-51), 3) := by decide +kernel
theorem dX1_slotOf_72 : decode cX1_slotOf 72 = .ok (.iload_n 2, 1) := by decide +kernel
theorem dX1_slotOf_73 : decode cX1_slotOf 73 = .ok (.ireturn, 1) := by decide +kernel
theorem dX1_told_0 : decode cX1_told 0 = .ok (.aload_n 0, 1) := by decide +kernel
theorem dX1_told_1 : decode cX1_told 1 = .ok (.getfield 14, 3) := by decide +kernel
theorem dX1_told_4 : decode cX1_told 4 = .ok (.iload_n 1, 1) := by decide +kernel
theorem dX1_told_5 : decode cX1_told 5 = .ok (.invokevirtual 71, 3) := by decide +kernel
theorem dX1_told_8 : decode cX1_told 8 = .ok (.istore_n 3, 1) := by decide +kernel
theorem dX1_told_9 : decode cX1_told 9 = .ok (.iload_n 3, 1) := by decide +kernel
theorem dX1_told_10 : decode cX1_told 10 = .ok (.ldc 82, 2) := by decide +kernel
theorem dX1_told_12 : decode cX1_told 12 = .ok (.iand, 1) := by decide +kernel
theorem dX1_told_13 : decode cX1_told 13 = .ok (.ifCond .eq 7, 3) := by decide +kernel
theorem dX1_told_16 : decode cX1_told 16 = .ok (.iconst 1, 1) := by decide +kernel
theorem dX1_told_17 : decode cX1_told 17 = .ok (.goto 4, 3) := by decide +kernel
theorem dX1_told_20 : decode cX1_told 20 = .ok (.iconst 0, 1) := by decide +kernel
theorem dX1_told_21 : decode cX1_told 21 = .ok (.istore 4, 2) := by decide +kernel
theorem dX1_told_23 : decode cX1_told 23 = .ok (.iload_n 2, 1) := by decide +kernel
theorem dX1_told_24 : decode cX1_told 24 = .ok (.tableswitch 120 0 4 #[36, 41, 63, 70, 84], 36) := by decide +kernel
theorem dX1_told_60 : decode cX1_told 60 = .ok (.iload_n 3, 1) := by decide +kernel
theorem dX1_told_61 : decode cX1_told 61 = .ok (.bipush 15, 2) := by decide +kernel
theorem dX1_told_63 : decode cX1_told 63 = .ok (.iand, 1) := by decide +kernel
theorem dX1_told_64 : decode cX1_told 64 = .ok (.ireturn, 1) := by decide +kernel
theorem dX1_told_65 : decode cX1_told 65 = .ok (.iload 4, 2) := by decide +kernel
theorem dX1_told_67 : decode cX1_told 67 = .ok (.ifCond .eq 17, 3) := by decide +kernel
theorem dX1_told_70 : decode cX1_told 70 = .ok (.iload_n 3, 1) := by decide +kernel
theorem dX1_told_71 : decode cX1_told 71 = .ok (.bipush 8, 2) := by decide +kernel
theorem dX1_told_73 : decode cX1_told 73 = .ok (.ishr, 1) := by decide +kernel
theorem dX1_told_74 : decode cX1_told 74 = .ok (.sipush 4095, 3) := by decide +kernel
theorem dX1_told_77 : decode cX1_told 77 = .ok (.iand, 1) := by decide +kernel
theorem dX1_told_78 : decode cX1_told 78 = .ok (.invokestatic 104, 3) := by decide +kernel
theorem dX1_told_81 : decode cX1_told 81 = .ok (.goto 5, 3) := by decide +kernel
theorem dX1_told_84 : decode cX1_told 84 = .ok (.bipush (-2), 2) := by decide +kernel
theorem dX1_told_86 : decode cX1_told 86 = .ok (.ireturn, 1) := by decide +kernel
theorem dX1_told_87 : decode cX1_told 87 = .ok (.iload_n 3, 1) := by decide +kernel
theorem dX1_told_88 : decode cX1_told 88 = .ok (.iconst 4, 1) := by decide +kernel
theorem dX1_told_89 : decode cX1_told 89 = .ok (.ishr, 1) := by decide +kernel
theorem dX1_told_90 : decode cX1_told 90 = .ok (.bipush 15, 2) := by decide +kernel
theorem dX1_told_92 : decode cX1_told 92 = .ok (.iand, 1) := by decide +kernel
theorem dX1_told_93 : decode cX1_told 93 = .ok (.ireturn, 1) := by decide +kernel
theorem dX1_told_94 : decode cX1_told 94 = .ok (.aload_n 0, 1) := by decide +kernel
theorem dX1_told_95 : decode cX1_told 95 = .ok (.iload_n 1, 1) := by decide +kernel
theorem dX1_told_96 : decode cX1_told 96 = .ok (.invokevirtual 143, 3) := by decide +kernel
theorem dX1_told_99 : decode cX1_told 99 = .ok (.ifCond .eq 7, 3) := by decide +kernel
theorem dX1_told_102 : decode cX1_told 102 = .ok (.iconst 1, 1) := by decide +kernel
theorem dX1_told_103 : decode cX1_told 103 = .ok (.goto 4, 3) := by decide +kernel
theorem dX1_told_106 : decode cX1_told 106 = .ok (.iconst 0, 1) := by decide +kernel
theorem dX1_told_107 : decode cX1_told 107 = .ok (.ireturn, 1) := by decide +kernel
theorem dX1_told_108 : decode cX1_told 108 = .ok (.aload_n 0, 1) := by decide +kernel
theorem dX1_told_109 : decode cX1_told 109 = .ok (.getfield 20, 3) := by decide +kernel
theorem dX1_told_112 : decode cX1_told 112 = .ok (.iload_n 1, 1) := by decide +kernel
theorem dX1_told_113 : decode cX1_told 113 = .ok (.iconst 1, 1) := by decide +kernel
theorem dX1_told_114 : decode cX1_told 114 = .ok (.iadd, 1) := by decide +kernel
theorem dX1_told_115 : decode cX1_told 115 = .ok (.aload_n 0, 1) := by decide +kernel
theorem dX1_told_116 : decode cX1_told 116 = .ok (.getfield 26, 3) := by decide +kernel
theorem dX1_told_119 : decode cX1_told 119 = .ok (.getfield 65, 3) := by decide +kernel
theorem dX1_told_122 : decode cX1_told 122 = .ok (.imul, 1) := by decide +kernel
theorem dX1_told_123 : decode cX1_told 123 = .ok (.invokevirtual 71, 3) := by decide +kernel
theorem dX1_told_126 : decode cX1_told 126 = .ok (.aload_n 0, 1) := by decide +kernel
theorem dX1_told_127 : decode cX1_told 127 = .ok (.getfield 20, 3) := by decide +kernel
theorem dX1_told_130 : decode cX1_told 130 = .ok (.iload_n 1, 1) := by decide +kernel
theorem dX1_told_131 : decode cX1_told 131 = .ok (.aload_n 0, 1) := by decide +kernel
theorem dX1_told_132 : decode cX1_told 132 = .ok (.getfield 26, 3) := by decide +kernel
theorem dX1_told_135 : decode cX1_told 135 = .ok (.getfield 65, 3) := by decide +kernel
theorem dX1_told_138 : decode cX1_told 138 = .ok (.imul, 1) := by decide +kernel
theorem dX1_told_139 : decode cX1_told 139 = .ok (.invokevirtual 71, 3) := by decide +kernel
theorem dX1_told_142 : decode cX1_told 142 = .ok (.isub, 1) := by decide +kernel
theorem dX1_told_143 : decode cX1_told 143 = .ok (.ireturn, 1) := by decide +kernel
theorem dX1_told_144 : decode cX1_told 144 = .ok (.aload_n 0, 1) := by decide +kernel
theorem dX1_told_145 : decode cX1_told 145 = .ok (.iload_n 3, 1) := by decide +kernel
theorem dX1_told_146 : decode cX1_told 146 = .ok (.sipush 300, 3) := by decide +kernel
theorem dX1_told_149 : decode cX1_told 149 = .ok (.invokevirtual 147, 3) := by decide +kernel
theorem dX1_told_152 : decode cX1_told 152 = .ok (.ireturn, 1) := by decide +kernel
theorem dX1_rankIn_0 : decode cX1_rankIn 0 = .ok (.aload_n 0, 1) := by decide +kernel
theorem dX1_rankIn_1 : decode cX1_rankIn 1 = .ok (.getfield 14, 3) := by decide +kernel
theorem dX1_rankIn_4 : decode cX1_rankIn 4 = .ok (.iload_n 1, 1) := by decide +kernel
theorem dX1_rankIn_5 : decode cX1_rankIn 5 = .ok (.invokevirtual 71, 3) := by decide +kernel
theorem dX1_rankIn_8 : decode cX1_rankIn 8 = .ok (.istore_n 3, 1) := by decide +kernel
theorem dX1_rankIn_9 : decode cX1_rankIn 9 = .ok (.iload_n 3, 1) := by decide +kernel
theorem dX1_rankIn_10 : decode cX1_rankIn 10 = .ok (.ldc 82, 2) := by decide +kernel
theorem dX1_rankIn_12 : decode cX1_rankIn 12 = .ok (.iand, 1) := by decide +kernel
theorem dX1_rankIn_13 : decode cX1_rankIn 13 = .ok (.ifCond .eq 18, 3) := by decide +kernel
theorem dX1_rankIn_16 : decode cX1_rankIn 16 = .ok (.iload_n 2, 1) := by decide +kernel
theorem dX1_rankIn_17 : decode cX1_rankIn 17 = .ok (.iload_n 3, 1) := by decide +kernel
theorem dX1_rankIn_18 : decode cX1_rankIn 18 = .ok (.bipush 15, 2) := by decide +kernel
theorem dX1_rankIn_20 : decode cX1_rankIn 20 = .ok (.iand, 1) := by decide +kernel
theorem dX1_rankIn_21 : decode cX1_rankIn 21 = .ok (.invokestatic 114, 3) := by decide +kernel
theorem dX1_rankIn_24 : decode cX1_rankIn 24 = .ok (.ifCond .eq 7, 3) := by decide +kernel
theorem dX1_rankIn_27 : decode cX1_rankIn 27 = .ok (.iconst 1, 1) := by decide +kernel
theorem dX1_rankIn_28 : decode cX1_rankIn 28 = .ok (.goto 4, 3) := by decide +kernel
theorem dX1_rankIn_31 : decode cX1_rankIn 31 = .ok (.iconst 0, 1) := by decide +kernel
theorem dX1_rankIn_32 : decode cX1_rankIn 32 = .ok (.istore 4, 2) := by decide +kernel
theorem dX1_rankIn_34 : decode cX1_rankIn 34 = .ok (.iload 4, 2) := by decide +kernel
theorem dX1_rankIn_36 : decode cX1_rankIn 36 = .ok (.ifCond .eq 14, 3) := by decide +kernel
theorem dX1_rankIn_39 : decode cX1_rankIn 39 = .ok (.iload_n 3, 1) := by decide +kernel
theorem dX1_rankIn_40 : decode cX1_rankIn 40 = .ok (.bipush 8, 2) := by decide +kernel
theorem dX1_rankIn_42 : decode cX1_rankIn 42 = .ok (.ishr, 1) := by decide +kernel
theorem dX1_rankIn_43 : decode cX1_rankIn 43 = .ok (.iload_n 2, 1) := by decide +kernel
theorem dX1_rankIn_44 : decode cX1_rankIn 44 = .ok (.invokestatic 118, 3) := by decide +kernel
theorem dX1_rankIn_47 : decode cX1_rankIn 47 = .ok (.goto 5, 3) := by decide +kernel
theorem dX1_rankIn_50 : decode cX1_rankIn 50 = .ok (.bipush (-2), 2) := by decide +kernel
theorem dX1_rankIn_52 : decode cX1_rankIn 52 = .ok (.ireturn, 1) := by decide +kernel
theorem dX1_howMany_0 : decode cX1_howMany 0 = .ok (.iconst 0, 1) := by decide +kernel
theorem dX1_howMany_1 : decode cX1_howMany 1 = .ok (.istore_n 2, 1) := by decide +kernel
theorem dX1_howMany_2 : decode cX1_howMany 2 = .ok (.iconst 0, 1) := by decide +kernel
theorem dX1_howMany_3 : decode cX1_howMany 3 = .ok (.istore_n 3, 1) := by decide +kernel
theorem dX1_howMany_4 : decode cX1_howMany 4 = .ok (.iload_n 3, 1) := by decide +kernel
theorem dX1_howMany_5 : decode cX1_howMany 5 = .ok (.aload_n 0, 1) := by decide +kernel
theorem dX1_howMany_6 : decode cX1_howMany 6 = .ok (.getfield 53, 3) := by decide +kernel
theorem dX1_howMany_9 : decode cX1_howMany 9 = .ok (.if_icmp .ge 81, 3) := by decide +kernel
theorem dX1_howMany_12 : decode cX1_howMany 12 = .ok (.aload_n 0, 1) := by decide +kernel
theorem dX1_howMany_13 : decode cX1_howMany 13 = .ok (.getfield 14, 3) := by decide +kernel
theorem dX1_howMany_16 : decode cX1_howMany 16 = .ok (.iload_n 3, 1) := by decide +kernel
theorem dX1_howMany_17 : decode cX1_howMany 17 = .ok (.invokevirtual 71, 3) := by decide +kernel
theorem dX1_howMany_20 : decode cX1_howMany 20 = .ok (.ldc 82, 2) := by decide +kernel
theorem dX1_howMany_22 : decode cX1_howMany 22 = .ok (.iand, 1) := by decide +kernel
theorem dX1_howMany_23 : decode cX1_howMany 23 = .ok (.ifCond .eq 7, 3) := by decide +kernel
theorem dX1_howMany_26 : decode cX1_howMany 26 = .ok (.iconst 1, 1) := by decide +kernel
theorem dX1_howMany_27 : decode cX1_howMany 27 = .ok (.goto 4, 3) := by decide +kernel
theorem dX1_howMany_30 : decode cX1_howMany 30 = .ok (.iconst 0, 1) := by decide +kernel
theorem dX1_howMany_31 : decode cX1_howMany 31 = .ok (.istore 4, 2) := by decide +kernel
theorem dX1_howMany_33 : decode cX1_howMany 33 = .ok (.iload_n 1, 1) := by decide +kernel
theorem dX1_howMany_34 : decode cX1_howMany 34 = .ok (.ifCond .ne 8, 3) := by decide +kernel
theorem dX1_howMany_37 : decode cX1_howMany 37 = .ok (.iload 4, 2) := by decide +kernel
theorem dX1_howMany_39 : decode cX1_howMany 39 = .ok (.ifCond .eq 42, 3) := by decide +kernel
theorem dX1_howMany_42 : decode cX1_howMany 42 = .ok (.iload_n 1, 1) := by decide +kernel
theorem dX1_howMany_43 : decode cX1_howMany 43 = .ok (.iconst 1, 1) := by decide +kernel
theorem dX1_howMany_44 : decode cX1_howMany 44 = .ok (.if_icmp .ne 11, 3) := by decide +kernel
theorem dX1_howMany_47 : decode cX1_howMany 47 = .ok (.aload_n 0, 1) := by decide +kernel
theorem dX1_howMany_48 : decode cX1_howMany 48 = .ok (.iload_n 3, 1) := by decide +kernel
theorem dX1_howMany_49 : decode cX1_howMany 49 = .ok (.invokevirtual 143, 3) := by decide +kernel
theorem dX1_howMany_52 : decode cX1_howMany 52 = .ok (.ifCond .ne 29, 3) := by decide +kernel
theorem dX1_howMany_55 : decode cX1_howMany 55 = .ok (.iload_n 1, 1) := by decide +kernel
theorem dX1_howMany_56 : decode cX1_howMany 56 = .ok (.iconst 2, 1) := by decide +kernel
theorem dX1_howMany_57 : decode cX1_howMany 57 = .ok (.if_icmp .ne 27, 3) := by decide +kernel
theorem dX1_howMany_60 : decode cX1_howMany 60 = .ok (.iload 4, 2) := by decide +kernel
theorem dX1_howMany_62 : decode cX1_howMany 62 = .ok (.ifCond .eq 22, 3) := by decide +kernel
theorem dX1_howMany_65 : decode cX1_howMany 65 = .ok (.aload_n 0, 1) := by decide +kernel
theorem dX1_howMany_66 : decode cX1_howMany 66 = .ok (.aload_n 0, 1) := by decide +kernel
theorem dX1_howMany_67 : decode cX1_howMany 67 = .ok (.getfield 14, 3) := by decide +kernel
theorem dX1_howMany_70 : decode cX1_howMany 70 = .ok (.iload_n 3, 1) := by decide +kernel
theorem dX1_howMany_71 : decode cX1_howMany 71 = .ok (.invokevirtual 71, 3) := by decide +kernel
theorem dX1_howMany_74 : decode cX1_howMany 74 = .ok (.iconst 1, 1) := by decide +kernel
theorem dX1_howMany_75 : decode cX1_howMany 75 = .ok (.invokevirtual 147, 3) := by decide +kernel
theorem dX1_howMany_78 : decode cX1_howMany 78 = .ok (.ifCond .ne 6, 3) := by decide +kernel
theorem dX1_howMany_81 : decode cX1_howMany 81 = .ok (.iinc 2 1, 3) := by decide +kernel
theorem dX1_howMany_84 : decode cX1_howMany 84 = .ok (.iinc 3 1, 3) := by decide +kernel
theorem dX1_howMany_87 : decode cX1_howMany 87 = .ok (.goto (-83), 3) := by decide +kernel
theorem dX1_howMany_90 : decode cX1_howMany 90 = .ok (.iload_n 2, 1) := by decide +kernel
theorem dX1_howMany_91 : decode cX1_howMany 91 = .ok (.ireturn, 1) := by decide +kernel
theorem dX1_countAbove_0 : decode cX1_countAbove 0 = .ok (.iconst 0, 1) := by decide +kernel
theorem dX1_countAbove_1 : decode cX1_countAbove 1 = .ok (.istore_n 3, 1) := by decide +kernel
theorem dX1_countAbove_2 : decode cX1_countAbove 2 = .ok (.iconst 0, 1) := by decide +kernel
theorem dX1_countAbove_3 : decode cX1_countAbove 3 = .ok (.istore 4, 2) := by decide +kernel
theorem dX1_countAbove_5 : decode cX1_countAbove 5 = .ok (.iload 4, 2) := by decide +kernel
theorem dX1_countAbove_7 : decode cX1_countAbove 7 = .ok (.aload_n 0, 1) := by decide +kernel
theorem dX1_countAbove_8 : decode cX1_countAbove 8 = .ok (.getfield 53, 3) := by decide +kernel
theorem dX1_countAbove_11 : decode cX1_countAbove 11 = .ok (.if_icmp .ge 33, 3) := by decide +kernel
theorem dX1_countAbove_14 : decode cX1_countAbove 14 = .ok (.iload_n 3, 1) := by decide +kernel
theorem dX1_countAbove_15 : decode cX1_countAbove 15 = .ok (.iload_n 2, 1) := by decide +kernel
theorem dX1_countAbove_16 : decode cX1_countAbove 16 = .ok (.if_icmp .ge 28, 3) := by decide +kernel
theorem dX1_countAbove_19 : decode cX1_countAbove 19 = .ok (.iload_n 1, 1) := by decide +kernel
theorem dX1_countAbove_20 : decode cX1_countAbove 20 = .ok (.aload_n 0, 1) := by decide +kernel
theorem dX1_countAbove_21 : decode cX1_countAbove 21 = .ok (.getfield 14, 3) := by decide +kernel
theorem dX1_countAbove_24 : decode cX1_countAbove 24 = .ok (.iload 4, 2) := by decide +kernel
theorem dX1_countAbove_26 : decode cX1_countAbove 26 = .ok (.invokevirtual 71, 3) := by decide +kernel
theorem dX1_countAbove_29 : decode cX1_countAbove 29 = .ok (.invokestatic 150, 3) := by decide +kernel
theorem dX1_countAbove_32 : decode cX1_countAbove 32 = .ok (.ifCond .eq 6, 3) := by decide +kernel
theorem dX1_countAbove_35 : decode cX1_countAbove 35 = .ok (.iinc 3 1, 3) := by decide +kernel
theorem dX1_countAbove_38 : decode cX1_countAbove 38 = .ok (.iinc 4 1, 3) := by decide +kernel
theorem dX1_countAbove_41 : decode cX1_countAbove 41 = .ok (.goto (-36), 3) := by decide +kernel
theorem dX1_countAbove_44 : decode cX1_countAbove 44 = .ok (.iload_n 3, 1) := by decide +kernel
theorem dX1_countAbove_45 : decode cX1_countAbove 45 = .ok (.ireturn, 1) := by decide +kernel
theorem dX1_isBelow_0 : decode cX1_isBelow 0 = .ok (.iload_n 0, 1) := by decide +kernel
theorem dX1_isBelow_1 : decode cX1_isBelow 1 = .ok (.iload_n 1, 1) := by decide +kernel
theorem dX1_isBelow_2 : decode cX1_isBelow 2 = .ok (.iand, 1) := by decide +kernel
theorem dX1_isBelow_3 : decode cX1_isBelow 3 = .ok (.istore_n 2, 1) := by decide +kernel
theorem dX1_isBelow_4 : decode cX1_isBelow 4 = .ok (.iload_n 1, 1) := by decide +kernel
theorem dX1_isBelow_5 : decode cX1_isBelow 5 = .ok (.iconst 4, 1) := by decide +kernel
theorem dX1_isBelow_6 : decode cX1_isBelow 6 = .ok (.ishr, 1) := by decide +kernel
theorem dX1_isBelow_7 : decode cX1_isBelow 7 = .ok (.bipush 15, 2) := by decide +kernel
theorem dX1_isBelow_9 : decode cX1_isBelow 9 = .ok (.iand, 1) := by decide +kernel
theorem dX1_isBelow_10 : decode cX1_isBelow 10 = .ok (.istore_n 3, 1) := by decide +kernel
theorem dX1_isBelow_11 : decode cX1_isBelow 11 = .ok (.iload_n 0, 1) := by decide +kernel
theorem dX1_isBelow_12 : decode cX1_isBelow 12 = .ok (.bipush 8, 2) := by decide +kernel
theorem dX1_isBelow_14 : decode cX1_isBelow 14 = .ok (.ishr, 1) := by decide +kernel
theorem dX1_isBelow_15 : decode cX1_isBelow 15 = .ok (.sipush 4095, 3) := by decide +kernel
theorem dX1_isBelow_18 : decode cX1_isBelow 18 = .ok (.iand, 1) := by decide +kernel
theorem dX1_isBelow_19 : decode cX1_isBelow 19 = .ok (.istore 4, 2) := by decide +kernel
theorem dX1_isBelow_21 : decode cX1_isBelow 21 = .ok (.iload_n 1, 1) := by decide +kernel
theorem dX1_isBelow_22 : decode cX1_isBelow 22 = .ok (.bipush 8, 2) := by decide +kernel
theorem dX1_isBelow_24 : decode cX1_isBelow 24 = .ok (.ishr, 1) := by decide +kernel
theorem dX1_isBelow_25 : decode cX1_isBelow 25 = .ok (.sipush 4095, 3) := by decide +kernel
theorem dX1_isBelow_28 : decode cX1_isBelow 28 = .ok (.iand, 1) := by decide +kernel
theorem dX1_isBelow_29 : decode cX1_isBelow 29 = .ok (.istore 5, 2) := by decide +kernel
theorem dX1_isBelow_31 : decode cX1_isBelow 31 = .ok (.iload_n 0, 1) := by decide +kernel
theorem dX1_isBelow_32 : decode cX1_isBelow 32 = .ok (.iload_n 1, 1) := by decide +kernel
theorem dX1_isBelow_33 : decode cX1_isBelow 33 = .ok (.if_icmp .eq 30, 3) := by decide +kernel
theorem dX1_isBelow_36 : decode cX1_isBelow 36 = .ok (.iload_n 2, 1) := by decide +kernel
theorem dX1_isBelow_37 : decode cX1_isBelow 37 = .ok (.ldc 82, 2) := by decide +kernel
theorem dX1_isBelow_39 : decode cX1_isBelow 39 = .ok (.iand, 1) := by decide +kernel
theorem dX1_isBelow_40 : decode cX1_isBelow 40 = .ok (.ifCond .eq 23, 3) := by decide +kernel
theorem dX1_isBelow_43 : decode cX1_isBelow 43 = .ok (.iload_n 0, 1) := by decide +kernel
theorem dX1_isBelow_44 : decode cX1_isBelow 44 = .ok (.bipush 15, 2) := by decide +kernel
theorem dX1_isBelow_46 : decode cX1_isBelow 46 = .ok (.iand, 1) := by decide +kernel
theorem dX1_isBelow_47 : decode cX1_isBelow 47 = .ok (.iload_n 1, 1) := by decide +kernel
theorem dX1_isBelow_48 : decode cX1_isBelow 48 = .ok (.bipush 15, 2) := by decide +kernel
theorem dX1_isBelow_50 : decode cX1_isBelow 50 = .ok (.iand, 1) := by decide +kernel
theorem dX1_isBelow_51 : decode cX1_isBelow 51 = .ok (.if_icmp .ne 12, 3) := by decide +kernel
theorem dX1_isBelow_54 : decode cX1_isBelow 54 = .ok (.iload_n 3, 1) := by decide +kernel
theorem dX1_isBelow_55 : decode cX1_isBelow 55 = .ok (.iload_n 2, 1) := by decide +kernel
theorem dX1_isBelow_56 : decode cX1_isBelow 56 = .ok (.iconst 4, 1) := by decide +kernel
theorem dX1_isBelow_57 : decode cX1_isBelow 57 = .ok (.ishr, 1) := by decide +kernel
theorem dX1_isBelow_58 : decode cX1_isBelow 58 = .ok (.iand, 1) := by decide +kernel
theorem dX1_isBelow_59 : decode cX1_isBelow 59 = .ok (.iload_n 3, 1) := by decide +kernel
theorem dX1_isBelow_60 : decode cX1_isBelow 60 = .ok (.if_icmp .eq 5, 3) := by decide +kernel
theorem dX1_isBelow_63 : decode cX1_isBelow 63 = .ok (.iconst 0, 1) := by decide +kernel
theorem dX1_isBelow_64 : decode cX1_isBelow 64 = .ok (.ireturn, 1) := by decide +kernel
theorem dX1_isBelow_65 : decode cX1_isBelow 65 = .ok (.iconst 0, 1) := by decide +kernel
theorem dX1_isBelow_66 : decode cX1_isBelow 66 = .ok (.istore 6, 2) := by decide +kernel
theorem dX1_isBelow_68 : decode cX1_isBelow 68 = .ok (.iload 6, 2) := by decide +kernel
theorem dX1_isBelow_70 : decode cX1_isBelow 70 = .ok (.iconst 4, 1) := by decide +kernel
theorem dX1_isBelow_71 : decode cX1_isBelow 71 = .ok (.if_icmp .ge 28, 3) := by decide +kernel
theorem dX1_isBelow_74 : decode cX1_isBelow 74 = .ok (.iload 4, 2) := by decide +kernel
theorem dX1_isBelow_76 : decode cX1_isBelow 76 = .ok (.iload 6, 2) := by decide +kernel
theorem dX1_isBelow_78 : decode cX1_isBelow 78 = .ok (.invokestatic 118, 3) := by decide +kernel
theorem dX1_isBelow_81 : decode cX1_isBelow 81 = .ok (.iload 5, 2) := by decide +kernel
theorem dX1_isBelow_83 : decode cX1_isBelow 83 = .ok (.iload 6, 2) := by decide +kernel
theorem dX1_isBelow_85 : decode cX1_isBelow 85 = .ok (.invokestatic 118, 3) := by decide +kernel
theorem dX1_isBelow_88 : decode cX1_isBelow 88 = .ok (.if_icmp .le 5, 3) := by decide +kernel
theorem dX1_isBelow_91 : decode cX1_isBelow 91 = .ok (.iconst 0, 1) := by decide +kernel
theorem dX1_isBelow_92 : decode cX1_isBelow 92 = .ok (.ireturn, 1) := by decide +kernel
theorem dX1_isBelow_93 : decode cX1_isBelow 93 = .ok (.iinc 6 1, 3) := by decide +kernel
theorem dX1_isBelow_96 : decode cX1_isBelow 96 = .ok (.goto (-28), 3) := by decide +kernel
theorem dX1_isBelow_99 : decode cX1_isBelow 99 = .ok (.iload 4, 2) := by decide +kernel
theorem dX1_isBelow_101 : decode cX1_isBelow 101 = .ok (.invokestatic 104, 3) := by decide +kernel
theorem dX1_isBelow_104 : decode cX1_isBelow 104 = .ok (.iload 5, 2) := by decide +kernel
theorem dX1_isBelow_106 : decode cX1_isBelow 106 = .ok (.invokestatic 104, 3) := by decide +kernel
theorem dX1_isBelow_109 : decode cX1_isBelow 109 = .ok (.if_icmp .ne 7, 3) := by decide +kernel
theorem dX1_isBelow_112 : decode cX1_isBelow 112 = .ok (.iconst 1, 1) := by decide +kernel
theorem dX1_isBelow_113 : decode cX1_isBelow 113 = .ok (.goto 4, 3) := by decide +kernel
theorem dX1_isBelow_116 : decode cX1_isBelow 116 = .ok (.iconst 0, 1) := by decide +kernel
theorem dX1_isBelow_117 : decode cX1_isBelow 117 = .ok (.ireturn, 1) := by decide +kernel
theorem dX1_vertices_0 : decode cX1_vertices 0 = .ok (.aload_n 0, 1) := by decide +kernel
theorem dX1_vertices_1 : decode cX1_vertices 1 = .ok (.getfield 53, 3) := by decide +kernel
theorem dX1_vertices_4 : decode cX1_vertices 4 = .ok (.ireturn, 1) := by decide +kernel
theorem dX1_letterCount_0 : decode cX1_letterCount 0 = .ok (.aload_n 0, 1) := by decide +kernel
theorem dX1_letterCount_1 : decode cX1_letterCount 1 = .ok (.getfield 26, 3) := by decide +kernel
theorem dX1_letterCount_4 : decode cX1_letterCount 4 = .ok (.getfield 65, 3) := by decide +kernel
theorem dX1_letterCount_7 : decode cX1_letterCount 7 = .ok (.ireturn, 1) := by decide +kernel
theorem dX1_isFirst_0 : decode cX1_isFirst 0 = .ok (.iload_n 1, 1) := by decide +kernel
theorem dX1_isFirst_1 : decode cX1_isFirst 1 = .ok (.ifCond .ne 7, 3) := by decide +kernel
theorem dX1_isFirst_4 : decode cX1_isFirst 4 = .ok (.iconst 1, 1) := by decide +kernel
theorem dX1_isFirst_5 : decode cX1_isFirst 5 = .ok (.goto 4, 3) := by decide +kernel
theorem dX1_isFirst_8 : decode cX1_isFirst 8 = .ok (.iconst 0, 1) := by decide +kernel
theorem dX1_isFirst_9 : decode cX1_isFirst 9 = .ok (.ireturn, 1) := by decide +kernel
theorem dX1_isMarked_0 : decode cX1_isMarked 0 = .ok (.aload_n 0, 1) := by decide +kernel
theorem dX1_isMarked_1 : decode cX1_isMarked 1 = .ok (.getfield 14, 3) := by decide +kernel
theorem dX1_isMarked_4 : decode cX1_isMarked 4 = .ok (.iload_n 1, 1) := by decide +kernel
theorem dX1_isMarked_5 : decode cX1_isMarked 5 = .ok (.invokevirtual 71, 3) := by decide +kernel
theorem dX1_isMarked_8 : decode cX1_isMarked 8 = .ok (.istore_n 2, 1) := by decide +kernel
theorem dX1_isMarked_9 : decode cX1_isMarked 9 = .ok (.iload_n 2, 1) := by decide +kernel
theorem dX1_isMarked_10 : decode cX1_isMarked 10 = .ok (.ifCond .eq 19, 3) := by decide +kernel
theorem dX1_isMarked_13 : decode cX1_isMarked 13 = .ok (.iload_n 2, 1) := by decide +kernel
theorem dX1_isMarked_14 : decode cX1_isMarked 14 = .ok (.ldc 82, 2) := by decide +kernel
theorem dX1_isMarked_16 : decode cX1_isMarked 16 = .ok (.iand, 1) := by decide +kernel
theorem dX1_isMarked_17 : decode cX1_isMarked 17 = .ok (.ifCond .eq 16, 3) := by decide +kernel
theorem dX1_isMarked_20 : decode cX1_isMarked 20 = .ok (.iload_n 2, 1) := by decide +kernel
theorem dX1_isMarked_21 : decode cX1_isMarked 21 = .ok (.iconst 4, 1) := by decide +kernel
theorem dX1_isMarked_22 : decode cX1_isMarked 22 = .ok (.ishr, 1) := by decide +kernel
theorem dX1_isMarked_23 : decode cX1_isMarked 23 = .ok (.bipush 15, 2) := by decide +kernel
theorem dX1_isMarked_25 : decode cX1_isMarked 25 = .ok (.iand, 1) := by decide +kernel
theorem dX1_isMarked_26 : decode cX1_isMarked 26 = .ok (.ifCond .ne 7, 3) := by decide +kernel
theorem dX1_isMarked_29 : decode cX1_isMarked 29 = .ok (.iconst 1, 1) := by decide +kernel
theorem dX1_isMarked_30 : decode cX1_isMarked 30 = .ok (.goto 4, 3) := by decide +kernel
theorem dX1_isMarked_33 : decode cX1_isMarked 33 = .ok (.iconst 0, 1) := by decide +kernel
theorem dX1_isMarked_34 : decode cX1_isMarked 34 = .ok (.ireturn, 1) := by decide +kernel
theorem dX1_fan_0 : decode cX1_fan 0 = .ok (.iload_n 1, 1) := by decide +kernel
theorem dX1_fan_1 : decode cX1_fan 1 = .ok (.aload_n 0, 1) := by decide +kernel
theorem dX1_fan_2 : decode cX1_fan 2 = .ok (.getfield 26, 3) := by decide +kernel
theorem dX1_fan_5 : decode cX1_fan 5 = .ok (.getfield 65, 3) := by decide +kernel
theorem dX1_fan_8 : decode cX1_fan 8 = .ok (.imul, 1) := by decide +kernel
theorem dX1_fan_9 : decode cX1_fan 9 = .ok (.iload_n 2, 1) := by decide +kernel
theorem dX1_fan_10 : decode cX1_fan 10 = .ok (.iadd, 1) := by decide +kernel
theorem dX1_fan_11 : decode cX1_fan 11 = .ok (.istore_n 3, 1) := by decide +kernel
theorem dX1_fan_12 : decode cX1_fan 12 = .ok (.aload_n 0, 1) := by decide +kernel
theorem dX1_fan_13 : decode cX1_fan 13 = .ok (.getfield 20, 3) := by decide +kernel
theorem dX1_fan_16 : decode cX1_fan 16 = .ok (.iload_n 3, 1) := by decide +kernel
theorem dX1_fan_17 : decode cX1_fan 17 = .ok (.iconst 1, 1) := by decide +kernel
theorem dX1_fan_18 : decode cX1_fan 18 = .ok (.iadd, 1) := by decide +kernel
theorem dX1_fan_19 : decode cX1_fan 19 = .ok (.invokevirtual 71, 3) := by decide +kernel
theorem dX1_fan_22 : decode cX1_fan 22 = .ok (.aload_n 0, 1) := by decide +kernel
theorem dX1_fan_23 : decode cX1_fan 23 = .ok (.getfield 20, 3) := by decide +kernel
theorem dX1_fan_26 : decode cX1_fan 26 = .ok (.iload_n 3, 1) := by decide +kernel
theorem dX1_fan_27 : decode cX1_fan 27 = .ok (.invokevirtual 71, 3) := by decide +kernel
theorem dX1_fan_30 : decode cX1_fan 30 = .ok (.isub, 1) := by decide +kernel
theorem dX1_fan_31 : decode cX1_fan 31 = .ok (.ireturn, 1) := by decide +kernel
theorem dX1_goal_0 : decode cX1_goal 0 = .ok (.aload_n 0, 1) := by decide +kernel
theorem dX1_goal_1 : decode cX1_goal 1 = .ok (.getfield 23, 3) := by decide +kernel
theorem dX1_goal_4 : decode cX1_goal 4 = .ok (.aload_n 0, 1) := by decide +kernel
theorem dX1_goal_5 : decode cX1_goal 5 = .ok (.getfield 20, 3) := by decide +kernel
theorem dX1_goal_8 : decode cX1_goal 8 = .ok (.iload_n 1, 1) := by decide +kernel
theorem dX1_goal_9 : decode cX1_goal 9 = .ok (.aload_n 0, 1) := by decide +kernel
theorem dX1_goal_10 : decode cX1_goal 10 = .ok (.getfield 26, 3) := by decide +kernel
theorem dX1_goal_13 : decode cX1_goal 13 = .ok (.getfield 65, 3) := by decide +kernel
theorem dX1_goal_16 : decode cX1_goal 16 = .ok (.imul, 1) := by decide +kernel
theorem dX1_goal_17 : decode cX1_goal 17 = .ok (.iload_n 2, 1) := by decide +kernel
theorem dX1_goal_18 : decode cX1_goal 18 = .ok (.iadd, 1) := by decide +kernel
theorem dX1_goal_19 : decode cX1_goal 19 = .ok (.invokevirtual 71, 3) := by decide +kernel
theorem dX1_goal_22 : decode cX1_goal 22 = .ok (.iload_n 3, 1) := by decide +kernel
theorem dX1_goal_23 : decode cX1_goal 23 = .ok (.iadd, 1) := by decide +kernel
theorem dX1_goal_24 : decode cX1_goal 24 = .ok (.invokevirtual 71, 3) := by decide +kernel
theorem dX1_goal_27 : decode cX1_goal 27 = .ok (.ireturn, 1) := by decide +kernel
theorem dX3_init_0 : decode cX3_init 0 = .ok (.aload_n 0, 1) := by decide +kernel
theorem dX3_init_1 : decode cX3_init 1 = .ok (.invokespecial 3, 3) := by decide +kernel
theorem dX3_init_4 : decode cX3_init 4 = .ok (.aload_n 0, 1) := by decide +kernel
theorem dX3_init_5 : decode cX3_init 5 = .ok (.new 9, 3) := by decide +kernel
theorem dX3_init_8 : decode cX3_init 8 = .ok (.dup, 1) := by decide +kernel
theorem dX3_init_9 : decode cX3_init 9 = .ok (.iconst 0, 1) := by decide +kernel
theorem dX3_init_10 : decode cX3_init 10 = .ok (.invokespecial 11, 3) := by decide +kernel
theorem dX3_init_13 : decode cX3_init 13 = .ok (.putfield 14, 3) := by decide +kernel
theorem dX3_init_16 : decode cX3_init 16 = .ok (.aload_n 0, 1) := by decide +kernel
theorem dX3_init_17 : decode cX3_init 17 = .ok (.new 9, 3) := by decide +kernel
theorem dX3_init_20 : decode cX3_init 20 = .ok (.dup, 1) := by decide +kernel
theorem dX3_init_21 : decode cX3_init 21 = .ok (.iconst 0, 1) := by decide +kernel
theorem dX3_init_22 : decode cX3_init 22 = .ok (.invokespecial 11, 3) := by decide +kernel
theorem dX3_init_25 : decode cX3_init 25 = .ok (.putfield 18, 3) := by decide +kernel
theorem dX3_init_28 : decode cX3_init 28 = .ok (.aload_n 0, 1) := by decide +kernel
theorem dX3_init_29 : decode cX3_init 29 = .ok (.new 9, 3) := by decide +kernel
theorem dX3_init_32 : decode cX3_init 32 = .ok (.dup, 1) := by decide +kernel
theorem dX3_init_33 : decode cX3_init 33 = .ok (.iconst 0, 1) := by decide +kernel
theorem dX3_init_34 : decode cX3_init 34 = .ok (.invokespecial 11, 3) := by decide +kernel
theorem dX3_init_37 : decode cX3_init 37 = .ok (.putfield 21, 3) := by decide +kernel
theorem dX3_init_40 : decode cX3_init 40 = .ok (.aload_n 0, 1) := by decide +kernel
theorem dX3_init_41 : decode cX3_init 41 = .ok (.new 9, 3) := by decide +kernel
theorem dX3_init_44 : decode cX3_init 44 = .ok (.dup, 1) := by decide +kernel
theorem dX3_init_45 : decode cX3_init 45 = .ok (.iconst 0, 1) := by decide +kernel
theorem dX3_init_46 : decode cX3_init 46 = .ok (.invokespecial 11, 3) := by decide +kernel
theorem dX3_init_49 : decode cX3_init 49 = .ok (.putfield 24, 3) := by decide +kernel
theorem dX3_init_52 : decode cX3_init 52 = .ok (.aload_n 0, 1) := by decide +kernel
theorem dX3_init_53 : decode cX3_init 53 = .ok (.new 9, 3) := by decide +kernel
theorem dX3_init_56 : decode cX3_init 56 = .ok (.dup, 1) := by decide +kernel
theorem dX3_init_57 : decode cX3_init 57 = .ok (.iconst 0, 1) := by decide +kernel
theorem dX3_init_58 : decode cX3_init 58 = .ok (.invokespecial 11, 3) := by decide +kernel
theorem dX3_init_61 : decode cX3_init 61 = .ok (.putfield 27, 3) := by decide +kernel
theorem dX3_init_64 : decode cX3_init 64 = .ok (.aload_n 0, 1) := by decide +kernel
theorem dX3_init_65 : decode cX3_init 65 = .ok (.new 9, 3) := by decide +kernel
theorem dX3_init_68 : decode cX3_init 68 = .ok (.dup, 1) := by decide +kernel
theorem dX3_init_69 : decode cX3_init 69 = .ok (.iconst 0, 1) := by decide +kernel
theorem dX3_init_70 : decode cX3_init 70 = .ok (.invokespecial 11, 3) := by decide +kernel
theorem dX3_init_73 : decode cX3_init 73 = .ok (.putfield 30, 3) := by decide +kernel
theorem dX3_init_76 : decode cX3_init 76 = .ok (.return_, 1) := by decide +kernel
theorem dX3_isOnLoop_0 : decode cX3_isOnLoop 0 = .ok (.aload_n 0, 1) := by decide +kernel
theorem dX3_isOnLoop_1 : decode cX3_isOnLoop 1 = .ok (.iload_n 1, 1) := by decide +kernel
theorem dX3_isOnLoop_2 : decode cX3_isOnLoop 2 = .ok (.iconst 4, 1) := by decide +kernel
theorem dX3_isOnLoop_3 : decode cX3_isOnLoop 3 = .ok (.invokevirtual 33, 3) := by decide +kernel
theorem dX3_isOnLoop_6 : decode cX3_isOnLoop 6 = .ok (.ireturn, 1) := by decide +kernel
theorem dX3_isGood_0 : decode cX3_isGood 0 = .ok (.aload_n 0, 1) := by decide +kernel
theorem dX3_isGood_1 : decode cX3_isGood 1 = .ok (.iload_n 1, 1) := by decide +kernel
theorem dX3_isGood_2 : decode cX3_isGood 2 = .ok (.bipush 8, 2) := by decide +kernel
theorem dX3_isGood_4 : decode cX3_isGood 4 = .ok (.invokevirtual 33, 3) := by decide +kernel
theorem dX3_isGood_7 : decode cX3_isGood 7 = .ok (.ireturn, 1) := by decide +kernel
theorem dX3_run_0 : decode cX3_run 0 = .ok (.aload_n 1, 1) := by decide +kernel
theorem dX3_run_1 : decode cX3_run 1 = .ok (.invokevirtual 37, 3) := by decide +kernel
theorem dX3_run_4 : decode cX3_run 4 = .ok (.istore_n 2, 1) := by decide +kernel
theorem dX3_run_5 : decode cX3_run 5 = .ok (.aload_n 0, 1) := by decide +kernel
theorem dX3_run_6 : decode cX3_run 6 = .ok (.getfield 14, 3) := by decide +kernel
theorem dX3_run_9 : decode cX3_run 9 = .ok (.iload_n 2, 1) := by decide +kernel
theorem dX3_run_10 : decode cX3_run 10 = .ok (.invokevirtual 43, 3) := by decide +kernel
theorem dX3_run_13 : decode cX3_run 13 = .ok (.aload_n 0, 1) := by decide +kernel
theorem dX3_run_14 : decode cX3_run 14 = .ok (.getfield 18, 3) := by decide +kernel
theorem dX3_run_17 : decode cX3_run 17 = .ok (.iload_n 2, 1) := by decide +kernel
theorem dX3_run_18 : decode cX3_run 18 = .ok (.invokevirtual 46, 3) := by decide +kernel
theorem dX3_run_21 : decode cX3_run 21 = .ok (.aload_n 0, 1) := by decide +kernel
theorem dX3_run_22 : decode cX3_run 22 = .ok (.getfield 21, 3) := by decide +kernel
theorem dX3_run_25 : decode cX3_run 25 = .ok (.iload_n 2, 1) := by decide +kernel
theorem dX3_run_26 : decode cX3_run 26 = .ok (.invokevirtual 43, 3) := by decide +kernel
theorem dX3_run_29 : decode cX3_run 29 = .ok (.aload_n 0, 1) := by decide +kernel
theorem dX3_run_30 : decode cX3_run 30 = .ok (.getfield 24, 3) := by decide +kernel
theorem dX3_run_33 : decode cX3_run 33 = .ok (.iload_n 2, 1) := by decide +kernel
theorem dX3_run_34 : decode cX3_run 34 = .ok (.invokevirtual 43, 3) := by decide +kernel
theorem dX3_run_37 : decode cX3_run 37 = .ok (.aload_n 0, 1) := by decide +kernel
theorem dX3_run_38 : decode cX3_run 38 = .ok (.getfield 27, 3) := by decide +kernel
theorem dX3_run_41 : decode cX3_run 41 = .ok (.iload_n 2, 1) := by decide +kernel
theorem dX3_run_42 : decode cX3_run 42 = .ok (.invokevirtual 46, 3) := by decide +kernel
theorem dX3_run_45 : decode cX3_run 45 = .ok (.aload_n 0, 1) := by decide +kernel
theorem dX3_run_46 : decode cX3_run 46 = .ok (.getfield 30, 3) := by decide +kernel
theorem dX3_run_49 : decode cX3_run 49 = .ok (.iload_n 2, 1) := by decide +kernel
theorem dX3_run_50 : decode cX3_run 50 = .ok (.invokevirtual 46, 3) := by decide +kernel
theorem dX3_run_53 : decode cX3_run 53 = .ok (.aload_n 0, 1) := by decide +kernel
theorem dX3_run_54 : decode cX3_run 54 = .ok (.iconst 0, 1) := by decide +kernel
theorem dX3_run_55 : decode cX3_run 55 = .ok (.putfield 49, 3) := by decide +kernel
theorem dX3_run_58 : decode cX3_run 58 = .ok (.aload_n 0, 1) := by decide +kernel
theorem dX3_run_59 : decode cX3_run 59 = .ok (.iconst 0, 1) := by decide +kernel
theorem dX3_run_60 : decode cX3_run 60 = .ok (.putfield 53, 3) := by decide +kernel
theorem dX3_run_63 : decode cX3_run 63 = .ok (.aload_n 0, 1) := by decide +kernel
theorem dX3_run_64 : decode cX3_run 64 = .ok (.iconst 0, 1) := by decide +kernel
theorem dX3_run_65 : decode cX3_run 65 = .ok (.putfield 56, 3) := by decide +kernel
theorem dX3_run_68 : decode cX3_run 68 = .ok (.iconst 0, 1) := by decide +kernel
theorem dX3_run_69 : decode cX3_run 69 = .ok (.istore_n 3, 1) := by decide +kernel
theorem dX3_run_70 : decode cX3_run 70 = .ok (.iload_n 3, 1) := by decide +kernel
theorem dX3_run_71 : decode cX3_run 71 = .ok (.iload_n 2, 1) := by decide +kernel
theorem dX3_run_72 : decode cX3_run 72 = .ok (.if_icmp .ge 75, 3) := by decide +kernel
theorem dX3_run_75 : decode cX3_run 75 = .ok (.aload_n 1, 1) := by decide +kernel
theorem dX3_run_76 : decode cX3_run 76 = .ok (.iload_n 3, 1) := by decide +kernel
theorem dX3_run_77 : decode cX3_run 77 = .ok (.invokevirtual 59, 3) := by decide +kernel
theorem dX3_run_80 : decode cX3_run 80 = .ok (.ifCond .eq 61, 3) := by decide +kernel
theorem dX3_run_83 : decode cX3_run 83 = .ok (.aload_n 0, 1) := by decide +kernel
theorem dX3_run_84 : decode cX3_run 84 = .ok (.getfield 14, 3) := by decide +kernel
theorem dX3_run_87 : decode cX3_run 87 = .ok (.iload_n 3, 1) := by decide +kernel
theorem dX3_run_88 : decode cX3_run 88 = .ok (.invokevirtual 63, 3) := by decide +kernel
theorem dX3_run_91 : decode cX3_run 91 = .ok (.ifCond .ne 50, 3) := by decide +kernel
theorem dX3_run_94 : decode cX3_run 94 = .ok (.aload_n 0, 1) := by decide +kernel
theorem dX3_run_95 : decode cX3_run 95 = .ok (.iload_n 3, 1) := by decide +kernel
theorem dX3_run_96 : decode cX3_run 96 = .ok (.invokevirtual 67, 3) := by decide +kernel
theorem dX3_run_99 : decode cX3_run 99 = .ok (.iconst 0, 1) := by decide +kernel
theorem dX3_run_100 : decode cX3_run 100 = .ok (.istore 4, 2) := by decide +kernel
theorem dX3_run_102 : decode cX3_run 102 = .ok (.iload 4, 2) := by decide +kernel
theorem dX3_run_104 : decode cX3_run 104 = .ok (.iconst 2, 1) := by decide +kernel
theorem dX3_run_105 : decode cX3_run 105 = .ok (.iload_n 2, 1) := by decide +kernel
theorem dX3_run_106 : decode cX3_run 106 = .ok (.imul, 1) := by decide +kernel
theorem dX3_run_107 : decode cX3_run 107 = .ok (.if_icmp .ge 34, 3) := by decide +kernel
theorem dX3_run_110 : decode cX3_run 110 = .ok (.aload_n 0, 1) := by decide +kernel
theorem dX3_run_111 : decode cX3_run 111 = .ok (.getfield 49, 3) := by decide +kernel
theorem dX3_run_114 : decode cX3_run 114 = .ok (.ifCond .le 27, 3) := by decide +kernel
theorem dX3_run_117 : decode cX3_run 117 = .ok (.aload_n 0, 1) := by decide +kernel
theorem dX3_run_118 : decode cX3_run 118 = .ok (.aload_n 1, 1) := by decide +kernel
theorem dX3_run_119 : decode cX3_run 119 = .ok (.aload_n 0, 1) := by decide +kernel
theorem dX3_run_120 : decode cX3_run 120 = .ok (.getfield 27, 3) := by decide +kernel
theorem dX3_run_123 : decode cX3_run 123 = .ok (.aload_n 0, 1) := by decide +kernel
theorem dX3_run_124 : decode cX3_run 124 = .ok (.getfield 49, 3) := by decide +kernel
theorem dX3_run_127 : decode cX3_run 127 = .ok (.iconst 1, 1) := by decide +kernel
theorem dX3_run_128 : decode cX3_run 128 = .ok (.isub, 1) := by decide +kernel
theorem dX3_run_129 : decode cX3_run 129 = .ok (.invokevirtual 63, 3) := by decide +kernel
theorem dX3_run_132 : decode cX3_run 132 = .ok (.invokevirtual 70, 3) := by decide +kernel
theorem dX3_run_135 : decode cX3_run 135 = .ok (.iinc 4 1, 3) := by decide +kernel
theorem dX3_run_138 : decode cX3_run 138 = .ok (.goto (-36), 3) := by decide +kernel
theorem dX3_run_141 : decode cX3_run 141 = .ok (.iinc 3 1, 3) := by decide +kernel
theorem dX3_run_144 : decode cX3_run 144 = .ok (.goto (-74), 3) := by decide +kernel
theorem dX3_run_147 : decode cX3_run 147 = .ok (.return_, 1) := by decide +kernel
theorem dX3_goOn_0 : decode cX3_goOn 0 = .ok (.aload_n 0, 1) := by decide +kernel
theorem dX3_goOn_1 : decode cX3_goOn 1 = .ok (.getfield 24, 3) := by decide +kernel
theorem dX3_goOn_4 : decode cX3_goOn 4 = .ok (.iload_n 2, 1) := by decide +kernel
theorem dX3_goOn_5 : decode cX3_goOn 5 = .ok (.invokevirtual 63, 3) := by decide +kernel
theorem dX3_goOn_8 : decode cX3_goOn 8 = .ok (.ldc 74, 2) := by decide +kernel
theorem dX3_goOn_10 : decode cX3_goOn 10 = .ok (.iand, 1) := by decide +kernel
theorem dX3_goOn_11 : decode cX3_goOn 11 = .ok (.istore_n 3, 1) := by decide +kernel
theorem dX3_goOn_12 : decode cX3_goOn 12 = .ok (.aload_n 0, 1) := by decide +kernel
theorem dX3_goOn_13 : decode cX3_goOn 13 = .ok (.getfield 24, 3) := by decide +kernel
theorem dX3_goOn_16 : decode cX3_goOn 16 = .ok (.iload_n 2, 1) := by decide +kernel
theorem dX3_goOn_17 : decode cX3_goOn 17 = .ok (.invokevirtual 63, 3) := by decide +kernel
theorem dX3_goOn_20 : decode cX3_goOn 20 = .ok (.bipush 16, 2) := by decide +kernel
theorem dX3_goOn_22 : decode cX3_goOn 22 = .ok (.ishr, 1) := by decide +kernel
theorem dX3_goOn_23 : decode cX3_goOn 23 = .ok (.istore 4, 2) := by decide +kernel
theorem dX3_goOn_25 : decode cX3_goOn 25 = .ok (.iload 4, 2) := by decide +kernel
theorem dX3_goOn_27 : decode cX3_goOn 27 = .ok (.aload_n 1, 1) := by decide +kernel
theorem dX3_goOn_28 : decode cX3_goOn 28 = .ok (.invokevirtual 75, 3) := by decide +kernel
theorem dX3_goOn_31 : decode cX3_goOn 31 = .ok (.if_icmp .ge 85, 3) := by decide +kernel
theorem dX3_goOn_34 : decode cX3_goOn 34 = .ok (.aload_n 1, 1) := by decide +kernel
theorem dX3_goOn_35 : decode cX3_goOn 35 = .ok (.iload_n 2, 1) := by decide +kernel
theorem dX3_goOn_36 : decode cX3_goOn 36 = .ok (.iload 4, 2) := by decide +kernel
theorem dX3_goOn_38 : decode cX3_goOn 38 = .ok (.invokevirtual 78, 3) := by decide +kernel
theorem dX3_goOn_41 : decode cX3_goOn 41 = .ok (.istore 5, 2) := by decide +kernel
theorem dX3_goOn_43 : decode cX3_goOn 43 = .ok (.iload_n 3, 1) := by decide +kernel
theorem dX3_goOn_44 : decode cX3_goOn 44 = .ok (.iload 5, 2) := by decide +kernel
theorem dX3_goOn_46 : decode cX3_goOn 46 = .ok (.if_icmp .ge 62, 3) := by decide +kernel
theorem dX3_goOn_49 : decode cX3_goOn 49 = .ok (.aload_n 1, 1) := by decide +kernel
theorem dX3_goOn_50 : decode cX3_goOn 50 = .ok (.iload_n 2, 1) := by decide +kernel
theorem dX3_goOn_51 : decode cX3_goOn 51 = .ok (.iload 4, 2) := by decide +kernel
theorem dX3_goOn_53 : decode cX3_goOn 53 = .ok (.iload_n 3, 1) := by decide +kernel
theorem dX3_goOn_54 : decode cX3_goOn 54 = .ok (.invokevirtual 82, 3) := by decide +kernel
theorem dX3_goOn_57 : decode cX3_goOn 57 = .ok (.istore 6, 2) := by decide +kernel
theorem dX3_goOn_59 : decode cX3_goOn 59 = .ok (.aload_n 0, 1) := by decide +kernel
theorem dX3_goOn_60 : decode cX3_goOn 60 = .ok (.getfield 14, 3) := by decide +kernel
theorem dX3_goOn_63 : decode cX3_goOn 63 = .ok (.iload 6, 2) := by decide +kernel
theorem dX3_goOn_65 : decode cX3_goOn 65 = .ok (.invokevirtual 63, 3) := by decide +kernel
theorem dX3_goOn_68 : decode cX3_goOn 68 = .ok (.ifCond .ne 27, 3) := by decide +kernel
theorem dX3_goOn_71 : decode cX3_goOn 71 = .ok (.aload_n 0, 1) := by decide +kernel
theorem dX3_goOn_72 : decode cX3_goOn 72 = .ok (.getfield 24, 3) := by decide +kernel
theorem dX3_goOn_75 : decode cX3_goOn 75 = .ok (.iload_n 2, 1) := by decide +kernel
theorem dX3_goOn_76 : decode cX3_goOn 76 = .ok (.iload 4, 2) := by decide +kernel
theorem dX3_goOn_78 : decode cX3_goOn 78 = .ok (.bipush 16, 2) := by decide +kernel
theorem dX3_goOn_80 : decode cX3_goOn 80 = .ok (.ishl, 1) := by decide +kernel
theorem dX3_goOn_81 : decode cX3_goOn 81 = .ok (.iload_n 3, 1) := by decide +kernel
theorem dX3_goOn_82 : decode cX3_goOn 82 = .ok (.iadd, 1) := by decide +kernel
theorem dX3_goOn_83 : decode cX3_goOn 83 = .ok (.iconst 1, 1) := by decide +kernel
theorem dX3_goOn_84 : decode cX3_goOn 84 = .ok (.iadd, 1) := by decide +kernel
theorem dX3_goOn_85 : decode cX3_goOn 85 = .ok (.invokevirtual 86, 3) := by decide +kernel
theorem dX3_goOn_88 : decode cX3_goOn 88 = .ok (.aload_n 0, 1) := by decide +kernel
theorem dX3_goOn_89 : decode cX3_goOn 89 = .ok (.iload 6, 2) := by decide +kernel
theorem dX3_goOn_91 : decode cX3_goOn 91 = .ok (.invokevirtual 67, 3) := by decide +kernel
theorem dX3_goOn_94 : decode cX3_goOn 94 = .ok (.return_, 1) := by decide +kernel
theorem dX3_goOn_95 : decode cX3_goOn 95 = .ok (.aload_n 0, 1) := by decide +kernel
theorem dX3_goOn_96 : decode cX3_goOn 96 = .ok (.iload_n 2, 1) := by decide +kernel
theorem dX3_goOn_97 : decode cX3_goOn 97 = .ok (.iload 6, 2) := by decide +kernel
theorem dX3_goOn_99 : decode cX3_goOn 99 = .ok (.invokevirtual 90, 3) := by decide +kernel
theorem dX3_goOn_102 : decode cX3_goOn 102 = .ok (.iinc 3 1, 3) := by decide +kernel
theorem dX3_goOn_105 : decode cX3_goOn 105 = .ok (.goto (-62), 3) := by decide +kernel
theorem dX3_goOn_108 : decode cX3_goOn 108 = .ok (.iconst 0, 1) := by decide +kernel
theorem dX3_goOn_109 : decode cX3_goOn 109 = .ok (.istore_n 3, 1) := by decide +kernel
theorem dX3_goOn_110 : decode cX3_goOn 110 = .ok (.iinc 4 1, 3) := by decide +kernel
theorem dX3_goOn_113 : decode cX3_goOn 113 = .ok (.goto (-88), 3) := by decide +kernel
theorem dX3_goOn_116 : decode cX3_goOn 116 = .ok (.aload_n 0, 1) := by decide +kernel
theorem dX3_goOn_117 : decode cX3_goOn 117 = .ok (.aload_n 1, 1) := by decide +kernel
theorem dX3_goOn_118 : decode cX3_goOn 118 = .ok (.iload_n 2, 1) := by decide +kernel
theorem dX3_goOn_119 : decode cX3_goOn 119 = .ok (.invokevirtual 93, 3) := by decide +kernel
theorem dX3_goOn_122 : decode cX3_goOn 122 = .ok (.return_, 1) := by decide +kernel
theorem dX3_enter_0 : decode cX3_enter 0 = .ok (.aload_n 0, 1) := by decide +kernel
theorem dX3_enter_1 : decode cX3_enter 1 = .ok (.dup, 1) := by decide +kernel
theorem dX3_enter_2 : decode cX3_enter 2 = .ok (.getfield 56, 3) := by decide +kernel
theorem dX3_enter_5 : decode cX3_enter 5 = .ok (.iconst 1, 1) := by decide +kernel
theorem dX3_enter_6 : decode cX3_enter 6 = .ok (.iadd, 1) := by decide +kernel
theorem dX3_enter_7 : decode cX3_enter 7 = .ok (.putfield 56, 3) := by decide +kernel
theorem dX3_enter_10 : decode cX3_enter 10 = .ok (.aload_n 0, 1) := by decide +kernel
theorem dX3_enter_11 : decode cX3_enter 11 = .ok (.getfield 14, 3) := by decide +kernel
theorem dX3_enter_14 : decode cX3_enter 14 = .ok (.iload_n 1, 1) := by decide +kernel
theorem dX3_enter_15 : decode cX3_enter 15 = .ok (.aload_n 0, 1) := by decide +kernel
theorem dX3_enter_16 : decode cX3_enter 16 = .ok (.getfield 56, 3) := by decide +kernel
theorem dX3_enter_19 : decode cX3_enter 19 = .ok (.invokevirtual 86, 3) := by decide +kernel
theorem dX3_enter_22 : decode cX3_enter 22 = .ok (.aload_n 0, 1) := by decide +kernel
theorem dX3_enter_23 : decode cX3_enter 23 = .ok (.getfield 18, 3) := by decide +kernel
theorem dX3_enter_26 : decode cX3_enter 26 = .ok (.iload_n 1, 1) := by decide +kernel
theorem dX3_enter_27 : decode cX3_enter 27 = .ok (.aload_n 0, 1) := by decide +kernel
theorem dX3_enter_28 : decode cX3_enter 28 = .ok (.getfield 56, 3) := by decide +kernel
theorem dX3_enter_31 : decode cX3_enter 31 = .ok (.invokevirtual 86, 3) := by decide +kernel
theorem dX3_enter_34 : decode cX3_enter 34 = .ok (.aload_n 0, 1) := by decide +kernel
theorem dX3_enter_35 : decode cX3_enter 35 = .ok (.iload_n 1, 1) := by decide +kernel
theorem dX3_enter_36 : decode cX3_enter 36 = .ok (.iconst 1, 1) := by decide +kernel
theorem dX3_enter_37 : decode cX3_enter 37 = .ok (.invokevirtual 96, 3) := by decide +kernel
theorem dX3_enter_40 : decode cX3_enter 40 = .ok (.aload_n 0, 1) := by decide +kernel
theorem dX3_enter_41 : decode cX3_enter 41 = .ok (.getfield 27, 3) := by decide +kernel
theorem dX3_enter_44 : decode cX3_enter 44 = .ok (.aload_n 0, 1) := by decide +kernel
theorem dX3_enter_45 : decode cX3_enter 45 = .ok (.getfield 49, 3) := by decide +kernel
theorem dX3_enter_48 : decode cX3_enter 48 = .ok (.iload_n 1, 1) := by decide +kernel
theorem dX3_enter_49 : decode cX3_enter 49 = .ok (.invokevirtual 86, 3) := by decide +kernel
theorem dX3_enter_52 : decode cX3_enter 52 = .ok (.aload_n 0, 1) := by decide +kernel
theorem dX3_enter_53 : decode cX3_enter 53 = .ok (.dup, 1) := by decide +kernel
theorem dX3_enter_54 : decode cX3_enter 54 = .ok (.getfield 49, 3) := by decide +kernel
theorem dX3_enter_57 : decode cX3_enter 57 = .ok (.iconst 1, 1) := by decide +kernel
theorem dX3_enter_58 : decode cX3_enter 58 = .ok (.iadd, 1) := by decide +kernel
theorem dX3_enter_59 : decode cX3_enter 59 = .ok (.putfield 49, 3) := by decide +kernel
theorem dX3_enter_62 : decode cX3_enter 62 = .ok (.aload_n 0, 1) := by decide +kernel
theorem dX3_enter_63 : decode cX3_enter 63 = .ok (.getfield 30, 3) := by decide +kernel
theorem dX3_enter_66 : decode cX3_enter 66 = .ok (.aload_n 0, 1) := by decide +kernel
theorem dX3_enter_67 : decode cX3_enter 67 = .ok (.getfield 53, 3) := by decide +kernel
theorem dX3_enter_70 : decode cX3_enter 70 = .ok (.iload_n 1, 1) := by decide +kernel
theorem dX3_enter_71 : decode cX3_enter 71 = .ok (.invokevirtual 86, 3) := by decide +kernel
theorem dX3_enter_74 : decode cX3_enter 74 = .ok (.aload_n 0, 1) := by decide +kernel
theorem dX3_enter_75 : decode cX3_enter 75 = .ok (.dup, 1) := by decide +kernel
theorem dX3_enter_76 : decode cX3_enter 76 = .ok (.getfield 53, 3) := by decide +kernel
theorem dX3_enter_79 : decode cX3_enter 79 = .ok (.iconst 1, 1) := by decide +kernel
theorem dX3_enter_80 : decode cX3_enter 80 = .ok (.iadd, 1) := by decide +kernel
theorem dX3_enter_81 : decode cX3_enter 81 = .ok (.putfield 53, 3) := by decide +kernel
theorem dX3_enter_84 : decode cX3_enter 84 = .ok (.return_, 1) := by decide +kernel
theorem dX3_lookAt_0 : decode cX3_lookAt 0 = .ok (.aload_n 0, 1) := by decide +kernel
theorem dX3_lookAt_1 : decode cX3_lookAt 1 = .ok (.getfield 21, 3) := by decide +kernel
theorem dX3_lookAt_4 : decode cX3_lookAt 4 = .ok (.iload_n 2, 1) := by decide +kernel
theorem dX3_lookAt_5 : decode cX3_lookAt 5 = .ok (.invokevirtual 63, 3) := by decide +kernel
theorem dX3_lookAt_8 : decode cX3_lookAt 8 = .ok (.istore_n 3, 1) := by decide +kernel
theorem dX3_lookAt_9 : decode cX3_lookAt 9 = .ok (.iload_n 2, 1) := by decide +kernel
theorem dX3_lookAt_10 : decode cX3_lookAt 10 = .ok (.iload_n 1, 1) := by decide +kernel
theorem dX3_lookAt_11 : decode cX3_lookAt 11 = .ok (.if_icmp .ne 12, 3) := by decide +kernel
theorem dX3_lookAt_14 : decode cX3_lookAt 14 = .ok (.aload_n 0, 1) := by decide +kernel
theorem dX3_lookAt_15 : decode cX3_lookAt 15 = .ok (.iload_n 1, 1) := by decide +kernel
theorem dX3_lookAt_16 : decode cX3_lookAt 16 = .ok (.iconst 2, 1) := by decide +kernel
theorem dX3_lookAt_17 : decode cX3_lookAt 17 = .ok (.invokevirtual 96, 3) := by decide +kernel
theorem dX3_lookAt_20 : decode cX3_lookAt 20 = .ok (.goto 53, 3) := by decide +kernel
theorem dX3_lookAt_23 : decode cX3_lookAt 23 = .ok (.iload_n 3, 1) := by decide +kernel
theorem dX3_lookAt_24 : decode cX3_lookAt 24 = .ok (.iconst 1, 1) := by decide +kernel
theorem dX3_lookAt_25 : decode cX3_lookAt 25 = .ok (.iand, 1) := by decide +kernel
theorem dX3_lookAt_26 : decode cX3_lookAt 26 = .ok (.ifCond .eq 33, 3) := by decide +kernel
theorem dX3_lookAt_29 : decode cX3_lookAt 29 = .ok (.aload_n 0, 1) := by decide +kernel
theorem dX3_lookAt_30 : decode cX3_lookAt 30 = .ok (.getfield 18, 3) := by decide +kernel
theorem dX3_lookAt_33 : decode cX3_lookAt 33 = .ok (.iload_n 1, 1) := by decide +kernel
theorem dX3_lookAt_34 : decode cX3_lookAt 34 = .ok (.aload_n 0, 1) := by decide +kernel
theorem dX3_lookAt_35 : decode cX3_lookAt 35 = .ok (.getfield 18, 3) := by decide +kernel
theorem dX3_lookAt_38 : decode cX3_lookAt 38 = .ok (.iload_n 1, 1) := by decide +kernel
theorem dX3_lookAt_39 : decode cX3_lookAt 39 = .ok (.invokevirtual 63, 3) := by decide +kernel
theorem dX3_lookAt_42 : decode cX3_lookAt 42 = .ok (.aload_n 0, 1) := by decide +kernel
theorem dX3_lookAt_43 : decode cX3_lookAt 43 = .ok (.getfield 14, 3) := by decide +kernel
theorem dX3_lookAt_46 : decode cX3_lookAt 46 = .ok (.iload_n 2, 1) := by decide +kernel
theorem dX3_lookAt_47 : decode cX3_lookAt 47 = .ok (.invokevirtual 63, 3) := by decide +kernel
theorem dX3_lookAt_50 : decode cX3_lookAt 50 = .ok (.invokestatic 99, 3) := by decide +kernel
theorem dX3_lookAt_53 : decode cX3_lookAt 53 = .ok (.invokevirtual 86, 3) := by decide +kernel
theorem dX3_lookAt_56 : decode cX3_lookAt 56 = .ok (.goto 17, 3) := by decide +kernel
theorem dX3_lookAt_59 : decode cX3_lookAt 59 = .ok (.iload_n 3, 1) := by decide +kernel
theorem dX3_lookAt_60 : decode cX3_lookAt 60 = .ok (.bipush 8, 2) := by decide +kernel
theorem dX3_lookAt_62 : decode cX3_lookAt 62 = .ok (.iand, 1) := by decide +kernel
theorem dX3_lookAt_63 : decode cX3_lookAt 63 = .ok (.ifCond .eq 10, 3) := by decide +kernel
theorem dX3_lookAt_66 : decode cX3_lookAt 66 = .ok (.aload_n 0, 1) := by decide +kernel
theorem dX3_lookAt_67 : decode cX3_lookAt 67 = .ok (.iload_n 1, 1) := by decide +kernel
theorem dX3_lookAt_68 : decode cX3_lookAt 68 = .ok (.bipush 8, 2) := by decide +kernel
theorem dX3_lookAt_70 : decode cX3_lookAt 70 = .ok (.invokevirtual 96, 3) := by decide +kernel
theorem dX3_lookAt_73 : decode cX3_lookAt 73 = .ok (.return_, 1) := by decide +kernel
theorem dX3_leave_0 : decode cX3_leave 0 = .ok (.aload_n 0, 1) := by decide +kernel
theorem dX3_leave_1 : decode cX3_leave 1 = .ok (.dup, 1) := by decide +kernel
theorem dX3_leave_2 : decode cX3_leave 2 = .ok (.getfield 49, 3) := by decide +kernel
theorem dX3_leave_5 : decode cX3_leave 5 = .ok (.iconst 1, 1) := by decide +kernel
theorem dX3_leave_6 : decode cX3_leave 6 = .ok (.isub, 1) := by decide +kernel
theorem dX3_leave_7 : decode cX3_leave 7 = .ok (.putfield 49, 3) := by decide +kernel
theorem dX3_leave_10 : decode cX3_leave 10 = .ok (.aload_n 0, 1) := by decide +kernel
theorem dX3_leave_11 : decode cX3_leave 11 = .ok (.getfield 18, 3) := by decide +kernel
theorem dX3_leave_14 : decode cX3_leave 14 = .ok (.iload_n 2, 1) := by decide +kernel
theorem dX3_leave_15 : decode cX3_leave 15 = .ok (.invokevirtual 63, 3) := by decide +kernel
theorem dX3_leave_18 : decode cX3_leave 18 = .ok (.aload_n 0, 1) := by decide +kernel
theorem dX3_leave_19 : decode cX3_leave 19 = .ok (.getfield 14, 3) := by decide +kernel
theorem dX3_leave_22 : decode cX3_leave 22 = .ok (.iload_n 2, 1) := by decide +kernel
theorem dX3_leave_23 : decode cX3_leave 23 = .ok (.invokevirtual 63, 3) := by decide +kernel
theorem dX3_leave_26 : decode cX3_leave 26 = .ok (.if_icmp .ne 9, 3) := by decide +kernel
theorem dX3_leave_29 : decode cX3_leave 29 = .ok (.aload_n 0, 1) := by decide +kernel
theorem dX3_leave_30 : decode cX3_leave 30 = .ok (.aload_n 1, 1) := by decide +kernel
theorem dX3_leave_31 : decode cX3_leave 31 = .ok (.iload_n 2, 1) := by decide +kernel
theorem dX3_leave_32 : decode cX3_leave 32 = .ok (.invokevirtual 104, 3) := by decide +kernel
theorem dX3_leave_35 : decode cX3_leave 35 = .ok (.aload_n 0, 1) := by decide +kernel
theorem dX3_leave_36 : decode cX3_leave 36 = .ok (.getfield 49, 3) := by decide +kernel
theorem dX3_leave_39 : decode cX3_leave 39 = .ok (.ifCond .le 61, 3) := by decide +kernel
theorem dX3_leave_42 : decode cX3_leave 42 = .ok (.aload_n 0, 1) := by decide +kernel
theorem dX3_leave_43 : decode cX3_leave 43 = .ok (.getfield 27, 3) := by decide +kernel
theorem dX3_leave_46 : decode cX3_leave 46 = .ok (.aload_n 0, 1) := by decide +kernel
theorem dX3_leave_47 : decode cX3_leave 47 = .ok (.getfield 49, 3) := by decide +kernel
theorem dX3_leave_50 : decode cX3_leave 50 = .ok (.iconst 1, 1) := by decide +kernel
theorem dX3_leave_51 : decode cX3_leave 51 = .ok (.isub, 1) := by decide +kernel
theorem dX3_leave_52 : decode cX3_leave 52 = .ok (.invokevirtual 63, 3) := by decide +kernel
theorem dX3_leave_55 : decode cX3_leave 55 = .ok (.istore_n 3, 1) := by decide +kernel
theorem dX3_leave_56 : decode cX3_leave 56 = .ok (.aload_n 0, 1) := by decide +kernel
theorem dX3_leave_57 : decode cX3_leave 57 = .ok (.getfield 18, 3) := by decide +kernel
theorem dX3_leave_60 : decode cX3_leave 60 = .ok (.iload_n 3, 1) := by decide +kernel
theorem dX3_leave_61 : decode cX3_leave 61 = .ok (.aload_n 0, 1) := by decide +kernel
theorem dX3_leave_62 : decode cX3_leave 62 = .ok (.getfield 18, 3) := by decide +kernel
theorem dX3_leave_65 : decode cX3_leave 65 = .ok (.iload_n 3, 1) := by decide +kernel
theorem dX3_leave_66 : decode cX3_leave 66 = .ok (.invokevirtual 63, 3) := by decide +kernel
theorem dX3_leave_69 : decode cX3_leave 69 = .ok (.aload_n 0, 1) := by decide +kernel
theorem dX3_leave_70 : decode cX3_leave 70 = .ok (.getfield 18, 3) := by decide +kernel
theorem dX3_leave_73 : decode cX3_leave 73 = .ok (.iload_n 2, 1) := by decide +kernel
theorem dX3_leave_74 : decode cX3_leave 74 = .ok (.invokevirtual 63, 3) := by decide +kernel
theorem dX3_leave_77 : decode cX3_leave 77 = .ok (.invokestatic 99, 3) := by decide +kernel
theorem dX3_leave_80 : decode cX3_leave 80 = .ok (.invokevirtual 86, 3) := by decide +kernel
theorem dX3_leave_83 : decode cX3_leave 83 = .ok (.aload_n 0, 1) := by decide +kernel
theorem dX3_leave_84 : decode cX3_leave 84 = .ok (.iload_n 2, 1) := by decide +kernel
theorem dX3_leave_85 : decode cX3_leave 85 = .ok (.bipush 8, 2) := by decide +kernel
theorem dX3_leave_87 : decode cX3_leave 87 = .ok (.invokevirtual 33, 3) := by decide +kernel
theorem dX3_leave_90 : decode cX3_leave 90 = .ok (.ifCond .eq 10, 3) := by decide +kernel
theorem dX3_leave_93 : decode cX3_leave 93 = .ok (.aload_n 0, 1) := by decide +kernel
theorem dX3_leave_94 : decode cX3_leave 94 = .ok (.iload_n 3, 1) := by decide +kernel
theorem dX3_leave_95 : decode cX3_leave 95 = .ok (.bipush 8, 2) := by decide +kernel
theorem dX3_leave_97 : decode cX3_leave 97 = .ok (.invokevirtual 96, 3) := by decide +kernel
theorem dX3_leave_100 : decode cX3_leave 100 = .ok (.return_, 1) := by decide +kernel
theorem dX3_release_0 : decode cX3_release 0 = .ok (.aload_n 0, 1) := by decide +kernel
theorem dX3_release_1 : decode cX3_release 1 = .ok (.getfield 53, 3) := by decide +kernel
theorem dX3_release_4 : decode cX3_release 4 = .ok (.iconst 1, 1) := by decide +kernel
theorem dX3_release_5 : decode cX3_release 5 = .ok (.isub, 1) := by decide +kernel
theorem dX3_release_6 : decode cX3_release 6 = .ok (.istore_n 3, 1) := by decide +kernel
theorem dX3_release_7 : decode cX3_release 7 = .ok (.iload_n 3, 1) := by decide +kernel
theorem dX3_release_8 : decode cX3_release 8 = .ok (.ifCond .le 21, 3) := by decide +kernel
theorem dX3_release_11 : decode cX3_release 11 = .ok (.aload_n 0, 1) := by decide +kernel
theorem dX3_release_12 : decode cX3_release 12 = .ok (.getfield 30, 3) := by decide +kernel
theorem dX3_release_15 : decode cX3_release 15 = .ok (.iload_n 3, 1) := by decide +kernel
theorem dX3_release_16 : decode cX3_release 16 = .ok (.invokevirtual 63, 3) := by decide +kernel
theorem dX3_release_19 : decode cX3_release 19 = .ok (.iload_n 2, 1) := by decide +kernel
theorem dX3_release_20 : decode cX3_release 20 = .ok (.if_icmp .eq 9, 3) := by decide +kernel
theorem dX3_release_23 : decode cX3_release 23 = .ok (.iinc 3 (-1), 3) := by decide +kernel
theorem dX3_release_26 : decode cX3_release 26 = .ok (.goto (-19), 3) := by decide +kernel
theorem dX3_release_29 : decode cX3_release 29 = .ok (.aload_n 0, 1) := by decide +kernel
theorem dX3_release_30 : decode cX3_release 30 = .ok (.getfield 53, 3) := by decide +kernel
theorem dX3_release_33 : decode cX3_release 33 = .ok (.iload_n 3, 1) := by decide +kernel
theorem dX3_release_34 : decode cX3_release 34 = .ok (.isub, 1) := by decide +kernel
theorem dX3_release_35 : decode cX3_release 35 = .ok (.iconst 1, 1) := by decide +kernel
theorem dX3_release_36 : decode cX3_release 36 = .ok (.if_icmp .gt 12, 3) := by decide +kernel
theorem dX3_release_39 : decode cX3_release 39 = .ok (.aload_n 0, 1) := by decide +kernel
theorem dX3_release_40 : decode cX3_release 40 = .ok (.iload_n 2, 1) := by decide +kernel
theorem dX3_release_41 : decode cX3_release 41 = .ok (.iconst 2, 1) := by decide +kernel
theorem dX3_release_42 : decode cX3_release 42 = .ok (.invokevirtual 33, 3) := by decide +kernel
theorem dX3_release_45 : decode cX3_release 45 = .ok (.ifCond .eq 7, 3) := by decide +kernel
theorem dX3_release_48 : decode cX3_release 48 = .ok (.iconst 1, 1) := by decide +kernel
theorem dX3_release_49 : decode cX3_release 49 = .ok (.goto 4, 3) := by decide +kernel
theorem dX3_release_52 : decode cX3_release 52 = .ok (.iconst 0, 1) := by decide +kernel
theorem dX3_release_53 : decode cX3_release 53 = .ok (.istore 4, 2) := by decide +kernel
theorem dX3_release_55 : decode cX3_release 55 = .ok (.iconst 0, 1) := by decide +kernel
theorem dX3_release_56 : decode cX3_release 56 = .ok (.istore 5, 2) := by decide +kernel
theorem dX3_release_58 : decode cX3_release 58 = .ok (.iload_n 3, 1) := by decide +kernel
theorem dX3_release_59 : decode cX3_release 59 = .ok (.istore 6, 2) := by decide +kernel
theorem dX3_release_61 : decode cX3_release 61 = .ok (.iload 6, 2) := by decide +kernel
theorem dX3_release_63 : decode cX3_release 63 = .ok (.aload_n 0, 1) := by decide +kernel
theorem dX3_release_64 : decode cX3_release 64 = .ok (.getfield 53, 3) := by decide +kernel
theorem dX3_release_67 : decode cX3_release 67 = .ok (.if_icmp .ge 57, 3) := by decide +kernel
theorem dX3_release_70 : decode cX3_release 70 = .ok (.aload_n 0, 1) := by decide +kernel
theorem dX3_release_71 : decode cX3_release 71 = .ok (.getfield 30, 3) := by decide +kernel
theorem dX3_release_74 : decode cX3_release 74 = .ok (.iload 6, 2) := by decide +kernel
theorem dX3_release_76 : decode cX3_release 76 = .ok (.invokevirtual 63, 3) := by decide +kernel
theorem dX3_release_79 : decode cX3_release 79 = .ok (.istore 7, 2) := by decide +kernel
theorem dX3_release_81 : decode cX3_release 81 = .ok (.iload 5, 2) := by decide +kernel
theorem dX3_release_83 : decode cX3_release 83 = .ok (.ifCond .ne 28, 3) := by decide +kernel
theorem dX3_release_86 : decode cX3_release 86 = .ok (.aload_n 0, 1) := by decide +kernel
theorem dX3_release_87 : decode cX3_release 87 = .ok (.iload 7, 2) := by decide +kernel
theorem dX3_release_89 : decode cX3_release 89 = .ok (.bipush 8, 2) := by decide +kernel
theorem dX3_release_91 : decode cX3_release 91 = .ok (.invokevirtual 33, 3) := by decide +kernel
theorem dX3_release_94 : decode cX3_release 94 = .ok (.ifCond .ne 17, 3) := by decide +kernel
theorem dX3_release_97 : decode cX3_release 97 = .ok (.iload 4, 2) := by decide +kernel
theorem dX3_release_99 : decode cX3_release 99 = .ok (.ifCond .eq 16, 3) := by decide +kernel
theorem dX3_release_102 : decode cX3_release 102 = .ok (.aload_n 1, 1) := by decide +kernel
theorem dX3_release_103 : decode cX3_release 103 = .ok (.iload 7, 2) := by decide +kernel
theorem dX3_release_105 : decode cX3_release 105 = .ok (.invokevirtual 107, 3) := by decide +kernel
theorem dX3_release_108 : decode cX3_release 108 = .ok (.ifCond .eq 7, 3) := by decide +kernel
theorem dX3_release_111 : decode cX3_release 111 = .ok (.iconst 1, 1) := by decide +kernel
theorem dX3_release_112 : decode cX3_release 112 = .ok (.goto 4, 3) := by decide +kernel
theorem dX3_release_115 : decode cX3_release 115 = .ok (.iconst 0, 1) := by decide +kernel
theorem dX3_release_116 : decode cX3_release 116 = .ok (.istore 5, 2) := by decide +kernel
theorem dX3_release_118 : decode cX3_release 118 = .ok (.iinc 6 1, 3) := by decide +kernel
theorem dX3_release_121 : decode cX3_release 121 = .ok (.goto (-60), 3) := by decide +kernel
theorem dX3_release_124 : decode cX3_release 124 = .ok (.iload 4, 2) := by decide +kernel
theorem dX3_release_126 : decode cX3_release 126 = .ok (.ifCond .eq 7, 3) := by decide +kernel
theorem dX3_release_129 : decode cX3_release 129 = .ok (.iconst 4, 1) := by decide +kernel
theorem dX3_release_130 : decode cX3_release 130 = .ok (.goto 4, 3) := by decide +kernel
theorem dX3_release_133 : decode cX3_release 133 = .ok (.iconst 0, 1) := by decide +kernel
theorem dX3_release_134 : decode cX3_release 134 = .ok (.iload 5, 2) := by decide +kernel
theorem dX3_release_136 : decode cX3_release 136 = .ok (.ifCond .eq 8, 3) := by decide +kernel
theorem dX3_release_139 : decode cX3_release 139 = .ok (.bipush 8, 2) := by decide +kernel
theorem dX3_release_141 : decode cX3_release 141 = .ok (.goto 4, 3) := by decide +kernel
theorem dX3_release_144 : decode cX3_release 144 = .ok (.iconst 0, 1) := by decide +kernel
theorem dX3_release_145 : decode cX3_release 145 = .ok (.ior, 1) := by decide +kernel
theorem dX3_release_146 : decode cX3_release 146 = .ok (.istore 6, 2) := by decide +kernel
theorem dX3_release_148 : decode cX3_release 148 = .ok (.iload_n 3, 1) := by decide +kernel
theorem dX3_release_149 : decode cX3_release 149 = .ok (.istore 7, 2) := by decide +kernel
theorem dX3_release_151 : decode cX3_release 151 = .ok (.iload 7, 2) := by decide +kernel
theorem dX3_release_153 : decode cX3_release 153 = .ok (.aload_n 0, 1) := by decide +kernel
theorem dX3_release_154 : decode cX3_release 154 = .ok (.getfield 53, 3) := by decide +kernel
theorem dX3_release_157 : decode cX3_release 157 = .ok (.if_icmp .ge 27, 3) := by decide +kernel
theorem dX3_release_160 : decode cX3_release 160 = .ok (.aload_n 0, 1) := by decide +kernel
theorem dX3_release_161 : decode cX3_release 161 = .ok (.getfield 21, 3) := by decide +kernel
theorem dX3_release_164 : decode cX3_release 164 = .ok (.aload_n 0, 1) := by decide +kernel
theorem dX3_release_165 : decode cX3_release 165 = .ok (.getfield 30, 3) := by decide +kernel
theorem dX3_release_168 : decode cX3_release 168 = .ok (.iload 7, 2) := by decide +kernel
theorem dX3_release_170 : decode cX3_release 170 = .ok (.invokevirtual 63, 3) := by decide +kernel
theorem dX3_release_173 : decode cX3_release 173 = .ok (.iload 6, 2) := by decide +kernel
theorem dX3_release_175 : decode cX3_release 175 = .ok (.invokevirtual 86, 3) := by decide +kernel
theorem dX3_release_178 : decode cX3_release 178 = .ok (.iinc 7 1, 3) := by decide +kernel
theorem dX3_release_181 : decode cX3_release 181 = .ok (.goto (-30), 3) := by decide +kernel
theorem dX3_release_184 : decode cX3_release 184 = .ok (.aload_n 0, 1) := by decide +kernel
theorem dX3_release_185 : decode cX3_release 185 = .ok (.iload_n 3, 1) := by decide +kernel
theorem dX3_release_186 : decode cX3_release 186 = .ok (.putfield 53, 3) := by decide +kernel
theorem dX3_release_189 : decode cX3_release 189 = .ok (.return_, 1) := by decide +kernel
theorem dX3_has_0 : decode cX3_has 0 = .ok (.aload_n 0, 1) := by decide +kernel
theorem dX3_has_1 : decode cX3_has 1 = .ok (.getfield 21, 3) := by decide +kernel
theorem dX3_has_4 : decode cX3_has 4 = .ok (.iload_n 1, 1) := by decide +kernel
theorem dX3_has_5 : decode cX3_has 5 = .ok (.invokevirtual 63, 3) := by decide +kernel
theorem dX3_has_8 : decode cX3_has 8 = .ok (.iload_n 2, 1) := by decide +kernel
theorem dX3_has_9 : decode cX3_has 9 = .ok (.iand, 1) := by decide +kernel
theorem dX3_has_10 : decode cX3_has 10 = .ok (.ifCond .eq 7, 3) := by decide +kernel
theorem dX3_has_13 : decode cX3_has 13 = .ok (.iconst 1, 1) := by decide +kernel
theorem dX3_has_14 : decode cX3_has 14 = .ok (.goto 4, 3) := by decide +kernel
theorem dX3_has_17 : decode cX3_has 17 = .ok (.iconst 0, 1) := by decide +kernel
theorem dX3_has_18 : decode cX3_has 18 = .ok (.ireturn, 1) := by decide +kernel
theorem dX3_raise_0 : decode cX3_raise 0 = .ok (.aload_n 0, 1) := by decide +kernel
theorem dX3_raise_1 : decode cX3_raise 1 = .ok (.getfield 21, 3) := by decide +kernel
theorem dX3_raise_4 : decode cX3_raise 4 = .ok (.iload_n 1, 1) := by decide +kernel
theorem dX3_raise_5 : decode cX3_raise 5 = .ok (.aload_n 0, 1) := by decide +kernel
theorem dX3_raise_6 : decode cX3_raise 6 = .ok (.getfield 21, 3) := by decide +kernel
theorem dX3_raise_9 : decode cX3_raise 9 = .ok (.iload_n 1, 1) := by decide +kernel
theorem dX3_raise_10 : decode cX3_raise 10 = .ok (.invokevirtual 63, 3) := by decide +kernel
theorem dX3_raise_13 : decode cX3_raise 13 = .ok (.iload_n 2, 1) := by decide +kernel
theorem dX3_raise_14 : decode cX3_raise 14 = .ok (.ior, 1) := by decide +kernel
theorem dX3_raise_15 : decode cX3_raise 15 = .ok (.invokevirtual 86, 3) := by decide +kernel
theorem dX3_raise_18 : decode cX3_raise 18 = .ok (.return_, 1) := by decide +kernel
