theorem dX12_enters_77 : decode cX12_enters 77 = .ok (.aload_n 0, 1) := by decide +kernel
theorem dX12_enters_78 : decode cX12_enters 78 = .ok (.dup, 1) := by decide +kernel
theorem dX12_enters_79 : decode cX12_enters 79 = .ok (.getfield 433, 3) := by decide +kernel
theorem dX12_enters_82 : decode cX12_enters 82 = .ok (.iconst 1, 1) := by decide +kernel
theorem dX12_enters_83 : decode cX12_enters 83 = .ok (.iadd, 1) := by decide +kernel
theorem dX12_enters_84 : decode cX12_enters 84 = .ok (.putfield 433, 3) := by decide +kernel
theorem dX12_enters_87 : decode cX12_enters 87 = .ok (.return_, 1) := by decide +kernel
theorem dX12_leaves_0 : decode cX12_leaves 0 = .ok (.aload_n 0, 1) := by decide +kernel
theorem dX12_leaves_1 : decode cX12_leaves 1 = .ok (.getfield 104, 3) := by decide +kernel
theorem dX12_leaves_4 : decode cX12_leaves 4 = .ok (.aload_n 0, 1) := by decide +kernel
theorem dX12_leaves_5 : decode cX12_leaves 5 = .ok (.getfield 430, 3) := by decide +kernel
theorem dX12_leaves_8 : decode cX12_leaves 8 = .ok (.iconst 1, 1) := by decide +kernel
theorem dX12_leaves_9 : decode cX12_leaves 9 = .ok (.isub, 1) := by decide +kernel
theorem dX12_leaves_10 : decode cX12_leaves 10 = .ok (.iaload, 1) := by decide +kernel
theorem dX12_leaves_11 : decode cX12_leaves 11 = .ok (.iload_n 1, 1) := by decide +kernel
theorem dX12_leaves_12 : decode cX12_leaves 12 = .ok (.if_icmp .ne 7, 3) := by decide +kernel
theorem dX12_leaves_15 : decode cX12_leaves 15 = .ok (.iconst 1, 1) := by decide +kernel
theorem dX12_leaves_16 : decode cX12_leaves 16 = .ok (.goto 4, 3) := by decide +kernel
theorem dX12_leaves_19 : decode cX12_leaves 19 = .ok (.iconst 0, 1) := by decide +kernel
theorem dX12_leaves_20 : decode cX12_leaves 20 = .ok (.istore_n 2, 1) := by decide +kernel
theorem dX12_leaves_21 : decode cX12_leaves 21 = .ok (.iload_n 2, 1) := by decide +kernel
theorem dX12_leaves_22 : decode cX12_leaves 22 = .ok (.ifCond .ne 7, 3) := by decide +kernel
theorem dX12_leaves_25 : decode cX12_leaves 25 = .ok (.iconst 1, 1) := by decide +kernel
theorem dX12_leaves_26 : decode cX12_leaves 26 = .ok (.goto 4, 3) := by decide +kernel
theorem dX12_leaves_29 : decode cX12_leaves 29 = .ok (.iconst 0, 1) := by decide +kernel
theorem dX12_leaves_30 : decode cX12_leaves 30 = .ok (.istore_n 3, 1) := by decide +kernel
theorem dX12_leaves_31 : decode cX12_leaves 31 = .ok (.aload_n 0, 1) := by decide +kernel
theorem dX12_leaves_32 : decode cX12_leaves 32 = .ok (.iload_n 1, 1) := by decide +kernel
theorem dX12_leaves_33 : decode cX12_leaves 33 = .ok (.iconst 0, 1) := by decide +kernel
theorem dX12_leaves_34 : decode cX12_leaves 34 = .ok (.invokevirtual 417, 3) := by decide +kernel
theorem dX12_leaves_37 : decode cX12_leaves 37 = .ok (.istore 4, 2) := by decide +kernel
theorem dX12_leaves_39 : decode cX12_leaves 39 = .ok (.iload 4, 2) := by decide +kernel
theorem dX12_leaves_41 : decode cX12_leaves 41 = .ok (.iconst (-1), 1) := by decide +kernel
theorem dX12_leaves_42 : decode cX12_leaves 42 = .ok (.if_icmp .eq 38, 3) := by decide +kernel
theorem dX12_leaves_45 : decode cX12_leaves 45 = .ok (.iload_n 3, 1) := by decide +kernel
theorem dX12_leaves_46 : decode cX12_leaves 46 = .ok (.ifCond .ne 34, 3) := by decide +kernel
theorem dX12_leaves_49 : decode cX12_leaves 49 = .ok (.aload_n 0, 1) := by decide +kernel
theorem dX12_leaves_50 : decode cX12_leaves 50 = .ok (.iload_n 1, 1) := by decide +kernel
theorem dX12_leaves_51 : decode cX12_leaves 51 = .ok (.iload 4, 2) := by decide +kernel
theorem dX12_leaves_53 : decode cX12_leaves 53 = .ok (.invokevirtual 420, 3) := by decide +kernel
theorem dX12_leaves_56 : decode cX12_leaves 56 = .ok (.iload_n 1, 1) := by decide +kernel
theorem dX12_leaves_57 : decode cX12_leaves 57 = .ok (.if_icmp .ne 7, 3) := by decide +kernel
theorem dX12_leaves_60 : decode cX12_leaves 60 = .ok (.iconst 1, 1) := by decide +kernel
theorem dX12_leaves_61 : decode cX12_leaves 61 = .ok (.goto 4, 3) := by decide +kernel
theorem dX12_leaves_64 : decode cX12_leaves 64 = .ok (.iconst 0, 1) := by decide +kernel
theorem dX12_leaves_65 : decode cX12_leaves 65 = .ok (.istore_n 3, 1) := by decide +kernel
theorem dX12_leaves_66 : decode cX12_leaves 66 = .ok (.aload_n 0, 1) := by decide +kernel
theorem dX12_leaves_67 : decode cX12_leaves 67 = .ok (.iload_n 1, 1) := by decide +kernel
theorem dX12_leaves_68 : decode cX12_leaves 68 = .ok (.iload 4, 2) := by decide +kernel
theorem dX12_leaves_70 : decode cX12_leaves 70 = .ok (.iconst 1, 1) := by decide +kernel
theorem dX12_leaves_71 : decode cX12_leaves 71 = .ok (.iadd, 1) := by decide +kernel
theorem dX12_leaves_72 : decode cX12_leaves 72 = .ok (.invokevirtual 417, 3) := by decide +kernel
theorem dX12_leaves_75 : decode cX12_leaves 75 = .ok (.istore 4, 2) := by decide +kernel
theorem dX12_leaves_77 : decode cX12_leaves 77 = .ok (.goto (-38), 3) := by decide +kernel
theorem dX12_leaves_80 : decode cX12_leaves 80 = .ok (.iconst 1, 1) := by decide +kernel
theorem dX12_leaves_81 : decode cX12_leaves 81 = .ok (.istore 4, 2) := by decide +kernel
theorem dX12_leaves_83 : decode cX12_leaves 83 = .ok (.iload 4, 2) := by decide +kernel
theorem dX12_leaves_85 : decode cX12_leaves 85 = .ok (.ifCond .eq 56, 3) := by decide +kernel
theorem dX12_leaves_88 : decode cX12_leaves 88 = .ok (.aload_n 0, 1) := by decide +kernel
theorem dX12_leaves_89 : decode cX12_leaves 89 = .ok (.dup, 1) := by decide +kernel
theorem dX12_leaves_90 : decode cX12_leaves 90 = .ok (.getfield 430, 3) := by decide +kernel
theorem dX12_leaves_93 : decode cX12_leaves 93 = .ok (.iconst 1, 1) := by decide +kernel
theorem dX12_leaves_94 : decode cX12_leaves 94 = .ok (.isub, 1) := by decide +kernel
theorem dX12_leaves_95 : decode cX12_leaves 95 = .ok (.putfield 430, 3) := by decide +kernel
theorem dX12_leaves_98 : decode cX12_leaves 98 = .ok (.aload_n 0, 1) := by decide +kernel
theorem dX12_leaves_99 : decode cX12_leaves 99 = .ok (.getfield 104, 3) := by decide +kernel
theorem dX12_leaves_102 : decode cX12_leaves 102 = .ok (.aload_n 0, 1) := by decide +kernel
theorem dX12_leaves_103 : decode cX12_leaves 103 = .ok (.getfield 430, 3) := by decide +kernel
theorem dX12_leaves_106 : decode cX12_leaves 106 = .ok (.iaload, 1) := by decide +kernel
theorem dX12_leaves_107 : decode cX12_leaves 107 = .ok (.istore 5, 2) := by decide +kernel
theorem dX12_leaves_109 : decode cX12_leaves 109 = .ok (.aload_n 0, 1) := by decide +kernel
theorem dX12_leaves_110 : decode cX12_leaves 110 = .ok (.getfield 113, 3) := by decide +kernel
theorem dX12_leaves_113 : decode cX12_leaves 113 = .ok (.iload 5, 2) := by decide +kernel
theorem dX12_leaves_115 : decode cX12_leaves 115 = .ok (.iconst 0, 1) := by decide +kernel
theorem dX12_leaves_116 : decode cX12_leaves 116 = .ok (.bastore, 1) := by decide +kernel
theorem dX12_leaves_117 : decode cX12_leaves 117 = .ok (.aload_n 0, 1) := by decide +kernel
theorem dX12_leaves_118 : decode cX12_leaves 118 = .ok (.getfield 116, 3) := by decide +kernel
theorem dX12_leaves_121 : decode cX12_leaves 121 = .ok (.iload 5, 2) := by decide +kernel
theorem dX12_leaves_123 : decode cX12_leaves 123 = .ok (.iload_n 3, 1) := by decide +kernel
theorem dX12_leaves_124 : decode cX12_leaves 124 = .ok (.bastore, 1) := by decide +kernel
theorem dX12_leaves_125 : decode cX12_leaves 125 = .ok (.iload 5, 2) := by decide +kernel
theorem dX12_leaves_127 : decode cX12_leaves 127 = .ok (.iload_n 1, 1) := by decide +kernel
theorem dX12_leaves_128 : decode cX12_leaves 128 = .ok (.if_icmp .eq 7, 3) := by decide +kernel
theorem dX12_leaves_131 : decode cX12_leaves 131 = .ok (.iconst 1, 1) := by decide +kernel
theorem dX12_leaves_132 : decode cX12_leaves 132 = .ok (.goto 4, 3) := by decide +kernel
theorem dX12_leaves_135 : decode cX12_leaves 135 = .ok (.iconst 0, 1) := by decide +kernel
theorem dX12_leaves_136 : decode cX12_leaves 136 = .ok (.istore 4, 2) := by decide +kernel
theorem dX12_leaves_138 : decode cX12_leaves 138 = .ok (.goto (-55), 3) := by decide +kernel
theorem dX12_leaves_141 : decode cX12_leaves 141 = .ok (.return_, 1) := by decide +kernel
theorem dX12_turnsAll_0 : decode cX12_turnsAll 0 = .ok (.aload_n 0, 1) := by decide +kernel
theorem dX12_turnsAll_1 : decode cX12_turnsAll 1 = .ok (.iconst 0, 1) := by decide +kernel
theorem dX12_turnsAll_2 : decode cX12_turnsAll 2 = .ok (.putfield 427, 3) := by decide +kernel
theorem dX12_turnsAll_5 : decode cX12_turnsAll 5 = .ok (.iconst 0, 1) := by decide +kernel
theorem dX12_turnsAll_6 : decode cX12_turnsAll 6 = .ok (.istore_n 1, 1) := by decide +kernel
theorem dX12_turnsAll_7 : decode cX12_turnsAll 7 = .ok (.iload_n 1, 1) := by decide +kernel
theorem dX12_turnsAll_8 : decode cX12_turnsAll 8 = .ok (.aload_n 0, 1) := by decide +kernel
theorem dX12_turnsAll_9 : decode cX12_turnsAll 9 = .ok (.getfield 414, 3) := by decide +kernel
theorem dX12_turnsAll_12 : decode cX12_turnsAll 12 = .ok (.if_icmp .ge 33, 3) := by decide +kernel
theorem dX12_turnsAll_15 : decode cX12_turnsAll 15 = .ok (.aload_n 0, 1) := by decide +kernel
theorem dX12_turnsAll_16 : decode cX12_turnsAll 16 = .ok (.getfield 98, 3) := by decide +kernel
theorem dX12_turnsAll_19 : decode cX12_turnsAll 19 = .ok (.aload_n 0, 1) := by decide +kernel
theorem dX12_turnsAll_20 : decode cX12_turnsAll 20 = .ok (.getfield 85, 3) := by decide +kernel
theorem dX12_turnsAll_23 : decode cX12_turnsAll 23 = .ok (.iload_n 1, 1) := by decide +kernel
theorem dX12_turnsAll_24 : decode cX12_turnsAll 24 = .ok (.iaload, 1) := by decide +kernel
theorem dX12_turnsAll_25 : decode cX12_turnsAll 25 = .ok (.iconst (-1), 1) := by decide +kernel
theorem dX12_turnsAll_26 : decode cX12_turnsAll 26 = .ok (.iastore, 1) := by decide +kernel
theorem dX12_turnsAll_27 : decode cX12_turnsAll 27 = .ok (.aload_n 0, 1) := by decide +kernel
theorem dX12_turnsAll_28 : decode cX12_turnsAll 28 = .ok (.getfield 113, 3) := by decide +kernel
theorem dX12_turnsAll_31 : decode cX12_turnsAll 31 = .ok (.aload_n 0, 1) := by decide +kernel
theorem dX12_turnsAll_32 : decode cX12_turnsAll 32 = .ok (.getfield 85, 3) := by decide +kernel
theorem dX12_turnsAll_35 : decode cX12_turnsAll 35 = .ok (.iload_n 1, 1) := by decide +kernel
theorem dX12_turnsAll_36 : decode cX12_turnsAll 36 = .ok (.iaload, 1) := by decide +kernel
theorem dX12_turnsAll_37 : decode cX12_turnsAll 37 = .ok (.iconst 0, 1) := by decide +kernel
theorem dX12_turnsAll_38 : decode cX12_turnsAll 38 = .ok (.bastore, 1) := by decide +kernel
theorem dX12_turnsAll_39 : decode cX12_turnsAll 39 = .ok (.iinc 1 1, 3) := by decide +kernel
theorem dX12_turnsAll_42 : decode cX12_turnsAll 42 = .ok (.goto (-35), 3) := by decide +kernel
theorem dX12_turnsAll_45 : decode cX12_turnsAll 45 = .ok (.iconst 0, 1) := by decide +kernel
theorem dX12_turnsAll_46 : decode cX12_turnsAll 46 = .ok (.istore_n 1, 1) := by decide +kernel
theorem dX12_turnsAll_47 : decode cX12_turnsAll 47 = .ok (.iload_n 1, 1) := by decide +kernel
theorem dX12_turnsAll_48 : decode cX12_turnsAll 48 = .ok (.aload_n 0, 1) := by decide +kernel
theorem dX12_turnsAll_49 : decode cX12_turnsAll 49 = .ok (.getfield 414, 3) := by decide +kernel
theorem dX12_turnsAll_52 : decode cX12_turnsAll 52 = .ok (.if_icmp .ge 34, 3) := by decide +kernel
theorem dX12_turnsAll_55 : decode cX12_turnsAll 55 = .ok (.aload_n 0, 1) := by decide +kernel
theorem dX12_turnsAll_56 : decode cX12_turnsAll 56 = .ok (.getfield 98, 3) := by decide +kernel
theorem dX12_turnsAll_59 : decode cX12_turnsAll 59 = .ok (.aload_n 0, 1) := by decide +kernel
theorem dX12_turnsAll_60 : decode cX12_turnsAll 60 = .ok (.getfield 85, 3) := by decide +kernel
theorem dX12_turnsAll_63 : decode cX12_turnsAll 63 = .ok (.iload_n 1, 1) := by decide +kernel
theorem dX12_turnsAll_64 : decode cX12_turnsAll 64 = .ok (.iaload, 1) := by decide +kernel
theorem dX12_turnsAll_65 : decode cX12_turnsAll 65 = .ok (.iaload, 1) := by decide +kernel
theorem dX12_turnsAll_66 : decode cX12_turnsAll 66 = .ok (.iconst (-1), 1) := by decide +kernel
theorem dX12_turnsAll_67 : decode cX12_turnsAll 67 = .ok (.if_icmp .ne 13, 3) := by decide +kernel
theorem dX12_turnsAll_70 : decode cX12_turnsAll 70 = .ok (.aload_n 0, 1) := by decide +kernel
theorem dX12_turnsAll_71 : decode cX12_turnsAll 71 = .ok (.aload_n 0, 1) := by decide +kernel
theorem dX12_turnsAll_72 : decode cX12_turnsAll 72 = .ok (.getfield 85, 3) := by decide +kernel
theorem dX12_turnsAll_75 : decode cX12_turnsAll 75 = .ok (.iload_n 1, 1) := by decide +kernel
theorem dX12_turnsAll_76 : decode cX12_turnsAll 76 = .ok (.iaload, 1) := by decide +kernel
theorem dX12_turnsAll_77 : decode cX12_turnsAll 77 = .ok (.invokevirtual 436, 3) := by decide +kernel
theorem dX12_turnsAll_80 : decode cX12_turnsAll 80 = .ok (.iinc 1 1, 3) := by decide +kernel
theorem dX12_turnsAll_83 : decode cX12_turnsAll 83 = .ok (.goto (-36), 3) := by decide +kernel
theorem dX12_turnsAll_86 : decode cX12_turnsAll 86 = .ok (.return_, 1) := by decide +kernel
theorem dX12_turnsFrom_0 : decode cX12_turnsFrom 0 = .ok (.aload_n 0, 1) := by decide +kernel
theorem dX12_turnsFrom_1 : decode cX12_turnsFrom 1 = .ok (.iconst 0, 1) := by decide +kernel
theorem dX12_turnsFrom_2 : decode cX12_turnsFrom 2 = .ok (.putfield 430, 3) := by decide +kernel
theorem dX12_turnsFrom_5 : decode cX12_turnsFrom 5 = .ok (.aload_n 0, 1) := by decide +kernel
theorem dX12_turnsFrom_6 : decode cX12_turnsFrom 6 = .ok (.iconst 0, 1) := by decide +kernel
theorem dX12_turnsFrom_7 : decode cX12_turnsFrom 7 = .ok (.putfield 433, 3) := by decide +kernel
theorem dX12_turnsFrom_10 : decode cX12_turnsFrom 10 = .ok (.aload_n 0, 1) := by decide +kernel
theorem dX12_turnsFrom_11 : decode cX12_turnsFrom 11 = .ok (.iload_n 1, 1) := by decide +kernel
theorem dX12_turnsFrom_12 : decode cX12_turnsFrom 12 = .ok (.invokevirtual 439, 3) := by decide +kernel
theorem dX12_turnsFrom_15 : decode cX12_turnsFrom 15 = .ok (.aload_n 0, 1) := by decide +kernel
theorem dX12_turnsFrom_16 : decode cX12_turnsFrom 16 = .ok (.getfield 433, 3) := by decide +kernel
theorem dX12_turnsFrom_19 : decode cX12_turnsFrom 19 = .ok (.ifCond .le 208, 3) := by decide +kernel
theorem dX12_turnsFrom_22 : decode cX12_turnsFrom 22 = .ok (.aload_n 0, 1) := by decide +kernel
theorem dX12_turnsFrom_23 : decode cX12_turnsFrom 23 = .ok (.getfield 107, 3) := by decide +kernel
theorem dX12_turnsFrom_26 : decode cX12_turnsFrom 26 = .ok (.aload_n 0, 1) := by decide +kernel
theorem dX12_turnsFrom_27 : decode cX12_turnsFrom 27 = .ok (.getfield 433, 3) := by decide +kernel
theorem dX12_turnsFrom_30 : decode cX12_turnsFrom 30 = .ok (.iconst 1, 1) := by decide +kernel
theorem dX12_turnsFrom_31 : decode cX12_turnsFrom 31 = .ok (.isub, 1) := by decide +kernel
theorem dX12_turnsFrom_32 : decode cX12_turnsFrom 32 = .ok (.iaload, 1) := by decide +kernel
theorem dX12_turnsFrom_33 : decode cX12_turnsFrom 33 = .ok (.istore_n 2, 1) := by decide +kernel
theorem dX12_turnsFrom_34 : decode cX12_turnsFrom 34 = .ok (.aload_n 0, 1) := by decide +kernel
theorem dX12_turnsFrom_35 : decode cX12_turnsFrom 35 = .ok (.iload_n 2, 1) := by decide +kernel
theorem dX12_turnsFrom_36 : decode cX12_turnsFrom 36 = .ok (.aload_n 0, 1) := by decide +kernel
theorem dX12_turnsFrom_37 : decode cX12_turnsFrom 37 = .ok (.getfield 110, 3) := by decide +kernel
theorem dX12_turnsFrom_40 : decode cX12_turnsFrom 40 = .ok (.aload_n 0, 1) := by decide +kernel
theorem dX12_turnsFrom_41 : decode cX12_turnsFrom 41 = .ok (.getfield 433, 3) := by decide +kernel
theorem dX12_turnsFrom_44 : decode cX12_turnsFrom 44 = .ok (.iconst 1, 1) := by decide +kernel
theorem dX12_turnsFrom_45 : decode cX12_turnsFrom 45 = .ok (.isub, 1) := by decide +kernel
theorem dX12_turnsFrom_46 : decode cX12_turnsFrom 46 = .ok (.iaload, 1) := by decide +kernel
theorem dX12_turnsFrom_47 : decode cX12_turnsFrom 47 = .ok (.invokevirtual 417, 3) := by decide +kernel
theorem dX12_turnsFrom_50 : decode cX12_turnsFrom 50 = .ok (.istore_n 3, 1) := by decide +kernel
theorem dX12_turnsFrom_51 : decode cX12_turnsFrom 51 = .ok (.iload_n 3, 1) := by decide +kernel
theorem dX12_turnsFrom_52 : decode cX12_turnsFrom 52 = .ok (.iconst (-1), 1) := by decide +kernel
theorem dX12_turnsFrom_53 : decode cX12_turnsFrom 53 = .ok (.if_icmp .eq 87, 3) := by decide +kernel
theorem dX12_turnsFrom_56 : decode cX12_turnsFrom 56 = .ok (.aload_n 0, 1) := by decide +kernel
theorem dX12_turnsFrom_57 : decode cX12_turnsFrom 57 = .ok (.getfield 110, 3) := by decide +kernel
theorem dX12_turnsFrom_60 : decode cX12_turnsFrom 60 = .ok (.aload_n 0, 1) := by decide +kernel
theorem dX12_turnsFrom_61 : decode cX12_turnsFrom 61 = .ok (.getfield 433, 3) := by decide +kernel
theorem dX12_turnsFrom_64 : decode cX12_turnsFrom 64 = .ok (.iconst 1, 1) := by decide +kernel
theorem dX12_turnsFrom_65 : decode cX12_turnsFrom 65 = .ok (.isub, 1) := by decide +kernel
theorem dX12_turnsFrom_66 : decode cX12_turnsFrom 66 = .ok (.iload_n 3, 1) := by decide +kernel
theorem dX12_turnsFrom_67 : decode cX12_turnsFrom 67 = .ok (.iconst 1, 1) := by decide +kernel
theorem dX12_turnsFrom_68 : decode cX12_turnsFrom 68 = .ok (.iadd, 1) := by decide +kernel
theorem dX12_turnsFrom_69 : decode cX12_turnsFrom 69 = .ok (.iastore, 1) := by decide +kernel
theorem dX12_turnsFrom_70 : decode cX12_turnsFrom 70 = .ok (.aload_n 0, 1) := by decide +kernel
theorem dX12_turnsFrom_71 : decode cX12_turnsFrom 71 = .ok (.iload_n 2, 1) := by decide +kernel
theorem dX12_turnsFrom_72 : decode cX12_turnsFrom 72 = .ok (.iload_n 3, 1) := by decide +kernel
theorem dX12_turnsFrom_73 : decode cX12_turnsFrom 73 = .ok (.invokevirtual 420, 3) := by decide +kernel
theorem dX12_turnsFrom_76 : decode cX12_turnsFrom 76 = .ok (.istore 4, 2) := by decide +kernel
theorem dX12_turnsFrom_78 : decode cX12_turnsFrom 78 = .ok (.aload_n 0, 1) := by decide +kernel
theorem dX12_turnsFrom_79 : decode cX12_turnsFrom 79 = .ok (.getfield 98, 3) := by decide +kernel
theorem dX12_turnsFrom_82 : decode cX12_turnsFrom 82 = .ok (.iload 4, 2) := by decide +kernel
theorem dX12_turnsFrom_84 : decode cX12_turnsFrom 84 = .ok (.iaload, 1) := by decide +kernel
theorem dX12_turnsFrom_85 : decode cX12_turnsFrom 85 = .ok (.iconst (-1), 1) := by decide +kernel
theorem dX12_turnsFrom_86 : decode cX12_turnsFrom 86 = .ok (.if_icmp .ne 12, 3) := by decide +kernel
theorem dX12_turnsFrom_89 : decode cX12_turnsFrom 89 = .ok (.aload_n 0, 1) := by decide +kernel
theorem dX12_turnsFrom_90 : decode cX12_turnsFrom 90 = .ok (.iload 4, 2) := by decide +kernel
theorem dX12_turnsFrom_92 : decode cX12_turnsFrom 92 = .ok (.invokevirtual 439, 3) := by decide +kernel
theorem dX12_turnsFrom_95 : decode cX12_turnsFrom 95 = .ok (.goto 42, 3) := by decide +kernel
theorem dX12_turnsFrom_98 : decode cX12_turnsFrom 98 = .ok (.aload_n 0, 1) := by decide +kernel
theorem dX12_turnsFrom_99 : decode cX12_turnsFrom 99 = .ok (.getfield 113, 3) := by decide +kernel
theorem dX12_turnsFrom_102 : decode cX12_turnsFrom 102 = .ok (.iload 4, 2) := by decide +kernel
theorem dX12_turnsFrom_104 : decode cX12_turnsFrom 104 = .ok (.baload, 1) := by decide +kernel
theorem dX12_turnsFrom_105 : decode cX12_turnsFrom 105 = .ok (.ifCond .eq 32, 3) := by decide +kernel
theorem dX12_turnsFrom_108 : decode cX12_turnsFrom 108 = .ok (.aload_n 0, 1) := by decide +kernel
theorem dX12_turnsFrom_109 : decode cX12_turnsFrom 109 = .ok (.getfield 98, 3) := by decide +kernel
theorem dX12_turnsFrom_112 : decode cX12_turnsFrom 112 = .ok (.iload 4, 2) := by decide +kernel
theorem dX12_turnsFrom_114 : decode cX12_turnsFrom 114 = .ok (.iaload, 1) := by decide +kernel
theorem dX12_turnsFrom_115 : decode cX12_turnsFrom 115 = .ok (.aload_n 0, 1) := by decide +kernel
theorem dX12_turnsFrom_116 : decode cX12_turnsFrom 116 = .ok (.getfield 101, 3) := by decide +kernel
theorem dX12_turnsFrom_119 : decode cX12_turnsFrom 119 = .ok (.iload_n 2, 1) := by decide +kernel
theorem dX12_turnsFrom_120 : decode cX12_turnsFrom 120 = .ok (.iaload, 1) := by decide +kernel
theorem dX12_turnsFrom_121 : decode cX12_turnsFrom 121 = .ok (.if_icmp .ge 16, 3) := by decide +kernel
theorem dX12_turnsFrom_124 : decode cX12_turnsFrom 124 = .ok (.aload_n 0, 1) := by decide +kernel
theorem dX12_turnsFrom_125 : decode cX12_turnsFrom 125 = .ok (.getfield 101, 3) := by decide +kernel
theorem dX12_turnsFrom_128 : decode cX12_turnsFrom 128 = .ok (.iload_n 2, 1) := by decide +kernel
theorem dX12_turnsFrom_129 : decode cX12_turnsFrom 129 = .ok (.aload_n 0, 1) := by decide +kernel
theorem dX12_turnsFrom_130 : decode cX12_turnsFrom 130 = .ok (.getfield 98, 3) := by decide +kernel
theorem dX12_turnsFrom_133 : decode cX12_turnsFrom 133 = .ok (.iload 4, 2) := by decide +kernel
theorem dX12_turnsFrom_135 : decode cX12_turnsFrom 135 = .ok (.iaload, 1) := by decide +kernel
theorem dX12_turnsFrom_136 : decode cX12_turnsFrom 136 = .ok (.iastore, 1) := by decide +kernel
theorem dX12_turnsFrom_137 : decode cX12_turnsFrom 137 = .ok (.goto 87, 3) := by decide +kernel
theorem dX12_turnsFrom_140 : decode cX12_turnsFrom 140 = .ok (.aload_n 0, 1) := by decide +kernel
theorem dX12_turnsFrom_141 : decode cX12_turnsFrom 141 = .ok (.dup, 1) := by decide +kernel
theorem dX12_turnsFrom_142 : decode cX12_turnsFrom 142 = .ok (.getfield 433, 3) := by decide +kernel
theorem dX12_turnsFrom_145 : decode cX12_turnsFrom 145 = .ok (.iconst 1, 1) := by decide +kernel
theorem dX12_turnsFrom_146 : decode cX12_turnsFrom 146 = .ok (.isub, 1) := by decide +kernel
theorem dX12_turnsFrom_147 : decode cX12_turnsFrom 147 = .ok (.putfield 433, 3) := by decide +kernel
theorem dX12_turnsFrom_150 : decode cX12_turnsFrom 150 = .ok (.aload_n 0, 1) := by decide +kernel
theorem dX12_turnsFrom_151 : decode cX12_turnsFrom 151 = .ok (.getfield 101, 3) := by decide +kernel
theorem dX12_turnsFrom_154 : decode cX12_turnsFrom 154 = .ok (.iload_n 2, 1) := by decide +kernel
theorem dX12_turnsFrom_155 : decode cX12_turnsFrom 155 = .ok (.iaload, 1) := by decide +kernel
theorem dX12_turnsFrom_156 : decode cX12_turnsFrom 156 = .ok (.aload_n 0, 1) := by decide +kernel
theorem dX12_turnsFrom_157 : decode cX12_turnsFrom 157 = .ok (.getfield 98, 3) := by decide +kernel
theorem dX12_turnsFrom_160 : decode cX12_turnsFrom 160 = .ok (.iload_n 2, 1) := by decide +kernel
theorem dX12_turnsFrom_161 : decode cX12_turnsFrom 161 = .ok (.iaload, 1) := by decide +kernel
theorem dX12_turnsFrom_162 : decode cX12_turnsFrom 162 = .ok (.if_icmp .ne 8, 3) := by decide +kernel
theorem dX12_turnsFrom_165 : decode cX12_turnsFrom 165 = .ok (.aload_n 0, 1) := by decide +kernel
theorem dX12_turnsFrom_166 : decode cX12_turnsFrom 166 = .ok (.iload_n 2, 1) := by decide +kernel
theorem dX12_turnsFrom_167 : decode cX12_turnsFrom 167 = .ok (.invokevirtual 442, 3) := by decide +kernel
theorem dX12_turnsFrom_170 : decode cX12_turnsFrom 170 = .ok (.aload_n 0, 1) := by decide +kernel
theorem dX12_turnsFrom_171 : decode cX12_turnsFrom 171 = .ok (.getfield 433, 3) := by decide +kernel
theorem dX12_turnsFrom_174 : decode cX12_turnsFrom 174 = .ok (.ifCond .le 50, 3) := by decide +kernel
theorem dX12_turnsFrom_177 : decode cX12_turnsFrom 177 = .ok (.aload_n 0, 1) := by decide +kernel
theorem dX12_turnsFrom_178 : decode cX12_turnsFrom 178 = .ok (.getfield 101, 3) := by decide +kernel
theorem dX12_turnsFrom_181 : decode cX12_turnsFrom 181 = .ok (.iload_n 2, 1) := by decide +kernel
theorem dX12_turnsFrom_182 : decode cX12_turnsFrom 182 = .ok (.iaload, 1) := by decide +kernel
theorem dX12_turnsFrom_183 : decode cX12_turnsFrom 183 = .ok (.aload_n 0, 1) := by decide +kernel
theorem dX12_turnsFrom_184 : decode cX12_turnsFrom 184 = .ok (.getfield 101, 3) := by decide +kernel
theorem dX12_turnsFrom_187 : decode cX12_turnsFrom 187 = .ok (.aload_n 0, 1) := by decide +kernel
theorem dX12_turnsFrom_188 : decode cX12_turnsFrom 188 = .ok (.getfield 107, 3) := by decide +kernel
theorem dX12_turnsFrom_191 : decode cX12_turnsFrom 191 = .ok (.aload_n 0, 1) := by decide +kernel
theorem dX12_turnsFrom_192 : decode cX12_turnsFrom 192 = .ok (.getfield 433, 3) := by decide +kernel
theorem dX12_turnsFrom_195 : decode cX12_turnsFrom 195 = .ok (.iconst 1, 1) := by decide +kernel
theorem dX12_turnsFrom_196 : decode cX12_turnsFrom 196 = .ok (.isub, 1) := by decide +kernel
theorem dX12_turnsFrom_197 : decode cX12_turnsFrom 197 = .ok (.iaload, 1) := by decide +kernel
theorem dX12_turnsFrom_198 : decode cX12_turnsFrom 198 = .ok (.iaload, 1) := by decide +kernel
theorem dX12_turnsFrom_199 : decode cX12_turnsFrom 199 = .ok (.if_icmp .ge 25, 3) := by decide +kernel
theorem dX12_turnsFrom_202 : decode cX12_turnsFrom 202 = .ok (.aload_n 0, 1) := by decide +kernel
theorem dX12_turnsFrom_203 : decode cX12_turnsFrom 203 = .ok (.getfield 101, 3) := by decide +kernel
theorem dX12_turnsFrom_206 : decode cX12_turnsFrom 206 = .ok (.aload_n 0, 1) := by decide +kernel
theorem dX12_turnsFrom_207 : decode cX12_turnsFrom 207 = .ok (.getfield 107, 3) := by decide +kernel
theorem dX12_turnsFrom_210 : decode cX12_turnsFrom 210 = .ok (.aload_n 0, 1) := by decide +kernel
theorem dX12_turnsFrom_211 : decode cX12_turnsFrom 211 = .ok (.getfield 433, 3) := by decide +kernel
theorem dX12_turnsFrom_214 : decode cX12_turnsFrom 214 = .ok (.iconst 1, 1) := by decide +kernel
theorem dX12_turnsFrom_215 : decode cX12_turnsFrom 215 = .ok (.isub, 1) := by decide +kernel
theorem dX12_turnsFrom_216 : decode cX12_turnsFrom 216 = .ok (.iaload, 1) := by decide +kernel
theorem dX12_turnsFrom_217 : decode cX12_turnsFrom 217 = .ok (.aload_n 0, 1) := by decide +kernel
theorem dX12_turnsFrom_218 : decode cX12_turnsFrom 218 = .ok (.getfield 101, 3) := by decide +kernel
theorem dX12_turnsFrom_221 : decode cX12_turnsFrom 221 = .ok (.iload_n 2, 1) := by decide +kernel
theorem dX12_turnsFrom_222 : decode cX12_turnsFrom 222 = .ok (.iaload, 1) := by decide +kernel
theorem dX12_turnsFrom_223 : decode cX12_turnsFrom 223 = .ok (.iastore, 1) := by decide +kernel
theorem dX12_turnsFrom_224 : decode cX12_turnsFrom 224 = .ok (.goto (-209), 3) := by decide +kernel
theorem dX12_turnsFrom_227 : decode cX12_turnsFrom 227 = .ok (.return_, 1) := by decide +kernel
theorem dX12_found_0 : decode cX12_found 0 = .ok (.aload_n 0, 1) := by decide +kernel
theorem dX12_found_1 : decode cX12_found 1 = .ok (.invokevirtual 445, 3) := by decide +kernel
theorem dX12_found_4 : decode cX12_found 4 = .ok (.iconst 0, 1) := by decide +kernel
theorem dX12_found_5 : decode cX12_found 5 = .ok (.istore_n 1, 1) := by decide +kernel
theorem dX12_found_6 : decode cX12_found 6 = .ok (.iload_n 1, 1) := by decide +kernel
theorem dX12_found_7 : decode cX12_found 7 = .ok (.aload_n 0, 1) := by decide +kernel
theorem dX12_found_8 : decode cX12_found 8 = .ok (.getfield 414, 3) := by decide +kernel
theorem dX12_found_11 : decode cX12_found 11 = .ok (.if_icmp .ge 43, 3) := by decide +kernel
theorem dX12_found_14 : decode cX12_found 14 = .ok (.aload_n 0, 1) := by decide +kernel
theorem dX12_found_15 : decode cX12_found 15 = .ok (.aload_n 0, 1) := by decide +kernel
theorem dX12_found_16 : decode cX12_found 16 = .ok (.getfield 85, 3) := by decide +kernel
theorem dX12_found_19 : decode cX12_found 19 = .ok (.iload_n 1, 1) := by decide +kernel
theorem dX12_found_20 : decode cX12_found 20 = .ok (.iaload, 1) := by decide +kernel
theorem dX12_found_21 : decode cX12_found 21 = .ok (.invokevirtual 448, 3) := by decide +kernel
theorem dX12_found_24 : decode cX12_found 24 = .ok (.ifCond .eq 24, 3) := by decide +kernel
theorem dX12_found_27 : decode cX12_found 27 = .ok (.aload_n 0, 1) := by decide +kernel
theorem dX12_found_28 : decode cX12_found 28 = .ok (.getfield 116, 3) := by decide +kernel
theorem dX12_found_31 : decode cX12_found 31 = .ok (.aload_n 0, 1) := by decide +kernel
theorem dX12_found_32 : decode cX12_found 32 = .ok (.getfield 85, 3) := by decide +kernel
theorem dX12_found_35 : decode cX12_found 35 = .ok (.iload_n 1, 1) := by decide +kernel
theorem dX12_found_36 : decode cX12_found 36 = .ok (.iaload, 1) := by decide +kernel
theorem dX12_found_37 : decode cX12_found 37 = .ok (.baload, 1) := by decide +kernel
theorem dX12_found_38 : decode cX12_found 38 = .ok (.ifCond .eq 10, 3) := by decide +kernel
theorem dX12_found_41 : decode cX12_found 41 = .ok (.aload_n 0, 1) := by decide +kernel
theorem dX12_found_42 : decode cX12_found 42 = .ok (.getfield 85, 3) := by decide +kernel
theorem dX12_found_45 : decode cX12_found 45 = .ok (.iload_n 1, 1) := by decide +kernel
theorem dX12_found_46 : decode cX12_found 46 = .ok (.iaload, 1) := by decide +kernel
theorem dX12_found_47 : decode cX12_found 47 = .ok (.ireturn, 1) := by decide +kernel
theorem dX12_found_48 : decode cX12_found 48 = .ok (.iinc 1 1, 3) := by decide +kernel
theorem dX12_found_51 : decode cX12_found 51 = .ok (.goto (-45), 3) := by decide +kernel
theorem dX12_found_54 : decode cX12_found 54 = .ok (.iconst (-1), 1) := by decide +kernel
theorem dX12_found_55 : decode cX12_found 55 = .ok (.ireturn, 1) := by decide +kernel
theorem dX12_isTaken_0 : decode cX12_isTaken 0 = .ok (.aload_n 0, 1) := by decide +kernel
theorem dX12_isTaken_1 : decode cX12_isTaken 1 = .ok (.iload_n 1, 1) := by decide +kernel
theorem dX12_isTaken_2 : decode cX12_isTaken 2 = .ok (.putfield 396, 3) := by decide +kernel
theorem dX12_isTaken_5 : decode cX12_isTaken 5 = .ok (.aload_n 0, 1) := by decide +kernel
theorem dX12_isTaken_6 : decode cX12_isTaken 6 = .ok (.invokevirtual 451, 3) := by decide +kernel
theorem dX12_isTaken_9 : decode cX12_isTaken 9 = .ok (.iload_n 2, 1) := by decide +kernel
theorem dX12_isTaken_10 : decode cX12_isTaken 10 = .ok (.ifCond .eq 10, 3) := by decide +kernel
theorem dX12_isTaken_13 : decode cX12_isTaken 13 = .ok (.aload_n 0, 1) := by decide +kernel
theorem dX12_isTaken_14 : decode cX12_isTaken 14 = .ok (.invokevirtual 454, 3) := by decide +kernel
theorem dX12_isTaken_17 : decode cX12_isTaken 17 = .ok (.goto 8, 3) := by decide +kernel
theorem dX12_isTaken_20 : decode cX12_isTaken 20 = .ok (.aload_n 0, 1) := by decide +kernel
theorem dX12_isTaken_21 : decode cX12_isTaken 21 = .ok (.iload_n 1, 1) := by decide +kernel
theorem dX12_isTaken_22 : decode cX12_isTaken 22 = .ok (.invokevirtual 457, 3) := by decide +kernel
theorem dX12_isTaken_25 : decode cX12_isTaken 25 = .ok (.aload_n 0, 1) := by decide +kernel
theorem dX12_isTaken_26 : decode cX12_isTaken 26 = .ok (.invokevirtual 460, 3) := by decide +kernel
theorem dX12_isTaken_29 : decode cX12_isTaken 29 = .ok (.aload_n 0, 1) := by decide +kernel
theorem dX12_isTaken_30 : decode cX12_isTaken 30 = .ok (.invokevirtual 463, 3) := by decide +kernel
theorem dX12_isTaken_33 : decode cX12_isTaken 33 = .ok (.iconst (-1), 1) := by decide +kernel
theorem dX12_isTaken_34 : decode cX12_isTaken 34 = .ok (.if_icmp .eq 7, 3) := by decide +kernel
theorem dX12_isTaken_37 : decode cX12_isTaken 37 = .ok (.iconst 1, 1) := by decide +kernel
theorem dX12_isTaken_38 : decode cX12_isTaken 38 = .ok (.goto 4, 3) := by decide +kernel
theorem dX12_isTaken_41 : decode cX12_isTaken 41 = .ok (.iconst 0, 1) := by decide +kernel
theorem dX12_isTaken_42 : decode cX12_isTaken 42 = .ok (.ireturn, 1) := by decide +kernel
theorem dX12_begunStates_0 : decode cX12_begunStates 0 = .ok (.aload_n 0, 1) := by decide +kernel
theorem dX12_begunStates_1 : decode cX12_begunStates 1 = .ok (.getfield 20, 3) := by decide +kernel
theorem dX12_begunStates_4 : decode cX12_begunStates 4 = .ok (.iload_n 1, 1) := by decide +kernel
theorem dX12_begunStates_5 : decode cX12_begunStates 5 = .ok (.iaload, 1) := by decide +kernel
theorem dX12_begunStates_6 : decode cX12_begunStates 6 = .ok (.istore_n 2, 1) := by decide +kernel
theorem dX12_begunStates_7 : decode cX12_begunStates 7 = .ok (.iconst 0, 1) := by decide +kernel
theorem dX12_begunStates_8 : decode cX12_begunStates 8 = .ok (.istore_n 3, 1) := by decide +kernel
theorem dX12_begunStates_9 : decode cX12_begunStates 9 = .ok (.iload_n 3, 1) := by decide +kernel
theorem dX12_begunStates_10 : decode cX12_begunStates 10 = .ok (.aload_n 0, 1) := by decide +kernel
theorem dX12_begunStates_11 : decode cX12_begunStates 11 = .ok (.getfield 466, 3) := by decide +kernel
theorem dX12_begunStates_14 : decode cX12_begunStates 14 = .ok (.if_icmp .ge 22, 3) := by decide +kernel
theorem dX12_begunStates_17 : decode cX12_begunStates 17 = .ok (.aload_n 0, 1) := by decide +kernel
theorem dX12_begunStates_18 : decode cX12_begunStates 18 = .ok (.iload_n 1, 1) := by decide +kernel
theorem dX12_begunStates_19 : decode cX12_begunStates 19 = .ok (.iload_n 2, 1) := by decide +kernel
theorem dX12_begunStates_20 : decode cX12_begunStates 20 = .ok (.aload_n 0, 1) := by decide +kernel
theorem dX12_begunStates_21 : decode cX12_begunStates 21 = .ok (.getfield 67, 3) := by decide +kernel
theorem dX12_begunStates_24 : decode cX12_begunStates 24 = .ok (.iload_n 3, 1) := by decide +kernel
theorem dX12_begunStates_25 : decode cX12_begunStates 25 = .ok (.iaload, 1) := by decide +kernel
theorem dX12_begunStates_26 : decode cX12_begunStates 26 = .ok (.invokevirtual 316, 3) := by decide +kernel
theorem dX12_begunStates_29 : decode cX12_begunStates 29 = .ok (.istore_n 2, 1) := by decide +kernel
theorem dX12_begunStates_30 : decode cX12_begunStates 30 = .ok (.iinc 3 1, 3) := by decide +kernel
theorem dX12_begunStates_33 : decode cX12_begunStates 33 = .ok (.goto (-24), 3) := by decide +kernel
theorem dX12_begunStates_36 : decode cX12_begunStates 36 = .ok (.aload_n 0, 1) := by decide +kernel
theorem dX12_begunStates_37 : decode cX12_begunStates 37 = .ok (.iconst 3, 1) := by decide +kernel
theorem dX12_begunStates_38 : decode cX12_begunStates 38 = .ok (.putfield 393, 3) := by decide +kernel
theorem dX12_begunStates_41 : decode cX12_begunStates 41 = .ok (.iconst 0, 1) := by decide +kernel
theorem dX12_begunStates_42 : decode cX12_begunStates 42 = .ok (.istore_n 3, 1) := by decide +kernel
theorem dX12_begunStates_43 : decode cX12_begunStates 43 = .ok (.iload_n 3, 1) := by decide +kernel
theorem dX12_begunStates_44 : decode cX12_begunStates 44 = .ok (.iconst 4, 1) := by decide +kernel
theorem dX12_begunStates_45 : decode cX12_begunStates 45 = .ok (.if_icmp .ge 28, 3) := by decide +kernel
theorem dX12_begunStates_48 : decode cX12_begunStates 48 = .ok (.iload_n 2, 1) := by decide +kernel
theorem dX12_begunStates_49 : decode cX12_begunStates 49 = .ok (.iload_n 3, 1) := by decide +kernel
theorem dX12_begunStates_50 : decode cX12_begunStates 50 = .ok (.ishr, 1) := by decide +kernel
theorem dX12_begunStates_51 : decode cX12_begunStates 51 = .ok (.iconst 1, 1) := by decide +kernel
theorem dX12_begunStates_52 : decode cX12_begunStates 52 = .ok (.iand, 1) := by decide +kernel
theorem dX12_begunStates_53 : decode cX12_begunStates 53 = .ok (.iconst 1, 1) := by decide +kernel
theorem dX12_begunStates_54 : decode cX12_begunStates 54 = .ok (.if_icmp .ne 13, 3) := by decide +kernel
theorem dX12_begunStates_57 : decode cX12_begunStates 57 = .ok (.aload_n 0, 1) := by decide +kernel
theorem dX12_begunStates_58 : decode cX12_begunStates 58 = .ok (.bipush 10, 2) := by decide +kernel
theorem dX12_begunStates_60 : decode cX12_begunStates 60 = .ok (.iload_n 3, 1) := by decide +kernel
theorem dX12_begunStates_61 : decode cX12_begunStates 61 = .ok (.imul, 1) := by decide +kernel
theorem dX12_begunStates_62 : decode cX12_begunStates 62 = .ok (.iconst (-1), 1) := by decide +kernel
theorem dX12_begunStates_63 : decode cX12_begunStates 63 = .ok (.iconst (-1), 1) := by decide +kernel
theorem dX12_begunStates_64 : decode cX12_begunStates 64 = .ok (.invokevirtual 423, 3) := by decide +kernel
theorem dX12_begunStates_67 : decode cX12_begunStates 67 = .ok (.iinc 3 1, 3) := by decide +kernel
theorem dX12_begunStates_70 : decode cX12_begunStates 70 = .ok (.goto (-27), 3) := by decide +kernel
theorem dX12_begunStates_73 : decode cX12_begunStates 73 = .ok (.return_, 1) := by decide +kernel
theorem dX12_begunNodes_0 : decode cX12_begunNodes 0 = .ok (.iconst 0, 1) := by decide +kernel
theorem dX12_begunNodes_1 : decode cX12_begunNodes 1 = .ok (.istore_n 1, 1) := by decide +kernel
theorem dX12_begunNodes_2 : decode cX12_begunNodes 2 = .ok (.iload_n 1, 1) := by decide +kernel
theorem dX12_begunNodes_3 : decode cX12_begunNodes 3 = .ok (.aload_n 0, 1) := by decide +kernel
theorem dX12_begunNodes_4 : decode cX12_begunNodes 4 = .ok (.getfield 334, 3) := by decide +kernel
theorem dX12_begunNodes_7 : decode cX12_begunNodes 7 = .ok (.if_icmp .ge 24, 3) := by decide +kernel
theorem dX12_begunNodes_10 : decode cX12_begunNodes 10 = .ok (.aload_n 0, 1) := by decide +kernel
theorem dX12_begunNodes_11 : decode cX12_begunNodes 11 = .ok (.getfield 119, 3) := by decide +kernel
theorem dX12_begunNodes_14 : decode cX12_begunNodes 14 = .ok (.iload_n 1, 1) := by decide +kernel
theorem dX12_begunNodes_15 : decode cX12_begunNodes 15 = .ok (.iload_n 1, 1) := by decide +kernel
theorem dX12_begunNodes_16 : decode cX12_begunNodes 16 = .ok (.ifCond .ne 7, 3) := by decide +kernel
theorem dX12_begunNodes_19 : decode cX12_begunNodes 19 = .ok (.iconst 1, 1) := by decide +kernel
theorem dX12_begunNodes_20 : decode cX12_begunNodes 20 = .ok (.goto 4, 3) := by decide +kernel
theorem dX12_begunNodes_23 : decode cX12_begunNodes 23 = .ok (.iconst 0, 1) := by decide +kernel
theorem dX12_begunNodes_24 : decode cX12_begunNodes 24 = .ok (.bastore, 1) := by decide +kernel
theorem dX12_begunNodes_25 : decode cX12_begunNodes 25 = .ok (.iinc 1 1, 3) := by decide +kernel
theorem dX12_begunNodes_28 : decode cX12_begunNodes 28 = .ok (.goto (-26), 3) := by decide +kernel
theorem dX12_begunNodes_31 : decode cX12_begunNodes 31 = .ok (.iconst 0, 1) := by decide +kernel
theorem dX12_begunNodes_32 : decode cX12_begunNodes 32 = .ok (.istore_n 1, 1) := by decide +kernel
theorem dX12_begunNodes_33 : decode cX12_begunNodes 33 = .ok (.iload_n 1, 1) := by decide +kernel
theorem dX12_begunNodes_34 : decode cX12_begunNodes 34 = .ok (.aload_n 0, 1) := by decide +kernel
theorem dX12_begunNodes_35 : decode cX12_begunNodes 35 = .ok (.getfield 466, 3) := by decide +kernel
theorem dX12_begunNodes_38 : decode cX12_begunNodes 38 = .ok (.if_icmp .ge 126, 3) := by decide +kernel
theorem dX12_begunNodes_41 : decode cX12_begunNodes 41 = .ok (.iconst 0, 1) := by decide +kernel
theorem dX12_begunNodes_42 : decode cX12_begunNodes 42 = .ok (.istore_n 2, 1) := by decide +kernel
theorem dX12_begunNodes_43 : decode cX12_begunNodes 43 = .ok (.iload_n 2, 1) := by decide +kernel
theorem dX12_begunNodes_44 : decode cX12_begunNodes 44 = .ok (.aload_n 0, 1) := by decide +kernel
theorem dX12_begunNodes_45 : decode cX12_begunNodes 45 = .ok (.getfield 334, 3) := by decide +kernel
theorem dX12_begunNodes_48 : decode cX12_begunNodes 48 = .ok (.if_icmp .ge 16, 3) := by decide +kernel
theorem dX12_begunNodes_51 : decode cX12_begunNodes 51 = .ok (.aload_n 0, 1) := by decide +kernel
theorem dX12_begunNodes_52 : decode cX12_begunNodes 52 = .ok (.getfield 122, 3) := by decide +kernel
theorem dX12_begunNodes_55 : decode cX12_begunNodes 55 = .ok (.iload_n 2, 1) := by decide +kernel
theorem dX12_begunNodes_56 : decode cX12_begunNodes 56 = .ok (.iconst 0, 1) := by decide +kernel
theorem dX12_begunNodes_57 : decode cX12_begunNodes 57 = .ok (.bastore, 1) := by decide +kernel
theorem dX12_begunNodes_58 : decode cX12_begunNodes 58 = .ok (.iinc 2 1, 3) := by decide +kernel
theorem dX12_begunNodes_61 : decode cX12_begunNodes 61 = .ok (.goto (-18), 3) := by decide +kernel
theorem dX12_begunNodes_64 : decode cX12_begunNodes 64 = .ok (.iconst 0, 1) := by decide +kernel
theorem dX12_begunNodes_65 : decode cX12_begunNodes 65 = .ok (.istore_n 2, 1) := by decide +kernel
theorem dX12_begunNodes_66 : decode cX12_begunNodes 66 = .ok (.iload_n 2, 1) := by decide +kernel
theorem dX12_begunNodes_67 : decode cX12_begunNodes 67 = .ok (.aload_n 0, 1) := by decide +kernel
theorem dX12_begunNodes_68 : decode cX12_begunNodes 68 = .ok (.getfield 334, 3) := by decide +kernel
theorem dX12_begunNodes_71 : decode cX12_begunNodes 71 = .ok (.if_icmp .ge 59, 3) := by decide +kernel
theorem dX12_begunNodes_74 : decode cX12_begunNodes 74 = .ok (.iconst 0, 1) := by decide +kernel
theorem dX12_begunNodes_75 : decode cX12_begunNodes 75 = .ok (.istore_n 3, 1) := by decide +kernel
theorem dX12_begunNodes_76 : decode cX12_begunNodes 76 = .ok (.aload_n 0, 1) := by decide +kernel
theorem dX12_begunNodes_77 : decode cX12_begunNodes 77 = .ok (.getfield 119, 3) := by decide +kernel
theorem dX12_begunNodes_80 : decode cX12_begunNodes 80 = .ok (.iload_n 2, 1) := by decide +kernel
theorem dX12_begunNodes_81 : decode cX12_begunNodes 81 = .ok (.baload, 1) := by decide +kernel
theorem dX12_begunNodes_82 : decode cX12_begunNodes 82 = .ok (.ifCond .eq 42, 3) := by decide +kernel
theorem dX12_begunNodes_85 : decode cX12_begunNodes 85 = .ok (.iload_n 3, 1) := by decide +kernel
theorem dX12_begunNodes_86 : decode cX12_begunNodes 86 = .ok (.aload_n 0, 1) := by decide +kernel
theorem dX12_begunNodes_87 : decode cX12_begunNodes 87 = .ok (.iload_n 2, 1) := by decide +kernel
theorem dX12_begunNodes_88 : decode cX12_begunNodes 88 = .ok (.aload_n 0, 1) := by decide +kernel
theorem dX12_begunNodes_89 : decode cX12_begunNodes 89 = .ok (.getfield 67, 3) := by decide +kernel
theorem dX12_begunNodes_92 : decode cX12_begunNodes 92 = .ok (.iload_n 1, 1) := by decide +kernel
theorem dX12_begunNodes_93 : decode cX12_begunNodes 93 = .ok (.iaload, 1) := by decide +kernel
theorem dX12_begunNodes_94 : decode cX12_begunNodes 94 = .ok (.invokevirtual 387, 3) := by decide +kernel
theorem dX12_begunNodes_97 : decode cX12_begunNodes 97 = .ok (.if_icmp .ge 27, 3) := by decide +kernel
theorem dX12_begunNodes_100 : decode cX12_begunNodes 100 = .ok (.aload_n 0, 1) := by decide +kernel
theorem dX12_begunNodes_101 : decode cX12_begunNodes 101 = .ok (.getfield 122, 3) := by decide +kernel
theorem dX12_begunNodes_104 : decode cX12_begunNodes 104 = .ok (.aload_n 0, 1) := by decide +kernel
theorem dX12_begunNodes_105 : decode cX12_begunNodes 105 = .ok (.iload_n 2, 1) := by decide +kernel
theorem dX12_begunNodes_106 : decode cX12_begunNodes 106 = .ok (.aload_n 0, 1) := by decide +kernel
theorem dX12_begunNodes_107 : decode cX12_begunNodes 107 = .ok (.getfield 67, 3) := by decide +kernel
theorem dX12_begunNodes_110 : decode cX12_begunNodes 110 = .ok (.iload_n 1, 1) := by decide +kernel
theorem dX12_begunNodes_111 : decode cX12_begunNodes 111 = .ok (.iaload, 1) := by decide +kernel
theorem dX12_begunNodes_112 : decode cX12_begunNodes 112 = .ok (.iload_n 3, 1) := by decide +kernel
theorem dX12_begunNodes_113 : decode cX12_begunNodes 113 = .ok (.invokevirtual 399, 3) := by decide +kernel
theorem dX12_begunNodes_116 : decode cX12_begunNodes 116 = .ok (.iconst 1, 1) := by decide +kernel
theorem dX12_begunNodes_117 : decode cX12_begunNodes 117 = .ok (.bastore, 1) := by decide +kernel
theorem dX12_begunNodes_118 : decode cX12_begunNodes 118 = .ok (.iinc 3 1, 3) := by decide +kernel
theorem dX12_begunNodes_121 : decode cX12_begunNodes 121 = .ok (.goto (-45), 3) := by decide +kernel
theorem dX12_begunNodes_124 : decode cX12_begunNodes 124 = .ok (.iinc 2 1, 3) := by decide +kernel
theorem dX12_begunNodes_127 : decode cX12_begunNodes 127 = .ok (.goto (-61), 3) := by decide +kernel
theorem dX12_begunNodes_130 : decode cX12_begunNodes 130 = .ok (.iconst 0, 1) := by decide +kernel
theorem dX12_begunNodes_131 : decode cX12_begunNodes 131 = .ok (.istore_n 2, 1) := by decide +kernel
theorem dX12_begunNodes_132 : decode cX12_begunNodes 132 = .ok (.iload_n 2, 1) := by decide +kernel
theorem dX12_begunNodes_133 : decode cX12_begunNodes 133 = .ok (.aload_n 0, 1) := by decide +kernel
theorem dX12_begunNodes_134 : decode cX12_begunNodes 134 = .ok (.getfield 334, 3) := by decide +kernel
theorem dX12_begunNodes_137 : decode cX12_begunNodes 137 = .ok (.if_icmp .ge 21, 3) := by decide +kernel
theorem dX12_begunNodes_140 : decode cX12_begunNodes 140 = .ok (.aload_n 0, 1) := by decide +kernel
theorem dX12_begunNodes_141 : decode cX12_begunNodes 141 = .ok (.getfield 119, 3) := by decide +kernel
theorem dX12_begunNodes_144 : decode cX12_begunNodes 144 = .ok (.iload_n 2, 1) := by decide +kernel
theorem dX12_begunNodes_145 : decode cX12_begunNodes 145 = .ok (.aload_n 0, 1) := by decide +kernel
theorem dX12_begunNodes_146 : decode cX12_begunNodes 146 = .ok (.getfield 122, 3) := by decide +kernel
theorem dX12_begunNodes_149 : decode cX12_begunNodes 149 = .ok (.iload_n 2, 1) := by decide +kernel
theorem dX12_begunNodes_150 : decode cX12_begunNodes 150 = .ok (.baload, 1) := by decide +kernel
theorem dX12_begunNodes_151 : decode cX12_begunNodes 151 = .ok (.bastore, 1) := by decide +kernel
theorem dX12_begunNodes_152 : decode cX12_begunNodes 152 = .ok (.iinc 2 1, 3) := by decide +kernel
theorem dX12_begunNodes_155 : decode cX12_begunNodes 155 = .ok (.goto (-23), 3) := by decide +kernel
theorem dX12_begunNodes_158 : decode cX12_begunNodes 158 = .ok (.iinc 1 1, 3) := by decide +kernel
theorem dX12_begunNodes_161 : decode cX12_begunNodes 161 = .ok (.goto (-128), 3) := by decide +kernel
theorem dX12_begunNodes_164 : decode cX12_begunNodes 164 = .ok (.aload_n 0, 1) := by decide +kernel
theorem dX12_begunNodes_165 : decode cX12_begunNodes 165 = .ok (.iconst 4, 1) := by decide +kernel
theorem dX12_begunNodes_166 : decode cX12_begunNodes 166 = .ok (.putfield 393, 3) := by decide +kernel
theorem dX12_begunNodes_169 : decode cX12_begunNodes 169 = .ok (.iconst 0, 1) := by decide +kernel
theorem dX12_begunNodes_170 : decode cX12_begunNodes 170 = .ok (.istore_n 1, 1) := by decide +kernel
theorem dX12_begunNodes_171 : decode cX12_begunNodes 171 = .ok (.iload_n 1, 1) := by decide +kernel
theorem dX12_begunNodes_172 : decode cX12_begunNodes 172 = .ok (.aload_n 0, 1) := by decide +kernel
theorem dX12_begunNodes_173 : decode cX12_begunNodes 173 = .ok (.getfield 334, 3) := by decide +kernel
theorem dX12_begunNodes_176 : decode cX12_begunNodes 176 = .ok (.if_icmp .ge 28, 3) := by decide +kernel
theorem dX12_begunNodes_179 : decode cX12_begunNodes 179 = .ok (.aload_n 0, 1) := by decide +kernel
theorem dX12_begunNodes_180 : decode cX12_begunNodes 180 = .ok (.getfield 119, 3) := by decide +kernel
theorem dX12_begunNodes_183 : decode cX12_begunNodes 183 = .ok (.iload_n 1, 1) := by decide +kernel
theorem dX12_begunNodes_184 : decode cX12_begunNodes 184 = .ok (.baload, 1) := by decide +kernel
theorem dX12_begunNodes_185 : decode cX12_begunNodes 185 = .ok (.ifCond .eq 13, 3) := by decide +kernel
theorem dX12_begunNodes_188 : decode cX12_begunNodes 188 = .ok (.aload_n 0, 1) := by decide +kernel
theorem dX12_begunNodes_189 : decode cX12_begunNodes 189 = .ok (.bipush 10, 2) := by decide +kernel
theorem dX12_begunNodes_191 : decode cX12_begunNodes 191 = .ok (.iload_n 1, 1) := by decide +kernel
theorem dX12_begunNodes_192 : decode cX12_begunNodes 192 = .ok (.imul, 1) := by decide +kernel
theorem dX12_begunNodes_193 : decode cX12_begunNodes 193 = .ok (.iconst (-1), 1) := by decide +kernel
theorem dX12_begunNodes_194 : decode cX12_begunNodes 194 = .ok (.iconst (-1), 1) := by decide +kernel
theorem dX12_begunNodes_195 : decode cX12_begunNodes 195 = .ok (.invokevirtual 423, 3) := by decide +kernel
theorem dX12_begunNodes_198 : decode cX12_begunNodes 198 = .ok (.iinc 1 1, 3) := by decide +kernel
theorem dX12_begunNodes_201 : decode cX12_begunNodes 201 = .ok (.goto (-30), 3) := by decide +kernel
theorem dX12_begunNodes_204 : decode cX12_begunNodes 204 = .ok (.return_, 1) := by decide +kernel
theorem dX12_readLetters__0 : decode cX12_readLetters_ 0 = .ok (.iload_n 2, 1) := by decide +kernel
theorem dX12_readLetters__1 : decode cX12_readLetters_ 1 = .ok (.istore_n 3, 1) := by decide +kernel
theorem dX12_readLetters__2 : decode cX12_readLetters_ 2 = .ok (.aload_n 0, 1) := by decide +kernel
theorem dX12_readLetters__3 : decode cX12_readLetters_ 3 = .ok (.getfield 146, 3) := by decide +kernel
theorem dX12_readLetters__6 : decode cX12_readLetters_ 6 = .ok (.istore 4, 2) := by decide +kernel
theorem dX12_readLetters__8 : decode cX12_readLetters_ 8 = .ok (.iload 4, 2) := by decide +kernel
theorem dX12_readLetters__10 : decode cX12_readLetters_ 10 = .ok (.aload_n 0, 1) := by decide +kernel
theorem dX12_readLetters__11 : decode cX12_readLetters_ 11 = .ok (.getfield 160, 3) := by decide +kernel
theorem dX12_readLetters__14 : decode cX12_readLetters_ 14 = .ok (.if_icmp .ge 67, 3) := by decide +kernel
theorem dX12_readLetters__17 : decode cX12_readLetters_ 17 = .ok (.aload_n 0, 1) := by decide +kernel
theorem dX12_readLetters__18 : decode cX12_readLetters_ 18 = .ok (.getfield 140, 3) := by decide +kernel
theorem dX12_readLetters__21 : decode cX12_readLetters_ 21 = .ok (.ifCond .ne 60, 3) := by decide +kernel
theorem dX12_readLetters__24 : decode cX12_readLetters_ 24 = .ok (.aload_n 0, 1) := by decide +kernel
theorem dX12_readLetters__25 : decode cX12_readLetters_ 25 = .ok (.getfield 13, 3) := by decide +kernel
theorem dX12_readLetters__28 : decode cX12_readLetters_ 28 = .ok (.iload 4, 2) := by decide +kernel
theorem dX12_readLetters__30 : decode cX12_readLetters_ 30 = .ok (.iaload, 1) := by decide +kernel
theorem dX12_readLetters__31 : decode cX12_readLetters_ 31 = .ok (.bipush 97, 2) := by decide +kernel
theorem dX12_readLetters__33 : decode cX12_readLetters_ 33 = .ok (.isub, 1) := by decide +kernel
theorem dX12_readLetters__34 : decode cX12_readLetters_ 34 = .ok (.istore 5, 2) := by decide +kernel
theorem dX12_readLetters__36 : decode cX12_readLetters_ 36 = .ok (.iload 5, 2) := by decide +kernel
theorem dX12_readLetters__38 : decode cX12_readLetters_ 38 = .ok (.aload_n 0, 1) := by decide +kernel
theorem dX12_readLetters__39 : decode cX12_readLetters_ 39 = .ok (.getfield 283, 3) := by decide +kernel
theorem dX12_readLetters__42 : decode cX12_readLetters_ 42 = .ok (.if_icmp .lt 11, 3) := by decide +kernel
theorem dX12_readLetters__45 : decode cX12_readLetters_ 45 = .ok (.aload_n 0, 1) := by decide +kernel
theorem dX12_readLetters__46 : decode cX12_readLetters_ 46 = .ok (.iconst 1, 1) := by decide +kernel
theorem dX12_readLetters__47 : decode cX12_readLetters_ 47 = .ok (.invokevirtual 205, 3) := by decide +kernel
theorem dX12_readLetters__50 : decode cX12_readLetters_ 50 = .ok (.goto 25, 3) := by decide +kernel
theorem dX12_readLetters__53 : decode cX12_readLetters_ 53 = .ok (.iload_n 3, 1) := by decide +kernel
theorem dX12_readLetters__54 : decode cX12_readLetters_ 54 = .ok (.bipush 10, 2) := by decide +kernel
theorem dX12_readLetters__56 : decode cX12_readLetters_ 56 = .ok (.if_icmp .ne 11, 3) := by decide +kernel
theorem dX12_readLetters__59 : decode cX12_readLetters_ 59 = .ok (.aload_n 0, 1) := by decide +kernel
theorem dX12_readLetters__60 : decode cX12_readLetters_ 60 = .ok (.iconst 4, 1) := by decide +kernel
theorem dX12_readLetters__61 : decode cX12_readLetters_ 61 = .ok (.invokevirtual 205, 3) := by decide +kernel
theorem dX12_readLetters__64 : decode cX12_readLetters_ 64 = .ok (.goto 11, 3) := by decide +kernel
theorem dX12_readLetters__67 : decode cX12_readLetters_ 67 = .ok (.aload_n 1, 1) := by decide +kernel
theorem dX12_readLetters__68 : decode cX12_readLetters_ 68 = .ok (.iload_n 3, 1) := by decide +kernel
theorem dX12_readLetters__69 : decode cX12_readLetters_ 69 = .ok (.iload 5, 2) := by decide +kernel
theorem dX12_readLetters__71 : decode cX12_readLetters_ 71 = .ok (.iastore, 1) := by decide +kernel
theorem dX12_readLetters__72 : decode cX12_readLetters_ 72 = .ok (.iinc 3 1, 3) := by decide +kernel
theorem dX12_readLetters__75 : decode cX12_readLetters_ 75 = .ok (.iinc 4 1, 3) := by decide +kernel
theorem dX12_readLetters__78 : decode cX12_readLetters_ 78 = .ok (.goto (-70), 3) := by decide +kernel
theorem dX12_readLetters__81 : decode cX12_readLetters_ 81 = .ok (.aload_n 0, 1) := by decide +kernel
theorem dX12_readLetters__82 : decode cX12_readLetters_ 82 = .ok (.invokevirtual 209, 3) := by decide +kernel
theorem dX12_readLetters__85 : decode cX12_readLetters_ 85 = .ok (.iload_n 3, 1) := by decide +kernel
theorem dX12_readLetters__86 : decode cX12_readLetters_ 86 = .ok (.ireturn, 1) := by decide +kernel
theorem dX12_readLasso_0 : decode cX12_readLasso 0 = .ok (.aload_n 0, 1) := by decide +kernel
theorem dX12_readLasso_1 : decode cX12_readLasso 1 = .ok (.iconst 0, 1) := by decide +kernel
theorem dX12_readLasso_2 : decode cX12_readLasso 2 = .ok (.putfield 466, 3) := by decide +kernel
theorem dX12_readLasso_5 : decode cX12_readLasso 5 = .ok (.aload_n 0, 1) := by decide +kernel
theorem dX12_readLasso_6 : decode cX12_readLasso 6 = .ok (.iconst 0, 1) := by decide +kernel
theorem dX12_readLasso_7 : decode cX12_readLasso 7 = .ok (.putfield 405, 3) := by decide +kernel
theorem dX12_readLasso_10 : decode cX12_readLasso 10 = .ok (.aload_n 0, 1) := by decide +kernel
theorem dX12_readLasso_11 : decode cX12_readLasso 11 = .ok (.getfield 140, 3) := by decide +kernel
theorem dX12_readLasso_14 : decode cX12_readLasso 14 = .ok (.ifCond .ne 30, 3) := by decide +kernel
theorem dX12_readLasso_17 : decode cX12_readLasso 17 = .ok (.aload_n 0, 1) := by decide +kernel
theorem dX12_readLasso_18 : decode cX12_readLasso 18 = .ok (.getfield 163, 3) := by decide +kernel
theorem dX12_readLasso_21 : decode cX12_readLasso 21 = .ok (.iconst 2, 1) := by decide +kernel
theorem dX12_readLasso_22 : decode cX12_readLasso 22 = .ok (.if_icmp .ne 22, 3) := by decide +kernel
theorem dX12_readLasso_25 : decode cX12_readLasso 25 = .ok (.aload_n 0, 1) := by decide +kernel
theorem dX12_readLasso_26 : decode cX12_readLasso 26 = .ok (.aload_n 0, 1) := by decide +kernel
theorem dX12_readLasso_27 : decode cX12_readLasso 27 = .ok (.aload_n 0, 1) := by decide +kernel
theorem dX12_readLasso_28 : decode cX12_readLasso 28 = .ok (.getfield 67, 3) := by decide +kernel
theorem dX12_readLasso_31 : decode cX12_readLasso 31 = .ok (.aload_n 0, 1) := by decide +kernel
theorem dX12_readLasso_32 : decode cX12_readLasso 32 = .ok (.getfield 466, 3) := by decide +kernel
theorem dX12_readLasso_35 : decode cX12_readLasso 35 = .ok (.invokevirtual 469, 3) := by decide +kernel
theorem dX12_readLasso_38 : decode cX12_readLasso 38 = .ok (.putfield 466, 3) := by decide +kernel
theorem dX12_readLasso_41 : decode cX12_readLasso 41 = .ok (.goto (-31), 3) := by decide +kernel
theorem dX12_readLasso_44 : decode cX12_readLasso 44 = .ok (.aload_n 0, 1) := by decide +kernel
theorem dX12_readLasso_45 : decode cX12_readLasso 45 = .ok (.bipush 40, 2) := by decide +kernel
theorem dX12_readLasso_47 : decode cX12_readLasso 47 = .ok (.invokevirtual 221, 3) := by decide +kernel
theorem dX12_readLasso_50 : decode cX12_readLasso 50 = .ok (.ifCond .ne 8, 3) := by decide +kernel
theorem dX12_readLasso_53 : decode cX12_readLasso 53 = .ok (.aload_n 0, 1) := by decide +kernel
theorem dX12_readLasso_54 : decode cX12_readLasso 54 = .ok (.iconst 1, 1) := by decide +kernel
theorem dX12_readLasso_55 : decode cX12_readLasso 55 = .ok (.invokevirtual 205, 3) := by decide +kernel
theorem dX12_readLasso_58 : decode cX12_readLasso 58 = .ok (.aload_n 0, 1) := by decide +kernel
theorem dX12_readLasso_59 : decode cX12_readLasso 59 = .ok (.invokevirtual 209, 3) := by decide +kernel
theorem dX12_readLasso_62 : decode cX12_readLasso 62 = .ok (.aload_n 0, 1) := by decide +kernel
theorem dX12_readLasso_63 : decode cX12_readLasso 63 = .ok (.getfield 140, 3) := by decide +kernel
theorem dX12_readLasso_66 : decode cX12_readLasso 66 = .ok (.ifCond .ne 16, 3) := by decide +kernel
theorem dX12_readLasso_69 : decode cX12_readLasso 69 = .ok (.aload_n 0, 1) := by decide +kernel
theorem dX12_readLasso_70 : decode cX12_readLasso 70 = .ok (.getfield 163, 3) := by decide +kernel
theorem dX12_readLasso_73 : decode cX12_readLasso 73 = .ok (.iconst 2, 1) := by decide +kernel
theorem dX12_readLasso_74 : decode cX12_readLasso 74 = .ok (.if_icmp .eq 8, 3) := by decide +kernel
theorem dX12_readLasso_77 : decode cX12_readLasso 77 = .ok (.aload_n 0, 1) := by decide +kernel
theorem dX12_readLasso_78 : decode cX12_readLasso 78 = .ok (.iconst 1, 1) := by decide +kernel
theorem dX12_readLasso_79 : decode cX12_readLasso 79 = .ok (.invokevirtual 205, 3) := by decide +kernel
theorem dX12_readLasso_82 : decode cX12_readLasso 82 = .ok (.aload_n 0, 1) := by decide +kernel
theorem dX12_readLasso_83 : decode cX12_readLasso 83 = .ok (.getfield 140, 3) := by decide +kernel
theorem dX12_readLasso_86 : decode cX12_readLasso 86 = .ok (.ifCond .ne 30, 3) := by decide +kernel
theorem dX12_readLasso_89 : decode cX12_readLasso 89 = .ok (.aload_n 0, 1) := by decide +kernel
theorem dX12_readLasso_90 : decode cX12_readLasso 90 = .ok (.getfield 163, 3) := by decide +kernel
theorem dX12_readLasso_93 : decode cX12_readLasso 93 = .ok (.iconst 2, 1) := by decide +kernel
theorem dX12_readLasso_94 : decode cX12_readLasso 94 = .ok (.if_icmp .ne 22, 3) := by decide +kernel
theorem dX12_readLasso_97 : decode cX12_readLasso 97 = .ok (.aload_n 0, 1) := by decide +kernel
theorem dX12_readLasso_98 : decode cX12_readLasso 98 = .ok (.aload_n 0, 1) := by decide +kernel
theorem dX12_readLasso_99 : decode cX12_readLasso 99 = .ok (.aload_n 0, 1) := by decide +kernel
theorem dX12_readLasso_100 : decode cX12_readLasso 100 = .ok (.getfield 70, 3) := by decide +kernel
theorem dX12_readLasso_103 : decode cX12_readLasso 103 = .ok (.aload_n 0, 1) := by decide +kernel
theorem dX12_readLasso_104 : decode cX12_readLasso 104 = .ok (.getfield 405, 3) := by decide +kernel
theorem dX12_readLasso_107 : decode cX12_readLasso 107 = .ok (.invokevirtual 469, 3) := by decide +kernel
theorem dX12_readLasso_110 : decode cX12_readLasso 110 = .ok (.putfield 405, 3) := by decide +kernel
theorem dX12_readLasso_113 : decode cX12_readLasso 113 = .ok (.goto (-31), 3) := by decide +kernel
theorem dX12_readLasso_116 : decode cX12_readLasso 116 = .ok (.aload_n 0, 1) := by decide +kernel
theorem dX12_readLasso_117 : decode cX12_readLasso 117 = .ok (.bipush 41, 2) := by decide +kernel
theorem dX12_readLasso_119 : decode cX12_readLasso 119 = .ok (.invokevirtual 221, 3) := by decide +kernel
theorem dX12_readLasso_122 : decode cX12_readLasso 122 = .ok (.ifCond .ne 8, 3) := by decide +kernel
theorem dX12_readLasso_125 : decode cX12_readLasso 125 = .ok (.aload_n 0, 1) := by decide +kernel
theorem dX12_readLasso_126 : decode cX12_readLasso 126 = .ok (.iconst 1, 1) := by decide +kernel
theorem dX12_readLasso_127 : decode cX12_readLasso 127 = .ok (.invokevirtual 205, 3) := by decide +kernel
theorem dX12_readLasso_130 : decode cX12_readLasso 130 = .ok (.aload_n 0, 1) := by decide +kernel
theorem dX12_readLasso_131 : decode cX12_readLasso 131 = .ok (.invokevirtual 209, 3) := by decide +kernel
theorem dX12_readLasso_134 : decode cX12_readLasso 134 = .ok (.aload_n 0, 1) := by decide +kernel
theorem dX12_readLasso_135 : decode cX12_readLasso 135 = .ok (.invokevirtual 224, 3) := by decide +kernel
theorem dX12_readLasso_138 : decode cX12_readLasso 138 = .ok (.return_, 1) := by decide +kernel
theorem dX12_takes_0 : decode cX12_takes 0 = .ok (.aload_n 0, 1) := by decide +kernel
theorem dX12_takes_1 : decode cX12_takes 1 = .ok (.iconst 0, 1) := by decide +kernel
theorem dX12_takes_2 : decode cX12_takes 2 = .ok (.putfield 131, 3) := by decide +kernel
theorem dX12_takes_5 : decode cX12_takes 5 = .ok (.aload_n 0, 1) := by decide +kernel
theorem dX12_takes_6 : decode cX12_takes 6 = .ok (.iload_n 1, 1) := by decide +kernel
theorem dX12_takes_7 : decode cX12_takes 7 = .ok (.invokevirtual 291, 3) := by decide +kernel
theorem dX12_takes_10 : decode cX12_takes 10 = .ok (.ifCond .ne 9, 3) := by decide +kernel
theorem dX12_takes_13 : decode cX12_takes 13 = .ok (.aload_n 0, 1) := by decide +kernel
theorem dX12_takes_14 : decode cX12_takes 14 = .ok (.iconst 1, 1) := by decide +kernel
theorem dX12_takes_15 : decode cX12_takes 15 = .ok (.invokevirtual 270, 3) := by decide +kernel
theorem dX12_takes_18 : decode cX12_takes 18 = .ok (.ireturn, 1) := by decide +kernel
theorem dX12_takes_19 : decode cX12_takes 19 = .ok (.aload_n 0, 1) := by decide +kernel
theorem dX12_takes_20 : decode cX12_takes 20 = .ok (.iload_n 2, 1) := by decide +kernel
theorem dX12_takes_21 : decode cX12_takes 21 = .ok (.invokevirtual 267, 3) := by decide +kernel
theorem dX12_takes_24 : decode cX12_takes 24 = .ok (.ifCond .eq 9, 3) := by decide +kernel
theorem dX12_takes_27 : decode cX12_takes 27 = .ok (.aload_n 0, 1) := by decide +kernel
theorem dX12_takes_28 : decode cX12_takes 28 = .ok (.iconst 2, 1) := by decide +kernel
theorem dX12_takes_29 : decode cX12_takes 29 = .ok (.invokevirtual 270, 3) := by decide +kernel
theorem dX12_takes_32 : decode cX12_takes 32 = .ok (.ireturn, 1) := by decide +kernel
theorem dX12_takes_33 : decode cX12_takes 33 = .ok (.aload_n 0, 1) := by decide +kernel
theorem dX12_takes_34 : decode cX12_takes 34 = .ok (.iload_n 2, 1) := by decide +kernel
theorem dX12_takes_35 : decode cX12_takes 35 = .ok (.invokevirtual 274, 3) := by decide +kernel
theorem dX12_takes_38 : decode cX12_takes 38 = .ok (.aload_n 0, 1) := by decide +kernel
theorem dX12_takes_39 : decode cX12_takes 39 = .ok (.invokevirtual 472, 3) := by decide +kernel
theorem dX12_takes_42 : decode cX12_takes 42 = .ok (.aload_n 0, 1) := by decide +kernel
theorem dX12_takes_43 : decode cX12_takes 43 = .ok (.getfield 140, 3) := by decide +kernel
theorem dX12_takes_46 : decode cX12_takes 46 = .ok (.ifCond .le 8, 3) := by decide +kernel
theorem dX12_takes_49 : decode cX12_takes 49 = .ok (.aload_n 0, 1) := by decide +kernel
theorem dX12_takes_50 : decode cX12_takes 50 = .ok (.invokevirtual 280, 3) := by decide +kernel
theorem dX12_takes_53 : decode cX12_takes 53 = .ok (.ireturn, 1) := by decide +kernel
theorem dX12_takes_54 : decode cX12_takes 54 = .ok (.aload_n 0, 1) := by decide +kernel
theorem dX12_takes_55 : decode cX12_takes 55 = .ok (.aload_n 0, 1) := by decide +kernel
theorem dX12_takes_56 : decode cX12_takes 56 = .ok (.iload_n 1, 1) := by decide +kernel
theorem dX12_takes_57 : decode cX12_takes 57 = .ok (.iconst 0, 1) := by decide +kernel
theorem dX12_takes_58 : decode cX12_takes 58 = .ok (.invokevirtual 475, 3) := by decide +kernel
theorem dX12_takes_61 : decode cX12_takes 61 = .ok (.ifCond .eq 7, 3) := by decide +kernel
theorem dX12_takes_64 : decode cX12_takes 64 = .ok (.iconst 1, 1) := by decide +kernel
theorem dX12_takes_65 : decode cX12_takes 65 = .ok (.goto 4, 3) := by decide +kernel
theorem dX12_takes_68 : decode cX12_takes 68 = .ok (.iconst 0, 1) := by decide +kernel
theorem dX12_takes_69 : decode cX12_takes 69 = .ok (.invokevirtual 288, 3) := by decide +kernel
theorem dX12_takes_72 : decode cX12_takes 72 = .ok (.ireturn, 1) := by decide +kernel
theorem dX12_lacks_0 : decode cX12_lacks 0 = .ok (.aload_n 0, 1) := by decide +kernel
theorem dX12_lacks_1 : decode cX12_lacks 1 = .ok (.iconst 0, 1) := by decide +kernel
theorem dX12_lacks_2 : decode cX12_lacks 2 = .ok (.putfield 131, 3) := by decide +kernel
theorem dX12_lacks_5 : decode cX12_lacks 5 = .ok (.aload_n 0, 1) := by decide +kernel
theorem dX12_lacks_6 : decode cX12_lacks 6 = .ok (.iload_n 1, 1) := by decide +kernel
theorem dX12_lacks_7 : decode cX12_lacks 7 = .ok (.invokevirtual 291, 3) := by decide +kernel
theorem dX12_lacks_10 : decode cX12_lacks 10 = .ok (.ifCond .ne 9, 3) := by decide +kernel
theorem dX12_lacks_13 : decode cX12_lacks 13 = .ok (.aload_n 0, 1) := by decide +kernel
theorem dX12_lacks_14 : decode cX12_lacks 14 = .ok (.iconst 1, 1) := by decide +kernel
theorem dX12_lacks_15 : decode cX12_lacks 15 = .ok (.invokevirtual 270, 3) := by decide +kernel
theorem dX12_lacks_18 : decode cX12_lacks 18 = .ok (.ireturn, 1) := by decide +kernel
theorem dX12_lacks_19 : decode cX12_lacks 19 = .ok (.aload_n 0, 1) := by decide +kernel
theorem dX12_lacks_20 : decode cX12_lacks 20 = .ok (.iload_n 2, 1) := by decide +kernel
theorem dX12_lacks_21 : decode cX12_lacks 21 = .ok (.invokevirtual 267, 3) := by decide +kernel
theorem dX12_lacks_24 : decode cX12_lacks 24 = .ok (.ifCond .eq 9, 3) := by decide +kernel
theorem dX12_lacks_27 : decode cX12_lacks 27 = .ok (.aload_n 0, 1) := by decide +kernel
theorem dX12_lacks_28 : decode cX12_lacks 28 = .ok (.iconst 2, 1) := by decide +kernel
theorem dX12_lacks_29 : decode cX12_lacks 29 = .ok (.invokevirtual 270, 3) := by decide +kernel
theorem dX12_lacks_32 : decode cX12_lacks 32 = .ok (.ireturn, 1) := by decide +kernel
theorem dX12_lacks_33 : decode cX12_lacks 33 = .ok (.aload_n 0, 1) := by decide +kernel
theorem dX12_lacks_34 : decode cX12_lacks 34 = .ok (.iload_n 2, 1) := by decide +kernel
theorem dX12_lacks_35 : decode cX12_lacks 35 = .ok (.invokevirtual 274, 3) := by decide +kernel
theorem dX12_lacks_38 : decode cX12_lacks 38 = .ok (.aload_n 0, 1) := by decide +kernel
theorem dX12_lacks_39 : decode cX12_lacks 39 = .ok (.invokevirtual 472, 3) := by decide +kernel
theorem dX12_lacks_42 : decode cX12_lacks 42 = .ok (.aload_n 0, 1) := by decide +kernel
theorem dX12_lacks_43 : decode cX12_lacks 43 = .ok (.getfield 140, 3) := by decide +kernel
theorem dX12_lacks_46 : decode cX12_lacks 46 = .ok (.ifCond .le 8, 3) := by decide +kernel
theorem dX12_lacks_49 : decode cX12_lacks 49 = .ok (.aload_n 0, 1) := by decide +kernel
theorem dX12_lacks_50 : decode cX12_lacks 50 = .ok (.invokevirtual 280, 3) := by decide +kernel
theorem dX12_lacks_53 : decode cX12_lacks 53 = .ok (.ireturn, 1) := by decide +kernel
theorem dX12_lacks_54 : decode cX12_lacks 54 = .ok (.aload_n 0, 1) := by decide +kernel
theorem dX12_lacks_55 : decode cX12_lacks 55 = .ok (.iload_n 1, 1) := by decide +kernel
theorem dX12_lacks_56 : decode cX12_lacks 56 = .ok (.invokevirtual 372, 3) := by decide +kernel
theorem dX12_lacks_59 : decode cX12_lacks 59 = .ok (.ifCond .ne 9, 3) := by decide +kernel
theorem dX12_lacks_62 : decode cX12_lacks 62 = .ok (.aload_n 0, 1) := by decide +kernel
theorem dX12_lacks_63 : decode cX12_lacks 63 = .ok (.iconst 3, 1) := by decide +kernel
theorem dX12_lacks_64 : decode cX12_lacks 64 = .ok (.invokevirtual 270, 3) := by decide +kernel
theorem dX12_lacks_67 : decode cX12_lacks 67 = .ok (.ireturn, 1) := by decide +kernel
theorem dX12_lacks_68 : decode cX12_lacks 68 = .ok (.aload_n 0, 1) := by decide +kernel
theorem dX12_lacks_69 : decode cX12_lacks 69 = .ok (.aload_n 0, 1) := by decide +kernel
theorem dX12_lacks_70 : decode cX12_lacks 70 = .ok (.iload_n 1, 1) := by decide +kernel
theorem dX12_lacks_71 : decode cX12_lacks 71 = .ok (.iconst 1, 1) := by decide +kernel
theorem dX12_lacks_72 : decode cX12_lacks 72 = .ok (.invokevirtual 475, 3) := by decide +kernel
theorem dX12_lacks_75 : decode cX12_lacks 75 = .ok (.ifCond .eq 7, 3) := by decide +kernel
theorem dX12_lacks_78 : decode cX12_lacks 78 = .ok (.iconst 1, 1) := by decide +kernel
theorem dX12_lacks_79 : decode cX12_lacks 79 = .ok (.goto 4, 3) := by decide +kernel
theorem dX12_lacks_82 : decode cX12_lacks 82 = .ok (.iconst 0, 1) := by decide +kernel
theorem dX12_lacks_83 : decode cX12_lacks 83 = .ok (.invokevirtual 288, 3) := by decide +kernel
theorem dX12_lacks_86 : decode cX12_lacks 86 = .ok (.ireturn, 1) := by decide +kernel
theorem dX12_follows_0 : decode cX12_follows 0 = .ok (.aload_n 0, 1) := by decide +kernel
theorem dX12_follows_1 : decode cX12_follows 1 = .ok (.iconst 0, 1) := by decide +kernel
theorem dX12_follows_2 : decode cX12_follows 2 = .ok (.putfield 131, 3) := by decide +kernel
theorem dX12_follows_5 : decode cX12_follows 5 = .ok (.aload_n 0, 1) := by decide +kernel
theorem dX12_follows_6 : decode cX12_follows 6 = .ok (.iload_n 1, 1) := by decide +kernel
theorem dX12_follows_7 : decode cX12_follows 7 = .ok (.invokevirtual 291, 3) := by decide +kernel
theorem dX12_follows_10 : decode cX12_follows 10 = .ok (.ifCond .ne 9, 3) := by decide +kernel
theorem dX12_follows_13 : decode cX12_follows 13 = .ok (.aload_n 0, 1) := by decide +kernel
theorem dX12_follows_14 : decode cX12_follows 14 = .ok (.iconst 1, 1) := by decide +kernel
theorem dX12_follows_15 : decode cX12_follows 15 = .ok (.invokevirtual 270, 3) := by decide +kernel
theorem dX12_follows_18 : decode cX12_follows 18 = .ok (.ireturn, 1) := by decide +kernel
theorem dX12_follows_19 : decode cX12_follows 19 = .ok (.iload_n 2, 1) := by decide +kernel
theorem dX12_follows_20 : decode cX12_follows 20 = .ok (.iconst 0, 1) := by decide +kernel
theorem dX12_follows_21 : decode cX12_follows 21 = .ok (.bipush 20, 2) := by decide +kernel
theorem dX12_follows_23 : decode cX12_follows 23 = .ok (.invokestatic 156, 3) := by decide +kernel
theorem dX12_follows_26 : decode cX12_follows 26 = .ok (.ifCond .eq 11, 3) := by decide +kernel
theorem dX12_follows_29 : decode cX12_follows 29 = .ok (.aload_n 0, 1) := by decide +kernel
theorem dX12_follows_30 : decode cX12_follows 30 = .ok (.iload_n 3, 1) := by decide +kernel
theorem dX12_follows_31 : decode cX12_follows 31 = .ok (.invokevirtual 267, 3) := by decide +kernel
theorem dX12_follows_34 : decode cX12_follows 34 = .ok (.ifCond .eq 9, 3) := by decide +kernel
theorem dX12_follows_37 : decode cX12_follows 37 = .ok (.aload_n 0, 1) := by decide +kernel
theorem dX12_follows_38 : decode cX12_follows 38 = .ok (.iconst 2, 1) := by decide +kernel
theorem dX12_follows_39 : decode cX12_follows 39 = .ok (.invokevirtual 270, 3) := by decide +kernel
theorem dX12_follows_42 : decode cX12_follows 42 = .ok (.ireturn, 1) := by decide +kernel
theorem dX12_follows_43 : decode cX12_follows 43 = .ok (.aload_n 0, 1) := by decide +kernel
theorem dX12_follows_44 : decode cX12_follows 44 = .ok (.iload_n 3, 1) := by decide +kernel
theorem dX12_follows_45 : decode cX12_follows 45 = .ok (.invokevirtual 274, 3) := by decide +kernel
theorem dX12_follows_48 : decode cX12_follows 48 = .ok (.aload_n 0, 1) := by decide +kernel
theorem dX12_follows_49 : decode cX12_follows 49 = .ok (.invokevirtual 472, 3) := by decide +kernel
theorem dX12_follows_52 : decode cX12_follows 52 = .ok (.aload_n 0, 1) := by decide +kernel
theorem dX12_follows_53 : decode cX12_follows 53 = .ok (.getfield 140, 3) := by decide +kernel
theorem dX12_follows_56 : decode cX12_follows 56 = .ok (.ifCond .le 8, 3) := by decide +kernel
theorem dX12_follows_59 : decode cX12_follows 59 = .ok (.aload_n 0, 1) := by decide +kernel
theorem dX12_follows_60 : decode cX12_follows 60 = .ok (.invokevirtual 280, 3) := by decide +kernel
theorem dX12_follows_63 : decode cX12_follows 63 = .ok (.ireturn, 1) := by decide +kernel
theorem dX12_follows_64 : decode cX12_follows 64 = .ok (.aload_n 0, 1) := by decide +kernel
theorem dX12_follows_65 : decode cX12_follows 65 = .ok (.getfield 20, 3) := by decide +kernel
theorem dX12_follows_68 : decode cX12_follows 68 = .ok (.iload_n 1, 1) := by decide +kernel
theorem dX12_follows_69 : decode cX12_follows 69 = .ok (.iaload, 1) := by decide +kernel
theorem dX12_follows_70 : decode cX12_follows 70 = .ok (.istore 4, 2) := by decide +kernel
theorem dX12_follows_72 : decode cX12_follows 72 = .ok (.iconst 0, 1) := by decide +kernel
theorem dX12_follows_73 : decode cX12_follows 73 = .ok (.istore 5, 2) := by decide +kernel
theorem dX12_follows_75 : decode cX12_follows 75 = .ok (.iload 5, 2) := by decide +kernel
theorem dX12_follows_77 : decode cX12_follows 77 = .ok (.aload_n 0, 1) := by decide +kernel
theorem dX12_follows_78 : decode cX12_follows 78 = .ok (.getfield 466, 3) := by decide +kernel
theorem dX12_follows_81 : decode cX12_follows 81 = .ok (.if_icmp .ge 25, 3) := by decide +kernel
theorem dX12_follows_84 : decode cX12_follows 84 = .ok (.aload_n 0, 1) := by decide +kernel
theorem dX12_follows_85 : decode cX12_follows 85 = .ok (.iload_n 1, 1) := by decide +kernel
theorem dX12_follows_86 : decode cX12_follows 86 = .ok (.iload 4, 2) := by decide +kernel
theorem dX12_follows_88 : decode cX12_follows 88 = .ok (.aload_n 0, 1) := by decide +kernel
theorem dX12_follows_89 : decode cX12_follows 89 = .ok (.getfield 67, 3) := by decide +kernel
theorem dX12_follows_92 : decode cX12_follows 92 = .ok (.iload 5, 2) := by decide +kernel
theorem dX12_follows_94 : decode cX12_follows 94 = .ok (.iaload, 1) := by decide +kernel
theorem dX12_follows_95 : decode cX12_follows 95 = .ok (.invokevirtual 316, 3) := by decide +kernel
theorem dX12_follows_98 : decode cX12_follows 98 = .ok (.istore 4, 2) := by decide +kernel
theorem dX12_follows_100 : decode cX12_follows 100 = .ok (.iinc 5 1, 3) := by decide +kernel
theorem dX12_follows_103 : decode cX12_follows 103 = .ok (.goto (-28), 3) := by decide +kernel
theorem dX12_follows_106 : decode cX12_follows 106 = .ok (.iconst 0, 1) := by decide +kernel
theorem dX12_follows_107 : decode cX12_follows 107 = .ok (.istore 5, 2) := by decide +kernel
theorem dX12_follows_109 : decode cX12_follows 109 = .ok (.iload 5, 2) := by decide +kernel
theorem dX12_follows_111 : decode cX12_follows 111 = .ok (.iload_n 2, 1) := by decide +kernel
theorem dX12_follows_112 : decode cX12_follows 112 = .ok (.if_icmp .ge 43, 3) := by decide +kernel
theorem dX12_follows_115 : decode cX12_follows 115 = .ok (.iconst 0, 1) := by decide +kernel
theorem dX12_follows_116 : decode cX12_follows 116 = .ok (.istore 6, 2) := by decide +kernel
theorem dX12_follows_118 : decode cX12_follows 118 = .ok (.iload 6, 2) := by decide +kernel
theorem dX12_follows_120 : decode cX12_follows 120 = .ok (.aload_n 0, 1) := by decide +kernel
theorem dX12_follows_121 : decode cX12_follows 121 = .ok (.getfield 405, 3) := by decide +kernel
theorem dX12_follows_124 : decode cX12_follows 124 = .ok (.if_icmp .ge 25, 3) := by decide +kernel
theorem dX12_follows_127 : decode cX12_follows 127 = .ok (.aload_n 0, 1) := by decide +kernel
theorem dX12_follows_128 : decode cX12_follows 128 = .ok (.iload_n 1, 1) := by decide +kernel
theorem dX12_follows_129 : decode cX12_follows 129 = .ok (.iload 4, 2) := by decide +kernel
theorem dX12_follows_131 : decode cX12_follows 131 = .ok (.aload_n 0, 1) := by decide +kernel
theorem dX12_follows_132 : decode cX12_follows 132 = .ok (.getfield 70, 3) := by decide +kernel
theorem dX12_follows_135 : decode cX12_follows 135 = .ok (.iload 6, 2) := by decide +kernel
theorem dX12_follows_137 : decode cX12_follows 137 = .ok (.iaload, 1) := by decide +kernel
theorem dX12_follows_138 : decode cX12_follows 138 = .ok (.invokevirtual 316, 3) := by decide +kernel
theorem dX12_follows_141 : decode cX12_follows 141 = .ok (.istore 4, 2) := by decide +kernel
theorem dX12_follows_143 : decode cX12_follows 143 = .ok (.iinc 6 1, 3) := by decide +kernel
theorem dX12_follows_146 : decode cX12_follows 146 = .ok (.goto (-28), 3) := by decide +kernel
theorem dX12_follows_149 : decode cX12_follows 149 = .ok (.iinc 5 1, 3) := by decide +kernel
theorem dX12_follows_152 : decode cX12_follows 152 = .ok (.goto (-43), 3) := by decide +kernel
theorem dX12_follows_155 : decode cX12_follows 155 = .ok (.aload_n 0, 1) := by decide +kernel
theorem dX12_follows_156 : decode cX12_follows 156 = .ok (.iload 4, 2) := by decide +kernel
theorem dX12_follows_158 : decode cX12_follows 158 = .ok (.invokevirtual 288, 3) := by decide +kernel
theorem dX12_follows_161 : decode cX12_follows 161 = .ok (.ireturn, 1) := by decide +kernel
theorem dX12_areLong_0 : decode cX12_areLong 0 = .ok (.iload_n 0, 1) := by decide +kernel
theorem dX12_areLong_1 : decode cX12_areLong 1 = .ok (.iconst 0, 1) := by decide +kernel
theorem dX12_areLong_2 : decode cX12_areLong 2 = .ok (.iconst 3, 1) := by decide +kernel
theorem dX12_areLong_3 : decode cX12_areLong 3 = .ok (.invokestatic 156, 3) := by decide +kernel
theorem dX12_areLong_6 : decode cX12_areLong 6 = .ok (.ifCond .eq 16, 3) := by decide +kernel
theorem dX12_areLong_9 : decode cX12_areLong 9 = .ok (.iload_n 1, 1) := by decide +kernel
theorem dX12_areLong_10 : decode cX12_areLong 10 = .ok (.iconst 1, 1) := by decide +kernel
theorem dX12_areLong_11 : decode cX12_areLong 11 = .ok (.iconst 3, 1) := by decide +kernel
theorem dX12_areLong_12 : decode cX12_areLong 12 = .ok (.invokestatic 156, 3) := by decide +kernel
theorem dX12_areLong_15 : decode cX12_areLong 15 = .ok (.ifCond .eq 7, 3) := by decide +kernel
theorem dX12_areLong_18 : decode cX12_areLong 18 = .ok (.iconst 1, 1) := by decide +kernel
theorem dX12_areLong_19 : decode cX12_areLong 19 = .ok (.goto 4, 3) := by decide +kernel
theorem dX12_areLong_22 : decode cX12_areLong 22 = .ok (.iconst 0, 1) := by decide +kernel
theorem dX12_areLong_23 : decode cX12_areLong 23 = .ok (.ireturn, 1) := by decide +kernel
theorem dX12_taken_0 : decode cX12_taken 0 = .ok (.iconst 1, 1) := by decide +kernel
theorem dX12_taken_1 : decode cX12_taken 1 = .ok (.istore 5, 2) := by decide +kernel
theorem dX12_taken_3 : decode cX12_taken 3 = .ok (.iconst 0, 1) := by decide +kernel
theorem dX12_taken_4 : decode cX12_taken 4 = .ok (.istore 6, 2) := by decide +kernel
theorem dX12_taken_6 : decode cX12_taken 6 = .ok (.iload 6, 2) := by decide +kernel
theorem dX12_taken_8 : decode cX12_taken 8 = .ok (.iload_n 2, 1) := by decide +kernel
theorem dX12_taken_9 : decode cX12_taken 9 = .ok (.iload_n 3, 1) := by decide +kernel
theorem dX12_taken_10 : decode cX12_taken 10 = .ok (.iadd, 1) := by decide +kernel
theorem dX12_taken_11 : decode cX12_taken 11 = .ok (.if_icmp .ge 18, 3) := by decide +kernel
theorem dX12_taken_14 : decode cX12_taken 14 = .ok (.iload 5, 2) := by decide +kernel
theorem dX12_taken_16 : decode cX12_taken 16 = .ok (.aload_n 0, 1) := by decide +kernel
theorem dX12_taken_17 : decode cX12_taken 17 = .ok (.getfield 283, 3) := by decide +kernel
theorem dX12_taken_20 : decode cX12_taken 20 = .ok (.imul, 1) := by decide +kernel
theorem dX12_taken_21 : decode cX12_taken 21 = .ok (.istore 5, 2) := by decide +kernel
theorem dX12_taken_23 : decode cX12_taken 23 = .ok (.iinc 6 1, 3) := by decide +kernel
theorem dX12_taken_26 : decode cX12_taken 26 = .ok (.goto (-20), 3) := by decide +kernel
theorem dX12_taken_29 : decode cX12_taken 29 = .ok (.iconst 0, 1) := by decide +kernel
theorem dX12_taken_30 : decode cX12_taken 30 = .ok (.istore 6, 2) := by decide +kernel
theorem dX12_taken_32 : decode cX12_taken 32 = .ok (.aload_n 0, 1) := by decide +kernel
theorem dX12_taken_33 : decode cX12_taken 33 = .ok (.iload_n 2, 1) := by decide +kernel
theorem dX12_taken_34 : decode cX12_taken 34 = .ok (.putfield 466, 3) := by decide +kernel
theorem dX12_taken_37 : decode cX12_taken 37 = .ok (.aload_n 0, 1) := by decide +kernel
theorem dX12_taken_38 : decode cX12_taken 38 = .ok (.iload_n 3, 1) := by decide +kernel
theorem dX12_taken_39 : decode cX12_taken 39 = .ok (.putfield 405, 3) := by decide +kernel
theorem dX12_taken_42 : decode cX12_taken 42 = .ok (.iconst 0, 1) := by decide +kernel
theorem dX12_taken_43 : decode cX12_taken 43 = .ok (.istore 7, 2) := by decide +kernel
theorem dX12_taken_45 : decode cX12_taken 45 = .ok (.iload 7, 2) := by decide +kernel
theorem dX12_taken_47 : decode cX12_taken 47 = .ok (.iload 5, 2) := by decide +kernel
theorem dX12_taken_49 : decode cX12_taken 49 = .ok (.if_icmp .ge 98, 3) := by decide +kernel
theorem dX12_taken_52 : decode cX12_taken 52 = .ok (.iload 7, 2) := by decide +kernel
theorem dX12_taken_54 : decode cX12_taken 54 = .ok (.istore 8, 2) := by decide +kernel
theorem dX12_taken_56 : decode cX12_taken 56 = .ok (.iconst 0, 1) := by decide +kernel
theorem dX12_taken_57 : decode cX12_taken 57 = .ok (.istore 9, 2) := by decide +kernel
theorem dX12_taken_59 : decode cX12_taken 59 = .ok (.iload 9, 2) := by decide +kernel
theorem dX12_taken_61 : decode cX12_taken 61 = .ok (.iload_n 2, 1) := by decide +kernel
theorem dX12_taken_62 : decode cX12_taken 62 = .ok (.iload_n 3, 1) := by decide +kernel
theorem dX12_taken_63 : decode cX12_taken 63 = .ok (.iadd, 1) := by decide +kernel
theorem dX12_taken_64 : decode cX12_taken 64 = .ok (.if_icmp .ge 57, 3) := by decide +kernel
theorem dX12_taken_67 : decode cX12_taken 67 = .ok (.iload 9, 2) := by decide +kernel
theorem dX12_taken_69 : decode cX12_taken 69 = .ok (.iload_n 2, 1) := by decide +kernel
theorem dX12_taken_70 : decode cX12_taken 70 = .ok (.if_icmp .ge 20, 3) := by decide +kernel
theorem dX12_taken_73 : decode cX12_taken 73 = .ok (.aload_n 0, 1) := by decide +kernel
theorem dX12_taken_74 : decode cX12_taken 74 = .ok (.getfield 67, 3) := by decide +kernel
theorem dX12_taken_77 : decode cX12_taken 77 = .ok (.iload 9, 2) := by decide +kernel
theorem dX12_taken_79 : decode cX12_taken 79 = .ok (.iload 8, 2) := by decide +kernel
theorem dX12_taken_81 : decode cX12_taken 81 = .ok (.aload_n 0, 1) := by decide +kernel
theorem dX12_taken_82 : decode cX12_taken 82 = .ok (.getfield 283, 3) := by decide +kernel
theorem dX12_taken_85 : decode cX12_taken 85 = .ok (.irem, 1) := by decide +kernel
theorem dX12_taken_86 : decode cX12_taken 86 = .ok (.iastore, 1) := by decide +kernel
theorem dX12_taken_87 : decode cX12_taken 87 = .ok (.goto 19, 3) := by decide +kernel
theorem dX12_taken_90 : decode cX12_taken 90 = .ok (.aload_n 0, 1) := by decide +kernel
theorem dX12_taken_91 : decode cX12_taken 91 = .ok (.getfield 70, 3) := by decide +kernel
theorem dX12_taken_94 : decode cX12_taken 94 = .ok (.iload 9, 2) := by decide +kernel
theorem dX12_taken_96 : decode cX12_taken 96 = .ok (.iload_n 2, 1) := by decide +kernel
theorem dX12_taken_97 : decode cX12_taken 97 = .ok (.isub, 1) := by decide +kernel
theorem dX12_taken_98 : decode cX12_taken 98 = .ok (.iload 8, 2) := by decide +kernel
theorem dX12_taken_100 : decode cX12_taken 100 = .ok (.aload_n 0, 1) := by decide +kernel
theorem dX12_taken_101 : decode cX12_taken 101 = .ok (.getfield 283, 3) := by decide +kernel
theorem dX12_taken_104 : decode cX12_taken 104 = .ok (.irem, 1) := by decide +kernel
theorem dX12_taken_105 : decode cX12_taken 105 = .ok (.iastore, 1) := by decide +kernel
theorem dX12_taken_106 : decode cX12_taken 106 = .ok (.iload 8, 2) := by decide +kernel
theorem dX12_taken_108 : decode cX12_taken 108 = .ok (.aload_n 0, 1) := by decide +kernel
theorem dX12_taken_109 : decode cX12_taken 109 = .ok (.getfield 283, 3) := by decide +kernel
theorem dX12_taken_112 : decode cX12_taken 112 = .ok (.idiv, 1) := by decide +kernel
theorem dX12_taken_113 : decode cX12_taken 113 = .ok (.istore 8, 2) := by decide +kernel
theorem dX12_taken_115 : decode cX12_taken 115 = .ok (.iinc 9 1, 3) := by decide +kernel
theorem dX12_taken_118 : decode cX12_taken 118 = .ok (.goto (-59), 3) := by decide +kernel
theorem dX12_taken_121 : decode cX12_taken 121 = .ok (.iload 6, 2) := by decide +kernel
theorem dX12_taken_123 : decode cX12_taken 123 = .ok (.aload_n 0, 1) := by decide +kernel
theorem dX12_taken_124 : decode cX12_taken 124 = .ok (.iload_n 1, 1) := by decide +kernel
theorem dX12_taken_125 : decode cX12_taken 125 = .ok (.iload 4, 2) := by decide +kernel
theorem dX12_taken_127 : decode cX12_taken 127 = .ok (.invokevirtual 475, 3) := by decide +kernel
theorem dX12_taken_130 : decode cX12_taken 130 = .ok (.ifCond .eq 7, 3) := by decide +kernel
theorem dX12_taken_133 : decode cX12_taken 133 = .ok (.iconst 1, 1) := by decide +kernel
theorem dX12_taken_134 : decode cX12_taken 134 = .ok (.goto 4, 3) := by decide +kernel
theorem dX12_taken_137 : decode cX12_taken 137 = .ok (.iconst 0, 1) := by decide +kernel
theorem dX12_taken_138 : decode cX12_taken 138 = .ok (.iadd, 1) := by decide +kernel
theorem dX12_taken_139 : decode cX12_taken 139 = .ok (.istore 6, 2) := by decide +kernel
theorem dX12_taken_141 : decode cX12_taken 141 = .ok (.iinc 7 1, 3) := by decide +kernel
theorem dX12_taken_144 : decode cX12_taken 144 = .ok (.goto (-99), 3) := by decide +kernel
theorem dX12_taken_147 : decode cX12_taken 147 = .ok (.iload 6, 2) := by decide +kernel
theorem dX12_taken_149 : decode cX12_taken 149 = .ok (.ireturn, 1) := by decide +kernel
theorem dX12_counts_0 : decode cX12_counts 0 = .ok (.aload_n 0, 1) := by decide +kernel
theorem dX12_counts_1 : decode cX12_counts 1 = .ok (.iconst 0, 1) := by decide +kernel
theorem dX12_counts_2 : decode cX12_counts 2 = .ok (.putfield 131, 3) := by decide +kernel
theorem dX12_counts_5 : decode cX12_counts 5 = .ok (.aload_n 0, 1) := by decide +kernel
theorem dX12_counts_6 : decode cX12_counts 6 = .ok (.iload_n 1, 1) := by decide +kernel
theorem dX12_counts_7 : decode cX12_counts 7 = .ok (.invokevirtual 291, 3) := by decide +kernel
theorem dX12_counts_10 : decode cX12_counts 10 = .ok (.ifCond .ne 9, 3) := by decide +kernel
theorem dX12_counts_13 : decode cX12_counts 13 = .ok (.aload_n 0, 1) := by decide +kernel
theorem dX12_counts_14 : decode cX12_counts 14 = .ok (.iconst 1, 1) := by decide +kernel
theorem dX12_counts_15 : decode cX12_counts 15 = .ok (.invokevirtual 270, 3) := by decide +kernel
theorem dX12_counts_18 : decode cX12_counts 18 = .ok (.ireturn, 1) := by decide +kernel
theorem dX12_counts_19 : decode cX12_counts 19 = .ok (.iload_n 2, 1) := by decide +kernel
theorem dX12_counts_20 : decode cX12_counts 20 = .ok (.iload_n 3, 1) := by decide +kernel
theorem dX12_counts_21 : decode cX12_counts 21 = .ok (.invokestatic 479, 3) := by decide +kernel
theorem dX12_counts_24 : decode cX12_counts 24 = .ok (.ifCond .eq 18, 3) := by decide +kernel
theorem dX12_counts_27 : decode cX12_counts 27 = .ok (.aload_n 0, 1) := by decide +kernel
theorem dX12_counts_28 : decode cX12_counts 28 = .ok (.aload_n 0, 1) := by decide +kernel
theorem dX12_counts_29 : decode cX12_counts 29 = .ok (.iload_n 1, 1) := by decide +kernel
theorem dX12_counts_30 : decode cX12_counts 30 = .ok (.iload_n 2, 1) := by decide +kernel
theorem dX12_counts_31 : decode cX12_counts 31 = .ok (.iload_n 3, 1) := by decide +kernel
theorem dX12_counts_32 : decode cX12_counts 32 = .ok (.iconst 0, 1) := by decide +kernel
theorem dX12_counts_33 : decode cX12_counts 33 = .ok (.invokevirtual 482, 3) := by decide +kernel
theorem dX12_counts_36 : decode cX12_counts 36 = .ok (.invokevirtual 288, 3) := by decide +kernel
theorem dX12_counts_39 : decode cX12_counts 39 = .ok (.goto 8, 3) := by decide +kernel
theorem dX12_counts_42 : decode cX12_counts 42 = .ok (.aload_n 0, 1) := by decide +kernel
theorem dX12_counts_43 : decode cX12_counts 43 = .ok (.iconst 2, 1) := by decide +kernel
theorem dX12_counts_44 : decode cX12_counts 44 = .ok (.invokevirtual 270, 3) := by decide +kernel
theorem dX12_counts_47 : decode cX12_counts 47 = .ok (.ireturn, 1) := by decide +kernel
theorem dX12_others_0 : decode cX12_others 0 = .ok (.aload_n 0, 1) := by decide +kernel
theorem dX12_others_1 : decode cX12_others 1 = .ok (.iconst 0, 1) := by decide +kernel
theorem dX12_others_2 : decode cX12_others 2 = .ok (.putfield 131, 3) := by decide +kernel
theorem dX12_others_5 : decode cX12_others 5 = .ok (.aload_n 0, 1) := by decide +kernel
theorem dX12_others_6 : decode cX12_others 6 = .ok (.iload_n 1, 1) := by decide +kernel
theorem dX12_others_7 : decode cX12_others 7 = .ok (.invokevirtual 291, 3) := by decide +kernel
theorem dX12_others_10 : decode cX12_others 10 = .ok (.ifCond .ne 9, 3) := by decide +kernel
theorem dX12_others_13 : decode cX12_others 13 = .ok (.aload_n 0, 1) := by decide +kernel
theorem dX12_others_14 : decode cX12_others 14 = .ok (.iconst 1, 1) := by decide +kernel
theorem dX12_others_15 : decode cX12_others 15 = .ok (.invokevirtual 270, 3) := by decide +kernel
theorem dX12_others_18 : decode cX12_others 18 = .ok (.ireturn, 1) := by decide +kernel
theorem dX12_others_19 : decode cX12_others 19 = .ok (.iload_n 2, 1) := by decide +kernel
theorem dX12_others_20 : decode cX12_others 20 = .ok (.iload_n 3, 1) := by decide +kernel
theorem dX12_others_21 : decode cX12_others 21 = .ok (.invokestatic 479, 3) := by decide +kernel
theorem dX12_others_24 : decode cX12_others 24 = .ok (.ifCond .ne 9, 3) := by decide +kernel
theorem dX12_others_27 : decode cX12_others 27 = .ok (.aload_n 0, 1) := by decide +kernel
theorem dX12_others_28 : decode cX12_others 28 = .ok (.iconst 2, 1) := by decide +kernel
theorem dX12_others_29 : decode cX12_others 29 = .ok (.invokevirtual 270, 3) := by decide +kernel
theorem dX12_others_32 : decode cX12_others 32 = .ok (.ireturn, 1) := by decide +kernel
theorem dX12_others_33 : decode cX12_others 33 = .ok (.aload_n 0, 1) := by decide +kernel
theorem dX12_others_34 : decode cX12_others 34 = .ok (.iload_n 1, 1) := by decide +kernel
theorem dX12_others_35 : decode cX12_others 35 = .ok (.invokevirtual 372, 3) := by decide +kernel
theorem dX12_others_38 : decode cX12_others 38 = .ok (.ifCond .eq 18, 3) := by decide +kernel
theorem dX12_others_41 : decode cX12_others 41 = .ok (.aload_n 0, 1) := by decide +kernel
theorem dX12_others_42 : decode cX12_others 42 = .ok (.aload_n 0, 1) := by decide +kernel
theorem dX12_others_43 : decode cX12_others 43 = .ok (.iload_n 1, 1) := by decide +kernel
theorem dX12_others_44 : decode cX12_others 44 = .ok (.iload_n 2, 1) := by decide +kernel
theorem dX12_others_45 : decode cX12_others 45 = .ok (.iload_n 3, 1) := by decide +kernel
theorem dX12_others_46 : decode cX12_others 46 = .ok (.iconst 1, 1) := by decide +kernel
theorem dX12_others_47 : decode cX12_others 47 = .ok (.invokevirtual 482, 3) := by decide +kernel
theorem dX12_others_50 : decode cX12_others 50 = .ok (.invokevirtual 288, 3) := by decide +kernel
theorem dX12_others_53 : decode cX12_others 53 = .ok (.goto 8, 3) := by decide +kernel
theorem dX12_others_56 : decode cX12_others 56 = .ok (.aload_n 0, 1) := by decide +kernel
theorem dX12_others_57 : decode cX12_others 57 = .ok (.iconst 3, 1) := by decide +kernel
theorem dX12_others_58 : decode cX12_others 58 = .ok (.invokevirtual 270, 3) := by decide +kernel
theorem dX12_others_61 : decode cX12_others 61 = .ok (.ireturn, 1) := by decide +kernel
theorem dX12_way_0 : decode cX12_way 0 = .ok (.iconst 0, 1) := by decide +kernel
theorem dX12_way_1 : decode cX12_way 1 = .ok (.istore_n 3, 1) := by decide +kernel
theorem dX12_way_2 : decode cX12_way 2 = .ok (.iload_n 2, 1) := by decide +kernel
theorem dX12_way_3 : decode cX12_way 3 = .ok (.istore 4, 2) := by decide +kernel
theorem dX12_way_5 : decode cX12_way 5 = .ok (.aload_n 0, 1) := by decide +kernel
theorem dX12_way_6 : decode cX12_way 6 = .ok (.getfield 88, 3) := by decide +kernel
theorem dX12_way_9 : decode cX12_way 9 = .ok (.iload 4, 2) := by decide +kernel
theorem dX12_way_11 : decode cX12_way 11 = .ok (.iaload, 1) := by decide +kernel
theorem dX12_way_12 : decode cX12_way 12 = .ok (.iconst (-1), 1) := by decide +kernel
theorem dX12_way_13 : decode cX12_way 13 = .ok (.if_icmp .eq 18, 3) := by decide +kernel
theorem dX12_way_16 : decode cX12_way 16 = .ok (.iinc 3 1, 3) := by decide +kernel
theorem dX12_way_19 : decode cX12_way 19 = .ok (.aload_n 0, 1) := by decide +kernel
theorem dX12_way_20 : decode cX12_way 20 = .ok (.getfield 88, 3) := by decide +kernel
theorem dX12_way_23 : decode cX12_way 23 = .ok (.iload 4, 2) := by decide +kernel
theorem dX12_way_25 : decode cX12_way 25 = .ok (.iaload, 1) := by decide +kernel
theorem dX12_way_26 : decode cX12_way 26 = .ok (.istore 4, 2) := by decide +kernel
theorem dX12_way_28 : decode cX12_way 28 = .ok (.goto (-23), 3) := by decide +kernel
theorem dX12_way_31 : decode cX12_way 31 = .ok (.iload_n 3, 1) := by decide +kernel
theorem dX12_way_32 : decode cX12_way 32 = .ok (.istore 4, 2) := by decide +kernel
theorem dX12_way_34 : decode cX12_way 34 = .ok (.iload_n 2, 1) := by decide +kernel
theorem dX12_way_35 : decode cX12_way 35 = .ok (.istore 5, 2) := by decide +kernel
theorem dX12_way_37 : decode cX12_way 37 = .ok (.aload_n 0, 1) := by decide +kernel
theorem dX12_way_38 : decode cX12_way 38 = .ok (.getfield 88, 3) := by decide +kernel
theorem dX12_way_41 : decode cX12_way 41 = .ok (.iload 5, 2) := by decide +kernel
theorem dX12_way_43 : decode cX12_way 43 = .ok (.iaload, 1) := by decide +kernel
theorem dX12_way_44 : decode cX12_way 44 = .ok (.iconst (-1), 1) := by decide +kernel
theorem dX12_way_45 : decode cX12_way 45 = .ok (.if_icmp .eq 29, 3) := by decide +kernel
theorem dX12_way_48 : decode cX12_way 48 = .ok (.iinc 4 (-1), 3) := by decide +kernel
theorem dX12_way_51 : decode cX12_way 51 = .ok (.aload_n 1, 1) := by decide +kernel
theorem dX12_way_52 : decode cX12_way 52 = .ok (.iload 4, 2) := by decide +kernel
theorem dX12_way_54 : decode cX12_way 54 = .ok (.aload_n 0, 1) := by decide +kernel
theorem dX12_way_55 : decode cX12_way 55 = .ok (.getfield 91, 3) := by decide +kernel
theorem dX12_way_58 : decode cX12_way 58 = .ok (.iload 5, 2) := by decide +kernel
theorem dX12_way_60 : decode cX12_way 60 = .ok (.iaload, 1) := by decide +kernel
theorem dX12_way_61 : decode cX12_way 61 = .ok (.iastore, 1) := by decide +kernel
theorem dX12_way_62 : decode cX12_way 62 = .ok (.aload_n 0, 1) := by decide +kernel
theorem dX12_way_63 : decode cX12_way 63 = .ok (.getfield 88, 3) := by decide +kernel
theorem dX12_way_66 : decode cX12_way 66 = .ok (.iload 5, 2) := by decide +kernel
theorem dX12_way_68 : decode cX12_way 68 = .ok (.iaload, 1) := by decide +kernel
theorem dX12_way_69 : decode cX12_way 69 = .ok (.istore 5, 2) := by decide +kernel
theorem dX12_way_71 : decode cX12_way 71 = .ok (.goto (-34), 3) := by decide +kernel
theorem dX12_way_74 : decode cX12_way 74 = .ok (.iload_n 3, 1) := by decide +kernel
theorem dX12_way_75 : decode cX12_way 75 = .ok (.ireturn, 1) := by decide +kernel
theorem dX12_showsRound_0 : decode cX12_showsRound 0 = .ok (.aload_n 0, 1) := by decide +kernel
theorem dX12_showsRound_1 : decode cX12_showsRound 1 = .ok (.invokevirtual 451, 3) := by decide +kernel
theorem dX12_showsRound_4 : decode cX12_showsRound 4 = .ok (.aload_n 0, 1) := by decide +kernel
theorem dX12_showsRound_5 : decode cX12_showsRound 5 = .ok (.iload_n 1, 1) := by decide +kernel
theorem dX12_showsRound_6 : decode cX12_showsRound 6 = .ok (.iconst (-1), 1) := by decide +kernel
theorem dX12_showsRound_7 : decode cX12_showsRound 7 = .ok (.iconst (-1), 1) := by decide +kernel
theorem dX12_showsRound_8 : decode cX12_showsRound 8 = .ok (.invokevirtual 423, 3) := by decide +kernel
theorem dX12_showsRound_11 : decode cX12_showsRound 11 = .ok (.iconst 0, 1) := by decide +kernel
theorem dX12_showsRound_12 : decode cX12_showsRound 12 = .ok (.istore_n 2, 1) := by decide +kernel
theorem dX12_showsRound_13 : decode cX12_showsRound 13 = .ok (.iload_n 2, 1) := by decide +kernel
theorem dX12_showsRound_14 : decode cX12_showsRound 14 = .ok (.aload_n 0, 1) := by decide +kernel
theorem dX12_showsRound_15 : decode cX12_showsRound 15 = .ok (.getfield 414, 3) := by decide +kernel
theorem dX12_showsRound_18 : decode cX12_showsRound 18 = .ok (.if_icmp .ge 111, 3) := by decide +kernel
theorem dX12_showsRound_21 : decode cX12_showsRound 21 = .ok (.aload_n 0, 1) := by decide +kernel
theorem dX12_showsRound_22 : decode cX12_showsRound 22 = .ok (.getfield 85, 3) := by decide +kernel
theorem dX12_showsRound_25 : decode cX12_showsRound 25 = .ok (.iload_n 2, 1) := by decide +kernel
theorem dX12_showsRound_26 : decode cX12_showsRound 26 = .ok (.iaload, 1) := by decide +kernel
theorem dX12_showsRound_27 : decode cX12_showsRound 27 = .ok (.istore_n 3, 1) := by decide +kernel
theorem dX12_showsRound_28 : decode cX12_showsRound 28 = .ok (.aload_n 0, 1) := by decide +kernel
theorem dX12_showsRound_29 : decode cX12_showsRound 29 = .ok (.iload_n 3, 1) := by decide +kernel
theorem dX12_showsRound_30 : decode cX12_showsRound 30 = .ok (.iconst 0, 1) := by decide +kernel
theorem dX12_showsRound_31 : decode cX12_showsRound 31 = .ok (.invokevirtual 417, 3) := by decide +kernel
theorem dX12_showsRound_34 : decode cX12_showsRound 34 = .ok (.istore 4, 2) := by decide +kernel
theorem dX12_showsRound_36 : decode cX12_showsRound 36 = .ok (.iload 4, 2) := by decide +kernel
theorem dX12_showsRound_38 : decode cX12_showsRound 38 = .ok (.iconst (-1), 1) := by decide +kernel
theorem dX12_showsRound_39 : decode cX12_showsRound 39 = .ok (.if_icmp .eq 84, 3) := by decide +kernel
theorem dX12_showsRound_42 : decode cX12_showsRound 42 = .ok (.aload_n 0, 1) := by decide +kernel
theorem dX12_showsRound_43 : decode cX12_showsRound 43 = .ok (.iload_n 3, 1) := by decide +kernel
theorem dX12_showsRound_44 : decode cX12_showsRound 44 = .ok (.iload 4, 2) := by decide +kernel
theorem dX12_showsRound_46 : decode cX12_showsRound 46 = .ok (.invokevirtual 420, 3) := by decide +kernel
theorem dX12_showsRound_49 : decode cX12_showsRound 49 = .ok (.istore 5, 2) := by decide +kernel
theorem dX12_showsRound_51 : decode cX12_showsRound 51 = .ok (.iload 5, 2) := by decide +kernel
theorem dX12_showsRound_53 : decode cX12_showsRound 53 = .ok (.iload_n 1, 1) := by decide +kernel
theorem dX12_showsRound_54 : decode cX12_showsRound 54 = .ok (.if_icmp .ne 42, 3) := by decide +kernel
theorem dX12_showsRound_57 : decode cX12_showsRound 57 = .ok (.aload_n 0, 1) := by decide +kernel
theorem dX12_showsRound_58 : decode cX12_showsRound 58 = .ok (.aload_n 0, 1) := by decide +kernel
theorem dX12_showsRound_59 : decode cX12_showsRound 59 = .ok (.aload_n 0, 1) := by decide +kernel
theorem dX12_showsRound_60 : decode cX12_showsRound 60 = .ok (.getfield 128, 3) := by decide +kernel
theorem dX12_showsRound_63 : decode cX12_showsRound 63 = .ok (.iload_n 3, 1) := by decide +kernel
theorem dX12_showsRound_64 : decode cX12_showsRound 64 = .ok (.invokevirtual 486, 3) := by decide +kernel
theorem dX12_showsRound_67 : decode cX12_showsRound 67 = .ok (.putfield 489, 3) := by decide +kernel
theorem dX12_showsRound_70 : decode cX12_showsRound 70 = .ok (.aload_n 0, 1) := by decide +kernel
theorem dX12_showsRound_71 : decode cX12_showsRound 71 = .ok (.getfield 128, 3) := by decide +kernel
theorem dX12_showsRound_74 : decode cX12_showsRound 74 = .ok (.aload_n 0, 1) := by decide +kernel
theorem dX12_showsRound_75 : decode cX12_showsRound 75 = .ok (.getfield 489, 3) := by decide +kernel
theorem dX12_showsRound_78 : decode cX12_showsRound 78 = .ok (.iload 4, 2) := by decide +kernel
theorem dX12_showsRound_80 : decode cX12_showsRound 80 = .ok (.sipush 2048, 3) := by decide +kernel
theorem dX12_showsRound_83 : decode cX12_showsRound 83 = .ok (.idiv, 1) := by decide +kernel
theorem dX12_showsRound_84 : decode cX12_showsRound 84 = .ok (.iastore, 1) := by decide +kernel
theorem dX12_showsRound_85 : decode cX12_showsRound 85 = .ok (.aload_n 0, 1) := by decide +kernel
theorem dX12_showsRound_86 : decode cX12_showsRound 86 = .ok (.dup, 1) := by decide +kernel
theorem dX12_showsRound_87 : decode cX12_showsRound 87 = .ok (.getfield 489, 3) := by decide +kernel
theorem dX12_showsRound_90 : decode cX12_showsRound 90 = .ok (.iconst 1, 1) := by decide +kernel
theorem dX12_showsRound_91 : decode cX12_showsRound 91 = .ok (.iadd, 1) := by decide +kernel
theorem dX12_showsRound_92 : decode cX12_showsRound 92 = .ok (.putfield 489, 3) := by decide +kernel
theorem dX12_showsRound_95 : decode cX12_showsRound 95 = .ok (.return_, 1) := by decide +kernel
theorem dX12_showsRound_96 : decode cX12_showsRound 96 = .ok (.aload_n 0, 1) := by decide +kernel
theorem dX12_showsRound_97 : decode cX12_showsRound 97 = .ok (.iload 5, 2) := by decide +kernel
theorem dX12_showsRound_99 : decode cX12_showsRound 99 = .ok (.iload_n 3, 1) := by decide +kernel
theorem dX12_showsRound_100 : decode cX12_showsRound 100 = .ok (.iload 4, 2) := by decide +kernel
theorem dX12_showsRound_102 : decode cX12_showsRound 102 = .ok (.sipush 2048, 3) := by decide +kernel
theorem dX12_showsRound_105 : decode cX12_showsRound 105 = .ok (.idiv, 1) := by decide +kernel
theorem dX12_showsRound_106 : decode cX12_showsRound 106 = .ok (.invokevirtual 423, 3) := by decide +kernel
theorem dX12_showsRound_109 : decode cX12_showsRound 109 = .ok (.aload_n 0, 1) := by decide +kernel
theorem dX12_showsRound_110 : decode cX12_showsRound 110 = .ok (.iload_n 3, 1) := by decide +kernel
theorem dX12_showsRound_111 : decode cX12_showsRound 111 = .ok (.iload 4, 2) := by decide +kernel
theorem dX12_showsRound_113 : decode cX12_showsRound 113 = .ok (.iconst 1, 1) := by decide +kernel
theorem dX12_showsRound_114 : decode cX12_showsRound 114 = .ok (.iadd, 1) := by decide +kernel
theorem dX12_showsRound_115 : decode cX12_showsRound 115 = .ok (.invokevirtual 417, 3) := by decide +kernel
theorem dX12_showsRound_118 : decode cX12_showsRound 118 = .ok (.istore 4, 2) := by decide +kernel
theorem dX12_showsRound_120 : decode cX12_showsRound 120 = .ok (.goto (-84), 3) := by decide +kernel
theorem dX12_showsRound_123 : decode cX12_showsRound 123 = .ok (.iinc 2 1, 3) := by decide +kernel
theorem dX12_showsRound_126 : decode cX12_showsRound 126 = .ok (.goto (-113), 3) := by decide +kernel
theorem dX12_showsRound_129 : decode cX12_showsRound 129 = .ok (.return_, 1) := by decide +kernel
theorem dX12_shows_0 : decode cX12_shows 0 = .ok (.aload_n 0, 1) := by decide +kernel
theorem dX12_shows_1 : decode cX12_shows 1 = .ok (.invokevirtual 463, 3) := by decide +kernel
theorem dX12_shows_4 : decode cX12_shows 4 = .ok (.istore_n 1, 1) := by decide +kernel
theorem dX12_shows_5 : decode cX12_shows 5 = .ok (.aload_n 0, 1) := by decide +kernel
theorem dX12_shows_6 : decode cX12_shows 6 = .ok (.iload_n 1, 1) := by decide +kernel
theorem dX12_shows_7 : decode cX12_shows 7 = .ok (.iconst (-1), 1) := by decide +kernel
theorem dX12_shows_8 : decode cX12_shows 8 = .ok (.if_icmp .eq 7, 3) := by decide +kernel
theorem dX12_shows_11 : decode cX12_shows 11 = .ok (.iconst 1, 1) := by decide +kernel
theorem dX12_shows_12 : decode cX12_shows 12 = .ok (.goto 4, 3) := by decide +kernel
theorem dX12_shows_15 : decode cX12_shows 15 = .ok (.iconst 0, 1) := by decide +kernel
theorem dX12_shows_16 : decode cX12_shows 16 = .ok (.putfield 492, 3) := by decide +kernel
theorem dX12_shows_19 : decode cX12_shows 19 = .ok (.aload_n 0, 1) := by decide +kernel
theorem dX12_shows_20 : decode cX12_shows 20 = .ok (.getfield 492, 3) := by decide +kernel
theorem dX12_shows_23 : decode cX12_shows 23 = .ok (.ifCond .ne 5, 3) := by decide +kernel
theorem dX12_shows_26 : decode cX12_shows 26 = .ok (.iconst 0, 1) := by decide +kernel
theorem dX12_shows_27 : decode cX12_shows 27 = .ok (.ireturn, 1) := by decide +kernel
theorem dX12_shows_28 : decode cX12_shows 28 = .ok (.aload_n 0, 1) := by decide +kernel
theorem dX12_shows_29 : decode cX12_shows 29 = .ok (.aload_n 0, 1) := by decide +kernel
theorem dX12_shows_30 : decode cX12_shows 30 = .ok (.aload_n 0, 1) := by decide +kernel
theorem dX12_shows_31 : decode cX12_shows 31 = .ok (.getfield 125, 3) := by decide +kernel
theorem dX12_shows_34 : decode cX12_shows 34 = .ok (.iload_n 1, 1) := by decide +kernel
theorem dX12_shows_35 : decode cX12_shows 35 = .ok (.invokevirtual 486, 3) := by decide +kernel
theorem dX12_shows_38 : decode cX12_shows 38 = .ok (.putfield 495, 3) := by decide +kernel
theorem dX12_shows_41 : decode cX12_shows 41 = .ok (.aload_n 0, 1) := by decide +kernel
theorem dX12_shows_42 : decode cX12_shows 42 = .ok (.iload_n 1, 1) := by decide +kernel
theorem dX12_shows_43 : decode cX12_shows 43 = .ok (.invokevirtual 498, 3) := by decide +kernel
theorem dX12_shows_46 : decode cX12_shows 46 = .ok (.iconst 1, 1) := by decide +kernel
theorem dX12_shows_47 : decode cX12_shows 47 = .ok (.ireturn, 1) := by decide +kernel
theorem dX12_empty_0 : decode cX12_empty 0 = .ok (.aload_n 0, 1) := by decide +kernel
theorem dX12_empty_1 : decode cX12_empty 1 = .ok (.iconst 0, 1) := by decide +kernel
theorem dX12_empty_2 : decode cX12_empty 2 = .ok (.putfield 131, 3) := by decide +kernel
theorem dX12_empty_5 : decode cX12_empty 5 = .ok (.aload_n 0, 1) := by decide +kernel
theorem dX12_empty_6 : decode cX12_empty 6 = .ok (.iload_n 1, 1) := by decide +kernel
theorem dX12_empty_7 : decode cX12_empty 7 = .ok (.invokevirtual 291, 3) := by decide +kernel
theorem dX12_empty_10 : decode cX12_empty 10 = .ok (.ifCond .ne 9, 3) := by decide +kernel
theorem dX12_empty_13 : decode cX12_empty 13 = .ok (.aload_n 0, 1) := by decide +kernel
theorem dX12_empty_14 : decode cX12_empty 14 = .ok (.iconst 1, 1) := by decide +kernel
theorem dX12_empty_15 : decode cX12_empty 15 = .ok (.invokevirtual 270, 3) := by decide +kernel
theorem dX12_empty_18 : decode cX12_empty 18 = .ok (.ireturn, 1) := by decide +kernel
theorem dX12_empty_19 : decode cX12_empty 19 = .ok (.aload_n 0, 1) := by decide +kernel
theorem dX12_empty_20 : decode cX12_empty 20 = .ok (.iconst 0, 1) := by decide +kernel
theorem dX12_empty_21 : decode cX12_empty 21 = .ok (.putfield 393, 3) := by decide +kernel
theorem dX12_empty_24 : decode cX12_empty 24 = .ok (.aload_n 0, 1) := by decide +kernel
theorem dX12_empty_25 : decode cX12_empty 25 = .ok (.iload_n 1, 1) := by decide +kernel
theorem dX12_empty_26 : decode cX12_empty 26 = .ok (.putfield 396, 3) := by decide +kernel
theorem dX12_empty_29 : decode cX12_empty 29 = .ok (.aload_n 0, 1) := by decide +kernel
theorem dX12_empty_30 : decode cX12_empty 30 = .ok (.invokevirtual 451, 3) := by decide +kernel
theorem dX12_empty_33 : decode cX12_empty 33 = .ok (.iconst 0, 1) := by decide +kernel
theorem dX12_empty_34 : decode cX12_empty 34 = .ok (.istore_n 2, 1) := by decide +kernel
theorem dX12_empty_35 : decode cX12_empty 35 = .ok (.iload_n 2, 1) := by decide +kernel
theorem dX12_empty_36 : decode cX12_empty 36 = .ok (.iconst 4, 1) := by decide +kernel
theorem dX12_empty_37 : decode cX12_empty 37 = .ok (.if_icmp .ge 30, 3) := by decide +kernel
theorem dX12_empty_40 : decode cX12_empty 40 = .ok (.aload_n 0, 1) := by decide +kernel
theorem dX12_empty_41 : decode cX12_empty 41 = .ok (.getfield 20, 3) := by decide +kernel
theorem dX12_empty_44 : decode cX12_empty 44 = .ok (.iload_n 1, 1) := by decide +kernel
theorem dX12_empty_45 : decode cX12_empty 45 = .ok (.iaload, 1) := by decide +kernel
theorem dX12_empty_46 : decode cX12_empty 46 = .ok (.iload_n 2, 1) := by decide +kernel
theorem dX12_empty_47 : decode cX12_empty 47 = .ok (.ishr, 1) := by decide +kernel
theorem dX12_empty_48 : decode cX12_empty 48 = .ok (.iconst 1, 1) := by decide +kernel
theorem dX12_empty_49 : decode cX12_empty 49 = .ok (.iand, 1) := by decide +kernel
theorem dX12_empty_50 : decode cX12_empty 50 = .ok (.iconst 1, 1) := by decide +kernel
theorem dX12_empty_51 : decode cX12_empty 51 = .ok (.if_icmp .ne 10, 3) := by decide +kernel
theorem dX12_empty_54 : decode cX12_empty 54 = .ok (.aload_n 0, 1) := by decide +kernel
theorem dX12_empty_55 : decode cX12_empty 55 = .ok (.iload_n 2, 1) := by decide +kernel
theorem dX12_empty_56 : decode cX12_empty 56 = .ok (.iconst (-1), 1) := by decide +kernel
theorem dX12_empty_57 : decode cX12_empty 57 = .ok (.iconst (-1), 1) := by decide +kernel
theorem dX12_empty_58 : decode cX12_empty 58 = .ok (.invokevirtual 423, 3) := by decide +kernel
theorem dX12_empty_61 : decode cX12_empty 61 = .ok (.iinc 2 1, 3) := by decide +kernel
theorem dX12_empty_64 : decode cX12_empty 64 = .ok (.goto (-29), 3) := by decide +kernel
theorem dX12_empty_67 : decode cX12_empty 67 = .ok (.aload_n 0, 1) := by decide +kernel
theorem dX12_empty_68 : decode cX12_empty 68 = .ok (.invokevirtual 460, 3) := by decide +kernel
theorem dX12_empty_71 : decode cX12_empty 71 = .ok (.aload_n 0, 1) := by decide +kernel
theorem dX12_empty_72 : decode cX12_empty 72 = .ok (.aload_n 0, 1) := by decide +kernel
theorem dX12_empty_73 : decode cX12_empty 73 = .ok (.invokevirtual 501, 3) := by decide +kernel
theorem dX12_empty_76 : decode cX12_empty 76 = .ok (.ifCond .eq 7, 3) := by decide +kernel
theorem dX12_empty_79 : decode cX12_empty 79 = .ok (.iconst 0, 1) := by decide +kernel
theorem dX12_empty_80 : decode cX12_empty 80 = .ok (.goto 4, 3) := by decide +kernel
theorem dX12_empty_83 : decode cX12_empty 83 = .ok (.iconst 1, 1) := by decide +kernel
theorem dX12_empty_84 : decode cX12_empty 84 = .ok (.invokevirtual 288, 3) := by decide +kernel
theorem dX12_empty_87 : decode cX12_empty 87 = .ok (.ireturn, 1) := by decide +kernel
theorem dX12_all_0 : decode cX12_all 0 = .ok (.aload_n 0, 1) := by decide +kernel
theorem dX12_all_1 : decode cX12_all 1 = .ok (.iconst 0, 1) := by decide +kernel
theorem dX12_all_2 : decode cX12_all 2 = .ok (.putfield 131, 3) := by decide +kernel
theorem dX12_all_5 : decode cX12_all 5 = .ok (.aload_n 0, 1) := by decide +kernel
theorem dX12_all_6 : decode cX12_all 6 = .ok (.iload_n 1, 1) := by decide +kernel
theorem dX12_all_7 : decode cX12_all 7 = .ok (.invokevirtual 291, 3) := by decide +kernel
theorem dX12_all_10 : decode cX12_all 10 = .ok (.ifCond .ne 9, 3) := by decide +kernel
theorem dX12_all_13 : decode cX12_all 13 = .ok (.aload_n 0, 1) := by decide +kernel
theorem dX12_all_14 : decode cX12_all 14 = .ok (.iconst 1, 1) := by decide +kernel
theorem dX12_all_15 : decode cX12_all 15 = .ok (.invokevirtual 270, 3) := by decide +kernel
theorem dX12_all_18 : decode cX12_all 18 = .ok (.ireturn, 1) := by decide +kernel
theorem dX12_all_19 : decode cX12_all 19 = .ok (.aload_n 0, 1) := by decide +kernel
theorem dX12_all_20 : decode cX12_all 20 = .ok (.iload_n 1, 1) := by decide +kernel
theorem dX12_all_21 : decode cX12_all 21 = .ok (.invokevirtual 372, 3) := by decide +kernel
theorem dX12_all_24 : decode cX12_all 24 = .ok (.ifCond .ne 9, 3) := by decide +kernel
theorem dX12_all_27 : decode cX12_all 27 = .ok (.aload_n 0, 1) := by decide +kernel
theorem dX12_all_28 : decode cX12_all 28 = .ok (.iconst 3, 1) := by decide +kernel
theorem dX12_all_29 : decode cX12_all 29 = .ok (.invokevirtual 270, 3) := by decide +kernel
theorem dX12_all_32 : decode cX12_all 32 = .ok (.ireturn, 1) := by decide +kernel
theorem dX12_all_33 : decode cX12_all 33 = .ok (.aload_n 0, 1) := by decide +kernel
theorem dX12_all_34 : decode cX12_all 34 = .ok (.iconst 1, 1) := by decide +kernel
theorem dX12_all_35 : decode cX12_all 35 = .ok (.putfield 393, 3) := by decide +kernel
theorem dX12_all_38 : decode cX12_all 38 = .ok (.aload_n 0, 1) := by decide +kernel
theorem dX12_all_39 : decode cX12_all 39 = .ok (.iload_n 1, 1) := by decide +kernel
theorem dX12_all_40 : decode cX12_all 40 = .ok (.putfield 396, 3) := by decide +kernel
theorem dX12_all_43 : decode cX12_all 43 = .ok (.aload_n 0, 1) := by decide +kernel
theorem dX12_all_44 : decode cX12_all 44 = .ok (.invokevirtual 451, 3) := by decide +kernel
theorem dX12_all_47 : decode cX12_all 47 = .ok (.aload_n 0, 1) := by decide +kernel
theorem dX12_all_48 : decode cX12_all 48 = .ok (.iconst 0, 1) := by decide +kernel
theorem dX12_all_49 : decode cX12_all 49 = .ok (.iconst (-1), 1) := by decide +kernel
theorem dX12_all_50 : decode cX12_all 50 = .ok (.iconst (-1), 1) := by decide +kernel
theorem dX12_all_51 : decode cX12_all 51 = .ok (.invokevirtual 423, 3) := by decide +kernel
theorem dX12_all_54 : decode cX12_all 54 = .ok (.aload_n 0, 1) := by decide +kernel
theorem dX12_all_55 : decode cX12_all 55 = .ok (.invokevirtual 460, 3) := by decide +kernel
theorem dX12_all_58 : decode cX12_all 58 = .ok (.aload_n 0, 1) := by decide +kernel
theorem dX12_all_59 : decode cX12_all 59 = .ok (.aload_n 0, 1) := by decide +kernel
theorem dX12_all_60 : decode cX12_all 60 = .ok (.invokevirtual 501, 3) := by decide +kernel
theorem dX12_all_63 : decode cX12_all 63 = .ok (.ifCond .eq 7, 3) := by decide +kernel
theorem dX12_all_66 : decode cX12_all 66 = .ok (.iconst 0, 1) := by decide +kernel
theorem dX12_all_67 : decode cX12_all 67 = .ok (.goto 4, 3) := by decide +kernel
theorem dX12_all_70 : decode cX12_all 70 = .ok (.iconst 1, 1) := by decide +kernel
theorem dX12_all_71 : decode cX12_all 71 = .ok (.invokevirtual 288, 3) := by decide +kernel
theorem dX12_all_74 : decode cX12_all 74 = .ok (.ireturn, 1) := by decide +kernel
theorem dX12_within_0 : decode cX12_within 0 = .ok (.aload_n 0, 1) := by decide +kernel
theorem dX12_within_1 : decode cX12_within 1 = .ok (.iconst 0, 1) := by decide +kernel
theorem dX12_within_2 : decode cX12_within 2 = .ok (.putfield 131, 3) := by decide +kernel
theorem dX12_within_5 : decode cX12_within 5 = .ok (.aload_n 0, 1) := by decide +kernel
theorem dX12_within_6 : decode cX12_within 6 = .ok (.iload_n 1, 1) := by decide +kernel
theorem dX12_within_7 : decode cX12_within 7 = .ok (.invokevirtual 291, 3) := by decide +kernel
theorem dX12_within_10 : decode cX12_within 10 = .ok (.ifCond .eq 11, 3) := by decide +kernel
theorem dX12_within_13 : decode cX12_within 13 = .ok (.aload_n 0, 1) := by decide +kernel
theorem dX12_within_14 : decode cX12_within 14 = .ok (.iload_n 2, 1) := by decide +kernel
theorem dX12_within_15 : decode cX12_within 15 = .ok (.invokevirtual 291, 3) := by decide +kernel
theorem dX12_within_18 : decode cX12_within 18 = .ok (.ifCond .ne 9, 3) := by decide +kernel
theorem dX12_within_21 : decode cX12_within 21 = .ok (.aload_n 0, 1) := by decide +kernel
theorem dX12_within_22 : decode cX12_within 22 = .ok (.iconst 1, 1) := by decide +kernel
theorem dX12_within_23 : decode cX12_within 23 = .ok (.invokevirtual 270, 3) := by decide +kernel
theorem dX12_within_26 : decode cX12_within 26 = .ok (.ireturn, 1) := by decide +kernel
theorem dX12_within_27 : decode cX12_within 27 = .ok (.aload_n 0, 1) := by decide +kernel
theorem dX12_within_28 : decode cX12_within 28 = .ok (.iload_n 2, 1) := by decide +kernel
theorem dX12_within_29 : decode cX12_within 29 = .ok (.invokevirtual 372, 3) := by decide +kernel
theorem dX12_within_32 : decode cX12_within 32 = .ok (.ifCond .ne 9, 3) := by decide +kernel
