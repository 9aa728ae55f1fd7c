theorem dX11_init_0 : decode cX11_init 0 = .ok (.aload_n 0, 1) := by decide +kernel
theorem dX11_init_1 : decode cX11_init 1 = .ok (.invokespecial 1, 3) := by decide +kernel
theorem dX11_init_4 : decode cX11_init 4 = .ok (.aload_n 0, 1) := by decide +kernel
theorem dX11_init_5 : decode cX11_init 5 = .ok (.new 7, 3) := by decide +kernel
theorem dX11_init_8 : decode cX11_init 8 = .ok (.dup, 1) := by decide +kernel
theorem dX11_init_9 : decode cX11_init 9 = .ok (.invokespecial 9, 3) := by decide +kernel
theorem dX11_init_12 : decode cX11_init 12 = .ok (.putfield 10, 3) := by decide +kernel
theorem dX11_init_15 : decode cX11_init 15 = .ok (.aload_n 0, 1) := by decide +kernel
theorem dX11_init_16 : decode cX11_init 16 = .ok (.new 16, 3) := by decide +kernel
theorem dX11_init_19 : decode cX11_init 19 = .ok (.dup, 1) := by decide +kernel
theorem dX11_init_20 : decode cX11_init 20 = .ok (.aload_n 0, 1) := by decide +kernel
theorem dX11_init_21 : decode cX11_init 21 = .ok (.getfield 10, 3) := by decide +kernel
theorem dX11_init_24 : decode cX11_init 24 = .ok (.invokespecial 18, 3) := by decide +kernel
theorem dX11_init_27 : decode cX11_init 27 = .ok (.putfield 21, 3) := by decide +kernel
theorem dX11_init_30 : decode cX11_init 30 = .ok (.aload_n 0, 1) := by decide +kernel
theorem dX11_init_31 : decode cX11_init 31 = .ok (.new 25, 3) := by decide +kernel
theorem dX11_init_34 : decode cX11_init 34 = .ok (.dup, 1) := by decide +kernel
theorem dX11_init_35 : decode cX11_init 35 = .ok (.invokespecial 27, 3) := by decide +kernel
theorem dX11_init_38 : decode cX11_init 38 = .ok (.putfield 28, 3) := by decide +kernel
theorem dX11_init_41 : decode cX11_init 41 = .ok (.aload_n 0, 1) := by decide +kernel
theorem dX11_init_42 : decode cX11_init 42 = .ok (.iconst 3, 1) := by decide +kernel
theorem dX11_init_43 : decode cX11_init 43 = .ok (.anewarray 32, 3) := by decide +kernel
theorem dX11_init_46 : decode cX11_init 46 = .ok (.putfield 34, 3) := by decide +kernel
theorem dX11_init_49 : decode cX11_init 49 = .ok (.aload_n 0, 1) := by decide +kernel
theorem dX11_init_50 : decode cX11_init 50 = .ok (.iconst 3, 1) := by decide +kernel
theorem dX11_init_51 : decode cX11_init 51 = .ok (.anewarray 38, 3) := by decide +kernel
theorem dX11_init_54 : decode cX11_init 54 = .ok (.putfield 40, 3) := by decide +kernel
theorem dX11_init_57 : decode cX11_init 57 = .ok (.aload_n 0, 1) := by decide +kernel
theorem dX11_init_58 : decode cX11_init 58 = .ok (.new 44, 3) := by decide +kernel
theorem dX11_init_61 : decode cX11_init 61 = .ok (.dup, 1) := by decide +kernel
theorem dX11_init_62 : decode cX11_init 62 = .ok (.invokespecial 46, 3) := by decide +kernel
theorem dX11_init_65 : decode cX11_init 65 = .ok (.putfield 47, 3) := by decide +kernel
theorem dX11_init_68 : decode cX11_init 68 = .ok (.aload_n 0, 1) := by decide +kernel
theorem dX11_init_69 : decode cX11_init 69 = .ok (.new 51, 3) := by decide +kernel
theorem dX11_init_72 : decode cX11_init 72 = .ok (.dup, 1) := by decide +kernel
theorem dX11_init_73 : decode cX11_init 73 = .ok (.aload_n 0, 1) := by decide +kernel
theorem dX11_init_74 : decode cX11_init 74 = .ok (.getfield 47, 3) := by decide +kernel
theorem dX11_init_77 : decode cX11_init 77 = .ok (.invokespecial 53, 3) := by decide +kernel
theorem dX11_init_80 : decode cX11_init 80 = .ok (.putfield 56, 3) := by decide +kernel
theorem dX11_init_83 : decode cX11_init 83 = .ok (.new 60, 3) := by decide +kernel
theorem dX11_init_86 : decode cX11_init 86 = .ok (.dup, 1) := by decide +kernel
theorem dX11_init_87 : decode cX11_init 87 = .ok (.iconst 0, 1) := by decide +kernel
theorem dX11_init_88 : decode cX11_init 88 = .ok (.invokespecial 62, 3) := by decide +kernel
theorem dX11_init_91 : decode cX11_init 91 = .ok (.astore_n 1, 1) := by decide +kernel
theorem dX11_init_92 : decode cX11_init 92 = .ok (.iconst 0, 1) := by decide +kernel
theorem dX11_init_93 : decode cX11_init 93 = .ok (.istore_n 2, 1) := by decide +kernel
theorem dX11_init_94 : decode cX11_init 94 = .ok (.iload_n 2, 1) := by decide +kernel
theorem dX11_init_95 : decode cX11_init 95 = .ok (.iconst 3, 1) := by decide +kernel
theorem dX11_init_96 : decode cX11_init 96 = .ok (.if_icmp .ge 46, 3) := by decide +kernel
theorem dX11_init_99 : decode cX11_init 99 = .ok (.aload_n 0, 1) := by decide +kernel
theorem dX11_init_100 : decode cX11_init 100 = .ok (.getfield 34, 3) := by decide +kernel
theorem dX11_init_103 : decode cX11_init 103 = .ok (.iload_n 2, 1) := by decide +kernel
theorem dX11_init_104 : decode cX11_init 104 = .ok (.new 32, 3) := by decide +kernel
theorem dX11_init_107 : decode cX11_init 107 = .ok (.dup, 1) := by decide +kernel
theorem dX11_init_108 : decode cX11_init 108 = .ok (.invokespecial 65, 3) := by decide +kernel
theorem dX11_init_111 : decode cX11_init 111 = .ok (.aastore, 1) := by decide +kernel
theorem dX11_init_112 : decode cX11_init 112 = .ok (.aload_n 0, 1) := by decide +kernel
theorem dX11_init_113 : decode cX11_init 113 = .ok (.getfield 40, 3) := by decide +kernel
theorem dX11_init_116 : decode cX11_init 116 = .ok (.iload_n 2, 1) := by decide +kernel
theorem dX11_init_117 : decode cX11_init 117 = .ok (.new 38, 3) := by decide +kernel
theorem dX11_init_120 : decode cX11_init 120 = .ok (.dup, 1) := by decide +kernel
theorem dX11_init_121 : decode cX11_init 121 = .ok (.aload_n 0, 1) := by decide +kernel
theorem dX11_init_122 : decode cX11_init 122 = .ok (.getfield 34, 3) := by decide +kernel
theorem dX11_init_125 : decode cX11_init 125 = .ok (.iload_n 2, 1) := by decide +kernel
theorem dX11_init_126 : decode cX11_init 126 = .ok (.aaload, 1) := by decide +kernel
theorem dX11_init_127 : decode cX11_init 127 = .ok (.aload_n 0, 1) := by decide +kernel
theorem dX11_init_128 : decode cX11_init 128 = .ok (.getfield 28, 3) := by decide +kernel
theorem dX11_init_131 : decode cX11_init 131 = .ok (.aload_n 1, 1) := by decide +kernel
theorem dX11_init_132 : decode cX11_init 132 = .ok (.invokespecial 66, 3) := by decide +kernel
theorem dX11_init_135 : decode cX11_init 135 = .ok (.aastore, 1) := by decide +kernel
theorem dX11_init_136 : decode cX11_init 136 = .ok (.iinc 2 1, 3) := by decide +kernel
theorem dX11_init_139 : decode cX11_init 139 = .ok (.goto (-45), 3) := by decide +kernel
theorem dX11_init_142 : decode cX11_init 142 = .ok (.aload_n 0, 1) := by decide +kernel
theorem dX11_init_143 : decode cX11_init 143 = .ok (.new 69, 3) := by decide +kernel
theorem dX11_init_146 : decode cX11_init 146 = .ok (.dup, 1) := by decide +kernel
theorem dX11_init_147 : decode cX11_init 147 = .ok (.aload_n 0, 1) := by decide +kernel
theorem dX11_init_148 : decode cX11_init 148 = .ok (.getfield 47, 3) := by decide +kernel
theorem dX11_init_151 : decode cX11_init 151 = .ok (.aload_n 0, 1) := by decide +kernel
theorem dX11_init_152 : decode cX11_init 152 = .ok (.getfield 34, 3) := by decide +kernel
theorem dX11_init_155 : decode cX11_init 155 = .ok (.iconst 0, 1) := by decide +kernel
theorem dX11_init_156 : decode cX11_init 156 = .ok (.aaload, 1) := by decide +kernel
theorem dX11_init_157 : decode cX11_init 157 = .ok (.invokespecial 71, 3) := by decide +kernel
theorem dX11_init_160 : decode cX11_init 160 = .ok (.putfield 74, 3) := by decide +kernel
theorem dX11_init_163 : decode cX11_init 163 = .ok (.aload_n 0, 1) := by decide +kernel
theorem dX11_init_164 : decode cX11_init 164 = .ok (.new 78, 3) := by decide +kernel
theorem dX11_init_167 : decode cX11_init 167 = .ok (.dup, 1) := by decide +kernel
theorem dX11_init_168 : decode cX11_init 168 = .ok (.aload_n 0, 1) := by decide +kernel
theorem dX11_init_169 : decode cX11_init 169 = .ok (.getfield 34, 3) := by decide +kernel
theorem dX11_init_172 : decode cX11_init 172 = .ok (.iconst 0, 1) := by decide +kernel
theorem dX11_init_173 : decode cX11_init 173 = .ok (.aaload, 1) := by decide +kernel
theorem dX11_init_174 : decode cX11_init 174 = .ok (.aload_n 0, 1) := by decide +kernel
theorem dX11_init_175 : decode cX11_init 175 = .ok (.getfield 40, 3) := by decide +kernel
theorem dX11_init_178 : decode cX11_init 178 = .ok (.iconst 0, 1) := by decide +kernel
theorem dX11_init_179 : decode cX11_init 179 = .ok (.aaload, 1) := by decide +kernel
theorem dX11_init_180 : decode cX11_init 180 = .ok (.invokespecial 80, 3) := by decide +kernel
theorem dX11_init_183 : decode cX11_init 183 = .ok (.putfield 83, 3) := by decide +kernel
theorem dX11_init_186 : decode cX11_init 186 = .ok (.return_, 1) := by decide +kernel
theorem dX11_feed_0 : decode cX11_feed 0 = .ok (.aload_n 0, 1) := by decide +kernel
theorem dX11_feed_1 : decode cX11_feed 1 = .ok (.getfield 10, 3) := by decide +kernel
theorem dX11_feed_4 : decode cX11_feed 4 = .ok (.invokevirtual 87, 3) := by decide +kernel
theorem dX11_feed_7 : decode cX11_feed 7 = .ok (.ifCond .ne 5, 3) := by decide +kernel
theorem dX11_feed_10 : decode cX11_feed 10 = .ok (.iconst (-1), 1) := by decide +kernel
theorem dX11_feed_11 : decode cX11_feed 11 = .ok (.ireturn, 1) := by decide +kernel
theorem dX11_feed_12 : decode cX11_feed 12 = .ok (.aload_n 0, 1) := by decide +kernel
theorem dX11_feed_13 : decode cX11_feed 13 = .ok (.getfield 10, 3) := by decide +kernel
theorem dX11_feed_16 : decode cX11_feed 16 = .ok (.iload_n 1, 1) := by decide +kernel
theorem dX11_feed_17 : decode cX11_feed 17 = .ok (.invokevirtual 91, 3) := by decide +kernel
theorem dX11_feed_20 : decode cX11_feed 20 = .ok (.aload_n 0, 1) := by decide +kernel
theorem dX11_feed_21 : decode cX11_feed 21 = .ok (.getfield 10, 3) := by decide +kernel
theorem dX11_feed_24 : decode cX11_feed 24 = .ok (.iload_n 2, 1) := by decide +kernel
theorem dX11_feed_25 : decode cX11_feed 25 = .ok (.invokevirtual 91, 3) := by decide +kernel
theorem dX11_feed_28 : decode cX11_feed 28 = .ok (.aload_n 0, 1) := by decide +kernel
theorem dX11_feed_29 : decode cX11_feed 29 = .ok (.getfield 10, 3) := by decide +kernel
theorem dX11_feed_32 : decode cX11_feed 32 = .ok (.iload_n 3, 1) := by decide +kernel
theorem dX11_feed_33 : decode cX11_feed 33 = .ok (.invokevirtual 91, 3) := by decide +kernel
theorem dX11_feed_36 : decode cX11_feed 36 = .ok (.aload_n 0, 1) := by decide +kernel
theorem dX11_feed_37 : decode cX11_feed 37 = .ok (.getfield 10, 3) := by decide +kernel
theorem dX11_feed_40 : decode cX11_feed 40 = .ok (.iload 4, 2) := by decide +kernel
theorem dX11_feed_42 : decode cX11_feed 42 = .ok (.invokevirtual 91, 3) := by decide +kernel
theorem dX11_feed_45 : decode cX11_feed 45 = .ok (.aload_n 0, 1) := by decide +kernel
theorem dX11_feed_46 : decode cX11_feed 46 = .ok (.getfield 10, 3) := by decide +kernel
theorem dX11_feed_49 : decode cX11_feed 49 = .ok (.iload 5, 2) := by decide +kernel
theorem dX11_feed_51 : decode cX11_feed 51 = .ok (.invokevirtual 91, 3) := by decide +kernel
theorem dX11_feed_54 : decode cX11_feed 54 = .ok (.aload_n 0, 1) := by decide +kernel
theorem dX11_feed_55 : decode cX11_feed 55 = .ok (.getfield 10, 3) := by decide +kernel
theorem dX11_feed_58 : decode cX11_feed 58 = .ok (.getfield 94, 3) := by decide +kernel
theorem dX11_feed_61 : decode cX11_feed 61 = .ok (.ireturn, 1) := by decide +kernel
theorem dX11_automata_0 : decode cX11_automata 0 = .ok (.aload_n 0, 1) := by decide +kernel
theorem dX11_automata_1 : decode cX11_automata 1 = .ok (.getfield 10, 3) := by decide +kernel
theorem dX11_automata_4 : decode cX11_automata 4 = .ok (.iload_n 1, 1) := by decide +kernel
theorem dX11_automata_5 : decode cX11_automata 5 = .ok (.invokevirtual 98, 3) := by decide +kernel
theorem dX11_automata_8 : decode cX11_automata 8 = .ok (.ifCond .ne 9, 3) := by decide +kernel
theorem dX11_automata_11 : decode cX11_automata 11 = .ok (.aload_n 0, 1) := by decide +kernel
theorem dX11_automata_12 : decode cX11_automata 12 = .ok (.iconst 2, 1) := by decide +kernel
theorem dX11_automata_13 : decode cX11_automata 13 = .ok (.invokevirtual 102, 3) := by decide +kernel
theorem dX11_automata_16 : decode cX11_automata 16 = .ok (.ireturn, 1) := by decide +kernel
theorem dX11_automata_17 : decode cX11_automata 17 = .ok (.aload_n 0, 1) := by decide +kernel
theorem dX11_automata_18 : decode cX11_automata 18 = .ok (.getfield 10, 3) := by decide +kernel
theorem dX11_automata_21 : decode cX11_automata 21 = .ok (.iload_n 1, 1) := by decide +kernel
theorem dX11_automata_22 : decode cX11_automata 22 = .ok (.invokevirtual 106, 3) := by decide +kernel
theorem dX11_automata_25 : decode cX11_automata 25 = .ok (.aload_n 0, 1) := by decide +kernel
theorem dX11_automata_26 : decode cX11_automata 26 = .ok (.getfield 21, 3) := by decide +kernel
theorem dX11_automata_29 : decode cX11_automata 29 = .ok (.invokevirtual 109, 3) := by decide +kernel
theorem dX11_automata_32 : decode cX11_automata 32 = .ok (.ifCond .ne 9, 3) := by decide +kernel
theorem dX11_automata_35 : decode cX11_automata 35 = .ok (.aload_n 0, 1) := by decide +kernel
theorem dX11_automata_36 : decode cX11_automata 36 = .ok (.iconst 4, 1) := by decide +kernel
theorem dX11_automata_37 : decode cX11_automata 37 = .ok (.invokevirtual 102, 3) := by decide +kernel
theorem dX11_automata_40 : decode cX11_automata 40 = .ok (.ireturn, 1) := by decide +kernel
theorem dX11_automata_41 : decode cX11_automata 41 = .ok (.aload_n 0, 1) := by decide +kernel
theorem dX11_automata_42 : decode cX11_automata 42 = .ok (.aload_n 0, 1) := by decide +kernel
theorem dX11_automata_43 : decode cX11_automata 43 = .ok (.getfield 21, 3) := by decide +kernel
theorem dX11_automata_46 : decode cX11_automata 46 = .ok (.getfield 112, 3) := by decide +kernel
theorem dX11_automata_49 : decode cX11_automata 49 = .ok (.putfield 115, 3) := by decide +kernel
theorem dX11_automata_52 : decode cX11_automata 52 = .ok (.iconst 0, 1) := by decide +kernel
theorem dX11_automata_53 : decode cX11_automata 53 = .ok (.istore_n 2, 1) := by decide +kernel
theorem dX11_automata_54 : decode cX11_automata 54 = .ok (.iload_n 2, 1) := by decide +kernel
theorem dX11_automata_55 : decode cX11_automata 55 = .ok (.aload_n 0, 1) := by decide +kernel
theorem dX11_automata_56 : decode cX11_automata 56 = .ok (.getfield 115, 3) := by decide +kernel
theorem dX11_automata_59 : decode cX11_automata 59 = .ok (.if_icmp .ge 41, 3) := by decide +kernel
theorem dX11_automata_62 : decode cX11_automata 62 = .ok (.iload_n 2, 1) := by decide +kernel
theorem dX11_automata_63 : decode cX11_automata 63 = .ok (.iconst 3, 1) := by decide +kernel
theorem dX11_automata_64 : decode cX11_automata 64 = .ok (.if_icmp .ge 36, 3) := by decide +kernel
theorem dX11_automata_67 : decode cX11_automata 67 = .ok (.aload_n 0, 1) := by decide +kernel
theorem dX11_automata_68 : decode cX11_automata 68 = .ok (.getfield 34, 3) := by decide +kernel
theorem dX11_automata_71 : decode cX11_automata 71 = .ok (.iload_n 2, 1) := by decide +kernel
theorem dX11_automata_72 : decode cX11_automata 72 = .ok (.aaload, 1) := by decide +kernel
theorem dX11_automata_73 : decode cX11_automata 73 = .ok (.aload_n 0, 1) := by decide +kernel
theorem dX11_automata_74 : decode cX11_automata 74 = .ok (.getfield 21, 3) := by decide +kernel
theorem dX11_automata_77 : decode cX11_automata 77 = .ok (.getfield 116, 3) := by decide +kernel
theorem dX11_automata_80 : decode cX11_automata 80 = .ok (.iload_n 2, 1) := by decide +kernel
theorem dX11_automata_81 : decode cX11_automata 81 = .ok (.aaload, 1) := by decide +kernel
theorem dX11_automata_82 : decode cX11_automata 82 = .ok (.invokevirtual 119, 3) := by decide +kernel
theorem dX11_automata_85 : decode cX11_automata 85 = .ok (.aload_n 0, 1) := by decide +kernel
theorem dX11_automata_86 : decode cX11_automata 86 = .ok (.getfield 40, 3) := by decide +kernel
theorem dX11_automata_89 : decode cX11_automata 89 = .ok (.iload_n 2, 1) := by decide +kernel
theorem dX11_automata_90 : decode cX11_automata 90 = .ok (.aaload, 1) := by decide +kernel
theorem dX11_automata_91 : decode cX11_automata 91 = .ok (.invokevirtual 123, 3) := by decide +kernel
theorem dX11_automata_94 : decode cX11_automata 94 = .ok (.iinc 2 1, 3) := by decide +kernel
theorem dX11_automata_97 : decode cX11_automata 97 = .ok (.goto (-43), 3) := by decide +kernel
theorem dX11_automata_100 : decode cX11_automata 100 = .ok (.aload_n 0, 1) := by decide +kernel
theorem dX11_automata_101 : decode cX11_automata 101 = .ok (.aload_n 0, 1) := by decide +kernel
theorem dX11_automata_102 : decode cX11_automata 102 = .ok (.getfield 115, 3) := by decide +kernel
theorem dX11_automata_105 : decode cX11_automata 105 = .ok (.invokevirtual 126, 3) := by decide +kernel
theorem dX11_automata_108 : decode cX11_automata 108 = .ok (.ireturn, 1) := by decide +kernel
theorem dX11_fault_0 : decode cX11_fault 0 = .ok (.aload_n 0, 1) := by decide +kernel
theorem dX11_fault_1 : decode cX11_fault 1 = .ok (.getfield 10, 3) := by decide +kernel
theorem dX11_fault_4 : decode cX11_fault 4 = .ok (.getfield 129, 3) := by decide +kernel
theorem dX11_fault_7 : decode cX11_fault 7 = .ok (.ireturn, 1) := by decide +kernel
theorem dX11_where_0 : decode cX11_where 0 = .ok (.aload_n 0, 1) := by decide +kernel
theorem dX11_where_1 : decode cX11_where 1 = .ok (.getfield 132, 3) := by decide +kernel
theorem dX11_where_4 : decode cX11_where 4 = .ok (.iconst 4, 1) := by decide +kernel
theorem dX11_where_5 : decode cX11_where 5 = .ok (.if_icmp .ne 13, 3) := by decide +kernel
theorem dX11_where_8 : decode cX11_where 8 = .ok (.aload_n 0, 1) := by decide +kernel
theorem dX11_where_9 : decode cX11_where 9 = .ok (.getfield 10, 3) := by decide +kernel
theorem dX11_where_12 : decode cX11_where 12 = .ok (.getfield 135, 3) := by decide +kernel
theorem dX11_where_15 : decode cX11_where 15 = .ok (.goto 4, 3) := by decide +kernel
theorem dX11_where_18 : decode cX11_where 18 = .ok (.iconst (-1), 1) := by decide +kernel
theorem dX11_where_19 : decode cX11_where 19 = .ok (.ireturn, 1) := by decide +kernel
theorem dX11_automaton_0 : decode cX11_automaton 0 = .ok (.aload_n 0, 1) := by decide +kernel
theorem dX11_automaton_1 : decode cX11_automaton 1 = .ok (.iload_n 1, 1) := by decide +kernel
theorem dX11_automaton_2 : decode cX11_automaton 2 = .ok (.invokevirtual 138, 3) := by decide +kernel
theorem dX11_automaton_5 : decode cX11_automaton 5 = .ok (.astore_n 3, 1) := by decide +kernel
theorem dX11_automaton_6 : decode cX11_automaton 6 = .ok (.aload_n 3, 1) := by decide +kernel
theorem dX11_automaton_7 : decode cX11_automaton 7 = .ok (.ifnull 12, 3) := by decide +kernel
theorem dX11_automaton_10 : decode cX11_automaton 10 = .ok (.iload_n 2, 1) := by decide +kernel
theorem dX11_automaton_11 : decode cX11_automaton 11 = .ok (.ifCond .lt 8, 3) := by decide +kernel
theorem dX11_automaton_14 : decode cX11_automaton 14 = .ok (.iload_n 2, 1) := by decide +kernel
theorem dX11_automaton_15 : decode cX11_automaton 15 = .ok (.iconst 4, 1) := by decide +kernel
theorem dX11_automaton_16 : decode cX11_automaton 16 = .ok (.if_icmp .le 9, 3) := by decide +kernel
theorem dX11_automaton_19 : decode cX11_automaton 19 = .ok (.aload_n 0, 1) := by decide +kernel
theorem dX11_automaton_20 : decode cX11_automaton 20 = .ok (.iconst 1, 1) := by decide +kernel
theorem dX11_automaton_21 : decode cX11_automaton 21 = .ok (.invokevirtual 102, 3) := by decide +kernel
theorem dX11_automaton_24 : decode cX11_automaton 24 = .ok (.ireturn, 1) := by decide +kernel
theorem dX11_automaton_25 : decode cX11_automaton 25 = .ok (.iload_n 2, 1) := by decide +kernel
theorem dX11_automaton_26 : decode cX11_automaton 26 = .ok (.tableswitch 66 0 3 #[30, 39, 48, 57], 30) := by decide +kernel
theorem dX11_automaton_56 : decode cX11_automaton 56 = .ok (.aload_n 0, 1) := by decide +kernel
theorem dX11_automaton_57 : decode cX11_automaton 57 = .ok (.aload_n 3, 1) := by decide +kernel
theorem dX11_automaton_58 : decode cX11_automaton 58 = .ok (.getfield 142, 3) := by decide +kernel
theorem dX11_automaton_61 : decode cX11_automaton 61 = .ok (.invokevirtual 126, 3) := by decide +kernel
theorem dX11_automaton_64 : decode cX11_automaton 64 = .ok (.ireturn, 1) := by decide +kernel
theorem dX11_automaton_65 : decode cX11_automaton 65 = .ok (.aload_n 0, 1) := by decide +kernel
theorem dX11_automaton_66 : decode cX11_automaton 66 = .ok (.aload_n 3, 1) := by decide +kernel
theorem dX11_automaton_67 : decode cX11_automaton 67 = .ok (.getfield 145, 3) := by decide +kernel
theorem dX11_automaton_70 : decode cX11_automaton 70 = .ok (.invokevirtual 126, 3) := by decide +kernel
theorem dX11_automaton_73 : decode cX11_automaton 73 = .ok (.ireturn, 1) := by decide +kernel
theorem dX11_automaton_74 : decode cX11_automaton 74 = .ok (.aload_n 0, 1) := by decide +kernel
theorem dX11_automaton_75 : decode cX11_automaton 75 = .ok (.aload_n 3, 1) := by decide +kernel
theorem dX11_automaton_76 : decode cX11_automaton 76 = .ok (.getfield 148, 3) := by decide +kernel
theorem dX11_automaton_79 : decode cX11_automaton 79 = .ok (.invokevirtual 126, 3) := by decide +kernel
theorem dX11_automaton_82 : decode cX11_automaton 82 = .ok (.ireturn, 1) := by decide +kernel
theorem dX11_automaton_83 : decode cX11_automaton 83 = .ok (.aload_n 0, 1) := by decide +kernel
theorem dX11_automaton_84 : decode cX11_automaton 84 = .ok (.aload_n 3, 1) := by decide +kernel
theorem dX11_automaton_85 : decode cX11_automaton 85 = .ok (.invokevirtual 151, 3) := by decide +kernel
theorem dX11_automaton_88 : decode cX11_automaton 88 = .ok (.invokevirtual 126, 3) := by decide +kernel
theorem dX11_automaton_91 : decode cX11_automaton 91 = .ok (.ireturn, 1) := by decide +kernel
theorem dX11_automaton_92 : decode cX11_automaton 92 = .ok (.aload_n 0, 1) := by decide +kernel
theorem dX11_automaton_93 : decode cX11_automaton 93 = .ok (.aload_n 3, 1) := by decide +kernel
theorem dX11_automaton_94 : decode cX11_automaton 94 = .ok (.getfield 155, 3) := by decide +kernel
theorem dX11_automaton_97 : decode cX11_automaton 97 = .ok (.invokevirtual 126, 3) := by decide +kernel
theorem dX11_automaton_100 : decode cX11_automaton 100 = .ok (.ireturn, 1) := by decide +kernel
theorem dX11_edge_0 : decode cX11_edge 0 = .ok (.aload_n 0, 1) := by decide +kernel
theorem dX11_edge_1 : decode cX11_edge 1 = .ok (.iload_n 1, 1) := by decide +kernel
theorem dX11_edge_2 : decode cX11_edge 2 = .ok (.invokevirtual 138, 3) := by decide +kernel
theorem dX11_edge_5 : decode cX11_edge 5 = .ok (.astore 5, 2) := by decide +kernel
theorem dX11_edge_7 : decode cX11_edge 7 = .ok (.aload 5, 2) := by decide +kernel
theorem dX11_edge_9 : decode cX11_edge 9 = .ok (.ifnull 15, 3) := by decide +kernel
theorem dX11_edge_12 : decode cX11_edge 12 = .ok (.aload 5, 2) := by decide +kernel
theorem dX11_edge_14 : decode cX11_edge 14 = .ok (.iload_n 2, 1) := by decide +kernel
theorem dX11_edge_15 : decode cX11_edge 15 = .ok (.iload_n 3, 1) := by decide +kernel
theorem dX11_edge_16 : decode cX11_edge 16 = .ok (.iload 4, 2) := by decide +kernel
theorem dX11_edge_18 : decode cX11_edge 18 = .ok (.invokevirtual 158, 3) := by decide +kernel
theorem dX11_edge_21 : decode cX11_edge 21 = .ok (.ifCond .ne 9, 3) := by decide +kernel
theorem dX11_edge_24 : decode cX11_edge 24 = .ok (.aload_n 0, 1) := by decide +kernel
theorem dX11_edge_25 : decode cX11_edge 25 = .ok (.iconst 1, 1) := by decide +kernel
theorem dX11_edge_26 : decode cX11_edge 26 = .ok (.invokevirtual 102, 3) := by decide +kernel
theorem dX11_edge_29 : decode cX11_edge 29 = .ok (.ireturn, 1) := by decide +kernel
theorem dX11_edge_30 : decode cX11_edge 30 = .ok (.aload_n 0, 1) := by decide +kernel
theorem dX11_edge_31 : decode cX11_edge 31 = .ok (.aload 5, 2) := by decide +kernel
theorem dX11_edge_33 : decode cX11_edge 33 = .ok (.iload_n 2, 1) := by decide +kernel
theorem dX11_edge_34 : decode cX11_edge 34 = .ok (.iload_n 3, 1) := by decide +kernel
theorem dX11_edge_35 : decode cX11_edge 35 = .ok (.iload 4, 2) := by decide +kernel
theorem dX11_edge_37 : decode cX11_edge 37 = .ok (.invokevirtual 162, 3) := by decide +kernel
theorem dX11_edge_40 : decode cX11_edge 40 = .ok (.ifCond .eq 7, 3) := by decide +kernel
theorem dX11_edge_43 : decode cX11_edge 43 = .ok (.iconst 1, 1) := by decide +kernel
theorem dX11_edge_44 : decode cX11_edge 44 = .ok (.goto 4, 3) := by decide +kernel
theorem dX11_edge_47 : decode cX11_edge 47 = .ok (.iconst 0, 1) := by decide +kernel
theorem dX11_edge_48 : decode cX11_edge 48 = .ok (.invokevirtual 126, 3) := by decide +kernel
theorem dX11_edge_51 : decode cX11_edge 51 = .ok (.ireturn, 1) := by decide +kernel
theorem dX11_after_0 : decode cX11_after 0 = .ok (.aload_n 0, 1) := by decide +kernel
theorem dX11_after_1 : decode cX11_after 1 = .ok (.iload_n 1, 1) := by decide +kernel
theorem dX11_after_2 : decode cX11_after 2 = .ok (.invokevirtual 138, 3) := by decide +kernel
theorem dX11_after_5 : decode cX11_after 5 = .ok (.astore 4, 2) := by decide +kernel
theorem dX11_after_7 : decode cX11_after 7 = .ok (.aload 4, 2) := by decide +kernel
theorem dX11_after_9 : decode cX11_after 9 = .ok (.ifnull 12, 3) := by decide +kernel
theorem dX11_after_12 : decode cX11_after 12 = .ok (.aload 4, 2) := by decide +kernel
theorem dX11_after_14 : decode cX11_after 14 = .ok (.iload_n 3, 1) := by decide +kernel
theorem dX11_after_15 : decode cX11_after 15 = .ok (.invokevirtual 165, 3) := by decide +kernel
theorem dX11_after_18 : decode cX11_after 18 = .ok (.ifCond .ne 9, 3) := by decide +kernel
theorem dX11_after_21 : decode cX11_after 21 = .ok (.aload_n 0, 1) := by decide +kernel
theorem dX11_after_22 : decode cX11_after 22 = .ok (.iconst 1, 1) := by decide +kernel
theorem dX11_after_23 : decode cX11_after 23 = .ok (.invokevirtual 102, 3) := by decide +kernel
theorem dX11_after_26 : decode cX11_after 26 = .ok (.ireturn, 1) := by decide +kernel
theorem dX11_after_27 : decode cX11_after 27 = .ok (.aload 4, 2) := by decide +kernel
theorem dX11_after_29 : decode cX11_after 29 = .ok (.iload_n 2, 1) := by decide +kernel
theorem dX11_after_30 : decode cX11_after 30 = .ok (.invokevirtual 168, 3) := by decide +kernel
theorem dX11_after_33 : decode cX11_after 33 = .ok (.ifCond .ne 9, 3) := by decide +kernel
theorem dX11_after_36 : decode cX11_after 36 = .ok (.aload_n 0, 1) := by decide +kernel
theorem dX11_after_37 : decode cX11_after 37 = .ok (.iconst 2, 1) := by decide +kernel
theorem dX11_after_38 : decode cX11_after 38 = .ok (.invokevirtual 102, 3) := by decide +kernel
theorem dX11_after_41 : decode cX11_after 41 = .ok (.ireturn, 1) := by decide +kernel
theorem dX11_after_42 : decode cX11_after 42 = .ok (.aload_n 0, 1) := by decide +kernel
theorem dX11_after_43 : decode cX11_after 43 = .ok (.aload 4, 2) := by decide +kernel
theorem dX11_after_45 : decode cX11_after 45 = .ok (.iload_n 2, 1) := by decide +kernel
theorem dX11_after_46 : decode cX11_after 46 = .ok (.iload_n 3, 1) := by decide +kernel
theorem dX11_after_47 : decode cX11_after 47 = .ok (.invokevirtual 171, 3) := by decide +kernel
theorem dX11_after_50 : decode cX11_after 50 = .ok (.invokevirtual 126, 3) := by decide +kernel
theorem dX11_after_53 : decode cX11_after 53 = .ok (.ireturn, 1) := by decide +kernel
theorem dX11_bound_0 : decode cX11_bound 0 = .ok (.aload_n 0, 1) := by decide +kernel
theorem dX11_bound_1 : decode cX11_bound 1 = .ok (.iload_n 1, 1) := by decide +kernel
theorem dX11_bound_2 : decode cX11_bound 2 = .ok (.invokevirtual 138, 3) := by decide +kernel
theorem dX11_bound_5 : decode cX11_bound 5 = .ok (.astore_n 3, 1) := by decide +kernel
theorem dX11_bound_6 : decode cX11_bound 6 = .ok (.aload_n 3, 1) := by decide +kernel
theorem dX11_bound_7 : decode cX11_bound 7 = .ok (.ifnonnull 9, 3) := by decide +kernel
theorem dX11_bound_10 : decode cX11_bound 10 = .ok (.aload_n 0, 1) := by decide +kernel
theorem dX11_bound_11 : decode cX11_bound 11 = .ok (.iconst 1, 1) := by decide +kernel
theorem dX11_bound_12 : decode cX11_bound 12 = .ok (.invokevirtual 102, 3) := by decide +kernel
theorem dX11_bound_15 : decode cX11_bound 15 = .ok (.ireturn, 1) := by decide +kernel
theorem dX11_bound_16 : decode cX11_bound 16 = .ok (.aload_n 3, 1) := by decide +kernel
theorem dX11_bound_17 : decode cX11_bound 17 = .ok (.iload_n 2, 1) := by decide +kernel
theorem dX11_bound_18 : decode cX11_bound 18 = .ok (.invokevirtual 168, 3) := by decide +kernel
theorem dX11_bound_21 : decode cX11_bound 21 = .ok (.ifCond .ne 9, 3) := by decide +kernel
theorem dX11_bound_24 : decode cX11_bound 24 = .ok (.aload_n 0, 1) := by decide +kernel
theorem dX11_bound_25 : decode cX11_bound 25 = .ok (.iconst 2, 1) := by decide +kernel
theorem dX11_bound_26 : decode cX11_bound 26 = .ok (.invokevirtual 102, 3) := by decide +kernel
theorem dX11_bound_29 : decode cX11_bound 29 = .ok (.ireturn, 1) := by decide +kernel
theorem dX11_bound_30 : decode cX11_bound 30 = .ok (.iload_n 2, 1) := by decide +kernel
theorem dX11_bound_31 : decode cX11_bound 31 = .ok (.aload_n 3, 1) := by decide +kernel
theorem dX11_bound_32 : decode cX11_bound 32 = .ok (.getfield 148, 3) := by decide +kernel
theorem dX11_bound_35 : decode cX11_bound 35 = .ok (.invokestatic 175, 3) := by decide +kernel
theorem dX11_bound_38 : decode cX11_bound 38 = .ok (.istore 4, 2) := by decide +kernel
theorem dX11_bound_40 : decode cX11_bound 40 = .ok (.aload_n 0, 1) := by decide +kernel
theorem dX11_bound_41 : decode cX11_bound 41 = .ok (.iload 4, 2) := by decide +kernel
theorem dX11_bound_43 : decode cX11_bound 43 = .ok (.ifCond .le 8, 3) := by decide +kernel
theorem dX11_bound_46 : decode cX11_bound 46 = .ok (.iload 4, 2) := by decide +kernel
theorem dX11_bound_48 : decode cX11_bound 48 = .ok (.goto 5, 3) := by decide +kernel
theorem dX11_bound_51 : decode cX11_bound 51 = .ok (.bipush (-2), 2) := by decide +kernel
theorem dX11_bound_53 : decode cX11_bound 53 = .ok (.invokevirtual 126, 3) := by decide +kernel
theorem dX11_bound_56 : decode cX11_bound 56 = .ok (.ireturn, 1) := by decide +kernel
theorem dX11_rankings_0 : decode cX11_rankings 0 = .ok (.aload_n 0, 1) := by decide +kernel
theorem dX11_rankings_1 : decode cX11_rankings 1 = .ok (.iload_n 1, 1) := by decide +kernel
theorem dX11_rankings_2 : decode cX11_rankings 2 = .ok (.invokevirtual 138, 3) := by decide +kernel
theorem dX11_rankings_5 : decode cX11_rankings 5 = .ok (.astore 4, 2) := by decide +kernel
theorem dX11_rankings_7 : decode cX11_rankings 7 = .ok (.aload 4, 2) := by decide +kernel
theorem dX11_rankings_9 : decode cX11_rankings 9 = .ok (.ifnonnull 9, 3) := by decide +kernel
theorem dX11_rankings_12 : decode cX11_rankings 12 = .ok (.aload_n 0, 1) := by decide +kernel
theorem dX11_rankings_13 : decode cX11_rankings 13 = .ok (.iconst 1, 1) := by decide +kernel
theorem dX11_rankings_14 : decode cX11_rankings 14 = .ok (.invokevirtual 102, 3) := by decide +kernel
theorem dX11_rankings_17 : decode cX11_rankings 17 = .ok (.ireturn, 1) := by decide +kernel
theorem dX11_rankings_18 : decode cX11_rankings 18 = .ok (.aload 4, 2) := by decide +kernel
theorem dX11_rankings_20 : decode cX11_rankings 20 = .ok (.iload_n 2, 1) := by decide +kernel
theorem dX11_rankings_21 : decode cX11_rankings 21 = .ok (.invokevirtual 168, 3) := by decide +kernel
theorem dX11_rankings_24 : decode cX11_rankings 24 = .ok (.ifCond .eq 10, 3) := by decide +kernel
theorem dX11_rankings_27 : decode cX11_rankings 27 = .ok (.iload_n 3, 1) := by decide +kernel
theorem dX11_rankings_28 : decode cX11_rankings 28 = .ok (.invokestatic 178, 3) := by decide +kernel
theorem dX11_rankings_31 : decode cX11_rankings 31 = .ok (.ifCond .ne 9, 3) := by decide +kernel
theorem dX11_rankings_34 : decode cX11_rankings 34 = .ok (.aload_n 0, 1) := by decide +kernel
theorem dX11_rankings_35 : decode cX11_rankings 35 = .ok (.iconst 2, 1) := by decide +kernel
theorem dX11_rankings_36 : decode cX11_rankings 36 = .ok (.invokevirtual 102, 3) := by decide +kernel
theorem dX11_rankings_39 : decode cX11_rankings 39 = .ok (.ireturn, 1) := by decide +kernel
theorem dX11_rankings_40 : decode cX11_rankings 40 = .ok (.aload_n 0, 1) := by decide +kernel
theorem dX11_rankings_41 : decode cX11_rankings 41 = .ok (.getfield 28, 3) := by decide +kernel
theorem dX11_rankings_44 : decode cX11_rankings 44 = .ok (.iload_n 2, 1) := by decide +kernel
theorem dX11_rankings_45 : decode cX11_rankings 45 = .ok (.aload 4, 2) := by decide +kernel
theorem dX11_rankings_47 : decode cX11_rankings 47 = .ok (.getfield 148, 3) := by decide +kernel
theorem dX11_rankings_50 : decode cX11_rankings 50 = .ok (.iload_n 3, 1) := by decide +kernel
theorem dX11_rankings_51 : decode cX11_rankings 51 = .ok (.iload_n 3, 1) := by decide +kernel
theorem dX11_rankings_52 : decode cX11_rankings 52 = .ok (.invokestatic 181, 3) := by decide +kernel
theorem dX11_rankings_55 : decode cX11_rankings 55 = .ok (.invokevirtual 184, 3) := by decide +kernel
theorem dX11_rankings_58 : decode cX11_rankings 58 = .ok (.aload_n 0, 1) := by decide +kernel
theorem dX11_rankings_59 : decode cX11_rankings 59 = .ok (.aload_n 0, 1) := by decide +kernel
theorem dX11_rankings_60 : decode cX11_rankings 60 = .ok (.getfield 28, 3) := by decide +kernel
theorem dX11_rankings_63 : decode cX11_rankings 63 = .ok (.getfield 188, 3) := by decide +kernel
theorem dX11_rankings_66 : decode cX11_rankings 66 = .ok (.invokevirtual 126, 3) := by decide +kernel
theorem dX11_rankings_69 : decode cX11_rankings 69 = .ok (.ireturn, 1) := by decide +kernel
theorem dX11_ranked_0 : decode cX11_ranked 0 = .ok (.aload_n 0, 1) := by decide +kernel
theorem dX11_ranked_1 : decode cX11_ranked 1 = .ok (.iload_n 1, 1) := by decide +kernel
theorem dX11_ranked_2 : decode cX11_ranked 2 = .ok (.invokevirtual 138, 3) := by decide +kernel
theorem dX11_ranked_5 : decode cX11_ranked 5 = .ok (.astore 6, 2) := by decide +kernel
theorem dX11_ranked_7 : decode cX11_ranked 7 = .ok (.aload 6, 2) := by decide +kernel
theorem dX11_ranked_9 : decode cX11_ranked 9 = .ok (.ifnull 13, 3) := by decide +kernel
theorem dX11_ranked_12 : decode cX11_ranked 12 = .ok (.aload 6, 2) := by decide +kernel
theorem dX11_ranked_14 : decode cX11_ranked 14 = .ok (.iload 5, 2) := by decide +kernel
theorem dX11_ranked_16 : decode cX11_ranked 16 = .ok (.invokevirtual 189, 3) := by decide +kernel
theorem dX11_ranked_19 : decode cX11_ranked 19 = .ok (.ifCond .ne 9, 3) := by decide +kernel
theorem dX11_ranked_22 : decode cX11_ranked 22 = .ok (.aload_n 0, 1) := by decide +kernel
theorem dX11_ranked_23 : decode cX11_ranked 23 = .ok (.iconst 1, 1) := by decide +kernel
theorem dX11_ranked_24 : decode cX11_ranked 24 = .ok (.invokevirtual 102, 3) := by decide +kernel
theorem dX11_ranked_27 : decode cX11_ranked 27 = .ok (.ireturn, 1) := by decide +kernel
theorem dX11_ranked_28 : decode cX11_ranked 28 = .ok (.aload 6, 2) := by decide +kernel
theorem dX11_ranked_30 : decode cX11_ranked 30 = .ok (.iload_n 2, 1) := by decide +kernel
theorem dX11_ranked_31 : decode cX11_ranked 31 = .ok (.invokevirtual 168, 3) := by decide +kernel
theorem dX11_ranked_34 : decode cX11_ranked 34 = .ok (.ifCond .eq 10, 3) := by decide +kernel
theorem dX11_ranked_37 : decode cX11_ranked 37 = .ok (.iload_n 3, 1) := by decide +kernel
theorem dX11_ranked_38 : decode cX11_ranked 38 = .ok (.invokestatic 178, 3) := by decide +kernel
theorem dX11_ranked_41 : decode cX11_ranked 41 = .ok (.ifCond .ne 9, 3) := by decide +kernel
theorem dX11_ranked_44 : decode cX11_ranked 44 = .ok (.aload_n 0, 1) := by decide +kernel
theorem dX11_ranked_45 : decode cX11_ranked 45 = .ok (.iconst 2, 1) := by decide +kernel
theorem dX11_ranked_46 : decode cX11_ranked 46 = .ok (.invokevirtual 102, 3) := by decide +kernel
theorem dX11_ranked_49 : decode cX11_ranked 49 = .ok (.ireturn, 1) := by decide +kernel
theorem dX11_ranked_50 : decode cX11_ranked 50 = .ok (.aload_n 0, 1) := by decide +kernel
theorem dX11_ranked_51 : decode cX11_ranked 51 = .ok (.getfield 28, 3) := by decide +kernel
theorem dX11_ranked_54 : decode cX11_ranked 54 = .ok (.iload_n 2, 1) := by decide +kernel
theorem dX11_ranked_55 : decode cX11_ranked 55 = .ok (.aload 6, 2) := by decide +kernel
theorem dX11_ranked_57 : decode cX11_ranked 57 = .ok (.getfield 148, 3) := by decide +kernel
theorem dX11_ranked_60 : decode cX11_ranked 60 = .ok (.iload_n 3, 1) := by decide +kernel
theorem dX11_ranked_61 : decode cX11_ranked 61 = .ok (.iload_n 3, 1) := by decide +kernel
theorem dX11_ranked_62 : decode cX11_ranked 62 = .ok (.invokestatic 181, 3) := by decide +kernel
theorem dX11_ranked_65 : decode cX11_ranked 65 = .ok (.invokevirtual 184, 3) := by decide +kernel
theorem dX11_ranked_68 : decode cX11_ranked 68 = .ok (.iload 4, 2) := by decide +kernel
theorem dX11_ranked_70 : decode cX11_ranked 70 = .ok (.ifCond .lt 24, 3) := by decide +kernel
theorem dX11_ranked_73 : decode cX11_ranked 73 = .ok (.iload 4, 2) := by decide +kernel
theorem dX11_ranked_75 : decode cX11_ranked 75 = .ok (.aload_n 0, 1) := by decide +kernel
theorem dX11_ranked_76 : decode cX11_ranked 76 = .ok (.getfield 28, 3) := by decide +kernel
theorem dX11_ranked_79 : decode cX11_ranked 79 = .ok (.getfield 188, 3) := by decide +kernel
theorem dX11_ranked_82 : decode cX11_ranked 82 = .ok (.if_icmp .ge 12, 3) := by decide +kernel
theorem dX11_ranked_85 : decode cX11_ranked 85 = .ok (.iload 5, 2) := by decide +kernel
theorem dX11_ranked_87 : decode cX11_ranked 87 = .ok (.iload_n 2, 1) := by decide +kernel
theorem dX11_ranked_88 : decode cX11_ranked 88 = .ok (.invokestatic 192, 3) := by decide +kernel
theorem dX11_ranked_91 : decode cX11_ranked 91 = .ok (.ifCond .ne 9, 3) := by decide +kernel
theorem dX11_ranked_94 : decode cX11_ranked 94 = .ok (.aload_n 0, 1) := by decide +kernel
theorem dX11_ranked_95 : decode cX11_ranked 95 = .ok (.iconst 5, 1) := by decide +kernel
theorem dX11_ranked_96 : decode cX11_ranked 96 = .ok (.invokevirtual 102, 3) := by decide +kernel
theorem dX11_ranked_99 : decode cX11_ranked 99 = .ok (.ireturn, 1) := by decide +kernel
theorem dX11_ranked_100 : decode cX11_ranked 100 = .ok (.aload_n 0, 1) := by decide +kernel
theorem dX11_ranked_101 : decode cX11_ranked 101 = .ok (.aload_n 0, 1) := by decide +kernel
theorem dX11_ranked_102 : decode cX11_ranked 102 = .ok (.getfield 28, 3) := by decide +kernel
theorem dX11_ranked_105 : decode cX11_ranked 105 = .ok (.iload 4, 2) := by decide +kernel
theorem dX11_ranked_107 : decode cX11_ranked 107 = .ok (.invokevirtual 196, 3) := by decide +kernel
theorem dX11_ranked_110 : decode cX11_ranked 110 = .ok (.iload 5, 2) := by decide +kernel
theorem dX11_ranked_112 : decode cX11_ranked 112 = .ok (.invokestatic 199, 3) := by decide +kernel
theorem dX11_ranked_115 : decode cX11_ranked 115 = .ok (.invokevirtual 126, 3) := by decide +kernel
theorem dX11_ranked_118 : decode cX11_ranked 118 = .ok (.ireturn, 1) := by decide +kernel
theorem dX11_complement_0 : decode cX11_complement 0 = .ok (.aload_n 0, 1) := by decide +kernel
theorem dX11_complement_1 : decode cX11_complement 1 = .ok (.iload_n 1, 1) := by decide +kernel
theorem dX11_complement_2 : decode cX11_complement 2 = .ok (.invokevirtual 202, 3) := by decide +kernel
theorem dX11_complement_5 : decode cX11_complement 5 = .ok (.astore_n 2, 1) := by decide +kernel
theorem dX11_complement_6 : decode cX11_complement 6 = .ok (.aload_n 2, 1) := by decide +kernel
theorem dX11_complement_7 : decode cX11_complement 7 = .ok (.ifnonnull 9, 3) := by decide +kernel
theorem dX11_complement_10 : decode cX11_complement 10 = .ok (.aload_n 0, 1) := by decide +kernel
theorem dX11_complement_11 : decode cX11_complement 11 = .ok (.iconst 1, 1) := by decide +kernel
theorem dX11_complement_12 : decode cX11_complement 12 = .ok (.invokevirtual 102, 3) := by decide +kernel
theorem dX11_complement_15 : decode cX11_complement 15 = .ok (.ireturn, 1) := by decide +kernel
theorem dX11_complement_16 : decode cX11_complement 16 = .ok (.aload_n 2, 1) := by decide +kernel
theorem dX11_complement_17 : decode cX11_complement 17 = .ok (.invokevirtual 206, 3) := by decide +kernel
theorem dX11_complement_20 : decode cX11_complement 20 = .ok (.ifCond .eq 14, 3) := by decide +kernel
theorem dX11_complement_23 : decode cX11_complement 23 = .ok (.aload_n 0, 1) := by decide +kernel
theorem dX11_complement_24 : decode cX11_complement 24 = .ok (.aload_n 2, 1) := by decide +kernel
theorem dX11_complement_25 : decode cX11_complement 25 = .ok (.getfield 209, 3) := by decide +kernel
theorem dX11_complement_28 : decode cX11_complement 28 = .ok (.invokevirtual 126, 3) := by decide +kernel
theorem dX11_complement_31 : decode cX11_complement 31 = .ok (.goto 8, 3) := by decide +kernel
theorem dX11_complement_34 : decode cX11_complement 34 = .ok (.aload_n 0, 1) := by decide +kernel
theorem dX11_complement_35 : decode cX11_complement 35 = .ok (.iconst 3, 1) := by decide +kernel
theorem dX11_complement_36 : decode cX11_complement 36 = .ok (.invokevirtual 102, 3) := by decide +kernel
theorem dX11_complement_39 : decode cX11_complement 39 = .ok (.ireturn, 1) := by decide +kernel
theorem dX11_node_0 : decode cX11_node 0 = .ok (.aload_n 0, 1) := by decide +kernel
theorem dX11_node_1 : decode cX11_node 1 = .ok (.iload_n 1, 1) := by decide +kernel
theorem dX11_node_2 : decode cX11_node 2 = .ok (.invokevirtual 202, 3) := by decide +kernel
theorem dX11_node_5 : decode cX11_node 5 = .ok (.astore 4, 2) := by decide +kernel
theorem dX11_node_7 : decode cX11_node 7 = .ok (.aload 4, 2) := by decide +kernel
theorem dX11_node_9 : decode cX11_node 9 = .ok (.ifnull 16, 3) := by decide +kernel
theorem dX11_node_12 : decode cX11_node 12 = .ok (.iload_n 2, 1) := by decide +kernel
theorem dX11_node_13 : decode cX11_node 13 = .ok (.ifCond .lt 12, 3) := by decide +kernel
theorem dX11_node_16 : decode cX11_node 16 = .ok (.iload_n 3, 1) := by decide +kernel
theorem dX11_node_17 : decode cX11_node 17 = .ok (.ifCond .lt 8, 3) := by decide +kernel
theorem dX11_node_20 : decode cX11_node 20 = .ok (.iload_n 3, 1) := by decide +kernel
theorem dX11_node_21 : decode cX11_node 21 = .ok (.iconst 5, 1) := by decide +kernel
theorem dX11_node_22 : decode cX11_node 22 = .ok (.if_icmp .le 9, 3) := by decide +kernel
theorem dX11_node_25 : decode cX11_node 25 = .ok (.aload_n 0, 1) := by decide +kernel
theorem dX11_node_26 : decode cX11_node 26 = .ok (.iconst 1, 1) := by decide +kernel
theorem dX11_node_27 : decode cX11_node 27 = .ok (.invokevirtual 102, 3) := by decide +kernel
theorem dX11_node_30 : decode cX11_node 30 = .ok (.ireturn, 1) := by decide +kernel
theorem dX11_node_31 : decode cX11_node 31 = .ok (.aload 4, 2) := by decide +kernel
theorem dX11_node_33 : decode cX11_node 33 = .ok (.invokevirtual 206, 3) := by decide +kernel
theorem dX11_node_36 : decode cX11_node 36 = .ok (.ifCond .ne 9, 3) := by decide +kernel
theorem dX11_node_39 : decode cX11_node 39 = .ok (.aload_n 0, 1) := by decide +kernel
theorem dX11_node_40 : decode cX11_node 40 = .ok (.iconst 3, 1) := by decide +kernel
theorem dX11_node_41 : decode cX11_node 41 = .ok (.invokevirtual 102, 3) := by decide +kernel
theorem dX11_node_44 : decode cX11_node 44 = .ok (.ireturn, 1) := by decide +kernel
theorem dX11_node_45 : decode cX11_node 45 = .ok (.iload_n 2, 1) := by decide +kernel
theorem dX11_node_46 : decode cX11_node 46 = .ok (.aload 4, 2) := by decide +kernel
theorem dX11_node_48 : decode cX11_node 48 = .ok (.getfield 209, 3) := by decide +kernel
theorem dX11_node_51 : decode cX11_node 51 = .ok (.if_icmp .lt 9, 3) := by decide +kernel
theorem dX11_node_54 : decode cX11_node 54 = .ok (.aload_n 0, 1) := by decide +kernel
theorem dX11_node_55 : decode cX11_node 55 = .ok (.iconst 1, 1) := by decide +kernel
theorem dX11_node_56 : decode cX11_node 56 = .ok (.invokevirtual 102, 3) := by decide +kernel
theorem dX11_node_59 : decode cX11_node 59 = .ok (.ireturn, 1) := by decide +kernel
theorem dX11_node_60 : decode cX11_node 60 = .ok (.aload_n 0, 1) := by decide +kernel
theorem dX11_node_61 : decode cX11_node 61 = .ok (.aload 4, 2) := by decide +kernel
theorem dX11_node_63 : decode cX11_node 63 = .ok (.iload_n 2, 1) := by decide +kernel
theorem dX11_node_64 : decode cX11_node 64 = .ok (.iload_n 3, 1) := by decide +kernel
theorem dX11_node_65 : decode cX11_node 65 = .ok (.invokevirtual 210, 3) := by decide +kernel
theorem dX11_node_68 : decode cX11_node 68 = .ok (.invokevirtual 126, 3) := by decide +kernel
theorem dX11_node_71 : decode cX11_node 71 = .ok (.ireturn, 1) := by decide +kernel
theorem dX11_rank_0 : decode cX11_rank 0 = .ok (.aload_n 0, 1) := by decide +kernel
theorem dX11_rank_1 : decode cX11_rank 1 = .ok (.iload_n 1, 1) := by decide +kernel
theorem dX11_rank_2 : decode cX11_rank 2 = .ok (.invokevirtual 202, 3) := by decide +kernel
theorem dX11_rank_5 : decode cX11_rank 5 = .ok (.astore 4, 2) := by decide +kernel
theorem dX11_rank_7 : decode cX11_rank 7 = .ok (.aload 4, 2) := by decide +kernel
theorem dX11_rank_9 : decode cX11_rank 9 = .ok (.ifnull 19, 3) := by decide +kernel
theorem dX11_rank_12 : decode cX11_rank 12 = .ok (.iload_n 2, 1) := by decide +kernel
theorem dX11_rank_13 : decode cX11_rank 13 = .ok (.ifCond .lt 15, 3) := by decide +kernel
theorem dX11_rank_16 : decode cX11_rank 16 = .ok (.aload 4, 2) := by decide +kernel
theorem dX11_rank_18 : decode cX11_rank 18 = .ok (.getfield 213, 3) := by decide +kernel
theorem dX11_rank_21 : decode cX11_rank 21 = .ok (.iload_n 3, 1) := by decide +kernel
theorem dX11_rank_22 : decode cX11_rank 22 = .ok (.invokevirtual 189, 3) := by decide +kernel
theorem dX11_rank_25 : decode cX11_rank 25 = .ok (.ifCond .ne 9, 3) := by decide +kernel
theorem dX11_rank_28 : decode cX11_rank 28 = .ok (.aload_n 0, 1) := by decide +kernel
theorem dX11_rank_29 : decode cX11_rank 29 = .ok (.iconst 1, 1) := by decide +kernel
theorem dX11_rank_30 : decode cX11_rank 30 = .ok (.invokevirtual 102, 3) := by decide +kernel
theorem dX11_rank_33 : decode cX11_rank 33 = .ok (.ireturn, 1) := by decide +kernel
theorem dX11_rank_34 : decode cX11_rank 34 = .ok (.aload 4, 2) := by decide +kernel
theorem dX11_rank_36 : decode cX11_rank 36 = .ok (.invokevirtual 206, 3) := by decide +kernel
theorem dX11_rank_39 : decode cX11_rank 39 = .ok (.ifCond .ne 9, 3) := by decide +kernel
theorem dX11_rank_42 : decode cX11_rank 42 = .ok (.aload_n 0, 1) := by decide +kernel
theorem dX11_rank_43 : decode cX11_rank 43 = .ok (.iconst 3, 1) := by decide +kernel
theorem dX11_rank_44 : decode cX11_rank 44 = .ok (.invokevirtual 102, 3) := by decide +kernel
theorem dX11_rank_47 : decode cX11_rank 47 = .ok (.ireturn, 1) := by decide +kernel
theorem dX11_rank_48 : decode cX11_rank 48 = .ok (.iload_n 2, 1) := by decide +kernel
theorem dX11_rank_49 : decode cX11_rank 49 = .ok (.aload 4, 2) := by decide +kernel
theorem dX11_rank_51 : decode cX11_rank 51 = .ok (.getfield 209, 3) := by decide +kernel
theorem dX11_rank_54 : decode cX11_rank 54 = .ok (.if_icmp .lt 9, 3) := by decide +kernel
theorem dX11_rank_57 : decode cX11_rank 57 = .ok (.aload_n 0, 1) := by decide +kernel
theorem dX11_rank_58 : decode cX11_rank 58 = .ok (.iconst 1, 1) := by decide +kernel
theorem dX11_rank_59 : decode cX11_rank 59 = .ok (.invokevirtual 102, 3) := by decide +kernel
theorem dX11_rank_62 : decode cX11_rank 62 = .ok (.ireturn, 1) := by decide +kernel
theorem dX11_rank_63 : decode cX11_rank 63 = .ok (.aload_n 0, 1) := by decide +kernel
theorem dX11_rank_64 : decode cX11_rank 64 = .ok (.aload 4, 2) := by decide +kernel
theorem dX11_rank_66 : decode cX11_rank 66 = .ok (.iload_n 2, 1) := by decide +kernel
theorem dX11_rank_67 : decode cX11_rank 67 = .ok (.iload_n 3, 1) := by decide +kernel
theorem dX11_rank_68 : decode cX11_rank 68 = .ok (.invokevirtual 217, 3) := by decide +kernel
theorem dX11_rank_71 : decode cX11_rank 71 = .ok (.invokevirtual 126, 3) := by decide +kernel
theorem dX11_rank_74 : decode cX11_rank 74 = .ok (.ireturn, 1) := by decide +kernel
theorem dX11_next_0 : decode cX11_next 0 = .ok (.aload_n 0, 1) := by decide +kernel
theorem dX11_next_1 : decode cX11_next 1 = .ok (.iload_n 1, 1) := by decide +kernel
theorem dX11_next_2 : decode cX11_next 2 = .ok (.invokevirtual 202, 3) := by decide +kernel
theorem dX11_next_5 : decode cX11_next 5 = .ok (.astore 5, 2) := by decide +kernel
theorem dX11_next_7 : decode cX11_next 7 = .ok (.aload 5, 2) := by decide +kernel
theorem dX11_next_9 : decode cX11_next 9 = .ok (.ifnull 24, 3) := by decide +kernel
theorem dX11_next_12 : decode cX11_next 12 = .ok (.iload_n 2, 1) := by decide +kernel
theorem dX11_next_13 : decode cX11_next 13 = .ok (.ifCond .lt 20, 3) := by decide +kernel
theorem dX11_next_16 : decode cX11_next 16 = .ok (.iload 4, 2) := by decide +kernel
theorem dX11_next_18 : decode cX11_next 18 = .ok (.ifCond .lt 15, 3) := by decide +kernel
theorem dX11_next_21 : decode cX11_next 21 = .ok (.aload 5, 2) := by decide +kernel
theorem dX11_next_23 : decode cX11_next 23 = .ok (.getfield 213, 3) := by decide +kernel
theorem dX11_next_26 : decode cX11_next 26 = .ok (.iload_n 3, 1) := by decide +kernel
theorem dX11_next_27 : decode cX11_next 27 = .ok (.invokevirtual 165, 3) := by decide +kernel
theorem dX11_next_30 : decode cX11_next 30 = .ok (.ifCond .ne 9, 3) := by decide +kernel
theorem dX11_next_33 : decode cX11_next 33 = .ok (.aload_n 0, 1) := by decide +kernel
theorem dX11_next_34 : decode cX11_next 34 = .ok (.iconst 1, 1) := by decide +kernel
theorem dX11_next_35 : decode cX11_next 35 = .ok (.invokevirtual 102, 3) := by decide +kernel
theorem dX11_next_38 : decode cX11_next 38 = .ok (.ireturn, 1) := by decide +kernel
theorem dX11_next_39 : decode cX11_next 39 = .ok (.aload 5, 2) := by decide +kernel
theorem dX11_next_41 : decode cX11_next 41 = .ok (.invokevirtual 206, 3) := by decide +kernel
theorem dX11_next_44 : decode cX11_next 44 = .ok (.ifCond .ne 9, 3) := by decide +kernel
theorem dX11_next_47 : decode cX11_next 47 = .ok (.aload_n 0, 1) := by decide +kernel
theorem dX11_next_48 : decode cX11_next 48 = .ok (.iconst 3, 1) := by decide +kernel
theorem dX11_next_49 : decode cX11_next 49 = .ok (.invokevirtual 102, 3) := by decide +kernel
theorem dX11_next_52 : decode cX11_next 52 = .ok (.ireturn, 1) := by decide +kernel
theorem dX11_next_53 : decode cX11_next 53 = .ok (.iload_n 2, 1) := by decide +kernel
theorem dX11_next_54 : decode cX11_next 54 = .ok (.aload 5, 2) := by decide +kernel
theorem dX11_next_56 : decode cX11_next 56 = .ok (.getfield 209, 3) := by decide +kernel
theorem dX11_next_59 : decode cX11_next 59 = .ok (.if_icmp .lt 9, 3) := by decide +kernel
theorem dX11_next_62 : decode cX11_next 62 = .ok (.aload_n 0, 1) := by decide +kernel
theorem dX11_next_63 : decode cX11_next 63 = .ok (.iconst 1, 1) := by decide +kernel
theorem dX11_next_64 : decode cX11_next 64 = .ok (.invokevirtual 102, 3) := by decide +kernel
theorem dX11_next_67 : decode cX11_next 67 = .ok (.ireturn, 1) := by decide +kernel
theorem dX11_next_68 : decode cX11_next 68 = .ok (.aload_n 0, 1) := by decide +kernel
theorem dX11_next_69 : decode cX11_next 69 = .ok (.iload 4, 2) := by decide +kernel
theorem dX11_next_71 : decode cX11_next 71 = .ok (.aload 5, 2) := by decide +kernel
theorem dX11_next_73 : decode cX11_next 73 = .ok (.iload_n 2, 1) := by decide +kernel
theorem dX11_next_74 : decode cX11_next 74 = .ok (.iload_n 3, 1) := by decide +kernel
theorem dX11_next_75 : decode cX11_next 75 = .ok (.invokevirtual 220, 3) := by decide +kernel
theorem dX11_next_78 : decode cX11_next 78 = .ok (.if_icmp .ge 15, 3) := by decide +kernel
theorem dX11_next_81 : decode cX11_next 81 = .ok (.aload 5, 2) := by decide +kernel
theorem dX11_next_83 : decode cX11_next 83 = .ok (.iload_n 2, 1) := by decide +kernel
theorem dX11_next_84 : decode cX11_next 84 = .ok (.iload_n 3, 1) := by decide +kernel
theorem dX11_next_85 : decode cX11_next 85 = .ok (.iload 4, 2) := by decide +kernel
theorem dX11_next_87 : decode cX11_next 87 = .ok (.invokevirtual 223, 3) := by decide +kernel
theorem dX11_next_90 : decode cX11_next 90 = .ok (.goto 5, 3) := by decide +kernel
theorem dX11_next_93 : decode cX11_next 93 = .ok (.bipush (-2), 2) := by decide +kernel
theorem dX11_next_95 : decode cX11_next 95 = .ok (.invokevirtual 126, 3) := by decide +kernel
theorem dX11_next_98 : decode cX11_next 98 = .ok (.ireturn, 1) := by decide +kernel
theorem dX11_nodes_0 : decode cX11_nodes 0 = .ok (.aload_n 0, 1) := by decide +kernel
theorem dX11_nodes_1 : decode cX11_nodes 1 = .ok (.iload_n 1, 1) := by decide +kernel
theorem dX11_nodes_2 : decode cX11_nodes 2 = .ok (.invokevirtual 202, 3) := by decide +kernel
theorem dX11_nodes_5 : decode cX11_nodes 5 = .ok (.astore_n 3, 1) := by decide +kernel
theorem dX11_nodes_6 : decode cX11_nodes 6 = .ok (.aload_n 3, 1) := by decide +kernel
theorem dX11_nodes_7 : decode cX11_nodes 7 = .ok (.ifnull 12, 3) := by decide +kernel
theorem dX11_nodes_10 : decode cX11_nodes 10 = .ok (.iload_n 2, 1) := by decide +kernel
theorem dX11_nodes_11 : decode cX11_nodes 11 = .ok (.ifCond .lt 8, 3) := by decide +kernel
theorem dX11_nodes_14 : decode cX11_nodes 14 = .ok (.iload_n 2, 1) := by decide +kernel
theorem dX11_nodes_15 : decode cX11_nodes 15 = .ok (.iconst 2, 1) := by decide +kernel
theorem dX11_nodes_16 : decode cX11_nodes 16 = .ok (.if_icmp .le 9, 3) := by decide +kernel
theorem dX11_nodes_19 : decode cX11_nodes 19 = .ok (.aload_n 0, 1) := by decide +kernel
theorem dX11_nodes_20 : decode cX11_nodes 20 = .ok (.iconst 1, 1) := by decide +kernel
theorem dX11_nodes_21 : decode cX11_nodes 21 = .ok (.invokevirtual 102, 3) := by decide +kernel
theorem dX11_nodes_24 : decode cX11_nodes 24 = .ok (.ireturn, 1) := by decide +kernel
theorem dX11_nodes_25 : decode cX11_nodes 25 = .ok (.aload_n 3, 1) := by decide +kernel
theorem dX11_nodes_26 : decode cX11_nodes 26 = .ok (.invokevirtual 206, 3) := by decide +kernel
theorem dX11_nodes_29 : decode cX11_nodes 29 = .ok (.ifCond .eq 15, 3) := by decide +kernel
theorem dX11_nodes_32 : decode cX11_nodes 32 = .ok (.aload_n 0, 1) := by decide +kernel
theorem dX11_nodes_33 : decode cX11_nodes 33 = .ok (.aload_n 3, 1) := by decide +kernel
theorem dX11_nodes_34 : decode cX11_nodes 34 = .ok (.iload_n 2, 1) := by decide +kernel
theorem dX11_nodes_35 : decode cX11_nodes 35 = .ok (.invokevirtual 227, 3) := by decide +kernel
theorem dX11_nodes_38 : decode cX11_nodes 38 = .ok (.invokevirtual 126, 3) := by decide +kernel
theorem dX11_nodes_41 : decode cX11_nodes 41 = .ok (.goto 8, 3) := by decide +kernel
theorem dX11_nodes_44 : decode cX11_nodes 44 = .ok (.aload_n 0, 1) := by decide +kernel
theorem dX11_nodes_45 : decode cX11_nodes 45 = .ok (.iconst 3, 1) := by decide +kernel
theorem dX11_nodes_46 : decode cX11_nodes 46 = .ok (.invokevirtual 102, 3) := by decide +kernel
theorem dX11_nodes_49 : decode cX11_nodes 49 = .ok (.ireturn, 1) := by decide +kernel
theorem dX11_takes_0 : decode cX11_takes 0 = .ok (.aload_n 0, 1) := by decide +kernel
theorem dX11_takes_1 : decode cX11_takes 1 = .ok (.iload_n 1, 1) := by decide +kernel
theorem dX11_takes_2 : decode cX11_takes 2 = .ok (.invokevirtual 138, 3) := by decide +kernel
theorem dX11_takes_5 : decode cX11_takes 5 = .ok (.astore_n 3, 1) := by decide +kernel
theorem dX11_takes_6 : decode cX11_takes 6 = .ok (.aload_n 0, 1) := by decide +kernel
theorem dX11_takes_7 : decode cX11_takes 7 = .ok (.aload_n 3, 1) := by decide +kernel
theorem dX11_takes_8 : decode cX11_takes 8 = .ok (.iload_n 2, 1) := by decide +kernel
theorem dX11_takes_9 : decode cX11_takes 9 = .ok (.invokevirtual 230, 3) := by decide +kernel
theorem dX11_takes_12 : decode cX11_takes 12 = .ok (.istore 4, 2) := by decide +kernel
theorem dX11_takes_14 : decode cX11_takes 14 = .ok (.aload_n 3, 1) := by decide +kernel
theorem dX11_takes_15 : decode cX11_takes 15 = .ok (.ifnull 8, 3) := by decide +kernel
theorem dX11_takes_18 : decode cX11_takes 18 = .ok (.iload 4, 2) := by decide +kernel
theorem dX11_takes_20 : decode cX11_takes 20 = .ok (.ifCond .eq 10, 3) := by decide +kernel
theorem dX11_takes_23 : decode cX11_takes 23 = .ok (.aload_n 0, 1) := by decide +kernel
theorem dX11_takes_24 : decode cX11_takes 24 = .ok (.iload 4, 2) := by decide +kernel
theorem dX11_takes_26 : decode cX11_takes 26 = .ok (.invokevirtual 102, 3) := by decide +kernel
theorem dX11_takes_29 : decode cX11_takes 29 = .ok (.ireturn, 1) := by decide +kernel
theorem dX11_takes_30 : decode cX11_takes 30 = .ok (.aload_n 0, 1) := by decide +kernel
theorem dX11_takes_31 : decode cX11_takes 31 = .ok (.aload_n 0, 1) := by decide +kernel
theorem dX11_takes_32 : decode cX11_takes 32 = .ok (.getfield 74, 3) := by decide +kernel
theorem dX11_takes_35 : decode cX11_takes 35 = .ok (.aload_n 3, 1) := by decide +kernel
theorem dX11_takes_36 : decode cX11_takes 36 = .ok (.aload_n 0, 1) := by decide +kernel
theorem dX11_takes_37 : decode cX11_takes 37 = .ok (.getfield 21, 3) := by decide +kernel
theorem dX11_takes_40 : decode cX11_takes 40 = .ok (.getfield 234, 3) := by decide +kernel
theorem dX11_takes_43 : decode cX11_takes 43 = .ok (.aload_n 0, 1) := by decide +kernel
theorem dX11_takes_44 : decode cX11_takes 44 = .ok (.getfield 21, 3) := by decide +kernel
theorem dX11_takes_47 : decode cX11_takes 47 = .ok (.getfield 238, 3) := by decide +kernel
theorem dX11_takes_50 : decode cX11_takes 50 = .ok (.invokevirtual 241, 3) := by decide +kernel
theorem dX11_takes_53 : decode cX11_takes 53 = .ok (.ifCond .eq 7, 3) := by decide +kernel
theorem dX11_takes_56 : decode cX11_takes 56 = .ok (.iconst 1, 1) := by decide +kernel
theorem dX11_takes_57 : decode cX11_takes 57 = .ok (.goto 4, 3) := by decide +kernel
theorem dX11_takes_60 : decode cX11_takes 60 = .ok (.iconst 0, 1) := by decide +kernel
theorem dX11_takes_61 : decode cX11_takes 61 = .ok (.invokevirtual 126, 3) := by decide +kernel
theorem dX11_takes_64 : decode cX11_takes 64 = .ok (.ireturn, 1) := by decide +kernel
theorem dX11_lacks_0 : decode cX11_lacks 0 = .ok (.aload_n 0, 1) := by decide +kernel
theorem dX11_lacks_1 : decode cX11_lacks 1 = .ok (.iload_n 1, 1) := by decide +kernel
theorem dX11_lacks_2 : decode cX11_lacks 2 = .ok (.invokevirtual 202, 3) := by decide +kernel
theorem dX11_lacks_5 : decode cX11_lacks 5 = .ok (.astore_n 3, 1) := by decide +kernel
theorem dX11_lacks_6 : decode cX11_lacks 6 = .ok (.aload_n 0, 1) := by decide +kernel
theorem dX11_lacks_7 : decode cX11_lacks 7 = .ok (.aload_n 0, 1) := by decide +kernel
theorem dX11_lacks_8 : decode cX11_lacks 8 = .ok (.iload_n 1, 1) := by decide +kernel
theorem dX11_lacks_9 : decode cX11_lacks 9 = .ok (.invokevirtual 138, 3) := by decide +kernel
theorem dX11_lacks_12 : decode cX11_lacks 12 = .ok (.iload_n 2, 1) := by decide +kernel
theorem dX11_lacks_13 : decode cX11_lacks 13 = .ok (.invokevirtual 230, 3) := by decide +kernel
theorem dX11_lacks_16 : decode cX11_lacks 16 = .ok (.istore 4, 2) := by decide +kernel
theorem dX11_lacks_18 : decode cX11_lacks 18 = .ok (.aload_n 3, 1) := by decide +kernel
theorem dX11_lacks_19 : decode cX11_lacks 19 = .ok (.ifnull 8, 3) := by decide +kernel
theorem dX11_lacks_22 : decode cX11_lacks 22 = .ok (.iload 4, 2) := by decide +kernel
theorem dX11_lacks_24 : decode cX11_lacks 24 = .ok (.ifCond .eq 10, 3) := by decide +kernel
theorem dX11_lacks_27 : decode cX11_lacks 27 = .ok (.aload_n 0, 1) := by decide +kernel
theorem dX11_lacks_28 : decode cX11_lacks 28 = .ok (.iload 4, 2) := by decide +kernel
theorem dX11_lacks_30 : decode cX11_lacks 30 = .ok (.invokevirtual 102, 3) := by decide +kernel
theorem dX11_lacks_33 : decode cX11_lacks 33 = .ok (.ireturn, 1) := by decide +kernel
theorem dX11_lacks_34 : decode cX11_lacks 34 = .ok (.aload_n 3, 1) := by decide +kernel
theorem dX11_lacks_35 : decode cX11_lacks 35 = .ok (.invokevirtual 206, 3) := by decide +kernel
theorem dX11_lacks_38 : decode cX11_lacks 38 = .ok (.ifCond .ne 9, 3) := by decide +kernel
theorem dX11_lacks_41 : decode cX11_lacks 41 = .ok (.aload_n 0, 1) := by decide +kernel
theorem dX11_lacks_42 : decode cX11_lacks 42 = .ok (.iconst 3, 1) := by decide +kernel
theorem dX11_lacks_43 : decode cX11_lacks 43 = .ok (.invokevirtual 102, 3) := by decide +kernel
theorem dX11_lacks_46 : decode cX11_lacks 46 = .ok (.ireturn, 1) := by decide +kernel
theorem dX11_lacks_47 : decode cX11_lacks 47 = .ok (.aload_n 0, 1) := by decide +kernel
theorem dX11_lacks_48 : decode cX11_lacks 48 = .ok (.aload_n 0, 1) := by decide +kernel
theorem dX11_lacks_49 : decode cX11_lacks 49 = .ok (.getfield 74, 3) := by decide +kernel
theorem dX11_lacks_52 : decode cX11_lacks 52 = .ok (.aload_n 3, 1) := by decide +kernel
theorem dX11_lacks_53 : decode cX11_lacks 53 = .ok (.aload_n 0, 1) := by decide +kernel
theorem dX11_lacks_54 : decode cX11_lacks 54 = .ok (.getfield 21, 3) := by decide +kernel
theorem dX11_lacks_57 : decode cX11_lacks 57 = .ok (.getfield 234, 3) := by decide +kernel
theorem dX11_lacks_60 : decode cX11_lacks 60 = .ok (.aload_n 0, 1) := by decide +kernel
theorem dX11_lacks_61 : decode cX11_lacks 61 = .ok (.getfield 21, 3) := by decide +kernel
theorem dX11_lacks_64 : decode cX11_lacks 64 = .ok (.getfield 238, 3) := by decide +kernel
theorem dX11_lacks_67 : decode cX11_lacks 67 = .ok (.invokevirtual 241, 3) := by decide +kernel
theorem dX11_lacks_70 : decode cX11_lacks 70 = .ok (.ifCond .eq 7, 3) := by decide +kernel
theorem dX11_lacks_73 : decode cX11_lacks 73 = .ok (.iconst 1, 1) := by decide +kernel
theorem dX11_lacks_74 : decode cX11_lacks 74 = .ok (.goto 4, 3) := by decide +kernel
theorem dX11_lacks_77 : decode cX11_lacks 77 = .ok (.iconst 0, 1) := by decide +kernel
theorem dX11_lacks_78 : decode cX11_lacks 78 = .ok (.invokevirtual 126, 3) := by decide +kernel
theorem dX11_lacks_81 : decode cX11_lacks 81 = .ok (.ireturn, 1) := by decide +kernel
theorem dX11_follows_0 : decode cX11_follows 0 = .ok (.aload_n 0, 1) := by decide +kernel
theorem dX11_follows_1 : decode cX11_follows 1 = .ok (.iload_n 1, 1) := by decide +kernel
theorem dX11_follows_2 : decode cX11_follows 2 = .ok (.invokevirtual 138, 3) := by decide +kernel
theorem dX11_follows_5 : decode cX11_follows 5 = .ok (.astore 4, 2) := by decide +kernel
theorem dX11_follows_7 : decode cX11_follows 7 = .ok (.aload 4, 2) := by decide +kernel
theorem dX11_follows_9 : decode cX11_follows 9 = .ok (.ifnull 19, 3) := by decide +kernel
theorem dX11_follows_12 : decode cX11_follows 12 = .ok (.iload_n 2, 1) := by decide +kernel
theorem dX11_follows_13 : decode cX11_follows 13 = .ok (.ifCond .lt 9, 3) := by decide +kernel
theorem dX11_follows_16 : decode cX11_follows 16 = .ok (.iload_n 2, 1) := by decide +kernel
theorem dX11_follows_17 : decode cX11_follows 17 = .ok (.bipush 20, 2) := by decide +kernel
theorem dX11_follows_19 : decode cX11_follows 19 = .ok (.if_icmp .le 9, 3) := by decide +kernel
theorem dX11_follows_22 : decode cX11_follows 22 = .ok (.aload_n 0, 1) := by decide +kernel
theorem dX11_follows_23 : decode cX11_follows 23 = .ok (.iconst 2, 1) := by decide +kernel
theorem dX11_follows_24 : decode cX11_follows 24 = .ok (.invokevirtual 102, 3) := by decide +kernel
theorem dX11_follows_27 : decode cX11_follows 27 = .ok (.ireturn, 1) := by decide +kernel
theorem dX11_follows_28 : decode cX11_follows 28 = .ok (.aload_n 0, 1) := by decide +kernel
theorem dX11_follows_29 : decode cX11_follows 29 = .ok (.aload 4, 2) := by decide +kernel
theorem dX11_follows_31 : decode cX11_follows 31 = .ok (.iload_n 3, 1) := by decide +kernel
theorem dX11_follows_32 : decode cX11_follows 32 = .ok (.invokevirtual 230, 3) := by decide +kernel
theorem dX11_follows_35 : decode cX11_follows 35 = .ok (.istore 5, 2) := by decide +kernel
theorem dX11_follows_37 : decode cX11_follows 37 = .ok (.aload 4, 2) := by decide +kernel
theorem dX11_follows_39 : decode cX11_follows 39 = .ok (.ifnull 8, 3) := by decide +kernel
theorem dX11_follows_42 : decode cX11_follows 42 = .ok (.iload 5, 2) := by decide +kernel
theorem dX11_follows_44 : decode cX11_follows 44 = .ok (.ifCond .eq 10, 3) := by decide +kernel
theorem dX11_follows_47 : decode cX11_follows 47 = .ok (.aload_n 0, 1) := by decide +kernel
theorem dX11_follows_48 : decode cX11_follows 48 = .ok (.iload 5, 2) := by decide +kernel
theorem dX11_follows_50 : decode cX11_follows 50 = .ok (.invokevirtual 102, 3) := by decide +kernel
theorem dX11_follows_53 : decode cX11_follows 53 = .ok (.ireturn, 1) := by decide +kernel
theorem dX11_follows_54 : decode cX11_follows 54 = .ok (.aload 4, 2) := by decide +kernel
theorem dX11_follows_56 : decode cX11_follows 56 = .ok (.aload 4, 2) := by decide +kernel
theorem dX11_follows_58 : decode cX11_follows 58 = .ok (.getfield 145, 3) := by decide +kernel
theorem dX11_follows_61 : decode cX11_follows 61 = .ok (.aload_n 0, 1) := by decide +kernel
theorem dX11_follows_62 : decode cX11_follows 62 = .ok (.getfield 21, 3) := by decide +kernel
theorem dX11_follows_65 : decode cX11_follows 65 = .ok (.getfield 234, 3) := by decide +kernel
theorem dX11_follows_68 : decode cX11_follows 68 = .ok (.invokevirtual 245, 3) := by decide +kernel
theorem dX11_follows_71 : decode cX11_follows 71 = .ok (.istore 6, 2) := by decide +kernel
theorem dX11_follows_73 : decode cX11_follows 73 = .ok (.iconst 0, 1) := by decide +kernel
theorem dX11_follows_74 : decode cX11_follows 74 = .ok (.istore 7, 2) := by decide +kernel
theorem dX11_follows_76 : decode cX11_follows 76 = .ok (.iload 7, 2) := by decide +kernel
theorem dX11_follows_78 : decode cX11_follows 78 = .ok (.iload_n 2, 1) := by decide +kernel
theorem dX11_follows_79 : decode cX11_follows 79 = .ok (.if_icmp .ge 25, 3) := by decide +kernel
theorem dX11_follows_82 : decode cX11_follows 82 = .ok (.aload 4, 2) := by decide +kernel
theorem dX11_follows_84 : decode cX11_follows 84 = .ok (.iload 6, 2) := by decide +kernel
theorem dX11_follows_86 : decode cX11_follows 86 = .ok (.aload_n 0, 1) := by decide +kernel
theorem dX11_follows_87 : decode cX11_follows 87 = .ok (.getfield 21, 3) := by decide +kernel
theorem dX11_follows_90 : decode cX11_follows 90 = .ok (.getfield 238, 3) := by decide +kernel
theorem dX11_follows_93 : decode cX11_follows 93 = .ok (.invokevirtual 245, 3) := by decide +kernel
theorem dX11_follows_96 : decode cX11_follows 96 = .ok (.istore 6, 2) := by decide +kernel
theorem dX11_follows_98 : decode cX11_follows 98 = .ok (.iinc 7 1, 3) := by decide +kernel
theorem dX11_follows_101 : decode cX11_follows 101 = .ok (.goto (-25), 3) := by decide +kernel
theorem dX11_follows_104 : decode cX11_follows 104 = .ok (.aload_n 0, 1) := by decide +kernel
theorem dX11_follows_105 : decode cX11_follows 105 = .ok (.iload 6, 2) := by decide +kernel
theorem dX11_follows_107 : decode cX11_follows 107 = .ok (.invokevirtual 126, 3) := by decide +kernel
theorem dX11_follows_110 : decode cX11_follows 110 = .ok (.ireturn, 1) := by decide +kernel
theorem dX11_counts_0 : decode cX11_counts 0 = .ok (.aload_n 0, 1) := by decide +kernel
theorem dX11_counts_1 : decode cX11_counts 1 = .ok (.iload_n 1, 1) := by decide +kernel
theorem dX11_counts_2 : decode cX11_counts 2 = .ok (.invokevirtual 138, 3) := by decide +kernel
theorem dX11_counts_5 : decode cX11_counts 5 = .ok (.astore 4, 2) := by decide +kernel
theorem dX11_counts_7 : decode cX11_counts 7 = .ok (.aload 4, 2) := by decide +kernel
theorem dX11_counts_9 : decode cX11_counts 9 = .ok (.ifnonnull 9, 3) := by decide +kernel
theorem dX11_counts_12 : decode cX11_counts 12 = .ok (.aload_n 0, 1) := by decide +kernel
theorem dX11_counts_13 : decode cX11_counts 13 = .ok (.iconst 1, 1) := by decide +kernel
theorem dX11_counts_14 : decode cX11_counts 14 = .ok (.invokevirtual 102, 3) := by decide +kernel
theorem dX11_counts_17 : decode cX11_counts 17 = .ok (.ireturn, 1) := by decide +kernel
theorem dX11_counts_18 : decode cX11_counts 18 = .ok (.iload_n 2, 1) := by decide +kernel
theorem dX11_counts_19 : decode cX11_counts 19 = .ok (.iload_n 3, 1) := by decide +kernel
theorem dX11_counts_20 : decode cX11_counts 20 = .ok (.invokestatic 249, 3) := by decide +kernel
theorem dX11_counts_23 : decode cX11_counts 23 = .ok (.ifCond .ne 9, 3) := by decide +kernel
theorem dX11_counts_26 : decode cX11_counts 26 = .ok (.aload_n 0, 1) := by decide +kernel
theorem dX11_counts_27 : decode cX11_counts 27 = .ok (.iconst 2, 1) := by decide +kernel
theorem dX11_counts_28 : decode cX11_counts 28 = .ok (.invokevirtual 102, 3) := by decide +kernel
theorem dX11_counts_31 : decode cX11_counts 31 = .ok (.ireturn, 1) := by decide +kernel
theorem dX11_counts_32 : decode cX11_counts 32 = .ok (.aload_n 0, 1) := by decide +kernel
theorem dX11_counts_33 : decode cX11_counts 33 = .ok (.aload_n 0, 1) := by decide +kernel
theorem dX11_counts_34 : decode cX11_counts 34 = .ok (.getfield 74, 3) := by decide +kernel
theorem dX11_counts_37 : decode cX11_counts 37 = .ok (.aload 4, 2) := by decide +kernel
theorem dX11_counts_39 : decode cX11_counts 39 = .ok (.iload_n 2, 1) := by decide +kernel
theorem dX11_counts_40 : decode cX11_counts 40 = .ok (.iload_n 3, 1) := by decide +kernel
theorem dX11_counts_41 : decode cX11_counts 41 = .ok (.invokevirtual 252, 3) := by decide +kernel
theorem dX11_counts_44 : decode cX11_counts 44 = .ok (.invokevirtual 126, 3) := by decide +kernel
theorem dX11_counts_47 : decode cX11_counts 47 = .ok (.ireturn, 1) := by decide +kernel
theorem dX11_others_0 : decode cX11_others 0 = .ok (.aload_n 0, 1) := by decide +kernel
theorem dX11_others_1 : decode cX11_others 1 = .ok (.iload_n 1, 1) := by decide +kernel
theorem dX11_others_2 : decode cX11_others 2 = .ok (.invokevirtual 202, 3) := by decide +kernel
theorem dX11_others_5 : decode cX11_others 5 = .ok (.astore 4, 2) := by decide +kernel
theorem dX11_others_7 : decode cX11_others 7 = .ok (.aload 4, 2) := by decide +kernel
theorem dX11_others_9 : decode cX11_others 9 = .ok (.ifnonnull 9, 3) := by decide +kernel
theorem dX11_others_12 : decode cX11_others 12 = .ok (.aload_n 0, 1) := by decide +kernel
theorem dX11_others_13 : decode cX11_others 13 = .ok (.iconst 1, 1) := by decide +kernel
theorem dX11_others_14 : decode cX11_others 14 = .ok (.invokevirtual 102, 3) := by decide +kernel
theorem dX11_others_17 : decode cX11_others 17 = .ok (.ireturn, 1) := by decide +kernel
theorem dX11_others_18 : decode cX11_others 18 = .ok (.iload_n 2, 1) := by decide +kernel
theorem dX11_others_19 : decode cX11_others 19 = .ok (.iload_n 3, 1) := by decide +kernel
theorem dX11_others_20 : decode cX11_others 20 = .ok (.invokestatic 249, 3) := by decide +kernel
theorem dX11_others_23 : decode cX11_others 23 = .ok (.ifCond .ne 9, 3) := by decide +kernel
theorem dX11_others_26 : decode cX11_others 26 = .ok (.aload_n 0, 1) := by decide +kernel
theorem dX11_others_27 : decode cX11_others 27 = .ok (.iconst 2, 1) := by decide +kernel
theorem dX11_others_28 : decode cX11_others 28 = .ok (.invokevirtual 102, 3) := by decide +kernel
theorem dX11_others_31 : decode cX11_others 31 = .ok (.ireturn, 1) := by decide +kernel
theorem dX11_others_32 : decode cX11_others 32 = .ok (.aload 4, 2) := by decide +kernel
theorem dX11_others_34 : decode cX11_others 34 = .ok (.invokevirtual 206, 3) := by decide +kernel
theorem dX11_others_37 : decode cX11_others 37 = .ok (.ifCond .eq 21, 3) := by decide +kernel
theorem dX11_others_40 : decode cX11_others 40 = .ok (.aload_n 0, 1) := by decide +kernel
theorem dX11_others_41 : decode cX11_others 41 = .ok (.aload_n 0, 1) := by decide +kernel
theorem dX11_others_42 : decode cX11_others 42 = .ok (.getfield 74, 3) := by decide +kernel
theorem dX11_others_45 : decode cX11_others 45 = .ok (.aload 4, 2) := by decide +kernel
theorem dX11_others_47 : decode cX11_others 47 = .ok (.iload_n 2, 1) := by decide +kernel
theorem dX11_others_48 : decode cX11_others 48 = .ok (.iload_n 3, 1) := by decide +kernel
theorem dX11_others_49 : decode cX11_others 49 = .ok (.invokevirtual 252, 3) := by decide +kernel
theorem dX11_others_52 : decode cX11_others 52 = .ok (.invokevirtual 126, 3) := by decide +kernel
theorem dX11_others_55 : decode cX11_others 55 = .ok (.goto 8, 3) := by decide +kernel
theorem dX11_others_58 : decode cX11_others 58 = .ok (.aload_n 0, 1) := by decide +kernel
theorem dX11_others_59 : decode cX11_others 59 = .ok (.iconst 3, 1) := by decide +kernel
theorem dX11_others_60 : decode cX11_others 60 = .ok (.invokevirtual 102, 3) := by decide +kernel
theorem dX11_others_63 : decode cX11_others 63 = .ok (.ireturn, 1) := by decide +kernel
theorem dX11_empty_0 : decode cX11_empty 0 = .ok (.aload_n 0, 1) := by decide +kernel
theorem dX11_empty_1 : decode cX11_empty 1 = .ok (.iload_n 1, 1) := by decide +kernel
theorem dX11_empty_2 : decode cX11_empty 2 = .ok (.invokevirtual 138, 3) := by decide +kernel
theorem dX11_empty_5 : decode cX11_empty 5 = .ok (.astore_n 2, 1) := by decide +kernel
theorem dX11_empty_6 : decode cX11_empty 6 = .ok (.aload_n 2, 1) := by decide +kernel
theorem dX11_empty_7 : decode cX11_empty 7 = .ok (.ifnonnull 9, 3) := by decide +kernel
theorem dX11_empty_10 : decode cX11_empty 10 = .ok (.aload_n 0, 1) := by decide +kernel
theorem dX11_empty_11 : decode cX11_empty 11 = .ok (.iconst 1, 1) := by decide +kernel
theorem dX11_empty_12 : decode cX11_empty 12 = .ok (.invokevirtual 102, 3) := by decide +kernel
theorem dX11_empty_15 : decode cX11_empty 15 = .ok (.ireturn, 1) := by decide +kernel
theorem dX11_empty_16 : decode cX11_empty 16 = .ok (.aload_n 0, 1) := by decide +kernel
theorem dX11_empty_17 : decode cX11_empty 17 = .ok (.aload_n 0, 1) := by decide +kernel
theorem dX11_empty_18 : decode cX11_empty 18 = .ok (.getfield 56, 3) := by decide +kernel
theorem dX11_empty_21 : decode cX11_empty 21 = .ok (.aload_n 2, 1) := by decide +kernel
theorem dX11_empty_22 : decode cX11_empty 22 = .ok (.invokevirtual 256, 3) := by decide +kernel
theorem dX11_empty_25 : decode cX11_empty 25 = .ok (.ifCond .eq 7, 3) := by decide +kernel
theorem dX11_empty_28 : decode cX11_empty 28 = .ok (.iconst 0, 1) := by decide +kernel
theorem dX11_empty_29 : decode cX11_empty 29 = .ok (.goto 4, 3) := by decide +kernel
theorem dX11_empty_32 : decode cX11_empty 32 = .ok (.iconst 1, 1) := by decide +kernel
theorem dX11_empty_33 : decode cX11_empty 33 = .ok (.invokevirtual 126, 3) := by decide +kernel
theorem dX11_empty_36 : decode cX11_empty 36 = .ok (.ireturn, 1) := by decide +kernel
theorem dX11_all_0 : decode cX11_all 0 = .ok (.aload_n 0, 1) := by decide +kernel
theorem dX11_all_1 : decode cX11_all 1 = .ok (.iload_n 1, 1) := by decide +kernel
theorem dX11_all_2 : decode cX11_all 2 = .ok (.invokevirtual 202, 3) := by decide +kernel
theorem dX11_all_5 : decode cX11_all 5 = .ok (.astore_n 2, 1) := by decide +kernel
theorem dX11_all_6 : decode cX11_all 6 = .ok (.aload_n 2, 1) := by decide +kernel
theorem dX11_all_7 : decode cX11_all 7 = .ok (.ifnonnull 9, 3) := by decide +kernel
theorem dX11_all_10 : decode cX11_all 10 = .ok (.aload_n 0, 1) := by decide +kernel
theorem dX11_all_11 : decode cX11_all 11 = .ok (.iconst 1, 1) := by decide +kernel
theorem dX11_all_12 : decode cX11_all 12 = .ok (.invokevirtual 102, 3) := by decide +kernel
theorem dX11_all_15 : decode cX11_all 15 = .ok (.ireturn, 1) := by decide +kernel
theorem dX11_all_16 : decode cX11_all 16 = .ok (.aload_n 2, 1) := by decide +kernel
theorem dX11_all_17 : decode cX11_all 17 = .ok (.invokevirtual 206, 3) := by decide +kernel
theorem dX11_all_20 : decode cX11_all 20 = .ok (.ifCond .ne 9, 3) := by decide +kernel
theorem dX11_all_23 : decode cX11_all 23 = .ok (.aload_n 0, 1) := by decide +kernel
theorem dX11_all_24 : decode cX11_all 24 = .ok (.iconst 3, 1) := by decide +kernel
theorem dX11_all_25 : decode cX11_all 25 = .ok (.invokevirtual 102, 3) := by decide +kernel
theorem dX11_all_28 : decode cX11_all 28 = .ok (.ireturn, 1) := by decide +kernel
theorem dX11_all_29 : decode cX11_all 29 = .ok (.aload_n 0, 1) := by decide +kernel
theorem dX11_all_30 : decode cX11_all 30 = .ok (.aload_n 0, 1) := by decide +kernel
theorem dX11_all_31 : decode cX11_all 31 = .ok (.getfield 56, 3) := by decide +kernel
theorem dX11_all_34 : decode cX11_all 34 = .ok (.aload_n 2, 1) := by decide +kernel
theorem dX11_all_35 : decode cX11_all 35 = .ok (.invokevirtual 256, 3) := by decide +kernel
theorem dX11_all_38 : decode cX11_all 38 = .ok (.ifCond .eq 7, 3) := by decide +kernel
theorem dX11_all_41 : decode cX11_all 41 = .ok (.iconst 0, 1) := by decide +kernel
theorem dX11_all_42 : decode cX11_all 42 = .ok (.goto 4, 3) := by decide +kernel
theorem dX11_all_45 : decode cX11_all 45 = .ok (.iconst 1, 1) := by decide +kernel
theorem dX11_all_46 : decode cX11_all 46 = .ok (.invokevirtual 126, 3) := by decide +kernel
theorem dX11_all_49 : decode cX11_all 49 = .ok (.ireturn, 1) := by decide +kernel
theorem dX11_within_0 : decode cX11_within 0 = .ok (.aload_n 0, 1) := by decide +kernel
theorem dX11_within_1 : decode cX11_within 1 = .ok (.iload_n 1, 1) := by decide +kernel
theorem dX11_within_2 : decode cX11_within 2 = .ok (.invokevirtual 138, 3) := by decide +kernel
theorem dX11_within_5 : decode cX11_within 5 = .ok (.astore_n 3, 1) := by decide +kernel
theorem dX11_within_6 : decode cX11_within 6 = .ok (.aload_n 0, 1) := by decide +kernel
theorem dX11_within_7 : decode cX11_within 7 = .ok (.iload_n 2, 1) := by decide +kernel
theorem dX11_within_8 : decode cX11_within 8 = .ok (.invokevirtual 202, 3) := by decide +kernel
theorem dX11_within_11 : decode cX11_within 11 = .ok (.astore 4, 2) := by decide +kernel
theorem dX11_within_13 : decode cX11_within 13 = .ok (.aload_n 3, 1) := by decide +kernel
theorem dX11_within_14 : decode cX11_within 14 = .ok (.ifnull 8, 3) := by decide +kernel
theorem dX11_within_17 : decode cX11_within 17 = .ok (.aload 4, 2) := by decide +kernel
theorem dX11_within_19 : decode cX11_within 19 = .ok (.ifnonnull 9, 3) := by decide +kernel
theorem dX11_within_22 : decode cX11_within 22 = .ok (.aload_n 0, 1) := by decide +kernel
theorem dX11_within_23 : decode cX11_within 23 = .ok (.iconst 1, 1) := by decide +kernel
theorem dX11_within_24 : decode cX11_within 24 = .ok (.invokevirtual 102, 3) := by decide +kernel
theorem dX11_within_27 : decode cX11_within 27 = .ok (.ireturn, 1) := by decide +kernel
theorem dX11_within_28 : decode cX11_within 28 = .ok (.aload 4, 2) := by decide +kernel
theorem dX11_within_30 : decode cX11_within 30 = .ok (.invokevirtual 206, 3) := by decide +kernel
theorem dX11_within_33 : decode cX11_within 33 = .ok (.ifCond .eq 16, 3) := by decide +kernel
theorem dX11_within_36 : decode cX11_within 36 = .ok (.aload_n 0, 1) := by decide +kernel
theorem dX11_within_37 : decode cX11_within 37 = .ok (.getfield 83, 3) := by decide +kernel
theorem dX11_within_40 : decode cX11_within 40 = .ok (.aload_n 3, 1) := by decide +kernel
theorem dX11_within_41 : decode cX11_within 41 = .ok (.aload 4, 2) := by decide +kernel
theorem dX11_within_43 : decode cX11_within 43 = .ok (.invokevirtual 260, 3) := by decide +kernel
theorem dX11_within_46 : decode cX11_within 46 = .ok (.ifCond .ne 9, 3) := by decide +kernel
theorem dX11_within_49 : decode cX11_within 49 = .ok (.aload_n 0, 1) := by decide +kernel
theorem dX11_within_50 : decode cX11_within 50 = .ok (.iconst 3, 1) := by decide +kernel
theorem dX11_within_51 : decode cX11_within 51 = .ok (.invokevirtual 102, 3) := by decide +kernel
theorem dX11_within_54 : decode cX11_within 54 = .ok (.ireturn, 1) := by decide +kernel
theorem dX11_within_55 : decode cX11_within 55 = .ok (.aload_n 0, 1) := by decide +kernel
theorem dX11_within_56 : decode cX11_within 56 = .ok (.aload_n 0, 1) := by decide +kernel
theorem dX11_within_57 : decode cX11_within 57 = .ok (.getfield 83, 3) := by decide +kernel
theorem dX11_within_60 : decode cX11_within 60 = .ok (.getfield 264, 3) := by decide +kernel
theorem dX11_within_63 : decode cX11_within 63 = .ok (.putfield 265, 3) := by decide +kernel
theorem dX11_within_66 : decode cX11_within 66 = .ok (.aload_n 0, 1) := by decide +kernel
theorem dX11_within_67 : decode cX11_within 67 = .ok (.aload_n 0, 1) := by decide +kernel
theorem dX11_within_68 : decode cX11_within 68 = .ok (.getfield 56, 3) := by decide +kernel
theorem dX11_within_71 : decode cX11_within 71 = .ok (.aload_n 0, 1) := by decide +kernel
theorem dX11_within_72 : decode cX11_within 72 = .ok (.getfield 83, 3) := by decide +kernel
theorem dX11_within_75 : decode cX11_within 75 = .ok (.invokevirtual 256, 3) := by decide +kernel
theorem dX11_within_78 : decode cX11_within 78 = .ok (.ifCond .eq 7, 3) := by decide +kernel
theorem dX11_within_81 : decode cX11_within 81 = .ok (.iconst 0, 1) := by decide +kernel
theorem dX11_within_82 : decode cX11_within 82 = .ok (.goto 4, 3) := by decide +kernel
theorem dX11_within_85 : decode cX11_within 85 = .ok (.iconst 1, 1) := by decide +kernel
theorem dX11_within_86 : decode cX11_within 86 = .ok (.invokevirtual 126, 3) := by decide +kernel
theorem dX11_within_89 : decode cX11_within 89 = .ok (.ireturn, 1) := by decide +kernel
theorem dX11_met_0 : decode cX11_met 0 = .ok (.aload_n 0, 1) := by decide +kernel
theorem dX11_met_1 : decode cX11_met 1 = .ok (.getfield 265, 3) := by decide +kernel
theorem dX11_met_4 : decode cX11_met 4 = .ok (.ireturn, 1) := by decide +kernel
theorem dX11_shown_0 : decode cX11_shown 0 = .ok (.iload_n 1, 1) := by decide +kernel
theorem dX11_shown_1 : decode cX11_shown 1 = .ok (.ifCond .lt 8, 3) := by decide +kernel
theorem dX11_shown_4 : decode cX11_shown 4 = .ok (.iload_n 1, 1) := by decide +kernel
theorem dX11_shown_5 : decode cX11_shown 5 = .ok (.iconst 1, 1) := by decide +kernel
theorem dX11_shown_6 : decode cX11_shown 6 = .ok (.if_icmp .le 9, 3) := by decide +kernel
theorem dX11_shown_9 : decode cX11_shown 9 = .ok (.aload_n 0, 1) := by decide +kernel
theorem dX11_shown_10 : decode cX11_shown 10 = .ok (.iconst 1, 1) := by decide +kernel
theorem dX11_shown_11 : decode cX11_shown 11 = .ok (.invokevirtual 102, 3) := by decide +kernel
theorem dX11_shown_14 : decode cX11_shown 14 = .ok (.ireturn, 1) := by decide +kernel
theorem dX11_shown_15 : decode cX11_shown 15 = .ok (.aload_n 0, 1) := by decide +kernel
theorem dX11_shown_16 : decode cX11_shown 16 = .ok (.getfield 56, 3) := by decide +kernel
theorem dX11_shown_19 : decode cX11_shown 19 = .ok (.getfield 268, 3) := by decide +kernel
theorem dX11_shown_22 : decode cX11_shown 22 = .ok (.ifCond .ne 10, 3) := by decide +kernel
theorem dX11_shown_25 : decode cX11_shown 25 = .ok (.aload_n 0, 1) := by decide +kernel
theorem dX11_shown_26 : decode cX11_shown 26 = .ok (.bipush (-2), 2) := by decide +kernel
theorem dX11_shown_28 : decode cX11_shown 28 = .ok (.invokevirtual 126, 3) := by decide +kernel
theorem dX11_shown_31 : decode cX11_shown 31 = .ok (.ireturn, 1) := by decide +kernel
theorem dX11_shown_32 : decode cX11_shown 32 = .ok (.aload_n 0, 1) := by decide +kernel
theorem dX11_shown_33 : decode cX11_shown 33 = .ok (.iload_n 1, 1) := by decide +kernel
theorem dX11_shown_34 : decode cX11_shown 34 = .ok (.ifCond .ne 13, 3) := by decide +kernel
theorem dX11_shown_37 : decode cX11_shown 37 = .ok (.aload_n 0, 1) := by decide +kernel
theorem dX11_shown_38 : decode cX11_shown 38 = .ok (.getfield 56, 3) := by decide +kernel
theorem dX11_shown_41 : decode cX11_shown 41 = .ok (.getfield 272, 3) := by decide +kernel
theorem dX11_shown_44 : decode cX11_shown 44 = .ok (.goto 10, 3) := by decide +kernel
theorem dX11_shown_47 : decode cX11_shown 47 = .ok (.aload_n 0, 1) := by decide +kernel
theorem dX11_shown_48 : decode cX11_shown 48 = .ok (.getfield 56, 3) := by decide +kernel
theorem dX11_shown_51 : decode cX11_shown 51 = .ok (.getfield 275, 3) := by decide +kernel
theorem dX11_shown_54 : decode cX11_shown 54 = .ok (.invokevirtual 126, 3) := by decide +kernel
theorem dX11_shown_57 : decode cX11_shown 57 = .ok (.ireturn, 1) := by decide +kernel
theorem dX11_letter_0 : decode cX11_letter 0 = .ok (.aload_n 0, 1) := by decide +kernel
theorem dX11_letter_1 : decode cX11_letter 1 = .ok (.getfield 56, 3) := by decide +kernel
theorem dX11_letter_4 : decode cX11_letter 4 = .ok (.getfield 268, 3) := by decide +kernel
theorem dX11_letter_7 : decode cX11_letter 7 = .ok (.ifCond .eq 26, 3) := by decide +kernel
theorem dX11_letter_10 : decode cX11_letter 10 = .ok (.iload_n 1, 1) := by decide +kernel
theorem dX11_letter_11 : decode cX11_letter 11 = .ok (.ifCond .lt 22, 3) := by decide +kernel
theorem dX11_letter_14 : decode cX11_letter 14 = .ok (.iload_n 1, 1) := by decide +kernel
theorem dX11_letter_15 : decode cX11_letter 15 = .ok (.aload_n 0, 1) := by decide +kernel
theorem dX11_letter_16 : decode cX11_letter 16 = .ok (.getfield 56, 3) := by decide +kernel
theorem dX11_letter_19 : decode cX11_letter 19 = .ok (.getfield 272, 3) := by decide +kernel
theorem dX11_letter_22 : decode cX11_letter 22 = .ok (.aload_n 0, 1) := by decide +kernel
theorem dX11_letter_23 : decode cX11_letter 23 = .ok (.getfield 56, 3) := by decide +kernel
theorem dX11_letter_26 : decode cX11_letter 26 = .ok (.getfield 275, 3) := by decide +kernel
theorem dX11_letter_29 : decode cX11_letter 29 = .ok (.iadd, 1) := by decide +kernel
theorem dX11_letter_30 : decode cX11_letter 30 = .ok (.if_icmp .lt 11, 3) := by decide +kernel
theorem dX11_letter_33 : decode cX11_letter 33 = .ok (.new 278, 3) := by decide +kernel
theorem dX11_letter_36 : decode cX11_letter 36 = .ok (.dup, 1) := by decide +kernel
theorem dX11_letter_37 : decode cX11_letter 37 = .ok (.invokespecial 280, 3) := by decide +kernel
theorem dX11_letter_40 : decode cX11_letter 40 = .ok (.athrow, 1) := by decide +kernel
theorem dX11_letter_41 : decode cX11_letter 41 = .ok (.aload_n 0, 1) := by decide +kernel
theorem dX11_letter_42 : decode cX11_letter 42 = .ok (.getfield 56, 3) := by decide +kernel
theorem dX11_letter_45 : decode cX11_letter 45 = .ok (.getfield 281, 3) := by decide +kernel
theorem dX11_letter_48 : decode cX11_letter 48 = .ok (.iload_n 1, 1) := by decide +kernel
theorem dX11_letter_49 : decode cX11_letter 49 = .ok (.invokevirtual 284, 3) := by decide +kernel
theorem dX11_letter_52 : decode cX11_letter 52 = .ok (.ireturn, 1) := by decide +kernel
theorem dX11_link_0 : decode cX11_link 0 = .ok (.aload_n 0, 1) := by decide +kernel
theorem dX11_link_1 : decode cX11_link 1 = .ok (.iload_n 1, 1) := by decide +kernel
theorem dX11_link_2 : decode cX11_link 2 = .ok (.invokevirtual 138, 3) := by decide +kernel
theorem dX11_link_5 : decode cX11_link 5 = .ok (.astore 6, 2) := by decide +kernel
theorem dX11_link_7 : decode cX11_link 7 = .ok (.aload 6, 2) := by decide +kernel
theorem dX11_link_9 : decode cX11_link 9 = .ok (.ifnull 15, 3) := by decide +kernel
theorem dX11_link_12 : decode cX11_link 12 = .ok (.aload 6, 2) := by decide +kernel
theorem dX11_link_14 : decode cX11_link 14 = .ok (.iload_n 2, 1) := by decide +kernel
theorem dX11_link_15 : decode cX11_link 15 = .ok (.iload_n 3, 1) := by decide +kernel
theorem dX11_link_16 : decode cX11_link 16 = .ok (.iload 4, 2) := by decide +kernel
theorem dX11_link_18 : decode cX11_link 18 = .ok (.invokevirtual 158, 3) := by decide +kernel
theorem dX11_link_21 : decode cX11_link 21 = .ok (.ifCond .ne 9, 3) := by decide +kernel
theorem dX11_link_24 : decode cX11_link 24 = .ok (.aload_n 0, 1) := by decide +kernel
theorem dX11_link_25 : decode cX11_link 25 = .ok (.iconst 1, 1) := by decide +kernel
theorem dX11_link_26 : decode cX11_link 26 = .ok (.invokevirtual 102, 3) := by decide +kernel
theorem dX11_link_29 : decode cX11_link 29 = .ok (.ireturn, 1) := by decide +kernel
theorem dX11_link_30 : decode cX11_link 30 = .ok (.aload 6, 2) := by decide +kernel
theorem dX11_link_32 : decode cX11_link 32 = .ok (.iload_n 2, 1) := by decide +kernel
theorem dX11_link_33 : decode cX11_link 33 = .ok (.iload_n 3, 1) := by decide +kernel
theorem dX11_link_34 : decode cX11_link 34 = .ok (.iload 4, 2) := by decide +kernel
theorem dX11_link_36 : decode cX11_link 36 = .ok (.invokevirtual 162, 3) := by decide +kernel
theorem dX11_link_39 : decode cX11_link 39 = .ok (.iload 5, 2) := by decide +kernel
theorem dX11_link_41 : decode cX11_link 41 = .ok (.if_icmp .ne 9, 3) := by decide +kernel
theorem dX11_link_44 : decode cX11_link 44 = .ok (.aload_n 0, 1) := by decide +kernel
theorem dX11_link_45 : decode cX11_link 45 = .ok (.iconst 5, 1) := by decide +kernel
theorem dX11_link_46 : decode cX11_link 46 = .ok (.invokevirtual 102, 3) := by decide +kernel
theorem dX11_link_49 : decode cX11_link 49 = .ok (.ireturn, 1) := by decide +kernel
theorem dX11_link_50 : decode cX11_link 50 = .ok (.aload 6, 2) := by decide +kernel
theorem dX11_link_52 : decode cX11_link 52 = .ok (.iload_n 2, 1) := by decide +kernel
theorem dX11_link_53 : decode cX11_link 53 = .ok (.iload_n 3, 1) := by decide +kernel
theorem dX11_link_54 : decode cX11_link 54 = .ok (.iload 4, 2) := by decide +kernel
theorem dX11_link_56 : decode cX11_link 56 = .ok (.iload 5, 2) := by decide +kernel
theorem dX11_link_58 : decode cX11_link 58 = .ok (.invokevirtual 287, 3) := by decide +kernel
theorem dX11_link_61 : decode cX11_link 61 = .ok (.aload_n 0, 1) := by decide +kernel
theorem dX11_link_62 : decode cX11_link 62 = .ok (.iload_n 1, 1) := by decide +kernel
theorem dX11_link_63 : decode cX11_link 63 = .ok (.invokevirtual 291, 3) := by decide +kernel
theorem dX11_link_66 : decode cX11_link 66 = .ok (.aload_n 0, 1) := by decide +kernel
theorem dX11_link_67 : decode cX11_link 67 = .ok (.aload 6, 2) := by decide +kernel
theorem dX11_link_69 : decode cX11_link 69 = .ok (.invokevirtual 151, 3) := by decide +kernel
theorem dX11_link_72 : decode cX11_link 72 = .ok (.invokevirtual 126, 3) := by decide +kernel
theorem dX11_link_75 : decode cX11_link 75 = .ok (.ireturn, 1) := by decide +kernel
theorem dX11_mark_0 : decode cX11_mark 0 = .ok (.aload_n 0, 1) := by decide +kernel
theorem dX11_mark_1 : decode cX11_mark 1 = .ok (.iload_n 1, 1) := by decide +kernel
theorem dX11_mark_2 : decode cX11_mark 2 = .ok (.invokevirtual 138, 3) := by decide +kernel
theorem dX11_mark_5 : decode cX11_mark 5 = .ok (.astore 4, 2) := by decide +kernel
theorem dX11_mark_7 : decode cX11_mark 7 = .ok (.aload 4, 2) := by decide +kernel
theorem dX11_mark_9 : decode cX11_mark 9 = .ok (.ifnull 12, 3) := by decide +kernel
theorem dX11_mark_12 : decode cX11_mark 12 = .ok (.aload 4, 2) := by decide +kernel
theorem dX11_mark_14 : decode cX11_mark 14 = .ok (.iload_n 2, 1) := by decide +kernel
theorem dX11_mark_15 : decode cX11_mark 15 = .ok (.invokevirtual 189, 3) := by decide +kernel
theorem dX11_mark_18 : decode cX11_mark 18 = .ok (.ifCond .ne 9, 3) := by decide +kernel
theorem dX11_mark_21 : decode cX11_mark 21 = .ok (.aload_n 0, 1) := by decide +kernel
theorem dX11_mark_22 : decode cX11_mark 22 = .ok (.iconst 1, 1) := by decide +kernel
theorem dX11_mark_23 : decode cX11_mark 23 = .ok (.invokevirtual 102, 3) := by decide +kernel
theorem dX11_mark_26 : decode cX11_mark 26 = .ok (.ireturn, 1) := by decide +kernel
theorem dX11_mark_27 : decode cX11_mark 27 = .ok (.iload_n 2, 1) := by decide +kernel
theorem dX11_mark_28 : decode cX11_mark 28 = .ok (.aload 4, 2) := by decide +kernel
theorem dX11_mark_30 : decode cX11_mark 30 = .ok (.getfield 148, 3) := by decide +kernel
theorem dX11_mark_33 : decode cX11_mark 33 = .ok (.invokestatic 192, 3) := by decide +kernel
theorem dX11_mark_36 : decode cX11_mark 36 = .ok (.iload_n 3, 1) := by decide +kernel
theorem dX11_mark_37 : decode cX11_mark 37 = .ok (.if_icmp .ne 9, 3) := by decide +kernel
theorem dX11_mark_40 : decode cX11_mark 40 = .ok (.aload_n 0, 1) := by decide +kernel
theorem dX11_mark_41 : decode cX11_mark 41 = .ok (.iconst 5, 1) := by decide +kernel
theorem dX11_mark_42 : decode cX11_mark 42 = .ok (.invokevirtual 102, 3) := by decide +kernel
theorem dX11_mark_45 : decode cX11_mark 45 = .ok (.ireturn, 1) := by decide +kernel
theorem dX11_mark_46 : decode cX11_mark 46 = .ok (.aload 4, 2) := by decide +kernel
theorem dX11_mark_48 : decode cX11_mark 48 = .ok (.dup, 1) := by decide +kernel
theorem dX11_mark_49 : decode cX11_mark 49 = .ok (.getfield 148, 3) := by decide +kernel
theorem dX11_mark_52 : decode cX11_mark 52 = .ok (.iconst 1, 1) := by decide +kernel
theorem dX11_mark_53 : decode cX11_mark 53 = .ok (.iload_n 2, 1) := by decide +kernel
theorem dX11_mark_54 : decode cX11_mark 54 = .ok (.ishl, 1) := by decide +kernel
theorem dX11_mark_55 : decode cX11_mark 55 = .ok (.ixor, 1) := by decide +kernel
theorem dX11_mark_56 : decode cX11_mark 56 = .ok (.putfield 148, 3) := by decide +kernel
theorem dX11_mark_59 : decode cX11_mark 59 = .ok (.aload_n 0, 1) := by decide +kernel
theorem dX11_mark_60 : decode cX11_mark 60 = .ok (.iload_n 1, 1) := by decide +kernel
theorem dX11_mark_61 : decode cX11_mark 61 = .ok (.invokevirtual 291, 3) := by decide +kernel
theorem dX11_mark_64 : decode cX11_mark 64 = .ok (.aload_n 0, 1) := by decide +kernel
theorem dX11_mark_65 : decode cX11_mark 65 = .ok (.aload 4, 2) := by decide +kernel
theorem dX11_mark_67 : decode cX11_mark 67 = .ok (.getfield 148, 3) := by decide +kernel
theorem dX11_mark_70 : decode cX11_mark 70 = .ok (.invokevirtual 126, 3) := by decide +kernel
theorem dX11_mark_73 : decode cX11_mark 73 = .ok (.ireturn, 1) := by decide +kernel
theorem dX11_begin_0 : decode cX11_begin 0 = .ok (.aload_n 0, 1) := by decide +kernel
theorem dX11_begin_1 : decode cX11_begin 1 = .ok (.iload_n 1, 1) := by decide +kernel
theorem dX11_begin_2 : decode cX11_begin 2 = .ok (.invokevirtual 138, 3) := by decide +kernel
theorem dX11_begin_5 : decode cX11_begin 5 = .ok (.astore 4, 2) := by decide +kernel
theorem dX11_begin_7 : decode cX11_begin 7 = .ok (.aload 4, 2) := by decide +kernel
theorem dX11_begin_9 : decode cX11_begin 9 = .ok (.ifnull 12, 3) := by decide +kernel
theorem dX11_begin_12 : decode cX11_begin 12 = .ok (.aload 4, 2) := by decide +kernel
theorem dX11_begin_14 : decode cX11_begin 14 = .ok (.iload_n 2, 1) := by decide +kernel
theorem dX11_begin_15 : decode cX11_begin 15 = .ok (.invokevirtual 189, 3) := by decide +kernel
theorem dX11_begin_18 : decode cX11_begin 18 = .ok (.ifCond .ne 9, 3) := by decide +kernel
theorem dX11_begin_21 : decode cX11_begin 21 = .ok (.aload_n 0, 1) := by decide +kernel
theorem dX11_begin_22 : decode cX11_begin 22 = .ok (.iconst 1, 1) := by decide +kernel
theorem dX11_begin_23 : decode cX11_begin 23 = .ok (.invokevirtual 102, 3) := by decide +kernel
theorem dX11_begin_26 : decode cX11_begin 26 = .ok (.ireturn, 1) := by decide +kernel
theorem dX11_begin_27 : decode cX11_begin 27 = .ok (.iload_n 2, 1) := by decide +kernel
theorem dX11_begin_28 : decode cX11_begin 28 = .ok (.aload 4, 2) := by decide +kernel
theorem dX11_begin_30 : decode cX11_begin 30 = .ok (.getfield 145, 3) := by decide +kernel
theorem dX11_begin_33 : decode cX11_begin 33 = .ok (.invokestatic 192, 3) := by decide +kernel
theorem dX11_begin_36 : decode cX11_begin 36 = .ok (.iload_n 3, 1) := by decide +kernel
theorem dX11_begin_37 : decode cX11_begin 37 = .ok (.if_icmp .ne 9, 3) := by decide +kernel
theorem dX11_begin_40 : decode cX11_begin 40 = .ok (.aload_n 0, 1) := by decide +kernel
theorem dX11_begin_41 : decode cX11_begin 41 = .ok (.iconst 5, 1) := by decide +kernel
theorem dX11_begin_42 : decode cX11_begin 42 = .ok (.invokevirtual 102, 3) := by decide +kernel
theorem dX11_begin_45 : decode cX11_begin 45 = .ok (.ireturn, 1) := by decide +kernel
theorem dX11_begin_46 : decode cX11_begin 46 = .ok (.aload 4, 2) := by decide +kernel
theorem dX11_begin_48 : decode cX11_begin 48 = .ok (.dup, 1) := by decide +kernel
theorem dX11_begin_49 : decode cX11_begin 49 = .ok (.getfield 145, 3) := by decide +kernel
theorem dX11_begin_52 : decode cX11_begin 52 = .ok (.iconst 1, 1) := by decide +kernel
theorem dX11_begin_53 : decode cX11_begin 53 = .ok (.iload_n 2, 1) := by decide +kernel
theorem dX11_begin_54 : decode cX11_begin 54 = .ok (.ishl, 1) := by decide +kernel
theorem dX11_begin_55 : decode cX11_begin 55 = .ok (.ixor, 1) := by decide +kernel
theorem dX11_begin_56 : decode cX11_begin 56 = .ok (.putfield 145, 3) := by decide +kernel
theorem dX11_begin_59 : decode cX11_begin 59 = .ok (.aload_n 0, 1) := by decide +kernel
theorem dX11_begin_60 : decode cX11_begin 60 = .ok (.iload_n 1, 1) := by decide +kernel
theorem dX11_begin_61 : decode cX11_begin 61 = .ok (.invokevirtual 291, 3) := by decide +kernel
theorem dX11_begin_64 : decode cX11_begin 64 = .ok (.aload_n 0, 1) := by decide +kernel
theorem dX11_begin_65 : decode cX11_begin 65 = .ok (.aload 4, 2) := by decide +kernel
theorem dX11_begin_67 : decode cX11_begin 67 = .ok (.getfield 145, 3) := by decide +kernel
theorem dX11_begin_70 : decode cX11_begin 70 = .ok (.invokevirtual 126, 3) := by decide +kernel
theorem dX11_begin_73 : decode cX11_begin 73 = .ok (.ireturn, 1) := by decide +kernel
theorem dX11_size_0 : decode cX11_size 0 = .ok (.aload_n 0, 1) := by decide +kernel
theorem dX11_size_1 : decode cX11_size 1 = .ok (.getfield 10, 3) := by decide +kernel
theorem dX11_size_4 : decode cX11_size 4 = .ok (.getfield 94, 3) := by decide +kernel
theorem dX11_size_7 : decode cX11_size 7 = .ok (.ireturn, 1) := by decide +kernel
theorem dX11_trouble_0 : decode cX11_trouble 0 = .ok (.aload_n 0, 1) := by decide +kernel
theorem dX11_trouble_1 : decode cX11_trouble 1 = .ok (.getfield 132, 3) := by decide +kernel
theorem dX11_trouble_4 : decode cX11_trouble 4 = .ok (.ireturn, 1) := by decide +kernel
theorem dX11_refuse_0 : decode cX11_refuse 0 = .ok (.aload_n 0, 1) := by decide +kernel
theorem dX11_refuse_1 : decode cX11_refuse 1 = .ok (.iload_n 1, 1) := by decide +kernel
theorem dX11_refuse_2 : decode cX11_refuse 2 = .ok (.putfield 132, 3) := by decide +kernel
theorem dX11_refuse_5 : decode cX11_refuse 5 = .ok (.iconst (-1), 1) := by decide +kernel
theorem dX11_refuse_6 : decode cX11_refuse 6 = .ok (.ireturn, 1) := by decide +kernel
theorem dX11_answer_0 : decode cX11_answer 0 = .ok (.aload_n 0, 1) := by decide +kernel
theorem dX11_answer_1 : decode cX11_answer 1 = .ok (.iconst 0, 1) := by decide +kernel
theorem dX11_answer_2 : decode cX11_answer 2 = .ok (.putfield 132, 3) := by decide +kernel
theorem dX11_answer_5 : decode cX11_answer 5 = .ok (.iload_n 1, 1) := by decide +kernel
theorem dX11_answer_6 : decode cX11_answer 6 = .ok (.ireturn, 1) := by decide +kernel
theorem dX11_machineAt_0 : decode cX11_machineAt 0 = .ok (.iload_n 1, 1) := by decide +kernel
theorem dX11_machineAt_1 : decode cX11_machineAt 1 = .ok (.ifCond .lt 25, 3) := by decide +kernel
theorem dX11_machineAt_4 : decode cX11_machineAt 4 = .ok (.iload_n 1, 1) := by decide +kernel
theorem dX11_machineAt_5 : decode cX11_machineAt 5 = .ok (.aload_n 0, 1) := by decide +kernel
theorem dX11_machineAt_6 : decode cX11_machineAt 6 = .ok (.getfield 115, 3) := by decide +kernel
theorem dX11_machineAt_9 : decode cX11_machineAt 9 = .ok (.if_icmp .ge 17, 3) := by decide +kernel
theorem dX11_machineAt_12 : decode cX11_machineAt 12 = .ok (.iload_n 1, 1) := by decide +kernel
theorem dX11_machineAt_13 : decode cX11_machineAt 13 = .ok (.iconst 3, 1) := by decide +kernel
theorem dX11_machineAt_14 : decode cX11_machineAt 14 = .ok (.if_icmp .ge 12, 3) := by decide +kernel
theorem dX11_machineAt_17 : decode cX11_machineAt 17 = .ok (.aload_n 0, 1) := by decide +kernel
theorem dX11_machineAt_18 : decode cX11_machineAt 18 = .ok (.getfield 34, 3) := by decide +kernel
theorem dX11_machineAt_21 : decode cX11_machineAt 21 = .ok (.iload_n 1, 1) := by decide +kernel
theorem dX11_machineAt_22 : decode cX11_machineAt 22 = .ok (.aaload, 1) := by decide +kernel
theorem dX11_machineAt_23 : decode cX11_machineAt 23 = .ok (.goto 4, 3) := by decide +kernel
theorem dX11_machineAt_26 : decode cX11_machineAt 26 = .ok (.aconst_null, 1) := by decide +kernel
theorem dX11_machineAt_27 : decode cX11_machineAt 27 = .ok (.areturn, 1) := by decide +kernel
theorem dX11_complementAt_0 : decode cX11_complementAt 0 = .ok (.iload_n 1, 1) := by decide +kernel
theorem dX11_complementAt_1 : decode cX11_complementAt 1 = .ok (.ifCond .lt 25, 3) := by decide +kernel
theorem dX11_complementAt_4 : decode cX11_complementAt 4 = .ok (.iload_n 1, 1) := by decide +kernel
theorem dX11_complementAt_5 : decode cX11_complementAt 5 = .ok (.aload_n 0, 1) := by decide +kernel
theorem dX11_complementAt_6 : decode cX11_complementAt 6 = .ok (.getfield 115, 3) := by decide +kernel
theorem dX11_complementAt_9 : decode cX11_complementAt 9 = .ok (.if_icmp .ge 17, 3) := by decide +kernel
theorem dX11_complementAt_12 : decode cX11_complementAt 12 = .ok (.iload_n 1, 1) := by decide +kernel
theorem dX11_complementAt_13 : decode cX11_complementAt 13 = .ok (.iconst 3, 1) := by decide +kernel
theorem dX11_complementAt_14 : decode cX11_complementAt 14 = .ok (.if_icmp .ge 12, 3) := by decide +kernel
theorem dX11_complementAt_17 : decode cX11_complementAt 17 = .ok (.aload_n 0, 1) := by decide +kernel
theorem dX11_complementAt_18 : decode cX11_complementAt 18 = .ok (.getfield 40, 3) := by decide +kernel
theorem dX11_complementAt_21 : decode cX11_complementAt 21 = .ok (.iload_n 1, 1) := by decide +kernel
theorem dX11_complementAt_22 : decode cX11_complementAt 22 = .ok (.aaload, 1) := by decide +kernel
theorem dX11_complementAt_23 : decode cX11_complementAt 23 = .ok (.goto 4, 3) := by decide +kernel
theorem dX11_complementAt_26 : decode cX11_complementAt 26 = .ok (.aconst_null, 1) := by decide +kernel
theorem dX11_complementAt_27 : decode cX11_complementAt 27 = .ok (.areturn, 1) := by decide +kernel
theorem dX11_changed_0 : decode cX11_changed 0 = .ok (.aload_n 0, 1) := by decide +kernel
theorem dX11_changed_1 : decode cX11_changed 1 = .ok (.iload_n 1, 1) := by decide +kernel
theorem dX11_changed_2 : decode cX11_changed 2 = .ok (.invokevirtual 202, 3) := by decide +kernel
theorem dX11_changed_5 : decode cX11_changed 5 = .ok (.astore_n 2, 1) := by decide +kernel
theorem dX11_changed_6 : decode cX11_changed 6 = .ok (.aload_n 2, 1) := by decide +kernel
theorem dX11_changed_7 : decode cX11_changed 7 = .ok (.ifnull 7, 3) := by decide +kernel
theorem dX11_changed_10 : decode cX11_changed 10 = .ok (.aload_n 2, 1) := by decide +kernel
theorem dX11_changed_11 : decode cX11_changed 11 = .ok (.invokevirtual 123, 3) := by decide +kernel
theorem dX11_changed_14 : decode cX11_changed 14 = .ok (.return_, 1) := by decide +kernel
theorem dX11_refusalOfLasso_0 : decode cX11_refusalOfLasso 0 = .ok (.aload_n 1, 1) := by decide +kernel
theorem dX11_refusalOfLasso_1 : decode cX11_refusalOfLasso 1 = .ok (.ifnonnull 5, 3) := by decide +kernel
theorem dX11_refusalOfLasso_4 : decode cX11_refusalOfLasso 4 = .ok (.iconst 1, 1) := by decide +kernel
theorem dX11_refusalOfLasso_5 : decode cX11_refusalOfLasso 5 = .ok (.ireturn, 1) := by decide +kernel
theorem dX11_refusalOfLasso_6 : decode cX11_refusalOfLasso 6 = .ok (.aload_n 0, 1) := by decide +kernel
theorem dX11_refusalOfLasso_7 : decode cX11_refusalOfLasso 7 = .ok (.getfield 10, 3) := by decide +kernel
theorem dX11_refusalOfLasso_10 : decode cX11_refusalOfLasso 10 = .ok (.iload_n 2, 1) := by decide +kernel
theorem dX11_refusalOfLasso_11 : decode cX11_refusalOfLasso 11 = .ok (.invokevirtual 98, 3) := by decide +kernel
theorem dX11_refusalOfLasso_14 : decode cX11_refusalOfLasso 14 = .ok (.ifCond .ne 5, 3) := by decide +kernel
theorem dX11_refusalOfLasso_17 : decode cX11_refusalOfLasso 17 = .ok (.iconst 2, 1) := by decide +kernel
theorem dX11_refusalOfLasso_18 : decode cX11_refusalOfLasso 18 = .ok (.ireturn, 1) := by decide +kernel
theorem dX11_refusalOfLasso_19 : decode cX11_refusalOfLasso 19 = .ok (.aload_n 0, 1) := by decide +kernel
theorem dX11_refusalOfLasso_20 : decode cX11_refusalOfLasso 20 = .ok (.getfield 10, 3) := by decide +kernel
theorem dX11_refusalOfLasso_23 : decode cX11_refusalOfLasso 23 = .ok (.iload_n 2, 1) := by decide +kernel
theorem dX11_refusalOfLasso_24 : decode cX11_refusalOfLasso 24 = .ok (.invokevirtual 106, 3) := by decide +kernel
theorem dX11_refusalOfLasso_27 : decode cX11_refusalOfLasso 27 = .ok (.aload_n 0, 1) := by decide +kernel
theorem dX11_refusalOfLasso_28 : decode cX11_refusalOfLasso 28 = .ok (.getfield 21, 3) := by decide +kernel
theorem dX11_refusalOfLasso_31 : decode cX11_refusalOfLasso 31 = .ok (.aload_n 1, 1) := by decide +kernel
theorem dX11_refusalOfLasso_32 : decode cX11_refusalOfLasso 32 = .ok (.getfield 155, 3) := by decide +kernel
theorem dX11_refusalOfLasso_35 : decode cX11_refusalOfLasso 35 = .ok (.invokevirtual 294, 3) := by decide +kernel
theorem dX11_refusalOfLasso_38 : decode cX11_refusalOfLasso 38 = .ok (.ifCond .eq 7, 3) := by decide +kernel
theorem dX11_refusalOfLasso_41 : decode cX11_refusalOfLasso 41 = .ok (.iconst 0, 1) := by decide +kernel
theorem dX11_refusalOfLasso_42 : decode cX11_refusalOfLasso 42 = .ok (.goto 4, 3) := by decide +kernel
theorem dX11_refusalOfLasso_45 : decode cX11_refusalOfLasso 45 = .ok (.iconst 4, 1) := by decide +kernel
theorem dX11_refusalOfLasso_46 : decode cX11_refusalOfLasso 46 = .ok (.ireturn, 1) := by decide +kernel
theorem dX11_isIn_0 : decode cX11_isIn 0 = .ok (.iload_n 1, 1) := by decide +kernel
theorem dX11_isIn_1 : decode cX11_isIn 1 = .ok (.iload_n 0, 1) := by decide +kernel
theorem dX11_isIn_2 : decode cX11_isIn 2 = .ok (.ishr, 1) := by decide +kernel
theorem dX11_isIn_3 : decode cX11_isIn 3 = .ok (.iconst 1, 1) := by decide +kernel
theorem dX11_isIn_4 : decode cX11_isIn 4 = .ok (.iand, 1) := by decide +kernel
theorem dX11_isIn_5 : decode cX11_isIn 5 = .ok (.ifCond .eq 7, 3) := by decide +kernel
theorem dX11_isIn_8 : decode cX11_isIn 8 = .ok (.iconst 1, 1) := by decide +kernel
theorem dX11_isIn_9 : decode cX11_isIn 9 = .ok (.goto 4, 3) := by decide +kernel
theorem dX11_isIn_12 : decode cX11_isIn 12 = .ok (.iconst 0, 1) := by decide +kernel
theorem dX11_isIn_13 : decode cX11_isIn 13 = .ok (.ireturn, 1) := by decide +kernel
theorem dX11_isGreatest_0 : decode cX11_isGreatest 0 = .ok (.iload_n 0, 1) := by decide +kernel
theorem dX11_isGreatest_1 : decode cX11_isGreatest 1 = .ok (.iconst 1, 1) := by decide +kernel
theorem dX11_isGreatest_2 : decode cX11_isGreatest 2 = .ok (.if_icmp .lt 20, 3) := by decide +kernel
theorem dX11_isGreatest_5 : decode cX11_isGreatest 5 = .ok (.iload_n 0, 1) := by decide +kernel
theorem dX11_isGreatest_6 : decode cX11_isGreatest 6 = .ok (.bipush 7, 2) := by decide +kernel
theorem dX11_isGreatest_8 : decode cX11_isGreatest 8 = .ok (.if_icmp .gt 14, 3) := by decide +kernel
theorem dX11_isGreatest_11 : decode cX11_isGreatest 11 = .ok (.iload_n 0, 1) := by decide +kernel
theorem dX11_isGreatest_12 : decode cX11_isGreatest 12 = .ok (.iconst 1, 1) := by decide +kernel
theorem dX11_isGreatest_13 : decode cX11_isGreatest 13 = .ok (.iand, 1) := by decide +kernel
theorem dX11_isGreatest_14 : decode cX11_isGreatest 14 = .ok (.iconst 1, 1) := by decide +kernel
theorem dX11_isGreatest_15 : decode cX11_isGreatest 15 = .ok (.if_icmp .ne 7, 3) := by decide +kernel
theorem dX11_isGreatest_18 : decode cX11_isGreatest 18 = .ok (.iconst 1, 1) := by decide +kernel
theorem dX11_isGreatest_19 : decode cX11_isGreatest 19 = .ok (.goto 4, 3) := by decide +kernel
theorem dX11_isGreatest_22 : decode cX11_isGreatest 22 = .ok (.iconst 0, 1) := by decide +kernel
theorem dX11_isGreatest_23 : decode cX11_isGreatest 23 = .ok (.ireturn, 1) := by decide +kernel
theorem dX11_areCounted_0 : decode cX11_areCounted 0 = .ok (.iload_n 0, 1) := by decide +kernel
theorem dX11_areCounted_1 : decode cX11_areCounted 1 = .ok (.ifCond .lt 22, 3) := by decide +kernel
theorem dX11_areCounted_4 : decode cX11_areCounted 4 = .ok (.iload_n 0, 1) := by decide +kernel
theorem dX11_areCounted_5 : decode cX11_areCounted 5 = .ok (.iconst 3, 1) := by decide +kernel
theorem dX11_areCounted_6 : decode cX11_areCounted 6 = .ok (.if_icmp .gt 17, 3) := by decide +kernel
theorem dX11_areCounted_9 : decode cX11_areCounted 9 = .ok (.iload_n 1, 1) := by decide +kernel
theorem dX11_areCounted_10 : decode cX11_areCounted 10 = .ok (.iconst 1, 1) := by decide +kernel
theorem dX11_areCounted_11 : decode cX11_areCounted 11 = .ok (.if_icmp .lt 12, 3) := by decide +kernel
theorem dX11_areCounted_14 : decode cX11_areCounted 14 = .ok (.iload_n 1, 1) := by decide +kernel
theorem dX11_areCounted_15 : decode cX11_areCounted 15 = .ok (.iconst 3, 1) := by decide +kernel
theorem dX11_areCounted_16 : decode cX11_areCounted 16 = .ok (.if_icmp .gt 7, 3) := by decide +kernel
theorem dX11_areCounted_19 : decode cX11_areCounted 19 = .ok (.iconst 1, 1) := by decide +kernel
theorem dX11_areCounted_20 : decode cX11_areCounted 20 = .ok (.goto 4, 3) := by decide +kernel
theorem dX11_areCounted_23 : decode cX11_areCounted 23 = .ok (.iconst 0, 1) := by decide +kernel
theorem dX11_areCounted_24 : decode cX11_areCounted 24 = .ok (.ireturn, 1) := by decide +kernel
theorem dX5_isKept_64 : decode cX5_isKept 64 = .ok (.ldc 89, 2) := by decide +kernel
theorem dX5_isKept_66 : decode cX5_isKept 66 = .ok (.invokevirtual 68, 3) := by decide +kernel
theorem dX5_isKept_69 : decode cX5_isKept 69 = .ok (.ifCond .eq 7, 3) := by decide +kernel
theorem dX5_isKept_72 : decode cX5_isKept 72 = .ok (.iconst 1, 1) := by decide +kernel
theorem dX5_isKept_73 : decode cX5_isKept 73 = .ok (.goto 4, 3) := by decide +kernel
theorem dX5_isKept_76 : decode cX5_isKept 76 = .ok (.iconst 0, 1) := by decide +kernel
theorem dX5_isKept_77 : decode cX5_isKept 77 = .ok (.ireturn, 1) := by decide +kernel
theorem dX5_isNameOf_0 : decode cX5_isNameOf 0 = .ok (.aload_n 0, 1) := by decide +kernel
theorem dX5_isNameOf_1 : decode cX5_isNameOf 1 = .ok (.getfield 20, 3) := by decide +kernel
theorem dX5_isNameOf_4 : decode cX5_isNameOf 4 = .ok (.iload_n 1, 1) := by decide +kernel
theorem dX5_isNameOf_5 : decode cX5_isNameOf 5 = .ok (.invokevirtual 119, 3) := by decide +kernel
theorem dX5_isNameOf_8 : decode cX5_isNameOf 8 = .ok (.aload_n 0, 1) := by decide +kernel
theorem dX5_isNameOf_9 : decode cX5_isNameOf 9 = .ok (.getfield 35, 3) := by decide +kernel
theorem dX5_isNameOf_12 : decode cX5_isNameOf 12 = .ok (.getfield 116, 3) := by decide +kernel
theorem dX5_isNameOf_15 : decode cX5_isNameOf 15 = .ok (.if_icmp .eq 5, 3) := by decide +kernel
theorem dX5_isNameOf_18 : decode cX5_isNameOf 18 = .ok (.iconst 0, 1) := by decide +kernel
theorem dX5_isNameOf_19 : decode cX5_isNameOf 19 = .ok (.ireturn, 1) := by decide +kernel
theorem dX5_isNameOf_20 : decode cX5_isNameOf 20 = .ok (.iconst 0, 1) := by decide +kernel
theorem dX5_isNameOf_21 : decode cX5_isNameOf 21 = .ok (.istore_n 2, 1) := by decide +kernel
theorem dX5_isNameOf_22 : decode cX5_isNameOf 22 = .ok (.iload_n 2, 1) := by decide +kernel
theorem dX5_isNameOf_23 : decode cX5_isNameOf 23 = .ok (.aload_n 0, 1) := by decide +kernel
theorem dX5_isNameOf_24 : decode cX5_isNameOf 24 = .ok (.getfield 35, 3) := by decide +kernel
theorem dX5_isNameOf_27 : decode cX5_isNameOf 27 = .ok (.getfield 116, 3) := by decide +kernel
theorem dX5_isNameOf_30 : decode cX5_isNameOf 30 = .ok (.if_icmp .ge 47, 3) := by decide +kernel
theorem dX5_isNameOf_33 : decode cX5_isNameOf 33 = .ok (.aload_n 0, 1) := by decide +kernel
theorem dX5_isNameOf_34 : decode cX5_isNameOf 34 = .ok (.getfield 35, 3) := by decide +kernel
theorem dX5_isNameOf_37 : decode cX5_isNameOf 37 = .ok (.aload_n 0, 1) := by decide +kernel
theorem dX5_isNameOf_38 : decode cX5_isNameOf 38 = .ok (.getfield 14, 3) := by decide +kernel
theorem dX5_isNameOf_41 : decode cX5_isNameOf 41 = .ok (.iload_n 1, 1) := by decide +kernel
theorem dX5_isNameOf_42 : decode cX5_isNameOf 42 = .ok (.invokevirtual 119, 3) := by decide +kernel
theorem dX5_isNameOf_45 : decode cX5_isNameOf 45 = .ok (.iload_n 2, 1) := by decide +kernel
theorem dX5_isNameOf_46 : decode cX5_isNameOf 46 = .ok (.iadd, 1) := by decide +kernel
theorem dX5_isNameOf_47 : decode cX5_isNameOf 47 = .ok (.invokevirtual 123, 3) := by decide +kernel
theorem dX5_isNameOf_50 : decode cX5_isNameOf 50 = .ok (.aload_n 0, 1) := by decide +kernel
theorem dX5_isNameOf_51 : decode cX5_isNameOf 51 = .ok (.getfield 35, 3) := by decide +kernel
theorem dX5_isNameOf_54 : decode cX5_isNameOf 54 = .ok (.aload_n 0, 1) := by decide +kernel
theorem dX5_isNameOf_55 : decode cX5_isNameOf 55 = .ok (.getfield 35, 3) := by decide +kernel
theorem dX5_isNameOf_58 : decode cX5_isNameOf 58 = .ok (.getfield 59, 3) := by decide +kernel
theorem dX5_isNameOf_61 : decode cX5_isNameOf 61 = .ok (.iload_n 2, 1) := by decide +kernel
theorem dX5_isNameOf_62 : decode cX5_isNameOf 62 = .ok (.iadd, 1) := by decide +kernel
theorem dX5_isNameOf_63 : decode cX5_isNameOf 63 = .ok (.invokevirtual 123, 3) := by decide +kernel
theorem dX5_isNameOf_66 : decode cX5_isNameOf 66 = .ok (.if_icmp .eq 5, 3) := by decide +kernel
theorem dX5_isNameOf_69 : decode cX5_isNameOf 69 = .ok (.iconst 0, 1) := by decide +kernel
theorem dX5_isNameOf_70 : decode cX5_isNameOf 70 = .ok (.ireturn, 1) := by decide +kernel
theorem dX5_isNameOf_71 : decode cX5_isNameOf 71 = .ok (.iinc 2 1, 3) := by decide +kernel
theorem dX5_isNameOf_74 : decode cX5_isNameOf 74 = .ok (.goto (-52), 3) := by decide +kernel
theorem dX5_isNameOf_77 : decode cX5_isNameOf 77 = .ok (.iconst 1, 1) := by decide +kernel
theorem dX5_isNameOf_78 : decode cX5_isNameOf 78 = .ok (.ireturn, 1) := by decide +kernel
theorem dX5_latest_0 : decode cX5_latest 0 = .ok (.aload_n 0, 1) := by decide +kernel
theorem dX5_latest_1 : decode cX5_latest 1 = .ok (.getfield 40, 3) := by decide +kernel
theorem dX5_latest_4 : decode cX5_latest 4 = .ok (.ifCond .le 25, 3) := by decide +kernel
theorem dX5_latest_7 : decode cX5_latest 7 = .ok (.aload_n 0, 1) := by decide +kernel
theorem dX5_latest_8 : decode cX5_latest 8 = .ok (.getfield 40, 3) := by decide +kernel
theorem dX5_latest_11 : decode cX5_latest 11 = .ok (.iconst 3, 1) := by decide +kernel
theorem dX5_latest_12 : decode cX5_latest 12 = .ok (.if_icmp .gt 17, 3) := by decide +kernel
theorem dX5_latest_15 : decode cX5_latest 15 = .ok (.aload_n 0, 1) := by decide +kernel
theorem dX5_latest_16 : decode cX5_latest 16 = .ok (.getfield 25, 3) := by decide +kernel
theorem dX5_latest_19 : decode cX5_latest 19 = .ok (.aload_n 0, 1) := by decide +kernel
theorem dX5_latest_20 : decode cX5_latest 20 = .ok (.getfield 40, 3) := by decide +kernel
theorem dX5_latest_23 : decode cX5_latest 23 = .ok (.iconst 1, 1) := by decide +kernel
theorem dX5_latest_24 : decode cX5_latest 24 = .ok (.isub, 1) := by decide +kernel
theorem dX5_latest_25 : decode cX5_latest 25 = .ok (.aaload, 1) := by decide +kernel
theorem dX5_latest_26 : decode cX5_latest 26 = .ok (.goto 4, 3) := by decide +kernel
theorem dX5_latest_29 : decode cX5_latest 29 = .ok (.aconst_null, 1) := by decide +kernel
theorem dX5_latest_30 : decode cX5_latest 30 = .ok (.areturn, 1) := by decide +kernel
theorem dX5_readState_0 : decode cX5_readState 0 = .ok (.aload_n 0, 1) := by decide +kernel
theorem dX5_readState_1 : decode cX5_readState 1 = .ok (.invokevirtual 126, 3) := by decide +kernel
theorem dX5_readState_4 : decode cX5_readState 4 = .ok (.astore_n 3, 1) := by decide +kernel
theorem dX5_readState_5 : decode cX5_readState 5 = .ok (.aload_n 3, 1) := by decide +kernel
theorem dX5_readState_6 : decode cX5_readState 6 = .ok (.ifnonnull 13, 3) := by decide +kernel
theorem dX5_readState_9 : decode cX5_readState 9 = .ok (.aload_n 0, 1) := by decide +kernel
theorem dX5_readState_10 : decode cX5_readState 10 = .ok (.getfield 35, 3) := by decide +kernel
theorem dX5_readState_13 : decode cX5_readState 13 = .ok (.iconst 5, 1) := by decide +kernel
theorem dX5_readState_14 : decode cX5_readState 14 = .ok (.iload_n 1, 1) := by decide +kernel
theorem dX5_readState_15 : decode cX5_readState 15 = .ok (.invokevirtual 62, 3) := by decide +kernel
theorem dX5_readState_18 : decode cX5_readState 18 = .ok (.ireturn, 1) := by decide +kernel
theorem dX5_readState_19 : decode cX5_readState 19 = .ok (.aload_n 0, 1) := by decide +kernel
theorem dX5_readState_20 : decode cX5_readState 20 = .ok (.getfield 35, 3) := by decide +kernel
theorem dX5_readState_23 : decode cX5_readState 23 = .ok (.iconst 0, 1) := by decide +kernel
theorem dX5_readState_24 : decode cX5_readState 24 = .ok (.aload_n 3, 1) := by decide +kernel
theorem dX5_readState_25 : decode cX5_readState 25 = .ok (.getfield 130, 3) := by decide +kernel
theorem dX5_readState_28 : decode cX5_readState 28 = .ok (.iconst 1, 1) := by decide +kernel
theorem dX5_readState_29 : decode cX5_readState 29 = .ok (.isub, 1) := by decide +kernel
theorem dX5_readState_30 : decode cX5_readState 30 = .ok (.invokevirtual 94, 3) := by decide +kernel
theorem dX5_readState_33 : decode cX5_readState 33 = .ok (.istore 4, 2) := by decide +kernel
theorem dX5_readState_35 : decode cX5_readState 35 = .ok (.iload 4, 2) := by decide +kernel
theorem dX5_readState_37 : decode cX5_readState 37 = .ok (.iconst (-1), 1) := by decide +kernel
theorem dX5_readState_38 : decode cX5_readState 38 = .ok (.if_icmp .ne 5, 3) := by decide +kernel
theorem dX5_readState_41 : decode cX5_readState 41 = .ok (.iconst 0, 1) := by decide +kernel
theorem dX5_readState_42 : decode cX5_readState 42 = .ok (.ireturn, 1) := by decide +kernel
theorem dX5_readState_43 : decode cX5_readState 43 = .ok (.iload 4, 2) := by decide +kernel
theorem dX5_readState_45 : decode cX5_readState 45 = .ok (.iload_n 2, 1) := by decide +kernel
theorem dX5_readState_46 : decode cX5_readState 46 = .ok (.ifCond .eq 10, 3) := by decide +kernel
theorem dX5_readState_49 : decode cX5_readState 49 = .ok (.aload_n 3, 1) := by decide +kernel
theorem dX5_readState_50 : decode cX5_readState 50 = .ok (.getfield 132, 3) := by decide +kernel
theorem dX5_readState_53 : decode cX5_readState 53 = .ok (.goto 7, 3) := by decide +kernel
theorem dX5_readState_56 : decode cX5_readState 56 = .ok (.aload_n 3, 1) := by decide +kernel
theorem dX5_readState_57 : decode cX5_readState 57 = .ok (.getfield 135, 3) := by decide +kernel
theorem dX5_readState_60 : decode cX5_readState 60 = .ok (.invokestatic 138, 3) := by decide +kernel
theorem dX5_readState_63 : decode cX5_readState 63 = .ok (.ifCond .eq 13, 3) := by decide +kernel
theorem dX5_readState_66 : decode cX5_readState 66 = .ok (.aload_n 0, 1) := by decide +kernel
theorem dX5_readState_67 : decode cX5_readState 67 = .ok (.getfield 35, 3) := by decide +kernel
theorem dX5_readState_70 : decode cX5_readState 70 = .ok (.iconst 3, 1) := by decide +kernel
theorem dX5_readState_71 : decode cX5_readState 71 = .ok (.iload_n 1, 1) := by decide +kernel
theorem dX5_readState_72 : decode cX5_readState 72 = .ok (.invokevirtual 62, 3) := by decide +kernel
theorem dX5_readState_75 : decode cX5_readState 75 = .ok (.ireturn, 1) := by decide +kernel
theorem dX5_readState_76 : decode cX5_readState 76 = .ok (.iload_n 2, 1) := by decide +kernel
theorem dX5_readState_77 : decode cX5_readState 77 = .ok (.ifCond .eq 19, 3) := by decide +kernel
theorem dX5_readState_80 : decode cX5_readState 80 = .ok (.aload_n 3, 1) := by decide +kernel
theorem dX5_readState_81 : decode cX5_readState 81 = .ok (.dup, 1) := by decide +kernel
theorem dX5_readState_82 : decode cX5_readState 82 = .ok (.getfield 132, 3) := by decide +kernel
theorem dX5_readState_85 : decode cX5_readState 85 = .ok (.iconst 1, 1) := by decide +kernel
theorem dX5_readState_86 : decode cX5_readState 86 = .ok (.iload 4, 2) := by decide +kernel
theorem dX5_readState_88 : decode cX5_readState 88 = .ok (.ishl, 1) := by decide +kernel
theorem dX5_readState_89 : decode cX5_readState 89 = .ok (.ior, 1) := by decide +kernel
theorem dX5_readState_90 : decode cX5_readState 90 = .ok (.putfield 132, 3) := by decide +kernel
theorem dX5_readState_93 : decode cX5_readState 93 = .ok (.goto 16, 3) := by decide +kernel
theorem dX5_readState_96 : decode cX5_readState 96 = .ok (.aload_n 3, 1) := by decide +kernel
theorem dX5_readState_97 : decode cX5_readState 97 = .ok (.dup, 1) := by decide +kernel
theorem dX5_readState_98 : decode cX5_readState 98 = .ok (.getfield 135, 3) := by decide +kernel
theorem dX5_readState_101 : decode cX5_readState 101 = .ok (.iconst 1, 1) := by decide +kernel
theorem dX5_readState_102 : decode cX5_readState 102 = .ok (.iload 4, 2) := by decide +kernel
theorem dX5_readState_104 : decode cX5_readState 104 = .ok (.ishl, 1) := by decide +kernel
theorem dX5_readState_105 : decode cX5_readState 105 = .ok (.ior, 1) := by decide +kernel
theorem dX5_readState_106 : decode cX5_readState 106 = .ok (.putfield 135, 3) := by decide +kernel
theorem dX5_readState_109 : decode cX5_readState 109 = .ok (.iconst 1, 1) := by decide +kernel
theorem dX5_readState_110 : decode cX5_readState 110 = .ok (.ireturn, 1) := by decide +kernel
theorem dX5_readArrow_0 : decode cX5_readArrow 0 = .ok (.aload_n 0, 1) := by decide +kernel
theorem dX5_readArrow_1 : decode cX5_readArrow 1 = .ok (.invokevirtual 126, 3) := by decide +kernel
theorem dX5_readArrow_4 : decode cX5_readArrow 4 = .ok (.astore_n 2, 1) := by decide +kernel
theorem dX5_readArrow_5 : decode cX5_readArrow 5 = .ok (.aload_n 2, 1) := by decide +kernel
theorem dX5_readArrow_6 : decode cX5_readArrow 6 = .ok (.ifnonnull 13, 3) := by decide +kernel
theorem dX5_readArrow_9 : decode cX5_readArrow 9 = .ok (.aload_n 0, 1) := by decide +kernel
theorem dX5_readArrow_10 : decode cX5_readArrow 10 = .ok (.getfield 35, 3) := by decide +kernel
theorem dX5_readArrow_13 : decode cX5_readArrow 13 = .ok (.iconst 5, 1) := by decide +kernel
theorem dX5_readArrow_14 : decode cX5_readArrow 14 = .ok (.iload_n 1, 1) := by decide +kernel
theorem dX5_readArrow_15 : decode cX5_readArrow 15 = .ok (.invokevirtual 62, 3) := by decide +kernel
theorem dX5_readArrow_18 : decode cX5_readArrow 18 = .ok (.ireturn, 1) := by decide +kernel
theorem dX5_readArrow_19 : decode cX5_readArrow 19 = .ok (.aload_n 0, 1) := by decide +kernel
theorem dX5_readArrow_20 : decode cX5_readArrow 20 = .ok (.getfield 35, 3) := by decide +kernel
theorem dX5_readArrow_23 : decode cX5_readArrow 23 = .ok (.iconst 0, 1) := by decide +kernel
theorem dX5_readArrow_24 : decode cX5_readArrow 24 = .ok (.aload_n 2, 1) := by decide +kernel
theorem dX5_readArrow_25 : decode cX5_readArrow 25 = .ok (.getfield 130, 3) := by decide +kernel
theorem dX5_readArrow_28 : decode cX5_readArrow 28 = .ok (.iconst 1, 1) := by decide +kernel
theorem dX5_readArrow_29 : decode cX5_readArrow 29 = .ok (.isub, 1) := by decide +kernel
theorem dX5_readArrow_30 : decode cX5_readArrow 30 = .ok (.invokevirtual 94, 3) := by decide +kernel
theorem dX5_readArrow_33 : decode cX5_readArrow 33 = .ok (.istore_n 3, 1) := by decide +kernel
theorem dX5_readArrow_34 : decode cX5_readArrow 34 = .ok (.iload_n 3, 1) := by decide +kernel
theorem dX5_readArrow_35 : decode cX5_readArrow 35 = .ok (.iconst (-1), 1) := by decide +kernel
theorem dX5_readArrow_36 : decode cX5_readArrow 36 = .ok (.if_icmp .ne 5, 3) := by decide +kernel
theorem dX5_readArrow_39 : decode cX5_readArrow 39 = .ok (.iconst 0, 1) := by decide +kernel
theorem dX5_readArrow_40 : decode cX5_readArrow 40 = .ok (.ireturn, 1) := by decide +kernel
theorem dX5_readArrow_41 : decode cX5_readArrow 41 = .ok (.aload_n 0, 1) := by decide +kernel
theorem dX5_readArrow_42 : decode cX5_readArrow 42 = .ok (.getfield 35, 3) := by decide +kernel
theorem dX5_readArrow_45 : decode cX5_readArrow 45 = .ok (.invokevirtual 53, 3) := by decide +kernel
theorem dX5_readArrow_48 : decode cX5_readArrow 48 = .ok (.aload_n 0, 1) := by decide +kernel
theorem dX5_readArrow_49 : decode cX5_readArrow 49 = .ok (.getfield 35, 3) := by decide +kernel
theorem dX5_readArrow_52 : decode cX5_readArrow 52 = .ok (.aload_n 0, 1) := by decide +kernel
theorem dX5_readArrow_53 : decode cX5_readArrow 53 = .ok (.getfield 35, 3) := by decide +kernel
theorem dX5_readArrow_56 : decode cX5_readArrow 56 = .ok (.getfield 59, 3) := by decide +kernel
theorem dX5_readArrow_59 : decode cX5_readArrow 59 = .ok (.invokevirtual 123, 3) := by decide +kernel
theorem dX5_readArrow_62 : decode cX5_readArrow 62 = .ok (.bipush 97, 2) := by decide +kernel
theorem dX5_readArrow_64 : decode cX5_readArrow 64 = .ok (.isub, 1) := by decide +kernel
theorem dX5_readArrow_65 : decode cX5_readArrow 65 = .ok (.istore 4, 2) := by decide +kernel
theorem dX5_readArrow_67 : decode cX5_readArrow 67 = .ok (.aload_n 0, 1) := by decide +kernel
theorem dX5_readArrow_68 : decode cX5_readArrow 68 = .ok (.getfield 35, 3) := by decide +kernel
theorem dX5_readArrow_71 : decode cX5_readArrow 71 = .ok (.getfield 56, 3) := by decide +kernel
theorem dX5_readArrow_74 : decode cX5_readArrow 74 = .ok (.iconst 2, 1) := by decide +kernel
theorem dX5_readArrow_75 : decode cX5_readArrow 75 = .ok (.if_icmp .ne 23, 3) := by decide +kernel
theorem dX5_readArrow_78 : decode cX5_readArrow 78 = .ok (.aload_n 0, 1) := by decide +kernel
theorem dX5_readArrow_79 : decode cX5_readArrow 79 = .ok (.getfield 35, 3) := by decide +kernel
theorem dX5_readArrow_82 : decode cX5_readArrow 82 = .ok (.getfield 116, 3) := by decide +kernel
theorem dX5_readArrow_85 : decode cX5_readArrow 85 = .ok (.iconst 1, 1) := by decide +kernel
theorem dX5_readArrow_86 : decode cX5_readArrow 86 = .ok (.if_icmp .ne 12, 3) := by decide +kernel
theorem dX5_readArrow_89 : decode cX5_readArrow 89 = .ok (.iload 4, 2) := by decide +kernel
theorem dX5_readArrow_91 : decode cX5_readArrow 91 = .ok (.aload_n 0, 1) := by decide +kernel
theorem dX5_readArrow_92 : decode cX5_readArrow 92 = .ok (.getfield 44, 3) := by decide +kernel
theorem dX5_readArrow_95 : decode cX5_readArrow 95 = .ok (.if_icmp .lt 19, 3) := by decide +kernel
theorem dX5_readArrow_98 : decode cX5_readArrow 98 = .ok (.aload_n 0, 1) := by decide +kernel
theorem dX5_readArrow_99 : decode cX5_readArrow 99 = .ok (.getfield 35, 3) := by decide +kernel
theorem dX5_readArrow_102 : decode cX5_readArrow 102 = .ok (.iconst 1, 1) := by decide +kernel
theorem dX5_readArrow_103 : decode cX5_readArrow 103 = .ok (.aload_n 0, 1) := by decide +kernel
theorem dX5_readArrow_104 : decode cX5_readArrow 104 = .ok (.getfield 35, 3) := by decide +kernel
theorem dX5_readArrow_107 : decode cX5_readArrow 107 = .ok (.getfield 59, 3) := by decide +kernel
theorem dX5_readArrow_110 : decode cX5_readArrow 110 = .ok (.invokevirtual 62, 3) := by decide +kernel
theorem dX5_readArrow_113 : decode cX5_readArrow 113 = .ok (.ireturn, 1) := by decide +kernel
theorem dX5_readArrow_114 : decode cX5_readArrow 114 = .ok (.aload_n 0, 1) := by decide +kernel
theorem dX5_readArrow_115 : decode cX5_readArrow 115 = .ok (.getfield 35, 3) := by decide +kernel
theorem dX5_readArrow_118 : decode cX5_readArrow 118 = .ok (.iconst 0, 1) := by decide +kernel
theorem dX5_readArrow_119 : decode cX5_readArrow 119 = .ok (.aload_n 2, 1) := by decide +kernel
theorem dX5_readArrow_120 : decode cX5_readArrow 120 = .ok (.getfield 130, 3) := by decide +kernel
theorem dX5_readArrow_123 : decode cX5_readArrow 123 = .ok (.iconst 1, 1) := by decide +kernel
theorem dX5_readArrow_124 : decode cX5_readArrow 124 = .ok (.isub, 1) := by decide +kernel
theorem dX5_readArrow_125 : decode cX5_readArrow 125 = .ok (.invokevirtual 94, 3) := by decide +kernel
theorem dX5_readArrow_128 : decode cX5_readArrow 128 = .ok (.istore 5, 2) := by decide +kernel
theorem dX5_readArrow_130 : decode cX5_readArrow 130 = .ok (.iload 5, 2) := by decide +kernel
theorem dX5_readArrow_132 : decode cX5_readArrow 132 = .ok (.iconst (-1), 1) := by decide +kernel
theorem dX5_readArrow_133 : decode cX5_readArrow 133 = .ok (.if_icmp .ne 5, 3) := by decide +kernel
theorem dX5_readArrow_136 : decode cX5_readArrow 136 = .ok (.iconst 0, 1) := by decide +kernel
theorem dX5_readArrow_137 : decode cX5_readArrow 137 = .ok (.ireturn, 1) := by decide +kernel
theorem dX5_readArrow_138 : decode cX5_readArrow 138 = .ok (.aload_n 2, 1) := by decide +kernel
theorem dX5_readArrow_139 : decode cX5_readArrow 139 = .ok (.iload_n 3, 1) := by decide +kernel
theorem dX5_readArrow_140 : decode cX5_readArrow 140 = .ok (.iload 4, 2) := by decide +kernel
theorem dX5_readArrow_142 : decode cX5_readArrow 142 = .ok (.iload 5, 2) := by decide +kernel
theorem dX5_readArrow_144 : decode cX5_readArrow 144 = .ok (.invokevirtual 141, 3) := by decide +kernel
theorem dX5_readArrow_147 : decode cX5_readArrow 147 = .ok (.ifCond .eq 13, 3) := by decide +kernel
theorem dX5_readArrow_150 : decode cX5_readArrow 150 = .ok (.aload_n 0, 1) := by decide +kernel
theorem dX5_readArrow_151 : decode cX5_readArrow 151 = .ok (.getfield 35, 3) := by decide +kernel
theorem dX5_readArrow_154 : decode cX5_readArrow 154 = .ok (.iconst 3, 1) := by decide +kernel
theorem dX5_readArrow_155 : decode cX5_readArrow 155 = .ok (.iload_n 1, 1) := by decide +kernel
theorem dX5_readArrow_156 : decode cX5_readArrow 156 = .ok (.invokevirtual 62, 3) := by decide +kernel
theorem dX5_readArrow_159 : decode cX5_readArrow 159 = .ok (.ireturn, 1) := by decide +kernel
theorem dX5_readArrow_160 : decode cX5_readArrow 160 = .ok (.aload_n 2, 1) := by decide +kernel
theorem dX5_readArrow_161 : decode cX5_readArrow 161 = .ok (.iload_n 3, 1) := by decide +kernel
theorem dX5_readArrow_162 : decode cX5_readArrow 162 = .ok (.iload 4, 2) := by decide +kernel
theorem dX5_readArrow_164 : decode cX5_readArrow 164 = .ok (.iload 5, 2) := by decide +kernel
theorem dX5_readArrow_166 : decode cX5_readArrow 166 = .ok (.iconst 1, 1) := by decide +kernel
theorem dX5_readArrow_167 : decode cX5_readArrow 167 = .ok (.invokevirtual 145, 3) := by decide +kernel
theorem dX5_readArrow_170 : decode cX5_readArrow 170 = .ok (.iconst 1, 1) := by decide +kernel
theorem dX5_readArrow_171 : decode cX5_readArrow 171 = .ok (.ireturn, 1) := by decide +kernel
theorem dX5_readLasso_0 : decode cX5_readLasso 0 = .ok (.aload_n 0, 1) := by decide +kernel
theorem dX5_readLasso_1 : decode cX5_readLasso 1 = .ok (.aload_n 0, 1) := by decide +kernel
theorem dX5_readLasso_2 : decode cX5_readLasso 2 = .ok (.getfield 29, 3) := by decide +kernel
theorem dX5_readLasso_5 : decode cX5_readLasso 5 = .ok (.bipush 40, 2) := by decide +kernel
theorem dX5_readLasso_7 : decode cX5_readLasso 7 = .ok (.iload_n 1, 1) := by decide +kernel
theorem dX5_readLasso_8 : decode cX5_readLasso 8 = .ok (.invokevirtual 149, 3) := by decide +kernel
theorem dX5_readLasso_11 : decode cX5_readLasso 11 = .ok (.ifCond .eq 17, 3) := by decide +kernel
theorem dX5_readLasso_14 : decode cX5_readLasso 14 = .ok (.aload_n 0, 1) := by decide +kernel
theorem dX5_readLasso_15 : decode cX5_readLasso 15 = .ok (.aload_n 0, 1) := by decide +kernel
theorem dX5_readLasso_16 : decode cX5_readLasso 16 = .ok (.getfield 32, 3) := by decide +kernel
theorem dX5_readLasso_19 : decode cX5_readLasso 19 = .ok (.bipush 41, 2) := by decide +kernel
theorem dX5_readLasso_21 : decode cX5_readLasso 21 = .ok (.iload_n 1, 1) := by decide +kernel
theorem dX5_readLasso_22 : decode cX5_readLasso 22 = .ok (.invokevirtual 149, 3) := by decide +kernel
theorem dX5_readLasso_25 : decode cX5_readLasso 25 = .ok (.ifCond .ne 5, 3) := by decide +kernel
theorem dX5_readLasso_28 : decode cX5_readLasso 28 = .ok (.iconst 0, 1) := by decide +kernel
theorem dX5_readLasso_29 : decode cX5_readLasso 29 = .ok (.ireturn, 1) := by decide +kernel
theorem dX5_readLasso_30 : decode cX5_readLasso 30 = .ok (.aload_n 0, 1) := by decide +kernel
theorem dX5_readLasso_31 : decode cX5_readLasso 31 = .ok (.getfield 35, 3) := by decide +kernel
theorem dX5_readLasso_34 : decode cX5_readLasso 34 = .ok (.invokevirtual 53, 3) := by decide +kernel
theorem dX5_readLasso_37 : decode cX5_readLasso 37 = .ok (.aload_n 0, 1) := by decide +kernel
theorem dX5_readLasso_38 : decode cX5_readLasso 38 = .ok (.getfield 35, 3) := by decide +kernel
theorem dX5_readLasso_41 : decode cX5_readLasso 41 = .ok (.getfield 56, 3) := by decide +kernel
theorem dX5_readLasso_44 : decode cX5_readLasso 44 = .ok (.ifCond .eq 21, 3) := by decide +kernel
theorem dX5_readLasso_47 : decode cX5_readLasso 47 = .ok (.aload_n 0, 1) := by decide +kernel
theorem dX5_readLasso_48 : decode cX5_readLasso 48 = .ok (.getfield 35, 3) := by decide +kernel
theorem dX5_readLasso_51 : decode cX5_readLasso 51 = .ok (.iconst 1, 1) := by decide +kernel
theorem dX5_readLasso_52 : decode cX5_readLasso 52 = .ok (.aload_n 0, 1) := by decide +kernel
theorem dX5_readLasso_53 : decode cX5_readLasso 53 = .ok (.getfield 35, 3) := by decide +kernel
theorem dX5_readLasso_56 : decode cX5_readLasso 56 = .ok (.getfield 59, 3) := by decide +kernel
theorem dX5_readLasso_59 : decode cX5_readLasso 59 = .ok (.invokevirtual 62, 3) := by decide +kernel
theorem dX5_readLasso_62 : decode cX5_readLasso 62 = .ok (.ifCond .eq 7, 3) := by decide +kernel
theorem dX5_readLasso_65 : decode cX5_readLasso 65 = .ok (.iconst 1, 1) := by decide +kernel
theorem dX5_readLasso_66 : decode cX5_readLasso 66 = .ok (.goto 4, 3) := by decide +kernel
theorem dX5_readLasso_69 : decode cX5_readLasso 69 = .ok (.iconst 0, 1) := by decide +kernel
theorem dX5_readLasso_70 : decode cX5_readLasso 70 = .ok (.ireturn, 1) := by decide +kernel
theorem dX5_readPart_0 : decode cX5_readPart 0 = .ok (.aload_n 1, 1) := by decide +kernel
theorem dX5_readPart_1 : decode cX5_readPart 1 = .ok (.bipush 10, 2) := by decide +kernel
theorem dX5_readPart_3 : decode cX5_readPart 3 = .ok (.invokevirtual 153, 3) := by decide +kernel
theorem dX5_readPart_6 : decode cX5_readPart 6 = .ok (.iconst 0, 1) := by decide +kernel
theorem dX5_readPart_7 : decode cX5_readPart 7 = .ok (.istore 4, 2) := by decide +kernel
theorem dX5_readPart_9 : decode cX5_readPart 9 = .ok (.iload 4, 2) := by decide +kernel
theorem dX5_readPart_11 : decode cX5_readPart 11 = .ok (.sipush 400, 3) := by decide +kernel
theorem dX5_readPart_14 : decode cX5_readPart 14 = .ok (.if_icmp .gt 69, 3) := by decide +kernel
theorem dX5_readPart_17 : decode cX5_readPart 17 = .ok (.aload_n 0, 1) := by decide +kernel
theorem dX5_readPart_18 : decode cX5_readPart 18 = .ok (.getfield 35, 3) := by decide +kernel
theorem dX5_readPart_21 : decode cX5_readPart 21 = .ok (.invokevirtual 53, 3) := by decide +kernel
theorem dX5_readPart_24 : decode cX5_readPart 24 = .ok (.aload_n 0, 1) := by decide +kernel
theorem dX5_readPart_25 : decode cX5_readPart 25 = .ok (.getfield 35, 3) := by decide +kernel
theorem dX5_readPart_28 : decode cX5_readPart 28 = .ok (.getfield 56, 3) := by decide +kernel
theorem dX5_readPart_31 : decode cX5_readPart 31 = .ok (.iload_n 2, 1) := by decide +kernel
theorem dX5_readPart_32 : decode cX5_readPart 32 = .ok (.if_icmp .ne 20, 3) := by decide +kernel
theorem dX5_readPart_35 : decode cX5_readPart 35 = .ok (.aload_n 1, 1) := by decide +kernel
theorem dX5_readPart_36 : decode cX5_readPart 36 = .ok (.aload_n 0, 1) := by decide +kernel
theorem dX5_readPart_37 : decode cX5_readPart 37 = .ok (.getfield 29, 3) := by decide +kernel
theorem dX5_readPart_40 : decode cX5_readPart 40 = .ok (.if_acmp .eq 10, 3) := by decide +kernel
theorem dX5_readPart_43 : decode cX5_readPart 43 = .ok (.aload_n 1, 1) := by decide +kernel
theorem dX5_readPart_44 : decode cX5_readPart 44 = .ok (.getfield 156, 3) := by decide +kernel
theorem dX5_readPart_47 : decode cX5_readPart 47 = .ok (.ifCond .le 5, 3) := by decide +kernel
theorem dX5_readPart_50 : decode cX5_readPart 50 = .ok (.iconst 1, 1) := by decide +kernel
theorem dX5_readPart_51 : decode cX5_readPart 51 = .ok (.ireturn, 1) := by decide +kernel
theorem dX5_readPart_52 : decode cX5_readPart 52 = .ok (.aload_n 0, 1) := by decide +kernel
theorem dX5_readPart_53 : decode cX5_readPart 53 = .ok (.getfield 35, 3) := by decide +kernel
theorem dX5_readPart_56 : decode cX5_readPart 56 = .ok (.getfield 56, 3) := by decide +kernel
theorem dX5_readPart_59 : decode cX5_readPart 59 = .ok (.iconst 2, 1) := by decide +kernel
theorem dX5_readPart_60 : decode cX5_readPart 60 = .ok (.if_icmp .eq 6, 3) := by decide +kernel
theorem dX5_readPart_63 : decode cX5_readPart 63 = .ok (.goto 20, 3) := by decide +kernel
theorem dX5_readPart_66 : decode cX5_readPart 66 = .ok (.aload_n 0, 1) := by decide +kernel
theorem dX5_readPart_67 : decode cX5_readPart 67 = .ok (.aload_n 1, 1) := by decide +kernel
theorem dX5_readPart_68 : decode cX5_readPart 68 = .ok (.iload_n 3, 1) := by decide +kernel
theorem dX5_readPart_69 : decode cX5_readPart 69 = .ok (.invokevirtual 159, 3) := by decide +kernel
theorem dX5_readPart_72 : decode cX5_readPart 72 = .ok (.ifCond .ne 5, 3) := by decide +kernel
theorem dX5_readPart_75 : decode cX5_readPart 75 = .ok (.iconst 0, 1) := by decide +kernel
theorem dX5_readPart_76 : decode cX5_readPart 76 = .ok (.ireturn, 1) := by decide +kernel
theorem dX5_readPart_77 : decode cX5_readPart 77 = .ok (.iinc 4 1, 3) := by decide +kernel
theorem dX5_readPart_80 : decode cX5_readPart 80 = .ok (.goto (-71), 3) := by decide +kernel
theorem dX5_readPart_83 : decode cX5_readPart 83 = .ok (.aload_n 0, 1) := by decide +kernel
theorem dX5_readPart_84 : decode cX5_readPart 84 = .ok (.getfield 35, 3) := by decide +kernel
theorem dX5_readPart_87 : decode cX5_readPart 87 = .ok (.iconst 1, 1) := by decide +kernel
theorem dX5_readPart_88 : decode cX5_readPart 88 = .ok (.aload_n 0, 1) := by decide +kernel
theorem dX5_readPart_89 : decode cX5_readPart 89 = .ok (.getfield 35, 3) := by decide +kernel
theorem dX5_readPart_92 : decode cX5_readPart 92 = .ok (.getfield 59, 3) := by decide +kernel
theorem dX5_readPart_95 : decode cX5_readPart 95 = .ok (.invokevirtual 62, 3) := by decide +kernel
theorem dX5_readPart_98 : decode cX5_readPart 98 = .ok (.ireturn, 1) := by decide +kernel
theorem dX5_readWord_0 : decode cX5_readWord 0 = .ok (.iconst 0, 1) := by decide +kernel
theorem dX5_readWord_1 : decode cX5_readWord 1 = .ok (.istore_n 3, 1) := by decide +kernel
theorem dX5_readWord_2 : decode cX5_readWord 2 = .ok (.iload_n 3, 1) := by decide +kernel
theorem dX5_readWord_3 : decode cX5_readWord 3 = .ok (.aload_n 0, 1) := by decide +kernel
theorem dX5_readWord_4 : decode cX5_readWord 4 = .ok (.getfield 35, 3) := by decide +kernel
theorem dX5_readWord_7 : decode cX5_readWord 7 = .ok (.getfield 116, 3) := by decide +kernel
theorem dX5_readWord_10 : decode cX5_readWord 10 = .ok (.if_icmp .ge 96, 3) := by decide +kernel
theorem dX5_readWord_13 : decode cX5_readWord 13 = .ok (.aload_n 0, 1) := by decide +kernel
theorem dX5_readWord_14 : decode cX5_readWord 14 = .ok (.getfield 35, 3) := by decide +kernel
theorem dX5_readWord_17 : decode cX5_readWord 17 = .ok (.aload_n 0, 1) := by decide +kernel
theorem dX5_readWord_18 : decode cX5_readWord 18 = .ok (.getfield 35, 3) := by decide +kernel
theorem dX5_readWord_21 : decode cX5_readWord 21 = .ok (.getfield 59, 3) := by decide +kernel
theorem dX5_readWord_24 : decode cX5_readWord 24 = .ok (.iload_n 3, 1) := by decide +kernel
theorem dX5_readWord_25 : decode cX5_readWord 25 = .ok (.iadd, 1) := by decide +kernel
theorem dX5_readWord_26 : decode cX5_readWord 26 = .ok (.invokevirtual 123, 3) := by decide +kernel
theorem dX5_readWord_29 : decode cX5_readWord 29 = .ok (.bipush 97, 2) := by decide +kernel
theorem dX5_readWord_31 : decode cX5_readWord 31 = .ok (.isub, 1) := by decide +kernel
theorem dX5_readWord_32 : decode cX5_readWord 32 = .ok (.iload_n 2, 1) := by decide +kernel
theorem dX5_readWord_33 : decode cX5_readWord 33 = .ok (.if_icmp .lt 19, 3) := by decide +kernel
theorem dX5_readWord_36 : decode cX5_readWord 36 = .ok (.aload_n 0, 1) := by decide +kernel
theorem dX5_readWord_37 : decode cX5_readWord 37 = .ok (.getfield 35, 3) := by decide +kernel
theorem dX5_readWord_40 : decode cX5_readWord 40 = .ok (.iconst 1, 1) := by decide +kernel
theorem dX5_readWord_41 : decode cX5_readWord 41 = .ok (.aload_n 0, 1) := by decide +kernel
theorem dX5_readWord_42 : decode cX5_readWord 42 = .ok (.getfield 35, 3) := by decide +kernel
theorem dX5_readWord_45 : decode cX5_readWord 45 = .ok (.getfield 59, 3) := by decide +kernel
theorem dX5_readWord_48 : decode cX5_readWord 48 = .ok (.invokevirtual 62, 3) := by decide +kernel
theorem dX5_readWord_51 : decode cX5_readWord 51 = .ok (.ireturn, 1) := by decide +kernel
theorem dX5_readWord_52 : decode cX5_readWord 52 = .ok (.aload_n 1, 1) := by decide +kernel
theorem dX5_readWord_53 : decode cX5_readWord 53 = .ok (.getfield 156, 3) := by decide +kernel
theorem dX5_readWord_56 : decode cX5_readWord 56 = .ok (.bipush 10, 2) := by decide +kernel
theorem dX5_readWord_58 : decode cX5_readWord 58 = .ok (.if_icmp .lt 19, 3) := by decide +kernel
theorem dX5_readWord_61 : decode cX5_readWord 61 = .ok (.aload_n 0, 1) := by decide +kernel
theorem dX5_readWord_62 : decode cX5_readWord 62 = .ok (.getfield 35, 3) := by decide +kernel
theorem dX5_readWord_65 : decode cX5_readWord 65 = .ok (.iconst 4, 1) := by decide +kernel
theorem dX5_readWord_66 : decode cX5_readWord 66 = .ok (.aload_n 0, 1) := by decide +kernel
theorem dX5_readWord_67 : decode cX5_readWord 67 = .ok (.getfield 35, 3) := by decide +kernel
theorem dX5_readWord_70 : decode cX5_readWord 70 = .ok (.getfield 59, 3) := by decide +kernel
theorem dX5_readWord_73 : decode cX5_readWord 73 = .ok (.invokevirtual 62, 3) := by decide +kernel
theorem dX5_readWord_76 : decode cX5_readWord 76 = .ok (.ireturn, 1) := by decide +kernel
theorem dX5_readWord_77 : decode cX5_readWord 77 = .ok (.aload_n 1, 1) := by decide +kernel
theorem dX5_readWord_78 : decode cX5_readWord 78 = .ok (.aload_n 0, 1) := by decide +kernel
theorem dX5_readWord_79 : decode cX5_readWord 79 = .ok (.getfield 35, 3) := by decide +kernel
theorem dX5_readWord_82 : decode cX5_readWord 82 = .ok (.aload_n 0, 1) := by decide +kernel
theorem dX5_readWord_83 : decode cX5_readWord 83 = .ok (.getfield 35, 3) := by decide +kernel
theorem dX5_readWord_86 : decode cX5_readWord 86 = .ok (.getfield 59, 3) := by decide +kernel
theorem dX5_readWord_89 : decode cX5_readWord 89 = .ok (.iload_n 3, 1) := by decide +kernel
theorem dX5_readWord_90 : decode cX5_readWord 90 = .ok (.iadd, 1) := by decide +kernel
theorem dX5_readWord_91 : decode cX5_readWord 91 = .ok (.invokevirtual 123, 3) := by decide +kernel
theorem dX5_readWord_94 : decode cX5_readWord 94 = .ok (.bipush 97, 2) := by decide +kernel
theorem dX5_readWord_96 : decode cX5_readWord 96 = .ok (.isub, 1) := by decide +kernel
theorem dX5_readWord_97 : decode cX5_readWord 97 = .ok (.invokevirtual 163, 3) := by decide +kernel
theorem dX5_readWord_100 : decode cX5_readWord 100 = .ok (.iinc 3 1, 3) := by decide +kernel
theorem dX5_readWord_103 : decode cX5_readWord 103 = .ok (.goto (-101), 3) := by decide +kernel
theorem dX5_readWord_106 : decode cX5_readWord 106 = .ok (.iconst 1, 1) := by decide +kernel
theorem dX5_readWord_107 : decode cX5_readWord 107 = .ok (.ireturn, 1) := by decide +kernel
