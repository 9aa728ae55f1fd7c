theorem dX8_init_0 : decode cX8_init 0 = .ok (.aload_n 0, 1) := by decide +kernel
theorem dX8_init_1 : decode cX8_init 1 = .ok (.invokespecial 3, 3) := by decide +kernel
theorem dX8_init_4 : decode cX8_init 4 = .ok (.aload_n 0, 1) := by decide +kernel
theorem dX8_init_5 : decode cX8_init 5 = .ok (.new 9, 3) := by decide +kernel
theorem dX8_init_8 : decode cX8_init 8 = .ok (.dup, 1) := by decide +kernel
theorem dX8_init_9 : decode cX8_init 9 = .ok (.iconst 0, 1) := by decide +kernel
theorem dX8_init_10 : decode cX8_init 10 = .ok (.invokespecial 11, 3) := by decide +kernel
theorem dX8_init_13 : decode cX8_init 13 = .ok (.putfield 14, 3) := by decide +kernel
theorem dX8_init_16 : decode cX8_init 16 = .ok (.aload_n 0, 1) := by decide +kernel
theorem dX8_init_17 : decode cX8_init 17 = .ok (.new 9, 3) := by decide +kernel
theorem dX8_init_20 : decode cX8_init 20 = .ok (.dup, 1) := by decide +kernel
theorem dX8_init_21 : decode cX8_init 21 = .ok (.iconst 0, 1) := by decide +kernel
theorem dX8_init_22 : decode cX8_init 22 = .ok (.invokespecial 11, 3) := by decide +kernel
theorem dX8_init_25 : decode cX8_init 25 = .ok (.putfield 20, 3) := by decide +kernel
theorem dX8_init_28 : decode cX8_init 28 = .ok (.aload_n 0, 1) := by decide +kernel
theorem dX8_init_29 : decode cX8_init 29 = .ok (.new 9, 3) := by decide +kernel
theorem dX8_init_32 : decode cX8_init 32 = .ok (.dup, 1) := by decide +kernel
theorem dX8_init_33 : decode cX8_init 33 = .ok (.iconst 0, 1) := by decide +kernel
theorem dX8_init_34 : decode cX8_init 34 = .ok (.invokespecial 11, 3) := by decide +kernel
theorem dX8_init_37 : decode cX8_init 37 = .ok (.putfield 23, 3) := by decide +kernel
theorem dX8_init_40 : decode cX8_init 40 = .ok (.aload_n 0, 1) := by decide +kernel
theorem dX8_init_41 : decode cX8_init 41 = .ok (.new 9, 3) := by decide +kernel
theorem dX8_init_44 : decode cX8_init 44 = .ok (.dup, 1) := by decide +kernel
theorem dX8_init_45 : decode cX8_init 45 = .ok (.iconst 0, 1) := by decide +kernel
theorem dX8_init_46 : decode cX8_init 46 = .ok (.invokespecial 11, 3) := by decide +kernel
theorem dX8_init_49 : decode cX8_init 49 = .ok (.putfield 26, 3) := by decide +kernel
theorem dX8_init_52 : decode cX8_init 52 = .ok (.aload_n 0, 1) := by decide +kernel
theorem dX8_init_53 : decode cX8_init 53 = .ok (.new 9, 3) := by decide +kernel
theorem dX8_init_56 : decode cX8_init 56 = .ok (.dup, 1) := by decide +kernel
theorem dX8_init_57 : decode cX8_init 57 = .ok (.iconst 0, 1) := by decide +kernel
theorem dX8_init_58 : decode cX8_init 58 = .ok (.invokespecial 11, 3) := by decide +kernel
theorem dX8_init_61 : decode cX8_init 61 = .ok (.putfield 29, 3) := by decide +kernel
theorem dX8_init_64 : decode cX8_init 64 = .ok (.aload_n 0, 1) := by decide +kernel
theorem dX8_init_65 : decode cX8_init 65 = .ok (.aload_n 1, 1) := by decide +kernel
theorem dX8_init_66 : decode cX8_init 66 = .ok (.putfield 32, 3) := by decide +kernel
theorem dX8_init_69 : decode cX8_init 69 = .ok (.return_, 1) := by decide +kernel
theorem dX8_show_0 : decode cX8_show 0 = .ok (.aload_n 0, 1) := by decide +kernel
theorem dX8_show_1 : decode cX8_show 1 = .ok (.getfield 32, 3) := by decide +kernel
theorem dX8_show_4 : decode cX8_show 4 = .ok (.aload_n 1, 1) := by decide +kernel
theorem dX8_show_5 : decode cX8_show 5 = .ok (.invokevirtual 36, 3) := by decide +kernel
theorem dX8_show_8 : decode cX8_show 8 = .ok (.aload_n 0, 1) := by decide +kernel
theorem dX8_show_9 : decode cX8_show 9 = .ok (.aload_n 1, 1) := by decide +kernel
theorem dX8_show_10 : decode cX8_show 10 = .ok (.iconst (-1), 1) := by decide +kernel
theorem dX8_show_11 : decode cX8_show 11 = .ok (.invokevirtual 42, 3) := by decide +kernel
theorem dX8_show_14 : decode cX8_show 14 = .ok (.istore_n 2, 1) := by decide +kernel
theorem dX8_show_15 : decode cX8_show 15 = .ok (.aload_n 0, 1) := by decide +kernel
theorem dX8_show_16 : decode cX8_show 16 = .ok (.iload_n 2, 1) := by decide +kernel
theorem dX8_show_17 : decode cX8_show 17 = .ok (.iconst (-1), 1) := by decide +kernel
theorem dX8_show_18 : decode cX8_show 18 = .ok (.if_icmp .eq 7, 3) := by decide +kernel
theorem dX8_show_21 : decode cX8_show 21 = .ok (.iconst 1, 1) := by decide +kernel
theorem dX8_show_22 : decode cX8_show 22 = .ok (.goto 4, 3) := by decide +kernel
theorem dX8_show_25 : decode cX8_show 25 = .ok (.iconst 0, 1) := by decide +kernel
theorem dX8_show_26 : decode cX8_show 26 = .ok (.putfield 46, 3) := by decide +kernel
theorem dX8_show_29 : decode cX8_show 29 = .ok (.aload_n 0, 1) := by decide +kernel
theorem dX8_show_30 : decode cX8_show 30 = .ok (.getfield 46, 3) := by decide +kernel
theorem dX8_show_33 : decode cX8_show 33 = .ok (.ifCond .eq 33, 3) := by decide +kernel
theorem dX8_show_36 : decode cX8_show 36 = .ok (.aload_n 0, 1) := by decide +kernel
theorem dX8_show_37 : decode cX8_show 37 = .ok (.aload_n 0, 1) := by decide +kernel
theorem dX8_show_38 : decode cX8_show 38 = .ok (.iload_n 2, 1) := by decide +kernel
theorem dX8_show_39 : decode cX8_show 39 = .ok (.iconst 0, 1) := by decide +kernel
theorem dX8_show_40 : decode cX8_show 40 = .ok (.invokevirtual 50, 3) := by decide +kernel
theorem dX8_show_43 : decode cX8_show 43 = .ok (.putfield 54, 3) := by decide +kernel
theorem dX8_show_46 : decode cX8_show 46 = .ok (.aload_n 0, 1) := by decide +kernel
theorem dX8_show_47 : decode cX8_show 47 = .ok (.aload_n 1, 1) := by decide +kernel
theorem dX8_show_48 : decode cX8_show 48 = .ok (.iload_n 2, 1) := by decide +kernel
theorem dX8_show_49 : decode cX8_show 49 = .ok (.invokevirtual 42, 3) := by decide +kernel
theorem dX8_show_52 : decode cX8_show 52 = .ok (.pop, 1) := by decide +kernel
theorem dX8_show_53 : decode cX8_show 53 = .ok (.aload_n 0, 1) := by decide +kernel
theorem dX8_show_54 : decode cX8_show 54 = .ok (.aload_n 0, 1) := by decide +kernel
theorem dX8_show_55 : decode cX8_show 55 = .ok (.iload_n 2, 1) := by decide +kernel
theorem dX8_show_56 : decode cX8_show 56 = .ok (.aload_n 0, 1) := by decide +kernel
theorem dX8_show_57 : decode cX8_show 57 = .ok (.getfield 54, 3) := by decide +kernel
theorem dX8_show_60 : decode cX8_show 60 = .ok (.invokevirtual 50, 3) := by decide +kernel
theorem dX8_show_63 : decode cX8_show 63 = .ok (.putfield 58, 3) := by decide +kernel
theorem dX8_show_66 : decode cX8_show 66 = .ok (.aload_n 0, 1) := by decide +kernel
theorem dX8_show_67 : decode cX8_show 67 = .ok (.getfield 46, 3) := by decide +kernel
theorem dX8_show_70 : decode cX8_show 70 = .ok (.ireturn, 1) := by decide +kernel
theorem dX8_search_0 : decode cX8_search 0 = .ok (.aload_n 1, 1) := by decide +kernel
theorem dX8_search_1 : decode cX8_search 1 = .ok (.invokevirtual 61, 3) := by decide +kernel
theorem dX8_search_4 : decode cX8_search 4 = .ok (.istore_n 3, 1) := by decide +kernel
theorem dX8_search_5 : decode cX8_search 5 = .ok (.aload_n 0, 1) := by decide +kernel
theorem dX8_search_6 : decode cX8_search 6 = .ok (.getfield 14, 3) := by decide +kernel
theorem dX8_search_9 : decode cX8_search 9 = .ok (.iconst 0, 1) := by decide +kernel
theorem dX8_search_10 : decode cX8_search 10 = .ok (.putfield 67, 3) := by decide +kernel
theorem dX8_search_13 : decode cX8_search 13 = .ok (.aload_n 0, 1) := by decide +kernel
theorem dX8_search_14 : decode cX8_search 14 = .ok (.getfield 20, 3) := by decide +kernel
theorem dX8_search_17 : decode cX8_search 17 = .ok (.iload_n 3, 1) := by decide +kernel
theorem dX8_search_18 : decode cX8_search 18 = .ok (.invokevirtual 70, 3) := by decide +kernel
theorem dX8_search_21 : decode cX8_search 21 = .ok (.aload_n 0, 1) := by decide +kernel
theorem dX8_search_22 : decode cX8_search 22 = .ok (.getfield 23, 3) := by decide +kernel
theorem dX8_search_25 : decode cX8_search 25 = .ok (.iload_n 3, 1) := by decide +kernel
theorem dX8_search_26 : decode cX8_search 26 = .ok (.invokevirtual 70, 3) := by decide +kernel
theorem dX8_search_29 : decode cX8_search 29 = .ok (.aload_n 0, 1) := by decide +kernel
theorem dX8_search_30 : decode cX8_search 30 = .ok (.getfield 26, 3) := by decide +kernel
theorem dX8_search_33 : decode cX8_search 33 = .ok (.iload_n 3, 1) := by decide +kernel
theorem dX8_search_34 : decode cX8_search 34 = .ok (.invokevirtual 70, 3) := by decide +kernel
theorem dX8_search_37 : decode cX8_search 37 = .ok (.iconst 0, 1) := by decide +kernel
theorem dX8_search_38 : decode cX8_search 38 = .ok (.istore 4, 2) := by decide +kernel
theorem dX8_search_40 : decode cX8_search 40 = .ok (.iload 4, 2) := by decide +kernel
theorem dX8_search_42 : decode cX8_search 42 = .ok (.iload_n 3, 1) := by decide +kernel
theorem dX8_search_43 : decode cX8_search 43 = .ok (.if_icmp .ge 69, 3) := by decide +kernel
theorem dX8_search_46 : decode cX8_search 46 = .ok (.iload_n 2, 1) := by decide +kernel
theorem dX8_search_47 : decode cX8_search 47 = .ok (.iconst (-1), 1) := by decide +kernel
theorem dX8_search_48 : decode cX8_search 48 = .ok (.if_icmp .ne 15, 3) := by decide +kernel
theorem dX8_search_51 : decode cX8_search 51 = .ok (.aload_n 1, 1) := by decide +kernel
theorem dX8_search_52 : decode cX8_search 52 = .ok (.iload 4, 2) := by decide +kernel
theorem dX8_search_54 : decode cX8_search 54 = .ok (.invokevirtual 73, 3) := by decide +kernel
theorem dX8_search_57 : decode cX8_search 57 = .ok (.ifCond .eq 49, 3) := by decide +kernel
theorem dX8_search_60 : decode cX8_search 60 = .ok (.goto 9, 3) := by decide +kernel
theorem dX8_search_63 : decode cX8_search 63 = .ok (.iload 4, 2) := by decide +kernel
theorem dX8_search_65 : decode cX8_search 65 = .ok (.iload_n 2, 1) := by decide +kernel
theorem dX8_search_66 : decode cX8_search 66 = .ok (.if_icmp .ne 40, 3) := by decide +kernel
theorem dX8_search_69 : decode cX8_search 69 = .ok (.aload_n 0, 1) := by decide +kernel
theorem dX8_search_70 : decode cX8_search 70 = .ok (.getfield 14, 3) := by decide +kernel
theorem dX8_search_73 : decode cX8_search 73 = .ok (.iload 4, 2) := by decide +kernel
theorem dX8_search_75 : decode cX8_search 75 = .ok (.invokevirtual 77, 3) := by decide +kernel
theorem dX8_search_78 : decode cX8_search 78 = .ok (.aload_n 0, 1) := by decide +kernel
theorem dX8_search_79 : decode cX8_search 79 = .ok (.getfield 26, 3) := by decide +kernel
theorem dX8_search_82 : decode cX8_search 82 = .ok (.iload 4, 2) := by decide +kernel
theorem dX8_search_84 : decode cX8_search 84 = .ok (.iconst 1, 1) := by decide +kernel
theorem dX8_search_85 : decode cX8_search 85 = .ok (.invokevirtual 80, 3) := by decide +kernel
theorem dX8_search_88 : decode cX8_search 88 = .ok (.iload_n 2, 1) := by decide +kernel
theorem dX8_search_89 : decode cX8_search 89 = .ok (.iconst (-1), 1) := by decide +kernel
theorem dX8_search_90 : decode cX8_search 90 = .ok (.if_icmp .ne 16, 3) := by decide +kernel
theorem dX8_search_93 : decode cX8_search 93 = .ok (.aload_n 0, 1) := by decide +kernel
theorem dX8_search_94 : decode cX8_search 94 = .ok (.aload_n 1, 1) := by decide +kernel
theorem dX8_search_95 : decode cX8_search 95 = .ok (.iload 4, 2) := by decide +kernel
theorem dX8_search_97 : decode cX8_search 97 = .ok (.invokevirtual 84, 3) := by decide +kernel
theorem dX8_search_100 : decode cX8_search 100 = .ok (.ifCond .eq 6, 3) := by decide +kernel
theorem dX8_search_103 : decode cX8_search 103 = .ok (.iload 4, 2) := by decide +kernel
theorem dX8_search_105 : decode cX8_search 105 = .ok (.ireturn, 1) := by decide +kernel
theorem dX8_search_106 : decode cX8_search 106 = .ok (.iinc 4 1, 3) := by decide +kernel
theorem dX8_search_109 : decode cX8_search 109 = .ok (.goto (-69), 3) := by decide +kernel
theorem dX8_search_112 : decode cX8_search 112 = .ok (.iconst 0, 1) := by decide +kernel
theorem dX8_search_113 : decode cX8_search 113 = .ok (.istore 4, 2) := by decide +kernel
theorem dX8_search_115 : decode cX8_search 115 = .ok (.iload 4, 2) := by decide +kernel
theorem dX8_search_117 : decode cX8_search 117 = .ok (.aload_n 0, 1) := by decide +kernel
theorem dX8_search_118 : decode cX8_search 118 = .ok (.getfield 14, 3) := by decide +kernel
theorem dX8_search_121 : decode cX8_search 121 = .ok (.getfield 67, 3) := by decide +kernel
theorem dX8_search_124 : decode cX8_search 124 = .ok (.if_icmp .ge 41, 3) := by decide +kernel
theorem dX8_search_127 : decode cX8_search 127 = .ok (.iload 4, 2) := by decide +kernel
theorem dX8_search_129 : decode cX8_search 129 = .ok (.iload_n 3, 1) := by decide +kernel
theorem dX8_search_130 : decode cX8_search 130 = .ok (.if_icmp .ge 35, 3) := by decide +kernel
theorem dX8_search_133 : decode cX8_search 133 = .ok (.aload_n 0, 1) := by decide +kernel
theorem dX8_search_134 : decode cX8_search 134 = .ok (.aload_n 1, 1) := by decide +kernel
theorem dX8_search_135 : decode cX8_search 135 = .ok (.aload_n 0, 1) := by decide +kernel
theorem dX8_search_136 : decode cX8_search 136 = .ok (.getfield 14, 3) := by decide +kernel
theorem dX8_search_139 : decode cX8_search 139 = .ok (.iload 4, 2) := by decide +kernel
theorem dX8_search_141 : decode cX8_search 141 = .ok (.invokevirtual 88, 3) := by decide +kernel
theorem dX8_search_144 : decode cX8_search 144 = .ok (.iload_n 2, 1) := by decide +kernel
theorem dX8_search_145 : decode cX8_search 145 = .ok (.invokevirtual 92, 3) := by decide +kernel
theorem dX8_search_148 : decode cX8_search 148 = .ok (.istore 5, 2) := by decide +kernel
theorem dX8_search_150 : decode cX8_search 150 = .ok (.iload 5, 2) := by decide +kernel
theorem dX8_search_152 : decode cX8_search 152 = .ok (.iconst (-1), 1) := by decide +kernel
theorem dX8_search_153 : decode cX8_search 153 = .ok (.if_icmp .eq 6, 3) := by decide +kernel
theorem dX8_search_156 : decode cX8_search 156 = .ok (.iload 5, 2) := by decide +kernel
theorem dX8_search_158 : decode cX8_search 158 = .ok (.ireturn, 1) := by decide +kernel
theorem dX8_search_159 : decode cX8_search 159 = .ok (.iinc 4 1, 3) := by decide +kernel
theorem dX8_search_162 : decode cX8_search 162 = .ok (.goto (-47), 3) := by decide +kernel
theorem dX8_search_165 : decode cX8_search 165 = .ok (.iconst (-1), 1) := by decide +kernel
theorem dX8_search_166 : decode cX8_search 166 = .ok (.ireturn, 1) := by decide +kernel
theorem dX8_searchFrom_0 : decode cX8_searchFrom 0 = .ok (.iconst 0, 1) := by decide +kernel
theorem dX8_searchFrom_1 : decode cX8_searchFrom 1 = .ok (.istore 4, 2) := by decide +kernel
theorem dX8_searchFrom_3 : decode cX8_searchFrom 3 = .ok (.iload 4, 2) := by decide +kernel
theorem dX8_searchFrom_5 : decode cX8_searchFrom 5 = .ok (.aload_n 1, 1) := by decide +kernel
theorem dX8_searchFrom_6 : decode cX8_searchFrom 6 = .ok (.invokevirtual 96, 3) := by decide +kernel
theorem dX8_searchFrom_9 : decode cX8_searchFrom 9 = .ok (.if_icmp .ge 136, 3) := by decide +kernel
theorem dX8_searchFrom_12 : decode cX8_searchFrom 12 = .ok (.aload_n 1, 1) := by decide +kernel
theorem dX8_searchFrom_13 : decode cX8_searchFrom 13 = .ok (.iload_n 2, 1) := by decide +kernel
theorem dX8_searchFrom_14 : decode cX8_searchFrom 14 = .ok (.iload 4, 2) := by decide +kernel
theorem dX8_searchFrom_16 : decode cX8_searchFrom 16 = .ok (.invokevirtual 99, 3) := by decide +kernel
theorem dX8_searchFrom_19 : decode cX8_searchFrom 19 = .ok (.istore 5, 2) := by decide +kernel
theorem dX8_searchFrom_21 : decode cX8_searchFrom 21 = .ok (.iconst 0, 1) := by decide +kernel
theorem dX8_searchFrom_22 : decode cX8_searchFrom 22 = .ok (.istore 6, 2) := by decide +kernel
theorem dX8_searchFrom_24 : decode cX8_searchFrom 24 = .ok (.iload 6, 2) := by decide +kernel
theorem dX8_searchFrom_26 : decode cX8_searchFrom 26 = .ok (.iload 5, 2) := by decide +kernel
theorem dX8_searchFrom_28 : decode cX8_searchFrom 28 = .ok (.if_icmp .ge 111, 3) := by decide +kernel
theorem dX8_searchFrom_31 : decode cX8_searchFrom 31 = .ok (.aload_n 1, 1) := by decide +kernel
theorem dX8_searchFrom_32 : decode cX8_searchFrom 32 = .ok (.iload_n 2, 1) := by decide +kernel
theorem dX8_searchFrom_33 : decode cX8_searchFrom 33 = .ok (.iload 4, 2) := by decide +kernel
theorem dX8_searchFrom_35 : decode cX8_searchFrom 35 = .ok (.iload 6, 2) := by decide +kernel
theorem dX8_searchFrom_37 : decode cX8_searchFrom 37 = .ok (.invokevirtual 102, 3) := by decide +kernel
theorem dX8_searchFrom_40 : decode cX8_searchFrom 40 = .ok (.istore 7, 2) := by decide +kernel
theorem dX8_searchFrom_42 : decode cX8_searchFrom 42 = .ok (.aload_n 0, 1) := by decide +kernel
theorem dX8_searchFrom_43 : decode cX8_searchFrom 43 = .ok (.getfield 26, 3) := by decide +kernel
theorem dX8_searchFrom_46 : decode cX8_searchFrom 46 = .ok (.iload 7, 2) := by decide +kernel
theorem dX8_searchFrom_48 : decode cX8_searchFrom 48 = .ok (.invokevirtual 88, 3) := by decide +kernel
theorem dX8_searchFrom_51 : decode cX8_searchFrom 51 = .ok (.ifCond .eq 9, 3) := by decide +kernel
theorem dX8_searchFrom_54 : decode cX8_searchFrom 54 = .ok (.iload 7, 2) := by decide +kernel
theorem dX8_searchFrom_56 : decode cX8_searchFrom 56 = .ok (.iload_n 3, 1) := by decide +kernel
theorem dX8_searchFrom_57 : decode cX8_searchFrom 57 = .ok (.if_icmp .ne 76, 3) := by decide +kernel
theorem dX8_searchFrom_60 : decode cX8_searchFrom 60 = .ok (.aload_n 0, 1) := by decide +kernel
theorem dX8_searchFrom_61 : decode cX8_searchFrom 61 = .ok (.getfield 14, 3) := by decide +kernel
theorem dX8_searchFrom_64 : decode cX8_searchFrom 64 = .ok (.iload 7, 2) := by decide +kernel
theorem dX8_searchFrom_66 : decode cX8_searchFrom 66 = .ok (.invokevirtual 77, 3) := by decide +kernel
theorem dX8_searchFrom_69 : decode cX8_searchFrom 69 = .ok (.aload_n 0, 1) := by decide +kernel
theorem dX8_searchFrom_70 : decode cX8_searchFrom 70 = .ok (.getfield 20, 3) := by decide +kernel
theorem dX8_searchFrom_73 : decode cX8_searchFrom 73 = .ok (.iload 7, 2) := by decide +kernel
theorem dX8_searchFrom_75 : decode cX8_searchFrom 75 = .ok (.iload_n 2, 1) := by decide +kernel
theorem dX8_searchFrom_76 : decode cX8_searchFrom 76 = .ok (.invokevirtual 80, 3) := by decide +kernel
theorem dX8_searchFrom_79 : decode cX8_searchFrom 79 = .ok (.aload_n 0, 1) := by decide +kernel
theorem dX8_searchFrom_80 : decode cX8_searchFrom 80 = .ok (.getfield 23, 3) := by decide +kernel
theorem dX8_searchFrom_83 : decode cX8_searchFrom 83 = .ok (.iload 7, 2) := by decide +kernel
theorem dX8_searchFrom_85 : decode cX8_searchFrom 85 = .ok (.iload 4, 2) := by decide +kernel
theorem dX8_searchFrom_87 : decode cX8_searchFrom 87 = .ok (.invokevirtual 80, 3) := by decide +kernel
theorem dX8_searchFrom_90 : decode cX8_searchFrom 90 = .ok (.aload_n 0, 1) := by decide +kernel
theorem dX8_searchFrom_91 : decode cX8_searchFrom 91 = .ok (.getfield 26, 3) := by decide +kernel
theorem dX8_searchFrom_94 : decode cX8_searchFrom 94 = .ok (.iload 7, 2) := by decide +kernel
theorem dX8_searchFrom_96 : decode cX8_searchFrom 96 = .ok (.aload_n 0, 1) := by decide +kernel
theorem dX8_searchFrom_97 : decode cX8_searchFrom 97 = .ok (.getfield 26, 3) := by decide +kernel
theorem dX8_searchFrom_100 : decode cX8_searchFrom 100 = .ok (.iload_n 2, 1) := by decide +kernel
theorem dX8_searchFrom_101 : decode cX8_searchFrom 101 = .ok (.invokevirtual 88, 3) := by decide +kernel
theorem dX8_searchFrom_104 : decode cX8_searchFrom 104 = .ok (.iconst 1, 1) := by decide +kernel
theorem dX8_searchFrom_105 : decode cX8_searchFrom 105 = .ok (.iadd, 1) := by decide +kernel
theorem dX8_searchFrom_106 : decode cX8_searchFrom 106 = .ok (.invokevirtual 80, 3) := by decide +kernel
theorem dX8_searchFrom_109 : decode cX8_searchFrom 109 = .ok (.iload 7, 2) := by decide +kernel
theorem dX8_searchFrom_111 : decode cX8_searchFrom 111 = .ok (.iload_n 3, 1) := by decide +kernel
theorem dX8_searchFrom_112 : decode cX8_searchFrom 112 = .ok (.if_icmp .eq 18, 3) := by decide +kernel
theorem dX8_searchFrom_115 : decode cX8_searchFrom 115 = .ok (.iload_n 3, 1) := by decide +kernel
theorem dX8_searchFrom_116 : decode cX8_searchFrom 116 = .ok (.iconst (-1), 1) := by decide +kernel
theorem dX8_searchFrom_117 : decode cX8_searchFrom 117 = .ok (.if_icmp .ne 16, 3) := by decide +kernel
theorem dX8_searchFrom_120 : decode cX8_searchFrom 120 = .ok (.aload_n 0, 1) := by decide +kernel
theorem dX8_searchFrom_121 : decode cX8_searchFrom 121 = .ok (.aload_n 1, 1) := by decide +kernel
theorem dX8_searchFrom_122 : decode cX8_searchFrom 122 = .ok (.iload 7, 2) := by decide +kernel
theorem dX8_searchFrom_124 : decode cX8_searchFrom 124 = .ok (.invokevirtual 84, 3) := by decide +kernel
theorem dX8_searchFrom_127 : decode cX8_searchFrom 127 = .ok (.ifCond .eq 6, 3) := by decide +kernel
theorem dX8_searchFrom_130 : decode cX8_searchFrom 130 = .ok (.iload 7, 2) := by decide +kernel
theorem dX8_searchFrom_132 : decode cX8_searchFrom 132 = .ok (.ireturn, 1) := by decide +kernel
theorem dX8_searchFrom_133 : decode cX8_searchFrom 133 = .ok (.iinc 6 1, 3) := by decide +kernel
theorem dX8_searchFrom_136 : decode cX8_searchFrom 136 = .ok (.goto (-112), 3) := by decide +kernel
theorem dX8_searchFrom_139 : decode cX8_searchFrom 139 = .ok (.iinc 4 1, 3) := by decide +kernel
theorem dX8_searchFrom_142 : decode cX8_searchFrom 142 = .ok (.goto (-139), 3) := by decide +kernel
theorem dX8_searchFrom_145 : decode cX8_searchFrom 145 = .ok (.iconst (-1), 1) := by decide +kernel
theorem dX8_searchFrom_146 : decode cX8_searchFrom 146 = .ok (.ireturn, 1) := by decide +kernel
theorem dX8_isSought_0 : decode cX8_isSought 0 = .ok (.aload_n 1, 1) := by decide +kernel
theorem dX8_isSought_1 : decode cX8_isSought 1 = .ok (.iload_n 2, 1) := by decide +kernel
theorem dX8_isSought_2 : decode cX8_isSought 2 = .ok (.invokevirtual 106, 3) := by decide +kernel
theorem dX8_isSought_5 : decode cX8_isSought 5 = .ok (.ifCond .eq 18, 3) := by decide +kernel
theorem dX8_isSought_8 : decode cX8_isSought 8 = .ok (.aload_n 0, 1) := by decide +kernel
theorem dX8_isSought_9 : decode cX8_isSought 9 = .ok (.getfield 32, 3) := by decide +kernel
theorem dX8_isSought_12 : decode cX8_isSought 12 = .ok (.iload_n 2, 1) := by decide +kernel
theorem dX8_isSought_13 : decode cX8_isSought 13 = .ok (.invokevirtual 109, 3) := by decide +kernel
theorem dX8_isSought_16 : decode cX8_isSought 16 = .ok (.ifCond .eq 7, 3) := by decide +kernel
theorem dX8_isSought_19 : decode cX8_isSought 19 = .ok (.iconst 1, 1) := by decide +kernel
theorem dX8_isSought_20 : decode cX8_isSought 20 = .ok (.goto 4, 3) := by decide +kernel
theorem dX8_isSought_23 : decode cX8_isSought 23 = .ok (.iconst 0, 1) := by decide +kernel
theorem dX8_isSought_24 : decode cX8_isSought 24 = .ok (.ireturn, 1) := by decide +kernel
theorem dX8_writeWay_0 : decode cX8_writeWay 0 = .ok (.aload_n 0, 1) := by decide +kernel
theorem dX8_writeWay_1 : decode cX8_writeWay 1 = .ok (.getfield 26, 3) := by decide +kernel
theorem dX8_writeWay_4 : decode cX8_writeWay 4 = .ok (.iload_n 1, 1) := by decide +kernel
theorem dX8_writeWay_5 : decode cX8_writeWay 5 = .ok (.invokevirtual 88, 3) := by decide +kernel
theorem dX8_writeWay_8 : decode cX8_writeWay 8 = .ok (.iconst 1, 1) := by decide +kernel
theorem dX8_writeWay_9 : decode cX8_writeWay 9 = .ok (.isub, 1) := by decide +kernel
theorem dX8_writeWay_10 : decode cX8_writeWay 10 = .ok (.istore_n 3, 1) := by decide +kernel
theorem dX8_writeWay_11 : decode cX8_writeWay 11 = .ok (.aload_n 0, 1) := by decide +kernel
theorem dX8_writeWay_12 : decode cX8_writeWay 12 = .ok (.getfield 29, 3) := by decide +kernel
theorem dX8_writeWay_15 : decode cX8_writeWay 15 = .ok (.iload_n 2, 1) := by decide +kernel
theorem dX8_writeWay_16 : decode cX8_writeWay 16 = .ok (.iload_n 3, 1) := by decide +kernel
theorem dX8_writeWay_17 : decode cX8_writeWay 17 = .ok (.iadd, 1) := by decide +kernel
theorem dX8_writeWay_18 : decode cX8_writeWay 18 = .ok (.invokevirtual 112, 3) := by decide +kernel
theorem dX8_writeWay_21 : decode cX8_writeWay 21 = .ok (.iload_n 1, 1) := by decide +kernel
theorem dX8_writeWay_22 : decode cX8_writeWay 22 = .ok (.istore 4, 2) := by decide +kernel
theorem dX8_writeWay_24 : decode cX8_writeWay 24 = .ok (.iload_n 3, 1) := by decide +kernel
theorem dX8_writeWay_25 : decode cX8_writeWay 25 = .ok (.iconst 1, 1) := by decide +kernel
theorem dX8_writeWay_26 : decode cX8_writeWay 26 = .ok (.isub, 1) := by decide +kernel
theorem dX8_writeWay_27 : decode cX8_writeWay 27 = .ok (.istore 5, 2) := by decide +kernel
theorem dX8_writeWay_29 : decode cX8_writeWay 29 = .ok (.iload 5, 2) := by decide +kernel
theorem dX8_writeWay_31 : decode cX8_writeWay 31 = .ok (.ifCond .lt 40, 3) := by decide +kernel
theorem dX8_writeWay_34 : decode cX8_writeWay 34 = .ok (.aload_n 0, 1) := by decide +kernel
theorem dX8_writeWay_35 : decode cX8_writeWay 35 = .ok (.getfield 29, 3) := by decide +kernel
theorem dX8_writeWay_38 : decode cX8_writeWay 38 = .ok (.iload_n 2, 1) := by decide +kernel
theorem dX8_writeWay_39 : decode cX8_writeWay 39 = .ok (.iload 5, 2) := by decide +kernel
theorem dX8_writeWay_41 : decode cX8_writeWay 41 = .ok (.iadd, 1) := by decide +kernel
theorem dX8_writeWay_42 : decode cX8_writeWay 42 = .ok (.aload_n 0, 1) := by decide +kernel
theorem dX8_writeWay_43 : decode cX8_writeWay 43 = .ok (.getfield 23, 3) := by decide +kernel
theorem dX8_writeWay_46 : decode cX8_writeWay 46 = .ok (.iload 4, 2) := by decide +kernel
theorem dX8_writeWay_48 : decode cX8_writeWay 48 = .ok (.invokevirtual 88, 3) := by decide +kernel
theorem dX8_writeWay_51 : decode cX8_writeWay 51 = .ok (.invokevirtual 80, 3) := by decide +kernel
theorem dX8_writeWay_54 : decode cX8_writeWay 54 = .ok (.aload_n 0, 1) := by decide +kernel
theorem dX8_writeWay_55 : decode cX8_writeWay 55 = .ok (.getfield 20, 3) := by decide +kernel
theorem dX8_writeWay_58 : decode cX8_writeWay 58 = .ok (.iload 4, 2) := by decide +kernel
theorem dX8_writeWay_60 : decode cX8_writeWay 60 = .ok (.invokevirtual 88, 3) := by decide +kernel
theorem dX8_writeWay_63 : decode cX8_writeWay 63 = .ok (.istore 4, 2) := by decide +kernel
theorem dX8_writeWay_65 : decode cX8_writeWay 65 = .ok (.iinc 5 (-1), 3) := by decide +kernel
theorem dX8_writeWay_68 : decode cX8_writeWay 68 = .ok (.goto (-39), 3) := by decide +kernel
theorem dX8_writeWay_71 : decode cX8_writeWay 71 = .ok (.iload_n 3, 1) := by decide +kernel
theorem dX8_writeWay_72 : decode cX8_writeWay 72 = .ok (.ireturn, 1) := by decide +kernel
theorem dX6_init_0 : decode cX6_init 0 = .ok (.aload_n 0, 1) := by decide +kernel
theorem dX6_init_1 : decode cX6_init 1 = .ok (.invokespecial 3, 3) := by decide +kernel
theorem dX6_init_4 : decode cX6_init 4 = .ok (.aload_n 0, 1) := by decide +kernel
theorem dX6_init_5 : decode cX6_init 5 = .ok (.new 9, 3) := by decide +kernel
theorem dX6_init_8 : decode cX6_init 8 = .ok (.dup, 1) := by decide +kernel
theorem dX6_init_9 : decode cX6_init 9 = .ok (.iconst 0, 1) := by decide +kernel
theorem dX6_init_10 : decode cX6_init 10 = .ok (.invokespecial 11, 3) := by decide +kernel
theorem dX6_init_13 : decode cX6_init 13 = .ok (.putfield 14, 3) := by decide +kernel
theorem dX6_init_16 : decode cX6_init 16 = .ok (.aload_n 0, 1) := by decide +kernel
theorem dX6_init_17 : decode cX6_init 17 = .ok (.new 9, 3) := by decide +kernel
theorem dX6_init_20 : decode cX6_init 20 = .ok (.dup, 1) := by decide +kernel
theorem dX6_init_21 : decode cX6_init 21 = .ok (.iconst 0, 1) := by decide +kernel
theorem dX6_init_22 : decode cX6_init 22 = .ok (.invokespecial 11, 3) := by decide +kernel
theorem dX6_init_25 : decode cX6_init 25 = .ok (.putfield 20, 3) := by decide +kernel
theorem dX6_init_28 : decode cX6_init 28 = .ok (.aload_n 0, 1) := by decide +kernel
theorem dX6_init_29 : decode cX6_init 29 = .ok (.new 9, 3) := by decide +kernel
theorem dX6_init_32 : decode cX6_init 32 = .ok (.dup, 1) := by decide +kernel
theorem dX6_init_33 : decode cX6_init 33 = .ok (.iconst 0, 1) := by decide +kernel
theorem dX6_init_34 : decode cX6_init 34 = .ok (.invokespecial 11, 3) := by decide +kernel
theorem dX6_init_37 : decode cX6_init 37 = .ok (.putfield 23, 3) := by decide +kernel
theorem dX6_init_40 : decode cX6_init 40 = .ok (.aload_n 0, 1) := by decide +kernel
theorem dX6_init_41 : decode cX6_init 41 = .ok (.new 9, 3) := by decide +kernel
theorem dX6_init_44 : decode cX6_init 44 = .ok (.dup, 1) := by decide +kernel
theorem dX6_init_45 : decode cX6_init 45 = .ok (.iconst 0, 1) := by decide +kernel
theorem dX6_init_46 : decode cX6_init 46 = .ok (.invokespecial 11, 3) := by decide +kernel
theorem dX6_init_49 : decode cX6_init 49 = .ok (.putfield 26, 3) := by decide +kernel
theorem dX6_init_52 : decode cX6_init 52 = .ok (.aload_n 0, 1) := by decide +kernel
theorem dX6_init_53 : decode cX6_init 53 = .ok (.aload_n 0, 1) := by decide +kernel
theorem dX6_init_54 : decode cX6_init 54 = .ok (.getfield 26, 3) := by decide +kernel
theorem dX6_init_57 : decode cX6_init 57 = .ok (.putfield 29, 3) := by decide +kernel
theorem dX6_init_60 : decode cX6_init 60 = .ok (.aload_n 0, 1) := by decide +kernel
theorem dX6_init_61 : decode cX6_init 61 = .ok (.aload_n 1, 1) := by decide +kernel
theorem dX6_init_62 : decode cX6_init 62 = .ok (.putfield 32, 3) := by decide +kernel
theorem dX6_init_65 : decode cX6_init 65 = .ok (.aload_n 0, 1) := by decide +kernel
theorem dX6_init_66 : decode cX6_init 66 = .ok (.aload_n 2, 1) := by decide +kernel
theorem dX6_init_67 : decode cX6_init 67 = .ok (.putfield 36, 3) := by decide +kernel
theorem dX6_init_70 : decode cX6_init 70 = .ok (.return_, 1) := by decide +kernel
theorem dX6_isTaken_0 : decode cX6_isTaken 0 = .ok (.aload_n 0, 1) := by decide +kernel
theorem dX6_isTaken_1 : decode cX6_isTaken 1 = .ok (.aload_n 1, 1) := by decide +kernel
theorem dX6_isTaken_2 : decode cX6_isTaken 2 = .ok (.aload_n 3, 1) := by decide +kernel
theorem dX6_isTaken_3 : decode cX6_isTaken 3 = .ok (.invokevirtual 40, 3) := by decide +kernel
theorem dX6_isTaken_6 : decode cX6_isTaken 6 = .ok (.iconst 0, 1) := by decide +kernel
theorem dX6_isTaken_7 : decode cX6_isTaken 7 = .ok (.istore 4, 2) := by decide +kernel
theorem dX6_isTaken_9 : decode cX6_isTaken 9 = .ok (.iload 4, 2) := by decide +kernel
theorem dX6_isTaken_11 : decode cX6_isTaken 11 = .ok (.aload_n 2, 1) := by decide +kernel
theorem dX6_isTaken_12 : decode cX6_isTaken 12 = .ok (.getfield 44, 3) := by decide +kernel
theorem dX6_isTaken_15 : decode cX6_isTaken 15 = .ok (.if_icmp .ge 24, 3) := by decide +kernel
theorem dX6_isTaken_18 : decode cX6_isTaken 18 = .ok (.aload_n 0, 1) := by decide +kernel
theorem dX6_isTaken_19 : decode cX6_isTaken 19 = .ok (.aload_n 2, 1) := by decide +kernel
theorem dX6_isTaken_20 : decode cX6_isTaken 20 = .ok (.iload 4, 2) := by decide +kernel
theorem dX6_isTaken_22 : decode cX6_isTaken 22 = .ok (.invokevirtual 48, 3) := by decide +kernel
theorem dX6_isTaken_25 : decode cX6_isTaken 25 = .ok (.iconst 0, 1) := by decide +kernel
theorem dX6_isTaken_26 : decode cX6_isTaken 26 = .ok (.invokevirtual 52, 3) := by decide +kernel
theorem dX6_isTaken_29 : decode cX6_isTaken 29 = .ok (.aload_n 0, 1) := by decide +kernel
theorem dX6_isTaken_30 : decode cX6_isTaken 30 = .ok (.invokevirtual 56, 3) := by decide +kernel
theorem dX6_isTaken_33 : decode cX6_isTaken 33 = .ok (.iinc 4 1, 3) := by decide +kernel
theorem dX6_isTaken_36 : decode cX6_isTaken 36 = .ok (.goto (-27), 3) := by decide +kernel
theorem dX6_isTaken_39 : decode cX6_isTaken 39 = .ok (.aload_n 0, 1) := by decide +kernel
theorem dX6_isTaken_40 : decode cX6_isTaken 40 = .ok (.getfield 32, 3) := by decide +kernel
theorem dX6_isTaken_43 : decode cX6_isTaken 43 = .ok (.aload_n 0, 1) := by decide +kernel
theorem dX6_isTaken_44 : decode cX6_isTaken 44 = .ok (.invokevirtual 59, 3) := by decide +kernel
theorem dX6_isTaken_47 : decode cX6_isTaken 47 = .ok (.aload_n 0, 1) := by decide +kernel
theorem dX6_isTaken_48 : decode cX6_isTaken 48 = .ok (.invokevirtual 65, 3) := by decide +kernel
theorem dX6_isTaken_51 : decode cX6_isTaken 51 = .ok (.ifCond .eq 7, 3) := by decide +kernel
theorem dX6_isTaken_54 : decode cX6_isTaken 54 = .ok (.iconst 1, 1) := by decide +kernel
theorem dX6_isTaken_55 : decode cX6_isTaken 55 = .ok (.goto 4, 3) := by decide +kernel
theorem dX6_isTaken_58 : decode cX6_isTaken 58 = .ok (.iconst 0, 1) := by decide +kernel
theorem dX6_isTaken_59 : decode cX6_isTaken 59 = .ok (.ireturn, 1) := by decide +kernel
theorem dX6_tally_0 : decode cX6_tally 0 = .ok (.aload_n 0, 1) := by decide +kernel
theorem dX6_tally_1 : decode cX6_tally 1 = .ok (.aload_n 1, 1) := by decide +kernel
theorem dX6_tally_2 : decode cX6_tally 2 = .ok (.aload_n 0, 1) := by decide +kernel
theorem dX6_tally_3 : decode cX6_tally 3 = .ok (.getfield 26, 3) := by decide +kernel
theorem dX6_tally_6 : decode cX6_tally 6 = .ok (.invokevirtual 40, 3) := by decide +kernel
theorem dX6_tally_9 : decode cX6_tally 9 = .ok (.aload_n 1, 1) := by decide +kernel
theorem dX6_tally_10 : decode cX6_tally 10 = .ok (.invokevirtual 69, 3) := by decide +kernel
theorem dX6_tally_13 : decode cX6_tally 13 = .ok (.istore 4, 2) := by decide +kernel
theorem dX6_tally_15 : decode cX6_tally 15 = .ok (.iconst 0, 1) := by decide +kernel
theorem dX6_tally_16 : decode cX6_tally 16 = .ok (.istore 5, 2) := by decide +kernel
theorem dX6_tally_18 : decode cX6_tally 18 = .ok (.iload 5, 2) := by decide +kernel
theorem dX6_tally_20 : decode cX6_tally 20 = .ok (.iload_n 2, 1) := by decide +kernel
theorem dX6_tally_21 : decode cX6_tally 21 = .ok (.if_icmp .ge 36, 3) := by decide +kernel
theorem dX6_tally_24 : decode cX6_tally 24 = .ok (.iconst 0, 1) := by decide +kernel
theorem dX6_tally_25 : decode cX6_tally 25 = .ok (.istore 6, 2) := by decide +kernel
theorem dX6_tally_27 : decode cX6_tally 27 = .ok (.iload 6, 2) := by decide +kernel
theorem dX6_tally_29 : decode cX6_tally 29 = .ok (.iload 4, 2) := by decide +kernel
theorem dX6_tally_31 : decode cX6_tally 31 = .ok (.if_icmp .ge 16, 3) := by decide +kernel
theorem dX6_tally_34 : decode cX6_tally 34 = .ok (.aload_n 0, 1) := by decide +kernel
theorem dX6_tally_35 : decode cX6_tally 35 = .ok (.iload 6, 2) := by decide +kernel
theorem dX6_tally_37 : decode cX6_tally 37 = .ok (.iconst 1, 1) := by decide +kernel
theorem dX6_tally_38 : decode cX6_tally 38 = .ok (.invokevirtual 52, 3) := by decide +kernel
theorem dX6_tally_41 : decode cX6_tally 41 = .ok (.iinc 6 1, 3) := by decide +kernel
theorem dX6_tally_44 : decode cX6_tally 44 = .ok (.goto (-17), 3) := by decide +kernel
theorem dX6_tally_47 : decode cX6_tally 47 = .ok (.aload_n 0, 1) := by decide +kernel
theorem dX6_tally_48 : decode cX6_tally 48 = .ok (.invokevirtual 56, 3) := by decide +kernel
theorem dX6_tally_51 : decode cX6_tally 51 = .ok (.iinc 5 1, 3) := by decide +kernel
theorem dX6_tally_54 : decode cX6_tally 54 = .ok (.goto (-36), 3) := by decide +kernel
theorem dX6_tally_57 : decode cX6_tally 57 = .ok (.iconst 1, 1) := by decide +kernel
theorem dX6_tally_58 : decode cX6_tally 58 = .ok (.istore 5, 2) := by decide +kernel
theorem dX6_tally_60 : decode cX6_tally 60 = .ok (.iconst 0, 1) := by decide +kernel
theorem dX6_tally_61 : decode cX6_tally 61 = .ok (.istore 6, 2) := by decide +kernel
theorem dX6_tally_63 : decode cX6_tally 63 = .ok (.iload 6, 2) := by decide +kernel
theorem dX6_tally_65 : decode cX6_tally 65 = .ok (.iload_n 3, 1) := by decide +kernel
theorem dX6_tally_66 : decode cX6_tally 66 = .ok (.if_icmp .ge 16, 3) := by decide +kernel
theorem dX6_tally_69 : decode cX6_tally 69 = .ok (.iload 5, 2) := by decide +kernel
theorem dX6_tally_71 : decode cX6_tally 71 = .ok (.iload 4, 2) := by decide +kernel
theorem dX6_tally_73 : decode cX6_tally 73 = .ok (.imul, 1) := by decide +kernel
theorem dX6_tally_74 : decode cX6_tally 74 = .ok (.istore 5, 2) := by decide +kernel
theorem dX6_tally_76 : decode cX6_tally 76 = .ok (.iinc 6 1, 3) := by decide +kernel
theorem dX6_tally_79 : decode cX6_tally 79 = .ok (.goto (-16), 3) := by decide +kernel
theorem dX6_tally_82 : decode cX6_tally 82 = .ok (.iconst 0, 1) := by decide +kernel
theorem dX6_tally_83 : decode cX6_tally 83 = .ok (.istore 6, 2) := by decide +kernel
theorem dX6_tally_85 : decode cX6_tally 85 = .ok (.iconst 0, 1) := by decide +kernel
theorem dX6_tally_86 : decode cX6_tally 86 = .ok (.istore 7, 2) := by decide +kernel
theorem dX6_tally_88 : decode cX6_tally 88 = .ok (.iload 7, 2) := by decide +kernel
theorem dX6_tally_90 : decode cX6_tally 90 = .ok (.iload 5, 2) := by decide +kernel
theorem dX6_tally_92 : decode cX6_tally 92 = .ok (.if_icmp .ge 38, 3) := by decide +kernel
theorem dX6_tally_95 : decode cX6_tally 95 = .ok (.aload_n 0, 1) := by decide +kernel
theorem dX6_tally_96 : decode cX6_tally 96 = .ok (.iload 7, 2) := by decide +kernel
theorem dX6_tally_98 : decode cX6_tally 98 = .ok (.iload_n 3, 1) := by decide +kernel
theorem dX6_tally_99 : decode cX6_tally 99 = .ok (.iload 4, 2) := by decide +kernel
theorem dX6_tally_101 : decode cX6_tally 101 = .ok (.invokevirtual 72, 3) := by decide +kernel
theorem dX6_tally_104 : decode cX6_tally 104 = .ok (.aload_n 0, 1) := by decide +kernel
theorem dX6_tally_105 : decode cX6_tally 105 = .ok (.getfield 32, 3) := by decide +kernel
theorem dX6_tally_108 : decode cX6_tally 108 = .ok (.aload_n 0, 1) := by decide +kernel
theorem dX6_tally_109 : decode cX6_tally 109 = .ok (.invokevirtual 59, 3) := by decide +kernel
theorem dX6_tally_112 : decode cX6_tally 112 = .ok (.iload 6, 2) := by decide +kernel
theorem dX6_tally_114 : decode cX6_tally 114 = .ok (.aload_n 0, 1) := by decide +kernel
theorem dX6_tally_115 : decode cX6_tally 115 = .ok (.invokevirtual 65, 3) := by decide +kernel
theorem dX6_tally_118 : decode cX6_tally 118 = .ok (.invokestatic 76, 3) := by decide +kernel
theorem dX6_tally_121 : decode cX6_tally 121 = .ok (.iadd, 1) := by decide +kernel
theorem dX6_tally_122 : decode cX6_tally 122 = .ok (.istore 6, 2) := by decide +kernel
theorem dX6_tally_124 : decode cX6_tally 124 = .ok (.iinc 7 1, 3) := by decide +kernel
theorem dX6_tally_127 : decode cX6_tally 127 = .ok (.goto (-39), 3) := by decide +kernel
theorem dX6_tally_130 : decode cX6_tally 130 = .ok (.iload 6, 2) := by decide +kernel
theorem dX6_tally_132 : decode cX6_tally 132 = .ok (.ireturn, 1) := by decide +kernel
theorem dX6_setOut_0 : decode cX6_setOut 0 = .ok (.aload_n 0, 1) := by decide +kernel
theorem dX6_setOut_1 : decode cX6_setOut 1 = .ok (.aload_n 1, 1) := by decide +kernel
theorem dX6_setOut_2 : decode cX6_setOut 2 = .ok (.putfield 36, 3) := by decide +kernel
theorem dX6_setOut_5 : decode cX6_setOut 5 = .ok (.aload_n 0, 1) := by decide +kernel
theorem dX6_setOut_6 : decode cX6_setOut 6 = .ok (.aload_n 2, 1) := by decide +kernel
theorem dX6_setOut_7 : decode cX6_setOut 7 = .ok (.putfield 29, 3) := by decide +kernel
theorem dX6_setOut_10 : decode cX6_setOut 10 = .ok (.aload_n 0, 1) := by decide +kernel
theorem dX6_setOut_11 : decode cX6_setOut 11 = .ok (.aload_n 1, 1) := by decide +kernel
theorem dX6_setOut_12 : decode cX6_setOut 12 = .ok (.invokevirtual 81, 3) := by decide +kernel
theorem dX6_setOut_15 : decode cX6_setOut 15 = .ok (.putfield 84, 3) := by decide +kernel
theorem dX6_setOut_18 : decode cX6_setOut 18 = .ok (.aload_n 0, 1) := by decide +kernel
theorem dX6_setOut_19 : decode cX6_setOut 19 = .ok (.getfield 14, 3) := by decide +kernel
theorem dX6_setOut_22 : decode cX6_setOut 22 = .ok (.aload_n 1, 1) := by decide +kernel
theorem dX6_setOut_23 : decode cX6_setOut 23 = .ok (.invokevirtual 81, 3) := by decide +kernel
theorem dX6_setOut_26 : decode cX6_setOut 26 = .ok (.invokevirtual 87, 3) := by decide +kernel
theorem dX6_setOut_29 : decode cX6_setOut 29 = .ok (.aload_n 0, 1) := by decide +kernel
theorem dX6_setOut_30 : decode cX6_setOut 30 = .ok (.getfield 20, 3) := by decide +kernel
theorem dX6_setOut_33 : decode cX6_setOut 33 = .ok (.aload_n 1, 1) := by decide +kernel
theorem dX6_setOut_34 : decode cX6_setOut 34 = .ok (.invokevirtual 81, 3) := by decide +kernel
theorem dX6_setOut_37 : decode cX6_setOut 37 = .ok (.invokevirtual 87, 3) := by decide +kernel
theorem dX6_setOut_40 : decode cX6_setOut 40 = .ok (.aload_n 0, 1) := by decide +kernel
theorem dX6_setOut_41 : decode cX6_setOut 41 = .ok (.getfield 23, 3) := by decide +kernel
theorem dX6_setOut_44 : decode cX6_setOut 44 = .ok (.aload_n 1, 1) := by decide +kernel
theorem dX6_setOut_45 : decode cX6_setOut 45 = .ok (.invokevirtual 81, 3) := by decide +kernel
theorem dX6_setOut_48 : decode cX6_setOut 48 = .ok (.invokevirtual 87, 3) := by decide +kernel
theorem dX6_setOut_51 : decode cX6_setOut 51 = .ok (.iconst 0, 1) := by decide +kernel
theorem dX6_setOut_52 : decode cX6_setOut 52 = .ok (.istore_n 3, 1) := by decide +kernel
theorem dX6_setOut_53 : decode cX6_setOut 53 = .ok (.iload_n 3, 1) := by decide +kernel
theorem dX6_setOut_54 : decode cX6_setOut 54 = .ok (.aload_n 1, 1) := by decide +kernel
theorem dX6_setOut_55 : decode cX6_setOut 55 = .ok (.invokevirtual 81, 3) := by decide +kernel
theorem dX6_setOut_58 : decode cX6_setOut 58 = .ok (.if_icmp .ge 51, 3) := by decide +kernel
theorem dX6_setOut_61 : decode cX6_setOut 61 = .ok (.aload_n 0, 1) := by decide +kernel
theorem dX6_setOut_62 : decode cX6_setOut 62 = .ok (.getfield 14, 3) := by decide +kernel
theorem dX6_setOut_65 : decode cX6_setOut 65 = .ok (.iload_n 3, 1) := by decide +kernel
theorem dX6_setOut_66 : decode cX6_setOut 66 = .ok (.aload_n 1, 1) := by decide +kernel
theorem dX6_setOut_67 : decode cX6_setOut 67 = .ok (.iload_n 3, 1) := by decide +kernel
theorem dX6_setOut_68 : decode cX6_setOut 68 = .ok (.invokevirtual 90, 3) := by decide +kernel
theorem dX6_setOut_71 : decode cX6_setOut 71 = .ok (.ifCond .eq 7, 3) := by decide +kernel
theorem dX6_setOut_74 : decode cX6_setOut 74 = .ok (.iconst 1, 1) := by decide +kernel
theorem dX6_setOut_75 : decode cX6_setOut 75 = .ok (.goto 4, 3) := by decide +kernel
theorem dX6_setOut_78 : decode cX6_setOut 78 = .ok (.iconst 0, 1) := by decide +kernel
theorem dX6_setOut_79 : decode cX6_setOut 79 = .ok (.invokevirtual 94, 3) := by decide +kernel
theorem dX6_setOut_82 : decode cX6_setOut 82 = .ok (.aload_n 0, 1) := by decide +kernel
theorem dX6_setOut_83 : decode cX6_setOut 83 = .ok (.getfield 23, 3) := by decide +kernel
theorem dX6_setOut_86 : decode cX6_setOut 86 = .ok (.iload_n 3, 1) := by decide +kernel
theorem dX6_setOut_87 : decode cX6_setOut 87 = .ok (.aload_n 1, 1) := by decide +kernel
theorem dX6_setOut_88 : decode cX6_setOut 88 = .ok (.iload_n 3, 1) := by decide +kernel
theorem dX6_setOut_89 : decode cX6_setOut 89 = .ok (.invokevirtual 98, 3) := by decide +kernel
theorem dX6_setOut_92 : decode cX6_setOut 92 = .ok (.ifCond .eq 7, 3) := by decide +kernel
theorem dX6_setOut_95 : decode cX6_setOut 95 = .ok (.iconst 1, 1) := by decide +kernel
theorem dX6_setOut_96 : decode cX6_setOut 96 = .ok (.goto 4, 3) := by decide +kernel
theorem dX6_setOut_99 : decode cX6_setOut 99 = .ok (.iconst 0, 1) := by decide +kernel
theorem dX6_setOut_100 : decode cX6_setOut 100 = .ok (.invokevirtual 94, 3) := by decide +kernel
theorem dX6_setOut_103 : decode cX6_setOut 103 = .ok (.iinc 3 1, 3) := by decide +kernel
theorem dX6_setOut_106 : decode cX6_setOut 106 = .ok (.goto (-53), 3) := by decide +kernel
theorem dX6_setOut_109 : decode cX6_setOut 109 = .ok (.return_, 1) := by decide +kernel
theorem dX6_advance_0 : decode cX6_advance 0 = .ok (.iconst 0, 1) := by decide +kernel
theorem dX6_advance_1 : decode cX6_advance 1 = .ok (.istore_n 3, 1) := by decide +kernel
theorem dX6_advance_2 : decode cX6_advance 2 = .ok (.iload_n 3, 1) := by decide +kernel
theorem dX6_advance_3 : decode cX6_advance 3 = .ok (.aload_n 0, 1) := by decide +kernel
theorem dX6_advance_4 : decode cX6_advance 4 = .ok (.getfield 36, 3) := by decide +kernel
theorem dX6_advance_7 : decode cX6_advance 7 = .ok (.invokevirtual 81, 3) := by decide +kernel
theorem dX6_advance_10 : decode cX6_advance 10 = .ok (.if_icmp .ge 103, 3) := by decide +kernel
theorem dX6_advance_13 : decode cX6_advance 13 = .ok (.aload_n 0, 1) := by decide +kernel
theorem dX6_advance_14 : decode cX6_advance 14 = .ok (.getfield 14, 3) := by decide +kernel
theorem dX6_advance_17 : decode cX6_advance 17 = .ok (.iload_n 3, 1) := by decide +kernel
theorem dX6_advance_18 : decode cX6_advance 18 = .ok (.invokevirtual 48, 3) := by decide +kernel
theorem dX6_advance_21 : decode cX6_advance 21 = .ok (.istore 4, 2) := by decide +kernel
theorem dX6_advance_23 : decode cX6_advance 23 = .ok (.iload 4, 2) := by decide +kernel
theorem dX6_advance_25 : decode cX6_advance 25 = .ok (.ifCond .eq 82, 3) := by decide +kernel
theorem dX6_advance_28 : decode cX6_advance 28 = .ok (.iload_n 2, 1) := by decide +kernel
theorem dX6_advance_29 : decode cX6_advance 29 = .ok (.ifCond .eq 13, 3) := by decide +kernel
theorem dX6_advance_32 : decode cX6_advance 32 = .ok (.aload_n 0, 1) := by decide +kernel
theorem dX6_advance_33 : decode cX6_advance 33 = .ok (.iload 4, 2) := by decide +kernel
theorem dX6_advance_35 : decode cX6_advance 35 = .ok (.iload_n 1, 1) := by decide +kernel
theorem dX6_advance_36 : decode cX6_advance 36 = .ok (.invokevirtual 101, 3) := by decide +kernel
theorem dX6_advance_39 : decode cX6_advance 39 = .ok (.goto 5, 3) := by decide +kernel
theorem dX6_advance_42 : decode cX6_advance 42 = .ok (.iload 4, 2) := by decide +kernel
theorem dX6_advance_44 : decode cX6_advance 44 = .ok (.istore 5, 2) := by decide +kernel
theorem dX6_advance_46 : decode cX6_advance 46 = .ok (.aload_n 0, 1) := by decide +kernel
theorem dX6_advance_47 : decode cX6_advance 47 = .ok (.getfield 36, 3) := by decide +kernel
theorem dX6_advance_50 : decode cX6_advance 50 = .ok (.iload_n 3, 1) := by decide +kernel
theorem dX6_advance_51 : decode cX6_advance 51 = .ok (.iload_n 1, 1) := by decide +kernel
theorem dX6_advance_52 : decode cX6_advance 52 = .ok (.invokevirtual 105, 3) := by decide +kernel
theorem dX6_advance_55 : decode cX6_advance 55 = .ok (.istore 6, 2) := by decide +kernel
theorem dX6_advance_57 : decode cX6_advance 57 = .ok (.iconst 0, 1) := by decide +kernel
theorem dX6_advance_58 : decode cX6_advance 58 = .ok (.istore 7, 2) := by decide +kernel
theorem dX6_advance_60 : decode cX6_advance 60 = .ok (.iload 7, 2) := by decide +kernel
theorem dX6_advance_62 : decode cX6_advance 62 = .ok (.iload 6, 2) := by decide +kernel
theorem dX6_advance_64 : decode cX6_advance 64 = .ok (.if_icmp .ge 43, 3) := by decide +kernel
theorem dX6_advance_67 : decode cX6_advance 67 = .ok (.aload_n 0, 1) := by decide +kernel
theorem dX6_advance_68 : decode cX6_advance 68 = .ok (.getfield 36, 3) := by decide +kernel
theorem dX6_advance_71 : decode cX6_advance 71 = .ok (.iload_n 3, 1) := by decide +kernel
theorem dX6_advance_72 : decode cX6_advance 72 = .ok (.iload_n 1, 1) := by decide +kernel
theorem dX6_advance_73 : decode cX6_advance 73 = .ok (.iload 7, 2) := by decide +kernel
theorem dX6_advance_75 : decode cX6_advance 75 = .ok (.invokevirtual 108, 3) := by decide +kernel
theorem dX6_advance_78 : decode cX6_advance 78 = .ok (.istore 8, 2) := by decide +kernel
theorem dX6_advance_80 : decode cX6_advance 80 = .ok (.aload_n 0, 1) := by decide +kernel
theorem dX6_advance_81 : decode cX6_advance 81 = .ok (.getfield 20, 3) := by decide +kernel
theorem dX6_advance_84 : decode cX6_advance 84 = .ok (.iload 8, 2) := by decide +kernel
theorem dX6_advance_86 : decode cX6_advance 86 = .ok (.aload_n 0, 1) := by decide +kernel
theorem dX6_advance_87 : decode cX6_advance 87 = .ok (.getfield 20, 3) := by decide +kernel
theorem dX6_advance_90 : decode cX6_advance 90 = .ok (.iload 8, 2) := by decide +kernel
theorem dX6_advance_92 : decode cX6_advance 92 = .ok (.invokevirtual 48, 3) := by decide +kernel
theorem dX6_advance_95 : decode cX6_advance 95 = .ok (.iload 5, 2) := by decide +kernel
theorem dX6_advance_97 : decode cX6_advance 97 = .ok (.ior, 1) := by decide +kernel
theorem dX6_advance_98 : decode cX6_advance 98 = .ok (.invokevirtual 94, 3) := by decide +kernel
theorem dX6_advance_101 : decode cX6_advance 101 = .ok (.iinc 7 1, 3) := by decide +kernel
theorem dX6_advance_104 : decode cX6_advance 104 = .ok (.goto (-44), 3) := by decide +kernel
theorem dX6_advance_107 : decode cX6_advance 107 = .ok (.iinc 3 1, 3) := by decide +kernel
theorem dX6_advance_110 : decode cX6_advance 110 = .ok (.goto (-108), 3) := by decide +kernel
theorem dX6_advance_113 : decode cX6_advance 113 = .ok (.return_, 1) := by decide +kernel
theorem dX6_lengthened_0 : decode cX6_lengthened 0 = .ok (.aload_n 0, 1) := by decide +kernel
theorem dX6_lengthened_1 : decode cX6_lengthened 1 = .ok (.getfield 36, 3) := by decide +kernel
theorem dX6_lengthened_4 : decode cX6_lengthened 4 = .ok (.invokevirtual 69, 3) := by decide +kernel
theorem dX6_lengthened_7 : decode cX6_lengthened 7 = .ok (.istore_n 3, 1) := by decide +kernel
theorem dX6_lengthened_8 : decode cX6_lengthened 8 = .ok (.iconst 0, 1) := by decide +kernel
theorem dX6_lengthened_9 : decode cX6_lengthened 9 = .ok (.istore 4, 2) := by decide +kernel
theorem dX6_lengthened_11 : decode cX6_lengthened 11 = .ok (.iconst 0, 1) := by decide +kernel
theorem dX6_lengthened_12 : decode cX6_lengthened 12 = .ok (.istore 5, 2) := by decide +kernel
theorem dX6_lengthened_14 : decode cX6_lengthened 14 = .ok (.iload 5, 2) := by decide +kernel
theorem dX6_lengthened_16 : decode cX6_lengthened 16 = .ok (.bipush 9, 2) := by decide +kernel
theorem dX6_lengthened_18 : decode cX6_lengthened 18 = .ok (.if_icmp .ge 31, 3) := by decide +kernel
theorem dX6_lengthened_21 : decode cX6_lengthened 21 = .ok (.iload 5, 2) := by decide +kernel
theorem dX6_lengthened_23 : decode cX6_lengthened 23 = .ok (.iload_n 1, 1) := by decide +kernel
theorem dX6_lengthened_24 : decode cX6_lengthened 24 = .ok (.invokestatic 112, 3) := by decide +kernel
theorem dX6_lengthened_27 : decode cX6_lengthened 27 = .ok (.ifCond .eq 16, 3) := by decide +kernel
theorem dX6_lengthened_30 : decode cX6_lengthened 30 = .ok (.iload 4, 2) := by decide +kernel
theorem dX6_lengthened_32 : decode cX6_lengthened 32 = .ok (.iconst 1, 1) := by decide +kernel
theorem dX6_lengthened_33 : decode cX6_lengthened 33 = .ok (.iload 5, 2) := by decide +kernel
theorem dX6_lengthened_35 : decode cX6_lengthened 35 = .ok (.iload_n 3, 1) := by decide +kernel
theorem dX6_lengthened_36 : decode cX6_lengthened 36 = .ok (.imul, 1) := by decide +kernel
theorem dX6_lengthened_37 : decode cX6_lengthened 37 = .ok (.iload_n 2, 1) := by decide +kernel
theorem dX6_lengthened_38 : decode cX6_lengthened 38 = .ok (.iadd, 1) := by decide +kernel
theorem dX6_lengthened_39 : decode cX6_lengthened 39 = .ok (.ishl, 1) := by decide +kernel
theorem dX6_lengthened_40 : decode cX6_lengthened 40 = .ok (.ior, 1) := by decide +kernel
theorem dX6_lengthened_41 : decode cX6_lengthened 41 = .ok (.istore 4, 2) := by decide +kernel
theorem dX6_lengthened_43 : decode cX6_lengthened 43 = .ok (.iinc 5 1, 3) := by decide +kernel
theorem dX6_lengthened_46 : decode cX6_lengthened 46 = .ok (.goto (-32), 3) := by decide +kernel
theorem dX6_lengthened_49 : decode cX6_lengthened 49 = .ok (.iload 4, 2) := by decide +kernel
theorem dX6_lengthened_51 : decode cX6_lengthened 51 = .ok (.ireturn, 1) := by decide +kernel
theorem dX6_turn_0 : decode cX6_turn 0 = .ok (.aload_n 0, 1) := by decide +kernel
theorem dX6_turn_1 : decode cX6_turn 1 = .ok (.getfield 14, 3) := by decide +kernel
theorem dX6_turn_4 : decode cX6_turn 4 = .ok (.astore_n 1, 1) := by decide +kernel
theorem dX6_turn_5 : decode cX6_turn 5 = .ok (.aload_n 0, 1) := by decide +kernel
theorem dX6_turn_6 : decode cX6_turn 6 = .ok (.aload_n 0, 1) := by decide +kernel
theorem dX6_turn_7 : decode cX6_turn 7 = .ok (.getfield 20, 3) := by decide +kernel
theorem dX6_turn_10 : decode cX6_turn 10 = .ok (.putfield 14, 3) := by decide +kernel
theorem dX6_turn_13 : decode cX6_turn 13 = .ok (.aload_n 0, 1) := by decide +kernel
theorem dX6_turn_14 : decode cX6_turn 14 = .ok (.aload_n 1, 1) := by decide +kernel
theorem dX6_turn_15 : decode cX6_turn 15 = .ok (.putfield 20, 3) := by decide +kernel
theorem dX6_turn_18 : decode cX6_turn 18 = .ok (.aload_n 0, 1) := by decide +kernel
theorem dX6_turn_19 : decode cX6_turn 19 = .ok (.getfield 20, 3) := by decide +kernel
theorem dX6_turn_22 : decode cX6_turn 22 = .ok (.aload_n 0, 1) := by decide +kernel
theorem dX6_turn_23 : decode cX6_turn 23 = .ok (.getfield 36, 3) := by decide +kernel
theorem dX6_turn_26 : decode cX6_turn 26 = .ok (.invokevirtual 81, 3) := by decide +kernel
theorem dX6_turn_29 : decode cX6_turn 29 = .ok (.invokevirtual 87, 3) := by decide +kernel
theorem dX6_turn_32 : decode cX6_turn 32 = .ok (.return_, 1) := by decide +kernel
theorem dX6_spell_0 : decode cX6_spell 0 = .ok (.aload_n 0, 1) := by decide +kernel
theorem dX6_spell_1 : decode cX6_spell 1 = .ok (.getfield 26, 3) := by decide +kernel
theorem dX6_spell_4 : decode cX6_spell 4 = .ok (.bipush 10, 2) := by decide +kernel
theorem dX6_spell_6 : decode cX6_spell 6 = .ok (.invokevirtual 87, 3) := by decide +kernel
theorem dX6_spell_9 : decode cX6_spell 9 = .ok (.iload_n 1, 1) := by decide +kernel
theorem dX6_spell_10 : decode cX6_spell 10 = .ok (.istore 4, 2) := by decide +kernel
theorem dX6_spell_12 : decode cX6_spell 12 = .ok (.iconst 0, 1) := by decide +kernel
theorem dX6_spell_13 : decode cX6_spell 13 = .ok (.istore 5, 2) := by decide +kernel
theorem dX6_spell_15 : decode cX6_spell 15 = .ok (.iload 5, 2) := by decide +kernel
theorem dX6_spell_17 : decode cX6_spell 17 = .ok (.iload_n 2, 1) := by decide +kernel
theorem dX6_spell_18 : decode cX6_spell 18 = .ok (.if_icmp .ge 30, 3) := by decide +kernel
theorem dX6_spell_21 : decode cX6_spell 21 = .ok (.iload_n 3, 1) := by decide +kernel
theorem dX6_spell_22 : decode cX6_spell 22 = .ok (.ifCond .le 26, 3) := by decide +kernel
theorem dX6_spell_25 : decode cX6_spell 25 = .ok (.aload_n 0, 1) := by decide +kernel
theorem dX6_spell_26 : decode cX6_spell 26 = .ok (.getfield 26, 3) := by decide +kernel
theorem dX6_spell_29 : decode cX6_spell 29 = .ok (.iload 4, 2) := by decide +kernel
theorem dX6_spell_31 : decode cX6_spell 31 = .ok (.iload_n 3, 1) := by decide +kernel
theorem dX6_spell_32 : decode cX6_spell 32 = .ok (.irem, 1) := by decide +kernel
theorem dX6_spell_33 : decode cX6_spell 33 = .ok (.invokevirtual 116, 3) := by decide +kernel
theorem dX6_spell_36 : decode cX6_spell 36 = .ok (.iload 4, 2) := by decide +kernel
theorem dX6_spell_38 : decode cX6_spell 38 = .ok (.iload_n 3, 1) := by decide +kernel
theorem dX6_spell_39 : decode cX6_spell 39 = .ok (.idiv, 1) := by decide +kernel
theorem dX6_spell_40 : decode cX6_spell 40 = .ok (.istore 4, 2) := by decide +kernel
theorem dX6_spell_42 : decode cX6_spell 42 = .ok (.iinc 5 1, 3) := by decide +kernel
theorem dX6_spell_45 : decode cX6_spell 45 = .ok (.goto (-30), 3) := by decide +kernel
theorem dX6_spell_48 : decode cX6_spell 48 = .ok (.return_, 1) := by decide +kernel
theorem dX6_nodeOf_0 : decode cX6_nodeOf 0 = .ok (.aload_n 0, 1) := by decide +kernel
theorem dX6_nodeOf_1 : decode cX6_nodeOf 1 = .ok (.getfield 84, 3) := by decide +kernel
theorem dX6_nodeOf_4 : decode cX6_nodeOf 4 = .ok (.ifCond .le 12, 3) := by decide +kernel
theorem dX6_nodeOf_7 : decode cX6_nodeOf 7 = .ok (.iload_n 1, 1) := by decide +kernel
theorem dX6_nodeOf_8 : decode cX6_nodeOf 8 = .ok (.aload_n 0, 1) := by decide +kernel
theorem dX6_nodeOf_9 : decode cX6_nodeOf 9 = .ok (.getfield 84, 3) := by decide +kernel
theorem dX6_nodeOf_12 : decode cX6_nodeOf 12 = .ok (.irem, 1) := by decide +kernel
theorem dX6_nodeOf_13 : decode cX6_nodeOf 13 = .ok (.goto 4, 3) := by decide +kernel
theorem dX6_nodeOf_16 : decode cX6_nodeOf 16 = .ok (.iconst 0, 1) := by decide +kernel
theorem dX6_nodeOf_17 : decode cX6_nodeOf 17 = .ok (.ireturn, 1) := by decide +kernel
theorem dX6_placeOf_0 : decode cX6_placeOf 0 = .ok (.aload_n 0, 1) := by decide +kernel
theorem dX6_placeOf_1 : decode cX6_placeOf 1 = .ok (.getfield 84, 3) := by decide +kernel
theorem dX6_placeOf_4 : decode cX6_placeOf 4 = .ok (.ifCond .le 12, 3) := by decide +kernel
theorem dX6_placeOf_7 : decode cX6_placeOf 7 = .ok (.iload_n 1, 1) := by decide +kernel
theorem dX6_placeOf_8 : decode cX6_placeOf 8 = .ok (.aload_n 0, 1) := by decide +kernel
theorem dX6_placeOf_9 : decode cX6_placeOf 9 = .ok (.getfield 84, 3) := by decide +kernel
theorem dX6_placeOf_12 : decode cX6_placeOf 12 = .ok (.idiv, 1) := by decide +kernel
theorem dX6_placeOf_13 : decode cX6_placeOf 13 = .ok (.goto 4, 3) := by decide +kernel
theorem dX6_placeOf_16 : decode cX6_placeOf 16 = .ok (.iconst 0, 1) := by decide +kernel
theorem dX6_placeOf_17 : decode cX6_placeOf 17 = .ok (.ireturn, 1) := by decide +kernel
theorem dX6_stemsTaken_0 : decode cX6_stemsTaken 0 = .ok (.iconst 0, 1) := by decide +kernel
theorem dX6_stemsTaken_1 : decode cX6_stemsTaken 1 = .ok (.istore_n 1, 1) := by decide +kernel
theorem dX6_stemsTaken_2 : decode cX6_stemsTaken 2 = .ok (.iconst 0, 1) := by decide +kernel
theorem dX6_stemsTaken_3 : decode cX6_stemsTaken 3 = .ok (.istore_n 2, 1) := by decide +kernel
theorem dX6_stemsTaken_4 : decode cX6_stemsTaken 4 = .ok (.iload_n 2, 1) := by decide +kernel
theorem dX6_stemsTaken_5 : decode cX6_stemsTaken 5 = .ok (.aload_n 0, 1) := by decide +kernel
theorem dX6_stemsTaken_6 : decode cX6_stemsTaken 6 = .ok (.getfield 36, 3) := by decide +kernel
theorem dX6_stemsTaken_9 : decode cX6_stemsTaken 9 = .ok (.invokevirtual 81, 3) := by decide +kernel
theorem dX6_stemsTaken_12 : decode cX6_stemsTaken 12 = .ok (.if_icmp .ge 42, 3) := by decide +kernel
theorem dX6_stemsTaken_15 : decode cX6_stemsTaken 15 = .ok (.aload_n 0, 1) := by decide +kernel
theorem dX6_stemsTaken_16 : decode cX6_stemsTaken 16 = .ok (.getfield 14, 3) := by decide +kernel
theorem dX6_stemsTaken_19 : decode cX6_stemsTaken 19 = .ok (.iload_n 2, 1) := by decide +kernel
theorem dX6_stemsTaken_20 : decode cX6_stemsTaken 20 = .ok (.invokevirtual 48, 3) := by decide +kernel
theorem dX6_stemsTaken_23 : decode cX6_stemsTaken 23 = .ok (.ifCond .eq 25, 3) := by decide +kernel
theorem dX6_stemsTaken_26 : decode cX6_stemsTaken 26 = .ok (.aload_n 0, 1) := by decide +kernel
theorem dX6_stemsTaken_27 : decode cX6_stemsTaken 27 = .ok (.getfield 32, 3) := by decide +kernel
theorem dX6_stemsTaken_30 : decode cX6_stemsTaken 30 = .ok (.iload_n 2, 1) := by decide +kernel
theorem dX6_stemsTaken_31 : decode cX6_stemsTaken 31 = .ok (.invokevirtual 119, 3) := by decide +kernel
theorem dX6_stemsTaken_34 : decode cX6_stemsTaken 34 = .ok (.ifCond .eq 14, 3) := by decide +kernel
theorem dX6_stemsTaken_37 : decode cX6_stemsTaken 37 = .ok (.iload_n 1, 1) := by decide +kernel
theorem dX6_stemsTaken_38 : decode cX6_stemsTaken 38 = .ok (.aload_n 0, 1) := by decide +kernel
theorem dX6_stemsTaken_39 : decode cX6_stemsTaken 39 = .ok (.getfield 14, 3) := by decide +kernel
theorem dX6_stemsTaken_42 : decode cX6_stemsTaken 42 = .ok (.iload_n 2, 1) := by decide +kernel
theorem dX6_stemsTaken_43 : decode cX6_stemsTaken 43 = .ok (.invokevirtual 48, 3) := by decide +kernel
theorem dX6_stemsTaken_46 : decode cX6_stemsTaken 46 = .ok (.ior, 1) := by decide +kernel
theorem dX6_stemsTaken_47 : decode cX6_stemsTaken 47 = .ok (.istore_n 1, 1) := by decide +kernel
theorem dX6_stemsTaken_48 : decode cX6_stemsTaken 48 = .ok (.iinc 2 1, 3) := by decide +kernel
theorem dX6_stemsTaken_51 : decode cX6_stemsTaken 51 = .ok (.goto (-47), 3) := by decide +kernel
theorem dX6_stemsTaken_54 : decode cX6_stemsTaken 54 = .ok (.iload_n 1, 1) := by decide +kernel
theorem dX6_stemsTaken_55 : decode cX6_stemsTaken 55 = .ok (.ireturn, 1) := by decide +kernel
theorem dX6_vertices_0 : decode cX6_vertices 0 = .ok (.aload_n 0, 1) := by decide +kernel
theorem dX6_vertices_1 : decode cX6_vertices 1 = .ok (.getfield 84, 3) := by decide +kernel
theorem dX6_vertices_4 : decode cX6_vertices 4 = .ok (.aload_n 0, 1) := by decide +kernel
theorem dX6_vertices_5 : decode cX6_vertices 5 = .ok (.getfield 29, 3) := by decide +kernel
theorem dX6_vertices_8 : decode cX6_vertices 8 = .ok (.getfield 44, 3) := by decide +kernel
theorem dX6_vertices_11 : decode cX6_vertices 11 = .ok (.imul, 1) := by decide +kernel
theorem dX6_vertices_12 : decode cX6_vertices 12 = .ok (.ireturn, 1) := by decide +kernel
theorem dX6_letterCount_0 : decode cX6_letterCount 0 = .ok (.iconst 1, 1) := by decide +kernel
theorem dX6_letterCount_1 : decode cX6_letterCount 1 = .ok (.ireturn, 1) := by decide +kernel
theorem dX6_isFirst_0 : decode cX6_isFirst 0 = .ok (.iload_n 1, 1) := by decide +kernel
theorem dX6_isFirst_1 : decode cX6_isFirst 1 = .ok (.aload_n 0, 1) := by decide +kernel
theorem dX6_isFirst_2 : decode cX6_isFirst 2 = .ok (.getfield 84, 3) := by decide +kernel
theorem dX6_isFirst_5 : decode cX6_isFirst 5 = .ok (.if_icmp .ge 18, 3) := by decide +kernel
theorem dX6_isFirst_8 : decode cX6_isFirst 8 = .ok (.aload_n 0, 1) := by decide +kernel
theorem dX6_isFirst_9 : decode cX6_isFirst 9 = .ok (.getfield 14, 3) := by decide +kernel
theorem dX6_isFirst_12 : decode cX6_isFirst 12 = .ok (.iload_n 1, 1) := by decide +kernel
theorem dX6_isFirst_13 : decode cX6_isFirst 13 = .ok (.invokevirtual 48, 3) := by decide +kernel
theorem dX6_isFirst_16 : decode cX6_isFirst 16 = .ok (.ifCond .eq 7, 3) := by decide +kernel
theorem dX6_isFirst_19 : decode cX6_isFirst 19 = .ok (.iconst 1, 1) := by decide +kernel
theorem dX6_isFirst_20 : decode cX6_isFirst 20 = .ok (.goto 4, 3) := by decide +kernel
theorem dX6_isFirst_23 : decode cX6_isFirst 23 = .ok (.iconst 0, 1) := by decide +kernel
theorem dX6_isFirst_24 : decode cX6_isFirst 24 = .ok (.ireturn, 1) := by decide +kernel
theorem dX6_isMarked_0 : decode cX6_isMarked 0 = .ok (.aload_n 0, 1) := by decide +kernel
theorem dX6_isMarked_1 : decode cX6_isMarked 1 = .ok (.getfield 23, 3) := by decide +kernel
theorem dX6_isMarked_4 : decode cX6_isMarked 4 = .ok (.aload_n 0, 1) := by decide +kernel
theorem dX6_isMarked_5 : decode cX6_isMarked 5 = .ok (.iload_n 1, 1) := by decide +kernel
theorem dX6_isMarked_6 : decode cX6_isMarked 6 = .ok (.invokevirtual 122, 3) := by decide +kernel
theorem dX6_isMarked_9 : decode cX6_isMarked 9 = .ok (.invokevirtual 48, 3) := by decide +kernel
theorem dX6_isMarked_12 : decode cX6_isMarked 12 = .ok (.ifCond .eq 7, 3) := by decide +kernel
theorem dX6_isMarked_15 : decode cX6_isMarked 15 = .ok (.iconst 1, 1) := by decide +kernel
theorem dX6_isMarked_16 : decode cX6_isMarked 16 = .ok (.goto 4, 3) := by decide +kernel
theorem dX6_isMarked_19 : decode cX6_isMarked 19 = .ok (.iconst 0, 1) := by decide +kernel
theorem dX6_isMarked_20 : decode cX6_isMarked 20 = .ok (.ireturn, 1) := by decide +kernel
theorem dX6_fan_0 : decode cX6_fan 0 = .ok (.aload_n 0, 1) := by decide +kernel
theorem dX6_fan_1 : decode cX6_fan 1 = .ok (.getfield 36, 3) := by decide +kernel
theorem dX6_fan_4 : decode cX6_fan 4 = .ok (.aload_n 0, 1) := by decide +kernel
theorem dX6_fan_5 : decode cX6_fan 5 = .ok (.iload_n 1, 1) := by decide +kernel
theorem dX6_fan_6 : decode cX6_fan 6 = .ok (.invokevirtual 122, 3) := by decide +kernel
theorem dX6_fan_9 : decode cX6_fan 9 = .ok (.aload_n 0, 1) := by decide +kernel
theorem dX6_fan_10 : decode cX6_fan 10 = .ok (.getfield 29, 3) := by decide +kernel
theorem dX6_fan_13 : decode cX6_fan 13 = .ok (.aload_n 0, 1) := by decide +kernel
theorem dX6_fan_14 : decode cX6_fan 14 = .ok (.iload_n 1, 1) := by decide +kernel
theorem dX6_fan_15 : decode cX6_fan 15 = .ok (.invokevirtual 125, 3) := by decide +kernel
theorem dX6_fan_18 : decode cX6_fan 18 = .ok (.invokevirtual 48, 3) := by decide +kernel
theorem dX6_fan_21 : decode cX6_fan 21 = .ok (.invokevirtual 105, 3) := by decide +kernel
theorem dX6_fan_24 : decode cX6_fan 24 = .ok (.ireturn, 1) := by decide +kernel
theorem dX6_goal_0 : decode cX6_goal 0 = .ok (.aload_n 0, 1) := by decide +kernel
theorem dX6_goal_1 : decode cX6_goal 1 = .ok (.iload_n 1, 1) := by decide +kernel
theorem dX6_goal_2 : decode cX6_goal 2 = .ok (.invokevirtual 125, 3) := by decide +kernel
theorem dX6_goal_5 : decode cX6_goal 5 = .ok (.istore 4, 2) := by decide +kernel
theorem dX6_goal_7 : decode cX6_goal 7 = .ok (.aload_n 0, 1) := by decide +kernel
theorem dX6_goal_8 : decode cX6_goal 8 = .ok (.getfield 36, 3) := by decide +kernel
theorem dX6_goal_11 : decode cX6_goal 11 = .ok (.aload_n 0, 1) := by decide +kernel
theorem dX6_goal_12 : decode cX6_goal 12 = .ok (.iload_n 1, 1) := by decide +kernel
theorem dX6_goal_13 : decode cX6_goal 13 = .ok (.invokevirtual 122, 3) := by decide +kernel
theorem dX6_goal_16 : decode cX6_goal 16 = .ok (.aload_n 0, 1) := by decide +kernel
theorem dX6_goal_17 : decode cX6_goal 17 = .ok (.getfield 29, 3) := by decide +kernel
theorem dX6_goal_20 : decode cX6_goal 20 = .ok (.iload 4, 2) := by decide +kernel
theorem dX6_goal_22 : decode cX6_goal 22 = .ok (.invokevirtual 48, 3) := by decide +kernel
theorem dX6_goal_25 : decode cX6_goal 25 = .ok (.iload_n 3, 1) := by decide +kernel
theorem dX6_goal_26 : decode cX6_goal 26 = .ok (.invokevirtual 108, 3) := by decide +kernel
theorem dX6_goal_29 : decode cX6_goal 29 = .ok (.istore 5, 2) := by decide +kernel
theorem dX6_goal_31 : decode cX6_goal 31 = .ok (.iload 4, 2) := by decide +kernel
theorem dX6_goal_33 : decode cX6_goal 33 = .ok (.iconst 1, 1) := by decide +kernel
theorem dX6_goal_34 : decode cX6_goal 34 = .ok (.iadd, 1) := by decide +kernel
theorem dX6_goal_35 : decode cX6_goal 35 = .ok (.aload_n 0, 1) := by decide +kernel
theorem dX6_goal_36 : decode cX6_goal 36 = .ok (.getfield 29, 3) := by decide +kernel
theorem dX6_goal_39 : decode cX6_goal 39 = .ok (.getfield 44, 3) := by decide +kernel
theorem dX6_goal_42 : decode cX6_goal 42 = .ok (.if_icmp .ge 18, 3) := by decide +kernel
theorem dX6_goal_45 : decode cX6_goal 45 = .ok (.iload 4, 2) := by decide +kernel
theorem dX6_goal_47 : decode cX6_goal 47 = .ok (.iconst 1, 1) := by decide +kernel
theorem dX6_goal_48 : decode cX6_goal 48 = .ok (.iadd, 1) := by decide +kernel
theorem dX6_goal_49 : decode cX6_goal 49 = .ok (.aload_n 0, 1) := by decide +kernel
theorem dX6_goal_50 : decode cX6_goal 50 = .ok (.getfield 84, 3) := by decide +kernel
theorem dX6_goal_53 : decode cX6_goal 53 = .ok (.imul, 1) := by decide +kernel
theorem dX6_goal_54 : decode cX6_goal 54 = .ok (.iload 5, 2) := by decide +kernel
theorem dX6_goal_56 : decode cX6_goal 56 = .ok (.iadd, 1) := by decide +kernel
theorem dX6_goal_57 : decode cX6_goal 57 = .ok (.goto 5, 3) := by decide +kernel
theorem dX6_goal_60 : decode cX6_goal 60 = .ok (.iload 5, 2) := by decide +kernel
theorem dX6_goal_62 : decode cX6_goal 62 = .ok (.ireturn, 1) := by decide +kernel
theorem dX10_init_0 : decode cX10_init 0 = .ok (.aload_n 0, 1) := by decide +kernel
theorem dX10_init_1 : decode cX10_init 1 = .ok (.invokespecial 3, 3) := by decide +kernel
theorem dX10_init_4 : decode cX10_init 4 = .ok (.aload_n 0, 1) := by decide +kernel
theorem dX10_init_5 : decode cX10_init 5 = .ok (.new 9, 3) := by decide +kernel
theorem dX10_init_8 : decode cX10_init 8 = .ok (.dup, 1) := by decide +kernel
theorem dX10_init_9 : decode cX10_init 9 = .ok (.iconst 0, 1) := by decide +kernel
theorem dX10_init_10 : decode cX10_init 10 = .ok (.invokespecial 11, 3) := by decide +kernel
theorem dX10_init_13 : decode cX10_init 13 = .ok (.putfield 14, 3) := by decide +kernel
theorem dX10_init_16 : decode cX10_init 16 = .ok (.aload_n 0, 1) := by decide +kernel
theorem dX10_init_17 : decode cX10_init 17 = .ok (.new 9, 3) := by decide +kernel
theorem dX10_init_20 : decode cX10_init 20 = .ok (.dup, 1) := by decide +kernel
theorem dX10_init_21 : decode cX10_init 21 = .ok (.iconst 0, 1) := by decide +kernel
theorem dX10_init_22 : decode cX10_init 22 = .ok (.invokespecial 11, 3) := by decide +kernel
theorem dX10_init_25 : decode cX10_init 25 = .ok (.putfield 20, 3) := by decide +kernel
theorem dX10_init_28 : decode cX10_init 28 = .ok (.aload_n 0, 1) := by decide +kernel
theorem dX10_init_29 : decode cX10_init 29 = .ok (.new 9, 3) := by decide +kernel
theorem dX10_init_32 : decode cX10_init 32 = .ok (.dup, 1) := by decide +kernel
theorem dX10_init_33 : decode cX10_init 33 = .ok (.iconst 0, 1) := by decide +kernel
theorem dX10_init_34 : decode cX10_init 34 = .ok (.invokespecial 11, 3) := by decide +kernel
theorem dX10_init_37 : decode cX10_init 37 = .ok (.putfield 23, 3) := by decide +kernel
theorem dX10_init_40 : decode cX10_init 40 = .ok (.aload_n 0, 1) := by decide +kernel
theorem dX10_init_41 : decode cX10_init 41 = .ok (.new 9, 3) := by decide +kernel
theorem dX10_init_44 : decode cX10_init 44 = .ok (.dup, 1) := by decide +kernel
theorem dX10_init_45 : decode cX10_init 45 = .ok (.iconst 0, 1) := by decide +kernel
theorem dX10_init_46 : decode cX10_init 46 = .ok (.invokespecial 11, 3) := by decide +kernel
theorem dX10_init_49 : decode cX10_init 49 = .ok (.putfield 26, 3) := by decide +kernel
theorem dX10_init_52 : decode cX10_init 52 = .ok (.aload_n 0, 1) := by decide +kernel
theorem dX10_init_53 : decode cX10_init 53 = .ok (.new 9, 3) := by decide +kernel
theorem dX10_init_56 : decode cX10_init 56 = .ok (.dup, 1) := by decide +kernel
theorem dX10_init_57 : decode cX10_init 57 = .ok (.iconst 0, 1) := by decide +kernel
theorem dX10_init_58 : decode cX10_init 58 = .ok (.invokespecial 11, 3) := by decide +kernel
theorem dX10_init_61 : decode cX10_init 61 = .ok (.putfield 29, 3) := by decide +kernel
theorem dX10_init_64 : decode cX10_init 64 = .ok (.aload_n 0, 1) := by decide +kernel
theorem dX10_init_65 : decode cX10_init 65 = .ok (.aload_n 1, 1) := by decide +kernel
theorem dX10_init_66 : decode cX10_init 66 = .ok (.putfield 32, 3) := by decide +kernel
theorem dX10_init_69 : decode cX10_init 69 = .ok (.aload_n 0, 1) := by decide +kernel
theorem dX10_init_70 : decode cX10_init 70 = .ok (.aload_n 2, 1) := by decide +kernel
theorem dX10_init_71 : decode cX10_init 71 = .ok (.putfield 36, 3) := by decide +kernel
theorem dX10_init_74 : decode cX10_init 74 = .ok (.return_, 1) := by decide +kernel
theorem dX10_meetAll_0 : decode cX10_meetAll 0 = .ok (.aload_n 0, 1) := by decide +kernel
theorem dX10_meetAll_1 : decode cX10_meetAll 1 = .ok (.aload_n 1, 1) := by decide +kernel
theorem dX10_meetAll_2 : decode cX10_meetAll 2 = .ok (.putfield 32, 3) := by decide +kernel
theorem dX10_meetAll_5 : decode cX10_meetAll 5 = .ok (.aload_n 0, 1) := by decide +kernel
theorem dX10_meetAll_6 : decode cX10_meetAll 6 = .ok (.aload_n 2, 1) := by decide +kernel
theorem dX10_meetAll_7 : decode cX10_meetAll 7 = .ok (.putfield 36, 3) := by decide +kernel
theorem dX10_meetAll_10 : decode cX10_meetAll 10 = .ok (.aload_n 0, 1) := by decide +kernel
theorem dX10_meetAll_11 : decode cX10_meetAll 11 = .ok (.getfield 14, 3) := by decide +kernel
theorem dX10_meetAll_14 : decode cX10_meetAll 14 = .ok (.sipush 2400, 3) := by decide +kernel
theorem dX10_meetAll_17 : decode cX10_meetAll 17 = .ok (.invokevirtual 40, 3) := by decide +kernel
theorem dX10_meetAll_20 : decode cX10_meetAll 20 = .ok (.aload_n 0, 1) := by decide +kernel
theorem dX10_meetAll_21 : decode cX10_meetAll 21 = .ok (.getfield 20, 3) := by decide +kernel
theorem dX10_meetAll_24 : decode cX10_meetAll 24 = .ok (.iconst 0, 1) := by decide +kernel
theorem dX10_meetAll_25 : decode cX10_meetAll 25 = .ok (.putfield 43, 3) := by decide +kernel
theorem dX10_meetAll_28 : decode cX10_meetAll 28 = .ok (.aload_n 0, 1) := by decide +kernel
theorem dX10_meetAll_29 : decode cX10_meetAll 29 = .ok (.getfield 23, 3) := by decide +kernel
theorem dX10_meetAll_32 : decode cX10_meetAll 32 = .ok (.iconst 0, 1) := by decide +kernel
theorem dX10_meetAll_33 : decode cX10_meetAll 33 = .ok (.putfield 43, 3) := by decide +kernel
theorem dX10_meetAll_36 : decode cX10_meetAll 36 = .ok (.aload_n 0, 1) := by decide +kernel
theorem dX10_meetAll_37 : decode cX10_meetAll 37 = .ok (.getfield 26, 3) := by decide +kernel
theorem dX10_meetAll_40 : decode cX10_meetAll 40 = .ok (.iconst 0, 1) := by decide +kernel
theorem dX10_meetAll_41 : decode cX10_meetAll 41 = .ok (.putfield 43, 3) := by decide +kernel
theorem dX10_meetAll_44 : decode cX10_meetAll 44 = .ok (.aload_n 0, 1) := by decide +kernel
theorem dX10_meetAll_45 : decode cX10_meetAll 45 = .ok (.getfield 29, 3) := by decide +kernel
theorem dX10_meetAll_48 : decode cX10_meetAll 48 = .ok (.iconst 0, 1) := by decide +kernel
theorem dX10_meetAll_49 : decode cX10_meetAll 49 = .ok (.putfield 43, 3) := by decide +kernel
theorem dX10_meetAll_52 : decode cX10_meetAll 52 = .ok (.aload_n 0, 1) := by decide +kernel
theorem dX10_meetAll_53 : decode cX10_meetAll 53 = .ok (.iconst 0, 1) := by decide +kernel
theorem dX10_meetAll_54 : decode cX10_meetAll 54 = .ok (.putfield 47, 3) := by decide +kernel
theorem dX10_meetAll_57 : decode cX10_meetAll 57 = .ok (.iconst 0, 1) := by decide +kernel
theorem dX10_meetAll_58 : decode cX10_meetAll 58 = .ok (.istore_n 3, 1) := by decide +kernel
theorem dX10_meetAll_59 : decode cX10_meetAll 59 = .ok (.iload_n 3, 1) := by decide +kernel
theorem dX10_meetAll_60 : decode cX10_meetAll 60 = .ok (.aload_n 1, 1) := by decide +kernel
theorem dX10_meetAll_61 : decode cX10_meetAll 61 = .ok (.getfield 50, 3) := by decide +kernel
theorem dX10_meetAll_64 : decode cX10_meetAll 64 = .ok (.if_icmp .ge 28, 3) := by decide +kernel
theorem dX10_meetAll_67 : decode cX10_meetAll 67 = .ok (.aload_n 1, 1) := by decide +kernel
theorem dX10_meetAll_68 : decode cX10_meetAll 68 = .ok (.iload_n 3, 1) := by decide +kernel
theorem dX10_meetAll_69 : decode cX10_meetAll 69 = .ok (.invokevirtual 54, 3) := by decide +kernel
theorem dX10_meetAll_72 : decode cX10_meetAll 72 = .ok (.ifCond .eq 14, 3) := by decide +kernel
theorem dX10_meetAll_75 : decode cX10_meetAll 75 = .ok (.aload_n 0, 1) := by decide +kernel
theorem dX10_meetAll_76 : decode cX10_meetAll 76 = .ok (.iload_n 3, 1) := by decide +kernel
theorem dX10_meetAll_77 : decode cX10_meetAll 77 = .ok (.iconst 0, 1) := by decide +kernel
theorem dX10_meetAll_78 : decode cX10_meetAll 78 = .ok (.iconst 0, 1) := by decide +kernel
theorem dX10_meetAll_79 : decode cX10_meetAll 79 = .ok (.invokestatic 58, 3) := by decide +kernel
theorem dX10_meetAll_82 : decode cX10_meetAll 82 = .ok (.invokevirtual 62, 3) := by decide +kernel
theorem dX10_meetAll_85 : decode cX10_meetAll 85 = .ok (.pop, 1) := by decide +kernel
theorem dX10_meetAll_86 : decode cX10_meetAll 86 = .ok (.iinc 3 1, 3) := by decide +kernel
theorem dX10_meetAll_89 : decode cX10_meetAll 89 = .ok (.goto (-30), 3) := by decide +kernel
theorem dX10_meetAll_92 : decode cX10_meetAll 92 = .ok (.aload_n 0, 1) := by decide +kernel
theorem dX10_meetAll_93 : decode cX10_meetAll 93 = .ok (.aload_n 0, 1) := by decide +kernel
theorem dX10_meetAll_94 : decode cX10_meetAll 94 = .ok (.getfield 47, 3) := by decide +kernel
theorem dX10_meetAll_97 : decode cX10_meetAll 97 = .ok (.putfield 65, 3) := by decide +kernel
theorem dX10_meetAll_100 : decode cX10_meetAll 100 = .ok (.iconst 0, 1) := by decide +kernel
theorem dX10_meetAll_101 : decode cX10_meetAll 101 = .ok (.istore_n 3, 1) := by decide +kernel
theorem dX10_meetAll_102 : decode cX10_meetAll 102 = .ok (.iload_n 3, 1) := by decide +kernel
theorem dX10_meetAll_103 : decode cX10_meetAll 103 = .ok (.aload_n 0, 1) := by decide +kernel
theorem dX10_meetAll_104 : decode cX10_meetAll 104 = .ok (.getfield 47, 3) := by decide +kernel
theorem dX10_meetAll_107 : decode cX10_meetAll 107 = .ok (.if_icmp .ge 26, 3) := by decide +kernel
theorem dX10_meetAll_110 : decode cX10_meetAll 110 = .ok (.iload_n 3, 1) := by decide +kernel
theorem dX10_meetAll_111 : decode cX10_meetAll 111 = .ok (.sipush 1000, 3) := by decide +kernel
theorem dX10_meetAll_114 : decode cX10_meetAll 114 = .ok (.if_icmp .ge 19, 3) := by decide +kernel
theorem dX10_meetAll_117 : decode cX10_meetAll 117 = .ok (.aload_n 0, 1) := by decide +kernel
theorem dX10_meetAll_118 : decode cX10_meetAll 118 = .ok (.iload_n 3, 1) := by decide +kernel
theorem dX10_meetAll_119 : decode cX10_meetAll 119 = .ok (.invokevirtual 68, 3) := by decide +kernel
theorem dX10_meetAll_122 : decode cX10_meetAll 122 = .ok (.ifCond .ne 5, 3) := by decide +kernel
theorem dX10_meetAll_125 : decode cX10_meetAll 125 = .ok (.iconst 0, 1) := by decide +kernel
theorem dX10_meetAll_126 : decode cX10_meetAll 126 = .ok (.ireturn, 1) := by decide +kernel
theorem dX10_meetAll_127 : decode cX10_meetAll 127 = .ok (.iinc 3 1, 3) := by decide +kernel
theorem dX10_meetAll_130 : decode cX10_meetAll 130 = .ok (.goto (-28), 3) := by decide +kernel
theorem dX10_meetAll_133 : decode cX10_meetAll 133 = .ok (.iconst 1, 1) := by decide +kernel
theorem dX10_meetAll_134 : decode cX10_meetAll 134 = .ok (.ireturn, 1) := by decide +kernel
theorem dX10_meetFrom_0 : decode cX10_meetFrom 0 = .ok (.iconst 0, 1) := by decide +kernel
theorem dX10_meetFrom_1 : decode cX10_meetFrom 1 = .ok (.istore_n 2, 1) := by decide +kernel
theorem dX10_meetFrom_2 : decode cX10_meetFrom 2 = .ok (.iload_n 2, 1) := by decide +kernel
theorem dX10_meetFrom_3 : decode cX10_meetFrom 3 = .ok (.aload_n 0, 1) := by decide +kernel
theorem dX10_meetFrom_4 : decode cX10_meetFrom 4 = .ok (.getfield 32, 3) := by decide +kernel
theorem dX10_meetFrom_7 : decode cX10_meetFrom 7 = .ok (.getfield 71, 3) := by decide +kernel
theorem dX10_meetFrom_10 : decode cX10_meetFrom 10 = .ok (.if_icmp .ge 64, 3) := by decide +kernel
theorem dX10_meetFrom_13 : decode cX10_meetFrom 13 = .ok (.aload_n 0, 1) := by decide +kernel
theorem dX10_meetFrom_14 : decode cX10_meetFrom 14 = .ok (.iload_n 1, 1) := by decide +kernel
theorem dX10_meetFrom_15 : decode cX10_meetFrom 15 = .ok (.iload_n 2, 1) := by decide +kernel
theorem dX10_meetFrom_16 : decode cX10_meetFrom 16 = .ok (.invokevirtual 74, 3) := by decide +kernel
theorem dX10_meetFrom_19 : decode cX10_meetFrom 19 = .ok (.istore_n 3, 1) := by decide +kernel
theorem dX10_meetFrom_20 : decode cX10_meetFrom 20 = .ok (.iconst 0, 1) := by decide +kernel
theorem dX10_meetFrom_21 : decode cX10_meetFrom 21 = .ok (.istore 4, 2) := by decide +kernel
theorem dX10_meetFrom_23 : decode cX10_meetFrom 23 = .ok (.iload 4, 2) := by decide +kernel
theorem dX10_meetFrom_25 : decode cX10_meetFrom 25 = .ok (.iload_n 3, 1) := by decide +kernel
theorem dX10_meetFrom_26 : decode cX10_meetFrom 26 = .ok (.if_icmp .ge 42, 3) := by decide +kernel
theorem dX10_meetFrom_29 : decode cX10_meetFrom 29 = .ok (.aload_n 0, 1) := by decide +kernel
theorem dX10_meetFrom_30 : decode cX10_meetFrom 30 = .ok (.iload_n 1, 1) := by decide +kernel
theorem dX10_meetFrom_31 : decode cX10_meetFrom 31 = .ok (.iload_n 2, 1) := by decide +kernel
theorem dX10_meetFrom_32 : decode cX10_meetFrom 32 = .ok (.iload 4, 2) := by decide +kernel
theorem dX10_meetFrom_34 : decode cX10_meetFrom 34 = .ok (.invokevirtual 78, 3) := by decide +kernel
theorem dX10_meetFrom_37 : decode cX10_meetFrom 37 = .ok (.istore 5, 2) := by decide +kernel
theorem dX10_meetFrom_39 : decode cX10_meetFrom 39 = .ok (.aload_n 0, 1) := by decide +kernel
theorem dX10_meetFrom_40 : decode cX10_meetFrom 40 = .ok (.getfield 14, 3) := by decide +kernel
theorem dX10_meetFrom_43 : decode cX10_meetFrom 43 = .ok (.iload 5, 2) := by decide +kernel
theorem dX10_meetFrom_45 : decode cX10_meetFrom 45 = .ok (.invokevirtual 81, 3) := by decide +kernel
theorem dX10_meetFrom_48 : decode cX10_meetFrom 48 = .ok (.ifCond .ne 14, 3) := by decide +kernel
theorem dX10_meetFrom_51 : decode cX10_meetFrom 51 = .ok (.aload_n 0, 1) := by decide +kernel
theorem dX10_meetFrom_52 : decode cX10_meetFrom 52 = .ok (.iload 5, 2) := by decide +kernel
theorem dX10_meetFrom_54 : decode cX10_meetFrom 54 = .ok (.invokevirtual 62, 3) := by decide +kernel
theorem dX10_meetFrom_57 : decode cX10_meetFrom 57 = .ok (.ifCond .ne 5, 3) := by decide +kernel
theorem dX10_meetFrom_60 : decode cX10_meetFrom 60 = .ok (.iconst 0, 1) := by decide +kernel
theorem dX10_meetFrom_61 : decode cX10_meetFrom 61 = .ok (.ireturn, 1) := by decide +kernel
theorem dX10_meetFrom_62 : decode cX10_meetFrom 62 = .ok (.iinc 4 1, 3) := by decide +kernel
theorem dX10_meetFrom_65 : decode cX10_meetFrom 65 = .ok (.goto (-42), 3) := by decide +kernel
theorem dX10_meetFrom_68 : decode cX10_meetFrom 68 = .ok (.iinc 2 1, 3) := by decide +kernel
theorem dX10_meetFrom_71 : decode cX10_meetFrom 71 = .ok (.goto (-69), 3) := by decide +kernel
theorem dX10_meetFrom_74 : decode cX10_meetFrom 74 = .ok (.iconst 1, 1) := by decide +kernel
theorem dX10_meetFrom_75 : decode cX10_meetFrom 75 = .ok (.ireturn, 1) := by decide +kernel
theorem dX10_enter_0 : decode cX10_enter 0 = .ok (.aload_n 0, 1) := by decide +kernel
theorem dX10_enter_1 : decode cX10_enter 1 = .ok (.getfield 47, 3) := by decide +kernel
theorem dX10_enter_4 : decode cX10_enter 4 = .ok (.sipush 1000, 3) := by decide +kernel
theorem dX10_enter_7 : decode cX10_enter 7 = .ok (.if_icmp .lt 5, 3) := by decide +kernel
theorem dX10_enter_10 : decode cX10_enter 10 = .ok (.iconst 0, 1) := by decide +kernel
theorem dX10_enter_11 : decode cX10_enter 11 = .ok (.ireturn, 1) := by decide +kernel
theorem dX10_enter_12 : decode cX10_enter 12 = .ok (.iload_n 1, 1) := by decide +kernel
theorem dX10_enter_13 : decode cX10_enter 13 = .ok (.sipush 600, 3) := by decide +kernel
theorem dX10_enter_16 : decode cX10_enter 16 = .ok (.idiv, 1) := by decide +kernel
theorem dX10_enter_17 : decode cX10_enter 17 = .ok (.istore_n 2, 1) := by decide +kernel
theorem dX10_enter_18 : decode cX10_enter 18 = .ok (.iload_n 1, 1) := by decide +kernel
theorem dX10_enter_19 : decode cX10_enter 19 = .ok (.iconst 2, 1) := by decide +kernel
theorem dX10_enter_20 : decode cX10_enter 20 = .ok (.idiv, 1) := by decide +kernel
theorem dX10_enter_21 : decode cX10_enter 21 = .ok (.sipush 300, 3) := by decide +kernel
theorem dX10_enter_24 : decode cX10_enter 24 = .ok (.irem, 1) := by decide +kernel
theorem dX10_enter_25 : decode cX10_enter 25 = .ok (.istore_n 3, 1) := by decide +kernel
theorem dX10_enter_26 : decode cX10_enter 26 = .ok (.iload_n 1, 1) := by decide +kernel
theorem dX10_enter_27 : decode cX10_enter 27 = .ok (.iconst 1, 1) := by decide +kernel
theorem dX10_enter_28 : decode cX10_enter 28 = .ok (.iand, 1) := by decide +kernel
theorem dX10_enter_29 : decode cX10_enter 29 = .ok (.iconst 1, 1) := by decide +kernel
theorem dX10_enter_30 : decode cX10_enter 30 = .ok (.if_icmp .ne 7, 3) := by decide +kernel
theorem dX10_enter_33 : decode cX10_enter 33 = .ok (.iconst 1, 1) := by decide +kernel
theorem dX10_enter_34 : decode cX10_enter 34 = .ok (.goto 4, 3) := by decide +kernel
theorem dX10_enter_37 : decode cX10_enter 37 = .ok (.iconst 0, 1) := by decide +kernel
theorem dX10_enter_38 : decode cX10_enter 38 = .ok (.istore 4, 2) := by decide +kernel
theorem dX10_enter_40 : decode cX10_enter 40 = .ok (.aload_n 0, 1) := by decide +kernel
theorem dX10_enter_41 : decode cX10_enter 41 = .ok (.getfield 36, 3) := by decide +kernel
theorem dX10_enter_44 : decode cX10_enter 44 = .ok (.iload_n 3, 1) := by decide +kernel
theorem dX10_enter_45 : decode cX10_enter 45 = .ok (.invokevirtual 85, 3) := by decide +kernel
theorem dX10_enter_48 : decode cX10_enter 48 = .ok (.istore 5, 2) := by decide +kernel
theorem dX10_enter_50 : decode cX10_enter 50 = .ok (.aload_n 0, 1) := by decide +kernel
theorem dX10_enter_51 : decode cX10_enter 51 = .ok (.getfield 20, 3) := by decide +kernel
theorem dX10_enter_54 : decode cX10_enter 54 = .ok (.iload_n 2, 1) := by decide +kernel
theorem dX10_enter_55 : decode cX10_enter 55 = .ok (.invokevirtual 90, 3) := by decide +kernel
theorem dX10_enter_58 : decode cX10_enter 58 = .ok (.aload_n 0, 1) := by decide +kernel
theorem dX10_enter_59 : decode cX10_enter 59 = .ok (.getfield 23, 3) := by decide +kernel
theorem dX10_enter_62 : decode cX10_enter 62 = .ok (.iload_n 3, 1) := by decide +kernel
theorem dX10_enter_63 : decode cX10_enter 63 = .ok (.invokevirtual 90, 3) := by decide +kernel
theorem dX10_enter_66 : decode cX10_enter 66 = .ok (.aload_n 0, 1) := by decide +kernel
theorem dX10_enter_67 : decode cX10_enter 67 = .ok (.getfield 26, 3) := by decide +kernel
theorem dX10_enter_70 : decode cX10_enter 70 = .ok (.iload 4, 2) := by decide +kernel
theorem dX10_enter_72 : decode cX10_enter 72 = .ok (.ifCond .eq 12, 3) := by decide +kernel
theorem dX10_enter_75 : decode cX10_enter 75 = .ok (.iload 5, 2) := by decide +kernel
theorem dX10_enter_77 : decode cX10_enter 77 = .ok (.ifCond .eq 7, 3) := by decide +kernel
theorem dX10_enter_80 : decode cX10_enter 80 = .ok (.iconst 1, 1) := by decide +kernel
theorem dX10_enter_81 : decode cX10_enter 81 = .ok (.goto 4, 3) := by decide +kernel
theorem dX10_enter_84 : decode cX10_enter 84 = .ok (.iconst 0, 1) := by decide +kernel
theorem dX10_enter_85 : decode cX10_enter 85 = .ok (.invokevirtual 90, 3) := by decide +kernel
theorem dX10_enter_88 : decode cX10_enter 88 = .ok (.aload_n 0, 1) := by decide +kernel
theorem dX10_enter_89 : decode cX10_enter 89 = .ok (.getfield 29, 3) := by decide +kernel
theorem dX10_enter_92 : decode cX10_enter 92 = .ok (.iload 4, 2) := by decide +kernel
theorem dX10_enter_94 : decode cX10_enter 94 = .ok (.ifCond .eq 11, 3) := by decide +kernel
theorem dX10_enter_97 : decode cX10_enter 97 = .ok (.iload 5, 2) := by decide +kernel
theorem dX10_enter_99 : decode cX10_enter 99 = .ok (.ifCond .ne 21, 3) := by decide +kernel
theorem dX10_enter_102 : decode cX10_enter 102 = .ok (.goto 14, 3) := by decide +kernel
theorem dX10_enter_105 : decode cX10_enter 105 = .ok (.aload_n 0, 1) := by decide +kernel
theorem dX10_enter_106 : decode cX10_enter 106 = .ok (.getfield 32, 3) := by decide +kernel
theorem dX10_enter_109 : decode cX10_enter 109 = .ok (.iload_n 2, 1) := by decide +kernel
theorem dX10_enter_110 : decode cX10_enter 110 = .ok (.invokevirtual 93, 3) := by decide +kernel
theorem dX10_enter_113 : decode cX10_enter 113 = .ok (.ifCond .eq 7, 3) := by decide +kernel
theorem dX10_enter_116 : decode cX10_enter 116 = .ok (.iconst 1, 1) := by decide +kernel
theorem dX10_enter_117 : decode cX10_enter 117 = .ok (.goto 4, 3) := by decide +kernel
theorem dX10_enter_120 : decode cX10_enter 120 = .ok (.iconst 0, 1) := by decide +kernel
theorem dX10_enter_121 : decode cX10_enter 121 = .ok (.invokevirtual 90, 3) := by decide +kernel
theorem dX10_enter_124 : decode cX10_enter 124 = .ok (.aload_n 0, 1) := by decide +kernel
theorem dX10_enter_125 : decode cX10_enter 125 = .ok (.dup, 1) := by decide +kernel
theorem dX10_enter_126 : decode cX10_enter 126 = .ok (.getfield 47, 3) := by decide +kernel
theorem dX10_enter_129 : decode cX10_enter 129 = .ok (.iconst 1, 1) := by decide +kernel
theorem dX10_enter_130 : decode cX10_enter 130 = .ok (.iadd, 1) := by decide +kernel
theorem dX10_enter_131 : decode cX10_enter 131 = .ok (.putfield 47, 3) := by decide +kernel
theorem dX10_enter_134 : decode cX10_enter 134 = .ok (.aload_n 0, 1) := by decide +kernel
theorem dX10_enter_135 : decode cX10_enter 135 = .ok (.getfield 14, 3) := by decide +kernel
theorem dX10_enter_138 : decode cX10_enter 138 = .ok (.iload_n 1, 1) := by decide +kernel
theorem dX10_enter_139 : decode cX10_enter 139 = .ok (.aload_n 0, 1) := by decide +kernel
theorem dX10_enter_140 : decode cX10_enter 140 = .ok (.getfield 47, 3) := by decide +kernel
theorem dX10_enter_143 : decode cX10_enter 143 = .ok (.invokevirtual 94, 3) := by decide +kernel
theorem dX10_enter_146 : decode cX10_enter 146 = .ok (.iconst 1, 1) := by decide +kernel
theorem dX10_enter_147 : decode cX10_enter 147 = .ok (.ireturn, 1) := by decide +kernel
theorem dX10_codeOf_0 : decode cX10_codeOf 0 = .ok (.iload_n 0, 1) := by decide +kernel
theorem dX10_codeOf_1 : decode cX10_codeOf 1 = .ok (.sipush 300, 3) := by decide +kernel
theorem dX10_codeOf_4 : decode cX10_codeOf 4 = .ok (.imul, 1) := by decide +kernel
theorem dX10_codeOf_5 : decode cX10_codeOf 5 = .ok (.iload_n 1, 1) := by decide +kernel
theorem dX10_codeOf_6 : decode cX10_codeOf 6 = .ok (.iadd, 1) := by decide +kernel
theorem dX10_codeOf_7 : decode cX10_codeOf 7 = .ok (.iconst 2, 1) := by decide +kernel
theorem dX10_codeOf_8 : decode cX10_codeOf 8 = .ok (.imul, 1) := by decide +kernel
theorem dX10_codeOf_9 : decode cX10_codeOf 9 = .ok (.iload_n 2, 1) := by decide +kernel
theorem dX10_codeOf_10 : decode cX10_codeOf 10 = .ok (.iadd, 1) := by decide +kernel
theorem dX10_codeOf_11 : decode cX10_codeOf 11 = .ok (.ireturn, 1) := by decide +kernel
theorem dX10_codeAfter_0 : decode cX10_codeAfter 0 = .ok (.aload_n 0, 1) := by decide +kernel
theorem dX10_codeAfter_1 : decode cX10_codeAfter 1 = .ok (.getfield 23, 3) := by decide +kernel
theorem dX10_codeAfter_4 : decode cX10_codeAfter 4 = .ok (.iload_n 1, 1) := by decide +kernel
theorem dX10_codeAfter_5 : decode cX10_codeAfter 5 = .ok (.invokevirtual 81, 3) := by decide +kernel
theorem dX10_codeAfter_8 : decode cX10_codeAfter 8 = .ok (.istore 4, 2) := by decide +kernel
theorem dX10_codeAfter_10 : decode cX10_codeAfter 10 = .ok (.aload_n 0, 1) := by decide +kernel
theorem dX10_codeAfter_11 : decode cX10_codeAfter 11 = .ok (.getfield 36, 3) := by decide +kernel
theorem dX10_codeAfter_14 : decode cX10_codeAfter 14 = .ok (.iload 4, 2) := by decide +kernel
theorem dX10_codeAfter_16 : decode cX10_codeAfter 16 = .ok (.iload_n 2, 1) := by decide +kernel
theorem dX10_codeAfter_17 : decode cX10_codeAfter 17 = .ok (.invokevirtual 98, 3) := by decide +kernel
theorem dX10_codeAfter_20 : decode cX10_codeAfter 20 = .ok (.istore 5, 2) := by decide +kernel
theorem dX10_codeAfter_22 : decode cX10_codeAfter 22 = .ok (.iload 5, 2) := by decide +kernel
theorem dX10_codeAfter_24 : decode cX10_codeAfter 24 = .ok (.ifCond .gt 5, 3) := by decide +kernel
theorem dX10_codeAfter_27 : decode cX10_codeAfter 27 = .ok (.iconst (-1), 1) := by decide +kernel
theorem dX10_codeAfter_28 : decode cX10_codeAfter 28 = .ok (.ireturn, 1) := by decide +kernel
theorem dX10_codeAfter_29 : decode cX10_codeAfter 29 = .ok (.aload_n 0, 1) := by decide +kernel
theorem dX10_codeAfter_30 : decode cX10_codeAfter 30 = .ok (.getfield 32, 3) := by decide +kernel
theorem dX10_codeAfter_33 : decode cX10_codeAfter 33 = .ok (.aload_n 0, 1) := by decide +kernel
theorem dX10_codeAfter_34 : decode cX10_codeAfter 34 = .ok (.getfield 20, 3) := by decide +kernel
theorem dX10_codeAfter_37 : decode cX10_codeAfter 37 = .ok (.iload_n 1, 1) := by decide +kernel
theorem dX10_codeAfter_38 : decode cX10_codeAfter 38 = .ok (.invokevirtual 81, 3) := by decide +kernel
theorem dX10_codeAfter_41 : decode cX10_codeAfter 41 = .ok (.iload_n 2, 1) := by decide +kernel
theorem dX10_codeAfter_42 : decode cX10_codeAfter 42 = .ok (.iload_n 3, 1) := by decide +kernel
theorem dX10_codeAfter_43 : decode cX10_codeAfter 43 = .ok (.iload 5, 2) := by decide +kernel
theorem dX10_codeAfter_45 : decode cX10_codeAfter 45 = .ok (.idiv, 1) := by decide +kernel
theorem dX10_codeAfter_46 : decode cX10_codeAfter 46 = .ok (.invokevirtual 99, 3) := by decide +kernel
theorem dX10_codeAfter_49 : decode cX10_codeAfter 49 = .ok (.istore 6, 2) := by decide +kernel
theorem dX10_codeAfter_51 : decode cX10_codeAfter 51 = .ok (.iload 6, 2) := by decide +kernel
theorem dX10_codeAfter_53 : decode cX10_codeAfter 53 = .ok (.aload_n 0, 1) := by decide +kernel
theorem dX10_codeAfter_54 : decode cX10_codeAfter 54 = .ok (.getfield 36, 3) := by decide +kernel
theorem dX10_codeAfter_57 : decode cX10_codeAfter 57 = .ok (.iload 4, 2) := by decide +kernel
theorem dX10_codeAfter_59 : decode cX10_codeAfter 59 = .ok (.iload_n 2, 1) := by decide +kernel
theorem dX10_codeAfter_60 : decode cX10_codeAfter 60 = .ok (.iload_n 3, 1) := by decide +kernel
theorem dX10_codeAfter_61 : decode cX10_codeAfter 61 = .ok (.iload 5, 2) := by decide +kernel
theorem dX10_codeAfter_63 : decode cX10_codeAfter 63 = .ok (.irem, 1) := by decide +kernel
theorem dX10_codeAfter_64 : decode cX10_codeAfter 64 = .ok (.invokevirtual 102, 3) := by decide +kernel
theorem dX10_codeAfter_67 : decode cX10_codeAfter 67 = .ok (.aload_n 0, 1) := by decide +kernel
theorem dX10_codeAfter_68 : decode cX10_codeAfter 68 = .ok (.getfield 29, 3) := by decide +kernel
theorem dX10_codeAfter_71 : decode cX10_codeAfter 71 = .ok (.iload_n 1, 1) := by decide +kernel
theorem dX10_codeAfter_72 : decode cX10_codeAfter 72 = .ok (.invokevirtual 81, 3) := by decide +kernel
theorem dX10_codeAfter_75 : decode cX10_codeAfter 75 = .ok (.invokestatic 58, 3) := by decide +kernel
theorem dX10_codeAfter_78 : decode cX10_codeAfter 78 = .ok (.ireturn, 1) := by decide +kernel
theorem dX10_vertices_0 : decode cX10_vertices 0 = .ok (.aload_n 0, 1) := by decide +kernel
theorem dX10_vertices_1 : decode cX10_vertices 1 = .ok (.getfield 47, 3) := by decide +kernel
theorem dX10_vertices_4 : decode cX10_vertices 4 = .ok (.ireturn, 1) := by decide +kernel
theorem dX10_letterCount_0 : decode cX10_letterCount 0 = .ok (.aload_n 0, 1) := by decide +kernel
theorem dX10_letterCount_1 : decode cX10_letterCount 1 = .ok (.getfield 32, 3) := by decide +kernel
theorem dX10_letterCount_4 : decode cX10_letterCount 4 = .ok (.getfield 71, 3) := by decide +kernel
theorem dX10_letterCount_7 : decode cX10_letterCount 7 = .ok (.ireturn, 1) := by decide +kernel
theorem dX10_isFirst_0 : decode cX10_isFirst 0 = .ok (.iload_n 1, 1) := by decide +kernel
theorem dX10_isFirst_1 : decode cX10_isFirst 1 = .ok (.aload_n 0, 1) := by decide +kernel
theorem dX10_isFirst_2 : decode cX10_isFirst 2 = .ok (.getfield 65, 3) := by decide +kernel
theorem dX10_isFirst_5 : decode cX10_isFirst 5 = .ok (.if_icmp .ge 7, 3) := by decide +kernel
theorem dX10_isFirst_8 : decode cX10_isFirst 8 = .ok (.iconst 1, 1) := by decide +kernel
theorem dX10_isFirst_9 : decode cX10_isFirst 9 = .ok (.goto 4, 3) := by decide +kernel
theorem dX10_isFirst_12 : decode cX10_isFirst 12 = .ok (.iconst 0, 1) := by decide +kernel
theorem dX10_isFirst_13 : decode cX10_isFirst 13 = .ok (.ireturn, 1) := by decide +kernel
theorem dX10_isMarked_0 : decode cX10_isMarked 0 = .ok (.aload_n 0, 1) := by decide +kernel
theorem dX10_isMarked_1 : decode cX10_isMarked 1 = .ok (.getfield 26, 3) := by decide +kernel
theorem dX10_isMarked_4 : decode cX10_isMarked 4 = .ok (.iload_n 1, 1) := by decide +kernel
theorem dX10_isMarked_5 : decode cX10_isMarked 5 = .ok (.invokevirtual 81, 3) := by decide +kernel
theorem dX10_isMarked_8 : decode cX10_isMarked 8 = .ok (.ifCond .eq 7, 3) := by decide +kernel
theorem dX10_isMarked_11 : decode cX10_isMarked 11 = .ok (.iconst 1, 1) := by decide +kernel
theorem dX10_isMarked_12 : decode cX10_isMarked 12 = .ok (.goto 4, 3) := by decide +kernel
theorem dX10_isMarked_15 : decode cX10_isMarked 15 = .ok (.iconst 0, 1) := by decide +kernel
theorem dX10_isMarked_16 : decode cX10_isMarked 16 = .ok (.ireturn, 1) := by decide +kernel
theorem dX10_fan_0 : decode cX10_fan 0 = .ok (.aload_n 0, 1) := by decide +kernel
theorem dX10_fan_1 : decode cX10_fan 1 = .ok (.getfield 32, 3) := by decide +kernel
theorem dX10_fan_4 : decode cX10_fan 4 = .ok (.aload_n 0, 1) := by decide +kernel
theorem dX10_fan_5 : decode cX10_fan 5 = .ok (.getfield 20, 3) := by decide +kernel
theorem dX10_fan_8 : decode cX10_fan 8 = .ok (.iload_n 1, 1) := by decide +kernel
theorem dX10_fan_9 : decode cX10_fan 9 = .ok (.invokevirtual 81, 3) := by decide +kernel
theorem dX10_fan_12 : decode cX10_fan 12 = .ok (.iload_n 2, 1) := by decide +kernel
theorem dX10_fan_13 : decode cX10_fan 13 = .ok (.invokevirtual 103, 3) := by decide +kernel
theorem dX10_fan_16 : decode cX10_fan 16 = .ok (.aload_n 0, 1) := by decide +kernel
theorem dX10_fan_17 : decode cX10_fan 17 = .ok (.getfield 36, 3) := by decide +kernel
theorem dX10_fan_20 : decode cX10_fan 20 = .ok (.aload_n 0, 1) := by decide +kernel
theorem dX10_fan_21 : decode cX10_fan 21 = .ok (.getfield 23, 3) := by decide +kernel
theorem dX10_fan_24 : decode cX10_fan 24 = .ok (.iload_n 1, 1) := by decide +kernel
theorem dX10_fan_25 : decode cX10_fan 25 = .ok (.invokevirtual 81, 3) := by decide +kernel
theorem dX10_fan_28 : decode cX10_fan 28 = .ok (.iload_n 2, 1) := by decide +kernel
theorem dX10_fan_29 : decode cX10_fan 29 = .ok (.invokevirtual 98, 3) := by decide +kernel
theorem dX10_fan_32 : decode cX10_fan 32 = .ok (.imul, 1) := by decide +kernel
theorem dX10_fan_33 : decode cX10_fan 33 = .ok (.ireturn, 1) := by decide +kernel
theorem dX10_goal_0 : decode cX10_goal 0 = .ok (.aload_n 0, 1) := by decide +kernel
theorem dX10_goal_1 : decode cX10_goal 1 = .ok (.getfield 14, 3) := by decide +kernel
theorem dX10_goal_4 : decode cX10_goal 4 = .ok (.aload_n 0, 1) := by decide +kernel
theorem dX10_goal_5 : decode cX10_goal 5 = .ok (.iload_n 1, 1) := by decide +kernel
theorem dX10_goal_6 : decode cX10_goal 6 = .ok (.iload_n 2, 1) := by decide +kernel
theorem dX10_goal_7 : decode cX10_goal 7 = .ok (.iload_n 3, 1) := by decide +kernel
theorem dX10_goal_8 : decode cX10_goal 8 = .ok (.invokevirtual 78, 3) := by decide +kernel
theorem dX10_goal_11 : decode cX10_goal 11 = .ok (.invokevirtual 81, 3) := by decide +kernel
theorem dX10_goal_14 : decode cX10_goal 14 = .ok (.iconst 1, 1) := by decide +kernel
theorem dX10_goal_15 : decode cX10_goal 15 = .ok (.isub, 1) := by decide +kernel
theorem dX10_goal_16 : decode cX10_goal 16 = .ok (.ireturn, 1) := by decide +kernel
