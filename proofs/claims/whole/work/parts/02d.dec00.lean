theorem dX11_cell_0 : decode cX11_cell 0 = .ok (.iload_n 0, 1) := by decide +kernel
theorem dX11_cell_1 : decode cX11_cell 1 = .ok (.bipush 20, 2) := by decide +kernel
theorem dX11_cell_3 : decode cX11_cell 3 = .ok (.imul, 1) := by decide +kernel
theorem dX11_cell_4 : decode cX11_cell 4 = .ok (.iload_n 1, 1) := by decide +kernel
theorem dX11_cell_5 : decode cX11_cell 5 = .ok (.iadd, 1) := by decide +kernel
theorem dX11_cell_6 : decode cX11_cell 6 = .ok (.ireturn, 1) := by decide +kernel
theorem dX0_plan_0 : decode cX0_plan 0 = .ok (.aload_n 0, 1) := by decide +kernel
theorem dX0_plan_1 : decode cX0_plan 1 = .ok (.getfield 9, 3) := by decide +kernel
theorem dX0_plan_4 : decode cX0_plan 4 = .ok (.iconst 0, 1) := by decide +kernel
theorem dX0_plan_5 : decode cX0_plan 5 = .ok (.invokestatic 15, 3) := by decide +kernel
theorem dX0_plan_8 : decode cX0_plan 8 = .ok (.aload_n 1, 1) := by decide +kernel
theorem dX0_plan_9 : decode cX0_plan 9 = .ok (.getfield 21, 3) := by decide +kernel
theorem dX0_plan_12 : decode cX0_plan 12 = .ok (.astore_n 3, 1) := by decide +kernel
theorem dX0_plan_13 : decode cX0_plan 13 = .ok (.aload_n 3, 1) := by decide +kernel
theorem dX0_plan_14 : decode cX0_plan 14 = .ok (.getfield 27, 3) := by decide +kernel
theorem dX0_plan_17 : decode cX0_plan 17 = .ok (.iload_n 2, 1) := by decide +kernel
theorem dX0_plan_18 : decode cX0_plan 18 = .ok (.iaload, 1) := by decide +kernel
theorem dX0_plan_19 : decode cX0_plan 19 = .ok (.istore 4, 2) := by decide +kernel
theorem dX0_plan_21 : decode cX0_plan 21 = .ok (.aload_n 3, 1) := by decide +kernel
theorem dX0_plan_22 : decode cX0_plan 22 = .ok (.getfield 32, 3) := by decide +kernel
theorem dX0_plan_25 : decode cX0_plan 25 = .ok (.iload_n 2, 1) := by decide +kernel
theorem dX0_plan_26 : decode cX0_plan 26 = .ok (.iaload, 1) := by decide +kernel
theorem dX0_plan_27 : decode cX0_plan 27 = .ok (.aload_n 1, 1) := by decide +kernel
theorem dX0_plan_28 : decode cX0_plan 28 = .ok (.getfield 35, 3) := by decide +kernel
theorem dX0_plan_31 : decode cX0_plan 31 = .ok (.getfield 39, 3) := by decide +kernel
theorem dX0_plan_34 : decode cX0_plan 34 = .ok (.iload 4, 2) := by decide +kernel
theorem dX0_plan_36 : decode cX0_plan 36 = .ok (.iaload, 1) := by decide +kernel
theorem dX0_plan_37 : decode cX0_plan 37 = .ok (.invokestatic 44, 3) := by decide +kernel
theorem dX0_plan_40 : decode cX0_plan 40 = .ok (.istore 5, 2) := by decide +kernel
theorem dX0_plan_42 : decode cX0_plan 42 = .ok (.iconst 0, 1) := by decide +kernel
theorem dX0_plan_43 : decode cX0_plan 43 = .ok (.istore 6, 2) := by decide +kernel
theorem dX0_plan_45 : decode cX0_plan 45 = .ok (.aload_n 3, 1) := by decide +kernel
theorem dX0_plan_46 : decode cX0_plan 46 = .ok (.getfield 50, 3) := by decide +kernel
theorem dX0_plan_49 : decode cX0_plan 49 = .ok (.iload_n 2, 1) := by decide +kernel
theorem dX0_plan_50 : decode cX0_plan 50 = .ok (.iaload, 1) := by decide +kernel
theorem dX0_plan_51 : decode cX0_plan 51 = .ok (.istore 7, 2) := by decide +kernel
theorem dX0_plan_53 : decode cX0_plan 53 = .ok (.iload 7, 2) := by decide +kernel
theorem dX0_plan_55 : decode cX0_plan 55 = .ok (.aload_n 3, 1) := by decide +kernel
theorem dX0_plan_56 : decode cX0_plan 56 = .ok (.getfield 53, 3) := by decide +kernel
theorem dX0_plan_59 : decode cX0_plan 59 = .ok (.iload_n 2, 1) := by decide +kernel
theorem dX0_plan_60 : decode cX0_plan 60 = .ok (.iaload, 1) := by decide +kernel
theorem dX0_plan_61 : decode cX0_plan 61 = .ok (.if_icmp .gt 120, 3) := by decide +kernel
theorem dX0_plan_64 : decode cX0_plan 64 = .ok (.iload 7, 2) := by decide +kernel
theorem dX0_plan_66 : decode cX0_plan 66 = .ok (.istore 8, 2) := by decide +kernel
theorem dX0_plan_68 : decode cX0_plan 68 = .ok (.iload 7, 2) := by decide +kernel
theorem dX0_plan_70 : decode cX0_plan 70 = .ok (.iconst 1, 1) := by decide +kernel
theorem dX0_plan_71 : decode cX0_plan 71 = .ok (.isub, 1) := by decide +kernel
theorem dX0_plan_72 : decode cX0_plan 72 = .ok (.istore 9, 2) := by decide +kernel
theorem dX0_plan_74 : decode cX0_plan 74 = .ok (.iload 9, 2) := by decide +kernel
theorem dX0_plan_76 : decode cX0_plan 76 = .ok (.ifCond .lt 56, 3) := by decide +kernel
theorem dX0_plan_79 : decode cX0_plan 79 = .ok (.iload 9, 2) := by decide +kernel
theorem dX0_plan_81 : decode cX0_plan 81 = .ok (.iload 7, 2) := by decide +kernel
theorem dX0_plan_83 : decode cX0_plan 83 = .ok (.iload 5, 2) := by decide +kernel
theorem dX0_plan_85 : decode cX0_plan 85 = .ok (.isub, 1) := by decide +kernel
theorem dX0_plan_86 : decode cX0_plan 86 = .ok (.if_icmp .lt 46, 3) := by decide +kernel
theorem dX0_plan_89 : decode cX0_plan 89 = .ok (.aload_n 1, 1) := by decide +kernel
theorem dX0_plan_90 : decode cX0_plan 90 = .ok (.getfield 35, 3) := by decide +kernel
theorem dX0_plan_93 : decode cX0_plan 93 = .ok (.getfield 56, 3) := by decide +kernel
theorem dX0_plan_96 : decode cX0_plan 96 = .ok (.iload 4, 2) := by decide +kernel
theorem dX0_plan_98 : decode cX0_plan 98 = .ok (.iload 9, 2) := by decide +kernel
theorem dX0_plan_100 : decode cX0_plan 100 = .ok (.invokestatic 59, 3) := by decide +kernel
theorem dX0_plan_103 : decode cX0_plan 103 = .ok (.iaload, 1) := by decide +kernel
theorem dX0_plan_104 : decode cX0_plan 104 = .ok (.aload_n 1, 1) := by decide +kernel
theorem dX0_plan_105 : decode cX0_plan 105 = .ok (.getfield 35, 3) := by decide +kernel
theorem dX0_plan_108 : decode cX0_plan 108 = .ok (.getfield 56, 3) := by decide +kernel
theorem dX0_plan_111 : decode cX0_plan 111 = .ok (.iload 4, 2) := by decide +kernel
theorem dX0_plan_113 : decode cX0_plan 113 = .ok (.iload 8, 2) := by decide +kernel
theorem dX0_plan_115 : decode cX0_plan 115 = .ok (.invokestatic 59, 3) := by decide +kernel
theorem dX0_plan_118 : decode cX0_plan 118 = .ok (.iaload, 1) := by decide +kernel
theorem dX0_plan_119 : decode cX0_plan 119 = .ok (.if_icmp .ge 7, 3) := by decide +kernel
theorem dX0_plan_122 : decode cX0_plan 122 = .ok (.iload 9, 2) := by decide +kernel
theorem dX0_plan_124 : decode cX0_plan 124 = .ok (.istore 8, 2) := by decide +kernel
theorem dX0_plan_126 : decode cX0_plan 126 = .ok (.iinc 9 (-1), 3) := by decide +kernel
theorem dX0_plan_129 : decode cX0_plan 129 = .ok (.goto (-55), 3) := by decide +kernel
theorem dX0_plan_132 : decode cX0_plan 132 = .ok (.aload_n 0, 1) := by decide +kernel
theorem dX0_plan_133 : decode cX0_plan 133 = .ok (.getfield 9, 3) := by decide +kernel
theorem dX0_plan_136 : decode cX0_plan 136 = .ok (.iload 8, 2) := by decide +kernel
theorem dX0_plan_138 : decode cX0_plan 138 = .ok (.dup2, 1) := by decide +kernel
theorem dX0_plan_139 : decode cX0_plan 139 = .ok (.iaload, 1) := by decide +kernel
theorem dX0_plan_140 : decode cX0_plan 140 = .ok (.aload_n 3, 1) := by decide +kernel
theorem dX0_plan_141 : decode cX0_plan 141 = .ok (.getfield 62, 3) := by decide +kernel
theorem dX0_plan_144 : decode cX0_plan 144 = .ok (.iload_n 2, 1) := by decide +kernel
theorem dX0_plan_145 : decode cX0_plan 145 = .ok (.iaload, 1) := by decide +kernel
theorem dX0_plan_146 : decode cX0_plan 146 = .ok (.iadd, 1) := by decide +kernel
theorem dX0_plan_147 : decode cX0_plan 147 = .ok (.iastore, 1) := by decide +kernel
theorem dX0_plan_148 : decode cX0_plan 148 = .ok (.iload 6, 2) := by decide +kernel
theorem dX0_plan_150 : decode cX0_plan 150 = .ok (.aload_n 3, 1) := by decide +kernel
theorem dX0_plan_151 : decode cX0_plan 151 = .ok (.getfield 62, 3) := by decide +kernel
theorem dX0_plan_154 : decode cX0_plan 154 = .ok (.iload_n 2, 1) := by decide +kernel
theorem dX0_plan_155 : decode cX0_plan 155 = .ok (.iaload, 1) := by decide +kernel
theorem dX0_plan_156 : decode cX0_plan 156 = .ok (.aload_n 1, 1) := by decide +kernel
theorem dX0_plan_157 : decode cX0_plan 157 = .ok (.getfield 35, 3) := by decide +kernel
theorem dX0_plan_160 : decode cX0_plan 160 = .ok (.getfield 56, 3) := by decide +kernel
theorem dX0_plan_163 : decode cX0_plan 163 = .ok (.iload 4, 2) := by decide +kernel
theorem dX0_plan_165 : decode cX0_plan 165 = .ok (.iload 8, 2) := by decide +kernel
theorem dX0_plan_167 : decode cX0_plan 167 = .ok (.invokestatic 59, 3) := by decide +kernel
theorem dX0_plan_170 : decode cX0_plan 170 = .ok (.iaload, 1) := by decide +kernel
theorem dX0_plan_171 : decode cX0_plan 171 = .ok (.imul, 1) := by decide +kernel
theorem dX0_plan_172 : decode cX0_plan 172 = .ok (.iadd, 1) := by decide +kernel
theorem dX0_plan_173 : decode cX0_plan 173 = .ok (.istore 6, 2) := by decide +kernel
theorem dX0_plan_175 : decode cX0_plan 175 = .ok (.iinc 7 1, 3) := by decide +kernel
theorem dX0_plan_178 : decode cX0_plan 178 = .ok (.goto (-125), 3) := by decide +kernel
theorem dX0_plan_181 : decode cX0_plan 181 = .ok (.iload 6, 2) := by decide +kernel
theorem dX0_plan_183 : decode cX0_plan 183 = .ok (.ireturn, 1) := by decide +kernel
theorem dX1_add_0 : decode cX1_add 0 = .ok (.aload_n 0, 1) := by decide +kernel
theorem dX1_add_1 : decode cX1_add 1 = .ok (.getfield 30, 3) := by decide +kernel
theorem dX1_add_4 : decode cX1_add 4 = .ok (.bipush 7, 2) := by decide +kernel
theorem dX1_add_6 : decode cX1_add 6 = .ok (.if_icmp .ge 10, 3) := by decide +kernel
theorem dX1_add_9 : decode cX1_add 9 = .ok (.aload_n 1, 1) := by decide +kernel
theorem dX1_add_10 : decode cX1_add 10 = .ok (.arraylength, 1) := by decide +kernel
theorem dX1_add_11 : decode cX1_add 11 = .ok (.bipush 6, 2) := by decide +kernel
theorem dX1_add_13 : decode cX1_add 13 = .ok (.if_icmp .ge 4, 3) := by decide +kernel
theorem dX1_add_16 : decode cX1_add 16 = .ok (.return_, 1) := by decide +kernel
theorem dX1_add_17 : decode cX1_add 17 = .ok (.aload_n 0, 1) := by decide +kernel
theorem dX1_add_18 : decode cX1_add 18 = .ok (.getfield 9, 3) := by decide +kernel
theorem dX1_add_21 : decode cX1_add 21 = .ok (.aload_n 0, 1) := by decide +kernel
theorem dX1_add_22 : decode cX1_add 22 = .ok (.getfield 30, 3) := by decide +kernel
theorem dX1_add_25 : decode cX1_add 25 = .ok (.aload_n 1, 1) := by decide +kernel
theorem dX1_add_26 : decode cX1_add 26 = .ok (.iconst 0, 1) := by decide +kernel
theorem dX1_add_27 : decode cX1_add 27 = .ok (.iaload, 1) := by decide +kernel
theorem dX1_add_28 : decode cX1_add 28 = .ok (.iastore, 1) := by decide +kernel
theorem dX1_add_29 : decode cX1_add 29 = .ok (.aload_n 0, 1) := by decide +kernel
theorem dX1_add_30 : decode cX1_add 30 = .ok (.getfield 15, 3) := by decide +kernel
theorem dX1_add_33 : decode cX1_add 33 = .ok (.aload_n 0, 1) := by decide +kernel
theorem dX1_add_34 : decode cX1_add 34 = .ok (.getfield 30, 3) := by decide +kernel
theorem dX1_add_37 : decode cX1_add 37 = .ok (.aload_n 1, 1) := by decide +kernel
theorem dX1_add_38 : decode cX1_add 38 = .ok (.iconst 1, 1) := by decide +kernel
theorem dX1_add_39 : decode cX1_add 39 = .ok (.iaload, 1) := by decide +kernel
theorem dX1_add_40 : decode cX1_add 40 = .ok (.iastore, 1) := by decide +kernel
theorem dX1_add_41 : decode cX1_add 41 = .ok (.aload_n 0, 1) := by decide +kernel
theorem dX1_add_42 : decode cX1_add 42 = .ok (.getfield 18, 3) := by decide +kernel
theorem dX1_add_45 : decode cX1_add 45 = .ok (.aload_n 0, 1) := by decide +kernel
theorem dX1_add_46 : decode cX1_add 46 = .ok (.getfield 30, 3) := by decide +kernel
theorem dX1_add_49 : decode cX1_add 49 = .ok (.aload_n 1, 1) := by decide +kernel
theorem dX1_add_50 : decode cX1_add 50 = .ok (.iconst 2, 1) := by decide +kernel
theorem dX1_add_51 : decode cX1_add 51 = .ok (.iaload, 1) := by decide +kernel
theorem dX1_add_52 : decode cX1_add 52 = .ok (.iastore, 1) := by decide +kernel
theorem dX1_add_53 : decode cX1_add 53 = .ok (.aload_n 0, 1) := by decide +kernel
theorem dX1_add_54 : decode cX1_add 54 = .ok (.getfield 21, 3) := by decide +kernel
theorem dX1_add_57 : decode cX1_add 57 = .ok (.aload_n 0, 1) := by decide +kernel
theorem dX1_add_58 : decode cX1_add 58 = .ok (.getfield 30, 3) := by decide +kernel
theorem dX1_add_61 : decode cX1_add 61 = .ok (.aload_n 1, 1) := by decide +kernel
theorem dX1_add_62 : decode cX1_add 62 = .ok (.iconst 3, 1) := by decide +kernel
theorem dX1_add_63 : decode cX1_add 63 = .ok (.iaload, 1) := by decide +kernel
theorem dX1_add_64 : decode cX1_add 64 = .ok (.iastore, 1) := by decide +kernel
theorem dX1_add_65 : decode cX1_add 65 = .ok (.aload_n 0, 1) := by decide +kernel
theorem dX1_add_66 : decode cX1_add 66 = .ok (.getfield 24, 3) := by decide +kernel
theorem dX1_add_69 : decode cX1_add 69 = .ok (.aload_n 0, 1) := by decide +kernel
theorem dX1_add_70 : decode cX1_add 70 = .ok (.getfield 30, 3) := by decide +kernel
theorem dX1_add_73 : decode cX1_add 73 = .ok (.aload_n 1, 1) := by decide +kernel
theorem dX1_add_74 : decode cX1_add 74 = .ok (.iconst 4, 1) := by decide +kernel
theorem dX1_add_75 : decode cX1_add 75 = .ok (.iaload, 1) := by decide +kernel
theorem dX1_add_76 : decode cX1_add 76 = .ok (.iastore, 1) := by decide +kernel
theorem dX1_add_77 : decode cX1_add 77 = .ok (.aload_n 0, 1) := by decide +kernel
theorem dX1_add_78 : decode cX1_add 78 = .ok (.getfield 27, 3) := by decide +kernel
theorem dX1_add_81 : decode cX1_add 81 = .ok (.aload_n 0, 1) := by decide +kernel
theorem dX1_add_82 : decode cX1_add 82 = .ok (.getfield 30, 3) := by decide +kernel
theorem dX1_add_85 : decode cX1_add 85 = .ok (.aload_n 1, 1) := by decide +kernel
theorem dX1_add_86 : decode cX1_add 86 = .ok (.iconst 5, 1) := by decide +kernel
theorem dX1_add_87 : decode cX1_add 87 = .ok (.iaload, 1) := by decide +kernel
theorem dX1_add_88 : decode cX1_add 88 = .ok (.iastore, 1) := by decide +kernel
theorem dX1_add_89 : decode cX1_add 89 = .ok (.aload_n 0, 1) := by decide +kernel
theorem dX1_add_90 : decode cX1_add 90 = .ok (.dup, 1) := by decide +kernel
theorem dX1_add_91 : decode cX1_add 91 = .ok (.getfield 30, 3) := by decide +kernel
theorem dX1_add_94 : decode cX1_add 94 = .ok (.iconst 1, 1) := by decide +kernel
theorem dX1_add_95 : decode cX1_add 95 = .ok (.iadd, 1) := by decide +kernel
theorem dX1_add_96 : decode cX1_add 96 = .ok (.putfield 30, 3) := by decide +kernel
theorem dX1_add_99 : decode cX1_add 99 = .ok (.return_, 1) := by decide +kernel
theorem dX1_comes_0 : decode cX1_comes 0 = .ok (.aload_n 0, 1) := by decide +kernel
theorem dX1_comes_1 : decode cX1_comes 1 = .ok (.getfield 9, 3) := by decide +kernel
theorem dX1_comes_4 : decode cX1_comes 4 = .ok (.iload_n 1, 1) := by decide +kernel
theorem dX1_comes_5 : decode cX1_comes 5 = .ok (.iaload, 1) := by decide +kernel
theorem dX1_comes_6 : decode cX1_comes 6 = .ok (.iload_n 2, 1) := by decide +kernel
theorem dX1_comes_7 : decode cX1_comes 7 = .ok (.if_icmp .ne 38, 3) := by decide +kernel
theorem dX1_comes_10 : decode cX1_comes 10 = .ok (.aload_n 0, 1) := by decide +kernel
theorem dX1_comes_11 : decode cX1_comes 11 = .ok (.getfield 21, 3) := by decide +kernel
theorem dX1_comes_14 : decode cX1_comes 14 = .ok (.iload_n 1, 1) := by decide +kernel
theorem dX1_comes_15 : decode cX1_comes 15 = .ok (.iaload, 1) := by decide +kernel
theorem dX1_comes_16 : decode cX1_comes 16 = .ok (.iload_n 3, 1) := by decide +kernel
theorem dX1_comes_17 : decode cX1_comes 17 = .ok (.if_icmp .gt 28, 3) := by decide +kernel
theorem dX1_comes_20 : decode cX1_comes 20 = .ok (.iload_n 3, 1) := by decide +kernel
theorem dX1_comes_21 : decode cX1_comes 21 = .ok (.aload_n 0, 1) := by decide +kernel
theorem dX1_comes_22 : decode cX1_comes 22 = .ok (.getfield 24, 3) := by decide +kernel
theorem dX1_comes_25 : decode cX1_comes 25 = .ok (.iload_n 1, 1) := by decide +kernel
theorem dX1_comes_26 : decode cX1_comes 26 = .ok (.iaload, 1) := by decide +kernel
theorem dX1_comes_27 : decode cX1_comes 27 = .ok (.if_icmp .gt 18, 3) := by decide +kernel
theorem dX1_comes_30 : decode cX1_comes 30 = .ok (.aload_n 0, 1) := by decide +kernel
theorem dX1_comes_31 : decode cX1_comes 31 = .ok (.getfield 18, 3) := by decide +kernel
theorem dX1_comes_34 : decode cX1_comes 34 = .ok (.iload_n 1, 1) := by decide +kernel
theorem dX1_comes_35 : decode cX1_comes 35 = .ok (.iaload, 1) := by decide +kernel
theorem dX1_comes_36 : decode cX1_comes 36 = .ok (.iload 4, 2) := by decide +kernel
theorem dX1_comes_38 : decode cX1_comes 38 = .ok (.if_icmp .lt 7, 3) := by decide +kernel
theorem dX1_comes_41 : decode cX1_comes 41 = .ok (.iconst 1, 1) := by decide +kernel
theorem dX1_comes_42 : decode cX1_comes 42 = .ok (.goto 4, 3) := by decide +kernel
theorem dX1_comes_45 : decode cX1_comes 45 = .ok (.iconst 0, 1) := by decide +kernel
theorem dX1_comes_46 : decode cX1_comes 46 = .ok (.ireturn, 1) := by decide +kernel
theorem dX1_wanted_0 : decode cX1_wanted 0 = .ok (.iconst 0, 1) := by decide +kernel
theorem dX1_wanted_1 : decode cX1_wanted 1 = .ok (.istore 4, 2) := by decide +kernel
theorem dX1_wanted_3 : decode cX1_wanted 3 = .ok (.iconst 0, 1) := by decide +kernel
theorem dX1_wanted_4 : decode cX1_wanted 4 = .ok (.istore 5, 2) := by decide +kernel
theorem dX1_wanted_6 : decode cX1_wanted 6 = .ok (.iload 5, 2) := by decide +kernel
theorem dX1_wanted_8 : decode cX1_wanted 8 = .ok (.aload_n 0, 1) := by decide +kernel
theorem dX1_wanted_9 : decode cX1_wanted 9 = .ok (.getfield 30, 3) := by decide +kernel
theorem dX1_wanted_12 : decode cX1_wanted 12 = .ok (.if_icmp .ge 33, 3) := by decide +kernel
theorem dX1_wanted_15 : decode cX1_wanted 15 = .ok (.aload_n 0, 1) := by decide +kernel
theorem dX1_wanted_16 : decode cX1_wanted 16 = .ok (.iload 5, 2) := by decide +kernel
theorem dX1_wanted_18 : decode cX1_wanted 18 = .ok (.iload_n 1, 1) := by decide +kernel
theorem dX1_wanted_19 : decode cX1_wanted 19 = .ok (.iload_n 2, 1) := by decide +kernel
theorem dX1_wanted_20 : decode cX1_wanted 20 = .ok (.iload_n 3, 1) := by decide +kernel
theorem dX1_wanted_21 : decode cX1_wanted 21 = .ok (.invokevirtual 34, 3) := by decide +kernel
theorem dX1_wanted_24 : decode cX1_wanted 24 = .ok (.ifCond .eq 15, 3) := by decide +kernel
theorem dX1_wanted_27 : decode cX1_wanted 27 = .ok (.iload 4, 2) := by decide +kernel
theorem dX1_wanted_29 : decode cX1_wanted 29 = .ok (.aload_n 0, 1) := by decide +kernel
theorem dX1_wanted_30 : decode cX1_wanted 30 = .ok (.getfield 15, 3) := by decide +kernel
theorem dX1_wanted_33 : decode cX1_wanted 33 = .ok (.iload 5, 2) := by decide +kernel
theorem dX1_wanted_35 : decode cX1_wanted 35 = .ok (.iaload, 1) := by decide +kernel
theorem dX1_wanted_36 : decode cX1_wanted 36 = .ok (.iadd, 1) := by decide +kernel
theorem dX1_wanted_37 : decode cX1_wanted 37 = .ok (.istore 4, 2) := by decide +kernel
theorem dX1_wanted_39 : decode cX1_wanted 39 = .ok (.iinc 5 1, 3) := by decide +kernel
theorem dX1_wanted_42 : decode cX1_wanted 42 = .ok (.goto (-36), 3) := by decide +kernel
theorem dX1_wanted_45 : decode cX1_wanted 45 = .ok (.iload 4, 2) := by decide +kernel
theorem dX1_wanted_47 : decode cX1_wanted 47 = .ok (.ireturn, 1) := by decide +kernel
theorem dX1_countComing_0 : decode cX1_countComing 0 = .ok (.iconst 0, 1) := by decide +kernel
theorem dX1_countComing_1 : decode cX1_countComing 1 = .ok (.istore 4, 2) := by decide +kernel
theorem dX1_countComing_3 : decode cX1_countComing 3 = .ok (.iconst 0, 1) := by decide +kernel
theorem dX1_countComing_4 : decode cX1_countComing 4 = .ok (.istore 5, 2) := by decide +kernel
theorem dX1_countComing_6 : decode cX1_countComing 6 = .ok (.iload 5, 2) := by decide +kernel
theorem dX1_countComing_8 : decode cX1_countComing 8 = .ok (.aload_n 0, 1) := by decide +kernel
theorem dX1_countComing_9 : decode cX1_countComing 9 = .ok (.getfield 30, 3) := by decide +kernel
theorem dX1_countComing_12 : decode cX1_countComing 12 = .ok (.if_icmp .ge 24, 3) := by decide +kernel
theorem dX1_countComing_15 : decode cX1_countComing 15 = .ok (.aload_n 0, 1) := by decide +kernel
theorem dX1_countComing_16 : decode cX1_countComing 16 = .ok (.iload 5, 2) := by decide +kernel
theorem dX1_countComing_18 : decode cX1_countComing 18 = .ok (.iload_n 1, 1) := by decide +kernel
theorem dX1_countComing_19 : decode cX1_countComing 19 = .ok (.iload_n 2, 1) := by decide +kernel
theorem dX1_countComing_20 : decode cX1_countComing 20 = .ok (.iload_n 3, 1) := by decide +kernel
theorem dX1_countComing_21 : decode cX1_countComing 21 = .ok (.invokevirtual 34, 3) := by decide +kernel
theorem dX1_countComing_24 : decode cX1_countComing 24 = .ok (.ifCond .eq 6, 3) := by decide +kernel
theorem dX1_countComing_27 : decode cX1_countComing 27 = .ok (.iinc 4 1, 3) := by decide +kernel
theorem dX1_countComing_30 : decode cX1_countComing 30 = .ok (.iinc 5 1, 3) := by decide +kernel
theorem dX1_countComing_33 : decode cX1_countComing 33 = .ok (.goto (-27), 3) := by decide +kernel
theorem dX1_countComing_36 : decode cX1_countComing 36 = .ok (.iload 4, 2) := by decide +kernel
theorem dX1_countComing_38 : decode cX1_countComing 38 = .ok (.ireturn, 1) := by decide +kernel
theorem dX1_allCome_0 : decode cX1_allCome 0 = .ok (.iconst 0, 1) := by decide +kernel
theorem dX1_allCome_1 : decode cX1_allCome 1 = .ok (.istore 5, 2) := by decide +kernel
theorem dX1_allCome_3 : decode cX1_allCome 3 = .ok (.iload 5, 2) := by decide +kernel
theorem dX1_allCome_5 : decode cX1_allCome 5 = .ok (.aload_n 0, 1) := by decide +kernel
theorem dX1_allCome_6 : decode cX1_allCome 6 = .ok (.getfield 30, 3) := by decide +kernel
theorem dX1_allCome_9 : decode cX1_allCome 9 = .ok (.if_icmp .ge 34, 3) := by decide +kernel
theorem dX1_allCome_12 : decode cX1_allCome 12 = .ok (.iload_n 1, 1) := by decide +kernel
theorem dX1_allCome_13 : decode cX1_allCome 13 = .ok (.iload 5, 2) := by decide +kernel
theorem dX1_allCome_15 : decode cX1_allCome 15 = .ok (.ishr, 1) := by decide +kernel
theorem dX1_allCome_16 : decode cX1_allCome 16 = .ok (.iconst 1, 1) := by decide +kernel
theorem dX1_allCome_17 : decode cX1_allCome 17 = .ok (.iand, 1) := by decide +kernel
theorem dX1_allCome_18 : decode cX1_allCome 18 = .ok (.iconst 1, 1) := by decide +kernel
theorem dX1_allCome_19 : decode cX1_allCome 19 = .ok (.if_icmp .ne 18, 3) := by decide +kernel
theorem dX1_allCome_22 : decode cX1_allCome 22 = .ok (.aload_n 0, 1) := by decide +kernel
theorem dX1_allCome_23 : decode cX1_allCome 23 = .ok (.iload 5, 2) := by decide +kernel
theorem dX1_allCome_25 : decode cX1_allCome 25 = .ok (.iload_n 2, 1) := by decide +kernel
theorem dX1_allCome_26 : decode cX1_allCome 26 = .ok (.iload_n 3, 1) := by decide +kernel
theorem dX1_allCome_27 : decode cX1_allCome 27 = .ok (.iload 4, 2) := by decide +kernel
theorem dX1_allCome_29 : decode cX1_allCome 29 = .ok (.invokevirtual 34, 3) := by decide +kernel
theorem dX1_allCome_32 : decode cX1_allCome 32 = .ok (.ifCond .ne 5, 3) := by decide +kernel
theorem dX1_allCome_35 : decode cX1_allCome 35 = .ok (.iconst 0, 1) := by decide +kernel
theorem dX1_allCome_36 : decode cX1_allCome 36 = .ok (.ireturn, 1) := by decide +kernel
theorem dX1_allCome_37 : decode cX1_allCome 37 = .ok (.iinc 5 1, 3) := by decide +kernel
theorem dX1_allCome_40 : decode cX1_allCome 40 = .ok (.goto (-37), 3) := by decide +kernel
theorem dX1_allCome_43 : decode cX1_allCome 43 = .ok (.iconst 1, 1) := by decide +kernel
theorem dX1_allCome_44 : decode cX1_allCome 44 = .ok (.ireturn, 1) := by decide +kernel
theorem dX1_wantsOf_0 : decode cX1_wantsOf 0 = .ok (.iconst 0, 1) := by decide +kernel
theorem dX1_wantsOf_1 : decode cX1_wantsOf 1 = .ok (.istore_n 2, 1) := by decide +kernel
theorem dX1_wantsOf_2 : decode cX1_wantsOf 2 = .ok (.iconst 0, 1) := by decide +kernel
theorem dX1_wantsOf_3 : decode cX1_wantsOf 3 = .ok (.istore_n 3, 1) := by decide +kernel
theorem dX1_wantsOf_4 : decode cX1_wantsOf 4 = .ok (.iload_n 3, 1) := by decide +kernel
theorem dX1_wantsOf_5 : decode cX1_wantsOf 5 = .ok (.aload_n 0, 1) := by decide +kernel
theorem dX1_wantsOf_6 : decode cX1_wantsOf 6 = .ok (.getfield 30, 3) := by decide +kernel
theorem dX1_wantsOf_9 : decode cX1_wantsOf 9 = .ok (.if_icmp .ge 27, 3) := by decide +kernel
theorem dX1_wantsOf_12 : decode cX1_wantsOf 12 = .ok (.iload_n 1, 1) := by decide +kernel
theorem dX1_wantsOf_13 : decode cX1_wantsOf 13 = .ok (.iload_n 3, 1) := by decide +kernel
theorem dX1_wantsOf_14 : decode cX1_wantsOf 14 = .ok (.ishr, 1) := by decide +kernel
theorem dX1_wantsOf_15 : decode cX1_wantsOf 15 = .ok (.iconst 1, 1) := by decide +kernel
theorem dX1_wantsOf_16 : decode cX1_wantsOf 16 = .ok (.iand, 1) := by decide +kernel
theorem dX1_wantsOf_17 : decode cX1_wantsOf 17 = .ok (.iconst 1, 1) := by decide +kernel
theorem dX1_wantsOf_18 : decode cX1_wantsOf 18 = .ok (.if_icmp .ne 12, 3) := by decide +kernel
theorem dX1_wantsOf_21 : decode cX1_wantsOf 21 = .ok (.iload_n 2, 1) := by decide +kernel
theorem dX1_wantsOf_22 : decode cX1_wantsOf 22 = .ok (.aload_n 0, 1) := by decide +kernel
theorem dX1_wantsOf_23 : decode cX1_wantsOf 23 = .ok (.getfield 15, 3) := by decide +kernel
theorem dX1_wantsOf_26 : decode cX1_wantsOf 26 = .ok (.iload_n 3, 1) := by decide +kernel
theorem dX1_wantsOf_27 : decode cX1_wantsOf 27 = .ok (.iaload, 1) := by decide +kernel
theorem dX1_wantsOf_28 : decode cX1_wantsOf 28 = .ok (.iadd, 1) := by decide +kernel
theorem dX1_wantsOf_29 : decode cX1_wantsOf 29 = .ok (.istore_n 2, 1) := by decide +kernel
theorem dX1_wantsOf_30 : decode cX1_wantsOf 30 = .ok (.iinc 3 1, 3) := by decide +kernel
theorem dX1_wantsOf_33 : decode cX1_wantsOf 33 = .ok (.goto (-29), 3) := by decide +kernel
theorem dX1_wantsOf_36 : decode cX1_wantsOf 36 = .ok (.iload_n 2, 1) := by decide +kernel
theorem dX1_wantsOf_37 : decode cX1_wantsOf 37 = .ok (.ireturn, 1) := by decide +kernel
theorem dX1_wantsInAll_0 : decode cX1_wantsInAll 0 = .ok (.aload_n 0, 1) := by decide +kernel
theorem dX1_wantsInAll_1 : decode cX1_wantsInAll 1 = .ok (.getfield 15, 3) := by decide +kernel
theorem dX1_wantsInAll_4 : decode cX1_wantsInAll 4 = .ok (.iload_n 1, 1) := by decide +kernel
theorem dX1_wantsInAll_5 : decode cX1_wantsInAll 5 = .ok (.iaload, 1) := by decide +kernel
theorem dX1_wantsInAll_6 : decode cX1_wantsInAll 6 = .ok (.aload_n 0, 1) := by decide +kernel
theorem dX1_wantsInAll_7 : decode cX1_wantsInAll 7 = .ok (.getfield 24, 3) := by decide +kernel
theorem dX1_wantsInAll_10 : decode cX1_wantsInAll 10 = .ok (.iload_n 1, 1) := by decide +kernel
theorem dX1_wantsInAll_11 : decode cX1_wantsInAll 11 = .ok (.iaload, 1) := by decide +kernel
theorem dX1_wantsInAll_12 : decode cX1_wantsInAll 12 = .ok (.aload_n 0, 1) := by decide +kernel
theorem dX1_wantsInAll_13 : decode cX1_wantsInAll 13 = .ok (.getfield 21, 3) := by decide +kernel
theorem dX1_wantsInAll_16 : decode cX1_wantsInAll 16 = .ok (.iload_n 1, 1) := by decide +kernel
theorem dX1_wantsInAll_17 : decode cX1_wantsInAll 17 = .ok (.iaload, 1) := by decide +kernel
theorem dX1_wantsInAll_18 : decode cX1_wantsInAll 18 = .ok (.isub, 1) := by decide +kernel
theorem dX1_wantsInAll_19 : decode cX1_wantsInAll 19 = .ok (.iconst 1, 1) := by decide +kernel
theorem dX1_wantsInAll_20 : decode cX1_wantsInAll 20 = .ok (.iadd, 1) := by decide +kernel
theorem dX1_wantsInAll_21 : decode cX1_wantsInAll 21 = .ok (.imul, 1) := by decide +kernel
theorem dX1_wantsInAll_22 : decode cX1_wantsInAll 22 = .ok (.ireturn, 1) := by decide +kernel
theorem dX1_take_0 : decode cX1_take 0 = .ok (.aload_n 0, 1) := by decide +kernel
theorem dX1_take_1 : decode cX1_take 1 = .ok (.aload_n 1, 1) := by decide +kernel
theorem dX1_take_2 : decode cX1_take 2 = .ok (.getfield 30, 3) := by decide +kernel
theorem dX1_take_5 : decode cX1_take 5 = .ok (.putfield 30, 3) := by decide +kernel
theorem dX1_take_8 : decode cX1_take 8 = .ok (.aload_n 1, 1) := by decide +kernel
theorem dX1_take_9 : decode cX1_take 9 = .ok (.getfield 9, 3) := by decide +kernel
theorem dX1_take_12 : decode cX1_take 12 = .ok (.iconst 0, 1) := by decide +kernel
theorem dX1_take_13 : decode cX1_take 13 = .ok (.aload_n 0, 1) := by decide +kernel
theorem dX1_take_14 : decode cX1_take 14 = .ok (.getfield 9, 3) := by decide +kernel
theorem dX1_take_17 : decode cX1_take 17 = .ok (.iconst 0, 1) := by decide +kernel
theorem dX1_take_18 : decode cX1_take 18 = .ok (.aload_n 0, 1) := by decide +kernel
theorem dX1_take_19 : decode cX1_take 19 = .ok (.getfield 9, 3) := by decide +kernel
theorem dX1_take_22 : decode cX1_take 22 = .ok (.arraylength, 1) := by decide +kernel
theorem dX1_take_23 : decode cX1_take 23 = .ok (.invokestatic 38, 3) := by decide +kernel
theorem dX1_take_26 : decode cX1_take 26 = .ok (.aload_n 1, 1) := by decide +kernel
theorem dX1_take_27 : decode cX1_take 27 = .ok (.getfield 15, 3) := by decide +kernel
theorem dX1_take_30 : decode cX1_take 30 = .ok (.iconst 0, 1) := by decide +kernel
theorem dX1_take_31 : decode cX1_take 31 = .ok (.aload_n 0, 1) := by decide +kernel
theorem dX1_take_32 : decode cX1_take 32 = .ok (.getfield 15, 3) := by decide +kernel
theorem dX1_take_35 : decode cX1_take 35 = .ok (.iconst 0, 1) := by decide +kernel
theorem dX1_take_36 : decode cX1_take 36 = .ok (.aload_n 0, 1) := by decide +kernel
theorem dX1_take_37 : decode cX1_take 37 = .ok (.getfield 15, 3) := by decide +kernel
theorem dX1_take_40 : decode cX1_take 40 = .ok (.arraylength, 1) := by decide +kernel
theorem dX1_take_41 : decode cX1_take 41 = .ok (.invokestatic 38, 3) := by decide +kernel
theorem dX1_take_44 : decode cX1_take 44 = .ok (.aload_n 1, 1) := by decide +kernel
theorem dX1_take_45 : decode cX1_take 45 = .ok (.getfield 18, 3) := by decide +kernel
theorem dX1_take_48 : decode cX1_take 48 = .ok (.iconst 0, 1) := by decide +kernel
theorem dX1_take_49 : decode cX1_take 49 = .ok (.aload_n 0, 1) := by decide +kernel
theorem dX1_take_50 : decode cX1_take 50 = .ok (.getfield 18, 3) := by decide +kernel
theorem dX1_take_53 : decode cX1_take 53 = .ok (.iconst 0, 1) := by decide +kernel
theorem dX1_take_54 : decode cX1_take 54 = .ok (.aload_n 0, 1) := by decide +kernel
theorem dX1_take_55 : decode cX1_take 55 = .ok (.getfield 18, 3) := by decide +kernel
theorem dX1_take_58 : decode cX1_take 58 = .ok (.arraylength, 1) := by decide +kernel
theorem dX1_take_59 : decode cX1_take 59 = .ok (.invokestatic 38, 3) := by decide +kernel
theorem dX1_take_62 : decode cX1_take 62 = .ok (.aload_n 1, 1) := by decide +kernel
theorem dX1_take_63 : decode cX1_take 63 = .ok (.getfield 21, 3) := by decide +kernel
theorem dX1_take_66 : decode cX1_take 66 = .ok (.iconst 0, 1) := by decide +kernel
theorem dX1_take_67 : decode cX1_take 67 = .ok (.aload_n 0, 1) := by decide +kernel
theorem dX1_take_68 : decode cX1_take 68 = .ok (.getfield 21, 3) := by decide +kernel
theorem dX1_take_71 : decode cX1_take 71 = .ok (.iconst 0, 1) := by decide +kernel
theorem dX1_take_72 : decode cX1_take 72 = .ok (.aload_n 0, 1) := by decide +kernel
theorem dX1_take_73 : decode cX1_take 73 = .ok (.getfield 21, 3) := by decide +kernel
theorem dX1_take_76 : decode cX1_take 76 = .ok (.arraylength, 1) := by decide +kernel
theorem dX1_take_77 : decode cX1_take 77 = .ok (.invokestatic 38, 3) := by decide +kernel
theorem dX1_take_80 : decode cX1_take 80 = .ok (.aload_n 1, 1) := by decide +kernel
theorem dX1_take_81 : decode cX1_take 81 = .ok (.getfield 24, 3) := by decide +kernel
theorem dX1_take_84 : decode cX1_take 84 = .ok (.iconst 0, 1) := by decide +kernel
theorem dX1_take_85 : decode cX1_take 85 = .ok (.aload_n 0, 1) := by decide +kernel
theorem dX1_take_86 : decode cX1_take 86 = .ok (.getfield 24, 3) := by decide +kernel
theorem dX1_take_89 : decode cX1_take 89 = .ok (.iconst 0, 1) := by decide +kernel
theorem dX1_take_90 : decode cX1_take 90 = .ok (.aload_n 0, 1) := by decide +kernel
theorem dX1_take_91 : decode cX1_take 91 = .ok (.getfield 24, 3) := by decide +kernel
theorem dX1_take_94 : decode cX1_take 94 = .ok (.arraylength, 1) := by decide +kernel
theorem dX1_take_95 : decode cX1_take 95 = .ok (.invokestatic 38, 3) := by decide +kernel
theorem dX1_take_98 : decode cX1_take 98 = .ok (.aload_n 1, 1) := by decide +kernel
theorem dX1_take_99 : decode cX1_take 99 = .ok (.getfield 27, 3) := by decide +kernel
theorem dX1_take_102 : decode cX1_take 102 = .ok (.iconst 0, 1) := by decide +kernel
theorem dX1_take_103 : decode cX1_take 103 = .ok (.aload_n 0, 1) := by decide +kernel
theorem dX1_take_104 : decode cX1_take 104 = .ok (.getfield 27, 3) := by decide +kernel
theorem dX1_take_107 : decode cX1_take 107 = .ok (.iconst 0, 1) := by decide +kernel
theorem dX1_take_108 : decode cX1_take 108 = .ok (.aload_n 0, 1) := by decide +kernel
theorem dX1_take_109 : decode cX1_take 109 = .ok (.getfield 27, 3) := by decide +kernel
theorem dX1_take_112 : decode cX1_take 112 = .ok (.arraylength, 1) := by decide +kernel
theorem dX1_take_113 : decode cX1_take 113 = .ok (.invokestatic 38, 3) := by decide +kernel
theorem dX1_take_116 : decode cX1_take 116 = .ok (.return_, 1) := by decide +kernel
theorem dX2_empty_0 : decode cX2_empty 0 = .ok (.aload_n 0, 1) := by decide +kernel
theorem dX2_empty_1 : decode cX2_empty 1 = .ok (.iconst 0, 1) := by decide +kernel
theorem dX2_empty_2 : decode cX2_empty 2 = .ok (.putfield 30, 3) := by decide +kernel
theorem dX2_empty_5 : decode cX2_empty 5 = .ok (.aload_n 0, 1) := by decide +kernel
theorem dX2_empty_6 : decode cX2_empty 6 = .ok (.iconst 0, 1) := by decide +kernel
theorem dX2_empty_7 : decode cX2_empty 7 = .ok (.putfield 34, 3) := by decide +kernel
theorem dX2_empty_10 : decode cX2_empty 10 = .ok (.aload_n 0, 1) := by decide +kernel
theorem dX2_empty_11 : decode cX2_empty 11 = .ok (.iconst 0, 1) := by decide +kernel
theorem dX2_empty_12 : decode cX2_empty 12 = .ok (.putfield 37, 3) := by decide +kernel
theorem dX2_empty_15 : decode cX2_empty 15 = .ok (.aload_n 0, 1) := by decide +kernel
theorem dX2_empty_16 : decode cX2_empty 16 = .ok (.getfield 10, 3) := by decide +kernel
theorem dX2_empty_19 : decode cX2_empty 19 = .ok (.iconst 0, 1) := by decide +kernel
theorem dX2_empty_20 : decode cX2_empty 20 = .ok (.putfield 40, 3) := by decide +kernel
theorem dX2_empty_23 : decode cX2_empty 23 = .ok (.aload_n 0, 1) := by decide +kernel
theorem dX2_empty_24 : decode cX2_empty 24 = .ok (.getfield 19, 3) := by decide +kernel
theorem dX2_empty_27 : decode cX2_empty 27 = .ok (.iconst 0, 1) := by decide +kernel
theorem dX2_empty_28 : decode cX2_empty 28 = .ok (.putfield 43, 3) := by decide +kernel
theorem dX2_empty_31 : decode cX2_empty 31 = .ok (.aload_n 0, 1) := by decide +kernel
theorem dX2_empty_32 : decode cX2_empty 32 = .ok (.getfield 26, 3) := by decide +kernel
theorem dX2_empty_35 : decode cX2_empty 35 = .ok (.iconst 0, 1) := by decide +kernel
theorem dX2_empty_36 : decode cX2_empty 36 = .ok (.putfield 44, 3) := by decide +kernel
theorem dX2_empty_39 : decode cX2_empty 39 = .ok (.return_, 1) := by decide +kernel
theorem dX8_take_0 : decode cX8_take 0 = .ok (.aload_n 0, 1) := by decide +kernel
theorem dX8_take_1 : decode cX8_take 1 = .ok (.aload_n 1, 1) := by decide +kernel
theorem dX8_take_2 : decode cX8_take 2 = .ok (.getfield 24, 3) := by decide +kernel
theorem dX8_take_5 : decode cX8_take 5 = .ok (.putfield 24, 3) := by decide +kernel
theorem dX8_take_8 : decode cX8_take 8 = .ok (.aload_n 1, 1) := by decide +kernel
theorem dX8_take_9 : decode cX8_take 9 = .ok (.getfield 9, 3) := by decide +kernel
theorem dX8_take_12 : decode cX8_take 12 = .ok (.iconst 0, 1) := by decide +kernel
theorem dX8_take_13 : decode cX8_take 13 = .ok (.aload_n 0, 1) := by decide +kernel
theorem dX8_take_14 : decode cX8_take 14 = .ok (.getfield 9, 3) := by decide +kernel
theorem dX8_take_17 : decode cX8_take 17 = .ok (.iconst 0, 1) := by decide +kernel
theorem dX8_take_18 : decode cX8_take 18 = .ok (.aload_n 0, 1) := by decide +kernel
theorem dX8_take_19 : decode cX8_take 19 = .ok (.getfield 9, 3) := by decide +kernel
theorem dX8_take_22 : decode cX8_take 22 = .ok (.arraylength, 1) := by decide +kernel
theorem dX8_take_23 : decode cX8_take 23 = .ok (.invokestatic 32, 3) := by decide +kernel
theorem dX8_take_26 : decode cX8_take 26 = .ok (.aload_n 1, 1) := by decide +kernel
theorem dX8_take_27 : decode cX8_take 27 = .ok (.getfield 15, 3) := by decide +kernel
theorem dX8_take_30 : decode cX8_take 30 = .ok (.iconst 0, 1) := by decide +kernel
theorem dX8_take_31 : decode cX8_take 31 = .ok (.aload_n 0, 1) := by decide +kernel
theorem dX8_take_32 : decode cX8_take 32 = .ok (.getfield 15, 3) := by decide +kernel
theorem dX8_take_35 : decode cX8_take 35 = .ok (.iconst 0, 1) := by decide +kernel
theorem dX8_take_36 : decode cX8_take 36 = .ok (.aload_n 0, 1) := by decide +kernel
theorem dX8_take_37 : decode cX8_take 37 = .ok (.getfield 15, 3) := by decide +kernel
theorem dX8_take_40 : decode cX8_take 40 = .ok (.arraylength, 1) := by decide +kernel
theorem dX8_take_41 : decode cX8_take 41 = .ok (.invokestatic 32, 3) := by decide +kernel
theorem dX8_take_44 : decode cX8_take 44 = .ok (.aload_n 1, 1) := by decide +kernel
theorem dX8_take_45 : decode cX8_take 45 = .ok (.getfield 18, 3) := by decide +kernel
theorem dX8_take_48 : decode cX8_take 48 = .ok (.iconst 0, 1) := by decide +kernel
theorem dX8_take_49 : decode cX8_take 49 = .ok (.aload_n 0, 1) := by decide +kernel
theorem dX8_take_50 : decode cX8_take 50 = .ok (.getfield 18, 3) := by decide +kernel
theorem dX8_take_53 : decode cX8_take 53 = .ok (.iconst 0, 1) := by decide +kernel
theorem dX8_take_54 : decode cX8_take 54 = .ok (.aload_n 0, 1) := by decide +kernel
theorem dX8_take_55 : decode cX8_take 55 = .ok (.getfield 18, 3) := by decide +kernel
theorem dX8_take_58 : decode cX8_take 58 = .ok (.arraylength, 1) := by decide +kernel
theorem dX8_take_59 : decode cX8_take 59 = .ok (.invokestatic 32, 3) := by decide +kernel
theorem dX8_take_62 : decode cX8_take 62 = .ok (.aload_n 1, 1) := by decide +kernel
theorem dX8_take_63 : decode cX8_take 63 = .ok (.getfield 21, 3) := by decide +kernel
theorem dX8_take_66 : decode cX8_take 66 = .ok (.iconst 0, 1) := by decide +kernel
theorem dX8_take_67 : decode cX8_take 67 = .ok (.aload_n 0, 1) := by decide +kernel
theorem dX8_take_68 : decode cX8_take 68 = .ok (.getfield 21, 3) := by decide +kernel
theorem dX8_take_71 : decode cX8_take 71 = .ok (.iconst 0, 1) := by decide +kernel
theorem dX8_take_72 : decode cX8_take 72 = .ok (.aload_n 0, 1) := by decide +kernel
theorem dX8_take_73 : decode cX8_take 73 = .ok (.getfield 21, 3) := by decide +kernel
theorem dX8_take_76 : decode cX8_take 76 = .ok (.arraylength, 1) := by decide +kernel
theorem dX8_take_77 : decode cX8_take 77 = .ok (.invokestatic 32, 3) := by decide +kernel
theorem dX8_take_80 : decode cX8_take 80 = .ok (.return_, 1) := by decide +kernel
theorem dX6_take_0 : decode cX6_take 0 = .ok (.aload_n 0, 1) := by decide +kernel
theorem dX6_take_1 : decode cX6_take 1 = .ok (.aload_n 1, 1) := by decide +kernel
theorem dX6_take_2 : decode cX6_take 2 = .ok (.getfield 24, 3) := by decide +kernel
theorem dX6_take_5 : decode cX6_take 5 = .ok (.putfield 24, 3) := by decide +kernel
theorem dX6_take_8 : decode cX6_take 8 = .ok (.aload_n 1, 1) := by decide +kernel
theorem dX6_take_9 : decode cX6_take 9 = .ok (.getfield 9, 3) := by decide +kernel
theorem dX6_take_12 : decode cX6_take 12 = .ok (.iconst 0, 1) := by decide +kernel
theorem dX6_take_13 : decode cX6_take 13 = .ok (.aload_n 0, 1) := by decide +kernel
theorem dX6_take_14 : decode cX6_take 14 = .ok (.getfield 9, 3) := by decide +kernel
theorem dX6_take_17 : decode cX6_take 17 = .ok (.iconst 0, 1) := by decide +kernel
theorem dX6_take_18 : decode cX6_take 18 = .ok (.aload_n 0, 1) := by decide +kernel
theorem dX6_take_19 : decode cX6_take 19 = .ok (.getfield 9, 3) := by decide +kernel
theorem dX6_take_22 : decode cX6_take 22 = .ok (.arraylength, 1) := by decide +kernel
theorem dX6_take_23 : decode cX6_take 23 = .ok (.invokestatic 32, 3) := by decide +kernel
theorem dX6_take_26 : decode cX6_take 26 = .ok (.aload_n 1, 1) := by decide +kernel
theorem dX6_take_27 : decode cX6_take 27 = .ok (.getfield 15, 3) := by decide +kernel
theorem dX6_take_30 : decode cX6_take 30 = .ok (.iconst 0, 1) := by decide +kernel
theorem dX6_take_31 : decode cX6_take 31 = .ok (.aload_n 0, 1) := by decide +kernel
theorem dX6_take_32 : decode cX6_take 32 = .ok (.getfield 15, 3) := by decide +kernel
theorem dX6_take_35 : decode cX6_take 35 = .ok (.iconst 0, 1) := by decide +kernel
theorem dX6_take_36 : decode cX6_take 36 = .ok (.aload_n 0, 1) := by decide +kernel
theorem dX6_take_37 : decode cX6_take 37 = .ok (.getfield 15, 3) := by decide +kernel
theorem dX6_take_40 : decode cX6_take 40 = .ok (.arraylength, 1) := by decide +kernel
theorem dX6_take_41 : decode cX6_take 41 = .ok (.invokestatic 32, 3) := by decide +kernel
theorem dX6_take_44 : decode cX6_take 44 = .ok (.aload_n 1, 1) := by decide +kernel
theorem dX6_take_45 : decode cX6_take 45 = .ok (.getfield 18, 3) := by decide +kernel
theorem dX6_take_48 : decode cX6_take 48 = .ok (.iconst 0, 1) := by decide +kernel
theorem dX6_take_49 : decode cX6_take 49 = .ok (.aload_n 0, 1) := by decide +kernel
theorem dX6_take_50 : decode cX6_take 50 = .ok (.getfield 18, 3) := by decide +kernel
theorem dX6_take_53 : decode cX6_take 53 = .ok (.iconst 0, 1) := by decide +kernel
theorem dX6_take_54 : decode cX6_take 54 = .ok (.aload_n 0, 1) := by decide +kernel
theorem dX6_take_55 : decode cX6_take 55 = .ok (.getfield 18, 3) := by decide +kernel
theorem dX6_take_58 : decode cX6_take 58 = .ok (.arraylength, 1) := by decide +kernel
theorem dX6_take_59 : decode cX6_take 59 = .ok (.invokestatic 32, 3) := by decide +kernel
theorem dX6_take_62 : decode cX6_take 62 = .ok (.aload_n 1, 1) := by decide +kernel
theorem dX6_take_63 : decode cX6_take 63 = .ok (.getfield 21, 3) := by decide +kernel
theorem dX6_take_66 : decode cX6_take 66 = .ok (.iconst 0, 1) := by decide +kernel
theorem dX6_take_67 : decode cX6_take 67 = .ok (.aload_n 0, 1) := by decide +kernel
theorem dX6_take_68 : decode cX6_take 68 = .ok (.getfield 21, 3) := by decide +kernel
theorem dX6_take_71 : decode cX6_take 71 = .ok (.iconst 0, 1) := by decide +kernel
theorem dX6_take_72 : decode cX6_take 72 = .ok (.aload_n 0, 1) := by decide +kernel
theorem dX6_take_73 : decode cX6_take 73 = .ok (.getfield 21, 3) := by decide +kernel
theorem dX6_take_76 : decode cX6_take 76 = .ok (.arraylength, 1) := by decide +kernel
theorem dX6_take_77 : decode cX6_take 77 = .ok (.invokestatic 32, 3) := by decide +kernel
theorem dX6_take_80 : decode cX6_take 80 = .ok (.return_, 1) := by decide +kernel
theorem dX2_take_0 : decode cX2_take 0 = .ok (.aload_n 0, 1) := by decide +kernel
theorem dX2_take_1 : decode cX2_take 1 = .ok (.aload_n 1, 1) := by decide +kernel
theorem dX2_take_2 : decode cX2_take 2 = .ok (.getfield 30, 3) := by decide +kernel
theorem dX2_take_5 : decode cX2_take 5 = .ok (.putfield 30, 3) := by decide +kernel
theorem dX2_take_8 : decode cX2_take 8 = .ok (.aload_n 0, 1) := by decide +kernel
theorem dX2_take_9 : decode cX2_take 9 = .ok (.aload_n 1, 1) := by decide +kernel
theorem dX2_take_10 : decode cX2_take 10 = .ok (.getfield 34, 3) := by decide +kernel
theorem dX2_take_13 : decode cX2_take 13 = .ok (.putfield 34, 3) := by decide +kernel
theorem dX2_take_16 : decode cX2_take 16 = .ok (.aload_n 0, 1) := by decide +kernel
theorem dX2_take_17 : decode cX2_take 17 = .ok (.aload_n 1, 1) := by decide +kernel
theorem dX2_take_18 : decode cX2_take 18 = .ok (.getfield 37, 3) := by decide +kernel
theorem dX2_take_21 : decode cX2_take 21 = .ok (.putfield 37, 3) := by decide +kernel
theorem dX2_take_24 : decode cX2_take 24 = .ok (.aload_n 0, 1) := by decide +kernel
theorem dX2_take_25 : decode cX2_take 25 = .ok (.getfield 10, 3) := by decide +kernel
theorem dX2_take_28 : decode cX2_take 28 = .ok (.aload_n 1, 1) := by decide +kernel
theorem dX2_take_29 : decode cX2_take 29 = .ok (.getfield 10, 3) := by decide +kernel
theorem dX2_take_32 : decode cX2_take 32 = .ok (.invokevirtual 45, 3) := by decide +kernel
theorem dX2_take_35 : decode cX2_take 35 = .ok (.aload_n 0, 1) := by decide +kernel
theorem dX2_take_36 : decode cX2_take 36 = .ok (.getfield 19, 3) := by decide +kernel
theorem dX2_take_39 : decode cX2_take 39 = .ok (.aload_n 1, 1) := by decide +kernel
theorem dX2_take_40 : decode cX2_take 40 = .ok (.getfield 19, 3) := by decide +kernel
theorem dX2_take_43 : decode cX2_take 43 = .ok (.invokevirtual 49, 3) := by decide +kernel
theorem dX2_take_46 : decode cX2_take 46 = .ok (.aload_n 0, 1) := by decide +kernel
theorem dX2_take_47 : decode cX2_take 47 = .ok (.getfield 26, 3) := by decide +kernel
theorem dX2_take_50 : decode cX2_take 50 = .ok (.aload_n 1, 1) := by decide +kernel
theorem dX2_take_51 : decode cX2_take 51 = .ok (.getfield 26, 3) := by decide +kernel
theorem dX2_take_54 : decode cX2_take 54 = .ok (.invokevirtual 52, 3) := by decide +kernel
theorem dX2_take_57 : decode cX2_take 57 = .ok (.return_, 1) := by decide +kernel
theorem dX3_formOf_0 : decode cX3_formOf 0 = .ok (.iload_n 0, 1) := by decide +kernel
theorem dX3_formOf_1 : decode cX3_formOf 1 = .ok (.tableswitch 64 0 6 #[43, 46, 49, 52, 55, 58, 61], 43) := by decide +kernel
theorem dX3_formOf_44 : decode cX3_formOf 44 = .ok (.ldc 36, 2) := by decide +kernel
theorem dX3_formOf_46 : decode cX3_formOf 46 = .ok (.areturn, 1) := by decide +kernel
theorem dX3_formOf_47 : decode cX3_formOf 47 = .ok (.ldc 38, 2) := by decide +kernel
theorem dX3_formOf_49 : decode cX3_formOf 49 = .ok (.areturn, 1) := by decide +kernel
theorem dX3_formOf_50 : decode cX3_formOf 50 = .ok (.ldc 40, 2) := by decide +kernel
theorem dX3_formOf_52 : decode cX3_formOf 52 = .ok (.areturn, 1) := by decide +kernel
theorem dX3_formOf_53 : decode cX3_formOf 53 = .ok (.ldc 42, 2) := by decide +kernel
theorem dX3_formOf_55 : decode cX3_formOf 55 = .ok (.areturn, 1) := by decide +kernel
theorem dX3_formOf_56 : decode cX3_formOf 56 = .ok (.ldc 44, 2) := by decide +kernel
theorem dX3_formOf_58 : decode cX3_formOf 58 = .ok (.areturn, 1) := by decide +kernel
theorem dX3_formOf_59 : decode cX3_formOf 59 = .ok (.ldc 46, 2) := by decide +kernel
theorem dX3_formOf_61 : decode cX3_formOf 61 = .ok (.areturn, 1) := by decide +kernel
theorem dX3_formOf_62 : decode cX3_formOf 62 = .ok (.ldc 48, 2) := by decide +kernel
theorem dX3_formOf_64 : decode cX3_formOf 64 = .ok (.areturn, 1) := by decide +kernel
theorem dX3_formOf_65 : decode cX3_formOf 65 = .ok (.ldc 50, 2) := by decide +kernel
theorem dX3_formOf_67 : decode cX3_formOf 67 = .ok (.areturn, 1) := by decide +kernel
theorem dX9_begin_0 : decode cX9_begin 0 = .ok (.aload_n 0, 1) := by decide +kernel
theorem dX9_begin_1 : decode cX9_begin 1 = .ok (.iconst 0, 1) := by decide +kernel
theorem dX9_begin_2 : decode cX9_begin 2 = .ok (.putfield 7, 3) := by decide +kernel
theorem dX9_begin_5 : decode cX9_begin 5 = .ok (.return_, 1) := by decide +kernel
theorem dX9_isBlank_0 : decode cX9_isBlank 0 = .ok (.iload_n 0, 1) := by decide +kernel
theorem dX9_isBlank_1 : decode cX9_isBlank 1 = .ok (.bipush 32, 2) := by decide +kernel
theorem dX9_isBlank_3 : decode cX9_isBlank 3 = .ok (.if_icmp .eq 9, 3) := by decide +kernel
theorem dX9_isBlank_6 : decode cX9_isBlank 6 = .ok (.iload_n 0, 1) := by decide +kernel
theorem dX9_isBlank_7 : decode cX9_isBlank 7 = .ok (.bipush 10, 2) := by decide +kernel
theorem dX9_isBlank_9 : decode cX9_isBlank 9 = .ok (.if_icmp .ne 7, 3) := by decide +kernel
theorem dX9_isBlank_12 : decode cX9_isBlank 12 = .ok (.iconst 1, 1) := by decide +kernel
theorem dX9_isBlank_13 : decode cX9_isBlank 13 = .ok (.goto 4, 3) := by decide +kernel
theorem dX9_isBlank_16 : decode cX9_isBlank 16 = .ok (.iconst 0, 1) := by decide +kernel
theorem dX9_isBlank_17 : decode cX9_isBlank 17 = .ok (.ireturn, 1) := by decide +kernel
theorem dX9_isLetter_0 : decode cX9_isLetter 0 = .ok (.iload_n 0, 1) := by decide +kernel
theorem dX9_isLetter_1 : decode cX9_isLetter 1 = .ok (.bipush 97, 2) := by decide +kernel
theorem dX9_isLetter_3 : decode cX9_isLetter 3 = .ok (.if_icmp .lt 13, 3) := by decide +kernel
theorem dX9_isLetter_6 : decode cX9_isLetter 6 = .ok (.iload_n 0, 1) := by decide +kernel
theorem dX9_isLetter_7 : decode cX9_isLetter 7 = .ok (.bipush 122, 2) := by decide +kernel
theorem dX9_isLetter_9 : decode cX9_isLetter 9 = .ok (.if_icmp .gt 7, 3) := by decide +kernel
theorem dX9_isLetter_12 : decode cX9_isLetter 12 = .ok (.iconst 1, 1) := by decide +kernel
theorem dX9_isLetter_13 : decode cX9_isLetter 13 = .ok (.goto 4, 3) := by decide +kernel
theorem dX9_isLetter_16 : decode cX9_isLetter 16 = .ok (.iconst 0, 1) := by decide +kernel
theorem dX9_isLetter_17 : decode cX9_isLetter 17 = .ok (.ireturn, 1) := by decide +kernel
theorem dX9_isDigit_0 : decode cX9_isDigit 0 = .ok (.iload_n 0, 1) := by decide +kernel
theorem dX9_isDigit_1 : decode cX9_isDigit 1 = .ok (.bipush 48, 2) := by decide +kernel
theorem dX9_isDigit_3 : decode cX9_isDigit 3 = .ok (.if_icmp .lt 13, 3) := by decide +kernel
theorem dX9_isDigit_6 : decode cX9_isDigit 6 = .ok (.iload_n 0, 1) := by decide +kernel
theorem dX9_isDigit_7 : decode cX9_isDigit 7 = .ok (.bipush 57, 2) := by decide +kernel
theorem dX9_isDigit_9 : decode cX9_isDigit 9 = .ok (.if_icmp .gt 7, 3) := by decide +kernel
theorem dX9_isDigit_12 : decode cX9_isDigit 12 = .ok (.iconst 1, 1) := by decide +kernel
theorem dX9_isDigit_13 : decode cX9_isDigit 13 = .ok (.goto 4, 3) := by decide +kernel
theorem dX9_isDigit_16 : decode cX9_isDigit 16 = .ok (.iconst 0, 1) := by decide +kernel
theorem dX9_isDigit_17 : decode cX9_isDigit 17 = .ok (.ireturn, 1) := by decide +kernel
theorem dX9_next_0 : decode cX9_next 0 = .ok (.aload_n 0, 1) := by decide +kernel
theorem dX9_next_1 : decode cX9_next 1 = .ok (.aload_n 0, 1) := by decide +kernel
theorem dX9_next_2 : decode cX9_next 2 = .ok (.getfield 7, 3) := by decide +kernel
theorem dX9_next_5 : decode cX9_next 5 = .ok (.putfield 13, 3) := by decide +kernel
theorem dX9_next_8 : decode cX9_next 8 = .ok (.aload_n 0, 1) := by decide +kernel
theorem dX9_next_9 : decode cX9_next 9 = .ok (.getfield 7, 3) := by decide +kernel
theorem dX9_next_12 : decode cX9_next 12 = .ok (.istore_n 2, 1) := by decide +kernel
theorem dX9_next_13 : decode cX9_next 13 = .ok (.iload_n 2, 1) := by decide +kernel
theorem dX9_next_14 : decode cX9_next 14 = .ok (.aload_n 1, 1) := by decide +kernel
theorem dX9_next_15 : decode cX9_next 15 = .ok (.getfield 16, 3) := by decide +kernel
theorem dX9_next_18 : decode cX9_next 18 = .ok (.if_icmp .ge 28, 3) := by decide +kernel
theorem dX9_next_21 : decode cX9_next 21 = .ok (.aload_n 1, 1) := by decide +kernel
theorem dX9_next_22 : decode cX9_next 22 = .ok (.getfield 21, 3) := by decide +kernel
theorem dX9_next_25 : decode cX9_next 25 = .ok (.iload_n 2, 1) := by decide +kernel
theorem dX9_next_26 : decode cX9_next 26 = .ok (.caload, 1) := by decide +kernel
theorem dX9_next_27 : decode cX9_next 27 = .ok (.invokestatic 25, 3) := by decide +kernel
theorem dX9_next_30 : decode cX9_next 30 = .ok (.ifCond .eq 16, 3) := by decide +kernel
theorem dX9_next_33 : decode cX9_next 33 = .ok (.aload_n 0, 1) := by decide +kernel
theorem dX9_next_34 : decode cX9_next 34 = .ok (.iload_n 2, 1) := by decide +kernel
theorem dX9_next_35 : decode cX9_next 35 = .ok (.iconst 1, 1) := by decide +kernel
theorem dX9_next_36 : decode cX9_next 36 = .ok (.iadd, 1) := by decide +kernel
theorem dX9_next_37 : decode cX9_next 37 = .ok (.putfield 13, 3) := by decide +kernel
theorem dX9_next_40 : decode cX9_next 40 = .ok (.iinc 2 1, 3) := by decide +kernel
theorem dX9_next_43 : decode cX9_next 43 = .ok (.goto (-30), 3) := by decide +kernel
theorem dX9_next_46 : decode cX9_next 46 = .ok (.aload_n 0, 1) := by decide +kernel
theorem dX9_next_47 : decode cX9_next 47 = .ok (.aload_n 0, 1) := by decide +kernel
theorem dX9_next_48 : decode cX9_next 48 = .ok (.getfield 13, 3) := by decide +kernel
theorem dX9_next_51 : decode cX9_next 51 = .ok (.putfield 7, 3) := by decide +kernel
theorem dX9_next_54 : decode cX9_next 54 = .ok (.aload_n 0, 1) := by decide +kernel
theorem dX9_next_55 : decode cX9_next 55 = .ok (.iconst 0, 1) := by decide +kernel
theorem dX9_next_56 : decode cX9_next 56 = .ok (.putfield 29, 3) := by decide +kernel
theorem dX9_next_59 : decode cX9_next 59 = .ok (.aload_n 0, 1) := by decide +kernel
theorem dX9_next_60 : decode cX9_next 60 = .ok (.getfield 13, 3) := by decide +kernel
theorem dX9_next_63 : decode cX9_next 63 = .ok (.aload_n 1, 1) := by decide +kernel
theorem dX9_next_64 : decode cX9_next 64 = .ok (.getfield 16, 3) := by decide +kernel
theorem dX9_next_67 : decode cX9_next 67 = .ok (.if_icmp .lt 9, 3) := by decide +kernel
theorem dX9_next_70 : decode cX9_next 70 = .ok (.aload_n 0, 1) := by decide +kernel
theorem dX9_next_71 : decode cX9_next 71 = .ok (.iconst 0, 1) := by decide +kernel
theorem dX9_next_72 : decode cX9_next 72 = .ok (.putfield 32, 3) := by decide +kernel
theorem dX9_next_75 : decode cX9_next 75 = .ok (.return_, 1) := by decide +kernel
theorem dX9_next_76 : decode cX9_next 76 = .ok (.aload_n 1, 1) := by decide +kernel
theorem dX9_next_77 : decode cX9_next 77 = .ok (.getfield 21, 3) := by decide +kernel
theorem dX9_next_80 : decode cX9_next 80 = .ok (.aload_n 0, 1) := by decide +kernel
theorem dX9_next_81 : decode cX9_next 81 = .ok (.getfield 13, 3) := by decide +kernel
theorem dX9_next_84 : decode cX9_next 84 = .ok (.caload, 1) := by decide +kernel
theorem dX9_next_85 : decode cX9_next 85 = .ok (.istore_n 2, 1) := by decide +kernel
theorem dX9_next_86 : decode cX9_next 86 = .ok (.iload_n 2, 1) := by decide +kernel
theorem dX9_next_87 : decode cX9_next 87 = .ok (.invokestatic 35, 3) := by decide +kernel
theorem dX9_next_90 : decode cX9_next 90 = .ok (.ifCond .eq 49, 3) := by decide +kernel
theorem dX9_next_93 : decode cX9_next 93 = .ok (.aload_n 0, 1) := by decide +kernel
theorem dX9_next_94 : decode cX9_next 94 = .ok (.iconst 1, 1) := by decide +kernel
theorem dX9_next_95 : decode cX9_next 95 = .ok (.putfield 32, 3) := by decide +kernel
theorem dX9_next_98 : decode cX9_next 98 = .ok (.aload_n 0, 1) := by decide +kernel
theorem dX9_next_99 : decode cX9_next 99 = .ok (.getfield 13, 3) := by decide +kernel
theorem dX9_next_102 : decode cX9_next 102 = .ok (.istore_n 3, 1) := by decide +kernel
theorem dX9_next_103 : decode cX9_next 103 = .ok (.iload_n 3, 1) := by decide +kernel
theorem dX9_next_104 : decode cX9_next 104 = .ok (.aload_n 1, 1) := by decide +kernel
theorem dX9_next_105 : decode cX9_next 105 = .ok (.getfield 16, 3) := by decide +kernel
theorem dX9_next_108 : decode cX9_next 108 = .ok (.if_icmp .ge 28, 3) := by decide +kernel
theorem dX9_next_111 : decode cX9_next 111 = .ok (.aload_n 1, 1) := by decide +kernel
theorem dX9_next_112 : decode cX9_next 112 = .ok (.getfield 21, 3) := by decide +kernel
theorem dX9_next_115 : decode cX9_next 115 = .ok (.iload_n 3, 1) := by decide +kernel
theorem dX9_next_116 : decode cX9_next 116 = .ok (.caload, 1) := by decide +kernel
theorem dX9_next_117 : decode cX9_next 117 = .ok (.invokestatic 35, 3) := by decide +kernel
theorem dX9_next_120 : decode cX9_next 120 = .ok (.ifCond .eq 16, 3) := by decide +kernel
theorem dX9_next_123 : decode cX9_next 123 = .ok (.aload_n 0, 1) := by decide +kernel
theorem dX9_next_124 : decode cX9_next 124 = .ok (.iload_n 3, 1) := by decide +kernel
theorem dX9_next_125 : decode cX9_next 125 = .ok (.iconst 1, 1) := by decide +kernel
theorem dX9_next_126 : decode cX9_next 126 = .ok (.iadd, 1) := by decide +kernel
theorem dX9_next_127 : decode cX9_next 127 = .ok (.putfield 7, 3) := by decide +kernel
theorem dX9_next_130 : decode cX9_next 130 = .ok (.iinc 3 1, 3) := by decide +kernel
theorem dX9_next_133 : decode cX9_next 133 = .ok (.goto (-30), 3) := by decide +kernel
theorem dX9_next_136 : decode cX9_next 136 = .ok (.goto 97, 3) := by decide +kernel
theorem dX9_next_139 : decode cX9_next 139 = .ok (.iload_n 2, 1) := by decide +kernel
theorem dX9_next_140 : decode cX9_next 140 = .ok (.invokestatic 38, 3) := by decide +kernel
theorem dX9_next_143 : decode cX9_next 143 = .ok (.ifCond .eq 75, 3) := by decide +kernel
theorem dX9_next_146 : decode cX9_next 146 = .ok (.aload_n 0, 1) := by decide +kernel
theorem dX9_next_147 : decode cX9_next 147 = .ok (.iconst 2, 1) := by decide +kernel
theorem dX9_next_148 : decode cX9_next 148 = .ok (.putfield 32, 3) := by decide +kernel
theorem dX9_next_151 : decode cX9_next 151 = .ok (.aload_n 0, 1) := by decide +kernel
theorem dX9_next_152 : decode cX9_next 152 = .ok (.getfield 13, 3) := by decide +kernel
theorem dX9_next_155 : decode cX9_next 155 = .ok (.istore_n 3, 1) := by decide +kernel
theorem dX9_next_156 : decode cX9_next 156 = .ok (.iload_n 3, 1) := by decide +kernel
theorem dX9_next_157 : decode cX9_next 157 = .ok (.aload_n 1, 1) := by decide +kernel
theorem dX9_next_158 : decode cX9_next 158 = .ok (.getfield 16, 3) := by decide +kernel
theorem dX9_next_161 : decode cX9_next 161 = .ok (.if_icmp .ge 54, 3) := by decide +kernel
theorem dX9_next_164 : decode cX9_next 164 = .ok (.aload_n 1, 1) := by decide +kernel
theorem dX9_next_165 : decode cX9_next 165 = .ok (.getfield 21, 3) := by decide +kernel
theorem dX9_next_168 : decode cX9_next 168 = .ok (.iload_n 3, 1) := by decide +kernel
theorem dX9_next_169 : decode cX9_next 169 = .ok (.caload, 1) := by decide +kernel
theorem dX9_next_170 : decode cX9_next 170 = .ok (.invokestatic 38, 3) := by decide +kernel
theorem dX9_next_173 : decode cX9_next 173 = .ok (.ifCond .eq 42, 3) := by decide +kernel
theorem dX9_next_176 : decode cX9_next 176 = .ok (.aload_n 0, 1) := by decide +kernel
theorem dX9_next_177 : decode cX9_next 177 = .ok (.ldc 41, 2) := by decide +kernel
theorem dX9_next_179 : decode cX9_next 179 = .ok (.bipush 10, 2) := by decide +kernel
theorem dX9_next_181 : decode cX9_next 181 = .ok (.aload_n 0, 1) := by decide +kernel
theorem dX9_next_182 : decode cX9_next 182 = .ok (.getfield 29, 3) := by decide +kernel
theorem dX9_next_185 : decode cX9_next 185 = .ok (.imul, 1) := by decide +kernel
theorem dX9_next_186 : decode cX9_next 186 = .ok (.aload_n 1, 1) := by decide +kernel
theorem dX9_next_187 : decode cX9_next 187 = .ok (.getfield 21, 3) := by decide +kernel
theorem dX9_next_190 : decode cX9_next 190 = .ok (.iload_n 3, 1) := by decide +kernel
theorem dX9_next_191 : decode cX9_next 191 = .ok (.caload, 1) := by decide +kernel
theorem dX9_next_192 : decode cX9_next 192 = .ok (.iadd, 1) := by decide +kernel
theorem dX9_next_193 : decode cX9_next 193 = .ok (.bipush 48, 2) := by decide +kernel
theorem dX9_next_195 : decode cX9_next 195 = .ok (.isub, 1) := by decide +kernel
theorem dX9_next_196 : decode cX9_next 196 = .ok (.invokestatic 42, 3) := by decide +kernel
theorem dX9_next_199 : decode cX9_next 199 = .ok (.putfield 29, 3) := by decide +kernel
theorem dX9_next_202 : decode cX9_next 202 = .ok (.aload_n 0, 1) := by decide +kernel
theorem dX9_next_203 : decode cX9_next 203 = .ok (.iload_n 3, 1) := by decide +kernel
theorem dX9_next_204 : decode cX9_next 204 = .ok (.iconst 1, 1) := by decide +kernel
theorem dX9_next_205 : decode cX9_next 205 = .ok (.iadd, 1) := by decide +kernel
theorem dX9_next_206 : decode cX9_next 206 = .ok (.putfield 7, 3) := by decide +kernel
theorem dX9_next_209 : decode cX9_next 209 = .ok (.iinc 3 1, 3) := by decide +kernel
theorem dX9_next_212 : decode cX9_next 212 = .ok (.goto (-56), 3) := by decide +kernel
theorem dX9_next_215 : decode cX9_next 215 = .ok (.goto 18, 3) := by decide +kernel
theorem dX9_next_218 : decode cX9_next 218 = .ok (.aload_n 0, 1) := by decide +kernel
theorem dX9_next_219 : decode cX9_next 219 = .ok (.iconst 3, 1) := by decide +kernel
theorem dX9_next_220 : decode cX9_next 220 = .ok (.putfield 32, 3) := by decide +kernel
theorem dX9_next_223 : decode cX9_next 223 = .ok (.aload_n 0, 1) := by decide +kernel
theorem dX9_next_224 : decode cX9_next 224 = .ok (.aload_n 0, 1) := by decide +kernel
theorem dX9_next_225 : decode cX9_next 225 = .ok (.getfield 13, 3) := by decide +kernel
theorem dX9_next_228 : decode cX9_next 228 = .ok (.iconst 1, 1) := by decide +kernel
theorem dX9_next_229 : decode cX9_next 229 = .ok (.iadd, 1) := by decide +kernel
theorem dX9_next_230 : decode cX9_next 230 = .ok (.putfield 7, 3) := by decide +kernel
theorem dX9_next_233 : decode cX9_next 233 = .ok (.return_, 1) := by decide +kernel
theorem dX9_isAs_0 : decode cX9_isAs 0 = .ok (.aload_n 0, 1) := by decide +kernel
theorem dX9_isAs_1 : decode cX9_isAs 1 = .ok (.getfield 7, 3) := by decide +kernel
theorem dX9_isAs_4 : decode cX9_isAs 4 = .ok (.aload_n 0, 1) := by decide +kernel
theorem dX9_isAs_5 : decode cX9_isAs 5 = .ok (.getfield 13, 3) := by decide +kernel
theorem dX9_isAs_8 : decode cX9_isAs 8 = .ok (.isub, 1) := by decide +kernel
theorem dX9_isAs_9 : decode cX9_isAs 9 = .ok (.iload 4, 2) := by decide +kernel
theorem dX9_isAs_11 : decode cX9_isAs 11 = .ok (.iload_n 3, 1) := by decide +kernel
theorem dX9_isAs_12 : decode cX9_isAs 12 = .ok (.isub, 1) := by decide +kernel
theorem dX9_isAs_13 : decode cX9_isAs 13 = .ok (.if_icmp .ne 12, 3) := by decide +kernel
theorem dX9_isAs_16 : decode cX9_isAs 16 = .ok (.iload 4, 2) := by decide +kernel
theorem dX9_isAs_18 : decode cX9_isAs 18 = .ok (.aload_n 2, 1) := by decide +kernel
theorem dX9_isAs_19 : decode cX9_isAs 19 = .ok (.invokevirtual 48, 3) := by decide +kernel
theorem dX9_isAs_22 : decode cX9_isAs 22 = .ok (.if_icmp .le 5, 3) := by decide +kernel
theorem dX9_isAs_25 : decode cX9_isAs 25 = .ok (.iconst 0, 1) := by decide +kernel
theorem dX9_isAs_26 : decode cX9_isAs 26 = .ok (.ireturn, 1) := by decide +kernel
theorem dX9_isAs_27 : decode cX9_isAs 27 = .ok (.iconst 0, 1) := by decide +kernel
theorem dX9_isAs_28 : decode cX9_isAs 28 = .ok (.istore 5, 2) := by decide +kernel
theorem dX9_isAs_30 : decode cX9_isAs 30 = .ok (.iload 5, 2) := by decide +kernel
theorem dX9_isAs_32 : decode cX9_isAs 32 = .ok (.iload 4, 2) := by decide +kernel
theorem dX9_isAs_34 : decode cX9_isAs 34 = .ok (.iload_n 3, 1) := by decide +kernel
theorem dX9_isAs_35 : decode cX9_isAs 35 = .ok (.isub, 1) := by decide +kernel
theorem dX9_isAs_36 : decode cX9_isAs 36 = .ok (.if_icmp .ge 34, 3) := by decide +kernel
theorem dX9_isAs_39 : decode cX9_isAs 39 = .ok (.aload_n 1, 1) := by decide +kernel
theorem dX9_isAs_40 : decode cX9_isAs 40 = .ok (.getfield 21, 3) := by decide +kernel
theorem dX9_isAs_43 : decode cX9_isAs 43 = .ok (.aload_n 0, 1) := by decide +kernel
theorem dX9_isAs_44 : decode cX9_isAs 44 = .ok (.getfield 13, 3) := by decide +kernel
theorem dX9_isAs_47 : decode cX9_isAs 47 = .ok (.iload 5, 2) := by decide +kernel
theorem dX9_isAs_49 : decode cX9_isAs 49 = .ok (.iadd, 1) := by decide +kernel
theorem dX9_isAs_50 : decode cX9_isAs 50 = .ok (.caload, 1) := by decide +kernel
theorem dX9_isAs_51 : decode cX9_isAs 51 = .ok (.aload_n 2, 1) := by decide +kernel
theorem dX9_isAs_52 : decode cX9_isAs 52 = .ok (.iload_n 3, 1) := by decide +kernel
theorem dX9_isAs_53 : decode cX9_isAs 53 = .ok (.iload 5, 2) := by decide +kernel
theorem dX9_isAs_55 : decode cX9_isAs 55 = .ok (.iadd, 1) := by decide +kernel
theorem dX9_isAs_56 : decode cX9_isAs 56 = .ok (.invokevirtual 54, 3) := by decide +kernel
theorem dX9_isAs_59 : decode cX9_isAs 59 = .ok (.if_icmp .eq 5, 3) := by decide +kernel
theorem dX9_isAs_62 : decode cX9_isAs 62 = .ok (.iconst 0, 1) := by decide +kernel
theorem dX9_isAs_63 : decode cX9_isAs 63 = .ok (.ireturn, 1) := by decide +kernel
theorem dX9_isAs_64 : decode cX9_isAs 64 = .ok (.iinc 5 1, 3) := by decide +kernel
theorem dX9_isAs_67 : decode cX9_isAs 67 = .ok (.goto (-37), 3) := by decide +kernel
theorem dX9_isAs_70 : decode cX9_isAs 70 = .ok (.iconst 1, 1) := by decide +kernel
theorem dX9_isAs_71 : decode cX9_isAs 71 = .ok (.ireturn, 1) := by decide +kernel
theorem dX3_kindHere_0 : decode cX3_kindHere 0 = .ok (.iconst 0, 1) := by decide +kernel
theorem dX3_kindHere_1 : decode cX3_kindHere 1 = .ok (.istore_n 2, 1) := by decide +kernel
theorem dX3_kindHere_2 : decode cX3_kindHere 2 = .ok (.iload_n 2, 1) := by decide +kernel
theorem dX3_kindHere_3 : decode cX3_kindHere 3 = .ok (.bipush 8, 2) := by decide +kernel
theorem dX3_kindHere_5 : decode cX3_kindHere 5 = .ok (.if_icmp .ge 35, 3) := by decide +kernel
theorem dX3_kindHere_8 : decode cX3_kindHere 8 = .ok (.iload_n 2, 1) := by decide +kernel
theorem dX3_kindHere_9 : decode cX3_kindHere 9 = .ok (.invokestatic 83, 3) := by decide +kernel
theorem dX3_kindHere_12 : decode cX3_kindHere 12 = .ok (.astore_n 3, 1) := by decide +kernel
theorem dX3_kindHere_13 : decode cX3_kindHere 13 = .ok (.aload_n 0, 1) := by decide +kernel
theorem dX3_kindHere_14 : decode cX3_kindHere 14 = .ok (.getfield 21, 3) := by decide +kernel
theorem dX3_kindHere_17 : decode cX3_kindHere 17 = .ok (.aload_n 1, 1) := by decide +kernel
theorem dX3_kindHere_18 : decode cX3_kindHere 18 = .ok (.aload_n 3, 1) := by decide +kernel
theorem dX3_kindHere_19 : decode cX3_kindHere 19 = .ok (.iconst 0, 1) := by decide +kernel
theorem dX3_kindHere_20 : decode cX3_kindHere 20 = .ok (.aload_n 3, 1) := by decide +kernel
theorem dX3_kindHere_21 : decode cX3_kindHere 21 = .ok (.bipush 32, 2) := by decide +kernel
theorem dX3_kindHere_23 : decode cX3_kindHere 23 = .ok (.invokevirtual 94, 3) := by decide +kernel
theorem dX3_kindHere_26 : decode cX3_kindHere 26 = .ok (.invokevirtual 100, 3) := by decide +kernel
theorem dX3_kindHere_29 : decode cX3_kindHere 29 = .ok (.ifCond .eq 5, 3) := by decide +kernel
theorem dX3_kindHere_32 : decode cX3_kindHere 32 = .ok (.iload_n 2, 1) := by decide +kernel
theorem dX3_kindHere_33 : decode cX3_kindHere 33 = .ok (.ireturn, 1) := by decide +kernel
theorem dX3_kindHere_34 : decode cX3_kindHere 34 = .ok (.iinc 2 1, 3) := by decide +kernel
theorem dX3_kindHere_37 : decode cX3_kindHere 37 = .ok (.goto (-35), 3) := by decide +kernel
theorem dX3_kindHere_40 : decode cX3_kindHere 40 = .ok (.iconst (-1), 1) := by decide +kernel
theorem dX3_kindHere_41 : decode cX3_kindHere 41 = .ok (.ireturn, 1) := by decide +kernel
theorem dX3_refuse_0 : decode cX3_refuse 0 = .ok (.aload_n 0, 1) := by decide +kernel
theorem dX3_refuse_1 : decode cX3_refuse 1 = .ok (.iload_n 1, 1) := by decide +kernel
theorem dX3_refuse_2 : decode cX3_refuse 2 = .ok (.putfield 29, 3) := by decide +kernel
theorem dX3_refuse_5 : decode cX3_refuse 5 = .ok (.aload_n 0, 1) := by decide +kernel
theorem dX3_refuse_6 : decode cX3_refuse 6 = .ok (.aload_n 0, 1) := by decide +kernel
theorem dX3_refuse_7 : decode cX3_refuse 7 = .ok (.getfield 21, 3) := by decide +kernel
theorem dX3_refuse_10 : decode cX3_refuse 10 = .ok (.getfield 159, 3) := by decide +kernel
theorem dX3_refuse_13 : decode cX3_refuse 13 = .ok (.putfield 33, 3) := by decide +kernel
theorem dX3_refuse_16 : decode cX3_refuse 16 = .ok (.return_, 1) := by decide +kernel
theorem dX3_isFull_0 : decode cX3_isFull 0 = .ok (.iload_n 1, 1) := by decide +kernel
theorem dX3_isFull_1 : decode cX3_isFull 1 = .ok (.lookupswitch 96 #[(1, 35), (4, 55), (6, 75)], 35) := by decide +kernel
theorem dX3_isFull_36 : decode cX3_isFull 36 = .ok (.aload_n 0, 1) := by decide +kernel
theorem dX3_isFull_37 : decode cX3_isFull 37 = .ok (.getfield 12, 3) := by decide +kernel
theorem dX3_isFull_40 : decode cX3_isFull 40 = .ok (.getfield 104, 3) := by decide +kernel
theorem dX3_isFull_43 : decode cX3_isFull 43 = .ok (.getfield 108, 3) := by decide +kernel
theorem dX3_isFull_46 : decode cX3_isFull 46 = .ok (.iconst 5, 1) := by decide +kernel
theorem dX3_isFull_47 : decode cX3_isFull 47 = .ok (.if_icmp .lt 7, 3) := by decide +kernel
theorem dX3_isFull_50 : decode cX3_isFull 50 = .ok (.iconst 1, 1) := by decide +kernel
theorem dX3_isFull_51 : decode cX3_isFull 51 = .ok (.goto 4, 3) := by decide +kernel
theorem dX3_isFull_54 : decode cX3_isFull 54 = .ok (.iconst 0, 1) := by decide +kernel
theorem dX3_isFull_55 : decode cX3_isFull 55 = .ok (.ireturn, 1) := by decide +kernel
theorem dX3_isFull_56 : decode cX3_isFull 56 = .ok (.aload_n 0, 1) := by decide +kernel
theorem dX3_isFull_57 : decode cX3_isFull 57 = .ok (.getfield 12, 3) := by decide +kernel
theorem dX3_isFull_60 : decode cX3_isFull 60 = .ok (.getfield 113, 3) := by decide +kernel
theorem dX3_isFull_63 : decode cX3_isFull 63 = .ok (.getfield 117, 3) := by decide +kernel
theorem dX3_isFull_66 : decode cX3_isFull 66 = .ok (.iconst 5, 1) := by decide +kernel
theorem dX3_isFull_67 : decode cX3_isFull 67 = .ok (.if_icmp .lt 7, 3) := by decide +kernel
theorem dX3_isFull_70 : decode cX3_isFull 70 = .ok (.iconst 1, 1) := by decide +kernel
theorem dX3_isFull_71 : decode cX3_isFull 71 = .ok (.goto 4, 3) := by decide +kernel
theorem dX3_isFull_74 : decode cX3_isFull 74 = .ok (.iconst 0, 1) := by decide +kernel
theorem dX3_isFull_75 : decode cX3_isFull 75 = .ok (.ireturn, 1) := by decide +kernel
theorem dX3_isFull_76 : decode cX3_isFull 76 = .ok (.aload_n 0, 1) := by decide +kernel
theorem dX3_isFull_77 : decode cX3_isFull 77 = .ok (.getfield 12, 3) := by decide +kernel
theorem dX3_isFull_80 : decode cX3_isFull 80 = .ok (.getfield 120, 3) := by decide +kernel
theorem dX3_isFull_83 : decode cX3_isFull 83 = .ok (.getfield 124, 3) := by decide +kernel
theorem dX3_isFull_86 : decode cX3_isFull 86 = .ok (.bipush 7, 2) := by decide +kernel
theorem dX3_isFull_88 : decode cX3_isFull 88 = .ok (.if_icmp .lt 7, 3) := by decide +kernel
theorem dX3_isFull_91 : decode cX3_isFull 91 = .ok (.iconst 1, 1) := by decide +kernel
theorem dX3_isFull_92 : decode cX3_isFull 92 = .ok (.goto 4, 3) := by decide +kernel
theorem dX3_isFull_95 : decode cX3_isFull 95 = .ok (.iconst 0, 1) := by decide +kernel
theorem dX3_isFull_96 : decode cX3_isFull 96 = .ok (.ireturn, 1) := by decide +kernel
theorem dX3_isFull_97 : decode cX3_isFull 97 = .ok (.iconst 0, 1) := by decide +kernel
theorem dX3_isFull_98 : decode cX3_isFull 98 = .ok (.ireturn, 1) := by decide +kernel
theorem dX3_lowestOf_0 : decode cX3_lowestOf 0 = .ok (.iload_n 1, 1) := by decide +kernel
theorem dX3_lowestOf_1 : decode cX3_lowestOf 1 = .ok (.lookupswitch 62 #[(76, 39), (87, 37), (89, 35)], 35) := by decide +kernel
theorem dX3_lowestOf_36 : decode cX3_lowestOf 36 = .ok (.iconst 4, 1) := by decide +kernel
theorem dX3_lowestOf_37 : decode cX3_lowestOf 37 = .ok (.ireturn, 1) := by decide +kernel
theorem dX3_lowestOf_38 : decode cX3_lowestOf 38 = .ok (.iconst 1, 1) := by decide +kernel
theorem dX3_lowestOf_39 : decode cX3_lowestOf 39 = .ok (.ireturn, 1) := by decide +kernel
theorem dX3_lowestOf_40 : decode cX3_lowestOf 40 = .ok (.aload_n 0, 1) := by decide +kernel
theorem dX3_lowestOf_41 : decode cX3_lowestOf 41 = .ok (.getfield 127, 3) := by decide +kernel
theorem dX3_lowestOf_44 : decode cX3_lowestOf 44 = .ok (.ifCond .le 17, 3) := by decide +kernel
theorem dX3_lowestOf_47 : decode cX3_lowestOf 47 = .ok (.aload_n 0, 1) := by decide +kernel
theorem dX3_lowestOf_48 : decode cX3_lowestOf 48 = .ok (.getfield 25, 3) := by decide +kernel
theorem dX3_lowestOf_51 : decode cX3_lowestOf 51 = .ok (.aload_n 0, 1) := by decide +kernel
theorem dX3_lowestOf_52 : decode cX3_lowestOf 52 = .ok (.getfield 127, 3) := by decide +kernel
theorem dX3_lowestOf_55 : decode cX3_lowestOf 55 = .ok (.iconst 1, 1) := by decide +kernel
theorem dX3_lowestOf_56 : decode cX3_lowestOf 56 = .ok (.isub, 1) := by decide +kernel
theorem dX3_lowestOf_57 : decode cX3_lowestOf 57 = .ok (.iaload, 1) := by decide +kernel
theorem dX3_lowestOf_58 : decode cX3_lowestOf 58 = .ok (.goto 4, 3) := by decide +kernel
theorem dX3_lowestOf_61 : decode cX3_lowestOf 61 = .ok (.iconst 0, 1) := by decide +kernel
theorem dX3_lowestOf_62 : decode cX3_lowestOf 62 = .ok (.ireturn, 1) := by decide +kernel
theorem dX3_lowestOf_63 : decode cX3_lowestOf 63 = .ok (.iconst 0, 1) := by decide +kernel
theorem dX3_lowestOf_64 : decode cX3_lowestOf 64 = .ok (.ireturn, 1) := by decide +kernel
theorem dX3_highestOf_0 : decode cX3_highestOf 0 = .ok (.iload_n 1, 1) := by decide +kernel
theorem dX3_highestOf_1 : decode cX3_highestOf 1 = .ok (.tableswitch 148 68 89 #[138, 148, 148, 148, 148, 148, 148, 109, 138, 148, 148, 148, 148, 148, 148, 125, 112, 148, 148, 106, 148, 103], 103) := by decide +kernel
theorem dX3_highestOf_104 : decode cX3_highestOf 104 = .ok (.bipush 20, 2) := by decide +kernel
theorem dX3_highestOf_106 : decode cX3_highestOf 106 = .ok (.ireturn, 1) := by decide +kernel
theorem dX3_highestOf_107 : decode cX3_highestOf 107 = .ok (.bipush 9, 2) := by decide +kernel
theorem dX3_highestOf_109 : decode cX3_highestOf 109 = .ok (.ireturn, 1) := by decide +kernel
theorem dX3_highestOf_110 : decode cX3_highestOf 110 = .ok (.bipush 30, 2) := by decide +kernel
theorem dX3_highestOf_112 : decode cX3_highestOf 112 = .ok (.ireturn, 1) := by decide +kernel
theorem dX3_highestOf_113 : decode cX3_highestOf 113 = .ok (.aload_n 0, 1) := by decide +kernel
theorem dX3_highestOf_114 : decode cX3_highestOf 114 = .ok (.getfield 12, 3) := by decide +kernel
theorem dX3_highestOf_117 : decode cX3_highestOf 117 = .ok (.getfield 104, 3) := by decide +kernel
theorem dX3_highestOf_120 : decode cX3_highestOf 120 = .ok (.getfield 108, 3) := by decide +kernel
theorem dX3_highestOf_123 : decode cX3_highestOf 123 = .ok (.iconst 1, 1) := by decide +kernel
theorem dX3_highestOf_124 : decode cX3_highestOf 124 = .ok (.isub, 1) := by decide +kernel
theorem dX3_highestOf_125 : decode cX3_highestOf 125 = .ok (.ireturn, 1) := by decide +kernel
theorem dX3_highestOf_126 : decode cX3_highestOf 126 = .ok (.aload_n 0, 1) := by decide +kernel
theorem dX3_highestOf_127 : decode cX3_highestOf 127 = .ok (.getfield 12, 3) := by decide +kernel
theorem dX3_highestOf_130 : decode cX3_highestOf 130 = .ok (.getfield 113, 3) := by decide +kernel
theorem dX3_highestOf_133 : decode cX3_highestOf 133 = .ok (.getfield 117, 3) := by decide +kernel
theorem dX3_highestOf_136 : decode cX3_highestOf 136 = .ok (.iconst 1, 1) := by decide +kernel
theorem dX3_highestOf_137 : decode cX3_highestOf 137 = .ok (.isub, 1) := by decide +kernel
theorem dX3_highestOf_138 : decode cX3_highestOf 138 = .ok (.ireturn, 1) := by decide +kernel
theorem dX3_highestOf_139 : decode cX3_highestOf 139 = .ok (.aload_n 0, 1) := by decide +kernel
theorem dX3_highestOf_140 : decode cX3_highestOf 140 = .ok (.getfield 12, 3) := by decide +kernel
theorem dX3_highestOf_143 : decode cX3_highestOf 143 = .ok (.getfield 156, 3) := by decide +kernel
theorem dX3_highestOf_146 : decode cX3_highestOf 146 = .ok (.iconst 1, 1) := by decide +kernel
theorem dX3_highestOf_147 : decode cX3_highestOf 147 = .ok (.isub, 1) := by decide +kernel
theorem dX3_highestOf_148 : decode cX3_highestOf 148 = .ok (.ireturn, 1) := by decide +kernel
theorem dX3_highestOf_149 : decode cX3_highestOf 149 = .ok (.bipush 99, 2) := by decide +kernel
theorem dX3_highestOf_151 : decode cX3_highestOf 151 = .ok (.ireturn, 1) := by decide +kernel
theorem dX3_readNumber_0 : decode cX3_readNumber 0 = .ok (.aload_n 0, 1) := by decide +kernel
theorem dX3_readNumber_1 : decode cX3_readNumber 1 = .ok (.getfield 21, 3) := by decide +kernel
theorem dX3_readNumber_4 : decode cX3_readNumber 4 = .ok (.getfield 62, 3) := by decide +kernel
theorem dX3_readNumber_7 : decode cX3_readNumber 7 = .ok (.iconst 2, 1) := by decide +kernel
theorem dX3_readNumber_8 : decode cX3_readNumber 8 = .ok (.if_icmp .eq 11, 3) := by decide +kernel
theorem dX3_readNumber_11 : decode cX3_readNumber 11 = .ok (.aload_n 0, 1) := by decide +kernel
theorem dX3_readNumber_12 : decode cX3_readNumber 12 = .ok (.iconst 1, 1) := by decide +kernel
theorem dX3_readNumber_13 : decode cX3_readNumber 13 = .ok (.invokevirtual 75, 3) := by decide +kernel
theorem dX3_readNumber_16 : decode cX3_readNumber 16 = .ok (.goto 79, 3) := by decide +kernel
theorem dX3_readNumber_19 : decode cX3_readNumber 19 = .ok (.aload_n 0, 1) := by decide +kernel
theorem dX3_readNumber_20 : decode cX3_readNumber 20 = .ok (.getfield 21, 3) := by decide +kernel
theorem dX3_readNumber_23 : decode cX3_readNumber 23 = .ok (.getfield 146, 3) := by decide +kernel
theorem dX3_readNumber_26 : decode cX3_readNumber 26 = .ok (.aload_n 0, 1) := by decide +kernel
theorem dX3_readNumber_27 : decode cX3_readNumber 27 = .ok (.iload_n 1, 1) := by decide +kernel
theorem dX3_readNumber_28 : decode cX3_readNumber 28 = .ok (.invokevirtual 149, 3) := by decide +kernel
theorem dX3_readNumber_31 : decode cX3_readNumber 31 = .ok (.if_icmp .lt 18, 3) := by decide +kernel
theorem dX3_readNumber_34 : decode cX3_readNumber 34 = .ok (.aload_n 0, 1) := by decide +kernel
theorem dX3_readNumber_35 : decode cX3_readNumber 35 = .ok (.getfield 21, 3) := by decide +kernel
theorem dX3_readNumber_38 : decode cX3_readNumber 38 = .ok (.getfield 146, 3) := by decide +kernel
theorem dX3_readNumber_41 : decode cX3_readNumber 41 = .ok (.aload_n 0, 1) := by decide +kernel
theorem dX3_readNumber_42 : decode cX3_readNumber 42 = .ok (.iload_n 1, 1) := by decide +kernel
theorem dX3_readNumber_43 : decode cX3_readNumber 43 = .ok (.invokevirtual 153, 3) := by decide +kernel
theorem dX3_readNumber_46 : decode cX3_readNumber 46 = .ok (.if_icmp .le 11, 3) := by decide +kernel
theorem dX3_readNumber_49 : decode cX3_readNumber 49 = .ok (.aload_n 0, 1) := by decide +kernel
theorem dX3_readNumber_50 : decode cX3_readNumber 50 = .ok (.iconst 2, 1) := by decide +kernel
theorem dX3_readNumber_51 : decode cX3_readNumber 51 = .ok (.invokevirtual 75, 3) := by decide +kernel
theorem dX3_readNumber_54 : decode cX3_readNumber 54 = .ok (.goto 41, 3) := by decide +kernel
theorem dX3_readNumber_57 : decode cX3_readNumber 57 = .ok (.aload_n 0, 1) := by decide +kernel
theorem dX3_readNumber_58 : decode cX3_readNumber 58 = .ok (.getfield 127, 3) := by decide +kernel
theorem dX3_readNumber_61 : decode cX3_readNumber 61 = .ok (.aload_n 0, 1) := by decide +kernel
theorem dX3_readNumber_62 : decode cX3_readNumber 62 = .ok (.getfield 25, 3) := by decide +kernel
theorem dX3_readNumber_65 : decode cX3_readNumber 65 = .ok (.arraylength, 1) := by decide +kernel
theorem dX3_readNumber_66 : decode cX3_readNumber 66 = .ok (.if_icmp .ge 29, 3) := by decide +kernel
theorem dX3_readNumber_69 : decode cX3_readNumber 69 = .ok (.aload_n 0, 1) := by decide +kernel
theorem dX3_readNumber_70 : decode cX3_readNumber 70 = .ok (.getfield 25, 3) := by decide +kernel
theorem dX3_readNumber_73 : decode cX3_readNumber 73 = .ok (.aload_n 0, 1) := by decide +kernel
theorem dX3_readNumber_74 : decode cX3_readNumber 74 = .ok (.getfield 127, 3) := by decide +kernel
theorem dX3_readNumber_77 : decode cX3_readNumber 77 = .ok (.aload_n 0, 1) := by decide +kernel
theorem dX3_readNumber_78 : decode cX3_readNumber 78 = .ok (.getfield 21, 3) := by decide +kernel
theorem dX3_readNumber_81 : decode cX3_readNumber 81 = .ok (.getfield 146, 3) := by decide +kernel
theorem dX3_readNumber_84 : decode cX3_readNumber 84 = .ok (.iastore, 1) := by decide +kernel
theorem dX3_readNumber_85 : decode cX3_readNumber 85 = .ok (.aload_n 0, 1) := by decide +kernel
theorem dX3_readNumber_86 : decode cX3_readNumber 86 = .ok (.dup, 1) := by decide +kernel
theorem dX3_readNumber_87 : decode cX3_readNumber 87 = .ok (.getfield 127, 3) := by decide +kernel
theorem dX3_readNumber_90 : decode cX3_readNumber 90 = .ok (.iconst 1, 1) := by decide +kernel
theorem dX3_readNumber_91 : decode cX3_readNumber 91 = .ok (.iadd, 1) := by decide +kernel
theorem dX3_readNumber_92 : decode cX3_readNumber 92 = .ok (.putfield 127, 3) := by decide +kernel
theorem dX3_readNumber_95 : decode cX3_readNumber 95 = .ok (.return_, 1) := by decide +kernel
theorem dX3_readPart_0 : decode cX3_readPart 0 = .ok (.aload_n 0, 1) := by decide +kernel
theorem dX3_readPart_1 : decode cX3_readPart 1 = .ok (.getfield 21, 3) := by decide +kernel
theorem dX3_readPart_4 : decode cX3_readPart 4 = .ok (.aload_n 1, 1) := by decide +kernel
theorem dX3_readPart_5 : decode cX3_readPart 5 = .ok (.invokevirtual 58, 3) := by decide +kernel
theorem dX3_readPart_8 : decode cX3_readPart 8 = .ok (.iload_n 3, 1) := by decide +kernel
theorem dX3_readPart_9 : decode cX3_readPart 9 = .ok (.aload_n 2, 1) := by decide +kernel
theorem dX3_readPart_10 : decode cX3_readPart 10 = .ok (.invokevirtual 130, 3) := by decide +kernel
theorem dX3_readPart_13 : decode cX3_readPart 13 = .ok (.if_icmp .ge 11, 3) := by decide +kernel
theorem dX3_readPart_16 : decode cX3_readPart 16 = .ok (.aload_n 2, 1) := by decide +kernel
theorem dX3_readPart_17 : decode cX3_readPart 17 = .ok (.iload_n 3, 1) := by decide +kernel
theorem dX3_readPart_18 : decode cX3_readPart 18 = .ok (.invokevirtual 134, 3) := by decide +kernel
theorem dX3_readPart_21 : decode cX3_readPart 21 = .ok (.goto 5, 3) := by decide +kernel
theorem dX3_readPart_24 : decode cX3_readPart 24 = .ok (.bipush 32, 2) := by decide +kernel
theorem dX3_readPart_26 : decode cX3_readPart 26 = .ok (.istore 5, 2) := by decide +kernel
theorem dX3_readPart_28 : decode cX3_readPart 28 = .ok (.iload 5, 2) := by decide +kernel
theorem dX3_readPart_30 : decode cX3_readPart 30 = .ok (.bipush 65, 2) := by decide +kernel
theorem dX3_readPart_32 : decode cX3_readPart 32 = .ok (.if_icmp .lt 19, 3) := by decide +kernel
theorem dX3_readPart_35 : decode cX3_readPart 35 = .ok (.iload 5, 2) := by decide +kernel
theorem dX3_readPart_37 : decode cX3_readPart 37 = .ok (.bipush 90, 2) := by decide +kernel
theorem dX3_readPart_39 : decode cX3_readPart 39 = .ok (.if_icmp .gt 12, 3) := by decide +kernel
theorem dX3_readPart_42 : decode cX3_readPart 42 = .ok (.aload_n 0, 1) := by decide +kernel
theorem dX3_readPart_43 : decode cX3_readPart 43 = .ok (.iload 5, 2) := by decide +kernel
theorem dX3_readPart_45 : decode cX3_readPart 45 = .ok (.invokevirtual 142, 3) := by decide +kernel
theorem dX3_readPart_48 : decode cX3_readPart 48 = .ok (.goto 23, 3) := by decide +kernel
theorem dX3_readPart_51 : decode cX3_readPart 51 = .ok (.aload_n 0, 1) := by decide +kernel
theorem dX3_readPart_52 : decode cX3_readPart 52 = .ok (.getfield 21, 3) := by decide +kernel
theorem dX3_readPart_55 : decode cX3_readPart 55 = .ok (.aload_n 1, 1) := by decide +kernel
theorem dX3_readPart_56 : decode cX3_readPart 56 = .ok (.aload_n 2, 1) := by decide +kernel
theorem dX3_readPart_57 : decode cX3_readPart 57 = .ok (.iload_n 3, 1) := by decide +kernel
theorem dX3_readPart_58 : decode cX3_readPart 58 = .ok (.iload 4, 2) := by decide +kernel
theorem dX3_readPart_60 : decode cX3_readPart 60 = .ok (.invokevirtual 100, 3) := by decide +kernel
theorem dX3_readPart_63 : decode cX3_readPart 63 = .ok (.ifCond .ne 8, 3) := by decide +kernel
theorem dX3_readPart_66 : decode cX3_readPart 66 = .ok (.aload_n 0, 1) := by decide +kernel
theorem dX3_readPart_67 : decode cX3_readPart 67 = .ok (.iconst 1, 1) := by decide +kernel
theorem dX3_readPart_68 : decode cX3_readPart 68 = .ok (.invokevirtual 75, 3) := by decide +kernel
theorem dX3_readPart_71 : decode cX3_readPart 71 = .ok (.return_, 1) := by decide +kernel
theorem dX3_readForm_0 : decode cX3_readForm 0 = .ok (.aload_n 0, 1) := by decide +kernel
theorem dX3_readForm_1 : decode cX3_readForm 1 = .ok (.iconst 0, 1) := by decide +kernel
theorem dX3_readForm_2 : decode cX3_readForm 2 = .ok (.putfield 127, 3) := by decide +kernel
theorem dX3_readForm_5 : decode cX3_readForm 5 = .ok (.aload_n 2, 1) := by decide +kernel
theorem dX3_readForm_6 : decode cX3_readForm 6 = .ok (.bipush 32, 2) := by decide +kernel
theorem dX3_readForm_8 : decode cX3_readForm 8 = .ok (.invokevirtual 94, 3) := by decide +kernel
theorem dX3_readForm_11 : decode cX3_readForm 11 = .ok (.iconst 1, 1) := by decide +kernel
theorem dX3_readForm_12 : decode cX3_readForm 12 = .ok (.iadd, 1) := by decide +kernel
theorem dX3_readForm_13 : decode cX3_readForm 13 = .ok (.istore_n 3, 1) := by decide +kernel
theorem dX3_readForm_14 : decode cX3_readForm 14 = .ok (.iload_n 3, 1) := by decide +kernel
theorem dX3_readForm_15 : decode cX3_readForm 15 = .ok (.istore 4, 2) := by decide +kernel
theorem dX3_readForm_17 : decode cX3_readForm 17 = .ok (.iload 4, 2) := by decide +kernel
theorem dX3_readForm_19 : decode cX3_readForm 19 = .ok (.aload_n 2, 1) := by decide +kernel
theorem dX3_readForm_20 : decode cX3_readForm 20 = .ok (.invokevirtual 130, 3) := by decide +kernel
theorem dX3_readForm_23 : decode cX3_readForm 23 = .ok (.if_icmp .gt 50, 3) := by decide +kernel
theorem dX3_readForm_26 : decode cX3_readForm 26 = .ok (.aload_n 0, 1) := by decide +kernel
theorem dX3_readForm_27 : decode cX3_readForm 27 = .ok (.getfield 29, 3) := by decide +kernel
theorem dX3_readForm_30 : decode cX3_readForm 30 = .ok (.ifCond .ne 43, 3) := by decide +kernel
theorem dX3_readForm_33 : decode cX3_readForm 33 = .ok (.iload 4, 2) := by decide +kernel
theorem dX3_readForm_35 : decode cX3_readForm 35 = .ok (.aload_n 2, 1) := by decide +kernel
theorem dX3_readForm_36 : decode cX3_readForm 36 = .ok (.invokevirtual 130, 3) := by decide +kernel
theorem dX3_readForm_39 : decode cX3_readForm 39 = .ok (.if_icmp .eq 14, 3) := by decide +kernel
theorem dX3_readForm_42 : decode cX3_readForm 42 = .ok (.aload_n 2, 1) := by decide +kernel
theorem dX3_readForm_43 : decode cX3_readForm 43 = .ok (.iload 4, 2) := by decide +kernel
theorem dX3_readForm_45 : decode cX3_readForm 45 = .ok (.invokevirtual 134, 3) := by decide +kernel
theorem dX3_readForm_48 : decode cX3_readForm 48 = .ok (.bipush 32, 2) := by decide +kernel
theorem dX3_readForm_50 : decode cX3_readForm 50 = .ok (.if_icmp .ne 17, 3) := by decide +kernel
theorem dX3_readForm_53 : decode cX3_readForm 53 = .ok (.aload_n 0, 1) := by decide +kernel
theorem dX3_readForm_54 : decode cX3_readForm 54 = .ok (.aload_n 1, 1) := by decide +kernel
theorem dX3_readForm_55 : decode cX3_readForm 55 = .ok (.aload_n 2, 1) := by decide +kernel
theorem dX3_readForm_56 : decode cX3_readForm 56 = .ok (.iload_n 3, 1) := by decide +kernel
theorem dX3_readForm_57 : decode cX3_readForm 57 = .ok (.iload 4, 2) := by decide +kernel
theorem dX3_readForm_59 : decode cX3_readForm 59 = .ok (.invokevirtual 138, 3) := by decide +kernel
theorem dX3_readForm_62 : decode cX3_readForm 62 = .ok (.iload 4, 2) := by decide +kernel
theorem dX3_readForm_64 : decode cX3_readForm 64 = .ok (.iconst 1, 1) := by decide +kernel
theorem dX3_readForm_65 : decode cX3_readForm 65 = .ok (.iadd, 1) := by decide +kernel
theorem dX3_readForm_66 : decode cX3_readForm 66 = .ok (.istore_n 3, 1) := by decide +kernel
theorem dX3_readForm_67 : decode cX3_readForm 67 = .ok (.iinc 4 1, 3) := by decide +kernel
theorem dX3_readForm_70 : decode cX3_readForm 70 = .ok (.goto (-53), 3) := by decide +kernel
theorem dX3_readForm_73 : decode cX3_readForm 73 = .ok (.return_, 1) := by decide +kernel
theorem dX8_add_0 : decode cX8_add 0 = .ok (.aload_n 0, 1) := by decide +kernel
theorem dX8_add_1 : decode cX8_add 1 = .ok (.getfield 24, 3) := by decide +kernel
theorem dX8_add_4 : decode cX8_add 4 = .ok (.iconst 5, 1) := by decide +kernel
theorem dX8_add_5 : decode cX8_add 5 = .ok (.if_icmp .lt 4, 3) := by decide +kernel
theorem dX8_add_8 : decode cX8_add 8 = .ok (.return_, 1) := by decide +kernel
theorem dX8_add_9 : decode cX8_add 9 = .ok (.aload_n 0, 1) := by decide +kernel
theorem dX8_add_10 : decode cX8_add 10 = .ok (.getfield 9, 3) := by decide +kernel
theorem dX8_add_13 : decode cX8_add 13 = .ok (.aload_n 0, 1) := by decide +kernel
theorem dX8_add_14 : decode cX8_add 14 = .ok (.getfield 24, 3) := by decide +kernel
theorem dX8_add_17 : decode cX8_add 17 = .ok (.iload_n 2, 1) := by decide +kernel
theorem dX8_add_18 : decode cX8_add 18 = .ok (.iastore, 1) := by decide +kernel
theorem dX8_add_19 : decode cX8_add 19 = .ok (.iconst 0, 1) := by decide +kernel
theorem dX8_add_20 : decode cX8_add 20 = .ok (.istore_n 3, 1) := by decide +kernel
theorem dX8_add_21 : decode cX8_add 21 = .ok (.iload_n 3, 1) := by decide +kernel
theorem dX8_add_22 : decode cX8_add 22 = .ok (.bipush 20, 2) := by decide +kernel
theorem dX8_add_24 : decode cX8_add 24 = .ok (.if_icmp .ge 51, 3) := by decide +kernel
theorem dX8_add_27 : decode cX8_add 27 = .ok (.aload_n 0, 1) := by decide +kernel
theorem dX8_add_28 : decode cX8_add 28 = .ok (.getfield 15, 3) := by decide +kernel
theorem dX8_add_31 : decode cX8_add 31 = .ok (.aload_n 0, 1) := by decide +kernel
theorem dX8_add_32 : decode cX8_add 32 = .ok (.getfield 24, 3) := by decide +kernel
theorem dX8_add_35 : decode cX8_add 35 = .ok (.iload_n 3, 1) := by decide +kernel
theorem dX8_add_36 : decode cX8_add 36 = .ok (.invokestatic 28, 3) := by decide +kernel
theorem dX8_add_39 : decode cX8_add 39 = .ok (.iload_n 1, 1) := by decide +kernel
theorem dX8_add_40 : decode cX8_add 40 = .ok (.iastore, 1) := by decide +kernel
theorem dX8_add_41 : decode cX8_add 41 = .ok (.aload_n 0, 1) := by decide +kernel
theorem dX8_add_42 : decode cX8_add 42 = .ok (.getfield 18, 3) := by decide +kernel
theorem dX8_add_45 : decode cX8_add 45 = .ok (.aload_n 0, 1) := by decide +kernel
theorem dX8_add_46 : decode cX8_add 46 = .ok (.getfield 24, 3) := by decide +kernel
theorem dX8_add_49 : decode cX8_add 49 = .ok (.iload_n 3, 1) := by decide +kernel
theorem dX8_add_50 : decode cX8_add 50 = .ok (.invokestatic 28, 3) := by decide +kernel
theorem dX8_add_53 : decode cX8_add 53 = .ok (.iload_n 1, 1) := by decide +kernel
theorem dX8_add_54 : decode cX8_add 54 = .ok (.iastore, 1) := by decide +kernel
theorem dX8_add_55 : decode cX8_add 55 = .ok (.aload_n 0, 1) := by decide +kernel
theorem dX8_add_56 : decode cX8_add 56 = .ok (.getfield 21, 3) := by decide +kernel
theorem dX8_add_59 : decode cX8_add 59 = .ok (.aload_n 0, 1) := by decide +kernel
theorem dX8_add_60 : decode cX8_add 60 = .ok (.getfield 24, 3) := by decide +kernel
theorem dX8_add_63 : decode cX8_add 63 = .ok (.iload_n 3, 1) := by decide +kernel
theorem dX8_add_64 : decode cX8_add 64 = .ok (.invokestatic 28, 3) := by decide +kernel
theorem dX8_add_67 : decode cX8_add 67 = .ok (.iconst (-1), 1) := by decide +kernel
theorem dX8_add_68 : decode cX8_add 68 = .ok (.iastore, 1) := by decide +kernel
theorem dX8_add_69 : decode cX8_add 69 = .ok (.iinc 3 1, 3) := by decide +kernel
theorem dX8_add_72 : decode cX8_add 72 = .ok (.goto (-51), 3) := by decide +kernel
theorem dX8_add_75 : decode cX8_add 75 = .ok (.aload_n 0, 1) := by decide +kernel
theorem dX8_add_76 : decode cX8_add 76 = .ok (.dup, 1) := by decide +kernel
theorem dX8_add_77 : decode cX8_add 77 = .ok (.getfield 24, 3) := by decide +kernel
theorem dX8_add_80 : decode cX8_add 80 = .ok (.iconst 1, 1) := by decide +kernel
theorem dX8_add_81 : decode cX8_add 81 = .ok (.iadd, 1) := by decide +kernel
theorem dX8_add_82 : decode cX8_add 82 = .ok (.putfield 24, 3) := by decide +kernel
theorem dX8_add_85 : decode cX8_add 85 = .ok (.return_, 1) := by decide +kernel
theorem dX6_add_0 : decode cX6_add 0 = .ok (.aload_n 0, 1) := by decide +kernel
theorem dX6_add_1 : decode cX6_add 1 = .ok (.getfield 24, 3) := by decide +kernel
theorem dX6_add_4 : decode cX6_add 4 = .ok (.iconst 5, 1) := by decide +kernel
theorem dX6_add_5 : decode cX6_add 5 = .ok (.if_icmp .lt 4, 3) := by decide +kernel
theorem dX6_add_8 : decode cX6_add 8 = .ok (.return_, 1) := by decide +kernel
theorem dX6_add_9 : decode cX6_add 9 = .ok (.aload_n 0, 1) := by decide +kernel
theorem dX6_add_10 : decode cX6_add 10 = .ok (.getfield 9, 3) := by decide +kernel
theorem dX6_add_13 : decode cX6_add 13 = .ok (.aload_n 0, 1) := by decide +kernel
theorem dX6_add_14 : decode cX6_add 14 = .ok (.getfield 24, 3) := by decide +kernel
theorem dX6_add_17 : decode cX6_add 17 = .ok (.iload_n 1, 1) := by decide +kernel
theorem dX6_add_18 : decode cX6_add 18 = .ok (.iastore, 1) := by decide +kernel
theorem dX6_add_19 : decode cX6_add 19 = .ok (.aload_n 0, 1) := by decide +kernel
theorem dX6_add_20 : decode cX6_add 20 = .ok (.getfield 15, 3) := by decide +kernel
theorem dX6_add_23 : decode cX6_add 23 = .ok (.aload_n 0, 1) := by decide +kernel
theorem dX6_add_24 : decode cX6_add 24 = .ok (.getfield 24, 3) := by decide +kernel
theorem dX6_add_27 : decode cX6_add 27 = .ok (.iload_n 2, 1) := by decide +kernel
theorem dX6_add_28 : decode cX6_add 28 = .ok (.iastore, 1) := by decide +kernel
theorem dX6_add_29 : decode cX6_add 29 = .ok (.aload_n 0, 1) := by decide +kernel
theorem dX6_add_30 : decode cX6_add 30 = .ok (.getfield 18, 3) := by decide +kernel
theorem dX6_add_33 : decode cX6_add 33 = .ok (.aload_n 0, 1) := by decide +kernel
theorem dX6_add_34 : decode cX6_add 34 = .ok (.getfield 24, 3) := by decide +kernel
theorem dX6_add_37 : decode cX6_add 37 = .ok (.iload_n 3, 1) := by decide +kernel
theorem dX6_add_38 : decode cX6_add 38 = .ok (.iastore, 1) := by decide +kernel
theorem dX6_add_39 : decode cX6_add 39 = .ok (.iconst 0, 1) := by decide +kernel
theorem dX6_add_40 : decode cX6_add 40 = .ok (.istore 4, 2) := by decide +kernel
theorem dX6_add_42 : decode cX6_add 42 = .ok (.iload 4, 2) := by decide +kernel
theorem dX6_add_44 : decode cX6_add 44 = .ok (.bipush 20, 2) := by decide +kernel
theorem dX6_add_46 : decode cX6_add 46 = .ok (.if_icmp .ge 24, 3) := by decide +kernel
theorem dX6_add_49 : decode cX6_add 49 = .ok (.aload_n 0, 1) := by decide +kernel
theorem dX6_add_50 : decode cX6_add 50 = .ok (.getfield 21, 3) := by decide +kernel
theorem dX6_add_53 : decode cX6_add 53 = .ok (.aload_n 0, 1) := by decide +kernel
theorem dX6_add_54 : decode cX6_add 54 = .ok (.getfield 24, 3) := by decide +kernel
theorem dX6_add_57 : decode cX6_add 57 = .ok (.iload 4, 2) := by decide +kernel
theorem dX6_add_59 : decode cX6_add 59 = .ok (.invokestatic 28, 3) := by decide +kernel
theorem dX6_add_62 : decode cX6_add 62 = .ok (.iconst 0, 1) := by decide +kernel
theorem dX6_add_63 : decode cX6_add 63 = .ok (.iastore, 1) := by decide +kernel
theorem dX6_add_64 : decode cX6_add 64 = .ok (.iinc 4 1, 3) := by decide +kernel
theorem dX6_add_67 : decode cX6_add 67 = .ok (.goto (-25), 3) := by decide +kernel
theorem dX6_add_70 : decode cX6_add 70 = .ok (.aload_n 0, 1) := by decide +kernel
theorem dX6_add_71 : decode cX6_add 71 = .ok (.dup, 1) := by decide +kernel
theorem dX6_add_72 : decode cX6_add 72 = .ok (.getfield 24, 3) := by decide +kernel
theorem dX6_add_75 : decode cX6_add 75 = .ok (.iconst 1, 1) := by decide +kernel
theorem dX6_add_76 : decode cX6_add 76 = .ok (.iadd, 1) := by decide +kernel
theorem dX6_add_77 : decode cX6_add 77 = .ok (.putfield 24, 3) := by decide +kernel
theorem dX6_add_80 : decode cX6_add 80 = .ok (.return_, 1) := by decide +kernel
theorem dX3_obey_0 : decode cX3_obey 0 = .ok (.iload_n 1, 1) := by decide +kernel
theorem dX3_obey_1 : decode cX3_obey 1 = .ok (.tableswitch 246 0 6 #[43, 68, 93, 128, 163, 194, 229], 43) := by decide +kernel
theorem dX3_obey_44 : decode cX3_obey 44 = .ok (.aload_n 0, 1) := by decide +kernel
theorem dX3_obey_45 : decode cX3_obey 45 = .ok (.getfield 12, 3) := by decide +kernel
theorem dX3_obey_48 : decode cX3_obey 48 = .ok (.aload_n 0, 1) := by decide +kernel
theorem dX3_obey_49 : decode cX3_obey 49 = .ok (.getfield 25, 3) := by decide +kernel
theorem dX3_obey_52 : decode cX3_obey 52 = .ok (.iconst 0, 1) := by decide +kernel
theorem dX3_obey_53 : decode cX3_obey 53 = .ok (.iaload, 1) := by decide +kernel
theorem dX3_obey_54 : decode cX3_obey 54 = .ok (.putfield 156, 3) := by decide +kernel
theorem dX3_obey_57 : decode cX3_obey 57 = .ok (.aload_n 0, 1) := by decide +kernel
theorem dX3_obey_58 : decode cX3_obey 58 = .ok (.getfield 12, 3) := by decide +kernel
theorem dX3_obey_61 : decode cX3_obey 61 = .ok (.bipush 99, 2) := by decide +kernel
theorem dX3_obey_63 : decode cX3_obey 63 = .ok (.putfield 162, 3) := by decide +kernel
theorem dX3_obey_66 : decode cX3_obey 66 = .ok (.goto 194, 3) := by decide +kernel
theorem dX3_obey_69 : decode cX3_obey 69 = .ok (.aload_n 0, 1) := by decide +kernel
theorem dX3_obey_70 : decode cX3_obey 70 = .ok (.getfield 12, 3) := by decide +kernel
theorem dX3_obey_73 : decode cX3_obey 73 = .ok (.getfield 104, 3) := by decide +kernel
theorem dX3_obey_76 : decode cX3_obey 76 = .ok (.aload_n 0, 1) := by decide +kernel
theorem dX3_obey_77 : decode cX3_obey 77 = .ok (.getfield 25, 3) := by decide +kernel
theorem dX3_obey_80 : decode cX3_obey 80 = .ok (.iconst 0, 1) := by decide +kernel
theorem dX3_obey_81 : decode cX3_obey 81 = .ok (.iaload, 1) := by decide +kernel
theorem dX3_obey_82 : decode cX3_obey 82 = .ok (.aload_n 0, 1) := by decide +kernel
theorem dX3_obey_83 : decode cX3_obey 83 = .ok (.getfield 25, 3) := by decide +kernel
theorem dX3_obey_86 : decode cX3_obey 86 = .ok (.iconst 1, 1) := by decide +kernel
theorem dX3_obey_87 : decode cX3_obey 87 = .ok (.iaload, 1) := by decide +kernel
theorem dX3_obey_88 : decode cX3_obey 88 = .ok (.invokevirtual 165, 3) := by decide +kernel
theorem dX3_obey_91 : decode cX3_obey 91 = .ok (.goto 169, 3) := by decide +kernel
theorem dX3_obey_94 : decode cX3_obey 94 = .ok (.aload_n 0, 1) := by decide +kernel
theorem dX3_obey_95 : decode cX3_obey 95 = .ok (.getfield 12, 3) := by decide +kernel
theorem dX3_obey_98 : decode cX3_obey 98 = .ok (.getfield 104, 3) := by decide +kernel
theorem dX3_obey_101 : decode cX3_obey 101 = .ok (.getfield 169, 3) := by decide +kernel
theorem dX3_obey_104 : decode cX3_obey 104 = .ok (.aload_n 0, 1) := by decide +kernel
theorem dX3_obey_105 : decode cX3_obey 105 = .ok (.getfield 25, 3) := by decide +kernel
theorem dX3_obey_108 : decode cX3_obey 108 = .ok (.iconst 0, 1) := by decide +kernel
theorem dX3_obey_109 : decode cX3_obey 109 = .ok (.iaload, 1) := by decide +kernel
theorem dX3_obey_110 : decode cX3_obey 110 = .ok (.aload_n 0, 1) := by decide +kernel
theorem dX3_obey_111 : decode cX3_obey 111 = .ok (.getfield 25, 3) := by decide +kernel
theorem dX3_obey_114 : decode cX3_obey 114 = .ok (.iconst 1, 1) := by decide +kernel
theorem dX3_obey_115 : decode cX3_obey 115 = .ok (.iaload, 1) := by decide +kernel
theorem dX3_obey_116 : decode cX3_obey 116 = .ok (.invokestatic 172, 3) := by decide +kernel
theorem dX3_obey_119 : decode cX3_obey 119 = .ok (.aload_n 0, 1) := by decide +kernel
theorem dX3_obey_120 : decode cX3_obey 120 = .ok (.getfield 25, 3) := by decide +kernel
theorem dX3_obey_123 : decode cX3_obey 123 = .ok (.iconst 2, 1) := by decide +kernel
theorem dX3_obey_124 : decode cX3_obey 124 = .ok (.iaload, 1) := by decide +kernel
theorem dX3_obey_125 : decode cX3_obey 125 = .ok (.iastore, 1) := by decide +kernel
theorem dX3_obey_126 : decode cX3_obey 126 = .ok (.goto 134, 3) := by decide +kernel
theorem dX3_obey_129 : decode cX3_obey 129 = .ok (.aload_n 0, 1) := by decide +kernel
theorem dX3_obey_130 : decode cX3_obey 130 = .ok (.getfield 12, 3) := by decide +kernel
theorem dX3_obey_133 : decode cX3_obey 133 = .ok (.getfield 104, 3) := by decide +kernel
theorem dX3_obey_136 : decode cX3_obey 136 = .ok (.getfield 176, 3) := by decide +kernel
theorem dX3_obey_139 : decode cX3_obey 139 = .ok (.aload_n 0, 1) := by decide +kernel
theorem dX3_obey_140 : decode cX3_obey 140 = .ok (.getfield 25, 3) := by decide +kernel
theorem dX3_obey_143 : decode cX3_obey 143 = .ok (.iconst 0, 1) := by decide +kernel
theorem dX3_obey_144 : decode cX3_obey 144 = .ok (.iaload, 1) := by decide +kernel
theorem dX3_obey_145 : decode cX3_obey 145 = .ok (.aload_n 0, 1) := by decide +kernel
theorem dX3_obey_146 : decode cX3_obey 146 = .ok (.getfield 25, 3) := by decide +kernel
theorem dX3_obey_149 : decode cX3_obey 149 = .ok (.iconst 1, 1) := by decide +kernel
theorem dX3_obey_150 : decode cX3_obey 150 = .ok (.iaload, 1) := by decide +kernel
theorem dX3_obey_151 : decode cX3_obey 151 = .ok (.invokestatic 172, 3) := by decide +kernel
theorem dX3_obey_154 : decode cX3_obey 154 = .ok (.aload_n 0, 1) := by decide +kernel
theorem dX3_obey_155 : decode cX3_obey 155 = .ok (.getfield 25, 3) := by decide +kernel
theorem dX3_obey_158 : decode cX3_obey 158 = .ok (.iconst 2, 1) := by decide +kernel
theorem dX3_obey_159 : decode cX3_obey 159 = .ok (.iaload, 1) := by decide +kernel
theorem dX3_obey_160 : decode cX3_obey 160 = .ok (.iastore, 1) := by decide +kernel
theorem dX3_obey_161 : decode cX3_obey 161 = .ok (.goto 99, 3) := by decide +kernel
theorem dX3_obey_164 : decode cX3_obey 164 = .ok (.aload_n 0, 1) := by decide +kernel
theorem dX3_obey_165 : decode cX3_obey 165 = .ok (.getfield 12, 3) := by decide +kernel
theorem dX3_obey_168 : decode cX3_obey 168 = .ok (.getfield 113, 3) := by decide +kernel
theorem dX3_obey_171 : decode cX3_obey 171 = .ok (.aload_n 0, 1) := by decide +kernel
theorem dX3_obey_172 : decode cX3_obey 172 = .ok (.getfield 25, 3) := by decide +kernel
theorem dX3_obey_175 : decode cX3_obey 175 = .ok (.iconst 0, 1) := by decide +kernel
theorem dX3_obey_176 : decode cX3_obey 176 = .ok (.iaload, 1) := by decide +kernel
theorem dX3_obey_177 : decode cX3_obey 177 = .ok (.aload_n 0, 1) := by decide +kernel
theorem dX3_obey_178 : decode cX3_obey 178 = .ok (.getfield 25, 3) := by decide +kernel
theorem dX3_obey_181 : decode cX3_obey 181 = .ok (.iconst 1, 1) := by decide +kernel
theorem dX3_obey_182 : decode cX3_obey 182 = .ok (.iaload, 1) := by decide +kernel
theorem dX3_obey_183 : decode cX3_obey 183 = .ok (.aload_n 0, 1) := by decide +kernel
theorem dX3_obey_184 : decode cX3_obey 184 = .ok (.getfield 25, 3) := by decide +kernel
theorem dX3_obey_187 : decode cX3_obey 187 = .ok (.iconst 2, 1) := by decide +kernel
theorem dX3_obey_188 : decode cX3_obey 188 = .ok (.iaload, 1) := by decide +kernel
theorem dX3_obey_189 : decode cX3_obey 189 = .ok (.invokevirtual 179, 3) := by decide +kernel
theorem dX3_obey_192 : decode cX3_obey 192 = .ok (.goto 68, 3) := by decide +kernel
theorem dX3_obey_195 : decode cX3_obey 195 = .ok (.aload_n 0, 1) := by decide +kernel
theorem dX3_obey_196 : decode cX3_obey 196 = .ok (.getfield 12, 3) := by decide +kernel
theorem dX3_obey_199 : decode cX3_obey 199 = .ok (.getfield 113, 3) := by decide +kernel
theorem dX3_obey_202 : decode cX3_obey 202 = .ok (.getfield 182, 3) := by decide +kernel
theorem dX3_obey_205 : decode cX3_obey 205 = .ok (.aload_n 0, 1) := by decide +kernel
theorem dX3_obey_206 : decode cX3_obey 206 = .ok (.getfield 25, 3) := by decide +kernel
theorem dX3_obey_209 : decode cX3_obey 209 = .ok (.iconst 0, 1) := by decide +kernel
theorem dX3_obey_210 : decode cX3_obey 210 = .ok (.iaload, 1) := by decide +kernel
theorem dX3_obey_211 : decode cX3_obey 211 = .ok (.aload_n 0, 1) := by decide +kernel
theorem dX3_obey_212 : decode cX3_obey 212 = .ok (.getfield 25, 3) := by decide +kernel
theorem dX3_obey_215 : decode cX3_obey 215 = .ok (.iconst 1, 1) := by decide +kernel
theorem dX3_obey_216 : decode cX3_obey 216 = .ok (.iaload, 1) := by decide +kernel
theorem dX3_obey_217 : decode cX3_obey 217 = .ok (.invokestatic 172, 3) := by decide +kernel
theorem dX3_obey_220 : decode cX3_obey 220 = .ok (.aload_n 0, 1) := by decide +kernel
theorem dX3_obey_221 : decode cX3_obey 221 = .ok (.getfield 25, 3) := by decide +kernel
theorem dX3_obey_224 : decode cX3_obey 224 = .ok (.iconst 2, 1) := by decide +kernel
theorem dX3_obey_225 : decode cX3_obey 225 = .ok (.iaload, 1) := by decide +kernel
theorem dX3_obey_226 : decode cX3_obey 226 = .ok (.iastore, 1) := by decide +kernel
theorem dX3_obey_227 : decode cX3_obey 227 = .ok (.goto 33, 3) := by decide +kernel
theorem dX3_obey_230 : decode cX3_obey 230 = .ok (.aload_n 0, 1) := by decide +kernel
theorem dX3_obey_231 : decode cX3_obey 231 = .ok (.getfield 12, 3) := by decide +kernel
theorem dX3_obey_234 : decode cX3_obey 234 = .ok (.getfield 120, 3) := by decide +kernel
theorem dX3_obey_237 : decode cX3_obey 237 = .ok (.aload_n 0, 1) := by decide +kernel
theorem dX3_obey_238 : decode cX3_obey 238 = .ok (.getfield 25, 3) := by decide +kernel
theorem dX3_obey_241 : decode cX3_obey 241 = .ok (.invokevirtual 185, 3) := by decide +kernel
theorem dX3_obey_244 : decode cX3_obey 244 = .ok (.goto 16, 3) := by decide +kernel
theorem dX3_obey_247 : decode cX3_obey 247 = .ok (.aload_n 0, 1) := by decide +kernel
theorem dX3_obey_248 : decode cX3_obey 248 = .ok (.getfield 12, 3) := by decide +kernel
theorem dX3_obey_251 : decode cX3_obey 251 = .ok (.aload_n 0, 1) := by decide +kernel
theorem dX3_obey_252 : decode cX3_obey 252 = .ok (.getfield 25, 3) := by decide +kernel
theorem dX3_obey_255 : decode cX3_obey 255 = .ok (.iconst 0, 1) := by decide +kernel
theorem dX3_obey_256 : decode cX3_obey 256 = .ok (.iaload, 1) := by decide +kernel
theorem dX3_obey_257 : decode cX3_obey 257 = .ok (.putfield 162, 3) := by decide +kernel
theorem dX3_obey_260 : decode cX3_obey 260 = .ok (.return_, 1) := by decide +kernel
theorem dX3_readLine_0 : decode cX3_readLine 0 = .ok (.aload_n 0, 1) := by decide +kernel
theorem dX3_readLine_1 : decode cX3_readLine 1 = .ok (.aload_n 1, 1) := by decide +kernel
theorem dX3_readLine_2 : decode cX3_readLine 2 = .ok (.invokevirtual 68, 3) := by decide +kernel
theorem dX3_readLine_5 : decode cX3_readLine 5 = .ok (.istore_n 2, 1) := by decide +kernel
theorem dX3_readLine_6 : decode cX3_readLine 6 = .ok (.aload_n 0, 1) := by decide +kernel
theorem dX3_readLine_7 : decode cX3_readLine 7 = .ok (.getfield 12, 3) := by decide +kernel
theorem dX3_readLine_10 : decode cX3_readLine 10 = .ok (.getfield 72, 3) := by decide +kernel
theorem dX3_readLine_13 : decode cX3_readLine 13 = .ok (.ifCond .ne 7, 3) := by decide +kernel
theorem dX3_readLine_16 : decode cX3_readLine 16 = .ok (.iconst 1, 1) := by decide +kernel
theorem dX3_readLine_17 : decode cX3_readLine 17 = .ok (.goto 4, 3) := by decide +kernel
theorem dX3_readLine_20 : decode cX3_readLine 20 = .ok (.iconst 0, 1) := by decide +kernel
theorem dX3_readLine_21 : decode cX3_readLine 21 = .ok (.istore_n 3, 1) := by decide +kernel
theorem dX3_readLine_22 : decode cX3_readLine 22 = .ok (.iload_n 2, 1) := by decide +kernel
theorem dX3_readLine_23 : decode cX3_readLine 23 = .ok (.iconst (-1), 1) := by decide +kernel
theorem dX3_readLine_24 : decode cX3_readLine 24 = .ok (.if_icmp .eq 16, 3) := by decide +kernel
theorem dX3_readLine_27 : decode cX3_readLine 27 = .ok (.iload_n 3, 1) := by decide +kernel
theorem dX3_readLine_28 : decode cX3_readLine 28 = .ok (.iload_n 2, 1) := by decide +kernel
theorem dX3_readLine_29 : decode cX3_readLine 29 = .ok (.ifCond .ne 7, 3) := by decide +kernel
theorem dX3_readLine_32 : decode cX3_readLine 32 = .ok (.iconst 1, 1) := by decide +kernel
theorem dX3_readLine_33 : decode cX3_readLine 33 = .ok (.goto 4, 3) := by decide +kernel
theorem dX3_readLine_36 : decode cX3_readLine 36 = .ok (.iconst 0, 1) := by decide +kernel
theorem dX3_readLine_37 : decode cX3_readLine 37 = .ok (.if_icmp .eq 9, 3) := by decide +kernel
theorem dX3_readLine_40 : decode cX3_readLine 40 = .ok (.aload_n 0, 1) := by decide +kernel
theorem dX3_readLine_41 : decode cX3_readLine 41 = .ok (.iconst 1, 1) := by decide +kernel
theorem dX3_readLine_42 : decode cX3_readLine 42 = .ok (.invokevirtual 75, 3) := by decide +kernel
theorem dX3_readLine_45 : decode cX3_readLine 45 = .ok (.return_, 1) := by decide +kernel
theorem dX3_readLine_46 : decode cX3_readLine 46 = .ok (.aload_n 0, 1) := by decide +kernel
theorem dX3_readLine_47 : decode cX3_readLine 47 = .ok (.iload_n 2, 1) := by decide +kernel
theorem dX3_readLine_48 : decode cX3_readLine 48 = .ok (.invokevirtual 79, 3) := by decide +kernel
theorem dX3_readLine_51 : decode cX3_readLine 51 = .ok (.ifCond .eq 9, 3) := by decide +kernel
theorem dX3_readLine_54 : decode cX3_readLine 54 = .ok (.aload_n 0, 1) := by decide +kernel
theorem dX3_readLine_55 : decode cX3_readLine 55 = .ok (.iconst 3, 1) := by decide +kernel
theorem dX3_readLine_56 : decode cX3_readLine 56 = .ok (.invokevirtual 75, 3) := by decide +kernel
theorem dX3_readLine_59 : decode cX3_readLine 59 = .ok (.return_, 1) := by decide +kernel
theorem dX3_readLine_60 : decode cX3_readLine 60 = .ok (.aload_n 0, 1) := by decide +kernel
theorem dX3_readLine_61 : decode cX3_readLine 61 = .ok (.aload_n 1, 1) := by decide +kernel
theorem dX3_readLine_62 : decode cX3_readLine 62 = .ok (.iload_n 2, 1) := by decide +kernel
theorem dX3_readLine_63 : decode cX3_readLine 63 = .ok (.invokestatic 83, 3) := by decide +kernel
theorem dX3_readLine_66 : decode cX3_readLine 66 = .ok (.invokevirtual 87, 3) := by decide +kernel
theorem dX3_readLine_69 : decode cX3_readLine 69 = .ok (.aload_n 0, 1) := by decide +kernel
theorem dX3_readLine_70 : decode cX3_readLine 70 = .ok (.getfield 29, 3) := by decide +kernel
theorem dX3_readLine_73 : decode cX3_readLine 73 = .ok (.ifCond .ne 21, 3) := by decide +kernel
theorem dX3_readLine_76 : decode cX3_readLine 76 = .ok (.aload_n 0, 1) := by decide +kernel
theorem dX3_readLine_77 : decode cX3_readLine 77 = .ok (.getfield 12, 3) := by decide +kernel
theorem dX3_readLine_80 : decode cX3_readLine 80 = .ok (.dup, 1) := by decide +kernel
theorem dX3_readLine_81 : decode cX3_readLine 81 = .ok (.getfield 72, 3) := by decide +kernel
theorem dX3_readLine_84 : decode cX3_readLine 84 = .ok (.iconst 1, 1) := by decide +kernel
theorem dX3_readLine_85 : decode cX3_readLine 85 = .ok (.iadd, 1) := by decide +kernel
theorem dX3_readLine_86 : decode cX3_readLine 86 = .ok (.putfield 72, 3) := by decide +kernel
theorem dX3_readLine_89 : decode cX3_readLine 89 = .ok (.aload_n 0, 1) := by decide +kernel
theorem dX3_readLine_90 : decode cX3_readLine 90 = .ok (.iload_n 2, 1) := by decide +kernel
theorem dX3_readLine_91 : decode cX3_readLine 91 = .ok (.invokevirtual 91, 3) := by decide +kernel
theorem dX3_readLine_94 : decode cX3_readLine 94 = .ok (.return_, 1) := by decide +kernel
theorem dX3_readAll_0 : decode cX3_readAll 0 = .ok (.aload_n 0, 1) := by decide +kernel
theorem dX3_readAll_1 : decode cX3_readAll 1 = .ok (.getfield 12, 3) := by decide +kernel
theorem dX3_readAll_4 : decode cX3_readAll 4 = .ok (.invokevirtual 52, 3) := by decide +kernel
theorem dX3_readAll_7 : decode cX3_readAll 7 = .ok (.aload_n 0, 1) := by decide +kernel
theorem dX3_readAll_8 : decode cX3_readAll 8 = .ok (.getfield 21, 3) := by decide +kernel
theorem dX3_readAll_11 : decode cX3_readAll 11 = .ok (.invokevirtual 55, 3) := by decide +kernel
theorem dX3_readAll_14 : decode cX3_readAll 14 = .ok (.aload_n 0, 1) := by decide +kernel
theorem dX3_readAll_15 : decode cX3_readAll 15 = .ok (.iconst 0, 1) := by decide +kernel
theorem dX3_readAll_16 : decode cX3_readAll 16 = .ok (.putfield 29, 3) := by decide +kernel
theorem dX3_readAll_19 : decode cX3_readAll 19 = .ok (.aload_n 0, 1) := by decide +kernel
theorem dX3_readAll_20 : decode cX3_readAll 20 = .ok (.iconst (-1), 1) := by decide +kernel
theorem dX3_readAll_21 : decode cX3_readAll 21 = .ok (.putfield 33, 3) := by decide +kernel
theorem dX3_readAll_24 : decode cX3_readAll 24 = .ok (.iconst 0, 1) := by decide +kernel
theorem dX3_readAll_25 : decode cX3_readAll 25 = .ok (.istore_n 2, 1) := by decide +kernel
theorem dX3_readAll_26 : decode cX3_readAll 26 = .ok (.iload_n 2, 1) := by decide +kernel
theorem dX3_readAll_27 : decode cX3_readAll 27 = .ok (.sipush 2000, 3) := by decide +kernel
theorem dX3_readAll_30 : decode cX3_readAll 30 = .ok (.if_icmp .gt 43, 3) := by decide +kernel
theorem dX3_readAll_33 : decode cX3_readAll 33 = .ok (.aload_n 0, 1) := by decide +kernel
theorem dX3_readAll_34 : decode cX3_readAll 34 = .ok (.getfield 21, 3) := by decide +kernel
theorem dX3_readAll_37 : decode cX3_readAll 37 = .ok (.aload_n 1, 1) := by decide +kernel
theorem dX3_readAll_38 : decode cX3_readAll 38 = .ok (.invokevirtual 58, 3) := by decide +kernel
theorem dX3_readAll_41 : decode cX3_readAll 41 = .ok (.aload_n 0, 1) := by decide +kernel
theorem dX3_readAll_42 : decode cX3_readAll 42 = .ok (.getfield 21, 3) := by decide +kernel
theorem dX3_readAll_45 : decode cX3_readAll 45 = .ok (.getfield 62, 3) := by decide +kernel
theorem dX3_readAll_48 : decode cX3_readAll 48 = .ok (.ifCond .ne 5, 3) := by decide +kernel
theorem dX3_readAll_51 : decode cX3_readAll 51 = .ok (.iconst 1, 1) := by decide +kernel
theorem dX3_readAll_52 : decode cX3_readAll 52 = .ok (.ireturn, 1) := by decide +kernel
theorem dX3_readAll_53 : decode cX3_readAll 53 = .ok (.aload_n 0, 1) := by decide +kernel
theorem dX3_readAll_54 : decode cX3_readAll 54 = .ok (.aload_n 1, 1) := by decide +kernel
theorem dX3_readAll_55 : decode cX3_readAll 55 = .ok (.invokevirtual 65, 3) := by decide +kernel
theorem dX3_readAll_58 : decode cX3_readAll 58 = .ok (.aload_n 0, 1) := by decide +kernel
theorem dX3_readAll_59 : decode cX3_readAll 59 = .ok (.getfield 29, 3) := by decide +kernel
theorem dX3_readAll_62 : decode cX3_readAll 62 = .ok (.ifCond .eq 5, 3) := by decide +kernel
theorem dX3_readAll_65 : decode cX3_readAll 65 = .ok (.iconst 0, 1) := by decide +kernel
theorem dX3_readAll_66 : decode cX3_readAll 66 = .ok (.ireturn, 1) := by decide +kernel
theorem dX3_readAll_67 : decode cX3_readAll 67 = .ok (.iinc 2 1, 3) := by decide +kernel
theorem dX3_readAll_70 : decode cX3_readAll 70 = .ok (.goto (-44), 3) := by decide +kernel
theorem dX3_readAll_73 : decode cX3_readAll 73 = .ok (.iconst 1, 1) := by decide +kernel
theorem dX3_readAll_74 : decode cX3_readAll 74 = .ok (.ireturn, 1) := by decide +kernel
theorem dX4_begin_0 : decode cX4_begin 0 = .ok (.aload_n 0, 1) := by decide +kernel
theorem dX4_begin_1 : decode cX4_begin 1 = .ok (.iload_n 1, 1) := by decide +kernel
theorem dX4_begin_2 : decode cX4_begin 2 = .ok (.putfield 15, 3) := by decide +kernel
theorem dX4_begin_5 : decode cX4_begin 5 = .ok (.aload_n 0, 1) := by decide +kernel
theorem dX4_begin_6 : decode cX4_begin 6 = .ok (.iload_n 2, 1) := by decide +kernel
theorem dX4_begin_7 : decode cX4_begin 7 = .ok (.putfield 19, 3) := by decide +kernel
theorem dX4_begin_10 : decode cX4_begin 10 = .ok (.aload_n 0, 1) := by decide +kernel
theorem dX4_begin_11 : decode cX4_begin 11 = .ok (.getfield 9, 3) := by decide +kernel
theorem dX4_begin_14 : decode cX4_begin 14 = .ok (.lconst 0, 1) := by decide +kernel
theorem dX4_begin_15 : decode cX4_begin 15 = .ok (.invokestatic 22, 3) := by decide +kernel
theorem dX4_begin_18 : decode cX4_begin 18 = .ok (.return_, 1) := by decide +kernel
theorem dX4_put_0 : decode cX4_put 0 = .ok (.aload_n 0, 1) := by decide +kernel
theorem dX4_put_1 : decode cX4_put 1 = .ok (.getfield 15, 3) := by decide +kernel
theorem dX4_put_4 : decode cX4_put 4 = .ok (.tableswitch 66 0 2 #[28, 41, 54], 28) := by decide +kernel
theorem dX4_put_32 : decode cX4_put 32 = .ok (.aload_n 0, 1) := by decide +kernel
theorem dX4_put_33 : decode cX4_put 33 = .ok (.getfield 9, 3) := by decide +kernel
theorem dX4_put_36 : decode cX4_put 36 = .ok (.iload_n 1, 1) := by decide +kernel
theorem dX4_put_37 : decode cX4_put 37 = .ok (.lload_n 2, 1) := by decide +kernel
theorem dX4_put_38 : decode cX4_put 38 = .ok (.l2i, 1) := by decide +kernel
theorem dX4_put_39 : decode cX4_put 39 = .ok (.i2b, 1) := by decide +kernel
theorem dX4_put_40 : decode cX4_put 40 = .ok (.i2l, 1) := by decide +kernel
theorem dX4_put_41 : decode cX4_put 41 = .ok (.lastore, 1) := by decide +kernel
theorem dX4_put_42 : decode cX4_put 42 = .ok (.goto 35, 3) := by decide +kernel
theorem dX4_put_45 : decode cX4_put 45 = .ok (.aload_n 0, 1) := by decide +kernel
theorem dX4_put_46 : decode cX4_put 46 = .ok (.getfield 9, 3) := by decide +kernel
theorem dX4_put_49 : decode cX4_put 49 = .ok (.iload_n 1, 1) := by decide +kernel
theorem dX4_put_50 : decode cX4_put 50 = .ok (.lload_n 2, 1) := by decide +kernel
theorem dX4_put_51 : decode cX4_put 51 = .ok (.l2i, 1) := by decide +kernel
theorem dX4_put_52 : decode cX4_put 52 = .ok (.i2s, 1) := by decide +kernel
theorem dX4_put_53 : decode cX4_put 53 = .ok (.i2l, 1) := by decide +kernel
theorem dX4_put_54 : decode cX4_put 54 = .ok (.lastore, 1) := by decide +kernel
theorem dX4_put_55 : decode cX4_put 55 = .ok (.goto 22, 3) := by decide +kernel
theorem dX4_put_58 : decode cX4_put 58 = .ok (.aload_n 0, 1) := by decide +kernel
theorem dX4_put_59 : decode cX4_put 59 = .ok (.getfield 9, 3) := by decide +kernel
theorem dX4_put_62 : decode cX4_put 62 = .ok (.iload_n 1, 1) := by decide +kernel
theorem dX4_put_63 : decode cX4_put 63 = .ok (.lload_n 2, 1) := by decide +kernel
theorem dX4_put_64 : decode cX4_put 64 = .ok (.l2i, 1) := by decide +kernel
theorem dX4_put_65 : decode cX4_put 65 = .ok (.i2l, 1) := by decide +kernel
theorem dX4_put_66 : decode cX4_put 66 = .ok (.lastore, 1) := by decide +kernel
theorem dX4_put_67 : decode cX4_put 67 = .ok (.goto 10, 3) := by decide +kernel
theorem dX4_put_70 : decode cX4_put 70 = .ok (.aload_n 0, 1) := by decide +kernel
theorem dX4_put_71 : decode cX4_put 71 = .ok (.getfield 9, 3) := by decide +kernel
theorem dX4_put_74 : decode cX4_put 74 = .ok (.iload_n 1, 1) := by decide +kernel
theorem dX4_put_75 : decode cX4_put 75 = .ok (.lload_n 2, 1) := by decide +kernel
theorem dX4_put_76 : decode cX4_put 76 = .ok (.lastore, 1) := by decide +kernel
theorem dX4_put_77 : decode cX4_put 77 = .ok (.return_, 1) := by decide +kernel
theorem dX4_reaches_0 : decode cX4_reaches 0 = .ok (.iload_n 1, 1) := by decide +kernel
theorem dX4_reaches_1 : decode cX4_reaches 1 = .ok (.ifCond .lt 29, 3) := by decide +kernel
theorem dX4_reaches_4 : decode cX4_reaches 4 = .ok (.iload_n 2, 1) := by decide +kernel
theorem dX4_reaches_5 : decode cX4_reaches 5 = .ok (.ifCond .lt 25, 3) := by decide +kernel
theorem dX4_reaches_8 : decode cX4_reaches 8 = .ok (.iload_n 1, 1) := by decide +kernel
theorem dX4_reaches_9 : decode cX4_reaches 9 = .ok (.aload_n 0, 1) := by decide +kernel
theorem dX4_reaches_10 : decode cX4_reaches 10 = .ok (.getfield 19, 3) := by decide +kernel
theorem dX4_reaches_13 : decode cX4_reaches 13 = .ok (.if_icmp .gt 17, 3) := by decide +kernel
theorem dX4_reaches_16 : decode cX4_reaches 16 = .ok (.iload_n 2, 1) := by decide +kernel
theorem dX4_reaches_17 : decode cX4_reaches 17 = .ok (.aload_n 0, 1) := by decide +kernel
theorem dX4_reaches_18 : decode cX4_reaches 18 = .ok (.getfield 19, 3) := by decide +kernel
theorem dX4_reaches_21 : decode cX4_reaches 21 = .ok (.iload_n 1, 1) := by decide +kernel
theorem dX4_reaches_22 : decode cX4_reaches 22 = .ok (.isub, 1) := by decide +kernel
theorem dX4_reaches_23 : decode cX4_reaches 23 = .ok (.if_icmp .gt 7, 3) := by decide +kernel
theorem dX4_reaches_26 : decode cX4_reaches 26 = .ok (.iconst 1, 1) := by decide +kernel
theorem dX4_reaches_27 : decode cX4_reaches 27 = .ok (.goto 4, 3) := by decide +kernel
theorem dX4_reaches_30 : decode cX4_reaches 30 = .ok (.iconst 0, 1) := by decide +kernel
theorem dX4_reaches_31 : decode cX4_reaches 31 = .ok (.ireturn, 1) := by decide +kernel
theorem dX6_coming_0 : decode cX6_coming 0 = .ok (.aload_n 0, 1) := by decide +kernel
theorem dX6_coming_1 : decode cX6_coming 1 = .ok (.getfield 21, 3) := by decide +kernel
theorem dX6_coming_4 : decode cX6_coming 4 = .ok (.iload_n 1, 1) := by decide +kernel
theorem dX6_coming_5 : decode cX6_coming 5 = .ok (.iload_n 2, 1) := by decide +kernel
theorem dX6_coming_6 : decode cX6_coming 6 = .ok (.invokestatic 28, 3) := by decide +kernel
theorem dX6_coming_9 : decode cX6_coming 9 = .ok (.iaload, 1) := by decide +kernel
theorem dX6_coming_10 : decode cX6_coming 10 = .ok (.iload_n 2, 1) := by decide +kernel
theorem dX6_coming_11 : decode cX6_coming 11 = .ok (.ifCond .ne 12, 3) := by decide +kernel
theorem dX6_coming_14 : decode cX6_coming 14 = .ok (.aload_n 0, 1) := by decide +kernel
theorem dX6_coming_15 : decode cX6_coming 15 = .ok (.getfield 15, 3) := by decide +kernel
theorem dX6_coming_18 : decode cX6_coming 18 = .ok (.iload_n 1, 1) := by decide +kernel
theorem dX6_coming_19 : decode cX6_coming 19 = .ok (.iaload, 1) := by decide +kernel
theorem dX6_coming_20 : decode cX6_coming 20 = .ok (.goto 4, 3) := by decide +kernel
theorem dX6_coming_23 : decode cX6_coming 23 = .ok (.iconst 0, 1) := by decide +kernel
theorem dX6_coming_24 : decode cX6_coming 24 = .ok (.iadd, 1) := by decide +kernel
theorem dX6_coming_25 : decode cX6_coming 25 = .ok (.ireturn, 1) := by decide +kernel
theorem dX5_load_0 : decode cX5_load 0 = .ok (.aload_n 1, 1) := by decide +kernel
theorem dX5_load_1 : decode cX5_load 1 = .ok (.getfield 30, 3) := by decide +kernel
theorem dX5_load_4 : decode cX5_load 4 = .ok (.getfield 36, 3) := by decide +kernel
theorem dX5_load_7 : decode cX5_load 7 = .ok (.iload_n 2, 1) := by decide +kernel
theorem dX5_load_8 : decode cX5_load 8 = .ok (.iaload, 1) := by decide +kernel
theorem dX5_load_9 : decode cX5_load 9 = .ok (.istore_n 3, 1) := by decide +kernel
theorem dX5_load_10 : decode cX5_load 10 = .ok (.aload_n 0, 1) := by decide +kernel
theorem dX5_load_11 : decode cX5_load 11 = .ok (.aload_n 1, 1) := by decide +kernel
theorem dX5_load_12 : decode cX5_load 12 = .ok (.getfield 41, 3) := by decide +kernel
theorem dX5_load_15 : decode cX5_load 15 = .ok (.putfield 45, 3) := by decide +kernel
theorem dX5_load_18 : decode cX5_load 18 = .ok (.aload_n 0, 1) := by decide +kernel
theorem dX5_load_19 : decode cX5_load 19 = .ok (.aload_n 1, 1) := by decide +kernel
theorem dX5_load_20 : decode cX5_load 20 = .ok (.getfield 46, 3) := by decide +kernel
theorem dX5_load_23 : decode cX5_load 23 = .ok (.getfield 50, 3) := by decide +kernel
theorem dX5_load_26 : decode cX5_load 26 = .ok (.iload_n 3, 1) := by decide +kernel
theorem dX5_load_27 : decode cX5_load 27 = .ok (.iaload, 1) := by decide +kernel
theorem dX5_load_28 : decode cX5_load 28 = .ok (.putfield 55, 3) := by decide +kernel
theorem dX5_load_31 : decode cX5_load 31 = .ok (.iconst 0, 1) := by decide +kernel
theorem dX5_load_32 : decode cX5_load 32 = .ok (.istore 4, 2) := by decide +kernel
theorem dX5_load_34 : decode cX5_load 34 = .ok (.iload 4, 2) := by decide +kernel
theorem dX5_load_36 : decode cX5_load 36 = .ok (.aload_n 0, 1) := by decide +kernel
theorem dX5_load_37 : decode cX5_load 37 = .ok (.getfield 45, 3) := by decide +kernel
theorem dX5_load_40 : decode cX5_load 40 = .ok (.if_icmp .ge 71, 3) := by decide +kernel
theorem dX5_load_43 : decode cX5_load 43 = .ok (.aload_n 0, 1) := by decide +kernel
theorem dX5_load_44 : decode cX5_load 44 = .ok (.getfield 9, 3) := by decide +kernel
theorem dX5_load_47 : decode cX5_load 47 = .ok (.iload 4, 2) := by decide +kernel
theorem dX5_load_49 : decode cX5_load 49 = .ok (.aload_n 1, 1) := by decide +kernel
theorem dX5_load_50 : decode cX5_load 50 = .ok (.getfield 46, 3) := by decide +kernel
theorem dX5_load_53 : decode cX5_load 53 = .ok (.getfield 57, 3) := by decide +kernel
theorem dX5_load_56 : decode cX5_load 56 = .ok (.iload_n 3, 1) := by decide +kernel
theorem dX5_load_57 : decode cX5_load 57 = .ok (.iload 4, 2) := by decide +kernel
theorem dX5_load_59 : decode cX5_load 59 = .ok (.invokestatic 58, 3) := by decide +kernel
theorem dX5_load_62 : decode cX5_load 62 = .ok (.iaload, 1) := by decide +kernel
theorem dX5_load_63 : decode cX5_load 63 = .ok (.iastore, 1) := by decide +kernel
theorem dX5_load_64 : decode cX5_load 64 = .ok (.aload_n 0, 1) := by decide +kernel
theorem dX5_load_65 : decode cX5_load 65 = .ok (.getfield 15, 3) := by decide +kernel
theorem dX5_load_68 : decode cX5_load 68 = .ok (.iload 4, 2) := by decide +kernel
theorem dX5_load_70 : decode cX5_load 70 = .ok (.aload_n 1, 1) := by decide +kernel
theorem dX5_load_71 : decode cX5_load 71 = .ok (.getfield 62, 3) := by decide +kernel
theorem dX5_load_74 : decode cX5_load 74 = .ok (.iload_n 3, 1) := by decide +kernel
theorem dX5_load_75 : decode cX5_load 75 = .ok (.iload 4, 2) := by decide +kernel
theorem dX5_load_77 : decode cX5_load 77 = .ok (.aload_n 0, 1) := by decide +kernel
theorem dX5_load_78 : decode cX5_load 78 = .ok (.getfield 9, 3) := by decide +kernel
theorem dX5_load_81 : decode cX5_load 81 = .ok (.iload 4, 2) := by decide +kernel
theorem dX5_load_83 : decode cX5_load 83 = .ok (.iaload, 1) := by decide +kernel
theorem dX5_load_84 : decode cX5_load 84 = .ok (.invokevirtual 66, 3) := by decide +kernel
theorem dX5_load_87 : decode cX5_load 87 = .ok (.iastore, 1) := by decide +kernel
theorem dX5_load_88 : decode cX5_load 88 = .ok (.aload_n 0, 1) := by decide +kernel
theorem dX5_load_89 : decode cX5_load 89 = .ok (.getfield 18, 3) := by decide +kernel
theorem dX5_load_92 : decode cX5_load 92 = .ok (.iload 4, 2) := by decide +kernel
theorem dX5_load_94 : decode cX5_load 94 = .ok (.aload_n 1, 1) := by decide +kernel
theorem dX5_load_95 : decode cX5_load 95 = .ok (.getfield 30, 3) := by decide +kernel
theorem dX5_load_98 : decode cX5_load 98 = .ok (.iload_n 2, 1) := by decide +kernel
theorem dX5_load_99 : decode cX5_load 99 = .ok (.iload 4, 2) := by decide +kernel
theorem dX5_load_101 : decode cX5_load 101 = .ok (.invokevirtual 72, 3) := by decide +kernel
theorem dX5_load_104 : decode cX5_load 104 = .ok (.iastore, 1) := by decide +kernel
theorem dX5_load_105 : decode cX5_load 105 = .ok (.iinc 4 1, 3) := by decide +kernel
theorem dX5_load_108 : decode cX5_load 108 = .ok (.goto (-74), 3) := by decide +kernel
theorem dX5_load_111 : decode cX5_load 111 = .ok (.return_, 1) := by decide +kernel
theorem dX5_orderDays_0 : decode cX5_orderDays 0 = .ok (.iconst 0, 1) := by decide +kernel
theorem dX5_orderDays_1 : decode cX5_orderDays 1 = .ok (.istore_n 1, 1) := by decide +kernel
theorem dX5_orderDays_2 : decode cX5_orderDays 2 = .ok (.iconst 0, 1) := by decide +kernel
theorem dX5_orderDays_3 : decode cX5_orderDays 3 = .ok (.istore_n 2, 1) := by decide +kernel
theorem dX5_orderDays_4 : decode cX5_orderDays 4 = .ok (.iload_n 2, 1) := by decide +kernel
theorem dX5_orderDays_5 : decode cX5_orderDays 5 = .ok (.aload_n 0, 1) := by decide +kernel
theorem dX5_orderDays_6 : decode cX5_orderDays 6 = .ok (.getfield 45, 3) := by decide +kernel
theorem dX5_orderDays_9 : decode cX5_orderDays 9 = .ok (.if_icmp .ge 95, 3) := by decide +kernel
theorem dX5_orderDays_12 : decode cX5_orderDays 12 = .ok (.aload_n 0, 1) := by decide +kernel
theorem dX5_orderDays_13 : decode cX5_orderDays 13 = .ok (.getfield 9, 3) := by decide +kernel
theorem dX5_orderDays_16 : decode cX5_orderDays 16 = .ok (.iload_n 2, 1) := by decide +kernel
theorem dX5_orderDays_17 : decode cX5_orderDays 17 = .ok (.iaload, 1) := by decide +kernel
theorem dX5_orderDays_18 : decode cX5_orderDays 18 = .ok (.ifCond .le 80, 3) := by decide +kernel
theorem dX5_orderDays_21 : decode cX5_orderDays 21 = .ok (.aload_n 0, 1) := by decide +kernel
theorem dX5_orderDays_22 : decode cX5_orderDays 22 = .ok (.getfield 15, 3) := by decide +kernel
theorem dX5_orderDays_25 : decode cX5_orderDays 25 = .ok (.iload_n 2, 1) := by decide +kernel
theorem dX5_orderDays_26 : decode cX5_orderDays 26 = .ok (.iaload, 1) := by decide +kernel
theorem dX5_orderDays_27 : decode cX5_orderDays 27 = .ok (.ifCond .le 71, 3) := by decide +kernel
theorem dX5_orderDays_30 : decode cX5_orderDays 30 = .ok (.iload_n 1, 1) := by decide +kernel
theorem dX5_orderDays_31 : decode cX5_orderDays 31 = .ok (.istore_n 3, 1) := by decide +kernel
theorem dX5_orderDays_32 : decode cX5_orderDays 32 = .ok (.iload_n 1, 1) := by decide +kernel
theorem dX5_orderDays_33 : decode cX5_orderDays 33 = .ok (.iconst 1, 1) := by decide +kernel
theorem dX5_orderDays_34 : decode cX5_orderDays 34 = .ok (.isub, 1) := by decide +kernel
theorem dX5_orderDays_35 : decode cX5_orderDays 35 = .ok (.istore 4, 2) := by decide +kernel
theorem dX5_orderDays_37 : decode cX5_orderDays 37 = .ok (.iload 4, 2) := by decide +kernel
theorem dX5_orderDays_39 : decode cX5_orderDays 39 = .ok (.ifCond .lt 49, 3) := by decide +kernel
theorem dX5_orderDays_42 : decode cX5_orderDays 42 = .ok (.aload_n 0, 1) := by decide +kernel
theorem dX5_orderDays_43 : decode cX5_orderDays 43 = .ok (.getfield 9, 3) := by decide +kernel
theorem dX5_orderDays_46 : decode cX5_orderDays 46 = .ok (.aload_n 0, 1) := by decide +kernel
theorem dX5_orderDays_47 : decode cX5_orderDays 47 = .ok (.getfield 27, 3) := by decide +kernel
theorem dX5_orderDays_50 : decode cX5_orderDays 50 = .ok (.iload 4, 2) := by decide +kernel
theorem dX5_orderDays_52 : decode cX5_orderDays 52 = .ok (.iaload, 1) := by decide +kernel
theorem dX5_orderDays_53 : decode cX5_orderDays 53 = .ok (.iaload, 1) := by decide +kernel
theorem dX5_orderDays_54 : decode cX5_orderDays 54 = .ok (.aload_n 0, 1) := by decide +kernel
theorem dX5_orderDays_55 : decode cX5_orderDays 55 = .ok (.getfield 9, 3) := by decide +kernel
theorem dX5_orderDays_58 : decode cX5_orderDays 58 = .ok (.iload_n 2, 1) := by decide +kernel
theorem dX5_orderDays_59 : decode cX5_orderDays 59 = .ok (.iaload, 1) := by decide +kernel
theorem dX5_orderDays_60 : decode cX5_orderDays 60 = .ok (.if_icmp .ge 28, 3) := by decide +kernel
theorem dX5_orderDays_63 : decode cX5_orderDays 63 = .ok (.aload_n 0, 1) := by decide +kernel
theorem dX5_orderDays_64 : decode cX5_orderDays 64 = .ok (.getfield 27, 3) := by decide +kernel
theorem dX5_orderDays_67 : decode cX5_orderDays 67 = .ok (.iload 4, 2) := by decide +kernel
theorem dX5_orderDays_69 : decode cX5_orderDays 69 = .ok (.iconst 1, 1) := by decide +kernel
theorem dX5_orderDays_70 : decode cX5_orderDays 70 = .ok (.iadd, 1) := by decide +kernel
theorem dX5_orderDays_71 : decode cX5_orderDays 71 = .ok (.aload_n 0, 1) := by decide +kernel
theorem dX5_orderDays_72 : decode cX5_orderDays 72 = .ok (.getfield 27, 3) := by decide +kernel
theorem dX5_orderDays_75 : decode cX5_orderDays 75 = .ok (.iload 4, 2) := by decide +kernel
theorem dX5_orderDays_77 : decode cX5_orderDays 77 = .ok (.iaload, 1) := by decide +kernel
theorem dX5_orderDays_78 : decode cX5_orderDays 78 = .ok (.iastore, 1) := by decide +kernel
theorem dX5_orderDays_79 : decode cX5_orderDays 79 = .ok (.iload 4, 2) := by decide +kernel
theorem dX5_orderDays_81 : decode cX5_orderDays 81 = .ok (.istore_n 3, 1) := by decide +kernel
theorem dX5_orderDays_82 : decode cX5_orderDays 82 = .ok (.iinc 4 (-1), 3) := by decide +kernel
theorem dX5_orderDays_85 : decode cX5_orderDays 85 = .ok (.goto (-48), 3) := by decide +kernel
theorem dX5_orderDays_88 : decode cX5_orderDays 88 = .ok (.aload_n 0, 1) := by decide +kernel
theorem dX5_orderDays_89 : decode cX5_orderDays 89 = .ok (.getfield 27, 3) := by decide +kernel
theorem dX5_orderDays_92 : decode cX5_orderDays 92 = .ok (.iload_n 3, 1) := by decide +kernel
theorem dX5_orderDays_93 : decode cX5_orderDays 93 = .ok (.iload_n 2, 1) := by decide +kernel
theorem dX5_orderDays_94 : decode cX5_orderDays 94 = .ok (.iastore, 1) := by decide +kernel
theorem dX5_orderDays_95 : decode cX5_orderDays 95 = .ok (.iinc 1 1, 3) := by decide +kernel
theorem dX5_orderDays_98 : decode cX5_orderDays 98 = .ok (.iinc 2 1, 3) := by decide +kernel
theorem dX5_orderDays_101 : decode cX5_orderDays 101 = .ok (.goto (-97), 3) := by decide +kernel
theorem dX5_orderDays_104 : decode cX5_orderDays 104 = .ok (.iload_n 1, 1) := by decide +kernel
theorem dX5_orderDays_105 : decode cX5_orderDays 105 = .ok (.ireturn, 1) := by decide +kernel
theorem dX5_missing_0 : decode cX5_missing 0 = .ok (.aload_n 0, 1) := by decide +kernel
theorem dX5_missing_1 : decode cX5_missing 1 = .ok (.getfield 18, 3) := by decide +kernel
theorem dX5_missing_4 : decode cX5_missing 4 = .ok (.iconst 0, 1) := by decide +kernel
theorem dX5_missing_5 : decode cX5_missing 5 = .ok (.aload_n 0, 1) := by decide +kernel
theorem dX5_missing_6 : decode cX5_missing 6 = .ok (.getfield 24, 3) := by decide +kernel
theorem dX5_missing_9 : decode cX5_missing 9 = .ok (.iconst 0, 1) := by decide +kernel
theorem dX5_missing_10 : decode cX5_missing 10 = .ok (.bipush 20, 2) := by decide +kernel
theorem dX5_missing_12 : decode cX5_missing 12 = .ok (.invokestatic 90, 3) := by decide +kernel
theorem dX5_missing_15 : decode cX5_missing 15 = .ok (.iconst 0, 1) := by decide +kernel
theorem dX5_missing_16 : decode cX5_missing 16 = .ok (.istore_n 1, 1) := by decide +kernel
theorem dX5_missing_17 : decode cX5_missing 17 = .ok (.iconst 0, 1) := by decide +kernel
theorem dX5_missing_18 : decode cX5_missing 18 = .ok (.istore_n 2, 1) := by decide +kernel
theorem dX5_missing_19 : decode cX5_missing 19 = .ok (.iload_n 2, 1) := by decide +kernel
theorem dX5_missing_20 : decode cX5_missing 20 = .ok (.aload_n 0, 1) := by decide +kernel
theorem dX5_missing_21 : decode cX5_missing 21 = .ok (.getfield 45, 3) := by decide +kernel
theorem dX5_missing_24 : decode cX5_missing 24 = .ok (.if_icmp .ge 78, 3) := by decide +kernel
theorem dX5_missing_27 : decode cX5_missing 27 = .ok (.aload_n 0, 1) := by decide +kernel
theorem dX5_missing_28 : decode cX5_missing 28 = .ok (.getfield 21, 3) := by decide +kernel
theorem dX5_missing_31 : decode cX5_missing 31 = .ok (.iload_n 2, 1) := by decide +kernel
theorem dX5_missing_32 : decode cX5_missing 32 = .ok (.iaload, 1) := by decide +kernel
theorem dX5_missing_33 : decode cX5_missing 33 = .ok (.istore_n 3, 1) := by decide +kernel
theorem dX5_missing_34 : decode cX5_missing 34 = .ok (.iconst 0, 1) := by decide +kernel
theorem dX5_missing_35 : decode cX5_missing 35 = .ok (.iload_n 2, 1) := by decide +kernel
theorem dX5_missing_36 : decode cX5_missing 36 = .ok (.aload_n 0, 1) := by decide +kernel
theorem dX5_missing_37 : decode cX5_missing 37 = .ok (.getfield 55, 3) := by decide +kernel
theorem dX5_missing_40 : decode cX5_missing 40 = .ok (.isub, 1) := by decide +kernel
theorem dX5_missing_41 : decode cX5_missing 41 = .ok (.invokestatic 96, 3) := by decide +kernel
theorem dX5_missing_44 : decode cX5_missing 44 = .ok (.istore 4, 2) := by decide +kernel
theorem dX5_missing_46 : decode cX5_missing 46 = .ok (.iload 4, 2) := by decide +kernel
theorem dX5_missing_48 : decode cX5_missing 48 = .ok (.iload_n 2, 1) := by decide +kernel
theorem dX5_missing_49 : decode cX5_missing 49 = .ok (.if_icmp .gt 43, 3) := by decide +kernel
theorem dX5_missing_52 : decode cX5_missing 52 = .ok (.iload_n 3, 1) := by decide +kernel
theorem dX5_missing_53 : decode cX5_missing 53 = .ok (.ifCond .le 39, 3) := by decide +kernel
theorem dX5_missing_56 : decode cX5_missing 56 = .ok (.iload_n 3, 1) := by decide +kernel
theorem dX5_missing_57 : decode cX5_missing 57 = .ok (.aload_n 0, 1) := by decide +kernel
theorem dX5_missing_58 : decode cX5_missing 58 = .ok (.getfield 24, 3) := by decide +kernel
theorem dX5_missing_61 : decode cX5_missing 61 = .ok (.iload 4, 2) := by decide +kernel
theorem dX5_missing_63 : decode cX5_missing 63 = .ok (.iaload, 1) := by decide +kernel
theorem dX5_missing_64 : decode cX5_missing 64 = .ok (.invokestatic 101, 3) := by decide +kernel
theorem dX5_missing_67 : decode cX5_missing 67 = .ok (.istore 5, 2) := by decide +kernel
theorem dX5_missing_69 : decode cX5_missing 69 = .ok (.aload_n 0, 1) := by decide +kernel
theorem dX5_missing_70 : decode cX5_missing 70 = .ok (.getfield 24, 3) := by decide +kernel
theorem dX5_missing_73 : decode cX5_missing 73 = .ok (.iload 4, 2) := by decide +kernel
theorem dX5_missing_75 : decode cX5_missing 75 = .ok (.dup2, 1) := by decide +kernel
theorem dX5_missing_76 : decode cX5_missing 76 = .ok (.iaload, 1) := by decide +kernel
theorem dX5_missing_77 : decode cX5_missing 77 = .ok (.iload 5, 2) := by decide +kernel
theorem dX5_missing_79 : decode cX5_missing 79 = .ok (.isub, 1) := by decide +kernel
theorem dX5_missing_80 : decode cX5_missing 80 = .ok (.iastore, 1) := by decide +kernel
theorem dX5_missing_81 : decode cX5_missing 81 = .ok (.iload_n 3, 1) := by decide +kernel
theorem dX5_missing_82 : decode cX5_missing 82 = .ok (.iload 5, 2) := by decide +kernel
theorem dX5_missing_84 : decode cX5_missing 84 = .ok (.isub, 1) := by decide +kernel
theorem dX5_missing_85 : decode cX5_missing 85 = .ok (.istore_n 3, 1) := by decide +kernel
theorem dX5_missing_86 : decode cX5_missing 86 = .ok (.iinc 4 1, 3) := by decide +kernel
theorem dX5_missing_89 : decode cX5_missing 89 = .ok (.goto (-43), 3) := by decide +kernel
theorem dX5_missing_92 : decode cX5_missing 92 = .ok (.iload_n 1, 1) := by decide +kernel
theorem dX5_missing_93 : decode cX5_missing 93 = .ok (.iload_n 3, 1) := by decide +kernel
theorem dX5_missing_94 : decode cX5_missing 94 = .ok (.iadd, 1) := by decide +kernel
theorem dX5_missing_95 : decode cX5_missing 95 = .ok (.istore_n 1, 1) := by decide +kernel
theorem dX5_missing_96 : decode cX5_missing 96 = .ok (.iinc 2 1, 3) := by decide +kernel
theorem dX5_missing_99 : decode cX5_missing 99 = .ok (.goto (-80), 3) := by decide +kernel
theorem dX5_missing_102 : decode cX5_missing 102 = .ok (.iload_n 1, 1) := by decide +kernel
theorem dX5_missing_103 : decode cX5_missing 103 = .ok (.ireturn, 1) := by decide +kernel
theorem dX5_bring_0 : decode cX5_bring 0 = .ok (.aload_n 0, 1) := by decide +kernel
theorem dX5_bring_1 : decode cX5_bring 1 = .ok (.getfield 21, 3) := by decide +kernel
theorem dX5_bring_4 : decode cX5_bring 4 = .ok (.iconst 0, 1) := by decide +kernel
theorem dX5_bring_5 : decode cX5_bring 5 = .ok (.invokestatic 74, 3) := by decide +kernel
theorem dX5_bring_8 : decode cX5_bring 8 = .ok (.aload_n 0, 1) := by decide +kernel
theorem dX5_bring_9 : decode cX5_bring 9 = .ok (.invokevirtual 80, 3) := by decide +kernel
theorem dX5_bring_12 : decode cX5_bring 12 = .ok (.istore_n 1, 1) := by decide +kernel
theorem dX5_bring_13 : decode cX5_bring 13 = .ok (.iconst 0, 1) := by decide +kernel
theorem dX5_bring_14 : decode cX5_bring 14 = .ok (.istore_n 2, 1) := by decide +kernel
theorem dX5_bring_15 : decode cX5_bring 15 = .ok (.iconst 0, 1) := by decide +kernel
theorem dX5_bring_16 : decode cX5_bring 16 = .ok (.istore_n 3, 1) := by decide +kernel
theorem dX5_bring_17 : decode cX5_bring 17 = .ok (.iload_n 3, 1) := by decide +kernel
theorem dX5_bring_18 : decode cX5_bring 18 = .ok (.iload_n 1, 1) := by decide +kernel
theorem dX5_bring_19 : decode cX5_bring 19 = .ok (.if_icmp .ge 63, 3) := by decide +kernel
theorem dX5_bring_22 : decode cX5_bring 22 = .ok (.aload_n 0, 1) := by decide +kernel
theorem dX5_bring_23 : decode cX5_bring 23 = .ok (.getfield 27, 3) := by decide +kernel
theorem dX5_bring_26 : decode cX5_bring 26 = .ok (.iload_n 3, 1) := by decide +kernel
theorem dX5_bring_27 : decode cX5_bring 27 = .ok (.iaload, 1) := by decide +kernel
theorem dX5_bring_28 : decode cX5_bring 28 = .ok (.istore 4, 2) := by decide +kernel
theorem dX5_bring_30 : decode cX5_bring 30 = .ok (.aload_n 0, 1) := by decide +kernel
theorem dX5_bring_31 : decode cX5_bring 31 = .ok (.getfield 21, 3) := by decide +kernel
theorem dX5_bring_34 : decode cX5_bring 34 = .ok (.iload 4, 2) := by decide +kernel
theorem dX5_bring_36 : decode cX5_bring 36 = .ok (.aload_n 0, 1) := by decide +kernel
theorem dX5_bring_37 : decode cX5_bring 37 = .ok (.getfield 15, 3) := by decide +kernel
theorem dX5_bring_40 : decode cX5_bring 40 = .ok (.iload 4, 2) := by decide +kernel
theorem dX5_bring_42 : decode cX5_bring 42 = .ok (.iaload, 1) := by decide +kernel
theorem dX5_bring_43 : decode cX5_bring 43 = .ok (.iastore, 1) := by decide +kernel
theorem dX5_bring_44 : decode cX5_bring 44 = .ok (.aload_n 0, 1) := by decide +kernel
theorem dX5_bring_45 : decode cX5_bring 45 = .ok (.getfield 21, 3) := by decide +kernel
theorem dX5_bring_48 : decode cX5_bring 48 = .ok (.iload 4, 2) := by decide +kernel
theorem dX5_bring_50 : decode cX5_bring 50 = .ok (.dup2, 1) := by decide +kernel
theorem dX5_bring_51 : decode cX5_bring 51 = .ok (.iaload, 1) := by decide +kernel
theorem dX5_bring_52 : decode cX5_bring 52 = .ok (.aload_n 0, 1) := by decide +kernel
theorem dX5_bring_53 : decode cX5_bring 53 = .ok (.invokevirtual 84, 3) := by decide +kernel
theorem dX5_bring_56 : decode cX5_bring 56 = .ok (.isub, 1) := by decide +kernel
theorem dX5_bring_57 : decode cX5_bring 57 = .ok (.iastore, 1) := by decide +kernel
theorem dX5_bring_58 : decode cX5_bring 58 = .ok (.iload_n 2, 1) := by decide +kernel
theorem dX5_bring_59 : decode cX5_bring 59 = .ok (.aload_n 0, 1) := by decide +kernel
theorem dX5_bring_60 : decode cX5_bring 60 = .ok (.getfield 21, 3) := by decide +kernel
theorem dX5_bring_63 : decode cX5_bring 63 = .ok (.iload 4, 2) := by decide +kernel
theorem dX5_bring_65 : decode cX5_bring 65 = .ok (.iaload, 1) := by decide +kernel
theorem dX5_bring_66 : decode cX5_bring 66 = .ok (.aload_n 0, 1) := by decide +kernel
theorem dX5_bring_67 : decode cX5_bring 67 = .ok (.getfield 9, 3) := by decide +kernel
theorem dX5_bring_70 : decode cX5_bring 70 = .ok (.iload 4, 2) := by decide +kernel
theorem dX5_bring_72 : decode cX5_bring 72 = .ok (.iaload, 1) := by decide +kernel
theorem dX5_bring_73 : decode cX5_bring 73 = .ok (.imul, 1) := by decide +kernel
theorem dX5_bring_74 : decode cX5_bring 74 = .ok (.iadd, 1) := by decide +kernel
theorem dX5_bring_75 : decode cX5_bring 75 = .ok (.istore_n 2, 1) := by decide +kernel
theorem dX5_bring_76 : decode cX5_bring 76 = .ok (.iinc 3 1, 3) := by decide +kernel
theorem dX5_bring_79 : decode cX5_bring 79 = .ok (.goto (-62), 3) := by decide +kernel
theorem dX5_bring_82 : decode cX5_bring 82 = .ok (.iload_n 2, 1) := by decide +kernel
theorem dX5_bring_83 : decode cX5_bring 83 = .ok (.ireturn, 1) := by decide +kernel
theorem dX5_bringWithout_0 : decode cX5_bringWithout 0 = .ok (.aload_n 0, 1) := by decide +kernel
theorem dX5_bringWithout_1 : decode cX5_bringWithout 1 = .ok (.getfield 15, 3) := by decide +kernel
theorem dX5_bringWithout_4 : decode cX5_bringWithout 4 = .ok (.iload_n 1, 1) := by decide +kernel
theorem dX5_bringWithout_5 : decode cX5_bringWithout 5 = .ok (.iaload, 1) := by decide +kernel
theorem dX5_bringWithout_6 : decode cX5_bringWithout 6 = .ok (.istore_n 2, 1) := by decide +kernel
theorem dX5_bringWithout_7 : decode cX5_bringWithout 7 = .ok (.aload_n 0, 1) := by decide +kernel
theorem dX5_bringWithout_8 : decode cX5_bringWithout 8 = .ok (.getfield 15, 3) := by decide +kernel
