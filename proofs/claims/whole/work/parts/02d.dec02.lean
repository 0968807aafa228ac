theorem dX11_asks_100 : decode cX11_asks 100 = .ok (.getfield 134, 3) := by decide +kernel
theorem dX11_asks_103 : decode cX11_asks 103 = .ok (.iload_n 1, 1) := by decide +kernel
theorem dX11_asks_104 : decode cX11_asks 104 = .ok (.iaload, 1) := by decide +kernel
theorem dX11_asks_105 : decode cX11_asks 105 = .ok (.iload 4, 2) := by decide +kernel
theorem dX11_asks_107 : decode cX11_asks 107 = .ok (.if_icmp .le 18, 3) := by decide +kernel
theorem dX11_asks_110 : decode cX11_asks 110 = .ok (.aload_n 0, 1) := by decide +kernel
theorem dX11_asks_111 : decode cX11_asks 111 = .ok (.getfield 37, 3) := by decide +kernel
theorem dX11_asks_114 : decode cX11_asks 114 = .ok (.getfield 134, 3) := by decide +kernel
theorem dX11_asks_117 : decode cX11_asks 117 = .ok (.iload_n 1, 1) := by decide +kernel
theorem dX11_asks_118 : decode cX11_asks 118 = .ok (.iaload, 1) := by decide +kernel
theorem dX11_asks_119 : decode cX11_asks 119 = .ok (.istore 4, 2) := by decide +kernel
theorem dX11_asks_121 : decode cX11_asks 121 = .ok (.iload 6, 2) := by decide +kernel
theorem dX11_asks_123 : decode cX11_asks 123 = .ok (.istore 5, 2) := by decide +kernel
theorem dX11_asks_125 : decode cX11_asks 125 = .ok (.iinc 6 1, 3) := by decide +kernel
theorem dX11_asks_128 : decode cX11_asks 128 = .ok (.goto (-82), 3) := by decide +kernel
theorem dX11_asks_131 : decode cX11_asks 131 = .ok (.aload_n 0, 1) := by decide +kernel
theorem dX11_asks_132 : decode cX11_asks 132 = .ok (.getfield 26, 3) := by decide +kernel
theorem dX11_asks_135 : decode cX11_asks 135 = .ok (.getfield 181, 3) := by decide +kernel
theorem dX11_asks_138 : decode cX11_asks 138 = .ok (.getfield 237, 3) := by decide +kernel
theorem dX11_asks_141 : decode cX11_asks 141 = .ok (.iload_n 1, 1) := by decide +kernel
theorem dX11_asks_142 : decode cX11_asks 142 = .ok (.iload_n 2, 1) := by decide +kernel
theorem dX11_asks_143 : decode cX11_asks 143 = .ok (.iastore, 1) := by decide +kernel
theorem dX11_asks_144 : decode cX11_asks 144 = .ok (.iload 5, 2) := by decide +kernel
theorem dX11_asks_146 : decode cX11_asks 146 = .ok (.ireturn, 1) := by decide +kernel
theorem dX11_hold_0 : decode cX11_hold 0 = .ok (.aload_n 0, 1) := by decide +kernel
theorem dX11_hold_1 : decode cX11_hold 1 = .ok (.iload_n 1, 1) := by decide +kernel
theorem dX11_hold_2 : decode cX11_hold 2 = .ok (.invokevirtual 130, 3) := by decide +kernel
theorem dX11_hold_5 : decode cX11_hold 5 = .ok (.ifCond .eq 13, 3) := by decide +kernel
theorem dX11_hold_8 : decode cX11_hold 8 = .ok (.iload_n 2, 1) := by decide +kernel
theorem dX11_hold_9 : decode cX11_hold 9 = .ok (.iconst 0, 1) := by decide +kernel
theorem dX11_hold_10 : decode cX11_hold 10 = .ok (.bipush 99, 2) := by decide +kernel
theorem dX11_hold_12 : decode cX11_hold 12 = .ok (.invokestatic 213, 3) := by decide +kernel
theorem dX11_hold_15 : decode cX11_hold 15 = .ok (.ifCond .ne 6, 3) := by decide +kernel
theorem dX11_hold_18 : decode cX11_hold 18 = .ok (.bipush (-2), 2) := by decide +kernel
theorem dX11_hold_20 : decode cX11_hold 20 = .ok (.ireturn, 1) := by decide +kernel
theorem dX11_hold_21 : decode cX11_hold 21 = .ok (.aload_n 0, 1) := by decide +kernel
theorem dX11_hold_22 : decode cX11_hold 22 = .ok (.getfield 26, 3) := by decide +kernel
theorem dX11_hold_25 : decode cX11_hold 25 = .ok (.getfield 181, 3) := by decide +kernel
theorem dX11_hold_28 : decode cX11_hold 28 = .ok (.getfield 237, 3) := by decide +kernel
theorem dX11_hold_31 : decode cX11_hold 31 = .ok (.iload_n 1, 1) := by decide +kernel
theorem dX11_hold_32 : decode cX11_hold 32 = .ok (.iaload, 1) := by decide +kernel
theorem dX11_hold_33 : decode cX11_hold 33 = .ok (.istore_n 3, 1) := by decide +kernel
theorem dX11_hold_34 : decode cX11_hold 34 = .ok (.aload_n 0, 1) := by decide +kernel
theorem dX11_hold_35 : decode cX11_hold 35 = .ok (.getfield 26, 3) := by decide +kernel
theorem dX11_hold_38 : decode cX11_hold 38 = .ok (.getfield 181, 3) := by decide +kernel
theorem dX11_hold_41 : decode cX11_hold 41 = .ok (.getfield 237, 3) := by decide +kernel
theorem dX11_hold_44 : decode cX11_hold 44 = .ok (.iload_n 1, 1) := by decide +kernel
theorem dX11_hold_45 : decode cX11_hold 45 = .ok (.iload_n 2, 1) := by decide +kernel
theorem dX11_hold_46 : decode cX11_hold 46 = .ok (.iastore, 1) := by decide +kernel
theorem dX11_hold_47 : decode cX11_hold 47 = .ok (.aload_n 0, 1) := by decide +kernel
theorem dX11_hold_48 : decode cX11_hold 48 = .ok (.iconst 0, 1) := by decide +kernel
theorem dX11_hold_49 : decode cX11_hold 49 = .ok (.putfield 64, 3) := by decide +kernel
theorem dX11_hold_52 : decode cX11_hold 52 = .ok (.iload_n 3, 1) := by decide +kernel
theorem dX11_hold_53 : decode cX11_hold 53 = .ok (.ireturn, 1) := by decide +kernel
theorem dX11_dearestOf_0 : decode cX11_dearestOf 0 = .ok (.aload_n 0, 1) := by decide +kernel
theorem dX11_dearestOf_1 : decode cX11_dearestOf 1 = .ok (.getfield 26, 3) := by decide +kernel
theorem dX11_dearestOf_4 : decode cX11_dearestOf 4 = .ok (.getfield 168, 3) := by decide +kernel
theorem dX11_dearestOf_7 : decode cX11_dearestOf 7 = .ok (.getfield 217, 3) := by decide +kernel
theorem dX11_dearestOf_10 : decode cX11_dearestOf 10 = .ok (.iload_n 1, 1) := by decide +kernel
theorem dX11_dearestOf_11 : decode cX11_dearestOf 11 = .ok (.iaload, 1) := by decide +kernel
theorem dX11_dearestOf_12 : decode cX11_dearestOf 12 = .ok (.istore_n 2, 1) := by decide +kernel
theorem dX11_dearestOf_13 : decode cX11_dearestOf 13 = .ok (.iconst 0, 1) := by decide +kernel
theorem dX11_dearestOf_14 : decode cX11_dearestOf 14 = .ok (.istore_n 3, 1) := by decide +kernel
theorem dX11_dearestOf_15 : decode cX11_dearestOf 15 = .ok (.aload_n 0, 1) := by decide +kernel
theorem dX11_dearestOf_16 : decode cX11_dearestOf 16 = .ok (.getfield 26, 3) := by decide +kernel
theorem dX11_dearestOf_19 : decode cX11_dearestOf 19 = .ok (.getfield 168, 3) := by decide +kernel
theorem dX11_dearestOf_22 : decode cX11_dearestOf 22 = .ok (.getfield 385, 3) := by decide +kernel
theorem dX11_dearestOf_25 : decode cX11_dearestOf 25 = .ok (.iload_n 1, 1) := by decide +kernel
theorem dX11_dearestOf_26 : decode cX11_dearestOf 26 = .ok (.iaload, 1) := by decide +kernel
theorem dX11_dearestOf_27 : decode cX11_dearestOf 27 = .ok (.istore 4, 2) := by decide +kernel
theorem dX11_dearestOf_29 : decode cX11_dearestOf 29 = .ok (.iload 4, 2) := by decide +kernel
theorem dX11_dearestOf_31 : decode cX11_dearestOf 31 = .ok (.aload_n 0, 1) := by decide +kernel
theorem dX11_dearestOf_32 : decode cX11_dearestOf 32 = .ok (.getfield 26, 3) := by decide +kernel
theorem dX11_dearestOf_35 : decode cX11_dearestOf 35 = .ok (.getfield 168, 3) := by decide +kernel
theorem dX11_dearestOf_38 : decode cX11_dearestOf 38 = .ok (.getfield 388, 3) := by decide +kernel
theorem dX11_dearestOf_41 : decode cX11_dearestOf 41 = .ok (.iload_n 1, 1) := by decide +kernel
theorem dX11_dearestOf_42 : decode cX11_dearestOf 42 = .ok (.iaload, 1) := by decide +kernel
theorem dX11_dearestOf_43 : decode cX11_dearestOf 43 = .ok (.if_icmp .gt 31, 3) := by decide +kernel
theorem dX11_dearestOf_46 : decode cX11_dearestOf 46 = .ok (.iload_n 3, 1) := by decide +kernel
theorem dX11_dearestOf_47 : decode cX11_dearestOf 47 = .ok (.aload_n 0, 1) := by decide +kernel
theorem dX11_dearestOf_48 : decode cX11_dearestOf 48 = .ok (.getfield 26, 3) := by decide +kernel
theorem dX11_dearestOf_51 : decode cX11_dearestOf 51 = .ok (.getfield 100, 3) := by decide +kernel
theorem dX11_dearestOf_54 : decode cX11_dearestOf 54 = .ok (.getfield 104, 3) := by decide +kernel
theorem dX11_dearestOf_57 : decode cX11_dearestOf 57 = .ok (.iload_n 2, 1) := by decide +kernel
theorem dX11_dearestOf_58 : decode cX11_dearestOf 58 = .ok (.iload 4, 2) := by decide +kernel
theorem dX11_dearestOf_60 : decode cX11_dearestOf 60 = .ok (.invokestatic 110, 3) := by decide +kernel
theorem dX11_dearestOf_63 : decode cX11_dearestOf 63 = .ok (.iaload, 1) := by decide +kernel
theorem dX11_dearestOf_64 : decode cX11_dearestOf 64 = .ok (.invokestatic 201, 3) := by decide +kernel
theorem dX11_dearestOf_67 : decode cX11_dearestOf 67 = .ok (.istore_n 3, 1) := by decide +kernel
theorem dX11_dearestOf_68 : decode cX11_dearestOf 68 = .ok (.iinc 4 1, 3) := by decide +kernel
theorem dX11_dearestOf_71 : decode cX11_dearestOf 71 = .ok (.goto (-42), 3) := by decide +kernel
theorem dX11_dearestOf_74 : decode cX11_dearestOf 74 = .ok (.iload_n 3, 1) := by decide +kernel
theorem dX11_dearestOf_75 : decode cX11_dearestOf 75 = .ok (.ireturn, 1) := by decide +kernel
theorem dX11_poor_0 : decode cX11_poor 0 = .ok (.aload_n 0, 1) := by decide +kernel
theorem dX11_poor_1 : decode cX11_poor 1 = .ok (.iload_n 1, 1) := by decide +kernel
theorem dX11_poor_2 : decode cX11_poor 2 = .ok (.invokevirtual 159, 3) := by decide +kernel
theorem dX11_poor_5 : decode cX11_poor 5 = .ok (.ifCond .ne 6, 3) := by decide +kernel
theorem dX11_poor_8 : decode cX11_poor 8 = .ok (.bipush (-2), 2) := by decide +kernel
theorem dX11_poor_10 : decode cX11_poor 10 = .ok (.ireturn, 1) := by decide +kernel
theorem dX11_poor_11 : decode cX11_poor 11 = .ok (.aload_n 0, 1) := by decide +kernel
theorem dX11_poor_12 : decode cX11_poor 12 = .ok (.iload_n 1, 1) := by decide +kernel
theorem dX11_poor_13 : decode cX11_poor 13 = .ok (.invokevirtual 248, 3) := by decide +kernel
theorem dX11_poor_16 : decode cX11_poor 16 = .ok (.istore_n 2, 1) := by decide +kernel
theorem dX11_poor_17 : decode cX11_poor 17 = .ok (.aload_n 0, 1) := by decide +kernel
theorem dX11_poor_18 : decode cX11_poor 18 = .ok (.getfield 26, 3) := by decide +kernel
theorem dX11_poor_21 : decode cX11_poor 21 = .ok (.getfield 168, 3) := by decide +kernel
theorem dX11_poor_24 : decode cX11_poor 24 = .ok (.getfield 251, 3) := by decide +kernel
theorem dX11_poor_27 : decode cX11_poor 27 = .ok (.iload_n 1, 1) := by decide +kernel
theorem dX11_poor_28 : decode cX11_poor 28 = .ok (.iaload, 1) := by decide +kernel
theorem dX11_poor_29 : decode cX11_poor 29 = .ok (.istore_n 3, 1) := by decide +kernel
theorem dX11_poor_30 : decode cX11_poor 30 = .ok (.aload_n 0, 1) := by decide +kernel
theorem dX11_poor_31 : decode cX11_poor 31 = .ok (.getfield 26, 3) := by decide +kernel
theorem dX11_poor_34 : decode cX11_poor 34 = .ok (.getfield 168, 3) := by decide +kernel
theorem dX11_poor_37 : decode cX11_poor 37 = .ok (.getfield 251, 3) := by decide +kernel
theorem dX11_poor_40 : decode cX11_poor 40 = .ok (.iload_n 1, 1) := by decide +kernel
theorem dX11_poor_41 : decode cX11_poor 41 = .ok (.iload_n 2, 1) := by decide +kernel
theorem dX11_poor_42 : decode cX11_poor 42 = .ok (.iastore, 1) := by decide +kernel
theorem dX11_poor_43 : decode cX11_poor 43 = .ok (.aload_n 0, 1) := by decide +kernel
theorem dX11_poor_44 : decode cX11_poor 44 = .ok (.getfield 37, 3) := by decide +kernel
theorem dX11_poor_47 : decode cX11_poor 47 = .ok (.aload_n 0, 1) := by decide +kernel
theorem dX11_poor_48 : decode cX11_poor 48 = .ok (.getfield 26, 3) := by decide +kernel
theorem dX11_poor_51 : decode cX11_poor 51 = .ok (.iconst 1, 1) := by decide +kernel
theorem dX11_poor_52 : decode cX11_poor 52 = .ok (.invokevirtual 244, 3) := by decide +kernel
theorem dX11_poor_55 : decode cX11_poor 55 = .ok (.aload_n 0, 1) := by decide +kernel
theorem dX11_poor_56 : decode cX11_poor 56 = .ok (.getfield 26, 3) := by decide +kernel
theorem dX11_poor_59 : decode cX11_poor 59 = .ok (.getfield 168, 3) := by decide +kernel
theorem dX11_poor_62 : decode cX11_poor 62 = .ok (.getfield 251, 3) := by decide +kernel
theorem dX11_poor_65 : decode cX11_poor 65 = .ok (.iload_n 1, 1) := by decide +kernel
theorem dX11_poor_66 : decode cX11_poor 66 = .ok (.iload_n 3, 1) := by decide +kernel
theorem dX11_poor_67 : decode cX11_poor 67 = .ok (.iastore, 1) := by decide +kernel
theorem dX11_poor_68 : decode cX11_poor 68 = .ok (.aload_n 0, 1) := by decide +kernel
theorem dX11_poor_69 : decode cX11_poor 69 = .ok (.getfield 37, 3) := by decide +kernel
theorem dX11_poor_72 : decode cX11_poor 72 = .ok (.getfield 165, 3) := by decide +kernel
theorem dX11_poor_75 : decode cX11_poor 75 = .ok (.iload_n 1, 1) := by decide +kernel
theorem dX11_poor_76 : decode cX11_poor 76 = .ok (.iaload, 1) := by decide +kernel
theorem dX11_poor_77 : decode cX11_poor 77 = .ok (.aload_n 0, 1) := by decide +kernel
theorem dX11_poor_78 : decode cX11_poor 78 = .ok (.getfield 26, 3) := by decide +kernel
theorem dX11_poor_81 : decode cX11_poor 81 = .ok (.getfield 168, 3) := by decide +kernel
theorem dX11_poor_84 : decode cX11_poor 84 = .ok (.iload_n 1, 1) := by decide +kernel
theorem dX11_poor_85 : decode cX11_poor 85 = .ok (.invokevirtual 172, 3) := by decide +kernel
theorem dX11_poor_88 : decode cX11_poor 88 = .ok (.if_icmp .ne 7, 3) := by decide +kernel
theorem dX11_poor_91 : decode cX11_poor 91 = .ok (.iload_n 2, 1) := by decide +kernel
theorem dX11_poor_92 : decode cX11_poor 92 = .ok (.goto 4, 3) := by decide +kernel
theorem dX11_poor_95 : decode cX11_poor 95 = .ok (.iconst (-1), 1) := by decide +kernel
theorem dX11_poor_96 : decode cX11_poor 96 = .ok (.ireturn, 1) := by decide +kernel
theorem dX11_years_0 : decode cX11_years 0 = .ok (.aload_n 0, 1) := by decide +kernel
theorem dX11_years_1 : decode cX11_years 1 = .ok (.iload_n 3, 1) := by decide +kernel
theorem dX11_years_2 : decode cX11_years 2 = .ok (.invokevirtual 159, 3) := by decide +kernel
theorem dX11_years_5 : decode cX11_years 5 = .ok (.ifCond .eq 24, 3) := by decide +kernel
theorem dX11_years_8 : decode cX11_years 8 = .ok (.iload_n 1, 1) := by decide +kernel
theorem dX11_years_9 : decode cX11_years 9 = .ok (.iconst 0, 1) := by decide +kernel
theorem dX11_years_10 : decode cX11_years 10 = .ok (.ldc_w 257, 3) := by decide +kernel
theorem dX11_years_13 : decode cX11_years 13 = .ok (.invokestatic 213, 3) := by decide +kernel
theorem dX11_years_16 : decode cX11_years 16 = .ok (.ifCond .eq 13, 3) := by decide +kernel
theorem dX11_years_19 : decode cX11_years 19 = .ok (.iload_n 2, 1) := by decide +kernel
theorem dX11_years_20 : decode cX11_years 20 = .ok (.iconst 1, 1) := by decide +kernel
theorem dX11_years_21 : decode cX11_years 21 = .ok (.bipush 20, 2) := by decide +kernel
theorem dX11_years_23 : decode cX11_years 23 = .ok (.invokestatic 213, 3) := by decide +kernel
theorem dX11_years_26 : decode cX11_years 26 = .ok (.ifCond .ne 6, 3) := by decide +kernel
theorem dX11_years_29 : decode cX11_years 29 = .ok (.bipush (-2), 2) := by decide +kernel
theorem dX11_years_31 : decode cX11_years 31 = .ok (.ireturn, 1) := by decide +kernel
theorem dX11_years_32 : decode cX11_years 32 = .ok (.iconst 0, 1) := by decide +kernel
theorem dX11_years_33 : decode cX11_years 33 = .ok (.istore 4, 2) := by decide +kernel
theorem dX11_years_35 : decode cX11_years 35 = .ok (.iconst 0, 1) := by decide +kernel
theorem dX11_years_36 : decode cX11_years 36 = .ok (.istore 5, 2) := by decide +kernel
theorem dX11_years_38 : decode cX11_years 38 = .ok (.iload 5, 2) := by decide +kernel
theorem dX11_years_40 : decode cX11_years 40 = .ok (.iload_n 2, 1) := by decide +kernel
theorem dX11_years_41 : decode cX11_years 41 = .ok (.if_icmp .ge 38, 3) := by decide +kernel
theorem dX11_years_44 : decode cX11_years 44 = .ok (.aload_n 0, 1) := by decide +kernel
theorem dX11_years_45 : decode cX11_years 45 = .ok (.getfield 37, 3) := by decide +kernel
theorem dX11_years_48 : decode cX11_years 48 = .ok (.aload_n 0, 1) := by decide +kernel
theorem dX11_years_49 : decode cX11_years 49 = .ok (.getfield 26, 3) := by decide +kernel
theorem dX11_years_52 : decode cX11_years 52 = .ok (.iload_n 1, 1) := by decide +kernel
theorem dX11_years_53 : decode cX11_years 53 = .ok (.iload 5, 2) := by decide +kernel
theorem dX11_years_55 : decode cX11_years 55 = .ok (.iadd, 1) := by decide +kernel
theorem dX11_years_56 : decode cX11_years 56 = .ok (.invokevirtual 244, 3) := by decide +kernel
theorem dX11_years_59 : decode cX11_years 59 = .ok (.iload 4, 2) := by decide +kernel
theorem dX11_years_61 : decode cX11_years 61 = .ok (.aload_n 0, 1) := by decide +kernel
theorem dX11_years_62 : decode cX11_years 62 = .ok (.getfield 37, 3) := by decide +kernel
theorem dX11_years_65 : decode cX11_years 65 = .ok (.getfield 165, 3) := by decide +kernel
theorem dX11_years_68 : decode cX11_years 68 = .ok (.iload_n 3, 1) := by decide +kernel
theorem dX11_years_69 : decode cX11_years 69 = .ok (.iaload, 1) := by decide +kernel
theorem dX11_years_70 : decode cX11_years 70 = .ok (.iadd, 1) := by decide +kernel
theorem dX11_years_71 : decode cX11_years 71 = .ok (.istore 4, 2) := by decide +kernel
theorem dX11_years_73 : decode cX11_years 73 = .ok (.iinc 5 1, 3) := by decide +kernel
theorem dX11_years_76 : decode cX11_years 76 = .ok (.goto (-38), 3) := by decide +kernel
theorem dX11_years_79 : decode cX11_years 79 = .ok (.iload 4, 2) := by decide +kernel
theorem dX11_years_81 : decode cX11_years 81 = .ok (.ireturn, 1) := by decide +kernel
theorem dX11_lots_0 : decode cX11_lots 0 = .ok (.aload_n 0, 1) := by decide +kernel
theorem dX11_lots_1 : decode cX11_lots 1 = .ok (.iload_n 1, 1) := by decide +kernel
theorem dX11_lots_2 : decode cX11_lots 2 = .ok (.iconst 1, 1) := by decide +kernel
theorem dX11_lots_3 : decode cX11_lots 3 = .ok (.iload_n 2, 1) := by decide +kernel
theorem dX11_lots_4 : decode cX11_lots 4 = .ok (.invokevirtual 254, 3) := by decide +kernel
theorem dX11_lots_7 : decode cX11_lots 7 = .ok (.ireturn, 1) := by decide +kernel
theorem dX11_best_0 : decode cX11_best 0 = .ok (.aload_n 0, 1) := by decide +kernel
theorem dX11_best_1 : decode cX11_best 1 = .ok (.iload_n 1, 1) := by decide +kernel
theorem dX11_best_2 : decode cX11_best 2 = .ok (.invokevirtual 130, 3) := by decide +kernel
theorem dX11_best_5 : decode cX11_best 5 = .ok (.ifCond .ne 6, 3) := by decide +kernel
theorem dX11_best_8 : decode cX11_best 8 = .ok (.bipush (-2), 2) := by decide +kernel
theorem dX11_best_10 : decode cX11_best 10 = .ok (.ireturn, 1) := by decide +kernel
theorem dX11_best_11 : decode cX11_best 11 = .ok (.aload_n 0, 1) := by decide +kernel
theorem dX11_best_12 : decode cX11_best 12 = .ok (.getfield 43, 3) := by decide +kernel
theorem dX11_best_15 : decode cX11_best 15 = .ok (.aload_n 0, 1) := by decide +kernel
theorem dX11_best_16 : decode cX11_best 16 = .ok (.getfield 26, 3) := by decide +kernel
theorem dX11_best_19 : decode cX11_best 19 = .ok (.iload_n 1, 1) := by decide +kernel
theorem dX11_best_20 : decode cX11_best 20 = .ok (.invokevirtual 258, 3) := by decide +kernel
theorem dX11_best_23 : decode cX11_best 23 = .ok (.aload_n 0, 1) := by decide +kernel
theorem dX11_best_24 : decode cX11_best 24 = .ok (.getfield 43, 3) := by decide +kernel
theorem dX11_best_27 : decode cX11_best 27 = .ok (.invokevirtual 261, 3) := by decide +kernel
theorem dX11_best_30 : decode cX11_best 30 = .ok (.ireturn, 1) := by decide +kernel
theorem dX11_worth_0 : decode cX11_worth 0 = .ok (.aload_n 0, 1) := by decide +kernel
theorem dX11_worth_1 : decode cX11_worth 1 = .ok (.iload_n 1, 1) := by decide +kernel
theorem dX11_worth_2 : decode cX11_worth 2 = .ok (.invokevirtual 130, 3) := by decide +kernel
theorem dX11_worth_5 : decode cX11_worth 5 = .ok (.ifCond .eq 11, 3) := by decide +kernel
theorem dX11_worth_8 : decode cX11_worth 8 = .ok (.aload_n 0, 1) := by decide +kernel
theorem dX11_worth_9 : decode cX11_worth 9 = .ok (.iload_n 2, 1) := by decide +kernel
theorem dX11_worth_10 : decode cX11_worth 10 = .ok (.invokevirtual 150, 3) := by decide +kernel
theorem dX11_worth_13 : decode cX11_worth 13 = .ok (.ifCond .ne 6, 3) := by decide +kernel
theorem dX11_worth_16 : decode cX11_worth 16 = .ok (.bipush (-2), 2) := by decide +kernel
theorem dX11_worth_18 : decode cX11_worth 18 = .ok (.ireturn, 1) := by decide +kernel
theorem dX11_worth_19 : decode cX11_worth 19 = .ok (.aload_n 0, 1) := by decide +kernel
theorem dX11_worth_20 : decode cX11_worth 20 = .ok (.getfield 43, 3) := by decide +kernel
theorem dX11_worth_23 : decode cX11_worth 23 = .ok (.aload_n 0, 1) := by decide +kernel
theorem dX11_worth_24 : decode cX11_worth 24 = .ok (.getfield 26, 3) := by decide +kernel
theorem dX11_worth_27 : decode cX11_worth 27 = .ok (.iload_n 1, 1) := by decide +kernel
theorem dX11_worth_28 : decode cX11_worth 28 = .ok (.invokevirtual 258, 3) := by decide +kernel
theorem dX11_worth_31 : decode cX11_worth 31 = .ok (.aload_n 0, 1) := by decide +kernel
theorem dX11_worth_32 : decode cX11_worth 32 = .ok (.getfield 43, 3) := by decide +kernel
theorem dX11_worth_35 : decode cX11_worth 35 = .ok (.invokevirtual 261, 3) := by decide +kernel
theorem dX11_worth_38 : decode cX11_worth 38 = .ok (.aload_n 0, 1) := by decide +kernel
theorem dX11_worth_39 : decode cX11_worth 39 = .ok (.getfield 43, 3) := by decide +kernel
theorem dX11_worth_42 : decode cX11_worth 42 = .ok (.iload_n 2, 1) := by decide +kernel
theorem dX11_worth_43 : decode cX11_worth 43 = .ok (.invokevirtual 265, 3) := by decide +kernel
theorem dX11_worth_46 : decode cX11_worth 46 = .ok (.isub, 1) := by decide +kernel
theorem dX11_worth_47 : decode cX11_worth 47 = .ok (.ireturn, 1) := by decide +kernel
theorem dX11_thursday_0 : decode cX11_thursday 0 = .ok (.aload_n 0, 1) := by decide +kernel
theorem dX11_thursday_1 : decode cX11_thursday 1 = .ok (.iload_n 1, 1) := by decide +kernel
theorem dX11_thursday_2 : decode cX11_thursday 2 = .ok (.invokevirtual 130, 3) := by decide +kernel
theorem dX11_thursday_5 : decode cX11_thursday 5 = .ok (.ifCond .ne 6, 3) := by decide +kernel
theorem dX11_thursday_8 : decode cX11_thursday 8 = .ok (.bipush (-2), 2) := by decide +kernel
theorem dX11_thursday_10 : decode cX11_thursday 10 = .ok (.ireturn, 1) := by decide +kernel
theorem dX11_thursday_11 : decode cX11_thursday 11 = .ok (.aload_n 0, 1) := by decide +kernel
theorem dX11_thursday_12 : decode cX11_thursday 12 = .ok (.getfield 43, 3) := by decide +kernel
theorem dX11_thursday_15 : decode cX11_thursday 15 = .ok (.aload_n 0, 1) := by decide +kernel
theorem dX11_thursday_16 : decode cX11_thursday 16 = .ok (.getfield 26, 3) := by decide +kernel
theorem dX11_thursday_19 : decode cX11_thursday 19 = .ok (.iload_n 1, 1) := by decide +kernel
theorem dX11_thursday_20 : decode cX11_thursday 20 = .ok (.invokevirtual 258, 3) := by decide +kernel
theorem dX11_thursday_23 : decode cX11_thursday 23 = .ok (.aload_n 0, 1) := by decide +kernel
theorem dX11_thursday_24 : decode cX11_thursday 24 = .ok (.getfield 43, 3) := by decide +kernel
theorem dX11_thursday_27 : decode cX11_thursday 27 = .ok (.invokevirtual 261, 3) := by decide +kernel
theorem dX11_thursday_30 : decode cX11_thursday 30 = .ok (.ifCond .ne 5, 3) := by decide +kernel
theorem dX11_thursday_33 : decode cX11_thursday 33 = .ok (.iconst (-1), 1) := by decide +kernel
theorem dX11_thursday_34 : decode cX11_thursday 34 = .ok (.ireturn, 1) := by decide +kernel
theorem dX11_thursday_35 : decode cX11_thursday 35 = .ok (.iconst 0, 1) := by decide +kernel
theorem dX11_thursday_36 : decode cX11_thursday 36 = .ok (.istore_n 2, 1) := by decide +kernel
theorem dX11_thursday_37 : decode cX11_thursday 37 = .ok (.aload_n 0, 1) := by decide +kernel
theorem dX11_thursday_38 : decode cX11_thursday 38 = .ok (.getfield 43, 3) := by decide +kernel
theorem dX11_thursday_41 : decode cX11_thursday 41 = .ok (.iconst 0, 1) := by decide +kernel
theorem dX11_thursday_42 : decode cX11_thursday 42 = .ok (.invokevirtual 265, 3) := by decide +kernel
theorem dX11_thursday_45 : decode cX11_thursday 45 = .ok (.istore_n 3, 1) := by decide +kernel
theorem dX11_thursday_46 : decode cX11_thursday 46 = .ok (.iconst 1, 1) := by decide +kernel
theorem dX11_thursday_47 : decode cX11_thursday 47 = .ok (.istore 4, 2) := by decide +kernel
theorem dX11_thursday_49 : decode cX11_thursday 49 = .ok (.iload 4, 2) := by decide +kernel
theorem dX11_thursday_51 : decode cX11_thursday 51 = .ok (.aload_n 0, 1) := by decide +kernel
theorem dX11_thursday_52 : decode cX11_thursday 52 = .ok (.getfield 26, 3) := by decide +kernel
theorem dX11_thursday_55 : decode cX11_thursday 55 = .ok (.getfield 192, 3) := by decide +kernel
theorem dX11_thursday_58 : decode cX11_thursday 58 = .ok (.if_icmp .ge 32, 3) := by decide +kernel
theorem dX11_thursday_61 : decode cX11_thursday 61 = .ok (.aload_n 0, 1) := by decide +kernel
theorem dX11_thursday_62 : decode cX11_thursday 62 = .ok (.getfield 43, 3) := by decide +kernel
theorem dX11_thursday_65 : decode cX11_thursday 65 = .ok (.iload 4, 2) := by decide +kernel
theorem dX11_thursday_67 : decode cX11_thursday 67 = .ok (.invokevirtual 265, 3) := by decide +kernel
theorem dX11_thursday_70 : decode cX11_thursday 70 = .ok (.istore 5, 2) := by decide +kernel
theorem dX11_thursday_72 : decode cX11_thursday 72 = .ok (.iload 5, 2) := by decide +kernel
theorem dX11_thursday_74 : decode cX11_thursday 74 = .ok (.iload_n 3, 1) := by decide +kernel
theorem dX11_thursday_75 : decode cX11_thursday 75 = .ok (.if_icmp .ge 9, 3) := by decide +kernel
theorem dX11_thursday_78 : decode cX11_thursday 78 = .ok (.iload 5, 2) := by decide +kernel
theorem dX11_thursday_80 : decode cX11_thursday 80 = .ok (.istore_n 3, 1) := by decide +kernel
theorem dX11_thursday_81 : decode cX11_thursday 81 = .ok (.iload 4, 2) := by decide +kernel
theorem dX11_thursday_83 : decode cX11_thursday 83 = .ok (.istore_n 2, 1) := by decide +kernel
theorem dX11_thursday_84 : decode cX11_thursday 84 = .ok (.iinc 4 1, 3) := by decide +kernel
theorem dX11_thursday_87 : decode cX11_thursday 87 = .ok (.goto (-38), 3) := by decide +kernel
theorem dX11_thursday_90 : decode cX11_thursday 90 = .ok (.iload_n 2, 1) := by decide +kernel
theorem dX11_thursday_91 : decode cX11_thursday 91 = .ok (.ireturn, 1) := by decide +kernel
theorem dX11_keeping_0 : decode cX11_keeping 0 = .ok (.aload_n 0, 1) := by decide +kernel
theorem dX11_keeping_1 : decode cX11_keeping 1 = .ok (.iload_n 1, 1) := by decide +kernel
theorem dX11_keeping_2 : decode cX11_keeping 2 = .ok (.invokevirtual 130, 3) := by decide +kernel
theorem dX11_keeping_5 : decode cX11_keeping 5 = .ok (.ifCond .eq 13, 3) := by decide +kernel
theorem dX11_keeping_8 : decode cX11_keeping 8 = .ok (.iload_n 2, 1) := by decide +kernel
theorem dX11_keeping_9 : decode cX11_keeping 9 = .ok (.iconst 0, 1) := by decide +kernel
theorem dX11_keeping_10 : decode cX11_keeping 10 = .ok (.bipush 30, 2) := by decide +kernel
theorem dX11_keeping_12 : decode cX11_keeping 12 = .ok (.invokestatic 213, 3) := by decide +kernel
theorem dX11_keeping_15 : decode cX11_keeping 15 = .ok (.ifCond .ne 6, 3) := by decide +kernel
theorem dX11_keeping_18 : decode cX11_keeping 18 = .ok (.bipush (-2), 2) := by decide +kernel
theorem dX11_keeping_20 : decode cX11_keeping 20 = .ok (.ireturn, 1) := by decide +kernel
theorem dX11_keeping_21 : decode cX11_keeping 21 = .ok (.aload_n 0, 1) := by decide +kernel
theorem dX11_keeping_22 : decode cX11_keeping 22 = .ok (.getfield 43, 3) := by decide +kernel
theorem dX11_keeping_25 : decode cX11_keeping 25 = .ok (.aload_n 0, 1) := by decide +kernel
theorem dX11_keeping_26 : decode cX11_keeping 26 = .ok (.getfield 26, 3) := by decide +kernel
theorem dX11_keeping_29 : decode cX11_keeping 29 = .ok (.iload_n 1, 1) := by decide +kernel
theorem dX11_keeping_30 : decode cX11_keeping 30 = .ok (.invokevirtual 258, 3) := by decide +kernel
theorem dX11_keeping_33 : decode cX11_keeping 33 = .ok (.aload_n 0, 1) := by decide +kernel
theorem dX11_keeping_34 : decode cX11_keeping 34 = .ok (.getfield 43, 3) := by decide +kernel
theorem dX11_keeping_37 : decode cX11_keeping 37 = .ok (.iload_n 2, 1) := by decide +kernel
theorem dX11_keeping_38 : decode cX11_keeping 38 = .ok (.putfield 268, 3) := by decide +kernel
theorem dX11_keeping_41 : decode cX11_keeping 41 = .ok (.aload_n 0, 1) := by decide +kernel
theorem dX11_keeping_42 : decode cX11_keeping 42 = .ok (.getfield 43, 3) := by decide +kernel
theorem dX11_keeping_45 : decode cX11_keeping 45 = .ok (.invokevirtual 261, 3) := by decide +kernel
theorem dX11_keeping_48 : decode cX11_keeping 48 = .ok (.ireturn, 1) := by decide +kernel
theorem dX11_enough_0 : decode cX11_enough 0 = .ok (.aload_n 0, 1) := by decide +kernel
theorem dX11_enough_1 : decode cX11_enough 1 = .ok (.iload_n 1, 1) := by decide +kernel
theorem dX11_enough_2 : decode cX11_enough 2 = .ok (.invokevirtual 130, 3) := by decide +kernel
theorem dX11_enough_5 : decode cX11_enough 5 = .ok (.ifCond .ne 6, 3) := by decide +kernel
theorem dX11_enough_8 : decode cX11_enough 8 = .ok (.bipush (-2), 2) := by decide +kernel
theorem dX11_enough_10 : decode cX11_enough 10 = .ok (.ireturn, 1) := by decide +kernel
theorem dX11_enough_11 : decode cX11_enough 11 = .ok (.aload_n 0, 1) := by decide +kernel
theorem dX11_enough_12 : decode cX11_enough 12 = .ok (.iload_n 1, 1) := by decide +kernel
theorem dX11_enough_13 : decode cX11_enough 13 = .ok (.bipush 30, 2) := by decide +kernel
theorem dX11_enough_15 : decode cX11_enough 15 = .ok (.invokevirtual 271, 3) := by decide +kernel
theorem dX11_enough_18 : decode cX11_enough 18 = .ok (.istore_n 2, 1) := by decide +kernel
theorem dX11_enough_19 : decode cX11_enough 19 = .ok (.iconst 0, 1) := by decide +kernel
theorem dX11_enough_20 : decode cX11_enough 20 = .ok (.istore_n 3, 1) := by decide +kernel
theorem dX11_enough_21 : decode cX11_enough 21 = .ok (.iload_n 3, 1) := by decide +kernel
theorem dX11_enough_22 : decode cX11_enough 22 = .ok (.bipush 30, 2) := by decide +kernel
theorem dX11_enough_24 : decode cX11_enough 24 = .ok (.if_icmp .ge 21, 3) := by decide +kernel
theorem dX11_enough_27 : decode cX11_enough 27 = .ok (.aload_n 0, 1) := by decide +kernel
theorem dX11_enough_28 : decode cX11_enough 28 = .ok (.iload_n 1, 1) := by decide +kernel
theorem dX11_enough_29 : decode cX11_enough 29 = .ok (.iload_n 3, 1) := by decide +kernel
theorem dX11_enough_30 : decode cX11_enough 30 = .ok (.invokevirtual 271, 3) := by decide +kernel
theorem dX11_enough_33 : decode cX11_enough 33 = .ok (.iload_n 2, 1) := by decide +kernel
theorem dX11_enough_34 : decode cX11_enough 34 = .ok (.if_icmp .ne 5, 3) := by decide +kernel
theorem dX11_enough_37 : decode cX11_enough 37 = .ok (.iload_n 3, 1) := by decide +kernel
theorem dX11_enough_38 : decode cX11_enough 38 = .ok (.ireturn, 1) := by decide +kernel
theorem dX11_enough_39 : decode cX11_enough 39 = .ok (.iinc 3 1, 3) := by decide +kernel
theorem dX11_enough_42 : decode cX11_enough 42 = .ok (.goto (-21), 3) := by decide +kernel
theorem dX11_enough_45 : decode cX11_enough 45 = .ok (.bipush 30, 2) := by decide +kernel
theorem dX11_enough_47 : decode cX11_enough 47 = .ok (.ireturn, 1) := by decide +kernel
theorem dX11_cheapest_0 : decode cX11_cheapest 0 = .ok (.aload_n 0, 1) := by decide +kernel
theorem dX11_cheapest_1 : decode cX11_cheapest 1 = .ok (.iload_n 1, 1) := by decide +kernel
theorem dX11_cheapest_2 : decode cX11_cheapest 2 = .ok (.invokevirtual 159, 3) := by decide +kernel
theorem dX11_cheapest_5 : decode cX11_cheapest 5 = .ok (.ifCond .eq 18, 3) := by decide +kernel
theorem dX11_cheapest_8 : decode cX11_cheapest 8 = .ok (.aload_n 0, 1) := by decide +kernel
theorem dX11_cheapest_9 : decode cX11_cheapest 9 = .ok (.getfield 50, 3) := by decide +kernel
theorem dX11_cheapest_12 : decode cX11_cheapest 12 = .ok (.aload_n 0, 1) := by decide +kernel
theorem dX11_cheapest_13 : decode cX11_cheapest 13 = .ok (.getfield 26, 3) := by decide +kernel
theorem dX11_cheapest_16 : decode cX11_cheapest 16 = .ok (.iload_n 1, 1) := by decide +kernel
theorem dX11_cheapest_17 : decode cX11_cheapest 17 = .ok (.invokevirtual 274, 3) := by decide +kernel
theorem dX11_cheapest_20 : decode cX11_cheapest 20 = .ok (.goto 5, 3) := by decide +kernel
theorem dX11_cheapest_23 : decode cX11_cheapest 23 = .ok (.bipush (-2), 2) := by decide +kernel
theorem dX11_cheapest_25 : decode cX11_cheapest 25 = .ok (.ireturn, 1) := by decide +kernel
theorem dX11_buys_0 : decode cX11_buys 0 = .ok (.aload_n 0, 1) := by decide +kernel
theorem dX11_buys_1 : decode cX11_buys 1 = .ok (.iload_n 1, 1) := by decide +kernel
theorem dX11_buys_2 : decode cX11_buys 2 = .ok (.invokevirtual 159, 3) := by decide +kernel
theorem dX11_buys_5 : decode cX11_buys 5 = .ok (.ifCond .eq 11, 3) := by decide +kernel
theorem dX11_buys_8 : decode cX11_buys 8 = .ok (.aload_n 0, 1) := by decide +kernel
theorem dX11_buys_9 : decode cX11_buys 9 = .ok (.iload_n 2, 1) := by decide +kernel
theorem dX11_buys_10 : decode cX11_buys 10 = .ok (.invokevirtual 150, 3) := by decide +kernel
theorem dX11_buys_13 : decode cX11_buys 13 = .ok (.ifCond .ne 6, 3) := by decide +kernel
theorem dX11_buys_16 : decode cX11_buys 16 = .ok (.bipush (-2), 2) := by decide +kernel
theorem dX11_buys_18 : decode cX11_buys 18 = .ok (.ireturn, 1) := by decide +kernel
theorem dX11_buys_19 : decode cX11_buys 19 = .ok (.aload_n 0, 1) := by decide +kernel
theorem dX11_buys_20 : decode cX11_buys 20 = .ok (.getfield 50, 3) := by decide +kernel
theorem dX11_buys_23 : decode cX11_buys 23 = .ok (.aload_n 0, 1) := by decide +kernel
theorem dX11_buys_24 : decode cX11_buys 24 = .ok (.getfield 26, 3) := by decide +kernel
theorem dX11_buys_27 : decode cX11_buys 27 = .ok (.iload_n 1, 1) := by decide +kernel
theorem dX11_buys_28 : decode cX11_buys 28 = .ok (.invokevirtual 274, 3) := by decide +kernel
theorem dX11_buys_31 : decode cX11_buys 31 = .ok (.pop, 1) := by decide +kernel
theorem dX11_buys_32 : decode cX11_buys 32 = .ok (.aload_n 0, 1) := by decide +kernel
theorem dX11_buys_33 : decode cX11_buys 33 = .ok (.getfield 50, 3) := by decide +kernel
theorem dX11_buys_36 : decode cX11_buys 36 = .ok (.getfield 278, 3) := by decide +kernel
theorem dX11_buys_39 : decode cX11_buys 39 = .ok (.iload_n 2, 1) := by decide +kernel
theorem dX11_buys_40 : decode cX11_buys 40 = .ok (.iaload, 1) := by decide +kernel
theorem dX11_buys_41 : decode cX11_buys 41 = .ok (.ireturn, 1) := by decide +kernel
theorem dX11_crowd_0 : decode cX11_crowd 0 = .ok (.aload_n 0, 1) := by decide +kernel
theorem dX11_crowd_1 : decode cX11_crowd 1 = .ok (.iload_n 1, 1) := by decide +kernel
theorem dX11_crowd_2 : decode cX11_crowd 2 = .ok (.invokevirtual 159, 3) := by decide +kernel
theorem dX11_crowd_5 : decode cX11_crowd 5 = .ok (.ifCond .ne 6, 3) := by decide +kernel
theorem dX11_crowd_8 : decode cX11_crowd 8 = .ok (.bipush (-2), 2) := by decide +kernel
theorem dX11_crowd_10 : decode cX11_crowd 10 = .ok (.ireturn, 1) := by decide +kernel
theorem dX11_crowd_11 : decode cX11_crowd 11 = .ok (.aload_n 0, 1) := by decide +kernel
theorem dX11_crowd_12 : decode cX11_crowd 12 = .ok (.getfield 50, 3) := by decide +kernel
theorem dX11_crowd_15 : decode cX11_crowd 15 = .ok (.aload_n 0, 1) := by decide +kernel
theorem dX11_crowd_16 : decode cX11_crowd 16 = .ok (.getfield 26, 3) := by decide +kernel
theorem dX11_crowd_19 : decode cX11_crowd 19 = .ok (.iload_n 1, 1) := by decide +kernel
theorem dX11_crowd_20 : decode cX11_crowd 20 = .ok (.invokevirtual 274, 3) := by decide +kernel
theorem dX11_crowd_23 : decode cX11_crowd 23 = .ok (.pop, 1) := by decide +kernel
theorem dX11_crowd_24 : decode cX11_crowd 24 = .ok (.iconst 0, 1) := by decide +kernel
theorem dX11_crowd_25 : decode cX11_crowd 25 = .ok (.istore_n 2, 1) := by decide +kernel
theorem dX11_crowd_26 : decode cX11_crowd 26 = .ok (.iconst 1, 1) := by decide +kernel
theorem dX11_crowd_27 : decode cX11_crowd 27 = .ok (.istore_n 3, 1) := by decide +kernel
theorem dX11_crowd_28 : decode cX11_crowd 28 = .ok (.iload_n 3, 1) := by decide +kernel
theorem dX11_crowd_29 : decode cX11_crowd 29 = .ok (.aload_n 0, 1) := by decide +kernel
theorem dX11_crowd_30 : decode cX11_crowd 30 = .ok (.getfield 26, 3) := by decide +kernel
theorem dX11_crowd_33 : decode cX11_crowd 33 = .ok (.getfield 192, 3) := by decide +kernel
theorem dX11_crowd_36 : decode cX11_crowd 36 = .ok (.if_icmp .ge 32, 3) := by decide +kernel
theorem dX11_crowd_39 : decode cX11_crowd 39 = .ok (.aload_n 0, 1) := by decide +kernel
theorem dX11_crowd_40 : decode cX11_crowd 40 = .ok (.getfield 50, 3) := by decide +kernel
theorem dX11_crowd_43 : decode cX11_crowd 43 = .ok (.getfield 278, 3) := by decide +kernel
theorem dX11_crowd_46 : decode cX11_crowd 46 = .ok (.iload_n 3, 1) := by decide +kernel
theorem dX11_crowd_47 : decode cX11_crowd 47 = .ok (.iaload, 1) := by decide +kernel
theorem dX11_crowd_48 : decode cX11_crowd 48 = .ok (.aload_n 0, 1) := by decide +kernel
theorem dX11_crowd_49 : decode cX11_crowd 49 = .ok (.getfield 50, 3) := by decide +kernel
theorem dX11_crowd_52 : decode cX11_crowd 52 = .ok (.getfield 278, 3) := by decide +kernel
theorem dX11_crowd_55 : decode cX11_crowd 55 = .ok (.iload_n 2, 1) := by decide +kernel
theorem dX11_crowd_56 : decode cX11_crowd 56 = .ok (.iaload, 1) := by decide +kernel
theorem dX11_crowd_57 : decode cX11_crowd 57 = .ok (.if_icmp .le 5, 3) := by decide +kernel
theorem dX11_crowd_60 : decode cX11_crowd 60 = .ok (.iload_n 3, 1) := by decide +kernel
theorem dX11_crowd_61 : decode cX11_crowd 61 = .ok (.istore_n 2, 1) := by decide +kernel
theorem dX11_crowd_62 : decode cX11_crowd 62 = .ok (.iinc 3 1, 3) := by decide +kernel
theorem dX11_crowd_65 : decode cX11_crowd 65 = .ok (.goto (-37), 3) := by decide +kernel
theorem dX11_crowd_68 : decode cX11_crowd 68 = .ok (.iload_n 2, 1) := by decide +kernel
theorem dX11_crowd_69 : decode cX11_crowd 69 = .ok (.ireturn, 1) := by decide +kernel
theorem dX11_mark_0 : decode cX11_mark 0 = .ok (.aload_n 0, 1) := by decide +kernel
theorem dX11_mark_1 : decode cX11_mark 1 = .ok (.iload_n 1, 1) := by decide +kernel
theorem dX11_mark_2 : decode cX11_mark 2 = .ok (.iload_n 2, 1) := by decide +kernel
theorem dX11_mark_3 : decode cX11_mark 3 = .ok (.invokevirtual 96, 3) := by decide +kernel
theorem dX11_mark_6 : decode cX11_mark 6 = .ok (.ifCond .eq 13, 3) := by decide +kernel
theorem dX11_mark_9 : decode cX11_mark 9 = .ok (.iload_n 3, 1) := by decide +kernel
theorem dX11_mark_10 : decode cX11_mark 10 = .ok (.iconst 0, 1) := by decide +kernel
theorem dX11_mark_11 : decode cX11_mark 11 = .ok (.bipush 99, 2) := by decide +kernel
theorem dX11_mark_13 : decode cX11_mark 13 = .ok (.invokestatic 213, 3) := by decide +kernel
theorem dX11_mark_16 : decode cX11_mark 16 = .ok (.ifCond .ne 6, 3) := by decide +kernel
theorem dX11_mark_19 : decode cX11_mark 19 = .ok (.bipush (-2), 2) := by decide +kernel
theorem dX11_mark_21 : decode cX11_mark 21 = .ok (.ireturn, 1) := by decide +kernel
theorem dX11_mark_22 : decode cX11_mark 22 = .ok (.iload_n 1, 1) := by decide +kernel
theorem dX11_mark_23 : decode cX11_mark 23 = .ok (.iload_n 2, 1) := by decide +kernel
theorem dX11_mark_24 : decode cX11_mark 24 = .ok (.invokestatic 110, 3) := by decide +kernel
theorem dX11_mark_27 : decode cX11_mark 27 = .ok (.istore 4, 2) := by decide +kernel
theorem dX11_mark_29 : decode cX11_mark 29 = .ok (.aload_n 0, 1) := by decide +kernel
theorem dX11_mark_30 : decode cX11_mark 30 = .ok (.getfield 26, 3) := by decide +kernel
theorem dX11_mark_33 : decode cX11_mark 33 = .ok (.getfield 100, 3) := by decide +kernel
theorem dX11_mark_36 : decode cX11_mark 36 = .ok (.getfield 281, 3) := by decide +kernel
theorem dX11_mark_39 : decode cX11_mark 39 = .ok (.iload 4, 2) := by decide +kernel
theorem dX11_mark_41 : decode cX11_mark 41 = .ok (.iload_n 3, 1) := by decide +kernel
theorem dX11_mark_42 : decode cX11_mark 42 = .ok (.aload_n 0, 1) := by decide +kernel
theorem dX11_mark_43 : decode cX11_mark 43 = .ok (.getfield 26, 3) := by decide +kernel
theorem dX11_mark_46 : decode cX11_mark 46 = .ok (.getfield 100, 3) := by decide +kernel
theorem dX11_mark_49 : decode cX11_mark 49 = .ok (.getfield 104, 3) := by decide +kernel
theorem dX11_mark_52 : decode cX11_mark 52 = .ok (.iload 4, 2) := by decide +kernel
theorem dX11_mark_54 : decode cX11_mark 54 = .ok (.iaload, 1) := by decide +kernel
theorem dX11_mark_55 : decode cX11_mark 55 = .ok (.aload_n 0, 1) := by decide +kernel
theorem dX11_mark_56 : decode cX11_mark 56 = .ok (.getfield 26, 3) := by decide +kernel
theorem dX11_mark_59 : decode cX11_mark 59 = .ok (.getfield 284, 3) := by decide +kernel
theorem dX11_mark_62 : decode cX11_mark 62 = .ok (.iadd, 1) := by decide +kernel
theorem dX11_mark_63 : decode cX11_mark 63 = .ok (.invokestatic 287, 3) := by decide +kernel
theorem dX11_mark_66 : decode cX11_mark 66 = .ok (.iastore, 1) := by decide +kernel
theorem dX11_mark_67 : decode cX11_mark 67 = .ok (.aload_n 0, 1) := by decide +kernel
theorem dX11_mark_68 : decode cX11_mark 68 = .ok (.getfield 26, 3) := by decide +kernel
theorem dX11_mark_71 : decode cX11_mark 71 = .ok (.getfield 100, 3) := by decide +kernel
theorem dX11_mark_74 : decode cX11_mark 74 = .ok (.getfield 281, 3) := by decide +kernel
theorem dX11_mark_77 : decode cX11_mark 77 = .ok (.iload 4, 2) := by decide +kernel
theorem dX11_mark_79 : decode cX11_mark 79 = .ok (.iaload, 1) := by decide +kernel
theorem dX11_mark_80 : decode cX11_mark 80 = .ok (.ireturn, 1) := by decide +kernel
theorem dX11_markedOtherwise_0 : decode cX11_markedOtherwise 0 = .ok (.iconst 0, 1) := by decide +kernel
theorem dX11_markedOtherwise_1 : decode cX11_markedOtherwise 1 = .ok (.istore_n 1, 1) := by decide +kernel
theorem dX11_markedOtherwise_2 : decode cX11_markedOtherwise 2 = .ok (.iconst 0, 1) := by decide +kernel
theorem dX11_markedOtherwise_3 : decode cX11_markedOtherwise 3 = .ok (.istore_n 2, 1) := by decide +kernel
theorem dX11_markedOtherwise_4 : decode cX11_markedOtherwise 4 = .ok (.iload_n 2, 1) := by decide +kernel
theorem dX11_markedOtherwise_5 : decode cX11_markedOtherwise 5 = .ok (.aload_n 0, 1) := by decide +kernel
theorem dX11_markedOtherwise_6 : decode cX11_markedOtherwise 6 = .ok (.getfield 26, 3) := by decide +kernel
theorem dX11_markedOtherwise_9 : decode cX11_markedOtherwise 9 = .ok (.getfield 100, 3) := by decide +kernel
theorem dX11_markedOtherwise_12 : decode cX11_markedOtherwise 12 = .ok (.getfield 342, 3) := by decide +kernel
theorem dX11_markedOtherwise_15 : decode cX11_markedOtherwise 15 = .ok (.if_icmp .ge 76, 3) := by decide +kernel
theorem dX11_markedOtherwise_18 : decode cX11_markedOtherwise 18 = .ok (.iconst 0, 1) := by decide +kernel
theorem dX11_markedOtherwise_19 : decode cX11_markedOtherwise 19 = .ok (.istore_n 3, 1) := by decide +kernel
theorem dX11_markedOtherwise_20 : decode cX11_markedOtherwise 20 = .ok (.iload_n 3, 1) := by decide +kernel
theorem dX11_markedOtherwise_21 : decode cX11_markedOtherwise 21 = .ok (.aload_n 0, 1) := by decide +kernel
theorem dX11_markedOtherwise_22 : decode cX11_markedOtherwise 22 = .ok (.getfield 26, 3) := by decide +kernel
theorem dX11_markedOtherwise_25 : decode cX11_markedOtherwise 25 = .ok (.getfield 192, 3) := by decide +kernel
theorem dX11_markedOtherwise_28 : decode cX11_markedOtherwise 28 = .ok (.if_icmp .ge 57, 3) := by decide +kernel
theorem dX11_markedOtherwise_31 : decode cX11_markedOtherwise 31 = .ok (.aload_n 0, 1) := by decide +kernel
theorem dX11_markedOtherwise_32 : decode cX11_markedOtherwise 32 = .ok (.getfield 26, 3) := by decide +kernel
theorem dX11_markedOtherwise_35 : decode cX11_markedOtherwise 35 = .ok (.getfield 100, 3) := by decide +kernel
theorem dX11_markedOtherwise_38 : decode cX11_markedOtherwise 38 = .ok (.getfield 281, 3) := by decide +kernel
theorem dX11_markedOtherwise_41 : decode cX11_markedOtherwise 41 = .ok (.iload_n 2, 1) := by decide +kernel
theorem dX11_markedOtherwise_42 : decode cX11_markedOtherwise 42 = .ok (.iload_n 3, 1) := by decide +kernel
theorem dX11_markedOtherwise_43 : decode cX11_markedOtherwise 43 = .ok (.invokestatic 110, 3) := by decide +kernel
theorem dX11_markedOtherwise_46 : decode cX11_markedOtherwise 46 = .ok (.iaload, 1) := by decide +kernel
theorem dX11_markedOtherwise_47 : decode cX11_markedOtherwise 47 = .ok (.istore 4, 2) := by decide +kernel
theorem dX11_markedOtherwise_49 : decode cX11_markedOtherwise 49 = .ok (.iload 4, 2) := by decide +kernel
theorem dX11_markedOtherwise_51 : decode cX11_markedOtherwise 51 = .ok (.iconst (-1), 1) := by decide +kernel
theorem dX11_markedOtherwise_52 : decode cX11_markedOtherwise 52 = .ok (.if_icmp .eq 27, 3) := by decide +kernel
theorem dX11_markedOtherwise_55 : decode cX11_markedOtherwise 55 = .ok (.iload 4, 2) := by decide +kernel
theorem dX11_markedOtherwise_57 : decode cX11_markedOtherwise 57 = .ok (.aload_n 0, 1) := by decide +kernel
theorem dX11_markedOtherwise_58 : decode cX11_markedOtherwise 58 = .ok (.getfield 26, 3) := by decide +kernel
theorem dX11_markedOtherwise_61 : decode cX11_markedOtherwise 61 = .ok (.getfield 100, 3) := by decide +kernel
theorem dX11_markedOtherwise_64 : decode cX11_markedOtherwise 64 = .ok (.getfield 104, 3) := by decide +kernel
theorem dX11_markedOtherwise_67 : decode cX11_markedOtherwise 67 = .ok (.iload_n 2, 1) := by decide +kernel
theorem dX11_markedOtherwise_68 : decode cX11_markedOtherwise 68 = .ok (.iload_n 3, 1) := by decide +kernel
theorem dX11_markedOtherwise_69 : decode cX11_markedOtherwise 69 = .ok (.invokestatic 110, 3) := by decide +kernel
theorem dX11_markedOtherwise_72 : decode cX11_markedOtherwise 72 = .ok (.iaload, 1) := by decide +kernel
theorem dX11_markedOtherwise_73 : decode cX11_markedOtherwise 73 = .ok (.if_icmp .eq 6, 3) := by decide +kernel
theorem dX11_markedOtherwise_76 : decode cX11_markedOtherwise 76 = .ok (.iinc 1 1, 3) := by decide +kernel
theorem dX11_markedOtherwise_79 : decode cX11_markedOtherwise 79 = .ok (.iinc 3 1, 3) := by decide +kernel
theorem dX11_markedOtherwise_82 : decode cX11_markedOtherwise 82 = .ok (.goto (-62), 3) := by decide +kernel
theorem dX11_markedOtherwise_85 : decode cX11_markedOtherwise 85 = .ok (.iinc 2 1, 3) := by decide +kernel
theorem dX11_markedOtherwise_88 : decode cX11_markedOtherwise 88 = .ok (.goto (-84), 3) := by decide +kernel
theorem dX11_markedOtherwise_91 : decode cX11_markedOtherwise 91 = .ok (.iload_n 1, 1) := by decide +kernel
theorem dX11_markedOtherwise_92 : decode cX11_markedOtherwise 92 = .ok (.ireturn, 1) := by decide +kernel
theorem dX11_turn_0 : decode cX11_turn 0 = .ok (.aload_n 0, 1) := by decide +kernel
theorem dX11_turn_1 : decode cX11_turn 1 = .ok (.invokevirtual 177, 3) := by decide +kernel
theorem dX11_turn_4 : decode cX11_turn 4 = .ok (.ifCond .ne 6, 3) := by decide +kernel
theorem dX11_turn_7 : decode cX11_turn 7 = .ok (.bipush (-2), 2) := by decide +kernel
theorem dX11_turn_9 : decode cX11_turn 9 = .ok (.ireturn, 1) := by decide +kernel
theorem dX11_turn_10 : decode cX11_turn 10 = .ok (.aload_n 0, 1) := by decide +kernel
theorem dX11_turn_11 : decode cX11_turn 11 = .ok (.invokevirtual 290, 3) := by decide +kernel
theorem dX11_turn_14 : decode cX11_turn 14 = .ok (.istore_n 1, 1) := by decide +kernel
theorem dX11_turn_15 : decode cX11_turn 15 = .ok (.aload_n 0, 1) := by decide +kernel
theorem dX11_turn_16 : decode cX11_turn 16 = .ok (.getfield 26, 3) := by decide +kernel
theorem dX11_turn_19 : decode cX11_turn 19 = .ok (.getfield 100, 3) := by decide +kernel
theorem dX11_turn_22 : decode cX11_turn 22 = .ok (.invokevirtual 293, 3) := by decide +kernel
theorem dX11_turn_25 : decode cX11_turn 25 = .ok (.aload_n 0, 1) := by decide +kernel
theorem dX11_turn_26 : decode cX11_turn 26 = .ok (.iconst 0, 1) := by decide +kernel
theorem dX11_turn_27 : decode cX11_turn 27 = .ok (.putfield 64, 3) := by decide +kernel
theorem dX11_turn_30 : decode cX11_turn 30 = .ok (.iload_n 1, 1) := by decide +kernel
theorem dX11_turn_31 : decode cX11_turn 31 = .ok (.ireturn, 1) := by decide +kernel
theorem dX11_wantedFor_0 : decode cX11_wantedFor 0 = .ok (.aload_n 0, 1) := by decide +kernel
theorem dX11_wantedFor_1 : decode cX11_wantedFor 1 = .ok (.getfield 26, 3) := by decide +kernel
theorem dX11_wantedFor_4 : decode cX11_wantedFor 4 = .ok (.getfield 168, 3) := by decide +kernel
theorem dX11_wantedFor_7 : decode cX11_wantedFor 7 = .ok (.aload_n 0, 1) := by decide +kernel
theorem dX11_wantedFor_8 : decode cX11_wantedFor 8 = .ok (.getfield 26, 3) := by decide +kernel
theorem dX11_wantedFor_11 : decode cX11_wantedFor 11 = .ok (.getfield 181, 3) := by decide +kernel
theorem dX11_wantedFor_14 : decode cX11_wantedFor 14 = .ok (.getfield 240, 3) := by decide +kernel
theorem dX11_wantedFor_17 : decode cX11_wantedFor 17 = .ok (.iload_n 1, 1) := by decide +kernel
theorem dX11_wantedFor_18 : decode cX11_wantedFor 18 = .ok (.iaload, 1) := by decide +kernel
theorem dX11_wantedFor_19 : decode cX11_wantedFor 19 = .ok (.iload_n 2, 1) := by decide +kernel
theorem dX11_wantedFor_20 : decode cX11_wantedFor 20 = .ok (.iload_n 3, 1) := by decide +kernel
theorem dX11_wantedFor_21 : decode cX11_wantedFor 21 = .ok (.invokevirtual 209, 3) := by decide +kernel
theorem dX11_wantedFor_24 : decode cX11_wantedFor 24 = .ok (.ireturn, 1) := by decide +kernel
theorem dX11_bringAt_0 : decode cX11_bringAt 0 = .ok (.aload_n 0, 1) := by decide +kernel
theorem dX11_bringAt_1 : decode cX11_bringAt 1 = .ok (.getfield 43, 3) := by decide +kernel
theorem dX11_bringAt_4 : decode cX11_bringAt 4 = .ok (.iload_n 2, 1) := by decide +kernel
theorem dX11_bringAt_5 : decode cX11_bringAt 5 = .ok (.iload_n 3, 1) := by decide +kernel
theorem dX11_bringAt_6 : decode cX11_bringAt 6 = .ok (.aload_n 0, 1) := by decide +kernel
theorem dX11_bringAt_7 : decode cX11_bringAt 7 = .ok (.iload_n 1, 1) := by decide +kernel
theorem dX11_bringAt_8 : decode cX11_bringAt 8 = .ok (.iload_n 2, 1) := by decide +kernel
theorem dX11_bringAt_9 : decode cX11_bringAt 9 = .ok (.iload_n 3, 1) := by decide +kernel
theorem dX11_bringAt_10 : decode cX11_bringAt 10 = .ok (.invokevirtual 300, 3) := by decide +kernel
theorem dX11_bringAt_13 : decode cX11_bringAt 13 = .ok (.invokevirtual 391, 3) := by decide +kernel
theorem dX11_bringAt_16 : decode cX11_bringAt 16 = .ok (.ireturn, 1) := by decide +kernel
theorem dX11_made_0 : decode cX11_made 0 = .ok (.aload_n 0, 1) := by decide +kernel
theorem dX11_made_1 : decode cX11_made 1 = .ok (.iload_n 1, 1) := by decide +kernel
theorem dX11_made_2 : decode cX11_made 2 = .ok (.invokevirtual 130, 3) := by decide +kernel
theorem dX11_made_5 : decode cX11_made 5 = .ok (.ifCond .eq 21, 3) := by decide +kernel
theorem dX11_made_8 : decode cX11_made 8 = .ok (.aload_n 0, 1) := by decide +kernel
theorem dX11_made_9 : decode cX11_made 9 = .ok (.iload_n 2, 1) := by decide +kernel
theorem dX11_made_10 : decode cX11_made 10 = .ok (.invokevirtual 150, 3) := by decide +kernel
theorem dX11_made_13 : decode cX11_made 13 = .ok (.ifCond .eq 13, 3) := by decide +kernel
theorem dX11_made_16 : decode cX11_made 16 = .ok (.iload_n 3, 1) := by decide +kernel
theorem dX11_made_17 : decode cX11_made 17 = .ok (.iconst 0, 1) := by decide +kernel
theorem dX11_made_18 : decode cX11_made 18 = .ok (.bipush 99, 2) := by decide +kernel
theorem dX11_made_20 : decode cX11_made 20 = .ok (.invokestatic 213, 3) := by decide +kernel
theorem dX11_made_23 : decode cX11_made 23 = .ok (.ifCond .ne 7, 3) := by decide +kernel
theorem dX11_made_26 : decode cX11_made 26 = .ok (.ldc_w 296, 3) := by decide +kernel
theorem dX11_made_29 : decode cX11_made 29 = .ok (.ireturn, 1) := by decide +kernel
theorem dX11_made_30 : decode cX11_made 30 = .ok (.aload_n 0, 1) := by decide +kernel
theorem dX11_made_31 : decode cX11_made 31 = .ok (.getfield 43, 3) := by decide +kernel
theorem dX11_made_34 : decode cX11_made 34 = .ok (.aload_n 0, 1) := by decide +kernel
theorem dX11_made_35 : decode cX11_made 35 = .ok (.getfield 26, 3) := by decide +kernel
theorem dX11_made_38 : decode cX11_made 38 = .ok (.iload_n 1, 1) := by decide +kernel
theorem dX11_made_39 : decode cX11_made 39 = .ok (.invokevirtual 258, 3) := by decide +kernel
theorem dX11_made_42 : decode cX11_made 42 = .ok (.aload_n 0, 1) := by decide +kernel
theorem dX11_made_43 : decode cX11_made 43 = .ok (.iload_n 1, 1) := by decide +kernel
theorem dX11_made_44 : decode cX11_made 44 = .ok (.iload_n 2, 1) := by decide +kernel
theorem dX11_made_45 : decode cX11_made 45 = .ok (.iload_n 3, 1) := by decide +kernel
theorem dX11_made_46 : decode cX11_made 46 = .ok (.invokevirtual 297, 3) := by decide +kernel
theorem dX11_made_49 : decode cX11_made 49 = .ok (.aload_n 0, 1) := by decide +kernel
theorem dX11_made_50 : decode cX11_made 50 = .ok (.getfield 43, 3) := by decide +kernel
theorem dX11_made_53 : decode cX11_made 53 = .ok (.invokevirtual 261, 3) := by decide +kernel
theorem dX11_made_56 : decode cX11_made 56 = .ok (.isub, 1) := by decide +kernel
theorem dX11_made_57 : decode cX11_made 57 = .ok (.ireturn, 1) := by decide +kernel
theorem dX11_least_0 : decode cX11_least 0 = .ok (.aload_n 0, 1) := by decide +kernel
theorem dX11_least_1 : decode cX11_least 1 = .ok (.iload_n 1, 1) := by decide +kernel
theorem dX11_least_2 : decode cX11_least 2 = .ok (.invokevirtual 130, 3) := by decide +kernel
theorem dX11_least_5 : decode cX11_least 5 = .ok (.ifCond .eq 22, 3) := by decide +kernel
theorem dX11_least_8 : decode cX11_least 8 = .ok (.aload_n 0, 1) := by decide +kernel
theorem dX11_least_9 : decode cX11_least 9 = .ok (.iload_n 2, 1) := by decide +kernel
theorem dX11_least_10 : decode cX11_least 10 = .ok (.invokevirtual 150, 3) := by decide +kernel
theorem dX11_least_13 : decode cX11_least 13 = .ok (.ifCond .eq 14, 3) := by decide +kernel
theorem dX11_least_16 : decode cX11_least 16 = .ok (.iload_n 3, 1) := by decide +kernel
theorem dX11_least_17 : decode cX11_least 17 = .ok (.iconst 1, 1) := by decide +kernel
theorem dX11_least_18 : decode cX11_least 18 = .ok (.sipush 9999, 3) := by decide +kernel
theorem dX11_least_21 : decode cX11_least 21 = .ok (.invokestatic 213, 3) := by decide +kernel
theorem dX11_least_24 : decode cX11_least 24 = .ok (.ifCond .ne 6, 3) := by decide +kernel
theorem dX11_least_27 : decode cX11_least 27 = .ok (.bipush (-2), 2) := by decide +kernel
theorem dX11_least_29 : decode cX11_least 29 = .ok (.ireturn, 1) := by decide +kernel
theorem dX11_least_30 : decode cX11_least 30 = .ok (.aload_n 0, 1) := by decide +kernel
theorem dX11_least_31 : decode cX11_least 31 = .ok (.getfield 43, 3) := by decide +kernel
theorem dX11_least_34 : decode cX11_least 34 = .ok (.aload_n 0, 1) := by decide +kernel
theorem dX11_least_35 : decode cX11_least 35 = .ok (.getfield 26, 3) := by decide +kernel
theorem dX11_least_38 : decode cX11_least 38 = .ok (.iload_n 1, 1) := by decide +kernel
theorem dX11_least_39 : decode cX11_least 39 = .ok (.invokevirtual 258, 3) := by decide +kernel
theorem dX11_least_42 : decode cX11_least 42 = .ok (.aload_n 0, 1) := by decide +kernel
theorem dX11_least_43 : decode cX11_least 43 = .ok (.getfield 43, 3) := by decide +kernel
theorem dX11_least_46 : decode cX11_least 46 = .ok (.invokevirtual 261, 3) := by decide +kernel
theorem dX11_least_49 : decode cX11_least 49 = .ok (.iload_n 3, 1) := by decide +kernel
theorem dX11_least_50 : decode cX11_least 50 = .ok (.iadd, 1) := by decide +kernel
theorem dX11_least_51 : decode cX11_least 51 = .ok (.istore 4, 2) := by decide +kernel
theorem dX11_least_53 : decode cX11_least 53 = .ok (.iconst 0, 1) := by decide +kernel
theorem dX11_least_54 : decode cX11_least 54 = .ok (.istore 5, 2) := by decide +kernel
theorem dX11_least_56 : decode cX11_least 56 = .ok (.iload 5, 2) := by decide +kernel
theorem dX11_least_58 : decode cX11_least 58 = .ok (.bipush 99, 2) := by decide +kernel
theorem dX11_least_60 : decode cX11_least 60 = .ok (.if_icmp .gt 25, 3) := by decide +kernel
theorem dX11_least_63 : decode cX11_least 63 = .ok (.aload_n 0, 1) := by decide +kernel
theorem dX11_least_64 : decode cX11_least 64 = .ok (.iload_n 1, 1) := by decide +kernel
theorem dX11_least_65 : decode cX11_least 65 = .ok (.iload_n 2, 1) := by decide +kernel
theorem dX11_least_66 : decode cX11_least 66 = .ok (.iload 5, 2) := by decide +kernel
theorem dX11_least_68 : decode cX11_least 68 = .ok (.invokevirtual 297, 3) := by decide +kernel
theorem dX11_least_71 : decode cX11_least 71 = .ok (.iload 4, 2) := by decide +kernel
theorem dX11_least_73 : decode cX11_least 73 = .ok (.if_icmp .lt 6, 3) := by decide +kernel
theorem dX11_least_76 : decode cX11_least 76 = .ok (.iload 5, 2) := by decide +kernel
theorem dX11_least_78 : decode cX11_least 78 = .ok (.ireturn, 1) := by decide +kernel
theorem dX11_least_79 : decode cX11_least 79 = .ok (.iinc 5 1, 3) := by decide +kernel
theorem dX11_least_82 : decode cX11_least 82 = .ok (.goto (-26), 3) := by decide +kernel
theorem dX11_least_85 : decode cX11_least 85 = .ok (.iconst (-1), 1) := by decide +kernel
theorem dX11_least_86 : decode cX11_least 86 = .ok (.ireturn, 1) := by decide +kernel
theorem dX11_most_0 : decode cX11_most 0 = .ok (.aload_n 0, 1) := by decide +kernel
theorem dX11_most_1 : decode cX11_most 1 = .ok (.iload_n 1, 1) := by decide +kernel
theorem dX11_most_2 : decode cX11_most 2 = .ok (.invokevirtual 130, 3) := by decide +kernel
theorem dX11_most_5 : decode cX11_most 5 = .ok (.ifCond .ne 6, 3) := by decide +kernel
theorem dX11_most_8 : decode cX11_most 8 = .ok (.bipush (-2), 2) := by decide +kernel
theorem dX11_most_10 : decode cX11_most 10 = .ok (.ireturn, 1) := by decide +kernel
theorem dX11_most_11 : decode cX11_most 11 = .ok (.aload_n 0, 1) := by decide +kernel
theorem dX11_most_12 : decode cX11_most 12 = .ok (.getfield 43, 3) := by decide +kernel
theorem dX11_most_15 : decode cX11_most 15 = .ok (.aload_n 0, 1) := by decide +kernel
theorem dX11_most_16 : decode cX11_most 16 = .ok (.getfield 26, 3) := by decide +kernel
theorem dX11_most_19 : decode cX11_most 19 = .ok (.iload_n 1, 1) := by decide +kernel
theorem dX11_most_20 : decode cX11_most 20 = .ok (.invokevirtual 258, 3) := by decide +kernel
theorem dX11_most_23 : decode cX11_most 23 = .ok (.aload_n 0, 1) := by decide +kernel
theorem dX11_most_24 : decode cX11_most 24 = .ok (.getfield 26, 3) := by decide +kernel
theorem dX11_most_27 : decode cX11_most 27 = .ok (.getfield 181, 3) := by decide +kernel
theorem dX11_most_30 : decode cX11_most 30 = .ok (.getfield 240, 3) := by decide +kernel
theorem dX11_most_33 : decode cX11_most 33 = .ok (.iload_n 1, 1) := by decide +kernel
theorem dX11_most_34 : decode cX11_most 34 = .ok (.iaload, 1) := by decide +kernel
theorem dX11_most_35 : decode cX11_most 35 = .ok (.istore_n 2, 1) := by decide +kernel
theorem dX11_most_36 : decode cX11_most 36 = .ok (.aload_n 0, 1) := by decide +kernel
theorem dX11_most_37 : decode cX11_most 37 = .ok (.getfield 43, 3) := by decide +kernel
theorem dX11_most_40 : decode cX11_most 40 = .ok (.invokevirtual 261, 3) := by decide +kernel
theorem dX11_most_43 : decode cX11_most 43 = .ok (.istore_n 3, 1) := by decide +kernel
theorem dX11_most_44 : decode cX11_most 44 = .ok (.iconst (-1), 1) := by decide +kernel
theorem dX11_most_45 : decode cX11_most 45 = .ok (.istore 4, 2) := by decide +kernel
theorem dX11_most_47 : decode cX11_most 47 = .ok (.iconst 0, 1) := by decide +kernel
theorem dX11_most_48 : decode cX11_most 48 = .ok (.istore 5, 2) := by decide +kernel
theorem dX11_most_50 : decode cX11_most 50 = .ok (.iload 5, 2) := by decide +kernel
theorem dX11_most_52 : decode cX11_most 52 = .ok (.aload_n 0, 1) := by decide +kernel
theorem dX11_most_53 : decode cX11_most 53 = .ok (.getfield 26, 3) := by decide +kernel
theorem dX11_most_56 : decode cX11_most 56 = .ok (.getfield 192, 3) := by decide +kernel
theorem dX11_most_59 : decode cX11_most 59 = .ok (.if_icmp .ge 117, 3) := by decide +kernel
theorem dX11_most_62 : decode cX11_most 62 = .ok (.bipush 99, 2) := by decide +kernel
theorem dX11_most_64 : decode cX11_most 64 = .ok (.aload_n 0, 1) := by decide +kernel
theorem dX11_most_65 : decode cX11_most 65 = .ok (.getfield 26, 3) := by decide +kernel
theorem dX11_most_68 : decode cX11_most 68 = .ok (.getfield 100, 3) := by decide +kernel
theorem dX11_most_71 : decode cX11_most 71 = .ok (.getfield 104, 3) := by decide +kernel
theorem dX11_most_74 : decode cX11_most 74 = .ok (.iload_n 2, 1) := by decide +kernel
theorem dX11_most_75 : decode cX11_most 75 = .ok (.iload 5, 2) := by decide +kernel
theorem dX11_most_77 : decode cX11_most 77 = .ok (.invokestatic 110, 3) := by decide +kernel
theorem dX11_most_80 : decode cX11_most 80 = .ok (.iaload, 1) := by decide +kernel
theorem dX11_most_81 : decode cX11_most 81 = .ok (.aload_n 0, 1) := by decide +kernel
theorem dX11_most_82 : decode cX11_most 82 = .ok (.getfield 26, 3) := by decide +kernel
theorem dX11_most_85 : decode cX11_most 85 = .ok (.getfield 284, 3) := by decide +kernel
theorem dX11_most_88 : decode cX11_most 88 = .ok (.iadd, 1) := by decide +kernel
theorem dX11_most_89 : decode cX11_most 89 = .ok (.invokestatic 287, 3) := by decide +kernel
theorem dX11_most_92 : decode cX11_most 92 = .ok (.istore 6, 2) := by decide +kernel
theorem dX11_most_94 : decode cX11_most 94 = .ok (.iconst 0, 1) := by decide +kernel
theorem dX11_most_95 : decode cX11_most 95 = .ok (.istore 7, 2) := by decide +kernel
theorem dX11_most_97 : decode cX11_most 97 = .ok (.iload 7, 2) := by decide +kernel
theorem dX11_most_99 : decode cX11_most 99 = .ok (.iload 6, 2) := by decide +kernel
theorem dX11_most_101 : decode cX11_most 101 = .ok (.if_icmp .gt 69, 3) := by decide +kernel
theorem dX11_most_104 : decode cX11_most 104 = .ok (.iload 7, 2) := by decide +kernel
theorem dX11_most_106 : decode cX11_most 106 = .ok (.iload 6, 2) := by decide +kernel
theorem dX11_most_108 : decode cX11_most 108 = .ok (.if_icmp .eq 26, 3) := by decide +kernel
theorem dX11_most_111 : decode cX11_most 111 = .ok (.aload_n 0, 1) := by decide +kernel
theorem dX11_most_112 : decode cX11_most 112 = .ok (.iload_n 1, 1) := by decide +kernel
theorem dX11_most_113 : decode cX11_most 113 = .ok (.iload 5, 2) := by decide +kernel
theorem dX11_most_115 : decode cX11_most 115 = .ok (.iload 7, 2) := by decide +kernel
theorem dX11_most_117 : decode cX11_most 117 = .ok (.iconst 1, 1) := by decide +kernel
theorem dX11_most_118 : decode cX11_most 118 = .ok (.iadd, 1) := by decide +kernel
theorem dX11_most_119 : decode cX11_most 119 = .ok (.invokevirtual 300, 3) := by decide +kernel
theorem dX11_most_122 : decode cX11_most 122 = .ok (.aload_n 0, 1) := by decide +kernel
theorem dX11_most_123 : decode cX11_most 123 = .ok (.iload_n 1, 1) := by decide +kernel
theorem dX11_most_124 : decode cX11_most 124 = .ok (.iload 5, 2) := by decide +kernel
theorem dX11_most_126 : decode cX11_most 126 = .ok (.iload 7, 2) := by decide +kernel
theorem dX11_most_128 : decode cX11_most 128 = .ok (.invokevirtual 300, 3) := by decide +kernel
theorem dX11_most_131 : decode cX11_most 131 = .ok (.if_icmp .ge 33, 3) := by decide +kernel
theorem dX11_most_134 : decode cX11_most 134 = .ok (.aload_n 0, 1) := by decide +kernel
theorem dX11_most_135 : decode cX11_most 135 = .ok (.iload_n 1, 1) := by decide +kernel
theorem dX11_most_136 : decode cX11_most 136 = .ok (.iload 5, 2) := by decide +kernel
theorem dX11_most_138 : decode cX11_most 138 = .ok (.iload 7, 2) := by decide +kernel
theorem dX11_most_140 : decode cX11_most 140 = .ok (.invokevirtual 297, 3) := by decide +kernel
theorem dX11_most_143 : decode cX11_most 143 = .ok (.istore 8, 2) := by decide +kernel
theorem dX11_most_145 : decode cX11_most 145 = .ok (.iload 8, 2) := by decide +kernel
theorem dX11_most_147 : decode cX11_most 147 = .ok (.iload_n 3, 1) := by decide +kernel
theorem dX11_most_148 : decode cX11_most 148 = .ok (.if_icmp .le 16, 3) := by decide +kernel
theorem dX11_most_151 : decode cX11_most 151 = .ok (.iload 8, 2) := by decide +kernel
theorem dX11_most_153 : decode cX11_most 153 = .ok (.istore_n 3, 1) := by decide +kernel
theorem dX11_most_154 : decode cX11_most 154 = .ok (.bipush 100, 2) := by decide +kernel
theorem dX11_most_156 : decode cX11_most 156 = .ok (.iload 5, 2) := by decide +kernel
theorem dX11_most_158 : decode cX11_most 158 = .ok (.imul, 1) := by decide +kernel
theorem dX11_most_159 : decode cX11_most 159 = .ok (.iload 7, 2) := by decide +kernel
theorem dX11_most_161 : decode cX11_most 161 = .ok (.iadd, 1) := by decide +kernel
theorem dX11_most_162 : decode cX11_most 162 = .ok (.istore 4, 2) := by decide +kernel
theorem dX11_most_164 : decode cX11_most 164 = .ok (.iinc 7 1, 3) := by decide +kernel
theorem dX11_most_167 : decode cX11_most 167 = .ok (.goto (-70), 3) := by decide +kernel
theorem dX11_most_170 : decode cX11_most 170 = .ok (.iinc 5 1, 3) := by decide +kernel
theorem dX11_most_173 : decode cX11_most 173 = .ok (.goto (-123), 3) := by decide +kernel
theorem dX11_most_176 : decode cX11_most 176 = .ok (.iload 4, 2) := by decide +kernel
theorem dX11_most_178 : decode cX11_most 178 = .ok (.ireturn, 1) := by decide +kernel
theorem dX11_leap_0 : decode cX11_leap 0 = .ok (.aload_n 0, 1) := by decide +kernel
theorem dX11_leap_1 : decode cX11_leap 1 = .ok (.iload_n 1, 1) := by decide +kernel
theorem dX11_leap_2 : decode cX11_leap 2 = .ok (.iload_n 2, 1) := by decide +kernel
theorem dX11_leap_3 : decode cX11_leap 3 = .ok (.invokevirtual 96, 3) := by decide +kernel
theorem dX11_leap_6 : decode cX11_leap 6 = .ok (.ifCond .ne 6, 3) := by decide +kernel
theorem dX11_leap_9 : decode cX11_leap 9 = .ok (.bipush (-2), 2) := by decide +kernel
theorem dX11_leap_11 : decode cX11_leap 11 = .ok (.ireturn, 1) := by decide +kernel
theorem dX11_leap_12 : decode cX11_leap 12 = .ok (.aload_n 0, 1) := by decide +kernel
theorem dX11_leap_13 : decode cX11_leap 13 = .ok (.getfield 26, 3) := by decide +kernel
theorem dX11_leap_16 : decode cX11_leap 16 = .ok (.getfield 100, 3) := by decide +kernel
theorem dX11_leap_19 : decode cX11_leap 19 = .ok (.getfield 104, 3) := by decide +kernel
theorem dX11_leap_22 : decode cX11_leap 22 = .ok (.iload_n 1, 1) := by decide +kernel
theorem dX11_leap_23 : decode cX11_leap 23 = .ok (.iload_n 2, 1) := by decide +kernel
theorem dX11_leap_24 : decode cX11_leap 24 = .ok (.invokestatic 110, 3) := by decide +kernel
theorem dX11_leap_27 : decode cX11_leap 27 = .ok (.iaload, 1) := by decide +kernel
theorem dX11_leap_28 : decode cX11_leap 28 = .ok (.istore 4, 2) := by decide +kernel
theorem dX11_leap_30 : decode cX11_leap 30 = .ok (.aload_n 0, 1) := by decide +kernel
theorem dX11_leap_31 : decode cX11_leap 31 = .ok (.getfield 26, 3) := by decide +kernel
theorem dX11_leap_34 : decode cX11_leap 34 = .ok (.getfield 100, 3) := by decide +kernel
theorem dX11_leap_37 : decode cX11_leap 37 = .ok (.getfield 104, 3) := by decide +kernel
theorem dX11_leap_40 : decode cX11_leap 40 = .ok (.iload_n 1, 1) := by decide +kernel
theorem dX11_leap_41 : decode cX11_leap 41 = .ok (.iload_n 2, 1) := by decide +kernel
theorem dX11_leap_42 : decode cX11_leap 42 = .ok (.iconst 1, 1) := by decide +kernel
theorem dX11_leap_43 : decode cX11_leap 43 = .ok (.iadd, 1) := by decide +kernel
theorem dX11_leap_44 : decode cX11_leap 44 = .ok (.aload_n 0, 1) := by decide +kernel
theorem dX11_leap_45 : decode cX11_leap 45 = .ok (.getfield 26, 3) := by decide +kernel
theorem dX11_leap_48 : decode cX11_leap 48 = .ok (.getfield 192, 3) := by decide +kernel
theorem dX11_leap_51 : decode cX11_leap 51 = .ok (.if_icmp .ge 9, 3) := by decide +kernel
theorem dX11_leap_54 : decode cX11_leap 54 = .ok (.iload_n 2, 1) := by decide +kernel
theorem dX11_leap_55 : decode cX11_leap 55 = .ok (.iconst 1, 1) := by decide +kernel
theorem dX11_leap_56 : decode cX11_leap 56 = .ok (.iadd, 1) := by decide +kernel
theorem dX11_leap_57 : decode cX11_leap 57 = .ok (.goto 4, 3) := by decide +kernel
theorem dX11_leap_60 : decode cX11_leap 60 = .ok (.iconst 0, 1) := by decide +kernel
theorem dX11_leap_61 : decode cX11_leap 61 = .ok (.invokestatic 110, 3) := by decide +kernel
theorem dX11_leap_64 : decode cX11_leap 64 = .ok (.iaload, 1) := by decide +kernel
theorem dX11_leap_65 : decode cX11_leap 65 = .ok (.istore 5, 2) := by decide +kernel
theorem dX11_leap_67 : decode cX11_leap 67 = .ok (.iload_n 3, 1) := by decide +kernel
theorem dX11_leap_68 : decode cX11_leap 68 = .ok (.tableswitch 42 0 2 #[28, 31, 34], 28) := by decide +kernel
theorem dX11_leap_96 : decode cX11_leap 96 = .ok (.iload 4, 2) := by decide +kernel
theorem dX11_leap_98 : decode cX11_leap 98 = .ok (.ireturn, 1) := by decide +kernel
theorem dX11_leap_99 : decode cX11_leap 99 = .ok (.iload 5, 2) := by decide +kernel
theorem dX11_leap_101 : decode cX11_leap 101 = .ok (.ireturn, 1) := by decide +kernel
theorem dX11_leap_102 : decode cX11_leap 102 = .ok (.iload 4, 2) := by decide +kernel
theorem dX11_leap_104 : decode cX11_leap 104 = .ok (.iload 5, 2) := by decide +kernel
theorem dX11_leap_106 : decode cX11_leap 106 = .ok (.iadd, 1) := by decide +kernel
theorem dX11_leap_107 : decode cX11_leap 107 = .ok (.iconst 2, 1) := by decide +kernel
theorem dX11_leap_108 : decode cX11_leap 108 = .ok (.idiv, 1) := by decide +kernel
theorem dX11_leap_109 : decode cX11_leap 109 = .ok (.ireturn, 1) := by decide +kernel
theorem dX11_leap_110 : decode cX11_leap 110 = .ok (.bipush (-2), 2) := by decide +kernel
theorem dX11_leap_112 : decode cX11_leap 112 = .ok (.ireturn, 1) := by decide +kernel
theorem dX11_passingGain_0 : decode cX11_passingGain 0 = .ok (.aload_n 0, 1) := by decide +kernel
theorem dX11_passingGain_1 : decode cX11_passingGain 1 = .ok (.getfield 26, 3) := by decide +kernel
theorem dX11_passingGain_4 : decode cX11_passingGain 4 = .ok (.getfield 100, 3) := by decide +kernel
theorem dX11_passingGain_7 : decode cX11_passingGain 7 = .ok (.getfield 104, 3) := by decide +kernel
theorem dX11_passingGain_10 : decode cX11_passingGain 10 = .ok (.astore 5, 2) := by decide +kernel
theorem dX11_passingGain_12 : decode cX11_passingGain 12 = .ok (.aload_n 0, 1) := by decide +kernel
theorem dX11_passingGain_13 : decode cX11_passingGain 13 = .ok (.getfield 26, 3) := by decide +kernel
theorem dX11_passingGain_16 : decode cX11_passingGain 16 = .ok (.getfield 100, 3) := by decide +kernel
theorem dX11_passingGain_19 : decode cX11_passingGain 19 = .ok (.getfield 114, 3) := by decide +kernel
theorem dX11_passingGain_22 : decode cX11_passingGain 22 = .ok (.astore 6, 2) := by decide +kernel
theorem dX11_passingGain_24 : decode cX11_passingGain 24 = .ok (.iload_n 2, 1) := by decide +kernel
theorem dX11_passingGain_25 : decode cX11_passingGain 25 = .ok (.ifCond .ne 24, 3) := by decide +kernel
theorem dX11_passingGain_28 : decode cX11_passingGain 28 = .ok (.aload 6, 2) := by decide +kernel
theorem dX11_passingGain_30 : decode cX11_passingGain 30 = .ok (.iload_n 1, 1) := by decide +kernel
theorem dX11_passingGain_31 : decode cX11_passingGain 31 = .ok (.iload 4, 2) := by decide +kernel
theorem dX11_passingGain_33 : decode cX11_passingGain 33 = .ok (.invokestatic 110, 3) := by decide +kernel
theorem dX11_passingGain_36 : decode cX11_passingGain 36 = .ok (.iaload, 1) := by decide +kernel
theorem dX11_passingGain_37 : decode cX11_passingGain 37 = .ok (.aload 5, 2) := by decide +kernel
theorem dX11_passingGain_39 : decode cX11_passingGain 39 = .ok (.iload_n 1, 1) := by decide +kernel
theorem dX11_passingGain_40 : decode cX11_passingGain 40 = .ok (.iload_n 3, 1) := by decide +kernel
theorem dX11_passingGain_41 : decode cX11_passingGain 41 = .ok (.invokestatic 110, 3) := by decide +kernel
theorem dX11_passingGain_44 : decode cX11_passingGain 44 = .ok (.iaload, 1) := by decide +kernel
theorem dX11_passingGain_45 : decode cX11_passingGain 45 = .ok (.isub, 1) := by decide +kernel
theorem dX11_passingGain_46 : decode cX11_passingGain 46 = .ok (.goto 21, 3) := by decide +kernel
theorem dX11_passingGain_49 : decode cX11_passingGain 49 = .ok (.aload 5, 2) := by decide +kernel
theorem dX11_passingGain_51 : decode cX11_passingGain 51 = .ok (.iload_n 1, 1) := by decide +kernel
theorem dX11_passingGain_52 : decode cX11_passingGain 52 = .ok (.iload 4, 2) := by decide +kernel
theorem dX11_passingGain_54 : decode cX11_passingGain 54 = .ok (.invokestatic 110, 3) := by decide +kernel
theorem dX11_passingGain_57 : decode cX11_passingGain 57 = .ok (.iaload, 1) := by decide +kernel
theorem dX11_passingGain_58 : decode cX11_passingGain 58 = .ok (.aload 6, 2) := by decide +kernel
theorem dX11_passingGain_60 : decode cX11_passingGain 60 = .ok (.iload_n 1, 1) := by decide +kernel
theorem dX11_passingGain_61 : decode cX11_passingGain 61 = .ok (.iload_n 3, 1) := by decide +kernel
theorem dX11_passingGain_62 : decode cX11_passingGain 62 = .ok (.invokestatic 110, 3) := by decide +kernel
theorem dX11_passingGain_65 : decode cX11_passingGain 65 = .ok (.iaload, 1) := by decide +kernel
theorem dX11_passingGain_66 : decode cX11_passingGain 66 = .ok (.isub, 1) := by decide +kernel
theorem dX11_passingGain_67 : decode cX11_passingGain 67 = .ok (.ireturn, 1) := by decide +kernel
theorem dX11_passingPart_0 : decode cX11_passingPart 0 = .ok (.iload_n 1, 1) := by decide +kernel
theorem dX11_passingPart_1 : decode cX11_passingPart 1 = .ok (.lookupswitch 40 #[(1, 27), (2, 35)], 27) := by decide +kernel
theorem dX11_passingPart_28 : decode cX11_passingPart 28 = .ok (.iload_n 0, 1) := by decide +kernel
theorem dX11_passingPart_29 : decode cX11_passingPart 29 = .ok (.bipush 20, 2) := by decide +kernel
theorem dX11_passingPart_31 : decode cX11_passingPart 31 = .ok (.idiv, 1) := by decide +kernel
theorem dX11_passingPart_32 : decode cX11_passingPart 32 = .ok (.bipush 20, 2) := by decide +kernel
theorem dX11_passingPart_34 : decode cX11_passingPart 34 = .ok (.irem, 1) := by decide +kernel
theorem dX11_passingPart_35 : decode cX11_passingPart 35 = .ok (.ireturn, 1) := by decide +kernel
theorem dX11_passingPart_36 : decode cX11_passingPart 36 = .ok (.iload_n 0, 1) := by decide +kernel
theorem dX11_passingPart_37 : decode cX11_passingPart 37 = .ok (.bipush 20, 2) := by decide +kernel
theorem dX11_passingPart_39 : decode cX11_passingPart 39 = .ok (.irem, 1) := by decide +kernel
theorem dX11_passingPart_40 : decode cX11_passingPart 40 = .ok (.ireturn, 1) := by decide +kernel
theorem dX11_passingPart_41 : decode cX11_passingPart 41 = .ok (.iload_n 0, 1) := by decide +kernel
theorem dX11_passingPart_42 : decode cX11_passingPart 42 = .ok (.sipush 400, 3) := by decide +kernel
theorem dX11_passingPart_45 : decode cX11_passingPart 45 = .ok (.idiv, 1) := by decide +kernel
theorem dX11_passingPart_46 : decode cX11_passingPart 46 = .ok (.ireturn, 1) := by decide +kernel
theorem dX11_passing_0 : decode cX11_passing 0 = .ok (.aload_n 0, 1) := by decide +kernel
theorem dX11_passing_1 : decode cX11_passing 1 = .ok (.iload_n 1, 1) := by decide +kernel
theorem dX11_passing_2 : decode cX11_passing 2 = .ok (.invokevirtual 303, 3) := by decide +kernel
theorem dX11_passing_5 : decode cX11_passing 5 = .ok (.ifCond .eq 12, 3) := by decide +kernel
theorem dX11_passing_8 : decode cX11_passing 8 = .ok (.iload_n 2, 1) := by decide +kernel
theorem dX11_passing_9 : decode cX11_passing 9 = .ok (.iconst 0, 1) := by decide +kernel
theorem dX11_passing_10 : decode cX11_passing 10 = .ok (.iconst 3, 1) := by decide +kernel
theorem dX11_passing_11 : decode cX11_passing 11 = .ok (.invokestatic 213, 3) := by decide +kernel
theorem dX11_passing_14 : decode cX11_passing 14 = .ok (.ifCond .ne 6, 3) := by decide +kernel
theorem dX11_passing_17 : decode cX11_passing 17 = .ok (.bipush (-2), 2) := by decide +kernel
theorem dX11_passing_19 : decode cX11_passing 19 = .ok (.ireturn, 1) := by decide +kernel
theorem dX11_passing_20 : decode cX11_passing 20 = .ok (.iconst 0, 1) := by decide +kernel
theorem dX11_passing_21 : decode cX11_passing 21 = .ok (.istore_n 3, 1) := by decide +kernel
theorem dX11_passing_22 : decode cX11_passing 22 = .ok (.iconst (-1), 1) := by decide +kernel
theorem dX11_passing_23 : decode cX11_passing 23 = .ok (.istore 4, 2) := by decide +kernel
theorem dX11_passing_25 : decode cX11_passing 25 = .ok (.iconst 0, 1) := by decide +kernel
theorem dX11_passing_26 : decode cX11_passing 26 = .ok (.istore 5, 2) := by decide +kernel
theorem dX11_passing_28 : decode cX11_passing 28 = .ok (.iload 5, 2) := by decide +kernel
theorem dX11_passing_30 : decode cX11_passing 30 = .ok (.iconst 1, 1) := by decide +kernel
theorem dX11_passing_31 : decode cX11_passing 31 = .ok (.if_icmp .gt 114, 3) := by decide +kernel
theorem dX11_passing_34 : decode cX11_passing 34 = .ok (.iconst 0, 1) := by decide +kernel
theorem dX11_passing_35 : decode cX11_passing 35 = .ok (.istore 6, 2) := by decide +kernel
theorem dX11_passing_37 : decode cX11_passing 37 = .ok (.iload 6, 2) := by decide +kernel
theorem dX11_passing_39 : decode cX11_passing 39 = .ok (.aload_n 0, 1) := by decide +kernel
theorem dX11_passing_40 : decode cX11_passing 40 = .ok (.getfield 26, 3) := by decide +kernel
theorem dX11_passing_43 : decode cX11_passing 43 = .ok (.getfield 192, 3) := by decide +kernel
theorem dX11_passing_46 : decode cX11_passing 46 = .ok (.if_icmp .ge 93, 3) := by decide +kernel
theorem dX11_passing_49 : decode cX11_passing 49 = .ok (.aload_n 0, 1) := by decide +kernel
theorem dX11_passing_50 : decode cX11_passing 50 = .ok (.getfield 26, 3) := by decide +kernel
theorem dX11_passing_53 : decode cX11_passing 53 = .ok (.getfield 192, 3) := by decide +kernel
theorem dX11_passing_56 : decode cX11_passing 56 = .ok (.iconst 1, 1) := by decide +kernel
theorem dX11_passing_57 : decode cX11_passing 57 = .ok (.isub, 1) := by decide +kernel
theorem dX11_passing_58 : decode cX11_passing 58 = .ok (.iload 6, 2) := by decide +kernel
theorem dX11_passing_60 : decode cX11_passing 60 = .ok (.aload_n 0, 1) := by decide +kernel
theorem dX11_passing_61 : decode cX11_passing 61 = .ok (.getfield 26, 3) := by decide +kernel
theorem dX11_passing_64 : decode cX11_passing 64 = .ok (.getfield 100, 3) := by decide +kernel
theorem dX11_passing_67 : decode cX11_passing 67 = .ok (.getfield 306, 3) := by decide +kernel
theorem dX11_passing_70 : decode cX11_passing 70 = .ok (.iload_n 1, 1) := by decide +kernel
theorem dX11_passing_71 : decode cX11_passing 71 = .ok (.iaload, 1) := by decide +kernel
theorem dX11_passing_72 : decode cX11_passing 72 = .ok (.iadd, 1) := by decide +kernel
theorem dX11_passing_73 : decode cX11_passing 73 = .ok (.invokestatic 287, 3) := by decide +kernel
theorem dX11_passing_76 : decode cX11_passing 76 = .ok (.istore 7, 2) := by decide +kernel
theorem dX11_passing_78 : decode cX11_passing 78 = .ok (.iload 6, 2) := by decide +kernel
theorem dX11_passing_80 : decode cX11_passing 80 = .ok (.istore 8, 2) := by decide +kernel
theorem dX11_passing_82 : decode cX11_passing 82 = .ok (.iload 8, 2) := by decide +kernel
theorem dX11_passing_84 : decode cX11_passing 84 = .ok (.iload 7, 2) := by decide +kernel
theorem dX11_passing_86 : decode cX11_passing 86 = .ok (.if_icmp .gt 47, 3) := by decide +kernel
theorem dX11_passing_89 : decode cX11_passing 89 = .ok (.aload_n 0, 1) := by decide +kernel
theorem dX11_passing_90 : decode cX11_passing 90 = .ok (.iload_n 1, 1) := by decide +kernel
theorem dX11_passing_91 : decode cX11_passing 91 = .ok (.iload 5, 2) := by decide +kernel
theorem dX11_passing_93 : decode cX11_passing 93 = .ok (.iload 6, 2) := by decide +kernel
theorem dX11_passing_95 : decode cX11_passing 95 = .ok (.iload 8, 2) := by decide +kernel
theorem dX11_passing_97 : decode cX11_passing 97 = .ok (.invokevirtual 308, 3) := by decide +kernel
theorem dX11_passing_100 : decode cX11_passing 100 = .ok (.istore 9, 2) := by decide +kernel
theorem dX11_passing_102 : decode cX11_passing 102 = .ok (.iload 9, 2) := by decide +kernel
theorem dX11_passing_104 : decode cX11_passing 104 = .ok (.iload_n 3, 1) := by decide +kernel
theorem dX11_passing_105 : decode cX11_passing 105 = .ok (.if_icmp .le 22, 3) := by decide +kernel
theorem dX11_passing_108 : decode cX11_passing 108 = .ok (.iload 9, 2) := by decide +kernel
theorem dX11_passing_110 : decode cX11_passing 110 = .ok (.istore_n 3, 1) := by decide +kernel
theorem dX11_passing_111 : decode cX11_passing 111 = .ok (.iload 5, 2) := by decide +kernel
theorem dX11_passing_113 : decode cX11_passing 113 = .ok (.bipush 20, 2) := by decide +kernel
theorem dX11_passing_115 : decode cX11_passing 115 = .ok (.imul, 1) := by decide +kernel
theorem dX11_passing_116 : decode cX11_passing 116 = .ok (.iload 6, 2) := by decide +kernel
theorem dX11_passing_118 : decode cX11_passing 118 = .ok (.iadd, 1) := by decide +kernel
theorem dX11_passing_119 : decode cX11_passing 119 = .ok (.bipush 20, 2) := by decide +kernel
theorem dX11_passing_121 : decode cX11_passing 121 = .ok (.imul, 1) := by decide +kernel
theorem dX11_passing_122 : decode cX11_passing 122 = .ok (.iload 8, 2) := by decide +kernel
theorem dX11_passing_124 : decode cX11_passing 124 = .ok (.iadd, 1) := by decide +kernel
theorem dX11_passing_125 : decode cX11_passing 125 = .ok (.istore 4, 2) := by decide +kernel
theorem dX11_passing_127 : decode cX11_passing 127 = .ok (.iinc 8 1, 3) := by decide +kernel
theorem dX11_passing_130 : decode cX11_passing 130 = .ok (.goto (-48), 3) := by decide +kernel
theorem dX11_passing_133 : decode cX11_passing 133 = .ok (.iinc 6 1, 3) := by decide +kernel
theorem dX11_passing_136 : decode cX11_passing 136 = .ok (.goto (-99), 3) := by decide +kernel
theorem dX11_passing_139 : decode cX11_passing 139 = .ok (.iinc 5 1, 3) := by decide +kernel
theorem dX11_passing_142 : decode cX11_passing 142 = .ok (.goto (-114), 3) := by decide +kernel
theorem dX11_passing_145 : decode cX11_passing 145 = .ok (.iload_n 2, 1) := by decide +kernel
theorem dX11_passing_146 : decode cX11_passing 146 = .ok (.ifCond .eq 9, 3) := by decide +kernel
theorem dX11_passing_149 : decode cX11_passing 149 = .ok (.iload 4, 2) := by decide +kernel
theorem dX11_passing_151 : decode cX11_passing 151 = .ok (.iconst (-1), 1) := by decide +kernel
theorem dX11_passing_152 : decode cX11_passing 152 = .ok (.if_icmp .ne 13, 3) := by decide +kernel
theorem dX11_passing_155 : decode cX11_passing 155 = .ok (.iload_n 2, 1) := by decide +kernel
theorem dX11_passing_156 : decode cX11_passing 156 = .ok (.ifCond .ne 7, 3) := by decide +kernel
theorem dX11_passing_159 : decode cX11_passing 159 = .ok (.iload_n 3, 1) := by decide +kernel
theorem dX11_passing_160 : decode cX11_passing 160 = .ok (.goto 4, 3) := by decide +kernel
theorem dX11_passing_163 : decode cX11_passing 163 = .ok (.iconst (-1), 1) := by decide +kernel
theorem dX11_passing_164 : decode cX11_passing 164 = .ok (.ireturn, 1) := by decide +kernel
theorem dX11_passing_165 : decode cX11_passing 165 = .ok (.iload 4, 2) := by decide +kernel
theorem dX11_passing_167 : decode cX11_passing 167 = .ok (.iload_n 2, 1) := by decide +kernel
theorem dX11_passing_168 : decode cX11_passing 168 = .ok (.invokestatic 311, 3) := by decide +kernel
theorem dX11_passing_171 : decode cX11_passing 171 = .ok (.ireturn, 1) := by decide +kernel
theorem dX11_like_0 : decode cX11_like 0 = .ok (.aload_n 0, 1) := by decide +kernel
theorem dX11_like_1 : decode cX11_like 1 = .ok (.iload_n 1, 1) := by decide +kernel
theorem dX11_like_2 : decode cX11_like 2 = .ok (.invokevirtual 303, 3) := by decide +kernel
theorem dX11_like_5 : decode cX11_like 5 = .ok (.ifCond .eq 24, 3) := by decide +kernel
theorem dX11_like_8 : decode cX11_like 8 = .ok (.aload_n 0, 1) := by decide +kernel
theorem dX11_like_9 : decode cX11_like 9 = .ok (.iload_n 2, 1) := by decide +kernel
theorem dX11_like_10 : decode cX11_like 10 = .ok (.invokevirtual 303, 3) := by decide +kernel
theorem dX11_like_13 : decode cX11_like 13 = .ok (.ifCond .eq 16, 3) := by decide +kernel
theorem dX11_like_16 : decode cX11_like 16 = .ok (.aload_n 0, 1) := by decide +kernel
theorem dX11_like_17 : decode cX11_like 17 = .ok (.iload 4, 2) := by decide +kernel
theorem dX11_like_19 : decode cX11_like 19 = .ok (.invokevirtual 303, 3) := by decide +kernel
theorem dX11_like_22 : decode cX11_like 22 = .ok (.ifCond .eq 7, 3) := by decide +kernel
theorem dX11_like_25 : decode cX11_like 25 = .ok (.iconst 1, 1) := by decide +kernel
theorem dX11_like_26 : decode cX11_like 26 = .ok (.goto 4, 3) := by decide +kernel
theorem dX11_like_29 : decode cX11_like 29 = .ok (.iconst 0, 1) := by decide +kernel
theorem dX11_like_30 : decode cX11_like 30 = .ok (.istore 6, 2) := by decide +kernel
theorem dX11_like_32 : decode cX11_like 32 = .ok (.iload 6, 2) := by decide +kernel
theorem dX11_like_34 : decode cX11_like 34 = .ok (.ifCond .eq 31, 3) := by decide +kernel
theorem dX11_like_37 : decode cX11_like 37 = .ok (.iload_n 3, 1) := by decide +kernel
theorem dX11_like_38 : decode cX11_like 38 = .ok (.iconst 0, 1) := by decide +kernel
theorem dX11_like_39 : decode cX11_like 39 = .ok (.bipush 9, 2) := by decide +kernel
theorem dX11_like_41 : decode cX11_like 41 = .ok (.invokestatic 213, 3) := by decide +kernel
theorem dX11_like_44 : decode cX11_like 44 = .ok (.ifCond .eq 21, 3) := by decide +kernel
theorem dX11_like_47 : decode cX11_like 47 = .ok (.iload 5, 2) := by decide +kernel
theorem dX11_like_49 : decode cX11_like 49 = .ok (.iconst 0, 1) := by decide +kernel
theorem dX11_like_50 : decode cX11_like 50 = .ok (.bipush 9, 2) := by decide +kernel
theorem dX11_like_52 : decode cX11_like 52 = .ok (.invokestatic 213, 3) := by decide +kernel
theorem dX11_like_55 : decode cX11_like 55 = .ok (.ifCond .eq 10, 3) := by decide +kernel
theorem dX11_like_58 : decode cX11_like 58 = .ok (.iload_n 3, 1) := by decide +kernel
theorem dX11_like_59 : decode cX11_like 59 = .ok (.iload 5, 2) := by decide +kernel
theorem dX11_like_61 : decode cX11_like 61 = .ok (.iadd, 1) := by decide +kernel
theorem dX11_like_62 : decode cX11_like 62 = .ok (.ifCond .ne 6, 3) := by decide +kernel
theorem dX11_like_65 : decode cX11_like 65 = .ok (.bipush (-2), 2) := by decide +kernel
theorem dX11_like_67 : decode cX11_like 67 = .ok (.ireturn, 1) := by decide +kernel
theorem dX11_like_68 : decode cX11_like 68 = .ok (.iconst 0, 1) := by decide +kernel
theorem dX11_like_69 : decode cX11_like 69 = .ok (.istore 7, 2) := by decide +kernel
theorem dX11_like_71 : decode cX11_like 71 = .ok (.aload_n 0, 1) := by decide +kernel
theorem dX11_like_72 : decode cX11_like 72 = .ok (.getfield 26, 3) := by decide +kernel
theorem dX11_like_75 : decode cX11_like 75 = .ok (.getfield 100, 3) := by decide +kernel
theorem dX11_like_78 : decode cX11_like 78 = .ok (.getfield 104, 3) := by decide +kernel
theorem dX11_like_81 : decode cX11_like 81 = .ok (.astore 8, 2) := by decide +kernel
theorem dX11_like_83 : decode cX11_like 83 = .ok (.iconst 0, 1) := by decide +kernel
theorem dX11_like_84 : decode cX11_like 84 = .ok (.istore 9, 2) := by decide +kernel
theorem dX11_like_86 : decode cX11_like 86 = .ok (.iload 9, 2) := by decide +kernel
theorem dX11_like_88 : decode cX11_like 88 = .ok (.aload_n 0, 1) := by decide +kernel
theorem dX11_like_89 : decode cX11_like 89 = .ok (.getfield 26, 3) := by decide +kernel
theorem dX11_like_92 : decode cX11_like 92 = .ok (.getfield 192, 3) := by decide +kernel
theorem dX11_like_95 : decode cX11_like 95 = .ok (.if_icmp .ge 66, 3) := by decide +kernel
theorem dX11_like_98 : decode cX11_like 98 = .ok (.iload_n 3, 1) := by decide +kernel
theorem dX11_like_99 : decode cX11_like 99 = .ok (.aload 8, 2) := by decide +kernel
theorem dX11_like_101 : decode cX11_like 101 = .ok (.iload_n 2, 1) := by decide +kernel
theorem dX11_like_102 : decode cX11_like 102 = .ok (.iload 9, 2) := by decide +kernel
theorem dX11_like_104 : decode cX11_like 104 = .ok (.invokestatic 110, 3) := by decide +kernel
theorem dX11_like_107 : decode cX11_like 107 = .ok (.iaload, 1) := by decide +kernel
theorem dX11_like_108 : decode cX11_like 108 = .ok (.imul, 1) := by decide +kernel
theorem dX11_like_109 : decode cX11_like 109 = .ok (.iload 5, 2) := by decide +kernel
theorem dX11_like_111 : decode cX11_like 111 = .ok (.aload 8, 2) := by decide +kernel
theorem dX11_like_113 : decode cX11_like 113 = .ok (.iload 4, 2) := by decide +kernel
theorem dX11_like_115 : decode cX11_like 115 = .ok (.iload 9, 2) := by decide +kernel
theorem dX11_like_117 : decode cX11_like 117 = .ok (.invokestatic 110, 3) := by decide +kernel
theorem dX11_like_120 : decode cX11_like 120 = .ok (.iaload, 1) := by decide +kernel
theorem dX11_like_121 : decode cX11_like 121 = .ok (.imul, 1) := by decide +kernel
theorem dX11_like_122 : decode cX11_like 122 = .ok (.iadd, 1) := by decide +kernel
theorem dX11_like_123 : decode cX11_like 123 = .ok (.istore 10, 2) := by decide +kernel
theorem dX11_like_125 : decode cX11_like 125 = .ok (.aload 8, 2) := by decide +kernel
theorem dX11_like_127 : decode cX11_like 127 = .ok (.iload_n 1, 1) := by decide +kernel
theorem dX11_like_128 : decode cX11_like 128 = .ok (.iload 9, 2) := by decide +kernel
theorem dX11_like_130 : decode cX11_like 130 = .ok (.invokestatic 110, 3) := by decide +kernel
theorem dX11_like_133 : decode cX11_like 133 = .ok (.iload 10, 2) := by decide +kernel
theorem dX11_like_135 : decode cX11_like 135 = .ok (.iload_n 3, 1) := by decide +kernel
theorem dX11_like_136 : decode cX11_like 136 = .ok (.iload 5, 2) := by decide +kernel
theorem dX11_like_138 : decode cX11_like 138 = .ok (.iadd, 1) := by decide +kernel
theorem dX11_like_139 : decode cX11_like 139 = .ok (.idiv, 1) := by decide +kernel
theorem dX11_like_140 : decode cX11_like 140 = .ok (.iastore, 1) := by decide +kernel
theorem dX11_like_141 : decode cX11_like 141 = .ok (.iload 7, 2) := by decide +kernel
theorem dX11_like_143 : decode cX11_like 143 = .ok (.aload 8, 2) := by decide +kernel
theorem dX11_like_145 : decode cX11_like 145 = .ok (.iload_n 1, 1) := by decide +kernel
theorem dX11_like_146 : decode cX11_like 146 = .ok (.iload 9, 2) := by decide +kernel
theorem dX11_like_148 : decode cX11_like 148 = .ok (.invokestatic 110, 3) := by decide +kernel
theorem dX11_like_151 : decode cX11_like 151 = .ok (.iaload, 1) := by decide +kernel
theorem dX11_like_152 : decode cX11_like 152 = .ok (.iadd, 1) := by decide +kernel
theorem dX11_like_153 : decode cX11_like 153 = .ok (.istore 7, 2) := by decide +kernel
theorem dX11_like_155 : decode cX11_like 155 = .ok (.iinc 9 1, 3) := by decide +kernel
theorem dX11_like_158 : decode cX11_like 158 = .ok (.goto (-72), 3) := by decide +kernel
theorem dX11_like_161 : decode cX11_like 161 = .ok (.aload_n 0, 1) := by decide +kernel
theorem dX11_like_162 : decode cX11_like 162 = .ok (.iconst 0, 1) := by decide +kernel
theorem dX11_like_163 : decode cX11_like 163 = .ok (.putfield 64, 3) := by decide +kernel
theorem dX11_like_166 : decode cX11_like 166 = .ok (.iload 7, 2) := by decide +kernel
theorem dX11_like_168 : decode cX11_like 168 = .ok (.ireturn, 1) := by decide +kernel
theorem dX11_dearestDay_0 : decode cX11_dearestDay 0 = .ok (.iconst 0, 1) := by decide +kernel
theorem dX11_dearestDay_1 : decode cX11_dearestDay 1 = .ok (.istore_n 2, 1) := by decide +kernel
theorem dX11_dearestDay_2 : decode cX11_dearestDay 2 = .ok (.iconst 1, 1) := by decide +kernel
theorem dX11_dearestDay_3 : decode cX11_dearestDay 3 = .ok (.istore_n 3, 1) := by decide +kernel
theorem dX11_dearestDay_4 : decode cX11_dearestDay 4 = .ok (.iload_n 3, 1) := by decide +kernel
theorem dX11_dearestDay_5 : decode cX11_dearestDay 5 = .ok (.aload_n 0, 1) := by decide +kernel
theorem dX11_dearestDay_6 : decode cX11_dearestDay 6 = .ok (.getfield 26, 3) := by decide +kernel
theorem dX11_dearestDay_9 : decode cX11_dearestDay 9 = .ok (.getfield 192, 3) := by decide +kernel
theorem dX11_dearestDay_12 : decode cX11_dearestDay 12 = .ok (.if_icmp .ge 46, 3) := by decide +kernel
theorem dX11_dearestDay_15 : decode cX11_dearestDay 15 = .ok (.aload_n 0, 1) := by decide +kernel
theorem dX11_dearestDay_16 : decode cX11_dearestDay 16 = .ok (.getfield 26, 3) := by decide +kernel
theorem dX11_dearestDay_19 : decode cX11_dearestDay 19 = .ok (.getfield 100, 3) := by decide +kernel
theorem dX11_dearestDay_22 : decode cX11_dearestDay 22 = .ok (.getfield 104, 3) := by decide +kernel
theorem dX11_dearestDay_25 : decode cX11_dearestDay 25 = .ok (.iload_n 1, 1) := by decide +kernel
theorem dX11_dearestDay_26 : decode cX11_dearestDay 26 = .ok (.iload_n 3, 1) := by decide +kernel
theorem dX11_dearestDay_27 : decode cX11_dearestDay 27 = .ok (.invokestatic 110, 3) := by decide +kernel
theorem dX11_dearestDay_30 : decode cX11_dearestDay 30 = .ok (.iaload, 1) := by decide +kernel
theorem dX11_dearestDay_31 : decode cX11_dearestDay 31 = .ok (.aload_n 0, 1) := by decide +kernel
theorem dX11_dearestDay_32 : decode cX11_dearestDay 32 = .ok (.getfield 26, 3) := by decide +kernel
theorem dX11_dearestDay_35 : decode cX11_dearestDay 35 = .ok (.getfield 100, 3) := by decide +kernel
theorem dX11_dearestDay_38 : decode cX11_dearestDay 38 = .ok (.getfield 104, 3) := by decide +kernel
theorem dX11_dearestDay_41 : decode cX11_dearestDay 41 = .ok (.iload_n 1, 1) := by decide +kernel
theorem dX11_dearestDay_42 : decode cX11_dearestDay 42 = .ok (.iload_n 2, 1) := by decide +kernel
theorem dX11_dearestDay_43 : decode cX11_dearestDay 43 = .ok (.invokestatic 110, 3) := by decide +kernel
theorem dX11_dearestDay_46 : decode cX11_dearestDay 46 = .ok (.iaload, 1) := by decide +kernel
theorem dX11_dearestDay_47 : decode cX11_dearestDay 47 = .ok (.if_icmp .le 5, 3) := by decide +kernel
theorem dX11_dearestDay_50 : decode cX11_dearestDay 50 = .ok (.iload_n 3, 1) := by decide +kernel
theorem dX11_dearestDay_51 : decode cX11_dearestDay 51 = .ok (.istore_n 2, 1) := by decide +kernel
theorem dX11_dearestDay_52 : decode cX11_dearestDay 52 = .ok (.iinc 3 1, 3) := by decide +kernel
theorem dX11_dearestDay_55 : decode cX11_dearestDay 55 = .ok (.goto (-51), 3) := by decide +kernel
theorem dX11_dearestDay_58 : decode cX11_dearestDay 58 = .ok (.iload_n 2, 1) := by decide +kernel
theorem dX11_dearestDay_59 : decode cX11_dearestDay 59 = .ok (.ireturn, 1) := by decide +kernel
theorem dX11_cheapestDay_0 : decode cX11_cheapestDay 0 = .ok (.iconst 0, 1) := by decide +kernel
theorem dX11_cheapestDay_1 : decode cX11_cheapestDay 1 = .ok (.istore_n 2, 1) := by decide +kernel
theorem dX11_cheapestDay_2 : decode cX11_cheapestDay 2 = .ok (.iconst 1, 1) := by decide +kernel
theorem dX11_cheapestDay_3 : decode cX11_cheapestDay 3 = .ok (.istore_n 3, 1) := by decide +kernel
theorem dX11_cheapestDay_4 : decode cX11_cheapestDay 4 = .ok (.iload_n 3, 1) := by decide +kernel
theorem dX11_cheapestDay_5 : decode cX11_cheapestDay 5 = .ok (.aload_n 0, 1) := by decide +kernel
theorem dX11_cheapestDay_6 : decode cX11_cheapestDay 6 = .ok (.getfield 26, 3) := by decide +kernel
theorem dX11_cheapestDay_9 : decode cX11_cheapestDay 9 = .ok (.getfield 192, 3) := by decide +kernel
theorem dX11_cheapestDay_12 : decode cX11_cheapestDay 12 = .ok (.if_icmp .ge 46, 3) := by decide +kernel
theorem dX11_cheapestDay_15 : decode cX11_cheapestDay 15 = .ok (.aload_n 0, 1) := by decide +kernel
theorem dX11_cheapestDay_16 : decode cX11_cheapestDay 16 = .ok (.getfield 26, 3) := by decide +kernel
theorem dX11_cheapestDay_19 : decode cX11_cheapestDay 19 = .ok (.getfield 100, 3) := by decide +kernel
theorem dX11_cheapestDay_22 : decode cX11_cheapestDay 22 = .ok (.getfield 104, 3) := by decide +kernel
theorem dX11_cheapestDay_25 : decode cX11_cheapestDay 25 = .ok (.iload_n 1, 1) := by decide +kernel
theorem dX11_cheapestDay_26 : decode cX11_cheapestDay 26 = .ok (.iload_n 3, 1) := by decide +kernel
theorem dX11_cheapestDay_27 : decode cX11_cheapestDay 27 = .ok (.invokestatic 110, 3) := by decide +kernel
theorem dX11_cheapestDay_30 : decode cX11_cheapestDay 30 = .ok (.iaload, 1) := by decide +kernel
theorem dX11_cheapestDay_31 : decode cX11_cheapestDay 31 = .ok (.aload_n 0, 1) := by decide +kernel
theorem dX11_cheapestDay_32 : decode cX11_cheapestDay 32 = .ok (.getfield 26, 3) := by decide +kernel
theorem dX11_cheapestDay_35 : decode cX11_cheapestDay 35 = .ok (.getfield 100, 3) := by decide +kernel
theorem dX11_cheapestDay_38 : decode cX11_cheapestDay 38 = .ok (.getfield 104, 3) := by decide +kernel
theorem dX11_cheapestDay_41 : decode cX11_cheapestDay 41 = .ok (.iload_n 1, 1) := by decide +kernel
theorem dX11_cheapestDay_42 : decode cX11_cheapestDay 42 = .ok (.iload_n 2, 1) := by decide +kernel
theorem dX11_cheapestDay_43 : decode cX11_cheapestDay 43 = .ok (.invokestatic 110, 3) := by decide +kernel
theorem dX11_cheapestDay_46 : decode cX11_cheapestDay 46 = .ok (.iaload, 1) := by decide +kernel
theorem dX11_cheapestDay_47 : decode cX11_cheapestDay 47 = .ok (.if_icmp .ge 5, 3) := by decide +kernel
theorem dX11_cheapestDay_50 : decode cX11_cheapestDay 50 = .ok (.iload_n 3, 1) := by decide +kernel
theorem dX11_cheapestDay_51 : decode cX11_cheapestDay 51 = .ok (.istore_n 2, 1) := by decide +kernel
theorem dX11_cheapestDay_52 : decode cX11_cheapestDay 52 = .ok (.iinc 3 1, 3) := by decide +kernel
theorem dX11_cheapestDay_55 : decode cX11_cheapestDay 55 = .ok (.goto (-51), 3) := by decide +kernel
theorem dX11_cheapestDay_58 : decode cX11_cheapestDay 58 = .ok (.iload_n 2, 1) := by decide +kernel
theorem dX11_cheapestDay_59 : decode cX11_cheapestDay 59 = .ok (.ireturn, 1) := by decide +kernel
theorem dX11_sameAsAhead_0 : decode cX11_sameAsAhead 0 = .ok (.aload_n 0, 1) := by decide +kernel
theorem dX11_sameAsAhead_1 : decode cX11_sameAsAhead 1 = .ok (.getfield 26, 3) := by decide +kernel
theorem dX11_sameAsAhead_4 : decode cX11_sameAsAhead 4 = .ok (.getfield 100, 3) := by decide +kernel
theorem dX11_sameAsAhead_7 : decode cX11_sameAsAhead 7 = .ok (.getfield 104, 3) := by decide +kernel
theorem dX11_sameAsAhead_10 : decode cX11_sameAsAhead 10 = .ok (.astore_n 3, 1) := by decide +kernel
theorem dX11_sameAsAhead_11 : decode cX11_sameAsAhead 11 = .ok (.iload_n 2, 1) := by decide +kernel
theorem dX11_sameAsAhead_12 : decode cX11_sameAsAhead 12 = .ok (.ifCond .le 26, 3) := by decide +kernel
theorem dX11_sameAsAhead_15 : decode cX11_sameAsAhead 15 = .ok (.aload_n 3, 1) := by decide +kernel
theorem dX11_sameAsAhead_16 : decode cX11_sameAsAhead 16 = .ok (.iload_n 1, 1) := by decide +kernel
theorem dX11_sameAsAhead_17 : decode cX11_sameAsAhead 17 = .ok (.iload_n 2, 1) := by decide +kernel
theorem dX11_sameAsAhead_18 : decode cX11_sameAsAhead 18 = .ok (.invokestatic 110, 3) := by decide +kernel
theorem dX11_sameAsAhead_21 : decode cX11_sameAsAhead 21 = .ok (.iaload, 1) := by decide +kernel
theorem dX11_sameAsAhead_22 : decode cX11_sameAsAhead 22 = .ok (.aload_n 3, 1) := by decide +kernel
theorem dX11_sameAsAhead_23 : decode cX11_sameAsAhead 23 = .ok (.iload_n 1, 1) := by decide +kernel
theorem dX11_sameAsAhead_24 : decode cX11_sameAsAhead 24 = .ok (.iload_n 2, 1) := by decide +kernel
theorem dX11_sameAsAhead_25 : decode cX11_sameAsAhead 25 = .ok (.iconst 1, 1) := by decide +kernel
theorem dX11_sameAsAhead_26 : decode cX11_sameAsAhead 26 = .ok (.isub, 1) := by decide +kernel
theorem dX11_sameAsAhead_27 : decode cX11_sameAsAhead 27 = .ok (.invokestatic 110, 3) := by decide +kernel
theorem dX11_sameAsAhead_30 : decode cX11_sameAsAhead 30 = .ok (.iaload, 1) := by decide +kernel
theorem dX11_sameAsAhead_31 : decode cX11_sameAsAhead 31 = .ok (.if_icmp .ne 7, 3) := by decide +kernel
theorem dX11_sameAsAhead_34 : decode cX11_sameAsAhead 34 = .ok (.iconst 1, 1) := by decide +kernel
theorem dX11_sameAsAhead_35 : decode cX11_sameAsAhead 35 = .ok (.goto 4, 3) := by decide +kernel
theorem dX11_sameAsAhead_38 : decode cX11_sameAsAhead 38 = .ok (.iconst 0, 1) := by decide +kernel
theorem dX11_sameAsAhead_39 : decode cX11_sameAsAhead 39 = .ok (.ireturn, 1) := by decide +kernel
theorem dX11_priceChanges_0 : decode cX11_priceChanges 0 = .ok (.iconst 0, 1) := by decide +kernel
theorem dX11_priceChanges_1 : decode cX11_priceChanges 1 = .ok (.istore_n 2, 1) := by decide +kernel
theorem dX11_priceChanges_2 : decode cX11_priceChanges 2 = .ok (.iconst 1, 1) := by decide +kernel
theorem dX11_priceChanges_3 : decode cX11_priceChanges 3 = .ok (.istore_n 3, 1) := by decide +kernel
theorem dX11_priceChanges_4 : decode cX11_priceChanges 4 = .ok (.iload_n 3, 1) := by decide +kernel
theorem dX11_priceChanges_5 : decode cX11_priceChanges 5 = .ok (.aload_n 0, 1) := by decide +kernel
theorem dX11_priceChanges_6 : decode cX11_priceChanges 6 = .ok (.getfield 26, 3) := by decide +kernel
theorem dX11_priceChanges_9 : decode cX11_priceChanges 9 = .ok (.getfield 192, 3) := by decide +kernel
theorem dX11_priceChanges_12 : decode cX11_priceChanges 12 = .ok (.if_icmp .ge 21, 3) := by decide +kernel
theorem dX11_priceChanges_15 : decode cX11_priceChanges 15 = .ok (.aload_n 0, 1) := by decide +kernel
theorem dX11_priceChanges_16 : decode cX11_priceChanges 16 = .ok (.iload_n 1, 1) := by decide +kernel
theorem dX11_priceChanges_17 : decode cX11_priceChanges 17 = .ok (.iload_n 3, 1) := by decide +kernel
theorem dX11_priceChanges_18 : decode cX11_priceChanges 18 = .ok (.invokevirtual 392, 3) := by decide +kernel
theorem dX11_priceChanges_21 : decode cX11_priceChanges 21 = .ok (.ifCond .ne 6, 3) := by decide +kernel
theorem dX11_priceChanges_24 : decode cX11_priceChanges 24 = .ok (.iinc 2 1, 3) := by decide +kernel
theorem dX11_priceChanges_27 : decode cX11_priceChanges 27 = .ok (.iinc 3 1, 3) := by decide +kernel
theorem dX11_priceChanges_30 : decode cX11_priceChanges 30 = .ok (.goto (-26), 3) := by decide +kernel
theorem dX11_priceChanges_33 : decode cX11_priceChanges 33 = .ok (.iload_n 2, 1) := by decide +kernel
theorem dX11_priceChanges_34 : decode cX11_priceChanges 34 = .ok (.ireturn, 1) := by decide +kernel
theorem dX11_longestAtOnePrice_0 : decode cX11_longestAtOnePrice 0 = .ok (.iconst 0, 1) := by decide +kernel
theorem dX11_longestAtOnePrice_1 : decode cX11_longestAtOnePrice 1 = .ok (.istore_n 2, 1) := by decide +kernel
theorem dX11_longestAtOnePrice_2 : decode cX11_longestAtOnePrice 2 = .ok (.iconst 0, 1) := by decide +kernel
theorem dX11_longestAtOnePrice_3 : decode cX11_longestAtOnePrice 3 = .ok (.istore_n 3, 1) := by decide +kernel
theorem dX11_longestAtOnePrice_4 : decode cX11_longestAtOnePrice 4 = .ok (.iconst 0, 1) := by decide +kernel
theorem dX11_longestAtOnePrice_5 : decode cX11_longestAtOnePrice 5 = .ok (.istore 4, 2) := by decide +kernel
theorem dX11_longestAtOnePrice_7 : decode cX11_longestAtOnePrice 7 = .ok (.iload 4, 2) := by decide +kernel
theorem dX11_longestAtOnePrice_9 : decode cX11_longestAtOnePrice 9 = .ok (.aload_n 0, 1) := by decide +kernel
theorem dX11_longestAtOnePrice_10 : decode cX11_longestAtOnePrice 10 = .ok (.getfield 26, 3) := by decide +kernel
theorem dX11_longestAtOnePrice_13 : decode cX11_longestAtOnePrice 13 = .ok (.getfield 192, 3) := by decide +kernel
theorem dX11_longestAtOnePrice_16 : decode cX11_longestAtOnePrice 16 = .ok (.if_icmp .ge 33, 3) := by decide +kernel
theorem dX11_longestAtOnePrice_19 : decode cX11_longestAtOnePrice 19 = .ok (.aload_n 0, 1) := by decide +kernel
theorem dX11_longestAtOnePrice_20 : decode cX11_longestAtOnePrice 20 = .ok (.iload_n 1, 1) := by decide +kernel
theorem dX11_longestAtOnePrice_21 : decode cX11_longestAtOnePrice 21 = .ok (.iload 4, 2) := by decide +kernel
theorem dX11_longestAtOnePrice_23 : decode cX11_longestAtOnePrice 23 = .ok (.invokevirtual 392, 3) := by decide +kernel
theorem dX11_longestAtOnePrice_26 : decode cX11_longestAtOnePrice 26 = .ok (.ifCond .eq 9, 3) := by decide +kernel
theorem dX11_longestAtOnePrice_29 : decode cX11_longestAtOnePrice 29 = .ok (.iload_n 3, 1) := by decide +kernel
theorem dX11_longestAtOnePrice_30 : decode cX11_longestAtOnePrice 30 = .ok (.iconst 1, 1) := by decide +kernel
theorem dX11_longestAtOnePrice_31 : decode cX11_longestAtOnePrice 31 = .ok (.iadd, 1) := by decide +kernel
theorem dX11_longestAtOnePrice_32 : decode cX11_longestAtOnePrice 32 = .ok (.goto 4, 3) := by decide +kernel
theorem dX11_longestAtOnePrice_35 : decode cX11_longestAtOnePrice 35 = .ok (.iconst 1, 1) := by decide +kernel
theorem dX11_longestAtOnePrice_36 : decode cX11_longestAtOnePrice 36 = .ok (.istore_n 3, 1) := by decide +kernel
theorem dX11_longestAtOnePrice_37 : decode cX11_longestAtOnePrice 37 = .ok (.iload_n 2, 1) := by decide +kernel
theorem dX11_longestAtOnePrice_38 : decode cX11_longestAtOnePrice 38 = .ok (.iload_n 3, 1) := by decide +kernel
theorem dX11_longestAtOnePrice_39 : decode cX11_longestAtOnePrice 39 = .ok (.invokestatic 201, 3) := by decide +kernel
theorem dX11_longestAtOnePrice_42 : decode cX11_longestAtOnePrice 42 = .ok (.istore_n 2, 1) := by decide +kernel
theorem dX11_longestAtOnePrice_43 : decode cX11_longestAtOnePrice 43 = .ok (.iinc 4 1, 3) := by decide +kernel
theorem dX11_longestAtOnePrice_46 : decode cX11_longestAtOnePrice 46 = .ok (.goto (-39), 3) := by decide +kernel
theorem dX11_longestAtOnePrice_49 : decode cX11_longestAtOnePrice 49 = .ok (.iload_n 2, 1) := by decide +kernel
theorem dX11_longestAtOnePrice_50 : decode cX11_longestAtOnePrice 50 = .ok (.ireturn, 1) := by decide +kernel
theorem dX11_shape_0 : decode cX11_shape 0 = .ok (.aload_n 0, 1) := by decide +kernel
theorem dX11_shape_1 : decode cX11_shape 1 = .ok (.iload_n 1, 1) := by decide +kernel
theorem dX11_shape_2 : decode cX11_shape 2 = .ok (.invokevirtual 303, 3) := by decide +kernel
theorem dX11_shape_5 : decode cX11_shape 5 = .ok (.ifCond .ne 6, 3) := by decide +kernel
theorem dX11_shape_8 : decode cX11_shape 8 = .ok (.bipush (-2), 2) := by decide +kernel
theorem dX11_shape_10 : decode cX11_shape 10 = .ok (.ireturn, 1) := by decide +kernel
theorem dX11_shape_11 : decode cX11_shape 11 = .ok (.iload_n 2, 1) := by decide +kernel
theorem dX11_shape_12 : decode cX11_shape 12 = .ok (.tableswitch 56 0 3 #[32, 38, 44, 50], 32) := by decide +kernel
theorem dX11_shape_44 : decode cX11_shape 44 = .ok (.aload_n 0, 1) := by decide +kernel
theorem dX11_shape_45 : decode cX11_shape 45 = .ok (.iload_n 1, 1) := by decide +kernel
theorem dX11_shape_46 : decode cX11_shape 46 = .ok (.invokevirtual 314, 3) := by decide +kernel
theorem dX11_shape_49 : decode cX11_shape 49 = .ok (.ireturn, 1) := by decide +kernel
theorem dX11_shape_50 : decode cX11_shape 50 = .ok (.aload_n 0, 1) := by decide +kernel
theorem dX11_shape_51 : decode cX11_shape 51 = .ok (.iload_n 1, 1) := by decide +kernel
theorem dX11_shape_52 : decode cX11_shape 52 = .ok (.invokevirtual 317, 3) := by decide +kernel
theorem dX11_shape_55 : decode cX11_shape 55 = .ok (.ireturn, 1) := by decide +kernel
theorem dX11_shape_56 : decode cX11_shape 56 = .ok (.aload_n 0, 1) := by decide +kernel
theorem dX11_shape_57 : decode cX11_shape 57 = .ok (.iload_n 1, 1) := by decide +kernel
theorem dX11_shape_58 : decode cX11_shape 58 = .ok (.invokevirtual 320, 3) := by decide +kernel
theorem dX11_shape_61 : decode cX11_shape 61 = .ok (.ireturn, 1) := by decide +kernel
theorem dX11_shape_62 : decode cX11_shape 62 = .ok (.aload_n 0, 1) := by decide +kernel
theorem dX11_shape_63 : decode cX11_shape 63 = .ok (.iload_n 1, 1) := by decide +kernel
theorem dX11_shape_64 : decode cX11_shape 64 = .ok (.invokevirtual 323, 3) := by decide +kernel
theorem dX11_shape_67 : decode cX11_shape 67 = .ok (.ireturn, 1) := by decide +kernel
theorem dX11_shape_68 : decode cX11_shape 68 = .ok (.bipush (-2), 2) := by decide +kernel
theorem dX11_shape_70 : decode cX11_shape 70 = .ok (.ireturn, 1) := by decide +kernel
theorem dX11_dearer_0 : decode cX11_dearer 0 = .ok (.aload_n 0, 1) := by decide +kernel
theorem dX11_dearer_1 : decode cX11_dearer 1 = .ok (.iload_n 1, 1) := by decide +kernel
theorem dX11_dearer_2 : decode cX11_dearer 2 = .ok (.invokevirtual 303, 3) := by decide +kernel
theorem dX11_dearer_5 : decode cX11_dearer 5 = .ok (.ifCond .eq 16, 3) := by decide +kernel
theorem dX11_dearer_8 : decode cX11_dearer 8 = .ok (.aload_n 0, 1) := by decide +kernel
theorem dX11_dearer_9 : decode cX11_dearer 9 = .ok (.iload_n 2, 1) := by decide +kernel
theorem dX11_dearer_10 : decode cX11_dearer 10 = .ok (.invokevirtual 303, 3) := by decide +kernel
theorem dX11_dearer_13 : decode cX11_dearer 13 = .ok (.ifCond .eq 8, 3) := by decide +kernel
theorem dX11_dearer_16 : decode cX11_dearer 16 = .ok (.iload_n 1, 1) := by decide +kernel
theorem dX11_dearer_17 : decode cX11_dearer 17 = .ok (.iload_n 2, 1) := by decide +kernel
theorem dX11_dearer_18 : decode cX11_dearer 18 = .ok (.if_icmp .ne 6, 3) := by decide +kernel
theorem dX11_dearer_21 : decode cX11_dearer 21 = .ok (.bipush (-2), 2) := by decide +kernel
theorem dX11_dearer_23 : decode cX11_dearer 23 = .ok (.ireturn, 1) := by decide +kernel
theorem dX11_dearer_24 : decode cX11_dearer 24 = .ok (.iconst 0, 1) := by decide +kernel
theorem dX11_dearer_25 : decode cX11_dearer 25 = .ok (.istore_n 3, 1) := by decide +kernel
theorem dX11_dearer_26 : decode cX11_dearer 26 = .ok (.iconst 0, 1) := by decide +kernel
theorem dX11_dearer_27 : decode cX11_dearer 27 = .ok (.istore 4, 2) := by decide +kernel
theorem dX11_dearer_29 : decode cX11_dearer 29 = .ok (.iload 4, 2) := by decide +kernel
theorem dX11_dearer_31 : decode cX11_dearer 31 = .ok (.aload_n 0, 1) := by decide +kernel
theorem dX11_dearer_32 : decode cX11_dearer 32 = .ok (.getfield 26, 3) := by decide +kernel
theorem dX11_dearer_35 : decode cX11_dearer 35 = .ok (.getfield 192, 3) := by decide +kernel
theorem dX11_dearer_38 : decode cX11_dearer 38 = .ok (.if_icmp .ge 49, 3) := by decide +kernel
theorem dX11_dearer_41 : decode cX11_dearer 41 = .ok (.aload_n 0, 1) := by decide +kernel
theorem dX11_dearer_42 : decode cX11_dearer 42 = .ok (.getfield 26, 3) := by decide +kernel
theorem dX11_dearer_45 : decode cX11_dearer 45 = .ok (.getfield 100, 3) := by decide +kernel
theorem dX11_dearer_48 : decode cX11_dearer 48 = .ok (.getfield 104, 3) := by decide +kernel
theorem dX11_dearer_51 : decode cX11_dearer 51 = .ok (.iload_n 1, 1) := by decide +kernel
theorem dX11_dearer_52 : decode cX11_dearer 52 = .ok (.iload 4, 2) := by decide +kernel
theorem dX11_dearer_54 : decode cX11_dearer 54 = .ok (.invokestatic 110, 3) := by decide +kernel
theorem dX11_dearer_57 : decode cX11_dearer 57 = .ok (.iaload, 1) := by decide +kernel
theorem dX11_dearer_58 : decode cX11_dearer 58 = .ok (.aload_n 0, 1) := by decide +kernel
theorem dX11_dearer_59 : decode cX11_dearer 59 = .ok (.getfield 26, 3) := by decide +kernel
theorem dX11_dearer_62 : decode cX11_dearer 62 = .ok (.getfield 100, 3) := by decide +kernel
theorem dX11_dearer_65 : decode cX11_dearer 65 = .ok (.getfield 104, 3) := by decide +kernel
theorem dX11_dearer_68 : decode cX11_dearer 68 = .ok (.iload_n 2, 1) := by decide +kernel
theorem dX11_dearer_69 : decode cX11_dearer 69 = .ok (.iload 4, 2) := by decide +kernel
theorem dX11_dearer_71 : decode cX11_dearer 71 = .ok (.invokestatic 110, 3) := by decide +kernel
theorem dX11_dearer_74 : decode cX11_dearer 74 = .ok (.iaload, 1) := by decide +kernel
theorem dX11_dearer_75 : decode cX11_dearer 75 = .ok (.if_icmp .le 6, 3) := by decide +kernel
theorem dX11_dearer_78 : decode cX11_dearer 78 = .ok (.iinc 3 1, 3) := by decide +kernel
theorem dX11_dearer_81 : decode cX11_dearer 81 = .ok (.iinc 4 1, 3) := by decide +kernel
theorem dX11_dearer_84 : decode cX11_dearer 84 = .ok (.goto (-55), 3) := by decide +kernel
theorem dX11_dearer_87 : decode cX11_dearer 87 = .ok (.iload_n 3, 1) := by decide +kernel
theorem dX11_dearer_88 : decode cX11_dearer 88 = .ok (.ireturn, 1) := by decide +kernel
theorem dX11_come_0 : decode cX11_come 0 = .ok (.aload_n 0, 1) := by decide +kernel
theorem dX11_come_1 : decode cX11_come 1 = .ok (.iload_n 1, 1) := by decide +kernel
theorem dX11_come_2 : decode cX11_come 2 = .ok (.iload_n 2, 1) := by decide +kernel
theorem dX11_come_3 : decode cX11_come 3 = .ok (.invokevirtual 96, 3) := by decide +kernel
theorem dX11_come_6 : decode cX11_come 6 = .ok (.ifCond .eq 13, 3) := by decide +kernel
theorem dX11_come_9 : decode cX11_come 9 = .ok (.iload_n 3, 1) := by decide +kernel
theorem dX11_come_10 : decode cX11_come 10 = .ok (.iconst 0, 1) := by decide +kernel
theorem dX11_come_11 : decode cX11_come 11 = .ok (.bipush 99, 2) := by decide +kernel
theorem dX11_come_13 : decode cX11_come 13 = .ok (.invokestatic 213, 3) := by decide +kernel
theorem dX11_come_16 : decode cX11_come 16 = .ok (.ifCond .ne 6, 3) := by decide +kernel
theorem dX11_come_19 : decode cX11_come 19 = .ok (.bipush (-2), 2) := by decide +kernel
theorem dX11_come_21 : decode cX11_come 21 = .ok (.ireturn, 1) := by decide +kernel
theorem dX11_come_22 : decode cX11_come 22 = .ok (.aload_n 0, 1) := by decide +kernel
theorem dX11_come_23 : decode cX11_come 23 = .ok (.getfield 26, 3) := by decide +kernel
theorem dX11_come_26 : decode cX11_come 26 = .ok (.getfield 168, 3) := by decide +kernel
theorem dX11_come_29 : decode cX11_come 29 = .ok (.iload_n 1, 1) := by decide +kernel
theorem dX11_come_30 : decode cX11_come 30 = .ok (.iload_n 2, 1) := by decide +kernel
theorem dX11_come_31 : decode cX11_come 31 = .ok (.iload_n 3, 1) := by decide +kernel
theorem dX11_come_32 : decode cX11_come 32 = .ok (.invokevirtual 231, 3) := by decide +kernel
theorem dX11_come_35 : decode cX11_come 35 = .ok (.ireturn, 1) := by decide +kernel
theorem dX11_isSlot_0 : decode cX11_isSlot 0 = .ok (.iload_n 0, 1) := by decide +kernel
theorem dX11_isSlot_1 : decode cX11_isSlot 1 = .ok (.ifCond .lt 12, 3) := by decide +kernel
theorem dX11_isSlot_4 : decode cX11_isSlot 4 = .ok (.iload_n 0, 1) := by decide +kernel
theorem dX11_isSlot_5 : decode cX11_isSlot 5 = .ok (.iconst 4, 1) := by decide +kernel
theorem dX11_isSlot_6 : decode cX11_isSlot 6 = .ok (.if_icmp .ge 7, 3) := by decide +kernel
theorem dX11_isSlot_9 : decode cX11_isSlot 9 = .ok (.iconst 1, 1) := by decide +kernel
theorem dX11_isSlot_10 : decode cX11_isSlot 10 = .ok (.goto 4, 3) := by decide +kernel
theorem dX11_isSlot_13 : decode cX11_isSlot 13 = .ok (.iconst 0, 1) := by decide +kernel
theorem dX11_isSlot_14 : decode cX11_isSlot 14 = .ok (.ireturn, 1) := by decide +kernel
theorem dX11_refuseCrowds_0 : decode cX11_refuseCrowds 0 = .ok (.iload_n 1, 1) := by decide +kernel
theorem dX11_refuseCrowds_1 : decode cX11_refuseCrowds 1 = .ok (.invokestatic 347, 3) := by decide +kernel
theorem dX11_refuseCrowds_4 : decode cX11_refuseCrowds 4 = .ok (.ifCond .ne 6, 3) := by decide +kernel
theorem dX11_refuseCrowds_7 : decode cX11_refuseCrowds 7 = .ok (.bipush (-2), 2) := by decide +kernel
theorem dX11_refuseCrowds_9 : decode cX11_refuseCrowds 9 = .ok (.ireturn, 1) := by decide +kernel
theorem dX11_refuseCrowds_10 : decode cX11_refuseCrowds 10 = .ok (.aload_n 0, 1) := by decide +kernel
theorem dX11_refuseCrowds_11 : decode cX11_refuseCrowds 11 = .ok (.getfield 60, 3) := by decide +kernel
theorem dX11_refuseCrowds_14 : decode cX11_refuseCrowds 14 = .ok (.iload_n 1, 1) := by decide +kernel
theorem dX11_refuseCrowds_15 : decode cX11_refuseCrowds 15 = .ok (.aaload, 1) := by decide +kernel
theorem dX11_refuseCrowds_16 : decode cX11_refuseCrowds 16 = .ok (.astore_n 2, 1) := by decide +kernel
theorem dX11_refuseCrowds_17 : decode cX11_refuseCrowds 17 = .ok (.aload_n 2, 1) := by decide +kernel
theorem dX11_refuseCrowds_18 : decode cX11_refuseCrowds 18 = .ok (.ifnonnull 6, 3) := by decide +kernel
theorem dX11_refuseCrowds_21 : decode cX11_refuseCrowds 21 = .ok (.bipush (-6), 2) := by decide +kernel
theorem dX11_refuseCrowds_23 : decode cX11_refuseCrowds 23 = .ok (.ireturn, 1) := by decide +kernel
theorem dX11_refuseCrowds_24 : decode cX11_refuseCrowds 24 = .ok (.aload_n 2, 1) := by decide +kernel
theorem dX11_refuseCrowds_25 : decode cX11_refuseCrowds 25 = .ok (.getfield 332, 3) := by decide +kernel
theorem dX11_refuseCrowds_28 : decode cX11_refuseCrowds 28 = .ok (.iconst 3, 1) := by decide +kernel
theorem dX11_refuseCrowds_29 : decode cX11_refuseCrowds 29 = .ok (.irem, 1) := by decide +kernel
theorem dX11_refuseCrowds_30 : decode cX11_refuseCrowds 30 = .ok (.ifCond .eq 6, 3) := by decide +kernel
theorem dX11_refuseCrowds_33 : decode cX11_refuseCrowds 33 = .ok (.bipush (-2), 2) := by decide +kernel
theorem dX11_refuseCrowds_35 : decode cX11_refuseCrowds 35 = .ok (.ireturn, 1) := by decide +kernel
theorem dX11_refuseCrowds_36 : decode cX11_refuseCrowds 36 = .ok (.iconst 0, 1) := by decide +kernel
theorem dX11_refuseCrowds_37 : decode cX11_refuseCrowds 37 = .ok (.istore_n 3, 1) := by decide +kernel
theorem dX11_refuseCrowds_38 : decode cX11_refuseCrowds 38 = .ok (.iload_n 3, 1) := by decide +kernel
theorem dX11_refuseCrowds_39 : decode cX11_refuseCrowds 39 = .ok (.iconst 1, 1) := by decide +kernel
theorem dX11_refuseCrowds_40 : decode cX11_refuseCrowds 40 = .ok (.iadd, 1) := by decide +kernel
theorem dX11_refuseCrowds_41 : decode cX11_refuseCrowds 41 = .ok (.aload_n 2, 1) := by decide +kernel
theorem dX11_refuseCrowds_42 : decode cX11_refuseCrowds 42 = .ok (.getfield 332, 3) := by decide +kernel
theorem dX11_refuseCrowds_45 : decode cX11_refuseCrowds 45 = .ok (.if_icmp .ge 75, 3) := by decide +kernel
theorem dX11_refuseCrowds_48 : decode cX11_refuseCrowds 48 = .ok (.aload_n 2, 1) := by decide +kernel
theorem dX11_refuseCrowds_49 : decode cX11_refuseCrowds 49 = .ok (.getfield 333, 3) := by decide +kernel
theorem dX11_refuseCrowds_52 : decode cX11_refuseCrowds 52 = .ok (.iload_n 3, 1) := by decide +kernel
theorem dX11_refuseCrowds_53 : decode cX11_refuseCrowds 53 = .ok (.laload, 1) := by decide +kernel
theorem dX11_refuseCrowds_54 : decode cX11_refuseCrowds 54 = .ok (.lstore 4, 2) := by decide +kernel
theorem dX11_refuseCrowds_56 : decode cX11_refuseCrowds 56 = .ok (.aload_n 2, 1) := by decide +kernel
theorem dX11_refuseCrowds_57 : decode cX11_refuseCrowds 57 = .ok (.getfield 333, 3) := by decide +kernel
theorem dX11_refuseCrowds_60 : decode cX11_refuseCrowds 60 = .ok (.iload_n 3, 1) := by decide +kernel
theorem dX11_refuseCrowds_61 : decode cX11_refuseCrowds 61 = .ok (.iconst 1, 1) := by decide +kernel
theorem dX11_refuseCrowds_62 : decode cX11_refuseCrowds 62 = .ok (.iadd, 1) := by decide +kernel
theorem dX11_refuseCrowds_63 : decode cX11_refuseCrowds 63 = .ok (.laload, 1) := by decide +kernel
theorem dX11_refuseCrowds_64 : decode cX11_refuseCrowds 64 = .ok (.lstore 6, 2) := by decide +kernel
theorem dX11_refuseCrowds_66 : decode cX11_refuseCrowds 66 = .ok (.lload 4, 2) := by decide +kernel
theorem dX11_refuseCrowds_68 : decode cX11_refuseCrowds 68 = .ok (.lconst 0, 1) := by decide +kernel
theorem dX11_refuseCrowds_69 : decode cX11_refuseCrowds 69 = .ok (.lcmp, 1) := by decide +kernel
theorem dX11_refuseCrowds_70 : decode cX11_refuseCrowds 70 = .ok (.ifCond .lt 41, 3) := by decide +kernel
theorem dX11_refuseCrowds_73 : decode cX11_refuseCrowds 73 = .ok (.lload 4, 2) := by decide +kernel
theorem dX11_refuseCrowds_75 : decode cX11_refuseCrowds 75 = .ok (.aload_n 0, 1) := by decide +kernel
theorem dX11_refuseCrowds_76 : decode cX11_refuseCrowds 76 = .ok (.getfield 26, 3) := by decide +kernel
theorem dX11_refuseCrowds_79 : decode cX11_refuseCrowds 79 = .ok (.getfield 100, 3) := by decide +kernel
theorem dX11_refuseCrowds_82 : decode cX11_refuseCrowds 82 = .ok (.getfield 342, 3) := by decide +kernel
theorem dX11_refuseCrowds_85 : decode cX11_refuseCrowds 85 = .ok (.i2l, 1) := by decide +kernel
theorem dX11_refuseCrowds_86 : decode cX11_refuseCrowds 86 = .ok (.lcmp, 1) := by decide +kernel
theorem dX11_refuseCrowds_87 : decode cX11_refuseCrowds 87 = .ok (.ifCond .ge 24, 3) := by decide +kernel
theorem dX11_refuseCrowds_90 : decode cX11_refuseCrowds 90 = .ok (.lload 6, 2) := by decide +kernel
theorem dX11_refuseCrowds_92 : decode cX11_refuseCrowds 92 = .ok (.lconst 0, 1) := by decide +kernel
theorem dX11_refuseCrowds_93 : decode cX11_refuseCrowds 93 = .ok (.lcmp, 1) := by decide +kernel
theorem dX11_refuseCrowds_94 : decode cX11_refuseCrowds 94 = .ok (.ifCond .lt 17, 3) := by decide +kernel
theorem dX11_refuseCrowds_97 : decode cX11_refuseCrowds 97 = .ok (.lload 6, 2) := by decide +kernel
theorem dX11_refuseCrowds_99 : decode cX11_refuseCrowds 99 = .ok (.aload_n 0, 1) := by decide +kernel
theorem dX11_refuseCrowds_100 : decode cX11_refuseCrowds 100 = .ok (.getfield 26, 3) := by decide +kernel
theorem dX11_refuseCrowds_103 : decode cX11_refuseCrowds 103 = .ok (.getfield 192, 3) := by decide +kernel
theorem dX11_refuseCrowds_106 : decode cX11_refuseCrowds 106 = .ok (.i2l, 1) := by decide +kernel
theorem dX11_refuseCrowds_107 : decode cX11_refuseCrowds 107 = .ok (.lcmp, 1) := by decide +kernel
theorem dX11_refuseCrowds_108 : decode cX11_refuseCrowds 108 = .ok (.ifCond .lt 6, 3) := by decide +kernel
theorem dX11_refuseCrowds_111 : decode cX11_refuseCrowds 111 = .ok (.bipush (-2), 2) := by decide +kernel
theorem dX11_refuseCrowds_113 : decode cX11_refuseCrowds 113 = .ok (.ireturn, 1) := by decide +kernel
theorem dX11_refuseCrowds_114 : decode cX11_refuseCrowds 114 = .ok (.iinc 3 3, 3) := by decide +kernel
theorem dX11_refuseCrowds_117 : decode cX11_refuseCrowds 117 = .ok (.goto (-79), 3) := by decide +kernel
theorem dX11_refuseCrowds_120 : decode cX11_refuseCrowds 120 = .ok (.iconst 0, 1) := by decide +kernel
theorem dX11_refuseCrowds_121 : decode cX11_refuseCrowds 121 = .ok (.ireturn, 1) := by decide +kernel
theorem dX11_crowdsAgree_0 : decode cX11_crowdsAgree 0 = .ok (.aload_n 0, 1) := by decide +kernel
theorem dX11_crowdsAgree_1 : decode cX11_crowdsAgree 1 = .ok (.getfield 60, 3) := by decide +kernel
theorem dX11_crowdsAgree_4 : decode cX11_crowdsAgree 4 = .ok (.iload_n 1, 1) := by decide +kernel
theorem dX11_crowdsAgree_5 : decode cX11_crowdsAgree 5 = .ok (.aaload, 1) := by decide +kernel
theorem dX11_crowdsAgree_6 : decode cX11_crowdsAgree 6 = .ok (.astore 5, 2) := by decide +kernel
theorem dX11_crowdsAgree_8 : decode cX11_crowdsAgree 8 = .ok (.aload 5, 2) := by decide +kernel
theorem dX11_crowdsAgree_10 : decode cX11_crowdsAgree 10 = .ok (.ifnonnull 5, 3) := by decide +kernel
theorem dX11_crowdsAgree_13 : decode cX11_crowdsAgree 13 = .ok (.iconst 0, 1) := by decide +kernel
theorem dX11_crowdsAgree_14 : decode cX11_crowdsAgree 14 = .ok (.ireturn, 1) := by decide +kernel
theorem dX11_crowdsAgree_15 : decode cX11_crowdsAgree 15 = .ok (.aload_n 0, 1) := by decide +kernel
theorem dX11_crowdsAgree_16 : decode cX11_crowdsAgree 16 = .ok (.getfield 26, 3) := by decide +kernel
theorem dX11_crowdsAgree_19 : decode cX11_crowdsAgree 19 = .ok (.getfield 168, 3) := by decide +kernel
theorem dX11_crowdsAgree_22 : decode cX11_crowdsAgree 22 = .ok (.iload_n 2, 1) := by decide +kernel
theorem dX11_crowdsAgree_23 : decode cX11_crowdsAgree 23 = .ok (.iload_n 3, 1) := by decide +kernel
theorem dX11_crowdsAgree_24 : decode cX11_crowdsAgree 24 = .ok (.iload 4, 2) := by decide +kernel
theorem dX11_crowdsAgree_26 : decode cX11_crowdsAgree 26 = .ok (.invokevirtual 231, 3) := by decide +kernel
theorem dX11_crowdsAgree_29 : decode cX11_crowdsAgree 29 = .ok (.istore 6, 2) := by decide +kernel
theorem dX11_crowdsAgree_31 : decode cX11_crowdsAgree 31 = .ok (.iconst 0, 1) := by decide +kernel
theorem dX11_crowdsAgree_32 : decode cX11_crowdsAgree 32 = .ok (.istore 7, 2) := by decide +kernel
theorem dX11_crowdsAgree_34 : decode cX11_crowdsAgree 34 = .ok (.iload 7, 2) := by decide +kernel
theorem dX11_crowdsAgree_36 : decode cX11_crowdsAgree 36 = .ok (.iconst 2, 1) := by decide +kernel
theorem dX11_crowdsAgree_37 : decode cX11_crowdsAgree 37 = .ok (.iadd, 1) := by decide +kernel
theorem dX11_crowdsAgree_38 : decode cX11_crowdsAgree 38 = .ok (.aload 5, 2) := by decide +kernel
theorem dX11_crowdsAgree_40 : decode cX11_crowdsAgree 40 = .ok (.getfield 332, 3) := by decide +kernel
theorem dX11_crowdsAgree_43 : decode cX11_crowdsAgree 43 = .ok (.if_icmp .ge 70, 3) := by decide +kernel
theorem dX11_crowdsAgree_46 : decode cX11_crowdsAgree 46 = .ok (.aload 5, 2) := by decide +kernel
theorem dX11_crowdsAgree_48 : decode cX11_crowdsAgree 48 = .ok (.getfield 333, 3) := by decide +kernel
theorem dX11_crowdsAgree_51 : decode cX11_crowdsAgree 51 = .ok (.iload 7, 2) := by decide +kernel
theorem dX11_crowdsAgree_53 : decode cX11_crowdsAgree 53 = .ok (.laload, 1) := by decide +kernel
theorem dX11_crowdsAgree_54 : decode cX11_crowdsAgree 54 = .ok (.iload_n 2, 1) := by decide +kernel
theorem dX11_crowdsAgree_55 : decode cX11_crowdsAgree 55 = .ok (.i2l, 1) := by decide +kernel
theorem dX11_crowdsAgree_56 : decode cX11_crowdsAgree 56 = .ok (.lcmp, 1) := by decide +kernel
theorem dX11_crowdsAgree_57 : decode cX11_crowdsAgree 57 = .ok (.ifCond .ne 23, 3) := by decide +kernel
theorem dX11_crowdsAgree_60 : decode cX11_crowdsAgree 60 = .ok (.aload 5, 2) := by decide +kernel
theorem dX11_crowdsAgree_62 : decode cX11_crowdsAgree 62 = .ok (.getfield 333, 3) := by decide +kernel
theorem dX11_crowdsAgree_65 : decode cX11_crowdsAgree 65 = .ok (.iload 7, 2) := by decide +kernel
theorem dX11_crowdsAgree_67 : decode cX11_crowdsAgree 67 = .ok (.iconst 1, 1) := by decide +kernel
theorem dX11_crowdsAgree_68 : decode cX11_crowdsAgree 68 = .ok (.iadd, 1) := by decide +kernel
theorem dX11_crowdsAgree_69 : decode cX11_crowdsAgree 69 = .ok (.laload, 1) := by decide +kernel
theorem dX11_crowdsAgree_70 : decode cX11_crowdsAgree 70 = .ok (.iload_n 3, 1) := by decide +kernel
theorem dX11_crowdsAgree_71 : decode cX11_crowdsAgree 71 = .ok (.i2l, 1) := by decide +kernel
theorem dX11_crowdsAgree_72 : decode cX11_crowdsAgree 72 = .ok (.lcmp, 1) := by decide +kernel
theorem dX11_crowdsAgree_73 : decode cX11_crowdsAgree 73 = .ok (.ifCond .ne 7, 3) := by decide +kernel
theorem dX11_crowdsAgree_76 : decode cX11_crowdsAgree 76 = .ok (.iconst 1, 1) := by decide +kernel
theorem dX11_crowdsAgree_77 : decode cX11_crowdsAgree 77 = .ok (.goto 4, 3) := by decide +kernel
theorem dX11_crowdsAgree_80 : decode cX11_crowdsAgree 80 = .ok (.iconst 0, 1) := by decide +kernel
theorem dX11_crowdsAgree_81 : decode cX11_crowdsAgree 81 = .ok (.istore 8, 2) := by decide +kernel
theorem dX11_crowdsAgree_83 : decode cX11_crowdsAgree 83 = .ok (.iload 8, 2) := by decide +kernel
theorem dX11_crowdsAgree_85 : decode cX11_crowdsAgree 85 = .ok (.ifCond .eq 22, 3) := by decide +kernel
theorem dX11_crowdsAgree_88 : decode cX11_crowdsAgree 88 = .ok (.aload 5, 2) := by decide +kernel
theorem dX11_crowdsAgree_90 : decode cX11_crowdsAgree 90 = .ok (.getfield 333, 3) := by decide +kernel
theorem dX11_crowdsAgree_93 : decode cX11_crowdsAgree 93 = .ok (.iload 7, 2) := by decide +kernel
theorem dX11_crowdsAgree_95 : decode cX11_crowdsAgree 95 = .ok (.iconst 2, 1) := by decide +kernel
theorem dX11_crowdsAgree_96 : decode cX11_crowdsAgree 96 = .ok (.iadd, 1) := by decide +kernel
theorem dX11_crowdsAgree_97 : decode cX11_crowdsAgree 97 = .ok (.laload, 1) := by decide +kernel
theorem dX11_crowdsAgree_98 : decode cX11_crowdsAgree 98 = .ok (.iload 6, 2) := by decide +kernel
theorem dX11_crowdsAgree_100 : decode cX11_crowdsAgree 100 = .ok (.i2l, 1) := by decide +kernel
theorem dX11_crowdsAgree_101 : decode cX11_crowdsAgree 101 = .ok (.lcmp, 1) := by decide +kernel
theorem dX11_crowdsAgree_102 : decode cX11_crowdsAgree 102 = .ok (.ifCond .eq 5, 3) := by decide +kernel
theorem dX11_crowdsAgree_105 : decode cX11_crowdsAgree 105 = .ok (.iconst 0, 1) := by decide +kernel
theorem dX11_crowdsAgree_106 : decode cX11_crowdsAgree 106 = .ok (.ireturn, 1) := by decide +kernel
theorem dX11_crowdsAgree_107 : decode cX11_crowdsAgree 107 = .ok (.iinc 7 3, 3) := by decide +kernel
theorem dX11_crowdsAgree_110 : decode cX11_crowdsAgree 110 = .ok (.goto (-76), 3) := by decide +kernel
theorem dX11_crowdsAgree_113 : decode cX11_crowdsAgree 113 = .ok (.iconst 1, 1) := by decide +kernel
theorem dX11_crowdsAgree_114 : decode cX11_crowdsAgree 114 = .ok (.ireturn, 1) := by decide +kernel
theorem dX11_agree_0 : decode cX11_agree 0 = .ok (.aload_n 0, 1) := by decide +kernel
theorem dX11_agree_1 : decode cX11_agree 1 = .ok (.iload_n 2, 1) := by decide +kernel
theorem dX11_agree_2 : decode cX11_agree 2 = .ok (.iload_n 3, 1) := by decide +kernel
theorem dX11_agree_3 : decode cX11_agree 3 = .ok (.invokevirtual 96, 3) := by decide +kernel
theorem dX11_agree_6 : decode cX11_agree 6 = .ok (.ifCond .ne 6, 3) := by decide +kernel
theorem dX11_agree_9 : decode cX11_agree 9 = .ok (.bipush (-2), 2) := by decide +kernel
theorem dX11_agree_11 : decode cX11_agree 11 = .ok (.ireturn, 1) := by decide +kernel
theorem dX11_agree_12 : decode cX11_agree 12 = .ok (.aload_n 0, 1) := by decide +kernel
theorem dX11_agree_13 : decode cX11_agree 13 = .ok (.iload_n 1, 1) := by decide +kernel
theorem dX11_agree_14 : decode cX11_agree 14 = .ok (.invokevirtual 326, 3) := by decide +kernel
theorem dX11_agree_17 : decode cX11_agree 17 = .ok (.istore 4, 2) := by decide +kernel
theorem dX11_agree_19 : decode cX11_agree 19 = .ok (.iload 4, 2) := by decide +kernel
theorem dX11_agree_21 : decode cX11_agree 21 = .ok (.ifCond .eq 6, 3) := by decide +kernel
theorem dX11_agree_24 : decode cX11_agree 24 = .ok (.iload 4, 2) := by decide +kernel
theorem dX11_agree_26 : decode cX11_agree 26 = .ok (.ireturn, 1) := by decide +kernel
theorem dX11_agree_27 : decode cX11_agree 27 = .ok (.iconst 0, 1) := by decide +kernel
theorem dX11_agree_28 : decode cX11_agree 28 = .ok (.istore 5, 2) := by decide +kernel
theorem dX11_agree_30 : decode cX11_agree 30 = .ok (.iconst 0, 1) := by decide +kernel
theorem dX11_agree_31 : decode cX11_agree 31 = .ok (.istore 6, 2) := by decide +kernel
theorem dX11_agree_33 : decode cX11_agree 33 = .ok (.iload 6, 2) := by decide +kernel
theorem dX11_agree_35 : decode cX11_agree 35 = .ok (.bipush 99, 2) := by decide +kernel
theorem dX11_agree_37 : decode cX11_agree 37 = .ok (.if_icmp .gt 24, 3) := by decide +kernel
theorem dX11_agree_40 : decode cX11_agree 40 = .ok (.aload_n 0, 1) := by decide +kernel
theorem dX11_agree_41 : decode cX11_agree 41 = .ok (.iload_n 1, 1) := by decide +kernel
theorem dX11_agree_42 : decode cX11_agree 42 = .ok (.iload_n 2, 1) := by decide +kernel
theorem dX11_agree_43 : decode cX11_agree 43 = .ok (.iload_n 3, 1) := by decide +kernel
theorem dX11_agree_44 : decode cX11_agree 44 = .ok (.iload 6, 2) := by decide +kernel
theorem dX11_agree_46 : decode cX11_agree 46 = .ok (.invokevirtual 329, 3) := by decide +kernel
theorem dX11_agree_49 : decode cX11_agree 49 = .ok (.ifCond .eq 6, 3) := by decide +kernel
theorem dX11_agree_52 : decode cX11_agree 52 = .ok (.iinc 5 1, 3) := by decide +kernel
theorem dX11_agree_55 : decode cX11_agree 55 = .ok (.iinc 6 1, 3) := by decide +kernel
theorem dX11_agree_58 : decode cX11_agree 58 = .ok (.goto (-25), 3) := by decide +kernel
theorem dX11_agree_61 : decode cX11_agree 61 = .ok (.iload 5, 2) := by decide +kernel
theorem dX11_agree_63 : decode cX11_agree 63 = .ok (.ireturn, 1) := by decide +kernel
theorem dX11_told_0 : decode cX11_told 0 = .ok (.aload_n 0, 1) := by decide +kernel
theorem dX11_told_1 : decode cX11_told 1 = .ok (.iload_n 2, 1) := by decide +kernel
theorem dX11_told_2 : decode cX11_told 2 = .ok (.iload_n 3, 1) := by decide +kernel
theorem dX11_told_3 : decode cX11_told 3 = .ok (.invokevirtual 96, 3) := by decide +kernel
theorem dX11_told_6 : decode cX11_told 6 = .ok (.ifCond .eq 13, 3) := by decide +kernel
theorem dX11_told_9 : decode cX11_told 9 = .ok (.iload 4, 2) := by decide +kernel
theorem dX11_told_11 : decode cX11_told 11 = .ok (.iconst 0, 1) := by decide +kernel
theorem dX11_told_12 : decode cX11_told 12 = .ok (.iconst 1, 1) := by decide +kernel
theorem dX11_told_13 : decode cX11_told 13 = .ok (.invokestatic 213, 3) := by decide +kernel
theorem dX11_told_16 : decode cX11_told 16 = .ok (.ifCond .ne 6, 3) := by decide +kernel
theorem dX11_told_19 : decode cX11_told 19 = .ok (.bipush (-2), 2) := by decide +kernel
theorem dX11_told_21 : decode cX11_told 21 = .ok (.ireturn, 1) := by decide +kernel
theorem dX11_told_22 : decode cX11_told 22 = .ok (.aload_n 0, 1) := by decide +kernel
theorem dX11_told_23 : decode cX11_told 23 = .ok (.iload_n 1, 1) := by decide +kernel
theorem dX11_told_24 : decode cX11_told 24 = .ok (.invokevirtual 326, 3) := by decide +kernel
theorem dX11_told_27 : decode cX11_told 27 = .ok (.istore 5, 2) := by decide +kernel
theorem dX11_told_29 : decode cX11_told 29 = .ok (.iload 5, 2) := by decide +kernel
theorem dX11_told_31 : decode cX11_told 31 = .ok (.ifCond .eq 6, 3) := by decide +kernel
theorem dX11_told_34 : decode cX11_told 34 = .ok (.iload 5, 2) := by decide +kernel
theorem dX11_told_36 : decode cX11_told 36 = .ok (.ireturn, 1) := by decide +kernel
theorem dX11_told_37 : decode cX11_told 37 = .ok (.iconst 0, 1) := by decide +kernel
theorem dX11_told_38 : decode cX11_told 38 = .ok (.istore 6, 2) := by decide +kernel
theorem dX11_told_40 : decode cX11_told 40 = .ok (.iload 6, 2) := by decide +kernel
theorem dX11_told_42 : decode cX11_told 42 = .ok (.bipush 99, 2) := by decide +kernel
theorem dX11_told_44 : decode cX11_told 44 = .ok (.if_icmp .gt 41, 3) := by decide +kernel
theorem dX11_told_47 : decode cX11_told 47 = .ok (.iload 4, 2) := by decide +kernel
theorem dX11_told_49 : decode cX11_told 49 = .ok (.ifCond .ne 8, 3) := by decide +kernel
theorem dX11_told_52 : decode cX11_told 52 = .ok (.iload 6, 2) := by decide +kernel
theorem dX11_told_54 : decode cX11_told 54 = .ok (.goto 8, 3) := by decide +kernel
theorem dX11_told_57 : decode cX11_told 57 = .ok (.bipush 99, 2) := by decide +kernel
theorem dX11_told_59 : decode cX11_told 59 = .ok (.iload 6, 2) := by decide +kernel
theorem dX11_told_61 : decode cX11_told 61 = .ok (.isub, 1) := by decide +kernel
theorem dX11_told_62 : decode cX11_told 62 = .ok (.istore 7, 2) := by decide +kernel
theorem dX11_told_64 : decode cX11_told 64 = .ok (.aload_n 0, 1) := by decide +kernel
theorem dX11_told_65 : decode cX11_told 65 = .ok (.iload_n 1, 1) := by decide +kernel
theorem dX11_told_66 : decode cX11_told 66 = .ok (.iload_n 2, 1) := by decide +kernel
theorem dX11_told_67 : decode cX11_told 67 = .ok (.iload_n 3, 1) := by decide +kernel
theorem dX11_told_68 : decode cX11_told 68 = .ok (.iload 7, 2) := by decide +kernel
theorem dX11_told_70 : decode cX11_told 70 = .ok (.invokevirtual 329, 3) := by decide +kernel
theorem dX11_told_73 : decode cX11_told 73 = .ok (.ifCond .eq 6, 3) := by decide +kernel
theorem dX11_told_76 : decode cX11_told 76 = .ok (.iload 7, 2) := by decide +kernel
theorem dX11_told_78 : decode cX11_told 78 = .ok (.ireturn, 1) := by decide +kernel
theorem dX11_told_79 : decode cX11_told 79 = .ok (.iinc 6 1, 3) := by decide +kernel
theorem dX11_told_82 : decode cX11_told 82 = .ok (.goto (-42), 3) := by decide +kernel
theorem dX11_told_85 : decode cX11_told 85 = .ok (.iconst (-1), 1) := by decide +kernel
theorem dX11_told_86 : decode cX11_told 86 = .ok (.ireturn, 1) := by decide +kernel
theorem dX11_odd_0 : decode cX11_odd 0 = .ok (.aload_n 0, 1) := by decide +kernel
theorem dX11_odd_1 : decode cX11_odd 1 = .ok (.invokevirtual 177, 3) := by decide +kernel
theorem dX11_odd_4 : decode cX11_odd 4 = .ok (.ifCond .eq 11, 3) := by decide +kernel
theorem dX11_odd_7 : decode cX11_odd 7 = .ok (.aload_n 0, 1) := by decide +kernel
theorem dX11_odd_8 : decode cX11_odd 8 = .ok (.iload_n 1, 1) := by decide +kernel
theorem dX11_odd_9 : decode cX11_odd 9 = .ok (.invokevirtual 326, 3) := by decide +kernel
theorem dX11_odd_12 : decode cX11_odd 12 = .ok (.goto 5, 3) := by decide +kernel
theorem dX11_odd_15 : decode cX11_odd 15 = .ok (.bipush (-2), 2) := by decide +kernel
theorem dX11_odd_17 : decode cX11_odd 17 = .ok (.istore_n 2, 1) := by decide +kernel
theorem dX11_odd_18 : decode cX11_odd 18 = .ok (.iload_n 2, 1) := by decide +kernel
theorem dX11_odd_19 : decode cX11_odd 19 = .ok (.ifCond .eq 5, 3) := by decide +kernel
theorem dX11_odd_22 : decode cX11_odd 22 = .ok (.iload_n 2, 1) := by decide +kernel
theorem dX11_odd_23 : decode cX11_odd 23 = .ok (.ireturn, 1) := by decide +kernel
theorem dX11_odd_24 : decode cX11_odd 24 = .ok (.aload_n 0, 1) := by decide +kernel
theorem dX11_odd_25 : decode cX11_odd 25 = .ok (.getfield 60, 3) := by decide +kernel
theorem dX11_odd_28 : decode cX11_odd 28 = .ok (.iload_n 1, 1) := by decide +kernel
theorem dX11_odd_29 : decode cX11_odd 29 = .ok (.aaload, 1) := by decide +kernel
theorem dX11_odd_30 : decode cX11_odd 30 = .ok (.astore_n 3, 1) := by decide +kernel
theorem dX11_odd_31 : decode cX11_odd 31 = .ok (.aload_n 3, 1) := by decide +kernel
theorem dX11_odd_32 : decode cX11_odd 32 = .ok (.ifnonnull 6, 3) := by decide +kernel
theorem dX11_odd_35 : decode cX11_odd 35 = .ok (.bipush (-6), 2) := by decide +kernel
theorem dX11_odd_37 : decode cX11_odd 37 = .ok (.ireturn, 1) := by decide +kernel
theorem dX11_odd_38 : decode cX11_odd 38 = .ok (.iconst 0, 1) := by decide +kernel
theorem dX11_odd_39 : decode cX11_odd 39 = .ok (.istore 4, 2) := by decide +kernel
theorem dX11_odd_41 : decode cX11_odd 41 = .ok (.iload 4, 2) := by decide +kernel
theorem dX11_odd_43 : decode cX11_odd 43 = .ok (.iconst 2, 1) := by decide +kernel
theorem dX11_odd_44 : decode cX11_odd 44 = .ok (.iadd, 1) := by decide +kernel
theorem dX11_odd_45 : decode cX11_odd 45 = .ok (.aload_n 3, 1) := by decide +kernel
theorem dX11_odd_46 : decode cX11_odd 46 = .ok (.getfield 332, 3) := by decide +kernel
theorem dX11_odd_49 : decode cX11_odd 49 = .ok (.if_icmp .ge 70, 3) := by decide +kernel
theorem dX11_odd_52 : decode cX11_odd 52 = .ok (.aload_n 3, 1) := by decide +kernel
theorem dX11_odd_53 : decode cX11_odd 53 = .ok (.getfield 333, 3) := by decide +kernel
theorem dX11_odd_56 : decode cX11_odd 56 = .ok (.iload 4, 2) := by decide +kernel
theorem dX11_odd_58 : decode cX11_odd 58 = .ok (.laload, 1) := by decide +kernel
theorem dX11_odd_59 : decode cX11_odd 59 = .ok (.l2i, 1) := by decide +kernel
theorem dX11_odd_60 : decode cX11_odd 60 = .ok (.istore 5, 2) := by decide +kernel
theorem dX11_odd_62 : decode cX11_odd 62 = .ok (.aload_n 3, 1) := by decide +kernel
theorem dX11_odd_63 : decode cX11_odd 63 = .ok (.getfield 333, 3) := by decide +kernel
theorem dX11_odd_66 : decode cX11_odd 66 = .ok (.iload 4, 2) := by decide +kernel
theorem dX11_odd_68 : decode cX11_odd 68 = .ok (.iconst 1, 1) := by decide +kernel
theorem dX11_odd_69 : decode cX11_odd 69 = .ok (.iadd, 1) := by decide +kernel
theorem dX11_odd_70 : decode cX11_odd 70 = .ok (.laload, 1) := by decide +kernel
theorem dX11_odd_71 : decode cX11_odd 71 = .ok (.l2i, 1) := by decide +kernel
theorem dX11_odd_72 : decode cX11_odd 72 = .ok (.istore 6, 2) := by decide +kernel
theorem dX11_odd_74 : decode cX11_odd 74 = .ok (.aload_n 0, 1) := by decide +kernel
theorem dX11_odd_75 : decode cX11_odd 75 = .ok (.iload 5, 2) := by decide +kernel
theorem dX11_odd_77 : decode cX11_odd 77 = .ok (.iload 6, 2) := by decide +kernel
theorem dX11_odd_79 : decode cX11_odd 79 = .ok (.invokevirtual 337, 3) := by decide +kernel
theorem dX11_odd_82 : decode cX11_odd 82 = .ok (.istore 7, 2) := by decide +kernel
theorem dX11_odd_84 : decode cX11_odd 84 = .ok (.aload_n 0, 1) := by decide +kernel
theorem dX11_odd_85 : decode cX11_odd 85 = .ok (.iload 5, 2) := by decide +kernel
theorem dX11_odd_87 : decode cX11_odd 87 = .ok (.iload 6, 2) := by decide +kernel
theorem dX11_odd_89 : decode cX11_odd 89 = .ok (.iload 7, 2) := by decide +kernel
theorem dX11_odd_91 : decode cX11_odd 91 = .ok (.invokevirtual 339, 3) := by decide +kernel
theorem dX11_odd_94 : decode cX11_odd 94 = .ok (.i2l, 1) := by decide +kernel
theorem dX11_odd_95 : decode cX11_odd 95 = .ok (.aload_n 3, 1) := by decide +kernel
theorem dX11_odd_96 : decode cX11_odd 96 = .ok (.getfield 333, 3) := by decide +kernel
theorem dX11_odd_99 : decode cX11_odd 99 = .ok (.iload 4, 2) := by decide +kernel
theorem dX11_odd_101 : decode cX11_odd 101 = .ok (.iconst 2, 1) := by decide +kernel
theorem dX11_odd_102 : decode cX11_odd 102 = .ok (.iadd, 1) := by decide +kernel
theorem dX11_odd_103 : decode cX11_odd 103 = .ok (.laload, 1) := by decide +kernel
theorem dX11_odd_104 : decode cX11_odd 104 = .ok (.lcmp, 1) := by decide +kernel
theorem dX11_odd_105 : decode cX11_odd 105 = .ok (.ifCond .eq 8, 3) := by decide +kernel
theorem dX11_odd_108 : decode cX11_odd 108 = .ok (.iload 4, 2) := by decide +kernel
theorem dX11_odd_110 : decode cX11_odd 110 = .ok (.iconst 3, 1) := by decide +kernel
theorem dX11_odd_111 : decode cX11_odd 111 = .ok (.idiv, 1) := by decide +kernel
theorem dX11_odd_112 : decode cX11_odd 112 = .ok (.ireturn, 1) := by decide +kernel
theorem dX11_odd_113 : decode cX11_odd 113 = .ok (.iinc 4 3, 3) := by decide +kernel
theorem dX11_odd_116 : decode cX11_odd 116 = .ok (.goto (-75), 3) := by decide +kernel
theorem dX11_odd_119 : decode cX11_odd 119 = .ok (.iconst (-1), 1) := by decide +kernel
theorem dX11_odd_120 : decode cX11_odd 120 = .ok (.ireturn, 1) := by decide +kernel
theorem dX11_rowsThere_0 : decode cX11_rowsThere 0 = .ok (.iconst 0, 1) := by decide +kernel
theorem dX11_rowsThere_1 : decode cX11_rowsThere 1 = .ok (.istore_n 1, 1) := by decide +kernel
theorem dX11_rowsThere_2 : decode cX11_rowsThere 2 = .ok (.iconst 0, 1) := by decide +kernel
theorem dX11_rowsThere_3 : decode cX11_rowsThere 3 = .ok (.istore_n 2, 1) := by decide +kernel
theorem dX11_rowsThere_4 : decode cX11_rowsThere 4 = .ok (.iload_n 2, 1) := by decide +kernel
theorem dX11_rowsThere_5 : decode cX11_rowsThere 5 = .ok (.iconst 4, 1) := by decide +kernel
theorem dX11_rowsThere_6 : decode cX11_rowsThere 6 = .ok (.if_icmp .ge 21, 3) := by decide +kernel
theorem dX11_rowsThere_9 : decode cX11_rowsThere 9 = .ok (.aload_n 0, 1) := by decide +kernel
theorem dX11_rowsThere_10 : decode cX11_rowsThere 10 = .ok (.getfield 60, 3) := by decide +kernel
theorem dX11_rowsThere_13 : decode cX11_rowsThere 13 = .ok (.iload_n 2, 1) := by decide +kernel
theorem dX11_rowsThere_14 : decode cX11_rowsThere 14 = .ok (.aaload, 1) := by decide +kernel
theorem dX11_rowsThere_15 : decode cX11_rowsThere 15 = .ok (.ifnull 6, 3) := by decide +kernel
theorem dX11_rowsThere_18 : decode cX11_rowsThere 18 = .ok (.iinc 1 1, 3) := by decide +kernel
theorem dX11_rowsThere_21 : decode cX11_rowsThere 21 = .ok (.iinc 2 1, 3) := by decide +kernel
theorem dX11_rowsThere_24 : decode cX11_rowsThere 24 = .ok (.goto (-20), 3) := by decide +kernel
theorem dX11_rowsThere_27 : decode cX11_rowsThere 27 = .ok (.iload_n 1, 1) := by decide +kernel
theorem dX11_rowsThere_28 : decode cX11_rowsThere 28 = .ok (.ireturn, 1) := by decide +kernel
theorem dX11_count_0 : decode cX11_count 0 = .ok (.iload_n 1, 1) := by decide +kernel
theorem dX11_count_1 : decode cX11_count 1 = .ok (.tableswitch 126 0 8 #[51, 59, 70, 81, 92, 100, 108, 116, 121], 51) := by decide +kernel
theorem dX11_count_52 : decode cX11_count 52 = .ok (.aload_n 0, 1) := by decide +kernel
theorem dX11_count_53 : decode cX11_count 53 = .ok (.getfield 26, 3) := by decide +kernel
theorem dX11_count_56 : decode cX11_count 56 = .ok (.getfield 192, 3) := by decide +kernel
theorem dX11_count_59 : decode cX11_count 59 = .ok (.ireturn, 1) := by decide +kernel
theorem dX11_count_60 : decode cX11_count 60 = .ok (.aload_n 0, 1) := by decide +kernel
theorem dX11_count_61 : decode cX11_count 61 = .ok (.getfield 26, 3) := by decide +kernel
theorem dX11_count_64 : decode cX11_count 64 = .ok (.getfield 100, 3) := by decide +kernel
theorem dX11_count_67 : decode cX11_count 67 = .ok (.getfield 342, 3) := by decide +kernel
theorem dX11_count_70 : decode cX11_count 70 = .ok (.ireturn, 1) := by decide +kernel
theorem dX11_count_71 : decode cX11_count 71 = .ok (.aload_n 0, 1) := by decide +kernel
theorem dX11_count_72 : decode cX11_count 72 = .ok (.getfield 26, 3) := by decide +kernel
theorem dX11_count_75 : decode cX11_count 75 = .ok (.getfield 181, 3) := by decide +kernel
theorem dX11_count_78 : decode cX11_count 78 = .ok (.getfield 185, 3) := by decide +kernel
theorem dX11_count_81 : decode cX11_count 81 = .ok (.ireturn, 1) := by decide +kernel
theorem dX11_count_82 : decode cX11_count 82 = .ok (.aload_n 0, 1) := by decide +kernel
theorem dX11_count_83 : decode cX11_count 83 = .ok (.getfield 26, 3) := by decide +kernel
theorem dX11_count_86 : decode cX11_count 86 = .ok (.getfield 168, 3) := by decide +kernel
theorem dX11_count_89 : decode cX11_count 89 = .ok (.getfield 343, 3) := by decide +kernel
theorem dX11_count_92 : decode cX11_count 92 = .ok (.ireturn, 1) := by decide +kernel
theorem dX11_count_93 : decode cX11_count 93 = .ok (.aload_n 0, 1) := by decide +kernel
theorem dX11_count_94 : decode cX11_count 94 = .ok (.getfield 26, 3) := by decide +kernel
theorem dX11_count_97 : decode cX11_count 97 = .ok (.getfield 87, 3) := by decide +kernel
theorem dX11_count_100 : decode cX11_count 100 = .ok (.ireturn, 1) := by decide +kernel
theorem dX11_count_101 : decode cX11_count 101 = .ok (.aload_n 0, 1) := by decide +kernel
theorem dX11_count_102 : decode cX11_count 102 = .ok (.getfield 10, 3) := by decide +kernel
theorem dX11_count_105 : decode cX11_count 105 = .ok (.getfield 68, 3) := by decide +kernel
theorem dX11_count_108 : decode cX11_count 108 = .ok (.ireturn, 1) := by decide +kernel
theorem dX11_count_109 : decode cX11_count 109 = .ok (.aload_n 0, 1) := by decide +kernel
theorem dX11_count_110 : decode cX11_count 110 = .ok (.getfield 26, 3) := by decide +kernel
theorem dX11_count_113 : decode cX11_count 113 = .ok (.getfield 284, 3) := by decide +kernel
theorem dX11_count_116 : decode cX11_count 116 = .ok (.ireturn, 1) := by decide +kernel
theorem dX11_count_117 : decode cX11_count 117 = .ok (.aload_n 0, 1) := by decide +kernel
theorem dX11_count_118 : decode cX11_count 118 = .ok (.invokevirtual 290, 3) := by decide +kernel
theorem dX11_count_121 : decode cX11_count 121 = .ok (.ireturn, 1) := by decide +kernel
theorem dX11_count_122 : decode cX11_count 122 = .ok (.aload_n 0, 1) := by decide +kernel
theorem dX11_count_123 : decode cX11_count 123 = .ok (.invokevirtual 344, 3) := by decide +kernel
theorem dX11_count_126 : decode cX11_count 126 = .ok (.ireturn, 1) := by decide +kernel
theorem dX11_count_127 : decode cX11_count 127 = .ok (.iconst (-1), 1) := by decide +kernel
theorem dX11_count_128 : decode cX11_count 128 = .ok (.ireturn, 1) := by decide +kernel
theorem dX11_image_0 : decode cX11_image 0 = .ok (.iload_n 1, 1) := by decide +kernel
theorem dX11_image_1 : decode cX11_image 1 = .ok (.iconst 0, 1) := by decide +kernel
theorem dX11_image_2 : decode cX11_image 2 = .ok (.iconst 2, 1) := by decide +kernel
theorem dX11_image_3 : decode cX11_image 3 = .ok (.invokestatic 213, 3) := by decide +kernel
theorem dX11_image_6 : decode cX11_image 6 = .ok (.ifCond .ne 6, 3) := by decide +kernel
theorem dX11_image_9 : decode cX11_image 9 = .ok (.bipush (-2), 2) := by decide +kernel
theorem dX11_image_11 : decode cX11_image 11 = .ok (.ireturn, 1) := by decide +kernel
theorem dX11_image_12 : decode cX11_image 12 = .ok (.aload_n 0, 1) := by decide +kernel
theorem dX11_image_13 : decode cX11_image 13 = .ok (.getfield 54, 3) := by decide +kernel
theorem dX11_image_16 : decode cX11_image 16 = .ok (.iload_n 1, 1) := by decide +kernel
theorem dX11_image_17 : decode cX11_image 17 = .ok (.aaload, 1) := by decide +kernel
theorem dX11_image_18 : decode cX11_image 18 = .ok (.ifnonnull 16, 3) := by decide +kernel
theorem dX11_image_21 : decode cX11_image 21 = .ok (.aload_n 0, 1) := by decide +kernel
theorem dX11_image_22 : decode cX11_image 22 = .ok (.getfield 54, 3) := by decide +kernel
theorem dX11_image_25 : decode cX11_image 25 = .ok (.iload_n 1, 1) := by decide +kernel
theorem dX11_image_26 : decode cX11_image 26 = .ok (.new 23, 3) := by decide +kernel
theorem dX11_image_29 : decode cX11_image 29 = .ok (.dup, 1) := by decide +kernel
theorem dX11_image_30 : decode cX11_image 30 = .ok (.invokespecial 25, 3) := by decide +kernel
theorem dX11_image_33 : decode cX11_image 33 = .ok (.aastore, 1) := by decide +kernel
theorem dX11_image_34 : decode cX11_image 34 = .ok (.aload_n 0, 1) := by decide +kernel
theorem dX11_image_35 : decode cX11_image 35 = .ok (.getfield 54, 3) := by decide +kernel
theorem dX11_image_38 : decode cX11_image 38 = .ok (.iload_n 1, 1) := by decide +kernel
theorem dX11_image_39 : decode cX11_image 39 = .ok (.aaload, 1) := by decide +kernel
theorem dX11_image_40 : decode cX11_image 40 = .ok (.aload_n 0, 1) := by decide +kernel
theorem dX11_image_41 : decode cX11_image 41 = .ok (.getfield 26, 3) := by decide +kernel
theorem dX11_image_44 : decode cX11_image 44 = .ok (.invokevirtual 83, 3) := by decide +kernel
theorem dX11_image_47 : decode cX11_image 47 = .ok (.iconst 0, 1) := by decide +kernel
theorem dX11_image_48 : decode cX11_image 48 = .ok (.ireturn, 1) := by decide +kernel
theorem dX11_restore_0 : decode cX11_restore 0 = .ok (.iload_n 1, 1) := by decide +kernel
theorem dX11_restore_1 : decode cX11_restore 1 = .ok (.iconst 0, 1) := by decide +kernel
theorem dX11_restore_2 : decode cX11_restore 2 = .ok (.iconst 2, 1) := by decide +kernel
theorem dX11_restore_3 : decode cX11_restore 3 = .ok (.invokestatic 213, 3) := by decide +kernel
theorem dX11_restore_6 : decode cX11_restore 6 = .ok (.ifCond .ne 6, 3) := by decide +kernel
