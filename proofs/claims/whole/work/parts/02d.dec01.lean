theorem dX5_bringWithout_11 : decode cX5_bringWithout 11 = .ok (.iload_n 1, 1) := by decide +kernel
theorem dX5_bringWithout_12 : decode cX5_bringWithout 12 = .ok (.iconst 0, 1) := by decide +kernel
theorem dX5_bringWithout_13 : decode cX5_bringWithout 13 = .ok (.iastore, 1) := by decide +kernel
theorem dX5_bringWithout_14 : decode cX5_bringWithout 14 = .ok (.aload_n 0, 1) := by decide +kernel
theorem dX5_bringWithout_15 : decode cX5_bringWithout 15 = .ok (.invokevirtual 87, 3) := by decide +kernel
theorem dX5_bringWithout_18 : decode cX5_bringWithout 18 = .ok (.istore_n 3, 1) := by decide +kernel
theorem dX5_bringWithout_19 : decode cX5_bringWithout 19 = .ok (.aload_n 0, 1) := by decide +kernel
theorem dX5_bringWithout_20 : decode cX5_bringWithout 20 = .ok (.getfield 15, 3) := by decide +kernel
theorem dX5_bringWithout_23 : decode cX5_bringWithout 23 = .ok (.iload_n 1, 1) := by decide +kernel
theorem dX5_bringWithout_24 : decode cX5_bringWithout 24 = .ok (.iload_n 2, 1) := by decide +kernel
theorem dX5_bringWithout_25 : decode cX5_bringWithout 25 = .ok (.iastore, 1) := by decide +kernel
theorem dX5_bringWithout_26 : decode cX5_bringWithout 26 = .ok (.iload_n 3, 1) := by decide +kernel
theorem dX5_bringWithout_27 : decode cX5_bringWithout 27 = .ok (.ireturn, 1) := by decide +kernel
theorem dX5_bringAt_0 : decode cX5_bringAt 0 = .ok (.aload_n 0, 1) := by decide +kernel
theorem dX5_bringAt_1 : decode cX5_bringAt 1 = .ok (.getfield 9, 3) := by decide +kernel
theorem dX5_bringAt_4 : decode cX5_bringAt 4 = .ok (.iload_n 1, 1) := by decide +kernel
theorem dX5_bringAt_5 : decode cX5_bringAt 5 = .ok (.iaload, 1) := by decide +kernel
theorem dX5_bringAt_6 : decode cX5_bringAt 6 = .ok (.istore 4, 2) := by decide +kernel
theorem dX5_bringAt_8 : decode cX5_bringAt 8 = .ok (.aload_n 0, 1) := by decide +kernel
theorem dX5_bringAt_9 : decode cX5_bringAt 9 = .ok (.getfield 15, 3) := by decide +kernel
theorem dX5_bringAt_12 : decode cX5_bringAt 12 = .ok (.iload_n 1, 1) := by decide +kernel
theorem dX5_bringAt_13 : decode cX5_bringAt 13 = .ok (.iaload, 1) := by decide +kernel
theorem dX5_bringAt_14 : decode cX5_bringAt 14 = .ok (.istore 5, 2) := by decide +kernel
theorem dX5_bringAt_16 : decode cX5_bringAt 16 = .ok (.aload_n 0, 1) := by decide +kernel
theorem dX5_bringAt_17 : decode cX5_bringAt 17 = .ok (.getfield 9, 3) := by decide +kernel
theorem dX5_bringAt_20 : decode cX5_bringAt 20 = .ok (.iload_n 1, 1) := by decide +kernel
theorem dX5_bringAt_21 : decode cX5_bringAt 21 = .ok (.iload_n 2, 1) := by decide +kernel
theorem dX5_bringAt_22 : decode cX5_bringAt 22 = .ok (.iastore, 1) := by decide +kernel
theorem dX5_bringAt_23 : decode cX5_bringAt 23 = .ok (.aload_n 0, 1) := by decide +kernel
theorem dX5_bringAt_24 : decode cX5_bringAt 24 = .ok (.getfield 15, 3) := by decide +kernel
theorem dX5_bringAt_27 : decode cX5_bringAt 27 = .ok (.iload_n 1, 1) := by decide +kernel
theorem dX5_bringAt_28 : decode cX5_bringAt 28 = .ok (.iload_n 3, 1) := by decide +kernel
theorem dX5_bringAt_29 : decode cX5_bringAt 29 = .ok (.iastore, 1) := by decide +kernel
theorem dX5_bringAt_30 : decode cX5_bringAt 30 = .ok (.aload_n 0, 1) := by decide +kernel
theorem dX5_bringAt_31 : decode cX5_bringAt 31 = .ok (.invokevirtual 87, 3) := by decide +kernel
theorem dX5_bringAt_34 : decode cX5_bringAt 34 = .ok (.istore 6, 2) := by decide +kernel
theorem dX5_bringAt_36 : decode cX5_bringAt 36 = .ok (.aload_n 0, 1) := by decide +kernel
theorem dX5_bringAt_37 : decode cX5_bringAt 37 = .ok (.getfield 9, 3) := by decide +kernel
theorem dX5_bringAt_40 : decode cX5_bringAt 40 = .ok (.iload_n 1, 1) := by decide +kernel
theorem dX5_bringAt_41 : decode cX5_bringAt 41 = .ok (.iload 4, 2) := by decide +kernel
theorem dX5_bringAt_43 : decode cX5_bringAt 43 = .ok (.iastore, 1) := by decide +kernel
theorem dX5_bringAt_44 : decode cX5_bringAt 44 = .ok (.aload_n 0, 1) := by decide +kernel
theorem dX5_bringAt_45 : decode cX5_bringAt 45 = .ok (.getfield 15, 3) := by decide +kernel
theorem dX5_bringAt_48 : decode cX5_bringAt 48 = .ok (.iload_n 1, 1) := by decide +kernel
theorem dX5_bringAt_49 : decode cX5_bringAt 49 = .ok (.iload 5, 2) := by decide +kernel
theorem dX5_bringAt_51 : decode cX5_bringAt 51 = .ok (.iastore, 1) := by decide +kernel
theorem dX5_bringAt_52 : decode cX5_bringAt 52 = .ok (.iload 6, 2) := by decide +kernel
theorem dX5_bringAt_54 : decode cX5_bringAt 54 = .ok (.ireturn, 1) := by decide +kernel
theorem dX7_addFour_0 : decode cX7_addFour 0 = .ok (.aload_n 0, 1) := by decide +kernel
theorem dX7_addFour_1 : decode cX7_addFour 1 = .ok (.getfield 15, 3) := by decide +kernel
theorem dX7_addFour_4 : decode cX7_addFour 4 = .ok (.iconst 4, 1) := by decide +kernel
theorem dX7_addFour_5 : decode cX7_addFour 5 = .ok (.iadd, 1) := by decide +kernel
theorem dX7_addFour_6 : decode cX7_addFour 6 = .ok (.sipush 2000, 3) := by decide +kernel
theorem dX7_addFour_9 : decode cX7_addFour 9 = .ok (.if_icmp .le 4, 3) := by decide +kernel
theorem dX7_addFour_12 : decode cX7_addFour 12 = .ok (.return_, 1) := by decide +kernel
theorem dX7_addFour_13 : decode cX7_addFour 13 = .ok (.bipush 24, 2) := by decide +kernel
theorem dX7_addFour_15 : decode cX7_addFour 15 = .ok (.istore_n 2, 1) := by decide +kernel
theorem dX7_addFour_16 : decode cX7_addFour 16 = .ok (.iload_n 2, 1) := by decide +kernel
theorem dX7_addFour_17 : decode cX7_addFour 17 = .ok (.ifCond .lt 36, 3) := by decide +kernel
theorem dX7_addFour_20 : decode cX7_addFour 20 = .ok (.aload_n 0, 1) := by decide +kernel
theorem dX7_addFour_21 : decode cX7_addFour 21 = .ok (.getfield 9, 3) := by decide +kernel
theorem dX7_addFour_24 : decode cX7_addFour 24 = .ok (.aload_n 0, 1) := by decide +kernel
theorem dX7_addFour_25 : decode cX7_addFour 25 = .ok (.getfield 15, 3) := by decide +kernel
theorem dX7_addFour_28 : decode cX7_addFour 28 = .ok (.iload_n 1, 1) := by decide +kernel
theorem dX7_addFour_29 : decode cX7_addFour 29 = .ok (.iload_n 2, 1) := by decide +kernel
theorem dX7_addFour_30 : decode cX7_addFour 30 = .ok (.iushr, 1) := by decide +kernel
theorem dX7_addFour_31 : decode cX7_addFour 31 = .ok (.sipush 255, 3) := by decide +kernel
theorem dX7_addFour_34 : decode cX7_addFour 34 = .ok (.iand, 1) := by decide +kernel
theorem dX7_addFour_35 : decode cX7_addFour 35 = .ok (.i2c, 1) := by decide +kernel
theorem dX7_addFour_36 : decode cX7_addFour 36 = .ok (.castore, 1) := by decide +kernel
theorem dX7_addFour_37 : decode cX7_addFour 37 = .ok (.aload_n 0, 1) := by decide +kernel
theorem dX7_addFour_38 : decode cX7_addFour 38 = .ok (.dup, 1) := by decide +kernel
theorem dX7_addFour_39 : decode cX7_addFour 39 = .ok (.getfield 15, 3) := by decide +kernel
theorem dX7_addFour_42 : decode cX7_addFour 42 = .ok (.iconst 1, 1) := by decide +kernel
theorem dX7_addFour_43 : decode cX7_addFour 43 = .ok (.iadd, 1) := by decide +kernel
theorem dX7_addFour_44 : decode cX7_addFour 44 = .ok (.putfield 15, 3) := by decide +kernel
theorem dX7_addFour_47 : decode cX7_addFour 47 = .ok (.iinc 2 (-8), 3) := by decide +kernel
theorem dX7_addFour_50 : decode cX7_addFour 50 = .ok (.goto (-34), 3) := by decide +kernel
theorem dX7_addFour_53 : decode cX7_addFour 53 = .ok (.return_, 1) := by decide +kernel
theorem dX8_turnYear_0 : decode cX8_turnYear 0 = .ok (.iconst 0, 1) := by decide +kernel
theorem dX8_turnYear_1 : decode cX8_turnYear 1 = .ok (.istore_n 1, 1) := by decide +kernel
theorem dX8_turnYear_2 : decode cX8_turnYear 2 = .ok (.iload_n 1, 1) := by decide +kernel
theorem dX8_turnYear_3 : decode cX8_turnYear 3 = .ok (.aload_n 0, 1) := by decide +kernel
theorem dX8_turnYear_4 : decode cX8_turnYear 4 = .ok (.getfield 24, 3) := by decide +kernel
theorem dX8_turnYear_7 : decode cX8_turnYear 7 = .ok (.bipush 20, 2) := by decide +kernel
theorem dX8_turnYear_9 : decode cX8_turnYear 9 = .ok (.imul, 1) := by decide +kernel
theorem dX8_turnYear_10 : decode cX8_turnYear 10 = .ok (.if_icmp .ge 50, 3) := by decide +kernel
theorem dX8_turnYear_13 : decode cX8_turnYear 13 = .ok (.aload_n 0, 1) := by decide +kernel
theorem dX8_turnYear_14 : decode cX8_turnYear 14 = .ok (.getfield 18, 3) := by decide +kernel
theorem dX8_turnYear_17 : decode cX8_turnYear 17 = .ok (.iload_n 1, 1) := by decide +kernel
theorem dX8_turnYear_18 : decode cX8_turnYear 18 = .ok (.aload_n 0, 1) := by decide +kernel
theorem dX8_turnYear_19 : decode cX8_turnYear 19 = .ok (.getfield 15, 3) := by decide +kernel
theorem dX8_turnYear_22 : decode cX8_turnYear 22 = .ok (.iload_n 1, 1) := by decide +kernel
theorem dX8_turnYear_23 : decode cX8_turnYear 23 = .ok (.iaload, 1) := by decide +kernel
theorem dX8_turnYear_24 : decode cX8_turnYear 24 = .ok (.iastore, 1) := by decide +kernel
theorem dX8_turnYear_25 : decode cX8_turnYear 25 = .ok (.aload_n 0, 1) := by decide +kernel
theorem dX8_turnYear_26 : decode cX8_turnYear 26 = .ok (.getfield 21, 3) := by decide +kernel
theorem dX8_turnYear_29 : decode cX8_turnYear 29 = .ok (.iload_n 1, 1) := by decide +kernel
theorem dX8_turnYear_30 : decode cX8_turnYear 30 = .ok (.iaload, 1) := by decide +kernel
theorem dX8_turnYear_31 : decode cX8_turnYear 31 = .ok (.iconst (-1), 1) := by decide +kernel
theorem dX8_turnYear_32 : decode cX8_turnYear 32 = .ok (.if_icmp .eq 15, 3) := by decide +kernel
theorem dX8_turnYear_35 : decode cX8_turnYear 35 = .ok (.aload_n 0, 1) := by decide +kernel
theorem dX8_turnYear_36 : decode cX8_turnYear 36 = .ok (.getfield 15, 3) := by decide +kernel
theorem dX8_turnYear_39 : decode cX8_turnYear 39 = .ok (.iload_n 1, 1) := by decide +kernel
theorem dX8_turnYear_40 : decode cX8_turnYear 40 = .ok (.aload_n 0, 1) := by decide +kernel
theorem dX8_turnYear_41 : decode cX8_turnYear 41 = .ok (.getfield 21, 3) := by decide +kernel
theorem dX8_turnYear_44 : decode cX8_turnYear 44 = .ok (.iload_n 1, 1) := by decide +kernel
theorem dX8_turnYear_45 : decode cX8_turnYear 45 = .ok (.iaload, 1) := by decide +kernel
theorem dX8_turnYear_46 : decode cX8_turnYear 46 = .ok (.iastore, 1) := by decide +kernel
theorem dX8_turnYear_47 : decode cX8_turnYear 47 = .ok (.aload_n 0, 1) := by decide +kernel
theorem dX8_turnYear_48 : decode cX8_turnYear 48 = .ok (.getfield 21, 3) := by decide +kernel
theorem dX8_turnYear_51 : decode cX8_turnYear 51 = .ok (.iload_n 1, 1) := by decide +kernel
theorem dX8_turnYear_52 : decode cX8_turnYear 52 = .ok (.iconst (-1), 1) := by decide +kernel
theorem dX8_turnYear_53 : decode cX8_turnYear 53 = .ok (.iastore, 1) := by decide +kernel
theorem dX8_turnYear_54 : decode cX8_turnYear 54 = .ok (.iinc 1 1, 3) := by decide +kernel
theorem dX8_turnYear_57 : decode cX8_turnYear 57 = .ok (.goto (-55), 3) := by decide +kernel
theorem dX8_turnYear_60 : decode cX8_turnYear 60 = .ok (.return_, 1) := by decide +kernel
theorem dX10_forget_0 : decode cX10_forget 0 = .ok (.aload_n 0, 1) := by decide +kernel
theorem dX10_forget_1 : decode cX10_forget 1 = .ok (.getfield 21, 3) := by decide +kernel
theorem dX10_forget_4 : decode cX10_forget 4 = .ok (.iconst 0, 1) := by decide +kernel
theorem dX10_forget_5 : decode cX10_forget 5 = .ok (.invokestatic 94, 3) := by decide +kernel
theorem dX10_forget_8 : decode cX10_forget 8 = .ok (.aload_n 0, 1) := by decide +kernel
theorem dX10_forget_9 : decode cX10_forget 9 = .ok (.getfield 24, 3) := by decide +kernel
theorem dX10_forget_12 : decode cX10_forget 12 = .ok (.iconst 0, 1) := by decide +kernel
theorem dX10_forget_13 : decode cX10_forget 13 = .ok (.invokestatic 94, 3) := by decide +kernel
theorem dX10_forget_16 : decode cX10_forget 16 = .ok (.aload_n 0, 1) := by decide +kernel
theorem dX10_forget_17 : decode cX10_forget 17 = .ok (.getfield 33, 3) := by decide +kernel
theorem dX10_forget_20 : decode cX10_forget 20 = .ok (.iconst 0, 1) := by decide +kernel
theorem dX10_forget_21 : decode cX10_forget 21 = .ok (.invokestatic 94, 3) := by decide +kernel
theorem dX10_forget_24 : decode cX10_forget 24 = .ok (.aload_n 0, 1) := by decide +kernel
theorem dX10_forget_25 : decode cX10_forget 25 = .ok (.getfield 36, 3) := by decide +kernel
theorem dX10_forget_28 : decode cX10_forget 28 = .ok (.iconst 0, 1) := by decide +kernel
theorem dX10_forget_29 : decode cX10_forget 29 = .ok (.invokestatic 94, 3) := by decide +kernel
theorem dX10_forget_32 : decode cX10_forget 32 = .ok (.aload_n 0, 1) := by decide +kernel
theorem dX10_forget_33 : decode cX10_forget 33 = .ok (.getfield 39, 3) := by decide +kernel
theorem dX10_forget_36 : decode cX10_forget 36 = .ok (.iconst 0, 1) := by decide +kernel
theorem dX10_forget_37 : decode cX10_forget 37 = .ok (.invokestatic 94, 3) := by decide +kernel
theorem dX10_forget_40 : decode cX10_forget 40 = .ok (.aload_n 0, 1) := by decide +kernel
theorem dX10_forget_41 : decode cX10_forget 41 = .ok (.getfield 42, 3) := by decide +kernel
theorem dX10_forget_44 : decode cX10_forget 44 = .ok (.iconst 0, 1) := by decide +kernel
theorem dX10_forget_45 : decode cX10_forget 45 = .ok (.invokestatic 94, 3) := by decide +kernel
theorem dX10_forget_48 : decode cX10_forget 48 = .ok (.aload_n 0, 1) := by decide +kernel
theorem dX10_forget_49 : decode cX10_forget 49 = .ok (.getfield 45, 3) := by decide +kernel
theorem dX10_forget_52 : decode cX10_forget 52 = .ok (.iconst 0, 1) := by decide +kernel
theorem dX10_forget_53 : decode cX10_forget 53 = .ok (.invokestatic 94, 3) := by decide +kernel
theorem dX10_forget_56 : decode cX10_forget 56 = .ok (.aload_n 0, 1) := by decide +kernel
theorem dX10_forget_57 : decode cX10_forget 57 = .ok (.getfield 48, 3) := by decide +kernel
theorem dX10_forget_60 : decode cX10_forget 60 = .ok (.iconst 0, 1) := by decide +kernel
theorem dX10_forget_61 : decode cX10_forget 61 = .ok (.invokestatic 94, 3) := by decide +kernel
theorem dX10_forget_64 : decode cX10_forget 64 = .ok (.aload_n 0, 1) := by decide +kernel
theorem dX10_forget_65 : decode cX10_forget 65 = .ok (.iconst 0, 1) := by decide +kernel
theorem dX10_forget_66 : decode cX10_forget 66 = .ok (.putfield 100, 3) := by decide +kernel
theorem dX10_forget_69 : decode cX10_forget 69 = .ok (.return_, 1) := by decide +kernel
theorem dX10_begin_0 : decode cX10_begin 0 = .ok (.aload_n 1, 1) := by decide +kernel
theorem dX10_begin_1 : decode cX10_begin 1 = .ok (.getfield 67, 3) := by decide +kernel
theorem dX10_begin_4 : decode cX10_begin 4 = .ok (.getfield 106, 3) := by decide +kernel
theorem dX10_begin_7 : decode cX10_begin 7 = .ok (.iload_n 2, 1) := by decide +kernel
theorem dX10_begin_8 : decode cX10_begin 8 = .ok (.iaload, 1) := by decide +kernel
theorem dX10_begin_9 : decode cX10_begin 9 = .ok (.istore 4, 2) := by decide +kernel
theorem dX10_begin_11 : decode cX10_begin 11 = .ok (.iload_n 3, 1) := by decide +kernel
theorem dX10_begin_12 : decode cX10_begin 12 = .ok (.aload_n 1, 1) := by decide +kernel
theorem dX10_begin_13 : decode cX10_begin 13 = .ok (.getfield 80, 3) := by decide +kernel
theorem dX10_begin_16 : decode cX10_begin 16 = .ok (.getfield 109, 3) := by decide +kernel
theorem dX10_begin_19 : decode cX10_begin 19 = .ok (.iload 4, 2) := by decide +kernel
theorem dX10_begin_21 : decode cX10_begin 21 = .ok (.iaload, 1) := by decide +kernel
theorem dX10_begin_22 : decode cX10_begin 22 = .ok (.isub, 1) := by decide +kernel
theorem dX10_begin_23 : decode cX10_begin 23 = .ok (.iconst 1, 1) := by decide +kernel
theorem dX10_begin_24 : decode cX10_begin 24 = .ok (.isub, 1) := by decide +kernel
theorem dX10_begin_25 : decode cX10_begin 25 = .ok (.istore 5, 2) := by decide +kernel
theorem dX10_begin_27 : decode cX10_begin 27 = .ok (.iload 5, 2) := by decide +kernel
theorem dX10_begin_29 : decode cX10_begin 29 = .ok (.ifCond .lt 66, 3) := by decide +kernel
theorem dX10_begin_32 : decode cX10_begin 32 = .ok (.aload_n 0, 1) := by decide +kernel
theorem dX10_begin_33 : decode cX10_begin 33 = .ok (.getfield 30, 3) := by decide +kernel
theorem dX10_begin_36 : decode cX10_begin 36 = .ok (.iload_n 2, 1) := by decide +kernel
theorem dX10_begin_37 : decode cX10_begin 37 = .ok (.iload 5, 2) := by decide +kernel
theorem dX10_begin_39 : decode cX10_begin 39 = .ok (.invokestatic 90, 3) := by decide +kernel
theorem dX10_begin_42 : decode cX10_begin 42 = .ok (.iaload, 1) := by decide +kernel
theorem dX10_begin_43 : decode cX10_begin 43 = .ok (.istore 6, 2) := by decide +kernel
theorem dX10_begin_45 : decode cX10_begin 45 = .ok (.aload_n 0, 1) := by decide +kernel
theorem dX10_begin_46 : decode cX10_begin 46 = .ok (.getfield 30, 3) := by decide +kernel
theorem dX10_begin_49 : decode cX10_begin 49 = .ok (.iload_n 2, 1) := by decide +kernel
theorem dX10_begin_50 : decode cX10_begin 50 = .ok (.iload 5, 2) := by decide +kernel
theorem dX10_begin_52 : decode cX10_begin 52 = .ok (.invokestatic 90, 3) := by decide +kernel
theorem dX10_begin_55 : decode cX10_begin 55 = .ok (.iconst 0, 1) := by decide +kernel
theorem dX10_begin_56 : decode cX10_begin 56 = .ok (.iastore, 1) := by decide +kernel
theorem dX10_begin_57 : decode cX10_begin 57 = .ok (.aload_n 0, 1) := by decide +kernel
theorem dX10_begin_58 : decode cX10_begin 58 = .ok (.getfield 33, 3) := by decide +kernel
theorem dX10_begin_61 : decode cX10_begin 61 = .ok (.iload_n 2, 1) := by decide +kernel
theorem dX10_begin_62 : decode cX10_begin 62 = .ok (.dup2, 1) := by decide +kernel
theorem dX10_begin_63 : decode cX10_begin 63 = .ok (.iaload, 1) := by decide +kernel
theorem dX10_begin_64 : decode cX10_begin 64 = .ok (.iload 6, 2) := by decide +kernel
theorem dX10_begin_66 : decode cX10_begin 66 = .ok (.isub, 1) := by decide +kernel
theorem dX10_begin_67 : decode cX10_begin 67 = .ok (.iastore, 1) := by decide +kernel
theorem dX10_begin_68 : decode cX10_begin 68 = .ok (.aload_n 0, 1) := by decide +kernel
theorem dX10_begin_69 : decode cX10_begin 69 = .ok (.getfield 42, 3) := by decide +kernel
theorem dX10_begin_72 : decode cX10_begin 72 = .ok (.iload_n 2, 1) := by decide +kernel
theorem dX10_begin_73 : decode cX10_begin 73 = .ok (.dup2, 1) := by decide +kernel
theorem dX10_begin_74 : decode cX10_begin 74 = .ok (.iaload, 1) := by decide +kernel
theorem dX10_begin_75 : decode cX10_begin 75 = .ok (.iload 6, 2) := by decide +kernel
theorem dX10_begin_77 : decode cX10_begin 77 = .ok (.iadd, 1) := by decide +kernel
theorem dX10_begin_78 : decode cX10_begin 78 = .ok (.iastore, 1) := by decide +kernel
theorem dX10_begin_79 : decode cX10_begin 79 = .ok (.aload_n 0, 1) := by decide +kernel
theorem dX10_begin_80 : decode cX10_begin 80 = .ok (.getfield 21, 3) := by decide +kernel
theorem dX10_begin_83 : decode cX10_begin 83 = .ok (.iload 4, 2) := by decide +kernel
theorem dX10_begin_85 : decode cX10_begin 85 = .ok (.iload_n 3, 1) := by decide +kernel
theorem dX10_begin_86 : decode cX10_begin 86 = .ok (.invokestatic 90, 3) := by decide +kernel
theorem dX10_begin_89 : decode cX10_begin 89 = .ok (.dup2, 1) := by decide +kernel
theorem dX10_begin_90 : decode cX10_begin 90 = .ok (.iaload, 1) := by decide +kernel
theorem dX10_begin_91 : decode cX10_begin 91 = .ok (.iload 6, 2) := by decide +kernel
theorem dX10_begin_93 : decode cX10_begin 93 = .ok (.iadd, 1) := by decide +kernel
theorem dX10_begin_94 : decode cX10_begin 94 = .ok (.iastore, 1) := by decide +kernel
theorem dX10_begin_95 : decode cX10_begin 95 = .ok (.aload_n 1, 1) := by decide +kernel
theorem dX10_begin_96 : decode cX10_begin 96 = .ok (.getfield 67, 3) := by decide +kernel
theorem dX10_begin_99 : decode cX10_begin 99 = .ok (.iload_n 2, 1) := by decide +kernel
theorem dX10_begin_100 : decode cX10_begin 100 = .ok (.iload_n 3, 1) := by decide +kernel
theorem dX10_begin_101 : decode cX10_begin 101 = .ok (.invokevirtual 112, 3) := by decide +kernel
theorem dX10_begin_104 : decode cX10_begin 104 = .ok (.istore 6, 2) := by decide +kernel
theorem dX10_begin_106 : decode cX10_begin 106 = .ok (.aload_n 0, 1) := by decide +kernel
theorem dX10_begin_107 : decode cX10_begin 107 = .ok (.getfield 30, 3) := by decide +kernel
theorem dX10_begin_110 : decode cX10_begin 110 = .ok (.iload_n 2, 1) := by decide +kernel
theorem dX10_begin_111 : decode cX10_begin 111 = .ok (.iload_n 3, 1) := by decide +kernel
theorem dX10_begin_112 : decode cX10_begin 112 = .ok (.invokestatic 90, 3) := by decide +kernel
theorem dX10_begin_115 : decode cX10_begin 115 = .ok (.iload 6, 2) := by decide +kernel
theorem dX10_begin_117 : decode cX10_begin 117 = .ok (.iastore, 1) := by decide +kernel
theorem dX10_begin_118 : decode cX10_begin 118 = .ok (.aload_n 0, 1) := by decide +kernel
theorem dX10_begin_119 : decode cX10_begin 119 = .ok (.getfield 33, 3) := by decide +kernel
theorem dX10_begin_122 : decode cX10_begin 122 = .ok (.iload_n 2, 1) := by decide +kernel
theorem dX10_begin_123 : decode cX10_begin 123 = .ok (.dup2, 1) := by decide +kernel
theorem dX10_begin_124 : decode cX10_begin 124 = .ok (.iaload, 1) := by decide +kernel
theorem dX10_begin_125 : decode cX10_begin 125 = .ok (.iload 6, 2) := by decide +kernel
theorem dX10_begin_127 : decode cX10_begin 127 = .ok (.iadd, 1) := by decide +kernel
theorem dX10_begin_128 : decode cX10_begin 128 = .ok (.iastore, 1) := by decide +kernel
theorem dX10_begin_129 : decode cX10_begin 129 = .ok (.return_, 1) := by decide +kernel
theorem dX10_supplyAt_0 : decode cX10_supplyAt 0 = .ok (.iconst 0, 1) := by decide +kernel
theorem dX10_supplyAt_1 : decode cX10_supplyAt 1 = .ok (.istore 4, 2) := by decide +kernel
theorem dX10_supplyAt_3 : decode cX10_supplyAt 3 = .ok (.iconst 0, 1) := by decide +kernel
theorem dX10_supplyAt_4 : decode cX10_supplyAt 4 = .ok (.istore 5, 2) := by decide +kernel
theorem dX10_supplyAt_6 : decode cX10_supplyAt 6 = .ok (.iload 5, 2) := by decide +kernel
theorem dX10_supplyAt_8 : decode cX10_supplyAt 8 = .ok (.aload_n 1, 1) := by decide +kernel
theorem dX10_supplyAt_9 : decode cX10_supplyAt 9 = .ok (.getfield 71, 3) := by decide +kernel
theorem dX10_supplyAt_12 : decode cX10_supplyAt 12 = .ok (.if_icmp .ge 43, 3) := by decide +kernel
theorem dX10_supplyAt_15 : decode cX10_supplyAt 15 = .ok (.aload_n 1, 1) := by decide +kernel
theorem dX10_supplyAt_16 : decode cX10_supplyAt 16 = .ok (.getfield 106, 3) := by decide +kernel
theorem dX10_supplyAt_19 : decode cX10_supplyAt 19 = .ok (.iload 5, 2) := by decide +kernel
theorem dX10_supplyAt_21 : decode cX10_supplyAt 21 = .ok (.iaload, 1) := by decide +kernel
theorem dX10_supplyAt_22 : decode cX10_supplyAt 22 = .ok (.iload_n 2, 1) := by decide +kernel
theorem dX10_supplyAt_23 : decode cX10_supplyAt 23 = .ok (.if_icmp .ne 26, 3) := by decide +kernel
theorem dX10_supplyAt_26 : decode cX10_supplyAt 26 = .ok (.aload_n 1, 1) := by decide +kernel
theorem dX10_supplyAt_27 : decode cX10_supplyAt 27 = .ok (.getfield 152, 3) := by decide +kernel
theorem dX10_supplyAt_30 : decode cX10_supplyAt 30 = .ok (.iload 5, 2) := by decide +kernel
theorem dX10_supplyAt_32 : decode cX10_supplyAt 32 = .ok (.iaload, 1) := by decide +kernel
theorem dX10_supplyAt_33 : decode cX10_supplyAt 33 = .ok (.iload_n 3, 1) := by decide +kernel
theorem dX10_supplyAt_34 : decode cX10_supplyAt 34 = .ok (.if_icmp .gt 15, 3) := by decide +kernel
theorem dX10_supplyAt_37 : decode cX10_supplyAt 37 = .ok (.iload 4, 2) := by decide +kernel
theorem dX10_supplyAt_39 : decode cX10_supplyAt 39 = .ok (.aload_n 0, 1) := by decide +kernel
theorem dX10_supplyAt_40 : decode cX10_supplyAt 40 = .ok (.getfield 33, 3) := by decide +kernel
theorem dX10_supplyAt_43 : decode cX10_supplyAt 43 = .ok (.iload 5, 2) := by decide +kernel
theorem dX10_supplyAt_45 : decode cX10_supplyAt 45 = .ok (.iaload, 1) := by decide +kernel
theorem dX10_supplyAt_46 : decode cX10_supplyAt 46 = .ok (.iadd, 1) := by decide +kernel
theorem dX10_supplyAt_47 : decode cX10_supplyAt 47 = .ok (.istore 4, 2) := by decide +kernel
theorem dX10_supplyAt_49 : decode cX10_supplyAt 49 = .ok (.iinc 5 1, 3) := by decide +kernel
theorem dX10_supplyAt_52 : decode cX10_supplyAt 52 = .ok (.goto (-46), 3) := by decide +kernel
theorem dX10_supplyAt_55 : decode cX10_supplyAt 55 = .ok (.iload 4, 2) := by decide +kernel
theorem dX10_supplyAt_57 : decode cX10_supplyAt 57 = .ok (.ireturn, 1) := by decide +kernel
theorem dX10_gather_0 : decode cX10_gather 0 = .ok (.aload_n 0, 1) := by decide +kernel
theorem dX10_gather_1 : decode cX10_gather 1 = .ok (.iconst 0, 1) := by decide +kernel
theorem dX10_gather_2 : decode cX10_gather 2 = .ok (.putfield 155, 3) := by decide +kernel
theorem dX10_gather_5 : decode cX10_gather 5 = .ok (.iconst 0, 1) := by decide +kernel
theorem dX10_gather_6 : decode cX10_gather 6 = .ok (.istore 5, 2) := by decide +kernel
theorem dX10_gather_8 : decode cX10_gather 8 = .ok (.iload 5, 2) := by decide +kernel
theorem dX10_gather_10 : decode cX10_gather 10 = .ok (.aload_n 1, 1) := by decide +kernel
theorem dX10_gather_11 : decode cX10_gather 11 = .ok (.getfield 158, 3) := by decide +kernel
theorem dX10_gather_14 : decode cX10_gather 14 = .ok (.if_icmp .ge 43, 3) := by decide +kernel
theorem dX10_gather_17 : decode cX10_gather 17 = .ok (.aload_n 1, 1) := by decide +kernel
theorem dX10_gather_18 : decode cX10_gather 18 = .ok (.iload 5, 2) := by decide +kernel
theorem dX10_gather_20 : decode cX10_gather 20 = .ok (.iload_n 2, 1) := by decide +kernel
theorem dX10_gather_21 : decode cX10_gather 21 = .ok (.iload_n 3, 1) := by decide +kernel
theorem dX10_gather_22 : decode cX10_gather 22 = .ok (.iload 4, 2) := by decide +kernel
theorem dX10_gather_24 : decode cX10_gather 24 = .ok (.invokevirtual 159, 3) := by decide +kernel
theorem dX10_gather_27 : decode cX10_gather 27 = .ok (.ifCond .eq 24, 3) := by decide +kernel
theorem dX10_gather_30 : decode cX10_gather 30 = .ok (.aload_n 0, 1) := by decide +kernel
theorem dX10_gather_31 : decode cX10_gather 31 = .ok (.getfield 51, 3) := by decide +kernel
theorem dX10_gather_34 : decode cX10_gather 34 = .ok (.aload_n 0, 1) := by decide +kernel
theorem dX10_gather_35 : decode cX10_gather 35 = .ok (.getfield 155, 3) := by decide +kernel
theorem dX10_gather_38 : decode cX10_gather 38 = .ok (.iload 5, 2) := by decide +kernel
theorem dX10_gather_40 : decode cX10_gather 40 = .ok (.iastore, 1) := by decide +kernel
theorem dX10_gather_41 : decode cX10_gather 41 = .ok (.aload_n 0, 1) := by decide +kernel
theorem dX10_gather_42 : decode cX10_gather 42 = .ok (.dup, 1) := by decide +kernel
theorem dX10_gather_43 : decode cX10_gather 43 = .ok (.getfield 155, 3) := by decide +kernel
theorem dX10_gather_46 : decode cX10_gather 46 = .ok (.iconst 1, 1) := by decide +kernel
theorem dX10_gather_47 : decode cX10_gather 47 = .ok (.iadd, 1) := by decide +kernel
theorem dX10_gather_48 : decode cX10_gather 48 = .ok (.putfield 155, 3) := by decide +kernel
theorem dX10_gather_51 : decode cX10_gather 51 = .ok (.iinc 5 1, 3) := by decide +kernel
theorem dX10_gather_54 : decode cX10_gather 54 = .ok (.goto (-46), 3) := by decide +kernel
theorem dX10_gather_57 : decode cX10_gather 57 = .ok (.return_, 1) := by decide +kernel
theorem dX10_draw_0 : decode cX10_draw 0 = .ok (.aload_n 0, 1) := by decide +kernel
theorem dX10_draw_1 : decode cX10_draw 1 = .ok (.ldc2_w 167, 3) := by decide +kernel
theorem dX10_draw_4 : decode cX10_draw 4 = .ok (.aload_n 0, 1) := by decide +kernel
theorem dX10_draw_5 : decode cX10_draw 5 = .ok (.getfield 57, 3) := by decide +kernel
theorem dX10_draw_8 : decode cX10_draw 8 = .ok (.lmul, 1) := by decide +kernel
theorem dX10_draw_9 : decode cX10_draw 9 = .ok (.ldc2_w 169, 3) := by decide +kernel
theorem dX10_draw_12 : decode cX10_draw 12 = .ok (.ladd, 1) := by decide +kernel
theorem dX10_draw_13 : decode cX10_draw 13 = .ok (.ldc2_w 171, 3) := by decide +kernel
theorem dX10_draw_16 : decode cX10_draw 16 = .ok (.lrem, 1) := by decide +kernel
theorem dX10_draw_17 : decode cX10_draw 17 = .ok (.putfield 57, 3) := by decide +kernel
theorem dX10_draw_20 : decode cX10_draw 20 = .ok (.iload_n 1, 1) := by decide +kernel
theorem dX10_draw_21 : decode cX10_draw 21 = .ok (.ifCond .le 18, 3) := by decide +kernel
theorem dX10_draw_24 : decode cX10_draw 24 = .ok (.aload_n 0, 1) := by decide +kernel
theorem dX10_draw_25 : decode cX10_draw 25 = .ok (.getfield 57, 3) := by decide +kernel
theorem dX10_draw_28 : decode cX10_draw 28 = .ok (.ldc2_w 173, 3) := by decide +kernel
theorem dX10_draw_31 : decode cX10_draw 31 = .ok (.ldiv, 1) := by decide +kernel
theorem dX10_draw_32 : decode cX10_draw 32 = .ok (.iload_n 1, 1) := by decide +kernel
theorem dX10_draw_33 : decode cX10_draw 33 = .ok (.i2l, 1) := by decide +kernel
theorem dX10_draw_34 : decode cX10_draw 34 = .ok (.lrem, 1) := by decide +kernel
theorem dX10_draw_35 : decode cX10_draw 35 = .ok (.l2i, 1) := by decide +kernel
theorem dX10_draw_36 : decode cX10_draw 36 = .ok (.goto 4, 3) := by decide +kernel
theorem dX10_draw_39 : decode cX10_draw 39 = .ok (.iconst 0, 1) := by decide +kernel
theorem dX10_draw_40 : decode cX10_draw 40 = .ok (.ireturn, 1) := by decide +kernel
theorem dX10_mix_0 : decode cX10_mix 0 = .ok (.aload_n 0, 1) := by decide +kernel
theorem dX10_mix_1 : decode cX10_mix 1 = .ok (.getfield 155, 3) := by decide +kernel
theorem dX10_mix_4 : decode cX10_mix 4 = .ok (.iconst 1, 1) := by decide +kernel
theorem dX10_mix_5 : decode cX10_mix 5 = .ok (.isub, 1) := by decide +kernel
theorem dX10_mix_6 : decode cX10_mix 6 = .ok (.istore_n 1, 1) := by decide +kernel
theorem dX10_mix_7 : decode cX10_mix 7 = .ok (.iload_n 1, 1) := by decide +kernel
theorem dX10_mix_8 : decode cX10_mix 8 = .ok (.iconst 1, 1) := by decide +kernel
theorem dX10_mix_9 : decode cX10_mix 9 = .ok (.if_icmp .lt 43, 3) := by decide +kernel
theorem dX10_mix_12 : decode cX10_mix 12 = .ok (.aload_n 0, 1) := by decide +kernel
theorem dX10_mix_13 : decode cX10_mix 13 = .ok (.iload_n 1, 1) := by decide +kernel
theorem dX10_mix_14 : decode cX10_mix 14 = .ok (.iconst 1, 1) := by decide +kernel
theorem dX10_mix_15 : decode cX10_mix 15 = .ok (.iadd, 1) := by decide +kernel
theorem dX10_mix_16 : decode cX10_mix 16 = .ok (.invokevirtual 163, 3) := by decide +kernel
theorem dX10_mix_19 : decode cX10_mix 19 = .ok (.istore_n 2, 1) := by decide +kernel
theorem dX10_mix_20 : decode cX10_mix 20 = .ok (.aload_n 0, 1) := by decide +kernel
theorem dX10_mix_21 : decode cX10_mix 21 = .ok (.getfield 51, 3) := by decide +kernel
theorem dX10_mix_24 : decode cX10_mix 24 = .ok (.iload_n 1, 1) := by decide +kernel
theorem dX10_mix_25 : decode cX10_mix 25 = .ok (.iaload, 1) := by decide +kernel
theorem dX10_mix_26 : decode cX10_mix 26 = .ok (.istore_n 3, 1) := by decide +kernel
theorem dX10_mix_27 : decode cX10_mix 27 = .ok (.aload_n 0, 1) := by decide +kernel
theorem dX10_mix_28 : decode cX10_mix 28 = .ok (.getfield 51, 3) := by decide +kernel
theorem dX10_mix_31 : decode cX10_mix 31 = .ok (.iload_n 1, 1) := by decide +kernel
theorem dX10_mix_32 : decode cX10_mix 32 = .ok (.aload_n 0, 1) := by decide +kernel
theorem dX10_mix_33 : decode cX10_mix 33 = .ok (.getfield 51, 3) := by decide +kernel
theorem dX10_mix_36 : decode cX10_mix 36 = .ok (.iload_n 2, 1) := by decide +kernel
theorem dX10_mix_37 : decode cX10_mix 37 = .ok (.iaload, 1) := by decide +kernel
theorem dX10_mix_38 : decode cX10_mix 38 = .ok (.iastore, 1) := by decide +kernel
theorem dX10_mix_39 : decode cX10_mix 39 = .ok (.aload_n 0, 1) := by decide +kernel
theorem dX10_mix_40 : decode cX10_mix 40 = .ok (.getfield 51, 3) := by decide +kernel
theorem dX10_mix_43 : decode cX10_mix 43 = .ok (.iload_n 2, 1) := by decide +kernel
theorem dX10_mix_44 : decode cX10_mix 44 = .ok (.iload_n 3, 1) := by decide +kernel
theorem dX10_mix_45 : decode cX10_mix 45 = .ok (.iastore, 1) := by decide +kernel
theorem dX10_mix_46 : decode cX10_mix 46 = .ok (.iinc 1 (-1), 3) := by decide +kernel
theorem dX10_mix_49 : decode cX10_mix 49 = .ok (.goto (-42), 3) := by decide +kernel
theorem dX10_mix_52 : decode cX10_mix 52 = .ok (.return_, 1) := by decide +kernel
theorem dX10_handOut_0 : decode cX10_handOut 0 = .ok (.iload_n 2, 1) := by decide +kernel
theorem dX10_handOut_1 : decode cX10_handOut 1 = .ok (.istore 4, 2) := by decide +kernel
theorem dX10_handOut_3 : decode cX10_handOut 3 = .ok (.iconst 0, 1) := by decide +kernel
theorem dX10_handOut_4 : decode cX10_handOut 4 = .ok (.istore 5, 2) := by decide +kernel
theorem dX10_handOut_6 : decode cX10_handOut 6 = .ok (.iload 5, 2) := by decide +kernel
theorem dX10_handOut_8 : decode cX10_handOut 8 = .ok (.aload_n 0, 1) := by decide +kernel
theorem dX10_handOut_9 : decode cX10_handOut 9 = .ok (.getfield 155, 3) := by decide +kernel
theorem dX10_handOut_12 : decode cX10_handOut 12 = .ok (.if_icmp .ge 65, 3) := by decide +kernel
theorem dX10_handOut_15 : decode cX10_handOut 15 = .ok (.aload_n 0, 1) := by decide +kernel
theorem dX10_handOut_16 : decode cX10_handOut 16 = .ok (.getfield 51, 3) := by decide +kernel
theorem dX10_handOut_19 : decode cX10_handOut 19 = .ok (.iload 5, 2) := by decide +kernel
theorem dX10_handOut_21 : decode cX10_handOut 21 = .ok (.iaload, 1) := by decide +kernel
theorem dX10_handOut_22 : decode cX10_handOut 22 = .ok (.istore 6, 2) := by decide +kernel
theorem dX10_handOut_24 : decode cX10_handOut 24 = .ok (.iload 4, 2) := by decide +kernel
theorem dX10_handOut_26 : decode cX10_handOut 26 = .ok (.aload_n 1, 1) := by decide +kernel
theorem dX10_handOut_27 : decode cX10_handOut 27 = .ok (.getfield 175, 3) := by decide +kernel
theorem dX10_handOut_30 : decode cX10_handOut 30 = .ok (.iload 6, 2) := by decide +kernel
theorem dX10_handOut_32 : decode cX10_handOut 32 = .ok (.iaload, 1) := by decide +kernel
theorem dX10_handOut_33 : decode cX10_handOut 33 = .ok (.invokestatic 132, 3) := by decide +kernel
theorem dX10_handOut_36 : decode cX10_handOut 36 = .ok (.istore 7, 2) := by decide +kernel
theorem dX10_handOut_38 : decode cX10_handOut 38 = .ok (.aload_n 0, 1) := by decide +kernel
theorem dX10_handOut_39 : decode cX10_handOut 39 = .ok (.getfield 48, 3) := by decide +kernel
theorem dX10_handOut_42 : decode cX10_handOut 42 = .ok (.iload 6, 2) := by decide +kernel
theorem dX10_handOut_44 : decode cX10_handOut 44 = .ok (.dup2, 1) := by decide +kernel
theorem dX10_handOut_45 : decode cX10_handOut 45 = .ok (.iaload, 1) := by decide +kernel
theorem dX10_handOut_46 : decode cX10_handOut 46 = .ok (.iload 7, 2) := by decide +kernel
theorem dX10_handOut_48 : decode cX10_handOut 48 = .ok (.iadd, 1) := by decide +kernel
theorem dX10_handOut_49 : decode cX10_handOut 49 = .ok (.iastore, 1) := by decide +kernel
theorem dX10_handOut_50 : decode cX10_handOut 50 = .ok (.aload_n 0, 1) := by decide +kernel
theorem dX10_handOut_51 : decode cX10_handOut 51 = .ok (.getfield 45, 3) := by decide +kernel
theorem dX10_handOut_54 : decode cX10_handOut 54 = .ok (.iload 6, 2) := by decide +kernel
theorem dX10_handOut_56 : decode cX10_handOut 56 = .ok (.dup2, 1) := by decide +kernel
theorem dX10_handOut_57 : decode cX10_handOut 57 = .ok (.iaload, 1) := by decide +kernel
theorem dX10_handOut_58 : decode cX10_handOut 58 = .ok (.iload 7, 2) := by decide +kernel
theorem dX10_handOut_60 : decode cX10_handOut 60 = .ok (.iload_n 3, 1) := by decide +kernel
theorem dX10_handOut_61 : decode cX10_handOut 61 = .ok (.imul, 1) := by decide +kernel
theorem dX10_handOut_62 : decode cX10_handOut 62 = .ok (.iadd, 1) := by decide +kernel
theorem dX10_handOut_63 : decode cX10_handOut 63 = .ok (.iastore, 1) := by decide +kernel
theorem dX10_handOut_64 : decode cX10_handOut 64 = .ok (.iload 4, 2) := by decide +kernel
theorem dX10_handOut_66 : decode cX10_handOut 66 = .ok (.iload 7, 2) := by decide +kernel
theorem dX10_handOut_68 : decode cX10_handOut 68 = .ok (.isub, 1) := by decide +kernel
theorem dX10_handOut_69 : decode cX10_handOut 69 = .ok (.istore 4, 2) := by decide +kernel
theorem dX10_handOut_71 : decode cX10_handOut 71 = .ok (.iinc 5 1, 3) := by decide +kernel
theorem dX10_handOut_74 : decode cX10_handOut 74 = .ok (.goto (-68), 3) := by decide +kernel
theorem dX10_handOut_77 : decode cX10_handOut 77 = .ok (.return_, 1) := by decide +kernel
theorem dX10_takeOldest_0 : decode cX10_takeOldest 0 = .ok (.iload_n 3, 1) := by decide +kernel
theorem dX10_takeOldest_1 : decode cX10_takeOldest 1 = .ok (.istore 4, 2) := by decide +kernel
theorem dX10_takeOldest_3 : decode cX10_takeOldest 3 = .ok (.iconst 0, 1) := by decide +kernel
theorem dX10_takeOldest_4 : decode cX10_takeOldest 4 = .ok (.istore 5, 2) := by decide +kernel
theorem dX10_takeOldest_6 : decode cX10_takeOldest 6 = .ok (.iload 5, 2) := by decide +kernel
theorem dX10_takeOldest_8 : decode cX10_takeOldest 8 = .ok (.iload_n 2, 1) := by decide +kernel
theorem dX10_takeOldest_9 : decode cX10_takeOldest 9 = .ok (.if_icmp .gt 55, 3) := by decide +kernel
theorem dX10_takeOldest_12 : decode cX10_takeOldest 12 = .ok (.iload 4, 2) := by decide +kernel
theorem dX10_takeOldest_14 : decode cX10_takeOldest 14 = .ok (.ifCond .le 50, 3) := by decide +kernel
theorem dX10_takeOldest_17 : decode cX10_takeOldest 17 = .ok (.iload 4, 2) := by decide +kernel
theorem dX10_takeOldest_19 : decode cX10_takeOldest 19 = .ok (.aload_n 0, 1) := by decide +kernel
theorem dX10_takeOldest_20 : decode cX10_takeOldest 20 = .ok (.getfield 30, 3) := by decide +kernel
theorem dX10_takeOldest_23 : decode cX10_takeOldest 23 = .ok (.iload_n 1, 1) := by decide +kernel
theorem dX10_takeOldest_24 : decode cX10_takeOldest 24 = .ok (.iload 5, 2) := by decide +kernel
theorem dX10_takeOldest_26 : decode cX10_takeOldest 26 = .ok (.invokestatic 90, 3) := by decide +kernel
theorem dX10_takeOldest_29 : decode cX10_takeOldest 29 = .ok (.iaload, 1) := by decide +kernel
theorem dX10_takeOldest_30 : decode cX10_takeOldest 30 = .ok (.invokestatic 132, 3) := by decide +kernel
theorem dX10_takeOldest_33 : decode cX10_takeOldest 33 = .ok (.istore 6, 2) := by decide +kernel
theorem dX10_takeOldest_35 : decode cX10_takeOldest 35 = .ok (.aload_n 0, 1) := by decide +kernel
theorem dX10_takeOldest_36 : decode cX10_takeOldest 36 = .ok (.getfield 30, 3) := by decide +kernel
theorem dX10_takeOldest_39 : decode cX10_takeOldest 39 = .ok (.iload_n 1, 1) := by decide +kernel
theorem dX10_takeOldest_40 : decode cX10_takeOldest 40 = .ok (.iload 5, 2) := by decide +kernel
theorem dX10_takeOldest_42 : decode cX10_takeOldest 42 = .ok (.invokestatic 90, 3) := by decide +kernel
theorem dX10_takeOldest_45 : decode cX10_takeOldest 45 = .ok (.dup2, 1) := by decide +kernel
theorem dX10_takeOldest_46 : decode cX10_takeOldest 46 = .ok (.iaload, 1) := by decide +kernel
theorem dX10_takeOldest_47 : decode cX10_takeOldest 47 = .ok (.iload 6, 2) := by decide +kernel
theorem dX10_takeOldest_49 : decode cX10_takeOldest 49 = .ok (.isub, 1) := by decide +kernel
theorem dX10_takeOldest_50 : decode cX10_takeOldest 50 = .ok (.iastore, 1) := by decide +kernel
theorem dX10_takeOldest_51 : decode cX10_takeOldest 51 = .ok (.iload 4, 2) := by decide +kernel
theorem dX10_takeOldest_53 : decode cX10_takeOldest 53 = .ok (.iload 6, 2) := by decide +kernel
theorem dX10_takeOldest_55 : decode cX10_takeOldest 55 = .ok (.isub, 1) := by decide +kernel
theorem dX10_takeOldest_56 : decode cX10_takeOldest 56 = .ok (.istore 4, 2) := by decide +kernel
theorem dX10_takeOldest_58 : decode cX10_takeOldest 58 = .ok (.iinc 5 1, 3) := by decide +kernel
theorem dX10_takeOldest_61 : decode cX10_takeOldest 61 = .ok (.goto (-55), 3) := by decide +kernel
theorem dX10_takeOldest_64 : decode cX10_takeOldest 64 = .ok (.return_, 1) := by decide +kernel
theorem dX10_sell_0 : decode cX10_sell 0 = .ok (.iload 4, 2) := by decide +kernel
theorem dX10_sell_2 : decode cX10_sell 2 = .ok (.istore 6, 2) := by decide +kernel
theorem dX10_sell_4 : decode cX10_sell 4 = .ok (.iconst 0, 1) := by decide +kernel
theorem dX10_sell_5 : decode cX10_sell 5 = .ok (.istore 7, 2) := by decide +kernel
theorem dX10_sell_7 : decode cX10_sell 7 = .ok (.iload 7, 2) := by decide +kernel
theorem dX10_sell_9 : decode cX10_sell 9 = .ok (.aload_n 1, 1) := by decide +kernel
theorem dX10_sell_10 : decode cX10_sell 10 = .ok (.getfield 71, 3) := by decide +kernel
theorem dX10_sell_13 : decode cX10_sell 13 = .ok (.if_icmp .ge 117, 3) := by decide +kernel
theorem dX10_sell_16 : decode cX10_sell 16 = .ok (.aload_n 1, 1) := by decide +kernel
theorem dX10_sell_17 : decode cX10_sell 17 = .ok (.getfield 106, 3) := by decide +kernel
theorem dX10_sell_20 : decode cX10_sell 20 = .ok (.iload 7, 2) := by decide +kernel
theorem dX10_sell_22 : decode cX10_sell 22 = .ok (.iaload, 1) := by decide +kernel
theorem dX10_sell_23 : decode cX10_sell 23 = .ok (.iload_n 2, 1) := by decide +kernel
theorem dX10_sell_24 : decode cX10_sell 24 = .ok (.if_icmp .ne 100, 3) := by decide +kernel
theorem dX10_sell_27 : decode cX10_sell 27 = .ok (.aload_n 1, 1) := by decide +kernel
theorem dX10_sell_28 : decode cX10_sell 28 = .ok (.getfield 152, 3) := by decide +kernel
theorem dX10_sell_31 : decode cX10_sell 31 = .ok (.iload 7, 2) := by decide +kernel
theorem dX10_sell_33 : decode cX10_sell 33 = .ok (.iaload, 1) := by decide +kernel
theorem dX10_sell_34 : decode cX10_sell 34 = .ok (.iload 5, 2) := by decide +kernel
theorem dX10_sell_36 : decode cX10_sell 36 = .ok (.if_icmp .gt 88, 3) := by decide +kernel
theorem dX10_sell_39 : decode cX10_sell 39 = .ok (.iload 6, 2) := by decide +kernel
theorem dX10_sell_41 : decode cX10_sell 41 = .ok (.aload_n 0, 1) := by decide +kernel
theorem dX10_sell_42 : decode cX10_sell 42 = .ok (.getfield 33, 3) := by decide +kernel
theorem dX10_sell_45 : decode cX10_sell 45 = .ok (.iload 7, 2) := by decide +kernel
theorem dX10_sell_47 : decode cX10_sell 47 = .ok (.iaload, 1) := by decide +kernel
theorem dX10_sell_48 : decode cX10_sell 48 = .ok (.invokestatic 132, 3) := by decide +kernel
theorem dX10_sell_51 : decode cX10_sell 51 = .ok (.istore 8, 2) := by decide +kernel
theorem dX10_sell_53 : decode cX10_sell 53 = .ok (.aload_n 0, 1) := by decide +kernel
theorem dX10_sell_54 : decode cX10_sell 54 = .ok (.iload 7, 2) := by decide +kernel
theorem dX10_sell_56 : decode cX10_sell 56 = .ok (.iload_n 3, 1) := by decide +kernel
theorem dX10_sell_57 : decode cX10_sell 57 = .ok (.iload 8, 2) := by decide +kernel
theorem dX10_sell_59 : decode cX10_sell 59 = .ok (.invokevirtual 178, 3) := by decide +kernel
theorem dX10_sell_62 : decode cX10_sell 62 = .ok (.aload_n 0, 1) := by decide +kernel
theorem dX10_sell_63 : decode cX10_sell 63 = .ok (.getfield 33, 3) := by decide +kernel
theorem dX10_sell_66 : decode cX10_sell 66 = .ok (.iload 7, 2) := by decide +kernel
theorem dX10_sell_68 : decode cX10_sell 68 = .ok (.dup2, 1) := by decide +kernel
theorem dX10_sell_69 : decode cX10_sell 69 = .ok (.iaload, 1) := by decide +kernel
theorem dX10_sell_70 : decode cX10_sell 70 = .ok (.iload 8, 2) := by decide +kernel
theorem dX10_sell_72 : decode cX10_sell 72 = .ok (.isub, 1) := by decide +kernel
theorem dX10_sell_73 : decode cX10_sell 73 = .ok (.iastore, 1) := by decide +kernel
theorem dX10_sell_74 : decode cX10_sell 74 = .ok (.aload_n 0, 1) := by decide +kernel
theorem dX10_sell_75 : decode cX10_sell 75 = .ok (.getfield 39, 3) := by decide +kernel
theorem dX10_sell_78 : decode cX10_sell 78 = .ok (.iload 7, 2) := by decide +kernel
theorem dX10_sell_80 : decode cX10_sell 80 = .ok (.dup2, 1) := by decide +kernel
theorem dX10_sell_81 : decode cX10_sell 81 = .ok (.iaload, 1) := by decide +kernel
theorem dX10_sell_82 : decode cX10_sell 82 = .ok (.iload 8, 2) := by decide +kernel
theorem dX10_sell_84 : decode cX10_sell 84 = .ok (.iadd, 1) := by decide +kernel
theorem dX10_sell_85 : decode cX10_sell 85 = .ok (.iastore, 1) := by decide +kernel
theorem dX10_sell_86 : decode cX10_sell 86 = .ok (.aload_n 0, 1) := by decide +kernel
theorem dX10_sell_87 : decode cX10_sell 87 = .ok (.getfield 36, 3) := by decide +kernel
theorem dX10_sell_90 : decode cX10_sell 90 = .ok (.iload 7, 2) := by decide +kernel
theorem dX10_sell_92 : decode cX10_sell 92 = .ok (.dup2, 1) := by decide +kernel
theorem dX10_sell_93 : decode cX10_sell 93 = .ok (.iaload, 1) := by decide +kernel
theorem dX10_sell_94 : decode cX10_sell 94 = .ok (.iload 8, 2) := by decide +kernel
theorem dX10_sell_96 : decode cX10_sell 96 = .ok (.iload 5, 2) := by decide +kernel
theorem dX10_sell_98 : decode cX10_sell 98 = .ok (.imul, 1) := by decide +kernel
theorem dX10_sell_99 : decode cX10_sell 99 = .ok (.iadd, 1) := by decide +kernel
theorem dX10_sell_100 : decode cX10_sell 100 = .ok (.iastore, 1) := by decide +kernel
theorem dX10_sell_101 : decode cX10_sell 101 = .ok (.aload_n 0, 1) := by decide +kernel
theorem dX10_sell_102 : decode cX10_sell 102 = .ok (.getfield 24, 3) := by decide +kernel
theorem dX10_sell_105 : decode cX10_sell 105 = .ok (.iload 7, 2) := by decide +kernel
theorem dX10_sell_107 : decode cX10_sell 107 = .ok (.iload_n 3, 1) := by decide +kernel
theorem dX10_sell_108 : decode cX10_sell 108 = .ok (.invokestatic 90, 3) := by decide +kernel
theorem dX10_sell_111 : decode cX10_sell 111 = .ok (.iload 8, 2) := by decide +kernel
theorem dX10_sell_113 : decode cX10_sell 113 = .ok (.iload 5, 2) := by decide +kernel
theorem dX10_sell_115 : decode cX10_sell 115 = .ok (.imul, 1) := by decide +kernel
theorem dX10_sell_116 : decode cX10_sell 116 = .ok (.iastore, 1) := by decide +kernel
theorem dX10_sell_117 : decode cX10_sell 117 = .ok (.iload 6, 2) := by decide +kernel
theorem dX10_sell_119 : decode cX10_sell 119 = .ok (.iload 8, 2) := by decide +kernel
theorem dX10_sell_121 : decode cX10_sell 121 = .ok (.isub, 1) := by decide +kernel
theorem dX10_sell_122 : decode cX10_sell 122 = .ok (.istore 6, 2) := by decide +kernel
theorem dX10_sell_124 : decode cX10_sell 124 = .ok (.iinc 7 1, 3) := by decide +kernel
theorem dX10_sell_127 : decode cX10_sell 127 = .ok (.goto (-120), 3) := by decide +kernel
theorem dX10_sell_130 : decode cX10_sell 130 = .ok (.return_, 1) := by decide +kernel
theorem dX10_trade_0 : decode cX10_trade 0 = .ok (.iload_n 2, 1) := by decide +kernel
theorem dX10_trade_1 : decode cX10_trade 1 = .ok (.iload_n 3, 1) := by decide +kernel
theorem dX10_trade_2 : decode cX10_trade 2 = .ok (.invokestatic 90, 3) := by decide +kernel
theorem dX10_trade_5 : decode cX10_trade 5 = .ok (.istore 4, 2) := by decide +kernel
theorem dX10_trade_7 : decode cX10_trade 7 = .ok (.aload_n 1, 1) := by decide +kernel
theorem dX10_trade_8 : decode cX10_trade 8 = .ok (.getfield 80, 3) := by decide +kernel
theorem dX10_trade_11 : decode cX10_trade 11 = .ok (.getfield 115, 3) := by decide +kernel
theorem dX10_trade_14 : decode cX10_trade 14 = .ok (.iload 4, 2) := by decide +kernel
theorem dX10_trade_16 : decode cX10_trade 16 = .ok (.iaload, 1) := by decide +kernel
theorem dX10_trade_17 : decode cX10_trade 17 = .ok (.istore 5, 2) := by decide +kernel
theorem dX10_trade_19 : decode cX10_trade 19 = .ok (.aload_n 0, 1) := by decide +kernel
theorem dX10_trade_20 : decode cX10_trade 20 = .ok (.getfield 9, 3) := by decide +kernel
theorem dX10_trade_23 : decode cX10_trade 23 = .ok (.iload 4, 2) := by decide +kernel
theorem dX10_trade_25 : decode cX10_trade 25 = .ok (.aload_n 0, 1) := by decide +kernel
theorem dX10_trade_26 : decode cX10_trade 26 = .ok (.aload_n 1, 1) := by decide +kernel
theorem dX10_trade_27 : decode cX10_trade 27 = .ok (.getfield 67, 3) := by decide +kernel
theorem dX10_trade_30 : decode cX10_trade 30 = .ok (.iload_n 2, 1) := by decide +kernel
theorem dX10_trade_31 : decode cX10_trade 31 = .ok (.iload 5, 2) := by decide +kernel
theorem dX10_trade_33 : decode cX10_trade 33 = .ok (.invokevirtual 118, 3) := by decide +kernel
theorem dX10_trade_36 : decode cX10_trade 36 = .ok (.iastore, 1) := by decide +kernel
theorem dX10_trade_37 : decode cX10_trade 37 = .ok (.aload_n 0, 1) := by decide +kernel
theorem dX10_trade_38 : decode cX10_trade 38 = .ok (.getfield 15, 3) := by decide +kernel
theorem dX10_trade_41 : decode cX10_trade 41 = .ok (.iload 4, 2) := by decide +kernel
theorem dX10_trade_43 : decode cX10_trade 43 = .ok (.aload_n 1, 1) := by decide +kernel
theorem dX10_trade_44 : decode cX10_trade 44 = .ok (.getfield 122, 3) := by decide +kernel
theorem dX10_trade_47 : decode cX10_trade 47 = .ok (.iload_n 2, 1) := by decide +kernel
theorem dX10_trade_48 : decode cX10_trade 48 = .ok (.iload_n 3, 1) := by decide +kernel
theorem dX10_trade_49 : decode cX10_trade 49 = .ok (.iload 5, 2) := by decide +kernel
theorem dX10_trade_51 : decode cX10_trade 51 = .ok (.invokevirtual 126, 3) := by decide +kernel
theorem dX10_trade_54 : decode cX10_trade 54 = .ok (.iastore, 1) := by decide +kernel
theorem dX10_trade_55 : decode cX10_trade 55 = .ok (.aload_n 0, 1) := by decide +kernel
theorem dX10_trade_56 : decode cX10_trade 56 = .ok (.getfield 18, 3) := by decide +kernel
theorem dX10_trade_59 : decode cX10_trade 59 = .ok (.iload 4, 2) := by decide +kernel
theorem dX10_trade_61 : decode cX10_trade 61 = .ok (.aload_n 0, 1) := by decide +kernel
theorem dX10_trade_62 : decode cX10_trade 62 = .ok (.getfield 9, 3) := by decide +kernel
theorem dX10_trade_65 : decode cX10_trade 65 = .ok (.iload 4, 2) := by decide +kernel
theorem dX10_trade_67 : decode cX10_trade 67 = .ok (.iaload, 1) := by decide +kernel
theorem dX10_trade_68 : decode cX10_trade 68 = .ok (.aload_n 0, 1) := by decide +kernel
theorem dX10_trade_69 : decode cX10_trade 69 = .ok (.getfield 15, 3) := by decide +kernel
theorem dX10_trade_72 : decode cX10_trade 72 = .ok (.iload 4, 2) := by decide +kernel
theorem dX10_trade_74 : decode cX10_trade 74 = .ok (.iaload, 1) := by decide +kernel
theorem dX10_trade_75 : decode cX10_trade 75 = .ok (.invokestatic 132, 3) := by decide +kernel
theorem dX10_trade_78 : decode cX10_trade 78 = .ok (.iastore, 1) := by decide +kernel
theorem dX10_trade_79 : decode cX10_trade 79 = .ok (.aload_n 0, 1) := by decide +kernel
theorem dX10_trade_80 : decode cX10_trade 80 = .ok (.aload_n 1, 1) := by decide +kernel
theorem dX10_trade_81 : decode cX10_trade 81 = .ok (.getfield 122, 3) := by decide +kernel
theorem dX10_trade_84 : decode cX10_trade 84 = .ok (.iload_n 2, 1) := by decide +kernel
theorem dX10_trade_85 : decode cX10_trade 85 = .ok (.iload_n 3, 1) := by decide +kernel
theorem dX10_trade_86 : decode cX10_trade 86 = .ok (.iload 5, 2) := by decide +kernel
theorem dX10_trade_88 : decode cX10_trade 88 = .ok (.invokevirtual 137, 3) := by decide +kernel
theorem dX10_trade_91 : decode cX10_trade 91 = .ok (.aload_n 0, 1) := by decide +kernel
theorem dX10_trade_92 : decode cX10_trade 92 = .ok (.getfield 15, 3) := by decide +kernel
theorem dX10_trade_95 : decode cX10_trade 95 = .ok (.iload 4, 2) := by decide +kernel
theorem dX10_trade_97 : decode cX10_trade 97 = .ok (.iaload, 1) := by decide +kernel
theorem dX10_trade_98 : decode cX10_trade 98 = .ok (.aload_n 0, 1) := by decide +kernel
theorem dX10_trade_99 : decode cX10_trade 99 = .ok (.getfield 9, 3) := by decide +kernel
theorem dX10_trade_102 : decode cX10_trade 102 = .ok (.iload 4, 2) := by decide +kernel
theorem dX10_trade_104 : decode cX10_trade 104 = .ok (.iaload, 1) := by decide +kernel
theorem dX10_trade_105 : decode cX10_trade 105 = .ok (.if_icmp .le 17, 3) := by decide +kernel
theorem dX10_trade_108 : decode cX10_trade 108 = .ok (.aload_n 0, 1) := by decide +kernel
theorem dX10_trade_109 : decode cX10_trade 109 = .ok (.dup, 1) := by decide +kernel
theorem dX10_trade_110 : decode cX10_trade 110 = .ok (.getfield 100, 3) := by decide +kernel
theorem dX10_trade_113 : decode cX10_trade 113 = .ok (.iconst 1, 1) := by decide +kernel
theorem dX10_trade_114 : decode cX10_trade 114 = .ok (.iadd, 1) := by decide +kernel
theorem dX10_trade_115 : decode cX10_trade 115 = .ok (.putfield 100, 3) := by decide +kernel
theorem dX10_trade_118 : decode cX10_trade 118 = .ok (.aload_n 0, 1) := by decide +kernel
theorem dX10_trade_119 : decode cX10_trade 119 = .ok (.invokevirtual 141, 3) := by decide +kernel
theorem dX10_trade_122 : decode cX10_trade 122 = .ok (.aload_n 0, 1) := by decide +kernel
theorem dX10_trade_123 : decode cX10_trade 123 = .ok (.aload_n 1, 1) := by decide +kernel
theorem dX10_trade_124 : decode cX10_trade 124 = .ok (.getfield 122, 3) := by decide +kernel
theorem dX10_trade_127 : decode cX10_trade 127 = .ok (.aload_n 0, 1) := by decide +kernel
theorem dX10_trade_128 : decode cX10_trade 128 = .ok (.getfield 9, 3) := by decide +kernel
theorem dX10_trade_131 : decode cX10_trade 131 = .ok (.iload 4, 2) := by decide +kernel
theorem dX10_trade_133 : decode cX10_trade 133 = .ok (.iaload, 1) := by decide +kernel
theorem dX10_trade_134 : decode cX10_trade 134 = .ok (.iload 5, 2) := by decide +kernel
theorem dX10_trade_136 : decode cX10_trade 136 = .ok (.invokevirtual 144, 3) := by decide +kernel
theorem dX10_trade_139 : decode cX10_trade 139 = .ok (.aload_n 0, 1) := by decide +kernel
theorem dX10_trade_140 : decode cX10_trade 140 = .ok (.aload_n 1, 1) := by decide +kernel
theorem dX10_trade_141 : decode cX10_trade 141 = .ok (.getfield 67, 3) := by decide +kernel
theorem dX10_trade_144 : decode cX10_trade 144 = .ok (.iload_n 2, 1) := by decide +kernel
theorem dX10_trade_145 : decode cX10_trade 145 = .ok (.iload_n 3, 1) := by decide +kernel
theorem dX10_trade_146 : decode cX10_trade 146 = .ok (.aload_n 0, 1) := by decide +kernel
theorem dX10_trade_147 : decode cX10_trade 147 = .ok (.getfield 18, 3) := by decide +kernel
theorem dX10_trade_150 : decode cX10_trade 150 = .ok (.iload 4, 2) := by decide +kernel
theorem dX10_trade_152 : decode cX10_trade 152 = .ok (.iaload, 1) := by decide +kernel
theorem dX10_trade_153 : decode cX10_trade 153 = .ok (.iload 5, 2) := by decide +kernel
theorem dX10_trade_155 : decode cX10_trade 155 = .ok (.invokevirtual 148, 3) := by decide +kernel
theorem dX10_trade_158 : decode cX10_trade 158 = .ok (.return_, 1) := by decide +kernel
theorem dX10_run_0 : decode cX10_run 0 = .ok (.aload_n 0, 1) := by decide +kernel
theorem dX10_run_1 : decode cX10_run 1 = .ok (.invokevirtual 54, 3) := by decide +kernel
theorem dX10_run_4 : decode cX10_run 4 = .ok (.aload_n 0, 1) := by decide +kernel
theorem dX10_run_5 : decode cX10_run 5 = .ok (.iload_n 2, 1) := by decide +kernel
theorem dX10_run_6 : decode cX10_run 6 = .ok (.i2l, 1) := by decide +kernel
theorem dX10_run_7 : decode cX10_run 7 = .ok (.putfield 57, 3) := by decide +kernel
theorem dX10_run_10 : decode cX10_run 10 = .ok (.iconst 0, 1) := by decide +kernel
theorem dX10_run_11 : decode cX10_run 11 = .ok (.istore_n 3, 1) := by decide +kernel
theorem dX10_run_12 : decode cX10_run 12 = .ok (.iload_n 3, 1) := by decide +kernel
theorem dX10_run_13 : decode cX10_run 13 = .ok (.aload_n 1, 1) := by decide +kernel
theorem dX10_run_14 : decode cX10_run 14 = .ok (.getfield 61, 3) := by decide +kernel
theorem dX10_run_17 : decode cX10_run 17 = .ok (.if_icmp .ge 106, 3) := by decide +kernel
theorem dX10_run_20 : decode cX10_run 20 = .ok (.iconst 0, 1) := by decide +kernel
theorem dX10_run_21 : decode cX10_run 21 = .ok (.istore 4, 2) := by decide +kernel
theorem dX10_run_23 : decode cX10_run 23 = .ok (.iload 4, 2) := by decide +kernel
theorem dX10_run_25 : decode cX10_run 25 = .ok (.aload_n 1, 1) := by decide +kernel
theorem dX10_run_26 : decode cX10_run 26 = .ok (.getfield 67, 3) := by decide +kernel
theorem dX10_run_29 : decode cX10_run 29 = .ok (.getfield 71, 3) := by decide +kernel
theorem dX10_run_32 : decode cX10_run 32 = .ok (.if_icmp .ge 17, 3) := by decide +kernel
theorem dX10_run_35 : decode cX10_run 35 = .ok (.aload_n 0, 1) := by decide +kernel
theorem dX10_run_36 : decode cX10_run 36 = .ok (.aload_n 1, 1) := by decide +kernel
theorem dX10_run_37 : decode cX10_run 37 = .ok (.iload 4, 2) := by decide +kernel
theorem dX10_run_39 : decode cX10_run 39 = .ok (.iload_n 3, 1) := by decide +kernel
theorem dX10_run_40 : decode cX10_run 40 = .ok (.invokevirtual 76, 3) := by decide +kernel
theorem dX10_run_43 : decode cX10_run 43 = .ok (.iinc 4 1, 3) := by decide +kernel
theorem dX10_run_46 : decode cX10_run 46 = .ok (.goto (-23), 3) := by decide +kernel
theorem dX10_run_49 : decode cX10_run 49 = .ok (.iconst 0, 1) := by decide +kernel
theorem dX10_run_50 : decode cX10_run 50 = .ok (.istore 4, 2) := by decide +kernel
theorem dX10_run_52 : decode cX10_run 52 = .ok (.iload 4, 2) := by decide +kernel
theorem dX10_run_54 : decode cX10_run 54 = .ok (.aload_n 1, 1) := by decide +kernel
theorem dX10_run_55 : decode cX10_run 55 = .ok (.getfield 80, 3) := by decide +kernel
theorem dX10_run_58 : decode cX10_run 58 = .ok (.getfield 84, 3) := by decide +kernel
theorem dX10_run_61 : decode cX10_run 61 = .ok (.if_icmp .ge 17, 3) := by decide +kernel
theorem dX10_run_64 : decode cX10_run 64 = .ok (.aload_n 0, 1) := by decide +kernel
theorem dX10_run_65 : decode cX10_run 65 = .ok (.aload_n 1, 1) := by decide +kernel
theorem dX10_run_66 : decode cX10_run 66 = .ok (.iload 4, 2) := by decide +kernel
theorem dX10_run_68 : decode cX10_run 68 = .ok (.iload_n 3, 1) := by decide +kernel
theorem dX10_run_69 : decode cX10_run 69 = .ok (.invokevirtual 87, 3) := by decide +kernel
theorem dX10_run_72 : decode cX10_run 72 = .ok (.iinc 4 1, 3) := by decide +kernel
theorem dX10_run_75 : decode cX10_run 75 = .ok (.goto (-23), 3) := by decide +kernel
theorem dX10_run_78 : decode cX10_run 78 = .ok (.iconst 0, 1) := by decide +kernel
theorem dX10_run_79 : decode cX10_run 79 = .ok (.istore 4, 2) := by decide +kernel
theorem dX10_run_81 : decode cX10_run 81 = .ok (.iload 4, 2) := by decide +kernel
theorem dX10_run_83 : decode cX10_run 83 = .ok (.aload_n 1, 1) := by decide +kernel
theorem dX10_run_84 : decode cX10_run 84 = .ok (.getfield 67, 3) := by decide +kernel
theorem dX10_run_87 : decode cX10_run 87 = .ok (.getfield 71, 3) := by decide +kernel
theorem dX10_run_90 : decode cX10_run 90 = .ok (.if_icmp .ge 27, 3) := by decide +kernel
theorem dX10_run_93 : decode cX10_run 93 = .ok (.aload_n 0, 1) := by decide +kernel
theorem dX10_run_94 : decode cX10_run 94 = .ok (.getfield 27, 3) := by decide +kernel
theorem dX10_run_97 : decode cX10_run 97 = .ok (.iload 4, 2) := by decide +kernel
theorem dX10_run_99 : decode cX10_run 99 = .ok (.iload_n 3, 1) := by decide +kernel
theorem dX10_run_100 : decode cX10_run 100 = .ok (.invokestatic 90, 3) := by decide +kernel
theorem dX10_run_103 : decode cX10_run 103 = .ok (.aload_n 0, 1) := by decide +kernel
theorem dX10_run_104 : decode cX10_run 104 = .ok (.getfield 33, 3) := by decide +kernel
theorem dX10_run_107 : decode cX10_run 107 = .ok (.iload 4, 2) := by decide +kernel
theorem dX10_run_109 : decode cX10_run 109 = .ok (.iaload, 1) := by decide +kernel
theorem dX10_run_110 : decode cX10_run 110 = .ok (.iastore, 1) := by decide +kernel
theorem dX10_run_111 : decode cX10_run 111 = .ok (.iinc 4 1, 3) := by decide +kernel
theorem dX10_run_114 : decode cX10_run 114 = .ok (.goto (-33), 3) := by decide +kernel
theorem dX10_run_117 : decode cX10_run 117 = .ok (.iinc 3 1, 3) := by decide +kernel
theorem dX10_run_120 : decode cX10_run 120 = .ok (.goto (-108), 3) := by decide +kernel
theorem dX10_run_123 : decode cX10_run 123 = .ok (.return_, 1) := by decide +kernel
theorem dX10_takings_0 : decode cX10_takings 0 = .ok (.iconst 0, 1) := by decide +kernel
theorem dX10_takings_1 : decode cX10_takings 1 = .ok (.istore_n 3, 1) := by decide +kernel
theorem dX10_takings_2 : decode cX10_takings 2 = .ok (.iconst 0, 1) := by decide +kernel
theorem dX10_takings_3 : decode cX10_takings 3 = .ok (.istore 4, 2) := by decide +kernel
theorem dX10_takings_5 : decode cX10_takings 5 = .ok (.iload 4, 2) := by decide +kernel
theorem dX10_takings_7 : decode cX10_takings 7 = .ok (.iconst 5, 1) := by decide +kernel
theorem dX10_takings_8 : decode cX10_takings 8 = .ok (.if_icmp .ge 33, 3) := by decide +kernel
theorem dX10_takings_11 : decode cX10_takings 11 = .ok (.iload_n 1, 1) := by decide +kernel
theorem dX10_takings_12 : decode cX10_takings 12 = .ok (.iload 4, 2) := by decide +kernel
theorem dX10_takings_14 : decode cX10_takings 14 = .ok (.ishr, 1) := by decide +kernel
theorem dX10_takings_15 : decode cX10_takings 15 = .ok (.iconst 1, 1) := by decide +kernel
theorem dX10_takings_16 : decode cX10_takings 16 = .ok (.iand, 1) := by decide +kernel
theorem dX10_takings_17 : decode cX10_takings 17 = .ok (.iconst 1, 1) := by decide +kernel
theorem dX10_takings_18 : decode cX10_takings 18 = .ok (.if_icmp .ne 17, 3) := by decide +kernel
theorem dX10_takings_21 : decode cX10_takings 21 = .ok (.iload_n 3, 1) := by decide +kernel
theorem dX10_takings_22 : decode cX10_takings 22 = .ok (.aload_n 0, 1) := by decide +kernel
theorem dX10_takings_23 : decode cX10_takings 23 = .ok (.getfield 24, 3) := by decide +kernel
theorem dX10_takings_26 : decode cX10_takings 26 = .ok (.iload 4, 2) := by decide +kernel
theorem dX10_takings_28 : decode cX10_takings 28 = .ok (.iload_n 2, 1) := by decide +kernel
theorem dX10_takings_29 : decode cX10_takings 29 = .ok (.invokestatic 90, 3) := by decide +kernel
theorem dX10_takings_32 : decode cX10_takings 32 = .ok (.iaload, 1) := by decide +kernel
theorem dX10_takings_33 : decode cX10_takings 33 = .ok (.iadd, 1) := by decide +kernel
theorem dX10_takings_34 : decode cX10_takings 34 = .ok (.istore_n 3, 1) := by decide +kernel
theorem dX10_takings_35 : decode cX10_takings 35 = .ok (.iinc 4 1, 3) := by decide +kernel
theorem dX10_takings_38 : decode cX10_takings 38 = .ok (.goto (-33), 3) := by decide +kernel
theorem dX10_takings_41 : decode cX10_takings 41 = .ok (.iload_n 3, 1) := by decide +kernel
theorem dX10_takings_42 : decode cX10_takings 42 = .ok (.ireturn, 1) := by decide +kernel
theorem dX10_richestDay_0 : decode cX10_richestDay 0 = .ok (.iconst 0, 1) := by decide +kernel
theorem dX10_richestDay_1 : decode cX10_richestDay 1 = .ok (.istore_n 2, 1) := by decide +kernel
theorem dX10_richestDay_2 : decode cX10_richestDay 2 = .ok (.iconst 1, 1) := by decide +kernel
theorem dX10_richestDay_3 : decode cX10_richestDay 3 = .ok (.istore_n 3, 1) := by decide +kernel
theorem dX10_richestDay_4 : decode cX10_richestDay 4 = .ok (.iload_n 3, 1) := by decide +kernel
theorem dX10_richestDay_5 : decode cX10_richestDay 5 = .ok (.bipush 20, 2) := by decide +kernel
theorem dX10_richestDay_7 : decode cX10_richestDay 7 = .ok (.if_icmp .ge 26, 3) := by decide +kernel
theorem dX10_richestDay_10 : decode cX10_richestDay 10 = .ok (.aload_n 0, 1) := by decide +kernel
theorem dX10_richestDay_11 : decode cX10_richestDay 11 = .ok (.iload_n 1, 1) := by decide +kernel
theorem dX10_richestDay_12 : decode cX10_richestDay 12 = .ok (.iload_n 3, 1) := by decide +kernel
theorem dX10_richestDay_13 : decode cX10_richestDay 13 = .ok (.invokevirtual 103, 3) := by decide +kernel
theorem dX10_richestDay_16 : decode cX10_richestDay 16 = .ok (.aload_n 0, 1) := by decide +kernel
theorem dX10_richestDay_17 : decode cX10_richestDay 17 = .ok (.iload_n 1, 1) := by decide +kernel
theorem dX10_richestDay_18 : decode cX10_richestDay 18 = .ok (.iload_n 2, 1) := by decide +kernel
theorem dX10_richestDay_19 : decode cX10_richestDay 19 = .ok (.invokevirtual 103, 3) := by decide +kernel
theorem dX10_richestDay_22 : decode cX10_richestDay 22 = .ok (.if_icmp .le 5, 3) := by decide +kernel
theorem dX10_richestDay_25 : decode cX10_richestDay 25 = .ok (.iload_n 3, 1) := by decide +kernel
theorem dX10_richestDay_26 : decode cX10_richestDay 26 = .ok (.istore_n 2, 1) := by decide +kernel
theorem dX10_richestDay_27 : decode cX10_richestDay 27 = .ok (.iinc 3 1, 3) := by decide +kernel
theorem dX10_richestDay_30 : decode cX10_richestDay 30 = .ok (.goto (-26), 3) := by decide +kernel
theorem dX10_richestDay_33 : decode cX10_richestDay 33 = .ok (.iload_n 2, 1) := by decide +kernel
theorem dX10_richestDay_34 : decode cX10_richestDay 34 = .ok (.ireturn, 1) := by decide +kernel
theorem dX10_daysWithoutSale_0 : decode cX10_daysWithoutSale 0 = .ok (.iconst 0, 1) := by decide +kernel
theorem dX10_daysWithoutSale_1 : decode cX10_daysWithoutSale 1 = .ok (.istore_n 2, 1) := by decide +kernel
theorem dX10_daysWithoutSale_2 : decode cX10_daysWithoutSale 2 = .ok (.iconst 0, 1) := by decide +kernel
theorem dX10_daysWithoutSale_3 : decode cX10_daysWithoutSale 3 = .ok (.istore_n 3, 1) := by decide +kernel
theorem dX10_daysWithoutSale_4 : decode cX10_daysWithoutSale 4 = .ok (.iload_n 3, 1) := by decide +kernel
theorem dX10_daysWithoutSale_5 : decode cX10_daysWithoutSale 5 = .ok (.aload_n 1, 1) := by decide +kernel
theorem dX10_daysWithoutSale_6 : decode cX10_daysWithoutSale 6 = .ok (.getfield 61, 3) := by decide +kernel
theorem dX10_daysWithoutSale_9 : decode cX10_daysWithoutSale 9 = .ok (.if_icmp .ge 57, 3) := by decide +kernel
theorem dX10_daysWithoutSale_12 : decode cX10_daysWithoutSale 12 = .ok (.iconst 0, 1) := by decide +kernel
theorem dX10_daysWithoutSale_13 : decode cX10_daysWithoutSale 13 = .ok (.istore 4, 2) := by decide +kernel
theorem dX10_daysWithoutSale_15 : decode cX10_daysWithoutSale 15 = .ok (.iconst 0, 1) := by decide +kernel
theorem dX10_daysWithoutSale_16 : decode cX10_daysWithoutSale 16 = .ok (.istore 5, 2) := by decide +kernel
theorem dX10_daysWithoutSale_18 : decode cX10_daysWithoutSale 18 = .ok (.iload 5, 2) := by decide +kernel
theorem dX10_daysWithoutSale_20 : decode cX10_daysWithoutSale 20 = .ok (.aload_n 1, 1) := by decide +kernel
theorem dX10_daysWithoutSale_21 : decode cX10_daysWithoutSale 21 = .ok (.getfield 80, 3) := by decide +kernel
theorem dX10_daysWithoutSale_24 : decode cX10_daysWithoutSale 24 = .ok (.getfield 84, 3) := by decide +kernel
theorem dX10_daysWithoutSale_27 : decode cX10_daysWithoutSale 27 = .ok (.if_icmp .ge 25, 3) := by decide +kernel
theorem dX10_daysWithoutSale_30 : decode cX10_daysWithoutSale 30 = .ok (.iload 4, 2) := by decide +kernel
theorem dX10_daysWithoutSale_32 : decode cX10_daysWithoutSale 32 = .ok (.aload_n 0, 1) := by decide +kernel
theorem dX10_daysWithoutSale_33 : decode cX10_daysWithoutSale 33 = .ok (.getfield 18, 3) := by decide +kernel
theorem dX10_daysWithoutSale_36 : decode cX10_daysWithoutSale 36 = .ok (.iload 5, 2) := by decide +kernel
theorem dX10_daysWithoutSale_38 : decode cX10_daysWithoutSale 38 = .ok (.iload_n 3, 1) := by decide +kernel
theorem dX10_daysWithoutSale_39 : decode cX10_daysWithoutSale 39 = .ok (.invokestatic 90, 3) := by decide +kernel
theorem dX10_daysWithoutSale_42 : decode cX10_daysWithoutSale 42 = .ok (.iaload, 1) := by decide +kernel
theorem dX10_daysWithoutSale_43 : decode cX10_daysWithoutSale 43 = .ok (.iadd, 1) := by decide +kernel
theorem dX10_daysWithoutSale_44 : decode cX10_daysWithoutSale 44 = .ok (.istore 4, 2) := by decide +kernel
theorem dX10_daysWithoutSale_46 : decode cX10_daysWithoutSale 46 = .ok (.iinc 5 1, 3) := by decide +kernel
theorem dX10_daysWithoutSale_49 : decode cX10_daysWithoutSale 49 = .ok (.goto (-31), 3) := by decide +kernel
theorem dX10_daysWithoutSale_52 : decode cX10_daysWithoutSale 52 = .ok (.iload 4, 2) := by decide +kernel
theorem dX10_daysWithoutSale_54 : decode cX10_daysWithoutSale 54 = .ok (.ifCond .ne 6, 3) := by decide +kernel
theorem dX10_daysWithoutSale_57 : decode cX10_daysWithoutSale 57 = .ok (.iinc 2 1, 3) := by decide +kernel
theorem dX10_daysWithoutSale_60 : decode cX10_daysWithoutSale 60 = .ok (.iinc 3 1, 3) := by decide +kernel
theorem dX10_daysWithoutSale_63 : decode cX10_daysWithoutSale 63 = .ok (.goto (-59), 3) := by decide +kernel
theorem dX10_daysWithoutSale_66 : decode cX10_daysWithoutSale 66 = .ok (.iload_n 2, 1) := by decide +kernel
theorem dX10_daysWithoutSale_67 : decode cX10_daysWithoutSale 67 = .ok (.ireturn, 1) := by decide +kernel
theorem dX11_feed_0 : decode cX11_feed 0 = .ok (.aload_n 0, 1) := by decide +kernel
theorem dX11_feed_1 : decode cX11_feed 1 = .ok (.getfield 10, 3) := by decide +kernel
theorem dX11_feed_4 : decode cX11_feed 4 = .ok (.getfield 68, 3) := by decide +kernel
theorem dX11_feed_7 : decode cX11_feed 7 = .ok (.bipush 20, 2) := by decide +kernel
theorem dX11_feed_9 : decode cX11_feed 9 = .ok (.iadd, 1) := by decide +kernel
theorem dX11_feed_10 : decode cX11_feed 10 = .ok (.sipush 2000, 3) := by decide +kernel
theorem dX11_feed_13 : decode cX11_feed 13 = .ok (.if_icmp .le 5, 3) := by decide +kernel
theorem dX11_feed_16 : decode cX11_feed 16 = .ok (.iconst (-1), 1) := by decide +kernel
theorem dX11_feed_17 : decode cX11_feed 17 = .ok (.ireturn, 1) := by decide +kernel
theorem dX11_feed_18 : decode cX11_feed 18 = .ok (.aload_n 0, 1) := by decide +kernel
theorem dX11_feed_19 : decode cX11_feed 19 = .ok (.getfield 10, 3) := by decide +kernel
theorem dX11_feed_22 : decode cX11_feed 22 = .ok (.iload_n 1, 1) := by decide +kernel
theorem dX11_feed_23 : decode cX11_feed 23 = .ok (.invokevirtual 72, 3) := by decide +kernel
theorem dX11_feed_26 : decode cX11_feed 26 = .ok (.aload_n 0, 1) := by decide +kernel
theorem dX11_feed_27 : decode cX11_feed 27 = .ok (.getfield 10, 3) := by decide +kernel
theorem dX11_feed_30 : decode cX11_feed 30 = .ok (.iload_n 2, 1) := by decide +kernel
theorem dX11_feed_31 : decode cX11_feed 31 = .ok (.invokevirtual 72, 3) := by decide +kernel
theorem dX11_feed_34 : decode cX11_feed 34 = .ok (.aload_n 0, 1) := by decide +kernel
theorem dX11_feed_35 : decode cX11_feed 35 = .ok (.getfield 10, 3) := by decide +kernel
theorem dX11_feed_38 : decode cX11_feed 38 = .ok (.iload_n 3, 1) := by decide +kernel
theorem dX11_feed_39 : decode cX11_feed 39 = .ok (.invokevirtual 72, 3) := by decide +kernel
theorem dX11_feed_42 : decode cX11_feed 42 = .ok (.aload_n 0, 1) := by decide +kernel
theorem dX11_feed_43 : decode cX11_feed 43 = .ok (.getfield 10, 3) := by decide +kernel
theorem dX11_feed_46 : decode cX11_feed 46 = .ok (.iload 4, 2) := by decide +kernel
theorem dX11_feed_48 : decode cX11_feed 48 = .ok (.invokevirtual 72, 3) := by decide +kernel
theorem dX11_feed_51 : decode cX11_feed 51 = .ok (.aload_n 0, 1) := by decide +kernel
theorem dX11_feed_52 : decode cX11_feed 52 = .ok (.getfield 10, 3) := by decide +kernel
theorem dX11_feed_55 : decode cX11_feed 55 = .ok (.iload 5, 2) := by decide +kernel
theorem dX11_feed_57 : decode cX11_feed 57 = .ok (.invokevirtual 72, 3) := by decide +kernel
theorem dX11_feed_60 : decode cX11_feed 60 = .ok (.aload_n 0, 1) := by decide +kernel
theorem dX11_feed_61 : decode cX11_feed 61 = .ok (.getfield 10, 3) := by decide +kernel
theorem dX11_feed_64 : decode cX11_feed 64 = .ok (.getfield 68, 3) := by decide +kernel
theorem dX11_feed_67 : decode cX11_feed 67 = .ok (.ireturn, 1) := by decide +kernel
theorem dX11_end_0 : decode cX11_end 0 = .ok (.iload_n 1, 1) := by decide +kernel
theorem dX11_end_1 : decode cX11_end 1 = .ok (.ifCond .lt 14, 3) := by decide +kernel
theorem dX11_end_4 : decode cX11_end 4 = .ok (.iload_n 1, 1) := by decide +kernel
theorem dX11_end_5 : decode cX11_end 5 = .ok (.aload_n 0, 1) := by decide +kernel
theorem dX11_end_6 : decode cX11_end 6 = .ok (.getfield 10, 3) := by decide +kernel
theorem dX11_end_9 : decode cX11_end 9 = .ok (.getfield 68, 3) := by decide +kernel
theorem dX11_end_12 : decode cX11_end 12 = .ok (.if_icmp .le 5, 3) := by decide +kernel
theorem dX11_end_15 : decode cX11_end 15 = .ok (.iconst (-1), 1) := by decide +kernel
theorem dX11_end_16 : decode cX11_end 16 = .ok (.ireturn, 1) := by decide +kernel
theorem dX11_end_17 : decode cX11_end 17 = .ok (.aload_n 0, 1) := by decide +kernel
theorem dX11_end_18 : decode cX11_end 18 = .ok (.getfield 10, 3) := by decide +kernel
theorem dX11_end_21 : decode cX11_end 21 = .ok (.iload_n 1, 1) := by decide +kernel
theorem dX11_end_22 : decode cX11_end 22 = .ok (.putfield 68, 3) := by decide +kernel
theorem dX11_end_25 : decode cX11_end 25 = .ok (.iload_n 1, 1) := by decide +kernel
theorem dX11_end_26 : decode cX11_end 26 = .ok (.ireturn, 1) := by decide +kernel
theorem dX11_market_0 : decode cX11_market 0 = .ok (.aload_n 0, 1) := by decide +kernel
theorem dX11_market_1 : decode cX11_market 1 = .ok (.getfield 19, 3) := by decide +kernel
theorem dX11_market_4 : decode cX11_market 4 = .ok (.aload_n 0, 1) := by decide +kernel
theorem dX11_market_5 : decode cX11_market 5 = .ok (.getfield 10, 3) := by decide +kernel
theorem dX11_market_8 : decode cX11_market 8 = .ok (.invokevirtual 76, 3) := by decide +kernel
theorem dX11_market_11 : decode cX11_market 11 = .ok (.istore_n 1, 1) := by decide +kernel
theorem dX11_market_12 : decode cX11_market 12 = .ok (.aload_n 0, 1) := by decide +kernel
theorem dX11_market_13 : decode cX11_market 13 = .ok (.getfield 10, 3) := by decide +kernel
theorem dX11_market_16 : decode cX11_market 16 = .ok (.iconst 0, 1) := by decide +kernel
theorem dX11_market_17 : decode cX11_market 17 = .ok (.putfield 68, 3) := by decide +kernel
theorem dX11_market_20 : decode cX11_market 20 = .ok (.iload_n 1, 1) := by decide +kernel
theorem dX11_market_21 : decode cX11_market 21 = .ok (.ifCond .ne 6, 3) := by decide +kernel
theorem dX11_market_24 : decode cX11_market 24 = .ok (.bipush (-4), 2) := by decide +kernel
theorem dX11_market_26 : decode cX11_market 26 = .ok (.ireturn, 1) := by decide +kernel
theorem dX11_market_27 : decode cX11_market 27 = .ok (.aload_n 0, 1) := by decide +kernel
theorem dX11_market_28 : decode cX11_market 28 = .ok (.getfield 26, 3) := by decide +kernel
theorem dX11_market_31 : decode cX11_market 31 = .ok (.aload_n 0, 1) := by decide +kernel
theorem dX11_market_32 : decode cX11_market 32 = .ok (.getfield 19, 3) := by decide +kernel
theorem dX11_market_35 : decode cX11_market 35 = .ok (.getfield 80, 3) := by decide +kernel
theorem dX11_market_38 : decode cX11_market 38 = .ok (.invokevirtual 83, 3) := by decide +kernel
theorem dX11_market_41 : decode cX11_market 41 = .ok (.aload_n 0, 1) := by decide +kernel
theorem dX11_market_42 : decode cX11_market 42 = .ok (.iconst 0, 1) := by decide +kernel
theorem dX11_market_43 : decode cX11_market 43 = .ok (.putfield 64, 3) := by decide +kernel
theorem dX11_market_46 : decode cX11_market 46 = .ok (.aload_n 0, 1) := by decide +kernel
theorem dX11_market_47 : decode cX11_market 47 = .ok (.getfield 26, 3) := by decide +kernel
theorem dX11_market_50 : decode cX11_market 50 = .ok (.getfield 87, 3) := by decide +kernel
theorem dX11_market_53 : decode cX11_market 53 = .ok (.ireturn, 1) := by decide +kernel
theorem dX11_fault_0 : decode cX11_fault 0 = .ok (.iload_n 1, 1) := by decide +kernel
theorem dX11_fault_1 : decode cX11_fault 1 = .ok (.lookupswitch 43 #[(0, 27), (1, 35)], 27) := by decide +kernel
theorem dX11_fault_28 : decode cX11_fault 28 = .ok (.aload_n 0, 1) := by decide +kernel
theorem dX11_fault_29 : decode cX11_fault 29 = .ok (.getfield 19, 3) := by decide +kernel
theorem dX11_fault_32 : decode cX11_fault 32 = .ok (.getfield 90, 3) := by decide +kernel
theorem dX11_fault_35 : decode cX11_fault 35 = .ok (.ireturn, 1) := by decide +kernel
theorem dX11_fault_36 : decode cX11_fault 36 = .ok (.aload_n 0, 1) := by decide +kernel
theorem dX11_fault_37 : decode cX11_fault 37 = .ok (.getfield 19, 3) := by decide +kernel
theorem dX11_fault_40 : decode cX11_fault 40 = .ok (.getfield 93, 3) := by decide +kernel
theorem dX11_fault_43 : decode cX11_fault 43 = .ok (.ireturn, 1) := by decide +kernel
theorem dX11_fault_44 : decode cX11_fault 44 = .ok (.iconst (-1), 1) := by decide +kernel
theorem dX11_fault_45 : decode cX11_fault 45 = .ok (.ireturn, 1) := by decide +kernel
theorem dX11_isThing_0 : decode cX11_isThing 0 = .ok (.iload_n 1, 1) := by decide +kernel
theorem dX11_isThing_1 : decode cX11_isThing 1 = .ok (.ifCond .lt 21, 3) := by decide +kernel
theorem dX11_isThing_4 : decode cX11_isThing 4 = .ok (.iload_n 1, 1) := by decide +kernel
theorem dX11_isThing_5 : decode cX11_isThing 5 = .ok (.aload_n 0, 1) := by decide +kernel
theorem dX11_isThing_6 : decode cX11_isThing 6 = .ok (.getfield 26, 3) := by decide +kernel
theorem dX11_isThing_9 : decode cX11_isThing 9 = .ok (.getfield 100, 3) := by decide +kernel
theorem dX11_isThing_12 : decode cX11_isThing 12 = .ok (.getfield 342, 3) := by decide +kernel
theorem dX11_isThing_15 : decode cX11_isThing 15 = .ok (.if_icmp .ge 7, 3) := by decide +kernel
theorem dX11_isThing_18 : decode cX11_isThing 18 = .ok (.iconst 1, 1) := by decide +kernel
theorem dX11_isThing_19 : decode cX11_isThing 19 = .ok (.goto 4, 3) := by decide +kernel
theorem dX11_isThing_22 : decode cX11_isThing 22 = .ok (.iconst 0, 1) := by decide +kernel
theorem dX11_isThing_23 : decode cX11_isThing 23 = .ok (.ireturn, 1) := by decide +kernel
theorem dX11_isDay_0 : decode cX11_isDay 0 = .ok (.iload_n 1, 1) := by decide +kernel
theorem dX11_isDay_1 : decode cX11_isDay 1 = .ok (.ifCond .lt 18, 3) := by decide +kernel
theorem dX11_isDay_4 : decode cX11_isDay 4 = .ok (.iload_n 1, 1) := by decide +kernel
theorem dX11_isDay_5 : decode cX11_isDay 5 = .ok (.aload_n 0, 1) := by decide +kernel
theorem dX11_isDay_6 : decode cX11_isDay 6 = .ok (.getfield 26, 3) := by decide +kernel
theorem dX11_isDay_9 : decode cX11_isDay 9 = .ok (.getfield 192, 3) := by decide +kernel
theorem dX11_isDay_12 : decode cX11_isDay 12 = .ok (.if_icmp .ge 7, 3) := by decide +kernel
theorem dX11_isDay_15 : decode cX11_isDay 15 = .ok (.iconst 1, 1) := by decide +kernel
theorem dX11_isDay_16 : decode cX11_isDay 16 = .ok (.goto 4, 3) := by decide +kernel
theorem dX11_isDay_19 : decode cX11_isDay 19 = .ok (.iconst 0, 1) := by decide +kernel
theorem dX11_isDay_20 : decode cX11_isDay 20 = .ok (.ireturn, 1) := by decide +kernel
theorem dX11_isThingDay_0 : decode cX11_isThingDay 0 = .ok (.aload_n 0, 1) := by decide +kernel
theorem dX11_isThingDay_1 : decode cX11_isThingDay 1 = .ok (.iload_n 1, 1) := by decide +kernel
theorem dX11_isThingDay_2 : decode cX11_isThingDay 2 = .ok (.invokevirtual 303, 3) := by decide +kernel
theorem dX11_isThingDay_5 : decode cX11_isThingDay 5 = .ok (.ifCond .eq 15, 3) := by decide +kernel
theorem dX11_isThingDay_8 : decode cX11_isThingDay 8 = .ok (.aload_n 0, 1) := by decide +kernel
theorem dX11_isThingDay_9 : decode cX11_isThingDay 9 = .ok (.iload_n 2, 1) := by decide +kernel
theorem dX11_isThingDay_10 : decode cX11_isThingDay 10 = .ok (.invokevirtual 150, 3) := by decide +kernel
theorem dX11_isThingDay_13 : decode cX11_isThingDay 13 = .ok (.ifCond .eq 7, 3) := by decide +kernel
theorem dX11_isThingDay_16 : decode cX11_isThingDay 16 = .ok (.iconst 1, 1) := by decide +kernel
theorem dX11_isThingDay_17 : decode cX11_isThingDay 17 = .ok (.goto 4, 3) := by decide +kernel
theorem dX11_isThingDay_20 : decode cX11_isThingDay 20 = .ok (.iconst 0, 1) := by decide +kernel
theorem dX11_isThingDay_21 : decode cX11_isThingDay 21 = .ok (.ireturn, 1) := by decide +kernel
theorem dX11_price_0 : decode cX11_price 0 = .ok (.aload_n 0, 1) := by decide +kernel
theorem dX11_price_1 : decode cX11_price 1 = .ok (.iload_n 1, 1) := by decide +kernel
theorem dX11_price_2 : decode cX11_price 2 = .ok (.iload_n 2, 1) := by decide +kernel
theorem dX11_price_3 : decode cX11_price 3 = .ok (.invokevirtual 96, 3) := by decide +kernel
theorem dX11_price_6 : decode cX11_price 6 = .ok (.ifCond .eq 22, 3) := by decide +kernel
theorem dX11_price_9 : decode cX11_price 9 = .ok (.aload_n 0, 1) := by decide +kernel
theorem dX11_price_10 : decode cX11_price 10 = .ok (.getfield 26, 3) := by decide +kernel
theorem dX11_price_13 : decode cX11_price 13 = .ok (.getfield 100, 3) := by decide +kernel
theorem dX11_price_16 : decode cX11_price 16 = .ok (.getfield 104, 3) := by decide +kernel
theorem dX11_price_19 : decode cX11_price 19 = .ok (.iload_n 1, 1) := by decide +kernel
theorem dX11_price_20 : decode cX11_price 20 = .ok (.iload_n 2, 1) := by decide +kernel
theorem dX11_price_21 : decode cX11_price 21 = .ok (.invokestatic 110, 3) := by decide +kernel
theorem dX11_price_24 : decode cX11_price 24 = .ok (.iaload, 1) := by decide +kernel
theorem dX11_price_25 : decode cX11_price 25 = .ok (.goto 5, 3) := by decide +kernel
theorem dX11_price_28 : decode cX11_price 28 = .ok (.bipush (-2), 2) := by decide +kernel
theorem dX11_price_30 : decode cX11_price 30 = .ok (.ireturn, 1) := by decide +kernel
theorem dX11_old_0 : decode cX11_old 0 = .ok (.aload_n 0, 1) := by decide +kernel
theorem dX11_old_1 : decode cX11_old 1 = .ok (.iload_n 1, 1) := by decide +kernel
theorem dX11_old_2 : decode cX11_old 2 = .ok (.iload_n 2, 1) := by decide +kernel
theorem dX11_old_3 : decode cX11_old 3 = .ok (.invokevirtual 96, 3) := by decide +kernel
theorem dX11_old_6 : decode cX11_old 6 = .ok (.ifCond .eq 22, 3) := by decide +kernel
theorem dX11_old_9 : decode cX11_old 9 = .ok (.aload_n 0, 1) := by decide +kernel
theorem dX11_old_10 : decode cX11_old 10 = .ok (.getfield 26, 3) := by decide +kernel
theorem dX11_old_13 : decode cX11_old 13 = .ok (.getfield 100, 3) := by decide +kernel
theorem dX11_old_16 : decode cX11_old 16 = .ok (.getfield 114, 3) := by decide +kernel
theorem dX11_old_19 : decode cX11_old 19 = .ok (.iload_n 1, 1) := by decide +kernel
theorem dX11_old_20 : decode cX11_old 20 = .ok (.iload_n 2, 1) := by decide +kernel
theorem dX11_old_21 : decode cX11_old 21 = .ok (.invokestatic 110, 3) := by decide +kernel
theorem dX11_old_24 : decode cX11_old 24 = .ok (.iaload, 1) := by decide +kernel
theorem dX11_old_25 : decode cX11_old 25 = .ok (.goto 5, 3) := by decide +kernel
theorem dX11_old_28 : decode cX11_old 28 = .ok (.bipush (-2), 2) := by decide +kernel
theorem dX11_old_30 : decode cX11_old 30 = .ok (.ireturn, 1) := by decide +kernel
theorem dX11_thisYear_0 : decode cX11_thisYear 0 = .ok (.aload_n 0, 1) := by decide +kernel
theorem dX11_thisYear_1 : decode cX11_thisYear 1 = .ok (.getfield 64, 3) := by decide +kernel
theorem dX11_thisYear_4 : decode cX11_thisYear 4 = .ok (.ifCond .ne 20, 3) := by decide +kernel
theorem dX11_thisYear_7 : decode cX11_thisYear 7 = .ok (.aload_n 0, 1) := by decide +kernel
theorem dX11_thisYear_8 : decode cX11_thisYear 8 = .ok (.getfield 33, 3) := by decide +kernel
theorem dX11_thisYear_11 : decode cX11_thisYear 11 = .ok (.aload_n 0, 1) := by decide +kernel
theorem dX11_thisYear_12 : decode cX11_thisYear 12 = .ok (.getfield 26, 3) := by decide +kernel
theorem dX11_thisYear_15 : decode cX11_thisYear 15 = .ok (.iconst 1, 1) := by decide +kernel
theorem dX11_thisYear_16 : decode cX11_thisYear 16 = .ok (.invokevirtual 244, 3) := by decide +kernel
theorem dX11_thisYear_19 : decode cX11_thisYear 19 = .ok (.aload_n 0, 1) := by decide +kernel
theorem dX11_thisYear_20 : decode cX11_thisYear 20 = .ok (.iconst 1, 1) := by decide +kernel
theorem dX11_thisYear_21 : decode cX11_thisYear 21 = .ok (.putfield 64, 3) := by decide +kernel
theorem dX11_thisYear_24 : decode cX11_thisYear 24 = .ok (.aload_n 0, 1) := by decide +kernel
theorem dX11_thisYear_25 : decode cX11_thisYear 25 = .ok (.getfield 33, 3) := by decide +kernel
theorem dX11_thisYear_28 : decode cX11_thisYear 28 = .ok (.areturn, 1) := by decide +kernel
theorem dX11_offered_0 : decode cX11_offered 0 = .ok (.aload_n 0, 1) := by decide +kernel
theorem dX11_offered_1 : decode cX11_offered 1 = .ok (.iload_n 1, 1) := by decide +kernel
theorem dX11_offered_2 : decode cX11_offered 2 = .ok (.iload_n 2, 1) := by decide +kernel
theorem dX11_offered_3 : decode cX11_offered 3 = .ok (.invokevirtual 96, 3) := by decide +kernel
theorem dX11_offered_6 : decode cX11_offered 6 = .ok (.ifCond .eq 19, 3) := by decide +kernel
theorem dX11_offered_9 : decode cX11_offered 9 = .ok (.aload_n 0, 1) := by decide +kernel
theorem dX11_offered_10 : decode cX11_offered 10 = .ok (.invokevirtual 117, 3) := by decide +kernel
theorem dX11_offered_13 : decode cX11_offered 13 = .ok (.getfield 121, 3) := by decide +kernel
theorem dX11_offered_16 : decode cX11_offered 16 = .ok (.iload_n 1, 1) := by decide +kernel
theorem dX11_offered_17 : decode cX11_offered 17 = .ok (.iload_n 2, 1) := by decide +kernel
theorem dX11_offered_18 : decode cX11_offered 18 = .ok (.invokestatic 110, 3) := by decide +kernel
theorem dX11_offered_21 : decode cX11_offered 21 = .ok (.iaload, 1) := by decide +kernel
theorem dX11_offered_22 : decode cX11_offered 22 = .ok (.goto 5, 3) := by decide +kernel
theorem dX11_offered_25 : decode cX11_offered 25 = .ok (.bipush (-2), 2) := by decide +kernel
theorem dX11_offered_27 : decode cX11_offered 27 = .ok (.ireturn, 1) := by decide +kernel
theorem dX11_asked_0 : decode cX11_asked 0 = .ok (.aload_n 0, 1) := by decide +kernel
theorem dX11_asked_1 : decode cX11_asked 1 = .ok (.iload_n 1, 1) := by decide +kernel
theorem dX11_asked_2 : decode cX11_asked 2 = .ok (.iload_n 2, 1) := by decide +kernel
theorem dX11_asked_3 : decode cX11_asked 3 = .ok (.invokevirtual 96, 3) := by decide +kernel
theorem dX11_asked_6 : decode cX11_asked 6 = .ok (.ifCond .eq 19, 3) := by decide +kernel
theorem dX11_asked_9 : decode cX11_asked 9 = .ok (.aload_n 0, 1) := by decide +kernel
theorem dX11_asked_10 : decode cX11_asked 10 = .ok (.invokevirtual 117, 3) := by decide +kernel
theorem dX11_asked_13 : decode cX11_asked 13 = .ok (.getfield 124, 3) := by decide +kernel
theorem dX11_asked_16 : decode cX11_asked 16 = .ok (.iload_n 1, 1) := by decide +kernel
theorem dX11_asked_17 : decode cX11_asked 17 = .ok (.iload_n 2, 1) := by decide +kernel
theorem dX11_asked_18 : decode cX11_asked 18 = .ok (.invokestatic 110, 3) := by decide +kernel
theorem dX11_asked_21 : decode cX11_asked 21 = .ok (.iaload, 1) := by decide +kernel
theorem dX11_asked_22 : decode cX11_asked 22 = .ok (.goto 5, 3) := by decide +kernel
theorem dX11_asked_25 : decode cX11_asked 25 = .ok (.bipush (-2), 2) := by decide +kernel
theorem dX11_asked_27 : decode cX11_asked 27 = .ok (.ireturn, 1) := by decide +kernel
theorem dX11_sold_0 : decode cX11_sold 0 = .ok (.aload_n 0, 1) := by decide +kernel
theorem dX11_sold_1 : decode cX11_sold 1 = .ok (.iload_n 1, 1) := by decide +kernel
theorem dX11_sold_2 : decode cX11_sold 2 = .ok (.iload_n 2, 1) := by decide +kernel
theorem dX11_sold_3 : decode cX11_sold 3 = .ok (.invokevirtual 96, 3) := by decide +kernel
theorem dX11_sold_6 : decode cX11_sold 6 = .ok (.ifCond .eq 19, 3) := by decide +kernel
theorem dX11_sold_9 : decode cX11_sold 9 = .ok (.aload_n 0, 1) := by decide +kernel
theorem dX11_sold_10 : decode cX11_sold 10 = .ok (.invokevirtual 117, 3) := by decide +kernel
theorem dX11_sold_13 : decode cX11_sold 13 = .ok (.getfield 127, 3) := by decide +kernel
theorem dX11_sold_16 : decode cX11_sold 16 = .ok (.iload_n 1, 1) := by decide +kernel
theorem dX11_sold_17 : decode cX11_sold 17 = .ok (.iload_n 2, 1) := by decide +kernel
theorem dX11_sold_18 : decode cX11_sold 18 = .ok (.invokestatic 110, 3) := by decide +kernel
theorem dX11_sold_21 : decode cX11_sold 21 = .ok (.iaload, 1) := by decide +kernel
theorem dX11_sold_22 : decode cX11_sold 22 = .ok (.goto 5, 3) := by decide +kernel
theorem dX11_sold_25 : decode cX11_sold 25 = .ok (.bipush (-2), 2) := by decide +kernel
theorem dX11_sold_27 : decode cX11_sold 27 = .ok (.ireturn, 1) := by decide +kernel
theorem dX11_isSeller_0 : decode cX11_isSeller 0 = .ok (.iload_n 1, 1) := by decide +kernel
theorem dX11_isSeller_1 : decode cX11_isSeller 1 = .ok (.ifCond .lt 21, 3) := by decide +kernel
theorem dX11_isSeller_4 : decode cX11_isSeller 4 = .ok (.iload_n 1, 1) := by decide +kernel
theorem dX11_isSeller_5 : decode cX11_isSeller 5 = .ok (.aload_n 0, 1) := by decide +kernel
theorem dX11_isSeller_6 : decode cX11_isSeller 6 = .ok (.getfield 26, 3) := by decide +kernel
theorem dX11_isSeller_9 : decode cX11_isSeller 9 = .ok (.getfield 181, 3) := by decide +kernel
theorem dX11_isSeller_12 : decode cX11_isSeller 12 = .ok (.getfield 185, 3) := by decide +kernel
theorem dX11_isSeller_15 : decode cX11_isSeller 15 = .ok (.if_icmp .ge 7, 3) := by decide +kernel
theorem dX11_isSeller_18 : decode cX11_isSeller 18 = .ok (.iconst 1, 1) := by decide +kernel
theorem dX11_isSeller_19 : decode cX11_isSeller 19 = .ok (.goto 4, 3) := by decide +kernel
theorem dX11_isSeller_22 : decode cX11_isSeller 22 = .ok (.iconst 0, 1) := by decide +kernel
theorem dX11_isSeller_23 : decode cX11_isSeller 23 = .ok (.ireturn, 1) := by decide +kernel
theorem dX11_seller_0 : decode cX11_seller 0 = .ok (.aload_n 0, 1) := by decide +kernel
theorem dX11_seller_1 : decode cX11_seller 1 = .ok (.iload_n 1, 1) := by decide +kernel
theorem dX11_seller_2 : decode cX11_seller 2 = .ok (.invokevirtual 130, 3) := by decide +kernel
theorem dX11_seller_5 : decode cX11_seller 5 = .ok (.ifCond .ne 6, 3) := by decide +kernel
theorem dX11_seller_8 : decode cX11_seller 8 = .ok (.bipush (-2), 2) := by decide +kernel
theorem dX11_seller_10 : decode cX11_seller 10 = .ok (.ireturn, 1) := by decide +kernel
theorem dX11_seller_11 : decode cX11_seller 11 = .ok (.aload_n 0, 1) := by decide +kernel
theorem dX11_seller_12 : decode cX11_seller 12 = .ok (.invokevirtual 117, 3) := by decide +kernel
theorem dX11_seller_15 : decode cX11_seller 15 = .ok (.astore_n 3, 1) := by decide +kernel
theorem dX11_seller_16 : decode cX11_seller 16 = .ok (.iload_n 2, 1) := by decide +kernel
theorem dX11_seller_17 : decode cX11_seller 17 = .ok (.tableswitch 84 0 4 #[35, 42, 49, 56, 63], 35) := by decide +kernel
theorem dX11_seller_52 : decode cX11_seller 52 = .ok (.aload_n 3, 1) := by decide +kernel
theorem dX11_seller_53 : decode cX11_seller 53 = .ok (.getfield 134, 3) := by decide +kernel
theorem dX11_seller_56 : decode cX11_seller 56 = .ok (.iload_n 1, 1) := by decide +kernel
theorem dX11_seller_57 : decode cX11_seller 57 = .ok (.iaload, 1) := by decide +kernel
theorem dX11_seller_58 : decode cX11_seller 58 = .ok (.ireturn, 1) := by decide +kernel
theorem dX11_seller_59 : decode cX11_seller 59 = .ok (.aload_n 3, 1) := by decide +kernel
theorem dX11_seller_60 : decode cX11_seller 60 = .ok (.getfield 137, 3) := by decide +kernel
theorem dX11_seller_63 : decode cX11_seller 63 = .ok (.iload_n 1, 1) := by decide +kernel
theorem dX11_seller_64 : decode cX11_seller 64 = .ok (.iaload, 1) := by decide +kernel
theorem dX11_seller_65 : decode cX11_seller 65 = .ok (.ireturn, 1) := by decide +kernel
theorem dX11_seller_66 : decode cX11_seller 66 = .ok (.aload_n 3, 1) := by decide +kernel
theorem dX11_seller_67 : decode cX11_seller 67 = .ok (.getfield 140, 3) := by decide +kernel
theorem dX11_seller_70 : decode cX11_seller 70 = .ok (.iload_n 1, 1) := by decide +kernel
theorem dX11_seller_71 : decode cX11_seller 71 = .ok (.iaload, 1) := by decide +kernel
theorem dX11_seller_72 : decode cX11_seller 72 = .ok (.ireturn, 1) := by decide +kernel
theorem dX11_seller_73 : decode cX11_seller 73 = .ok (.aload_n 3, 1) := by decide +kernel
theorem dX11_seller_74 : decode cX11_seller 74 = .ok (.getfield 143, 3) := by decide +kernel
theorem dX11_seller_77 : decode cX11_seller 77 = .ok (.iload_n 1, 1) := by decide +kernel
theorem dX11_seller_78 : decode cX11_seller 78 = .ok (.iaload, 1) := by decide +kernel
theorem dX11_seller_79 : decode cX11_seller 79 = .ok (.ireturn, 1) := by decide +kernel
theorem dX11_seller_80 : decode cX11_seller 80 = .ok (.aload_n 3, 1) := by decide +kernel
theorem dX11_seller_81 : decode cX11_seller 81 = .ok (.getfield 134, 3) := by decide +kernel
theorem dX11_seller_84 : decode cX11_seller 84 = .ok (.iload_n 1, 1) := by decide +kernel
theorem dX11_seller_85 : decode cX11_seller 85 = .ok (.iaload, 1) := by decide +kernel
theorem dX11_seller_86 : decode cX11_seller 86 = .ok (.ifCond .ne 7, 3) := by decide +kernel
theorem dX11_seller_89 : decode cX11_seller 89 = .ok (.iconst (-1), 1) := by decide +kernel
theorem dX11_seller_90 : decode cX11_seller 90 = .ok (.goto 10, 3) := by decide +kernel
theorem dX11_seller_93 : decode cX11_seller 93 = .ok (.aload_n 3, 1) := by decide +kernel
theorem dX11_seller_94 : decode cX11_seller 94 = .ok (.iconst 1, 1) := by decide +kernel
theorem dX11_seller_95 : decode cX11_seller 95 = .ok (.iload_n 1, 1) := by decide +kernel
theorem dX11_seller_96 : decode cX11_seller 96 = .ok (.ishl, 1) := by decide +kernel
theorem dX11_seller_97 : decode cX11_seller 97 = .ok (.invokevirtual 146, 3) := by decide +kernel
theorem dX11_seller_100 : decode cX11_seller 100 = .ok (.ireturn, 1) := by decide +kernel
theorem dX11_seller_101 : decode cX11_seller 101 = .ok (.bipush (-2), 2) := by decide +kernel
theorem dX11_seller_103 : decode cX11_seller 103 = .ok (.ireturn, 1) := by decide +kernel
theorem dX11_gets_0 : decode cX11_gets 0 = .ok (.aload_n 0, 1) := by decide +kernel
theorem dX11_gets_1 : decode cX11_gets 1 = .ok (.iload_n 1, 1) := by decide +kernel
theorem dX11_gets_2 : decode cX11_gets 2 = .ok (.invokevirtual 130, 3) := by decide +kernel
theorem dX11_gets_5 : decode cX11_gets 5 = .ok (.ifCond .eq 27, 3) := by decide +kernel
theorem dX11_gets_8 : decode cX11_gets 8 = .ok (.aload_n 0, 1) := by decide +kernel
theorem dX11_gets_9 : decode cX11_gets 9 = .ok (.iload_n 2, 1) := by decide +kernel
theorem dX11_gets_10 : decode cX11_gets 10 = .ok (.invokevirtual 150, 3) := by decide +kernel
theorem dX11_gets_13 : decode cX11_gets 13 = .ok (.ifCond .eq 19, 3) := by decide +kernel
theorem dX11_gets_16 : decode cX11_gets 16 = .ok (.aload_n 0, 1) := by decide +kernel
theorem dX11_gets_17 : decode cX11_gets 17 = .ok (.invokevirtual 117, 3) := by decide +kernel
theorem dX11_gets_20 : decode cX11_gets 20 = .ok (.getfield 153, 3) := by decide +kernel
theorem dX11_gets_23 : decode cX11_gets 23 = .ok (.iload_n 1, 1) := by decide +kernel
theorem dX11_gets_24 : decode cX11_gets 24 = .ok (.iload_n 2, 1) := by decide +kernel
theorem dX11_gets_25 : decode cX11_gets 25 = .ok (.invokestatic 110, 3) := by decide +kernel
theorem dX11_gets_28 : decode cX11_gets 28 = .ok (.iaload, 1) := by decide +kernel
theorem dX11_gets_29 : decode cX11_gets 29 = .ok (.goto 5, 3) := by decide +kernel
theorem dX11_gets_32 : decode cX11_gets 32 = .ok (.bipush (-2), 2) := by decide +kernel
theorem dX11_gets_34 : decode cX11_gets 34 = .ok (.ireturn, 1) := by decide +kernel
theorem dX11_stock_0 : decode cX11_stock 0 = .ok (.aload_n 0, 1) := by decide +kernel
theorem dX11_stock_1 : decode cX11_stock 1 = .ok (.iload_n 1, 1) := by decide +kernel
theorem dX11_stock_2 : decode cX11_stock 2 = .ok (.invokevirtual 130, 3) := by decide +kernel
theorem dX11_stock_5 : decode cX11_stock 5 = .ok (.ifCond .eq 27, 3) := by decide +kernel
theorem dX11_stock_8 : decode cX11_stock 8 = .ok (.aload_n 0, 1) := by decide +kernel
theorem dX11_stock_9 : decode cX11_stock 9 = .ok (.iload_n 2, 1) := by decide +kernel
theorem dX11_stock_10 : decode cX11_stock 10 = .ok (.invokevirtual 150, 3) := by decide +kernel
theorem dX11_stock_13 : decode cX11_stock 13 = .ok (.ifCond .eq 19, 3) := by decide +kernel
theorem dX11_stock_16 : decode cX11_stock 16 = .ok (.aload_n 0, 1) := by decide +kernel
theorem dX11_stock_17 : decode cX11_stock 17 = .ok (.invokevirtual 117, 3) := by decide +kernel
theorem dX11_stock_20 : decode cX11_stock 20 = .ok (.getfield 156, 3) := by decide +kernel
theorem dX11_stock_23 : decode cX11_stock 23 = .ok (.iload_n 1, 1) := by decide +kernel
theorem dX11_stock_24 : decode cX11_stock 24 = .ok (.iload_n 2, 1) := by decide +kernel
theorem dX11_stock_25 : decode cX11_stock 25 = .ok (.invokestatic 110, 3) := by decide +kernel
theorem dX11_stock_28 : decode cX11_stock 28 = .ok (.iaload, 1) := by decide +kernel
theorem dX11_stock_29 : decode cX11_stock 29 = .ok (.goto 5, 3) := by decide +kernel
theorem dX11_stock_32 : decode cX11_stock 32 = .ok (.bipush (-2), 2) := by decide +kernel
theorem dX11_stock_34 : decode cX11_stock 34 = .ok (.ireturn, 1) := by decide +kernel
theorem dX11_isBuyer_0 : decode cX11_isBuyer 0 = .ok (.iload_n 1, 1) := by decide +kernel
theorem dX11_isBuyer_1 : decode cX11_isBuyer 1 = .ok (.ifCond .lt 21, 3) := by decide +kernel
theorem dX11_isBuyer_4 : decode cX11_isBuyer 4 = .ok (.iload_n 1, 1) := by decide +kernel
theorem dX11_isBuyer_5 : decode cX11_isBuyer 5 = .ok (.aload_n 0, 1) := by decide +kernel
theorem dX11_isBuyer_6 : decode cX11_isBuyer 6 = .ok (.getfield 26, 3) := by decide +kernel
theorem dX11_isBuyer_9 : decode cX11_isBuyer 9 = .ok (.getfield 168, 3) := by decide +kernel
theorem dX11_isBuyer_12 : decode cX11_isBuyer 12 = .ok (.getfield 343, 3) := by decide +kernel
theorem dX11_isBuyer_15 : decode cX11_isBuyer 15 = .ok (.if_icmp .ge 7, 3) := by decide +kernel
theorem dX11_isBuyer_18 : decode cX11_isBuyer 18 = .ok (.iconst 1, 1) := by decide +kernel
theorem dX11_isBuyer_19 : decode cX11_isBuyer 19 = .ok (.goto 4, 3) := by decide +kernel
theorem dX11_isBuyer_22 : decode cX11_isBuyer 22 = .ok (.iconst 0, 1) := by decide +kernel
theorem dX11_isBuyer_23 : decode cX11_isBuyer 23 = .ok (.ireturn, 1) := by decide +kernel
theorem dX11_buyer_0 : decode cX11_buyer 0 = .ok (.aload_n 0, 1) := by decide +kernel
theorem dX11_buyer_1 : decode cX11_buyer 1 = .ok (.iload_n 1, 1) := by decide +kernel
theorem dX11_buyer_2 : decode cX11_buyer 2 = .ok (.invokevirtual 159, 3) := by decide +kernel
theorem dX11_buyer_5 : decode cX11_buyer 5 = .ok (.ifCond .ne 6, 3) := by decide +kernel
theorem dX11_buyer_8 : decode cX11_buyer 8 = .ok (.bipush (-2), 2) := by decide +kernel
theorem dX11_buyer_10 : decode cX11_buyer 10 = .ok (.ireturn, 1) := by decide +kernel
theorem dX11_buyer_11 : decode cX11_buyer 11 = .ok (.aload_n 0, 1) := by decide +kernel
theorem dX11_buyer_12 : decode cX11_buyer 12 = .ok (.invokevirtual 117, 3) := by decide +kernel
theorem dX11_buyer_15 : decode cX11_buyer 15 = .ok (.astore_n 3, 1) := by decide +kernel
theorem dX11_buyer_16 : decode cX11_buyer 16 = .ok (.iload_n 2, 1) := by decide +kernel
theorem dX11_buyer_17 : decode cX11_buyer 17 = .ok (.tableswitch 60 0 2 #[27, 34, 41], 27) := by decide +kernel
theorem dX11_buyer_44 : decode cX11_buyer 44 = .ok (.aload_n 3, 1) := by decide +kernel
theorem dX11_buyer_45 : decode cX11_buyer 45 = .ok (.getfield 162, 3) := by decide +kernel
theorem dX11_buyer_48 : decode cX11_buyer 48 = .ok (.iload_n 1, 1) := by decide +kernel
theorem dX11_buyer_49 : decode cX11_buyer 49 = .ok (.iaload, 1) := by decide +kernel
theorem dX11_buyer_50 : decode cX11_buyer 50 = .ok (.ireturn, 1) := by decide +kernel
theorem dX11_buyer_51 : decode cX11_buyer 51 = .ok (.aload_n 3, 1) := by decide +kernel
theorem dX11_buyer_52 : decode cX11_buyer 52 = .ok (.getfield 165, 3) := by decide +kernel
theorem dX11_buyer_55 : decode cX11_buyer 55 = .ok (.iload_n 1, 1) := by decide +kernel
theorem dX11_buyer_56 : decode cX11_buyer 56 = .ok (.iaload, 1) := by decide +kernel
theorem dX11_buyer_57 : decode cX11_buyer 57 = .ok (.ireturn, 1) := by decide +kernel
theorem dX11_buyer_58 : decode cX11_buyer 58 = .ok (.aload_n 0, 1) := by decide +kernel
theorem dX11_buyer_59 : decode cX11_buyer 59 = .ok (.getfield 26, 3) := by decide +kernel
theorem dX11_buyer_62 : decode cX11_buyer 62 = .ok (.getfield 168, 3) := by decide +kernel
theorem dX11_buyer_65 : decode cX11_buyer 65 = .ok (.iload_n 1, 1) := by decide +kernel
theorem dX11_buyer_66 : decode cX11_buyer 66 = .ok (.invokevirtual 172, 3) := by decide +kernel
theorem dX11_buyer_69 : decode cX11_buyer 69 = .ok (.aload_n 3, 1) := by decide +kernel
theorem dX11_buyer_70 : decode cX11_buyer 70 = .ok (.getfield 165, 3) := by decide +kernel
theorem dX11_buyer_73 : decode cX11_buyer 73 = .ok (.iload_n 1, 1) := by decide +kernel
theorem dX11_buyer_74 : decode cX11_buyer 74 = .ok (.iaload, 1) := by decide +kernel
theorem dX11_buyer_75 : decode cX11_buyer 75 = .ok (.isub, 1) := by decide +kernel
theorem dX11_buyer_76 : decode cX11_buyer 76 = .ok (.ireturn, 1) := by decide +kernel
theorem dX11_buyer_77 : decode cX11_buyer 77 = .ok (.bipush (-2), 2) := by decide +kernel
theorem dX11_buyer_79 : decode cX11_buyer 79 = .ok (.ireturn, 1) := by decide +kernel
theorem dX11_isMarket_0 : decode cX11_isMarket 0 = .ok (.aload_n 0, 1) := by decide +kernel
theorem dX11_isMarket_1 : decode cX11_isMarket 1 = .ok (.getfield 26, 3) := by decide +kernel
theorem dX11_isMarket_4 : decode cX11_isMarket 4 = .ok (.getfield 87, 3) := by decide +kernel
theorem dX11_isMarket_7 : decode cX11_isMarket 7 = .ok (.ifCond .le 7, 3) := by decide +kernel
theorem dX11_isMarket_10 : decode cX11_isMarket 10 = .ok (.iconst 1, 1) := by decide +kernel
theorem dX11_isMarket_11 : decode cX11_isMarket 11 = .ok (.goto 4, 3) := by decide +kernel
theorem dX11_isMarket_14 : decode cX11_isMarket 14 = .ok (.iconst 0, 1) := by decide +kernel
theorem dX11_isMarket_15 : decode cX11_isMarket 15 = .ok (.ireturn, 1) := by decide +kernel
theorem dX11_rich_0 : decode cX11_rich 0 = .ok (.aload_n 0, 1) := by decide +kernel
theorem dX11_rich_1 : decode cX11_rich 1 = .ok (.invokevirtual 177, 3) := by decide +kernel
theorem dX11_rich_4 : decode cX11_rich 4 = .ok (.ifCond .ne 6, 3) := by decide +kernel
theorem dX11_rich_7 : decode cX11_rich 7 = .ok (.bipush (-2), 2) := by decide +kernel
theorem dX11_rich_9 : decode cX11_rich 9 = .ok (.ireturn, 1) := by decide +kernel
theorem dX11_rich_10 : decode cX11_rich 10 = .ok (.aload_n 0, 1) := by decide +kernel
theorem dX11_rich_11 : decode cX11_rich 11 = .ok (.invokevirtual 117, 3) := by decide +kernel
theorem dX11_rich_14 : decode cX11_rich 14 = .ok (.astore_n 2, 1) := by decide +kernel
theorem dX11_rich_15 : decode cX11_rich 15 = .ok (.iconst 1, 1) := by decide +kernel
theorem dX11_rich_16 : decode cX11_rich 16 = .ok (.aload_n 0, 1) := by decide +kernel
theorem dX11_rich_17 : decode cX11_rich 17 = .ok (.getfield 26, 3) := by decide +kernel
theorem dX11_rich_20 : decode cX11_rich 20 = .ok (.getfield 181, 3) := by decide +kernel
theorem dX11_rich_23 : decode cX11_rich 23 = .ok (.getfield 185, 3) := by decide +kernel
theorem dX11_rich_26 : decode cX11_rich 26 = .ok (.ishl, 1) := by decide +kernel
theorem dX11_rich_27 : decode cX11_rich 27 = .ok (.iconst 1, 1) := by decide +kernel
theorem dX11_rich_28 : decode cX11_rich 28 = .ok (.isub, 1) := by decide +kernel
theorem dX11_rich_29 : decode cX11_rich 29 = .ok (.istore_n 3, 1) := by decide +kernel
theorem dX11_rich_30 : decode cX11_rich 30 = .ok (.iload_n 1, 1) := by decide +kernel
theorem dX11_rich_31 : decode cX11_rich 31 = .ok (.tableswitch 82 0 3 #[29, 57, 68, 77], 29) := by decide +kernel
theorem dX11_rich_60 : decode cX11_rich 60 = .ok (.aload_n 2, 1) := by decide +kernel
theorem dX11_rich_61 : decode cX11_rich 61 = .ok (.aload_n 0, 1) := by decide +kernel
theorem dX11_rich_62 : decode cX11_rich 62 = .ok (.getfield 26, 3) := by decide +kernel
theorem dX11_rich_65 : decode cX11_rich 65 = .ok (.invokevirtual 188, 3) := by decide +kernel
theorem dX11_rich_68 : decode cX11_rich 68 = .ok (.aload_n 0, 1) := by decide +kernel
theorem dX11_rich_69 : decode cX11_rich 69 = .ok (.getfield 26, 3) := by decide +kernel
theorem dX11_rich_72 : decode cX11_rich 72 = .ok (.getfield 192, 3) := by decide +kernel
theorem dX11_rich_75 : decode cX11_rich 75 = .ok (.if_icmp .ne 7, 3) := by decide +kernel
theorem dX11_rich_78 : decode cX11_rich 78 = .ok (.iconst (-1), 1) := by decide +kernel
theorem dX11_rich_79 : decode cX11_rich 79 = .ok (.goto 8, 3) := by decide +kernel
theorem dX11_rich_82 : decode cX11_rich 82 = .ok (.aload_n 2, 1) := by decide +kernel
theorem dX11_rich_83 : decode cX11_rich 83 = .ok (.iload_n 3, 1) := by decide +kernel
theorem dX11_rich_84 : decode cX11_rich 84 = .ok (.invokevirtual 146, 3) := by decide +kernel
theorem dX11_rich_87 : decode cX11_rich 87 = .ok (.ireturn, 1) := by decide +kernel
theorem dX11_rich_88 : decode cX11_rich 88 = .ok (.aload_n 2, 1) := by decide +kernel
theorem dX11_rich_89 : decode cX11_rich 89 = .ok (.iload_n 3, 1) := by decide +kernel
theorem dX11_rich_90 : decode cX11_rich 90 = .ok (.aload_n 2, 1) := by decide +kernel
theorem dX11_rich_91 : decode cX11_rich 91 = .ok (.iload_n 3, 1) := by decide +kernel
theorem dX11_rich_92 : decode cX11_rich 92 = .ok (.invokevirtual 146, 3) := by decide +kernel
theorem dX11_rich_95 : decode cX11_rich 95 = .ok (.invokevirtual 195, 3) := by decide +kernel
theorem dX11_rich_98 : decode cX11_rich 98 = .ok (.ireturn, 1) := by decide +kernel
theorem dX11_rich_99 : decode cX11_rich 99 = .ok (.aload_n 2, 1) := by decide +kernel
theorem dX11_rich_100 : decode cX11_rich 100 = .ok (.aload_n 0, 1) := by decide +kernel
theorem dX11_rich_101 : decode cX11_rich 101 = .ok (.getfield 26, 3) := by decide +kernel
theorem dX11_rich_104 : decode cX11_rich 104 = .ok (.invokevirtual 188, 3) := by decide +kernel
theorem dX11_rich_107 : decode cX11_rich 107 = .ok (.ireturn, 1) := by decide +kernel
theorem dX11_rich_108 : decode cX11_rich 108 = .ok (.aload_n 2, 1) := by decide +kernel
theorem dX11_rich_109 : decode cX11_rich 109 = .ok (.getfield 198, 3) := by decide +kernel
theorem dX11_rich_112 : decode cX11_rich 112 = .ok (.ireturn, 1) := by decide +kernel
theorem dX11_rich_113 : decode cX11_rich 113 = .ok (.bipush (-2), 2) := by decide +kernel
theorem dX11_rich_115 : decode cX11_rich 115 = .ok (.ireturn, 1) := by decide +kernel
theorem dX11_queue_0 : decode cX11_queue 0 = .ok (.aload_n 0, 1) := by decide +kernel
theorem dX11_queue_1 : decode cX11_queue 1 = .ok (.iload_n 1, 1) := by decide +kernel
theorem dX11_queue_2 : decode cX11_queue 2 = .ok (.iload_n 2, 1) := by decide +kernel
theorem dX11_queue_3 : decode cX11_queue 3 = .ok (.invokevirtual 96, 3) := by decide +kernel
theorem dX11_queue_6 : decode cX11_queue 6 = .ok (.ifCond .ne 6, 3) := by decide +kernel
theorem dX11_queue_9 : decode cX11_queue 9 = .ok (.bipush (-2), 2) := by decide +kernel
theorem dX11_queue_11 : decode cX11_queue 11 = .ok (.ireturn, 1) := by decide +kernel
theorem dX11_queue_12 : decode cX11_queue 12 = .ok (.iload_n 1, 1) := by decide +kernel
theorem dX11_queue_13 : decode cX11_queue 13 = .ok (.iload_n 2, 1) := by decide +kernel
theorem dX11_queue_14 : decode cX11_queue 14 = .ok (.invokestatic 110, 3) := by decide +kernel
theorem dX11_queue_17 : decode cX11_queue 17 = .ok (.istore_n 3, 1) := by decide +kernel
theorem dX11_queue_18 : decode cX11_queue 18 = .ok (.iconst 0, 1) := by decide +kernel
theorem dX11_queue_19 : decode cX11_queue 19 = .ok (.aload_n 0, 1) := by decide +kernel
theorem dX11_queue_20 : decode cX11_queue 20 = .ok (.invokevirtual 117, 3) := by decide +kernel
theorem dX11_queue_23 : decode cX11_queue 23 = .ok (.getfield 124, 3) := by decide +kernel
theorem dX11_queue_26 : decode cX11_queue 26 = .ok (.iload_n 3, 1) := by decide +kernel
theorem dX11_queue_27 : decode cX11_queue 27 = .ok (.iaload, 1) := by decide +kernel
theorem dX11_queue_28 : decode cX11_queue 28 = .ok (.aload_n 0, 1) := by decide +kernel
theorem dX11_queue_29 : decode cX11_queue 29 = .ok (.invokevirtual 117, 3) := by decide +kernel
theorem dX11_queue_32 : decode cX11_queue 32 = .ok (.getfield 121, 3) := by decide +kernel
theorem dX11_queue_35 : decode cX11_queue 35 = .ok (.iload_n 3, 1) := by decide +kernel
theorem dX11_queue_36 : decode cX11_queue 36 = .ok (.iaload, 1) := by decide +kernel
theorem dX11_queue_37 : decode cX11_queue 37 = .ok (.isub, 1) := by decide +kernel
theorem dX11_queue_38 : decode cX11_queue 38 = .ok (.invokestatic 201, 3) := by decide +kernel
theorem dX11_queue_41 : decode cX11_queue 41 = .ok (.ireturn, 1) := by decide +kernel
theorem dX11_spoils_0 : decode cX11_spoils 0 = .ok (.aload_n 0, 1) := by decide +kernel
theorem dX11_spoils_1 : decode cX11_spoils 1 = .ok (.iload_n 1, 1) := by decide +kernel
theorem dX11_spoils_2 : decode cX11_spoils 2 = .ok (.iload_n 2, 1) := by decide +kernel
theorem dX11_spoils_3 : decode cX11_spoils 3 = .ok (.invokevirtual 96, 3) := by decide +kernel
theorem dX11_spoils_6 : decode cX11_spoils 6 = .ok (.ifCond .eq 19, 3) := by decide +kernel
theorem dX11_spoils_9 : decode cX11_spoils 9 = .ok (.aload_n 0, 1) := by decide +kernel
theorem dX11_spoils_10 : decode cX11_spoils 10 = .ok (.invokevirtual 117, 3) := by decide +kernel
theorem dX11_spoils_13 : decode cX11_spoils 13 = .ok (.getfield 206, 3) := by decide +kernel
theorem dX11_spoils_16 : decode cX11_spoils 16 = .ok (.iload_n 1, 1) := by decide +kernel
theorem dX11_spoils_17 : decode cX11_spoils 17 = .ok (.iload_n 2, 1) := by decide +kernel
theorem dX11_spoils_18 : decode cX11_spoils 18 = .ok (.invokestatic 110, 3) := by decide +kernel
theorem dX11_spoils_21 : decode cX11_spoils 21 = .ok (.iaload, 1) := by decide +kernel
theorem dX11_spoils_22 : decode cX11_spoils 22 = .ok (.goto 5, 3) := by decide +kernel
theorem dX11_spoils_25 : decode cX11_spoils 25 = .ok (.bipush (-2), 2) := by decide +kernel
theorem dX11_spoils_27 : decode cX11_spoils 27 = .ok (.ireturn, 1) := by decide +kernel
theorem dX11_clears_0 : decode cX11_clears 0 = .ok (.aload_n 0, 1) := by decide +kernel
theorem dX11_clears_1 : decode cX11_clears 1 = .ok (.iload_n 1, 1) := by decide +kernel
theorem dX11_clears_2 : decode cX11_clears 2 = .ok (.iload_n 2, 1) := by decide +kernel
theorem dX11_clears_3 : decode cX11_clears 3 = .ok (.invokevirtual 96, 3) := by decide +kernel
theorem dX11_clears_6 : decode cX11_clears 6 = .ok (.ifCond .ne 6, 3) := by decide +kernel
theorem dX11_clears_9 : decode cX11_clears 9 = .ok (.bipush (-2), 2) := by decide +kernel
theorem dX11_clears_11 : decode cX11_clears 11 = .ok (.ireturn, 1) := by decide +kernel
theorem dX11_clears_12 : decode cX11_clears 12 = .ok (.aload_n 0, 1) := by decide +kernel
theorem dX11_clears_13 : decode cX11_clears 13 = .ok (.invokevirtual 117, 3) := by decide +kernel
theorem dX11_clears_16 : decode cX11_clears 16 = .ok (.getfield 121, 3) := by decide +kernel
theorem dX11_clears_19 : decode cX11_clears 19 = .ok (.iload_n 1, 1) := by decide +kernel
theorem dX11_clears_20 : decode cX11_clears 20 = .ok (.iload_n 2, 1) := by decide +kernel
theorem dX11_clears_21 : decode cX11_clears 21 = .ok (.invokestatic 110, 3) := by decide +kernel
theorem dX11_clears_24 : decode cX11_clears 24 = .ok (.iaload, 1) := by decide +kernel
theorem dX11_clears_25 : decode cX11_clears 25 = .ok (.istore_n 3, 1) := by decide +kernel
theorem dX11_clears_26 : decode cX11_clears 26 = .ok (.bipush 99, 2) := by decide +kernel
theorem dX11_clears_28 : decode cX11_clears 28 = .ok (.istore 4, 2) := by decide +kernel
theorem dX11_clears_30 : decode cX11_clears 30 = .ok (.iload 4, 2) := by decide +kernel
theorem dX11_clears_32 : decode cX11_clears 32 = .ok (.ifCond .lt 30, 3) := by decide +kernel
theorem dX11_clears_35 : decode cX11_clears 35 = .ok (.aload_n 0, 1) := by decide +kernel
theorem dX11_clears_36 : decode cX11_clears 36 = .ok (.getfield 26, 3) := by decide +kernel
theorem dX11_clears_39 : decode cX11_clears 39 = .ok (.getfield 168, 3) := by decide +kernel
theorem dX11_clears_42 : decode cX11_clears 42 = .ok (.iload_n 1, 1) := by decide +kernel
theorem dX11_clears_43 : decode cX11_clears 43 = .ok (.iload_n 2, 1) := by decide +kernel
theorem dX11_clears_44 : decode cX11_clears 44 = .ok (.iload 4, 2) := by decide +kernel
theorem dX11_clears_46 : decode cX11_clears 46 = .ok (.invokevirtual 209, 3) := by decide +kernel
theorem dX11_clears_49 : decode cX11_clears 49 = .ok (.iload_n 3, 1) := by decide +kernel
theorem dX11_clears_50 : decode cX11_clears 50 = .ok (.if_icmp .lt 6, 3) := by decide +kernel
theorem dX11_clears_53 : decode cX11_clears 53 = .ok (.iload 4, 2) := by decide +kernel
theorem dX11_clears_55 : decode cX11_clears 55 = .ok (.ireturn, 1) := by decide +kernel
theorem dX11_clears_56 : decode cX11_clears 56 = .ok (.iinc 4 (-1), 3) := by decide +kernel
theorem dX11_clears_59 : decode cX11_clears 59 = .ok (.goto (-29), 3) := by decide +kernel
theorem dX11_clears_62 : decode cX11_clears 62 = .ok (.iconst (-1), 1) := by decide +kernel
theorem dX11_clears_63 : decode cX11_clears 63 = .ok (.ireturn, 1) := by decide +kernel
theorem dX11_village_0 : decode cX11_village 0 = .ok (.aload_n 0, 1) := by decide +kernel
theorem dX11_village_1 : decode cX11_village 1 = .ok (.invokevirtual 177, 3) := by decide +kernel
theorem dX11_village_4 : decode cX11_village 4 = .ok (.ifCond .eq 23, 3) := by decide +kernel
theorem dX11_village_7 : decode cX11_village 7 = .ok (.iload_n 1, 1) := by decide +kernel
theorem dX11_village_8 : decode cX11_village 8 = .ok (.ifCond .lt 19, 3) := by decide +kernel
theorem dX11_village_11 : decode cX11_village 11 = .ok (.iload_n 1, 1) := by decide +kernel
theorem dX11_village_12 : decode cX11_village 12 = .ok (.iconst 1, 1) := by decide +kernel
theorem dX11_village_13 : decode cX11_village 13 = .ok (.aload_n 0, 1) := by decide +kernel
theorem dX11_village_14 : decode cX11_village 14 = .ok (.getfield 26, 3) := by decide +kernel
theorem dX11_village_17 : decode cX11_village 17 = .ok (.getfield 181, 3) := by decide +kernel
theorem dX11_village_20 : decode cX11_village 20 = .ok (.getfield 185, 3) := by decide +kernel
theorem dX11_village_23 : decode cX11_village 23 = .ok (.ishl, 1) := by decide +kernel
theorem dX11_village_24 : decode cX11_village 24 = .ok (.if_icmp .lt 6, 3) := by decide +kernel
theorem dX11_village_27 : decode cX11_village 27 = .ok (.bipush (-2), 2) := by decide +kernel
theorem dX11_village_29 : decode cX11_village 29 = .ok (.ireturn, 1) := by decide +kernel
theorem dX11_village_30 : decode cX11_village 30 = .ok (.aload_n 0, 1) := by decide +kernel
theorem dX11_village_31 : decode cX11_village 31 = .ok (.invokevirtual 117, 3) := by decide +kernel
theorem dX11_village_34 : decode cX11_village 34 = .ok (.astore_n 3, 1) := by decide +kernel
theorem dX11_village_35 : decode cX11_village 35 = .ok (.iconst 0, 1) := by decide +kernel
theorem dX11_village_36 : decode cX11_village 36 = .ok (.istore 4, 2) := by decide +kernel
theorem dX11_village_38 : decode cX11_village 38 = .ok (.iconst 0, 1) := by decide +kernel
theorem dX11_village_39 : decode cX11_village 39 = .ok (.istore 5, 2) := by decide +kernel
theorem dX11_village_41 : decode cX11_village 41 = .ok (.iload 5, 2) := by decide +kernel
theorem dX11_village_43 : decode cX11_village 43 = .ok (.aload_n 0, 1) := by decide +kernel
theorem dX11_village_44 : decode cX11_village 44 = .ok (.getfield 26, 3) := by decide +kernel
theorem dX11_village_47 : decode cX11_village 47 = .ok (.getfield 192, 3) := by decide +kernel
theorem dX11_village_50 : decode cX11_village 50 = .ok (.if_icmp .ge 21, 3) := by decide +kernel
theorem dX11_village_53 : decode cX11_village 53 = .ok (.iload 4, 2) := by decide +kernel
theorem dX11_village_55 : decode cX11_village 55 = .ok (.aload_n 3, 1) := by decide +kernel
theorem dX11_village_56 : decode cX11_village 56 = .ok (.iload_n 1, 1) := by decide +kernel
theorem dX11_village_57 : decode cX11_village 57 = .ok (.iload 5, 2) := by decide +kernel
theorem dX11_village_59 : decode cX11_village 59 = .ok (.invokevirtual 195, 3) := by decide +kernel
theorem dX11_village_62 : decode cX11_village 62 = .ok (.iadd, 1) := by decide +kernel
theorem dX11_village_63 : decode cX11_village 63 = .ok (.istore 4, 2) := by decide +kernel
theorem dX11_village_65 : decode cX11_village 65 = .ok (.iinc 5 1, 3) := by decide +kernel
theorem dX11_village_68 : decode cX11_village 68 = .ok (.goto (-27), 3) := by decide +kernel
theorem dX11_village_71 : decode cX11_village 71 = .ok (.iload_n 2, 1) := by decide +kernel
theorem dX11_village_72 : decode cX11_village 72 = .ok (.tableswitch 57 0 2 #[28, 43, 54], 28) := by decide +kernel
theorem dX11_village_100 : decode cX11_village 100 = .ok (.iload 4, 2) := by decide +kernel
theorem dX11_village_102 : decode cX11_village 102 = .ok (.ifCond .ne 7, 3) := by decide +kernel
theorem dX11_village_105 : decode cX11_village 105 = .ok (.iconst (-1), 1) := by decide +kernel
theorem dX11_village_106 : decode cX11_village 106 = .ok (.goto 8, 3) := by decide +kernel
theorem dX11_village_109 : decode cX11_village 109 = .ok (.aload_n 3, 1) := by decide +kernel
theorem dX11_village_110 : decode cX11_village 110 = .ok (.iload_n 1, 1) := by decide +kernel
theorem dX11_village_111 : decode cX11_village 111 = .ok (.invokevirtual 146, 3) := by decide +kernel
theorem dX11_village_114 : decode cX11_village 114 = .ok (.ireturn, 1) := by decide +kernel
theorem dX11_village_115 : decode cX11_village 115 = .ok (.aload_n 3, 1) := by decide +kernel
theorem dX11_village_116 : decode cX11_village 116 = .ok (.iload_n 1, 1) := by decide +kernel
theorem dX11_village_117 : decode cX11_village 117 = .ok (.aload_n 3, 1) := by decide +kernel
theorem dX11_village_118 : decode cX11_village 118 = .ok (.iload_n 1, 1) := by decide +kernel
theorem dX11_village_119 : decode cX11_village 119 = .ok (.invokevirtual 146, 3) := by decide +kernel
theorem dX11_village_122 : decode cX11_village 122 = .ok (.invokevirtual 195, 3) := by decide +kernel
theorem dX11_village_125 : decode cX11_village 125 = .ok (.ireturn, 1) := by decide +kernel
theorem dX11_village_126 : decode cX11_village 126 = .ok (.iload 4, 2) := by decide +kernel
theorem dX11_village_128 : decode cX11_village 128 = .ok (.ireturn, 1) := by decide +kernel
theorem dX11_village_129 : decode cX11_village 129 = .ok (.bipush (-2), 2) := by decide +kernel
theorem dX11_village_131 : decode cX11_village 131 = .ok (.ireturn, 1) := by decide +kernel
theorem dX11_within_0 : decode cX11_within 0 = .ok (.iload_n 0, 1) := by decide +kernel
theorem dX11_within_1 : decode cX11_within 1 = .ok (.iload_n 1, 1) := by decide +kernel
theorem dX11_within_2 : decode cX11_within 2 = .ok (.if_icmp .lt 12, 3) := by decide +kernel
theorem dX11_within_5 : decode cX11_within 5 = .ok (.iload_n 0, 1) := by decide +kernel
theorem dX11_within_6 : decode cX11_within 6 = .ok (.iload_n 2, 1) := by decide +kernel
theorem dX11_within_7 : decode cX11_within 7 = .ok (.if_icmp .gt 7, 3) := by decide +kernel
theorem dX11_within_10 : decode cX11_within 10 = .ok (.iconst 1, 1) := by decide +kernel
theorem dX11_within_11 : decode cX11_within 11 = .ok (.goto 4, 3) := by decide +kernel
theorem dX11_within_14 : decode cX11_within 14 = .ok (.iconst 0, 1) := by decide +kernel
theorem dX11_within_15 : decode cX11_within 15 = .ok (.ireturn, 1) := by decide +kernel
theorem dJ6_bitCount_0f7a4_0 : decode cJ6_bitCount_0f7a4 0 = .ok (.iload_n 0, 1) := by decide +kernel
theorem dJ6_bitCount_0f7a4_1 : decode cJ6_bitCount_0f7a4 1 = .ok (.iload_n 0, 1) := by decide +kernel
theorem dJ6_bitCount_0f7a4_2 : decode cJ6_bitCount_0f7a4 2 = .ok (.iconst 1, 1) := by decide +kernel
theorem dJ6_bitCount_0f7a4_3 : decode cJ6_bitCount_0f7a4 3 = .ok (.iushr, 1) := by decide +kernel
theorem dJ6_bitCount_0f7a4_4 : decode cJ6_bitCount_0f7a4 4 = .ok (.ldc_w 265, 3) := by decide +kernel
theorem dJ6_bitCount_0f7a4_7 : decode cJ6_bitCount_0f7a4 7 = .ok (.iand, 1) := by decide +kernel
theorem dJ6_bitCount_0f7a4_8 : decode cJ6_bitCount_0f7a4 8 = .ok (.isub, 1) := by decide +kernel
theorem dJ6_bitCount_0f7a4_9 : decode cJ6_bitCount_0f7a4 9 = .ok (.istore_n 0, 1) := by decide +kernel
theorem dJ6_bitCount_0f7a4_10 : decode cJ6_bitCount_0f7a4 10 = .ok (.iload_n 0, 1) := by decide +kernel
theorem dJ6_bitCount_0f7a4_11 : decode cJ6_bitCount_0f7a4 11 = .ok (.ldc_w 266, 3) := by decide +kernel
theorem dJ6_bitCount_0f7a4_14 : decode cJ6_bitCount_0f7a4 14 = .ok (.iand, 1) := by decide +kernel
theorem dJ6_bitCount_0f7a4_15 : decode cJ6_bitCount_0f7a4 15 = .ok (.iload_n 0, 1) := by decide +kernel
theorem dJ6_bitCount_0f7a4_16 : decode cJ6_bitCount_0f7a4 16 = .ok (.iconst 2, 1) := by decide +kernel
theorem dJ6_bitCount_0f7a4_17 : decode cJ6_bitCount_0f7a4 17 = .ok (.iushr, 1) := by decide +kernel
theorem dJ6_bitCount_0f7a4_18 : decode cJ6_bitCount_0f7a4 18 = .ok (.ldc_w 266, 3) := by decide +kernel
theorem dJ6_bitCount_0f7a4_21 : decode cJ6_bitCount_0f7a4 21 = .ok (.iand, 1) := by decide +kernel
theorem dJ6_bitCount_0f7a4_22 : decode cJ6_bitCount_0f7a4 22 = .ok (.iadd, 1) := by decide +kernel
theorem dJ6_bitCount_0f7a4_23 : decode cJ6_bitCount_0f7a4 23 = .ok (.istore_n 0, 1) := by decide +kernel
theorem dJ6_bitCount_0f7a4_24 : decode cJ6_bitCount_0f7a4 24 = .ok (.iload_n 0, 1) := by decide +kernel
theorem dJ6_bitCount_0f7a4_25 : decode cJ6_bitCount_0f7a4 25 = .ok (.iload_n 0, 1) := by decide +kernel
theorem dJ6_bitCount_0f7a4_26 : decode cJ6_bitCount_0f7a4 26 = .ok (.iconst 4, 1) := by decide +kernel
theorem dJ6_bitCount_0f7a4_27 : decode cJ6_bitCount_0f7a4 27 = .ok (.iushr, 1) := by decide +kernel
theorem dJ6_bitCount_0f7a4_28 : decode cJ6_bitCount_0f7a4 28 = .ok (.iadd, 1) := by decide +kernel
theorem dJ6_bitCount_0f7a4_29 : decode cJ6_bitCount_0f7a4 29 = .ok (.ldc_w 267, 3) := by decide +kernel
theorem dJ6_bitCount_0f7a4_32 : decode cJ6_bitCount_0f7a4 32 = .ok (.iand, 1) := by decide +kernel
theorem dJ6_bitCount_0f7a4_33 : decode cJ6_bitCount_0f7a4 33 = .ok (.istore_n 0, 1) := by decide +kernel
theorem dJ6_bitCount_0f7a4_34 : decode cJ6_bitCount_0f7a4 34 = .ok (.iload_n 0, 1) := by decide +kernel
theorem dJ6_bitCount_0f7a4_35 : decode cJ6_bitCount_0f7a4 35 = .ok (.iload_n 0, 1) := by decide +kernel
theorem dJ6_bitCount_0f7a4_36 : decode cJ6_bitCount_0f7a4 36 = .ok (.bipush 8, 2) := by decide +kernel
theorem dJ6_bitCount_0f7a4_38 : decode cJ6_bitCount_0f7a4 38 = .ok (.iushr, 1) := by decide +kernel
theorem dJ6_bitCount_0f7a4_39 : decode cJ6_bitCount_0f7a4 39 = .ok (.iadd, 1) := by decide +kernel
theorem dJ6_bitCount_0f7a4_40 : decode cJ6_bitCount_0f7a4 40 = .ok (.istore_n 0, 1) := by decide +kernel
theorem dJ6_bitCount_0f7a4_41 : decode cJ6_bitCount_0f7a4 41 = .ok (.iload_n 0, 1) := by decide +kernel
theorem dJ6_bitCount_0f7a4_42 : decode cJ6_bitCount_0f7a4 42 = .ok (.iload_n 0, 1) := by decide +kernel
theorem dJ6_bitCount_0f7a4_43 : decode cJ6_bitCount_0f7a4 43 = .ok (.bipush 16, 2) := by decide +kernel
theorem dJ6_bitCount_0f7a4_45 : decode cJ6_bitCount_0f7a4 45 = .ok (.iushr, 1) := by decide +kernel
theorem dJ6_bitCount_0f7a4_46 : decode cJ6_bitCount_0f7a4 46 = .ok (.iadd, 1) := by decide +kernel
theorem dJ6_bitCount_0f7a4_47 : decode cJ6_bitCount_0f7a4 47 = .ok (.istore_n 0, 1) := by decide +kernel
theorem dJ6_bitCount_0f7a4_48 : decode cJ6_bitCount_0f7a4 48 = .ok (.iload_n 0, 1) := by decide +kernel
theorem dJ6_bitCount_0f7a4_49 : decode cJ6_bitCount_0f7a4 49 = .ok (.bipush 63, 2) := by decide +kernel
theorem dJ6_bitCount_0f7a4_51 : decode cJ6_bitCount_0f7a4 51 = .ok (.iand, 1) := by decide +kernel
theorem dJ6_bitCount_0f7a4_52 : decode cJ6_bitCount_0f7a4 52 = .ok (.ireturn, 1) := by decide +kernel
theorem dX11_ordersWithAll_0 : decode cX11_ordersWithAll 0 = .ok (.aload_n 0, 1) := by decide +kernel
theorem dX11_ordersWithAll_1 : decode cX11_ordersWithAll 1 = .ok (.getfield 26, 3) := by decide +kernel
theorem dX11_ordersWithAll_4 : decode cX11_ordersWithAll 4 = .ok (.getfield 168, 3) := by decide +kernel
theorem dX11_ordersWithAll_7 : decode cX11_ordersWithAll 7 = .ok (.astore 5, 2) := by decide +kernel
theorem dX11_ordersWithAll_9 : decode cX11_ordersWithAll 9 = .ok (.aload 5, 2) := by decide +kernel
theorem dX11_ordersWithAll_11 : decode cX11_ordersWithAll 11 = .ok (.getfield 217, 3) := by decide +kernel
theorem dX11_ordersWithAll_14 : decode cX11_ordersWithAll 14 = .ok (.iload_n 1, 1) := by decide +kernel
theorem dX11_ordersWithAll_15 : decode cX11_ordersWithAll 15 = .ok (.iaload, 1) := by decide +kernel
theorem dX11_ordersWithAll_16 : decode cX11_ordersWithAll 16 = .ok (.istore 6, 2) := by decide +kernel
theorem dX11_ordersWithAll_18 : decode cX11_ordersWithAll 18 = .ok (.aload 5, 2) := by decide +kernel
theorem dX11_ordersWithAll_20 : decode cX11_ordersWithAll 20 = .ok (.iload 6, 2) := by decide +kernel
theorem dX11_ordersWithAll_22 : decode cX11_ordersWithAll 22 = .ok (.iload_n 2, 1) := by decide +kernel
theorem dX11_ordersWithAll_23 : decode cX11_ordersWithAll 23 = .ok (.iload_n 3, 1) := by decide +kernel
theorem dX11_ordersWithAll_24 : decode cX11_ordersWithAll 24 = .ok (.invokevirtual 231, 3) := by decide +kernel
theorem dX11_ordersWithAll_27 : decode cX11_ordersWithAll 27 = .ok (.iconst 1, 1) := by decide +kernel
theorem dX11_ordersWithAll_28 : decode cX11_ordersWithAll 28 = .ok (.isub, 1) := by decide +kernel
theorem dX11_ordersWithAll_29 : decode cX11_ordersWithAll 29 = .ok (.istore 7, 2) := by decide +kernel
theorem dX11_ordersWithAll_31 : decode cX11_ordersWithAll 31 = .ok (.iconst 0, 1) := by decide +kernel
theorem dX11_ordersWithAll_32 : decode cX11_ordersWithAll 32 = .ok (.istore 8, 2) := by decide +kernel
theorem dX11_ordersWithAll_34 : decode cX11_ordersWithAll 34 = .ok (.iconst 0, 1) := by decide +kernel
theorem dX11_ordersWithAll_35 : decode cX11_ordersWithAll 35 = .ok (.istore 9, 2) := by decide +kernel
theorem dX11_ordersWithAll_37 : decode cX11_ordersWithAll 37 = .ok (.iload 9, 2) := by decide +kernel
theorem dX11_ordersWithAll_39 : decode cX11_ordersWithAll 39 = .ok (.iconst 1, 1) := by decide +kernel
theorem dX11_ordersWithAll_40 : decode cX11_ordersWithAll 40 = .ok (.aload 5, 2) := by decide +kernel
theorem dX11_ordersWithAll_42 : decode cX11_ordersWithAll 42 = .ok (.getfield 343, 3) := by decide +kernel
theorem dX11_ordersWithAll_45 : decode cX11_ordersWithAll 45 = .ok (.ishl, 1) := by decide +kernel
theorem dX11_ordersWithAll_46 : decode cX11_ordersWithAll 46 = .ok (.if_icmp .ge 99, 3) := by decide +kernel
theorem dX11_ordersWithAll_49 : decode cX11_ordersWithAll 49 = .ok (.aload 5, 2) := by decide +kernel
theorem dX11_ordersWithAll_51 : decode cX11_ordersWithAll 51 = .ok (.iload 9, 2) := by decide +kernel
theorem dX11_ordersWithAll_53 : decode cX11_ordersWithAll 53 = .ok (.iload 6, 2) := by decide +kernel
theorem dX11_ordersWithAll_55 : decode cX11_ordersWithAll 55 = .ok (.iload_n 2, 1) := by decide +kernel
theorem dX11_ordersWithAll_56 : decode cX11_ordersWithAll 56 = .ok (.iload_n 3, 1) := by decide +kernel
theorem dX11_ordersWithAll_57 : decode cX11_ordersWithAll 57 = .ok (.invokevirtual 371, 3) := by decide +kernel
theorem dX11_ordersWithAll_60 : decode cX11_ordersWithAll 60 = .ok (.ifCond .eq 79, 3) := by decide +kernel
theorem dX11_ordersWithAll_63 : decode cX11_ordersWithAll 63 = .ok (.iload 9, 2) := by decide +kernel
theorem dX11_ordersWithAll_65 : decode cX11_ordersWithAll 65 = .ok (.iload_n 1, 1) := by decide +kernel
theorem dX11_ordersWithAll_66 : decode cX11_ordersWithAll 66 = .ok (.ishr, 1) := by decide +kernel
theorem dX11_ordersWithAll_67 : decode cX11_ordersWithAll 67 = .ok (.iconst 1, 1) := by decide +kernel
theorem dX11_ordersWithAll_68 : decode cX11_ordersWithAll 68 = .ok (.iand, 1) := by decide +kernel
theorem dX11_ordersWithAll_69 : decode cX11_ordersWithAll 69 = .ok (.ifCond .ne 70, 3) := by decide +kernel
theorem dX11_ordersWithAll_72 : decode cX11_ordersWithAll 72 = .ok (.iload 9, 2) := by decide +kernel
theorem dX11_ordersWithAll_74 : decode cX11_ordersWithAll 74 = .ok (.invokestatic 374, 3) := by decide +kernel
theorem dX11_ordersWithAll_77 : decode cX11_ordersWithAll 77 = .ok (.istore 10, 2) := by decide +kernel
theorem dX11_ordersWithAll_79 : decode cX11_ordersWithAll 79 = .ok (.aload 5, 2) := by decide +kernel
theorem dX11_ordersWithAll_81 : decode cX11_ordersWithAll 81 = .ok (.iload 9, 2) := by decide +kernel
theorem dX11_ordersWithAll_83 : decode cX11_ordersWithAll 83 = .ok (.invokevirtual 379, 3) := by decide +kernel
theorem dX11_ordersWithAll_86 : decode cX11_ordersWithAll 86 = .ok (.aload 5, 2) := by decide +kernel
theorem dX11_ordersWithAll_88 : decode cX11_ordersWithAll 88 = .ok (.getfield 382, 3) := by decide +kernel
theorem dX11_ordersWithAll_91 : decode cX11_ordersWithAll 91 = .ok (.iload_n 1, 1) := by decide +kernel
theorem dX11_ordersWithAll_92 : decode cX11_ordersWithAll 92 = .ok (.iaload, 1) := by decide +kernel
theorem dX11_ordersWithAll_93 : decode cX11_ordersWithAll 93 = .ok (.iadd, 1) := by decide +kernel
theorem dX11_ordersWithAll_94 : decode cX11_ordersWithAll 94 = .ok (.iload 4, 2) := by decide +kernel
theorem dX11_ordersWithAll_96 : decode cX11_ordersWithAll 96 = .ok (.if_icmp .gt 7, 3) := by decide +kernel
theorem dX11_ordersWithAll_99 : decode cX11_ordersWithAll 99 = .ok (.iconst 1, 1) := by decide +kernel
theorem dX11_ordersWithAll_100 : decode cX11_ordersWithAll 100 = .ok (.goto 4, 3) := by decide +kernel
theorem dX11_ordersWithAll_103 : decode cX11_ordersWithAll 103 = .ok (.iconst 0, 1) := by decide +kernel
theorem dX11_ordersWithAll_104 : decode cX11_ordersWithAll 104 = .ok (.istore 11, 2) := by decide +kernel
theorem dX11_ordersWithAll_106 : decode cX11_ordersWithAll 106 = .ok (.iload 11, 2) := by decide +kernel
theorem dX11_ordersWithAll_108 : decode cX11_ordersWithAll 108 = .ok (.ifCond .eq 31, 3) := by decide +kernel
theorem dX11_ordersWithAll_111 : decode cX11_ordersWithAll 111 = .ok (.iload 10, 2) := by decide +kernel
theorem dX11_ordersWithAll_113 : decode cX11_ordersWithAll 113 = .ok (.iload 7, 2) := by decide +kernel
theorem dX11_ordersWithAll_115 : decode cX11_ordersWithAll 115 = .ok (.if_icmp .gt 24, 3) := by decide +kernel
theorem dX11_ordersWithAll_118 : decode cX11_ordersWithAll 118 = .ok (.iload 8, 2) := by decide +kernel
theorem dX11_ordersWithAll_120 : decode cX11_ordersWithAll 120 = .ok (.getstatic 228, 3) := by decide +kernel
theorem dX11_ordersWithAll_123 : decode cX11_ordersWithAll 123 = .ok (.iload 10, 2) := by decide +kernel
theorem dX11_ordersWithAll_125 : decode cX11_ordersWithAll 125 = .ok (.iaload, 1) := by decide +kernel
theorem dX11_ordersWithAll_126 : decode cX11_ordersWithAll 126 = .ok (.getstatic 228, 3) := by decide +kernel
theorem dX11_ordersWithAll_129 : decode cX11_ordersWithAll 129 = .ok (.iload 7, 2) := by decide +kernel
theorem dX11_ordersWithAll_131 : decode cX11_ordersWithAll 131 = .ok (.iload 10, 2) := by decide +kernel
theorem dX11_ordersWithAll_133 : decode cX11_ordersWithAll 133 = .ok (.isub, 1) := by decide +kernel
theorem dX11_ordersWithAll_134 : decode cX11_ordersWithAll 134 = .ok (.iaload, 1) := by decide +kernel
theorem dX11_ordersWithAll_135 : decode cX11_ordersWithAll 135 = .ok (.imul, 1) := by decide +kernel
theorem dX11_ordersWithAll_136 : decode cX11_ordersWithAll 136 = .ok (.iadd, 1) := by decide +kernel
theorem dX11_ordersWithAll_137 : decode cX11_ordersWithAll 137 = .ok (.istore 8, 2) := by decide +kernel
theorem dX11_ordersWithAll_139 : decode cX11_ordersWithAll 139 = .ok (.iinc 9 1, 3) := by decide +kernel
theorem dX11_ordersWithAll_142 : decode cX11_ordersWithAll 142 = .ok (.goto (-105), 3) := by decide +kernel
theorem dX11_ordersWithAll_145 : decode cX11_ordersWithAll 145 = .ok (.iload 8, 2) := by decide +kernel
theorem dX11_ordersWithAll_147 : decode cX11_ordersWithAll 147 = .ok (.ireturn, 1) := by decide +kernel
theorem dX11_commonDivisor_0 : decode cX11_commonDivisor 0 = .ok (.iload_n 0, 1) := by decide +kernel
theorem dX11_commonDivisor_1 : decode cX11_commonDivisor 1 = .ok (.istore_n 2, 1) := by decide +kernel
theorem dX11_commonDivisor_2 : decode cX11_commonDivisor 2 = .ok (.iload_n 1, 1) := by decide +kernel
theorem dX11_commonDivisor_3 : decode cX11_commonDivisor 3 = .ok (.istore_n 3, 1) := by decide +kernel
theorem dX11_commonDivisor_4 : decode cX11_commonDivisor 4 = .ok (.iconst 0, 1) := by decide +kernel
theorem dX11_commonDivisor_5 : decode cX11_commonDivisor 5 = .ok (.istore 4, 2) := by decide +kernel
theorem dX11_commonDivisor_7 : decode cX11_commonDivisor 7 = .ok (.iload 4, 2) := by decide +kernel
theorem dX11_commonDivisor_9 : decode cX11_commonDivisor 9 = .ok (.bipush 100, 2) := by decide +kernel
theorem dX11_commonDivisor_11 : decode cX11_commonDivisor 11 = .ok (.if_icmp .ge 23, 3) := by decide +kernel
theorem dX11_commonDivisor_14 : decode cX11_commonDivisor 14 = .ok (.iload_n 3, 1) := by decide +kernel
theorem dX11_commonDivisor_15 : decode cX11_commonDivisor 15 = .ok (.ifCond .eq 19, 3) := by decide +kernel
theorem dX11_commonDivisor_18 : decode cX11_commonDivisor 18 = .ok (.iload_n 2, 1) := by decide +kernel
theorem dX11_commonDivisor_19 : decode cX11_commonDivisor 19 = .ok (.iload_n 3, 1) := by decide +kernel
theorem dX11_commonDivisor_20 : decode cX11_commonDivisor 20 = .ok (.irem, 1) := by decide +kernel
theorem dX11_commonDivisor_21 : decode cX11_commonDivisor 21 = .ok (.istore 5, 2) := by decide +kernel
theorem dX11_commonDivisor_23 : decode cX11_commonDivisor 23 = .ok (.iload_n 3, 1) := by decide +kernel
theorem dX11_commonDivisor_24 : decode cX11_commonDivisor 24 = .ok (.istore_n 2, 1) := by decide +kernel
theorem dX11_commonDivisor_25 : decode cX11_commonDivisor 25 = .ok (.iload 5, 2) := by decide +kernel
theorem dX11_commonDivisor_27 : decode cX11_commonDivisor 27 = .ok (.istore_n 3, 1) := by decide +kernel
theorem dX11_commonDivisor_28 : decode cX11_commonDivisor 28 = .ok (.iinc 4 1, 3) := by decide +kernel
theorem dX11_commonDivisor_31 : decode cX11_commonDivisor 31 = .ok (.goto (-24), 3) := by decide +kernel
theorem dX11_commonDivisor_34 : decode cX11_commonDivisor 34 = .ok (.iload_n 2, 1) := by decide +kernel
theorem dX11_commonDivisor_35 : decode cX11_commonDivisor 35 = .ok (.ireturn, 1) := by decide +kernel
theorem dX11_chance_0 : decode cX11_chance 0 = .ok (.aload_n 0, 1) := by decide +kernel
theorem dX11_chance_1 : decode cX11_chance 1 = .ok (.iload_n 1, 1) := by decide +kernel
theorem dX11_chance_2 : decode cX11_chance 2 = .ok (.invokevirtual 159, 3) := by decide +kernel
theorem dX11_chance_5 : decode cX11_chance 5 = .ok (.ifCond .eq 20, 3) := by decide +kernel
theorem dX11_chance_8 : decode cX11_chance 8 = .ok (.aload_n 0, 1) := by decide +kernel
theorem dX11_chance_9 : decode cX11_chance 9 = .ok (.iload_n 2, 1) := by decide +kernel
theorem dX11_chance_10 : decode cX11_chance 10 = .ok (.invokevirtual 150, 3) := by decide +kernel
theorem dX11_chance_13 : decode cX11_chance 13 = .ok (.ifCond .eq 12, 3) := by decide +kernel
theorem dX11_chance_16 : decode cX11_chance 16 = .ok (.iload_n 3, 1) := by decide +kernel
theorem dX11_chance_17 : decode cX11_chance 17 = .ok (.iconst 0, 1) := by decide +kernel
theorem dX11_chance_18 : decode cX11_chance 18 = .ok (.iconst 1, 1) := by decide +kernel
theorem dX11_chance_19 : decode cX11_chance 19 = .ok (.invokestatic 213, 3) := by decide +kernel
theorem dX11_chance_22 : decode cX11_chance 22 = .ok (.ifCond .ne 6, 3) := by decide +kernel
theorem dX11_chance_25 : decode cX11_chance 25 = .ok (.bipush (-2), 2) := by decide +kernel
theorem dX11_chance_27 : decode cX11_chance 27 = .ok (.ireturn, 1) := by decide +kernel
theorem dX11_chance_28 : decode cX11_chance 28 = .ok (.aload_n 0, 1) := by decide +kernel
theorem dX11_chance_29 : decode cX11_chance 29 = .ok (.getfield 26, 3) := by decide +kernel
theorem dX11_chance_32 : decode cX11_chance 32 = .ok (.getfield 168, 3) := by decide +kernel
theorem dX11_chance_35 : decode cX11_chance 35 = .ok (.getfield 217, 3) := by decide +kernel
theorem dX11_chance_38 : decode cX11_chance 38 = .ok (.iload_n 1, 1) := by decide +kernel
theorem dX11_chance_39 : decode cX11_chance 39 = .ok (.iaload, 1) := by decide +kernel
theorem dX11_chance_40 : decode cX11_chance 40 = .ok (.istore 4, 2) := by decide +kernel
theorem dX11_chance_42 : decode cX11_chance 42 = .ok (.iload 4, 2) := by decide +kernel
theorem dX11_chance_44 : decode cX11_chance 44 = .ok (.iload_n 2, 1) := by decide +kernel
theorem dX11_chance_45 : decode cX11_chance 45 = .ok (.invokestatic 110, 3) := by decide +kernel
theorem dX11_chance_48 : decode cX11_chance 48 = .ok (.istore 5, 2) := by decide +kernel
theorem dX11_chance_50 : decode cX11_chance 50 = .ok (.aload_n 0, 1) := by decide +kernel
theorem dX11_chance_51 : decode cX11_chance 51 = .ok (.getfield 26, 3) := by decide +kernel
theorem dX11_chance_54 : decode cX11_chance 54 = .ok (.getfield 100, 3) := by decide +kernel
theorem dX11_chance_57 : decode cX11_chance 57 = .ok (.getfield 104, 3) := by decide +kernel
theorem dX11_chance_60 : decode cX11_chance 60 = .ok (.iload 5, 2) := by decide +kernel
theorem dX11_chance_62 : decode cX11_chance 62 = .ok (.iaload, 1) := by decide +kernel
theorem dX11_chance_63 : decode cX11_chance 63 = .ok (.istore 6, 2) := by decide +kernel
theorem dX11_chance_65 : decode cX11_chance 65 = .ok (.iconst 0, 1) := by decide +kernel
theorem dX11_chance_66 : decode cX11_chance 66 = .ok (.istore 7, 2) := by decide +kernel
theorem dX11_chance_68 : decode cX11_chance 68 = .ok (.iconst 1, 1) := by decide +kernel
theorem dX11_chance_69 : decode cX11_chance 69 = .ok (.istore 8, 2) := by decide +kernel
theorem dX11_chance_71 : decode cX11_chance 71 = .ok (.aload_n 0, 1) := by decide +kernel
theorem dX11_chance_72 : decode cX11_chance 72 = .ok (.getfield 26, 3) := by decide +kernel
theorem dX11_chance_75 : decode cX11_chance 75 = .ok (.getfield 168, 3) := by decide +kernel
theorem dX11_chance_78 : decode cX11_chance 78 = .ok (.iload_n 1, 1) := by decide +kernel
theorem dX11_chance_79 : decode cX11_chance 79 = .ok (.iload 4, 2) := by decide +kernel
theorem dX11_chance_81 : decode cX11_chance 81 = .ok (.iload_n 2, 1) := by decide +kernel
theorem dX11_chance_82 : decode cX11_chance 82 = .ok (.iload 6, 2) := by decide +kernel
theorem dX11_chance_84 : decode cX11_chance 84 = .ok (.invokevirtual 220, 3) := by decide +kernel
theorem dX11_chance_87 : decode cX11_chance 87 = .ok (.ifCond .eq 48, 3) := by decide +kernel
theorem dX11_chance_90 : decode cX11_chance 90 = .ok (.aload_n 0, 1) := by decide +kernel
theorem dX11_chance_91 : decode cX11_chance 91 = .ok (.invokevirtual 117, 3) := by decide +kernel
theorem dX11_chance_94 : decode cX11_chance 94 = .ok (.getfield 121, 3) := by decide +kernel
theorem dX11_chance_97 : decode cX11_chance 97 = .ok (.iload 5, 2) := by decide +kernel
theorem dX11_chance_99 : decode cX11_chance 99 = .ok (.iaload, 1) := by decide +kernel
theorem dX11_chance_100 : decode cX11_chance 100 = .ok (.istore 9, 2) := by decide +kernel
theorem dX11_chance_102 : decode cX11_chance 102 = .ok (.aload_n 0, 1) := by decide +kernel
theorem dX11_chance_103 : decode cX11_chance 103 = .ok (.iload_n 1, 1) := by decide +kernel
theorem dX11_chance_104 : decode cX11_chance 104 = .ok (.iload_n 2, 1) := by decide +kernel
theorem dX11_chance_105 : decode cX11_chance 105 = .ok (.iload 6, 2) := by decide +kernel
theorem dX11_chance_107 : decode cX11_chance 107 = .ok (.iload 9, 2) := by decide +kernel
theorem dX11_chance_109 : decode cX11_chance 109 = .ok (.invokevirtual 224, 3) := by decide +kernel
theorem dX11_chance_112 : decode cX11_chance 112 = .ok (.istore 7, 2) := by decide +kernel
theorem dX11_chance_114 : decode cX11_chance 114 = .ok (.getstatic 228, 3) := by decide +kernel
theorem dX11_chance_117 : decode cX11_chance 117 = .ok (.aload_n 0, 1) := by decide +kernel
theorem dX11_chance_118 : decode cX11_chance 118 = .ok (.getfield 26, 3) := by decide +kernel
theorem dX11_chance_121 : decode cX11_chance 121 = .ok (.getfield 168, 3) := by decide +kernel
theorem dX11_chance_124 : decode cX11_chance 124 = .ok (.iload 4, 2) := by decide +kernel
theorem dX11_chance_126 : decode cX11_chance 126 = .ok (.iload_n 2, 1) := by decide +kernel
theorem dX11_chance_127 : decode cX11_chance 127 = .ok (.iload 6, 2) := by decide +kernel
theorem dX11_chance_129 : decode cX11_chance 129 = .ok (.invokevirtual 231, 3) := by decide +kernel
theorem dX11_chance_132 : decode cX11_chance 132 = .ok (.iaload, 1) := by decide +kernel
theorem dX11_chance_133 : decode cX11_chance 133 = .ok (.istore 8, 2) := by decide +kernel
theorem dX11_chance_135 : decode cX11_chance 135 = .ok (.iload 7, 2) := by decide +kernel
theorem dX11_chance_137 : decode cX11_chance 137 = .ok (.iload 8, 2) := by decide +kernel
theorem dX11_chance_139 : decode cX11_chance 139 = .ok (.invokestatic 234, 3) := by decide +kernel
theorem dX11_chance_142 : decode cX11_chance 142 = .ok (.istore 9, 2) := by decide +kernel
theorem dX11_chance_144 : decode cX11_chance 144 = .ok (.iload_n 3, 1) := by decide +kernel
theorem dX11_chance_145 : decode cX11_chance 145 = .ok (.ifCond .ne 8, 3) := by decide +kernel
theorem dX11_chance_148 : decode cX11_chance 148 = .ok (.iload 7, 2) := by decide +kernel
theorem dX11_chance_150 : decode cX11_chance 150 = .ok (.goto 5, 3) := by decide +kernel
theorem dX11_chance_153 : decode cX11_chance 153 = .ok (.iload 8, 2) := by decide +kernel
theorem dX11_chance_155 : decode cX11_chance 155 = .ok (.istore 10, 2) := by decide +kernel
theorem dX11_chance_157 : decode cX11_chance 157 = .ok (.iload 9, 2) := by decide +kernel
theorem dX11_chance_159 : decode cX11_chance 159 = .ok (.ifCond .le 11, 3) := by decide +kernel
theorem dX11_chance_162 : decode cX11_chance 162 = .ok (.iload 10, 2) := by decide +kernel
theorem dX11_chance_164 : decode cX11_chance 164 = .ok (.iload 9, 2) := by decide +kernel
theorem dX11_chance_166 : decode cX11_chance 166 = .ok (.idiv, 1) := by decide +kernel
theorem dX11_chance_167 : decode cX11_chance 167 = .ok (.goto 5, 3) := by decide +kernel
theorem dX11_chance_170 : decode cX11_chance 170 = .ok (.iload 10, 2) := by decide +kernel
theorem dX11_chance_172 : decode cX11_chance 172 = .ok (.ireturn, 1) := by decide +kernel
theorem dX11_costsSomeDay_0 : decode cX11_costsSomeDay 0 = .ok (.iconst 0, 1) := by decide +kernel
theorem dX11_costsSomeDay_1 : decode cX11_costsSomeDay 1 = .ok (.istore_n 3, 1) := by decide +kernel
theorem dX11_costsSomeDay_2 : decode cX11_costsSomeDay 2 = .ok (.iload_n 3, 1) := by decide +kernel
theorem dX11_costsSomeDay_3 : decode cX11_costsSomeDay 3 = .ok (.aload_n 0, 1) := by decide +kernel
theorem dX11_costsSomeDay_4 : decode cX11_costsSomeDay 4 = .ok (.getfield 26, 3) := by decide +kernel
theorem dX11_costsSomeDay_7 : decode cX11_costsSomeDay 7 = .ok (.getfield 192, 3) := by decide +kernel
theorem dX11_costsSomeDay_10 : decode cX11_costsSomeDay 10 = .ok (.if_icmp .ge 31, 3) := by decide +kernel
theorem dX11_costsSomeDay_13 : decode cX11_costsSomeDay 13 = .ok (.aload_n 0, 1) := by decide +kernel
theorem dX11_costsSomeDay_14 : decode cX11_costsSomeDay 14 = .ok (.getfield 26, 3) := by decide +kernel
theorem dX11_costsSomeDay_17 : decode cX11_costsSomeDay 17 = .ok (.getfield 100, 3) := by decide +kernel
theorem dX11_costsSomeDay_20 : decode cX11_costsSomeDay 20 = .ok (.getfield 104, 3) := by decide +kernel
theorem dX11_costsSomeDay_23 : decode cX11_costsSomeDay 23 = .ok (.iload_n 1, 1) := by decide +kernel
theorem dX11_costsSomeDay_24 : decode cX11_costsSomeDay 24 = .ok (.iload_n 3, 1) := by decide +kernel
theorem dX11_costsSomeDay_25 : decode cX11_costsSomeDay 25 = .ok (.invokestatic 110, 3) := by decide +kernel
theorem dX11_costsSomeDay_28 : decode cX11_costsSomeDay 28 = .ok (.iaload, 1) := by decide +kernel
theorem dX11_costsSomeDay_29 : decode cX11_costsSomeDay 29 = .ok (.iload_n 2, 1) := by decide +kernel
theorem dX11_costsSomeDay_30 : decode cX11_costsSomeDay 30 = .ok (.if_icmp .ne 5, 3) := by decide +kernel
theorem dX11_costsSomeDay_33 : decode cX11_costsSomeDay 33 = .ok (.iconst 1, 1) := by decide +kernel
theorem dX11_costsSomeDay_34 : decode cX11_costsSomeDay 34 = .ok (.ireturn, 1) := by decide +kernel
theorem dX11_costsSomeDay_35 : decode cX11_costsSomeDay 35 = .ok (.iinc 3 1, 3) := by decide +kernel
theorem dX11_costsSomeDay_38 : decode cX11_costsSomeDay 38 = .ok (.goto (-36), 3) := by decide +kernel
theorem dX11_costsSomeDay_41 : decode cX11_costsSomeDay 41 = .ok (.iconst 0, 1) := by decide +kernel
theorem dX11_costsSomeDay_42 : decode cX11_costsSomeDay 42 = .ok (.ireturn, 1) := by decide +kernel
theorem dX11_asks_0 : decode cX11_asks 0 = .ok (.aload_n 0, 1) := by decide +kernel
theorem dX11_asks_1 : decode cX11_asks 1 = .ok (.iload_n 1, 1) := by decide +kernel
theorem dX11_asks_2 : decode cX11_asks 2 = .ok (.invokevirtual 130, 3) := by decide +kernel
theorem dX11_asks_5 : decode cX11_asks 5 = .ok (.ifCond .ne 6, 3) := by decide +kernel
theorem dX11_asks_8 : decode cX11_asks 8 = .ok (.bipush (-2), 2) := by decide +kernel
theorem dX11_asks_10 : decode cX11_asks 10 = .ok (.ireturn, 1) := by decide +kernel
theorem dX11_asks_11 : decode cX11_asks 11 = .ok (.aload_n 0, 1) := by decide +kernel
theorem dX11_asks_12 : decode cX11_asks 12 = .ok (.getfield 26, 3) := by decide +kernel
theorem dX11_asks_15 : decode cX11_asks 15 = .ok (.getfield 181, 3) := by decide +kernel
theorem dX11_asks_18 : decode cX11_asks 18 = .ok (.getfield 237, 3) := by decide +kernel
theorem dX11_asks_21 : decode cX11_asks 21 = .ok (.iload_n 1, 1) := by decide +kernel
theorem dX11_asks_22 : decode cX11_asks 22 = .ok (.iaload, 1) := by decide +kernel
theorem dX11_asks_23 : decode cX11_asks 23 = .ok (.istore_n 2, 1) := by decide +kernel
theorem dX11_asks_24 : decode cX11_asks 24 = .ok (.aload_n 0, 1) := by decide +kernel
theorem dX11_asks_25 : decode cX11_asks 25 = .ok (.getfield 26, 3) := by decide +kernel
theorem dX11_asks_28 : decode cX11_asks 28 = .ok (.getfield 181, 3) := by decide +kernel
theorem dX11_asks_31 : decode cX11_asks 31 = .ok (.getfield 240, 3) := by decide +kernel
theorem dX11_asks_34 : decode cX11_asks 34 = .ok (.iload_n 1, 1) := by decide +kernel
theorem dX11_asks_35 : decode cX11_asks 35 = .ok (.iaload, 1) := by decide +kernel
theorem dX11_asks_36 : decode cX11_asks 36 = .ok (.istore_n 3, 1) := by decide +kernel
theorem dX11_asks_37 : decode cX11_asks 37 = .ok (.iconst (-1), 1) := by decide +kernel
theorem dX11_asks_38 : decode cX11_asks 38 = .ok (.istore 4, 2) := by decide +kernel
theorem dX11_asks_40 : decode cX11_asks 40 = .ok (.iconst 0, 1) := by decide +kernel
theorem dX11_asks_41 : decode cX11_asks 41 = .ok (.istore 5, 2) := by decide +kernel
theorem dX11_asks_43 : decode cX11_asks 43 = .ok (.iconst 0, 1) := by decide +kernel
theorem dX11_asks_44 : decode cX11_asks 44 = .ok (.istore 6, 2) := by decide +kernel
theorem dX11_asks_46 : decode cX11_asks 46 = .ok (.iload 6, 2) := by decide +kernel
theorem dX11_asks_48 : decode cX11_asks 48 = .ok (.bipush 99, 2) := by decide +kernel
theorem dX11_asks_50 : decode cX11_asks 50 = .ok (.if_icmp .gt 81, 3) := by decide +kernel
theorem dX11_asks_53 : decode cX11_asks 53 = .ok (.iload 6, 2) := by decide +kernel
theorem dX11_asks_55 : decode cX11_asks 55 = .ok (.ifCond .eq 15, 3) := by decide +kernel
theorem dX11_asks_58 : decode cX11_asks 58 = .ok (.aload_n 0, 1) := by decide +kernel
theorem dX11_asks_59 : decode cX11_asks 59 = .ok (.iload_n 3, 1) := by decide +kernel
theorem dX11_asks_60 : decode cX11_asks 60 = .ok (.iload 6, 2) := by decide +kernel
theorem dX11_asks_62 : decode cX11_asks 62 = .ok (.iconst 1, 1) := by decide +kernel
theorem dX11_asks_63 : decode cX11_asks 63 = .ok (.isub, 1) := by decide +kernel
theorem dX11_asks_64 : decode cX11_asks 64 = .ok (.invokevirtual 241, 3) := by decide +kernel
theorem dX11_asks_67 : decode cX11_asks 67 = .ok (.ifCond .eq 58, 3) := by decide +kernel
theorem dX11_asks_70 : decode cX11_asks 70 = .ok (.aload_n 0, 1) := by decide +kernel
theorem dX11_asks_71 : decode cX11_asks 71 = .ok (.getfield 26, 3) := by decide +kernel
theorem dX11_asks_74 : decode cX11_asks 74 = .ok (.getfield 181, 3) := by decide +kernel
theorem dX11_asks_77 : decode cX11_asks 77 = .ok (.getfield 237, 3) := by decide +kernel
theorem dX11_asks_80 : decode cX11_asks 80 = .ok (.iload_n 1, 1) := by decide +kernel
theorem dX11_asks_81 : decode cX11_asks 81 = .ok (.iload 6, 2) := by decide +kernel
theorem dX11_asks_83 : decode cX11_asks 83 = .ok (.iastore, 1) := by decide +kernel
theorem dX11_asks_84 : decode cX11_asks 84 = .ok (.aload_n 0, 1) := by decide +kernel
theorem dX11_asks_85 : decode cX11_asks 85 = .ok (.getfield 37, 3) := by decide +kernel
theorem dX11_asks_88 : decode cX11_asks 88 = .ok (.aload_n 0, 1) := by decide +kernel
theorem dX11_asks_89 : decode cX11_asks 89 = .ok (.getfield 26, 3) := by decide +kernel
theorem dX11_asks_92 : decode cX11_asks 92 = .ok (.iconst 1, 1) := by decide +kernel
theorem dX11_asks_93 : decode cX11_asks 93 = .ok (.invokevirtual 244, 3) := by decide +kernel
theorem dX11_asks_96 : decode cX11_asks 96 = .ok (.aload_n 0, 1) := by decide +kernel
theorem dX11_asks_97 : decode cX11_asks 97 = .ok (.getfield 37, 3) := by decide +kernel
