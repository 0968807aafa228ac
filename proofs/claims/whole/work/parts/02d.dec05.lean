theorem dX12_asksCrowds_18 : decode cX12_asksCrowds 18 = .ok (.iload_n 1, 1) := by decide +kernel
theorem dX12_asksCrowds_19 : decode cX12_asksCrowds 19 = .ok (.iaload, 1) := by decide +kernel
theorem dX12_asksCrowds_20 : decode cX12_asksCrowds 20 = .ok (.iconst (-1), 1) := by decide +kernel
theorem dX12_asksCrowds_21 : decode cX12_asksCrowds 21 = .ok (.if_icmp .ne 6, 3) := by decide +kernel
theorem dX12_asksCrowds_24 : decode cX12_asksCrowds 24 = .ok (.bipush (-6), 2) := by decide +kernel
theorem dX12_asksCrowds_26 : decode cX12_asksCrowds 26 = .ok (.ireturn, 1) := by decide +kernel
theorem dX12_asksCrowds_27 : decode cX12_asksCrowds 27 = .ok (.aload_n 0, 1) := by decide +kernel
theorem dX12_asksCrowds_28 : decode cX12_asksCrowds 28 = .ok (.getfield 76, 3) := by decide +kernel
theorem dX12_asksCrowds_31 : decode cX12_asksCrowds 31 = .ok (.iload_n 1, 1) := by decide +kernel
theorem dX12_asksCrowds_32 : decode cX12_asksCrowds 32 = .ok (.iaload, 1) := by decide +kernel
theorem dX12_asksCrowds_33 : decode cX12_asksCrowds 33 = .ok (.iconst 3, 1) := by decide +kernel
theorem dX12_asksCrowds_34 : decode cX12_asksCrowds 34 = .ok (.irem, 1) := by decide +kernel
theorem dX12_asksCrowds_35 : decode cX12_asksCrowds 35 = .ok (.ifCond .eq 6, 3) := by decide +kernel
theorem dX12_asksCrowds_38 : decode cX12_asksCrowds 38 = .ok (.bipush (-2), 2) := by decide +kernel
theorem dX12_asksCrowds_40 : decode cX12_asksCrowds 40 = .ok (.ireturn, 1) := by decide +kernel
theorem dX12_asksCrowds_41 : decode cX12_asksCrowds 41 = .ok (.iconst 0, 1) := by decide +kernel
theorem dX12_asksCrowds_42 : decode cX12_asksCrowds 42 = .ok (.istore_n 3, 1) := by decide +kernel
theorem dX12_asksCrowds_43 : decode cX12_asksCrowds 43 = .ok (.iload_n 3, 1) := by decide +kernel
theorem dX12_asksCrowds_44 : decode cX12_asksCrowds 44 = .ok (.aload_n 0, 1) := by decide +kernel
theorem dX12_asksCrowds_45 : decode cX12_asksCrowds 45 = .ok (.getfield 76, 3) := by decide +kernel
theorem dX12_asksCrowds_48 : decode cX12_asksCrowds 48 = .ok (.iload_n 1, 1) := by decide +kernel
theorem dX12_asksCrowds_49 : decode cX12_asksCrowds 49 = .ok (.iaload, 1) := by decide +kernel
theorem dX12_asksCrowds_50 : decode cX12_asksCrowds 50 = .ok (.if_icmp .ge 40, 3) := by decide +kernel
theorem dX12_asksCrowds_53 : decode cX12_asksCrowds 53 = .ok (.aload_n 0, 1) := by decide +kernel
theorem dX12_asksCrowds_54 : decode cX12_asksCrowds 54 = .ok (.aload_n 0, 1) := by decide +kernel
theorem dX12_asksCrowds_55 : decode cX12_asksCrowds 55 = .ok (.iload_n 1, 1) := by decide +kernel
theorem dX12_asksCrowds_56 : decode cX12_asksCrowds 56 = .ok (.iload_n 3, 1) := by decide +kernel
theorem dX12_asksCrowds_57 : decode cX12_asksCrowds 57 = .ok (.invokevirtual 383, 3) := by decide +kernel
theorem dX12_asksCrowds_60 : decode cX12_asksCrowds 60 = .ok (.invokevirtual 98, 3) := by decide +kernel
theorem dX12_asksCrowds_63 : decode cX12_asksCrowds 63 = .ok (.ifCond .eq 18, 3) := by decide +kernel
theorem dX12_asksCrowds_66 : decode cX12_asksCrowds 66 = .ok (.aload_n 0, 1) := by decide +kernel
theorem dX12_asksCrowds_67 : decode cX12_asksCrowds 67 = .ok (.aload_n 0, 1) := by decide +kernel
theorem dX12_asksCrowds_68 : decode cX12_asksCrowds 68 = .ok (.iload_n 1, 1) := by decide +kernel
theorem dX12_asksCrowds_69 : decode cX12_asksCrowds 69 = .ok (.iload_n 3, 1) := by decide +kernel
theorem dX12_asksCrowds_70 : decode cX12_asksCrowds 70 = .ok (.iconst 1, 1) := by decide +kernel
theorem dX12_asksCrowds_71 : decode cX12_asksCrowds 71 = .ok (.iadd, 1) := by decide +kernel
theorem dX12_asksCrowds_72 : decode cX12_asksCrowds 72 = .ok (.invokevirtual 383, 3) := by decide +kernel
theorem dX12_asksCrowds_75 : decode cX12_asksCrowds 75 = .ok (.invokevirtual 102, 3) := by decide +kernel
theorem dX12_asksCrowds_78 : decode cX12_asksCrowds 78 = .ok (.ifCond .ne 6, 3) := by decide +kernel
theorem dX12_asksCrowds_81 : decode cX12_asksCrowds 81 = .ok (.bipush (-2), 2) := by decide +kernel
theorem dX12_asksCrowds_83 : decode cX12_asksCrowds 83 = .ok (.ireturn, 1) := by decide +kernel
theorem dX12_asksCrowds_84 : decode cX12_asksCrowds 84 = .ok (.iinc 3 3, 3) := by decide +kernel
theorem dX12_asksCrowds_87 : decode cX12_asksCrowds 87 = .ok (.goto (-44), 3) := by decide +kernel
theorem dX12_asksCrowds_90 : decode cX12_asksCrowds 90 = .ok (.iconst 0, 1) := by decide +kernel
theorem dX12_asksCrowds_91 : decode cX12_asksCrowds 91 = .ok (.ireturn, 1) := by decide +kernel
theorem dX12_agrees_0 : decode cX12_agrees 0 = .ok (.iconst 0, 1) := by decide +kernel
theorem dX12_agrees_1 : decode cX12_agrees 1 = .ok (.istore 5, 2) := by decide +kernel
theorem dX12_agrees_3 : decode cX12_agrees 3 = .ok (.iload 5, 2) := by decide +kernel
theorem dX12_agrees_5 : decode cX12_agrees 5 = .ok (.aload_n 0, 1) := by decide +kernel
theorem dX12_agrees_6 : decode cX12_agrees 6 = .ok (.getfield 76, 3) := by decide +kernel
theorem dX12_agrees_9 : decode cX12_agrees 9 = .ok (.iload_n 1, 1) := by decide +kernel
theorem dX12_agrees_10 : decode cX12_agrees 10 = .ok (.iaload, 1) := by decide +kernel
theorem dX12_agrees_11 : decode cX12_agrees 11 = .ok (.if_icmp .ge 73, 3) := by decide +kernel
theorem dX12_agrees_14 : decode cX12_agrees 14 = .ok (.aload_n 0, 1) := by decide +kernel
theorem dX12_agrees_15 : decode cX12_agrees 15 = .ok (.iload_n 1, 1) := by decide +kernel
theorem dX12_agrees_16 : decode cX12_agrees 16 = .ok (.iload 5, 2) := by decide +kernel
theorem dX12_agrees_18 : decode cX12_agrees 18 = .ok (.invokevirtual 383, 3) := by decide +kernel
theorem dX12_agrees_21 : decode cX12_agrees 21 = .ok (.iload_n 2, 1) := by decide +kernel
theorem dX12_agrees_22 : decode cX12_agrees 22 = .ok (.i2l, 1) := by decide +kernel
theorem dX12_agrees_23 : decode cX12_agrees 23 = .ok (.lcmp, 1) := by decide +kernel
theorem dX12_agrees_24 : decode cX12_agrees 24 = .ok (.ifCond .ne 22, 3) := by decide +kernel
theorem dX12_agrees_27 : decode cX12_agrees 27 = .ok (.aload_n 0, 1) := by decide +kernel
theorem dX12_agrees_28 : decode cX12_agrees 28 = .ok (.iload_n 1, 1) := by decide +kernel
theorem dX12_agrees_29 : decode cX12_agrees 29 = .ok (.iload 5, 2) := by decide +kernel
theorem dX12_agrees_31 : decode cX12_agrees 31 = .ok (.iconst 1, 1) := by decide +kernel
theorem dX12_agrees_32 : decode cX12_agrees 32 = .ok (.iadd, 1) := by decide +kernel
theorem dX12_agrees_33 : decode cX12_agrees 33 = .ok (.invokevirtual 383, 3) := by decide +kernel
theorem dX12_agrees_36 : decode cX12_agrees 36 = .ok (.iload_n 3, 1) := by decide +kernel
theorem dX12_agrees_37 : decode cX12_agrees 37 = .ok (.i2l, 1) := by decide +kernel
theorem dX12_agrees_38 : decode cX12_agrees 38 = .ok (.lcmp, 1) := by decide +kernel
theorem dX12_agrees_39 : decode cX12_agrees 39 = .ok (.ifCond .ne 7, 3) := by decide +kernel
theorem dX12_agrees_42 : decode cX12_agrees 42 = .ok (.iconst 1, 1) := by decide +kernel
theorem dX12_agrees_43 : decode cX12_agrees 43 = .ok (.goto 4, 3) := by decide +kernel
theorem dX12_agrees_46 : decode cX12_agrees 46 = .ok (.iconst 0, 1) := by decide +kernel
theorem dX12_agrees_47 : decode cX12_agrees 47 = .ok (.istore 6, 2) := by decide +kernel
theorem dX12_agrees_49 : decode cX12_agrees 49 = .ok (.iload 6, 2) := by decide +kernel
theorem dX12_agrees_51 : decode cX12_agrees 51 = .ok (.ifCond .eq 27, 3) := by decide +kernel
theorem dX12_agrees_54 : decode cX12_agrees 54 = .ok (.aload_n 0, 1) := by decide +kernel
theorem dX12_agrees_55 : decode cX12_agrees 55 = .ok (.iload_n 2, 1) := by decide +kernel
theorem dX12_agrees_56 : decode cX12_agrees 56 = .ok (.iload_n 3, 1) := by decide +kernel
theorem dX12_agrees_57 : decode cX12_agrees 57 = .ok (.iload 4, 2) := by decide +kernel
theorem dX12_agrees_59 : decode cX12_agrees 59 = .ok (.invokevirtual 377, 3) := by decide +kernel
theorem dX12_agrees_62 : decode cX12_agrees 62 = .ok (.i2l, 1) := by decide +kernel
theorem dX12_agrees_63 : decode cX12_agrees 63 = .ok (.aload_n 0, 1) := by decide +kernel
theorem dX12_agrees_64 : decode cX12_agrees 64 = .ok (.iload_n 1, 1) := by decide +kernel
theorem dX12_agrees_65 : decode cX12_agrees 65 = .ok (.iload 5, 2) := by decide +kernel
theorem dX12_agrees_67 : decode cX12_agrees 67 = .ok (.iconst 2, 1) := by decide +kernel
theorem dX12_agrees_68 : decode cX12_agrees 68 = .ok (.iadd, 1) := by decide +kernel
theorem dX12_agrees_69 : decode cX12_agrees 69 = .ok (.invokevirtual 383, 3) := by decide +kernel
theorem dX12_agrees_72 : decode cX12_agrees 72 = .ok (.lcmp, 1) := by decide +kernel
theorem dX12_agrees_73 : decode cX12_agrees 73 = .ok (.ifCond .eq 5, 3) := by decide +kernel
theorem dX12_agrees_76 : decode cX12_agrees 76 = .ok (.iconst 0, 1) := by decide +kernel
theorem dX12_agrees_77 : decode cX12_agrees 77 = .ok (.ireturn, 1) := by decide +kernel
theorem dX12_agrees_78 : decode cX12_agrees 78 = .ok (.iinc 5 3, 3) := by decide +kernel
theorem dX12_agrees_81 : decode cX12_agrees 81 = .ok (.goto (-78), 3) := by decide +kernel
theorem dX12_agrees_84 : decode cX12_agrees 84 = .ok (.iconst 1, 1) := by decide +kernel
theorem dX12_agrees_85 : decode cX12_agrees 85 = .ok (.ireturn, 1) := by decide +kernel
theorem dX12_agree_0 : decode cX12_agree 0 = .ok (.aload_n 0, 1) := by decide +kernel
theorem dX12_agree_1 : decode cX12_agree 1 = .ok (.iload_n 1, 1) := by decide +kernel
theorem dX12_agree_2 : decode cX12_agree 2 = .ok (.aload_n 0, 1) := by decide +kernel
theorem dX12_agree_3 : decode cX12_agree 3 = .ok (.iload_n 2, 1) := by decide +kernel
theorem dX12_agree_4 : decode cX12_agree 4 = .ok (.iload_n 3, 1) := by decide +kernel
theorem dX12_agree_5 : decode cX12_agree 5 = .ok (.invokevirtual 307, 3) := by decide +kernel
theorem dX12_agree_8 : decode cX12_agree 8 = .ok (.invokevirtual 387, 3) := by decide +kernel
theorem dX12_agree_11 : decode cX12_agree 11 = .ok (.istore 4, 2) := by decide +kernel
theorem dX12_agree_13 : decode cX12_agree 13 = .ok (.iload 4, 2) := by decide +kernel
theorem dX12_agree_15 : decode cX12_agree 15 = .ok (.ifCond .ge 6, 3) := by decide +kernel
theorem dX12_agree_18 : decode cX12_agree 18 = .ok (.iload 4, 2) := by decide +kernel
theorem dX12_agree_20 : decode cX12_agree 20 = .ok (.ireturn, 1) := by decide +kernel
theorem dX12_agree_21 : decode cX12_agree 21 = .ok (.iconst 0, 1) := by decide +kernel
theorem dX12_agree_22 : decode cX12_agree 22 = .ok (.istore 5, 2) := by decide +kernel
theorem dX12_agree_24 : decode cX12_agree 24 = .ok (.iconst 0, 1) := by decide +kernel
theorem dX12_agree_25 : decode cX12_agree 25 = .ok (.istore 6, 2) := by decide +kernel
theorem dX12_agree_27 : decode cX12_agree 27 = .ok (.iload 6, 2) := by decide +kernel
theorem dX12_agree_29 : decode cX12_agree 29 = .ok (.bipush 99, 2) := by decide +kernel
theorem dX12_agree_31 : decode cX12_agree 31 = .ok (.if_icmp .gt 31, 3) := by decide +kernel
theorem dX12_agree_34 : decode cX12_agree 34 = .ok (.iload 5, 2) := by decide +kernel
theorem dX12_agree_36 : decode cX12_agree 36 = .ok (.aload_n 0, 1) := by decide +kernel
theorem dX12_agree_37 : decode cX12_agree 37 = .ok (.iload_n 1, 1) := by decide +kernel
theorem dX12_agree_38 : decode cX12_agree 38 = .ok (.iload_n 2, 1) := by decide +kernel
theorem dX12_agree_39 : decode cX12_agree 39 = .ok (.iload_n 3, 1) := by decide +kernel
theorem dX12_agree_40 : decode cX12_agree 40 = .ok (.iload 6, 2) := by decide +kernel
theorem dX12_agree_42 : decode cX12_agree 42 = .ok (.invokevirtual 391, 3) := by decide +kernel
theorem dX12_agree_45 : decode cX12_agree 45 = .ok (.ifCond .eq 7, 3) := by decide +kernel
theorem dX12_agree_48 : decode cX12_agree 48 = .ok (.iconst 1, 1) := by decide +kernel
theorem dX12_agree_49 : decode cX12_agree 49 = .ok (.goto 4, 3) := by decide +kernel
theorem dX12_agree_52 : decode cX12_agree 52 = .ok (.iconst 0, 1) := by decide +kernel
theorem dX12_agree_53 : decode cX12_agree 53 = .ok (.iadd, 1) := by decide +kernel
theorem dX12_agree_54 : decode cX12_agree 54 = .ok (.istore 5, 2) := by decide +kernel
theorem dX12_agree_56 : decode cX12_agree 56 = .ok (.iinc 6 1, 3) := by decide +kernel
theorem dX12_agree_59 : decode cX12_agree 59 = .ok (.goto (-32), 3) := by decide +kernel
theorem dX12_agree_62 : decode cX12_agree 62 = .ok (.iload 5, 2) := by decide +kernel
theorem dX12_agree_64 : decode cX12_agree 64 = .ok (.ireturn, 1) := by decide +kernel
theorem dX12_told__0 : decode cX12_told_ 0 = .ok (.aload_n 0, 1) := by decide +kernel
theorem dX12_told__1 : decode cX12_told_ 1 = .ok (.iload_n 1, 1) := by decide +kernel
theorem dX12_told__2 : decode cX12_told_ 2 = .ok (.aload_n 0, 1) := by decide +kernel
theorem dX12_told__3 : decode cX12_told_ 3 = .ok (.iload_n 2, 1) := by decide +kernel
theorem dX12_told__4 : decode cX12_told_ 4 = .ok (.iload_n 3, 1) := by decide +kernel
theorem dX12_told__5 : decode cX12_told_ 5 = .ok (.invokevirtual 307, 3) := by decide +kernel
theorem dX12_told__8 : decode cX12_told_ 8 = .ok (.ifCond .eq 18, 3) := by decide +kernel
theorem dX12_told__11 : decode cX12_told_ 11 = .ok (.iload 4, 2) := by decide +kernel
theorem dX12_told__13 : decode cX12_told_ 13 = .ok (.i2l, 1) := by decide +kernel
theorem dX12_told__14 : decode cX12_told_ 14 = .ok (.lconst 0, 1) := by decide +kernel
theorem dX12_told__15 : decode cX12_told_ 15 = .ok (.lconst 1, 1) := by decide +kernel
theorem dX12_told__16 : decode cX12_told_ 16 = .ok (.invokestatic 94, 3) := by decide +kernel
theorem dX12_told__19 : decode cX12_told_ 19 = .ok (.ifCond .eq 7, 3) := by decide +kernel
theorem dX12_told__22 : decode cX12_told_ 22 = .ok (.iconst 1, 1) := by decide +kernel
theorem dX12_told__23 : decode cX12_told_ 23 = .ok (.goto 4, 3) := by decide +kernel
theorem dX12_told__26 : decode cX12_told_ 26 = .ok (.iconst 0, 1) := by decide +kernel
theorem dX12_told__27 : decode cX12_told_ 27 = .ok (.invokevirtual 387, 3) := by decide +kernel
theorem dX12_told__30 : decode cX12_told_ 30 = .ok (.istore 5, 2) := by decide +kernel
theorem dX12_told__32 : decode cX12_told_ 32 = .ok (.iload 5, 2) := by decide +kernel
theorem dX12_told__34 : decode cX12_told_ 34 = .ok (.ifCond .ge 6, 3) := by decide +kernel
theorem dX12_told__37 : decode cX12_told_ 37 = .ok (.iload 5, 2) := by decide +kernel
theorem dX12_told__39 : decode cX12_told_ 39 = .ok (.ireturn, 1) := by decide +kernel
theorem dX12_told__40 : decode cX12_told_ 40 = .ok (.iconst (-1), 1) := by decide +kernel
theorem dX12_told__41 : decode cX12_told_ 41 = .ok (.istore 6, 2) := by decide +kernel
theorem dX12_told__43 : decode cX12_told_ 43 = .ok (.iconst (-1), 1) := by decide +kernel
theorem dX12_told__44 : decode cX12_told_ 44 = .ok (.istore 7, 2) := by decide +kernel
theorem dX12_told__46 : decode cX12_told_ 46 = .ok (.iconst 0, 1) := by decide +kernel
theorem dX12_told__47 : decode cX12_told_ 47 = .ok (.istore 8, 2) := by decide +kernel
theorem dX12_told__49 : decode cX12_told_ 49 = .ok (.iload 8, 2) := by decide +kernel
theorem dX12_told__51 : decode cX12_told_ 51 = .ok (.bipush 99, 2) := by decide +kernel
theorem dX12_told__53 : decode cX12_told_ 53 = .ok (.if_icmp .gt 43, 3) := by decide +kernel
theorem dX12_told__56 : decode cX12_told_ 56 = .ok (.aload_n 0, 1) := by decide +kernel
theorem dX12_told__57 : decode cX12_told_ 57 = .ok (.iload_n 1, 1) := by decide +kernel
theorem dX12_told__58 : decode cX12_told_ 58 = .ok (.iload_n 2, 1) := by decide +kernel
theorem dX12_told__59 : decode cX12_told_ 59 = .ok (.iload_n 3, 1) := by decide +kernel
theorem dX12_told__60 : decode cX12_told_ 60 = .ok (.iload 8, 2) := by decide +kernel
theorem dX12_told__62 : decode cX12_told_ 62 = .ok (.invokevirtual 391, 3) := by decide +kernel
theorem dX12_told__65 : decode cX12_told_ 65 = .ok (.ifCond .ne 6, 3) := by decide +kernel
theorem dX12_told__68 : decode cX12_told_ 68 = .ok (.goto 22, 3) := by decide +kernel
theorem dX12_told__71 : decode cX12_told_ 71 = .ok (.iload 6, 2) := by decide +kernel
theorem dX12_told__73 : decode cX12_told_ 73 = .ok (.iconst (-1), 1) := by decide +kernel
theorem dX12_told__74 : decode cX12_told_ 74 = .ok (.if_icmp .ne 8, 3) := by decide +kernel
theorem dX12_told__77 : decode cX12_told_ 77 = .ok (.iload 8, 2) := by decide +kernel
theorem dX12_told__79 : decode cX12_told_ 79 = .ok (.goto 5, 3) := by decide +kernel
theorem dX12_told__82 : decode cX12_told_ 82 = .ok (.iload 6, 2) := by decide +kernel
theorem dX12_told__84 : decode cX12_told_ 84 = .ok (.istore 6, 2) := by decide +kernel
theorem dX12_told__86 : decode cX12_told_ 86 = .ok (.iload 8, 2) := by decide +kernel
theorem dX12_told__88 : decode cX12_told_ 88 = .ok (.istore 7, 2) := by decide +kernel
theorem dX12_told__90 : decode cX12_told_ 90 = .ok (.iinc 8 1, 3) := by decide +kernel
theorem dX12_told__93 : decode cX12_told_ 93 = .ok (.goto (-44), 3) := by decide +kernel
theorem dX12_told__96 : decode cX12_told_ 96 = .ok (.iload 4, 2) := by decide +kernel
theorem dX12_told__98 : decode cX12_told_ 98 = .ok (.ifCond .ne 8, 3) := by decide +kernel
theorem dX12_told__101 : decode cX12_told_ 101 = .ok (.iload 6, 2) := by decide +kernel
theorem dX12_told__103 : decode cX12_told_ 103 = .ok (.goto 5, 3) := by decide +kernel
theorem dX12_told__106 : decode cX12_told_ 106 = .ok (.iload 7, 2) := by decide +kernel
theorem dX12_told__108 : decode cX12_told_ 108 = .ok (.ireturn, 1) := by decide +kernel
theorem dX12_odd_0 : decode cX12_odd 0 = .ok (.aload_n 0, 1) := by decide +kernel
theorem dX12_odd_1 : decode cX12_odd 1 = .ok (.iload_n 1, 1) := by decide +kernel
theorem dX12_odd_2 : decode cX12_odd 2 = .ok (.aload_n 0, 1) := by decide +kernel
theorem dX12_odd_3 : decode cX12_odd 3 = .ok (.invokevirtual 330, 3) := by decide +kernel
theorem dX12_odd_6 : decode cX12_odd 6 = .ok (.invokevirtual 387, 3) := by decide +kernel
theorem dX12_odd_9 : decode cX12_odd 9 = .ok (.istore_n 2, 1) := by decide +kernel
theorem dX12_odd_10 : decode cX12_odd 10 = .ok (.iload_n 2, 1) := by decide +kernel
theorem dX12_odd_11 : decode cX12_odd 11 = .ok (.ifCond .ge 5, 3) := by decide +kernel
theorem dX12_odd_14 : decode cX12_odd 14 = .ok (.iload_n 2, 1) := by decide +kernel
theorem dX12_odd_15 : decode cX12_odd 15 = .ok (.ireturn, 1) := by decide +kernel
theorem dX12_odd_16 : decode cX12_odd 16 = .ok (.iconst 0, 1) := by decide +kernel
theorem dX12_odd_17 : decode cX12_odd 17 = .ok (.istore_n 3, 1) := by decide +kernel
theorem dX12_odd_18 : decode cX12_odd 18 = .ok (.iconst 3, 1) := by decide +kernel
theorem dX12_odd_19 : decode cX12_odd 19 = .ok (.iload_n 3, 1) := by decide +kernel
theorem dX12_odd_20 : decode cX12_odd 20 = .ok (.imul, 1) := by decide +kernel
theorem dX12_odd_21 : decode cX12_odd 21 = .ok (.aload_n 0, 1) := by decide +kernel
theorem dX12_odd_22 : decode cX12_odd 22 = .ok (.getfield 76, 3) := by decide +kernel
theorem dX12_odd_25 : decode cX12_odd 25 = .ok (.iload_n 1, 1) := by decide +kernel
theorem dX12_odd_26 : decode cX12_odd 26 = .ok (.iaload, 1) := by decide +kernel
theorem dX12_odd_27 : decode cX12_odd 27 = .ok (.if_icmp .ge 66, 3) := by decide +kernel
theorem dX12_odd_30 : decode cX12_odd 30 = .ok (.aload_n 0, 1) := by decide +kernel
theorem dX12_odd_31 : decode cX12_odd 31 = .ok (.iload_n 1, 1) := by decide +kernel
theorem dX12_odd_32 : decode cX12_odd 32 = .ok (.iconst 3, 1) := by decide +kernel
theorem dX12_odd_33 : decode cX12_odd 33 = .ok (.iload_n 3, 1) := by decide +kernel
theorem dX12_odd_34 : decode cX12_odd 34 = .ok (.imul, 1) := by decide +kernel
theorem dX12_odd_35 : decode cX12_odd 35 = .ok (.invokevirtual 383, 3) := by decide +kernel
theorem dX12_odd_38 : decode cX12_odd 38 = .ok (.l2i, 1) := by decide +kernel
theorem dX12_odd_39 : decode cX12_odd 39 = .ok (.istore 4, 2) := by decide +kernel
theorem dX12_odd_41 : decode cX12_odd 41 = .ok (.aload_n 0, 1) := by decide +kernel
theorem dX12_odd_42 : decode cX12_odd 42 = .ok (.iload_n 1, 1) := by decide +kernel
theorem dX12_odd_43 : decode cX12_odd 43 = .ok (.iconst 3, 1) := by decide +kernel
theorem dX12_odd_44 : decode cX12_odd 44 = .ok (.iload_n 3, 1) := by decide +kernel
theorem dX12_odd_45 : decode cX12_odd 45 = .ok (.imul, 1) := by decide +kernel
theorem dX12_odd_46 : decode cX12_odd 46 = .ok (.iconst 1, 1) := by decide +kernel
theorem dX12_odd_47 : decode cX12_odd 47 = .ok (.iadd, 1) := by decide +kernel
theorem dX12_odd_48 : decode cX12_odd 48 = .ok (.invokevirtual 383, 3) := by decide +kernel
theorem dX12_odd_51 : decode cX12_odd 51 = .ok (.l2i, 1) := by decide +kernel
theorem dX12_odd_52 : decode cX12_odd 52 = .ok (.istore 5, 2) := by decide +kernel
theorem dX12_odd_54 : decode cX12_odd 54 = .ok (.aload_n 0, 1) := by decide +kernel
theorem dX12_odd_55 : decode cX12_odd 55 = .ok (.iload 4, 2) := by decide +kernel
theorem dX12_odd_57 : decode cX12_odd 57 = .ok (.iload 5, 2) := by decide +kernel
theorem dX12_odd_59 : decode cX12_odd 59 = .ok (.aload_n 0, 1) := by decide +kernel
theorem dX12_odd_60 : decode cX12_odd 60 = .ok (.iload 4, 2) := by decide +kernel
theorem dX12_odd_62 : decode cX12_odd 62 = .ok (.iload 5, 2) := by decide +kernel
theorem dX12_odd_64 : decode cX12_odd 64 = .ok (.invokevirtual 263, 3) := by decide +kernel
theorem dX12_odd_67 : decode cX12_odd 67 = .ok (.invokevirtual 377, 3) := by decide +kernel
theorem dX12_odd_70 : decode cX12_odd 70 = .ok (.i2l, 1) := by decide +kernel
theorem dX12_odd_71 : decode cX12_odd 71 = .ok (.aload_n 0, 1) := by decide +kernel
theorem dX12_odd_72 : decode cX12_odd 72 = .ok (.iload_n 1, 1) := by decide +kernel
theorem dX12_odd_73 : decode cX12_odd 73 = .ok (.iconst 3, 1) := by decide +kernel
theorem dX12_odd_74 : decode cX12_odd 74 = .ok (.iload_n 3, 1) := by decide +kernel
theorem dX12_odd_75 : decode cX12_odd 75 = .ok (.imul, 1) := by decide +kernel
theorem dX12_odd_76 : decode cX12_odd 76 = .ok (.iconst 2, 1) := by decide +kernel
theorem dX12_odd_77 : decode cX12_odd 77 = .ok (.iadd, 1) := by decide +kernel
theorem dX12_odd_78 : decode cX12_odd 78 = .ok (.invokevirtual 383, 3) := by decide +kernel
theorem dX12_odd_81 : decode cX12_odd 81 = .ok (.lcmp, 1) := by decide +kernel
theorem dX12_odd_82 : decode cX12_odd 82 = .ok (.ifCond .eq 5, 3) := by decide +kernel
theorem dX12_odd_85 : decode cX12_odd 85 = .ok (.iload_n 3, 1) := by decide +kernel
theorem dX12_odd_86 : decode cX12_odd 86 = .ok (.ireturn, 1) := by decide +kernel
theorem dX12_odd_87 : decode cX12_odd 87 = .ok (.iinc 3 1, 3) := by decide +kernel
theorem dX12_odd_90 : decode cX12_odd 90 = .ok (.goto (-72), 3) := by decide +kernel
theorem dX12_odd_93 : decode cX12_odd 93 = .ok (.iconst (-1), 1) := by decide +kernel
theorem dX12_odd_94 : decode cX12_odd 94 = .ok (.ireturn, 1) := by decide +kernel
theorem dX12_passing_0 : decode cX12_passing 0 = .ok (.aload_n 0, 1) := by decide +kernel
theorem dX12_passing_1 : decode cX12_passing 1 = .ok (.iload_n 1, 1) := by decide +kernel
theorem dX12_passing_2 : decode cX12_passing 2 = .ok (.i2l, 1) := by decide +kernel
theorem dX12_passing_3 : decode cX12_passing 3 = .ok (.invokevirtual 98, 3) := by decide +kernel
theorem dX12_passing_6 : decode cX12_passing 6 = .ok (.ifCond .eq 15, 3) := by decide +kernel
theorem dX12_passing_9 : decode cX12_passing 9 = .ok (.iload_n 2, 1) := by decide +kernel
theorem dX12_passing_10 : decode cX12_passing 10 = .ok (.i2l, 1) := by decide +kernel
theorem dX12_passing_11 : decode cX12_passing 11 = .ok (.lconst 0, 1) := by decide +kernel
theorem dX12_passing_12 : decode cX12_passing 12 = .ok (.ldc2_w 333, 3) := by decide +kernel
theorem dX12_passing_15 : decode cX12_passing 15 = .ok (.invokestatic 94, 3) := by decide +kernel
theorem dX12_passing_18 : decode cX12_passing 18 = .ok (.ifCond .ne 6, 3) := by decide +kernel
theorem dX12_passing_21 : decode cX12_passing 21 = .ok (.bipush (-2), 2) := by decide +kernel
theorem dX12_passing_23 : decode cX12_passing 23 = .ok (.ireturn, 1) := by decide +kernel
theorem dX12_passing_24 : decode cX12_passing 24 = .ok (.iconst 0, 1) := by decide +kernel
theorem dX12_passing_25 : decode cX12_passing 25 = .ok (.istore_n 3, 1) := by decide +kernel
theorem dX12_passing_26 : decode cX12_passing 26 = .ok (.iconst (-1), 1) := by decide +kernel
theorem dX12_passing_27 : decode cX12_passing 27 = .ok (.istore 4, 2) := by decide +kernel
theorem dX12_passing_29 : decode cX12_passing 29 = .ok (.iconst (-1), 1) := by decide +kernel
theorem dX12_passing_30 : decode cX12_passing 30 = .ok (.istore 5, 2) := by decide +kernel
theorem dX12_passing_32 : decode cX12_passing 32 = .ok (.iconst (-1), 1) := by decide +kernel
theorem dX12_passing_33 : decode cX12_passing 33 = .ok (.istore 6, 2) := by decide +kernel
theorem dX12_passing_35 : decode cX12_passing 35 = .ok (.iconst 0, 1) := by decide +kernel
theorem dX12_passing_36 : decode cX12_passing 36 = .ok (.istore 7, 2) := by decide +kernel
theorem dX12_passing_38 : decode cX12_passing 38 = .ok (.iload 7, 2) := by decide +kernel
theorem dX12_passing_40 : decode cX12_passing 40 = .ok (.iconst 2, 1) := by decide +kernel
theorem dX12_passing_41 : decode cX12_passing 41 = .ok (.if_icmp .ge 142, 3) := by decide +kernel
theorem dX12_passing_44 : decode cX12_passing 44 = .ok (.iconst 0, 1) := by decide +kernel
theorem dX12_passing_45 : decode cX12_passing 45 = .ok (.istore 8, 2) := by decide +kernel
theorem dX12_passing_47 : decode cX12_passing 47 = .ok (.iload 8, 2) := by decide +kernel
theorem dX12_passing_49 : decode cX12_passing 49 = .ok (.aload_n 0, 1) := by decide +kernel
theorem dX12_passing_50 : decode cX12_passing 50 = .ok (.getfield 9, 3) := by decide +kernel
theorem dX12_passing_53 : decode cX12_passing 53 = .ok (.iconst 0, 1) := by decide +kernel
theorem dX12_passing_54 : decode cX12_passing 54 = .ok (.iaload, 1) := by decide +kernel
theorem dX12_passing_55 : decode cX12_passing 55 = .ok (.if_icmp .ge 122, 3) := by decide +kernel
theorem dX12_passing_58 : decode cX12_passing 58 = .ok (.iload 8, 2) := by decide +kernel
theorem dX12_passing_60 : decode cX12_passing 60 = .ok (.istore 9, 2) := by decide +kernel
theorem dX12_passing_62 : decode cX12_passing 62 = .ok (.iload 9, 2) := by decide +kernel
theorem dX12_passing_64 : decode cX12_passing 64 = .ok (.aload_n 0, 1) := by decide +kernel
theorem dX12_passing_65 : decode cX12_passing 65 = .ok (.getfield 9, 3) := by decide +kernel
theorem dX12_passing_68 : decode cX12_passing 68 = .ok (.iconst 0, 1) := by decide +kernel
theorem dX12_passing_69 : decode cX12_passing 69 = .ok (.iaload, 1) := by decide +kernel
theorem dX12_passing_70 : decode cX12_passing 70 = .ok (.if_icmp .ge 101, 3) := by decide +kernel
theorem dX12_passing_73 : decode cX12_passing 73 = .ok (.iload 9, 2) := by decide +kernel
theorem dX12_passing_75 : decode cX12_passing 75 = .ok (.iload 8, 2) := by decide +kernel
theorem dX12_passing_77 : decode cX12_passing 77 = .ok (.aload_n 0, 1) := by decide +kernel
theorem dX12_passing_78 : decode cX12_passing 78 = .ok (.iload_n 1, 1) := by decide +kernel
theorem dX12_passing_79 : decode cX12_passing 79 = .ok (.invokevirtual 273, 3) := by decide +kernel
theorem dX12_passing_82 : decode cX12_passing 82 = .ok (.iadd, 1) := by decide +kernel
theorem dX12_passing_83 : decode cX12_passing 83 = .ok (.if_icmp .gt 88, 3) := by decide +kernel
theorem dX12_passing_86 : decode cX12_passing 86 = .ok (.aload_n 0, 1) := by decide +kernel
theorem dX12_passing_87 : decode cX12_passing 87 = .ok (.getfield 9, 3) := by decide +kernel
theorem dX12_passing_90 : decode cX12_passing 90 = .ok (.iload 7, 2) := by decide +kernel
theorem dX12_passing_92 : decode cX12_passing 92 = .ok (.ifCond .ne 8, 3) := by decide +kernel
theorem dX12_passing_95 : decode cX12_passing 95 = .ok (.bipush 11, 2) := by decide +kernel
theorem dX12_passing_97 : decode cX12_passing 97 = .ok (.goto 5, 3) := by decide +kernel
theorem dX12_passing_100 : decode cX12_passing 100 = .ok (.bipush 111, 2) := by decide +kernel
theorem dX12_passing_102 : decode cX12_passing 102 = .ok (.iload_n 1, 1) := by decide +kernel
theorem dX12_passing_103 : decode cX12_passing 103 = .ok (.iload 8, 2) := by decide +kernel
theorem dX12_passing_105 : decode cX12_passing 105 = .ok (.invokestatic 105, 3) := by decide +kernel
theorem dX12_passing_108 : decode cX12_passing 108 = .ok (.iadd, 1) := by decide +kernel
theorem dX12_passing_109 : decode cX12_passing 109 = .ok (.iaload, 1) := by decide +kernel
theorem dX12_passing_110 : decode cX12_passing 110 = .ok (.istore 10, 2) := by decide +kernel
theorem dX12_passing_112 : decode cX12_passing 112 = .ok (.aload_n 0, 1) := by decide +kernel
theorem dX12_passing_113 : decode cX12_passing 113 = .ok (.getfield 9, 3) := by decide +kernel
theorem dX12_passing_116 : decode cX12_passing 116 = .ok (.iload 7, 2) := by decide +kernel
theorem dX12_passing_118 : decode cX12_passing 118 = .ok (.ifCond .ne 8, 3) := by decide +kernel
theorem dX12_passing_121 : decode cX12_passing 121 = .ok (.bipush 111, 2) := by decide +kernel
theorem dX12_passing_123 : decode cX12_passing 123 = .ok (.goto 5, 3) := by decide +kernel
theorem dX12_passing_126 : decode cX12_passing 126 = .ok (.bipush 11, 2) := by decide +kernel
theorem dX12_passing_128 : decode cX12_passing 128 = .ok (.iload_n 1, 1) := by decide +kernel
theorem dX12_passing_129 : decode cX12_passing 129 = .ok (.iload 9, 2) := by decide +kernel
theorem dX12_passing_131 : decode cX12_passing 131 = .ok (.invokestatic 105, 3) := by decide +kernel
theorem dX12_passing_134 : decode cX12_passing 134 = .ok (.iadd, 1) := by decide +kernel
theorem dX12_passing_135 : decode cX12_passing 135 = .ok (.iaload, 1) := by decide +kernel
theorem dX12_passing_136 : decode cX12_passing 136 = .ok (.iload 10, 2) := by decide +kernel
theorem dX12_passing_138 : decode cX12_passing 138 = .ok (.isub, 1) := by decide +kernel
theorem dX12_passing_139 : decode cX12_passing 139 = .ok (.istore 11, 2) := by decide +kernel
theorem dX12_passing_141 : decode cX12_passing 141 = .ok (.iload 11, 2) := by decide +kernel
theorem dX12_passing_143 : decode cX12_passing 143 = .ok (.iload_n 3, 1) := by decide +kernel
theorem dX12_passing_144 : decode cX12_passing 144 = .ok (.if_icmp .gt 6, 3) := by decide +kernel
theorem dX12_passing_147 : decode cX12_passing 147 = .ok (.goto 18, 3) := by decide +kernel
theorem dX12_passing_150 : decode cX12_passing 150 = .ok (.iload 11, 2) := by decide +kernel
theorem dX12_passing_152 : decode cX12_passing 152 = .ok (.istore_n 3, 1) := by decide +kernel
theorem dX12_passing_153 : decode cX12_passing 153 = .ok (.iload 8, 2) := by decide +kernel
theorem dX12_passing_155 : decode cX12_passing 155 = .ok (.istore 4, 2) := by decide +kernel
theorem dX12_passing_157 : decode cX12_passing 157 = .ok (.iload 9, 2) := by decide +kernel
theorem dX12_passing_159 : decode cX12_passing 159 = .ok (.istore 5, 2) := by decide +kernel
theorem dX12_passing_161 : decode cX12_passing 161 = .ok (.iload 7, 2) := by decide +kernel
theorem dX12_passing_163 : decode cX12_passing 163 = .ok (.istore 6, 2) := by decide +kernel
theorem dX12_passing_165 : decode cX12_passing 165 = .ok (.iinc 9 1, 3) := by decide +kernel
theorem dX12_passing_168 : decode cX12_passing 168 = .ok (.goto (-106), 3) := by decide +kernel
theorem dX12_passing_171 : decode cX12_passing 171 = .ok (.iinc 8 1, 3) := by decide +kernel
theorem dX12_passing_174 : decode cX12_passing 174 = .ok (.goto (-127), 3) := by decide +kernel
theorem dX12_passing_177 : decode cX12_passing 177 = .ok (.iinc 7 1, 3) := by decide +kernel
theorem dX12_passing_180 : decode cX12_passing 180 = .ok (.goto (-142), 3) := by decide +kernel
theorem dX12_passing_183 : decode cX12_passing 183 = .ok (.iload_n 2, 1) := by decide +kernel
theorem dX12_passing_184 : decode cX12_passing 184 = .ok (.ifCond .ne 7, 3) := by decide +kernel
theorem dX12_passing_187 : decode cX12_passing 187 = .ok (.iload_n 3, 1) := by decide +kernel
theorem dX12_passing_188 : decode cX12_passing 188 = .ok (.goto 25, 3) := by decide +kernel
theorem dX12_passing_191 : decode cX12_passing 191 = .ok (.iload_n 2, 1) := by decide +kernel
theorem dX12_passing_192 : decode cX12_passing 192 = .ok (.iconst 1, 1) := by decide +kernel
theorem dX12_passing_193 : decode cX12_passing 193 = .ok (.if_icmp .ne 8, 3) := by decide +kernel
theorem dX12_passing_196 : decode cX12_passing 196 = .ok (.iload 4, 2) := by decide +kernel
theorem dX12_passing_198 : decode cX12_passing 198 = .ok (.goto 15, 3) := by decide +kernel
theorem dX12_passing_201 : decode cX12_passing 201 = .ok (.iload_n 2, 1) := by decide +kernel
theorem dX12_passing_202 : decode cX12_passing 202 = .ok (.iconst 2, 1) := by decide +kernel
theorem dX12_passing_203 : decode cX12_passing 203 = .ok (.if_icmp .ne 8, 3) := by decide +kernel
theorem dX12_passing_206 : decode cX12_passing 206 = .ok (.iload 5, 2) := by decide +kernel
theorem dX12_passing_208 : decode cX12_passing 208 = .ok (.goto 5, 3) := by decide +kernel
theorem dX12_passing_211 : decode cX12_passing 211 = .ok (.iload 6, 2) := by decide +kernel
theorem dX12_passing_213 : decode cX12_passing 213 = .ok (.ireturn, 1) := by decide +kernel
theorem dX12_like_0 : decode cX12_like 0 = .ok (.aload_n 0, 1) := by decide +kernel
theorem dX12_like_1 : decode cX12_like 1 = .ok (.iload_n 1, 1) := by decide +kernel
theorem dX12_like_2 : decode cX12_like 2 = .ok (.i2l, 1) := by decide +kernel
theorem dX12_like_3 : decode cX12_like 3 = .ok (.invokevirtual 98, 3) := by decide +kernel
theorem dX12_like_6 : decode cX12_like 6 = .ok (.ifCond .eq 54, 3) := by decide +kernel
theorem dX12_like_9 : decode cX12_like 9 = .ok (.aload_n 0, 1) := by decide +kernel
theorem dX12_like_10 : decode cX12_like 10 = .ok (.iload_n 2, 1) := by decide +kernel
theorem dX12_like_11 : decode cX12_like 11 = .ok (.i2l, 1) := by decide +kernel
theorem dX12_like_12 : decode cX12_like 12 = .ok (.invokevirtual 98, 3) := by decide +kernel
theorem dX12_like_15 : decode cX12_like 15 = .ok (.ifCond .eq 45, 3) := by decide +kernel
theorem dX12_like_18 : decode cX12_like 18 = .ok (.aload_n 0, 1) := by decide +kernel
theorem dX12_like_19 : decode cX12_like 19 = .ok (.iload 4, 2) := by decide +kernel
theorem dX12_like_21 : decode cX12_like 21 = .ok (.i2l, 1) := by decide +kernel
theorem dX12_like_22 : decode cX12_like 22 = .ok (.invokevirtual 98, 3) := by decide +kernel
theorem dX12_like_25 : decode cX12_like 25 = .ok (.ifCond .eq 35, 3) := by decide +kernel
theorem dX12_like_28 : decode cX12_like 28 = .ok (.iload_n 3, 1) := by decide +kernel
theorem dX12_like_29 : decode cX12_like 29 = .ok (.i2l, 1) := by decide +kernel
theorem dX12_like_30 : decode cX12_like 30 = .ok (.lconst 0, 1) := by decide +kernel
theorem dX12_like_31 : decode cX12_like 31 = .ok (.ldc2_w 395, 3) := by decide +kernel
theorem dX12_like_34 : decode cX12_like 34 = .ok (.invokestatic 94, 3) := by decide +kernel
theorem dX12_like_37 : decode cX12_like 37 = .ok (.ifCond .eq 23, 3) := by decide +kernel
theorem dX12_like_40 : decode cX12_like 40 = .ok (.iload 5, 2) := by decide +kernel
theorem dX12_like_42 : decode cX12_like 42 = .ok (.i2l, 1) := by decide +kernel
theorem dX12_like_43 : decode cX12_like 43 = .ok (.lconst 0, 1) := by decide +kernel
theorem dX12_like_44 : decode cX12_like 44 = .ok (.ldc2_w 395, 3) := by decide +kernel
theorem dX12_like_47 : decode cX12_like 47 = .ok (.invokestatic 94, 3) := by decide +kernel
theorem dX12_like_50 : decode cX12_like 50 = .ok (.ifCond .eq 10, 3) := by decide +kernel
theorem dX12_like_53 : decode cX12_like 53 = .ok (.iload_n 3, 1) := by decide +kernel
theorem dX12_like_54 : decode cX12_like 54 = .ok (.iload 5, 2) := by decide +kernel
theorem dX12_like_56 : decode cX12_like 56 = .ok (.iadd, 1) := by decide +kernel
theorem dX12_like_57 : decode cX12_like 57 = .ok (.ifCond .ne 6, 3) := by decide +kernel
theorem dX12_like_60 : decode cX12_like 60 = .ok (.bipush (-2), 2) := by decide +kernel
theorem dX12_like_62 : decode cX12_like 62 = .ok (.ireturn, 1) := by decide +kernel
theorem dX12_like_63 : decode cX12_like 63 = .ok (.iconst 0, 1) := by decide +kernel
theorem dX12_like_64 : decode cX12_like 64 = .ok (.istore 6, 2) := by decide +kernel
theorem dX12_like_66 : decode cX12_like 66 = .ok (.iconst 0, 1) := by decide +kernel
theorem dX12_like_67 : decode cX12_like 67 = .ok (.istore 7, 2) := by decide +kernel
theorem dX12_like_69 : decode cX12_like 69 = .ok (.iload 7, 2) := by decide +kernel
theorem dX12_like_71 : decode cX12_like 71 = .ok (.aload_n 0, 1) := by decide +kernel
theorem dX12_like_72 : decode cX12_like 72 = .ok (.getfield 9, 3) := by decide +kernel
theorem dX12_like_75 : decode cX12_like 75 = .ok (.iconst 0, 1) := by decide +kernel
theorem dX12_like_76 : decode cX12_like 76 = .ok (.iaload, 1) := by decide +kernel
theorem dX12_like_77 : decode cX12_like 77 = .ok (.if_icmp .ge 60, 3) := by decide +kernel
theorem dX12_like_80 : decode cX12_like 80 = .ok (.iload_n 3, 1) := by decide +kernel
theorem dX12_like_81 : decode cX12_like 81 = .ok (.aload_n 0, 1) := by decide +kernel
theorem dX12_like_82 : decode cX12_like 82 = .ok (.iload_n 2, 1) := by decide +kernel
theorem dX12_like_83 : decode cX12_like 83 = .ok (.iload 7, 2) := by decide +kernel
theorem dX12_like_85 : decode cX12_like 85 = .ok (.invokevirtual 263, 3) := by decide +kernel
theorem dX12_like_88 : decode cX12_like 88 = .ok (.imul, 1) := by decide +kernel
theorem dX12_like_89 : decode cX12_like 89 = .ok (.iload 5, 2) := by decide +kernel
theorem dX12_like_91 : decode cX12_like 91 = .ok (.aload_n 0, 1) := by decide +kernel
theorem dX12_like_92 : decode cX12_like 92 = .ok (.iload 4, 2) := by decide +kernel
theorem dX12_like_94 : decode cX12_like 94 = .ok (.iload 7, 2) := by decide +kernel
theorem dX12_like_96 : decode cX12_like 96 = .ok (.invokevirtual 263, 3) := by decide +kernel
theorem dX12_like_99 : decode cX12_like 99 = .ok (.imul, 1) := by decide +kernel
theorem dX12_like_100 : decode cX12_like 100 = .ok (.iadd, 1) := by decide +kernel
theorem dX12_like_101 : decode cX12_like 101 = .ok (.iload_n 3, 1) := by decide +kernel
theorem dX12_like_102 : decode cX12_like 102 = .ok (.iload 5, 2) := by decide +kernel
theorem dX12_like_104 : decode cX12_like 104 = .ok (.iadd, 1) := by decide +kernel
theorem dX12_like_105 : decode cX12_like 105 = .ok (.idiv, 1) := by decide +kernel
theorem dX12_like_106 : decode cX12_like 106 = .ok (.istore 8, 2) := by decide +kernel
theorem dX12_like_108 : decode cX12_like 108 = .ok (.aload_n 0, 1) := by decide +kernel
theorem dX12_like_109 : decode cX12_like 109 = .ok (.getfield 9, 3) := by decide +kernel
theorem dX12_like_112 : decode cX12_like 112 = .ok (.bipush 11, 2) := by decide +kernel
theorem dX12_like_114 : decode cX12_like 114 = .ok (.iload_n 1, 1) := by decide +kernel
theorem dX12_like_115 : decode cX12_like 115 = .ok (.iload 7, 2) := by decide +kernel
theorem dX12_like_117 : decode cX12_like 117 = .ok (.invokestatic 105, 3) := by decide +kernel
theorem dX12_like_120 : decode cX12_like 120 = .ok (.iadd, 1) := by decide +kernel
theorem dX12_like_121 : decode cX12_like 121 = .ok (.iload 8, 2) := by decide +kernel
theorem dX12_like_123 : decode cX12_like 123 = .ok (.iastore, 1) := by decide +kernel
theorem dX12_like_124 : decode cX12_like 124 = .ok (.iload 6, 2) := by decide +kernel
theorem dX12_like_126 : decode cX12_like 126 = .ok (.iload 8, 2) := by decide +kernel
theorem dX12_like_128 : decode cX12_like 128 = .ok (.iadd, 1) := by decide +kernel
theorem dX12_like_129 : decode cX12_like 129 = .ok (.istore 6, 2) := by decide +kernel
theorem dX12_like_131 : decode cX12_like 131 = .ok (.iinc 7 1, 3) := by decide +kernel
theorem dX12_like_134 : decode cX12_like 134 = .ok (.goto (-65), 3) := by decide +kernel
theorem dX12_like_137 : decode cX12_like 137 = .ok (.iload 6, 2) := by decide +kernel
theorem dX12_like_139 : decode cX12_like 139 = .ok (.ireturn, 1) := by decide +kernel
theorem dX12_queue_0 : decode cX12_queue 0 = .ok (.aload_n 0, 1) := by decide +kernel
theorem dX12_queue_1 : decode cX12_queue 1 = .ok (.iload_n 1, 1) := by decide +kernel
theorem dX12_queue_2 : decode cX12_queue 2 = .ok (.iload_n 2, 1) := by decide +kernel
theorem dX12_queue_3 : decode cX12_queue 3 = .ok (.invokevirtual 307, 3) := by decide +kernel
theorem dX12_queue_6 : decode cX12_queue 6 = .ok (.ifCond .ne 6, 3) := by decide +kernel
theorem dX12_queue_9 : decode cX12_queue 9 = .ok (.bipush (-2), 2) := by decide +kernel
theorem dX12_queue_11 : decode cX12_queue 11 = .ok (.ireturn, 1) := by decide +kernel
theorem dX12_queue_12 : decode cX12_queue 12 = .ok (.aload_n 0, 1) := by decide +kernel
theorem dX12_queue_13 : decode cX12_queue 13 = .ok (.lconst 1, 1) := by decide +kernel
theorem dX12_queue_14 : decode cX12_queue 14 = .ok (.invokevirtual 311, 3) := by decide +kernel
theorem dX12_queue_17 : decode cX12_queue 17 = .ok (.iconst 0, 1) := by decide +kernel
theorem dX12_queue_18 : decode cX12_queue 18 = .ok (.aload_n 0, 1) := by decide +kernel
theorem dX12_queue_19 : decode cX12_queue 19 = .ok (.getfield 40, 3) := by decide +kernel
theorem dX12_queue_22 : decode cX12_queue 22 = .ok (.iload_n 1, 1) := by decide +kernel
theorem dX12_queue_23 : decode cX12_queue 23 = .ok (.iload_n 2, 1) := by decide +kernel
theorem dX12_queue_24 : decode cX12_queue 24 = .ok (.invokestatic 105, 3) := by decide +kernel
theorem dX12_queue_27 : decode cX12_queue 27 = .ok (.iaload, 1) := by decide +kernel
theorem dX12_queue_28 : decode cX12_queue 28 = .ok (.aload_n 0, 1) := by decide +kernel
theorem dX12_queue_29 : decode cX12_queue 29 = .ok (.getfield 37, 3) := by decide +kernel
theorem dX12_queue_32 : decode cX12_queue 32 = .ok (.iload_n 1, 1) := by decide +kernel
theorem dX12_queue_33 : decode cX12_queue 33 = .ok (.iload_n 2, 1) := by decide +kernel
theorem dX12_queue_34 : decode cX12_queue 34 = .ok (.invokestatic 105, 3) := by decide +kernel
theorem dX12_queue_37 : decode cX12_queue 37 = .ok (.iaload, 1) := by decide +kernel
theorem dX12_queue_38 : decode cX12_queue 38 = .ok (.isub, 1) := by decide +kernel
theorem dX12_queue_39 : decode cX12_queue 39 = .ok (.invokestatic 341, 3) := by decide +kernel
theorem dX12_queue_42 : decode cX12_queue 42 = .ok (.ireturn, 1) := by decide +kernel
theorem dX12_spoils_0 : decode cX12_spoils 0 = .ok (.aload_n 0, 1) := by decide +kernel
theorem dX12_spoils_1 : decode cX12_spoils 1 = .ok (.iload_n 1, 1) := by decide +kernel
theorem dX12_spoils_2 : decode cX12_spoils 2 = .ok (.iload_n 2, 1) := by decide +kernel
theorem dX12_spoils_3 : decode cX12_spoils 3 = .ok (.invokevirtual 307, 3) := by decide +kernel
theorem dX12_spoils_6 : decode cX12_spoils 6 = .ok (.ifCond .ne 6, 3) := by decide +kernel
theorem dX12_spoils_9 : decode cX12_spoils 9 = .ok (.bipush (-2), 2) := by decide +kernel
theorem dX12_spoils_11 : decode cX12_spoils 11 = .ok (.ireturn, 1) := by decide +kernel
theorem dX12_spoils_12 : decode cX12_spoils 12 = .ok (.aload_n 0, 1) := by decide +kernel
theorem dX12_spoils_13 : decode cX12_spoils 13 = .ok (.lconst 1, 1) := by decide +kernel
theorem dX12_spoils_14 : decode cX12_spoils 14 = .ok (.invokevirtual 311, 3) := by decide +kernel
theorem dX12_spoils_17 : decode cX12_spoils 17 = .ok (.aload_n 0, 1) := by decide +kernel
theorem dX12_spoils_18 : decode cX12_spoils 18 = .ok (.getfield 64, 3) := by decide +kernel
theorem dX12_spoils_21 : decode cX12_spoils 21 = .ok (.iload_n 1, 1) := by decide +kernel
theorem dX12_spoils_22 : decode cX12_spoils 22 = .ok (.iload_n 2, 1) := by decide +kernel
theorem dX12_spoils_23 : decode cX12_spoils 23 = .ok (.invokestatic 105, 3) := by decide +kernel
theorem dX12_spoils_26 : decode cX12_spoils 26 = .ok (.iaload, 1) := by decide +kernel
theorem dX12_spoils_27 : decode cX12_spoils 27 = .ok (.ireturn, 1) := by decide +kernel
theorem dX12_shape_0 : decode cX12_shape 0 = .ok (.aload_n 0, 1) := by decide +kernel
theorem dX12_shape_1 : decode cX12_shape 1 = .ok (.iload_n 1, 1) := by decide +kernel
theorem dX12_shape_2 : decode cX12_shape 2 = .ok (.i2l, 1) := by decide +kernel
theorem dX12_shape_3 : decode cX12_shape 3 = .ok (.invokevirtual 98, 3) := by decide +kernel
theorem dX12_shape_6 : decode cX12_shape 6 = .ok (.ifCond .eq 15, 3) := by decide +kernel
theorem dX12_shape_9 : decode cX12_shape 9 = .ok (.iload_n 2, 1) := by decide +kernel
theorem dX12_shape_10 : decode cX12_shape 10 = .ok (.i2l, 1) := by decide +kernel
theorem dX12_shape_11 : decode cX12_shape 11 = .ok (.lconst 0, 1) := by decide +kernel
theorem dX12_shape_12 : decode cX12_shape 12 = .ok (.ldc2_w 333, 3) := by decide +kernel
theorem dX12_shape_15 : decode cX12_shape 15 = .ok (.invokestatic 94, 3) := by decide +kernel
theorem dX12_shape_18 : decode cX12_shape 18 = .ok (.ifCond .ne 6, 3) := by decide +kernel
theorem dX12_shape_21 : decode cX12_shape 21 = .ok (.bipush (-2), 2) := by decide +kernel
theorem dX12_shape_23 : decode cX12_shape 23 = .ok (.ireturn, 1) := by decide +kernel
theorem dX12_shape_24 : decode cX12_shape 24 = .ok (.iconst 0, 1) := by decide +kernel
theorem dX12_shape_25 : decode cX12_shape 25 = .ok (.istore_n 3, 1) := by decide +kernel
theorem dX12_shape_26 : decode cX12_shape 26 = .ok (.iconst 0, 1) := by decide +kernel
theorem dX12_shape_27 : decode cX12_shape 27 = .ok (.istore 4, 2) := by decide +kernel
theorem dX12_shape_29 : decode cX12_shape 29 = .ok (.iconst 0, 1) := by decide +kernel
theorem dX12_shape_30 : decode cX12_shape 30 = .ok (.istore 5, 2) := by decide +kernel
theorem dX12_shape_32 : decode cX12_shape 32 = .ok (.iconst 1, 1) := by decide +kernel
theorem dX12_shape_33 : decode cX12_shape 33 = .ok (.istore 6, 2) := by decide +kernel
theorem dX12_shape_35 : decode cX12_shape 35 = .ok (.iconst 1, 1) := by decide +kernel
theorem dX12_shape_36 : decode cX12_shape 36 = .ok (.istore 7, 2) := by decide +kernel
theorem dX12_shape_38 : decode cX12_shape 38 = .ok (.iconst 1, 1) := by decide +kernel
theorem dX12_shape_39 : decode cX12_shape 39 = .ok (.istore 8, 2) := by decide +kernel
theorem dX12_shape_41 : decode cX12_shape 41 = .ok (.iload 8, 2) := by decide +kernel
theorem dX12_shape_43 : decode cX12_shape 43 = .ok (.aload_n 0, 1) := by decide +kernel
theorem dX12_shape_44 : decode cX12_shape 44 = .ok (.getfield 9, 3) := by decide +kernel
theorem dX12_shape_47 : decode cX12_shape 47 = .ok (.iconst 0, 1) := by decide +kernel
theorem dX12_shape_48 : decode cX12_shape 48 = .ok (.iaload, 1) := by decide +kernel
theorem dX12_shape_49 : decode cX12_shape 49 = .ok (.if_icmp .ge 123, 3) := by decide +kernel
theorem dX12_shape_52 : decode cX12_shape 52 = .ok (.aload_n 0, 1) := by decide +kernel
theorem dX12_shape_53 : decode cX12_shape 53 = .ok (.iload_n 1, 1) := by decide +kernel
theorem dX12_shape_54 : decode cX12_shape 54 = .ok (.iload 8, 2) := by decide +kernel
theorem dX12_shape_56 : decode cX12_shape 56 = .ok (.invokevirtual 263, 3) := by decide +kernel
theorem dX12_shape_59 : decode cX12_shape 59 = .ok (.aload_n 0, 1) := by decide +kernel
theorem dX12_shape_60 : decode cX12_shape 60 = .ok (.iload_n 1, 1) := by decide +kernel
theorem dX12_shape_61 : decode cX12_shape 61 = .ok (.iload_n 3, 1) := by decide +kernel
theorem dX12_shape_62 : decode cX12_shape 62 = .ok (.invokevirtual 263, 3) := by decide +kernel
theorem dX12_shape_65 : decode cX12_shape 65 = .ok (.if_icmp .le 8, 3) := by decide +kernel
theorem dX12_shape_68 : decode cX12_shape 68 = .ok (.iload 8, 2) := by decide +kernel
theorem dX12_shape_70 : decode cX12_shape 70 = .ok (.goto 4, 3) := by decide +kernel
theorem dX12_shape_73 : decode cX12_shape 73 = .ok (.iload_n 3, 1) := by decide +kernel
theorem dX12_shape_74 : decode cX12_shape 74 = .ok (.istore_n 3, 1) := by decide +kernel
theorem dX12_shape_75 : decode cX12_shape 75 = .ok (.aload_n 0, 1) := by decide +kernel
theorem dX12_shape_76 : decode cX12_shape 76 = .ok (.iload_n 1, 1) := by decide +kernel
theorem dX12_shape_77 : decode cX12_shape 77 = .ok (.iload 8, 2) := by decide +kernel
theorem dX12_shape_79 : decode cX12_shape 79 = .ok (.invokevirtual 263, 3) := by decide +kernel
theorem dX12_shape_82 : decode cX12_shape 82 = .ok (.aload_n 0, 1) := by decide +kernel
theorem dX12_shape_83 : decode cX12_shape 83 = .ok (.iload_n 1, 1) := by decide +kernel
theorem dX12_shape_84 : decode cX12_shape 84 = .ok (.iload 4, 2) := by decide +kernel
theorem dX12_shape_86 : decode cX12_shape 86 = .ok (.invokevirtual 263, 3) := by decide +kernel
theorem dX12_shape_89 : decode cX12_shape 89 = .ok (.if_icmp .ge 8, 3) := by decide +kernel
theorem dX12_shape_92 : decode cX12_shape 92 = .ok (.iload 8, 2) := by decide +kernel
theorem dX12_shape_94 : decode cX12_shape 94 = .ok (.goto 5, 3) := by decide +kernel
theorem dX12_shape_97 : decode cX12_shape 97 = .ok (.iload 4, 2) := by decide +kernel
theorem dX12_shape_99 : decode cX12_shape 99 = .ok (.istore 4, 2) := by decide +kernel
theorem dX12_shape_101 : decode cX12_shape 101 = .ok (.aload_n 0, 1) := by decide +kernel
theorem dX12_shape_102 : decode cX12_shape 102 = .ok (.iload_n 1, 1) := by decide +kernel
theorem dX12_shape_103 : decode cX12_shape 103 = .ok (.iload 8, 2) := by decide +kernel
theorem dX12_shape_105 : decode cX12_shape 105 = .ok (.invokevirtual 263, 3) := by decide +kernel
theorem dX12_shape_108 : decode cX12_shape 108 = .ok (.aload_n 0, 1) := by decide +kernel
theorem dX12_shape_109 : decode cX12_shape 109 = .ok (.iload_n 1, 1) := by decide +kernel
theorem dX12_shape_110 : decode cX12_shape 110 = .ok (.iload 8, 2) := by decide +kernel
theorem dX12_shape_112 : decode cX12_shape 112 = .ok (.iconst 1, 1) := by decide +kernel
theorem dX12_shape_113 : decode cX12_shape 113 = .ok (.isub, 1) := by decide +kernel
theorem dX12_shape_114 : decode cX12_shape 114 = .ok (.invokevirtual 263, 3) := by decide +kernel
theorem dX12_shape_117 : decode cX12_shape 117 = .ok (.if_icmp .ne 7, 3) := by decide +kernel
theorem dX12_shape_120 : decode cX12_shape 120 = .ok (.iconst 1, 1) := by decide +kernel
theorem dX12_shape_121 : decode cX12_shape 121 = .ok (.goto 4, 3) := by decide +kernel
theorem dX12_shape_124 : decode cX12_shape 124 = .ok (.iconst 0, 1) := by decide +kernel
theorem dX12_shape_125 : decode cX12_shape 125 = .ok (.istore 9, 2) := by decide +kernel
theorem dX12_shape_127 : decode cX12_shape 127 = .ok (.iload 5, 2) := by decide +kernel
theorem dX12_shape_129 : decode cX12_shape 129 = .ok (.iload 9, 2) := by decide +kernel
theorem dX12_shape_131 : decode cX12_shape 131 = .ok (.ifCond .eq 7, 3) := by decide +kernel
theorem dX12_shape_134 : decode cX12_shape 134 = .ok (.iconst 0, 1) := by decide +kernel
theorem dX12_shape_135 : decode cX12_shape 135 = .ok (.goto 4, 3) := by decide +kernel
theorem dX12_shape_138 : decode cX12_shape 138 = .ok (.iconst 1, 1) := by decide +kernel
theorem dX12_shape_139 : decode cX12_shape 139 = .ok (.iadd, 1) := by decide +kernel
theorem dX12_shape_140 : decode cX12_shape 140 = .ok (.istore 5, 2) := by decide +kernel
theorem dX12_shape_142 : decode cX12_shape 142 = .ok (.iload 9, 2) := by decide +kernel
theorem dX12_shape_144 : decode cX12_shape 144 = .ok (.ifCond .eq 10, 3) := by decide +kernel
theorem dX12_shape_147 : decode cX12_shape 147 = .ok (.iload 6, 2) := by decide +kernel
theorem dX12_shape_149 : decode cX12_shape 149 = .ok (.iconst 1, 1) := by decide +kernel
theorem dX12_shape_150 : decode cX12_shape 150 = .ok (.iadd, 1) := by decide +kernel
theorem dX12_shape_151 : decode cX12_shape 151 = .ok (.goto 4, 3) := by decide +kernel
theorem dX12_shape_154 : decode cX12_shape 154 = .ok (.iconst 1, 1) := by decide +kernel
theorem dX12_shape_155 : decode cX12_shape 155 = .ok (.istore 6, 2) := by decide +kernel
theorem dX12_shape_157 : decode cX12_shape 157 = .ok (.iload 7, 2) := by decide +kernel
theorem dX12_shape_159 : decode cX12_shape 159 = .ok (.iload 6, 2) := by decide +kernel
theorem dX12_shape_161 : decode cX12_shape 161 = .ok (.invokestatic 341, 3) := by decide +kernel
theorem dX12_shape_164 : decode cX12_shape 164 = .ok (.istore 7, 2) := by decide +kernel
theorem dX12_shape_166 : decode cX12_shape 166 = .ok (.iinc 8 1, 3) := by decide +kernel
theorem dX12_shape_169 : decode cX12_shape 169 = .ok (.goto (-128), 3) := by decide +kernel
theorem dX12_shape_172 : decode cX12_shape 172 = .ok (.iload_n 2, 1) := by decide +kernel
theorem dX12_shape_173 : decode cX12_shape 173 = .ok (.ifCond .ne 7, 3) := by decide +kernel
theorem dX12_shape_176 : decode cX12_shape 176 = .ok (.iload_n 3, 1) := by decide +kernel
theorem dX12_shape_177 : decode cX12_shape 177 = .ok (.goto 25, 3) := by decide +kernel
theorem dX12_shape_180 : decode cX12_shape 180 = .ok (.iload_n 2, 1) := by decide +kernel
theorem dX12_shape_181 : decode cX12_shape 181 = .ok (.iconst 1, 1) := by decide +kernel
theorem dX12_shape_182 : decode cX12_shape 182 = .ok (.if_icmp .ne 8, 3) := by decide +kernel
theorem dX12_shape_185 : decode cX12_shape 185 = .ok (.iload 4, 2) := by decide +kernel
theorem dX12_shape_187 : decode cX12_shape 187 = .ok (.goto 15, 3) := by decide +kernel
theorem dX12_shape_190 : decode cX12_shape 190 = .ok (.iload_n 2, 1) := by decide +kernel
theorem dX12_shape_191 : decode cX12_shape 191 = .ok (.iconst 2, 1) := by decide +kernel
theorem dX12_shape_192 : decode cX12_shape 192 = .ok (.if_icmp .ne 8, 3) := by decide +kernel
theorem dX12_shape_195 : decode cX12_shape 195 = .ok (.iload 5, 2) := by decide +kernel
theorem dX12_shape_197 : decode cX12_shape 197 = .ok (.goto 5, 3) := by decide +kernel
theorem dX12_shape_200 : decode cX12_shape 200 = .ok (.iload 7, 2) := by decide +kernel
theorem dX12_shape_202 : decode cX12_shape 202 = .ok (.ireturn, 1) := by decide +kernel
theorem dX12_dearer_0 : decode cX12_dearer 0 = .ok (.aload_n 0, 1) := by decide +kernel
theorem dX12_dearer_1 : decode cX12_dearer 1 = .ok (.iload_n 1, 1) := by decide +kernel
theorem dX12_dearer_2 : decode cX12_dearer 2 = .ok (.i2l, 1) := by decide +kernel
theorem dX12_dearer_3 : decode cX12_dearer 3 = .ok (.invokevirtual 98, 3) := by decide +kernel
theorem dX12_dearer_6 : decode cX12_dearer 6 = .ok (.ifCond .eq 17, 3) := by decide +kernel
theorem dX12_dearer_9 : decode cX12_dearer 9 = .ok (.aload_n 0, 1) := by decide +kernel
theorem dX12_dearer_10 : decode cX12_dearer 10 = .ok (.iload_n 2, 1) := by decide +kernel
theorem dX12_dearer_11 : decode cX12_dearer 11 = .ok (.i2l, 1) := by decide +kernel
theorem dX12_dearer_12 : decode cX12_dearer 12 = .ok (.invokevirtual 98, 3) := by decide +kernel
theorem dX12_dearer_15 : decode cX12_dearer 15 = .ok (.ifCond .eq 8, 3) := by decide +kernel
theorem dX12_dearer_18 : decode cX12_dearer 18 = .ok (.iload_n 1, 1) := by decide +kernel
theorem dX12_dearer_19 : decode cX12_dearer 19 = .ok (.iload_n 2, 1) := by decide +kernel
theorem dX12_dearer_20 : decode cX12_dearer 20 = .ok (.if_icmp .ne 6, 3) := by decide +kernel
theorem dX12_dearer_23 : decode cX12_dearer 23 = .ok (.bipush (-2), 2) := by decide +kernel
theorem dX12_dearer_25 : decode cX12_dearer 25 = .ok (.ireturn, 1) := by decide +kernel
theorem dX12_dearer_26 : decode cX12_dearer 26 = .ok (.iconst 0, 1) := by decide +kernel
theorem dX12_dearer_27 : decode cX12_dearer 27 = .ok (.istore_n 3, 1) := by decide +kernel
theorem dX12_dearer_28 : decode cX12_dearer 28 = .ok (.iconst 0, 1) := by decide +kernel
theorem dX12_dearer_29 : decode cX12_dearer 29 = .ok (.istore 4, 2) := by decide +kernel
theorem dX12_dearer_31 : decode cX12_dearer 31 = .ok (.iload 4, 2) := by decide +kernel
theorem dX12_dearer_33 : decode cX12_dearer 33 = .ok (.aload_n 0, 1) := by decide +kernel
theorem dX12_dearer_34 : decode cX12_dearer 34 = .ok (.getfield 9, 3) := by decide +kernel
theorem dX12_dearer_37 : decode cX12_dearer 37 = .ok (.iconst 0, 1) := by decide +kernel
theorem dX12_dearer_38 : decode cX12_dearer 38 = .ok (.iaload, 1) := by decide +kernel
theorem dX12_dearer_39 : decode cX12_dearer 39 = .ok (.if_icmp .ge 34, 3) := by decide +kernel
theorem dX12_dearer_42 : decode cX12_dearer 42 = .ok (.iload_n 3, 1) := by decide +kernel
theorem dX12_dearer_43 : decode cX12_dearer 43 = .ok (.aload_n 0, 1) := by decide +kernel
theorem dX12_dearer_44 : decode cX12_dearer 44 = .ok (.iload_n 1, 1) := by decide +kernel
theorem dX12_dearer_45 : decode cX12_dearer 45 = .ok (.iload 4, 2) := by decide +kernel
theorem dX12_dearer_47 : decode cX12_dearer 47 = .ok (.invokevirtual 263, 3) := by decide +kernel
theorem dX12_dearer_50 : decode cX12_dearer 50 = .ok (.aload_n 0, 1) := by decide +kernel
theorem dX12_dearer_51 : decode cX12_dearer 51 = .ok (.iload_n 2, 1) := by decide +kernel
theorem dX12_dearer_52 : decode cX12_dearer 52 = .ok (.iload 4, 2) := by decide +kernel
theorem dX12_dearer_54 : decode cX12_dearer 54 = .ok (.invokevirtual 263, 3) := by decide +kernel
theorem dX12_dearer_57 : decode cX12_dearer 57 = .ok (.if_icmp .le 7, 3) := by decide +kernel
theorem dX12_dearer_60 : decode cX12_dearer 60 = .ok (.iconst 1, 1) := by decide +kernel
theorem dX12_dearer_61 : decode cX12_dearer 61 = .ok (.goto 4, 3) := by decide +kernel
theorem dX12_dearer_64 : decode cX12_dearer 64 = .ok (.iconst 0, 1) := by decide +kernel
theorem dX12_dearer_65 : decode cX12_dearer 65 = .ok (.iadd, 1) := by decide +kernel
theorem dX12_dearer_66 : decode cX12_dearer 66 = .ok (.istore_n 3, 1) := by decide +kernel
theorem dX12_dearer_67 : decode cX12_dearer 67 = .ok (.iinc 4 1, 3) := by decide +kernel
theorem dX12_dearer_70 : decode cX12_dearer 70 = .ok (.goto (-39), 3) := by decide +kernel
theorem dX12_dearer_73 : decode cX12_dearer 73 = .ok (.iload_n 3, 1) := by decide +kernel
theorem dX12_dearer_74 : decode cX12_dearer 74 = .ok (.ireturn, 1) := by decide +kernel
theorem dX12_bestKeeping_0 : decode cX12_bestKeeping 0 = .ok (.bipush 6, 2) := by decide +kernel
theorem dX12_bestKeeping_2 : decode cX12_bestKeeping 2 = .ok (.aload_n 0, 1) := by decide +kernel
theorem dX12_bestKeeping_3 : decode cX12_bestKeeping 3 = .ok (.iload_n 1, 1) := by decide +kernel
theorem dX12_bestKeeping_4 : decode cX12_bestKeeping 4 = .ok (.invokevirtual 270, 3) := by decide +kernel
theorem dX12_bestKeeping_7 : decode cX12_bestKeeping 7 = .ok (.iadd, 1) := by decide +kernel
theorem dX12_bestKeeping_8 : decode cX12_bestKeeping 8 = .ok (.istore_n 3, 1) := by decide +kernel
theorem dX12_bestKeeping_9 : decode cX12_bestKeeping 9 = .ok (.aload_n 0, 1) := by decide +kernel
theorem dX12_bestKeeping_10 : decode cX12_bestKeeping 10 = .ok (.getfield 9, 3) := by decide +kernel
theorem dX12_bestKeeping_13 : decode cX12_bestKeeping 13 = .ok (.iload_n 3, 1) := by decide +kernel
theorem dX12_bestKeeping_14 : decode cX12_bestKeeping 14 = .ok (.iaload, 1) := by decide +kernel
theorem dX12_bestKeeping_15 : decode cX12_bestKeeping 15 = .ok (.istore 4, 2) := by decide +kernel
theorem dX12_bestKeeping_17 : decode cX12_bestKeeping 17 = .ok (.aload_n 0, 1) := by decide +kernel
theorem dX12_bestKeeping_18 : decode cX12_bestKeeping 18 = .ok (.getfield 9, 3) := by decide +kernel
theorem dX12_bestKeeping_21 : decode cX12_bestKeeping 21 = .ok (.iload_n 3, 1) := by decide +kernel
theorem dX12_bestKeeping_22 : decode cX12_bestKeeping 22 = .ok (.iload_n 2, 1) := by decide +kernel
theorem dX12_bestKeeping_23 : decode cX12_bestKeeping 23 = .ok (.iastore, 1) := by decide +kernel
theorem dX12_bestKeeping_24 : decode cX12_bestKeeping 24 = .ok (.aload_n 0, 1) := by decide +kernel
theorem dX12_bestKeeping_25 : decode cX12_bestKeeping 25 = .ok (.iload_n 1, 1) := by decide +kernel
theorem dX12_bestKeeping_26 : decode cX12_bestKeeping 26 = .ok (.iconst (-1), 1) := by decide +kernel
theorem dX12_bestKeeping_27 : decode cX12_bestKeeping 27 = .ok (.invokevirtual 350, 3) := by decide +kernel
theorem dX12_bestKeeping_30 : decode cX12_bestKeeping 30 = .ok (.istore 5, 2) := by decide +kernel
theorem dX12_bestKeeping_32 : decode cX12_bestKeeping 32 = .ok (.aload_n 0, 1) := by decide +kernel
theorem dX12_bestKeeping_33 : decode cX12_bestKeeping 33 = .ok (.getfield 9, 3) := by decide +kernel
theorem dX12_bestKeeping_36 : decode cX12_bestKeeping 36 = .ok (.iload_n 3, 1) := by decide +kernel
theorem dX12_bestKeeping_37 : decode cX12_bestKeeping 37 = .ok (.iload 4, 2) := by decide +kernel
theorem dX12_bestKeeping_39 : decode cX12_bestKeeping 39 = .ok (.iastore, 1) := by decide +kernel
theorem dX12_bestKeeping_40 : decode cX12_bestKeeping 40 = .ok (.iload 5, 2) := by decide +kernel
theorem dX12_bestKeeping_42 : decode cX12_bestKeeping 42 = .ok (.ireturn, 1) := by decide +kernel
theorem dX12_keeping_0 : decode cX12_keeping 0 = .ok (.aload_n 0, 1) := by decide +kernel
theorem dX12_keeping_1 : decode cX12_keeping 1 = .ok (.iload_n 1, 1) := by decide +kernel
theorem dX12_keeping_2 : decode cX12_keeping 2 = .ok (.invokevirtual 315, 3) := by decide +kernel
theorem dX12_keeping_5 : decode cX12_keeping 5 = .ok (.ifCond .eq 24, 3) := by decide +kernel
theorem dX12_keeping_8 : decode cX12_keeping 8 = .ok (.iload_n 2, 1) := by decide +kernel
theorem dX12_keeping_9 : decode cX12_keeping 9 = .ok (.i2l, 1) := by decide +kernel
theorem dX12_keeping_10 : decode cX12_keeping 10 = .ok (.lconst 0, 1) := by decide +kernel
theorem dX12_keeping_11 : decode cX12_keeping 11 = .ok (.ldc2_w 397, 3) := by decide +kernel
theorem dX12_keeping_14 : decode cX12_keeping 14 = .ok (.invokestatic 94, 3) := by decide +kernel
theorem dX12_keeping_17 : decode cX12_keeping 17 = .ok (.ifCond .eq 12, 3) := by decide +kernel
theorem dX12_keeping_20 : decode cX12_keeping 20 = .ok (.aload_n 0, 1) := by decide +kernel
theorem dX12_keeping_21 : decode cX12_keeping 21 = .ok (.iload_n 1, 1) := by decide +kernel
theorem dX12_keeping_22 : decode cX12_keeping 22 = .ok (.iload_n 2, 1) := by decide +kernel
theorem dX12_keeping_23 : decode cX12_keeping 23 = .ok (.invokevirtual 399, 3) := by decide +kernel
theorem dX12_keeping_26 : decode cX12_keeping 26 = .ok (.goto 5, 3) := by decide +kernel
theorem dX12_keeping_29 : decode cX12_keeping 29 = .ok (.bipush (-2), 2) := by decide +kernel
theorem dX12_keeping_31 : decode cX12_keeping 31 = .ok (.ireturn, 1) := by decide +kernel
theorem dX12_enough_0 : decode cX12_enough 0 = .ok (.aload_n 0, 1) := by decide +kernel
theorem dX12_enough_1 : decode cX12_enough 1 = .ok (.iload_n 1, 1) := by decide +kernel
theorem dX12_enough_2 : decode cX12_enough 2 = .ok (.invokevirtual 315, 3) := by decide +kernel
theorem dX12_enough_5 : decode cX12_enough 5 = .ok (.ifCond .ne 6, 3) := by decide +kernel
theorem dX12_enough_8 : decode cX12_enough 8 = .ok (.bipush (-2), 2) := by decide +kernel
theorem dX12_enough_10 : decode cX12_enough 10 = .ok (.ireturn, 1) := by decide +kernel
theorem dX12_enough_11 : decode cX12_enough 11 = .ok (.aload_n 0, 1) := by decide +kernel
theorem dX12_enough_12 : decode cX12_enough 12 = .ok (.iload_n 1, 1) := by decide +kernel
theorem dX12_enough_13 : decode cX12_enough 13 = .ok (.bipush 30, 2) := by decide +kernel
theorem dX12_enough_15 : decode cX12_enough 15 = .ok (.invokevirtual 399, 3) := by decide +kernel
theorem dX12_enough_18 : decode cX12_enough 18 = .ok (.istore_n 2, 1) := by decide +kernel
theorem dX12_enough_19 : decode cX12_enough 19 = .ok (.iconst 0, 1) := by decide +kernel
theorem dX12_enough_20 : decode cX12_enough 20 = .ok (.istore_n 3, 1) := by decide +kernel
theorem dX12_enough_21 : decode cX12_enough 21 = .ok (.aload_n 0, 1) := by decide +kernel
theorem dX12_enough_22 : decode cX12_enough 22 = .ok (.iload_n 1, 1) := by decide +kernel
theorem dX12_enough_23 : decode cX12_enough 23 = .ok (.iload_n 3, 1) := by decide +kernel
theorem dX12_enough_24 : decode cX12_enough 24 = .ok (.invokevirtual 399, 3) := by decide +kernel
theorem dX12_enough_27 : decode cX12_enough 27 = .ok (.iload_n 2, 1) := by decide +kernel
theorem dX12_enough_28 : decode cX12_enough 28 = .ok (.if_icmp .ge 9, 3) := by decide +kernel
theorem dX12_enough_31 : decode cX12_enough 31 = .ok (.iinc 3 1, 3) := by decide +kernel
theorem dX12_enough_34 : decode cX12_enough 34 = .ok (.goto (-13), 3) := by decide +kernel
theorem dX12_enough_37 : decode cX12_enough 37 = .ok (.iload_n 3, 1) := by decide +kernel
theorem dX12_enough_38 : decode cX12_enough 38 = .ok (.ireturn, 1) := by decide +kernel
theorem dX12_clears_0 : decode cX12_clears 0 = .ok (.aload_n 0, 1) := by decide +kernel
theorem dX12_clears_1 : decode cX12_clears 1 = .ok (.iload_n 1, 1) := by decide +kernel
theorem dX12_clears_2 : decode cX12_clears 2 = .ok (.iload_n 2, 1) := by decide +kernel
theorem dX12_clears_3 : decode cX12_clears 3 = .ok (.invokevirtual 307, 3) := by decide +kernel
theorem dX12_clears_6 : decode cX12_clears 6 = .ok (.ifCond .ne 6, 3) := by decide +kernel
theorem dX12_clears_9 : decode cX12_clears 9 = .ok (.bipush (-2), 2) := by decide +kernel
theorem dX12_clears_11 : decode cX12_clears 11 = .ok (.ireturn, 1) := by decide +kernel
theorem dX12_clears_12 : decode cX12_clears 12 = .ok (.aload_n 0, 1) := by decide +kernel
theorem dX12_clears_13 : decode cX12_clears 13 = .ok (.lconst 1, 1) := by decide +kernel
theorem dX12_clears_14 : decode cX12_clears 14 = .ok (.invokevirtual 311, 3) := by decide +kernel
theorem dX12_clears_17 : decode cX12_clears 17 = .ok (.aload_n 0, 1) := by decide +kernel
theorem dX12_clears_18 : decode cX12_clears 18 = .ok (.getfield 37, 3) := by decide +kernel
theorem dX12_clears_21 : decode cX12_clears 21 = .ok (.iload_n 1, 1) := by decide +kernel
theorem dX12_clears_22 : decode cX12_clears 22 = .ok (.iload_n 2, 1) := by decide +kernel
theorem dX12_clears_23 : decode cX12_clears 23 = .ok (.invokestatic 105, 3) := by decide +kernel
theorem dX12_clears_26 : decode cX12_clears 26 = .ok (.iaload, 1) := by decide +kernel
theorem dX12_clears_27 : decode cX12_clears 27 = .ok (.istore_n 3, 1) := by decide +kernel
theorem dX12_clears_28 : decode cX12_clears 28 = .ok (.bipush 11, 2) := by decide +kernel
theorem dX12_clears_30 : decode cX12_clears 30 = .ok (.iload_n 1, 1) := by decide +kernel
theorem dX12_clears_31 : decode cX12_clears 31 = .ok (.iload_n 2, 1) := by decide +kernel
theorem dX12_clears_32 : decode cX12_clears 32 = .ok (.invokestatic 105, 3) := by decide +kernel
theorem dX12_clears_35 : decode cX12_clears 35 = .ok (.iadd, 1) := by decide +kernel
theorem dX12_clears_36 : decode cX12_clears 36 = .ok (.istore 4, 2) := by decide +kernel
theorem dX12_clears_38 : decode cX12_clears 38 = .ok (.aload_n 0, 1) := by decide +kernel
theorem dX12_clears_39 : decode cX12_clears 39 = .ok (.getfield 9, 3) := by decide +kernel
theorem dX12_clears_42 : decode cX12_clears 42 = .ok (.iload 4, 2) := by decide +kernel
theorem dX12_clears_44 : decode cX12_clears 44 = .ok (.iaload, 1) := by decide +kernel
theorem dX12_clears_45 : decode cX12_clears 45 = .ok (.istore 5, 2) := by decide +kernel
theorem dX12_clears_47 : decode cX12_clears 47 = .ok (.iconst (-1), 1) := by decide +kernel
theorem dX12_clears_48 : decode cX12_clears 48 = .ok (.istore 6, 2) := by decide +kernel
theorem dX12_clears_50 : decode cX12_clears 50 = .ok (.bipush 99, 2) := by decide +kernel
theorem dX12_clears_52 : decode cX12_clears 52 = .ok (.istore 7, 2) := by decide +kernel
theorem dX12_clears_54 : decode cX12_clears 54 = .ok (.iload 7, 2) := by decide +kernel
theorem dX12_clears_56 : decode cX12_clears 56 = .ok (.ifCond .lt 42, 3) := by decide +kernel
theorem dX12_clears_59 : decode cX12_clears 59 = .ok (.iload 6, 2) := by decide +kernel
theorem dX12_clears_61 : decode cX12_clears 61 = .ok (.iconst (-1), 1) := by decide +kernel
theorem dX12_clears_62 : decode cX12_clears 62 = .ok (.if_icmp .ne 36, 3) := by decide +kernel
theorem dX12_clears_65 : decode cX12_clears 65 = .ok (.aload_n 0, 1) := by decide +kernel
theorem dX12_clears_66 : decode cX12_clears 66 = .ok (.getfield 9, 3) := by decide +kernel
theorem dX12_clears_69 : decode cX12_clears 69 = .ok (.iload 4, 2) := by decide +kernel
theorem dX12_clears_71 : decode cX12_clears 71 = .ok (.iload 7, 2) := by decide +kernel
theorem dX12_clears_73 : decode cX12_clears 73 = .ok (.iastore, 1) := by decide +kernel
theorem dX12_clears_74 : decode cX12_clears 74 = .ok (.aload_n 0, 1) := by decide +kernel
theorem dX12_clears_75 : decode cX12_clears 75 = .ok (.iload_n 1, 1) := by decide +kernel
theorem dX12_clears_76 : decode cX12_clears 76 = .ok (.iload_n 2, 1) := by decide +kernel
theorem dX12_clears_77 : decode cX12_clears 77 = .ok (.invokevirtual 288, 3) := by decide +kernel
theorem dX12_clears_80 : decode cX12_clears 80 = .ok (.iload_n 3, 1) := by decide +kernel
theorem dX12_clears_81 : decode cX12_clears 81 = .ok (.if_icmp .lt 8, 3) := by decide +kernel
theorem dX12_clears_84 : decode cX12_clears 84 = .ok (.iload 7, 2) := by decide +kernel
theorem dX12_clears_86 : decode cX12_clears 86 = .ok (.goto 4, 3) := by decide +kernel
theorem dX12_clears_89 : decode cX12_clears 89 = .ok (.iconst (-1), 1) := by decide +kernel
theorem dX12_clears_90 : decode cX12_clears 90 = .ok (.istore 6, 2) := by decide +kernel
theorem dX12_clears_92 : decode cX12_clears 92 = .ok (.iinc 7 (-1), 3) := by decide +kernel
theorem dX12_clears_95 : decode cX12_clears 95 = .ok (.goto (-41), 3) := by decide +kernel
theorem dX12_clears_98 : decode cX12_clears 98 = .ok (.aload_n 0, 1) := by decide +kernel
theorem dX12_clears_99 : decode cX12_clears 99 = .ok (.getfield 9, 3) := by decide +kernel
theorem dX12_clears_102 : decode cX12_clears 102 = .ok (.iload 4, 2) := by decide +kernel
theorem dX12_clears_104 : decode cX12_clears 104 = .ok (.iload 5, 2) := by decide +kernel
theorem dX12_clears_106 : decode cX12_clears 106 = .ok (.iastore, 1) := by decide +kernel
theorem dX12_clears_107 : decode cX12_clears 107 = .ok (.iload 6, 2) := by decide +kernel
theorem dX12_clears_109 : decode cX12_clears 109 = .ok (.ireturn, 1) := by decide +kernel
theorem dX12_poor_0 : decode cX12_poor 0 = .ok (.aload_n 0, 1) := by decide +kernel
theorem dX12_poor_1 : decode cX12_poor 1 = .ok (.iload_n 1, 1) := by decide +kernel
theorem dX12_poor_2 : decode cX12_poor 2 = .ok (.invokevirtual 327, 3) := by decide +kernel
theorem dX12_poor_5 : decode cX12_poor 5 = .ok (.ifCond .ne 6, 3) := by decide +kernel
theorem dX12_poor_8 : decode cX12_poor 8 = .ok (.bipush (-2), 2) := by decide +kernel
theorem dX12_poor_10 : decode cX12_poor 10 = .ok (.ireturn, 1) := by decide +kernel
theorem dX12_poor_11 : decode cX12_poor 11 = .ok (.sipush 426, 3) := by decide +kernel
theorem dX12_poor_14 : decode cX12_poor 14 = .ok (.bipush 6, 2) := by decide +kernel
theorem dX12_poor_16 : decode cX12_poor 16 = .ok (.iload_n 1, 1) := by decide +kernel
theorem dX12_poor_17 : decode cX12_poor 17 = .ok (.imul, 1) := by decide +kernel
theorem dX12_poor_18 : decode cX12_poor 18 = .ok (.iadd, 1) := by decide +kernel
theorem dX12_poor_19 : decode cX12_poor 19 = .ok (.iconst 2, 1) := by decide +kernel
theorem dX12_poor_20 : decode cX12_poor 20 = .ok (.iadd, 1) := by decide +kernel
theorem dX12_poor_21 : decode cX12_poor 21 = .ok (.istore_n 2, 1) := by decide +kernel
theorem dX12_poor_22 : decode cX12_poor 22 = .ok (.aload_n 0, 1) := by decide +kernel
theorem dX12_poor_23 : decode cX12_poor 23 = .ok (.iload_n 1, 1) := by decide +kernel
theorem dX12_poor_24 : decode cX12_poor 24 = .ok (.iconst 1, 1) := by decide +kernel
theorem dX12_poor_25 : decode cX12_poor 25 = .ok (.invokevirtual 260, 3) := by decide +kernel
theorem dX12_poor_28 : decode cX12_poor 28 = .ok (.aload_n 0, 1) := by decide +kernel
theorem dX12_poor_29 : decode cX12_poor 29 = .ok (.iload_n 1, 1) := by decide +kernel
theorem dX12_poor_30 : decode cX12_poor 30 = .ok (.iconst 4, 1) := by decide +kernel
theorem dX12_poor_31 : decode cX12_poor 31 = .ok (.invokevirtual 260, 3) := by decide +kernel
theorem dX12_poor_34 : decode cX12_poor 34 = .ok (.aload_n 0, 1) := by decide +kernel
theorem dX12_poor_35 : decode cX12_poor 35 = .ok (.iload_n 1, 1) := by decide +kernel
theorem dX12_poor_36 : decode cX12_poor 36 = .ok (.iconst 3, 1) := by decide +kernel
theorem dX12_poor_37 : decode cX12_poor 37 = .ok (.invokevirtual 260, 3) := by decide +kernel
theorem dX12_poor_40 : decode cX12_poor 40 = .ok (.isub, 1) := by decide +kernel
theorem dX12_poor_41 : decode cX12_poor 41 = .ok (.iconst 1, 1) := by decide +kernel
theorem dX12_poor_42 : decode cX12_poor 42 = .ok (.iadd, 1) := by decide +kernel
theorem dX12_poor_43 : decode cX12_poor 43 = .ok (.imul, 1) := by decide +kernel
theorem dX12_poor_44 : decode cX12_poor 44 = .ok (.istore_n 3, 1) := by decide +kernel
theorem dX12_poor_45 : decode cX12_poor 45 = .ok (.aload_n 0, 1) := by decide +kernel
theorem dX12_poor_46 : decode cX12_poor 46 = .ok (.getfield 9, 3) := by decide +kernel
theorem dX12_poor_49 : decode cX12_poor 49 = .ok (.iload_n 2, 1) := by decide +kernel
theorem dX12_poor_50 : decode cX12_poor 50 = .ok (.iaload, 1) := by decide +kernel
theorem dX12_poor_51 : decode cX12_poor 51 = .ok (.istore 4, 2) := by decide +kernel
theorem dX12_poor_53 : decode cX12_poor 53 = .ok (.iconst (-1), 1) := by decide +kernel
theorem dX12_poor_54 : decode cX12_poor 54 = .ok (.istore 5, 2) := by decide +kernel
theorem dX12_poor_56 : decode cX12_poor 56 = .ok (.iconst 0, 1) := by decide +kernel
theorem dX12_poor_57 : decode cX12_poor 57 = .ok (.istore 6, 2) := by decide +kernel
theorem dX12_poor_59 : decode cX12_poor 59 = .ok (.iload 6, 2) := by decide +kernel
theorem dX12_poor_61 : decode cX12_poor 61 = .ok (.bipush 99, 2) := by decide +kernel
theorem dX12_poor_63 : decode cX12_poor 63 = .ok (.if_icmp .gt 46, 3) := by decide +kernel
theorem dX12_poor_66 : decode cX12_poor 66 = .ok (.iload 5, 2) := by decide +kernel
theorem dX12_poor_68 : decode cX12_poor 68 = .ok (.iconst (-1), 1) := by decide +kernel
theorem dX12_poor_69 : decode cX12_poor 69 = .ok (.if_icmp .ne 40, 3) := by decide +kernel
theorem dX12_poor_72 : decode cX12_poor 72 = .ok (.aload_n 0, 1) := by decide +kernel
theorem dX12_poor_73 : decode cX12_poor 73 = .ok (.getfield 9, 3) := by decide +kernel
theorem dX12_poor_76 : decode cX12_poor 76 = .ok (.iload_n 2, 1) := by decide +kernel
theorem dX12_poor_77 : decode cX12_poor 77 = .ok (.iload 6, 2) := by decide +kernel
theorem dX12_poor_79 : decode cX12_poor 79 = .ok (.iastore, 1) := by decide +kernel
theorem dX12_poor_80 : decode cX12_poor 80 = .ok (.aload_n 0, 1) := by decide +kernel
theorem dX12_poor_81 : decode cX12_poor 81 = .ok (.lconst 1, 1) := by decide +kernel
theorem dX12_poor_82 : decode cX12_poor 82 = .ok (.invokevirtual 311, 3) := by decide +kernel
theorem dX12_poor_85 : decode cX12_poor 85 = .ok (.aload_n 0, 1) := by decide +kernel
theorem dX12_poor_86 : decode cX12_poor 86 = .ok (.getfield 61, 3) := by decide +kernel
theorem dX12_poor_89 : decode cX12_poor 89 = .ok (.iload_n 1, 1) := by decide +kernel
theorem dX12_poor_90 : decode cX12_poor 90 = .ok (.iaload, 1) := by decide +kernel
theorem dX12_poor_91 : decode cX12_poor 91 = .ok (.iload_n 3, 1) := by decide +kernel
theorem dX12_poor_92 : decode cX12_poor 92 = .ok (.if_icmp .ne 8, 3) := by decide +kernel
theorem dX12_poor_95 : decode cX12_poor 95 = .ok (.iload 6, 2) := by decide +kernel
theorem dX12_poor_97 : decode cX12_poor 97 = .ok (.goto 4, 3) := by decide +kernel
theorem dX12_poor_100 : decode cX12_poor 100 = .ok (.iconst (-1), 1) := by decide +kernel
theorem dX12_poor_101 : decode cX12_poor 101 = .ok (.istore 5, 2) := by decide +kernel
theorem dX12_poor_103 : decode cX12_poor 103 = .ok (.iinc 6 1, 3) := by decide +kernel
theorem dX12_poor_106 : decode cX12_poor 106 = .ok (.goto (-47), 3) := by decide +kernel
theorem dX12_poor_109 : decode cX12_poor 109 = .ok (.aload_n 0, 1) := by decide +kernel
theorem dX12_poor_110 : decode cX12_poor 110 = .ok (.getfield 9, 3) := by decide +kernel
theorem dX12_poor_113 : decode cX12_poor 113 = .ok (.iload_n 2, 1) := by decide +kernel
theorem dX12_poor_114 : decode cX12_poor 114 = .ok (.iload 4, 2) := by decide +kernel
theorem dX12_poor_116 : decode cX12_poor 116 = .ok (.iastore, 1) := by decide +kernel
theorem dX12_poor_117 : decode cX12_poor 117 = .ok (.iload 5, 2) := by decide +kernel
theorem dX12_poor_119 : decode cX12_poor 119 = .ok (.ireturn, 1) := by decide +kernel
theorem dX12_villageOn_0 : decode cX12_villageOn 0 = .ok (.iconst 0, 1) := by decide +kernel
theorem dX12_villageOn_1 : decode cX12_villageOn 1 = .ok (.istore_n 3, 1) := by decide +kernel
theorem dX12_villageOn_2 : decode cX12_villageOn 2 = .ok (.iconst 0, 1) := by decide +kernel
theorem dX12_villageOn_3 : decode cX12_villageOn 3 = .ok (.istore 4, 2) := by decide +kernel
theorem dX12_villageOn_5 : decode cX12_villageOn 5 = .ok (.iload 4, 2) := by decide +kernel
theorem dX12_villageOn_7 : decode cX12_villageOn 7 = .ok (.aload_n 0, 1) := by decide +kernel
theorem dX12_villageOn_8 : decode cX12_villageOn 8 = .ok (.getfield 9, 3) := by decide +kernel
theorem dX12_villageOn_11 : decode cX12_villageOn 11 = .ok (.iconst 2, 1) := by decide +kernel
theorem dX12_villageOn_12 : decode cX12_villageOn 12 = .ok (.iaload, 1) := by decide +kernel
theorem dX12_villageOn_13 : decode cX12_villageOn 13 = .ok (.if_icmp .ge 37, 3) := by decide +kernel
theorem dX12_villageOn_16 : decode cX12_villageOn 16 = .ok (.iload_n 3, 1) := by decide +kernel
theorem dX12_villageOn_17 : decode cX12_villageOn 17 = .ok (.iload_n 1, 1) := by decide +kernel
theorem dX12_villageOn_18 : decode cX12_villageOn 18 = .ok (.iload 4, 2) := by decide +kernel
theorem dX12_villageOn_20 : decode cX12_villageOn 20 = .ok (.ishr, 1) := by decide +kernel
theorem dX12_villageOn_21 : decode cX12_villageOn 21 = .ok (.iconst 1, 1) := by decide +kernel
theorem dX12_villageOn_22 : decode cX12_villageOn 22 = .ok (.iand, 1) := by decide +kernel
theorem dX12_villageOn_23 : decode cX12_villageOn 23 = .ok (.iconst 1, 1) := by decide +kernel
theorem dX12_villageOn_24 : decode cX12_villageOn 24 = .ok (.if_icmp .ne 17, 3) := by decide +kernel
theorem dX12_villageOn_27 : decode cX12_villageOn 27 = .ok (.aload_n 0, 1) := by decide +kernel
theorem dX12_villageOn_28 : decode cX12_villageOn 28 = .ok (.getfield 46, 3) := by decide +kernel
theorem dX12_villageOn_31 : decode cX12_villageOn 31 = .ok (.iload 4, 2) := by decide +kernel
theorem dX12_villageOn_33 : decode cX12_villageOn 33 = .ok (.iload_n 2, 1) := by decide +kernel
theorem dX12_villageOn_34 : decode cX12_villageOn 34 = .ok (.invokestatic 105, 3) := by decide +kernel
theorem dX12_villageOn_37 : decode cX12_villageOn 37 = .ok (.iaload, 1) := by decide +kernel
theorem dX12_villageOn_38 : decode cX12_villageOn 38 = .ok (.goto 4, 3) := by decide +kernel
theorem dX12_villageOn_41 : decode cX12_villageOn 41 = .ok (.iconst 0, 1) := by decide +kernel
theorem dX12_villageOn_42 : decode cX12_villageOn 42 = .ok (.iadd, 1) := by decide +kernel
theorem dX12_villageOn_43 : decode cX12_villageOn 43 = .ok (.istore_n 3, 1) := by decide +kernel
theorem dX12_villageOn_44 : decode cX12_villageOn 44 = .ok (.iinc 4 1, 3) := by decide +kernel
theorem dX12_villageOn_47 : decode cX12_villageOn 47 = .ok (.goto (-42), 3) := by decide +kernel
theorem dX12_villageOn_50 : decode cX12_villageOn 50 = .ok (.iload_n 3, 1) := by decide +kernel
theorem dX12_villageOn_51 : decode cX12_villageOn 51 = .ok (.ireturn, 1) := by decide +kernel
theorem dX12_village_0 : decode cX12_village 0 = .ok (.aload_n 0, 1) := by decide +kernel
theorem dX12_village_1 : decode cX12_village 1 = .ok (.invokevirtual 330, 3) := by decide +kernel
theorem dX12_village_4 : decode cX12_village 4 = .ok (.ifCond .eq 35, 3) := by decide +kernel
theorem dX12_village_7 : decode cX12_village 7 = .ok (.iload_n 1, 1) := by decide +kernel
theorem dX12_village_8 : decode cX12_village 8 = .ok (.i2l, 1) := by decide +kernel
theorem dX12_village_9 : decode cX12_village 9 = .ok (.lconst 0, 1) := by decide +kernel
theorem dX12_village_10 : decode cX12_village 10 = .ok (.iconst 1, 1) := by decide +kernel
theorem dX12_village_11 : decode cX12_village 11 = .ok (.aload_n 0, 1) := by decide +kernel
theorem dX12_village_12 : decode cX12_village 12 = .ok (.getfield 9, 3) := by decide +kernel
theorem dX12_village_15 : decode cX12_village 15 = .ok (.iconst 2, 1) := by decide +kernel
theorem dX12_village_16 : decode cX12_village 16 = .ok (.iaload, 1) := by decide +kernel
theorem dX12_village_17 : decode cX12_village 17 = .ok (.ishl, 1) := by decide +kernel
theorem dX12_village_18 : decode cX12_village 18 = .ok (.iconst 1, 1) := by decide +kernel
theorem dX12_village_19 : decode cX12_village 19 = .ok (.isub, 1) := by decide +kernel
theorem dX12_village_20 : decode cX12_village 20 = .ok (.i2l, 1) := by decide +kernel
theorem dX12_village_21 : decode cX12_village 21 = .ok (.invokestatic 94, 3) := by decide +kernel
theorem dX12_village_24 : decode cX12_village 24 = .ok (.ifCond .eq 15, 3) := by decide +kernel
theorem dX12_village_27 : decode cX12_village 27 = .ok (.iload_n 2, 1) := by decide +kernel
theorem dX12_village_28 : decode cX12_village 28 = .ok (.i2l, 1) := by decide +kernel
theorem dX12_village_29 : decode cX12_village 29 = .ok (.lconst 0, 1) := by decide +kernel
theorem dX12_village_30 : decode cX12_village 30 = .ok (.ldc2_w 92, 3) := by decide +kernel
theorem dX12_village_33 : decode cX12_village 33 = .ok (.invokestatic 94, 3) := by decide +kernel
theorem dX12_village_36 : decode cX12_village 36 = .ok (.ifCond .ne 6, 3) := by decide +kernel
theorem dX12_village_39 : decode cX12_village 39 = .ok (.bipush (-2), 2) := by decide +kernel
theorem dX12_village_41 : decode cX12_village 41 = .ok (.ireturn, 1) := by decide +kernel
theorem dX12_village_42 : decode cX12_village 42 = .ok (.aload_n 0, 1) := by decide +kernel
theorem dX12_village_43 : decode cX12_village 43 = .ok (.lconst 1, 1) := by decide +kernel
theorem dX12_village_44 : decode cX12_village 44 = .ok (.invokevirtual 311, 3) := by decide +kernel
theorem dX12_village_47 : decode cX12_village 47 = .ok (.iconst 0, 1) := by decide +kernel
theorem dX12_village_48 : decode cX12_village 48 = .ok (.istore_n 3, 1) := by decide +kernel
theorem dX12_village_49 : decode cX12_village 49 = .ok (.iconst 0, 1) := by decide +kernel
theorem dX12_village_50 : decode cX12_village 50 = .ok (.istore 4, 2) := by decide +kernel
theorem dX12_village_52 : decode cX12_village 52 = .ok (.iconst 0, 1) := by decide +kernel
theorem dX12_village_53 : decode cX12_village 53 = .ok (.istore 5, 2) := by decide +kernel
theorem dX12_village_55 : decode cX12_village 55 = .ok (.iload 5, 2) := by decide +kernel
theorem dX12_village_57 : decode cX12_village 57 = .ok (.aload_n 0, 1) := by decide +kernel
theorem dX12_village_58 : decode cX12_village 58 = .ok (.getfield 9, 3) := by decide +kernel
theorem dX12_village_61 : decode cX12_village 61 = .ok (.iconst 0, 1) := by decide +kernel
theorem dX12_village_62 : decode cX12_village 62 = .ok (.iaload, 1) := by decide +kernel
theorem dX12_village_63 : decode cX12_village 63 = .ok (.if_icmp .ge 44, 3) := by decide +kernel
theorem dX12_village_66 : decode cX12_village 66 = .ok (.aload_n 0, 1) := by decide +kernel
theorem dX12_village_67 : decode cX12_village 67 = .ok (.iload_n 1, 1) := by decide +kernel
theorem dX12_village_68 : decode cX12_village 68 = .ok (.iload 5, 2) := by decide +kernel
theorem dX12_village_70 : decode cX12_village 70 = .ok (.invokevirtual 402, 3) := by decide +kernel
theorem dX12_village_73 : decode cX12_village 73 = .ok (.aload_n 0, 1) := by decide +kernel
theorem dX12_village_74 : decode cX12_village 74 = .ok (.iload_n 1, 1) := by decide +kernel
theorem dX12_village_75 : decode cX12_village 75 = .ok (.iload_n 3, 1) := by decide +kernel
theorem dX12_village_76 : decode cX12_village 76 = .ok (.invokevirtual 402, 3) := by decide +kernel
theorem dX12_village_79 : decode cX12_village 79 = .ok (.if_icmp .le 8, 3) := by decide +kernel
theorem dX12_village_82 : decode cX12_village 82 = .ok (.iload 5, 2) := by decide +kernel
theorem dX12_village_84 : decode cX12_village 84 = .ok (.goto 4, 3) := by decide +kernel
theorem dX12_village_87 : decode cX12_village 87 = .ok (.iload_n 3, 1) := by decide +kernel
theorem dX12_village_88 : decode cX12_village 88 = .ok (.istore_n 3, 1) := by decide +kernel
theorem dX12_village_89 : decode cX12_village 89 = .ok (.iload 4, 2) := by decide +kernel
theorem dX12_village_91 : decode cX12_village 91 = .ok (.aload_n 0, 1) := by decide +kernel
theorem dX12_village_92 : decode cX12_village 92 = .ok (.iload_n 1, 1) := by decide +kernel
theorem dX12_village_93 : decode cX12_village 93 = .ok (.iload 5, 2) := by decide +kernel
theorem dX12_village_95 : decode cX12_village 95 = .ok (.invokevirtual 402, 3) := by decide +kernel
theorem dX12_village_98 : decode cX12_village 98 = .ok (.iadd, 1) := by decide +kernel
theorem dX12_village_99 : decode cX12_village 99 = .ok (.istore 4, 2) := by decide +kernel
theorem dX12_village_101 : decode cX12_village 101 = .ok (.iinc 5 1, 3) := by decide +kernel
theorem dX12_village_104 : decode cX12_village 104 = .ok (.goto (-49), 3) := by decide +kernel
theorem dX12_village_107 : decode cX12_village 107 = .ok (.iload_n 2, 1) := by decide +kernel
theorem dX12_village_108 : decode cX12_village 108 = .ok (.ifCond .ne 16, 3) := by decide +kernel
theorem dX12_village_111 : decode cX12_village 111 = .ok (.iload 4, 2) := by decide +kernel
theorem dX12_village_113 : decode cX12_village 113 = .ok (.ifCond .ne 7, 3) := by decide +kernel
theorem dX12_village_116 : decode cX12_village 116 = .ok (.iconst (-1), 1) := by decide +kernel
theorem dX12_village_117 : decode cX12_village 117 = .ok (.goto 23, 3) := by decide +kernel
theorem dX12_village_120 : decode cX12_village 120 = .ok (.iload_n 3, 1) := by decide +kernel
theorem dX12_village_121 : decode cX12_village 121 = .ok (.goto 19, 3) := by decide +kernel
theorem dX12_village_124 : decode cX12_village 124 = .ok (.iload_n 2, 1) := by decide +kernel
theorem dX12_village_125 : decode cX12_village 125 = .ok (.iconst 1, 1) := by decide +kernel
theorem dX12_village_126 : decode cX12_village 126 = .ok (.if_icmp .ne 12, 3) := by decide +kernel
theorem dX12_village_129 : decode cX12_village 129 = .ok (.aload_n 0, 1) := by decide +kernel
theorem dX12_village_130 : decode cX12_village 130 = .ok (.iload_n 1, 1) := by decide +kernel
theorem dX12_village_131 : decode cX12_village 131 = .ok (.iload_n 3, 1) := by decide +kernel
theorem dX12_village_132 : decode cX12_village 132 = .ok (.invokevirtual 402, 3) := by decide +kernel
theorem dX12_village_135 : decode cX12_village 135 = .ok (.goto 5, 3) := by decide +kernel
theorem dX12_village_138 : decode cX12_village 138 = .ok (.iload 4, 2) := by decide +kernel
theorem dX12_village_140 : decode cX12_village 140 = .ok (.ireturn, 1) := by decide +kernel
theorem dX12_factorial_0 : decode cX12_factorial 0 = .ok (.iconst 1, 1) := by decide +kernel
theorem dX12_factorial_1 : decode cX12_factorial 1 = .ok (.istore_n 1, 1) := by decide +kernel
theorem dX12_factorial_2 : decode cX12_factorial 2 = .ok (.iconst 2, 1) := by decide +kernel
theorem dX12_factorial_3 : decode cX12_factorial 3 = .ok (.istore_n 2, 1) := by decide +kernel
theorem dX12_factorial_4 : decode cX12_factorial 4 = .ok (.iload_n 2, 1) := by decide +kernel
theorem dX12_factorial_5 : decode cX12_factorial 5 = .ok (.iload_n 0, 1) := by decide +kernel
theorem dX12_factorial_6 : decode cX12_factorial 6 = .ok (.if_icmp .gt 13, 3) := by decide +kernel
theorem dX12_factorial_9 : decode cX12_factorial 9 = .ok (.iload_n 1, 1) := by decide +kernel
theorem dX12_factorial_10 : decode cX12_factorial 10 = .ok (.iload_n 2, 1) := by decide +kernel
theorem dX12_factorial_11 : decode cX12_factorial 11 = .ok (.imul, 1) := by decide +kernel
theorem dX12_factorial_12 : decode cX12_factorial 12 = .ok (.istore_n 1, 1) := by decide +kernel
theorem dX12_factorial_13 : decode cX12_factorial 13 = .ok (.iinc 2 1, 3) := by decide +kernel
theorem dX12_factorial_16 : decode cX12_factorial 16 = .ok (.goto (-12), 3) := by decide +kernel
theorem dX12_factorial_19 : decode cX12_factorial 19 = .ok (.iload_n 1, 1) := by decide +kernel
theorem dX12_factorial_20 : decode cX12_factorial 20 = .ok (.ireturn, 1) := by decide +kernel
theorem dX12_orders_0 : decode cX12_orders 0 = .ok (.iconst 0, 1) := by decide +kernel
theorem dX12_orders_1 : decode cX12_orders 1 = .ok (.istore 4, 2) := by decide +kernel
theorem dX12_orders_3 : decode cX12_orders 3 = .ok (.iconst 0, 1) := by decide +kernel
theorem dX12_orders_4 : decode cX12_orders 4 = .ok (.istore 5, 2) := by decide +kernel
theorem dX12_orders_6 : decode cX12_orders 6 = .ok (.iload 5, 2) := by decide +kernel
theorem dX12_orders_8 : decode cX12_orders 8 = .ok (.iconst 1, 1) := by decide +kernel
theorem dX12_orders_9 : decode cX12_orders 9 = .ok (.iload_n 2, 1) := by decide +kernel
theorem dX12_orders_10 : decode cX12_orders 10 = .ok (.ishl, 1) := by decide +kernel
theorem dX12_orders_11 : decode cX12_orders 11 = .ok (.if_icmp .ge 127, 3) := by decide +kernel
theorem dX12_orders_14 : decode cX12_orders 14 = .ok (.iconst 0, 1) := by decide +kernel
theorem dX12_orders_15 : decode cX12_orders 15 = .ok (.istore 6, 2) := by decide +kernel
theorem dX12_orders_17 : decode cX12_orders 17 = .ok (.iconst 0, 1) := by decide +kernel
theorem dX12_orders_18 : decode cX12_orders 18 = .ok (.istore 7, 2) := by decide +kernel
theorem dX12_orders_20 : decode cX12_orders 20 = .ok (.iconst 1, 1) := by decide +kernel
theorem dX12_orders_21 : decode cX12_orders 21 = .ok (.istore 8, 2) := by decide +kernel
theorem dX12_orders_23 : decode cX12_orders 23 = .ok (.iconst 0, 1) := by decide +kernel
theorem dX12_orders_24 : decode cX12_orders 24 = .ok (.istore 9, 2) := by decide +kernel
theorem dX12_orders_26 : decode cX12_orders 26 = .ok (.iload 9, 2) := by decide +kernel
theorem dX12_orders_28 : decode cX12_orders 28 = .ok (.iload_n 2, 1) := by decide +kernel
theorem dX12_orders_29 : decode cX12_orders 29 = .ok (.if_icmp .ge 65, 3) := by decide +kernel
theorem dX12_orders_32 : decode cX12_orders 32 = .ok (.iload 5, 2) := by decide +kernel
theorem dX12_orders_34 : decode cX12_orders 34 = .ok (.iload 9, 2) := by decide +kernel
theorem dX12_orders_36 : decode cX12_orders 36 = .ok (.ishr, 1) := by decide +kernel
theorem dX12_orders_37 : decode cX12_orders 37 = .ok (.iconst 1, 1) := by decide +kernel
theorem dX12_orders_38 : decode cX12_orders 38 = .ok (.iand, 1) := by decide +kernel
theorem dX12_orders_39 : decode cX12_orders 39 = .ok (.ifCond .ne 6, 3) := by decide +kernel
theorem dX12_orders_42 : decode cX12_orders 42 = .ok (.goto 46, 3) := by decide +kernel
theorem dX12_orders_45 : decode cX12_orders 45 = .ok (.iload 8, 2) := by decide +kernel
theorem dX12_orders_47 : decode cX12_orders 47 = .ok (.ifCond .eq 18, 3) := by decide +kernel
theorem dX12_orders_50 : decode cX12_orders 50 = .ok (.aload_n 0, 1) := by decide +kernel
theorem dX12_orders_51 : decode cX12_orders 51 = .ok (.getfield 67, 3) := by decide +kernel
theorem dX12_orders_54 : decode cX12_orders 54 = .ok (.iload 9, 2) := by decide +kernel
theorem dX12_orders_56 : decode cX12_orders 56 = .ok (.iaload, 1) := by decide +kernel
theorem dX12_orders_57 : decode cX12_orders 57 = .ok (.iload_n 1, 1) := by decide +kernel
theorem dX12_orders_58 : decode cX12_orders 58 = .ok (.if_icmp .eq 7, 3) := by decide +kernel
theorem dX12_orders_61 : decode cX12_orders 61 = .ok (.iconst 1, 1) := by decide +kernel
theorem dX12_orders_62 : decode cX12_orders 62 = .ok (.goto 4, 3) := by decide +kernel
theorem dX12_orders_65 : decode cX12_orders 65 = .ok (.iconst 0, 1) := by decide +kernel
theorem dX12_orders_66 : decode cX12_orders 66 = .ok (.istore 8, 2) := by decide +kernel
theorem dX12_orders_68 : decode cX12_orders 68 = .ok (.iinc 6 1, 3) := by decide +kernel
theorem dX12_orders_71 : decode cX12_orders 71 = .ok (.iload 7, 2) := by decide +kernel
theorem dX12_orders_73 : decode cX12_orders 73 = .ok (.aload_n 0, 1) := by decide +kernel
theorem dX12_orders_74 : decode cX12_orders 74 = .ok (.aload_n 0, 1) := by decide +kernel
theorem dX12_orders_75 : decode cX12_orders 75 = .ok (.getfield 67, 3) := by decide +kernel
theorem dX12_orders_78 : decode cX12_orders 78 = .ok (.iload 9, 2) := by decide +kernel
theorem dX12_orders_80 : decode cX12_orders 80 = .ok (.iaload, 1) := by decide +kernel
theorem dX12_orders_81 : decode cX12_orders 81 = .ok (.iconst 1, 1) := by decide +kernel
theorem dX12_orders_82 : decode cX12_orders 82 = .ok (.invokevirtual 260, 3) := by decide +kernel
theorem dX12_orders_85 : decode cX12_orders 85 = .ok (.iadd, 1) := by decide +kernel
theorem dX12_orders_86 : decode cX12_orders 86 = .ok (.istore 7, 2) := by decide +kernel
theorem dX12_orders_88 : decode cX12_orders 88 = .ok (.iinc 9 1, 3) := by decide +kernel
theorem dX12_orders_91 : decode cX12_orders 91 = .ok (.goto (-65), 3) := by decide +kernel
theorem dX12_orders_94 : decode cX12_orders 94 = .ok (.iload 8, 2) := by decide +kernel
theorem dX12_orders_96 : decode cX12_orders 96 = .ok (.ifCond .eq 36, 3) := by decide +kernel
theorem dX12_orders_99 : decode cX12_orders 99 = .ok (.iload 7, 2) := by decide +kernel
theorem dX12_orders_101 : decode cX12_orders 101 = .ok (.aload_n 0, 1) := by decide +kernel
theorem dX12_orders_102 : decode cX12_orders 102 = .ok (.iload_n 1, 1) := by decide +kernel
theorem dX12_orders_103 : decode cX12_orders 103 = .ok (.iconst 1, 1) := by decide +kernel
theorem dX12_orders_104 : decode cX12_orders 104 = .ok (.invokevirtual 260, 3) := by decide +kernel
theorem dX12_orders_107 : decode cX12_orders 107 = .ok (.iadd, 1) := by decide +kernel
theorem dX12_orders_108 : decode cX12_orders 108 = .ok (.iload_n 3, 1) := by decide +kernel
theorem dX12_orders_109 : decode cX12_orders 109 = .ok (.if_icmp .gt 23, 3) := by decide +kernel
theorem dX12_orders_112 : decode cX12_orders 112 = .ok (.iload 4, 2) := by decide +kernel
theorem dX12_orders_114 : decode cX12_orders 114 = .ok (.iload 6, 2) := by decide +kernel
theorem dX12_orders_116 : decode cX12_orders 116 = .ok (.invokestatic 405, 3) := by decide +kernel
theorem dX12_orders_119 : decode cX12_orders 119 = .ok (.iload_n 2, 1) := by decide +kernel
theorem dX12_orders_120 : decode cX12_orders 120 = .ok (.iconst 1, 1) := by decide +kernel
theorem dX12_orders_121 : decode cX12_orders 121 = .ok (.isub, 1) := by decide +kernel
theorem dX12_orders_122 : decode cX12_orders 122 = .ok (.iload 6, 2) := by decide +kernel
theorem dX12_orders_124 : decode cX12_orders 124 = .ok (.isub, 1) := by decide +kernel
theorem dX12_orders_125 : decode cX12_orders 125 = .ok (.invokestatic 405, 3) := by decide +kernel
theorem dX12_orders_128 : decode cX12_orders 128 = .ok (.imul, 1) := by decide +kernel
theorem dX12_orders_129 : decode cX12_orders 129 = .ok (.iadd, 1) := by decide +kernel
theorem dX12_orders_130 : decode cX12_orders 130 = .ok (.istore 4, 2) := by decide +kernel
theorem dX12_orders_132 : decode cX12_orders 132 = .ok (.iinc 5 1, 3) := by decide +kernel
theorem dX12_orders_135 : decode cX12_orders 135 = .ok (.goto (-129), 3) := by decide +kernel
theorem dX12_orders_138 : decode cX12_orders 138 = .ok (.iload 4, 2) := by decide +kernel
theorem dX12_orders_140 : decode cX12_orders 140 = .ok (.ireturn, 1) := by decide +kernel
theorem dX12_divisor_0 : decode cX12_divisor 0 = .ok (.iload_n 0, 1) := by decide +kernel
theorem dX12_divisor_1 : decode cX12_divisor 1 = .ok (.istore_n 2, 1) := by decide +kernel
theorem dX12_divisor_2 : decode cX12_divisor 2 = .ok (.iload_n 1, 1) := by decide +kernel
theorem dX12_divisor_3 : decode cX12_divisor 3 = .ok (.istore_n 3, 1) := by decide +kernel
theorem dX12_divisor_4 : decode cX12_divisor 4 = .ok (.iload_n 3, 1) := by decide +kernel
theorem dX12_divisor_5 : decode cX12_divisor 5 = .ok (.ifCond .eq 16, 3) := by decide +kernel
theorem dX12_divisor_8 : decode cX12_divisor 8 = .ok (.iload_n 2, 1) := by decide +kernel
theorem dX12_divisor_9 : decode cX12_divisor 9 = .ok (.iload_n 3, 1) := by decide +kernel
theorem dX12_divisor_10 : decode cX12_divisor 10 = .ok (.irem, 1) := by decide +kernel
theorem dX12_divisor_11 : decode cX12_divisor 11 = .ok (.istore 4, 2) := by decide +kernel
theorem dX12_divisor_13 : decode cX12_divisor 13 = .ok (.iload_n 3, 1) := by decide +kernel
theorem dX12_divisor_14 : decode cX12_divisor 14 = .ok (.istore_n 2, 1) := by decide +kernel
theorem dX12_divisor_15 : decode cX12_divisor 15 = .ok (.iload 4, 2) := by decide +kernel
theorem dX12_divisor_17 : decode cX12_divisor 17 = .ok (.istore_n 3, 1) := by decide +kernel
theorem dX12_divisor_18 : decode cX12_divisor 18 = .ok (.goto (-14), 3) := by decide +kernel
theorem dX12_divisor_21 : decode cX12_divisor 21 = .ok (.iload_n 2, 1) := by decide +kernel
theorem dX12_divisor_22 : decode cX12_divisor 22 = .ok (.ireturn, 1) := by decide +kernel
theorem dX12_chance_0 : decode cX12_chance 0 = .ok (.aload_n 0, 1) := by decide +kernel
theorem dX12_chance_1 : decode cX12_chance 1 = .ok (.iload_n 1, 1) := by decide +kernel
theorem dX12_chance_2 : decode cX12_chance 2 = .ok (.invokevirtual 327, 3) := by decide +kernel
theorem dX12_chance_5 : decode cX12_chance 5 = .ok (.ifCond .eq 22, 3) := by decide +kernel
theorem dX12_chance_8 : decode cX12_chance 8 = .ok (.aload_n 0, 1) := by decide +kernel
theorem dX12_chance_9 : decode cX12_chance 9 = .ok (.iload_n 2, 1) := by decide +kernel
theorem dX12_chance_10 : decode cX12_chance 10 = .ok (.i2l, 1) := by decide +kernel
theorem dX12_chance_11 : decode cX12_chance 11 = .ok (.invokevirtual 102, 3) := by decide +kernel
theorem dX12_chance_14 : decode cX12_chance 14 = .ok (.ifCond .eq 13, 3) := by decide +kernel
theorem dX12_chance_17 : decode cX12_chance 17 = .ok (.iload_n 3, 1) := by decide +kernel
theorem dX12_chance_18 : decode cX12_chance 18 = .ok (.i2l, 1) := by decide +kernel
theorem dX12_chance_19 : decode cX12_chance 19 = .ok (.lconst 0, 1) := by decide +kernel
theorem dX12_chance_20 : decode cX12_chance 20 = .ok (.lconst 1, 1) := by decide +kernel
theorem dX12_chance_21 : decode cX12_chance 21 = .ok (.invokestatic 94, 3) := by decide +kernel
theorem dX12_chance_24 : decode cX12_chance 24 = .ok (.ifCond .ne 6, 3) := by decide +kernel
theorem dX12_chance_27 : decode cX12_chance 27 = .ok (.bipush (-2), 2) := by decide +kernel
theorem dX12_chance_29 : decode cX12_chance 29 = .ok (.ireturn, 1) := by decide +kernel
theorem dX12_chance_30 : decode cX12_chance 30 = .ok (.aload_n 0, 1) := by decide +kernel
theorem dX12_chance_31 : decode cX12_chance 31 = .ok (.iload_n 1, 1) := by decide +kernel
theorem dX12_chance_32 : decode cX12_chance 32 = .ok (.iconst 0, 1) := by decide +kernel
theorem dX12_chance_33 : decode cX12_chance 33 = .ok (.invokevirtual 260, 3) := by decide +kernel
theorem dX12_chance_36 : decode cX12_chance 36 = .ok (.istore 4, 2) := by decide +kernel
theorem dX12_chance_38 : decode cX12_chance 38 = .ok (.aload_n 0, 1) := by decide +kernel
theorem dX12_chance_39 : decode cX12_chance 39 = .ok (.iload_n 1, 1) := by decide +kernel
theorem dX12_chance_40 : decode cX12_chance 40 = .ok (.iload 4, 2) := by decide +kernel
theorem dX12_chance_42 : decode cX12_chance 42 = .ok (.iload_n 2, 1) := by decide +kernel
theorem dX12_chance_43 : decode cX12_chance 43 = .ok (.invokevirtual 266, 3) := by decide +kernel
theorem dX12_chance_46 : decode cX12_chance 46 = .ok (.ifCond .ne 5, 3) := by decide +kernel
theorem dX12_chance_49 : decode cX12_chance 49 = .ok (.iload_n 3, 1) := by decide +kernel
theorem dX12_chance_50 : decode cX12_chance 50 = .ok (.ireturn, 1) := by decide +kernel
theorem dX12_chance_51 : decode cX12_chance 51 = .ok (.aload_n 0, 1) := by decide +kernel
theorem dX12_chance_52 : decode cX12_chance 52 = .ok (.lconst 1, 1) := by decide +kernel
theorem dX12_chance_53 : decode cX12_chance 53 = .ok (.invokevirtual 311, 3) := by decide +kernel
theorem dX12_chance_56 : decode cX12_chance 56 = .ok (.aload_n 0, 1) := by decide +kernel
theorem dX12_chance_57 : decode cX12_chance 57 = .ok (.getfield 37, 3) := by decide +kernel
theorem dX12_chance_60 : decode cX12_chance 60 = .ok (.iload 4, 2) := by decide +kernel
theorem dX12_chance_62 : decode cX12_chance 62 = .ok (.iload_n 2, 1) := by decide +kernel
theorem dX12_chance_63 : decode cX12_chance 63 = .ok (.invokestatic 105, 3) := by decide +kernel
theorem dX12_chance_66 : decode cX12_chance 66 = .ok (.iaload, 1) := by decide +kernel
theorem dX12_chance_67 : decode cX12_chance 67 = .ok (.istore 5, 2) := by decide +kernel
theorem dX12_chance_69 : decode cX12_chance 69 = .ok (.aload_n 0, 1) := by decide +kernel
theorem dX12_chance_70 : decode cX12_chance 70 = .ok (.iload 4, 2) := by decide +kernel
theorem dX12_chance_72 : decode cX12_chance 72 = .ok (.iload_n 2, 1) := by decide +kernel
theorem dX12_chance_73 : decode cX12_chance 73 = .ok (.iconst 0, 1) := by decide +kernel
theorem dX12_chance_74 : decode cX12_chance 74 = .ok (.invokevirtual 294, 3) := by decide +kernel
theorem dX12_chance_77 : decode cX12_chance 77 = .ok (.istore 6, 2) := by decide +kernel
theorem dX12_chance_79 : decode cX12_chance 79 = .ok (.aload_n 0, 1) := by decide +kernel
theorem dX12_chance_80 : decode cX12_chance 80 = .ok (.iload 4, 2) := by decide +kernel
theorem dX12_chance_82 : decode cX12_chance 82 = .ok (.iload_n 2, 1) := by decide +kernel
theorem dX12_chance_83 : decode cX12_chance 83 = .ok (.invokevirtual 288, 3) := by decide +kernel
theorem dX12_chance_86 : decode cX12_chance 86 = .ok (.iload 5, 2) := by decide +kernel
theorem dX12_chance_88 : decode cX12_chance 88 = .ok (.if_icmp .gt 11, 3) := by decide +kernel
theorem dX12_chance_91 : decode cX12_chance 91 = .ok (.iload 6, 2) := by decide +kernel
theorem dX12_chance_93 : decode cX12_chance 93 = .ok (.invokestatic 405, 3) := by decide +kernel
theorem dX12_chance_96 : decode cX12_chance 96 = .ok (.goto 12, 3) := by decide +kernel
theorem dX12_chance_99 : decode cX12_chance 99 = .ok (.aload_n 0, 1) := by decide +kernel
theorem dX12_chance_100 : decode cX12_chance 100 = .ok (.iload_n 1, 1) := by decide +kernel
theorem dX12_chance_101 : decode cX12_chance 101 = .ok (.iload 6, 2) := by decide +kernel
theorem dX12_chance_103 : decode cX12_chance 103 = .ok (.iload 5, 2) := by decide +kernel
theorem dX12_chance_105 : decode cX12_chance 105 = .ok (.invokevirtual 408, 3) := by decide +kernel
theorem dX12_chance_108 : decode cX12_chance 108 = .ok (.istore 7, 2) := by decide +kernel
theorem dX12_chance_110 : decode cX12_chance 110 = .ok (.iload 7, 2) := by decide +kernel
theorem dX12_chance_112 : decode cX12_chance 112 = .ok (.iload 6, 2) := by decide +kernel
theorem dX12_chance_114 : decode cX12_chance 114 = .ok (.invokestatic 405, 3) := by decide +kernel
theorem dX12_chance_117 : decode cX12_chance 117 = .ok (.invokestatic 411, 3) := by decide +kernel
theorem dX12_chance_120 : decode cX12_chance 120 = .ok (.istore 8, 2) := by decide +kernel
theorem dX12_chance_122 : decode cX12_chance 122 = .ok (.iload_n 3, 1) := by decide +kernel
theorem dX12_chance_123 : decode cX12_chance 123 = .ok (.ifCond .ne 8, 3) := by decide +kernel
theorem dX12_chance_126 : decode cX12_chance 126 = .ok (.iload 7, 2) := by decide +kernel
theorem dX12_chance_128 : decode cX12_chance 128 = .ok (.goto 8, 3) := by decide +kernel
theorem dX12_chance_131 : decode cX12_chance 131 = .ok (.iload 6, 2) := by decide +kernel
theorem dX12_chance_133 : decode cX12_chance 133 = .ok (.invokestatic 405, 3) := by decide +kernel
theorem dX12_chance_136 : decode cX12_chance 136 = .ok (.iload 8, 2) := by decide +kernel
theorem dX12_chance_138 : decode cX12_chance 138 = .ok (.idiv, 1) := by decide +kernel
theorem dX12_chance_139 : decode cX12_chance 139 = .ok (.ireturn, 1) := by decide +kernel
theorem dX12_isSeed_0 : decode cX12_isSeed 0 = .ok (.iload_n 0, 1) := by decide +kernel
theorem dX12_isSeed_1 : decode cX12_isSeed 1 = .ok (.i2l, 1) := by decide +kernel
theorem dX12_isSeed_2 : decode cX12_isSeed 2 = .ok (.lconst 0, 1) := by decide +kernel
theorem dX12_isSeed_3 : decode cX12_isSeed 3 = .ok (.ldc2_w 414, 3) := by decide +kernel
theorem dX12_isSeed_6 : decode cX12_isSeed 6 = .ok (.invokestatic 94, 3) := by decide +kernel
theorem dX12_isSeed_9 : decode cX12_isSeed 9 = .ok (.ireturn, 1) := by decide +kernel
theorem dX12_lots_0 : decode cX12_lots 0 = .ok (.iload_n 1, 1) := by decide +kernel
theorem dX12_lots_1 : decode cX12_lots 1 = .ok (.invokestatic 416, 3) := by decide +kernel
theorem dX12_lots_4 : decode cX12_lots 4 = .ok (.ifCond .eq 11, 3) := by decide +kernel
theorem dX12_lots_7 : decode cX12_lots 7 = .ok (.aload_n 0, 1) := by decide +kernel
theorem dX12_lots_8 : decode cX12_lots 8 = .ok (.iload_n 2, 1) := by decide +kernel
theorem dX12_lots_9 : decode cX12_lots 9 = .ok (.invokevirtual 327, 3) := by decide +kernel
theorem dX12_lots_12 : decode cX12_lots 12 = .ok (.ifCond .ne 6, 3) := by decide +kernel
theorem dX12_lots_15 : decode cX12_lots 15 = .ok (.bipush (-2), 2) := by decide +kernel
theorem dX12_lots_17 : decode cX12_lots 17 = .ok (.ireturn, 1) := by decide +kernel
theorem dX12_lots_18 : decode cX12_lots 18 = .ok (.aload_n 0, 1) := by decide +kernel
theorem dX12_lots_19 : decode cX12_lots 19 = .ok (.iload_n 1, 1) := by decide +kernel
theorem dX12_lots_20 : decode cX12_lots 20 = .ok (.i2l, 1) := by decide +kernel
theorem dX12_lots_21 : decode cX12_lots 21 = .ok (.invokevirtual 311, 3) := by decide +kernel
theorem dX12_lots_24 : decode cX12_lots 24 = .ok (.aload_n 0, 1) := by decide +kernel
theorem dX12_lots_25 : decode cX12_lots 25 = .ok (.getfield 61, 3) := by decide +kernel
theorem dX12_lots_28 : decode cX12_lots 28 = .ok (.iload_n 2, 1) := by decide +kernel
theorem dX12_lots_29 : decode cX12_lots 29 = .ok (.iaload, 1) := by decide +kernel
theorem dX12_lots_30 : decode cX12_lots 30 = .ok (.ireturn, 1) := by decide +kernel
theorem dX12_years_0 : decode cX12_years 0 = .ok (.iload_n 1, 1) := by decide +kernel
theorem dX12_years_1 : decode cX12_years 1 = .ok (.invokestatic 416, 3) := by decide +kernel
theorem dX12_years_4 : decode cX12_years 4 = .ok (.ifCond .eq 23, 3) := by decide +kernel
theorem dX12_years_7 : decode cX12_years 7 = .ok (.iload_n 2, 1) := by decide +kernel
theorem dX12_years_8 : decode cX12_years 8 = .ok (.i2l, 1) := by decide +kernel
theorem dX12_years_9 : decode cX12_years 9 = .ok (.lconst 1, 1) := by decide +kernel
theorem dX12_years_10 : decode cX12_years 10 = .ok (.ldc2_w 419, 3) := by decide +kernel
theorem dX12_years_13 : decode cX12_years 13 = .ok (.invokestatic 94, 3) := by decide +kernel
theorem dX12_years_16 : decode cX12_years 16 = .ok (.ifCond .eq 11, 3) := by decide +kernel
theorem dX12_years_19 : decode cX12_years 19 = .ok (.aload_n 0, 1) := by decide +kernel
theorem dX12_years_20 : decode cX12_years 20 = .ok (.iload_n 3, 1) := by decide +kernel
theorem dX12_years_21 : decode cX12_years 21 = .ok (.invokevirtual 327, 3) := by decide +kernel
theorem dX12_years_24 : decode cX12_years 24 = .ok (.ifCond .ne 6, 3) := by decide +kernel
theorem dX12_years_27 : decode cX12_years 27 = .ok (.bipush (-2), 2) := by decide +kernel
theorem dX12_years_29 : decode cX12_years 29 = .ok (.ireturn, 1) := by decide +kernel
theorem dX12_years_30 : decode cX12_years 30 = .ok (.iconst 0, 1) := by decide +kernel
theorem dX12_years_31 : decode cX12_years 31 = .ok (.istore 4, 2) := by decide +kernel
theorem dX12_years_33 : decode cX12_years 33 = .ok (.iconst 0, 1) := by decide +kernel
theorem dX12_years_34 : decode cX12_years 34 = .ok (.istore 5, 2) := by decide +kernel
theorem dX12_years_36 : decode cX12_years 36 = .ok (.iload 5, 2) := by decide +kernel
theorem dX12_years_38 : decode cX12_years 38 = .ok (.iload_n 2, 1) := by decide +kernel
theorem dX12_years_39 : decode cX12_years 39 = .ok (.if_icmp .ge 30, 3) := by decide +kernel
theorem dX12_years_42 : decode cX12_years 42 = .ok (.aload_n 0, 1) := by decide +kernel
theorem dX12_years_43 : decode cX12_years 43 = .ok (.iload_n 1, 1) := by decide +kernel
theorem dX12_years_44 : decode cX12_years 44 = .ok (.i2l, 1) := by decide +kernel
theorem dX12_years_45 : decode cX12_years 45 = .ok (.iload 5, 2) := by decide +kernel
theorem dX12_years_47 : decode cX12_years 47 = .ok (.i2l, 1) := by decide +kernel
theorem dX12_years_48 : decode cX12_years 48 = .ok (.ladd, 1) := by decide +kernel
theorem dX12_years_49 : decode cX12_years 49 = .ok (.invokevirtual 311, 3) := by decide +kernel
theorem dX12_years_52 : decode cX12_years 52 = .ok (.iload 4, 2) := by decide +kernel
theorem dX12_years_54 : decode cX12_years 54 = .ok (.aload_n 0, 1) := by decide +kernel
theorem dX12_years_55 : decode cX12_years 55 = .ok (.getfield 61, 3) := by decide +kernel
theorem dX12_years_58 : decode cX12_years 58 = .ok (.iload_n 3, 1) := by decide +kernel
theorem dX12_years_59 : decode cX12_years 59 = .ok (.iaload, 1) := by decide +kernel
theorem dX12_years_60 : decode cX12_years 60 = .ok (.iadd, 1) := by decide +kernel
theorem dX12_years_61 : decode cX12_years 61 = .ok (.istore 4, 2) := by decide +kernel
theorem dX12_years_63 : decode cX12_years 63 = .ok (.iinc 5 1, 3) := by decide +kernel
theorem dX12_years_66 : decode cX12_years 66 = .ok (.goto (-30), 3) := by decide +kernel
theorem dX12_years_69 : decode cX12_years 69 = .ok (.iload 4, 2) := by decide +kernel
theorem dX12_years_71 : decode cX12_years 71 = .ok (.ireturn, 1) := by decide +kernel
theorem dX12_count_0 : decode cX12_count 0 = .ok (.iconst 0, 1) := by decide +kernel
theorem dX12_count_1 : decode cX12_count 1 = .ok (.istore_n 2, 1) := by decide +kernel
theorem dX12_count_2 : decode cX12_count 2 = .ok (.iload_n 1, 1) := by decide +kernel
theorem dX12_count_3 : decode cX12_count 3 = .ok (.tableswitch 134 0 8 #[49, 56, 63, 70, 77, 84, 89, 96, 101], 49) := by decide +kernel
theorem dX12_count_52 : decode cX12_count 52 = .ok (.aload_n 0, 1) := by decide +kernel
theorem dX12_count_53 : decode cX12_count 53 = .ok (.getfield 9, 3) := by decide +kernel
theorem dX12_count_56 : decode cX12_count 56 = .ok (.iconst 0, 1) := by decide +kernel
theorem dX12_count_57 : decode cX12_count 57 = .ok (.iaload, 1) := by decide +kernel
theorem dX12_count_58 : decode cX12_count 58 = .ok (.ireturn, 1) := by decide +kernel
theorem dX12_count_59 : decode cX12_count 59 = .ok (.aload_n 0, 1) := by decide +kernel
theorem dX12_count_60 : decode cX12_count 60 = .ok (.getfield 9, 3) := by decide +kernel
theorem dX12_count_63 : decode cX12_count 63 = .ok (.iconst 1, 1) := by decide +kernel
theorem dX12_count_64 : decode cX12_count 64 = .ok (.iaload, 1) := by decide +kernel
theorem dX12_count_65 : decode cX12_count 65 = .ok (.ireturn, 1) := by decide +kernel
theorem dX12_count_66 : decode cX12_count 66 = .ok (.aload_n 0, 1) := by decide +kernel
theorem dX12_count_67 : decode cX12_count 67 = .ok (.getfield 9, 3) := by decide +kernel
theorem dX12_count_70 : decode cX12_count 70 = .ok (.iconst 2, 1) := by decide +kernel
theorem dX12_count_71 : decode cX12_count 71 = .ok (.iaload, 1) := by decide +kernel
theorem dX12_count_72 : decode cX12_count 72 = .ok (.ireturn, 1) := by decide +kernel
theorem dX12_count_73 : decode cX12_count 73 = .ok (.aload_n 0, 1) := by decide +kernel
theorem dX12_count_74 : decode cX12_count 74 = .ok (.getfield 9, 3) := by decide +kernel
theorem dX12_count_77 : decode cX12_count 77 = .ok (.iconst 3, 1) := by decide +kernel
theorem dX12_count_78 : decode cX12_count 78 = .ok (.iaload, 1) := by decide +kernel
theorem dX12_count_79 : decode cX12_count 79 = .ok (.ireturn, 1) := by decide +kernel
theorem dX12_count_80 : decode cX12_count 80 = .ok (.aload_n 0, 1) := by decide +kernel
theorem dX12_count_81 : decode cX12_count 81 = .ok (.getfield 9, 3) := by decide +kernel
theorem dX12_count_84 : decode cX12_count 84 = .ok (.iconst 4, 1) := by decide +kernel
theorem dX12_count_85 : decode cX12_count 85 = .ok (.iaload, 1) := by decide +kernel
theorem dX12_count_86 : decode cX12_count 86 = .ok (.ireturn, 1) := by decide +kernel
theorem dX12_count_87 : decode cX12_count 87 = .ok (.aload_n 0, 1) := by decide +kernel
theorem dX12_count_88 : decode cX12_count 88 = .ok (.getfield 112, 3) := by decide +kernel
theorem dX12_count_91 : decode cX12_count 91 = .ok (.ireturn, 1) := by decide +kernel
theorem dX12_count_92 : decode cX12_count 92 = .ok (.aload_n 0, 1) := by decide +kernel
theorem dX12_count_93 : decode cX12_count 93 = .ok (.getfield 9, 3) := by decide +kernel
theorem dX12_count_96 : decode cX12_count 96 = .ok (.iconst 5, 1) := by decide +kernel
theorem dX12_count_97 : decode cX12_count 97 = .ok (.iaload, 1) := by decide +kernel
theorem dX12_count_98 : decode cX12_count 98 = .ok (.ireturn, 1) := by decide +kernel
theorem dX12_count_99 : decode cX12_count 99 = .ok (.aload_n 0, 1) := by decide +kernel
theorem dX12_count_100 : decode cX12_count 100 = .ok (.invokevirtual 367, 3) := by decide +kernel
theorem dX12_count_103 : decode cX12_count 103 = .ok (.ireturn, 1) := by decide +kernel
theorem dX12_count_104 : decode cX12_count 104 = .ok (.iconst 0, 1) := by decide +kernel
theorem dX12_count_105 : decode cX12_count 105 = .ok (.istore_n 3, 1) := by decide +kernel
theorem dX12_count_106 : decode cX12_count 106 = .ok (.iload_n 3, 1) := by decide +kernel
theorem dX12_count_107 : decode cX12_count 107 = .ok (.iconst 4, 1) := by decide +kernel
theorem dX12_count_108 : decode cX12_count 108 = .ok (.if_icmp .ge 27, 3) := by decide +kernel
theorem dX12_count_111 : decode cX12_count 111 = .ok (.iload_n 2, 1) := by decide +kernel
theorem dX12_count_112 : decode cX12_count 112 = .ok (.aload_n 0, 1) := by decide +kernel
theorem dX12_count_113 : decode cX12_count 113 = .ok (.getfield 76, 3) := by decide +kernel
theorem dX12_count_116 : decode cX12_count 116 = .ok (.iload_n 3, 1) := by decide +kernel
theorem dX12_count_117 : decode cX12_count 117 = .ok (.iaload, 1) := by decide +kernel
theorem dX12_count_118 : decode cX12_count 118 = .ok (.iconst (-1), 1) := by decide +kernel
theorem dX12_count_119 : decode cX12_count 119 = .ok (.if_icmp .ne 7, 3) := by decide +kernel
theorem dX12_count_122 : decode cX12_count 122 = .ok (.iconst 0, 1) := by decide +kernel
theorem dX12_count_123 : decode cX12_count 123 = .ok (.goto 4, 3) := by decide +kernel
theorem dX12_count_126 : decode cX12_count 126 = .ok (.iconst 1, 1) := by decide +kernel
theorem dX12_count_127 : decode cX12_count 127 = .ok (.iadd, 1) := by decide +kernel
theorem dX12_count_128 : decode cX12_count 128 = .ok (.istore_n 2, 1) := by decide +kernel
theorem dX12_count_129 : decode cX12_count 129 = .ok (.iinc 3 1, 3) := by decide +kernel
theorem dX12_count_132 : decode cX12_count 132 = .ok (.goto (-26), 3) := by decide +kernel
theorem dX12_count_135 : decode cX12_count 135 = .ok (.iload_n 2, 1) := by decide +kernel
theorem dX12_count_136 : decode cX12_count 136 = .ok (.ireturn, 1) := by decide +kernel
theorem dX12_count_137 : decode cX12_count 137 = .ok (.iconst (-1), 1) := by decide +kernel
theorem dX12_count_138 : decode cX12_count 138 = .ok (.ireturn, 1) := by decide +kernel
theorem dX12_cut_0 : decode cX12_cut 0 = .ok (.bipush 64, 2) := by decide +kernel
theorem dX12_cut_2 : decode cX12_cut 2 = .ok (.bipush 8, 2) := by decide +kernel
theorem dX12_cut_4 : decode cX12_cut 4 = .ok (.iload_n 2, 1) := by decide +kernel
theorem dX12_cut_5 : decode cX12_cut 5 = .ok (.ishl, 1) := by decide +kernel
theorem dX12_cut_6 : decode cX12_cut 6 = .ok (.isub, 1) := by decide +kernel
theorem dX12_cut_7 : decode cX12_cut 7 = .ok (.istore_n 3, 1) := by decide +kernel
theorem dX12_cut_8 : decode cX12_cut 8 = .ok (.lload_n 0, 1) := by decide +kernel
theorem dX12_cut_9 : decode cX12_cut 9 = .ok (.iload_n 3, 1) := by decide +kernel
theorem dX12_cut_10 : decode cX12_cut 10 = .ok (.lshl, 1) := by decide +kernel
theorem dX12_cut_11 : decode cX12_cut 11 = .ok (.iload_n 3, 1) := by decide +kernel
theorem dX12_cut_12 : decode cX12_cut 12 = .ok (.lshr, 1) := by decide +kernel
theorem dX12_cut_13 : decode cX12_cut 13 = .ok (.lreturn, 1) := by decide +kernel
theorem dX12_row_0 : decode cX12_row 0 = .ok (.iload_n 1, 1) := by decide +kernel
theorem dX12_row_1 : decode cX12_row 1 = .ok (.invokestatic 380, 3) := by decide +kernel
theorem dX12_row_4 : decode cX12_row 4 = .ok (.ifCond .eq 21, 3) := by decide +kernel
theorem dX12_row_7 : decode cX12_row 7 = .ok (.iload_n 2, 1) := by decide +kernel
theorem dX12_row_8 : decode cX12_row 8 = .ok (.i2l, 1) := by decide +kernel
theorem dX12_row_9 : decode cX12_row 9 = .ok (.lconst 0, 1) := by decide +kernel
theorem dX12_row_10 : decode cX12_row 10 = .ok (.ldc2_w 333, 3) := by decide +kernel
theorem dX12_row_13 : decode cX12_row 13 = .ok (.invokestatic 94, 3) := by decide +kernel
theorem dX12_row_16 : decode cX12_row 16 = .ok (.ifCond .eq 9, 3) := by decide +kernel
theorem dX12_row_19 : decode cX12_row 19 = .ok (.iload_n 3, 1) := by decide +kernel
theorem dX12_row_20 : decode cX12_row 20 = .ok (.bipush 60, 2) := by decide +kernel
theorem dX12_row_22 : decode cX12_row 22 = .ok (.if_icmp .le 6, 3) := by decide +kernel
theorem dX12_row_25 : decode cX12_row 25 = .ok (.bipush (-2), 2) := by decide +kernel
theorem dX12_row_27 : decode cX12_row 27 = .ok (.ireturn, 1) := by decide +kernel
theorem dX12_row_28 : decode cX12_row 28 = .ok (.iload_n 3, 1) := by decide +kernel
theorem dX12_row_29 : decode cX12_row 29 = .ok (.ifCond .ge 6, 3) := by decide +kernel
theorem dX12_row_32 : decode cX12_row 32 = .ok (.bipush (-3), 2) := by decide +kernel
theorem dX12_row_34 : decode cX12_row 34 = .ok (.ireturn, 1) := by decide +kernel
theorem dX12_row_35 : decode cX12_row 35 = .ok (.aload_n 0, 1) := by decide +kernel
theorem dX12_row_36 : decode cX12_row 36 = .ok (.getfield 76, 3) := by decide +kernel
theorem dX12_row_39 : decode cX12_row 39 = .ok (.iload_n 1, 1) := by decide +kernel
theorem dX12_row_40 : decode cX12_row 40 = .ok (.iload_n 3, 1) := by decide +kernel
theorem dX12_row_41 : decode cX12_row 41 = .ok (.iastore, 1) := by decide +kernel
theorem dX12_row_42 : decode cX12_row 42 = .ok (.aload_n 0, 1) := by decide +kernel
theorem dX12_row_43 : decode cX12_row 43 = .ok (.getfield 79, 3) := by decide +kernel
theorem dX12_row_46 : decode cX12_row 46 = .ok (.iload_n 1, 1) := by decide +kernel
theorem dX12_row_47 : decode cX12_row 47 = .ok (.iload_n 2, 1) := by decide +kernel
theorem dX12_row_48 : decode cX12_row 48 = .ok (.iastore, 1) := by decide +kernel
theorem dX12_row_49 : decode cX12_row 49 = .ok (.iconst 0, 1) := by decide +kernel
theorem dX12_row_50 : decode cX12_row 50 = .ok (.istore 4, 2) := by decide +kernel
theorem dX12_row_52 : decode cX12_row 52 = .ok (.iload 4, 2) := by decide +kernel
theorem dX12_row_54 : decode cX12_row 54 = .ok (.bipush 60, 2) := by decide +kernel
theorem dX12_row_56 : decode cX12_row 56 = .ok (.if_icmp .ge 22, 3) := by decide +kernel
theorem dX12_row_59 : decode cX12_row 59 = .ok (.aload_n 0, 1) := by decide +kernel
theorem dX12_row_60 : decode cX12_row 60 = .ok (.getfield 82, 3) := by decide +kernel
theorem dX12_row_63 : decode cX12_row 63 = .ok (.bipush 60, 2) := by decide +kernel
theorem dX12_row_65 : decode cX12_row 65 = .ok (.iload_n 1, 1) := by decide +kernel
theorem dX12_row_66 : decode cX12_row 66 = .ok (.imul, 1) := by decide +kernel
theorem dX12_row_67 : decode cX12_row 67 = .ok (.iload 4, 2) := by decide +kernel
theorem dX12_row_69 : decode cX12_row 69 = .ok (.iadd, 1) := by decide +kernel
theorem dX12_row_70 : decode cX12_row 70 = .ok (.lconst 0, 1) := by decide +kernel
theorem dX12_row_71 : decode cX12_row 71 = .ok (.lastore, 1) := by decide +kernel
theorem dX12_row_72 : decode cX12_row 72 = .ok (.iinc 4 1, 3) := by decide +kernel
theorem dX12_row_75 : decode cX12_row 75 = .ok (.goto (-23), 3) := by decide +kernel
theorem dX12_row_78 : decode cX12_row 78 = .ok (.iconst 0, 1) := by decide +kernel
theorem dX12_row_79 : decode cX12_row 79 = .ok (.ireturn, 1) := by decide +kernel
theorem dX12_write_0 : decode cX12_write 0 = .ok (.iload_n 1, 1) := by decide +kernel
theorem dX12_write_1 : decode cX12_write 1 = .ok (.invokestatic 380, 3) := by decide +kernel
theorem dX12_write_4 : decode cX12_write 4 = .ok (.ifCond .ne 6, 3) := by decide +kernel
theorem dX12_write_7 : decode cX12_write 7 = .ok (.bipush (-2), 2) := by decide +kernel
theorem dX12_write_9 : decode cX12_write 9 = .ok (.ireturn, 1) := by decide +kernel
theorem dX12_write_10 : decode cX12_write 10 = .ok (.aload_n 0, 1) := by decide +kernel
theorem dX12_write_11 : decode cX12_write 11 = .ok (.getfield 76, 3) := by decide +kernel
theorem dX12_write_14 : decode cX12_write 14 = .ok (.iload_n 1, 1) := by decide +kernel
theorem dX12_write_15 : decode cX12_write 15 = .ok (.iaload, 1) := by decide +kernel
theorem dX12_write_16 : decode cX12_write 16 = .ok (.iconst (-1), 1) := by decide +kernel
theorem dX12_write_17 : decode cX12_write 17 = .ok (.if_icmp .ne 6, 3) := by decide +kernel
theorem dX12_write_20 : decode cX12_write 20 = .ok (.bipush (-6), 2) := by decide +kernel
theorem dX12_write_22 : decode cX12_write 22 = .ok (.ireturn, 1) := by decide +kernel
theorem dX12_write_23 : decode cX12_write 23 = .ok (.iload_n 2, 1) := by decide +kernel
theorem dX12_write_24 : decode cX12_write 24 = .ok (.i2l, 1) := by decide +kernel
theorem dX12_write_25 : decode cX12_write 25 = .ok (.lconst 0, 1) := by decide +kernel
theorem dX12_write_26 : decode cX12_write 26 = .ok (.aload_n 0, 1) := by decide +kernel
theorem dX12_write_27 : decode cX12_write 27 = .ok (.getfield 76, 3) := by decide +kernel
theorem dX12_write_30 : decode cX12_write 30 = .ok (.iload_n 1, 1) := by decide +kernel
theorem dX12_write_31 : decode cX12_write 31 = .ok (.iaload, 1) := by decide +kernel
theorem dX12_write_32 : decode cX12_write 32 = .ok (.iconst 1, 1) := by decide +kernel
theorem dX12_write_33 : decode cX12_write 33 = .ok (.isub, 1) := by decide +kernel
theorem dX12_write_34 : decode cX12_write 34 = .ok (.i2l, 1) := by decide +kernel
theorem dX12_write_35 : decode cX12_write 35 = .ok (.invokestatic 94, 3) := by decide +kernel
theorem dX12_write_38 : decode cX12_write 38 = .ok (.ifCond .ne 6, 3) := by decide +kernel
theorem dX12_write_41 : decode cX12_write 41 = .ok (.bipush (-7), 2) := by decide +kernel
theorem dX12_write_43 : decode cX12_write 43 = .ok (.ireturn, 1) := by decide +kernel
theorem dX12_write_44 : decode cX12_write 44 = .ok (.aload_n 0, 1) := by decide +kernel
theorem dX12_write_45 : decode cX12_write 45 = .ok (.getfield 82, 3) := by decide +kernel
theorem dX12_write_48 : decode cX12_write 48 = .ok (.bipush 60, 2) := by decide +kernel
theorem dX12_write_50 : decode cX12_write 50 = .ok (.iload_n 1, 1) := by decide +kernel
theorem dX12_write_51 : decode cX12_write 51 = .ok (.imul, 1) := by decide +kernel
theorem dX12_write_52 : decode cX12_write 52 = .ok (.iload_n 2, 1) := by decide +kernel
theorem dX12_write_53 : decode cX12_write 53 = .ok (.iadd, 1) := by decide +kernel
theorem dX12_write_54 : decode cX12_write 54 = .ok (.lload_n 3, 1) := by decide +kernel
theorem dX12_write_55 : decode cX12_write 55 = .ok (.aload_n 0, 1) := by decide +kernel
theorem dX12_write_56 : decode cX12_write 56 = .ok (.getfield 79, 3) := by decide +kernel
theorem dX12_write_59 : decode cX12_write 59 = .ok (.iload_n 1, 1) := by decide +kernel
theorem dX12_write_60 : decode cX12_write 60 = .ok (.iaload, 1) := by decide +kernel
theorem dX12_write_61 : decode cX12_write 61 = .ok (.invokestatic 421, 3) := by decide +kernel
theorem dX12_write_64 : decode cX12_write 64 = .ok (.lastore, 1) := by decide +kernel
theorem dX12_write_65 : decode cX12_write 65 = .ok (.iconst 0, 1) := by decide +kernel
theorem dX12_write_66 : decode cX12_write 66 = .ok (.ireturn, 1) := by decide +kernel
theorem dX12_paste_0 : decode cX12_paste 0 = .ok (.iload_n 1, 1) := by decide +kernel
theorem dX12_paste_1 : decode cX12_paste 1 = .ok (.invokestatic 380, 3) := by decide +kernel
theorem dX12_paste_4 : decode cX12_paste 4 = .ok (.ifCond .eq 10, 3) := by decide +kernel
theorem dX12_paste_7 : decode cX12_paste 7 = .ok (.iload_n 3, 1) := by decide +kernel
theorem dX12_paste_8 : decode cX12_paste 8 = .ok (.invokestatic 380, 3) := by decide +kernel
theorem dX12_paste_11 : decode cX12_paste 11 = .ok (.ifCond .ne 6, 3) := by decide +kernel
theorem dX12_paste_14 : decode cX12_paste 14 = .ok (.bipush (-2), 2) := by decide +kernel
theorem dX12_paste_16 : decode cX12_paste 16 = .ok (.ireturn, 1) := by decide +kernel
theorem dX12_paste_17 : decode cX12_paste 17 = .ok (.aload_n 0, 1) := by decide +kernel
theorem dX12_paste_18 : decode cX12_paste 18 = .ok (.getfield 76, 3) := by decide +kernel
theorem dX12_paste_21 : decode cX12_paste 21 = .ok (.iload_n 1, 1) := by decide +kernel
theorem dX12_paste_22 : decode cX12_paste 22 = .ok (.iaload, 1) := by decide +kernel
theorem dX12_paste_23 : decode cX12_paste 23 = .ok (.iconst (-1), 1) := by decide +kernel
theorem dX12_paste_24 : decode cX12_paste 24 = .ok (.if_icmp .eq 13, 3) := by decide +kernel
theorem dX12_paste_27 : decode cX12_paste 27 = .ok (.aload_n 0, 1) := by decide +kernel
theorem dX12_paste_28 : decode cX12_paste 28 = .ok (.getfield 76, 3) := by decide +kernel
theorem dX12_paste_31 : decode cX12_paste 31 = .ok (.iload_n 3, 1) := by decide +kernel
theorem dX12_paste_32 : decode cX12_paste 32 = .ok (.iaload, 1) := by decide +kernel
theorem dX12_paste_33 : decode cX12_paste 33 = .ok (.iconst (-1), 1) := by decide +kernel
theorem dX12_paste_34 : decode cX12_paste 34 = .ok (.if_icmp .ne 6, 3) := by decide +kernel
theorem dX12_paste_37 : decode cX12_paste 37 = .ok (.bipush (-6), 2) := by decide +kernel
theorem dX12_paste_39 : decode cX12_paste 39 = .ok (.ireturn, 1) := by decide +kernel
theorem dX12_paste_40 : decode cX12_paste 40 = .ok (.aload_n 0, 1) := by decide +kernel
theorem dX12_paste_41 : decode cX12_paste 41 = .ok (.getfield 79, 3) := by decide +kernel
theorem dX12_paste_44 : decode cX12_paste 44 = .ok (.iload_n 1, 1) := by decide +kernel
theorem dX12_paste_45 : decode cX12_paste 45 = .ok (.iaload, 1) := by decide +kernel
theorem dX12_paste_46 : decode cX12_paste 46 = .ok (.aload_n 0, 1) := by decide +kernel
theorem dX12_paste_47 : decode cX12_paste 47 = .ok (.getfield 79, 3) := by decide +kernel
theorem dX12_paste_50 : decode cX12_paste 50 = .ok (.iload_n 3, 1) := by decide +kernel
theorem dX12_paste_51 : decode cX12_paste 51 = .ok (.iaload, 1) := by decide +kernel
theorem dX12_paste_52 : decode cX12_paste 52 = .ok (.if_icmp .eq 6, 3) := by decide +kernel
theorem dX12_paste_55 : decode cX12_paste 55 = .ok (.bipush (-8), 2) := by decide +kernel
theorem dX12_paste_57 : decode cX12_paste 57 = .ok (.ireturn, 1) := by decide +kernel
theorem dX12_paste_58 : decode cX12_paste 58 = .ok (.iload_n 2, 1) := by decide +kernel
theorem dX12_paste_59 : decode cX12_paste 59 = .ok (.ifCond .lt 48, 3) := by decide +kernel
theorem dX12_paste_62 : decode cX12_paste 62 = .ok (.iload 4, 2) := by decide +kernel
theorem dX12_paste_64 : decode cX12_paste 64 = .ok (.ifCond .lt 43, 3) := by decide +kernel
theorem dX12_paste_67 : decode cX12_paste 67 = .ok (.iload 5, 2) := by decide +kernel
theorem dX12_paste_69 : decode cX12_paste 69 = .ok (.ifCond .lt 38, 3) := by decide +kernel
theorem dX12_paste_72 : decode cX12_paste 72 = .ok (.iload_n 2, 1) := by decide +kernel
theorem dX12_paste_73 : decode cX12_paste 73 = .ok (.i2l, 1) := by decide +kernel
theorem dX12_paste_74 : decode cX12_paste 74 = .ok (.iload 5, 2) := by decide +kernel
theorem dX12_paste_76 : decode cX12_paste 76 = .ok (.i2l, 1) := by decide +kernel
theorem dX12_paste_77 : decode cX12_paste 77 = .ok (.ladd, 1) := by decide +kernel
theorem dX12_paste_78 : decode cX12_paste 78 = .ok (.aload_n 0, 1) := by decide +kernel
theorem dX12_paste_79 : decode cX12_paste 79 = .ok (.getfield 76, 3) := by decide +kernel
theorem dX12_paste_82 : decode cX12_paste 82 = .ok (.iload_n 1, 1) := by decide +kernel
theorem dX12_paste_83 : decode cX12_paste 83 = .ok (.iaload, 1) := by decide +kernel
theorem dX12_paste_84 : decode cX12_paste 84 = .ok (.i2l, 1) := by decide +kernel
theorem dX12_paste_85 : decode cX12_paste 85 = .ok (.lcmp, 1) := by decide +kernel
theorem dX12_paste_86 : decode cX12_paste 86 = .ok (.ifCond .gt 21, 3) := by decide +kernel
theorem dX12_paste_89 : decode cX12_paste 89 = .ok (.iload 4, 2) := by decide +kernel
theorem dX12_paste_91 : decode cX12_paste 91 = .ok (.i2l, 1) := by decide +kernel
theorem dX12_paste_92 : decode cX12_paste 92 = .ok (.iload 5, 2) := by decide +kernel
theorem dX12_paste_94 : decode cX12_paste 94 = .ok (.i2l, 1) := by decide +kernel
theorem dX12_paste_95 : decode cX12_paste 95 = .ok (.ladd, 1) := by decide +kernel
theorem dX12_paste_96 : decode cX12_paste 96 = .ok (.aload_n 0, 1) := by decide +kernel
theorem dX12_paste_97 : decode cX12_paste 97 = .ok (.getfield 76, 3) := by decide +kernel
theorem dX12_paste_100 : decode cX12_paste 100 = .ok (.iload_n 3, 1) := by decide +kernel
theorem dX12_paste_101 : decode cX12_paste 101 = .ok (.iaload, 1) := by decide +kernel
theorem dX12_paste_102 : decode cX12_paste 102 = .ok (.i2l, 1) := by decide +kernel
theorem dX12_paste_103 : decode cX12_paste 103 = .ok (.lcmp, 1) := by decide +kernel
theorem dX12_paste_104 : decode cX12_paste 104 = .ok (.ifCond .le 6, 3) := by decide +kernel
theorem dX12_paste_107 : decode cX12_paste 107 = .ok (.bipush (-7), 2) := by decide +kernel
theorem dX12_paste_109 : decode cX12_paste 109 = .ok (.ireturn, 1) := by decide +kernel
theorem dX12_paste_110 : decode cX12_paste 110 = .ok (.iconst 0, 1) := by decide +kernel
theorem dX12_paste_111 : decode cX12_paste 111 = .ok (.istore 6, 2) := by decide +kernel
theorem dX12_paste_113 : decode cX12_paste 113 = .ok (.iload 6, 2) := by decide +kernel
theorem dX12_paste_115 : decode cX12_paste 115 = .ok (.iload 5, 2) := by decide +kernel
theorem dX12_paste_117 : decode cX12_paste 117 = .ok (.if_icmp .ge 30, 3) := by decide +kernel
theorem dX12_paste_120 : decode cX12_paste 120 = .ok (.aload_n 0, 1) := by decide +kernel
theorem dX12_paste_121 : decode cX12_paste 121 = .ok (.getfield 86, 3) := by decide +kernel
theorem dX12_paste_124 : decode cX12_paste 124 = .ok (.iload 6, 2) := by decide +kernel
theorem dX12_paste_126 : decode cX12_paste 126 = .ok (.aload_n 0, 1) := by decide +kernel
theorem dX12_paste_127 : decode cX12_paste 127 = .ok (.getfield 82, 3) := by decide +kernel
theorem dX12_paste_130 : decode cX12_paste 130 = .ok (.bipush 60, 2) := by decide +kernel
theorem dX12_paste_132 : decode cX12_paste 132 = .ok (.iload_n 1, 1) := by decide +kernel
theorem dX12_paste_133 : decode cX12_paste 133 = .ok (.imul, 1) := by decide +kernel
theorem dX12_paste_134 : decode cX12_paste 134 = .ok (.iload_n 2, 1) := by decide +kernel
theorem dX12_paste_135 : decode cX12_paste 135 = .ok (.iadd, 1) := by decide +kernel
theorem dX12_paste_136 : decode cX12_paste 136 = .ok (.iload 6, 2) := by decide +kernel
theorem dX12_paste_138 : decode cX12_paste 138 = .ok (.iadd, 1) := by decide +kernel
theorem dX12_paste_139 : decode cX12_paste 139 = .ok (.laload, 1) := by decide +kernel
theorem dX12_paste_140 : decode cX12_paste 140 = .ok (.lastore, 1) := by decide +kernel
theorem dX12_paste_141 : decode cX12_paste 141 = .ok (.iinc 6 1, 3) := by decide +kernel
theorem dX12_paste_144 : decode cX12_paste 144 = .ok (.goto (-31), 3) := by decide +kernel
theorem dX12_paste_147 : decode cX12_paste 147 = .ok (.iconst 0, 1) := by decide +kernel
theorem dX12_paste_148 : decode cX12_paste 148 = .ok (.istore 6, 2) := by decide +kernel
theorem dX12_paste_150 : decode cX12_paste 150 = .ok (.iload 6, 2) := by decide +kernel
theorem dX12_paste_152 : decode cX12_paste 152 = .ok (.iload 5, 2) := by decide +kernel
theorem dX12_paste_154 : decode cX12_paste 154 = .ok (.if_icmp .ge 31, 3) := by decide +kernel
theorem dX12_paste_157 : decode cX12_paste 157 = .ok (.aload_n 0, 1) := by decide +kernel
theorem dX12_paste_158 : decode cX12_paste 158 = .ok (.getfield 82, 3) := by decide +kernel
theorem dX12_paste_161 : decode cX12_paste 161 = .ok (.bipush 60, 2) := by decide +kernel
theorem dX12_paste_163 : decode cX12_paste 163 = .ok (.iload_n 3, 1) := by decide +kernel
theorem dX12_paste_164 : decode cX12_paste 164 = .ok (.imul, 1) := by decide +kernel
theorem dX12_paste_165 : decode cX12_paste 165 = .ok (.iload 4, 2) := by decide +kernel
theorem dX12_paste_167 : decode cX12_paste 167 = .ok (.iadd, 1) := by decide +kernel
theorem dX12_paste_168 : decode cX12_paste 168 = .ok (.iload 6, 2) := by decide +kernel
theorem dX12_paste_170 : decode cX12_paste 170 = .ok (.iadd, 1) := by decide +kernel
theorem dX12_paste_171 : decode cX12_paste 171 = .ok (.aload_n 0, 1) := by decide +kernel
theorem dX12_paste_172 : decode cX12_paste 172 = .ok (.getfield 86, 3) := by decide +kernel
theorem dX12_paste_175 : decode cX12_paste 175 = .ok (.iload 6, 2) := by decide +kernel
theorem dX12_paste_177 : decode cX12_paste 177 = .ok (.laload, 1) := by decide +kernel
theorem dX12_paste_178 : decode cX12_paste 178 = .ok (.lastore, 1) := by decide +kernel
theorem dX12_paste_179 : decode cX12_paste 179 = .ok (.iinc 6 1, 3) := by decide +kernel
theorem dX12_paste_182 : decode cX12_paste 182 = .ok (.goto (-32), 3) := by decide +kernel
theorem dX12_paste_185 : decode cX12_paste 185 = .ok (.iconst 0, 1) := by decide +kernel
theorem dX12_paste_186 : decode cX12_paste 186 = .ok (.ireturn, 1) := by decide +kernel
theorem dJ7_fill_53178_0 : decode cJ7_fill_53178 0 = .ok (.iconst 0, 1) := by decide +kernel
theorem dJ7_fill_53178_1 : decode cJ7_fill_53178 1 = .ok (.istore_n 2, 1) := by decide +kernel
theorem dJ7_fill_53178_2 : decode cJ7_fill_53178 2 = .ok (.aload_n 0, 1) := by decide +kernel
theorem dJ7_fill_53178_3 : decode cJ7_fill_53178 3 = .ok (.arraylength, 1) := by decide +kernel
theorem dJ7_fill_53178_4 : decode cJ7_fill_53178 4 = .ok (.istore_n 3, 1) := by decide +kernel
theorem dJ7_fill_53178_5 : decode cJ7_fill_53178 5 = .ok (.iload_n 2, 1) := by decide +kernel
theorem dJ7_fill_53178_6 : decode cJ7_fill_53178 6 = .ok (.iload_n 3, 1) := by decide +kernel
theorem dJ7_fill_53178_7 : decode cJ7_fill_53178 7 = .ok (.if_icmp .ge 13, 3) := by decide +kernel
theorem dJ7_fill_53178_10 : decode cJ7_fill_53178 10 = .ok (.aload_n 0, 1) := by decide +kernel
theorem dJ7_fill_53178_11 : decode cJ7_fill_53178 11 = .ok (.iload_n 2, 1) := by decide +kernel
theorem dJ7_fill_53178_12 : decode cJ7_fill_53178 12 = .ok (.iload_n 1, 1) := by decide +kernel
theorem dJ7_fill_53178_13 : decode cJ7_fill_53178 13 = .ok (.iastore, 1) := by decide +kernel
theorem dJ7_fill_53178_14 : decode cJ7_fill_53178 14 = .ok (.iinc 2 1, 3) := by decide +kernel
theorem dJ7_fill_53178_17 : decode cJ7_fill_53178 17 = .ok (.goto (-12), 3) := by decide +kernel
theorem dJ7_fill_53178_20 : decode cJ7_fill_53178 20 = .ok (.return_, 1) := by decide +kernel
theorem dJ7_fill_d0a16_0 : decode cJ7_fill_d0a16 0 = .ok (.iconst 0, 1) := by decide +kernel
theorem dJ7_fill_d0a16_1 : decode cJ7_fill_d0a16 1 = .ok (.istore_n 3, 1) := by decide +kernel
theorem dJ7_fill_d0a16_2 : decode cJ7_fill_d0a16 2 = .ok (.aload_n 0, 1) := by decide +kernel
theorem dJ7_fill_d0a16_3 : decode cJ7_fill_d0a16 3 = .ok (.arraylength, 1) := by decide +kernel
theorem dJ7_fill_d0a16_4 : decode cJ7_fill_d0a16 4 = .ok (.istore 4, 2) := by decide +kernel
theorem dJ7_fill_d0a16_6 : decode cJ7_fill_d0a16 6 = .ok (.iload_n 3, 1) := by decide +kernel
theorem dJ7_fill_d0a16_7 : decode cJ7_fill_d0a16 7 = .ok (.iload 4, 2) := by decide +kernel
theorem dJ7_fill_d0a16_9 : decode cJ7_fill_d0a16 9 = .ok (.if_icmp .ge 13, 3) := by decide +kernel
theorem dJ7_fill_d0a16_12 : decode cJ7_fill_d0a16 12 = .ok (.aload_n 0, 1) := by decide +kernel
theorem dJ7_fill_d0a16_13 : decode cJ7_fill_d0a16 13 = .ok (.iload_n 3, 1) := by decide +kernel
theorem dJ7_fill_d0a16_14 : decode cJ7_fill_d0a16 14 = .ok (.lload_n 1, 1) := by decide +kernel
theorem dJ7_fill_d0a16_15 : decode cJ7_fill_d0a16 15 = .ok (.lastore, 1) := by decide +kernel
theorem dJ7_fill_d0a16_16 : decode cJ7_fill_d0a16 16 = .ok (.iinc 3 1, 3) := by decide +kernel
theorem dJ7_fill_d0a16_19 : decode cJ7_fill_d0a16 19 = .ok (.goto (-13), 3) := by decide +kernel
theorem dJ7_fill_d0a16_22 : decode cJ7_fill_d0a16 22 = .ok (.return_, 1) := by decide +kernel
theorem dJ0_length_8abf5_0 : decode cJ0_length_8abf5 0 = .ok (.aload_n 0, 1) := by decide +kernel
theorem dJ0_length_8abf5_1 : decode cJ0_length_8abf5 1 = .ok (.getfield 9, 3) := by decide +kernel
theorem dJ0_length_8abf5_4 : decode cJ0_length_8abf5 4 = .ok (.arraylength, 1) := by decide +kernel
theorem dJ0_length_8abf5_5 : decode cJ0_length_8abf5 5 = .ok (.aload_n 0, 1) := by decide +kernel
theorem dJ0_length_8abf5_6 : decode cJ0_length_8abf5 6 = .ok (.invokevirtual 335, 3) := by decide +kernel
theorem dJ0_length_8abf5_9 : decode cJ0_length_8abf5 9 = .ok (.ishr, 1) := by decide +kernel
theorem dJ0_length_8abf5_10 : decode cJ0_length_8abf5 10 = .ok (.ireturn, 1) := by decide +kernel
theorem dJ0_charAt_5068e_0 : decode cJ0_charAt_5068e 0 = .ok (.aload_n 0, 1) := by decide +kernel
theorem dJ0_charAt_5068e_1 : decode cJ0_charAt_5068e 1 = .ok (.invokevirtual 492, 3) := by decide +kernel
theorem dJ0_charAt_5068e_4 : decode cJ0_charAt_5068e 4 = .ok (.ifCond .eq 12, 3) := by decide +kernel
theorem dJ0_charAt_5068e_7 : decode cJ0_charAt_5068e 7 = .ok (.aload_n 0, 1) := by decide +kernel
theorem dJ0_charAt_5068e_8 : decode cJ0_charAt_5068e 8 = .ok (.getfield 9, 3) := by decide +kernel
theorem dJ0_charAt_5068e_11 : decode cJ0_charAt_5068e 11 = .ok (.iload_n 1, 1) := by decide +kernel
theorem dJ0_charAt_5068e_12 : decode cJ0_charAt_5068e 12 = .ok (.invokestatic 495, 3) := by decide +kernel
theorem dJ0_charAt_5068e_15 : decode cJ0_charAt_5068e 15 = .ok (.ireturn, 1) := by decide +kernel
theorem dJ0_charAt_5068e_16 : decode cJ0_charAt_5068e 16 = .ok (.aload_n 0, 1) := by decide +kernel
theorem dJ0_charAt_5068e_17 : decode cJ0_charAt_5068e 17 = .ok (.getfield 9, 3) := by decide +kernel
theorem dJ0_charAt_5068e_20 : decode cJ0_charAt_5068e 20 = .ok (.iload_n 1, 1) := by decide +kernel
theorem dJ0_charAt_5068e_21 : decode cJ0_charAt_5068e 21 = .ok (.invokestatic 498, 3) := by decide +kernel
theorem dJ0_charAt_5068e_24 : decode cJ0_charAt_5068e 24 = .ok (.ireturn, 1) := by decide +kernel
theorem dJ0_indexOf_0f7a4_0 : decode cJ0_indexOf_0f7a4 0 = .ok (.aload_n 0, 1) := by decide +kernel
theorem dJ0_indexOf_0f7a4_1 : decode cJ0_indexOf_0f7a4 1 = .ok (.iload_n 1, 1) := by decide +kernel
theorem dJ0_indexOf_0f7a4_2 : decode cJ0_indexOf_0f7a4 2 = .ok (.iconst 0, 1) := by decide +kernel
theorem dJ0_indexOf_0f7a4_3 : decode cJ0_indexOf_0f7a4 3 = .ok (.invokevirtual 633, 3) := by decide +kernel
theorem dJ0_indexOf_0f7a4_6 : decode cJ0_indexOf_0f7a4 6 = .ok (.ireturn, 1) := by decide +kernel
theorem dJ0_indexOf_7cf53_0 : decode cJ0_indexOf_7cf53 0 = .ok (.aload_n 0, 1) := by decide +kernel
theorem dJ0_indexOf_7cf53_1 : decode cJ0_indexOf_7cf53 1 = .ok (.invokevirtual 492, 3) := by decide +kernel
theorem dJ0_indexOf_7cf53_4 : decode cJ0_indexOf_7cf53 4 = .ok (.ifCond .eq 19, 3) := by decide +kernel
theorem dJ0_indexOf_7cf53_7 : decode cJ0_indexOf_7cf53 7 = .ok (.aload_n 0, 1) := by decide +kernel
theorem dJ0_indexOf_7cf53_8 : decode cJ0_indexOf_7cf53 8 = .ok (.getfield 9, 3) := by decide +kernel
theorem dJ0_indexOf_7cf53_11 : decode cJ0_indexOf_7cf53 11 = .ok (.iload_n 1, 1) := by decide +kernel
theorem dJ0_indexOf_7cf53_12 : decode cJ0_indexOf_7cf53 12 = .ok (.iload_n 2, 1) := by decide +kernel
theorem dJ0_indexOf_7cf53_13 : decode cJ0_indexOf_7cf53 13 = .ok (.aload_n 0, 1) := by decide +kernel
theorem dJ0_indexOf_7cf53_14 : decode cJ0_indexOf_7cf53 14 = .ok (.invokevirtual 505, 3) := by decide +kernel
theorem dJ0_indexOf_7cf53_17 : decode cJ0_indexOf_7cf53 17 = .ok (.invokestatic 637, 3) := by decide +kernel
theorem dJ0_indexOf_7cf53_20 : decode cJ0_indexOf_7cf53 20 = .ok (.goto 16, 3) := by decide +kernel
theorem dJ0_indexOf_7cf53_23 : decode cJ0_indexOf_7cf53 23 = .ok (.aload_n 0, 1) := by decide +kernel
theorem dJ0_indexOf_7cf53_24 : decode cJ0_indexOf_7cf53 24 = .ok (.getfield 9, 3) := by decide +kernel
theorem dJ0_indexOf_7cf53_27 : decode cJ0_indexOf_7cf53 27 = .ok (.iload_n 1, 1) := by decide +kernel
theorem dJ0_indexOf_7cf53_28 : decode cJ0_indexOf_7cf53 28 = .ok (.iload_n 2, 1) := by decide +kernel
theorem dJ0_indexOf_7cf53_29 : decode cJ0_indexOf_7cf53 29 = .ok (.aload_n 0, 1) := by decide +kernel
theorem dJ0_indexOf_7cf53_30 : decode cJ0_indexOf_7cf53 30 = .ok (.invokevirtual 505, 3) := by decide +kernel
theorem dJ0_indexOf_7cf53_33 : decode cJ0_indexOf_7cf53 33 = .ok (.invokestatic 640, 3) := by decide +kernel
theorem dJ0_indexOf_7cf53_36 : decode cJ0_indexOf_7cf53 36 = .ok (.ireturn, 1) := by decide +kernel
theorem dJ0_coder_7d493_0 : decode cJ0_coder_7d493 0 = .ok (.getstatic 38, 3) := by decide +kernel
theorem dJ0_coder_7d493_3 : decode cJ0_coder_7d493 3 = .ok (.ifCond .eq 10, 3) := by decide +kernel
theorem dJ0_coder_7d493_6 : decode cJ0_coder_7d493 6 = .ok (.aload_n 0, 1) := by decide +kernel
theorem dJ0_coder_7d493_7 : decode cJ0_coder_7d493 7 = .ok (.getfield 15, 3) := by decide +kernel
theorem dJ0_coder_7d493_10 : decode cJ0_coder_7d493 10 = .ok (.goto 4, 3) := by decide +kernel
theorem dJ0_coder_7d493_13 : decode cJ0_coder_7d493 13 = .ok (.iconst 1, 1) := by decide +kernel
theorem dJ0_coder_7d493_14 : decode cJ0_coder_7d493 14 = .ok (.ireturn, 1) := by decide +kernel
theorem dJ0_isLatin1_aae02_0 : decode cJ0_isLatin1_aae02 0 = .ok (.getstatic 38, 3) := by decide +kernel
theorem dJ0_isLatin1_aae02_3 : decode cJ0_isLatin1_aae02 3 = .ok (.ifCond .eq 14, 3) := by decide +kernel
theorem dJ0_isLatin1_aae02_6 : decode cJ0_isLatin1_aae02 6 = .ok (.aload_n 0, 1) := by decide +kernel
theorem dJ0_isLatin1_aae02_7 : decode cJ0_isLatin1_aae02 7 = .ok (.getfield 15, 3) := by decide +kernel
theorem dJ0_isLatin1_aae02_10 : decode cJ0_isLatin1_aae02 10 = .ok (.ifCond .ne 7, 3) := by decide +kernel
theorem dJ0_isLatin1_aae02_13 : decode cJ0_isLatin1_aae02 13 = .ok (.iconst 1, 1) := by decide +kernel
theorem dJ0_isLatin1_aae02_14 : decode cJ0_isLatin1_aae02 14 = .ok (.goto 4, 3) := by decide +kernel
theorem dJ0_isLatin1_aae02_17 : decode cJ0_isLatin1_aae02 17 = .ok (.iconst 0, 1) := by decide +kernel
theorem dJ0_isLatin1_aae02_18 : decode cJ0_isLatin1_aae02 18 = .ok (.ireturn, 1) := by decide +kernel
theorem dJ0_checkIndex_df160_0 : decode cJ0_checkIndex_df160 0 = .ok (.iload_n 0, 1) := by decide +kernel
theorem dJ0_checkIndex_df160_1 : decode cJ0_checkIndex_df160 1 = .ok (.iload_n 1, 1) := by decide +kernel
theorem dJ0_checkIndex_df160_2 : decode cJ0_checkIndex_df160 2 = .ok (.getstatic 1053, 3) := by decide +kernel
theorem dJ0_checkIndex_df160_5 : decode cJ0_checkIndex_df160 5 = .ok (.invokestatic 1059, 3) := by decide +kernel
theorem dJ0_checkIndex_df160_8 : decode cJ0_checkIndex_df160 8 = .ok (.pop, 1) := by decide +kernel
theorem dJ0_checkIndex_df160_9 : decode cJ0_checkIndex_df160 9 = .ok (.return_, 1) := by decide +kernel
theorem dJ1_charAt_3b067_0 : decode cJ1_charAt_3b067 0 = .ok (.iload_n 1, 1) := by decide +kernel
theorem dJ1_charAt_3b067_1 : decode cJ1_charAt_3b067 1 = .ok (.aload_n 0, 1) := by decide +kernel
theorem dJ1_charAt_3b067_2 : decode cJ1_charAt_3b067 2 = .ok (.arraylength, 1) := by decide +kernel
theorem dJ1_charAt_3b067_3 : decode cJ1_charAt_3b067 3 = .ok (.invokestatic 9, 3) := by decide +kernel
theorem dJ1_charAt_3b067_6 : decode cJ1_charAt_3b067 6 = .ok (.aload_n 0, 1) := by decide +kernel
theorem dJ1_charAt_3b067_7 : decode cJ1_charAt_3b067 7 = .ok (.iload_n 1, 1) := by decide +kernel
theorem dJ1_charAt_3b067_8 : decode cJ1_charAt_3b067 8 = .ok (.baload, 1) := by decide +kernel
theorem dJ1_charAt_3b067_9 : decode cJ1_charAt_3b067 9 = .ok (.sipush 255, 3) := by decide +kernel
theorem dJ1_charAt_3b067_12 : decode cJ1_charAt_3b067 12 = .ok (.iand, 1) := by decide +kernel
theorem dJ1_charAt_3b067_13 : decode cJ1_charAt_3b067 13 = .ok (.i2c, 1) := by decide +kernel
theorem dJ1_charAt_3b067_14 : decode cJ1_charAt_3b067 14 = .ok (.ireturn, 1) := by decide +kernel
theorem dJ1_canEncode_9a6ad_0 : decode cJ1_canEncode_9a6ad 0 = .ok (.iload_n 0, 1) := by decide +kernel
theorem dJ1_canEncode_9a6ad_1 : decode cJ1_canEncode_9a6ad 1 = .ok (.ifCond .lt 14, 3) := by decide +kernel
theorem dJ1_canEncode_9a6ad_4 : decode cJ1_canEncode_9a6ad 4 = .ok (.iload_n 0, 1) := by decide +kernel
theorem dJ1_canEncode_9a6ad_5 : decode cJ1_canEncode_9a6ad 5 = .ok (.sipush 255, 3) := by decide +kernel
theorem dJ1_canEncode_9a6ad_8 : decode cJ1_canEncode_9a6ad 8 = .ok (.if_icmp .gt 7, 3) := by decide +kernel
theorem dJ1_canEncode_9a6ad_11 : decode cJ1_canEncode_9a6ad 11 = .ok (.iconst 1, 1) := by decide +kernel
theorem dJ1_canEncode_9a6ad_12 : decode cJ1_canEncode_9a6ad 12 = .ok (.goto 4, 3) := by decide +kernel
theorem dJ1_canEncode_9a6ad_15 : decode cJ1_canEncode_9a6ad 15 = .ok (.iconst 0, 1) := by decide +kernel
theorem dJ1_canEncode_9a6ad_16 : decode cJ1_canEncode_9a6ad 16 = .ok (.ireturn, 1) := by decide +kernel
theorem dJ1_indexOf_4cfef_0 : decode cJ1_indexOf_4cfef 0 = .ok (.iload_n 1, 1) := by decide +kernel
theorem dJ1_indexOf_4cfef_1 : decode cJ1_indexOf_4cfef 1 = .ok (.invokestatic 88, 3) := by decide +kernel
theorem dJ1_indexOf_4cfef_4 : decode cJ1_indexOf_4cfef 4 = .ok (.ifCond .ne 5, 3) := by decide +kernel
theorem dJ1_indexOf_4cfef_7 : decode cJ1_indexOf_4cfef 7 = .ok (.iconst (-1), 1) := by decide +kernel
theorem dJ1_indexOf_4cfef_8 : decode cJ1_indexOf_4cfef 8 = .ok (.ireturn, 1) := by decide +kernel
theorem dJ1_indexOf_4cfef_9 : decode cJ1_indexOf_4cfef 9 = .ok (.iload_n 2, 1) := by decide +kernel
theorem dJ1_indexOf_4cfef_10 : decode cJ1_indexOf_4cfef 10 = .ok (.iconst 0, 1) := by decide +kernel
theorem dJ1_indexOf_4cfef_11 : decode cJ1_indexOf_4cfef 11 = .ok (.invokestatic 92, 3) := by decide +kernel
theorem dJ1_indexOf_4cfef_14 : decode cJ1_indexOf_4cfef 14 = .ok (.istore_n 2, 1) := by decide +kernel
theorem dJ1_indexOf_4cfef_15 : decode cJ1_indexOf_4cfef 15 = .ok (.iload_n 3, 1) := by decide +kernel
