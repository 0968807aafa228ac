theorem dX11_restore_9 : decode cX11_restore 9 = .ok (.bipush (-2), 2) := by decide +kernel
theorem dX11_restore_11 : decode cX11_restore 11 = .ok (.ireturn, 1) := by decide +kernel
theorem dX11_restore_12 : decode cX11_restore 12 = .ok (.aload_n 0, 1) := by decide +kernel
theorem dX11_restore_13 : decode cX11_restore 13 = .ok (.getfield 54, 3) := by decide +kernel
theorem dX11_restore_16 : decode cX11_restore 16 = .ok (.iload_n 1, 1) := by decide +kernel
theorem dX11_restore_17 : decode cX11_restore 17 = .ok (.aaload, 1) := by decide +kernel
theorem dX11_restore_18 : decode cX11_restore 18 = .ok (.ifnonnull 6, 3) := by decide +kernel
theorem dX11_restore_21 : decode cX11_restore 21 = .ok (.bipush (-6), 2) := by decide +kernel
theorem dX11_restore_23 : decode cX11_restore 23 = .ok (.ireturn, 1) := by decide +kernel
theorem dX11_restore_24 : decode cX11_restore 24 = .ok (.aload_n 0, 1) := by decide +kernel
theorem dX11_restore_25 : decode cX11_restore 25 = .ok (.getfield 26, 3) := by decide +kernel
theorem dX11_restore_28 : decode cX11_restore 28 = .ok (.aload_n 0, 1) := by decide +kernel
theorem dX11_restore_29 : decode cX11_restore 29 = .ok (.getfield 54, 3) := by decide +kernel
theorem dX11_restore_32 : decode cX11_restore 32 = .ok (.iload_n 1, 1) := by decide +kernel
theorem dX11_restore_33 : decode cX11_restore 33 = .ok (.aaload, 1) := by decide +kernel
theorem dX11_restore_34 : decode cX11_restore 34 = .ok (.invokevirtual 83, 3) := by decide +kernel
theorem dX11_restore_37 : decode cX11_restore 37 = .ok (.aload_n 0, 1) := by decide +kernel
theorem dX11_restore_38 : decode cX11_restore 38 = .ok (.iconst 0, 1) := by decide +kernel
theorem dX11_restore_39 : decode cX11_restore 39 = .ok (.putfield 64, 3) := by decide +kernel
theorem dX11_restore_42 : decode cX11_restore 42 = .ok (.iconst 0, 1) := by decide +kernel
theorem dX11_restore_43 : decode cX11_restore 43 = .ok (.ireturn, 1) := by decide +kernel
theorem dX11_row_0 : decode cX11_row 0 = .ok (.iload_n 1, 1) := by decide +kernel
theorem dX11_row_1 : decode cX11_row 1 = .ok (.invokestatic 347, 3) := by decide +kernel
theorem dX11_row_4 : decode cX11_row 4 = .ok (.ifCond .eq 18, 3) := by decide +kernel
theorem dX11_row_7 : decode cX11_row 7 = .ok (.iload_n 2, 1) := by decide +kernel
theorem dX11_row_8 : decode cX11_row 8 = .ok (.iconst 0, 1) := by decide +kernel
theorem dX11_row_9 : decode cX11_row 9 = .ok (.iconst 3, 1) := by decide +kernel
theorem dX11_row_10 : decode cX11_row 10 = .ok (.invokestatic 213, 3) := by decide +kernel
theorem dX11_row_13 : decode cX11_row 13 = .ok (.ifCond .eq 9, 3) := by decide +kernel
theorem dX11_row_16 : decode cX11_row 16 = .ok (.iload_n 3, 1) := by decide +kernel
theorem dX11_row_17 : decode cX11_row 17 = .ok (.bipush 60, 2) := by decide +kernel
theorem dX11_row_19 : decode cX11_row 19 = .ok (.if_icmp .le 6, 3) := by decide +kernel
theorem dX11_row_22 : decode cX11_row 22 = .ok (.bipush (-2), 2) := by decide +kernel
theorem dX11_row_24 : decode cX11_row 24 = .ok (.ireturn, 1) := by decide +kernel
theorem dX11_row_25 : decode cX11_row 25 = .ok (.iload_n 3, 1) := by decide +kernel
theorem dX11_row_26 : decode cX11_row 26 = .ok (.ifCond .ge 6, 3) := by decide +kernel
theorem dX11_row_29 : decode cX11_row 29 = .ok (.bipush (-3), 2) := by decide +kernel
theorem dX11_row_31 : decode cX11_row 31 = .ok (.ireturn, 1) := by decide +kernel
theorem dX11_row_32 : decode cX11_row 32 = .ok (.aload_n 0, 1) := by decide +kernel
theorem dX11_row_33 : decode cX11_row 33 = .ok (.getfield 60, 3) := by decide +kernel
theorem dX11_row_36 : decode cX11_row 36 = .ok (.iload_n 1, 1) := by decide +kernel
theorem dX11_row_37 : decode cX11_row 37 = .ok (.aaload, 1) := by decide +kernel
theorem dX11_row_38 : decode cX11_row 38 = .ok (.ifnonnull 16, 3) := by decide +kernel
theorem dX11_row_41 : decode cX11_row 41 = .ok (.aload_n 0, 1) := by decide +kernel
theorem dX11_row_42 : decode cX11_row 42 = .ok (.getfield 60, 3) := by decide +kernel
theorem dX11_row_45 : decode cX11_row 45 = .ok (.iload_n 1, 1) := by decide +kernel
theorem dX11_row_46 : decode cX11_row 46 = .ok (.new 58, 3) := by decide +kernel
theorem dX11_row_49 : decode cX11_row 49 = .ok (.dup, 1) := by decide +kernel
theorem dX11_row_50 : decode cX11_row 50 = .ok (.invokespecial 350, 3) := by decide +kernel
theorem dX11_row_53 : decode cX11_row 53 = .ok (.aastore, 1) := by decide +kernel
theorem dX11_row_54 : decode cX11_row 54 = .ok (.aload_n 0, 1) := by decide +kernel
theorem dX11_row_55 : decode cX11_row 55 = .ok (.getfield 60, 3) := by decide +kernel
theorem dX11_row_58 : decode cX11_row 58 = .ok (.iload_n 1, 1) := by decide +kernel
theorem dX11_row_59 : decode cX11_row 59 = .ok (.aaload, 1) := by decide +kernel
theorem dX11_row_60 : decode cX11_row 60 = .ok (.iload_n 2, 1) := by decide +kernel
theorem dX11_row_61 : decode cX11_row 61 = .ok (.iload_n 3, 1) := by decide +kernel
theorem dX11_row_62 : decode cX11_row 62 = .ok (.invokevirtual 351, 3) := by decide +kernel
theorem dX11_row_65 : decode cX11_row 65 = .ok (.iconst 0, 1) := by decide +kernel
theorem dX11_row_66 : decode cX11_row 66 = .ok (.ireturn, 1) := by decide +kernel
theorem dX11_write_0 : decode cX11_write 0 = .ok (.iload_n 1, 1) := by decide +kernel
theorem dX11_write_1 : decode cX11_write 1 = .ok (.invokestatic 347, 3) := by decide +kernel
theorem dX11_write_4 : decode cX11_write 4 = .ok (.ifCond .ne 6, 3) := by decide +kernel
theorem dX11_write_7 : decode cX11_write 7 = .ok (.bipush (-2), 2) := by decide +kernel
theorem dX11_write_9 : decode cX11_write 9 = .ok (.ireturn, 1) := by decide +kernel
theorem dX11_write_10 : decode cX11_write 10 = .ok (.aload_n 0, 1) := by decide +kernel
theorem dX11_write_11 : decode cX11_write 11 = .ok (.getfield 60, 3) := by decide +kernel
theorem dX11_write_14 : decode cX11_write 14 = .ok (.iload_n 1, 1) := by decide +kernel
theorem dX11_write_15 : decode cX11_write 15 = .ok (.aaload, 1) := by decide +kernel
theorem dX11_write_16 : decode cX11_write 16 = .ok (.astore 5, 2) := by decide +kernel
theorem dX11_write_18 : decode cX11_write 18 = .ok (.aload 5, 2) := by decide +kernel
theorem dX11_write_20 : decode cX11_write 20 = .ok (.ifnonnull 6, 3) := by decide +kernel
theorem dX11_write_23 : decode cX11_write 23 = .ok (.bipush (-6), 2) := by decide +kernel
theorem dX11_write_25 : decode cX11_write 25 = .ok (.ireturn, 1) := by decide +kernel
theorem dX11_write_26 : decode cX11_write 26 = .ok (.iload_n 2, 1) := by decide +kernel
theorem dX11_write_27 : decode cX11_write 27 = .ok (.ifCond .lt 12, 3) := by decide +kernel
theorem dX11_write_30 : decode cX11_write 30 = .ok (.iload_n 2, 1) := by decide +kernel
theorem dX11_write_31 : decode cX11_write 31 = .ok (.aload 5, 2) := by decide +kernel
theorem dX11_write_33 : decode cX11_write 33 = .ok (.getfield 332, 3) := by decide +kernel
theorem dX11_write_36 : decode cX11_write 36 = .ok (.if_icmp .lt 6, 3) := by decide +kernel
theorem dX11_write_39 : decode cX11_write 39 = .ok (.bipush (-7), 2) := by decide +kernel
theorem dX11_write_41 : decode cX11_write 41 = .ok (.ireturn, 1) := by decide +kernel
theorem dX11_write_42 : decode cX11_write 42 = .ok (.aload 5, 2) := by decide +kernel
theorem dX11_write_44 : decode cX11_write 44 = .ok (.iload_n 2, 1) := by decide +kernel
theorem dX11_write_45 : decode cX11_write 45 = .ok (.lload_n 3, 1) := by decide +kernel
theorem dX11_write_46 : decode cX11_write 46 = .ok (.invokevirtual 355, 3) := by decide +kernel
theorem dX11_write_49 : decode cX11_write 49 = .ok (.iconst 0, 1) := by decide +kernel
theorem dX11_write_50 : decode cX11_write 50 = .ok (.ireturn, 1) := by decide +kernel
theorem dX11_paste_0 : decode cX11_paste 0 = .ok (.iload_n 1, 1) := by decide +kernel
theorem dX11_paste_1 : decode cX11_paste 1 = .ok (.invokestatic 347, 3) := by decide +kernel
theorem dX11_paste_4 : decode cX11_paste 4 = .ok (.ifCond .eq 10, 3) := by decide +kernel
theorem dX11_paste_7 : decode cX11_paste 7 = .ok (.iload_n 3, 1) := by decide +kernel
theorem dX11_paste_8 : decode cX11_paste 8 = .ok (.invokestatic 347, 3) := by decide +kernel
theorem dX11_paste_11 : decode cX11_paste 11 = .ok (.ifCond .ne 6, 3) := by decide +kernel
theorem dX11_paste_14 : decode cX11_paste 14 = .ok (.bipush (-2), 2) := by decide +kernel
theorem dX11_paste_16 : decode cX11_paste 16 = .ok (.ireturn, 1) := by decide +kernel
theorem dX11_paste_17 : decode cX11_paste 17 = .ok (.aload_n 0, 1) := by decide +kernel
theorem dX11_paste_18 : decode cX11_paste 18 = .ok (.getfield 60, 3) := by decide +kernel
theorem dX11_paste_21 : decode cX11_paste 21 = .ok (.iload_n 1, 1) := by decide +kernel
theorem dX11_paste_22 : decode cX11_paste 22 = .ok (.aaload, 1) := by decide +kernel
theorem dX11_paste_23 : decode cX11_paste 23 = .ok (.astore 6, 2) := by decide +kernel
theorem dX11_paste_25 : decode cX11_paste 25 = .ok (.aload_n 0, 1) := by decide +kernel
theorem dX11_paste_26 : decode cX11_paste 26 = .ok (.getfield 60, 3) := by decide +kernel
theorem dX11_paste_29 : decode cX11_paste 29 = .ok (.iload_n 3, 1) := by decide +kernel
theorem dX11_paste_30 : decode cX11_paste 30 = .ok (.aaload, 1) := by decide +kernel
theorem dX11_paste_31 : decode cX11_paste 31 = .ok (.astore 7, 2) := by decide +kernel
theorem dX11_paste_33 : decode cX11_paste 33 = .ok (.aload 6, 2) := by decide +kernel
theorem dX11_paste_35 : decode cX11_paste 35 = .ok (.ifnull 8, 3) := by decide +kernel
theorem dX11_paste_38 : decode cX11_paste 38 = .ok (.aload 7, 2) := by decide +kernel
theorem dX11_paste_40 : decode cX11_paste 40 = .ok (.ifnonnull 6, 3) := by decide +kernel
theorem dX11_paste_43 : decode cX11_paste 43 = .ok (.bipush (-6), 2) := by decide +kernel
theorem dX11_paste_45 : decode cX11_paste 45 = .ok (.ireturn, 1) := by decide +kernel
theorem dX11_paste_46 : decode cX11_paste 46 = .ok (.aload 6, 2) := by decide +kernel
theorem dX11_paste_48 : decode cX11_paste 48 = .ok (.getfield 359, 3) := by decide +kernel
theorem dX11_paste_51 : decode cX11_paste 51 = .ok (.aload 7, 2) := by decide +kernel
theorem dX11_paste_53 : decode cX11_paste 53 = .ok (.getfield 359, 3) := by decide +kernel
theorem dX11_paste_56 : decode cX11_paste 56 = .ok (.if_icmp .eq 6, 3) := by decide +kernel
theorem dX11_paste_59 : decode cX11_paste 59 = .ok (.bipush (-8), 2) := by decide +kernel
theorem dX11_paste_61 : decode cX11_paste 61 = .ok (.ireturn, 1) := by decide +kernel
theorem dX11_paste_62 : decode cX11_paste 62 = .ok (.aload 6, 2) := by decide +kernel
theorem dX11_paste_64 : decode cX11_paste 64 = .ok (.iload_n 2, 1) := by decide +kernel
theorem dX11_paste_65 : decode cX11_paste 65 = .ok (.iload 5, 2) := by decide +kernel
theorem dX11_paste_67 : decode cX11_paste 67 = .ok (.invokevirtual 362, 3) := by decide +kernel
theorem dX11_paste_70 : decode cX11_paste 70 = .ok (.ifCond .eq 15, 3) := by decide +kernel
theorem dX11_paste_73 : decode cX11_paste 73 = .ok (.aload 7, 2) := by decide +kernel
theorem dX11_paste_75 : decode cX11_paste 75 = .ok (.iload 4, 2) := by decide +kernel
theorem dX11_paste_77 : decode cX11_paste 77 = .ok (.iload 5, 2) := by decide +kernel
theorem dX11_paste_79 : decode cX11_paste 79 = .ok (.invokevirtual 362, 3) := by decide +kernel
theorem dX11_paste_82 : decode cX11_paste 82 = .ok (.ifCond .ne 6, 3) := by decide +kernel
theorem dX11_paste_85 : decode cX11_paste 85 = .ok (.bipush (-7), 2) := by decide +kernel
theorem dX11_paste_87 : decode cX11_paste 87 = .ok (.ireturn, 1) := by decide +kernel
theorem dX11_paste_88 : decode cX11_paste 88 = .ok (.aload 6, 2) := by decide +kernel
theorem dX11_paste_90 : decode cX11_paste 90 = .ok (.getfield 333, 3) := by decide +kernel
theorem dX11_paste_93 : decode cX11_paste 93 = .ok (.iload_n 2, 1) := by decide +kernel
theorem dX11_paste_94 : decode cX11_paste 94 = .ok (.aload 7, 2) := by decide +kernel
theorem dX11_paste_96 : decode cX11_paste 96 = .ok (.getfield 333, 3) := by decide +kernel
theorem dX11_paste_99 : decode cX11_paste 99 = .ok (.iload 4, 2) := by decide +kernel
theorem dX11_paste_101 : decode cX11_paste 101 = .ok (.iload 5, 2) := by decide +kernel
theorem dX11_paste_103 : decode cX11_paste 103 = .ok (.invokestatic 365, 3) := by decide +kernel
theorem dX11_paste_106 : decode cX11_paste 106 = .ok (.iconst 0, 1) := by decide +kernel
theorem dX11_paste_107 : decode cX11_paste 107 = .ok (.ireturn, 1) := by decide +kernel
theorem dX12_in_0 : decode cX12_in 0 = .ok (.lload_n 0, 1) := by decide +kernel
theorem dX12_in_1 : decode cX12_in 1 = .ok (.lload_n 2, 1) := by decide +kernel
theorem dX12_in_2 : decode cX12_in 2 = .ok (.lcmp, 1) := by decide +kernel
theorem dX12_in_3 : decode cX12_in 3 = .ok (.ifCond .lt 14, 3) := by decide +kernel
theorem dX12_in_6 : decode cX12_in 6 = .ok (.lload_n 0, 1) := by decide +kernel
theorem dX12_in_7 : decode cX12_in 7 = .ok (.lload 4, 2) := by decide +kernel
theorem dX12_in_9 : decode cX12_in 9 = .ok (.lcmp, 1) := by decide +kernel
theorem dX12_in_10 : decode cX12_in 10 = .ok (.ifCond .gt 7, 3) := by decide +kernel
theorem dX12_in_13 : decode cX12_in 13 = .ok (.iconst 1, 1) := by decide +kernel
theorem dX12_in_14 : decode cX12_in 14 = .ok (.goto 4, 3) := by decide +kernel
theorem dX12_in_17 : decode cX12_in 17 = .ok (.iconst 0, 1) := by decide +kernel
theorem dX12_in_18 : decode cX12_in 18 = .ok (.ireturn, 1) := by decide +kernel
theorem dX12_image_0 : decode cX12_image 0 = .ok (.iload_n 1, 1) := by decide +kernel
theorem dX12_image_1 : decode cX12_image 1 = .ok (.i2l, 1) := by decide +kernel
theorem dX12_image_2 : decode cX12_image 2 = .ok (.lconst 0, 1) := by decide +kernel
theorem dX12_image_3 : decode cX12_image 3 = .ok (.ldc2_w 92, 3) := by decide +kernel
theorem dX12_image_6 : decode cX12_image 6 = .ok (.invokestatic 94, 3) := by decide +kernel
theorem dX12_image_9 : decode cX12_image 9 = .ok (.ifCond .ne 6, 3) := by decide +kernel
theorem dX12_image_12 : decode cX12_image 12 = .ok (.bipush (-2), 2) := by decide +kernel
theorem dX12_image_14 : decode cX12_image 14 = .ok (.ireturn, 1) := by decide +kernel
theorem dX12_image_15 : decode cX12_image 15 = .ok (.iconst 0, 1) := by decide +kernel
theorem dX12_image_16 : decode cX12_image 16 = .ok (.istore_n 2, 1) := by decide +kernel
theorem dX12_image_17 : decode cX12_image 17 = .ok (.iload_n 2, 1) := by decide +kernel
theorem dX12_image_18 : decode cX12_image 18 = .ok (.sipush 468, 3) := by decide +kernel
theorem dX12_image_21 : decode cX12_image 21 = .ok (.if_icmp .ge 27, 3) := by decide +kernel
theorem dX12_image_24 : decode cX12_image 24 = .ok (.aload_n 0, 1) := by decide +kernel
theorem dX12_image_25 : decode cX12_image 25 = .ok (.getfield 13, 3) := by decide +kernel
theorem dX12_image_28 : decode cX12_image 28 = .ok (.sipush 468, 3) := by decide +kernel
theorem dX12_image_31 : decode cX12_image 31 = .ok (.iload_n 1, 1) := by decide +kernel
theorem dX12_image_32 : decode cX12_image 32 = .ok (.imul, 1) := by decide +kernel
theorem dX12_image_33 : decode cX12_image 33 = .ok (.iload_n 2, 1) := by decide +kernel
theorem dX12_image_34 : decode cX12_image 34 = .ok (.iadd, 1) := by decide +kernel
theorem dX12_image_35 : decode cX12_image 35 = .ok (.aload_n 0, 1) := by decide +kernel
theorem dX12_image_36 : decode cX12_image 36 = .ok (.getfield 9, 3) := by decide +kernel
theorem dX12_image_39 : decode cX12_image 39 = .ok (.iload_n 2, 1) := by decide +kernel
theorem dX12_image_40 : decode cX12_image 40 = .ok (.iaload, 1) := by decide +kernel
theorem dX12_image_41 : decode cX12_image 41 = .ok (.iastore, 1) := by decide +kernel
theorem dX12_image_42 : decode cX12_image 42 = .ok (.iinc 2 1, 3) := by decide +kernel
theorem dX12_image_45 : decode cX12_image 45 = .ok (.goto (-28), 3) := by decide +kernel
theorem dX12_image_48 : decode cX12_image 48 = .ok (.aload_n 0, 1) := by decide +kernel
theorem dX12_image_49 : decode cX12_image 49 = .ok (.getfield 16, 3) := by decide +kernel
theorem dX12_image_52 : decode cX12_image 52 = .ok (.iload_n 1, 1) := by decide +kernel
theorem dX12_image_53 : decode cX12_image 53 = .ok (.iconst 1, 1) := by decide +kernel
theorem dX12_image_54 : decode cX12_image 54 = .ok (.bastore, 1) := by decide +kernel
theorem dX12_image_55 : decode cX12_image 55 = .ok (.iconst 0, 1) := by decide +kernel
theorem dX12_image_56 : decode cX12_image 56 = .ok (.ireturn, 1) := by decide +kernel
theorem dX12_restore_0 : decode cX12_restore 0 = .ok (.iload_n 1, 1) := by decide +kernel
theorem dX12_restore_1 : decode cX12_restore 1 = .ok (.i2l, 1) := by decide +kernel
theorem dX12_restore_2 : decode cX12_restore 2 = .ok (.lconst 0, 1) := by decide +kernel
theorem dX12_restore_3 : decode cX12_restore 3 = .ok (.ldc2_w 92, 3) := by decide +kernel
theorem dX12_restore_6 : decode cX12_restore 6 = .ok (.invokestatic 94, 3) := by decide +kernel
theorem dX12_restore_9 : decode cX12_restore 9 = .ok (.ifCond .ne 6, 3) := by decide +kernel
theorem dX12_restore_12 : decode cX12_restore 12 = .ok (.bipush (-2), 2) := by decide +kernel
theorem dX12_restore_14 : decode cX12_restore 14 = .ok (.ireturn, 1) := by decide +kernel
theorem dX12_restore_15 : decode cX12_restore 15 = .ok (.aload_n 0, 1) := by decide +kernel
theorem dX12_restore_16 : decode cX12_restore 16 = .ok (.getfield 16, 3) := by decide +kernel
theorem dX12_restore_19 : decode cX12_restore 19 = .ok (.iload_n 1, 1) := by decide +kernel
theorem dX12_restore_20 : decode cX12_restore 20 = .ok (.baload, 1) := by decide +kernel
theorem dX12_restore_21 : decode cX12_restore 21 = .ok (.ifCond .ne 6, 3) := by decide +kernel
theorem dX12_restore_24 : decode cX12_restore 24 = .ok (.bipush (-6), 2) := by decide +kernel
theorem dX12_restore_26 : decode cX12_restore 26 = .ok (.ireturn, 1) := by decide +kernel
theorem dX12_restore_27 : decode cX12_restore 27 = .ok (.iconst 0, 1) := by decide +kernel
theorem dX12_restore_28 : decode cX12_restore 28 = .ok (.istore_n 2, 1) := by decide +kernel
theorem dX12_restore_29 : decode cX12_restore 29 = .ok (.iload_n 2, 1) := by decide +kernel
theorem dX12_restore_30 : decode cX12_restore 30 = .ok (.sipush 468, 3) := by decide +kernel
theorem dX12_restore_33 : decode cX12_restore 33 = .ok (.if_icmp .ge 27, 3) := by decide +kernel
theorem dX12_restore_36 : decode cX12_restore 36 = .ok (.aload_n 0, 1) := by decide +kernel
theorem dX12_restore_37 : decode cX12_restore 37 = .ok (.getfield 9, 3) := by decide +kernel
theorem dX12_restore_40 : decode cX12_restore 40 = .ok (.iload_n 2, 1) := by decide +kernel
theorem dX12_restore_41 : decode cX12_restore 41 = .ok (.aload_n 0, 1) := by decide +kernel
theorem dX12_restore_42 : decode cX12_restore 42 = .ok (.getfield 13, 3) := by decide +kernel
theorem dX12_restore_45 : decode cX12_restore 45 = .ok (.sipush 468, 3) := by decide +kernel
theorem dX12_restore_48 : decode cX12_restore 48 = .ok (.iload_n 1, 1) := by decide +kernel
theorem dX12_restore_49 : decode cX12_restore 49 = .ok (.imul, 1) := by decide +kernel
theorem dX12_restore_50 : decode cX12_restore 50 = .ok (.iload_n 2, 1) := by decide +kernel
theorem dX12_restore_51 : decode cX12_restore 51 = .ok (.iadd, 1) := by decide +kernel
theorem dX12_restore_52 : decode cX12_restore 52 = .ok (.iaload, 1) := by decide +kernel
theorem dX12_restore_53 : decode cX12_restore 53 = .ok (.iastore, 1) := by decide +kernel
theorem dX12_restore_54 : decode cX12_restore 54 = .ok (.iinc 2 1, 3) := by decide +kernel
theorem dX12_restore_57 : decode cX12_restore 57 = .ok (.goto (-28), 3) := by decide +kernel
theorem dX12_restore_60 : decode cX12_restore 60 = .ok (.iconst 0, 1) := by decide +kernel
theorem dX12_restore_61 : decode cX12_restore 61 = .ok (.ireturn, 1) := by decide +kernel
theorem dX12_isMarket_0 : decode cX12_isMarket 0 = .ok (.aload_n 0, 1) := by decide +kernel
theorem dX12_isMarket_1 : decode cX12_isMarket 1 = .ok (.getfield 9, 3) := by decide +kernel
theorem dX12_isMarket_4 : decode cX12_isMarket 4 = .ok (.iconst 0, 1) := by decide +kernel
theorem dX12_isMarket_5 : decode cX12_isMarket 5 = .ok (.iaload, 1) := by decide +kernel
theorem dX12_isMarket_6 : decode cX12_isMarket 6 = .ok (.ifCond .le 7, 3) := by decide +kernel
theorem dX12_isMarket_9 : decode cX12_isMarket 9 = .ok (.iconst 1, 1) := by decide +kernel
theorem dX12_isMarket_10 : decode cX12_isMarket 10 = .ok (.goto 4, 3) := by decide +kernel
theorem dX12_isMarket_13 : decode cX12_isMarket 13 = .ok (.iconst 0, 1) := by decide +kernel
theorem dX12_isMarket_14 : decode cX12_isMarket 14 = .ok (.ireturn, 1) := by decide +kernel
theorem dX12_isThing_0 : decode cX12_isThing 0 = .ok (.lload_n 1, 1) := by decide +kernel
theorem dX12_isThing_1 : decode cX12_isThing 1 = .ok (.lconst 0, 1) := by decide +kernel
theorem dX12_isThing_2 : decode cX12_isThing 2 = .ok (.aload_n 0, 1) := by decide +kernel
theorem dX12_isThing_3 : decode cX12_isThing 3 = .ok (.getfield 9, 3) := by decide +kernel
theorem dX12_isThing_6 : decode cX12_isThing 6 = .ok (.iconst 1, 1) := by decide +kernel
theorem dX12_isThing_7 : decode cX12_isThing 7 = .ok (.iaload, 1) := by decide +kernel
theorem dX12_isThing_8 : decode cX12_isThing 8 = .ok (.iconst 1, 1) := by decide +kernel
theorem dX12_isThing_9 : decode cX12_isThing 9 = .ok (.isub, 1) := by decide +kernel
theorem dX12_isThing_10 : decode cX12_isThing 10 = .ok (.i2l, 1) := by decide +kernel
theorem dX12_isThing_11 : decode cX12_isThing 11 = .ok (.invokestatic 94, 3) := by decide +kernel
theorem dX12_isThing_14 : decode cX12_isThing 14 = .ok (.ireturn, 1) := by decide +kernel
theorem dX12_isDay_0 : decode cX12_isDay 0 = .ok (.lload_n 1, 1) := by decide +kernel
theorem dX12_isDay_1 : decode cX12_isDay 1 = .ok (.lconst 0, 1) := by decide +kernel
theorem dX12_isDay_2 : decode cX12_isDay 2 = .ok (.aload_n 0, 1) := by decide +kernel
theorem dX12_isDay_3 : decode cX12_isDay 3 = .ok (.getfield 9, 3) := by decide +kernel
theorem dX12_isDay_6 : decode cX12_isDay 6 = .ok (.iconst 0, 1) := by decide +kernel
theorem dX12_isDay_7 : decode cX12_isDay 7 = .ok (.iaload, 1) := by decide +kernel
theorem dX12_isDay_8 : decode cX12_isDay 8 = .ok (.iconst 1, 1) := by decide +kernel
theorem dX12_isDay_9 : decode cX12_isDay 9 = .ok (.isub, 1) := by decide +kernel
theorem dX12_isDay_10 : decode cX12_isDay 10 = .ok (.i2l, 1) := by decide +kernel
theorem dX12_isDay_11 : decode cX12_isDay 11 = .ok (.invokestatic 94, 3) := by decide +kernel
theorem dX12_isDay_14 : decode cX12_isDay 14 = .ok (.ireturn, 1) := by decide +kernel
theorem dX12_isSeller_0 : decode cX12_isSeller 0 = .ok (.iload_n 1, 1) := by decide +kernel
theorem dX12_isSeller_1 : decode cX12_isSeller 1 = .ok (.i2l, 1) := by decide +kernel
theorem dX12_isSeller_2 : decode cX12_isSeller 2 = .ok (.lconst 0, 1) := by decide +kernel
theorem dX12_isSeller_3 : decode cX12_isSeller 3 = .ok (.aload_n 0, 1) := by decide +kernel
theorem dX12_isSeller_4 : decode cX12_isSeller 4 = .ok (.getfield 9, 3) := by decide +kernel
theorem dX12_isSeller_7 : decode cX12_isSeller 7 = .ok (.iconst 2, 1) := by decide +kernel
theorem dX12_isSeller_8 : decode cX12_isSeller 8 = .ok (.iaload, 1) := by decide +kernel
theorem dX12_isSeller_9 : decode cX12_isSeller 9 = .ok (.iconst 1, 1) := by decide +kernel
theorem dX12_isSeller_10 : decode cX12_isSeller 10 = .ok (.isub, 1) := by decide +kernel
theorem dX12_isSeller_11 : decode cX12_isSeller 11 = .ok (.i2l, 1) := by decide +kernel
theorem dX12_isSeller_12 : decode cX12_isSeller 12 = .ok (.invokestatic 94, 3) := by decide +kernel
theorem dX12_isSeller_15 : decode cX12_isSeller 15 = .ok (.ireturn, 1) := by decide +kernel
theorem dX12_isBuyer_0 : decode cX12_isBuyer 0 = .ok (.iload_n 1, 1) := by decide +kernel
theorem dX12_isBuyer_1 : decode cX12_isBuyer 1 = .ok (.i2l, 1) := by decide +kernel
theorem dX12_isBuyer_2 : decode cX12_isBuyer 2 = .ok (.lconst 0, 1) := by decide +kernel
theorem dX12_isBuyer_3 : decode cX12_isBuyer 3 = .ok (.aload_n 0, 1) := by decide +kernel
theorem dX12_isBuyer_4 : decode cX12_isBuyer 4 = .ok (.getfield 9, 3) := by decide +kernel
theorem dX12_isBuyer_7 : decode cX12_isBuyer 7 = .ok (.iconst 3, 1) := by decide +kernel
theorem dX12_isBuyer_8 : decode cX12_isBuyer 8 = .ok (.iaload, 1) := by decide +kernel
theorem dX12_isBuyer_9 : decode cX12_isBuyer 9 = .ok (.iconst 1, 1) := by decide +kernel
theorem dX12_isBuyer_10 : decode cX12_isBuyer 10 = .ok (.isub, 1) := by decide +kernel
theorem dX12_isBuyer_11 : decode cX12_isBuyer 11 = .ok (.i2l, 1) := by decide +kernel
theorem dX12_isBuyer_12 : decode cX12_isBuyer 12 = .ok (.invokestatic 94, 3) := by decide +kernel
theorem dX12_isBuyer_15 : decode cX12_isBuyer 15 = .ok (.ireturn, 1) := by decide +kernel
theorem dX12_areSo_0 : decode cX12_areSo 0 = .ok (.aload_n 0, 1) := by decide +kernel
theorem dX12_areSo_1 : decode cX12_areSo 1 = .ok (.iload_n 1, 1) := by decide +kernel
theorem dX12_areSo_2 : decode cX12_areSo 2 = .ok (.i2l, 1) := by decide +kernel
theorem dX12_areSo_3 : decode cX12_areSo 3 = .ok (.invokevirtual 98, 3) := by decide +kernel
theorem dX12_areSo_6 : decode cX12_areSo 6 = .ok (.ifCond .eq 16, 3) := by decide +kernel
theorem dX12_areSo_9 : decode cX12_areSo 9 = .ok (.aload_n 0, 1) := by decide +kernel
theorem dX12_areSo_10 : decode cX12_areSo 10 = .ok (.iload_n 2, 1) := by decide +kernel
theorem dX12_areSo_11 : decode cX12_areSo 11 = .ok (.i2l, 1) := by decide +kernel
theorem dX12_areSo_12 : decode cX12_areSo 12 = .ok (.invokevirtual 102, 3) := by decide +kernel
theorem dX12_areSo_15 : decode cX12_areSo 15 = .ok (.ifCond .eq 7, 3) := by decide +kernel
theorem dX12_areSo_18 : decode cX12_areSo 18 = .ok (.iconst 1, 1) := by decide +kernel
theorem dX12_areSo_19 : decode cX12_areSo 19 = .ok (.goto 4, 3) := by decide +kernel
theorem dX12_areSo_22 : decode cX12_areSo 22 = .ok (.iconst 0, 1) := by decide +kernel
theorem dX12_areSo_23 : decode cX12_areSo 23 = .ok (.ireturn, 1) := by decide +kernel
theorem dX12_at_0 : decode cX12_at 0 = .ok (.bipush 20, 2) := by decide +kernel
theorem dX12_at_2 : decode cX12_at 2 = .ok (.iload_n 0, 1) := by decide +kernel
theorem dX12_at_3 : decode cX12_at 3 = .ok (.imul, 1) := by decide +kernel
theorem dX12_at_4 : decode cX12_at 4 = .ok (.iload_n 1, 1) := by decide +kernel
theorem dX12_at_5 : decode cX12_at 5 = .ok (.iadd, 1) := by decide +kernel
theorem dX12_at_6 : decode cX12_at 6 = .ok (.ireturn, 1) := by decide +kernel
theorem dX12_priceOf_0 : decode cX12_priceOf 0 = .ok (.aload_n 0, 1) := by decide +kernel
theorem dX12_priceOf_1 : decode cX12_priceOf 1 = .ok (.getfield 9, 3) := by decide +kernel
theorem dX12_priceOf_4 : decode cX12_priceOf 4 = .ok (.bipush 11, 2) := by decide +kernel
theorem dX12_priceOf_6 : decode cX12_priceOf 6 = .ok (.iload_n 1, 1) := by decide +kernel
theorem dX12_priceOf_7 : decode cX12_priceOf 7 = .ok (.iload_n 2, 1) := by decide +kernel
theorem dX12_priceOf_8 : decode cX12_priceOf 8 = .ok (.invokestatic 105, 3) := by decide +kernel
theorem dX12_priceOf_11 : decode cX12_priceOf 11 = .ok (.iadd, 1) := by decide +kernel
theorem dX12_priceOf_12 : decode cX12_priceOf 12 = .ok (.iaload, 1) := by decide +kernel
theorem dX12_priceOf_13 : decode cX12_priceOf 13 = .ok (.ireturn, 1) := by decide +kernel
theorem dX12_keepsOf_0 : decode cX12_keepsOf 0 = .ok (.aload_n 0, 1) := by decide +kernel
theorem dX12_keepsOf_1 : decode cX12_keepsOf 1 = .ok (.getfield 9, 3) := by decide +kernel
theorem dX12_keepsOf_4 : decode cX12_keepsOf 4 = .ok (.bipush 6, 2) := by decide +kernel
theorem dX12_keepsOf_6 : decode cX12_keepsOf 6 = .ok (.iload_n 1, 1) := by decide +kernel
theorem dX12_keepsOf_7 : decode cX12_keepsOf 7 = .ok (.iadd, 1) := by decide +kernel
theorem dX12_keepsOf_8 : decode cX12_keepsOf 8 = .ok (.iaload, 1) := by decide +kernel
theorem dX12_keepsOf_9 : decode cX12_keepsOf 9 = .ok (.ireturn, 1) := by decide +kernel
theorem dX12_seller3_0 : decode cX12_seller3 0 = .ok (.aload_n 0, 1) := by decide +kernel
theorem dX12_seller3_1 : decode cX12_seller3 1 = .ok (.getfield 9, 3) := by decide +kernel
theorem dX12_seller3_4 : decode cX12_seller3 4 = .ok (.sipush 311, 3) := by decide +kernel
theorem dX12_seller3_7 : decode cX12_seller3 7 = .ok (.iconst 3, 1) := by decide +kernel
theorem dX12_seller3_8 : decode cX12_seller3 8 = .ok (.iload_n 1, 1) := by decide +kernel
theorem dX12_seller3_9 : decode cX12_seller3 9 = .ok (.imul, 1) := by decide +kernel
theorem dX12_seller3_10 : decode cX12_seller3 10 = .ok (.iadd, 1) := by decide +kernel
theorem dX12_seller3_11 : decode cX12_seller3 11 = .ok (.iload_n 2, 1) := by decide +kernel
theorem dX12_seller3_12 : decode cX12_seller3 12 = .ok (.iadd, 1) := by decide +kernel
theorem dX12_seller3_13 : decode cX12_seller3 13 = .ok (.iaload, 1) := by decide +kernel
theorem dX12_seller3_14 : decode cX12_seller3 14 = .ok (.ireturn, 1) := by decide +kernel
theorem dX12_thingOf_0 : decode cX12_thingOf 0 = .ok (.aload_n 0, 1) := by decide +kernel
theorem dX12_thingOf_1 : decode cX12_thingOf 1 = .ok (.iload_n 1, 1) := by decide +kernel
theorem dX12_thingOf_2 : decode cX12_thingOf 2 = .ok (.iconst 0, 1) := by decide +kernel
theorem dX12_thingOf_3 : decode cX12_thingOf 3 = .ok (.invokevirtual 109, 3) := by decide +kernel
theorem dX12_thingOf_6 : decode cX12_thingOf 6 = .ok (.ireturn, 1) := by decide +kernel
theorem dX12_of_0 : decode cX12_of 0 = .ok (.aload_n 0, 1) := by decide +kernel
theorem dX12_of_1 : decode cX12_of 1 = .ok (.getfield 9, 3) := by decide +kernel
theorem dX12_of_4 : decode cX12_of 4 = .ok (.sipush 426, 3) := by decide +kernel
theorem dX12_of_7 : decode cX12_of 7 = .ok (.bipush 6, 2) := by decide +kernel
theorem dX12_of_9 : decode cX12_of 9 = .ok (.iload_n 1, 1) := by decide +kernel
theorem dX12_of_10 : decode cX12_of 10 = .ok (.imul, 1) := by decide +kernel
theorem dX12_of_11 : decode cX12_of 11 = .ok (.iadd, 1) := by decide +kernel
theorem dX12_of_12 : decode cX12_of 12 = .ok (.iload_n 2, 1) := by decide +kernel
theorem dX12_of_13 : decode cX12_of 13 = .ok (.iadd, 1) := by decide +kernel
theorem dX12_of_14 : decode cX12_of 14 = .ok (.iaload, 1) := by decide +kernel
theorem dX12_of_15 : decode cX12_of 15 = .ok (.ireturn, 1) := by decide +kernel
theorem dX12_feed_0 : decode cX12_feed 0 = .ok (.aload_n 0, 1) := by decide +kernel
theorem dX12_feed_1 : decode cX12_feed 1 = .ok (.getfield 112, 3) := by decide +kernel
theorem dX12_feed_4 : decode cX12_feed 4 = .ok (.bipush 20, 2) := by decide +kernel
theorem dX12_feed_6 : decode cX12_feed 6 = .ok (.iadd, 1) := by decide +kernel
theorem dX12_feed_7 : decode cX12_feed 7 = .ok (.sipush 2000, 3) := by decide +kernel
theorem dX12_feed_10 : decode cX12_feed 10 = .ok (.if_icmp .le 5, 3) := by decide +kernel
theorem dX12_feed_13 : decode cX12_feed 13 = .ok (.iconst (-1), 1) := by decide +kernel
theorem dX12_feed_14 : decode cX12_feed 14 = .ok (.ireturn, 1) := by decide +kernel
theorem dX12_feed_15 : decode cX12_feed 15 = .ok (.aload_n 0, 1) := by decide +kernel
theorem dX12_feed_16 : decode cX12_feed 16 = .ok (.getfield 24, 3) := by decide +kernel
theorem dX12_feed_19 : decode cX12_feed 19 = .ok (.iconst 0, 1) := by decide +kernel
theorem dX12_feed_20 : decode cX12_feed 20 = .ok (.iload_n 1, 1) := by decide +kernel
theorem dX12_feed_21 : decode cX12_feed 21 = .ok (.iastore, 1) := by decide +kernel
theorem dX12_feed_22 : decode cX12_feed 22 = .ok (.aload_n 0, 1) := by decide +kernel
theorem dX12_feed_23 : decode cX12_feed 23 = .ok (.getfield 24, 3) := by decide +kernel
theorem dX12_feed_26 : decode cX12_feed 26 = .ok (.iconst 1, 1) := by decide +kernel
theorem dX12_feed_27 : decode cX12_feed 27 = .ok (.iload_n 2, 1) := by decide +kernel
theorem dX12_feed_28 : decode cX12_feed 28 = .ok (.iastore, 1) := by decide +kernel
theorem dX12_feed_29 : decode cX12_feed 29 = .ok (.aload_n 0, 1) := by decide +kernel
theorem dX12_feed_30 : decode cX12_feed 30 = .ok (.getfield 24, 3) := by decide +kernel
theorem dX12_feed_33 : decode cX12_feed 33 = .ok (.iconst 2, 1) := by decide +kernel
theorem dX12_feed_34 : decode cX12_feed 34 = .ok (.iload_n 3, 1) := by decide +kernel
theorem dX12_feed_35 : decode cX12_feed 35 = .ok (.iastore, 1) := by decide +kernel
theorem dX12_feed_36 : decode cX12_feed 36 = .ok (.aload_n 0, 1) := by decide +kernel
theorem dX12_feed_37 : decode cX12_feed 37 = .ok (.getfield 24, 3) := by decide +kernel
theorem dX12_feed_40 : decode cX12_feed 40 = .ok (.iconst 3, 1) := by decide +kernel
theorem dX12_feed_41 : decode cX12_feed 41 = .ok (.iload 4, 2) := by decide +kernel
theorem dX12_feed_43 : decode cX12_feed 43 = .ok (.iastore, 1) := by decide +kernel
theorem dX12_feed_44 : decode cX12_feed 44 = .ok (.aload_n 0, 1) := by decide +kernel
theorem dX12_feed_45 : decode cX12_feed 45 = .ok (.getfield 24, 3) := by decide +kernel
theorem dX12_feed_48 : decode cX12_feed 48 = .ok (.iconst 4, 1) := by decide +kernel
theorem dX12_feed_49 : decode cX12_feed 49 = .ok (.iload 5, 2) := by decide +kernel
theorem dX12_feed_51 : decode cX12_feed 51 = .ok (.iastore, 1) := by decide +kernel
theorem dX12_feed_52 : decode cX12_feed 52 = .ok (.iconst 0, 1) := by decide +kernel
theorem dX12_feed_53 : decode cX12_feed 53 = .ok (.istore 6, 2) := by decide +kernel
theorem dX12_feed_55 : decode cX12_feed 55 = .ok (.iload 6, 2) := by decide +kernel
theorem dX12_feed_57 : decode cX12_feed 57 = .ok (.bipush 20, 2) := by decide +kernel
theorem dX12_feed_59 : decode cX12_feed 59 = .ok (.if_icmp .ge 42, 3) := by decide +kernel
theorem dX12_feed_62 : decode cX12_feed 62 = .ok (.aload_n 0, 1) := by decide +kernel
theorem dX12_feed_63 : decode cX12_feed 63 = .ok (.getfield 20, 3) := by decide +kernel
theorem dX12_feed_66 : decode cX12_feed 66 = .ok (.aload_n 0, 1) := by decide +kernel
theorem dX12_feed_67 : decode cX12_feed 67 = .ok (.getfield 112, 3) := by decide +kernel
theorem dX12_feed_70 : decode cX12_feed 70 = .ok (.iload 6, 2) := by decide +kernel
theorem dX12_feed_72 : decode cX12_feed 72 = .ok (.iadd, 1) := by decide +kernel
theorem dX12_feed_73 : decode cX12_feed 73 = .ok (.aload_n 0, 1) := by decide +kernel
theorem dX12_feed_74 : decode cX12_feed 74 = .ok (.getfield 24, 3) := by decide +kernel
theorem dX12_feed_77 : decode cX12_feed 77 = .ok (.iload 6, 2) := by decide +kernel
theorem dX12_feed_79 : decode cX12_feed 79 = .ok (.iconst 4, 1) := by decide +kernel
theorem dX12_feed_80 : decode cX12_feed 80 = .ok (.idiv, 1) := by decide +kernel
theorem dX12_feed_81 : decode cX12_feed 81 = .ok (.iaload, 1) := by decide +kernel
theorem dX12_feed_82 : decode cX12_feed 82 = .ok (.bipush 24, 2) := by decide +kernel
theorem dX12_feed_84 : decode cX12_feed 84 = .ok (.bipush 8, 2) := by decide +kernel
theorem dX12_feed_86 : decode cX12_feed 86 = .ok (.iload 6, 2) := by decide +kernel
theorem dX12_feed_88 : decode cX12_feed 88 = .ok (.iconst 4, 1) := by decide +kernel
theorem dX12_feed_89 : decode cX12_feed 89 = .ok (.irem, 1) := by decide +kernel
theorem dX12_feed_90 : decode cX12_feed 90 = .ok (.imul, 1) := by decide +kernel
theorem dX12_feed_91 : decode cX12_feed 91 = .ok (.isub, 1) := by decide +kernel
theorem dX12_feed_92 : decode cX12_feed 92 = .ok (.ishr, 1) := by decide +kernel
theorem dX12_feed_93 : decode cX12_feed 93 = .ok (.i2b, 1) := by decide +kernel
theorem dX12_feed_94 : decode cX12_feed 94 = .ok (.bastore, 1) := by decide +kernel
theorem dX12_feed_95 : decode cX12_feed 95 = .ok (.iinc 6 1, 3) := by decide +kernel
theorem dX12_feed_98 : decode cX12_feed 98 = .ok (.goto (-43), 3) := by decide +kernel
theorem dX12_feed_101 : decode cX12_feed 101 = .ok (.aload_n 0, 1) := by decide +kernel
theorem dX12_feed_102 : decode cX12_feed 102 = .ok (.dup, 1) := by decide +kernel
theorem dX12_feed_103 : decode cX12_feed 103 = .ok (.getfield 112, 3) := by decide +kernel
theorem dX12_feed_106 : decode cX12_feed 106 = .ok (.bipush 20, 2) := by decide +kernel
theorem dX12_feed_108 : decode cX12_feed 108 = .ok (.iadd, 1) := by decide +kernel
theorem dX12_feed_109 : decode cX12_feed 109 = .ok (.putfield 112, 3) := by decide +kernel
theorem dX12_feed_112 : decode cX12_feed 112 = .ok (.aload_n 0, 1) := by decide +kernel
theorem dX12_feed_113 : decode cX12_feed 113 = .ok (.getfield 112, 3) := by decide +kernel
theorem dX12_feed_116 : decode cX12_feed 116 = .ok (.ireturn, 1) := by decide +kernel
theorem dX12_end_0 : decode cX12_end 0 = .ok (.iload_n 1, 1) := by decide +kernel
theorem dX12_end_1 : decode cX12_end 1 = .ok (.i2l, 1) := by decide +kernel
theorem dX12_end_2 : decode cX12_end 2 = .ok (.lconst 0, 1) := by decide +kernel
theorem dX12_end_3 : decode cX12_end 3 = .ok (.aload_n 0, 1) := by decide +kernel
theorem dX12_end_4 : decode cX12_end 4 = .ok (.getfield 112, 3) := by decide +kernel
theorem dX12_end_7 : decode cX12_end 7 = .ok (.i2l, 1) := by decide +kernel
theorem dX12_end_8 : decode cX12_end 8 = .ok (.invokestatic 94, 3) := by decide +kernel
theorem dX12_end_11 : decode cX12_end 11 = .ok (.ifCond .ne 5, 3) := by decide +kernel
theorem dX12_end_14 : decode cX12_end 14 = .ok (.iconst (-1), 1) := by decide +kernel
theorem dX12_end_15 : decode cX12_end 15 = .ok (.ireturn, 1) := by decide +kernel
theorem dX12_end_16 : decode cX12_end 16 = .ok (.aload_n 0, 1) := by decide +kernel
theorem dX12_end_17 : decode cX12_end 17 = .ok (.iload_n 1, 1) := by decide +kernel
theorem dX12_end_18 : decode cX12_end 18 = .ok (.putfield 112, 3) := by decide +kernel
theorem dX12_end_21 : decode cX12_end 21 = .ok (.iload_n 1, 1) := by decide +kernel
theorem dX12_end_22 : decode cX12_end 22 = .ok (.ireturn, 1) := by decide +kernel
theorem dX12_see_0 : decode cX12_see 0 = .ok (.iload_n 1, 1) := by decide +kernel
theorem dX12_see_1 : decode cX12_see 1 = .ok (.aload_n 0, 1) := by decide +kernel
theorem dX12_see_2 : decode cX12_see 2 = .ok (.getfield 115, 3) := by decide +kernel
theorem dX12_see_5 : decode cX12_see 5 = .ok (.if_icmp .ge 16, 3) := by decide +kernel
theorem dX12_see_8 : decode cX12_see 8 = .ok (.aload_n 0, 1) := by decide +kernel
theorem dX12_see_9 : decode cX12_see 9 = .ok (.getfield 20, 3) := by decide +kernel
theorem dX12_see_12 : decode cX12_see 12 = .ok (.iload_n 1, 1) := by decide +kernel
theorem dX12_see_13 : decode cX12_see 13 = .ok (.baload, 1) := by decide +kernel
theorem dX12_see_14 : decode cX12_see 14 = .ok (.sipush 255, 3) := by decide +kernel
theorem dX12_see_17 : decode cX12_see 17 = .ok (.iand, 1) := by decide +kernel
theorem dX12_see_18 : decode cX12_see 18 = .ok (.goto 4, 3) := by decide +kernel
theorem dX12_see_21 : decode cX12_see 21 = .ok (.iconst (-1), 1) := by decide +kernel
theorem dX12_see_22 : decode cX12_see 22 = .ok (.ireturn, 1) := by decide +kernel
theorem dX12_advance_0 : decode cX12_advance 0 = .ok (.aload_n 0, 1) := by decide +kernel
theorem dX12_advance_1 : decode cX12_advance 1 = .ok (.aload_n 0, 1) := by decide +kernel
theorem dX12_advance_2 : decode cX12_advance 2 = .ok (.getfield 118, 3) := by decide +kernel
theorem dX12_advance_5 : decode cX12_advance 5 = .ok (.invokevirtual 120, 3) := by decide +kernel
theorem dX12_advance_8 : decode cX12_advance 8 = .ok (.bipush 32, 2) := by decide +kernel
theorem dX12_advance_10 : decode cX12_advance 10 = .ok (.if_icmp .eq 16, 3) := by decide +kernel
theorem dX12_advance_13 : decode cX12_advance 13 = .ok (.aload_n 0, 1) := by decide +kernel
theorem dX12_advance_14 : decode cX12_advance 14 = .ok (.aload_n 0, 1) := by decide +kernel
theorem dX12_advance_15 : decode cX12_advance 15 = .ok (.getfield 118, 3) := by decide +kernel
theorem dX12_advance_18 : decode cX12_advance 18 = .ok (.invokevirtual 120, 3) := by decide +kernel
theorem dX12_advance_21 : decode cX12_advance 21 = .ok (.bipush 10, 2) := by decide +kernel
theorem dX12_advance_23 : decode cX12_advance 23 = .ok (.if_icmp .ne 16, 3) := by decide +kernel
theorem dX12_advance_26 : decode cX12_advance 26 = .ok (.aload_n 0, 1) := by decide +kernel
theorem dX12_advance_27 : decode cX12_advance 27 = .ok (.dup, 1) := by decide +kernel
theorem dX12_advance_28 : decode cX12_advance 28 = .ok (.getfield 118, 3) := by decide +kernel
theorem dX12_advance_31 : decode cX12_advance 31 = .ok (.iconst 1, 1) := by decide +kernel
theorem dX12_advance_32 : decode cX12_advance 32 = .ok (.iadd, 1) := by decide +kernel
theorem dX12_advance_33 : decode cX12_advance 33 = .ok (.putfield 118, 3) := by decide +kernel
theorem dX12_advance_36 : decode cX12_advance 36 = .ok (.goto (-36), 3) := by decide +kernel
theorem dX12_advance_39 : decode cX12_advance 39 = .ok (.aload_n 0, 1) := by decide +kernel
theorem dX12_advance_40 : decode cX12_advance 40 = .ok (.aload_n 0, 1) := by decide +kernel
theorem dX12_advance_41 : decode cX12_advance 41 = .ok (.getfield 118, 3) := by decide +kernel
theorem dX12_advance_44 : decode cX12_advance 44 = .ok (.putfield 124, 3) := by decide +kernel
theorem dX12_advance_47 : decode cX12_advance 47 = .ok (.aload_n 0, 1) := by decide +kernel
theorem dX12_advance_48 : decode cX12_advance 48 = .ok (.aload_n 0, 1) := by decide +kernel
theorem dX12_advance_49 : decode cX12_advance 49 = .ok (.getfield 118, 3) := by decide +kernel
theorem dX12_advance_52 : decode cX12_advance 52 = .ok (.invokevirtual 120, 3) := by decide +kernel
theorem dX12_advance_55 : decode cX12_advance 55 = .ok (.istore_n 1, 1) := by decide +kernel
theorem dX12_advance_56 : decode cX12_advance 56 = .ok (.iload_n 1, 1) := by decide +kernel
theorem dX12_advance_57 : decode cX12_advance 57 = .ok (.iconst (-1), 1) := by decide +kernel
theorem dX12_advance_58 : decode cX12_advance 58 = .ok (.if_icmp .ne 11, 3) := by decide +kernel
theorem dX12_advance_61 : decode cX12_advance 61 = .ok (.aload_n 0, 1) := by decide +kernel
theorem dX12_advance_62 : decode cX12_advance 62 = .ok (.iconst 0, 1) := by decide +kernel
theorem dX12_advance_63 : decode cX12_advance 63 = .ok (.putfield 127, 3) := by decide +kernel
theorem dX12_advance_66 : decode cX12_advance 66 = .ok (.goto 173, 3) := by decide +kernel
theorem dX12_advance_69 : decode cX12_advance 69 = .ok (.iload_n 1, 1) := by decide +kernel
theorem dX12_advance_70 : decode cX12_advance 70 = .ok (.i2l, 1) := by decide +kernel
theorem dX12_advance_71 : decode cX12_advance 71 = .ok (.ldc2_w 130, 3) := by decide +kernel
theorem dX12_advance_74 : decode cX12_advance 74 = .ok (.ldc2_w 132, 3) := by decide +kernel
theorem dX12_advance_77 : decode cX12_advance 77 = .ok (.invokestatic 94, 3) := by decide +kernel
theorem dX12_advance_80 : decode cX12_advance 80 = .ok (.ifCond .eq 45, 3) := by decide +kernel
theorem dX12_advance_83 : decode cX12_advance 83 = .ok (.aload_n 0, 1) := by decide +kernel
theorem dX12_advance_84 : decode cX12_advance 84 = .ok (.aload_n 0, 1) := by decide +kernel
theorem dX12_advance_85 : decode cX12_advance 85 = .ok (.getfield 118, 3) := by decide +kernel
theorem dX12_advance_88 : decode cX12_advance 88 = .ok (.invokevirtual 120, 3) := by decide +kernel
theorem dX12_advance_91 : decode cX12_advance 91 = .ok (.i2l, 1) := by decide +kernel
theorem dX12_advance_92 : decode cX12_advance 92 = .ok (.ldc2_w 130, 3) := by decide +kernel
theorem dX12_advance_95 : decode cX12_advance 95 = .ok (.ldc2_w 132, 3) := by decide +kernel
theorem dX12_advance_98 : decode cX12_advance 98 = .ok (.invokestatic 94, 3) := by decide +kernel
theorem dX12_advance_101 : decode cX12_advance 101 = .ok (.ifCond .eq 16, 3) := by decide +kernel
theorem dX12_advance_104 : decode cX12_advance 104 = .ok (.aload_n 0, 1) := by decide +kernel
theorem dX12_advance_105 : decode cX12_advance 105 = .ok (.dup, 1) := by decide +kernel
theorem dX12_advance_106 : decode cX12_advance 106 = .ok (.getfield 118, 3) := by decide +kernel
theorem dX12_advance_109 : decode cX12_advance 109 = .ok (.iconst 1, 1) := by decide +kernel
theorem dX12_advance_110 : decode cX12_advance 110 = .ok (.iadd, 1) := by decide +kernel
theorem dX12_advance_111 : decode cX12_advance 111 = .ok (.putfield 118, 3) := by decide +kernel
theorem dX12_advance_114 : decode cX12_advance 114 = .ok (.goto (-31), 3) := by decide +kernel
theorem dX12_advance_117 : decode cX12_advance 117 = .ok (.aload_n 0, 1) := by decide +kernel
theorem dX12_advance_118 : decode cX12_advance 118 = .ok (.iconst 1, 1) := by decide +kernel
theorem dX12_advance_119 : decode cX12_advance 119 = .ok (.putfield 127, 3) := by decide +kernel
theorem dX12_advance_122 : decode cX12_advance 122 = .ok (.goto 117, 3) := by decide +kernel
theorem dX12_advance_125 : decode cX12_advance 125 = .ok (.iload_n 1, 1) := by decide +kernel
theorem dX12_advance_126 : decode cX12_advance 126 = .ok (.i2l, 1) := by decide +kernel
theorem dX12_advance_127 : decode cX12_advance 127 = .ok (.ldc2_w 134, 3) := by decide +kernel
theorem dX12_advance_130 : decode cX12_advance 130 = .ok (.ldc2_w 136, 3) := by decide +kernel
theorem dX12_advance_133 : decode cX12_advance 133 = .ok (.invokestatic 94, 3) := by decide +kernel
theorem dX12_advance_136 : decode cX12_advance 136 = .ok (.ifCond .eq 78, 3) := by decide +kernel
theorem dX12_advance_139 : decode cX12_advance 139 = .ok (.aload_n 0, 1) := by decide +kernel
theorem dX12_advance_140 : decode cX12_advance 140 = .ok (.iconst 0, 1) := by decide +kernel
theorem dX12_advance_141 : decode cX12_advance 141 = .ok (.putfield 138, 3) := by decide +kernel
theorem dX12_advance_144 : decode cX12_advance 144 = .ok (.aload_n 0, 1) := by decide +kernel
theorem dX12_advance_145 : decode cX12_advance 145 = .ok (.aload_n 0, 1) := by decide +kernel
theorem dX12_advance_146 : decode cX12_advance 146 = .ok (.getfield 118, 3) := by decide +kernel
theorem dX12_advance_149 : decode cX12_advance 149 = .ok (.invokevirtual 120, 3) := by decide +kernel
theorem dX12_advance_152 : decode cX12_advance 152 = .ok (.i2l, 1) := by decide +kernel
theorem dX12_advance_153 : decode cX12_advance 153 = .ok (.ldc2_w 134, 3) := by decide +kernel
theorem dX12_advance_156 : decode cX12_advance 156 = .ok (.ldc2_w 136, 3) := by decide +kernel
theorem dX12_advance_159 : decode cX12_advance 159 = .ok (.invokestatic 94, 3) := by decide +kernel
theorem dX12_advance_162 : decode cX12_advance 162 = .ok (.ifCond .eq 44, 3) := by decide +kernel
theorem dX12_advance_165 : decode cX12_advance 165 = .ok (.aload_n 0, 1) := by decide +kernel
theorem dX12_advance_166 : decode cX12_advance 166 = .ok (.ldc 141, 2) := by decide +kernel
theorem dX12_advance_168 : decode cX12_advance 168 = .ok (.bipush 10, 2) := by decide +kernel
theorem dX12_advance_170 : decode cX12_advance 170 = .ok (.aload_n 0, 1) := by decide +kernel
theorem dX12_advance_171 : decode cX12_advance 171 = .ok (.getfield 138, 3) := by decide +kernel
theorem dX12_advance_174 : decode cX12_advance 174 = .ok (.imul, 1) := by decide +kernel
theorem dX12_advance_175 : decode cX12_advance 175 = .ok (.aload_n 0, 1) := by decide +kernel
theorem dX12_advance_176 : decode cX12_advance 176 = .ok (.aload_n 0, 1) := by decide +kernel
theorem dX12_advance_177 : decode cX12_advance 177 = .ok (.getfield 118, 3) := by decide +kernel
theorem dX12_advance_180 : decode cX12_advance 180 = .ok (.invokevirtual 120, 3) := by decide +kernel
theorem dX12_advance_183 : decode cX12_advance 183 = .ok (.iadd, 1) := by decide +kernel
theorem dX12_advance_184 : decode cX12_advance 184 = .ok (.bipush 48, 2) := by decide +kernel
theorem dX12_advance_186 : decode cX12_advance 186 = .ok (.isub, 1) := by decide +kernel
theorem dX12_advance_187 : decode cX12_advance 187 = .ok (.invokestatic 142, 3) := by decide +kernel
theorem dX12_advance_190 : decode cX12_advance 190 = .ok (.putfield 138, 3) := by decide +kernel
theorem dX12_advance_193 : decode cX12_advance 193 = .ok (.aload_n 0, 1) := by decide +kernel
theorem dX12_advance_194 : decode cX12_advance 194 = .ok (.dup, 1) := by decide +kernel
theorem dX12_advance_195 : decode cX12_advance 195 = .ok (.getfield 118, 3) := by decide +kernel
theorem dX12_advance_198 : decode cX12_advance 198 = .ok (.iconst 1, 1) := by decide +kernel
theorem dX12_advance_199 : decode cX12_advance 199 = .ok (.iadd, 1) := by decide +kernel
theorem dX12_advance_200 : decode cX12_advance 200 = .ok (.putfield 118, 3) := by decide +kernel
theorem dX12_advance_203 : decode cX12_advance 203 = .ok (.goto (-59), 3) := by decide +kernel
theorem dX12_advance_206 : decode cX12_advance 206 = .ok (.aload_n 0, 1) := by decide +kernel
theorem dX12_advance_207 : decode cX12_advance 207 = .ok (.iconst 2, 1) := by decide +kernel
theorem dX12_advance_208 : decode cX12_advance 208 = .ok (.putfield 127, 3) := by decide +kernel
theorem dX12_advance_211 : decode cX12_advance 211 = .ok (.goto 28, 3) := by decide +kernel
theorem dX12_advance_214 : decode cX12_advance 214 = .ok (.aload_n 0, 1) := by decide +kernel
theorem dX12_advance_215 : decode cX12_advance 215 = .ok (.iload_n 1, 1) := by decide +kernel
theorem dX12_advance_216 : decode cX12_advance 216 = .ok (.bipush 59, 2) := by decide +kernel
theorem dX12_advance_218 : decode cX12_advance 218 = .ok (.if_icmp .ne 7, 3) := by decide +kernel
theorem dX12_advance_221 : decode cX12_advance 221 = .ok (.iconst 3, 1) := by decide +kernel
theorem dX12_advance_222 : decode cX12_advance 222 = .ok (.goto 4, 3) := by decide +kernel
theorem dX12_advance_225 : decode cX12_advance 225 = .ok (.iconst 4, 1) := by decide +kernel
theorem dX12_advance_226 : decode cX12_advance 226 = .ok (.putfield 127, 3) := by decide +kernel
theorem dX12_advance_229 : decode cX12_advance 229 = .ok (.aload_n 0, 1) := by decide +kernel
theorem dX12_advance_230 : decode cX12_advance 230 = .ok (.dup, 1) := by decide +kernel
theorem dX12_advance_231 : decode cX12_advance 231 = .ok (.getfield 118, 3) := by decide +kernel
theorem dX12_advance_234 : decode cX12_advance 234 = .ok (.iconst 1, 1) := by decide +kernel
theorem dX12_advance_235 : decode cX12_advance 235 = .ok (.iadd, 1) := by decide +kernel
theorem dX12_advance_236 : decode cX12_advance 236 = .ok (.putfield 118, 3) := by decide +kernel
theorem dX12_advance_239 : decode cX12_advance 239 = .ok (.return_, 1) := by decide +kernel
theorem dX12_good_0 : decode cX12_good 0 = .ok (.aload_n 0, 1) := by decide +kernel
theorem dX12_good_1 : decode cX12_good 1 = .ok (.getfield 147, 3) := by decide +kernel
theorem dX12_good_4 : decode cX12_good 4 = .ok (.ifCond .ne 7, 3) := by decide +kernel
theorem dX12_good_7 : decode cX12_good 7 = .ok (.iconst 1, 1) := by decide +kernel
theorem dX12_good_8 : decode cX12_good 8 = .ok (.goto 4, 3) := by decide +kernel
theorem dX12_good_11 : decode cX12_good 11 = .ok (.iconst 0, 1) := by decide +kernel
theorem dX12_good_12 : decode cX12_good 12 = .ok (.ireturn, 1) := by decide +kernel
theorem dX12_errs_0 : decode cX12_errs 0 = .ok (.aload_n 0, 1) := by decide +kernel
theorem dX12_errs_1 : decode cX12_errs 1 = .ok (.invokevirtual 150, 3) := by decide +kernel
theorem dX12_errs_4 : decode cX12_errs 4 = .ok (.ifCond .ne 4, 3) := by decide +kernel
theorem dX12_errs_7 : decode cX12_errs 7 = .ok (.return_, 1) := by decide +kernel
theorem dX12_errs_8 : decode cX12_errs 8 = .ok (.aload_n 0, 1) := by decide +kernel
theorem dX12_errs_9 : decode cX12_errs 9 = .ok (.iload_n 1, 1) := by decide +kernel
theorem dX12_errs_10 : decode cX12_errs 10 = .ok (.putfield 147, 3) := by decide +kernel
theorem dX12_errs_13 : decode cX12_errs 13 = .ok (.aload_n 0, 1) := by decide +kernel
theorem dX12_errs_14 : decode cX12_errs 14 = .ok (.aload_n 0, 1) := by decide +kernel
theorem dX12_errs_15 : decode cX12_errs 15 = .ok (.getfield 124, 3) := by decide +kernel
theorem dX12_errs_18 : decode cX12_errs 18 = .ok (.putfield 27, 3) := by decide +kernel
theorem dX12_errs_21 : decode cX12_errs 21 = .ok (.return_, 1) := by decide +kernel
theorem dX12_is_0 : decode cX12_is 0 = .ok (.aload_n 0, 1) := by decide +kernel
theorem dX12_is_1 : decode cX12_is 1 = .ok (.invokevirtual 150, 3) := by decide +kernel
theorem dX12_is_4 : decode cX12_is 4 = .ok (.ifCond .eq 31, 3) := by decide +kernel
theorem dX12_is_7 : decode cX12_is 7 = .ok (.aload_n 0, 1) := by decide +kernel
theorem dX12_is_8 : decode cX12_is 8 = .ok (.getfield 127, 3) := by decide +kernel
theorem dX12_is_11 : decode cX12_is 11 = .ok (.iconst 1, 1) := by decide +kernel
theorem dX12_is_12 : decode cX12_is 12 = .ok (.if_icmp .ne 23, 3) := by decide +kernel
theorem dX12_is_15 : decode cX12_is 15 = .ok (.aload_n 0, 1) := by decide +kernel
theorem dX12_is_16 : decode cX12_is 16 = .ok (.getfield 118, 3) := by decide +kernel
theorem dX12_is_19 : decode cX12_is 19 = .ok (.aload_n 0, 1) := by decide +kernel
theorem dX12_is_20 : decode cX12_is 20 = .ok (.getfield 124, 3) := by decide +kernel
theorem dX12_is_23 : decode cX12_is 23 = .ok (.isub, 1) := by decide +kernel
theorem dX12_is_24 : decode cX12_is 24 = .ok (.aload_n 1, 1) := by decide +kernel
theorem dX12_is_25 : decode cX12_is 25 = .ok (.invokevirtual 154, 3) := by decide +kernel
theorem dX12_is_28 : decode cX12_is 28 = .ok (.if_icmp .ne 7, 3) := by decide +kernel
theorem dX12_is_31 : decode cX12_is 31 = .ok (.iconst 1, 1) := by decide +kernel
theorem dX12_is_32 : decode cX12_is 32 = .ok (.goto 4, 3) := by decide +kernel
theorem dX12_is_35 : decode cX12_is 35 = .ok (.iconst 0, 1) := by decide +kernel
theorem dX12_is_36 : decode cX12_is 36 = .ok (.istore_n 2, 1) := by decide +kernel
theorem dX12_is_37 : decode cX12_is 37 = .ok (.iconst 0, 1) := by decide +kernel
theorem dX12_is_38 : decode cX12_is 38 = .ok (.istore_n 3, 1) := by decide +kernel
theorem dX12_is_39 : decode cX12_is 39 = .ok (.iload_n 3, 1) := by decide +kernel
theorem dX12_is_40 : decode cX12_is 40 = .ok (.aload_n 1, 1) := by decide +kernel
theorem dX12_is_41 : decode cX12_is 41 = .ok (.invokevirtual 154, 3) := by decide +kernel
theorem dX12_is_44 : decode cX12_is 44 = .ok (.if_icmp .ge 38, 3) := by decide +kernel
theorem dX12_is_47 : decode cX12_is 47 = .ok (.iload_n 2, 1) := by decide +kernel
theorem dX12_is_48 : decode cX12_is 48 = .ok (.ifCond .eq 34, 3) := by decide +kernel
theorem dX12_is_51 : decode cX12_is 51 = .ok (.aload_n 0, 1) := by decide +kernel
theorem dX12_is_52 : decode cX12_is 52 = .ok (.getfield 20, 3) := by decide +kernel
theorem dX12_is_55 : decode cX12_is 55 = .ok (.aload_n 0, 1) := by decide +kernel
theorem dX12_is_56 : decode cX12_is 56 = .ok (.getfield 124, 3) := by decide +kernel
theorem dX12_is_59 : decode cX12_is 59 = .ok (.iload_n 3, 1) := by decide +kernel
theorem dX12_is_60 : decode cX12_is 60 = .ok (.iadd, 1) := by decide +kernel
theorem dX12_is_61 : decode cX12_is 61 = .ok (.baload, 1) := by decide +kernel
theorem dX12_is_62 : decode cX12_is 62 = .ok (.aload_n 1, 1) := by decide +kernel
theorem dX12_is_63 : decode cX12_is 63 = .ok (.iload_n 3, 1) := by decide +kernel
theorem dX12_is_64 : decode cX12_is 64 = .ok (.invokevirtual 160, 3) := by decide +kernel
theorem dX12_is_67 : decode cX12_is 67 = .ok (.if_icmp .ne 7, 3) := by decide +kernel
theorem dX12_is_70 : decode cX12_is 70 = .ok (.iconst 1, 1) := by decide +kernel
theorem dX12_is_71 : decode cX12_is 71 = .ok (.goto 4, 3) := by decide +kernel
theorem dX12_is_74 : decode cX12_is 74 = .ok (.iconst 0, 1) := by decide +kernel
theorem dX12_is_75 : decode cX12_is 75 = .ok (.istore_n 2, 1) := by decide +kernel
theorem dX12_is_76 : decode cX12_is 76 = .ok (.iinc 3 1, 3) := by decide +kernel
theorem dX12_is_79 : decode cX12_is 79 = .ok (.goto (-40), 3) := by decide +kernel
theorem dX12_is_82 : decode cX12_is 82 = .ok (.iload_n 2, 1) := by decide +kernel
theorem dX12_is_83 : decode cX12_is 83 = .ok (.ireturn, 1) := by decide +kernel
theorem dX12_takes_0 : decode cX12_takes 0 = .ok (.aload_n 0, 1) := by decide +kernel
theorem dX12_takes_1 : decode cX12_takes 1 = .ok (.aload_n 1, 1) := by decide +kernel
theorem dX12_takes_2 : decode cX12_takes 2 = .ok (.invokevirtual 164, 3) := by decide +kernel
theorem dX12_takes_5 : decode cX12_takes 5 = .ok (.istore_n 2, 1) := by decide +kernel
theorem dX12_takes_6 : decode cX12_takes 6 = .ok (.iload_n 2, 1) := by decide +kernel
theorem dX12_takes_7 : decode cX12_takes 7 = .ok (.ifCond .eq 7, 3) := by decide +kernel
theorem dX12_takes_10 : decode cX12_takes 10 = .ok (.aload_n 0, 1) := by decide +kernel
theorem dX12_takes_11 : decode cX12_takes 11 = .ok (.invokevirtual 168, 3) := by decide +kernel
theorem dX12_takes_14 : decode cX12_takes 14 = .ok (.iload_n 2, 1) := by decide +kernel
theorem dX12_takes_15 : decode cX12_takes 15 = .ok (.ireturn, 1) := by decide +kernel
theorem dX12_needs_0 : decode cX12_needs 0 = .ok (.aload_n 0, 1) := by decide +kernel
theorem dX12_needs_1 : decode cX12_needs 1 = .ok (.aload_n 1, 1) := by decide +kernel
theorem dX12_needs_2 : decode cX12_needs 2 = .ok (.invokevirtual 171, 3) := by decide +kernel
theorem dX12_needs_5 : decode cX12_needs 5 = .ok (.ifCond .ne 8, 3) := by decide +kernel
theorem dX12_needs_8 : decode cX12_needs 8 = .ok (.aload_n 0, 1) := by decide +kernel
theorem dX12_needs_9 : decode cX12_needs 9 = .ok (.iconst 1, 1) := by decide +kernel
theorem dX12_needs_10 : decode cX12_needs 10 = .ok (.invokevirtual 174, 3) := by decide +kernel
theorem dX12_needs_13 : decode cX12_needs 13 = .ok (.return_, 1) := by decide +kernel
theorem dX12_number_0 : decode cX12_number 0 = .ok (.aload_n 0, 1) := by decide +kernel
theorem dX12_number_1 : decode cX12_number 1 = .ok (.invokevirtual 150, 3) := by decide +kernel
theorem dX12_number_4 : decode cX12_number 4 = .ok (.ifCond .eq 16, 3) := by decide +kernel
theorem dX12_number_7 : decode cX12_number 7 = .ok (.aload_n 0, 1) := by decide +kernel
theorem dX12_number_8 : decode cX12_number 8 = .ok (.getfield 127, 3) := by decide +kernel
theorem dX12_number_11 : decode cX12_number 11 = .ok (.iconst 2, 1) := by decide +kernel
theorem dX12_number_12 : decode cX12_number 12 = .ok (.if_icmp .eq 8, 3) := by decide +kernel
theorem dX12_number_15 : decode cX12_number 15 = .ok (.aload_n 0, 1) := by decide +kernel
theorem dX12_number_16 : decode cX12_number 16 = .ok (.iconst 1, 1) := by decide +kernel
theorem dX12_number_17 : decode cX12_number 17 = .ok (.invokevirtual 174, 3) := by decide +kernel
theorem dX12_number_20 : decode cX12_number 20 = .ok (.aload_n 0, 1) := by decide +kernel
theorem dX12_number_21 : decode cX12_number 21 = .ok (.invokevirtual 150, 3) := by decide +kernel
theorem dX12_number_24 : decode cX12_number 24 = .ok (.ifCond .eq 23, 3) := by decide +kernel
theorem dX12_number_27 : decode cX12_number 27 = .ok (.aload_n 0, 1) := by decide +kernel
theorem dX12_number_28 : decode cX12_number 28 = .ok (.getfield 138, 3) := by decide +kernel
theorem dX12_number_31 : decode cX12_number 31 = .ok (.i2l, 1) := by decide +kernel
theorem dX12_number_32 : decode cX12_number 32 = .ok (.iload_n 1, 1) := by decide +kernel
theorem dX12_number_33 : decode cX12_number 33 = .ok (.i2l, 1) := by decide +kernel
theorem dX12_number_34 : decode cX12_number 34 = .ok (.iload_n 2, 1) := by decide +kernel
theorem dX12_number_35 : decode cX12_number 35 = .ok (.i2l, 1) := by decide +kernel
theorem dX12_number_36 : decode cX12_number 36 = .ok (.invokestatic 94, 3) := by decide +kernel
theorem dX12_number_39 : decode cX12_number 39 = .ok (.ifCond .ne 8, 3) := by decide +kernel
theorem dX12_number_42 : decode cX12_number 42 = .ok (.aload_n 0, 1) := by decide +kernel
theorem dX12_number_43 : decode cX12_number 43 = .ok (.iconst 2, 1) := by decide +kernel
theorem dX12_number_44 : decode cX12_number 44 = .ok (.invokevirtual 174, 3) := by decide +kernel
theorem dX12_number_47 : decode cX12_number 47 = .ok (.aload_n 0, 1) := by decide +kernel
theorem dX12_number_48 : decode cX12_number 48 = .ok (.invokevirtual 150, 3) := by decide +kernel
theorem dX12_number_51 : decode cX12_number 51 = .ok (.ifCond .ne 5, 3) := by decide +kernel
theorem dX12_number_54 : decode cX12_number 54 = .ok (.iconst 0, 1) := by decide +kernel
theorem dX12_number_55 : decode cX12_number 55 = .ok (.ireturn, 1) := by decide +kernel
theorem dX12_number_56 : decode cX12_number 56 = .ok (.aload_n 0, 1) := by decide +kernel
theorem dX12_number_57 : decode cX12_number 57 = .ok (.getfield 138, 3) := by decide +kernel
theorem dX12_number_60 : decode cX12_number 60 = .ok (.istore_n 3, 1) := by decide +kernel
theorem dX12_number_61 : decode cX12_number 61 = .ok (.aload_n 0, 1) := by decide +kernel
theorem dX12_number_62 : decode cX12_number 62 = .ok (.invokevirtual 168, 3) := by decide +kernel
theorem dX12_number_65 : decode cX12_number 65 = .ok (.iload_n 3, 1) := by decide +kernel
theorem dX12_number_66 : decode cX12_number 66 = .ok (.ireturn, 1) := by decide +kernel
theorem dX12_told_0 : decode cX12_told 0 = .ok (.aload_n 0, 1) := by decide +kernel
theorem dX12_told_1 : decode cX12_told 1 = .ok (.aload_n 1, 1) := by decide +kernel
theorem dX12_told_2 : decode cX12_told 2 = .ok (.invokevirtual 178, 3) := by decide +kernel
theorem dX12_told_5 : decode cX12_told 5 = .ok (.aload_n 0, 1) := by decide +kernel
theorem dX12_told_6 : decode cX12_told 6 = .ok (.iload_n 2, 1) := by decide +kernel
theorem dX12_told_7 : decode cX12_told 7 = .ok (.iload_n 3, 1) := by decide +kernel
theorem dX12_told_8 : decode cX12_told 8 = .ok (.invokevirtual 182, 3) := by decide +kernel
theorem dX12_told_11 : decode cX12_told 11 = .ok (.ireturn, 1) := by decide +kernel
theorem dX12_fault_0 : decode cX12_fault 0 = .ok (.iload_n 1, 1) := by decide +kernel
theorem dX12_fault_1 : decode cX12_fault 1 = .ok (.ifCond .ne 10, 3) := by decide +kernel
theorem dX12_fault_4 : decode cX12_fault 4 = .ok (.aload_n 0, 1) := by decide +kernel
theorem dX12_fault_5 : decode cX12_fault 5 = .ok (.getfield 147, 3) := by decide +kernel
theorem dX12_fault_8 : decode cX12_fault 8 = .ok (.goto 16, 3) := by decide +kernel
theorem dX12_fault_11 : decode cX12_fault 11 = .ok (.iload_n 1, 1) := by decide +kernel
theorem dX12_fault_12 : decode cX12_fault 12 = .ok (.iconst 1, 1) := by decide +kernel
theorem dX12_fault_13 : decode cX12_fault 13 = .ok (.if_icmp .ne 10, 3) := by decide +kernel
theorem dX12_fault_16 : decode cX12_fault 16 = .ok (.aload_n 0, 1) := by decide +kernel
theorem dX12_fault_17 : decode cX12_fault 17 = .ok (.getfield 27, 3) := by decide +kernel
theorem dX12_fault_20 : decode cX12_fault 20 = .ok (.goto 4, 3) := by decide +kernel
theorem dX12_fault_23 : decode cX12_fault 23 = .ok (.iconst (-1), 1) := by decide +kernel
theorem dX12_fault_24 : decode cX12_fault 24 = .ok (.ireturn, 1) := by decide +kernel
theorem dX12_freshThing_0 : decode cX12_freshThing 0 = .ok (.aload_n 0, 1) := by decide +kernel
theorem dX12_freshThing_1 : decode cX12_freshThing 1 = .ok (.iconst 0, 1) := by decide +kernel
theorem dX12_freshThing_2 : decode cX12_freshThing 2 = .ok (.aload_n 0, 1) := by decide +kernel
theorem dX12_freshThing_3 : decode cX12_freshThing 3 = .ok (.getfield 31, 3) := by decide +kernel
theorem dX12_freshThing_6 : decode cX12_freshThing 6 = .ok (.iconst 1, 1) := by decide +kernel
theorem dX12_freshThing_7 : decode cX12_freshThing 7 = .ok (.iaload, 1) := by decide +kernel
theorem dX12_freshThing_8 : decode cX12_freshThing 8 = .ok (.iconst 1, 1) := by decide +kernel
theorem dX12_freshThing_9 : decode cX12_freshThing 9 = .ok (.isub, 1) := by decide +kernel
theorem dX12_freshThing_10 : decode cX12_freshThing 10 = .ok (.invokevirtual 182, 3) := by decide +kernel
theorem dX12_freshThing_13 : decode cX12_freshThing 13 = .ok (.ireturn, 1) := by decide +kernel
theorem dX12_readThing_0 : decode cX12_readThing 0 = .ok (.aload_n 0, 1) := by decide +kernel
theorem dX12_readThing_1 : decode cX12_readThing 1 = .ok (.getfield 31, 3) := by decide +kernel
theorem dX12_readThing_4 : decode cX12_readThing 4 = .ok (.iconst 1, 1) := by decide +kernel
theorem dX12_readThing_5 : decode cX12_readThing 5 = .ok (.iaload, 1) := by decide +kernel
theorem dX12_readThing_6 : decode cX12_readThing 6 = .ok (.istore_n 1, 1) := by decide +kernel
theorem dX12_readThing_7 : decode cX12_readThing 7 = .ok (.aload_n 0, 1) := by decide +kernel
theorem dX12_readThing_8 : decode cX12_readThing 8 = .ok (.ldc 185, 2) := by decide +kernel
theorem dX12_readThing_10 : decode cX12_readThing 10 = .ok (.iconst 0, 1) := by decide +kernel
theorem dX12_readThing_11 : decode cX12_readThing 11 = .ok (.bipush 99, 2) := by decide +kernel
theorem dX12_readThing_13 : decode cX12_readThing 13 = .ok (.invokevirtual 187, 3) := by decide +kernel
theorem dX12_readThing_16 : decode cX12_readThing 16 = .ok (.istore_n 2, 1) := by decide +kernel
theorem dX12_readThing_17 : decode cX12_readThing 17 = .ok (.aload_n 0, 1) := by decide +kernel
theorem dX12_readThing_18 : decode cX12_readThing 18 = .ok (.getfield 31, 3) := by decide +kernel
theorem dX12_readThing_21 : decode cX12_readThing 21 = .ok (.bipush 6, 2) := by decide +kernel
theorem dX12_readThing_23 : decode cX12_readThing 23 = .ok (.iload_n 1, 1) := by decide +kernel
theorem dX12_readThing_24 : decode cX12_readThing 24 = .ok (.iadd, 1) := by decide +kernel
theorem dX12_readThing_25 : decode cX12_readThing 25 = .ok (.aload_n 0, 1) := by decide +kernel
theorem dX12_readThing_26 : decode cX12_readThing 26 = .ok (.ldc 191, 2) := by decide +kernel
theorem dX12_readThing_28 : decode cX12_readThing 28 = .ok (.iconst 0, 1) := by decide +kernel
theorem dX12_readThing_29 : decode cX12_readThing 29 = .ok (.bipush 30, 2) := by decide +kernel
theorem dX12_readThing_31 : decode cX12_readThing 31 = .ok (.invokevirtual 187, 3) := by decide +kernel
theorem dX12_readThing_34 : decode cX12_readThing 34 = .ok (.iastore, 1) := by decide +kernel
theorem dX12_readThing_35 : decode cX12_readThing 35 = .ok (.iconst 0, 1) := by decide +kernel
theorem dX12_readThing_36 : decode cX12_readThing 36 = .ok (.istore_n 3, 1) := by decide +kernel
theorem dX12_readThing_37 : decode cX12_readThing 37 = .ok (.iload_n 3, 1) := by decide +kernel
theorem dX12_readThing_38 : decode cX12_readThing 38 = .ok (.bipush 20, 2) := by decide +kernel
theorem dX12_readThing_40 : decode cX12_readThing 40 = .ok (.if_icmp .ge 52, 3) := by decide +kernel
theorem dX12_readThing_43 : decode cX12_readThing 43 = .ok (.aload_n 0, 1) := by decide +kernel
theorem dX12_readThing_44 : decode cX12_readThing 44 = .ok (.getfield 31, 3) := by decide +kernel
theorem dX12_readThing_47 : decode cX12_readThing 47 = .ok (.bipush 11, 2) := by decide +kernel
theorem dX12_readThing_49 : decode cX12_readThing 49 = .ok (.iload_n 1, 1) := by decide +kernel
theorem dX12_readThing_50 : decode cX12_readThing 50 = .ok (.iload_n 3, 1) := by decide +kernel
theorem dX12_readThing_51 : decode cX12_readThing 51 = .ok (.invokestatic 105, 3) := by decide +kernel
theorem dX12_readThing_54 : decode cX12_readThing 54 = .ok (.iadd, 1) := by decide +kernel
theorem dX12_readThing_55 : decode cX12_readThing 55 = .ok (.iload_n 2, 1) := by decide +kernel
theorem dX12_readThing_56 : decode cX12_readThing 56 = .ok (.iastore, 1) := by decide +kernel
theorem dX12_readThing_57 : decode cX12_readThing 57 = .ok (.aload_n 0, 1) := by decide +kernel
theorem dX12_readThing_58 : decode cX12_readThing 58 = .ok (.getfield 31, 3) := by decide +kernel
theorem dX12_readThing_61 : decode cX12_readThing 61 = .ok (.bipush 111, 2) := by decide +kernel
theorem dX12_readThing_63 : decode cX12_readThing 63 = .ok (.iload_n 1, 1) := by decide +kernel
theorem dX12_readThing_64 : decode cX12_readThing 64 = .ok (.iload_n 3, 1) := by decide +kernel
theorem dX12_readThing_65 : decode cX12_readThing 65 = .ok (.invokestatic 105, 3) := by decide +kernel
theorem dX12_readThing_68 : decode cX12_readThing 68 = .ok (.iadd, 1) := by decide +kernel
theorem dX12_readThing_69 : decode cX12_readThing 69 = .ok (.iload_n 2, 1) := by decide +kernel
theorem dX12_readThing_70 : decode cX12_readThing 70 = .ok (.iastore, 1) := by decide +kernel
theorem dX12_readThing_71 : decode cX12_readThing 71 = .ok (.aload_n 0, 1) := by decide +kernel
theorem dX12_readThing_72 : decode cX12_readThing 72 = .ok (.getfield 31, 3) := by decide +kernel
theorem dX12_readThing_75 : decode cX12_readThing 75 = .ok (.sipush 211, 3) := by decide +kernel
theorem dX12_readThing_78 : decode cX12_readThing 78 = .ok (.iload_n 1, 1) := by decide +kernel
theorem dX12_readThing_79 : decode cX12_readThing 79 = .ok (.iload_n 3, 1) := by decide +kernel
theorem dX12_readThing_80 : decode cX12_readThing 80 = .ok (.invokestatic 105, 3) := by decide +kernel
theorem dX12_readThing_83 : decode cX12_readThing 83 = .ok (.iadd, 1) := by decide +kernel
theorem dX12_readThing_84 : decode cX12_readThing 84 = .ok (.iconst (-1), 1) := by decide +kernel
theorem dX12_readThing_85 : decode cX12_readThing 85 = .ok (.iastore, 1) := by decide +kernel
theorem dX12_readThing_86 : decode cX12_readThing 86 = .ok (.iinc 3 1, 3) := by decide +kernel
theorem dX12_readThing_89 : decode cX12_readThing 89 = .ok (.goto (-52), 3) := by decide +kernel
theorem dX12_readThing_92 : decode cX12_readThing 92 = .ok (.aload_n 0, 1) := by decide +kernel
theorem dX12_readThing_93 : decode cX12_readThing 93 = .ok (.getfield 31, 3) := by decide +kernel
theorem dX12_readThing_96 : decode cX12_readThing 96 = .ok (.iconst 1, 1) := by decide +kernel
theorem dX12_readThing_97 : decode cX12_readThing 97 = .ok (.dup2, 1) := by decide +kernel
theorem dX12_readThing_98 : decode cX12_readThing 98 = .ok (.iaload, 1) := by decide +kernel
theorem dX12_readThing_99 : decode cX12_readThing 99 = .ok (.iconst 1, 1) := by decide +kernel
theorem dX12_readThing_100 : decode cX12_readThing 100 = .ok (.iadd, 1) := by decide +kernel
theorem dX12_readThing_101 : decode cX12_readThing 101 = .ok (.iastore, 1) := by decide +kernel
theorem dX12_readThing_102 : decode cX12_readThing 102 = .ok (.return_, 1) := by decide +kernel
theorem dX12_readOn_0 : decode cX12_readOn 0 = .ok (.aload_n 0, 1) := by decide +kernel
theorem dX12_readOn_1 : decode cX12_readOn 1 = .ok (.iconst 0, 1) := by decide +kernel
theorem dX12_readOn_2 : decode cX12_readOn 2 = .ok (.iload_n 2, 1) := by decide +kernel
theorem dX12_readOn_3 : decode cX12_readOn 3 = .ok (.iconst 1, 1) := by decide +kernel
theorem dX12_readOn_4 : decode cX12_readOn 4 = .ok (.isub, 1) := by decide +kernel
theorem dX12_readOn_5 : decode cX12_readOn 5 = .ok (.invokevirtual 182, 3) := by decide +kernel
theorem dX12_readOn_8 : decode cX12_readOn 8 = .ok (.istore_n 3, 1) := by decide +kernel
theorem dX12_readOn_9 : decode cX12_readOn 9 = .ok (.aload_n 0, 1) := by decide +kernel
theorem dX12_readOn_10 : decode cX12_readOn 10 = .ok (.ldc 193, 2) := by decide +kernel
theorem dX12_readOn_12 : decode cX12_readOn 12 = .ok (.iconst 0, 1) := by decide +kernel
theorem dX12_readOn_13 : decode cX12_readOn 13 = .ok (.aload_n 0, 1) := by decide +kernel
theorem dX12_readOn_14 : decode cX12_readOn 14 = .ok (.getfield 31, 3) := by decide +kernel
theorem dX12_readOn_17 : decode cX12_readOn 17 = .ok (.iconst 0, 1) := by decide +kernel
theorem dX12_readOn_18 : decode cX12_readOn 18 = .ok (.iaload, 1) := by decide +kernel
theorem dX12_readOn_19 : decode cX12_readOn 19 = .ok (.iconst 1, 1) := by decide +kernel
theorem dX12_readOn_20 : decode cX12_readOn 20 = .ok (.isub, 1) := by decide +kernel
theorem dX12_readOn_21 : decode cX12_readOn 21 = .ok (.invokevirtual 187, 3) := by decide +kernel
theorem dX12_readOn_24 : decode cX12_readOn 24 = .ok (.istore 4, 2) := by decide +kernel
theorem dX12_readOn_26 : decode cX12_readOn 26 = .ok (.aload_n 0, 1) := by decide +kernel
theorem dX12_readOn_27 : decode cX12_readOn 27 = .ok (.iconst 0, 1) := by decide +kernel
theorem dX12_readOn_28 : decode cX12_readOn 28 = .ok (.bipush 99, 2) := by decide +kernel
theorem dX12_readOn_30 : decode cX12_readOn 30 = .ok (.invokevirtual 182, 3) := by decide +kernel
theorem dX12_readOn_33 : decode cX12_readOn 33 = .ok (.istore 5, 2) := by decide +kernel
theorem dX12_readOn_35 : decode cX12_readOn 35 = .ok (.aload_n 0, 1) := by decide +kernel
theorem dX12_readOn_36 : decode cX12_readOn 36 = .ok (.invokevirtual 150, 3) := by decide +kernel
theorem dX12_readOn_39 : decode cX12_readOn 39 = .ok (.ifCond .eq 18, 3) := by decide +kernel
theorem dX12_readOn_42 : decode cX12_readOn 42 = .ok (.aload_n 0, 1) := by decide +kernel
theorem dX12_readOn_43 : decode cX12_readOn 43 = .ok (.getfield 31, 3) := by decide +kernel
theorem dX12_readOn_46 : decode cX12_readOn 46 = .ok (.iload_n 1, 1) := by decide +kernel
theorem dX12_readOn_47 : decode cX12_readOn 47 = .ok (.iload_n 3, 1) := by decide +kernel
theorem dX12_readOn_48 : decode cX12_readOn 48 = .ok (.iload 4, 2) := by decide +kernel
theorem dX12_readOn_50 : decode cX12_readOn 50 = .ok (.invokestatic 105, 3) := by decide +kernel
theorem dX12_readOn_53 : decode cX12_readOn 53 = .ok (.iadd, 1) := by decide +kernel
theorem dX12_readOn_54 : decode cX12_readOn 54 = .ok (.iload 5, 2) := by decide +kernel
theorem dX12_readOn_56 : decode cX12_readOn 56 = .ok (.iastore, 1) := by decide +kernel
theorem dX12_readOn_57 : decode cX12_readOn 57 = .ok (.return_, 1) := by decide +kernel
theorem dX12_readSeller_0 : decode cX12_readSeller 0 = .ok (.sipush 311, 3) := by decide +kernel
theorem dX12_readSeller_3 : decode cX12_readSeller 3 = .ok (.iconst 3, 1) := by decide +kernel
theorem dX12_readSeller_4 : decode cX12_readSeller 4 = .ok (.aload_n 0, 1) := by decide +kernel
theorem dX12_readSeller_5 : decode cX12_readSeller 5 = .ok (.getfield 31, 3) := by decide +kernel
theorem dX12_readSeller_8 : decode cX12_readSeller 8 = .ok (.iconst 2, 1) := by decide +kernel
theorem dX12_readSeller_9 : decode cX12_readSeller 9 = .ok (.iaload, 1) := by decide +kernel
theorem dX12_readSeller_10 : decode cX12_readSeller 10 = .ok (.imul, 1) := by decide +kernel
theorem dX12_readSeller_11 : decode cX12_readSeller 11 = .ok (.iadd, 1) := by decide +kernel
theorem dX12_readSeller_12 : decode cX12_readSeller 12 = .ok (.istore_n 1, 1) := by decide +kernel
theorem dX12_readSeller_13 : decode cX12_readSeller 13 = .ok (.aload_n 0, 1) := by decide +kernel
theorem dX12_readSeller_14 : decode cX12_readSeller 14 = .ok (.getfield 31, 3) := by decide +kernel
theorem dX12_readSeller_17 : decode cX12_readSeller 17 = .ok (.iload_n 1, 1) := by decide +kernel
theorem dX12_readSeller_18 : decode cX12_readSeller 18 = .ok (.aload_n 0, 1) := by decide +kernel
theorem dX12_readSeller_19 : decode cX12_readSeller 19 = .ok (.invokevirtual 195, 3) := by decide +kernel
theorem dX12_readSeller_22 : decode cX12_readSeller 22 = .ok (.iastore, 1) := by decide +kernel
theorem dX12_readSeller_23 : decode cX12_readSeller 23 = .ok (.aload_n 0, 1) := by decide +kernel
theorem dX12_readSeller_24 : decode cX12_readSeller 24 = .ok (.getfield 31, 3) := by decide +kernel
theorem dX12_readSeller_27 : decode cX12_readSeller 27 = .ok (.iload_n 1, 1) := by decide +kernel
theorem dX12_readSeller_28 : decode cX12_readSeller 28 = .ok (.iconst 2, 1) := by decide +kernel
theorem dX12_readSeller_29 : decode cX12_readSeller 29 = .ok (.iadd, 1) := by decide +kernel
theorem dX12_readSeller_30 : decode cX12_readSeller 30 = .ok (.aload_n 0, 1) := by decide +kernel
theorem dX12_readSeller_31 : decode cX12_readSeller 31 = .ok (.ldc 198, 2) := by decide +kernel
theorem dX12_readSeller_33 : decode cX12_readSeller 33 = .ok (.iconst 0, 1) := by decide +kernel
theorem dX12_readSeller_34 : decode cX12_readSeller 34 = .ok (.bipush 99, 2) := by decide +kernel
theorem dX12_readSeller_36 : decode cX12_readSeller 36 = .ok (.invokevirtual 187, 3) := by decide +kernel
theorem dX12_readSeller_39 : decode cX12_readSeller 39 = .ok (.iastore, 1) := by decide +kernel
theorem dX12_readSeller_40 : decode cX12_readSeller 40 = .ok (.aload_n 0, 1) := by decide +kernel
theorem dX12_readSeller_41 : decode cX12_readSeller 41 = .ok (.getfield 31, 3) := by decide +kernel
theorem dX12_readSeller_44 : decode cX12_readSeller 44 = .ok (.iload_n 1, 1) := by decide +kernel
theorem dX12_readSeller_45 : decode cX12_readSeller 45 = .ok (.iconst 1, 1) := by decide +kernel
theorem dX12_readSeller_46 : decode cX12_readSeller 46 = .ok (.iadd, 1) := by decide +kernel
theorem dX12_readSeller_47 : decode cX12_readSeller 47 = .ok (.aload_n 0, 1) := by decide +kernel
theorem dX12_readSeller_48 : decode cX12_readSeller 48 = .ok (.ldc 200, 2) := by decide +kernel
theorem dX12_readSeller_50 : decode cX12_readSeller 50 = .ok (.iconst 0, 1) := by decide +kernel
theorem dX12_readSeller_51 : decode cX12_readSeller 51 = .ok (.bipush 99, 2) := by decide +kernel
theorem dX12_readSeller_53 : decode cX12_readSeller 53 = .ok (.invokevirtual 187, 3) := by decide +kernel
theorem dX12_readSeller_56 : decode cX12_readSeller 56 = .ok (.iastore, 1) := by decide +kernel
theorem dX12_readSeller_57 : decode cX12_readSeller 57 = .ok (.aload_n 0, 1) := by decide +kernel
theorem dX12_readSeller_58 : decode cX12_readSeller 58 = .ok (.getfield 31, 3) := by decide +kernel
theorem dX12_readSeller_61 : decode cX12_readSeller 61 = .ok (.iconst 2, 1) := by decide +kernel
theorem dX12_readSeller_62 : decode cX12_readSeller 62 = .ok (.dup2, 1) := by decide +kernel
theorem dX12_readSeller_63 : decode cX12_readSeller 63 = .ok (.iaload, 1) := by decide +kernel
theorem dX12_readSeller_64 : decode cX12_readSeller 64 = .ok (.iconst 1, 1) := by decide +kernel
theorem dX12_readSeller_65 : decode cX12_readSeller 65 = .ok (.iadd, 1) := by decide +kernel
theorem dX12_readSeller_66 : decode cX12_readSeller 66 = .ok (.iastore, 1) := by decide +kernel
theorem dX12_readSeller_67 : decode cX12_readSeller 67 = .ok (.return_, 1) := by decide +kernel
theorem dX12_readBuyer_0 : decode cX12_readBuyer 0 = .ok (.sipush 426, 3) := by decide +kernel
theorem dX12_readBuyer_3 : decode cX12_readBuyer 3 = .ok (.bipush 6, 2) := by decide +kernel
theorem dX12_readBuyer_5 : decode cX12_readBuyer 5 = .ok (.aload_n 0, 1) := by decide +kernel
theorem dX12_readBuyer_6 : decode cX12_readBuyer 6 = .ok (.getfield 31, 3) := by decide +kernel
theorem dX12_readBuyer_9 : decode cX12_readBuyer 9 = .ok (.iconst 3, 1) := by decide +kernel
theorem dX12_readBuyer_10 : decode cX12_readBuyer 10 = .ok (.iaload, 1) := by decide +kernel
theorem dX12_readBuyer_11 : decode cX12_readBuyer 11 = .ok (.imul, 1) := by decide +kernel
theorem dX12_readBuyer_12 : decode cX12_readBuyer 12 = .ok (.iadd, 1) := by decide +kernel
theorem dX12_readBuyer_13 : decode cX12_readBuyer 13 = .ok (.istore_n 1, 1) := by decide +kernel
theorem dX12_readBuyer_14 : decode cX12_readBuyer 14 = .ok (.aload_n 0, 1) := by decide +kernel
theorem dX12_readBuyer_15 : decode cX12_readBuyer 15 = .ok (.getfield 31, 3) := by decide +kernel
theorem dX12_readBuyer_18 : decode cX12_readBuyer 18 = .ok (.iload_n 1, 1) := by decide +kernel
theorem dX12_readBuyer_19 : decode cX12_readBuyer 19 = .ok (.aload_n 0, 1) := by decide +kernel
theorem dX12_readBuyer_20 : decode cX12_readBuyer 20 = .ok (.invokevirtual 195, 3) := by decide +kernel
theorem dX12_readBuyer_23 : decode cX12_readBuyer 23 = .ok (.iastore, 1) := by decide +kernel
theorem dX12_readBuyer_24 : decode cX12_readBuyer 24 = .ok (.aload_n 0, 1) := by decide +kernel
theorem dX12_readBuyer_25 : decode cX12_readBuyer 25 = .ok (.getfield 31, 3) := by decide +kernel
theorem dX12_readBuyer_28 : decode cX12_readBuyer 28 = .ok (.iload_n 1, 1) := by decide +kernel
theorem dX12_readBuyer_29 : decode cX12_readBuyer 29 = .ok (.iconst 1, 1) := by decide +kernel
theorem dX12_readBuyer_30 : decode cX12_readBuyer 30 = .ok (.iadd, 1) := by decide +kernel
theorem dX12_readBuyer_31 : decode cX12_readBuyer 31 = .ok (.aload_n 0, 1) := by decide +kernel
theorem dX12_readBuyer_32 : decode cX12_readBuyer 32 = .ok (.ldc 202, 2) := by decide +kernel
theorem dX12_readBuyer_34 : decode cX12_readBuyer 34 = .ok (.iconst 1, 1) := by decide +kernel
theorem dX12_readBuyer_35 : decode cX12_readBuyer 35 = .ok (.bipush 9, 2) := by decide +kernel
theorem dX12_readBuyer_37 : decode cX12_readBuyer 37 = .ok (.invokevirtual 187, 3) := by decide +kernel
theorem dX12_readBuyer_40 : decode cX12_readBuyer 40 = .ok (.iastore, 1) := by decide +kernel
theorem dX12_readBuyer_41 : decode cX12_readBuyer 41 = .ok (.aload_n 0, 1) := by decide +kernel
theorem dX12_readBuyer_42 : decode cX12_readBuyer 42 = .ok (.getfield 31, 3) := by decide +kernel
theorem dX12_readBuyer_45 : decode cX12_readBuyer 45 = .ok (.iload_n 1, 1) := by decide +kernel
theorem dX12_readBuyer_46 : decode cX12_readBuyer 46 = .ok (.iconst 2, 1) := by decide +kernel
theorem dX12_readBuyer_47 : decode cX12_readBuyer 47 = .ok (.iadd, 1) := by decide +kernel
theorem dX12_readBuyer_48 : decode cX12_readBuyer 48 = .ok (.aload_n 0, 1) := by decide +kernel
theorem dX12_readBuyer_49 : decode cX12_readBuyer 49 = .ok (.ldc 204, 2) := by decide +kernel
theorem dX12_readBuyer_51 : decode cX12_readBuyer 51 = .ok (.iconst 0, 1) := by decide +kernel
theorem dX12_readBuyer_52 : decode cX12_readBuyer 52 = .ok (.bipush 99, 2) := by decide +kernel
theorem dX12_readBuyer_54 : decode cX12_readBuyer 54 = .ok (.invokevirtual 187, 3) := by decide +kernel
theorem dX12_readBuyer_57 : decode cX12_readBuyer 57 = .ok (.iastore, 1) := by decide +kernel
theorem dX12_readBuyer_58 : decode cX12_readBuyer 58 = .ok (.aload_n 0, 1) := by decide +kernel
theorem dX12_readBuyer_59 : decode cX12_readBuyer 59 = .ok (.getfield 31, 3) := by decide +kernel
theorem dX12_readBuyer_62 : decode cX12_readBuyer 62 = .ok (.iload_n 1, 1) := by decide +kernel
theorem dX12_readBuyer_63 : decode cX12_readBuyer 63 = .ok (.iconst 3, 1) := by decide +kernel
theorem dX12_readBuyer_64 : decode cX12_readBuyer 64 = .ok (.iadd, 1) := by decide +kernel
theorem dX12_readBuyer_65 : decode cX12_readBuyer 65 = .ok (.aload_n 0, 1) := by decide +kernel
theorem dX12_readBuyer_66 : decode cX12_readBuyer 66 = .ok (.ldc 206, 2) := by decide +kernel
theorem dX12_readBuyer_68 : decode cX12_readBuyer 68 = .ok (.iconst 0, 1) := by decide +kernel
theorem dX12_readBuyer_69 : decode cX12_readBuyer 69 = .ok (.aload_n 0, 1) := by decide +kernel
theorem dX12_readBuyer_70 : decode cX12_readBuyer 70 = .ok (.getfield 31, 3) := by decide +kernel
theorem dX12_readBuyer_73 : decode cX12_readBuyer 73 = .ok (.iconst 0, 1) := by decide +kernel
theorem dX12_readBuyer_74 : decode cX12_readBuyer 74 = .ok (.iaload, 1) := by decide +kernel
theorem dX12_readBuyer_75 : decode cX12_readBuyer 75 = .ok (.iconst 1, 1) := by decide +kernel
theorem dX12_readBuyer_76 : decode cX12_readBuyer 76 = .ok (.isub, 1) := by decide +kernel
theorem dX12_readBuyer_77 : decode cX12_readBuyer 77 = .ok (.invokevirtual 187, 3) := by decide +kernel
theorem dX12_readBuyer_80 : decode cX12_readBuyer 80 = .ok (.iastore, 1) := by decide +kernel
theorem dX12_readBuyer_81 : decode cX12_readBuyer 81 = .ok (.aload_n 0, 1) := by decide +kernel
theorem dX12_readBuyer_82 : decode cX12_readBuyer 82 = .ok (.getfield 31, 3) := by decide +kernel
theorem dX12_readBuyer_85 : decode cX12_readBuyer 85 = .ok (.iload_n 1, 1) := by decide +kernel
theorem dX12_readBuyer_86 : decode cX12_readBuyer 86 = .ok (.iconst 4, 1) := by decide +kernel
theorem dX12_readBuyer_87 : decode cX12_readBuyer 87 = .ok (.iadd, 1) := by decide +kernel
theorem dX12_readBuyer_88 : decode cX12_readBuyer 88 = .ok (.aload_n 0, 1) := by decide +kernel
theorem dX12_readBuyer_89 : decode cX12_readBuyer 89 = .ok (.ldc 207, 2) := by decide +kernel
theorem dX12_readBuyer_91 : decode cX12_readBuyer 91 = .ok (.aload_n 0, 1) := by decide +kernel
theorem dX12_readBuyer_92 : decode cX12_readBuyer 92 = .ok (.getfield 31, 3) := by decide +kernel
theorem dX12_readBuyer_95 : decode cX12_readBuyer 95 = .ok (.iload_n 1, 1) := by decide +kernel
theorem dX12_readBuyer_96 : decode cX12_readBuyer 96 = .ok (.iconst 3, 1) := by decide +kernel
theorem dX12_readBuyer_97 : decode cX12_readBuyer 97 = .ok (.iadd, 1) := by decide +kernel
theorem dX12_readBuyer_98 : decode cX12_readBuyer 98 = .ok (.iaload, 1) := by decide +kernel
theorem dX12_readBuyer_99 : decode cX12_readBuyer 99 = .ok (.aload_n 0, 1) := by decide +kernel
theorem dX12_readBuyer_100 : decode cX12_readBuyer 100 = .ok (.getfield 31, 3) := by decide +kernel
theorem dX12_readBuyer_103 : decode cX12_readBuyer 103 = .ok (.iconst 0, 1) := by decide +kernel
theorem dX12_readBuyer_104 : decode cX12_readBuyer 104 = .ok (.iaload, 1) := by decide +kernel
theorem dX12_readBuyer_105 : decode cX12_readBuyer 105 = .ok (.iconst 1, 1) := by decide +kernel
theorem dX12_readBuyer_106 : decode cX12_readBuyer 106 = .ok (.isub, 1) := by decide +kernel
theorem dX12_readBuyer_107 : decode cX12_readBuyer 107 = .ok (.invokevirtual 187, 3) := by decide +kernel
theorem dX12_readBuyer_110 : decode cX12_readBuyer 110 = .ok (.iastore, 1) := by decide +kernel
theorem dX12_readBuyer_111 : decode cX12_readBuyer 111 = .ok (.aload_n 0, 1) := by decide +kernel
theorem dX12_readBuyer_112 : decode cX12_readBuyer 112 = .ok (.getfield 31, 3) := by decide +kernel
theorem dX12_readBuyer_115 : decode cX12_readBuyer 115 = .ok (.iload_n 1, 1) := by decide +kernel
theorem dX12_readBuyer_116 : decode cX12_readBuyer 116 = .ok (.iconst 5, 1) := by decide +kernel
theorem dX12_readBuyer_117 : decode cX12_readBuyer 117 = .ok (.iadd, 1) := by decide +kernel
theorem dX12_readBuyer_118 : decode cX12_readBuyer 118 = .ok (.aload_n 0, 1) := by decide +kernel
theorem dX12_readBuyer_119 : decode cX12_readBuyer 119 = .ok (.ldc 209, 2) := by decide +kernel
theorem dX12_readBuyer_121 : decode cX12_readBuyer 121 = .ok (.iconst 0, 1) := by decide +kernel
theorem dX12_readBuyer_122 : decode cX12_readBuyer 122 = .ok (.bipush 30, 2) := by decide +kernel
theorem dX12_readBuyer_124 : decode cX12_readBuyer 124 = .ok (.invokevirtual 187, 3) := by decide +kernel
theorem dX12_readBuyer_127 : decode cX12_readBuyer 127 = .ok (.iastore, 1) := by decide +kernel
theorem dX12_readBuyer_128 : decode cX12_readBuyer 128 = .ok (.aload_n 0, 1) := by decide +kernel
theorem dX12_readBuyer_129 : decode cX12_readBuyer 129 = .ok (.getfield 31, 3) := by decide +kernel
theorem dX12_readBuyer_132 : decode cX12_readBuyer 132 = .ok (.iconst 3, 1) := by decide +kernel
theorem dX12_readBuyer_133 : decode cX12_readBuyer 133 = .ok (.dup2, 1) := by decide +kernel
theorem dX12_readBuyer_134 : decode cX12_readBuyer 134 = .ok (.iaload, 1) := by decide +kernel
theorem dX12_readBuyer_135 : decode cX12_readBuyer 135 = .ok (.iconst 1, 1) := by decide +kernel
theorem dX12_readBuyer_136 : decode cX12_readBuyer 136 = .ok (.iadd, 1) := by decide +kernel
theorem dX12_readBuyer_137 : decode cX12_readBuyer 137 = .ok (.iastore, 1) := by decide +kernel
theorem dX12_readBuyer_138 : decode cX12_readBuyer 138 = .ok (.return_, 1) := by decide +kernel
theorem dX12_readNext_0 : decode cX12_readNext 0 = .ok (.aload_n 0, 1) := by decide +kernel
theorem dX12_readNext_1 : decode cX12_readNext 1 = .ok (.ldc 211, 2) := by decide +kernel
theorem dX12_readNext_3 : decode cX12_readNext 3 = .ok (.invokevirtual 164, 3) := by decide +kernel
theorem dX12_readNext_6 : decode cX12_readNext 6 = .ok (.ifCond .ne 57, 3) := by decide +kernel
theorem dX12_readNext_9 : decode cX12_readNext 9 = .ok (.aload_n 0, 1) := by decide +kernel
theorem dX12_readNext_10 : decode cX12_readNext 10 = .ok (.ldc 213, 2) := by decide +kernel
theorem dX12_readNext_12 : decode cX12_readNext 12 = .ok (.invokevirtual 164, 3) := by decide +kernel
theorem dX12_readNext_15 : decode cX12_readNext 15 = .ok (.ifCond .ne 48, 3) := by decide +kernel
theorem dX12_readNext_18 : decode cX12_readNext 18 = .ok (.aload_n 0, 1) := by decide +kernel
theorem dX12_readNext_19 : decode cX12_readNext 19 = .ok (.ldc 215, 2) := by decide +kernel
theorem dX12_readNext_21 : decode cX12_readNext 21 = .ok (.invokevirtual 164, 3) := by decide +kernel
theorem dX12_readNext_24 : decode cX12_readNext 24 = .ok (.ifCond .ne 39, 3) := by decide +kernel
theorem dX12_readNext_27 : decode cX12_readNext 27 = .ok (.aload_n 0, 1) := by decide +kernel
theorem dX12_readNext_28 : decode cX12_readNext 28 = .ok (.ldc 217, 2) := by decide +kernel
theorem dX12_readNext_30 : decode cX12_readNext 30 = .ok (.invokevirtual 164, 3) := by decide +kernel
theorem dX12_readNext_33 : decode cX12_readNext 33 = .ok (.ifCond .ne 30, 3) := by decide +kernel
theorem dX12_readNext_36 : decode cX12_readNext 36 = .ok (.aload_n 0, 1) := by decide +kernel
theorem dX12_readNext_37 : decode cX12_readNext 37 = .ok (.ldc 219, 2) := by decide +kernel
theorem dX12_readNext_39 : decode cX12_readNext 39 = .ok (.invokevirtual 164, 3) := by decide +kernel
theorem dX12_readNext_42 : decode cX12_readNext 42 = .ok (.ifCond .ne 21, 3) := by decide +kernel
theorem dX12_readNext_45 : decode cX12_readNext 45 = .ok (.aload_n 0, 1) := by decide +kernel
theorem dX12_readNext_46 : decode cX12_readNext 46 = .ok (.ldc 221, 2) := by decide +kernel
theorem dX12_readNext_48 : decode cX12_readNext 48 = .ok (.invokevirtual 164, 3) := by decide +kernel
theorem dX12_readNext_51 : decode cX12_readNext 51 = .ok (.ifCond .ne 12, 3) := by decide +kernel
theorem dX12_readNext_54 : decode cX12_readNext 54 = .ok (.aload_n 0, 1) := by decide +kernel
theorem dX12_readNext_55 : decode cX12_readNext 55 = .ok (.ldc 223, 2) := by decide +kernel
theorem dX12_readNext_57 : decode cX12_readNext 57 = .ok (.invokevirtual 164, 3) := by decide +kernel
theorem dX12_readNext_60 : decode cX12_readNext 60 = .ok (.ifCond .eq 7, 3) := by decide +kernel
theorem dX12_readNext_63 : decode cX12_readNext 63 = .ok (.iconst 1, 1) := by decide +kernel
theorem dX12_readNext_64 : decode cX12_readNext 64 = .ok (.goto 4, 3) := by decide +kernel
theorem dX12_readNext_67 : decode cX12_readNext 67 = .ok (.iconst 0, 1) := by decide +kernel
theorem dX12_readNext_68 : decode cX12_readNext 68 = .ok (.istore_n 1, 1) := by decide +kernel
theorem dX12_readNext_69 : decode cX12_readNext 69 = .ok (.iload_n 1, 1) := by decide +kernel
theorem dX12_readNext_70 : decode cX12_readNext 70 = .ok (.ifCond .ne 8, 3) := by decide +kernel
theorem dX12_readNext_73 : decode cX12_readNext 73 = .ok (.aload_n 0, 1) := by decide +kernel
theorem dX12_readNext_74 : decode cX12_readNext 74 = .ok (.iconst 1, 1) := by decide +kernel
theorem dX12_readNext_75 : decode cX12_readNext 75 = .ok (.invokevirtual 174, 3) := by decide +kernel
theorem dX12_readNext_78 : decode cX12_readNext 78 = .ok (.aload_n 0, 1) := by decide +kernel
theorem dX12_readNext_79 : decode cX12_readNext 79 = .ok (.ldc 211, 2) := by decide +kernel
theorem dX12_readNext_81 : decode cX12_readNext 81 = .ok (.invokevirtual 164, 3) := by decide +kernel
theorem dX12_readNext_84 : decode cX12_readNext 84 = .ok (.ifCond .eq 13, 3) := by decide +kernel
theorem dX12_readNext_87 : decode cX12_readNext 87 = .ok (.aload_n 0, 1) := by decide +kernel
theorem dX12_readNext_88 : decode cX12_readNext 88 = .ok (.getfield 31, 3) := by decide +kernel
theorem dX12_readNext_91 : decode cX12_readNext 91 = .ok (.iconst 1, 1) := by decide +kernel
theorem dX12_readNext_92 : decode cX12_readNext 92 = .ok (.iaload, 1) := by decide +kernel
theorem dX12_readNext_93 : decode cX12_readNext 93 = .ok (.iconst 5, 1) := by decide +kernel
theorem dX12_readNext_94 : decode cX12_readNext 94 = .ok (.if_icmp .eq 42, 3) := by decide +kernel
theorem dX12_readNext_97 : decode cX12_readNext 97 = .ok (.aload_n 0, 1) := by decide +kernel
theorem dX12_readNext_98 : decode cX12_readNext 98 = .ok (.ldc 217, 2) := by decide +kernel
theorem dX12_readNext_100 : decode cX12_readNext 100 = .ok (.invokevirtual 164, 3) := by decide +kernel
theorem dX12_readNext_103 : decode cX12_readNext 103 = .ok (.ifCond .eq 13, 3) := by decide +kernel
theorem dX12_readNext_106 : decode cX12_readNext 106 = .ok (.aload_n 0, 1) := by decide +kernel
theorem dX12_readNext_107 : decode cX12_readNext 107 = .ok (.getfield 31, 3) := by decide +kernel
theorem dX12_readNext_110 : decode cX12_readNext 110 = .ok (.iconst 2, 1) := by decide +kernel
theorem dX12_readNext_111 : decode cX12_readNext 111 = .ok (.iaload, 1) := by decide +kernel
theorem dX12_readNext_112 : decode cX12_readNext 112 = .ok (.iconst 5, 1) := by decide +kernel
theorem dX12_readNext_113 : decode cX12_readNext 113 = .ok (.if_icmp .eq 23, 3) := by decide +kernel
theorem dX12_readNext_116 : decode cX12_readNext 116 = .ok (.aload_n 0, 1) := by decide +kernel
theorem dX12_readNext_117 : decode cX12_readNext 117 = .ok (.ldc 221, 2) := by decide +kernel
theorem dX12_readNext_119 : decode cX12_readNext 119 = .ok (.invokevirtual 164, 3) := by decide +kernel
theorem dX12_readNext_122 : decode cX12_readNext 122 = .ok (.ifCond .eq 19, 3) := by decide +kernel
theorem dX12_readNext_125 : decode cX12_readNext 125 = .ok (.aload_n 0, 1) := by decide +kernel
theorem dX12_readNext_126 : decode cX12_readNext 126 = .ok (.getfield 31, 3) := by decide +kernel
theorem dX12_readNext_129 : decode cX12_readNext 129 = .ok (.iconst 3, 1) := by decide +kernel
theorem dX12_readNext_130 : decode cX12_readNext 130 = .ok (.iaload, 1) := by decide +kernel
theorem dX12_readNext_131 : decode cX12_readNext 131 = .ok (.bipush 7, 2) := by decide +kernel
theorem dX12_readNext_133 : decode cX12_readNext 133 = .ok (.if_icmp .ne 8, 3) := by decide +kernel
theorem dX12_readNext_136 : decode cX12_readNext 136 = .ok (.aload_n 0, 1) := by decide +kernel
theorem dX12_readNext_137 : decode cX12_readNext 137 = .ok (.iconst 3, 1) := by decide +kernel
theorem dX12_readNext_138 : decode cX12_readNext 138 = .ok (.invokevirtual 174, 3) := by decide +kernel
theorem dX12_readNext_141 : decode cX12_readNext 141 = .ok (.aload_n 0, 1) := by decide +kernel
theorem dX12_readNext_142 : decode cX12_readNext 142 = .ok (.invokevirtual 150, 3) := by decide +kernel
theorem dX12_readNext_145 : decode cX12_readNext 145 = .ok (.ifCond .ne 4, 3) := by decide +kernel
theorem dX12_readNext_148 : decode cX12_readNext 148 = .ok (.return_, 1) := by decide +kernel
theorem dX12_readNext_149 : decode cX12_readNext 149 = .ok (.aload_n 0, 1) := by decide +kernel
theorem dX12_readNext_150 : decode cX12_readNext 150 = .ok (.ldc 211, 2) := by decide +kernel
theorem dX12_readNext_152 : decode cX12_readNext 152 = .ok (.invokevirtual 171, 3) := by decide +kernel
theorem dX12_readNext_155 : decode cX12_readNext 155 = .ok (.ifCond .eq 10, 3) := by decide +kernel
theorem dX12_readNext_158 : decode cX12_readNext 158 = .ok (.aload_n 0, 1) := by decide +kernel
theorem dX12_readNext_159 : decode cX12_readNext 159 = .ok (.invokevirtual 225, 3) := by decide +kernel
theorem dX12_readNext_162 : decode cX12_readNext 162 = .ok (.goto 125, 3) := by decide +kernel
theorem dX12_readNext_165 : decode cX12_readNext 165 = .ok (.aload_n 0, 1) := by decide +kernel
theorem dX12_readNext_166 : decode cX12_readNext 166 = .ok (.ldc 213, 2) := by decide +kernel
theorem dX12_readNext_168 : decode cX12_readNext 168 = .ok (.invokevirtual 171, 3) := by decide +kernel
theorem dX12_readNext_171 : decode cX12_readNext 171 = .ok (.ifCond .eq 18, 3) := by decide +kernel
theorem dX12_readNext_174 : decode cX12_readNext 174 = .ok (.aload_n 0, 1) := by decide +kernel
theorem dX12_readNext_175 : decode cX12_readNext 175 = .ok (.bipush 11, 2) := by decide +kernel
theorem dX12_readNext_177 : decode cX12_readNext 177 = .ok (.aload_n 0, 1) := by decide +kernel
theorem dX12_readNext_178 : decode cX12_readNext 178 = .ok (.getfield 31, 3) := by decide +kernel
theorem dX12_readNext_181 : decode cX12_readNext 181 = .ok (.iconst 1, 1) := by decide +kernel
theorem dX12_readNext_182 : decode cX12_readNext 182 = .ok (.iaload, 1) := by decide +kernel
theorem dX12_readNext_183 : decode cX12_readNext 183 = .ok (.invokevirtual 228, 3) := by decide +kernel
theorem dX12_readNext_186 : decode cX12_readNext 186 = .ok (.goto 101, 3) := by decide +kernel
theorem dX12_readNext_189 : decode cX12_readNext 189 = .ok (.aload_n 0, 1) := by decide +kernel
theorem dX12_readNext_190 : decode cX12_readNext 190 = .ok (.ldc 215, 2) := by decide +kernel
theorem dX12_readNext_192 : decode cX12_readNext 192 = .ok (.invokevirtual 171, 3) := by decide +kernel
theorem dX12_readNext_195 : decode cX12_readNext 195 = .ok (.ifCond .eq 18, 3) := by decide +kernel
theorem dX12_readNext_198 : decode cX12_readNext 198 = .ok (.aload_n 0, 1) := by decide +kernel
theorem dX12_readNext_199 : decode cX12_readNext 199 = .ok (.bipush 111, 2) := by decide +kernel
theorem dX12_readNext_201 : decode cX12_readNext 201 = .ok (.aload_n 0, 1) := by decide +kernel
theorem dX12_readNext_202 : decode cX12_readNext 202 = .ok (.getfield 31, 3) := by decide +kernel
theorem dX12_readNext_205 : decode cX12_readNext 205 = .ok (.iconst 1, 1) := by decide +kernel
theorem dX12_readNext_206 : decode cX12_readNext 206 = .ok (.iaload, 1) := by decide +kernel
theorem dX12_readNext_207 : decode cX12_readNext 207 = .ok (.invokevirtual 228, 3) := by decide +kernel
theorem dX12_readNext_210 : decode cX12_readNext 210 = .ok (.goto 77, 3) := by decide +kernel
theorem dX12_readNext_213 : decode cX12_readNext 213 = .ok (.aload_n 0, 1) := by decide +kernel
theorem dX12_readNext_214 : decode cX12_readNext 214 = .ok (.ldc 217, 2) := by decide +kernel
theorem dX12_readNext_216 : decode cX12_readNext 216 = .ok (.invokevirtual 171, 3) := by decide +kernel
theorem dX12_readNext_219 : decode cX12_readNext 219 = .ok (.ifCond .eq 10, 3) := by decide +kernel
theorem dX12_readNext_222 : decode cX12_readNext 222 = .ok (.aload_n 0, 1) := by decide +kernel
theorem dX12_readNext_223 : decode cX12_readNext 223 = .ok (.invokevirtual 232, 3) := by decide +kernel
theorem dX12_readNext_226 : decode cX12_readNext 226 = .ok (.goto 61, 3) := by decide +kernel
theorem dX12_readNext_229 : decode cX12_readNext 229 = .ok (.aload_n 0, 1) := by decide +kernel
theorem dX12_readNext_230 : decode cX12_readNext 230 = .ok (.ldc 219, 2) := by decide +kernel
theorem dX12_readNext_232 : decode cX12_readNext 232 = .ok (.invokevirtual 171, 3) := by decide +kernel
theorem dX12_readNext_235 : decode cX12_readNext 235 = .ok (.ifCond .eq 19, 3) := by decide +kernel
theorem dX12_readNext_238 : decode cX12_readNext 238 = .ok (.aload_n 0, 1) := by decide +kernel
theorem dX12_readNext_239 : decode cX12_readNext 239 = .ok (.sipush 326, 3) := by decide +kernel
theorem dX12_readNext_242 : decode cX12_readNext 242 = .ok (.aload_n 0, 1) := by decide +kernel
theorem dX12_readNext_243 : decode cX12_readNext 243 = .ok (.getfield 31, 3) := by decide +kernel
theorem dX12_readNext_246 : decode cX12_readNext 246 = .ok (.iconst 2, 1) := by decide +kernel
theorem dX12_readNext_247 : decode cX12_readNext 247 = .ok (.iaload, 1) := by decide +kernel
theorem dX12_readNext_248 : decode cX12_readNext 248 = .ok (.invokevirtual 228, 3) := by decide +kernel
theorem dX12_readNext_251 : decode cX12_readNext 251 = .ok (.goto 36, 3) := by decide +kernel
theorem dX12_readNext_254 : decode cX12_readNext 254 = .ok (.aload_n 0, 1) := by decide +kernel
theorem dX12_readNext_255 : decode cX12_readNext 255 = .ok (.ldc 221, 2) := by decide +kernel
theorem dX12_readNext_257 : decode cX12_readNext 257 = .ok (.invokevirtual 171, 3) := by decide +kernel
theorem dX12_readNext_260 : decode cX12_readNext 260 = .ok (.ifCond .eq 10, 3) := by decide +kernel
theorem dX12_readNext_263 : decode cX12_readNext 263 = .ok (.aload_n 0, 1) := by decide +kernel
theorem dX12_readNext_264 : decode cX12_readNext 264 = .ok (.invokevirtual 235, 3) := by decide +kernel
theorem dX12_readNext_267 : decode cX12_readNext 267 = .ok (.goto 20, 3) := by decide +kernel
theorem dX12_readNext_270 : decode cX12_readNext 270 = .ok (.aload_n 0, 1) := by decide +kernel
theorem dX12_readNext_271 : decode cX12_readNext 271 = .ok (.invokevirtual 168, 3) := by decide +kernel
theorem dX12_readNext_274 : decode cX12_readNext 274 = .ok (.aload_n 0, 1) := by decide +kernel
theorem dX12_readNext_275 : decode cX12_readNext 275 = .ok (.getfield 31, 3) := by decide +kernel
theorem dX12_readNext_278 : decode cX12_readNext 278 = .ok (.iconst 5, 1) := by decide +kernel
theorem dX12_readNext_279 : decode cX12_readNext 279 = .ok (.aload_n 0, 1) := by decide +kernel
theorem dX12_readNext_280 : decode cX12_readNext 280 = .ok (.iconst 0, 1) := by decide +kernel
theorem dX12_readNext_281 : decode cX12_readNext 281 = .ok (.bipush 99, 2) := by decide +kernel
theorem dX12_readNext_283 : decode cX12_readNext 283 = .ok (.invokevirtual 182, 3) := by decide +kernel
theorem dX12_readNext_286 : decode cX12_readNext 286 = .ok (.iastore, 1) := by decide +kernel
theorem dX12_readNext_287 : decode cX12_readNext 287 = .ok (.return_, 1) := by decide +kernel
theorem dX12_readLine_0 : decode cX12_readLine 0 = .ok (.aload_n 0, 1) := by decide +kernel
theorem dX12_readLine_1 : decode cX12_readLine 1 = .ok (.getfield 31, 3) := by decide +kernel
theorem dX12_readLine_4 : decode cX12_readLine 4 = .ok (.iconst 4, 1) := by decide +kernel
theorem dX12_readLine_5 : decode cX12_readLine 5 = .ok (.iaload, 1) := by decide +kernel
theorem dX12_readLine_6 : decode cX12_readLine 6 = .ok (.ifCond .ne 35, 3) := by decide +kernel
theorem dX12_readLine_9 : decode cX12_readLine 9 = .ok (.aload_n 0, 1) := by decide +kernel
theorem dX12_readLine_10 : decode cX12_readLine 10 = .ok (.ldc 238, 2) := by decide +kernel
theorem dX12_readLine_12 : decode cX12_readLine 12 = .ok (.invokevirtual 178, 3) := by decide +kernel
theorem dX12_readLine_15 : decode cX12_readLine 15 = .ok (.aload_n 0, 1) := by decide +kernel
theorem dX12_readLine_16 : decode cX12_readLine 16 = .ok (.getfield 31, 3) := by decide +kernel
theorem dX12_readLine_19 : decode cX12_readLine 19 = .ok (.iconst 0, 1) := by decide +kernel
theorem dX12_readLine_20 : decode cX12_readLine 20 = .ok (.aload_n 0, 1) := by decide +kernel
theorem dX12_readLine_21 : decode cX12_readLine 21 = .ok (.ldc 240, 2) := by decide +kernel
theorem dX12_readLine_23 : decode cX12_readLine 23 = .ok (.iconst 4, 1) := by decide +kernel
theorem dX12_readLine_24 : decode cX12_readLine 24 = .ok (.bipush 20, 2) := by decide +kernel
theorem dX12_readLine_26 : decode cX12_readLine 26 = .ok (.invokevirtual 187, 3) := by decide +kernel
theorem dX12_readLine_29 : decode cX12_readLine 29 = .ok (.iastore, 1) := by decide +kernel
theorem dX12_readLine_30 : decode cX12_readLine 30 = .ok (.aload_n 0, 1) := by decide +kernel
theorem dX12_readLine_31 : decode cX12_readLine 31 = .ok (.getfield 31, 3) := by decide +kernel
theorem dX12_readLine_34 : decode cX12_readLine 34 = .ok (.iconst 5, 1) := by decide +kernel
theorem dX12_readLine_35 : decode cX12_readLine 35 = .ok (.bipush 99, 2) := by decide +kernel
theorem dX12_readLine_37 : decode cX12_readLine 37 = .ok (.iastore, 1) := by decide +kernel
theorem dX12_readLine_38 : decode cX12_readLine 38 = .ok (.goto 7, 3) := by decide +kernel
theorem dX12_readLine_41 : decode cX12_readLine 41 = .ok (.aload_n 0, 1) := by decide +kernel
theorem dX12_readLine_42 : decode cX12_readLine 42 = .ok (.invokevirtual 242, 3) := by decide +kernel
theorem dX12_readLine_45 : decode cX12_readLine 45 = .ok (.aload_n 0, 1) := by decide +kernel
theorem dX12_readLine_46 : decode cX12_readLine 46 = .ok (.invokevirtual 150, 3) := by decide +kernel
theorem dX12_readLine_49 : decode cX12_readLine 49 = .ok (.ifCond .eq 16, 3) := by decide +kernel
theorem dX12_readLine_52 : decode cX12_readLine 52 = .ok (.aload_n 0, 1) := by decide +kernel
theorem dX12_readLine_53 : decode cX12_readLine 53 = .ok (.getfield 127, 3) := by decide +kernel
theorem dX12_readLine_56 : decode cX12_readLine 56 = .ok (.iconst 3, 1) := by decide +kernel
theorem dX12_readLine_57 : decode cX12_readLine 57 = .ok (.if_icmp .eq 8, 3) := by decide +kernel
theorem dX12_readLine_60 : decode cX12_readLine 60 = .ok (.aload_n 0, 1) := by decide +kernel
theorem dX12_readLine_61 : decode cX12_readLine 61 = .ok (.iconst 1, 1) := by decide +kernel
theorem dX12_readLine_62 : decode cX12_readLine 62 = .ok (.invokevirtual 174, 3) := by decide +kernel
theorem dX12_readLine_65 : decode cX12_readLine 65 = .ok (.aload_n 0, 1) := by decide +kernel
theorem dX12_readLine_66 : decode cX12_readLine 66 = .ok (.invokevirtual 150, 3) := by decide +kernel
theorem dX12_readLine_69 : decode cX12_readLine 69 = .ok (.ifCond .eq 7, 3) := by decide +kernel
theorem dX12_readLine_72 : decode cX12_readLine 72 = .ok (.aload_n 0, 1) := by decide +kernel
theorem dX12_readLine_73 : decode cX12_readLine 73 = .ok (.invokevirtual 168, 3) := by decide +kernel
theorem dX12_readLine_76 : decode cX12_readLine 76 = .ok (.aload_n 0, 1) := by decide +kernel
theorem dX12_readLine_77 : decode cX12_readLine 77 = .ok (.getfield 31, 3) := by decide +kernel
theorem dX12_readLine_80 : decode cX12_readLine 80 = .ok (.iconst 4, 1) := by decide +kernel
theorem dX12_readLine_81 : decode cX12_readLine 81 = .ok (.dup2, 1) := by decide +kernel
theorem dX12_readLine_82 : decode cX12_readLine 82 = .ok (.iaload, 1) := by decide +kernel
theorem dX12_readLine_83 : decode cX12_readLine 83 = .ok (.iconst 1, 1) := by decide +kernel
theorem dX12_readLine_84 : decode cX12_readLine 84 = .ok (.iadd, 1) := by decide +kernel
theorem dX12_readLine_85 : decode cX12_readLine 85 = .ok (.iastore, 1) := by decide +kernel
theorem dX12_readLine_86 : decode cX12_readLine 86 = .ok (.return_, 1) := by decide +kernel
theorem dX12_market_0 : decode cX12_market 0 = .ok (.aload_n 0, 1) := by decide +kernel
theorem dX12_market_1 : decode cX12_market 1 = .ok (.aload_n 0, 1) := by decide +kernel
theorem dX12_market_2 : decode cX12_market 2 = .ok (.getfield 112, 3) := by decide +kernel
theorem dX12_market_5 : decode cX12_market 5 = .ok (.putfield 115, 3) := by decide +kernel
theorem dX12_market_8 : decode cX12_market 8 = .ok (.aload_n 0, 1) := by decide +kernel
theorem dX12_market_9 : decode cX12_market 9 = .ok (.iconst 0, 1) := by decide +kernel
theorem dX12_market_10 : decode cX12_market 10 = .ok (.putfield 112, 3) := by decide +kernel
theorem dX12_market_13 : decode cX12_market 13 = .ok (.aload_n 0, 1) := by decide +kernel
theorem dX12_market_14 : decode cX12_market 14 = .ok (.iconst 0, 1) := by decide +kernel
theorem dX12_market_15 : decode cX12_market 15 = .ok (.putfield 118, 3) := by decide +kernel
theorem dX12_market_18 : decode cX12_market 18 = .ok (.aload_n 0, 1) := by decide +kernel
theorem dX12_market_19 : decode cX12_market 19 = .ok (.iconst 0, 1) := by decide +kernel
theorem dX12_market_20 : decode cX12_market 20 = .ok (.putfield 147, 3) := by decide +kernel
theorem dX12_market_23 : decode cX12_market 23 = .ok (.aload_n 0, 1) := by decide +kernel
theorem dX12_market_24 : decode cX12_market 24 = .ok (.iconst (-1), 1) := by decide +kernel
theorem dX12_market_25 : decode cX12_market 25 = .ok (.putfield 27, 3) := by decide +kernel
theorem dX12_market_28 : decode cX12_market 28 = .ok (.iconst 0, 1) := by decide +kernel
theorem dX12_market_29 : decode cX12_market 29 = .ok (.istore_n 1, 1) := by decide +kernel
theorem dX12_market_30 : decode cX12_market 30 = .ok (.iload_n 1, 1) := by decide +kernel
theorem dX12_market_31 : decode cX12_market 31 = .ok (.sipush 468, 3) := by decide +kernel
theorem dX12_market_34 : decode cX12_market 34 = .ok (.if_icmp .ge 16, 3) := by decide +kernel
theorem dX12_market_37 : decode cX12_market 37 = .ok (.aload_n 0, 1) := by decide +kernel
theorem dX12_market_38 : decode cX12_market 38 = .ok (.getfield 31, 3) := by decide +kernel
theorem dX12_market_41 : decode cX12_market 41 = .ok (.iload_n 1, 1) := by decide +kernel
theorem dX12_market_42 : decode cX12_market 42 = .ok (.iconst 0, 1) := by decide +kernel
theorem dX12_market_43 : decode cX12_market 43 = .ok (.iastore, 1) := by decide +kernel
theorem dX12_market_44 : decode cX12_market 44 = .ok (.iinc 1 1, 3) := by decide +kernel
theorem dX12_market_47 : decode cX12_market 47 = .ok (.goto (-17), 3) := by decide +kernel
theorem dX12_market_50 : decode cX12_market 50 = .ok (.aload_n 0, 1) := by decide +kernel
theorem dX12_market_51 : decode cX12_market 51 = .ok (.invokevirtual 168, 3) := by decide +kernel
theorem dX12_market_54 : decode cX12_market 54 = .ok (.aload_n 0, 1) := by decide +kernel
theorem dX12_market_55 : decode cX12_market 55 = .ok (.invokevirtual 150, 3) := by decide +kernel
theorem dX12_market_58 : decode cX12_market 58 = .ok (.ifCond .eq 17, 3) := by decide +kernel
theorem dX12_market_61 : decode cX12_market 61 = .ok (.aload_n 0, 1) := by decide +kernel
theorem dX12_market_62 : decode cX12_market 62 = .ok (.getfield 127, 3) := by decide +kernel
theorem dX12_market_65 : decode cX12_market 65 = .ok (.ifCond .eq 10, 3) := by decide +kernel
theorem dX12_market_68 : decode cX12_market 68 = .ok (.aload_n 0, 1) := by decide +kernel
theorem dX12_market_69 : decode cX12_market 69 = .ok (.invokevirtual 245, 3) := by decide +kernel
theorem dX12_market_72 : decode cX12_market 72 = .ok (.goto (-18), 3) := by decide +kernel
theorem dX12_market_75 : decode cX12_market 75 = .ok (.aload_n 0, 1) := by decide +kernel
theorem dX12_market_76 : decode cX12_market 76 = .ok (.invokevirtual 150, 3) := by decide +kernel
theorem dX12_market_79 : decode cX12_market 79 = .ok (.ifCond .ne 6, 3) := by decide +kernel
theorem dX12_market_82 : decode cX12_market 82 = .ok (.bipush (-4), 2) := by decide +kernel
theorem dX12_market_84 : decode cX12_market 84 = .ok (.ireturn, 1) := by decide +kernel
theorem dX12_market_85 : decode cX12_market 85 = .ok (.iconst 0, 1) := by decide +kernel
theorem dX12_market_86 : decode cX12_market 86 = .ok (.istore_n 1, 1) := by decide +kernel
theorem dX12_market_87 : decode cX12_market 87 = .ok (.iload_n 1, 1) := by decide +kernel
theorem dX12_market_88 : decode cX12_market 88 = .ok (.sipush 468, 3) := by decide +kernel
theorem dX12_market_91 : decode cX12_market 91 = .ok (.if_icmp .ge 21, 3) := by decide +kernel
theorem dX12_market_94 : decode cX12_market 94 = .ok (.aload_n 0, 1) := by decide +kernel
theorem dX12_market_95 : decode cX12_market 95 = .ok (.getfield 9, 3) := by decide +kernel
theorem dX12_market_98 : decode cX12_market 98 = .ok (.iload_n 1, 1) := by decide +kernel
theorem dX12_market_99 : decode cX12_market 99 = .ok (.aload_n 0, 1) := by decide +kernel
theorem dX12_market_100 : decode cX12_market 100 = .ok (.getfield 31, 3) := by decide +kernel
theorem dX12_market_103 : decode cX12_market 103 = .ok (.iload_n 1, 1) := by decide +kernel
theorem dX12_market_104 : decode cX12_market 104 = .ok (.iaload, 1) := by decide +kernel
theorem dX12_market_105 : decode cX12_market 105 = .ok (.iastore, 1) := by decide +kernel
theorem dX12_market_106 : decode cX12_market 106 = .ok (.iinc 1 1, 3) := by decide +kernel
theorem dX12_market_109 : decode cX12_market 109 = .ok (.goto (-22), 3) := by decide +kernel
theorem dX12_market_112 : decode cX12_market 112 = .ok (.aload_n 0, 1) := by decide +kernel
theorem dX12_market_113 : decode cX12_market 113 = .ok (.getfield 9, 3) := by decide +kernel
theorem dX12_market_116 : decode cX12_market 116 = .ok (.iconst 4, 1) := by decide +kernel
theorem dX12_market_117 : decode cX12_market 117 = .ok (.iaload, 1) := by decide +kernel
theorem dX12_market_118 : decode cX12_market 118 = .ok (.ireturn, 1) := by decide +kernel
theorem dX12_draw_0 : decode cX12_draw 0 = .ok (.aload_n 0, 1) := by decide +kernel
theorem dX12_draw_1 : decode cX12_draw 1 = .ok (.ldc2_w 248, 3) := by decide +kernel
theorem dX12_draw_4 : decode cX12_draw 4 = .ok (.aload_n 0, 1) := by decide +kernel
theorem dX12_draw_5 : decode cX12_draw 5 = .ok (.getfield 250, 3) := by decide +kernel
theorem dX12_draw_8 : decode cX12_draw 8 = .ok (.lmul, 1) := by decide +kernel
theorem dX12_draw_9 : decode cX12_draw 9 = .ok (.ldc2_w 254, 3) := by decide +kernel
theorem dX12_draw_12 : decode cX12_draw 12 = .ok (.ladd, 1) := by decide +kernel
theorem dX12_draw_13 : decode cX12_draw 13 = .ok (.ldc2_w 256, 3) := by decide +kernel
theorem dX12_draw_16 : decode cX12_draw 16 = .ok (.lrem, 1) := by decide +kernel
theorem dX12_draw_17 : decode cX12_draw 17 = .ok (.putfield 250, 3) := by decide +kernel
theorem dX12_draw_20 : decode cX12_draw 20 = .ok (.aload_n 0, 1) := by decide +kernel
theorem dX12_draw_21 : decode cX12_draw 21 = .ok (.getfield 250, 3) := by decide +kernel
theorem dX12_draw_24 : decode cX12_draw 24 = .ok (.ldc2_w 258, 3) := by decide +kernel
theorem dX12_draw_27 : decode cX12_draw 27 = .ok (.ldiv, 1) := by decide +kernel
theorem dX12_draw_28 : decode cX12_draw 28 = .ok (.iload_n 1, 1) := by decide +kernel
theorem dX12_draw_29 : decode cX12_draw 29 = .ok (.i2l, 1) := by decide +kernel
theorem dX12_draw_30 : decode cX12_draw 30 = .ok (.lrem, 1) := by decide +kernel
theorem dX12_draw_31 : decode cX12_draw 31 = .ok (.l2i, 1) := by decide +kernel
theorem dX12_draw_32 : decode cX12_draw 32 = .ok (.ireturn, 1) := by decide +kernel
theorem dX12_comesTo_0 : decode cX12_comesTo 0 = .ok (.aload_n 0, 1) := by decide +kernel
theorem dX12_comesTo_1 : decode cX12_comesTo 1 = .ok (.getfield 9, 3) := by decide +kernel
theorem dX12_comesTo_4 : decode cX12_comesTo 4 = .ok (.sipush 326, 3) := by decide +kernel
theorem dX12_comesTo_7 : decode cX12_comesTo 7 = .ok (.iload_n 1, 1) := by decide +kernel
theorem dX12_comesTo_8 : decode cX12_comesTo 8 = .ok (.iload_n 2, 1) := by decide +kernel
theorem dX12_comesTo_9 : decode cX12_comesTo 9 = .ok (.invokestatic 105, 3) := by decide +kernel
theorem dX12_comesTo_12 : decode cX12_comesTo 12 = .ok (.iadd, 1) := by decide +kernel
theorem dX12_comesTo_13 : decode cX12_comesTo 13 = .ok (.iaload, 1) := by decide +kernel
theorem dX12_comesTo_14 : decode cX12_comesTo 14 = .ok (.iload_n 2, 1) := by decide +kernel
theorem dX12_comesTo_15 : decode cX12_comesTo 15 = .ok (.ifCond .ne 12, 3) := by decide +kernel
theorem dX12_comesTo_18 : decode cX12_comesTo 18 = .ok (.aload_n 0, 1) := by decide +kernel
theorem dX12_comesTo_19 : decode cX12_comesTo 19 = .ok (.iload_n 1, 1) := by decide +kernel
theorem dX12_comesTo_20 : decode cX12_comesTo 20 = .ok (.iconst 2, 1) := by decide +kernel
theorem dX12_comesTo_21 : decode cX12_comesTo 21 = .ok (.invokevirtual 109, 3) := by decide +kernel
theorem dX12_comesTo_24 : decode cX12_comesTo 24 = .ok (.goto 4, 3) := by decide +kernel
theorem dX12_comesTo_27 : decode cX12_comesTo 27 = .ok (.iconst 0, 1) := by decide +kernel
theorem dX12_comesTo_28 : decode cX12_comesTo 28 = .ok (.iadd, 1) := by decide +kernel
theorem dX12_comesTo_29 : decode cX12_comesTo 29 = .ok (.ireturn, 1) := by decide +kernel
theorem dX12_stockOf_0 : decode cX12_stockOf 0 = .ok (.iconst 0, 1) := by decide +kernel
theorem dX12_stockOf_1 : decode cX12_stockOf 1 = .ok (.istore_n 2, 1) := by decide +kernel
theorem dX12_stockOf_2 : decode cX12_stockOf 2 = .ok (.iconst 0, 1) := by decide +kernel
theorem dX12_stockOf_3 : decode cX12_stockOf 3 = .ok (.istore_n 3, 1) := by decide +kernel
theorem dX12_stockOf_4 : decode cX12_stockOf 4 = .ok (.iload_n 3, 1) := by decide +kernel
theorem dX12_stockOf_5 : decode cX12_stockOf 5 = .ok (.aload_n 0, 1) := by decide +kernel
theorem dX12_stockOf_6 : decode cX12_stockOf 6 = .ok (.getfield 9, 3) := by decide +kernel
theorem dX12_stockOf_9 : decode cX12_stockOf 9 = .ok (.iconst 0, 1) := by decide +kernel
theorem dX12_stockOf_10 : decode cX12_stockOf 10 = .ok (.iaload, 1) := by decide +kernel
theorem dX12_stockOf_11 : decode cX12_stockOf 11 = .ok (.if_icmp .ge 22, 3) := by decide +kernel
theorem dX12_stockOf_14 : decode cX12_stockOf 14 = .ok (.iload_n 2, 1) := by decide +kernel
theorem dX12_stockOf_15 : decode cX12_stockOf 15 = .ok (.aload_n 0, 1) := by decide +kernel
theorem dX12_stockOf_16 : decode cX12_stockOf 16 = .ok (.getfield 34, 3) := by decide +kernel
theorem dX12_stockOf_19 : decode cX12_stockOf 19 = .ok (.iload_n 1, 1) := by decide +kernel
theorem dX12_stockOf_20 : decode cX12_stockOf 20 = .ok (.iload_n 3, 1) := by decide +kernel
theorem dX12_stockOf_21 : decode cX12_stockOf 21 = .ok (.invokestatic 105, 3) := by decide +kernel
theorem dX12_stockOf_24 : decode cX12_stockOf 24 = .ok (.iaload, 1) := by decide +kernel
theorem dX12_stockOf_25 : decode cX12_stockOf 25 = .ok (.iadd, 1) := by decide +kernel
theorem dX12_stockOf_26 : decode cX12_stockOf 26 = .ok (.istore_n 2, 1) := by decide +kernel
theorem dX12_stockOf_27 : decode cX12_stockOf 27 = .ok (.iinc 3 1, 3) := by decide +kernel
theorem dX12_stockOf_30 : decode cX12_stockOf 30 = .ok (.goto (-26), 3) := by decide +kernel
theorem dX12_stockOf_33 : decode cX12_stockOf 33 = .ok (.iload_n 2, 1) := by decide +kernel
theorem dX12_stockOf_34 : decode cX12_stockOf 34 = .ok (.ireturn, 1) := by decide +kernel
theorem dX12_wantsOn_0 : decode cX12_wantsOn 0 = .ok (.aload_n 0, 1) := by decide +kernel
theorem dX12_wantsOn_1 : decode cX12_wantsOn 1 = .ok (.iload_n 1, 1) := by decide +kernel
theorem dX12_wantsOn_2 : decode cX12_wantsOn 2 = .ok (.iconst 0, 1) := by decide +kernel
theorem dX12_wantsOn_3 : decode cX12_wantsOn 3 = .ok (.invokevirtual 260, 3) := by decide +kernel
theorem dX12_wantsOn_6 : decode cX12_wantsOn 6 = .ok (.iload_n 2, 1) := by decide +kernel
theorem dX12_wantsOn_7 : decode cX12_wantsOn 7 = .ok (.if_icmp .ne 44, 3) := by decide +kernel
theorem dX12_wantsOn_10 : decode cX12_wantsOn 10 = .ok (.iload_n 3, 1) := by decide +kernel
theorem dX12_wantsOn_11 : decode cX12_wantsOn 11 = .ok (.i2l, 1) := by decide +kernel
theorem dX12_wantsOn_12 : decode cX12_wantsOn 12 = .ok (.aload_n 0, 1) := by decide +kernel
theorem dX12_wantsOn_13 : decode cX12_wantsOn 13 = .ok (.iload_n 1, 1) := by decide +kernel
theorem dX12_wantsOn_14 : decode cX12_wantsOn 14 = .ok (.iconst 3, 1) := by decide +kernel
theorem dX12_wantsOn_15 : decode cX12_wantsOn 15 = .ok (.invokevirtual 260, 3) := by decide +kernel
theorem dX12_wantsOn_18 : decode cX12_wantsOn 18 = .ok (.i2l, 1) := by decide +kernel
theorem dX12_wantsOn_19 : decode cX12_wantsOn 19 = .ok (.aload_n 0, 1) := by decide +kernel
theorem dX12_wantsOn_20 : decode cX12_wantsOn 20 = .ok (.iload_n 1, 1) := by decide +kernel
theorem dX12_wantsOn_21 : decode cX12_wantsOn 21 = .ok (.iconst 4, 1) := by decide +kernel
theorem dX12_wantsOn_22 : decode cX12_wantsOn 22 = .ok (.invokevirtual 260, 3) := by decide +kernel
theorem dX12_wantsOn_25 : decode cX12_wantsOn 25 = .ok (.i2l, 1) := by decide +kernel
theorem dX12_wantsOn_26 : decode cX12_wantsOn 26 = .ok (.invokestatic 94, 3) := by decide +kernel
theorem dX12_wantsOn_29 : decode cX12_wantsOn 29 = .ok (.ifCond .eq 22, 3) := by decide +kernel
theorem dX12_wantsOn_32 : decode cX12_wantsOn 32 = .ok (.aload_n 0, 1) := by decide +kernel
theorem dX12_wantsOn_33 : decode cX12_wantsOn 33 = .ok (.iload_n 1, 1) := by decide +kernel
theorem dX12_wantsOn_34 : decode cX12_wantsOn 34 = .ok (.iconst 2, 1) := by decide +kernel
theorem dX12_wantsOn_35 : decode cX12_wantsOn 35 = .ok (.invokevirtual 260, 3) := by decide +kernel
theorem dX12_wantsOn_38 : decode cX12_wantsOn 38 = .ok (.aload_n 0, 1) := by decide +kernel
theorem dX12_wantsOn_39 : decode cX12_wantsOn 39 = .ok (.iload_n 2, 1) := by decide +kernel
theorem dX12_wantsOn_40 : decode cX12_wantsOn 40 = .ok (.iload_n 3, 1) := by decide +kernel
theorem dX12_wantsOn_41 : decode cX12_wantsOn 41 = .ok (.invokevirtual 263, 3) := by decide +kernel
theorem dX12_wantsOn_44 : decode cX12_wantsOn 44 = .ok (.if_icmp .lt 7, 3) := by decide +kernel
theorem dX12_wantsOn_47 : decode cX12_wantsOn 47 = .ok (.iconst 1, 1) := by decide +kernel
theorem dX12_wantsOn_48 : decode cX12_wantsOn 48 = .ok (.goto 4, 3) := by decide +kernel
theorem dX12_wantsOn_51 : decode cX12_wantsOn 51 = .ok (.iconst 0, 1) := by decide +kernel
theorem dX12_wantsOn_52 : decode cX12_wantsOn 52 = .ok (.ireturn, 1) := by decide +kernel
theorem dX12_askedOf_0 : decode cX12_askedOf 0 = .ok (.iconst 0, 1) := by decide +kernel
theorem dX12_askedOf_1 : decode cX12_askedOf 1 = .ok (.istore_n 3, 1) := by decide +kernel
theorem dX12_askedOf_2 : decode cX12_askedOf 2 = .ok (.iconst 0, 1) := by decide +kernel
theorem dX12_askedOf_3 : decode cX12_askedOf 3 = .ok (.istore 4, 2) := by decide +kernel
theorem dX12_askedOf_5 : decode cX12_askedOf 5 = .ok (.iload 4, 2) := by decide +kernel
theorem dX12_askedOf_7 : decode cX12_askedOf 7 = .ok (.aload_n 0, 1) := by decide +kernel
theorem dX12_askedOf_8 : decode cX12_askedOf 8 = .ok (.getfield 9, 3) := by decide +kernel
theorem dX12_askedOf_11 : decode cX12_askedOf 11 = .ok (.iconst 3, 1) := by decide +kernel
theorem dX12_askedOf_12 : decode cX12_askedOf 12 = .ok (.iaload, 1) := by decide +kernel
theorem dX12_askedOf_13 : decode cX12_askedOf 13 = .ok (.if_icmp .ge 34, 3) := by decide +kernel
theorem dX12_askedOf_16 : decode cX12_askedOf 16 = .ok (.iload_n 3, 1) := by decide +kernel
theorem dX12_askedOf_17 : decode cX12_askedOf 17 = .ok (.aload_n 0, 1) := by decide +kernel
theorem dX12_askedOf_18 : decode cX12_askedOf 18 = .ok (.iload 4, 2) := by decide +kernel
theorem dX12_askedOf_20 : decode cX12_askedOf 20 = .ok (.iload_n 1, 1) := by decide +kernel
theorem dX12_askedOf_21 : decode cX12_askedOf 21 = .ok (.iload_n 2, 1) := by decide +kernel
theorem dX12_askedOf_22 : decode cX12_askedOf 22 = .ok (.invokevirtual 266, 3) := by decide +kernel
theorem dX12_askedOf_25 : decode cX12_askedOf 25 = .ok (.ifCond .eq 13, 3) := by decide +kernel
theorem dX12_askedOf_28 : decode cX12_askedOf 28 = .ok (.aload_n 0, 1) := by decide +kernel
theorem dX12_askedOf_29 : decode cX12_askedOf 29 = .ok (.iload 4, 2) := by decide +kernel
theorem dX12_askedOf_31 : decode cX12_askedOf 31 = .ok (.iconst 1, 1) := by decide +kernel
theorem dX12_askedOf_32 : decode cX12_askedOf 32 = .ok (.invokevirtual 260, 3) := by decide +kernel
theorem dX12_askedOf_35 : decode cX12_askedOf 35 = .ok (.goto 4, 3) := by decide +kernel
theorem dX12_askedOf_38 : decode cX12_askedOf 38 = .ok (.iconst 0, 1) := by decide +kernel
theorem dX12_askedOf_39 : decode cX12_askedOf 39 = .ok (.iadd, 1) := by decide +kernel
theorem dX12_askedOf_40 : decode cX12_askedOf 40 = .ok (.istore_n 3, 1) := by decide +kernel
theorem dX12_askedOf_41 : decode cX12_askedOf 41 = .ok (.iinc 4 1, 3) := by decide +kernel
theorem dX12_askedOf_44 : decode cX12_askedOf 44 = .ok (.goto (-39), 3) := by decide +kernel
theorem dX12_askedOf_47 : decode cX12_askedOf 47 = .ok (.iload_n 3, 1) := by decide +kernel
theorem dX12_askedOf_48 : decode cX12_askedOf 48 = .ok (.ireturn, 1) := by decide +kernel
theorem dX12_spoilsIn_0 : decode cX12_spoilsIn 0 = .ok (.iconst 0, 1) := by decide +kernel
theorem dX12_spoilsIn_1 : decode cX12_spoilsIn 1 = .ok (.istore_n 2, 1) := by decide +kernel
theorem dX12_spoilsIn_2 : decode cX12_spoilsIn 2 = .ok (.iload_n 2, 1) := by decide +kernel
theorem dX12_spoilsIn_3 : decode cX12_spoilsIn 3 = .ok (.aload_n 0, 1) := by decide +kernel
theorem dX12_spoilsIn_4 : decode cX12_spoilsIn 4 = .ok (.getfield 9, 3) := by decide +kernel
theorem dX12_spoilsIn_7 : decode cX12_spoilsIn 7 = .ok (.iconst 2, 1) := by decide +kernel
theorem dX12_spoilsIn_8 : decode cX12_spoilsIn 8 = .ok (.iaload, 1) := by decide +kernel
theorem dX12_spoilsIn_9 : decode cX12_spoilsIn 9 = .ok (.if_icmp .ge 105, 3) := by decide +kernel
theorem dX12_spoilsIn_12 : decode cX12_spoilsIn 12 = .ok (.iconst 0, 1) := by decide +kernel
theorem dX12_spoilsIn_13 : decode cX12_spoilsIn 13 = .ok (.istore_n 3, 1) := by decide +kernel
theorem dX12_spoilsIn_14 : decode cX12_spoilsIn 14 = .ok (.iload_n 3, 1) := by decide +kernel
theorem dX12_spoilsIn_15 : decode cX12_spoilsIn 15 = .ok (.aload_n 0, 1) := by decide +kernel
theorem dX12_spoilsIn_16 : decode cX12_spoilsIn 16 = .ok (.aload_n 0, 1) := by decide +kernel
theorem dX12_spoilsIn_17 : decode cX12_spoilsIn 17 = .ok (.iload_n 2, 1) := by decide +kernel
theorem dX12_spoilsIn_18 : decode cX12_spoilsIn 18 = .ok (.invokevirtual 270, 3) := by decide +kernel
theorem dX12_spoilsIn_21 : decode cX12_spoilsIn 21 = .ok (.invokevirtual 273, 3) := by decide +kernel
theorem dX12_spoilsIn_24 : decode cX12_spoilsIn 24 = .ok (.iadd, 1) := by decide +kernel
theorem dX12_spoilsIn_25 : decode cX12_spoilsIn 25 = .ok (.iload_n 1, 1) := by decide +kernel
theorem dX12_spoilsIn_26 : decode cX12_spoilsIn 26 = .ok (.if_icmp .ge 66, 3) := by decide +kernel
theorem dX12_spoilsIn_29 : decode cX12_spoilsIn 29 = .ok (.aload_n 0, 1) := by decide +kernel
theorem dX12_spoilsIn_30 : decode cX12_spoilsIn 30 = .ok (.getfield 55, 3) := by decide +kernel
theorem dX12_spoilsIn_33 : decode cX12_spoilsIn 33 = .ok (.iload_n 2, 1) := by decide +kernel
theorem dX12_spoilsIn_34 : decode cX12_spoilsIn 34 = .ok (.dup2, 1) := by decide +kernel
theorem dX12_spoilsIn_35 : decode cX12_spoilsIn 35 = .ok (.iaload, 1) := by decide +kernel
theorem dX12_spoilsIn_36 : decode cX12_spoilsIn 36 = .ok (.aload_n 0, 1) := by decide +kernel
theorem dX12_spoilsIn_37 : decode cX12_spoilsIn 37 = .ok (.getfield 34, 3) := by decide +kernel
theorem dX12_spoilsIn_40 : decode cX12_spoilsIn 40 = .ok (.iload_n 2, 1) := by decide +kernel
theorem dX12_spoilsIn_41 : decode cX12_spoilsIn 41 = .ok (.iload_n 3, 1) := by decide +kernel
theorem dX12_spoilsIn_42 : decode cX12_spoilsIn 42 = .ok (.invokestatic 105, 3) := by decide +kernel
theorem dX12_spoilsIn_45 : decode cX12_spoilsIn 45 = .ok (.iaload, 1) := by decide +kernel
theorem dX12_spoilsIn_46 : decode cX12_spoilsIn 46 = .ok (.iadd, 1) := by decide +kernel
theorem dX12_spoilsIn_47 : decode cX12_spoilsIn 47 = .ok (.iastore, 1) := by decide +kernel
theorem dX12_spoilsIn_48 : decode cX12_spoilsIn 48 = .ok (.aload_n 0, 1) := by decide +kernel
theorem dX12_spoilsIn_49 : decode cX12_spoilsIn 49 = .ok (.getfield 64, 3) := by decide +kernel
theorem dX12_spoilsIn_52 : decode cX12_spoilsIn 52 = .ok (.aload_n 0, 1) := by decide +kernel
theorem dX12_spoilsIn_53 : decode cX12_spoilsIn 53 = .ok (.iload_n 2, 1) := by decide +kernel
theorem dX12_spoilsIn_54 : decode cX12_spoilsIn 54 = .ok (.invokevirtual 270, 3) := by decide +kernel
theorem dX12_spoilsIn_57 : decode cX12_spoilsIn 57 = .ok (.iload_n 1, 1) := by decide +kernel
theorem dX12_spoilsIn_58 : decode cX12_spoilsIn 58 = .ok (.invokestatic 105, 3) := by decide +kernel
theorem dX12_spoilsIn_61 : decode cX12_spoilsIn 61 = .ok (.dup2, 1) := by decide +kernel
theorem dX12_spoilsIn_62 : decode cX12_spoilsIn 62 = .ok (.iaload, 1) := by decide +kernel
theorem dX12_spoilsIn_63 : decode cX12_spoilsIn 63 = .ok (.aload_n 0, 1) := by decide +kernel
theorem dX12_spoilsIn_64 : decode cX12_spoilsIn 64 = .ok (.getfield 34, 3) := by decide +kernel
theorem dX12_spoilsIn_67 : decode cX12_spoilsIn 67 = .ok (.iload_n 2, 1) := by decide +kernel
theorem dX12_spoilsIn_68 : decode cX12_spoilsIn 68 = .ok (.iload_n 3, 1) := by decide +kernel
theorem dX12_spoilsIn_69 : decode cX12_spoilsIn 69 = .ok (.invokestatic 105, 3) := by decide +kernel
theorem dX12_spoilsIn_72 : decode cX12_spoilsIn 72 = .ok (.iaload, 1) := by decide +kernel
theorem dX12_spoilsIn_73 : decode cX12_spoilsIn 73 = .ok (.iadd, 1) := by decide +kernel
theorem dX12_spoilsIn_74 : decode cX12_spoilsIn 74 = .ok (.iastore, 1) := by decide +kernel
theorem dX12_spoilsIn_75 : decode cX12_spoilsIn 75 = .ok (.aload_n 0, 1) := by decide +kernel
theorem dX12_spoilsIn_76 : decode cX12_spoilsIn 76 = .ok (.getfield 34, 3) := by decide +kernel
theorem dX12_spoilsIn_79 : decode cX12_spoilsIn 79 = .ok (.iload_n 2, 1) := by decide +kernel
theorem dX12_spoilsIn_80 : decode cX12_spoilsIn 80 = .ok (.iload_n 3, 1) := by decide +kernel
theorem dX12_spoilsIn_81 : decode cX12_spoilsIn 81 = .ok (.invokestatic 105, 3) := by decide +kernel
theorem dX12_spoilsIn_84 : decode cX12_spoilsIn 84 = .ok (.iconst 0, 1) := by decide +kernel
theorem dX12_spoilsIn_85 : decode cX12_spoilsIn 85 = .ok (.iastore, 1) := by decide +kernel
theorem dX12_spoilsIn_86 : decode cX12_spoilsIn 86 = .ok (.iinc 3 1, 3) := by decide +kernel
theorem dX12_spoilsIn_89 : decode cX12_spoilsIn 89 = .ok (.goto (-75), 3) := by decide +kernel
theorem dX12_spoilsIn_92 : decode cX12_spoilsIn 92 = .ok (.aload_n 0, 1) := by decide +kernel
theorem dX12_spoilsIn_93 : decode cX12_spoilsIn 93 = .ok (.getfield 34, 3) := by decide +kernel
theorem dX12_spoilsIn_96 : decode cX12_spoilsIn 96 = .ok (.iload_n 2, 1) := by decide +kernel
theorem dX12_spoilsIn_97 : decode cX12_spoilsIn 97 = .ok (.iload_n 1, 1) := by decide +kernel
theorem dX12_spoilsIn_98 : decode cX12_spoilsIn 98 = .ok (.invokestatic 105, 3) := by decide +kernel
theorem dX12_spoilsIn_101 : decode cX12_spoilsIn 101 = .ok (.aload_n 0, 1) := by decide +kernel
theorem dX12_spoilsIn_102 : decode cX12_spoilsIn 102 = .ok (.iload_n 2, 1) := by decide +kernel
theorem dX12_spoilsIn_103 : decode cX12_spoilsIn 103 = .ok (.iload_n 1, 1) := by decide +kernel
theorem dX12_spoilsIn_104 : decode cX12_spoilsIn 104 = .ok (.invokevirtual 276, 3) := by decide +kernel
theorem dX12_spoilsIn_107 : decode cX12_spoilsIn 107 = .ok (.iastore, 1) := by decide +kernel
theorem dX12_spoilsIn_108 : decode cX12_spoilsIn 108 = .ok (.iinc 2 1, 3) := by decide +kernel
theorem dX12_spoilsIn_111 : decode cX12_spoilsIn 111 = .ok (.goto (-109), 3) := by decide +kernel
theorem dX12_spoilsIn_114 : decode cX12_spoilsIn 114 = .ok (.return_, 1) := by decide +kernel
theorem dX12_offers_0 : decode cX12_offers 0 = .ok (.aload_n 0, 1) := by decide +kernel
theorem dX12_offers_1 : decode cX12_offers 1 = .ok (.iload_n 1, 1) := by decide +kernel
theorem dX12_offers_2 : decode cX12_offers 2 = .ok (.invokevirtual 270, 3) := by decide +kernel
theorem dX12_offers_5 : decode cX12_offers 5 = .ok (.iload_n 2, 1) := by decide +kernel
theorem dX12_offers_6 : decode cX12_offers 6 = .ok (.if_icmp .ne 22, 3) := by decide +kernel
theorem dX12_offers_9 : decode cX12_offers 9 = .ok (.aload_n 0, 1) := by decide +kernel
theorem dX12_offers_10 : decode cX12_offers 10 = .ok (.iload_n 1, 1) := by decide +kernel
theorem dX12_offers_11 : decode cX12_offers 11 = .ok (.iconst 1, 1) := by decide +kernel
theorem dX12_offers_12 : decode cX12_offers 12 = .ok (.invokevirtual 109, 3) := by decide +kernel
theorem dX12_offers_15 : decode cX12_offers 15 = .ok (.aload_n 0, 1) := by decide +kernel
theorem dX12_offers_16 : decode cX12_offers 16 = .ok (.iload_n 2, 1) := by decide +kernel
theorem dX12_offers_17 : decode cX12_offers 17 = .ok (.iload_n 3, 1) := by decide +kernel
theorem dX12_offers_18 : decode cX12_offers 18 = .ok (.invokevirtual 263, 3) := by decide +kernel
theorem dX12_offers_21 : decode cX12_offers 21 = .ok (.if_icmp .gt 7, 3) := by decide +kernel
theorem dX12_offers_24 : decode cX12_offers 24 = .ok (.iconst 1, 1) := by decide +kernel
theorem dX12_offers_25 : decode cX12_offers 25 = .ok (.goto 4, 3) := by decide +kernel
theorem dX12_offers_28 : decode cX12_offers 28 = .ok (.iconst 0, 1) := by decide +kernel
theorem dX12_offers_29 : decode cX12_offers 29 = .ok (.ireturn, 1) := by decide +kernel
theorem dX12_takes__0 : decode cX12_takes_ 0 = .ok (.iload_n 3, 1) := by decide +kernel
theorem dX12_takes__1 : decode cX12_takes_ 1 = .ok (.istore 4, 2) := by decide +kernel
theorem dX12_takes__3 : decode cX12_takes_ 3 = .ok (.iconst 0, 1) := by decide +kernel
theorem dX12_takes__4 : decode cX12_takes_ 4 = .ok (.istore 5, 2) := by decide +kernel
theorem dX12_takes__6 : decode cX12_takes_ 6 = .ok (.iload 5, 2) := by decide +kernel
theorem dX12_takes__8 : decode cX12_takes_ 8 = .ok (.aload_n 0, 1) := by decide +kernel
theorem dX12_takes__9 : decode cX12_takes_ 9 = .ok (.getfield 9, 3) := by decide +kernel
theorem dX12_takes__12 : decode cX12_takes_ 12 = .ok (.iconst 2, 1) := by decide +kernel
theorem dX12_takes__13 : decode cX12_takes_ 13 = .ok (.iaload, 1) := by decide +kernel
theorem dX12_takes__14 : decode cX12_takes_ 14 = .ok (.if_icmp .ge 113, 3) := by decide +kernel
theorem dX12_takes__17 : decode cX12_takes_ 17 = .ok (.iconst 0, 1) := by decide +kernel
theorem dX12_takes__18 : decode cX12_takes_ 18 = .ok (.istore 6, 2) := by decide +kernel
theorem dX12_takes__20 : decode cX12_takes_ 20 = .ok (.iload 6, 2) := by decide +kernel
theorem dX12_takes__22 : decode cX12_takes_ 22 = .ok (.iload_n 2, 1) := by decide +kernel
theorem dX12_takes__23 : decode cX12_takes_ 23 = .ok (.if_icmp .gt 98, 3) := by decide +kernel
theorem dX12_takes__26 : decode cX12_takes_ 26 = .ok (.aload_n 0, 1) := by decide +kernel
theorem dX12_takes__27 : decode cX12_takes_ 27 = .ok (.iload 5, 2) := by decide +kernel
theorem dX12_takes__29 : decode cX12_takes_ 29 = .ok (.iload_n 1, 1) := by decide +kernel
theorem dX12_takes__30 : decode cX12_takes_ 30 = .ok (.iload_n 2, 1) := by decide +kernel
theorem dX12_takes__31 : decode cX12_takes_ 31 = .ok (.invokevirtual 279, 3) := by decide +kernel
theorem dX12_takes__34 : decode cX12_takes_ 34 = .ok (.ifCond .eq 87, 3) := by decide +kernel
theorem dX12_takes__37 : decode cX12_takes_ 37 = .ok (.iload 4, 2) := by decide +kernel
theorem dX12_takes__39 : decode cX12_takes_ 39 = .ok (.aload_n 0, 1) := by decide +kernel
theorem dX12_takes__40 : decode cX12_takes_ 40 = .ok (.getfield 34, 3) := by decide +kernel
theorem dX12_takes__43 : decode cX12_takes_ 43 = .ok (.iload 5, 2) := by decide +kernel
theorem dX12_takes__45 : decode cX12_takes_ 45 = .ok (.iload 6, 2) := by decide +kernel
theorem dX12_takes__47 : decode cX12_takes_ 47 = .ok (.invokestatic 105, 3) := by decide +kernel
theorem dX12_takes__50 : decode cX12_takes_ 50 = .ok (.iaload, 1) := by decide +kernel
theorem dX12_takes__51 : decode cX12_takes_ 51 = .ok (.invokestatic 142, 3) := by decide +kernel
theorem dX12_takes__54 : decode cX12_takes_ 54 = .ok (.istore 7, 2) := by decide +kernel
theorem dX12_takes__56 : decode cX12_takes_ 56 = .ok (.aload_n 0, 1) := by decide +kernel
theorem dX12_takes__57 : decode cX12_takes_ 57 = .ok (.getfield 34, 3) := by decide +kernel
theorem dX12_takes__60 : decode cX12_takes_ 60 = .ok (.iload 5, 2) := by decide +kernel
theorem dX12_takes__62 : decode cX12_takes_ 62 = .ok (.iload 6, 2) := by decide +kernel
theorem dX12_takes__64 : decode cX12_takes_ 64 = .ok (.invokestatic 105, 3) := by decide +kernel
theorem dX12_takes__67 : decode cX12_takes_ 67 = .ok (.dup2, 1) := by decide +kernel
theorem dX12_takes__68 : decode cX12_takes_ 68 = .ok (.iaload, 1) := by decide +kernel
theorem dX12_takes__69 : decode cX12_takes_ 69 = .ok (.iload 7, 2) := by decide +kernel
theorem dX12_takes__71 : decode cX12_takes_ 71 = .ok (.isub, 1) := by decide +kernel
theorem dX12_takes__72 : decode cX12_takes_ 72 = .ok (.iastore, 1) := by decide +kernel
theorem dX12_takes__73 : decode cX12_takes_ 73 = .ok (.aload_n 0, 1) := by decide +kernel
theorem dX12_takes__74 : decode cX12_takes_ 74 = .ok (.getfield 52, 3) := by decide +kernel
theorem dX12_takes__77 : decode cX12_takes_ 77 = .ok (.iload 5, 2) := by decide +kernel
theorem dX12_takes__79 : decode cX12_takes_ 79 = .ok (.dup2, 1) := by decide +kernel
theorem dX12_takes__80 : decode cX12_takes_ 80 = .ok (.iaload, 1) := by decide +kernel
theorem dX12_takes__81 : decode cX12_takes_ 81 = .ok (.iload 7, 2) := by decide +kernel
theorem dX12_takes__83 : decode cX12_takes_ 83 = .ok (.iadd, 1) := by decide +kernel
theorem dX12_takes__84 : decode cX12_takes_ 84 = .ok (.iastore, 1) := by decide +kernel
theorem dX12_takes__85 : decode cX12_takes_ 85 = .ok (.aload_n 0, 1) := by decide +kernel
theorem dX12_takes__86 : decode cX12_takes_ 86 = .ok (.getfield 46, 3) := by decide +kernel
theorem dX12_takes__89 : decode cX12_takes_ 89 = .ok (.iload 5, 2) := by decide +kernel
theorem dX12_takes__91 : decode cX12_takes_ 91 = .ok (.iload_n 2, 1) := by decide +kernel
theorem dX12_takes__92 : decode cX12_takes_ 92 = .ok (.invokestatic 105, 3) := by decide +kernel
theorem dX12_takes__95 : decode cX12_takes_ 95 = .ok (.dup2, 1) := by decide +kernel
theorem dX12_takes__96 : decode cX12_takes_ 96 = .ok (.iaload, 1) := by decide +kernel
theorem dX12_takes__97 : decode cX12_takes_ 97 = .ok (.iload 7, 2) := by decide +kernel
theorem dX12_takes__99 : decode cX12_takes_ 99 = .ok (.aload_n 0, 1) := by decide +kernel
theorem dX12_takes__100 : decode cX12_takes_ 100 = .ok (.iload_n 1, 1) := by decide +kernel
theorem dX12_takes__101 : decode cX12_takes_ 101 = .ok (.iload_n 2, 1) := by decide +kernel
theorem dX12_takes__102 : decode cX12_takes_ 102 = .ok (.invokevirtual 263, 3) := by decide +kernel
theorem dX12_takes__105 : decode cX12_takes_ 105 = .ok (.imul, 1) := by decide +kernel
theorem dX12_takes__106 : decode cX12_takes_ 106 = .ok (.iadd, 1) := by decide +kernel
theorem dX12_takes__107 : decode cX12_takes_ 107 = .ok (.iastore, 1) := by decide +kernel
theorem dX12_takes__108 : decode cX12_takes_ 108 = .ok (.iload 4, 2) := by decide +kernel
theorem dX12_takes__110 : decode cX12_takes_ 110 = .ok (.iload 7, 2) := by decide +kernel
theorem dX12_takes__112 : decode cX12_takes_ 112 = .ok (.isub, 1) := by decide +kernel
theorem dX12_takes__113 : decode cX12_takes_ 113 = .ok (.istore 4, 2) := by decide +kernel
theorem dX12_takes__115 : decode cX12_takes_ 115 = .ok (.iinc 6 1, 3) := by decide +kernel
theorem dX12_takes__118 : decode cX12_takes_ 118 = .ok (.goto (-98), 3) := by decide +kernel
theorem dX12_takes__121 : decode cX12_takes_ 121 = .ok (.iinc 5 1, 3) := by decide +kernel
theorem dX12_takes__124 : decode cX12_takes_ 124 = .ok (.goto (-118), 3) := by decide +kernel
theorem dX12_takes__127 : decode cX12_takes_ 127 = .ok (.return_, 1) := by decide +kernel
theorem dX12_standIn_0 : decode cX12_standIn 0 = .ok (.iconst 0, 1) := by decide +kernel
theorem dX12_standIn_1 : decode cX12_standIn 1 = .ok (.istore 4, 2) := by decide +kernel
theorem dX12_standIn_3 : decode cX12_standIn 3 = .ok (.iconst 0, 1) := by decide +kernel
theorem dX12_standIn_4 : decode cX12_standIn 4 = .ok (.istore 5, 2) := by decide +kernel
theorem dX12_standIn_6 : decode cX12_standIn 6 = .ok (.iload 5, 2) := by decide +kernel
theorem dX12_standIn_8 : decode cX12_standIn 8 = .ok (.aload_n 0, 1) := by decide +kernel
theorem dX12_standIn_9 : decode cX12_standIn 9 = .ok (.getfield 9, 3) := by decide +kernel
theorem dX12_standIn_12 : decode cX12_standIn 12 = .ok (.iconst 3, 1) := by decide +kernel
theorem dX12_standIn_13 : decode cX12_standIn 13 = .ok (.iaload, 1) := by decide +kernel
theorem dX12_standIn_14 : decode cX12_standIn 14 = .ok (.if_icmp .ge 35, 3) := by decide +kernel
theorem dX12_standIn_17 : decode cX12_standIn 17 = .ok (.aload_n 0, 1) := by decide +kernel
theorem dX12_standIn_18 : decode cX12_standIn 18 = .ok (.iload 5, 2) := by decide +kernel
theorem dX12_standIn_20 : decode cX12_standIn 20 = .ok (.iload_n 1, 1) := by decide +kernel
theorem dX12_standIn_21 : decode cX12_standIn 21 = .ok (.iload_n 2, 1) := by decide +kernel
theorem dX12_standIn_22 : decode cX12_standIn 22 = .ok (.invokevirtual 266, 3) := by decide +kernel
theorem dX12_standIn_25 : decode cX12_standIn 25 = .ok (.ifCond .ne 6, 3) := by decide +kernel
theorem dX12_standIn_28 : decode cX12_standIn 28 = .ok (.goto 15, 3) := by decide +kernel
theorem dX12_standIn_31 : decode cX12_standIn 31 = .ok (.aload_n 0, 1) := by decide +kernel
theorem dX12_standIn_32 : decode cX12_standIn 32 = .ok (.getfield 67, 3) := by decide +kernel
theorem dX12_standIn_35 : decode cX12_standIn 35 = .ok (.iload 4, 2) := by decide +kernel
theorem dX12_standIn_37 : decode cX12_standIn 37 = .ok (.iload 5, 2) := by decide +kernel
theorem dX12_standIn_39 : decode cX12_standIn 39 = .ok (.iastore, 1) := by decide +kernel
theorem dX12_standIn_40 : decode cX12_standIn 40 = .ok (.iinc 4 1, 3) := by decide +kernel
theorem dX12_standIn_43 : decode cX12_standIn 43 = .ok (.iinc 5 1, 3) := by decide +kernel
theorem dX12_standIn_46 : decode cX12_standIn 46 = .ok (.goto (-40), 3) := by decide +kernel
theorem dX12_standIn_49 : decode cX12_standIn 49 = .ok (.iload 4, 2) := by decide +kernel
theorem dX12_standIn_51 : decode cX12_standIn 51 = .ok (.iconst 1, 1) := by decide +kernel
theorem dX12_standIn_52 : decode cX12_standIn 52 = .ok (.isub, 1) := by decide +kernel
theorem dX12_standIn_53 : decode cX12_standIn 53 = .ok (.istore 5, 2) := by decide +kernel
theorem dX12_standIn_55 : decode cX12_standIn 55 = .ok (.iload 5, 2) := by decide +kernel
theorem dX12_standIn_57 : decode cX12_standIn 57 = .ok (.ifCond .le 55, 3) := by decide +kernel
theorem dX12_standIn_60 : decode cX12_standIn 60 = .ok (.iload_n 3, 1) := by decide +kernel
theorem dX12_standIn_61 : decode cX12_standIn 61 = .ok (.ifCond .eq 51, 3) := by decide +kernel
theorem dX12_standIn_64 : decode cX12_standIn 64 = .ok (.aload_n 0, 1) := by decide +kernel
theorem dX12_standIn_65 : decode cX12_standIn 65 = .ok (.iload 5, 2) := by decide +kernel
theorem dX12_standIn_67 : decode cX12_standIn 67 = .ok (.iconst 1, 1) := by decide +kernel
theorem dX12_standIn_68 : decode cX12_standIn 68 = .ok (.iadd, 1) := by decide +kernel
theorem dX12_standIn_69 : decode cX12_standIn 69 = .ok (.invokevirtual 282, 3) := by decide +kernel
theorem dX12_standIn_72 : decode cX12_standIn 72 = .ok (.istore 6, 2) := by decide +kernel
theorem dX12_standIn_74 : decode cX12_standIn 74 = .ok (.aload_n 0, 1) := by decide +kernel
theorem dX12_standIn_75 : decode cX12_standIn 75 = .ok (.getfield 67, 3) := by decide +kernel
theorem dX12_standIn_78 : decode cX12_standIn 78 = .ok (.iload 5, 2) := by decide +kernel
theorem dX12_standIn_80 : decode cX12_standIn 80 = .ok (.iaload, 1) := by decide +kernel
theorem dX12_standIn_81 : decode cX12_standIn 81 = .ok (.istore 7, 2) := by decide +kernel
theorem dX12_standIn_83 : decode cX12_standIn 83 = .ok (.aload_n 0, 1) := by decide +kernel
theorem dX12_standIn_84 : decode cX12_standIn 84 = .ok (.getfield 67, 3) := by decide +kernel
theorem dX12_standIn_87 : decode cX12_standIn 87 = .ok (.iload 5, 2) := by decide +kernel
theorem dX12_standIn_89 : decode cX12_standIn 89 = .ok (.aload_n 0, 1) := by decide +kernel
theorem dX12_standIn_90 : decode cX12_standIn 90 = .ok (.getfield 67, 3) := by decide +kernel
theorem dX12_standIn_93 : decode cX12_standIn 93 = .ok (.iload 6, 2) := by decide +kernel
theorem dX12_standIn_95 : decode cX12_standIn 95 = .ok (.iaload, 1) := by decide +kernel
theorem dX12_standIn_96 : decode cX12_standIn 96 = .ok (.iastore, 1) := by decide +kernel
theorem dX12_standIn_97 : decode cX12_standIn 97 = .ok (.aload_n 0, 1) := by decide +kernel
theorem dX12_standIn_98 : decode cX12_standIn 98 = .ok (.getfield 67, 3) := by decide +kernel
theorem dX12_standIn_101 : decode cX12_standIn 101 = .ok (.iload 6, 2) := by decide +kernel
theorem dX12_standIn_103 : decode cX12_standIn 103 = .ok (.iload 7, 2) := by decide +kernel
theorem dX12_standIn_105 : decode cX12_standIn 105 = .ok (.iastore, 1) := by decide +kernel
theorem dX12_standIn_106 : decode cX12_standIn 106 = .ok (.iinc 5 (-1), 3) := by decide +kernel
theorem dX12_standIn_109 : decode cX12_standIn 109 = .ok (.goto (-54), 3) := by decide +kernel
theorem dX12_standIn_112 : decode cX12_standIn 112 = .ok (.iload 4, 2) := by decide +kernel
theorem dX12_standIn_114 : decode cX12_standIn 114 = .ok (.ireturn, 1) := by decide +kernel
theorem dX12_sellsOn_0 : decode cX12_sellsOn 0 = .ok (.iconst 0, 1) := by decide +kernel
theorem dX12_sellsOn_1 : decode cX12_sellsOn 1 = .ok (.istore_n 3, 1) := by decide +kernel
theorem dX12_sellsOn_2 : decode cX12_sellsOn 2 = .ok (.iconst 0, 1) := by decide +kernel
theorem dX12_sellsOn_3 : decode cX12_sellsOn 3 = .ok (.istore 4, 2) := by decide +kernel
theorem dX12_sellsOn_5 : decode cX12_sellsOn 5 = .ok (.iload 4, 2) := by decide +kernel
theorem dX12_sellsOn_7 : decode cX12_sellsOn 7 = .ok (.aload_n 0, 1) := by decide +kernel
theorem dX12_sellsOn_8 : decode cX12_sellsOn 8 = .ok (.getfield 9, 3) := by decide +kernel
theorem dX12_sellsOn_11 : decode cX12_sellsOn 11 = .ok (.iconst 2, 1) := by decide +kernel
theorem dX12_sellsOn_12 : decode cX12_sellsOn 12 = .ok (.iaload, 1) := by decide +kernel
theorem dX12_sellsOn_13 : decode cX12_sellsOn 13 = .ok (.if_icmp .ge 33, 3) := by decide +kernel
theorem dX12_sellsOn_16 : decode cX12_sellsOn 16 = .ok (.iload_n 3, 1) := by decide +kernel
theorem dX12_sellsOn_17 : decode cX12_sellsOn 17 = .ok (.aload_n 0, 1) := by decide +kernel
theorem dX12_sellsOn_18 : decode cX12_sellsOn 18 = .ok (.iload 4, 2) := by decide +kernel
theorem dX12_sellsOn_20 : decode cX12_sellsOn 20 = .ok (.iload_n 1, 1) := by decide +kernel
theorem dX12_sellsOn_21 : decode cX12_sellsOn 21 = .ok (.iload_n 2, 1) := by decide +kernel
theorem dX12_sellsOn_22 : decode cX12_sellsOn 22 = .ok (.invokevirtual 279, 3) := by decide +kernel
theorem dX12_sellsOn_25 : decode cX12_sellsOn 25 = .ok (.ifCond .eq 12, 3) := by decide +kernel
theorem dX12_sellsOn_28 : decode cX12_sellsOn 28 = .ok (.aload_n 0, 1) := by decide +kernel
theorem dX12_sellsOn_29 : decode cX12_sellsOn 29 = .ok (.iload 4, 2) := by decide +kernel
theorem dX12_sellsOn_31 : decode cX12_sellsOn 31 = .ok (.invokevirtual 285, 3) := by decide +kernel
theorem dX12_sellsOn_34 : decode cX12_sellsOn 34 = .ok (.goto 4, 3) := by decide +kernel
theorem dX12_sellsOn_37 : decode cX12_sellsOn 37 = .ok (.iconst 0, 1) := by decide +kernel
theorem dX12_sellsOn_38 : decode cX12_sellsOn 38 = .ok (.iadd, 1) := by decide +kernel
theorem dX12_sellsOn_39 : decode cX12_sellsOn 39 = .ok (.istore_n 3, 1) := by decide +kernel
theorem dX12_sellsOn_40 : decode cX12_sellsOn 40 = .ok (.iinc 4 1, 3) := by decide +kernel
theorem dX12_sellsOn_43 : decode cX12_sellsOn 43 = .ok (.goto (-38), 3) := by decide +kernel
theorem dX12_sellsOn_46 : decode cX12_sellsOn 46 = .ok (.aload_n 0, 1) := by decide +kernel
theorem dX12_sellsOn_47 : decode cX12_sellsOn 47 = .ok (.iload_n 1, 1) := by decide +kernel
theorem dX12_sellsOn_48 : decode cX12_sellsOn 48 = .ok (.iload_n 2, 1) := by decide +kernel
theorem dX12_sellsOn_49 : decode cX12_sellsOn 49 = .ok (.invokevirtual 288, 3) := by decide +kernel
theorem dX12_sellsOn_52 : decode cX12_sellsOn 52 = .ok (.istore 4, 2) := by decide +kernel
theorem dX12_sellsOn_54 : decode cX12_sellsOn 54 = .ok (.aload_n 0, 1) := by decide +kernel
theorem dX12_sellsOn_55 : decode cX12_sellsOn 55 = .ok (.getfield 37, 3) := by decide +kernel
theorem dX12_sellsOn_58 : decode cX12_sellsOn 58 = .ok (.iload_n 1, 1) := by decide +kernel
theorem dX12_sellsOn_59 : decode cX12_sellsOn 59 = .ok (.iload_n 2, 1) := by decide +kernel
theorem dX12_sellsOn_60 : decode cX12_sellsOn 60 = .ok (.invokestatic 105, 3) := by decide +kernel
theorem dX12_sellsOn_63 : decode cX12_sellsOn 63 = .ok (.iload_n 3, 1) := by decide +kernel
theorem dX12_sellsOn_64 : decode cX12_sellsOn 64 = .ok (.iastore, 1) := by decide +kernel
theorem dX12_sellsOn_65 : decode cX12_sellsOn 65 = .ok (.aload_n 0, 1) := by decide +kernel
theorem dX12_sellsOn_66 : decode cX12_sellsOn 66 = .ok (.getfield 40, 3) := by decide +kernel
theorem dX12_sellsOn_69 : decode cX12_sellsOn 69 = .ok (.iload_n 1, 1) := by decide +kernel
theorem dX12_sellsOn_70 : decode cX12_sellsOn 70 = .ok (.iload_n 2, 1) := by decide +kernel
theorem dX12_sellsOn_71 : decode cX12_sellsOn 71 = .ok (.invokestatic 105, 3) := by decide +kernel
theorem dX12_sellsOn_74 : decode cX12_sellsOn 74 = .ok (.iload 4, 2) := by decide +kernel
theorem dX12_sellsOn_76 : decode cX12_sellsOn 76 = .ok (.iastore, 1) := by decide +kernel
theorem dX12_sellsOn_77 : decode cX12_sellsOn 77 = .ok (.iload 4, 2) := by decide +kernel
theorem dX12_sellsOn_79 : decode cX12_sellsOn 79 = .ok (.iload_n 3, 1) := by decide +kernel
theorem dX12_sellsOn_80 : decode cX12_sellsOn 80 = .ok (.if_icmp .le 7, 3) := by decide +kernel
theorem dX12_sellsOn_83 : decode cX12_sellsOn 83 = .ok (.iconst 1, 1) := by decide +kernel
theorem dX12_sellsOn_84 : decode cX12_sellsOn 84 = .ok (.goto 4, 3) := by decide +kernel
