set_option maxRecDepth 20000 in
theorem dX9_odds_16 : decode cX9_odds 16 = .ok (.ifCond .eq 7, 3) := by decide +kernel
set_option maxRecDepth 20000 in
theorem dX9_odds_19 : decode cX9_odds 19 = .ok (.ldc2_w 216, 3) := by decide +kernel
set_option maxRecDepth 20000 in
theorem dX9_odds_22 : decode cX9_odds 22 = .ok (.lreturn, 1) := by decide +kernel
set_option maxRecDepth 20000 in
theorem dX9_odds_23 : decode cX9_odds 23 = .ok (.aload_n 0, 1) := by decide +kernel
set_option maxRecDepth 20000 in
theorem dX9_odds_24 : decode cX9_odds 24 = .ok (.getfield 52, 3) := by decide +kernel
set_option maxRecDepth 20000 in
theorem dX9_odds_27 : decode cX9_odds 27 = .ok (.iload_n 1, 1) := by decide +kernel
set_option maxRecDepth 20000 in
theorem dX9_odds_28 : decode cX9_odds 28 = .ok (.invokevirtual 218, 3) := by decide +kernel
set_option maxRecDepth 20000 in
theorem dX9_odds_31 : decode cX9_odds 31 = .ok (.istore_n 3, 1) := by decide +kernel
set_option maxRecDepth 20000 in
theorem dX9_odds_32 : decode cX9_odds 32 = .ok (.aload_n 0, 1) := by decide +kernel
set_option maxRecDepth 20000 in
theorem dX9_odds_33 : decode cX9_odds 33 = .ok (.getfield 20, 3) := by decide +kernel
set_option maxRecDepth 20000 in
theorem dX9_odds_36 : decode cX9_odds 36 = .ok (.invokevirtual 221, 3) := by decide +kernel
set_option maxRecDepth 20000 in
theorem dX9_odds_39 : decode cX9_odds 39 = .ok (.istore 4, 2) := by decide +kernel
set_option maxRecDepth 20000 in
theorem dX9_odds_41 : decode cX9_odds 41 = .ok (.iconst 0, 1) := by decide +kernel
set_option maxRecDepth 20000 in
theorem dX9_odds_42 : decode cX9_odds 42 = .ok (.istore 5, 2) := by decide +kernel
set_option maxRecDepth 20000 in
theorem dX9_odds_44 : decode cX9_odds 44 = .ok (.iload 5, 2) := by decide +kernel
set_option maxRecDepth 20000 in
theorem dX9_odds_46 : decode cX9_odds 46 = .ok (.bipush 8, 2) := by decide +kernel
set_option maxRecDepth 20000 in
theorem dX9_odds_48 : decode cX9_odds 48 = .ok (.if_icmp .ge 31, 3) := by decide +kernel
set_option maxRecDepth 20000 in
theorem dX9_odds_51 : decode cX9_odds 51 = .ok (.iload 4, 2) := by decide +kernel
set_option maxRecDepth 20000 in
theorem dX9_odds_53 : decode cX9_odds 53 = .ok (.iconst 1, 1) := by decide +kernel
set_option maxRecDepth 20000 in
theorem dX9_odds_54 : decode cX9_odds 54 = .ok (.if_icmp .le 25, 3) := by decide +kernel
set_option maxRecDepth 20000 in
theorem dX9_odds_57 : decode cX9_odds 57 = .ok (.iload_n 3, 1) := by decide +kernel
set_option maxRecDepth 20000 in
theorem dX9_odds_58 : decode cX9_odds 58 = .ok (.iconst 2, 1) := by decide +kernel
set_option maxRecDepth 20000 in
theorem dX9_odds_59 : decode cX9_odds 59 = .ok (.irem, 1) := by decide +kernel
set_option maxRecDepth 20000 in
theorem dX9_odds_60 : decode cX9_odds 60 = .ok (.ifCond .ne 19, 3) := by decide +kernel
set_option maxRecDepth 20000 in
theorem dX9_odds_63 : decode cX9_odds 63 = .ok (.iload_n 3, 1) := by decide +kernel
set_option maxRecDepth 20000 in
theorem dX9_odds_64 : decode cX9_odds 64 = .ok (.iconst 2, 1) := by decide +kernel
set_option maxRecDepth 20000 in
theorem dX9_odds_65 : decode cX9_odds 65 = .ok (.idiv, 1) := by decide +kernel
set_option maxRecDepth 20000 in
theorem dX9_odds_66 : decode cX9_odds 66 = .ok (.istore_n 3, 1) := by decide +kernel
set_option maxRecDepth 20000 in
theorem dX9_odds_67 : decode cX9_odds 67 = .ok (.iload 4, 2) := by decide +kernel
set_option maxRecDepth 20000 in
theorem dX9_odds_69 : decode cX9_odds 69 = .ok (.iconst 2, 1) := by decide +kernel
set_option maxRecDepth 20000 in
theorem dX9_odds_70 : decode cX9_odds 70 = .ok (.idiv, 1) := by decide +kernel
set_option maxRecDepth 20000 in
theorem dX9_odds_71 : decode cX9_odds 71 = .ok (.istore 4, 2) := by decide +kernel
set_option maxRecDepth 20000 in
theorem dX9_odds_73 : decode cX9_odds 73 = .ok (.iinc 5 1, 3) := by decide +kernel
set_option maxRecDepth 20000 in
theorem dX9_odds_76 : decode cX9_odds 76 = .ok (.goto (-32), 3) := by decide +kernel
set_option maxRecDepth 20000 in
theorem dX9_odds_79 : decode cX9_odds 79 = .ok (.iload_n 2, 1) := by decide +kernel
set_option maxRecDepth 20000 in
theorem dX9_odds_80 : decode cX9_odds 80 = .ok (.ifCond .ne 8, 3) := by decide +kernel
set_option maxRecDepth 20000 in
theorem dX9_odds_83 : decode cX9_odds 83 = .ok (.iload_n 3, 1) := by decide +kernel
set_option maxRecDepth 20000 in
theorem dX9_odds_84 : decode cX9_odds 84 = .ok (.i2l, 1) := by decide +kernel
set_option maxRecDepth 20000 in
theorem dX9_odds_85 : decode cX9_odds 85 = .ok (.goto 6, 3) := by decide +kernel
set_option maxRecDepth 20000 in
theorem dX9_odds_88 : decode cX9_odds 88 = .ok (.iload 4, 2) := by decide +kernel
set_option maxRecDepth 20000 in
theorem dX9_odds_90 : decode cX9_odds 90 = .ok (.i2l, 1) := by decide +kernel
set_option maxRecDepth 20000 in
theorem dX9_odds_91 : decode cX9_odds 91 = .ok (.lreturn, 1) := by decide +kernel
set_option maxRecDepth 20000 in
theorem dX9_sheet_0 : decode cX9_sheet 0 = .ok (.aload_n 0, 1) := by decide +kernel
set_option maxRecDepth 20000 in
theorem dX9_sheet_1 : decode cX9_sheet 1 = .ok (.iconst 0, 1) := by decide +kernel
set_option maxRecDepth 20000 in
theorem dX9_sheet_2 : decode cX9_sheet 2 = .ok (.putfield 63, 3) := by decide +kernel
set_option maxRecDepth 20000 in
theorem dX9_sheet_5 : decode cX9_sheet 5 = .ok (.aload_n 0, 1) := by decide +kernel
set_option maxRecDepth 20000 in
theorem dX9_sheet_6 : decode cX9_sheet 6 = .ok (.iload_n 1, 1) := by decide +kernel
set_option maxRecDepth 20000 in
theorem dX9_sheet_7 : decode cX9_sheet 7 = .ok (.invokevirtual 68, 3) := by decide +kernel
set_option maxRecDepth 20000 in
theorem dX9_sheet_10 : decode cX9_sheet 10 = .ok (.astore 4, 2) := by decide +kernel
set_option maxRecDepth 20000 in
theorem dX9_sheet_12 : decode cX9_sheet 12 = .ok (.aload 4, 2) := by decide +kernel
set_option maxRecDepth 20000 in
theorem dX9_sheet_14 : decode cX9_sheet 14 = .ok (.ifnonnull 5, 3) := by decide +kernel
set_option maxRecDepth 20000 in
theorem dX9_sheet_17 : decode cX9_sheet 17 = .ok (.iconst (-1), 1) := by decide +kernel
set_option maxRecDepth 20000 in
theorem dX9_sheet_18 : decode cX9_sheet 18 = .ok (.ireturn, 1) := by decide +kernel
set_option maxRecDepth 20000 in
theorem dX9_sheet_19 : decode cX9_sheet 19 = .ok (.iload_n 2, 1) := by decide +kernel
set_option maxRecDepth 20000 in
theorem dX9_sheet_20 : decode cX9_sheet 20 = .ok (.iconst 2, 1) := by decide +kernel
set_option maxRecDepth 20000 in
theorem dX9_sheet_21 : decode cX9_sheet 21 = .ok (.invokestatic 72, 3) := by decide +kernel
set_option maxRecDepth 20000 in
theorem dX9_sheet_24 : decode cX9_sheet 24 = .ok (.ifCond .ne 9, 3) := by decide +kernel
set_option maxRecDepth 20000 in
theorem dX9_sheet_27 : decode cX9_sheet 27 = .ok (.iload_n 3, 1) := by decide +kernel
set_option maxRecDepth 20000 in
theorem dX9_sheet_28 : decode cX9_sheet 28 = .ok (.bipush 60, 2) := by decide +kernel
set_option maxRecDepth 20000 in
theorem dX9_sheet_30 : decode cX9_sheet 30 = .ok (.if_icmp .le 6, 3) := by decide +kernel
set_option maxRecDepth 20000 in
theorem dX9_sheet_33 : decode cX9_sheet 33 = .ok (.bipush (-2), 2) := by decide +kernel
set_option maxRecDepth 20000 in
theorem dX9_sheet_35 : decode cX9_sheet 35 = .ok (.ireturn, 1) := by decide +kernel
set_option maxRecDepth 20000 in
theorem dX9_sheet_36 : decode cX9_sheet 36 = .ok (.iload_n 3, 1) := by decide +kernel
set_option maxRecDepth 20000 in
theorem dX9_sheet_37 : decode cX9_sheet 37 = .ok (.ifCond .ge 9, 3) := by decide +kernel
set_option maxRecDepth 20000 in
theorem dX9_sheet_40 : decode cX9_sheet 40 = .ok (.aload_n 0, 1) := by decide +kernel
set_option maxRecDepth 20000 in
theorem dX9_sheet_41 : decode cX9_sheet 41 = .ok (.iconst 4, 1) := by decide +kernel
set_option maxRecDepth 20000 in
theorem dX9_sheet_42 : decode cX9_sheet 42 = .ok (.invokevirtual 80, 3) := by decide +kernel
set_option maxRecDepth 20000 in
theorem dX9_sheet_45 : decode cX9_sheet 45 = .ok (.ireturn, 1) := by decide +kernel
set_option maxRecDepth 20000 in
theorem dX9_sheet_46 : decode cX9_sheet 46 = .ok (.aload 4, 2) := by decide +kernel
set_option maxRecDepth 20000 in
theorem dX9_sheet_48 : decode cX9_sheet 48 = .ok (.iload_n 2, 1) := by decide +kernel
set_option maxRecDepth 20000 in
theorem dX9_sheet_49 : decode cX9_sheet 49 = .ok (.iload_n 3, 1) := by decide +kernel
set_option maxRecDepth 20000 in
theorem dX9_sheet_50 : decode cX9_sheet 50 = .ok (.invokevirtual 224, 3) := by decide +kernel
set_option maxRecDepth 20000 in
theorem dX9_sheet_53 : decode cX9_sheet 53 = .ok (.iconst 1, 1) := by decide +kernel
set_option maxRecDepth 20000 in
theorem dX9_sheet_54 : decode cX9_sheet 54 = .ok (.ireturn, 1) := by decide +kernel
set_option maxRecDepth 20000 in
theorem dX9_lose_0 : decode cX9_lose 0 = .ok (.aload_n 0, 1) := by decide +kernel
set_option maxRecDepth 20000 in
theorem dX9_lose_1 : decode cX9_lose 1 = .ok (.iload_n 1, 1) := by decide +kernel
set_option maxRecDepth 20000 in
theorem dX9_lose_2 : decode cX9_lose 2 = .ok (.invokevirtual 68, 3) := by decide +kernel
set_option maxRecDepth 20000 in
theorem dX9_lose_5 : decode cX9_lose 5 = .ok (.astore_n 2, 1) := by decide +kernel
set_option maxRecDepth 20000 in
theorem dX9_lose_6 : decode cX9_lose 6 = .ok (.aload_n 2, 1) := by decide +kernel
set_option maxRecDepth 20000 in
theorem dX9_lose_7 : decode cX9_lose 7 = .ok (.ifnonnull 5, 3) := by decide +kernel
set_option maxRecDepth 20000 in
theorem dX9_lose_10 : decode cX9_lose 10 = .ok (.iconst (-1), 1) := by decide +kernel
set_option maxRecDepth 20000 in
theorem dX9_lose_11 : decode cX9_lose 11 = .ok (.ireturn, 1) := by decide +kernel
set_option maxRecDepth 20000 in
theorem dX9_lose_12 : decode cX9_lose 12 = .ok (.aload_n 2, 1) := by decide +kernel
set_option maxRecDepth 20000 in
theorem dX9_lose_13 : decode cX9_lose 13 = .ok (.getfield 227, 3) := by decide +kernel
set_option maxRecDepth 20000 in
theorem dX9_lose_16 : decode cX9_lose 16 = .ok (.ifCond .eq 7, 3) := by decide +kernel
set_option maxRecDepth 20000 in
theorem dX9_lose_19 : decode cX9_lose 19 = .ok (.iconst 1, 1) := by decide +kernel
set_option maxRecDepth 20000 in
theorem dX9_lose_20 : decode cX9_lose 20 = .ok (.goto 4, 3) := by decide +kernel
set_option maxRecDepth 20000 in
theorem dX9_lose_23 : decode cX9_lose 23 = .ok (.iconst 0, 1) := by decide +kernel
set_option maxRecDepth 20000 in
theorem dX9_lose_24 : decode cX9_lose 24 = .ok (.istore_n 3, 1) := by decide +kernel
set_option maxRecDepth 20000 in
theorem dX9_lose_25 : decode cX9_lose 25 = .ok (.aload_n 2, 1) := by decide +kernel
set_option maxRecDepth 20000 in
theorem dX9_lose_26 : decode cX9_lose 26 = .ok (.iconst 0, 1) := by decide +kernel
set_option maxRecDepth 20000 in
theorem dX9_lose_27 : decode cX9_lose 27 = .ok (.putfield 227, 3) := by decide +kernel
set_option maxRecDepth 20000 in
theorem dX9_lose_30 : decode cX9_lose 30 = .ok (.iload_n 3, 1) := by decide +kernel
set_option maxRecDepth 20000 in
theorem dX9_lose_31 : decode cX9_lose 31 = .ok (.ireturn, 1) := by decide +kernel
set_option maxRecDepth 20000 in
theorem dX9_put_0 : decode cX9_put 0 = .ok (.aload_n 0, 1) := by decide +kernel
set_option maxRecDepth 20000 in
theorem dX9_put_1 : decode cX9_put 1 = .ok (.iconst 0, 1) := by decide +kernel
set_option maxRecDepth 20000 in
theorem dX9_put_2 : decode cX9_put 2 = .ok (.putfield 63, 3) := by decide +kernel
set_option maxRecDepth 20000 in
theorem dX9_put_5 : decode cX9_put 5 = .ok (.aload_n 0, 1) := by decide +kernel
set_option maxRecDepth 20000 in
theorem dX9_put_6 : decode cX9_put 6 = .ok (.iload_n 1, 1) := by decide +kernel
set_option maxRecDepth 20000 in
theorem dX9_put_7 : decode cX9_put 7 = .ok (.invokevirtual 68, 3) := by decide +kernel
set_option maxRecDepth 20000 in
theorem dX9_put_10 : decode cX9_put 10 = .ok (.astore 4, 2) := by decide +kernel
set_option maxRecDepth 20000 in
theorem dX9_put_12 : decode cX9_put 12 = .ok (.aload 4, 2) := by decide +kernel
set_option maxRecDepth 20000 in
theorem dX9_put_14 : decode cX9_put 14 = .ok (.ifnonnull 5, 3) := by decide +kernel
set_option maxRecDepth 20000 in
theorem dX9_put_17 : decode cX9_put 17 = .ok (.iconst (-1), 1) := by decide +kernel
set_option maxRecDepth 20000 in
theorem dX9_put_18 : decode cX9_put 18 = .ok (.ireturn, 1) := by decide +kernel
set_option maxRecDepth 20000 in
theorem dX9_put_19 : decode cX9_put 19 = .ok (.aload 4, 2) := by decide +kernel
set_option maxRecDepth 20000 in
theorem dX9_put_21 : decode cX9_put 21 = .ok (.aload 4, 2) := by decide +kernel
set_option maxRecDepth 20000 in
theorem dX9_put_23 : decode cX9_put 23 = .ok (.getfield 231, 3) := by decide +kernel
set_option maxRecDepth 20000 in
theorem dX9_put_26 : decode cX9_put 26 = .ok (.iload_n 2, 1) := by decide +kernel
set_option maxRecDepth 20000 in
theorem dX9_put_27 : decode cX9_put 27 = .ok (.iconst 1, 1) := by decide +kernel
set_option maxRecDepth 20000 in
theorem dX9_put_28 : decode cX9_put 28 = .ok (.invokevirtual 76, 3) := by decide +kernel
set_option maxRecDepth 20000 in
theorem dX9_put_31 : decode cX9_put 31 = .ok (.istore 5, 2) := by decide +kernel
set_option maxRecDepth 20000 in
theorem dX9_put_33 : decode cX9_put 33 = .ok (.iload 5, 2) := by decide +kernel
set_option maxRecDepth 20000 in
theorem dX9_put_35 : decode cX9_put 35 = .ok (.ifCond .eq 10, 3) := by decide +kernel
set_option maxRecDepth 20000 in
theorem dX9_put_38 : decode cX9_put 38 = .ok (.aload_n 0, 1) := by decide +kernel
set_option maxRecDepth 20000 in
theorem dX9_put_39 : decode cX9_put 39 = .ok (.iload 5, 2) := by decide +kernel
set_option maxRecDepth 20000 in
theorem dX9_put_41 : decode cX9_put 41 = .ok (.invokevirtual 80, 3) := by decide +kernel
set_option maxRecDepth 20000 in
theorem dX9_put_44 : decode cX9_put 44 = .ok (.ireturn, 1) := by decide +kernel
set_option maxRecDepth 20000 in
theorem dX9_put_45 : decode cX9_put 45 = .ok (.aload 4, 2) := by decide +kernel
set_option maxRecDepth 20000 in
theorem dX9_put_47 : decode cX9_put 47 = .ok (.iload_n 2, 1) := by decide +kernel
set_option maxRecDepth 20000 in
theorem dX9_put_48 : decode cX9_put 48 = .ok (.iload_n 3, 1) := by decide +kernel
set_option maxRecDepth 20000 in
theorem dX9_put_49 : decode cX9_put 49 = .ok (.invokevirtual 234, 3) := by decide +kernel
set_option maxRecDepth 20000 in
theorem dX9_put_52 : decode cX9_put 52 = .ok (.iconst 1, 1) := by decide +kernel
set_option maxRecDepth 20000 in
theorem dX9_put_53 : decode cX9_put 53 = .ok (.ireturn, 1) := by decide +kernel
set_option maxRecDepth 20000 in
theorem dX9_cell_0 : decode cX9_cell 0 = .ok (.aload_n 0, 1) := by decide +kernel
set_option maxRecDepth 20000 in
theorem dX9_cell_1 : decode cX9_cell 1 = .ok (.iconst 0, 1) := by decide +kernel
set_option maxRecDepth 20000 in
theorem dX9_cell_2 : decode cX9_cell 2 = .ok (.putfield 63, 3) := by decide +kernel
set_option maxRecDepth 20000 in
theorem dX9_cell_5 : decode cX9_cell 5 = .ok (.aload_n 0, 1) := by decide +kernel
set_option maxRecDepth 20000 in
theorem dX9_cell_6 : decode cX9_cell 6 = .ok (.iload_n 1, 1) := by decide +kernel
set_option maxRecDepth 20000 in
theorem dX9_cell_7 : decode cX9_cell 7 = .ok (.invokevirtual 68, 3) := by decide +kernel
set_option maxRecDepth 20000 in
theorem dX9_cell_10 : decode cX9_cell 10 = .ok (.astore 4, 2) := by decide +kernel
set_option maxRecDepth 20000 in
theorem dX9_cell_12 : decode cX9_cell 12 = .ok (.aload 4, 2) := by decide +kernel
set_option maxRecDepth 20000 in
theorem dX9_cell_14 : decode cX9_cell 14 = .ok (.ifnull 11, 3) := by decide +kernel
set_option maxRecDepth 20000 in
theorem dX9_cell_17 : decode cX9_cell 17 = .ok (.iload_n 3, 1) := by decide +kernel
set_option maxRecDepth 20000 in
theorem dX9_cell_18 : decode cX9_cell 18 = .ok (.iconst 2, 1) := by decide +kernel
set_option maxRecDepth 20000 in
theorem dX9_cell_19 : decode cX9_cell 19 = .ok (.invokestatic 72, 3) := by decide +kernel
set_option maxRecDepth 20000 in
theorem dX9_cell_22 : decode cX9_cell 22 = .ok (.ifCond .eq 7, 3) := by decide +kernel
set_option maxRecDepth 20000 in
theorem dX9_cell_25 : decode cX9_cell 25 = .ok (.ldc2_w 216, 3) := by decide +kernel
set_option maxRecDepth 20000 in
theorem dX9_cell_28 : decode cX9_cell 28 = .ok (.lreturn, 1) := by decide +kernel
set_option maxRecDepth 20000 in
theorem dX9_cell_29 : decode cX9_cell 29 = .ok (.aload_n 0, 1) := by decide +kernel
set_option maxRecDepth 20000 in
theorem dX9_cell_30 : decode cX9_cell 30 = .ok (.aload 4, 2) := by decide +kernel
set_option maxRecDepth 20000 in
theorem dX9_cell_32 : decode cX9_cell 32 = .ok (.iload_n 3, 1) := by decide +kernel
set_option maxRecDepth 20000 in
theorem dX9_cell_33 : decode cX9_cell 33 = .ok (.iload_n 2, 1) := by decide +kernel
set_option maxRecDepth 20000 in
theorem dX9_cell_34 : decode cX9_cell 34 = .ok (.iconst 1, 1) := by decide +kernel
set_option maxRecDepth 20000 in
theorem dX9_cell_35 : decode cX9_cell 35 = .ok (.invokevirtual 76, 3) := by decide +kernel
set_option maxRecDepth 20000 in
theorem dX9_cell_38 : decode cX9_cell 38 = .ok (.putfield 63, 3) := by decide +kernel
set_option maxRecDepth 20000 in
theorem dX9_cell_41 : decode cX9_cell 41 = .ok (.aload_n 0, 1) := by decide +kernel
set_option maxRecDepth 20000 in
theorem dX9_cell_42 : decode cX9_cell 42 = .ok (.getfield 63, 3) := by decide +kernel
set_option maxRecDepth 20000 in
theorem dX9_cell_45 : decode cX9_cell 45 = .ok (.ifCond .ne 13, 3) := by decide +kernel
set_option maxRecDepth 20000 in
theorem dX9_cell_48 : decode cX9_cell 48 = .ok (.aload 4, 2) := by decide +kernel
set_option maxRecDepth 20000 in
theorem dX9_cell_50 : decode cX9_cell 50 = .ok (.iload_n 2, 1) := by decide +kernel
set_option maxRecDepth 20000 in
theorem dX9_cell_51 : decode cX9_cell 51 = .ok (.invokevirtual 237, 3) := by decide +kernel
set_option maxRecDepth 20000 in
theorem dX9_cell_54 : decode cX9_cell 54 = .ok (.i2l, 1) := by decide +kernel
set_option maxRecDepth 20000 in
theorem dX9_cell_55 : decode cX9_cell 55 = .ok (.goto 6, 3) := by decide +kernel
set_option maxRecDepth 20000 in
theorem dX9_cell_58 : decode cX9_cell 58 = .ok (.ldc2_w 216, 3) := by decide +kernel
set_option maxRecDepth 20000 in
theorem dX9_cell_61 : decode cX9_cell 61 = .ok (.lreturn, 1) := by decide +kernel
set_option maxRecDepth 20000 in
theorem dX9_copy_0 : decode cX9_copy 0 = .ok (.aload_n 0, 1) := by decide +kernel
set_option maxRecDepth 20000 in
theorem dX9_copy_1 : decode cX9_copy 1 = .ok (.iconst 0, 1) := by decide +kernel
set_option maxRecDepth 20000 in
theorem dX9_copy_2 : decode cX9_copy 2 = .ok (.putfield 63, 3) := by decide +kernel
set_option maxRecDepth 20000 in
theorem dX9_copy_5 : decode cX9_copy 5 = .ok (.aload_n 0, 1) := by decide +kernel
set_option maxRecDepth 20000 in
theorem dX9_copy_6 : decode cX9_copy 6 = .ok (.iload_n 1, 1) := by decide +kernel
set_option maxRecDepth 20000 in
theorem dX9_copy_7 : decode cX9_copy 7 = .ok (.invokevirtual 68, 3) := by decide +kernel
set_option maxRecDepth 20000 in
theorem dX9_copy_10 : decode cX9_copy 10 = .ok (.astore 6, 2) := by decide +kernel
set_option maxRecDepth 20000 in
theorem dX9_copy_12 : decode cX9_copy 12 = .ok (.aload_n 0, 1) := by decide +kernel
set_option maxRecDepth 20000 in
theorem dX9_copy_13 : decode cX9_copy 13 = .ok (.iload_n 3, 1) := by decide +kernel
set_option maxRecDepth 20000 in
theorem dX9_copy_14 : decode cX9_copy 14 = .ok (.invokevirtual 68, 3) := by decide +kernel
set_option maxRecDepth 20000 in
theorem dX9_copy_17 : decode cX9_copy 17 = .ok (.astore 7, 2) := by decide +kernel
set_option maxRecDepth 20000 in
theorem dX9_copy_19 : decode cX9_copy 19 = .ok (.aload 6, 2) := by decide +kernel
set_option maxRecDepth 20000 in
theorem dX9_copy_21 : decode cX9_copy 21 = .ok (.ifnull 8, 3) := by decide +kernel
set_option maxRecDepth 20000 in
theorem dX9_copy_24 : decode cX9_copy 24 = .ok (.aload 7, 2) := by decide +kernel
set_option maxRecDepth 20000 in
theorem dX9_copy_26 : decode cX9_copy 26 = .ok (.ifnonnull 5, 3) := by decide +kernel
set_option maxRecDepth 20000 in
theorem dX9_copy_29 : decode cX9_copy 29 = .ok (.iconst (-1), 1) := by decide +kernel
set_option maxRecDepth 20000 in
theorem dX9_copy_30 : decode cX9_copy 30 = .ok (.ireturn, 1) := by decide +kernel
set_option maxRecDepth 20000 in
theorem dX9_copy_31 : decode cX9_copy 31 = .ok (.aload 6, 2) := by decide +kernel
set_option maxRecDepth 20000 in
theorem dX9_copy_33 : decode cX9_copy 33 = .ok (.getfield 227, 3) := by decide +kernel
set_option maxRecDepth 20000 in
theorem dX9_copy_36 : decode cX9_copy 36 = .ok (.ifCond .eq 11, 3) := by decide +kernel
set_option maxRecDepth 20000 in
theorem dX9_copy_39 : decode cX9_copy 39 = .ok (.aload 7, 2) := by decide +kernel
set_option maxRecDepth 20000 in
theorem dX9_copy_41 : decode cX9_copy 41 = .ok (.getfield 227, 3) := by decide +kernel
set_option maxRecDepth 20000 in
theorem dX9_copy_44 : decode cX9_copy 44 = .ok (.ifCond .ne 9, 3) := by decide +kernel
set_option maxRecDepth 20000 in
theorem dX9_copy_47 : decode cX9_copy 47 = .ok (.aload_n 0, 1) := by decide +kernel
set_option maxRecDepth 20000 in
theorem dX9_copy_48 : decode cX9_copy 48 = .ok (.iconst 1, 1) := by decide +kernel
set_option maxRecDepth 20000 in
theorem dX9_copy_49 : decode cX9_copy 49 = .ok (.invokevirtual 80, 3) := by decide +kernel
set_option maxRecDepth 20000 in
theorem dX9_copy_52 : decode cX9_copy 52 = .ok (.ireturn, 1) := by decide +kernel
set_option maxRecDepth 20000 in
theorem dX9_copy_53 : decode cX9_copy 53 = .ok (.aload 6, 2) := by decide +kernel
set_option maxRecDepth 20000 in
theorem dX9_copy_55 : decode cX9_copy 55 = .ok (.getfield 231, 3) := by decide +kernel
set_option maxRecDepth 20000 in
theorem dX9_copy_58 : decode cX9_copy 58 = .ok (.aload 7, 2) := by decide +kernel
set_option maxRecDepth 20000 in
theorem dX9_copy_60 : decode cX9_copy 60 = .ok (.getfield 231, 3) := by decide +kernel
set_option maxRecDepth 20000 in
theorem dX9_copy_63 : decode cX9_copy 63 = .ok (.if_icmp .eq 9, 3) := by decide +kernel
set_option maxRecDepth 20000 in
theorem dX9_copy_66 : decode cX9_copy 66 = .ok (.aload_n 0, 1) := by decide +kernel
set_option maxRecDepth 20000 in
theorem dX9_copy_67 : decode cX9_copy 67 = .ok (.iconst 2, 1) := by decide +kernel
set_option maxRecDepth 20000 in
theorem dX9_copy_68 : decode cX9_copy 68 = .ok (.invokevirtual 80, 3) := by decide +kernel
set_option maxRecDepth 20000 in
theorem dX9_copy_71 : decode cX9_copy 71 = .ok (.ireturn, 1) := by decide +kernel
set_option maxRecDepth 20000 in
theorem dX9_copy_72 : decode cX9_copy 72 = .ok (.iload 5, 2) := by decide +kernel
set_option maxRecDepth 20000 in
theorem dX9_copy_74 : decode cX9_copy 74 = .ok (.ifCond .lt 26, 3) := by decide +kernel
set_option maxRecDepth 20000 in
theorem dX9_copy_77 : decode cX9_copy 77 = .ok (.aload 6, 2) := by decide +kernel
set_option maxRecDepth 20000 in
theorem dX9_copy_79 : decode cX9_copy 79 = .ok (.iload_n 2, 1) := by decide +kernel
set_option maxRecDepth 20000 in
theorem dX9_copy_80 : decode cX9_copy 80 = .ok (.iload 5, 2) := by decide +kernel
set_option maxRecDepth 20000 in
theorem dX9_copy_82 : decode cX9_copy 82 = .ok (.invokevirtual 240, 3) := by decide +kernel
set_option maxRecDepth 20000 in
theorem dX9_copy_85 : decode cX9_copy 85 = .ok (.ifCond .ne 15, 3) := by decide +kernel
set_option maxRecDepth 20000 in
theorem dX9_copy_88 : decode cX9_copy 88 = .ok (.aload 7, 2) := by decide +kernel
set_option maxRecDepth 20000 in
theorem dX9_copy_90 : decode cX9_copy 90 = .ok (.iload 4, 2) := by decide +kernel
set_option maxRecDepth 20000 in
theorem dX9_copy_92 : decode cX9_copy 92 = .ok (.iload 5, 2) := by decide +kernel
set_option maxRecDepth 20000 in
theorem dX9_copy_94 : decode cX9_copy 94 = .ok (.invokevirtual 240, 3) := by decide +kernel
set_option maxRecDepth 20000 in
theorem dX9_copy_97 : decode cX9_copy 97 = .ok (.ifCond .eq 9, 3) := by decide +kernel
set_option maxRecDepth 20000 in
theorem dX9_copy_100 : decode cX9_copy 100 = .ok (.aload_n 0, 1) := by decide +kernel
set_option maxRecDepth 20000 in
theorem dX9_copy_101 : decode cX9_copy 101 = .ok (.iconst 3, 1) := by decide +kernel
set_option maxRecDepth 20000 in
theorem dX9_copy_102 : decode cX9_copy 102 = .ok (.invokevirtual 80, 3) := by decide +kernel
set_option maxRecDepth 20000 in
theorem dX9_copy_105 : decode cX9_copy 105 = .ok (.ireturn, 1) := by decide +kernel
set_option maxRecDepth 20000 in
theorem dX9_copy_106 : decode cX9_copy 106 = .ok (.aload 6, 2) := by decide +kernel
set_option maxRecDepth 20000 in
theorem dX9_copy_108 : decode cX9_copy 108 = .ok (.getfield 243, 3) := by decide +kernel
set_option maxRecDepth 20000 in
theorem dX9_copy_111 : decode cX9_copy 111 = .ok (.iload_n 2, 1) := by decide +kernel
set_option maxRecDepth 20000 in
theorem dX9_copy_112 : decode cX9_copy 112 = .ok (.aload 7, 2) := by decide +kernel
set_option maxRecDepth 20000 in
theorem dX9_copy_114 : decode cX9_copy 114 = .ok (.getfield 243, 3) := by decide +kernel
set_option maxRecDepth 20000 in
theorem dX9_copy_117 : decode cX9_copy 117 = .ok (.iload 4, 2) := by decide +kernel
set_option maxRecDepth 20000 in
theorem dX9_copy_119 : decode cX9_copy 119 = .ok (.iload 5, 2) := by decide +kernel
set_option maxRecDepth 20000 in
theorem dX9_copy_121 : decode cX9_copy 121 = .ok (.invokestatic 247, 3) := by decide +kernel
set_option maxRecDepth 20000 in
theorem dX9_copy_124 : decode cX9_copy 124 = .ok (.iload 5, 2) := by decide +kernel
set_option maxRecDepth 20000 in
theorem dX9_copy_126 : decode cX9_copy 126 = .ok (.ireturn, 1) := by decide +kernel
set_option maxRecDepth 20000 in
theorem dX9_tell_0 : decode cX9_tell 0 = .ok (.aload_n 0, 1) := by decide +kernel
set_option maxRecDepth 20000 in
theorem dX9_tell_1 : decode cX9_tell 1 = .ok (.getfield 20, 3) := by decide +kernel
set_option maxRecDepth 20000 in
theorem dX9_tell_4 : decode cX9_tell 4 = .ok (.iload_n 1, 1) := by decide +kernel
set_option maxRecDepth 20000 in
theorem dX9_tell_5 : decode cX9_tell 5 = .ok (.invokevirtual 102, 3) := by decide +kernel
set_option maxRecDepth 20000 in
theorem dX9_tell_8 : decode cX9_tell 8 = .ok (.astore_n 2, 1) := by decide +kernel
set_option maxRecDepth 20000 in
theorem dX9_tell_9 : decode cX9_tell 9 = .ok (.aload_n 2, 1) := by decide +kernel
set_option maxRecDepth 20000 in
theorem dX9_tell_10 : decode cX9_tell 10 = .ok (.ifnonnull 7, 3) := by decide +kernel
set_option maxRecDepth 20000 in
theorem dX9_tell_13 : decode cX9_tell 13 = .ok (.iconst (-1), 1) := by decide +kernel
set_option maxRecDepth 20000 in
theorem dX9_tell_14 : decode cX9_tell 14 = .ok (.goto 11, 3) := by decide +kernel
set_option maxRecDepth 20000 in
theorem dX9_tell_17 : decode cX9_tell 17 = .ok (.aload_n 0, 1) := by decide +kernel
set_option maxRecDepth 20000 in
theorem dX9_tell_18 : decode cX9_tell 18 = .ok (.getfield 59, 3) := by decide +kernel
set_option maxRecDepth 20000 in
theorem dX9_tell_21 : decode cX9_tell 21 = .ok (.aload_n 2, 1) := by decide +kernel
set_option maxRecDepth 20000 in
theorem dX9_tell_22 : decode cX9_tell 22 = .ok (.invokevirtual 253, 3) := by decide +kernel
set_option maxRecDepth 20000 in
theorem dX9_tell_25 : decode cX9_tell 25 = .ok (.ireturn, 1) := by decide +kernel
set_option maxRecDepth 20000 in
theorem dX9_call_0 : decode cX9_call 0 = .ok (.aload_n 0, 1) := by decide +kernel
set_option maxRecDepth 20000 in
theorem dX9_call_1 : decode cX9_call 1 = .ok (.getfield 20, 3) := by decide +kernel
set_option maxRecDepth 20000 in
theorem dX9_call_4 : decode cX9_call 4 = .ok (.iload_n 1, 1) := by decide +kernel
set_option maxRecDepth 20000 in
theorem dX9_call_5 : decode cX9_call 5 = .ok (.invokevirtual 102, 3) := by decide +kernel
set_option maxRecDepth 20000 in
theorem dX9_call_8 : decode cX9_call 8 = .ok (.astore_n 2, 1) := by decide +kernel
set_option maxRecDepth 20000 in
theorem dX9_call_9 : decode cX9_call 9 = .ok (.aload_n 2, 1) := by decide +kernel
set_option maxRecDepth 20000 in
theorem dX9_call_10 : decode cX9_call 10 = .ok (.ifnonnull 7, 3) := by decide +kernel
set_option maxRecDepth 20000 in
theorem dX9_call_13 : decode cX9_call 13 = .ok (.iconst (-1), 1) := by decide +kernel
set_option maxRecDepth 20000 in
theorem dX9_call_14 : decode cX9_call 14 = .ok (.goto 11, 3) := by decide +kernel
set_option maxRecDepth 20000 in
theorem dX9_call_17 : decode cX9_call 17 = .ok (.aload_n 0, 1) := by decide +kernel
set_option maxRecDepth 20000 in
theorem dX9_call_18 : decode cX9_call 18 = .ok (.getfield 59, 3) := by decide +kernel
set_option maxRecDepth 20000 in
theorem dX9_call_21 : decode cX9_call 21 = .ok (.aload_n 2, 1) := by decide +kernel
set_option maxRecDepth 20000 in
theorem dX9_call_22 : decode cX9_call 22 = .ok (.invokevirtual 257, 3) := by decide +kernel
set_option maxRecDepth 20000 in
theorem dX9_call_25 : decode cX9_call 25 = .ok (.ireturn, 1) := by decide +kernel
set_option maxRecDepth 20000 in
theorem dX9_as_0 : decode cX9_as 0 = .ok (.aload_n 0, 1) := by decide +kernel
set_option maxRecDepth 20000 in
theorem dX9_as_1 : decode cX9_as 1 = .ok (.iconst 0, 1) := by decide +kernel
set_option maxRecDepth 20000 in
theorem dX9_as_2 : decode cX9_as 2 = .ok (.putfield 63, 3) := by decide +kernel
set_option maxRecDepth 20000 in
theorem dX9_as_5 : decode cX9_as 5 = .ok (.aload_n 0, 1) := by decide +kernel
set_option maxRecDepth 20000 in
theorem dX9_as_6 : decode cX9_as 6 = .ok (.getfield 20, 3) := by decide +kernel
set_option maxRecDepth 20000 in
theorem dX9_as_9 : decode cX9_as 9 = .ok (.iload_n 1, 1) := by decide +kernel
set_option maxRecDepth 20000 in
theorem dX9_as_10 : decode cX9_as 10 = .ok (.invokevirtual 102, 3) := by decide +kernel
set_option maxRecDepth 20000 in
theorem dX9_as_13 : decode cX9_as 13 = .ok (.astore_n 3, 1) := by decide +kernel
set_option maxRecDepth 20000 in
theorem dX9_as_14 : decode cX9_as 14 = .ok (.aload_n 3, 1) := by decide +kernel
set_option maxRecDepth 20000 in
theorem dX9_as_15 : decode cX9_as 15 = .ok (.ifnonnull 5, 3) := by decide +kernel
set_option maxRecDepth 20000 in
theorem dX9_as_18 : decode cX9_as 18 = .ok (.iconst (-1), 1) := by decide +kernel
set_option maxRecDepth 20000 in
theorem dX9_as_19 : decode cX9_as 19 = .ok (.ireturn, 1) := by decide +kernel
set_option maxRecDepth 20000 in
theorem dX9_as_20 : decode cX9_as 20 = .ok (.iload_n 2, 1) := by decide +kernel
set_option maxRecDepth 20000 in
theorem dX9_as_21 : decode cX9_as 21 = .ok (.iconst 2, 1) := by decide +kernel
set_option maxRecDepth 20000 in
theorem dX9_as_22 : decode cX9_as 22 = .ok (.invokestatic 72, 3) := by decide +kernel
set_option maxRecDepth 20000 in
theorem dX9_as_25 : decode cX9_as 25 = .ok (.ifCond .eq 6, 3) := by decide +kernel
set_option maxRecDepth 20000 in
theorem dX9_as_28 : decode cX9_as 28 = .ok (.bipush (-2), 2) := by decide +kernel
set_option maxRecDepth 20000 in
theorem dX9_as_30 : decode cX9_as 30 = .ok (.ireturn, 1) := by decide +kernel
set_option maxRecDepth 20000 in
theorem dX9_as_31 : decode cX9_as 31 = .ok (.aload_n 3, 1) := by decide +kernel
set_option maxRecDepth 20000 in
theorem dX9_as_32 : decode cX9_as 32 = .ok (.getfield 106, 3) := by decide +kernel
set_option maxRecDepth 20000 in
theorem dX9_as_35 : decode cX9_as 35 = .ok (.iload_n 2, 1) := by decide +kernel
set_option maxRecDepth 20000 in
theorem dX9_as_36 : decode cX9_as 36 = .ok (.if_icmp .ge 11, 3) := by decide +kernel
set_option maxRecDepth 20000 in
theorem dX9_as_39 : decode cX9_as 39 = .ok (.aload_n 0, 1) := by decide +kernel
set_option maxRecDepth 20000 in
theorem dX9_as_40 : decode cX9_as 40 = .ok (.iconst 2, 1) := by decide +kernel
set_option maxRecDepth 20000 in
theorem dX9_as_41 : decode cX9_as 41 = .ok (.invokevirtual 80, 3) := by decide +kernel
set_option maxRecDepth 20000 in
theorem dX9_as_44 : decode cX9_as 44 = .ok (.goto 4, 3) := by decide +kernel
set_option maxRecDepth 20000 in
theorem dX9_as_47 : decode cX9_as 47 = .ok (.iconst 1, 1) := by decide +kernel
set_option maxRecDepth 20000 in
theorem dX9_as_48 : decode cX9_as 48 = .ok (.ireturn, 1) := by decide +kernel
set_option maxRecDepth 20000 in
theorem dX9_trace_0 : decode cX9_trace 0 = .ok (.aload_n 0, 1) := by decide +kernel
set_option maxRecDepth 20000 in
theorem dX9_trace_1 : decode cX9_trace 1 = .ok (.getfield 59, 3) := by decide +kernel
set_option maxRecDepth 20000 in
theorem dX9_trace_4 : decode cX9_trace 4 = .ok (.getfield 260, 3) := by decide +kernel
set_option maxRecDepth 20000 in
theorem dX9_trace_7 : decode cX9_trace 7 = .ok (.ireturn, 1) := by decide +kernel
set_option maxRecDepth 20000 in
theorem dX9_fault_0 : decode cX9_fault 0 = .ok (.aload_n 0, 1) := by decide +kernel
set_option maxRecDepth 20000 in
theorem dX9_fault_1 : decode cX9_fault 1 = .ok (.getfield 63, 3) := by decide +kernel
set_option maxRecDepth 20000 in
theorem dX9_fault_4 : decode cX9_fault 4 = .ok (.ireturn, 1) := by decide +kernel
set_option maxRecDepth 20000 in
theorem dX9_many_0 : decode cX9_many 0 = .ok (.iload_n 1, 1) := by decide +kernel
set_option maxRecDepth 20000 in
theorem dX9_many_1 : decode cX9_many 1 = .ok (.tableswitch 63 0 3 #[31, 39, 47, 55], 31) := by decide +kernel
set_option maxRecDepth 20000 in
theorem dX9_many_32 : decode cX9_many 32 = .ok (.aload_n 0, 1) := by decide +kernel
set_option maxRecDepth 20000 in
theorem dX9_many_33 : decode cX9_many 33 = .ok (.getfield 20, 3) := by decide +kernel
set_option maxRecDepth 20000 in
theorem dX9_many_36 : decode cX9_many 36 = .ok (.getfield 101, 3) := by decide +kernel
set_option maxRecDepth 20000 in
theorem dX9_many_39 : decode cX9_many 39 = .ok (.ireturn, 1) := by decide +kernel
set_option maxRecDepth 20000 in
theorem dX9_many_40 : decode cX9_many 40 = .ok (.aload_n 0, 1) := by decide +kernel
set_option maxRecDepth 20000 in
theorem dX9_many_41 : decode cX9_many 41 = .ok (.getfield 27, 3) := by decide +kernel
set_option maxRecDepth 20000 in
theorem dX9_many_44 : decode cX9_many 44 = .ok (.getfield 97, 3) := by decide +kernel
set_option maxRecDepth 20000 in
theorem dX9_many_47 : decode cX9_many 47 = .ok (.ireturn, 1) := by decide +kernel
set_option maxRecDepth 20000 in
theorem dX9_many_48 : decode cX9_many 48 = .ok (.aload_n 0, 1) := by decide +kernel
set_option maxRecDepth 20000 in
theorem dX9_many_49 : decode cX9_many 49 = .ok (.getfield 34, 3) := by decide +kernel
set_option maxRecDepth 20000 in
theorem dX9_many_52 : decode cX9_many 52 = .ok (.getfield 100, 3) := by decide +kernel
set_option maxRecDepth 20000 in
theorem dX9_many_55 : decode cX9_many 55 = .ok (.ireturn, 1) := by decide +kernel
set_option maxRecDepth 20000 in
theorem dX9_many_56 : decode cX9_many 56 = .ok (.aload_n 0, 1) := by decide +kernel
set_option maxRecDepth 20000 in
theorem dX9_many_57 : decode cX9_many 57 = .ok (.getfield 20, 3) := by decide +kernel
set_option maxRecDepth 20000 in
theorem dX9_many_60 : decode cX9_many 60 = .ok (.getfield 123, 3) := by decide +kernel
set_option maxRecDepth 20000 in
theorem dX9_many_63 : decode cX9_many 63 = .ok (.ireturn, 1) := by decide +kernel
set_option maxRecDepth 20000 in
theorem dX9_many_64 : decode cX9_many 64 = .ok (.bipush (-2), 2) := by decide +kernel
set_option maxRecDepth 20000 in
theorem dX9_many_66 : decode cX9_many 66 = .ok (.ireturn, 1) := by decide +kernel
set_option maxRecDepth 20000 in
theorem dX9_sheetAt_0 : decode cX9_sheetAt 0 = .ok (.iload_n 1, 1) := by decide +kernel
set_option maxRecDepth 20000 in
theorem dX9_sheetAt_1 : decode cX9_sheetAt 1 = .ok (.ifCond .lt 17, 3) := by decide +kernel
set_option maxRecDepth 20000 in
theorem dX9_sheetAt_4 : decode cX9_sheetAt 4 = .ok (.iload_n 1, 1) := by decide +kernel
set_option maxRecDepth 20000 in
theorem dX9_sheetAt_5 : decode cX9_sheetAt 5 = .ok (.iconst 4, 1) := by decide +kernel
set_option maxRecDepth 20000 in
theorem dX9_sheetAt_6 : decode cX9_sheetAt 6 = .ok (.if_icmp .ge 12, 3) := by decide +kernel
set_option maxRecDepth 20000 in
theorem dX9_sheetAt_9 : decode cX9_sheetAt 9 = .ok (.aload_n 0, 1) := by decide +kernel
set_option maxRecDepth 20000 in
theorem dX9_sheetAt_10 : decode cX9_sheetAt 10 = .ok (.getfield 13, 3) := by decide +kernel
set_option maxRecDepth 20000 in
theorem dX9_sheetAt_13 : decode cX9_sheetAt 13 = .ok (.iload_n 1, 1) := by decide +kernel
set_option maxRecDepth 20000 in
theorem dX9_sheetAt_14 : decode cX9_sheetAt 14 = .ok (.aaload, 1) := by decide +kernel
set_option maxRecDepth 20000 in
theorem dX9_sheetAt_15 : decode cX9_sheetAt 15 = .ok (.goto 4, 3) := by decide +kernel
set_option maxRecDepth 20000 in
theorem dX9_sheetAt_18 : decode cX9_sheetAt 18 = .ok (.aconst_null, 1) := by decide +kernel
set_option maxRecDepth 20000 in
theorem dX9_sheetAt_19 : decode cX9_sheetAt 19 = .ok (.areturn, 1) := by decide +kernel
set_option maxRecDepth 20000 in
theorem dX9_refusalOf_0 : decode cX9_refusalOf 0 = .ok (.iload_n 1, 1) := by decide +kernel
set_option maxRecDepth 20000 in
theorem dX9_refusalOf_1 : decode cX9_refusalOf 1 = .ok (.iload_n 2, 1) := by decide +kernel
set_option maxRecDepth 20000 in
theorem dX9_refusalOf_2 : decode cX9_refusalOf 2 = .ok (.invokestatic 72, 3) := by decide +kernel
set_option maxRecDepth 20000 in
theorem dX9_refusalOf_5 : decode cX9_refusalOf 5 = .ok (.ifCond .eq 6, 3) := by decide +kernel
set_option maxRecDepth 20000 in
theorem dX9_refusalOf_8 : decode cX9_refusalOf 8 = .ok (.bipush (-2), 2) := by decide +kernel
set_option maxRecDepth 20000 in
theorem dX9_refusalOf_10 : decode cX9_refusalOf 10 = .ok (.ireturn, 1) := by decide +kernel
set_option maxRecDepth 20000 in
theorem dX9_refusalOf_11 : decode cX9_refusalOf 11 = .ok (.aload_n 0, 1) := by decide +kernel
set_option maxRecDepth 20000 in
theorem dX9_refusalOf_12 : decode cX9_refusalOf 12 = .ok (.getfield 20, 3) := by decide +kernel
set_option maxRecDepth 20000 in
theorem dX9_refusalOf_15 : decode cX9_refusalOf 15 = .ok (.getfield 101, 3) := by decide +kernel
set_option maxRecDepth 20000 in
theorem dX9_refusalOf_18 : decode cX9_refusalOf 18 = .ok (.ifCond .ne 8, 3) := by decide +kernel
set_option maxRecDepth 20000 in
theorem dX9_refusalOf_21 : decode cX9_refusalOf 21 = .ok (.bipush (-3), 2) := by decide +kernel
set_option maxRecDepth 20000 in
theorem dX9_refusalOf_23 : decode cX9_refusalOf 23 = .ok (.goto 4, 3) := by decide +kernel
set_option maxRecDepth 20000 in
theorem dX9_refusalOf_26 : decode cX9_refusalOf 26 = .ok (.iconst 0, 1) := by decide +kernel
set_option maxRecDepth 20000 in
theorem dX9_refusalOf_27 : decode cX9_refusalOf 27 = .ok (.ireturn, 1) := by decide +kernel
set_option maxRecDepth 20000 in
theorem dX9_cameTo_0 : decode cX9_cameTo 0 = .ok (.aload_n 0, 1) := by decide +kernel
set_option maxRecDepth 20000 in
theorem dX9_cameTo_1 : decode cX9_cameTo 1 = .ok (.iload_n 1, 1) := by decide +kernel
set_option maxRecDepth 20000 in
theorem dX9_cameTo_2 : decode cX9_cameTo 2 = .ok (.putfield 63, 3) := by decide +kernel
set_option maxRecDepth 20000 in
theorem dX9_cameTo_5 : decode cX9_cameTo 5 = .ok (.bipush (-10), 2) := by decide +kernel
set_option maxRecDepth 20000 in
theorem dX9_cameTo_7 : decode cX9_cameTo 7 = .ok (.iload_n 1, 1) := by decide +kernel
set_option maxRecDepth 20000 in
theorem dX9_cameTo_8 : decode cX9_cameTo 8 = .ok (.isub, 1) := by decide +kernel
set_option maxRecDepth 20000 in
theorem dX9_cameTo_9 : decode cX9_cameTo 9 = .ok (.ireturn, 1) := by decide +kernel
set_option maxRecDepth 20000 in
theorem dX9_namesThings_0 : decode cX9_namesThings 0 = .ok (.iconst 0, 1) := by decide +kernel
set_option maxRecDepth 20000 in
theorem dX9_namesThings_1 : decode cX9_namesThings 1 = .ok (.istore_n 3, 1) := by decide +kernel
set_option maxRecDepth 20000 in
theorem dX9_namesThings_2 : decode cX9_namesThings 2 = .ok (.iload_n 3, 1) := by decide +kernel
set_option maxRecDepth 20000 in
theorem dX9_namesThings_3 : decode cX9_namesThings 3 = .ok (.aload_n 0, 1) := by decide +kernel
set_option maxRecDepth 20000 in
theorem dX9_namesThings_4 : decode cX9_namesThings 4 = .ok (.getfield 20, 3) := by decide +kernel
set_option maxRecDepth 20000 in
theorem dX9_namesThings_7 : decode cX9_namesThings 7 = .ok (.getfield 101, 3) := by decide +kernel
set_option maxRecDepth 20000 in
theorem dX9_namesThings_10 : decode cX9_namesThings 10 = .ok (.if_icmp .ge 39, 3) := by decide +kernel
set_option maxRecDepth 20000 in
theorem dX9_namesThings_13 : decode cX9_namesThings 13 = .ok (.aload_n 1, 1) := by decide +kernel
set_option maxRecDepth 20000 in
theorem dX9_namesThings_14 : decode cX9_namesThings 14 = .ok (.iload_n 2, 1) := by decide +kernel
set_option maxRecDepth 20000 in
theorem dX9_namesThings_15 : decode cX9_namesThings 15 = .ok (.iload_n 3, 1) := by decide +kernel
set_option maxRecDepth 20000 in
theorem dX9_namesThings_16 : decode cX9_namesThings 16 = .ok (.iadd, 1) := by decide +kernel
set_option maxRecDepth 20000 in
theorem dX9_namesThings_17 : decode cX9_namesThings 17 = .ok (.invokevirtual 237, 3) := by decide +kernel
set_option maxRecDepth 20000 in
theorem dX9_namesThings_20 : decode cX9_namesThings 20 = .ok (.istore 4, 2) := by decide +kernel
set_option maxRecDepth 20000 in
theorem dX9_namesThings_22 : decode cX9_namesThings 22 = .ok (.iload 4, 2) := by decide +kernel
set_option maxRecDepth 20000 in
theorem dX9_namesThings_24 : decode cX9_namesThings 24 = .ok (.bipush (-9), 2) := by decide +kernel
set_option maxRecDepth 20000 in
theorem dX9_namesThings_26 : decode cX9_namesThings 26 = .ok (.if_icmp .eq 17, 3) := by decide +kernel
set_option maxRecDepth 20000 in
theorem dX9_namesThings_29 : decode cX9_namesThings 29 = .ok (.aload_n 0, 1) := by decide +kernel
set_option maxRecDepth 20000 in
theorem dX9_namesThings_30 : decode cX9_namesThings 30 = .ok (.getfield 20, 3) := by decide +kernel
set_option maxRecDepth 20000 in
theorem dX9_namesThings_33 : decode cX9_namesThings 33 = .ok (.iload 4, 2) := by decide +kernel
set_option maxRecDepth 20000 in
theorem dX9_namesThings_35 : decode cX9_namesThings 35 = .ok (.invokevirtual 102, 3) := by decide +kernel
set_option maxRecDepth 20000 in
theorem dX9_namesThings_38 : decode cX9_namesThings 38 = .ok (.ifnonnull 5, 3) := by decide +kernel
set_option maxRecDepth 20000 in
theorem dX9_namesThings_41 : decode cX9_namesThings 41 = .ok (.iconst 0, 1) := by decide +kernel
set_option maxRecDepth 20000 in
theorem dX9_namesThings_42 : decode cX9_namesThings 42 = .ok (.ireturn, 1) := by decide +kernel
set_option maxRecDepth 20000 in
theorem dX9_namesThings_43 : decode cX9_namesThings 43 = .ok (.iinc 3 1, 3) := by decide +kernel
set_option maxRecDepth 20000 in
theorem dX9_namesThings_46 : decode cX9_namesThings 46 = .ok (.goto (-44), 3) := by decide +kernel
set_option maxRecDepth 20000 in
theorem dX9_namesThings_49 : decode cX9_namesThings 49 = .ok (.iconst 1, 1) := by decide +kernel
set_option maxRecDepth 20000 in
theorem dX9_namesThings_50 : decode cX9_namesThings 50 = .ok (.ireturn, 1) := by decide +kernel
set_option maxRecDepth 20000 in
theorem dX9_firstUnlike_0 : decode cX9_firstUnlike 0 = .ok (.aload_n 0, 1) := by decide +kernel
set_option maxRecDepth 20000 in
theorem dX9_firstUnlike_1 : decode cX9_firstUnlike 1 = .ok (.getfield 43, 3) := by decide +kernel
set_option maxRecDepth 20000 in
theorem dX9_firstUnlike_4 : decode cX9_firstUnlike 4 = .ok (.aload_n 0, 1) := by decide +kernel
set_option maxRecDepth 20000 in
theorem dX9_firstUnlike_5 : decode cX9_firstUnlike 5 = .ok (.getfield 20, 3) := by decide +kernel
set_option maxRecDepth 20000 in
theorem dX9_firstUnlike_8 : decode cX9_firstUnlike 8 = .ok (.getfield 123, 3) := by decide +kernel
set_option maxRecDepth 20000 in
theorem dX9_firstUnlike_11 : decode cX9_firstUnlike 11 = .ok (.aload_n 0, 1) := by decide +kernel
set_option maxRecDepth 20000 in
theorem dX9_firstUnlike_12 : decode cX9_firstUnlike 12 = .ok (.getfield 27, 3) := by decide +kernel
set_option maxRecDepth 20000 in
theorem dX9_firstUnlike_15 : decode cX9_firstUnlike 15 = .ok (.iconst 0, 1) := by decide +kernel
set_option maxRecDepth 20000 in
theorem dX9_firstUnlike_16 : decode cX9_firstUnlike 16 = .ok (.invokevirtual 154, 3) := by decide +kernel
set_option maxRecDepth 20000 in
theorem dX9_firstUnlike_19 : decode cX9_firstUnlike 19 = .ok (.invokevirtual 186, 3) := by decide +kernel
set_option maxRecDepth 20000 in
theorem dX9_firstUnlike_22 : decode cX9_firstUnlike 22 = .ok (.iconst 0, 1) := by decide +kernel
set_option maxRecDepth 20000 in
theorem dX9_firstUnlike_23 : decode cX9_firstUnlike 23 = .ok (.istore_n 3, 1) := by decide +kernel
set_option maxRecDepth 20000 in
theorem dX9_firstUnlike_24 : decode cX9_firstUnlike 24 = .ok (.iload_n 3, 1) := by decide +kernel
set_option maxRecDepth 20000 in
theorem dX9_firstUnlike_25 : decode cX9_firstUnlike 25 = .ok (.aload_n 0, 1) := by decide +kernel
set_option maxRecDepth 20000 in
theorem dX9_firstUnlike_26 : decode cX9_firstUnlike 26 = .ok (.getfield 20, 3) := by decide +kernel
set_option maxRecDepth 20000 in
theorem dX9_firstUnlike_29 : decode cX9_firstUnlike 29 = .ok (.getfield 101, 3) := by decide +kernel
set_option maxRecDepth 20000 in
theorem dX9_firstUnlike_32 : decode cX9_firstUnlike 32 = .ok (.if_icmp .ge 29, 3) := by decide +kernel
set_option maxRecDepth 20000 in
theorem dX9_firstUnlike_35 : decode cX9_firstUnlike 35 = .ok (.aload_n 1, 1) := by decide +kernel
set_option maxRecDepth 20000 in
theorem dX9_firstUnlike_36 : decode cX9_firstUnlike 36 = .ok (.iload_n 2, 1) := by decide +kernel
set_option maxRecDepth 20000 in
theorem dX9_firstUnlike_37 : decode cX9_firstUnlike 37 = .ok (.iload_n 3, 1) := by decide +kernel
set_option maxRecDepth 20000 in
theorem dX9_firstUnlike_38 : decode cX9_firstUnlike 38 = .ok (.iadd, 1) := by decide +kernel
set_option maxRecDepth 20000 in
theorem dX9_firstUnlike_39 : decode cX9_firstUnlike 39 = .ok (.invokevirtual 237, 3) := by decide +kernel
set_option maxRecDepth 20000 in
theorem dX9_firstUnlike_42 : decode cX9_firstUnlike 42 = .ok (.aload_n 0, 1) := by decide +kernel
set_option maxRecDepth 20000 in
theorem dX9_firstUnlike_43 : decode cX9_firstUnlike 43 = .ok (.getfield 43, 3) := by decide +kernel
set_option maxRecDepth 20000 in
theorem dX9_firstUnlike_46 : decode cX9_firstUnlike 46 = .ok (.iload_n 3, 1) := by decide +kernel
set_option maxRecDepth 20000 in
theorem dX9_firstUnlike_47 : decode cX9_firstUnlike 47 = .ok (.invokevirtual 133, 3) := by decide +kernel
set_option maxRecDepth 20000 in
theorem dX9_firstUnlike_50 : decode cX9_firstUnlike 50 = .ok (.if_icmp .eq 5, 3) := by decide +kernel
set_option maxRecDepth 20000 in
theorem dX9_firstUnlike_53 : decode cX9_firstUnlike 53 = .ok (.iload_n 3, 1) := by decide +kernel
set_option maxRecDepth 20000 in
theorem dX9_firstUnlike_54 : decode cX9_firstUnlike 54 = .ok (.ireturn, 1) := by decide +kernel
set_option maxRecDepth 20000 in
theorem dX9_firstUnlike_55 : decode cX9_firstUnlike 55 = .ok (.iinc 3 1, 3) := by decide +kernel
set_option maxRecDepth 20000 in
theorem dX9_firstUnlike_58 : decode cX9_firstUnlike 58 = .ok (.goto (-34), 3) := by decide +kernel
set_option maxRecDepth 20000 in
theorem dX9_firstUnlike_61 : decode cX9_firstUnlike 61 = .ok (.bipush (-9), 2) := by decide +kernel
set_option maxRecDepth 20000 in
theorem dX9_firstUnlike_63 : decode cX9_firstUnlike 63 = .ok (.ireturn, 1) := by decide +kernel
set_option maxRecDepth 20000 in
theorem dX9_isBeyond_0 : decode cX9_isBeyond 0 = .ok (.iload_n 0, 1) := by decide +kernel
set_option maxRecDepth 20000 in
theorem dX9_isBeyond_1 : decode cX9_isBeyond 1 = .ok (.ifCond .lt 8, 3) := by decide +kernel
set_option maxRecDepth 20000 in
theorem dX9_isBeyond_4 : decode cX9_isBeyond 4 = .ok (.iload_n 0, 1) := by decide +kernel
set_option maxRecDepth 20000 in
theorem dX9_isBeyond_5 : decode cX9_isBeyond 5 = .ok (.iload_n 1, 1) := by decide +kernel
set_option maxRecDepth 20000 in
theorem dX9_isBeyond_6 : decode cX9_isBeyond 6 = .ok (.if_icmp .le 7, 3) := by decide +kernel
set_option maxRecDepth 20000 in
theorem dX9_isBeyond_9 : decode cX9_isBeyond 9 = .ok (.iconst 1, 1) := by decide +kernel
set_option maxRecDepth 20000 in
theorem dX9_isBeyond_10 : decode cX9_isBeyond 10 = .ok (.goto 4, 3) := by decide +kernel
set_option maxRecDepth 20000 in
theorem dX9_isBeyond_13 : decode cX9_isBeyond 13 = .ok (.iconst 0, 1) := by decide +kernel
set_option maxRecDepth 20000 in
theorem dX9_isBeyond_14 : decode cX9_isBeyond 14 = .ok (.ireturn, 1) := by decide +kernel
set_option maxRecDepth 20000 in
theorem dX9_leastOf_0 : decode cX9_leastOf 0 = .ok (.iconst 0, 1) := by decide +kernel
set_option maxRecDepth 20000 in
theorem dX9_leastOf_1 : decode cX9_leastOf 1 = .ok (.istore_n 1, 1) := by decide +kernel
set_option maxRecDepth 20000 in
theorem dX9_leastOf_2 : decode cX9_leastOf 2 = .ok (.iload_n 1, 1) := by decide +kernel
set_option maxRecDepth 20000 in
theorem dX9_leastOf_3 : decode cX9_leastOf 3 = .ok (.bipush 8, 2) := by decide +kernel
set_option maxRecDepth 20000 in
theorem dX9_leastOf_5 : decode cX9_leastOf 5 = .ok (.if_icmp .ge 19, 3) := by decide +kernel
set_option maxRecDepth 20000 in
theorem dX9_leastOf_8 : decode cX9_leastOf 8 = .ok (.iload_n 0, 1) := by decide +kernel
set_option maxRecDepth 20000 in
theorem dX9_leastOf_9 : decode cX9_leastOf 9 = .ok (.iload_n 1, 1) := by decide +kernel
set_option maxRecDepth 20000 in
theorem dX9_leastOf_10 : decode cX9_leastOf 10 = .ok (.ishr, 1) := by decide +kernel
set_option maxRecDepth 20000 in
theorem dX9_leastOf_11 : decode cX9_leastOf 11 = .ok (.iconst 1, 1) := by decide +kernel
set_option maxRecDepth 20000 in
theorem dX9_leastOf_12 : decode cX9_leastOf 12 = .ok (.iand, 1) := by decide +kernel
set_option maxRecDepth 20000 in
theorem dX9_leastOf_13 : decode cX9_leastOf 13 = .ok (.ifCond .eq 5, 3) := by decide +kernel
set_option maxRecDepth 20000 in
theorem dX9_leastOf_16 : decode cX9_leastOf 16 = .ok (.iload_n 1, 1) := by decide +kernel
set_option maxRecDepth 20000 in
theorem dX9_leastOf_17 : decode cX9_leastOf 17 = .ok (.ireturn, 1) := by decide +kernel
set_option maxRecDepth 20000 in
theorem dX9_leastOf_18 : decode cX9_leastOf 18 = .ok (.iinc 1 1, 3) := by decide +kernel
set_option maxRecDepth 20000 in
theorem dX9_leastOf_21 : decode cX9_leastOf 21 = .ok (.goto (-19), 3) := by decide +kernel
set_option maxRecDepth 20000 in
theorem dX9_leastOf_24 : decode cX9_leastOf 24 = .ok (.bipush (-9), 2) := by decide +kernel
set_option maxRecDepth 20000 in
theorem dX9_leastOf_26 : decode cX9_leastOf 26 = .ok (.ireturn, 1) := by decide +kernel
set_option maxRecDepth 20000 in
theorem dX10_init_0 : decode cX10_init 0 = .ok (.aload_n 0, 1) := by decide +kernel
set_option maxRecDepth 20000 in
theorem dX10_init_1 : decode cX10_init 1 = .ok (.invokespecial 1, 3) := by decide +kernel
set_option maxRecDepth 20000 in
theorem dX10_init_4 : decode cX10_init 4 = .ok (.aload_n 0, 1) := by decide +kernel
set_option maxRecDepth 20000 in
theorem dX10_init_5 : decode cX10_init 5 = .ok (.bipush 8, 2) := by decide +kernel
set_option maxRecDepth 20000 in
theorem dX10_init_7 : decode cX10_init 7 = .ok (.newarray .int, 2) := by decide +kernel
set_option maxRecDepth 20000 in
theorem dX10_init_9 : decode cX10_init 9 = .ok (.putfield 7, 3) := by decide +kernel
set_option maxRecDepth 20000 in
theorem dX10_init_12 : decode cX10_init 12 = .ok (.aload_n 0, 1) := by decide +kernel
set_option maxRecDepth 20000 in
theorem dX10_init_13 : decode cX10_init 13 = .ok (.bipush 8, 2) := by decide +kernel
set_option maxRecDepth 20000 in
theorem dX10_init_15 : decode cX10_init 15 = .ok (.newarray .int, 2) := by decide +kernel
set_option maxRecDepth 20000 in
theorem dX10_init_17 : decode cX10_init 17 = .ok (.putfield 13, 3) := by decide +kernel
set_option maxRecDepth 20000 in
theorem dX10_init_20 : decode cX10_init 20 = .ok (.aload_n 0, 1) := by decide +kernel
set_option maxRecDepth 20000 in
theorem dX10_init_21 : decode cX10_init 21 = .ok (.bipush 8, 2) := by decide +kernel
set_option maxRecDepth 20000 in
theorem dX10_init_23 : decode cX10_init 23 = .ok (.newarray .int, 2) := by decide +kernel
set_option maxRecDepth 20000 in
theorem dX10_init_25 : decode cX10_init 25 = .ok (.putfield 16, 3) := by decide +kernel
set_option maxRecDepth 20000 in
theorem dX10_init_28 : decode cX10_init 28 = .ok (.aload_n 0, 1) := by decide +kernel
set_option maxRecDepth 20000 in
theorem dX10_init_29 : decode cX10_init 29 = .ok (.bipush 8, 2) := by decide +kernel
set_option maxRecDepth 20000 in
theorem dX10_init_31 : decode cX10_init 31 = .ok (.newarray .int, 2) := by decide +kernel
set_option maxRecDepth 20000 in
theorem dX10_init_33 : decode cX10_init 33 = .ok (.putfield 19, 3) := by decide +kernel
set_option maxRecDepth 20000 in
theorem dX10_init_36 : decode cX10_init 36 = .ok (.aload_n 0, 1) := by decide +kernel
set_option maxRecDepth 20000 in
theorem dX10_init_37 : decode cX10_init 37 = .ok (.bipush 8, 2) := by decide +kernel
set_option maxRecDepth 20000 in
theorem dX10_init_39 : decode cX10_init 39 = .ok (.newarray .int, 2) := by decide +kernel
set_option maxRecDepth 20000 in
theorem dX10_init_41 : decode cX10_init 41 = .ok (.putfield 22, 3) := by decide +kernel
set_option maxRecDepth 20000 in
theorem dX10_init_44 : decode cX10_init 44 = .ok (.aload_n 0, 1) := by decide +kernel
set_option maxRecDepth 20000 in
theorem dX10_init_45 : decode cX10_init 45 = .ok (.bipush 8, 2) := by decide +kernel
set_option maxRecDepth 20000 in
theorem dX10_init_47 : decode cX10_init 47 = .ok (.newarray .int, 2) := by decide +kernel
set_option maxRecDepth 20000 in
theorem dX10_init_49 : decode cX10_init 49 = .ok (.putfield 25, 3) := by decide +kernel
set_option maxRecDepth 20000 in
theorem dX10_init_52 : decode cX10_init 52 = .ok (.aload_n 0, 1) := by decide +kernel
set_option maxRecDepth 20000 in
theorem dX10_init_53 : decode cX10_init 53 = .ok (.bipush 8, 2) := by decide +kernel
set_option maxRecDepth 20000 in
theorem dX10_init_55 : decode cX10_init 55 = .ok (.newarray .int, 2) := by decide +kernel
set_option maxRecDepth 20000 in
theorem dX10_init_57 : decode cX10_init 57 = .ok (.putfield 28, 3) := by decide +kernel
set_option maxRecDepth 20000 in
theorem dX10_init_60 : decode cX10_init 60 = .ok (.aload_n 0, 1) := by decide +kernel
set_option maxRecDepth 20000 in
theorem dX10_init_61 : decode cX10_init 61 = .ok (.bipush 8, 2) := by decide +kernel
set_option maxRecDepth 20000 in
theorem dX10_init_63 : decode cX10_init 63 = .ok (.newarray .int, 2) := by decide +kernel
set_option maxRecDepth 20000 in
theorem dX10_init_65 : decode cX10_init 65 = .ok (.putfield 31, 3) := by decide +kernel
set_option maxRecDepth 20000 in
theorem dX10_init_68 : decode cX10_init 68 = .ok (.aload_n 0, 1) := by decide +kernel
set_option maxRecDepth 20000 in
theorem dX10_init_69 : decode cX10_init 69 = .ok (.bipush 8, 2) := by decide +kernel
set_option maxRecDepth 20000 in
theorem dX10_init_71 : decode cX10_init 71 = .ok (.newarray .int, 2) := by decide +kernel
set_option maxRecDepth 20000 in
theorem dX10_init_73 : decode cX10_init 73 = .ok (.putfield 34, 3) := by decide +kernel
set_option maxRecDepth 20000 in
theorem dX10_init_76 : decode cX10_init 76 = .ok (.aload_n 0, 1) := by decide +kernel
set_option maxRecDepth 20000 in
theorem dX10_init_77 : decode cX10_init 77 = .ok (.bipush 8, 2) := by decide +kernel
set_option maxRecDepth 20000 in
theorem dX10_init_79 : decode cX10_init 79 = .ok (.newarray .int, 2) := by decide +kernel
set_option maxRecDepth 20000 in
theorem dX10_init_81 : decode cX10_init 81 = .ok (.putfield 37, 3) := by decide +kernel
set_option maxRecDepth 20000 in
theorem dX10_init_84 : decode cX10_init 84 = .ok (.aload_n 0, 1) := by decide +kernel
set_option maxRecDepth 20000 in
theorem dX10_init_85 : decode cX10_init 85 = .ok (.bipush 8, 2) := by decide +kernel
set_option maxRecDepth 20000 in
theorem dX10_init_87 : decode cX10_init 87 = .ok (.newarray .int, 2) := by decide +kernel
set_option maxRecDepth 20000 in
theorem dX10_init_89 : decode cX10_init 89 = .ok (.putfield 40, 3) := by decide +kernel
set_option maxRecDepth 20000 in
theorem dX10_init_92 : decode cX10_init 92 = .ok (.aload_n 0, 1) := by decide +kernel
set_option maxRecDepth 20000 in
theorem dX10_init_93 : decode cX10_init 93 = .ok (.bipush 8, 2) := by decide +kernel
set_option maxRecDepth 20000 in
theorem dX10_init_95 : decode cX10_init 95 = .ok (.newarray .int, 2) := by decide +kernel
set_option maxRecDepth 20000 in
theorem dX10_init_97 : decode cX10_init 97 = .ok (.putfield 43, 3) := by decide +kernel
set_option maxRecDepth 20000 in
theorem dX10_init_100 : decode cX10_init 100 = .ok (.aload_n 0, 1) := by decide +kernel
set_option maxRecDepth 20000 in
theorem dX10_init_101 : decode cX10_init 101 = .ok (.bipush 8, 2) := by decide +kernel
set_option maxRecDepth 20000 in
theorem dX10_init_103 : decode cX10_init 103 = .ok (.newarray .int, 2) := by decide +kernel
set_option maxRecDepth 20000 in
theorem dX10_init_105 : decode cX10_init 105 = .ok (.putfield 46, 3) := by decide +kernel
set_option maxRecDepth 20000 in
theorem dX10_init_108 : decode cX10_init 108 = .ok (.aload_n 0, 1) := by decide +kernel
set_option maxRecDepth 20000 in
theorem dX10_init_109 : decode cX10_init 109 = .ok (.bipush 8, 2) := by decide +kernel
set_option maxRecDepth 20000 in
theorem dX10_init_111 : decode cX10_init 111 = .ok (.newarray .int, 2) := by decide +kernel
set_option maxRecDepth 20000 in
theorem dX10_init_113 : decode cX10_init 113 = .ok (.putfield 49, 3) := by decide +kernel
set_option maxRecDepth 20000 in
theorem dX10_init_116 : decode cX10_init 116 = .ok (.aload_n 0, 1) := by decide +kernel
set_option maxRecDepth 20000 in
theorem dX10_init_117 : decode cX10_init 117 = .ok (.bipush 8, 2) := by decide +kernel
set_option maxRecDepth 20000 in
theorem dX10_init_119 : decode cX10_init 119 = .ok (.newarray .int, 2) := by decide +kernel
set_option maxRecDepth 20000 in
theorem dX10_init_121 : decode cX10_init 121 = .ok (.putfield 52, 3) := by decide +kernel
set_option maxRecDepth 20000 in
theorem dX10_init_124 : decode cX10_init 124 = .ok (.aload_n 0, 1) := by decide +kernel
set_option maxRecDepth 20000 in
theorem dX10_init_125 : decode cX10_init 125 = .ok (.bipush 8, 2) := by decide +kernel
set_option maxRecDepth 20000 in
theorem dX10_init_127 : decode cX10_init 127 = .ok (.newarray .int, 2) := by decide +kernel
set_option maxRecDepth 20000 in
theorem dX10_init_129 : decode cX10_init 129 = .ok (.putfield 55, 3) := by decide +kernel
set_option maxRecDepth 20000 in
theorem dX10_init_132 : decode cX10_init 132 = .ok (.aload_n 0, 1) := by decide +kernel
set_option maxRecDepth 20000 in
theorem dX10_init_133 : decode cX10_init 133 = .ok (.iconst 4, 1) := by decide +kernel
set_option maxRecDepth 20000 in
theorem dX10_init_134 : decode cX10_init 134 = .ok (.newarray .int, 2) := by decide +kernel
set_option maxRecDepth 20000 in
theorem dX10_init_136 : decode cX10_init 136 = .ok (.putfield 58, 3) := by decide +kernel
set_option maxRecDepth 20000 in
theorem dX10_init_139 : decode cX10_init 139 = .ok (.aload_n 0, 1) := by decide +kernel
set_option maxRecDepth 20000 in
theorem dX10_init_140 : decode cX10_init 140 = .ok (.iconst 4, 1) := by decide +kernel
set_option maxRecDepth 20000 in
theorem dX10_init_141 : decode cX10_init 141 = .ok (.newarray .int, 2) := by decide +kernel
set_option maxRecDepth 20000 in
theorem dX10_init_143 : decode cX10_init 143 = .ok (.putfield 61, 3) := by decide +kernel
set_option maxRecDepth 20000 in
theorem dX10_init_146 : decode cX10_init 146 = .ok (.aload_n 0, 1) := by decide +kernel
set_option maxRecDepth 20000 in
theorem dX10_init_147 : decode cX10_init 147 = .ok (.sipush 240, 3) := by decide +kernel
set_option maxRecDepth 20000 in
theorem dX10_init_150 : decode cX10_init 150 = .ok (.newarray .int, 2) := by decide +kernel
set_option maxRecDepth 20000 in
theorem dX10_init_152 : decode cX10_init 152 = .ok (.putfield 64, 3) := by decide +kernel
set_option maxRecDepth 20000 in
theorem dX10_init_155 : decode cX10_init 155 = .ok (.aload_n 0, 1) := by decide +kernel
set_option maxRecDepth 20000 in
theorem dX10_init_156 : decode cX10_init 156 = .ok (.bipush 60, 2) := by decide +kernel
set_option maxRecDepth 20000 in
theorem dX10_init_158 : decode cX10_init 158 = .ok (.newarray .int, 2) := by decide +kernel
set_option maxRecDepth 20000 in
theorem dX10_init_160 : decode cX10_init 160 = .ok (.putfield 67, 3) := by decide +kernel
set_option maxRecDepth 20000 in
theorem dX10_init_163 : decode cX10_init 163 = .ok (.iconst 0, 1) := by decide +kernel
set_option maxRecDepth 20000 in
theorem dX10_init_164 : decode cX10_init 164 = .ok (.istore_n 1, 1) := by decide +kernel
set_option maxRecDepth 20000 in
theorem dX10_init_165 : decode cX10_init 165 = .ok (.iload_n 1, 1) := by decide +kernel
set_option maxRecDepth 20000 in
theorem dX10_init_166 : decode cX10_init 166 = .ok (.iconst 4, 1) := by decide +kernel
set_option maxRecDepth 20000 in
theorem dX10_init_167 : decode cX10_init 167 = .ok (.if_icmp .ge 16, 3) := by decide +kernel
set_option maxRecDepth 20000 in
theorem dX10_init_170 : decode cX10_init 170 = .ok (.aload_n 0, 1) := by decide +kernel
set_option maxRecDepth 20000 in
theorem dX10_init_171 : decode cX10_init 171 = .ok (.getfield 58, 3) := by decide +kernel
set_option maxRecDepth 20000 in
theorem dX10_init_174 : decode cX10_init 174 = .ok (.iload_n 1, 1) := by decide +kernel
set_option maxRecDepth 20000 in
theorem dX10_init_175 : decode cX10_init 175 = .ok (.iconst (-1), 1) := by decide +kernel
set_option maxRecDepth 20000 in
theorem dX10_init_176 : decode cX10_init 176 = .ok (.iastore, 1) := by decide +kernel
set_option maxRecDepth 20000 in
theorem dX10_init_177 : decode cX10_init 177 = .ok (.iinc 1 1, 3) := by decide +kernel
set_option maxRecDepth 20000 in
theorem dX10_init_180 : decode cX10_init 180 = .ok (.goto (-15), 3) := by decide +kernel
set_option maxRecDepth 20000 in
theorem dX10_init_183 : decode cX10_init 183 = .ok (.return_, 1) := by decide +kernel
set_option maxRecDepth 20000 in
theorem dX10_in_0 : decode cX10_in 0 = .ok (.lload_n 0, 1) := by decide +kernel
set_option maxRecDepth 20000 in
theorem dX10_in_1 : decode cX10_in 1 = .ok (.lload_n 2, 1) := by decide +kernel
set_option maxRecDepth 20000 in
theorem dX10_in_2 : decode cX10_in 2 = .ok (.lcmp, 1) := by decide +kernel
set_option maxRecDepth 20000 in
theorem dX10_in_3 : decode cX10_in 3 = .ok (.ifCond .lt 14, 3) := by decide +kernel
set_option maxRecDepth 20000 in
theorem dX10_in_6 : decode cX10_in 6 = .ok (.lload_n 0, 1) := by decide +kernel
set_option maxRecDepth 20000 in
theorem dX10_in_7 : decode cX10_in 7 = .ok (.lload 4, 2) := by decide +kernel
set_option maxRecDepth 20000 in
theorem dX10_in_9 : decode cX10_in 9 = .ok (.lcmp, 1) := by decide +kernel
set_option maxRecDepth 20000 in
theorem dX10_in_10 : decode cX10_in 10 = .ok (.ifCond .gt 7, 3) := by decide +kernel
set_option maxRecDepth 20000 in
theorem dX10_in_13 : decode cX10_in 13 = .ok (.iconst 1, 1) := by decide +kernel
set_option maxRecDepth 20000 in
theorem dX10_in_14 : decode cX10_in 14 = .ok (.goto 4, 3) := by decide +kernel
set_option maxRecDepth 20000 in
theorem dX10_in_17 : decode cX10_in 17 = .ok (.iconst 0, 1) := by decide +kernel
set_option maxRecDepth 20000 in
theorem dX10_in_18 : decode cX10_in 18 = .ok (.ireturn, 1) := by decide +kernel
set_option maxRecDepth 20000 in
theorem dX10_lost_0 : decode cX10_lost 0 = .ok (.ldc2_w 70, 3) := by decide +kernel
set_option maxRecDepth 20000 in
theorem dX10_lost_3 : decode cX10_lost 3 = .ok (.lreturn, 1) := by decide +kernel
set_option maxRecDepth 20000 in
theorem dX10_isIn_0 : decode cX10_isIn 0 = .ok (.iload_n 0, 1) := by decide +kernel
set_option maxRecDepth 20000 in
theorem dX10_isIn_1 : decode cX10_isIn 1 = .ok (.iload_n 1, 1) := by decide +kernel
set_option maxRecDepth 20000 in
theorem dX10_isIn_2 : decode cX10_isIn 2 = .ok (.ishr, 1) := by decide +kernel
set_option maxRecDepth 20000 in
theorem dX10_isIn_3 : decode cX10_isIn 3 = .ok (.iconst 1, 1) := by decide +kernel
set_option maxRecDepth 20000 in
theorem dX10_isIn_4 : decode cX10_isIn 4 = .ok (.iand, 1) := by decide +kernel
set_option maxRecDepth 20000 in
theorem dX10_isIn_5 : decode cX10_isIn 5 = .ok (.iconst 1, 1) := by decide +kernel
set_option maxRecDepth 20000 in
theorem dX10_isIn_6 : decode cX10_isIn 6 = .ok (.if_icmp .ne 7, 3) := by decide +kernel
set_option maxRecDepth 20000 in
theorem dX10_isIn_9 : decode cX10_isIn 9 = .ok (.iconst 1, 1) := by decide +kernel
set_option maxRecDepth 20000 in
theorem dX10_isIn_10 : decode cX10_isIn 10 = .ok (.goto 4, 3) := by decide +kernel
set_option maxRecDepth 20000 in
theorem dX10_isIn_13 : decode cX10_isIn 13 = .ok (.iconst 0, 1) := by decide +kernel
set_option maxRecDepth 20000 in
theorem dX10_isIn_14 : decode cX10_isIn 14 = .ok (.ireturn, 1) := by decide +kernel
set_option maxRecDepth 20000 in
theorem dX10_bits_0 : decode cX10_bits 0 = .ok (.iconst 0, 1) := by decide +kernel
set_option maxRecDepth 20000 in
theorem dX10_bits_1 : decode cX10_bits 1 = .ok (.istore_n 1, 1) := by decide +kernel
set_option maxRecDepth 20000 in
theorem dX10_bits_2 : decode cX10_bits 2 = .ok (.iload_n 0, 1) := by decide +kernel
set_option maxRecDepth 20000 in
theorem dX10_bits_3 : decode cX10_bits 3 = .ok (.istore_n 2, 1) := by decide +kernel
set_option maxRecDepth 20000 in
theorem dX10_bits_4 : decode cX10_bits 4 = .ok (.iload_n 2, 1) := by decide +kernel
set_option maxRecDepth 20000 in
theorem dX10_bits_5 : decode cX10_bits 5 = .ok (.ifCond .le 16, 3) := by decide +kernel
set_option maxRecDepth 20000 in
theorem dX10_bits_8 : decode cX10_bits 8 = .ok (.iload_n 1, 1) := by decide +kernel
set_option maxRecDepth 20000 in
theorem dX10_bits_9 : decode cX10_bits 9 = .ok (.iload_n 2, 1) := by decide +kernel
set_option maxRecDepth 20000 in
theorem dX10_bits_10 : decode cX10_bits 10 = .ok (.iconst 1, 1) := by decide +kernel
set_option maxRecDepth 20000 in
theorem dX10_bits_11 : decode cX10_bits 11 = .ok (.iand, 1) := by decide +kernel
set_option maxRecDepth 20000 in
theorem dX10_bits_12 : decode cX10_bits 12 = .ok (.iadd, 1) := by decide +kernel
set_option maxRecDepth 20000 in
theorem dX10_bits_13 : decode cX10_bits 13 = .ok (.istore_n 1, 1) := by decide +kernel
set_option maxRecDepth 20000 in
theorem dX10_bits_14 : decode cX10_bits 14 = .ok (.iload_n 2, 1) := by decide +kernel
set_option maxRecDepth 20000 in
theorem dX10_bits_15 : decode cX10_bits 15 = .ok (.iconst 1, 1) := by decide +kernel
set_option maxRecDepth 20000 in
theorem dX10_bits_16 : decode cX10_bits 16 = .ok (.ishr, 1) := by decide +kernel
set_option maxRecDepth 20000 in
theorem dX10_bits_17 : decode cX10_bits 17 = .ok (.istore_n 2, 1) := by decide +kernel
set_option maxRecDepth 20000 in
theorem dX10_bits_18 : decode cX10_bits 18 = .ok (.goto (-14), 3) := by decide +kernel
set_option maxRecDepth 20000 in
theorem dX10_bits_21 : decode cX10_bits 21 = .ok (.iload_n 1, 1) := by decide +kernel
set_option maxRecDepth 20000 in
theorem dX10_bits_22 : decode cX10_bits 22 = .ok (.ireturn, 1) := by decide +kernel
set_option maxRecDepth 20000 in
theorem dX10_told_0 : decode cX10_told 0 = .ok (.lload_n 0, 1) := by decide +kernel
set_option maxRecDepth 20000 in
theorem dX10_told_1 : decode cX10_told 1 = .ok (.lstore 5, 2) := by decide +kernel
set_option maxRecDepth 20000 in
theorem dX10_told_3 : decode cX10_told 3 = .ok (.lload_n 2, 1) := by decide +kernel
set_option maxRecDepth 20000 in
theorem dX10_told_4 : decode cX10_told 4 = .ok (.lstore 7, 2) := by decide +kernel
set_option maxRecDepth 20000 in
theorem dX10_told_6 : decode cX10_told 6 = .ok (.lload 7, 2) := by decide +kernel
set_option maxRecDepth 20000 in
theorem dX10_told_8 : decode cX10_told 8 = .ok (.lconst 0, 1) := by decide +kernel
set_option maxRecDepth 20000 in
theorem dX10_told_9 : decode cX10_told 9 = .ok (.lcmp, 1) := by decide +kernel
set_option maxRecDepth 20000 in
theorem dX10_told_10 : decode cX10_told 10 = .ok (.ifCond .eq 21, 3) := by decide +kernel
set_option maxRecDepth 20000 in
theorem dX10_told_13 : decode cX10_told 13 = .ok (.lload 5, 2) := by decide +kernel
set_option maxRecDepth 20000 in
theorem dX10_told_15 : decode cX10_told 15 = .ok (.lload 7, 2) := by decide +kernel
set_option maxRecDepth 20000 in
theorem dX10_told_17 : decode cX10_told 17 = .ok (.lrem, 1) := by decide +kernel
set_option maxRecDepth 20000 in
theorem dX10_told_18 : decode cX10_told 18 = .ok (.lstore 9, 2) := by decide +kernel
set_option maxRecDepth 20000 in
theorem dX10_told_20 : decode cX10_told 20 = .ok (.lload 7, 2) := by decide +kernel
set_option maxRecDepth 20000 in
theorem dX10_told_22 : decode cX10_told 22 = .ok (.lstore 5, 2) := by decide +kernel
set_option maxRecDepth 20000 in
theorem dX10_told_24 : decode cX10_told 24 = .ok (.lload 9, 2) := by decide +kernel
set_option maxRecDepth 20000 in
theorem dX10_told_26 : decode cX10_told 26 = .ok (.lstore 7, 2) := by decide +kernel
set_option maxRecDepth 20000 in
theorem dX10_told_28 : decode cX10_told 28 = .ok (.goto (-22), 3) := by decide +kernel
set_option maxRecDepth 20000 in
theorem dX10_told_31 : decode cX10_told 31 = .ok (.iload 4, 2) := by decide +kernel
set_option maxRecDepth 20000 in
theorem dX10_told_33 : decode cX10_told 33 = .ok (.ifCond .ne 7, 3) := by decide +kernel
set_option maxRecDepth 20000 in
theorem dX10_told_36 : decode cX10_told 36 = .ok (.lload_n 0, 1) := by decide +kernel
set_option maxRecDepth 20000 in
theorem dX10_told_37 : decode cX10_told 37 = .ok (.goto 4, 3) := by decide +kernel
set_option maxRecDepth 20000 in
theorem dX10_told_40 : decode cX10_told 40 = .ok (.lload_n 2, 1) := by decide +kernel
set_option maxRecDepth 20000 in
theorem dX10_told_41 : decode cX10_told 41 = .ok (.lload 5, 2) := by decide +kernel
set_option maxRecDepth 20000 in
theorem dX10_told_43 : decode cX10_told 43 = .ok (.ldiv, 1) := by decide +kernel
set_option maxRecDepth 20000 in
theorem dX10_told_44 : decode cX10_told 44 = .ok (.lreturn, 1) := by decide +kernel
set_option maxRecDepth 20000 in
theorem dX10_refused_0 : decode cX10_refused 0 = .ok (.aload_n 0, 1) := by decide +kernel
set_option maxRecDepth 20000 in
theorem dX10_refused_1 : decode cX10_refused 1 = .ok (.iconst 0, 1) := by decide +kernel
set_option maxRecDepth 20000 in
theorem dX10_refused_2 : decode cX10_refused 2 = .ok (.putfield 72, 3) := by decide +kernel
set_option maxRecDepth 20000 in
theorem dX10_refused_5 : decode cX10_refused 5 = .ok (.iload_n 1, 1) := by decide +kernel
set_option maxRecDepth 20000 in
theorem dX10_refused_6 : decode cX10_refused 6 = .ok (.ireturn, 1) := by decide +kernel
set_option maxRecDepth 20000 in
theorem dX10_faulted_0 : decode cX10_faulted 0 = .ok (.aload_n 0, 1) := by decide +kernel
set_option maxRecDepth 20000 in
theorem dX10_faulted_1 : decode cX10_faulted 1 = .ok (.iload_n 1, 1) := by decide +kernel
set_option maxRecDepth 20000 in
theorem dX10_faulted_2 : decode cX10_faulted 2 = .ok (.putfield 72, 3) := by decide +kernel
set_option maxRecDepth 20000 in
theorem dX10_faulted_5 : decode cX10_faulted 5 = .ok (.bipush (-10), 2) := by decide +kernel
set_option maxRecDepth 20000 in
theorem dX10_faulted_7 : decode cX10_faulted 7 = .ok (.iload_n 1, 1) := by decide +kernel
set_option maxRecDepth 20000 in
theorem dX10_faulted_8 : decode cX10_faulted 8 = .ok (.isub, 1) := by decide +kernel
set_option maxRecDepth 20000 in
theorem dX10_faulted_9 : decode cX10_faulted 9 = .ok (.ireturn, 1) := by decide +kernel
set_option maxRecDepth 20000 in
theorem dX10_faultedLong_0 : decode cX10_faultedLong 0 = .ok (.aload_n 0, 1) := by decide +kernel
set_option maxRecDepth 20000 in
theorem dX10_faultedLong_1 : decode cX10_faultedLong 1 = .ok (.iload_n 1, 1) := by decide +kernel
set_option maxRecDepth 20000 in
theorem dX10_faultedLong_2 : decode cX10_faultedLong 2 = .ok (.putfield 72, 3) := by decide +kernel
set_option maxRecDepth 20000 in
theorem dX10_faultedLong_5 : decode cX10_faultedLong 5 = .ok (.invokestatic 76, 3) := by decide +kernel
set_option maxRecDepth 20000 in
theorem dX10_faultedLong_8 : decode cX10_faultedLong 8 = .ok (.lreturn, 1) := by decide +kernel
set_option maxRecDepth 20000 in
theorem dX10_noThing_0 : decode cX10_noThing 0 = .ok (.iload_n 1, 1) := by decide +kernel
set_option maxRecDepth 20000 in
theorem dX10_noThing_1 : decode cX10_noThing 1 = .ok (.i2l, 1) := by decide +kernel
set_option maxRecDepth 20000 in
theorem dX10_noThing_2 : decode cX10_noThing 2 = .ok (.lconst 0, 1) := by decide +kernel
set_option maxRecDepth 20000 in
theorem dX10_noThing_3 : decode cX10_noThing 3 = .ok (.aload_n 0, 1) := by decide +kernel
set_option maxRecDepth 20000 in
theorem dX10_noThing_4 : decode cX10_noThing 4 = .ok (.getfield 80, 3) := by decide +kernel
set_option maxRecDepth 20000 in
theorem dX10_noThing_7 : decode cX10_noThing 7 = .ok (.i2l, 1) := by decide +kernel
set_option maxRecDepth 20000 in
theorem dX10_noThing_8 : decode cX10_noThing 8 = .ok (.lconst 1, 1) := by decide +kernel
set_option maxRecDepth 20000 in
theorem dX10_noThing_9 : decode cX10_noThing 9 = .ok (.lsub, 1) := by decide +kernel
set_option maxRecDepth 20000 in
theorem dX10_noThing_10 : decode cX10_noThing 10 = .ok (.invokestatic 83, 3) := by decide +kernel
set_option maxRecDepth 20000 in
theorem dX10_noThing_13 : decode cX10_noThing 13 = .ok (.ifCond .ne 7, 3) := by decide +kernel
set_option maxRecDepth 20000 in
theorem dX10_noThing_16 : decode cX10_noThing 16 = .ok (.iconst 1, 1) := by decide +kernel
set_option maxRecDepth 20000 in
theorem dX10_noThing_17 : decode cX10_noThing 17 = .ok (.goto 4, 3) := by decide +kernel
set_option maxRecDepth 20000 in
theorem dX10_noThing_20 : decode cX10_noThing 20 = .ok (.iconst 0, 1) := by decide +kernel
set_option maxRecDepth 20000 in
theorem dX10_noThing_21 : decode cX10_noThing 21 = .ok (.ireturn, 1) := by decide +kernel
set_option maxRecDepth 20000 in
theorem dX10_isHour_0 : decode cX10_isHour 0 = .ok (.iload_n 0, 1) := by decide +kernel
set_option maxRecDepth 20000 in
theorem dX10_isHour_1 : decode cX10_isHour 1 = .ok (.i2l, 1) := by decide +kernel
set_option maxRecDepth 20000 in
theorem dX10_isHour_2 : decode cX10_isHour 2 = .ok (.lconst 0, 1) := by decide +kernel
set_option maxRecDepth 20000 in
theorem dX10_isHour_3 : decode cX10_isHour 3 = .ok (.ldc2_w 87, 3) := by decide +kernel
set_option maxRecDepth 20000 in
theorem dX10_isHour_6 : decode cX10_isHour 6 = .ok (.invokestatic 83, 3) := by decide +kernel
set_option maxRecDepth 20000 in
theorem dX10_isHour_9 : decode cX10_isHour 9 = .ok (.ireturn, 1) := by decide +kernel
set_option maxRecDepth 20000 in
theorem dX10_all_0 : decode cX10_all 0 = .ok (.iconst 1, 1) := by decide +kernel
set_option maxRecDepth 20000 in
theorem dX10_all_1 : decode cX10_all 1 = .ok (.aload_n 0, 1) := by decide +kernel
set_option maxRecDepth 20000 in
theorem dX10_all_2 : decode cX10_all 2 = .ok (.getfield 80, 3) := by decide +kernel
set_option maxRecDepth 20000 in
theorem dX10_all_5 : decode cX10_all 5 = .ok (.ishl, 1) := by decide +kernel
set_option maxRecDepth 20000 in
theorem dX10_all_6 : decode cX10_all 6 = .ok (.iconst 1, 1) := by decide +kernel
set_option maxRecDepth 20000 in
theorem dX10_all_7 : decode cX10_all 7 = .ok (.isub, 1) := by decide +kernel
set_option maxRecDepth 20000 in
theorem dX10_all_8 : decode cX10_all 8 = .ok (.ireturn, 1) := by decide +kernel
set_option maxRecDepth 20000 in
theorem dX10_codeAt_0 : decode cX10_codeAt 0 = .ok (.aload_n 0, 1) := by decide +kernel
set_option maxRecDepth 20000 in
theorem dX10_codeAt_1 : decode cX10_codeAt 1 = .ok (.getfield 89, 3) := by decide +kernel
set_option maxRecDepth 20000 in
theorem dX10_codeAt_4 : decode cX10_codeAt 4 = .ok (.iload_n 2, 1) := by decide +kernel
set_option maxRecDepth 20000 in
theorem dX10_codeAt_5 : decode cX10_codeAt 5 = .ok (.if_icmp .ge 17, 3) := by decide +kernel
set_option maxRecDepth 20000 in
theorem dX10_codeAt_8 : decode cX10_codeAt 8 = .ok (.aload_n 0, 1) := by decide +kernel
set_option maxRecDepth 20000 in
theorem dX10_codeAt_9 : decode cX10_codeAt 9 = .ok (.getfield 64, 3) := by decide +kernel
set_option maxRecDepth 20000 in
theorem dX10_codeAt_12 : decode cX10_codeAt 12 = .ok (.iload_n 1, 1) := by decide +kernel
set_option maxRecDepth 20000 in
theorem dX10_codeAt_13 : decode cX10_codeAt 13 = .ok (.aload_n 0, 1) := by decide +kernel
set_option maxRecDepth 20000 in
theorem dX10_codeAt_14 : decode cX10_codeAt 14 = .ok (.getfield 89, 3) := by decide +kernel
set_option maxRecDepth 20000 in
theorem dX10_codeAt_17 : decode cX10_codeAt 17 = .ok (.iadd, 1) := by decide +kernel
set_option maxRecDepth 20000 in
theorem dX10_codeAt_18 : decode cX10_codeAt 18 = .ok (.iaload, 1) := by decide +kernel
set_option maxRecDepth 20000 in
theorem dX10_codeAt_19 : decode cX10_codeAt 19 = .ok (.goto 5, 3) := by decide +kernel
set_option maxRecDepth 20000 in
theorem dX10_codeAt_22 : decode cX10_codeAt 22 = .ok (.bipush (-9), 2) := by decide +kernel
set_option maxRecDepth 20000 in
theorem dX10_codeAt_24 : decode cX10_codeAt 24 = .ok (.ireturn, 1) := by decide +kernel
set_option maxRecDepth 20000 in
theorem dX10_figure_0 : decode cX10_figure 0 = .ok (.aload_n 0, 1) := by decide +kernel
set_option maxRecDepth 20000 in
theorem dX10_figure_1 : decode cX10_figure 1 = .ok (.iload_n 1, 1) := by decide +kernel
set_option maxRecDepth 20000 in
theorem dX10_figure_2 : decode cX10_figure 2 = .ok (.iload_n 2, 1) := by decide +kernel
set_option maxRecDepth 20000 in
theorem dX10_figure_3 : decode cX10_figure 3 = .ok (.invokevirtual 92, 3) := by decide +kernel
set_option maxRecDepth 20000 in
theorem dX10_figure_6 : decode cX10_figure 6 = .ok (.bipush 48, 2) := by decide +kernel
set_option maxRecDepth 20000 in
theorem dX10_figure_8 : decode cX10_figure 8 = .ok (.isub, 1) := by decide +kernel
set_option maxRecDepth 20000 in
theorem dX10_figure_9 : decode cX10_figure 9 = .ok (.istore 6, 2) := by decide +kernel
set_option maxRecDepth 20000 in
theorem dX10_figure_11 : decode cX10_figure 11 = .ok (.iload 6, 2) := by decide +kernel
set_option maxRecDepth 20000 in
theorem dX10_figure_13 : decode cX10_figure 13 = .ok (.i2l, 1) := by decide +kernel
set_option maxRecDepth 20000 in
theorem dX10_figure_14 : decode cX10_figure 14 = .ok (.iload_n 3, 1) := by decide +kernel
set_option maxRecDepth 20000 in
theorem dX10_figure_15 : decode cX10_figure 15 = .ok (.i2l, 1) := by decide +kernel
set_option maxRecDepth 20000 in
theorem dX10_figure_16 : decode cX10_figure 16 = .ok (.iload 4, 2) := by decide +kernel
set_option maxRecDepth 20000 in
theorem dX10_figure_18 : decode cX10_figure 18 = .ok (.i2l, 1) := by decide +kernel
set_option maxRecDepth 20000 in
theorem dX10_figure_19 : decode cX10_figure 19 = .ok (.invokestatic 83, 3) := by decide +kernel
set_option maxRecDepth 20000 in
theorem dX10_figure_22 : decode cX10_figure 22 = .ok (.ifCond .eq 14, 3) := by decide +kernel
set_option maxRecDepth 20000 in
theorem dX10_figure_25 : decode cX10_figure 25 = .ok (.iload 6, 2) := by decide +kernel
set_option maxRecDepth 20000 in
theorem dX10_figure_27 : decode cX10_figure 27 = .ok (.iload 5, 2) := by decide +kernel
set_option maxRecDepth 20000 in
theorem dX10_figure_29 : decode cX10_figure 29 = .ok (.if_icmp .eq 7, 3) := by decide +kernel
set_option maxRecDepth 20000 in
theorem dX10_figure_32 : decode cX10_figure 32 = .ok (.iconst 1, 1) := by decide +kernel
set_option maxRecDepth 20000 in
theorem dX10_figure_33 : decode cX10_figure 33 = .ok (.goto 4, 3) := by decide +kernel
set_option maxRecDepth 20000 in
theorem dX10_figure_36 : decode cX10_figure 36 = .ok (.iconst 0, 1) := by decide +kernel
set_option maxRecDepth 20000 in
theorem dX10_figure_37 : decode cX10_figure 37 = .ok (.istore 7, 2) := by decide +kernel
set_option maxRecDepth 20000 in
theorem dX10_figure_39 : decode cX10_figure 39 = .ok (.aload_n 0, 1) := by decide +kernel
set_option maxRecDepth 20000 in
theorem dX10_figure_40 : decode cX10_figure 40 = .ok (.dup, 1) := by decide +kernel
set_option maxRecDepth 20000 in
theorem dX10_figure_41 : decode cX10_figure 41 = .ok (.getfield 89, 3) := by decide +kernel
set_option maxRecDepth 20000 in
theorem dX10_figure_44 : decode cX10_figure 44 = .ok (.iload 7, 2) := by decide +kernel
set_option maxRecDepth 20000 in
theorem dX10_figure_46 : decode cX10_figure 46 = .ok (.ifCond .eq 7, 3) := by decide +kernel
set_option maxRecDepth 20000 in
theorem dX10_figure_49 : decode cX10_figure 49 = .ok (.iconst 1, 1) := by decide +kernel
set_option maxRecDepth 20000 in
theorem dX10_figure_50 : decode cX10_figure 50 = .ok (.goto 4, 3) := by decide +kernel
set_option maxRecDepth 20000 in
theorem dX10_figure_53 : decode cX10_figure 53 = .ok (.iconst 0, 1) := by decide +kernel
set_option maxRecDepth 20000 in
theorem dX10_figure_54 : decode cX10_figure 54 = .ok (.iadd, 1) := by decide +kernel
set_option maxRecDepth 20000 in
theorem dX10_figure_55 : decode cX10_figure 55 = .ok (.putfield 89, 3) := by decide +kernel
set_option maxRecDepth 20000 in
theorem dX10_figure_58 : decode cX10_figure 58 = .ok (.iload 7, 2) := by decide +kernel
set_option maxRecDepth 20000 in
theorem dX10_figure_60 : decode cX10_figure 60 = .ok (.ifCond .eq 8, 3) := by decide +kernel
set_option maxRecDepth 20000 in
theorem dX10_figure_63 : decode cX10_figure 63 = .ok (.iload 6, 2) := by decide +kernel
set_option maxRecDepth 20000 in
theorem dX10_figure_65 : decode cX10_figure 65 = .ok (.goto 5, 3) := by decide +kernel
set_option maxRecDepth 20000 in
theorem dX10_figure_68 : decode cX10_figure 68 = .ok (.bipush (-9), 2) := by decide +kernel
set_option maxRecDepth 20000 in
theorem dX10_figure_70 : decode cX10_figure 70 = .ok (.ireturn, 1) := by decide +kernel
set_option maxRecDepth 20000 in
theorem dX10_readsThing_0 : decode cX10_readsThing 0 = .ok (.aload_n 0, 1) := by decide +kernel
set_option maxRecDepth 20000 in
theorem dX10_readsThing_1 : decode cX10_readsThing 1 = .ok (.getfield 96, 3) := by decide +kernel
set_option maxRecDepth 20000 in
theorem dX10_readsThing_4 : decode cX10_readsThing 4 = .ok (.bipush 8, 2) := by decide +kernel
set_option maxRecDepth 20000 in
theorem dX10_readsThing_6 : decode cX10_readsThing 6 = .ok (.if_icmp .eq 14, 3) := by decide +kernel
set_option maxRecDepth 20000 in
theorem dX10_readsThing_9 : decode cX10_readsThing 9 = .ok (.aload_n 0, 1) := by decide +kernel
set_option maxRecDepth 20000 in
theorem dX10_readsThing_10 : decode cX10_readsThing 10 = .ok (.iload_n 1, 1) := by decide +kernel
set_option maxRecDepth 20000 in
theorem dX10_readsThing_11 : decode cX10_readsThing 11 = .ok (.iload_n 2, 1) := by decide +kernel
set_option maxRecDepth 20000 in
theorem dX10_readsThing_12 : decode cX10_readsThing 12 = .ok (.invokevirtual 92, 3) := by decide +kernel
set_option maxRecDepth 20000 in
theorem dX10_readsThing_15 : decode cX10_readsThing 15 = .ok (.bipush 59, 2) := by decide +kernel
set_option maxRecDepth 20000 in
theorem dX10_readsThing_17 : decode cX10_readsThing 17 = .ok (.if_icmp .eq 5, 3) := by decide +kernel
set_option maxRecDepth 20000 in
theorem dX10_readsThing_20 : decode cX10_readsThing 20 = .ok (.iconst 0, 1) := by decide +kernel
set_option maxRecDepth 20000 in
theorem dX10_readsThing_21 : decode cX10_readsThing 21 = .ok (.ireturn, 1) := by decide +kernel
set_option maxRecDepth 20000 in
theorem dX10_readsThing_22 : decode cX10_readsThing 22 = .ok (.aload_n 0, 1) := by decide +kernel
set_option maxRecDepth 20000 in
theorem dX10_readsThing_23 : decode cX10_readsThing 23 = .ok (.dup, 1) := by decide +kernel
set_option maxRecDepth 20000 in
theorem dX10_readsThing_24 : decode cX10_readsThing 24 = .ok (.getfield 89, 3) := by decide +kernel
set_option maxRecDepth 20000 in
theorem dX10_readsThing_27 : decode cX10_readsThing 27 = .ok (.iconst 1, 1) := by decide +kernel
set_option maxRecDepth 20000 in
theorem dX10_readsThing_28 : decode cX10_readsThing 28 = .ok (.iadd, 1) := by decide +kernel
set_option maxRecDepth 20000 in
theorem dX10_readsThing_29 : decode cX10_readsThing 29 = .ok (.putfield 89, 3) := by decide +kernel
set_option maxRecDepth 20000 in
theorem dX10_readsThing_32 : decode cX10_readsThing 32 = .ok (.aload_n 0, 1) := by decide +kernel
set_option maxRecDepth 20000 in
theorem dX10_readsThing_33 : decode cX10_readsThing 33 = .ok (.iload_n 1, 1) := by decide +kernel
set_option maxRecDepth 20000 in
theorem dX10_readsThing_34 : decode cX10_readsThing 34 = .ok (.iload_n 2, 1) := by decide +kernel
set_option maxRecDepth 20000 in
theorem dX10_readsThing_35 : decode cX10_readsThing 35 = .ok (.invokevirtual 92, 3) := by decide +kernel
set_option maxRecDepth 20000 in
theorem dX10_readsThing_38 : decode cX10_readsThing 38 = .ok (.istore_n 3, 1) := by decide +kernel
set_option maxRecDepth 20000 in
theorem dX10_readsThing_39 : decode cX10_readsThing 39 = .ok (.iload_n 3, 1) := by decide +kernel
set_option maxRecDepth 20000 in
theorem dX10_readsThing_40 : decode cX10_readsThing 40 = .ok (.bipush 116, 2) := by decide +kernel
set_option maxRecDepth 20000 in
theorem dX10_readsThing_42 : decode cX10_readsThing 42 = .ok (.if_icmp .eq 17, 3) := by decide +kernel
set_option maxRecDepth 20000 in
theorem dX10_readsThing_45 : decode cX10_readsThing 45 = .ok (.iload_n 3, 1) := by decide +kernel
set_option maxRecDepth 20000 in
theorem dX10_readsThing_46 : decode cX10_readsThing 46 = .ok (.bipush 115, 2) := by decide +kernel
set_option maxRecDepth 20000 in
theorem dX10_readsThing_48 : decode cX10_readsThing 48 = .ok (.if_icmp .eq 11, 3) := by decide +kernel
set_option maxRecDepth 20000 in
theorem dX10_readsThing_51 : decode cX10_readsThing 51 = .ok (.iload_n 3, 1) := by decide +kernel
set_option maxRecDepth 20000 in
theorem dX10_readsThing_52 : decode cX10_readsThing 52 = .ok (.bipush 109, 2) := by decide +kernel
set_option maxRecDepth 20000 in
theorem dX10_readsThing_54 : decode cX10_readsThing 54 = .ok (.if_icmp .eq 5, 3) := by decide +kernel
set_option maxRecDepth 20000 in
theorem dX10_readsThing_57 : decode cX10_readsThing 57 = .ok (.iconst 0, 1) := by decide +kernel
set_option maxRecDepth 20000 in
theorem dX10_readsThing_58 : decode cX10_readsThing 58 = .ok (.ireturn, 1) := by decide +kernel
set_option maxRecDepth 20000 in
theorem dX10_readsThing_59 : decode cX10_readsThing 59 = .ok (.aload_n 0, 1) := by decide +kernel
set_option maxRecDepth 20000 in
theorem dX10_readsThing_60 : decode cX10_readsThing 60 = .ok (.dup, 1) := by decide +kernel
set_option maxRecDepth 20000 in
theorem dX10_readsThing_61 : decode cX10_readsThing 61 = .ok (.getfield 89, 3) := by decide +kernel
set_option maxRecDepth 20000 in
theorem dX10_readsThing_64 : decode cX10_readsThing 64 = .ok (.iconst 1, 1) := by decide +kernel
set_option maxRecDepth 20000 in
theorem dX10_readsThing_65 : decode cX10_readsThing 65 = .ok (.iadd, 1) := by decide +kernel
set_option maxRecDepth 20000 in
theorem dX10_readsThing_66 : decode cX10_readsThing 66 = .ok (.putfield 89, 3) := by decide +kernel
set_option maxRecDepth 20000 in
theorem dX10_readsThing_69 : decode cX10_readsThing 69 = .ok (.aload_n 0, 1) := by decide +kernel
set_option maxRecDepth 20000 in
theorem dX10_readsThing_70 : decode cX10_readsThing 70 = .ok (.iload_n 1, 1) := by decide +kernel
set_option maxRecDepth 20000 in
theorem dX10_readsThing_71 : decode cX10_readsThing 71 = .ok (.iload_n 2, 1) := by decide +kernel
set_option maxRecDepth 20000 in
theorem dX10_readsThing_72 : decode cX10_readsThing 72 = .ok (.iconst 0, 1) := by decide +kernel
set_option maxRecDepth 20000 in
theorem dX10_readsThing_73 : decode cX10_readsThing 73 = .ok (.bipush 7, 2) := by decide +kernel
set_option maxRecDepth 20000 in
theorem dX10_readsThing_75 : decode cX10_readsThing 75 = .ok (.aload_n 0, 1) := by decide +kernel
set_option maxRecDepth 20000 in
theorem dX10_readsThing_76 : decode cX10_readsThing 76 = .ok (.getfield 96, 3) := by decide +kernel
set_option maxRecDepth 20000 in
theorem dX10_readsThing_79 : decode cX10_readsThing 79 = .ok (.invokevirtual 99, 3) := by decide +kernel
set_option maxRecDepth 20000 in
theorem dX10_readsThing_82 : decode cX10_readsThing 82 = .ok (.istore 4, 2) := by decide +kernel
set_option maxRecDepth 20000 in
theorem dX10_readsThing_84 : decode cX10_readsThing 84 = .ok (.iload 4, 2) := by decide +kernel
set_option maxRecDepth 20000 in
theorem dX10_readsThing_86 : decode cX10_readsThing 86 = .ok (.ifCond .ge 8, 3) := by decide +kernel
set_option maxRecDepth 20000 in
theorem dX10_readsThing_89 : decode cX10_readsThing 89 = .ok (.bipush (-9), 2) := by decide +kernel
set_option maxRecDepth 20000 in
theorem dX10_readsThing_91 : decode cX10_readsThing 91 = .ok (.goto 14, 3) := by decide +kernel
set_option maxRecDepth 20000 in
theorem dX10_readsThing_94 : decode cX10_readsThing 94 = .ok (.aload_n 0, 1) := by decide +kernel
set_option maxRecDepth 20000 in
theorem dX10_readsThing_95 : decode cX10_readsThing 95 = .ok (.iload_n 1, 1) := by decide +kernel
set_option maxRecDepth 20000 in
theorem dX10_readsThing_96 : decode cX10_readsThing 96 = .ok (.iload_n 2, 1) := by decide +kernel
set_option maxRecDepth 20000 in
theorem dX10_readsThing_97 : decode cX10_readsThing 97 = .ok (.iconst 1, 1) := by decide +kernel
set_option maxRecDepth 20000 in
theorem dX10_readsThing_98 : decode cX10_readsThing 98 = .ok (.bipush 9, 2) := by decide +kernel
set_option maxRecDepth 20000 in
theorem dX10_readsThing_100 : decode cX10_readsThing 100 = .ok (.bipush (-9), 2) := by decide +kernel
set_option maxRecDepth 20000 in
theorem dX10_readsThing_102 : decode cX10_readsThing 102 = .ok (.invokevirtual 99, 3) := by decide +kernel
set_option maxRecDepth 20000 in
theorem dX10_readsThing_105 : decode cX10_readsThing 105 = .ok (.istore 5, 2) := by decide +kernel
set_option maxRecDepth 20000 in
theorem dX10_readsThing_107 : decode cX10_readsThing 107 = .ok (.iload 5, 2) := by decide +kernel
set_option maxRecDepth 20000 in
theorem dX10_readsThing_109 : decode cX10_readsThing 109 = .ok (.ifCond .ge 8, 3) := by decide +kernel
set_option maxRecDepth 20000 in
theorem dX10_readsThing_112 : decode cX10_readsThing 112 = .ok (.bipush (-9), 2) := by decide +kernel
set_option maxRecDepth 20000 in
theorem dX10_readsThing_114 : decode cX10_readsThing 114 = .ok (.goto 14, 3) := by decide +kernel
set_option maxRecDepth 20000 in
theorem dX10_readsThing_117 : decode cX10_readsThing 117 = .ok (.aload_n 0, 1) := by decide +kernel
set_option maxRecDepth 20000 in
theorem dX10_readsThing_118 : decode cX10_readsThing 118 = .ok (.iload_n 1, 1) := by decide +kernel
set_option maxRecDepth 20000 in
theorem dX10_readsThing_119 : decode cX10_readsThing 119 = .ok (.iload_n 2, 1) := by decide +kernel
set_option maxRecDepth 20000 in
theorem dX10_readsThing_120 : decode cX10_readsThing 120 = .ok (.iconst 1, 1) := by decide +kernel
set_option maxRecDepth 20000 in
theorem dX10_readsThing_121 : decode cX10_readsThing 121 = .ok (.bipush 9, 2) := by decide +kernel
set_option maxRecDepth 20000 in
theorem dX10_readsThing_123 : decode cX10_readsThing 123 = .ok (.bipush (-9), 2) := by decide +kernel
set_option maxRecDepth 20000 in
theorem dX10_readsThing_125 : decode cX10_readsThing 125 = .ok (.invokevirtual 99, 3) := by decide +kernel
set_option maxRecDepth 20000 in
theorem dX10_readsThing_128 : decode cX10_readsThing 128 = .ok (.istore 6, 2) := by decide +kernel
set_option maxRecDepth 20000 in
theorem dX10_readsThing_130 : decode cX10_readsThing 130 = .ok (.iload 6, 2) := by decide +kernel
set_option maxRecDepth 20000 in
theorem dX10_readsThing_132 : decode cX10_readsThing 132 = .ok (.ifCond .ge 5, 3) := by decide +kernel
set_option maxRecDepth 20000 in
theorem dX10_readsThing_135 : decode cX10_readsThing 135 = .ok (.iconst 0, 1) := by decide +kernel
set_option maxRecDepth 20000 in
theorem dX10_readsThing_136 : decode cX10_readsThing 136 = .ok (.ireturn, 1) := by decide +kernel
set_option maxRecDepth 20000 in
theorem dX10_readsThing_137 : decode cX10_readsThing 137 = .ok (.aload_n 0, 1) := by decide +kernel
set_option maxRecDepth 20000 in
theorem dX10_readsThing_138 : decode cX10_readsThing 138 = .ok (.getfield 22, 3) := by decide +kernel
set_option maxRecDepth 20000 in
theorem dX10_readsThing_141 : decode cX10_readsThing 141 = .ok (.aload_n 0, 1) := by decide +kernel
set_option maxRecDepth 20000 in
theorem dX10_readsThing_142 : decode cX10_readsThing 142 = .ok (.getfield 96, 3) := by decide +kernel
set_option maxRecDepth 20000 in
theorem dX10_readsThing_145 : decode cX10_readsThing 145 = .ok (.iload_n 3, 1) := by decide +kernel
set_option maxRecDepth 20000 in
theorem dX10_readsThing_146 : decode cX10_readsThing 146 = .ok (.bipush 116, 2) := by decide +kernel
set_option maxRecDepth 20000 in
theorem dX10_readsThing_148 : decode cX10_readsThing 148 = .ok (.if_icmp .ne 7, 3) := by decide +kernel
set_option maxRecDepth 20000 in
theorem dX10_readsThing_151 : decode cX10_readsThing 151 = .ok (.iconst 0, 1) := by decide +kernel
set_option maxRecDepth 20000 in
theorem dX10_readsThing_152 : decode cX10_readsThing 152 = .ok (.goto 14, 3) := by decide +kernel
set_option maxRecDepth 20000 in
theorem dX10_readsThing_155 : decode cX10_readsThing 155 = .ok (.iload_n 3, 1) := by decide +kernel
set_option maxRecDepth 20000 in
theorem dX10_readsThing_156 : decode cX10_readsThing 156 = .ok (.bipush 115, 2) := by decide +kernel
set_option maxRecDepth 20000 in
theorem dX10_readsThing_158 : decode cX10_readsThing 158 = .ok (.if_icmp .ne 7, 3) := by decide +kernel
set_option maxRecDepth 20000 in
theorem dX10_readsThing_161 : decode cX10_readsThing 161 = .ok (.iconst 1, 1) := by decide +kernel
set_option maxRecDepth 20000 in
theorem dX10_readsThing_162 : decode cX10_readsThing 162 = .ok (.goto 4, 3) := by decide +kernel
set_option maxRecDepth 20000 in
theorem dX10_readsThing_165 : decode cX10_readsThing 165 = .ok (.iconst 2, 1) := by decide +kernel
set_option maxRecDepth 20000 in
theorem dX10_readsThing_166 : decode cX10_readsThing 166 = .ok (.iastore, 1) := by decide +kernel
set_option maxRecDepth 20000 in
theorem dX10_readsThing_167 : decode cX10_readsThing 167 = .ok (.aload_n 0, 1) := by decide +kernel
set_option maxRecDepth 20000 in
theorem dX10_readsThing_168 : decode cX10_readsThing 168 = .ok (.getfield 25, 3) := by decide +kernel
set_option maxRecDepth 20000 in
theorem dX10_readsThing_171 : decode cX10_readsThing 171 = .ok (.aload_n 0, 1) := by decide +kernel
set_option maxRecDepth 20000 in
theorem dX10_readsThing_172 : decode cX10_readsThing 172 = .ok (.getfield 96, 3) := by decide +kernel
set_option maxRecDepth 20000 in
theorem dX10_readsThing_175 : decode cX10_readsThing 175 = .ok (.iload 4, 2) := by decide +kernel
set_option maxRecDepth 20000 in
theorem dX10_readsThing_177 : decode cX10_readsThing 177 = .ok (.iastore, 1) := by decide +kernel
set_option maxRecDepth 20000 in
theorem dX10_readsThing_178 : decode cX10_readsThing 178 = .ok (.aload_n 0, 1) := by decide +kernel
set_option maxRecDepth 20000 in
theorem dX10_readsThing_179 : decode cX10_readsThing 179 = .ok (.getfield 28, 3) := by decide +kernel
set_option maxRecDepth 20000 in
theorem dX10_readsThing_182 : decode cX10_readsThing 182 = .ok (.aload_n 0, 1) := by decide +kernel
set_option maxRecDepth 20000 in
theorem dX10_readsThing_183 : decode cX10_readsThing 183 = .ok (.getfield 96, 3) := by decide +kernel
set_option maxRecDepth 20000 in
theorem dX10_readsThing_186 : decode cX10_readsThing 186 = .ok (.iload 5, 2) := by decide +kernel
set_option maxRecDepth 20000 in
theorem dX10_readsThing_188 : decode cX10_readsThing 188 = .ok (.iastore, 1) := by decide +kernel
set_option maxRecDepth 20000 in
theorem dX10_readsThing_189 : decode cX10_readsThing 189 = .ok (.aload_n 0, 1) := by decide +kernel
set_option maxRecDepth 20000 in
theorem dX10_readsThing_190 : decode cX10_readsThing 190 = .ok (.getfield 31, 3) := by decide +kernel
set_option maxRecDepth 20000 in
theorem dX10_readsThing_193 : decode cX10_readsThing 193 = .ok (.aload_n 0, 1) := by decide +kernel
set_option maxRecDepth 20000 in
theorem dX10_readsThing_194 : decode cX10_readsThing 194 = .ok (.getfield 96, 3) := by decide +kernel
set_option maxRecDepth 20000 in
theorem dX10_readsThing_197 : decode cX10_readsThing 197 = .ok (.iload 6, 2) := by decide +kernel
set_option maxRecDepth 20000 in
theorem dX10_readsThing_199 : decode cX10_readsThing 199 = .ok (.iastore, 1) := by decide +kernel
set_option maxRecDepth 20000 in
theorem dX10_readsThing_200 : decode cX10_readsThing 200 = .ok (.aload_n 0, 1) := by decide +kernel
set_option maxRecDepth 20000 in
theorem dX10_readsThing_201 : decode cX10_readsThing 201 = .ok (.dup, 1) := by decide +kernel
set_option maxRecDepth 20000 in
theorem dX10_readsThing_202 : decode cX10_readsThing 202 = .ok (.getfield 96, 3) := by decide +kernel
set_option maxRecDepth 20000 in
theorem dX10_readsThing_205 : decode cX10_readsThing 205 = .ok (.iconst 1, 1) := by decide +kernel
set_option maxRecDepth 20000 in
theorem dX10_readsThing_206 : decode cX10_readsThing 206 = .ok (.iadd, 1) := by decide +kernel
set_option maxRecDepth 20000 in
theorem dX10_readsThing_207 : decode cX10_readsThing 207 = .ok (.putfield 96, 3) := by decide +kernel
set_option maxRecDepth 20000 in
theorem dX10_readsThing_210 : decode cX10_readsThing 210 = .ok (.iconst 1, 1) := by decide +kernel
set_option maxRecDepth 20000 in
theorem dX10_readsThing_211 : decode cX10_readsThing 211 = .ok (.ireturn, 1) := by decide +kernel
set_option maxRecDepth 20000 in
theorem dX10_readsTown_0 : decode cX10_readsTown 0 = .ok (.aload_n 0, 1) := by decide +kernel
set_option maxRecDepth 20000 in
theorem dX10_readsTown_1 : decode cX10_readsTown 1 = .ok (.iconst 0, 1) := by decide +kernel
set_option maxRecDepth 20000 in
theorem dX10_readsTown_2 : decode cX10_readsTown 2 = .ok (.putfield 89, 3) := by decide +kernel
set_option maxRecDepth 20000 in
theorem dX10_readsTown_5 : decode cX10_readsTown 5 = .ok (.aload_n 0, 1) := by decide +kernel
set_option maxRecDepth 20000 in
theorem dX10_readsTown_6 : decode cX10_readsTown 6 = .ok (.iconst 0, 1) := by decide +kernel
set_option maxRecDepth 20000 in
theorem dX10_readsTown_7 : decode cX10_readsTown 7 = .ok (.putfield 96, 3) := by decide +kernel
set_option maxRecDepth 20000 in
theorem dX10_readsTown_10 : decode cX10_readsTown 10 = .ok (.aload_n 0, 1) := by decide +kernel
set_option maxRecDepth 20000 in
theorem dX10_readsTown_11 : decode cX10_readsTown 11 = .ok (.iload_n 1, 1) := by decide +kernel
set_option maxRecDepth 20000 in
theorem dX10_readsTown_12 : decode cX10_readsTown 12 = .ok (.iload_n 2, 1) := by decide +kernel
set_option maxRecDepth 20000 in
theorem dX10_readsTown_13 : decode cX10_readsTown 13 = .ok (.invokevirtual 92, 3) := by decide +kernel
set_option maxRecDepth 20000 in
theorem dX10_readsTown_16 : decode cX10_readsTown 16 = .ok (.bipush 101, 2) := by decide +kernel
set_option maxRecDepth 20000 in
theorem dX10_readsTown_18 : decode cX10_readsTown 18 = .ok (.if_icmp .ne 7, 3) := by decide +kernel
set_option maxRecDepth 20000 in
theorem dX10_readsTown_21 : decode cX10_readsTown 21 = .ok (.iconst 1, 1) := by decide +kernel
set_option maxRecDepth 20000 in
theorem dX10_readsTown_22 : decode cX10_readsTown 22 = .ok (.goto 4, 3) := by decide +kernel
set_option maxRecDepth 20000 in
theorem dX10_readsTown_25 : decode cX10_readsTown 25 = .ok (.iconst 0, 1) := by decide +kernel
set_option maxRecDepth 20000 in
theorem dX10_readsTown_26 : decode cX10_readsTown 26 = .ok (.istore_n 3, 1) := by decide +kernel
set_option maxRecDepth 20000 in
theorem dX10_readsTown_27 : decode cX10_readsTown 27 = .ok (.aload_n 0, 1) := by decide +kernel
set_option maxRecDepth 20000 in
theorem dX10_readsTown_28 : decode cX10_readsTown 28 = .ok (.dup, 1) := by decide +kernel
set_option maxRecDepth 20000 in
theorem dX10_readsTown_29 : decode cX10_readsTown 29 = .ok (.getfield 89, 3) := by decide +kernel
set_option maxRecDepth 20000 in
theorem dX10_readsTown_32 : decode cX10_readsTown 32 = .ok (.iload_n 3, 1) := by decide +kernel
set_option maxRecDepth 20000 in
theorem dX10_readsTown_33 : decode cX10_readsTown 33 = .ok (.ifCond .eq 7, 3) := by decide +kernel
set_option maxRecDepth 20000 in
theorem dX10_readsTown_36 : decode cX10_readsTown 36 = .ok (.iconst 1, 1) := by decide +kernel
set_option maxRecDepth 20000 in
theorem dX10_readsTown_37 : decode cX10_readsTown 37 = .ok (.goto 4, 3) := by decide +kernel
set_option maxRecDepth 20000 in
theorem dX10_readsTown_40 : decode cX10_readsTown 40 = .ok (.iconst 0, 1) := by decide +kernel
set_option maxRecDepth 20000 in
theorem dX10_readsTown_41 : decode cX10_readsTown 41 = .ok (.iadd, 1) := by decide +kernel
set_option maxRecDepth 20000 in
theorem dX10_readsTown_42 : decode cX10_readsTown 42 = .ok (.putfield 89, 3) := by decide +kernel
set_option maxRecDepth 20000 in
theorem dX10_readsTown_45 : decode cX10_readsTown 45 = .ok (.iload_n 3, 1) := by decide +kernel
set_option maxRecDepth 20000 in
theorem dX10_readsTown_46 : decode cX10_readsTown 46 = .ok (.ifCond .eq 29, 3) := by decide +kernel
set_option maxRecDepth 20000 in
theorem dX10_readsTown_49 : decode cX10_readsTown 49 = .ok (.aload_n 0, 1) := by decide +kernel
set_option maxRecDepth 20000 in
theorem dX10_readsTown_50 : decode cX10_readsTown 50 = .ok (.getfield 96, 3) := by decide +kernel
set_option maxRecDepth 20000 in
theorem dX10_readsTown_53 : decode cX10_readsTown 53 = .ok (.iconst 2, 1) := by decide +kernel
set_option maxRecDepth 20000 in
theorem dX10_readsTown_54 : decode cX10_readsTown 54 = .ok (.if_icmp .lt 11, 3) := by decide +kernel
set_option maxRecDepth 20000 in
theorem dX10_readsTown_57 : decode cX10_readsTown 57 = .ok (.aload_n 0, 1) := by decide +kernel
set_option maxRecDepth 20000 in
theorem dX10_readsTown_58 : decode cX10_readsTown 58 = .ok (.getfield 89, 3) := by decide +kernel
set_option maxRecDepth 20000 in
theorem dX10_readsTown_61 : decode cX10_readsTown 61 = .ok (.iload_n 2, 1) := by decide +kernel
set_option maxRecDepth 20000 in
theorem dX10_readsTown_62 : decode cX10_readsTown 62 = .ok (.if_icmp .ge 13, 3) := by decide +kernel
set_option maxRecDepth 20000 in
theorem dX10_readsTown_65 : decode cX10_readsTown 65 = .ok (.aload_n 0, 1) := by decide +kernel
set_option maxRecDepth 20000 in
theorem dX10_readsTown_66 : decode cX10_readsTown 66 = .ok (.iload_n 1, 1) := by decide +kernel
set_option maxRecDepth 20000 in
theorem dX10_readsTown_67 : decode cX10_readsTown 67 = .ok (.iload_n 2, 1) := by decide +kernel
set_option maxRecDepth 20000 in
theorem dX10_readsTown_68 : decode cX10_readsTown 68 = .ok (.invokevirtual 103, 3) := by decide +kernel
set_option maxRecDepth 20000 in
theorem dX10_readsTown_71 : decode cX10_readsTown 71 = .ok (.istore_n 3, 1) := by decide +kernel
set_option maxRecDepth 20000 in
theorem dX10_readsTown_72 : decode cX10_readsTown 72 = .ok (.goto (-27), 3) := by decide +kernel
set_option maxRecDepth 20000 in
theorem dX10_readsTown_75 : decode cX10_readsTown 75 = .ok (.iconst 0, 1) := by decide +kernel
set_option maxRecDepth 20000 in
theorem dX10_readsTown_76 : decode cX10_readsTown 76 = .ok (.istore 4, 2) := by decide +kernel
set_option maxRecDepth 20000 in
theorem dX10_readsTown_78 : decode cX10_readsTown 78 = .ok (.iload 4, 2) := by decide +kernel
set_option maxRecDepth 20000 in
theorem dX10_readsTown_80 : decode cX10_readsTown 80 = .ok (.aload_n 0, 1) := by decide +kernel
set_option maxRecDepth 20000 in
theorem dX10_readsTown_81 : decode cX10_readsTown 81 = .ok (.getfield 96, 3) := by decide +kernel
set_option maxRecDepth 20000 in
theorem dX10_readsTown_84 : decode cX10_readsTown 84 = .ok (.if_icmp .ge 54, 3) := by decide +kernel
set_option maxRecDepth 20000 in
theorem dX10_readsTown_87 : decode cX10_readsTown 87 = .ok (.iload_n 3, 1) := by decide +kernel
set_option maxRecDepth 20000 in
theorem dX10_readsTown_88 : decode cX10_readsTown 88 = .ok (.ifCond .eq 50, 3) := by decide +kernel
set_option maxRecDepth 20000 in
theorem dX10_readsTown_91 : decode cX10_readsTown 91 = .ok (.aload_n 0, 1) := by decide +kernel
set_option maxRecDepth 20000 in
theorem dX10_readsTown_92 : decode cX10_readsTown 92 = .ok (.getfield 25, 3) := by decide +kernel
set_option maxRecDepth 20000 in
theorem dX10_readsTown_95 : decode cX10_readsTown 95 = .ok (.iload 4, 2) := by decide +kernel
set_option maxRecDepth 20000 in
theorem dX10_readsTown_97 : decode cX10_readsTown 97 = .ok (.iaload, 1) := by decide +kernel
set_option maxRecDepth 20000 in
theorem dX10_readsTown_98 : decode cX10_readsTown 98 = .ok (.aload_n 0, 1) := by decide +kernel
set_option maxRecDepth 20000 in
theorem dX10_readsTown_99 : decode cX10_readsTown 99 = .ok (.getfield 96, 3) := by decide +kernel
set_option maxRecDepth 20000 in
theorem dX10_readsTown_102 : decode cX10_readsTown 102 = .ok (.if_icmp .ge 7, 3) := by decide +kernel
set_option maxRecDepth 20000 in
theorem dX10_readsTown_105 : decode cX10_readsTown 105 = .ok (.iconst 1, 1) := by decide +kernel
set_option maxRecDepth 20000 in
theorem dX10_readsTown_106 : decode cX10_readsTown 106 = .ok (.goto 4, 3) := by decide +kernel
set_option maxRecDepth 20000 in
theorem dX10_readsTown_109 : decode cX10_readsTown 109 = .ok (.iconst 0, 1) := by decide +kernel
set_option maxRecDepth 20000 in
theorem dX10_readsTown_110 : decode cX10_readsTown 110 = .ok (.istore_n 3, 1) := by decide +kernel
set_option maxRecDepth 20000 in
theorem dX10_readsTown_111 : decode cX10_readsTown 111 = .ok (.aload_n 0, 1) := by decide +kernel
set_option maxRecDepth 20000 in
theorem dX10_readsTown_112 : decode cX10_readsTown 112 = .ok (.iload_n 3, 1) := by decide +kernel
set_option maxRecDepth 20000 in
theorem dX10_readsTown_113 : decode cX10_readsTown 113 = .ok (.ifCond .eq 10, 3) := by decide +kernel
set_option maxRecDepth 20000 in
theorem dX10_readsTown_116 : decode cX10_readsTown 116 = .ok (.aload_n 0, 1) := by decide +kernel
set_option maxRecDepth 20000 in
theorem dX10_readsTown_117 : decode cX10_readsTown 117 = .ok (.getfield 89, 3) := by decide +kernel
set_option maxRecDepth 20000 in
theorem dX10_readsTown_120 : decode cX10_readsTown 120 = .ok (.goto 9, 3) := by decide +kernel
set_option maxRecDepth 20000 in
theorem dX10_readsTown_123 : decode cX10_readsTown 123 = .ok (.iconst 3, 1) := by decide +kernel
set_option maxRecDepth 20000 in
theorem dX10_readsTown_124 : decode cX10_readsTown 124 = .ok (.iconst 5, 1) := by decide +kernel
set_option maxRecDepth 20000 in
theorem dX10_readsTown_125 : decode cX10_readsTown 125 = .ok (.iload 4, 2) := by decide +kernel
set_option maxRecDepth 20000 in
theorem dX10_readsTown_127 : decode cX10_readsTown 127 = .ok (.imul, 1) := by decide +kernel
set_option maxRecDepth 20000 in
theorem dX10_readsTown_128 : decode cX10_readsTown 128 = .ok (.iadd, 1) := by decide +kernel
set_option maxRecDepth 20000 in
theorem dX10_readsTown_129 : decode cX10_readsTown 129 = .ok (.putfield 89, 3) := by decide +kernel
set_option maxRecDepth 20000 in
theorem dX10_readsTown_132 : decode cX10_readsTown 132 = .ok (.iinc 4 1, 3) := by decide +kernel
set_option maxRecDepth 20000 in
theorem dX10_readsTown_135 : decode cX10_readsTown 135 = .ok (.goto (-57), 3) := by decide +kernel
set_option maxRecDepth 20000 in
theorem dX10_readsTown_138 : decode cX10_readsTown 138 = .ok (.iload_n 3, 1) := by decide +kernel
set_option maxRecDepth 20000 in
theorem dX10_readsTown_139 : decode cX10_readsTown 139 = .ok (.ireturn, 1) := by decide +kernel
set_option maxRecDepth 20000 in
theorem dX10_cellsBarred_0 : decode cX10_cellsBarred 0 = .ok (.aload_n 0, 1) := by decide +kernel
set_option maxRecDepth 20000 in
theorem dX10_cellsBarred_1 : decode cX10_cellsBarred 1 = .ok (.getfield 58, 3) := by decide +kernel
set_option maxRecDepth 20000 in
theorem dX10_cellsBarred_4 : decode cX10_cellsBarred 4 = .ok (.iload_n 1, 1) := by decide +kernel
set_option maxRecDepth 20000 in
theorem dX10_cellsBarred_5 : decode cX10_cellsBarred 5 = .ok (.iaload, 1) := by decide +kernel
set_option maxRecDepth 20000 in
theorem dX10_cellsBarred_6 : decode cX10_cellsBarred 6 = .ok (.ifCond .lt 19, 3) := by decide +kernel
set_option maxRecDepth 20000 in
theorem dX10_cellsBarred_9 : decode cX10_cellsBarred 9 = .ok (.aload_n 0, 1) := by decide +kernel
set_option maxRecDepth 20000 in
theorem dX10_cellsBarred_10 : decode cX10_cellsBarred 10 = .ok (.getfield 61, 3) := by decide +kernel
set_option maxRecDepth 20000 in
theorem dX10_cellsBarred_13 : decode cX10_cellsBarred 13 = .ok (.iload_n 1, 1) := by decide +kernel
set_option maxRecDepth 20000 in
theorem dX10_cellsBarred_14 : decode cX10_cellsBarred 14 = .ok (.iaload, 1) := by decide +kernel
set_option maxRecDepth 20000 in
theorem dX10_cellsBarred_15 : decode cX10_cellsBarred 15 = .ok (.iload_n 2, 1) := by decide +kernel
set_option maxRecDepth 20000 in
theorem dX10_cellsBarred_16 : decode cX10_cellsBarred 16 = .ok (.if_icmp .eq 9, 3) := by decide +kernel
set_option maxRecDepth 20000 in
theorem dX10_cellsBarred_19 : decode cX10_cellsBarred 19 = .ok (.aload_n 0, 1) := by decide +kernel
set_option maxRecDepth 20000 in
theorem dX10_cellsBarred_20 : decode cX10_cellsBarred 20 = .ok (.iconst 2, 1) := by decide +kernel
set_option maxRecDepth 20000 in
theorem dX10_cellsBarred_21 : decode cX10_cellsBarred 21 = .ok (.invokevirtual 107, 3) := by decide +kernel
set_option maxRecDepth 20000 in
theorem dX10_cellsBarred_24 : decode cX10_cellsBarred 24 = .ok (.ireturn, 1) := by decide +kernel
set_option maxRecDepth 20000 in
theorem dX10_cellsBarred_25 : decode cX10_cellsBarred 25 = .ok (.aload_n 0, 1) := by decide +kernel
set_option maxRecDepth 20000 in
theorem dX10_cellsBarred_26 : decode cX10_cellsBarred 26 = .ok (.getfield 58, 3) := by decide +kernel
set_option maxRecDepth 20000 in
theorem dX10_cellsBarred_29 : decode cX10_cellsBarred 29 = .ok (.iload_n 1, 1) := by decide +kernel
set_option maxRecDepth 20000 in
theorem dX10_cellsBarred_30 : decode cX10_cellsBarred 30 = .ok (.iaload, 1) := by decide +kernel
set_option maxRecDepth 20000 in
theorem dX10_cellsBarred_31 : decode cX10_cellsBarred 31 = .ok (.ifCond .ge 9, 3) := by decide +kernel
set_option maxRecDepth 20000 in
theorem dX10_cellsBarred_34 : decode cX10_cellsBarred 34 = .ok (.aload_n 0, 1) := by decide +kernel
set_option maxRecDepth 20000 in
theorem dX10_cellsBarred_35 : decode cX10_cellsBarred 35 = .ok (.iconst 1, 1) := by decide +kernel
set_option maxRecDepth 20000 in
theorem dX10_cellsBarred_36 : decode cX10_cellsBarred 36 = .ok (.invokevirtual 107, 3) := by decide +kernel
set_option maxRecDepth 20000 in
theorem dX10_cellsBarred_39 : decode cX10_cellsBarred 39 = .ok (.ireturn, 1) := by decide +kernel
set_option maxRecDepth 20000 in
theorem dX10_cellsBarred_40 : decode cX10_cellsBarred 40 = .ok (.lload 4, 2) := by decide +kernel
set_option maxRecDepth 20000 in
theorem dX10_cellsBarred_42 : decode cX10_cellsBarred 42 = .ok (.lconst 0, 1) := by decide +kernel
set_option maxRecDepth 20000 in
theorem dX10_cellsBarred_43 : decode cX10_cellsBarred 43 = .ok (.lcmp, 1) := by decide +kernel
set_option maxRecDepth 20000 in
theorem dX10_cellsBarred_44 : decode cX10_cellsBarred 44 = .ok (.ifCond .ge 9, 3) := by decide +kernel
set_option maxRecDepth 20000 in
theorem dX10_cellsBarred_47 : decode cX10_cellsBarred 47 = .ok (.aload_n 0, 1) := by decide +kernel
set_option maxRecDepth 20000 in
theorem dX10_cellsBarred_48 : decode cX10_cellsBarred 48 = .ok (.iconst 4, 1) := by decide +kernel
set_option maxRecDepth 20000 in
theorem dX10_cellsBarred_49 : decode cX10_cellsBarred 49 = .ok (.invokevirtual 107, 3) := by decide +kernel
set_option maxRecDepth 20000 in
theorem dX10_cellsBarred_52 : decode cX10_cellsBarred 52 = .ok (.ireturn, 1) := by decide +kernel
set_option maxRecDepth 20000 in
theorem dX10_cellsBarred_53 : decode cX10_cellsBarred 53 = .ok (.iload_n 3, 1) := by decide +kernel
set_option maxRecDepth 20000 in
theorem dX10_cellsBarred_54 : decode cX10_cellsBarred 54 = .ok (.lload 4, 2) := by decide +kernel
set_option maxRecDepth 20000 in
theorem dX10_cellsBarred_56 : decode cX10_cellsBarred 56 = .ok (.aload_n 0, 1) := by decide +kernel
set_option maxRecDepth 20000 in
theorem dX10_cellsBarred_57 : decode cX10_cellsBarred 57 = .ok (.getfield 58, 3) := by decide +kernel
set_option maxRecDepth 20000 in
theorem dX10_cellsBarred_60 : decode cX10_cellsBarred 60 = .ok (.iload_n 1, 1) := by decide +kernel
set_option maxRecDepth 20000 in
theorem dX10_cellsBarred_61 : decode cX10_cellsBarred 61 = .ok (.iaload, 1) := by decide +kernel
set_option maxRecDepth 20000 in
theorem dX10_cellsBarred_62 : decode cX10_cellsBarred 62 = .ok (.invokestatic 111, 3) := by decide +kernel
set_option maxRecDepth 20000 in
theorem dX10_cellsBarred_65 : decode cX10_cellsBarred 65 = .ok (.ifCond .eq 11, 3) := by decide +kernel
set_option maxRecDepth 20000 in
theorem dX10_cellsBarred_68 : decode cX10_cellsBarred 68 = .ok (.aload_n 0, 1) := by decide +kernel
set_option maxRecDepth 20000 in
theorem dX10_cellsBarred_69 : decode cX10_cellsBarred 69 = .ok (.iconst 3, 1) := by decide +kernel
set_option maxRecDepth 20000 in
theorem dX10_cellsBarred_70 : decode cX10_cellsBarred 70 = .ok (.invokevirtual 107, 3) := by decide +kernel
set_option maxRecDepth 20000 in
theorem dX10_cellsBarred_73 : decode cX10_cellsBarred 73 = .ok (.goto 4, 3) := by decide +kernel
set_option maxRecDepth 20000 in
theorem dX10_cellsBarred_76 : decode cX10_cellsBarred 76 = .ok (.iconst 0, 1) := by decide +kernel
set_option maxRecDepth 20000 in
theorem dX10_cellsBarred_77 : decode cX10_cellsBarred 77 = .ok (.ireturn, 1) := by decide +kernel
set_option maxRecDepth 20000 in
theorem dX10_town_0 : decode cX10_town 0 = .ok (.iload_n 1, 1) := by decide +kernel
set_option maxRecDepth 20000 in
theorem dX10_town_1 : decode cX10_town 1 = .ok (.invokestatic 115, 3) := by decide +kernel
set_option maxRecDepth 20000 in
theorem dX10_town_4 : decode cX10_town 4 = .ok (.ifCond .eq 9, 3) := by decide +kernel
set_option maxRecDepth 20000 in
theorem dX10_town_7 : decode cX10_town 7 = .ok (.aload_n 0, 1) := by decide +kernel
set_option maxRecDepth 20000 in
theorem dX10_town_8 : decode cX10_town 8 = .ok (.iconst (-1), 1) := by decide +kernel
set_option maxRecDepth 20000 in
theorem dX10_town_9 : decode cX10_town 9 = .ok (.invokevirtual 119, 3) := by decide +kernel
set_option maxRecDepth 20000 in
theorem dX10_town_12 : decode cX10_town 12 = .ok (.ireturn, 1) := by decide +kernel
set_option maxRecDepth 20000 in
theorem dX10_town_13 : decode cX10_town 13 = .ok (.iload_n 2, 1) := by decide +kernel
set_option maxRecDepth 20000 in
theorem dX10_town_14 : decode cX10_town 14 = .ok (.i2l, 1) := by decide +kernel
set_option maxRecDepth 20000 in
theorem dX10_town_15 : decode cX10_town 15 = .ok (.lconst 0, 1) := by decide +kernel
set_option maxRecDepth 20000 in
theorem dX10_town_16 : decode cX10_town 16 = .ok (.ldc2_w 122, 3) := by decide +kernel
set_option maxRecDepth 20000 in
theorem dX10_town_19 : decode cX10_town 19 = .ok (.invokestatic 83, 3) := by decide +kernel
set_option maxRecDepth 20000 in
theorem dX10_town_22 : decode cX10_town 22 = .ok (.ifCond .ne 10, 3) := by decide +kernel
set_option maxRecDepth 20000 in
theorem dX10_town_25 : decode cX10_town 25 = .ok (.aload_n 0, 1) := by decide +kernel
set_option maxRecDepth 20000 in
theorem dX10_town_26 : decode cX10_town 26 = .ok (.bipush (-2), 2) := by decide +kernel
set_option maxRecDepth 20000 in
theorem dX10_town_28 : decode cX10_town 28 = .ok (.invokevirtual 119, 3) := by decide +kernel
set_option maxRecDepth 20000 in
theorem dX10_town_31 : decode cX10_town 31 = .ok (.ireturn, 1) := by decide +kernel
set_option maxRecDepth 20000 in
theorem dX10_town_32 : decode cX10_town 32 = .ok (.aload_n 0, 1) := by decide +kernel
set_option maxRecDepth 20000 in
theorem dX10_town_33 : decode cX10_town 33 = .ok (.iload_n 1, 1) := by decide +kernel
set_option maxRecDepth 20000 in
theorem dX10_town_34 : decode cX10_town 34 = .ok (.iload_n 2, 1) := by decide +kernel
set_option maxRecDepth 20000 in
theorem dX10_town_35 : decode cX10_town 35 = .ok (.iload_n 3, 1) := by decide +kernel
set_option maxRecDepth 20000 in
theorem dX10_town_36 : decode cX10_town 36 = .ok (.iload 4, 2) := by decide +kernel
set_option maxRecDepth 20000 in
theorem dX10_town_38 : decode cX10_town 38 = .ok (.i2l, 1) := by decide +kernel
set_option maxRecDepth 20000 in
theorem dX10_town_39 : decode cX10_town 39 = .ok (.invokevirtual 124, 3) := by decide +kernel
set_option maxRecDepth 20000 in
theorem dX10_town_42 : decode cX10_town 42 = .ok (.istore 5, 2) := by decide +kernel
set_option maxRecDepth 20000 in
theorem dX10_town_44 : decode cX10_town 44 = .ok (.iload 5, 2) := by decide +kernel
set_option maxRecDepth 20000 in
theorem dX10_town_46 : decode cX10_town 46 = .ok (.ifCond .ge 6, 3) := by decide +kernel
set_option maxRecDepth 20000 in
theorem dX10_town_49 : decode cX10_town 49 = .ok (.iload 5, 2) := by decide +kernel
set_option maxRecDepth 20000 in
theorem dX10_town_51 : decode cX10_town 51 = .ok (.ireturn, 1) := by decide +kernel
set_option maxRecDepth 20000 in
theorem dX10_town_52 : decode cX10_town 52 = .ok (.aload_n 0, 1) := by decide +kernel
set_option maxRecDepth 20000 in
theorem dX10_town_53 : decode cX10_town 53 = .ok (.bipush 60, 2) := by decide +kernel
set_option maxRecDepth 20000 in
theorem dX10_town_55 : decode cX10_town 55 = .ok (.iload_n 1, 1) := by decide +kernel
set_option maxRecDepth 20000 in
theorem dX10_town_56 : decode cX10_town 56 = .ok (.imul, 1) := by decide +kernel
set_option maxRecDepth 20000 in
theorem dX10_town_57 : decode cX10_town 57 = .ok (.iload_n 3, 1) := by decide +kernel
set_option maxRecDepth 20000 in
theorem dX10_town_58 : decode cX10_town 58 = .ok (.iadd, 1) := by decide +kernel
set_option maxRecDepth 20000 in
theorem dX10_town_59 : decode cX10_town 59 = .ok (.iload 4, 2) := by decide +kernel
set_option maxRecDepth 20000 in
theorem dX10_town_61 : decode cX10_town 61 = .ok (.invokevirtual 128, 3) := by decide +kernel
set_option maxRecDepth 20000 in
theorem dX10_town_64 : decode cX10_town 64 = .ok (.ifCond .ne 15, 3) := by decide +kernel
set_option maxRecDepth 20000 in
theorem dX10_town_67 : decode cX10_town 67 = .ok (.aload_n 0, 1) := by decide +kernel
set_option maxRecDepth 20000 in
theorem dX10_town_68 : decode cX10_town 68 = .ok (.bipush (-100), 2) := by decide +kernel
set_option maxRecDepth 20000 in
theorem dX10_town_70 : decode cX10_town 70 = .ok (.aload_n 0, 1) := by decide +kernel
set_option maxRecDepth 20000 in
theorem dX10_town_71 : decode cX10_town 71 = .ok (.getfield 89, 3) := by decide +kernel
set_option maxRecDepth 20000 in
theorem dX10_town_74 : decode cX10_town 74 = .ok (.isub, 1) := by decide +kernel
set_option maxRecDepth 20000 in
theorem dX10_town_75 : decode cX10_town 75 = .ok (.invokevirtual 119, 3) := by decide +kernel
set_option maxRecDepth 20000 in
theorem dX10_town_78 : decode cX10_town 78 = .ok (.ireturn, 1) := by decide +kernel
set_option maxRecDepth 20000 in
theorem dX10_town_79 : decode cX10_town 79 = .ok (.aload_n 0, 1) := by decide +kernel
set_option maxRecDepth 20000 in
theorem dX10_town_80 : decode cX10_town 80 = .ok (.aload_n 0, 1) := by decide +kernel
set_option maxRecDepth 20000 in
theorem dX10_town_81 : decode cX10_town 81 = .ok (.getfield 96, 3) := by decide +kernel
set_option maxRecDepth 20000 in
theorem dX10_town_84 : decode cX10_town 84 = .ok (.putfield 80, 3) := by decide +kernel
set_option maxRecDepth 20000 in
theorem dX10_town_87 : decode cX10_town 87 = .ok (.iconst 0, 1) := by decide +kernel
set_option maxRecDepth 20000 in
theorem dX10_town_88 : decode cX10_town 88 = .ok (.istore 6, 2) := by decide +kernel
set_option maxRecDepth 20000 in
theorem dX10_town_90 : decode cX10_town 90 = .ok (.iload 6, 2) := by decide +kernel
set_option maxRecDepth 20000 in
theorem dX10_town_92 : decode cX10_town 92 = .ok (.aload_n 0, 1) := by decide +kernel
set_option maxRecDepth 20000 in
theorem dX10_town_93 : decode cX10_town 93 = .ok (.getfield 80, 3) := by decide +kernel
set_option maxRecDepth 20000 in
theorem dX10_town_96 : decode cX10_town 96 = .ok (.if_icmp .ge 65, 3) := by decide +kernel
set_option maxRecDepth 20000 in
theorem dX10_town_99 : decode cX10_town 99 = .ok (.aload_n 0, 1) := by decide +kernel
set_option maxRecDepth 20000 in
theorem dX10_town_100 : decode cX10_town 100 = .ok (.getfield 7, 3) := by decide +kernel
set_option maxRecDepth 20000 in
theorem dX10_town_103 : decode cX10_town 103 = .ok (.iload 6, 2) := by decide +kernel
set_option maxRecDepth 20000 in
theorem dX10_town_105 : decode cX10_town 105 = .ok (.aload_n 0, 1) := by decide +kernel
set_option maxRecDepth 20000 in
theorem dX10_town_106 : decode cX10_town 106 = .ok (.getfield 22, 3) := by decide +kernel
set_option maxRecDepth 20000 in
theorem dX10_town_109 : decode cX10_town 109 = .ok (.iload 6, 2) := by decide +kernel
set_option maxRecDepth 20000 in
theorem dX10_town_111 : decode cX10_town 111 = .ok (.iaload, 1) := by decide +kernel
set_option maxRecDepth 20000 in
theorem dX10_town_112 : decode cX10_town 112 = .ok (.iastore, 1) := by decide +kernel
set_option maxRecDepth 20000 in
theorem dX10_town_113 : decode cX10_town 113 = .ok (.aload_n 0, 1) := by decide +kernel
set_option maxRecDepth 20000 in
theorem dX10_town_114 : decode cX10_town 114 = .ok (.getfield 13, 3) := by decide +kernel
set_option maxRecDepth 20000 in
theorem dX10_town_117 : decode cX10_town 117 = .ok (.iload 6, 2) := by decide +kernel
set_option maxRecDepth 20000 in
theorem dX10_town_119 : decode cX10_town 119 = .ok (.aload_n 0, 1) := by decide +kernel
set_option maxRecDepth 20000 in
theorem dX10_town_120 : decode cX10_town 120 = .ok (.getfield 25, 3) := by decide +kernel
set_option maxRecDepth 20000 in
theorem dX10_town_123 : decode cX10_town 123 = .ok (.iload 6, 2) := by decide +kernel
set_option maxRecDepth 20000 in
theorem dX10_town_125 : decode cX10_town 125 = .ok (.iaload, 1) := by decide +kernel
set_option maxRecDepth 20000 in
theorem dX10_town_126 : decode cX10_town 126 = .ok (.iastore, 1) := by decide +kernel
set_option maxRecDepth 20000 in
theorem dX10_town_127 : decode cX10_town 127 = .ok (.aload_n 0, 1) := by decide +kernel
set_option maxRecDepth 20000 in
theorem dX10_town_128 : decode cX10_town 128 = .ok (.getfield 16, 3) := by decide +kernel
set_option maxRecDepth 20000 in
theorem dX10_town_131 : decode cX10_town 131 = .ok (.iload 6, 2) := by decide +kernel
set_option maxRecDepth 20000 in
theorem dX10_town_133 : decode cX10_town 133 = .ok (.aload_n 0, 1) := by decide +kernel
set_option maxRecDepth 20000 in
theorem dX10_town_134 : decode cX10_town 134 = .ok (.getfield 28, 3) := by decide +kernel
set_option maxRecDepth 20000 in
theorem dX10_town_137 : decode cX10_town 137 = .ok (.iload 6, 2) := by decide +kernel
set_option maxRecDepth 20000 in
theorem dX10_town_139 : decode cX10_town 139 = .ok (.iaload, 1) := by decide +kernel
set_option maxRecDepth 20000 in
theorem dX10_town_140 : decode cX10_town 140 = .ok (.iastore, 1) := by decide +kernel
set_option maxRecDepth 20000 in
theorem dX10_town_141 : decode cX10_town 141 = .ok (.aload_n 0, 1) := by decide +kernel
set_option maxRecDepth 20000 in
theorem dX10_town_142 : decode cX10_town 142 = .ok (.getfield 19, 3) := by decide +kernel
set_option maxRecDepth 20000 in
theorem dX10_town_145 : decode cX10_town 145 = .ok (.iload 6, 2) := by decide +kernel
set_option maxRecDepth 20000 in
theorem dX10_town_147 : decode cX10_town 147 = .ok (.aload_n 0, 1) := by decide +kernel
set_option maxRecDepth 20000 in
theorem dX10_town_148 : decode cX10_town 148 = .ok (.getfield 31, 3) := by decide +kernel
set_option maxRecDepth 20000 in
theorem dX10_town_151 : decode cX10_town 151 = .ok (.iload 6, 2) := by decide +kernel
set_option maxRecDepth 20000 in
theorem dX10_town_153 : decode cX10_town 153 = .ok (.iaload, 1) := by decide +kernel
set_option maxRecDepth 20000 in
theorem dX10_town_154 : decode cX10_town 154 = .ok (.iastore, 1) := by decide +kernel
set_option maxRecDepth 20000 in
theorem dX10_town_155 : decode cX10_town 155 = .ok (.iinc 6 1, 3) := by decide +kernel
set_option maxRecDepth 20000 in
theorem dX10_town_158 : decode cX10_town 158 = .ok (.goto (-68), 3) := by decide +kernel
set_option maxRecDepth 20000 in
theorem dX10_town_161 : decode cX10_town 161 = .ok (.aload_n 0, 1) := by decide +kernel
set_option maxRecDepth 20000 in
theorem dX10_town_162 : decode cX10_town 162 = .ok (.iconst 0, 1) := by decide +kernel
set_option maxRecDepth 20000 in
theorem dX10_town_163 : decode cX10_town 163 = .ok (.putfield 131, 3) := by decide +kernel
set_option maxRecDepth 20000 in
theorem dX10_town_166 : decode cX10_town 166 = .ok (.aload_n 0, 1) := by decide +kernel
set_option maxRecDepth 20000 in
theorem dX10_town_167 : decode cX10_town 167 = .ok (.iconst 0, 1) := by decide +kernel
set_option maxRecDepth 20000 in
theorem dX10_town_168 : decode cX10_town 168 = .ok (.putfield 134, 3) := by decide +kernel
set_option maxRecDepth 20000 in
theorem dX10_town_171 : decode cX10_town 171 = .ok (.aload_n 0, 1) := by decide +kernel
set_option maxRecDepth 20000 in
theorem dX10_town_172 : decode cX10_town 172 = .ok (.iconst 0, 1) := by decide +kernel
set_option maxRecDepth 20000 in
theorem dX10_town_173 : decode cX10_town 173 = .ok (.putfield 137, 3) := by decide +kernel
set_option maxRecDepth 20000 in
theorem dX10_town_176 : decode cX10_town 176 = .ok (.aload_n 0, 1) := by decide +kernel
set_option maxRecDepth 20000 in
theorem dX10_town_177 : decode cX10_town 177 = .ok (.aload_n 0, 1) := by decide +kernel
set_option maxRecDepth 20000 in
theorem dX10_town_178 : decode cX10_town 178 = .ok (.getfield 80, 3) := by decide +kernel
set_option maxRecDepth 20000 in
theorem dX10_town_181 : decode cX10_town 181 = .ok (.invokevirtual 119, 3) := by decide +kernel
set_option maxRecDepth 20000 in
theorem dX10_town_184 : decode cX10_town 184 = .ok (.ireturn, 1) := by decide +kernel
set_option maxRecDepth 20000 in
theorem dX10_goodOf_0 : decode cX10_goodOf 0 = .ok (.aload_n 0, 1) := by decide +kernel
set_option maxRecDepth 20000 in
theorem dX10_goodOf_1 : decode cX10_goodOf 1 = .ok (.getfield 16, 3) := by decide +kernel
set_option maxRecDepth 20000 in
theorem dX10_goodOf_4 : decode cX10_goodOf 4 = .ok (.iload_n 1, 1) := by decide +kernel
set_option maxRecDepth 20000 in
theorem dX10_goodOf_5 : decode cX10_goodOf 5 = .ok (.iaload, 1) := by decide +kernel
set_option maxRecDepth 20000 in
theorem dX10_goodOf_6 : decode cX10_goodOf 6 = .ok (.istore_n 2, 1) := by decide +kernel
set_option maxRecDepth 20000 in
theorem dX10_goodOf_7 : decode cX10_goodOf 7 = .ok (.aload_n 0, 1) := by decide +kernel
set_option maxRecDepth 20000 in
theorem dX10_goodOf_8 : decode cX10_goodOf 8 = .ok (.getfield 7, 3) := by decide +kernel
set_option maxRecDepth 20000 in
theorem dX10_goodOf_11 : decode cX10_goodOf 11 = .ok (.iload_n 1, 1) := by decide +kernel
set_option maxRecDepth 20000 in
theorem dX10_goodOf_12 : decode cX10_goodOf 12 = .ok (.iaload, 1) := by decide +kernel
set_option maxRecDepth 20000 in
theorem dX10_goodOf_13 : decode cX10_goodOf 13 = .ok (.ifCond .ne 7, 3) := by decide +kernel
set_option maxRecDepth 20000 in
theorem dX10_goodOf_16 : decode cX10_goodOf 16 = .ok (.iload_n 2, 1) := by decide +kernel
set_option maxRecDepth 20000 in
theorem dX10_goodOf_17 : decode cX10_goodOf 17 = .ok (.goto 24, 3) := by decide +kernel
set_option maxRecDepth 20000 in
theorem dX10_goodOf_20 : decode cX10_goodOf 20 = .ok (.aload_n 0, 1) := by decide +kernel
set_option maxRecDepth 20000 in
theorem dX10_goodOf_21 : decode cX10_goodOf 21 = .ok (.getfield 7, 3) := by decide +kernel
set_option maxRecDepth 20000 in
theorem dX10_goodOf_24 : decode cX10_goodOf 24 = .ok (.iload_n 1, 1) := by decide +kernel
set_option maxRecDepth 20000 in
theorem dX10_goodOf_25 : decode cX10_goodOf 25 = .ok (.iaload, 1) := by decide +kernel
set_option maxRecDepth 20000 in
theorem dX10_goodOf_26 : decode cX10_goodOf 26 = .ok (.iconst 1, 1) := by decide +kernel
set_option maxRecDepth 20000 in
theorem dX10_goodOf_27 : decode cX10_goodOf 27 = .ok (.if_icmp .ne 9, 3) := by decide +kernel
set_option maxRecDepth 20000 in
theorem dX10_goodOf_30 : decode cX10_goodOf 30 = .ok (.iload_n 2, 1) := by decide +kernel
set_option maxRecDepth 20000 in
theorem dX10_goodOf_31 : decode cX10_goodOf 31 = .ok (.iconst 1, 1) := by decide +kernel
set_option maxRecDepth 20000 in
theorem dX10_goodOf_32 : decode cX10_goodOf 32 = .ok (.iadd, 1) := by decide +kernel
set_option maxRecDepth 20000 in
theorem dX10_goodOf_33 : decode cX10_goodOf 33 = .ok (.goto 8, 3) := by decide +kernel
set_option maxRecDepth 20000 in
theorem dX10_goodOf_36 : decode cX10_goodOf 36 = .ok (.iconst 2, 1) := by decide +kernel
set_option maxRecDepth 20000 in
theorem dX10_goodOf_37 : decode cX10_goodOf 37 = .ok (.iload_n 2, 1) := by decide +kernel
set_option maxRecDepth 20000 in
theorem dX10_goodOf_38 : decode cX10_goodOf 38 = .ok (.iconst 1, 1) := by decide +kernel
set_option maxRecDepth 20000 in
theorem dX10_goodOf_39 : decode cX10_goodOf 39 = .ok (.iadd, 1) := by decide +kernel
set_option maxRecDepth 20000 in
theorem dX10_goodOf_40 : decode cX10_goodOf 40 = .ok (.imul, 1) := by decide +kernel
set_option maxRecDepth 20000 in
theorem dX10_goodOf_41 : decode cX10_goodOf 41 = .ok (.ireturn, 1) := by decide +kernel
set_option maxRecDepth 20000 in
theorem dX10_ofThing_0 : decode cX10_ofThing 0 = .ok (.aload_n 0, 1) := by decide +kernel
set_option maxRecDepth 20000 in
theorem dX10_ofThing_1 : decode cX10_ofThing 1 = .ok (.iload_n 1, 1) := by decide +kernel
set_option maxRecDepth 20000 in
theorem dX10_ofThing_2 : decode cX10_ofThing 2 = .ok (.invokevirtual 140, 3) := by decide +kernel
set_option maxRecDepth 20000 in
theorem dX10_ofThing_5 : decode cX10_ofThing 5 = .ok (.ifCond .eq 5, 3) := by decide +kernel
set_option maxRecDepth 20000 in
theorem dX10_ofThing_8 : decode cX10_ofThing 8 = .ok (.iconst (-1), 1) := by decide +kernel
set_option maxRecDepth 20000 in
theorem dX10_ofThing_9 : decode cX10_ofThing 9 = .ok (.ireturn, 1) := by decide +kernel
set_option maxRecDepth 20000 in
theorem dX10_ofThing_10 : decode cX10_ofThing 10 = .ok (.iload_n 2, 1) := by decide +kernel
set_option maxRecDepth 20000 in
theorem dX10_ofThing_11 : decode cX10_ofThing 11 = .ok (.tableswitch 67 0 4 #[33, 40, 47, 54, 61], 33) := by decide +kernel
set_option maxRecDepth 20000 in
theorem dX10_ofThing_44 : decode cX10_ofThing 44 = .ok (.aload_n 0, 1) := by decide +kernel
set_option maxRecDepth 20000 in
theorem dX10_ofThing_45 : decode cX10_ofThing 45 = .ok (.getfield 7, 3) := by decide +kernel
set_option maxRecDepth 20000 in
theorem dX10_ofThing_48 : decode cX10_ofThing 48 = .ok (.iload_n 1, 1) := by decide +kernel
set_option maxRecDepth 20000 in
theorem dX10_ofThing_49 : decode cX10_ofThing 49 = .ok (.iaload, 1) := by decide +kernel
set_option maxRecDepth 20000 in
theorem dX10_ofThing_50 : decode cX10_ofThing 50 = .ok (.ireturn, 1) := by decide +kernel
set_option maxRecDepth 20000 in
theorem dX10_ofThing_51 : decode cX10_ofThing 51 = .ok (.aload_n 0, 1) := by decide +kernel
set_option maxRecDepth 20000 in
theorem dX10_ofThing_52 : decode cX10_ofThing 52 = .ok (.getfield 13, 3) := by decide +kernel
set_option maxRecDepth 20000 in
theorem dX10_ofThing_55 : decode cX10_ofThing 55 = .ok (.iload_n 1, 1) := by decide +kernel
set_option maxRecDepth 20000 in
theorem dX10_ofThing_56 : decode cX10_ofThing 56 = .ok (.iaload, 1) := by decide +kernel
set_option maxRecDepth 20000 in
theorem dX10_ofThing_57 : decode cX10_ofThing 57 = .ok (.ireturn, 1) := by decide +kernel
set_option maxRecDepth 20000 in
theorem dX10_ofThing_58 : decode cX10_ofThing 58 = .ok (.aload_n 0, 1) := by decide +kernel
set_option maxRecDepth 20000 in
theorem dX10_ofThing_59 : decode cX10_ofThing 59 = .ok (.getfield 16, 3) := by decide +kernel
set_option maxRecDepth 20000 in
theorem dX10_ofThing_62 : decode cX10_ofThing 62 = .ok (.iload_n 1, 1) := by decide +kernel
set_option maxRecDepth 20000 in
theorem dX10_ofThing_63 : decode cX10_ofThing 63 = .ok (.iaload, 1) := by decide +kernel
set_option maxRecDepth 20000 in
theorem dX10_ofThing_64 : decode cX10_ofThing 64 = .ok (.ireturn, 1) := by decide +kernel
set_option maxRecDepth 20000 in
theorem dX10_ofThing_65 : decode cX10_ofThing 65 = .ok (.aload_n 0, 1) := by decide +kernel
set_option maxRecDepth 20000 in
theorem dX10_ofThing_66 : decode cX10_ofThing 66 = .ok (.getfield 19, 3) := by decide +kernel
set_option maxRecDepth 20000 in
theorem dX10_ofThing_69 : decode cX10_ofThing 69 = .ok (.iload_n 1, 1) := by decide +kernel
set_option maxRecDepth 20000 in
theorem dX10_ofThing_70 : decode cX10_ofThing 70 = .ok (.iaload, 1) := by decide +kernel
set_option maxRecDepth 20000 in
theorem dX10_ofThing_71 : decode cX10_ofThing 71 = .ok (.ireturn, 1) := by decide +kernel
set_option maxRecDepth 20000 in
theorem dX10_ofThing_72 : decode cX10_ofThing 72 = .ok (.aload_n 0, 1) := by decide +kernel
set_option maxRecDepth 20000 in
theorem dX10_ofThing_73 : decode cX10_ofThing 73 = .ok (.iload_n 1, 1) := by decide +kernel
set_option maxRecDepth 20000 in
theorem dX10_ofThing_74 : decode cX10_ofThing 74 = .ok (.invokevirtual 143, 3) := by decide +kernel
set_option maxRecDepth 20000 in
theorem dX10_ofThing_77 : decode cX10_ofThing 77 = .ok (.ireturn, 1) := by decide +kernel
set_option maxRecDepth 20000 in
theorem dX10_ofThing_78 : decode cX10_ofThing 78 = .ok (.bipush (-2), 2) := by decide +kernel
set_option maxRecDepth 20000 in
theorem dX10_ofThing_80 : decode cX10_ofThing 80 = .ok (.ireturn, 1) := by decide +kernel
set_option maxRecDepth 20000 in
theorem dX10_law_0 : decode cX10_law 0 = .ok (.iload_n 1, 1) := by decide +kernel
set_option maxRecDepth 20000 in
theorem dX10_law_1 : decode cX10_law 1 = .ok (.i2l, 1) := by decide +kernel
set_option maxRecDepth 20000 in
theorem dX10_law_2 : decode cX10_law 2 = .ok (.lconst 0, 1) := by decide +kernel
set_option maxRecDepth 20000 in
theorem dX10_law_3 : decode cX10_law 3 = .ok (.ldc2_w 122, 3) := by decide +kernel
set_option maxRecDepth 20000 in
theorem dX10_law_6 : decode cX10_law 6 = .ok (.invokestatic 83, 3) := by decide +kernel
set_option maxRecDepth 20000 in
theorem dX10_law_9 : decode cX10_law 9 = .ok (.ifCond .ne 6, 3) := by decide +kernel
set_option maxRecDepth 20000 in
theorem dX10_law_12 : decode cX10_law 12 = .ok (.bipush (-2), 2) := by decide +kernel
set_option maxRecDepth 20000 in
theorem dX10_law_14 : decode cX10_law 14 = .ok (.ireturn, 1) := by decide +kernel
set_option maxRecDepth 20000 in
theorem dX10_law_15 : decode cX10_law 15 = .ok (.aload_n 0, 1) := by decide +kernel
set_option maxRecDepth 20000 in
theorem dX10_law_16 : decode cX10_law 16 = .ok (.getfield 80, 3) := by decide +kernel
set_option maxRecDepth 20000 in
theorem dX10_law_19 : decode cX10_law 19 = .ok (.ifCond .ne 6, 3) := by decide +kernel
set_option maxRecDepth 20000 in
theorem dX10_law_22 : decode cX10_law 22 = .ok (.bipush (-3), 2) := by decide +kernel
set_option maxRecDepth 20000 in
theorem dX10_law_24 : decode cX10_law 24 = .ok (.ireturn, 1) := by decide +kernel
set_option maxRecDepth 20000 in
theorem dX10_law_25 : decode cX10_law 25 = .ok (.aload_n 0, 1) := by decide +kernel
set_option maxRecDepth 20000 in
theorem dX10_law_26 : decode cX10_law 26 = .ok (.getfield 131, 3) := by decide +kernel
set_option maxRecDepth 20000 in
theorem dX10_law_29 : decode cX10_law 29 = .ok (.istore_n 2, 1) := by decide +kernel
set_option maxRecDepth 20000 in
theorem dX10_law_30 : decode cX10_law 30 = .ok (.aload_n 0, 1) := by decide +kernel
set_option maxRecDepth 20000 in
theorem dX10_law_31 : decode cX10_law 31 = .ok (.iload_n 1, 1) := by decide +kernel
set_option maxRecDepth 20000 in
theorem dX10_law_32 : decode cX10_law 32 = .ok (.putfield 131, 3) := by decide +kernel
set_option maxRecDepth 20000 in
theorem dX10_law_35 : decode cX10_law 35 = .ok (.iload_n 2, 1) := by decide +kernel
set_option maxRecDepth 20000 in
theorem dX10_law_36 : decode cX10_law 36 = .ok (.ireturn, 1) := by decide +kernel
set_option maxRecDepth 20000 in
theorem dX10_depute_0 : decode cX10_depute 0 = .ok (.aload_n 0, 1) := by decide +kernel
set_option maxRecDepth 20000 in
theorem dX10_depute_1 : decode cX10_depute 1 = .ok (.iload_n 1, 1) := by decide +kernel
set_option maxRecDepth 20000 in
theorem dX10_depute_2 : decode cX10_depute 2 = .ok (.invokevirtual 140, 3) := by decide +kernel
set_option maxRecDepth 20000 in
theorem dX10_depute_5 : decode cX10_depute 5 = .ok (.ifCond .ne 11, 3) := by decide +kernel
set_option maxRecDepth 20000 in
theorem dX10_depute_8 : decode cX10_depute 8 = .ok (.aload_n 0, 1) := by decide +kernel
set_option maxRecDepth 20000 in
theorem dX10_depute_9 : decode cX10_depute 9 = .ok (.iload_n 2, 1) := by decide +kernel
set_option maxRecDepth 20000 in
theorem dX10_depute_10 : decode cX10_depute 10 = .ok (.invokevirtual 140, 3) := by decide +kernel
set_option maxRecDepth 20000 in
theorem dX10_depute_13 : decode cX10_depute 13 = .ok (.ifCond .eq 5, 3) := by decide +kernel
set_option maxRecDepth 20000 in
theorem dX10_depute_16 : decode cX10_depute 16 = .ok (.iconst (-1), 1) := by decide +kernel
set_option maxRecDepth 20000 in
theorem dX10_depute_17 : decode cX10_depute 17 = .ok (.ireturn, 1) := by decide +kernel
set_option maxRecDepth 20000 in
theorem dX10_depute_18 : decode cX10_depute 18 = .ok (.iload_n 1, 1) := by decide +kernel
set_option maxRecDepth 20000 in
theorem dX10_depute_19 : decode cX10_depute 19 = .ok (.iload_n 2, 1) := by decide +kernel
set_option maxRecDepth 20000 in
theorem dX10_depute_20 : decode cX10_depute 20 = .ok (.if_icmp .ne 6, 3) := by decide +kernel
set_option maxRecDepth 20000 in
theorem dX10_depute_23 : decode cX10_depute 23 = .ok (.bipush (-2), 2) := by decide +kernel
set_option maxRecDepth 20000 in
theorem dX10_depute_25 : decode cX10_depute 25 = .ok (.ireturn, 1) := by decide +kernel
set_option maxRecDepth 20000 in
theorem dX10_depute_26 : decode cX10_depute 26 = .ok (.aload_n 0, 1) := by decide +kernel
set_option maxRecDepth 20000 in
theorem dX10_depute_27 : decode cX10_depute 27 = .ok (.getfield 13, 3) := by decide +kernel
set_option maxRecDepth 20000 in
theorem dX10_depute_30 : decode cX10_depute 30 = .ok (.iload_n 1, 1) := by decide +kernel
set_option maxRecDepth 20000 in
theorem dX10_depute_31 : decode cX10_depute 31 = .ok (.iaload, 1) := by decide +kernel
set_option maxRecDepth 20000 in
theorem dX10_depute_32 : decode cX10_depute 32 = .ok (.istore_n 3, 1) := by decide +kernel
set_option maxRecDepth 20000 in
theorem dX10_depute_33 : decode cX10_depute 33 = .ok (.aload_n 0, 1) := by decide +kernel
set_option maxRecDepth 20000 in
theorem dX10_depute_34 : decode cX10_depute 34 = .ok (.getfield 13, 3) := by decide +kernel
set_option maxRecDepth 20000 in
theorem dX10_depute_37 : decode cX10_depute 37 = .ok (.iload_n 1, 1) := by decide +kernel
set_option maxRecDepth 20000 in
theorem dX10_depute_38 : decode cX10_depute 38 = .ok (.iload_n 2, 1) := by decide +kernel
set_option maxRecDepth 20000 in
theorem dX10_depute_39 : decode cX10_depute 39 = .ok (.iastore, 1) := by decide +kernel
set_option maxRecDepth 20000 in
theorem dX10_depute_40 : decode cX10_depute 40 = .ok (.iload_n 3, 1) := by decide +kernel
set_option maxRecDepth 20000 in
theorem dX10_depute_41 : decode cX10_depute 41 = .ok (.ireturn, 1) := by decide +kernel
set_option maxRecDepth 20000 in
theorem dX10_smash_0 : decode cX10_smash 0 = .ok (.aload_n 0, 1) := by decide +kernel
set_option maxRecDepth 20000 in
theorem dX10_smash_1 : decode cX10_smash 1 = .ok (.iload_n 1, 1) := by decide +kernel
set_option maxRecDepth 20000 in
theorem dX10_smash_2 : decode cX10_smash 2 = .ok (.invokevirtual 140, 3) := by decide +kernel
set_option maxRecDepth 20000 in
theorem dX10_smash_5 : decode cX10_smash 5 = .ok (.ifCond .eq 5, 3) := by decide +kernel
set_option maxRecDepth 20000 in
theorem dX10_smash_8 : decode cX10_smash 8 = .ok (.iconst (-1), 1) := by decide +kernel
set_option maxRecDepth 20000 in
theorem dX10_smash_9 : decode cX10_smash 9 = .ok (.ireturn, 1) := by decide +kernel
set_option maxRecDepth 20000 in
theorem dX10_smash_10 : decode cX10_smash 10 = .ok (.iload_n 2, 1) := by decide +kernel
set_option maxRecDepth 20000 in
theorem dX10_smash_11 : decode cX10_smash 11 = .ok (.invokestatic 146, 3) := by decide +kernel
set_option maxRecDepth 20000 in
theorem dX10_smash_14 : decode cX10_smash 14 = .ok (.ifCond .eq 15, 3) := by decide +kernel
set_option maxRecDepth 20000 in
theorem dX10_smash_17 : decode cX10_smash 17 = .ok (.iload_n 3, 1) := by decide +kernel
set_option maxRecDepth 20000 in
theorem dX10_smash_18 : decode cX10_smash 18 = .ok (.invokestatic 146, 3) := by decide +kernel
set_option maxRecDepth 20000 in
theorem dX10_smash_21 : decode cX10_smash 21 = .ok (.ifCond .eq 8, 3) := by decide +kernel
set_option maxRecDepth 20000 in
theorem dX10_smash_24 : decode cX10_smash 24 = .ok (.iload_n 3, 1) := by decide +kernel
set_option maxRecDepth 20000 in
theorem dX10_smash_25 : decode cX10_smash 25 = .ok (.iload_n 2, 1) := by decide +kernel
set_option maxRecDepth 20000 in
theorem dX10_smash_26 : decode cX10_smash 26 = .ok (.if_icmp .ge 6, 3) := by decide +kernel
set_option maxRecDepth 20000 in
theorem dX10_smash_29 : decode cX10_smash 29 = .ok (.bipush (-2), 2) := by decide +kernel
set_option maxRecDepth 20000 in
theorem dX10_smash_31 : decode cX10_smash 31 = .ok (.ireturn, 1) := by decide +kernel
set_option maxRecDepth 20000 in
theorem dX10_smash_32 : decode cX10_smash 32 = .ok (.aload_n 0, 1) := by decide +kernel
set_option maxRecDepth 20000 in
theorem dX10_smash_33 : decode cX10_smash 33 = .ok (.getfield 134, 3) := by decide +kernel
set_option maxRecDepth 20000 in
theorem dX10_smash_36 : decode cX10_smash 36 = .ok (.bipush 8, 2) := by decide +kernel
set_option maxRecDepth 20000 in
theorem dX10_smash_38 : decode cX10_smash 38 = .ok (.if_icmp .ne 6, 3) := by decide +kernel
set_option maxRecDepth 20000 in
theorem dX10_smash_41 : decode cX10_smash 41 = .ok (.bipush (-4), 2) := by decide +kernel
set_option maxRecDepth 20000 in
theorem dX10_smash_43 : decode cX10_smash 43 = .ok (.ireturn, 1) := by decide +kernel
set_option maxRecDepth 20000 in
theorem dX10_smash_44 : decode cX10_smash 44 = .ok (.aload_n 0, 1) := by decide +kernel
set_option maxRecDepth 20000 in
theorem dX10_smash_45 : decode cX10_smash 45 = .ok (.getfield 34, 3) := by decide +kernel
set_option maxRecDepth 20000 in
theorem dX10_smash_48 : decode cX10_smash 48 = .ok (.aload_n 0, 1) := by decide +kernel
set_option maxRecDepth 20000 in
theorem dX10_smash_49 : decode cX10_smash 49 = .ok (.getfield 134, 3) := by decide +kernel
set_option maxRecDepth 20000 in
theorem dX10_smash_52 : decode cX10_smash 52 = .ok (.iload_n 1, 1) := by decide +kernel
set_option maxRecDepth 20000 in
theorem dX10_smash_53 : decode cX10_smash 53 = .ok (.iastore, 1) := by decide +kernel
set_option maxRecDepth 20000 in
theorem dX10_smash_54 : decode cX10_smash 54 = .ok (.aload_n 0, 1) := by decide +kernel
set_option maxRecDepth 20000 in
theorem dX10_smash_55 : decode cX10_smash 55 = .ok (.getfield 37, 3) := by decide +kernel
set_option maxRecDepth 20000 in
theorem dX10_smash_58 : decode cX10_smash 58 = .ok (.aload_n 0, 1) := by decide +kernel
set_option maxRecDepth 20000 in
theorem dX10_smash_59 : decode cX10_smash 59 = .ok (.getfield 134, 3) := by decide +kernel
set_option maxRecDepth 20000 in
theorem dX10_smash_62 : decode cX10_smash 62 = .ok (.iload_n 2, 1) := by decide +kernel
set_option maxRecDepth 20000 in
theorem dX10_smash_63 : decode cX10_smash 63 = .ok (.iastore, 1) := by decide +kernel
set_option maxRecDepth 20000 in
theorem dX10_smash_64 : decode cX10_smash 64 = .ok (.aload_n 0, 1) := by decide +kernel
set_option maxRecDepth 20000 in
theorem dX10_smash_65 : decode cX10_smash 65 = .ok (.getfield 40, 3) := by decide +kernel
set_option maxRecDepth 20000 in
theorem dX10_smash_68 : decode cX10_smash 68 = .ok (.aload_n 0, 1) := by decide +kernel
set_option maxRecDepth 20000 in
theorem dX10_smash_69 : decode cX10_smash 69 = .ok (.getfield 134, 3) := by decide +kernel
set_option maxRecDepth 20000 in
theorem dX10_smash_72 : decode cX10_smash 72 = .ok (.iload_n 3, 1) := by decide +kernel
set_option maxRecDepth 20000 in
theorem dX10_smash_73 : decode cX10_smash 73 = .ok (.iastore, 1) := by decide +kernel
set_option maxRecDepth 20000 in
theorem dX10_smash_74 : decode cX10_smash 74 = .ok (.aload_n 0, 1) := by decide +kernel
set_option maxRecDepth 20000 in
theorem dX10_smash_75 : decode cX10_smash 75 = .ok (.dup, 1) := by decide +kernel
set_option maxRecDepth 20000 in
theorem dX10_smash_76 : decode cX10_smash 76 = .ok (.getfield 134, 3) := by decide +kernel
set_option maxRecDepth 20000 in
theorem dX10_smash_79 : decode cX10_smash 79 = .ok (.iconst 1, 1) := by decide +kernel
set_option maxRecDepth 20000 in
theorem dX10_smash_80 : decode cX10_smash 80 = .ok (.iadd, 1) := by decide +kernel
set_option maxRecDepth 20000 in
theorem dX10_smash_81 : decode cX10_smash 81 = .ok (.putfield 134, 3) := by decide +kernel
set_option maxRecDepth 20000 in
theorem dX10_smash_84 : decode cX10_smash 84 = .ok (.aload_n 0, 1) := by decide +kernel
set_option maxRecDepth 20000 in
theorem dX10_smash_85 : decode cX10_smash 85 = .ok (.getfield 134, 3) := by decide +kernel
set_option maxRecDepth 20000 in
theorem dX10_smash_88 : decode cX10_smash 88 = .ok (.iconst 1, 1) := by decide +kernel
set_option maxRecDepth 20000 in
theorem dX10_smash_89 : decode cX10_smash 89 = .ok (.isub, 1) := by decide +kernel
set_option maxRecDepth 20000 in
theorem dX10_smash_90 : decode cX10_smash 90 = .ok (.ireturn, 1) := by decide +kernel
set_option maxRecDepth 20000 in
theorem dX10_glue_0 : decode cX10_glue 0 = .ok (.iload_n 1, 1) := by decide +kernel
set_option maxRecDepth 20000 in
theorem dX10_glue_1 : decode cX10_glue 1 = .ok (.i2l, 1) := by decide +kernel
set_option maxRecDepth 20000 in
theorem dX10_glue_2 : decode cX10_glue 2 = .ok (.lconst 0, 1) := by decide +kernel
set_option maxRecDepth 20000 in
theorem dX10_glue_3 : decode cX10_glue 3 = .ok (.aload_n 0, 1) := by decide +kernel
set_option maxRecDepth 20000 in
theorem dX10_glue_4 : decode cX10_glue 4 = .ok (.getfield 134, 3) := by decide +kernel
set_option maxRecDepth 20000 in
theorem dX10_glue_7 : decode cX10_glue 7 = .ok (.i2l, 1) := by decide +kernel
set_option maxRecDepth 20000 in
theorem dX10_glue_8 : decode cX10_glue 8 = .ok (.invokestatic 83, 3) := by decide +kernel
set_option maxRecDepth 20000 in
theorem dX10_glue_11 : decode cX10_glue 11 = .ok (.ifCond .ne 6, 3) := by decide +kernel
set_option maxRecDepth 20000 in
theorem dX10_glue_14 : decode cX10_glue 14 = .ok (.bipush (-2), 2) := by decide +kernel
set_option maxRecDepth 20000 in
theorem dX10_glue_16 : decode cX10_glue 16 = .ok (.ireturn, 1) := by decide +kernel
set_option maxRecDepth 20000 in
theorem dX10_glue_17 : decode cX10_glue 17 = .ok (.aload_n 0, 1) := by decide +kernel
set_option maxRecDepth 20000 in
theorem dX10_glue_18 : decode cX10_glue 18 = .ok (.dup, 1) := by decide +kernel
set_option maxRecDepth 20000 in
theorem dX10_glue_19 : decode cX10_glue 19 = .ok (.getfield 134, 3) := by decide +kernel
set_option maxRecDepth 20000 in
theorem dX10_glue_22 : decode cX10_glue 22 = .ok (.iload_n 1, 1) := by decide +kernel
set_option maxRecDepth 20000 in
theorem dX10_glue_23 : decode cX10_glue 23 = .ok (.isub, 1) := by decide +kernel
set_option maxRecDepth 20000 in
theorem dX10_glue_24 : decode cX10_glue 24 = .ok (.putfield 134, 3) := by decide +kernel
set_option maxRecDepth 20000 in
theorem dX10_glue_27 : decode cX10_glue 27 = .ok (.aload_n 0, 1) := by decide +kernel
set_option maxRecDepth 20000 in
theorem dX10_glue_28 : decode cX10_glue 28 = .ok (.getfield 134, 3) := by decide +kernel
set_option maxRecDepth 20000 in
theorem dX10_glue_31 : decode cX10_glue 31 = .ok (.ireturn, 1) := by decide +kernel
set_option maxRecDepth 20000 in
theorem dX10_brokenIn_0 : decode cX10_brokenIn 0 = .ok (.iconst 0, 1) := by decide +kernel
set_option maxRecDepth 20000 in
theorem dX10_brokenIn_1 : decode cX10_brokenIn 1 = .ok (.istore_n 2, 1) := by decide +kernel
set_option maxRecDepth 20000 in
theorem dX10_brokenIn_2 : decode cX10_brokenIn 2 = .ok (.iconst 0, 1) := by decide +kernel
set_option maxRecDepth 20000 in
theorem dX10_brokenIn_3 : decode cX10_brokenIn 3 = .ok (.istore_n 3, 1) := by decide +kernel
set_option maxRecDepth 20000 in
theorem dX10_brokenIn_4 : decode cX10_brokenIn 4 = .ok (.iload_n 3, 1) := by decide +kernel
set_option maxRecDepth 20000 in
theorem dX10_brokenIn_5 : decode cX10_brokenIn 5 = .ok (.aload_n 0, 1) := by decide +kernel
set_option maxRecDepth 20000 in
theorem dX10_brokenIn_6 : decode cX10_brokenIn 6 = .ok (.getfield 134, 3) := by decide +kernel
set_option maxRecDepth 20000 in
theorem dX10_brokenIn_9 : decode cX10_brokenIn 9 = .ok (.if_icmp .ge 46, 3) := by decide +kernel
set_option maxRecDepth 20000 in
theorem dX10_brokenIn_12 : decode cX10_brokenIn 12 = .ok (.iload_n 2, 1) := by decide +kernel
set_option maxRecDepth 20000 in
theorem dX10_brokenIn_13 : decode cX10_brokenIn 13 = .ok (.iload_n 1, 1) := by decide +kernel
set_option maxRecDepth 20000 in
theorem dX10_brokenIn_14 : decode cX10_brokenIn 14 = .ok (.i2l, 1) := by decide +kernel
set_option maxRecDepth 20000 in
theorem dX10_brokenIn_15 : decode cX10_brokenIn 15 = .ok (.aload_n 0, 1) := by decide +kernel
set_option maxRecDepth 20000 in
theorem dX10_brokenIn_16 : decode cX10_brokenIn 16 = .ok (.getfield 37, 3) := by decide +kernel
set_option maxRecDepth 20000 in
theorem dX10_brokenIn_19 : decode cX10_brokenIn 19 = .ok (.iload_n 3, 1) := by decide +kernel
set_option maxRecDepth 20000 in
theorem dX10_brokenIn_20 : decode cX10_brokenIn 20 = .ok (.iaload, 1) := by decide +kernel
set_option maxRecDepth 20000 in
theorem dX10_brokenIn_21 : decode cX10_brokenIn 21 = .ok (.i2l, 1) := by decide +kernel
set_option maxRecDepth 20000 in
theorem dX10_brokenIn_22 : decode cX10_brokenIn 22 = .ok (.aload_n 0, 1) := by decide +kernel
set_option maxRecDepth 20000 in
theorem dX10_brokenIn_23 : decode cX10_brokenIn 23 = .ok (.getfield 40, 3) := by decide +kernel
set_option maxRecDepth 20000 in
theorem dX10_brokenIn_26 : decode cX10_brokenIn 26 = .ok (.iload_n 3, 1) := by decide +kernel
set_option maxRecDepth 20000 in
theorem dX10_brokenIn_27 : decode cX10_brokenIn 27 = .ok (.iaload, 1) := by decide +kernel
set_option maxRecDepth 20000 in
theorem dX10_brokenIn_28 : decode cX10_brokenIn 28 = .ok (.i2l, 1) := by decide +kernel
set_option maxRecDepth 20000 in
theorem dX10_brokenIn_29 : decode cX10_brokenIn 29 = .ok (.invokestatic 83, 3) := by decide +kernel
set_option maxRecDepth 20000 in
theorem dX10_brokenIn_32 : decode cX10_brokenIn 32 = .ok (.ifCond .eq 14, 3) := by decide +kernel
set_option maxRecDepth 20000 in
theorem dX10_brokenIn_35 : decode cX10_brokenIn 35 = .ok (.iconst 1, 1) := by decide +kernel
set_option maxRecDepth 20000 in
theorem dX10_brokenIn_36 : decode cX10_brokenIn 36 = .ok (.aload_n 0, 1) := by decide +kernel
set_option maxRecDepth 20000 in
theorem dX10_brokenIn_37 : decode cX10_brokenIn 37 = .ok (.getfield 34, 3) := by decide +kernel
set_option maxRecDepth 20000 in
theorem dX10_brokenIn_40 : decode cX10_brokenIn 40 = .ok (.iload_n 3, 1) := by decide +kernel
set_option maxRecDepth 20000 in
theorem dX10_brokenIn_41 : decode cX10_brokenIn 41 = .ok (.iaload, 1) := by decide +kernel
set_option maxRecDepth 20000 in
theorem dX10_brokenIn_42 : decode cX10_brokenIn 42 = .ok (.ishl, 1) := by decide +kernel
set_option maxRecDepth 20000 in
theorem dX10_brokenIn_43 : decode cX10_brokenIn 43 = .ok (.goto 4, 3) := by decide +kernel
set_option maxRecDepth 20000 in
theorem dX10_brokenIn_46 : decode cX10_brokenIn 46 = .ok (.iconst 0, 1) := by decide +kernel
set_option maxRecDepth 20000 in
theorem dX10_brokenIn_47 : decode cX10_brokenIn 47 = .ok (.ior, 1) := by decide +kernel
set_option maxRecDepth 20000 in
theorem dX10_brokenIn_48 : decode cX10_brokenIn 48 = .ok (.istore_n 2, 1) := by decide +kernel
set_option maxRecDepth 20000 in
theorem dX10_brokenIn_49 : decode cX10_brokenIn 49 = .ok (.iinc 3 1, 3) := by decide +kernel
set_option maxRecDepth 20000 in
theorem dX10_brokenIn_52 : decode cX10_brokenIn 52 = .ok (.goto (-48), 3) := by decide +kernel
set_option maxRecDepth 20000 in
theorem dX10_brokenIn_55 : decode cX10_brokenIn 55 = .ok (.iload_n 2, 1) := by decide +kernel
set_option maxRecDepth 20000 in
theorem dX10_brokenIn_56 : decode cX10_brokenIn 56 = .ok (.ireturn, 1) := by decide +kernel
set_option maxRecDepth 20000 in
theorem dX10_beginHours_0 : decode cX10_beginHours 0 = .ok (.iconst 0, 1) := by decide +kernel
set_option maxRecDepth 20000 in
theorem dX10_beginHours_1 : decode cX10_beginHours 1 = .ok (.istore_n 1, 1) := by decide +kernel
set_option maxRecDepth 20000 in
theorem dX10_beginHours_2 : decode cX10_beginHours 2 = .ok (.iload_n 1, 1) := by decide +kernel
set_option maxRecDepth 20000 in
theorem dX10_beginHours_3 : decode cX10_beginHours 3 = .ok (.bipush 8, 2) := by decide +kernel
set_option maxRecDepth 20000 in
theorem dX10_beginHours_5 : decode cX10_beginHours 5 = .ok (.if_icmp .ge 24, 3) := by decide +kernel
set_option maxRecDepth 20000 in
theorem dX10_beginHours_8 : decode cX10_beginHours 8 = .ok (.aload_n 0, 1) := by decide +kernel
set_option maxRecDepth 20000 in
theorem dX10_beginHours_9 : decode cX10_beginHours 9 = .ok (.getfield 46, 3) := by decide +kernel
set_option maxRecDepth 20000 in
theorem dX10_beginHours_12 : decode cX10_beginHours 12 = .ok (.iload_n 1, 1) := by decide +kernel
set_option maxRecDepth 20000 in
theorem dX10_beginHours_13 : decode cX10_beginHours 13 = .ok (.bipush (-9), 2) := by decide +kernel
set_option maxRecDepth 20000 in
theorem dX10_beginHours_15 : decode cX10_beginHours 15 = .ok (.iastore, 1) := by decide +kernel
set_option maxRecDepth 20000 in
theorem dX10_beginHours_16 : decode cX10_beginHours 16 = .ok (.aload_n 0, 1) := by decide +kernel
set_option maxRecDepth 20000 in
theorem dX10_beginHours_17 : decode cX10_beginHours 17 = .ok (.getfield 49, 3) := by decide +kernel
set_option maxRecDepth 20000 in
theorem dX10_beginHours_20 : decode cX10_beginHours 20 = .ok (.iload_n 1, 1) := by decide +kernel
set_option maxRecDepth 20000 in
theorem dX10_beginHours_21 : decode cX10_beginHours 21 = .ok (.iconst 0, 1) := by decide +kernel
set_option maxRecDepth 20000 in
theorem dX10_beginHours_22 : decode cX10_beginHours 22 = .ok (.iastore, 1) := by decide +kernel
set_option maxRecDepth 20000 in
theorem dX10_beginHours_23 : decode cX10_beginHours 23 = .ok (.iinc 1 1, 3) := by decide +kernel
set_option maxRecDepth 20000 in
theorem dX10_beginHours_26 : decode cX10_beginHours 26 = .ok (.goto (-24), 3) := by decide +kernel
set_option maxRecDepth 20000 in
theorem dX10_beginHours_29 : decode cX10_beginHours 29 = .ok (.return_, 1) := by decide +kernel
set_option maxRecDepth 20000 in
theorem dX10_isTired_0 : decode cX10_isTired 0 = .ok (.aload_n 0, 1) := by decide +kernel
set_option maxRecDepth 20000 in
theorem dX10_isTired_1 : decode cX10_isTired 1 = .ok (.getfield 46, 3) := by decide +kernel
set_option maxRecDepth 20000 in
theorem dX10_isTired_4 : decode cX10_isTired 4 = .ok (.iload_n 2, 1) := by decide +kernel
set_option maxRecDepth 20000 in
theorem dX10_isTired_5 : decode cX10_isTired 5 = .ok (.iaload, 1) := by decide +kernel
set_option maxRecDepth 20000 in
theorem dX10_isTired_6 : decode cX10_isTired 6 = .ok (.iload_n 1, 1) := by decide +kernel
set_option maxRecDepth 20000 in
theorem dX10_isTired_7 : decode cX10_isTired 7 = .ok (.if_icmp .ne 22, 3) := by decide +kernel
set_option maxRecDepth 20000 in
theorem dX10_isTired_10 : decode cX10_isTired 10 = .ok (.aload_n 0, 1) := by decide +kernel
set_option maxRecDepth 20000 in
theorem dX10_isTired_11 : decode cX10_isTired 11 = .ok (.getfield 49, 3) := by decide +kernel
set_option maxRecDepth 20000 in
theorem dX10_isTired_14 : decode cX10_isTired 14 = .ok (.iload_n 2, 1) := by decide +kernel
set_option maxRecDepth 20000 in
theorem dX10_isTired_15 : decode cX10_isTired 15 = .ok (.iaload, 1) := by decide +kernel
set_option maxRecDepth 20000 in
theorem dX10_isTired_16 : decode cX10_isTired 16 = .ok (.aload_n 0, 1) := by decide +kernel
set_option maxRecDepth 20000 in
theorem dX10_isTired_17 : decode cX10_isTired 17 = .ok (.getfield 19, 3) := by decide +kernel
set_option maxRecDepth 20000 in
theorem dX10_isTired_20 : decode cX10_isTired 20 = .ok (.iload_n 1, 1) := by decide +kernel
set_option maxRecDepth 20000 in
theorem dX10_isTired_21 : decode cX10_isTired 21 = .ok (.iaload, 1) := by decide +kernel
set_option maxRecDepth 20000 in
theorem dX10_isTired_22 : decode cX10_isTired 22 = .ok (.if_icmp .lt 7, 3) := by decide +kernel
set_option maxRecDepth 20000 in
theorem dX10_isTired_25 : decode cX10_isTired 25 = .ok (.iconst 1, 1) := by decide +kernel
set_option maxRecDepth 20000 in
theorem dX10_isTired_26 : decode cX10_isTired 26 = .ok (.goto 4, 3) := by decide +kernel
set_option maxRecDepth 20000 in
theorem dX10_isTired_29 : decode cX10_isTired 29 = .ok (.iconst 0, 1) := by decide +kernel
set_option maxRecDepth 20000 in
theorem dX10_isTired_30 : decode cX10_isTired 30 = .ok (.ireturn, 1) := by decide +kernel
set_option maxRecDepth 20000 in
theorem dX10_standsAhead_0 : decode cX10_standsAhead 0 = .ok (.iconst 0, 1) := by decide +kernel
set_option maxRecDepth 20000 in
theorem dX10_standsAhead_1 : decode cX10_standsAhead 1 = .ok (.istore_n 3, 1) := by decide +kernel
set_option maxRecDepth 20000 in
theorem dX10_standsAhead_2 : decode cX10_standsAhead 2 = .ok (.iconst 0, 1) := by decide +kernel
set_option maxRecDepth 20000 in
theorem dX10_standsAhead_3 : decode cX10_standsAhead 3 = .ok (.istore 4, 2) := by decide +kernel
set_option maxRecDepth 20000 in
theorem dX10_standsAhead_5 : decode cX10_standsAhead 5 = .ok (.iload 4, 2) := by decide +kernel
set_option maxRecDepth 20000 in
theorem dX10_standsAhead_7 : decode cX10_standsAhead 7 = .ok (.iload_n 2, 1) := by decide +kernel
set_option maxRecDepth 20000 in
theorem dX10_standsAhead_8 : decode cX10_standsAhead 8 = .ok (.if_icmp .ge 36, 3) := by decide +kernel
set_option maxRecDepth 20000 in
theorem dX10_standsAhead_11 : decode cX10_standsAhead 11 = .ok (.iload_n 3, 1) := by decide +kernel
set_option maxRecDepth 20000 in
theorem dX10_standsAhead_12 : decode cX10_standsAhead 12 = .ok (.ifCond .ne 20, 3) := by decide +kernel
set_option maxRecDepth 20000 in
theorem dX10_standsAhead_15 : decode cX10_standsAhead 15 = .ok (.aload_n 0, 1) := by decide +kernel
set_option maxRecDepth 20000 in
theorem dX10_standsAhead_16 : decode cX10_standsAhead 16 = .ok (.getfield 43, 3) := by decide +kernel
set_option maxRecDepth 20000 in
theorem dX10_standsAhead_19 : decode cX10_standsAhead 19 = .ok (.iload 4, 2) := by decide +kernel
set_option maxRecDepth 20000 in
theorem dX10_standsAhead_21 : decode cX10_standsAhead 21 = .ok (.iaload, 1) := by decide +kernel
set_option maxRecDepth 20000 in
theorem dX10_standsAhead_22 : decode cX10_standsAhead 22 = .ok (.iload_n 1, 1) := by decide +kernel
set_option maxRecDepth 20000 in
theorem dX10_standsAhead_23 : decode cX10_standsAhead 23 = .ok (.if_icmp .ne 13, 3) := by decide +kernel
set_option maxRecDepth 20000 in
theorem dX10_standsAhead_26 : decode cX10_standsAhead 26 = .ok (.iload 4, 2) := by decide +kernel
set_option maxRecDepth 20000 in
theorem dX10_standsAhead_28 : decode cX10_standsAhead 28 = .ok (.iload_n 1, 1) := by decide +kernel
set_option maxRecDepth 20000 in
theorem dX10_standsAhead_29 : decode cX10_standsAhead 29 = .ok (.if_icmp .eq 7, 3) := by decide +kernel
set_option maxRecDepth 20000 in
theorem dX10_standsAhead_32 : decode cX10_standsAhead 32 = .ok (.iconst 1, 1) := by decide +kernel
set_option maxRecDepth 20000 in
theorem dX10_standsAhead_33 : decode cX10_standsAhead 33 = .ok (.goto 4, 3) := by decide +kernel
set_option maxRecDepth 20000 in
theorem dX10_standsAhead_36 : decode cX10_standsAhead 36 = .ok (.iconst 0, 1) := by decide +kernel
set_option maxRecDepth 20000 in
theorem dX10_standsAhead_37 : decode cX10_standsAhead 37 = .ok (.istore_n 3, 1) := by decide +kernel
set_option maxRecDepth 20000 in
theorem dX10_standsAhead_38 : decode cX10_standsAhead 38 = .ok (.iinc 4 1, 3) := by decide +kernel
set_option maxRecDepth 20000 in
theorem dX10_standsAhead_41 : decode cX10_standsAhead 41 = .ok (.goto (-36), 3) := by decide +kernel
set_option maxRecDepth 20000 in
theorem dX10_standsAhead_44 : decode cX10_standsAhead 44 = .ok (.iload_n 3, 1) := by decide +kernel
set_option maxRecDepth 20000 in
theorem dX10_standsAhead_45 : decode cX10_standsAhead 45 = .ok (.ireturn, 1) := by decide +kernel
set_option maxRecDepth 20000 in
theorem dX10_standsFor_0 : decode cX10_standsFor 0 = .ok (.iconst 1, 1) := by decide +kernel
set_option maxRecDepth 20000 in
theorem dX10_standsFor_1 : decode cX10_standsFor 1 = .ok (.iload_n 1, 1) := by decide +kernel
set_option maxRecDepth 20000 in
theorem dX10_standsFor_2 : decode cX10_standsFor 2 = .ok (.ishl, 1) := by decide +kernel
set_option maxRecDepth 20000 in
theorem dX10_standsFor_3 : decode cX10_standsFor 3 = .ok (.istore_n 3, 1) := by decide +kernel
set_option maxRecDepth 20000 in
theorem dX10_standsFor_4 : decode cX10_standsFor 4 = .ok (.bipush (-9), 2) := by decide +kernel
set_option maxRecDepth 20000 in
theorem dX10_standsFor_6 : decode cX10_standsFor 6 = .ok (.istore 4, 2) := by decide +kernel
set_option maxRecDepth 20000 in
theorem dX10_standsFor_8 : decode cX10_standsFor 8 = .ok (.aload_n 0, 1) := by decide +kernel
set_option maxRecDepth 20000 in
theorem dX10_standsFor_9 : decode cX10_standsFor 9 = .ok (.getfield 13, 3) := by decide +kernel
set_option maxRecDepth 20000 in
theorem dX10_standsFor_12 : decode cX10_standsFor 12 = .ok (.iload_n 1, 1) := by decide +kernel
set_option maxRecDepth 20000 in
theorem dX10_standsFor_13 : decode cX10_standsFor 13 = .ok (.iaload, 1) := by decide +kernel
set_option maxRecDepth 20000 in
theorem dX10_standsFor_14 : decode cX10_standsFor 14 = .ok (.istore 5, 2) := by decide +kernel
set_option maxRecDepth 20000 in
theorem dX10_standsFor_16 : decode cX10_standsFor 16 = .ok (.iload_n 3, 1) := by decide +kernel
set_option maxRecDepth 20000 in
theorem dX10_standsFor_17 : decode cX10_standsFor 17 = .ok (.iload 5, 2) := by decide +kernel
set_option maxRecDepth 20000 in
theorem dX10_standsFor_19 : decode cX10_standsFor 19 = .ok (.invokestatic 149, 3) := by decide +kernel
set_option maxRecDepth 20000 in
theorem dX10_standsFor_22 : decode cX10_standsFor 22 = .ok (.ifCond .ne 120, 3) := by decide +kernel
set_option maxRecDepth 20000 in
theorem dX10_standsFor_25 : decode cX10_standsFor 25 = .ok (.iload_n 3, 1) := by decide +kernel
set_option maxRecDepth 20000 in
theorem dX10_standsFor_26 : decode cX10_standsFor 26 = .ok (.iconst 1, 1) := by decide +kernel
set_option maxRecDepth 20000 in
theorem dX10_standsFor_27 : decode cX10_standsFor 27 = .ok (.iload 5, 2) := by decide +kernel
set_option maxRecDepth 20000 in
theorem dX10_standsFor_29 : decode cX10_standsFor 29 = .ok (.ishl, 1) := by decide +kernel
set_option maxRecDepth 20000 in
theorem dX10_standsFor_30 : decode cX10_standsFor 30 = .ok (.ior, 1) := by decide +kernel
set_option maxRecDepth 20000 in
theorem dX10_standsFor_31 : decode cX10_standsFor 31 = .ok (.istore_n 3, 1) := by decide +kernel
set_option maxRecDepth 20000 in
theorem dX10_standsFor_32 : decode cX10_standsFor 32 = .ok (.iload_n 2, 1) := by decide +kernel
set_option maxRecDepth 20000 in
theorem dX10_standsFor_33 : decode cX10_standsFor 33 = .ok (.iload 5, 2) := by decide +kernel
set_option maxRecDepth 20000 in
theorem dX10_standsFor_35 : decode cX10_standsFor 35 = .ok (.invokestatic 149, 3) := by decide +kernel
set_option maxRecDepth 20000 in
theorem dX10_standsFor_38 : decode cX10_standsFor 38 = .ok (.ifCond .ne 35, 3) := by decide +kernel
set_option maxRecDepth 20000 in
theorem dX10_standsFor_41 : decode cX10_standsFor 41 = .ok (.aload_n 0, 1) := by decide +kernel
set_option maxRecDepth 20000 in
theorem dX10_standsFor_42 : decode cX10_standsFor 42 = .ok (.iload 5, 2) := by decide +kernel
set_option maxRecDepth 20000 in
theorem dX10_standsFor_44 : decode cX10_standsFor 44 = .ok (.iload_n 1, 1) := by decide +kernel
set_option maxRecDepth 20000 in
theorem dX10_standsFor_45 : decode cX10_standsFor 45 = .ok (.invokevirtual 152, 3) := by decide +kernel
set_option maxRecDepth 20000 in
theorem dX10_standsFor_48 : decode cX10_standsFor 48 = .ok (.ifCond .ne 25, 3) := by decide +kernel
set_option maxRecDepth 20000 in
theorem dX10_standsFor_51 : decode cX10_standsFor 51 = .ok (.aload_n 0, 1) := by decide +kernel
set_option maxRecDepth 20000 in
theorem dX10_standsFor_52 : decode cX10_standsFor 52 = .ok (.getfield 131, 3) := by decide +kernel
set_option maxRecDepth 20000 in
theorem dX10_standsFor_55 : decode cX10_standsFor 55 = .ok (.iconst 1, 1) := by decide +kernel
set_option maxRecDepth 20000 in
theorem dX10_standsFor_56 : decode cX10_standsFor 56 = .ok (.if_icmp .ne 13, 3) := by decide +kernel
set_option maxRecDepth 20000 in
theorem dX10_standsFor_59 : decode cX10_standsFor 59 = .ok (.aload_n 0, 1) := by decide +kernel
set_option maxRecDepth 20000 in
theorem dX10_standsFor_60 : decode cX10_standsFor 60 = .ok (.iload 5, 2) := by decide +kernel
set_option maxRecDepth 20000 in
theorem dX10_standsFor_62 : decode cX10_standsFor 62 = .ok (.iload_n 1, 1) := by decide +kernel
set_option maxRecDepth 20000 in
theorem dX10_standsFor_63 : decode cX10_standsFor 63 = .ok (.invokevirtual 155, 3) := by decide +kernel
set_option maxRecDepth 20000 in
theorem dX10_standsFor_66 : decode cX10_standsFor 66 = .ok (.ifCond .ne 7, 3) := by decide +kernel
set_option maxRecDepth 20000 in
theorem dX10_standsFor_69 : decode cX10_standsFor 69 = .ok (.iconst 1, 1) := by decide +kernel
set_option maxRecDepth 20000 in
theorem dX10_standsFor_70 : decode cX10_standsFor 70 = .ok (.goto 4, 3) := by decide +kernel
set_option maxRecDepth 20000 in
theorem dX10_standsFor_73 : decode cX10_standsFor 73 = .ok (.iconst 0, 1) := by decide +kernel
set_option maxRecDepth 20000 in
theorem dX10_standsFor_74 : decode cX10_standsFor 74 = .ok (.istore 6, 2) := by decide +kernel
set_option maxRecDepth 20000 in
theorem dX10_standsFor_76 : decode cX10_standsFor 76 = .ok (.iload 4, 2) := by decide +kernel
set_option maxRecDepth 20000 in
theorem dX10_standsFor_78 : decode cX10_standsFor 78 = .ok (.ifCond .lt 26, 3) := by decide +kernel
set_option maxRecDepth 20000 in
theorem dX10_standsFor_81 : decode cX10_standsFor 81 = .ok (.aload_n 0, 1) := by decide +kernel
set_option maxRecDepth 20000 in
theorem dX10_standsFor_82 : decode cX10_standsFor 82 = .ok (.getfield 131, 3) := by decide +kernel
set_option maxRecDepth 20000 in
theorem dX10_standsFor_85 : decode cX10_standsFor 85 = .ok (.iconst 2, 1) := by decide +kernel
set_option maxRecDepth 20000 in
theorem dX10_standsFor_86 : decode cX10_standsFor 86 = .ok (.if_icmp .ne 22, 3) := by decide +kernel
set_option maxRecDepth 20000 in
theorem dX10_standsFor_89 : decode cX10_standsFor 89 = .ok (.aload_n 0, 1) := by decide +kernel
set_option maxRecDepth 20000 in
theorem dX10_standsFor_90 : decode cX10_standsFor 90 = .ok (.iload 5, 2) := by decide +kernel
set_option maxRecDepth 20000 in
theorem dX10_standsFor_92 : decode cX10_standsFor 92 = .ok (.invokevirtual 143, 3) := by decide +kernel
set_option maxRecDepth 20000 in
theorem dX10_standsFor_95 : decode cX10_standsFor 95 = .ok (.aload_n 0, 1) := by decide +kernel
set_option maxRecDepth 20000 in
theorem dX10_standsFor_96 : decode cX10_standsFor 96 = .ok (.iload 4, 2) := by decide +kernel
set_option maxRecDepth 20000 in
theorem dX10_standsFor_98 : decode cX10_standsFor 98 = .ok (.invokevirtual 143, 3) := by decide +kernel
set_option maxRecDepth 20000 in
theorem dX10_standsFor_101 : decode cX10_standsFor 101 = .ok (.if_icmp .le 7, 3) := by decide +kernel
set_option maxRecDepth 20000 in
theorem dX10_standsFor_104 : decode cX10_standsFor 104 = .ok (.iconst 1, 1) := by decide +kernel
set_option maxRecDepth 20000 in
theorem dX10_standsFor_105 : decode cX10_standsFor 105 = .ok (.goto 4, 3) := by decide +kernel
set_option maxRecDepth 20000 in
theorem dX10_standsFor_108 : decode cX10_standsFor 108 = .ok (.iconst 0, 1) := by decide +kernel
set_option maxRecDepth 20000 in
theorem dX10_standsFor_109 : decode cX10_standsFor 109 = .ok (.istore 7, 2) := by decide +kernel
set_option maxRecDepth 20000 in
theorem dX10_standsFor_111 : decode cX10_standsFor 111 = .ok (.iload 6, 2) := by decide +kernel
set_option maxRecDepth 20000 in
theorem dX10_standsFor_113 : decode cX10_standsFor 113 = .ok (.ifCond .eq 13, 3) := by decide +kernel
set_option maxRecDepth 20000 in
theorem dX10_standsFor_116 : decode cX10_standsFor 116 = .ok (.iload 7, 2) := by decide +kernel
set_option maxRecDepth 20000 in
theorem dX10_standsFor_118 : decode cX10_standsFor 118 = .ok (.ifCond .eq 8, 3) := by decide +kernel
set_option maxRecDepth 20000 in
theorem dX10_standsFor_121 : decode cX10_standsFor 121 = .ok (.iload 5, 2) := by decide +kernel
set_option maxRecDepth 20000 in
theorem dX10_standsFor_123 : decode cX10_standsFor 123 = .ok (.goto 5, 3) := by decide +kernel
set_option maxRecDepth 20000 in
theorem dX10_standsFor_126 : decode cX10_standsFor 126 = .ok (.iload 4, 2) := by decide +kernel
set_option maxRecDepth 20000 in
theorem dX10_standsFor_128 : decode cX10_standsFor 128 = .ok (.istore 4, 2) := by decide +kernel
set_option maxRecDepth 20000 in
theorem dX10_standsFor_130 : decode cX10_standsFor 130 = .ok (.aload_n 0, 1) := by decide +kernel
set_option maxRecDepth 20000 in
theorem dX10_standsFor_131 : decode cX10_standsFor 131 = .ok (.getfield 13, 3) := by decide +kernel
set_option maxRecDepth 20000 in
theorem dX10_standsFor_134 : decode cX10_standsFor 134 = .ok (.iload 5, 2) := by decide +kernel
set_option maxRecDepth 20000 in
theorem dX10_standsFor_136 : decode cX10_standsFor 136 = .ok (.iaload, 1) := by decide +kernel
set_option maxRecDepth 20000 in
theorem dX10_standsFor_137 : decode cX10_standsFor 137 = .ok (.istore 5, 2) := by decide +kernel
set_option maxRecDepth 20000 in
theorem dX10_standsFor_139 : decode cX10_standsFor 139 = .ok (.goto (-123), 3) := by decide +kernel
set_option maxRecDepth 20000 in
theorem dX10_standsFor_142 : decode cX10_standsFor 142 = .ok (.iload 4, 2) := by decide +kernel
set_option maxRecDepth 20000 in
theorem dX10_standsFor_144 : decode cX10_standsFor 144 = .ok (.ireturn, 1) := by decide +kernel
set_option maxRecDepth 20000 in
theorem dX10_goHour_0 : decode cX10_goHour 0 = .ok (.iconst 0, 1) := by decide +kernel
set_option maxRecDepth 20000 in
theorem dX10_goHour_1 : decode cX10_goHour 1 = .ok (.istore_n 2, 1) := by decide +kernel
set_option maxRecDepth 20000 in
theorem dX10_goHour_2 : decode cX10_goHour 2 = .ok (.iload_n 2, 1) := by decide +kernel
set_option maxRecDepth 20000 in
theorem dX10_goHour_3 : decode cX10_goHour 3 = .ok (.aload_n 0, 1) := by decide +kernel
set_option maxRecDepth 20000 in
theorem dX10_goHour_4 : decode cX10_goHour 4 = .ok (.getfield 80, 3) := by decide +kernel
set_option maxRecDepth 20000 in
theorem dX10_goHour_7 : decode cX10_goHour 7 = .ok (.if_icmp .ge 33, 3) := by decide +kernel
set_option maxRecDepth 20000 in
theorem dX10_goHour_10 : decode cX10_goHour 10 = .ok (.aload_n 0, 1) := by decide +kernel
set_option maxRecDepth 20000 in
theorem dX10_goHour_11 : decode cX10_goHour 11 = .ok (.getfield 43, 3) := by decide +kernel
set_option maxRecDepth 20000 in
theorem dX10_goHour_14 : decode cX10_goHour 14 = .ok (.iload_n 2, 1) := by decide +kernel
set_option maxRecDepth 20000 in
theorem dX10_goHour_15 : decode cX10_goHour 15 = .ok (.iload_n 1, 1) := by decide +kernel
set_option maxRecDepth 20000 in
theorem dX10_goHour_16 : decode cX10_goHour 16 = .ok (.iload_n 2, 1) := by decide +kernel
set_option maxRecDepth 20000 in
theorem dX10_goHour_17 : decode cX10_goHour 17 = .ok (.invokestatic 149, 3) := by decide +kernel
set_option maxRecDepth 20000 in
theorem dX10_goHour_20 : decode cX10_goHour 20 = .ok (.ifCond .eq 12, 3) := by decide +kernel
set_option maxRecDepth 20000 in
theorem dX10_goHour_23 : decode cX10_goHour 23 = .ok (.aload_n 0, 1) := by decide +kernel
set_option maxRecDepth 20000 in
theorem dX10_goHour_24 : decode cX10_goHour 24 = .ok (.iload_n 2, 1) := by decide +kernel
set_option maxRecDepth 20000 in
theorem dX10_goHour_25 : decode cX10_goHour 25 = .ok (.iload_n 1, 1) := by decide +kernel
set_option maxRecDepth 20000 in
theorem dX10_goHour_26 : decode cX10_goHour 26 = .ok (.invokevirtual 158, 3) := by decide +kernel
set_option maxRecDepth 20000 in
theorem dX10_goHour_29 : decode cX10_goHour 29 = .ok (.goto 4, 3) := by decide +kernel
set_option maxRecDepth 20000 in
theorem dX10_goHour_32 : decode cX10_goHour 32 = .ok (.iload_n 2, 1) := by decide +kernel
set_option maxRecDepth 20000 in
theorem dX10_goHour_33 : decode cX10_goHour 33 = .ok (.iastore, 1) := by decide +kernel
set_option maxRecDepth 20000 in
theorem dX10_goHour_34 : decode cX10_goHour 34 = .ok (.iinc 2 1, 3) := by decide +kernel
set_option maxRecDepth 20000 in
theorem dX10_goHour_37 : decode cX10_goHour 37 = .ok (.goto (-35), 3) := by decide +kernel
set_option maxRecDepth 20000 in
theorem dX10_goHour_40 : decode cX10_goHour 40 = .ok (.iconst 0, 1) := by decide +kernel
set_option maxRecDepth 20000 in
theorem dX10_goHour_41 : decode cX10_goHour 41 = .ok (.istore_n 2, 1) := by decide +kernel
set_option maxRecDepth 20000 in
theorem dX10_goHour_42 : decode cX10_goHour 42 = .ok (.iload_n 2, 1) := by decide +kernel
set_option maxRecDepth 20000 in
theorem dX10_goHour_43 : decode cX10_goHour 43 = .ok (.aload_n 0, 1) := by decide +kernel
set_option maxRecDepth 20000 in
theorem dX10_goHour_44 : decode cX10_goHour 44 = .ok (.getfield 80, 3) := by decide +kernel
set_option maxRecDepth 20000 in
theorem dX10_goHour_47 : decode cX10_goHour 47 = .ok (.if_icmp .ge 78, 3) := by decide +kernel
set_option maxRecDepth 20000 in
theorem dX10_goHour_50 : decode cX10_goHour 50 = .ok (.aload_n 0, 1) := by decide +kernel
set_option maxRecDepth 20000 in
theorem dX10_goHour_51 : decode cX10_goHour 51 = .ok (.getfield 43, 3) := by decide +kernel
set_option maxRecDepth 20000 in
theorem dX10_goHour_54 : decode cX10_goHour 54 = .ok (.iload_n 2, 1) := by decide +kernel
set_option maxRecDepth 20000 in
theorem dX10_goHour_55 : decode cX10_goHour 55 = .ok (.iaload, 1) := by decide +kernel
set_option maxRecDepth 20000 in
theorem dX10_goHour_56 : decode cX10_goHour 56 = .ok (.iload_n 2, 1) := by decide +kernel
set_option maxRecDepth 20000 in
theorem dX10_goHour_57 : decode cX10_goHour 57 = .ok (.if_icmp .ne 8, 3) := by decide +kernel
set_option maxRecDepth 20000 in
theorem dX10_goHour_60 : decode cX10_goHour 60 = .ok (.bipush (-9), 2) := by decide +kernel
set_option maxRecDepth 20000 in
theorem dX10_goHour_62 : decode cX10_goHour 62 = .ok (.goto 9, 3) := by decide +kernel
set_option maxRecDepth 20000 in
theorem dX10_goHour_65 : decode cX10_goHour 65 = .ok (.aload_n 0, 1) := by decide +kernel
set_option maxRecDepth 20000 in
theorem dX10_goHour_66 : decode cX10_goHour 66 = .ok (.getfield 43, 3) := by decide +kernel
set_option maxRecDepth 20000 in
theorem dX10_goHour_69 : decode cX10_goHour 69 = .ok (.iload_n 2, 1) := by decide +kernel
set_option maxRecDepth 20000 in
theorem dX10_goHour_70 : decode cX10_goHour 70 = .ok (.iaload, 1) := by decide +kernel
set_option maxRecDepth 20000 in
theorem dX10_goHour_71 : decode cX10_goHour 71 = .ok (.istore_n 3, 1) := by decide +kernel
set_option maxRecDepth 20000 in
theorem dX10_goHour_72 : decode cX10_goHour 72 = .ok (.aload_n 0, 1) := by decide +kernel
set_option maxRecDepth 20000 in
theorem dX10_goHour_73 : decode cX10_goHour 73 = .ok (.getfield 49, 3) := by decide +kernel
set_option maxRecDepth 20000 in
theorem dX10_goHour_76 : decode cX10_goHour 76 = .ok (.iload_n 2, 1) := by decide +kernel
set_option maxRecDepth 20000 in
theorem dX10_goHour_77 : decode cX10_goHour 77 = .ok (.iload_n 3, 1) := by decide +kernel
set_option maxRecDepth 20000 in
theorem dX10_goHour_78 : decode cX10_goHour 78 = .ok (.ifCond .lt 24, 3) := by decide +kernel
set_option maxRecDepth 20000 in
theorem dX10_goHour_81 : decode cX10_goHour 81 = .ok (.iload_n 3, 1) := by decide +kernel
set_option maxRecDepth 20000 in
theorem dX10_goHour_82 : decode cX10_goHour 82 = .ok (.aload_n 0, 1) := by decide +kernel
set_option maxRecDepth 20000 in
theorem dX10_goHour_83 : decode cX10_goHour 83 = .ok (.getfield 46, 3) := by decide +kernel
set_option maxRecDepth 20000 in
theorem dX10_goHour_86 : decode cX10_goHour 86 = .ok (.iload_n 2, 1) := by decide +kernel
set_option maxRecDepth 20000 in
theorem dX10_goHour_87 : decode cX10_goHour 87 = .ok (.iaload, 1) := by decide +kernel
set_option maxRecDepth 20000 in
theorem dX10_goHour_88 : decode cX10_goHour 88 = .ok (.if_icmp .ne 14, 3) := by decide +kernel
set_option maxRecDepth 20000 in
theorem dX10_goHour_91 : decode cX10_goHour 91 = .ok (.aload_n 0, 1) := by decide +kernel
set_option maxRecDepth 20000 in
theorem dX10_goHour_92 : decode cX10_goHour 92 = .ok (.getfield 49, 3) := by decide +kernel
set_option maxRecDepth 20000 in
theorem dX10_goHour_95 : decode cX10_goHour 95 = .ok (.iload_n 2, 1) := by decide +kernel
set_option maxRecDepth 20000 in
theorem dX10_goHour_96 : decode cX10_goHour 96 = .ok (.iaload, 1) := by decide +kernel
set_option maxRecDepth 20000 in
theorem dX10_goHour_97 : decode cX10_goHour 97 = .ok (.iconst 1, 1) := by decide +kernel
set_option maxRecDepth 20000 in
theorem dX10_goHour_98 : decode cX10_goHour 98 = .ok (.iadd, 1) := by decide +kernel
set_option maxRecDepth 20000 in
theorem dX10_goHour_99 : decode cX10_goHour 99 = .ok (.goto 12, 3) := by decide +kernel
set_option maxRecDepth 20000 in
theorem dX10_goHour_102 : decode cX10_goHour 102 = .ok (.iload_n 3, 1) := by decide +kernel
set_option maxRecDepth 20000 in
theorem dX10_goHour_103 : decode cX10_goHour 103 = .ok (.ifCond .lt 7, 3) := by decide +kernel
set_option maxRecDepth 20000 in
theorem dX10_goHour_106 : decode cX10_goHour 106 = .ok (.iconst 1, 1) := by decide +kernel
set_option maxRecDepth 20000 in
theorem dX10_goHour_107 : decode cX10_goHour 107 = .ok (.goto 4, 3) := by decide +kernel
set_option maxRecDepth 20000 in
theorem dX10_goHour_110 : decode cX10_goHour 110 = .ok (.iconst 0, 1) := by decide +kernel
set_option maxRecDepth 20000 in
theorem dX10_goHour_111 : decode cX10_goHour 111 = .ok (.iastore, 1) := by decide +kernel
set_option maxRecDepth 20000 in
theorem dX10_goHour_112 : decode cX10_goHour 112 = .ok (.aload_n 0, 1) := by decide +kernel
set_option maxRecDepth 20000 in
theorem dX10_goHour_113 : decode cX10_goHour 113 = .ok (.getfield 46, 3) := by decide +kernel
set_option maxRecDepth 20000 in
theorem dX10_goHour_116 : decode cX10_goHour 116 = .ok (.iload_n 2, 1) := by decide +kernel
set_option maxRecDepth 20000 in
theorem dX10_goHour_117 : decode cX10_goHour 117 = .ok (.iload_n 3, 1) := by decide +kernel
set_option maxRecDepth 20000 in
theorem dX10_goHour_118 : decode cX10_goHour 118 = .ok (.iastore, 1) := by decide +kernel
set_option maxRecDepth 20000 in
theorem dX10_goHour_119 : decode cX10_goHour 119 = .ok (.iinc 2 1, 3) := by decide +kernel
set_option maxRecDepth 20000 in
theorem dX10_goHour_122 : decode cX10_goHour 122 = .ok (.goto (-80), 3) := by decide +kernel
set_option maxRecDepth 20000 in
theorem dX10_goHour_125 : decode cX10_goHour 125 = .ok (.return_, 1) := by decide +kernel
set_option maxRecDepth 20000 in
theorem dX10_goTo_0 : decode cX10_goTo 0 = .ok (.aload_n 0, 1) := by decide +kernel
set_option maxRecDepth 20000 in
theorem dX10_goTo_1 : decode cX10_goTo 1 = .ok (.invokevirtual 161, 3) := by decide +kernel
set_option maxRecDepth 20000 in
theorem dX10_goTo_4 : decode cX10_goTo 4 = .ok (.iconst 0, 1) := by decide +kernel
set_option maxRecDepth 20000 in
theorem dX10_goTo_5 : decode cX10_goTo 5 = .ok (.istore_n 2, 1) := by decide +kernel
set_option maxRecDepth 20000 in
theorem dX10_goTo_6 : decode cX10_goTo 6 = .ok (.iload_n 2, 1) := by decide +kernel
set_option maxRecDepth 20000 in
theorem dX10_goTo_7 : decode cX10_goTo 7 = .ok (.iload_n 1, 1) := by decide +kernel
set_option maxRecDepth 20000 in
theorem dX10_goTo_8 : decode cX10_goTo 8 = .ok (.if_icmp .gt 18, 3) := by decide +kernel
set_option maxRecDepth 20000 in
theorem dX10_goTo_11 : decode cX10_goTo 11 = .ok (.aload_n 0, 1) := by decide +kernel
set_option maxRecDepth 20000 in
theorem dX10_goTo_12 : decode cX10_goTo 12 = .ok (.aload_n 0, 1) := by decide +kernel
set_option maxRecDepth 20000 in
theorem dX10_goTo_13 : decode cX10_goTo 13 = .ok (.iload_n 2, 1) := by decide +kernel
set_option maxRecDepth 20000 in
theorem dX10_goTo_14 : decode cX10_goTo 14 = .ok (.invokevirtual 164, 3) := by decide +kernel
set_option maxRecDepth 20000 in
theorem dX10_goTo_17 : decode cX10_goTo 17 = .ok (.invokevirtual 167, 3) := by decide +kernel
set_option maxRecDepth 20000 in
theorem dX10_goTo_20 : decode cX10_goTo 20 = .ok (.iinc 2 1, 3) := by decide +kernel
set_option maxRecDepth 20000 in
theorem dX10_goTo_23 : decode cX10_goTo 23 = .ok (.goto (-17), 3) := by decide +kernel
set_option maxRecDepth 20000 in
theorem dX10_goTo_26 : decode cX10_goTo 26 = .ok (.return_, 1) := by decide +kernel
set_option maxRecDepth 20000 in
theorem dX10_goFirst_0 : decode cX10_goFirst 0 = .ok (.aload_n 0, 1) := by decide +kernel
set_option maxRecDepth 20000 in
theorem dX10_goFirst_1 : decode cX10_goFirst 1 = .ok (.invokevirtual 161, 3) := by decide +kernel
set_option maxRecDepth 20000 in
theorem dX10_goFirst_4 : decode cX10_goFirst 4 = .ok (.aload_n 0, 1) := by decide +kernel
set_option maxRecDepth 20000 in
theorem dX10_goFirst_5 : decode cX10_goFirst 5 = .ok (.iload_n 1, 1) := by decide +kernel
set_option maxRecDepth 20000 in
theorem dX10_goFirst_6 : decode cX10_goFirst 6 = .ok (.invokevirtual 167, 3) := by decide +kernel
set_option maxRecDepth 20000 in
theorem dX10_goFirst_9 : decode cX10_goFirst 9 = .ok (.return_, 1) := by decide +kernel
set_option maxRecDepth 20000 in
theorem dX10_undoneNow_0 : decode cX10_undoneNow 0 = .ok (.iconst 0, 1) := by decide +kernel
set_option maxRecDepth 20000 in
theorem dX10_undoneNow_1 : decode cX10_undoneNow 1 = .ok (.istore_n 1, 1) := by decide +kernel
set_option maxRecDepth 20000 in
theorem dX10_undoneNow_2 : decode cX10_undoneNow 2 = .ok (.iconst 0, 1) := by decide +kernel
set_option maxRecDepth 20000 in
theorem dX10_undoneNow_3 : decode cX10_undoneNow 3 = .ok (.istore_n 2, 1) := by decide +kernel
set_option maxRecDepth 20000 in
theorem dX10_undoneNow_4 : decode cX10_undoneNow 4 = .ok (.iload_n 2, 1) := by decide +kernel
set_option maxRecDepth 20000 in
theorem dX10_undoneNow_5 : decode cX10_undoneNow 5 = .ok (.aload_n 0, 1) := by decide +kernel
set_option maxRecDepth 20000 in
theorem dX10_undoneNow_6 : decode cX10_undoneNow 6 = .ok (.getfield 80, 3) := by decide +kernel
set_option maxRecDepth 20000 in
theorem dX10_undoneNow_9 : decode cX10_undoneNow 9 = .ok (.if_icmp .ge 28, 3) := by decide +kernel
set_option maxRecDepth 20000 in
theorem dX10_undoneNow_12 : decode cX10_undoneNow 12 = .ok (.iload_n 1, 1) := by decide +kernel
set_option maxRecDepth 20000 in
theorem dX10_undoneNow_13 : decode cX10_undoneNow 13 = .ok (.aload_n 0, 1) := by decide +kernel
set_option maxRecDepth 20000 in
theorem dX10_undoneNow_14 : decode cX10_undoneNow 14 = .ok (.getfield 43, 3) := by decide +kernel
set_option maxRecDepth 20000 in
theorem dX10_undoneNow_17 : decode cX10_undoneNow 17 = .ok (.iload_n 2, 1) := by decide +kernel
set_option maxRecDepth 20000 in
theorem dX10_undoneNow_18 : decode cX10_undoneNow 18 = .ok (.iaload, 1) := by decide +kernel
set_option maxRecDepth 20000 in
theorem dX10_undoneNow_19 : decode cX10_undoneNow 19 = .ok (.ifCond .ge 9, 3) := by decide +kernel
set_option maxRecDepth 20000 in
theorem dX10_undoneNow_22 : decode cX10_undoneNow 22 = .ok (.iconst 1, 1) := by decide +kernel
set_option maxRecDepth 20000 in
theorem dX10_undoneNow_23 : decode cX10_undoneNow 23 = .ok (.iload_n 2, 1) := by decide +kernel
set_option maxRecDepth 20000 in
theorem dX10_undoneNow_24 : decode cX10_undoneNow 24 = .ok (.ishl, 1) := by decide +kernel
set_option maxRecDepth 20000 in
theorem dX10_undoneNow_25 : decode cX10_undoneNow 25 = .ok (.goto 4, 3) := by decide +kernel
set_option maxRecDepth 20000 in
theorem dX10_undoneNow_28 : decode cX10_undoneNow 28 = .ok (.iconst 0, 1) := by decide +kernel
set_option maxRecDepth 20000 in
theorem dX10_undoneNow_29 : decode cX10_undoneNow 29 = .ok (.ior, 1) := by decide +kernel
set_option maxRecDepth 20000 in
theorem dX10_undoneNow_30 : decode cX10_undoneNow 30 = .ok (.istore_n 1, 1) := by decide +kernel
set_option maxRecDepth 20000 in
theorem dX10_undoneNow_31 : decode cX10_undoneNow 31 = .ok (.iinc 2 1, 3) := by decide +kernel
set_option maxRecDepth 20000 in
theorem dX10_undoneNow_34 : decode cX10_undoneNow 34 = .ok (.goto (-30), 3) := by decide +kernel
set_option maxRecDepth 20000 in
theorem dX10_undoneNow_37 : decode cX10_undoneNow 37 = .ok (.iload_n 1, 1) := by decide +kernel
set_option maxRecDepth 20000 in
theorem dX10_undoneNow_38 : decode cX10_undoneNow 38 = .ok (.ireturn, 1) := by decide +kernel
set_option maxRecDepth 20000 in
theorem dX10_servesNow_0 : decode cX10_servesNow 0 = .ok (.iconst 0, 1) := by decide +kernel
set_option maxRecDepth 20000 in
theorem dX10_servesNow_1 : decode cX10_servesNow 1 = .ok (.istore_n 1, 1) := by decide +kernel
set_option maxRecDepth 20000 in
theorem dX10_servesNow_2 : decode cX10_servesNow 2 = .ok (.iconst 0, 1) := by decide +kernel
set_option maxRecDepth 20000 in
theorem dX10_servesNow_3 : decode cX10_servesNow 3 = .ok (.istore_n 2, 1) := by decide +kernel
set_option maxRecDepth 20000 in
theorem dX10_servesNow_4 : decode cX10_servesNow 4 = .ok (.iload_n 2, 1) := by decide +kernel
set_option maxRecDepth 20000 in
theorem dX10_servesNow_5 : decode cX10_servesNow 5 = .ok (.aload_n 0, 1) := by decide +kernel
set_option maxRecDepth 20000 in
theorem dX10_servesNow_6 : decode cX10_servesNow 6 = .ok (.getfield 80, 3) := by decide +kernel
set_option maxRecDepth 20000 in
theorem dX10_servesNow_9 : decode cX10_servesNow 9 = .ok (.if_icmp .ge 61, 3) := by decide +kernel
set_option maxRecDepth 20000 in
theorem dX10_servesNow_12 : decode cX10_servesNow 12 = .ok (.aload_n 0, 1) := by decide +kernel
set_option maxRecDepth 20000 in
theorem dX10_servesNow_13 : decode cX10_servesNow 13 = .ok (.getfield 43, 3) := by decide +kernel
set_option maxRecDepth 20000 in
theorem dX10_servesNow_16 : decode cX10_servesNow 16 = .ok (.iload_n 2, 1) := by decide +kernel
set_option maxRecDepth 20000 in
theorem dX10_servesNow_17 : decode cX10_servesNow 17 = .ok (.iaload, 1) := by decide +kernel
set_option maxRecDepth 20000 in
theorem dX10_servesNow_18 : decode cX10_servesNow 18 = .ok (.istore_n 3, 1) := by decide +kernel
set_option maxRecDepth 20000 in
theorem dX10_servesNow_19 : decode cX10_servesNow 19 = .ok (.iload_n 3, 1) := by decide +kernel
set_option maxRecDepth 20000 in
theorem dX10_servesNow_20 : decode cX10_servesNow 20 = .ok (.ifCond .ge 7, 3) := by decide +kernel
set_option maxRecDepth 20000 in
theorem dX10_servesNow_23 : decode cX10_servesNow 23 = .ok (.iconst 0, 1) := by decide +kernel
set_option maxRecDepth 20000 in
theorem dX10_servesNow_24 : decode cX10_servesNow 24 = .ok (.goto 11, 3) := by decide +kernel
set_option maxRecDepth 20000 in
theorem dX10_servesNow_27 : decode cX10_servesNow 27 = .ok (.bipush 10, 2) := by decide +kernel
set_option maxRecDepth 20000 in
theorem dX10_servesNow_29 : decode cX10_servesNow 29 = .ok (.aload_n 0, 1) := by decide +kernel
set_option maxRecDepth 20000 in
theorem dX10_servesNow_30 : decode cX10_servesNow 30 = .ok (.iload_n 3, 1) := by decide +kernel
set_option maxRecDepth 20000 in
theorem dX10_servesNow_31 : decode cX10_servesNow 31 = .ok (.invokevirtual 143, 3) := by decide +kernel
set_option maxRecDepth 20000 in
theorem dX10_servesNow_34 : decode cX10_servesNow 34 = .ok (.imul, 1) := by decide +kernel
set_option maxRecDepth 20000 in
theorem dX10_servesNow_35 : decode cX10_servesNow 35 = .ok (.istore 4, 2) := by decide +kernel
set_option maxRecDepth 20000 in
theorem dX10_servesNow_37 : decode cX10_servesNow 37 = .ok (.iload_n 1, 1) := by decide +kernel
set_option maxRecDepth 20000 in
theorem dX10_servesNow_38 : decode cX10_servesNow 38 = .ok (.iload_n 3, 1) := by decide +kernel
set_option maxRecDepth 20000 in
theorem dX10_servesNow_39 : decode cX10_servesNow 39 = .ok (.iload_n 2, 1) := by decide +kernel
set_option maxRecDepth 20000 in
theorem dX10_servesNow_40 : decode cX10_servesNow 40 = .ok (.if_icmp .ne 8, 3) := by decide +kernel
set_option maxRecDepth 20000 in
theorem dX10_servesNow_43 : decode cX10_servesNow 43 = .ok (.bipush 100, 2) := by decide +kernel
set_option maxRecDepth 20000 in
theorem dX10_servesNow_45 : decode cX10_servesNow 45 = .ok (.goto 17, 3) := by decide +kernel
set_option maxRecDepth 20000 in
theorem dX10_servesNow_48 : decode cX10_servesNow 48 = .ok (.iload 4, 2) := by decide +kernel
set_option maxRecDepth 20000 in
theorem dX10_servesNow_50 : decode cX10_servesNow 50 = .ok (.bipush 99, 2) := by decide +kernel
set_option maxRecDepth 20000 in
theorem dX10_servesNow_52 : decode cX10_servesNow 52 = .ok (.if_icmp .le 8, 3) := by decide +kernel
set_option maxRecDepth 20000 in
theorem dX10_servesNow_55 : decode cX10_servesNow 55 = .ok (.bipush 99, 2) := by decide +kernel
set_option maxRecDepth 20000 in
theorem dX10_servesNow_57 : decode cX10_servesNow 57 = .ok (.goto 5, 3) := by decide +kernel
set_option maxRecDepth 20000 in
theorem dX10_servesNow_60 : decode cX10_servesNow 60 = .ok (.iload 4, 2) := by decide +kernel
set_option maxRecDepth 20000 in
theorem dX10_servesNow_62 : decode cX10_servesNow 62 = .ok (.iadd, 1) := by decide +kernel
set_option maxRecDepth 20000 in
theorem dX10_servesNow_63 : decode cX10_servesNow 63 = .ok (.istore_n 1, 1) := by decide +kernel
set_option maxRecDepth 20000 in
theorem dX10_servesNow_64 : decode cX10_servesNow 64 = .ok (.iinc 2 1, 3) := by decide +kernel
set_option maxRecDepth 20000 in
theorem dX10_servesNow_67 : decode cX10_servesNow 67 = .ok (.goto (-63), 3) := by decide +kernel
set_option maxRecDepth 20000 in
theorem dX10_servesNow_70 : decode cX10_servesNow 70 = .ok (.iload_n 1, 1) := by decide +kernel
set_option maxRecDepth 20000 in
theorem dX10_servesNow_71 : decode cX10_servesNow 71 = .ok (.ireturn, 1) := by decide +kernel
set_option maxRecDepth 20000 in
theorem dX10_by_0 : decode cX10_by 0 = .ok (.aload_n 0, 1) := by decide +kernel
set_option maxRecDepth 20000 in
theorem dX10_by_1 : decode cX10_by 1 = .ok (.iload_n 1, 1) := by decide +kernel
set_option maxRecDepth 20000 in
theorem dX10_by_2 : decode cX10_by 2 = .ok (.invokevirtual 140, 3) := by decide +kernel
set_option maxRecDepth 20000 in
theorem dX10_by_5 : decode cX10_by 5 = .ok (.ifCond .eq 5, 3) := by decide +kernel
set_option maxRecDepth 20000 in
theorem dX10_by_8 : decode cX10_by 8 = .ok (.iconst (-1), 1) := by decide +kernel
set_option maxRecDepth 20000 in
theorem dX10_by_9 : decode cX10_by 9 = .ok (.ireturn, 1) := by decide +kernel
set_option maxRecDepth 20000 in
theorem dX10_by_10 : decode cX10_by 10 = .ok (.iload_n 2, 1) := by decide +kernel
set_option maxRecDepth 20000 in
theorem dX10_by_11 : decode cX10_by 11 = .ok (.invokestatic 146, 3) := by decide +kernel
set_option maxRecDepth 20000 in
theorem dX10_by_14 : decode cX10_by 14 = .ok (.ifCond .ne 6, 3) := by decide +kernel
set_option maxRecDepth 20000 in
theorem dX10_by_17 : decode cX10_by 17 = .ok (.bipush (-2), 2) := by decide +kernel
set_option maxRecDepth 20000 in
theorem dX10_by_19 : decode cX10_by 19 = .ok (.ireturn, 1) := by decide +kernel
set_option maxRecDepth 20000 in
theorem dX10_by_20 : decode cX10_by 20 = .ok (.aload_n 0, 1) := by decide +kernel
set_option maxRecDepth 20000 in
theorem dX10_by_21 : decode cX10_by 21 = .ok (.iload_n 2, 1) := by decide +kernel
set_option maxRecDepth 20000 in
theorem dX10_by_22 : decode cX10_by 22 = .ok (.invokevirtual 171, 3) := by decide +kernel
set_option maxRecDepth 20000 in
theorem dX10_by_25 : decode cX10_by 25 = .ok (.aload_n 0, 1) := by decide +kernel
set_option maxRecDepth 20000 in
theorem dX10_by_26 : decode cX10_by 26 = .ok (.getfield 43, 3) := by decide +kernel
set_option maxRecDepth 20000 in
theorem dX10_by_29 : decode cX10_by 29 = .ok (.iload_n 1, 1) := by decide +kernel
set_option maxRecDepth 20000 in
theorem dX10_by_30 : decode cX10_by 30 = .ok (.iaload, 1) := by decide +kernel
set_option maxRecDepth 20000 in
theorem dX10_by_31 : decode cX10_by 31 = .ok (.ireturn, 1) := by decide +kernel
set_option maxRecDepth 20000 in
theorem dX10_refusedFor_0 : decode cX10_refusedFor 0 = .ok (.iload_n 1, 1) := by decide +kernel
set_option maxRecDepth 20000 in
theorem dX10_refusedFor_1 : decode cX10_refusedFor 1 = .ok (.invokestatic 146, 3) := by decide +kernel
set_option maxRecDepth 20000 in
theorem dX10_refusedFor_4 : decode cX10_refusedFor 4 = .ok (.ifCond .ne 8, 3) := by decide +kernel
set_option maxRecDepth 20000 in
theorem dX10_refusedFor_7 : decode cX10_refusedFor 7 = .ok (.bipush (-2), 2) := by decide +kernel
set_option maxRecDepth 20000 in
theorem dX10_refusedFor_9 : decode cX10_refusedFor 9 = .ok (.goto 16, 3) := by decide +kernel
set_option maxRecDepth 20000 in
theorem dX10_refusedFor_12 : decode cX10_refusedFor 12 = .ok (.aload_n 0, 1) := by decide +kernel
set_option maxRecDepth 20000 in
theorem dX10_refusedFor_13 : decode cX10_refusedFor 13 = .ok (.getfield 80, 3) := by decide +kernel
set_option maxRecDepth 20000 in
theorem dX10_refusedFor_16 : decode cX10_refusedFor 16 = .ok (.ifCond .ne 8, 3) := by decide +kernel
set_option maxRecDepth 20000 in
theorem dX10_refusedFor_19 : decode cX10_refusedFor 19 = .ok (.bipush (-3), 2) := by decide +kernel
set_option maxRecDepth 20000 in
theorem dX10_refusedFor_21 : decode cX10_refusedFor 21 = .ok (.goto 4, 3) := by decide +kernel
set_option maxRecDepth 20000 in
theorem dX10_refusedFor_24 : decode cX10_refusedFor 24 = .ok (.iconst 0, 1) := by decide +kernel
set_option maxRecDepth 20000 in
theorem dX10_refusedFor_25 : decode cX10_refusedFor 25 = .ok (.ireturn, 1) := by decide +kernel
set_option maxRecDepth 20000 in
theorem dX10_undone_0 : decode cX10_undone 0 = .ok (.aload_n 0, 1) := by decide +kernel
set_option maxRecDepth 20000 in
theorem dX10_undone_1 : decode cX10_undone 1 = .ok (.iload_n 1, 1) := by decide +kernel
set_option maxRecDepth 20000 in
theorem dX10_undone_2 : decode cX10_undone 2 = .ok (.invokevirtual 174, 3) := by decide +kernel
set_option maxRecDepth 20000 in
theorem dX10_undone_5 : decode cX10_undone 5 = .ok (.istore_n 2, 1) := by decide +kernel
set_option maxRecDepth 20000 in
theorem dX10_undone_6 : decode cX10_undone 6 = .ok (.iload_n 2, 1) := by decide +kernel
set_option maxRecDepth 20000 in
theorem dX10_undone_7 : decode cX10_undone 7 = .ok (.ifCond .ge 5, 3) := by decide +kernel
set_option maxRecDepth 20000 in
theorem dX10_undone_10 : decode cX10_undone 10 = .ok (.iload_n 2, 1) := by decide +kernel
set_option maxRecDepth 20000 in
theorem dX10_undone_11 : decode cX10_undone 11 = .ok (.ireturn, 1) := by decide +kernel
set_option maxRecDepth 20000 in
theorem dX10_undone_12 : decode cX10_undone 12 = .ok (.aload_n 0, 1) := by decide +kernel
set_option maxRecDepth 20000 in
theorem dX10_undone_13 : decode cX10_undone 13 = .ok (.iload_n 1, 1) := by decide +kernel
set_option maxRecDepth 20000 in
theorem dX10_undone_14 : decode cX10_undone 14 = .ok (.invokevirtual 171, 3) := by decide +kernel
set_option maxRecDepth 20000 in
theorem dX10_undone_17 : decode cX10_undone 17 = .ok (.aload_n 0, 1) := by decide +kernel
set_option maxRecDepth 20000 in
theorem dX10_undone_18 : decode cX10_undone 18 = .ok (.invokevirtual 177, 3) := by decide +kernel
set_option maxRecDepth 20000 in
theorem dX10_undone_21 : decode cX10_undone 21 = .ok (.ireturn, 1) := by decide +kernel
set_option maxRecDepth 20000 in
theorem dX10_serves_0 : decode cX10_serves 0 = .ok (.aload_n 0, 1) := by decide +kernel
set_option maxRecDepth 20000 in
theorem dX10_serves_1 : decode cX10_serves 1 = .ok (.iload_n 1, 1) := by decide +kernel
set_option maxRecDepth 20000 in
theorem dX10_serves_2 : decode cX10_serves 2 = .ok (.invokevirtual 174, 3) := by decide +kernel
set_option maxRecDepth 20000 in
theorem dX10_serves_5 : decode cX10_serves 5 = .ok (.istore_n 2, 1) := by decide +kernel
set_option maxRecDepth 20000 in
theorem dX10_serves_6 : decode cX10_serves 6 = .ok (.iload_n 2, 1) := by decide +kernel
set_option maxRecDepth 20000 in
theorem dX10_serves_7 : decode cX10_serves 7 = .ok (.ifCond .ge 5, 3) := by decide +kernel
set_option maxRecDepth 20000 in
theorem dX10_serves_10 : decode cX10_serves 10 = .ok (.iload_n 2, 1) := by decide +kernel
set_option maxRecDepth 20000 in
theorem dX10_serves_11 : decode cX10_serves 11 = .ok (.ireturn, 1) := by decide +kernel
set_option maxRecDepth 20000 in
theorem dX10_serves_12 : decode cX10_serves 12 = .ok (.aload_n 0, 1) := by decide +kernel
set_option maxRecDepth 20000 in
theorem dX10_serves_13 : decode cX10_serves 13 = .ok (.iload_n 1, 1) := by decide +kernel
set_option maxRecDepth 20000 in
theorem dX10_serves_14 : decode cX10_serves 14 = .ok (.invokevirtual 171, 3) := by decide +kernel
set_option maxRecDepth 20000 in
theorem dX10_serves_17 : decode cX10_serves 17 = .ok (.aload_n 0, 1) := by decide +kernel
set_option maxRecDepth 20000 in
theorem dX10_serves_18 : decode cX10_serves 18 = .ok (.invokevirtual 181, 3) := by decide +kernel
set_option maxRecDepth 20000 in
theorem dX10_serves_21 : decode cX10_serves 21 = .ok (.ireturn, 1) := by decide +kernel
set_option maxRecDepth 20000 in
theorem dX10_ring_0 : decode cX10_ring 0 = .ok (.aload_n 0, 1) := by decide +kernel
set_option maxRecDepth 20000 in
theorem dX10_ring_1 : decode cX10_ring 1 = .ok (.getfield 80, 3) := by decide +kernel
set_option maxRecDepth 20000 in
theorem dX10_ring_4 : decode cX10_ring 4 = .ok (.ifCond .ne 6, 3) := by decide +kernel
set_option maxRecDepth 20000 in
theorem dX10_ring_7 : decode cX10_ring 7 = .ok (.bipush (-3), 2) := by decide +kernel
set_option maxRecDepth 20000 in
theorem dX10_ring_9 : decode cX10_ring 9 = .ok (.ireturn, 1) := by decide +kernel
set_option maxRecDepth 20000 in
theorem dX10_ring_10 : decode cX10_ring 10 = .ok (.iconst 0, 1) := by decide +kernel
set_option maxRecDepth 20000 in
theorem dX10_ring_11 : decode cX10_ring 11 = .ok (.istore_n 1, 1) := by decide +kernel
set_option maxRecDepth 20000 in
theorem dX10_ring_12 : decode cX10_ring 12 = .ok (.iconst 0, 1) := by decide +kernel
set_option maxRecDepth 20000 in
theorem dX10_ring_13 : decode cX10_ring 13 = .ok (.istore_n 2, 1) := by decide +kernel
set_option maxRecDepth 20000 in
theorem dX10_ring_14 : decode cX10_ring 14 = .ok (.iload_n 2, 1) := by decide +kernel
set_option maxRecDepth 20000 in
theorem dX10_ring_15 : decode cX10_ring 15 = .ok (.aload_n 0, 1) := by decide +kernel
set_option maxRecDepth 20000 in
theorem dX10_ring_16 : decode cX10_ring 16 = .ok (.getfield 80, 3) := by decide +kernel
set_option maxRecDepth 20000 in
theorem dX10_ring_19 : decode cX10_ring 19 = .ok (.if_icmp .ge 51, 3) := by decide +kernel
set_option maxRecDepth 20000 in
theorem dX10_ring_22 : decode cX10_ring 22 = .ok (.iload_n 2, 1) := by decide +kernel
set_option maxRecDepth 20000 in
theorem dX10_ring_23 : decode cX10_ring 23 = .ok (.istore_n 3, 1) := by decide +kernel
set_option maxRecDepth 20000 in
theorem dX10_ring_24 : decode cX10_ring 24 = .ok (.iconst 0, 1) := by decide +kernel
set_option maxRecDepth 20000 in
theorem dX10_ring_25 : decode cX10_ring 25 = .ok (.istore 4, 2) := by decide +kernel
set_option maxRecDepth 20000 in
theorem dX10_ring_27 : decode cX10_ring 27 = .ok (.iload 4, 2) := by decide +kernel
set_option maxRecDepth 20000 in
theorem dX10_ring_29 : decode cX10_ring 29 = .ok (.aload_n 0, 1) := by decide +kernel
set_option maxRecDepth 20000 in
theorem dX10_ring_30 : decode cX10_ring 30 = .ok (.getfield 80, 3) := by decide +kernel
set_option maxRecDepth 20000 in
theorem dX10_ring_33 : decode cX10_ring 33 = .ok (.if_icmp .ge 31, 3) := by decide +kernel
set_option maxRecDepth 20000 in
theorem dX10_ring_36 : decode cX10_ring 36 = .ok (.aload_n 0, 1) := by decide +kernel
set_option maxRecDepth 20000 in
theorem dX10_ring_37 : decode cX10_ring 37 = .ok (.getfield 13, 3) := by decide +kernel
set_option maxRecDepth 20000 in
theorem dX10_ring_40 : decode cX10_ring 40 = .ok (.iload_n 3, 1) := by decide +kernel
set_option maxRecDepth 20000 in
theorem dX10_ring_41 : decode cX10_ring 41 = .ok (.iaload, 1) := by decide +kernel
set_option maxRecDepth 20000 in
theorem dX10_ring_42 : decode cX10_ring 42 = .ok (.istore_n 3, 1) := by decide +kernel
set_option maxRecDepth 20000 in
theorem dX10_ring_43 : decode cX10_ring 43 = .ok (.iload_n 1, 1) := by decide +kernel
set_option maxRecDepth 20000 in
theorem dX10_ring_44 : decode cX10_ring 44 = .ok (.iload_n 3, 1) := by decide +kernel
set_option maxRecDepth 20000 in
theorem dX10_ring_45 : decode cX10_ring 45 = .ok (.iload_n 2, 1) := by decide +kernel
set_option maxRecDepth 20000 in
theorem dX10_ring_46 : decode cX10_ring 46 = .ok (.if_icmp .ne 9, 3) := by decide +kernel
set_option maxRecDepth 20000 in
theorem dX10_ring_49 : decode cX10_ring 49 = .ok (.iconst 1, 1) := by decide +kernel
set_option maxRecDepth 20000 in
theorem dX10_ring_50 : decode cX10_ring 50 = .ok (.iload_n 2, 1) := by decide +kernel
set_option maxRecDepth 20000 in
theorem dX10_ring_51 : decode cX10_ring 51 = .ok (.ishl, 1) := by decide +kernel
set_option maxRecDepth 20000 in
theorem dX10_ring_52 : decode cX10_ring 52 = .ok (.goto 4, 3) := by decide +kernel
set_option maxRecDepth 20000 in
theorem dX10_ring_55 : decode cX10_ring 55 = .ok (.iconst 0, 1) := by decide +kernel
set_option maxRecDepth 20000 in
theorem dX10_ring_56 : decode cX10_ring 56 = .ok (.ior, 1) := by decide +kernel
set_option maxRecDepth 20000 in
theorem dX10_ring_57 : decode cX10_ring 57 = .ok (.istore_n 1, 1) := by decide +kernel
set_option maxRecDepth 20000 in
theorem dX10_ring_58 : decode cX10_ring 58 = .ok (.iinc 4 1, 3) := by decide +kernel
set_option maxRecDepth 20000 in
theorem dX10_ring_61 : decode cX10_ring 61 = .ok (.goto (-34), 3) := by decide +kernel
set_option maxRecDepth 20000 in
theorem dX10_ring_64 : decode cX10_ring 64 = .ok (.iinc 2 1, 3) := by decide +kernel
set_option maxRecDepth 20000 in
theorem dX10_ring_67 : decode cX10_ring 67 = .ok (.goto (-53), 3) := by decide +kernel
set_option maxRecDepth 20000 in
theorem dX10_ring_70 : decode cX10_ring 70 = .ok (.iload_n 1, 1) := by decide +kernel
set_option maxRecDepth 20000 in
theorem dX10_ring_71 : decode cX10_ring 71 = .ok (.ireturn, 1) := by decide +kernel
set_option maxRecDepth 20000 in
theorem dX10_first_0 : decode cX10_first 0 = .ok (.iload_n 1, 1) := by decide +kernel
set_option maxRecDepth 20000 in
theorem dX10_first_1 : decode cX10_first 1 = .ok (.i2l, 1) := by decide +kernel
set_option maxRecDepth 20000 in
theorem dX10_first_2 : decode cX10_first 2 = .ok (.lconst 0, 1) := by decide +kernel
set_option maxRecDepth 20000 in
theorem dX10_first_3 : decode cX10_first 3 = .ok (.lconst 1, 1) := by decide +kernel
set_option maxRecDepth 20000 in
theorem dX10_first_4 : decode cX10_first 4 = .ok (.invokestatic 83, 3) := by decide +kernel
set_option maxRecDepth 20000 in
theorem dX10_first_7 : decode cX10_first 7 = .ok (.ifCond .ne 6, 3) := by decide +kernel
set_option maxRecDepth 20000 in
theorem dX10_first_10 : decode cX10_first 10 = .ok (.bipush (-2), 2) := by decide +kernel
set_option maxRecDepth 20000 in
theorem dX10_first_12 : decode cX10_first 12 = .ok (.ireturn, 1) := by decide +kernel
set_option maxRecDepth 20000 in
theorem dX10_first_13 : decode cX10_first 13 = .ok (.aload_n 0, 1) := by decide +kernel
set_option maxRecDepth 20000 in
theorem dX10_first_14 : decode cX10_first 14 = .ok (.getfield 80, 3) := by decide +kernel
set_option maxRecDepth 20000 in
theorem dX10_first_17 : decode cX10_first 17 = .ok (.ifCond .ne 6, 3) := by decide +kernel
set_option maxRecDepth 20000 in
theorem dX10_first_20 : decode cX10_first 20 = .ok (.bipush (-3), 2) := by decide +kernel
set_option maxRecDepth 20000 in
theorem dX10_first_22 : decode cX10_first 22 = .ok (.ireturn, 1) := by decide +kernel
set_option maxRecDepth 20000 in
theorem dX10_first_23 : decode cX10_first 23 = .ok (.aload_n 0, 1) := by decide +kernel
set_option maxRecDepth 20000 in
theorem dX10_first_24 : decode cX10_first 24 = .ok (.invokevirtual 161, 3) := by decide +kernel
set_option maxRecDepth 20000 in
theorem dX10_first_27 : decode cX10_first 27 = .ok (.iconst 0, 1) := by decide +kernel
set_option maxRecDepth 20000 in
theorem dX10_first_28 : decode cX10_first 28 = .ok (.istore_n 2, 1) := by decide +kernel
set_option maxRecDepth 20000 in
theorem dX10_first_29 : decode cX10_first 29 = .ok (.iload_n 2, 1) := by decide +kernel
set_option maxRecDepth 20000 in
theorem dX10_first_30 : decode cX10_first 30 = .ok (.bipush 30, 2) := by decide +kernel
set_option maxRecDepth 20000 in
theorem dX10_first_32 : decode cX10_first 32 = .ok (.if_icmp .ge 56, 3) := by decide +kernel
set_option maxRecDepth 20000 in
theorem dX10_first_35 : decode cX10_first 35 = .ok (.aload_n 0, 1) := by decide +kernel
set_option maxRecDepth 20000 in
theorem dX10_first_36 : decode cX10_first 36 = .ok (.aload_n 0, 1) := by decide +kernel
set_option maxRecDepth 20000 in
theorem dX10_first_37 : decode cX10_first 37 = .ok (.iload_n 2, 1) := by decide +kernel
set_option maxRecDepth 20000 in
theorem dX10_first_38 : decode cX10_first 38 = .ok (.invokevirtual 164, 3) := by decide +kernel
set_option maxRecDepth 20000 in
theorem dX10_first_41 : decode cX10_first 41 = .ok (.invokevirtual 167, 3) := by decide +kernel
set_option maxRecDepth 20000 in
theorem dX10_first_44 : decode cX10_first 44 = .ok (.aload_n 0, 1) := by decide +kernel
set_option maxRecDepth 20000 in
theorem dX10_first_45 : decode cX10_first 45 = .ok (.invokevirtual 177, 3) := by decide +kernel
set_option maxRecDepth 20000 in
theorem dX10_first_48 : decode cX10_first 48 = .ok (.istore_n 3, 1) := by decide +kernel
set_option maxRecDepth 20000 in
theorem dX10_first_49 : decode cX10_first 49 = .ok (.iload_n 3, 1) := by decide +kernel
set_option maxRecDepth 20000 in
theorem dX10_first_50 : decode cX10_first 50 = .ok (.ifCond .eq 32, 3) := by decide +kernel
set_option maxRecDepth 20000 in
theorem dX10_first_53 : decode cX10_first 53 = .ok (.iconst 0, 1) := by decide +kernel
set_option maxRecDepth 20000 in
theorem dX10_first_54 : decode cX10_first 54 = .ok (.istore 4, 2) := by decide +kernel
set_option maxRecDepth 20000 in
theorem dX10_first_56 : decode cX10_first 56 = .ok (.iload_n 3, 1) := by decide +kernel
set_option maxRecDepth 20000 in
theorem dX10_first_57 : decode cX10_first 57 = .ok (.iload 4, 2) := by decide +kernel
set_option maxRecDepth 20000 in
theorem dX10_first_59 : decode cX10_first 59 = .ok (.invokestatic 149, 3) := by decide +kernel
set_option maxRecDepth 20000 in
theorem dX10_first_62 : decode cX10_first 62 = .ok (.ifCond .ne 9, 3) := by decide +kernel
set_option maxRecDepth 20000 in
theorem dX10_first_65 : decode cX10_first 65 = .ok (.iinc 4 1, 3) := by decide +kernel
set_option maxRecDepth 20000 in
theorem dX10_first_68 : decode cX10_first 68 = .ok (.goto (-12), 3) := by decide +kernel
set_option maxRecDepth 20000 in
theorem dX10_first_71 : decode cX10_first 71 = .ok (.iload_n 1, 1) := by decide +kernel
set_option maxRecDepth 20000 in
theorem dX10_first_72 : decode cX10_first 72 = .ok (.ifCond .ne 7, 3) := by decide +kernel
set_option maxRecDepth 20000 in
theorem dX10_first_75 : decode cX10_first 75 = .ok (.iload_n 2, 1) := by decide +kernel
set_option maxRecDepth 20000 in
theorem dX10_first_76 : decode cX10_first 76 = .ok (.goto 5, 3) := by decide +kernel
set_option maxRecDepth 20000 in
theorem dX10_first_79 : decode cX10_first 79 = .ok (.iload 4, 2) := by decide +kernel
set_option maxRecDepth 20000 in
theorem dX10_first_81 : decode cX10_first 81 = .ok (.ireturn, 1) := by decide +kernel
set_option maxRecDepth 20000 in
theorem dX10_first_82 : decode cX10_first 82 = .ok (.iinc 2 1, 3) := by decide +kernel
set_option maxRecDepth 20000 in
theorem dX10_first_85 : decode cX10_first 85 = .ok (.goto (-56), 3) := by decide +kernel
set_option maxRecDepth 20000 in
theorem dX10_first_88 : decode cX10_first 88 = .ok (.bipush (-9), 2) := by decide +kernel
set_option maxRecDepth 20000 in
theorem dX10_first_90 : decode cX10_first 90 = .ok (.ireturn, 1) := by decide +kernel
set_option maxRecDepth 20000 in
theorem dX10_undoneBy_0 : decode cX10_undoneBy 0 = .ok (.aload_n 0, 1) := by decide +kernel
set_option maxRecDepth 20000 in
theorem dX10_undoneBy_1 : decode cX10_undoneBy 1 = .ok (.iload_n 1, 1) := by decide +kernel
set_option maxRecDepth 20000 in
theorem dX10_undoneBy_2 : decode cX10_undoneBy 2 = .ok (.invokevirtual 184, 3) := by decide +kernel
set_option maxRecDepth 20000 in
theorem dX10_undoneBy_5 : decode cX10_undoneBy 5 = .ok (.aload_n 0, 1) := by decide +kernel
set_option maxRecDepth 20000 in
theorem dX10_undoneBy_6 : decode cX10_undoneBy 6 = .ok (.invokevirtual 177, 3) := by decide +kernel
set_option maxRecDepth 20000 in
theorem dX10_undoneBy_9 : decode cX10_undoneBy 9 = .ok (.invokestatic 187, 3) := by decide +kernel
set_option maxRecDepth 20000 in
theorem dX10_undoneBy_12 : decode cX10_undoneBy 12 = .ok (.ireturn, 1) := by decide +kernel
set_option maxRecDepth 20000 in
theorem dX10_frailest_0 : decode cX10_frailest 0 = .ok (.bipush (-9), 2) := by decide +kernel
set_option maxRecDepth 20000 in
theorem dX10_frailest_2 : decode cX10_frailest 2 = .ok (.istore_n 2, 1) := by decide +kernel
set_option maxRecDepth 20000 in
theorem dX10_frailest_3 : decode cX10_frailest 3 = .ok (.aload_n 0, 1) := by decide +kernel
set_option maxRecDepth 20000 in
theorem dX10_frailest_4 : decode cX10_frailest 4 = .ok (.iconst (-1), 1) := by decide +kernel
set_option maxRecDepth 20000 in
theorem dX10_frailest_5 : decode cX10_frailest 5 = .ok (.putfield 190, 3) := by decide +kernel
set_option maxRecDepth 20000 in
theorem dX10_frailest_8 : decode cX10_frailest 8 = .ok (.iconst 0, 1) := by decide +kernel
set_option maxRecDepth 20000 in
theorem dX10_frailest_9 : decode cX10_frailest 9 = .ok (.istore_n 3, 1) := by decide +kernel
set_option maxRecDepth 20000 in
theorem dX10_frailest_10 : decode cX10_frailest 10 = .ok (.iload_n 3, 1) := by decide +kernel
set_option maxRecDepth 20000 in
theorem dX10_frailest_11 : decode cX10_frailest 11 = .ok (.aload_n 0, 1) := by decide +kernel
set_option maxRecDepth 20000 in
theorem dX10_frailest_12 : decode cX10_frailest 12 = .ok (.invokevirtual 193, 3) := by decide +kernel
set_option maxRecDepth 20000 in
theorem dX10_frailest_15 : decode cX10_frailest 15 = .ok (.if_icmp .gt 61, 3) := by decide +kernel
set_option maxRecDepth 20000 in
theorem dX10_frailest_18 : decode cX10_frailest 18 = .ok (.iload_n 3, 1) := by decide +kernel
set_option maxRecDepth 20000 in
theorem dX10_frailest_19 : decode cX10_frailest 19 = .ok (.invokestatic 187, 3) := by decide +kernel
set_option maxRecDepth 20000 in
theorem dX10_frailest_22 : decode cX10_frailest 22 = .ok (.iload_n 1, 1) := by decide +kernel
set_option maxRecDepth 20000 in
theorem dX10_frailest_23 : decode cX10_frailest 23 = .ok (.if_icmp .ne 47, 3) := by decide +kernel
set_option maxRecDepth 20000 in
theorem dX10_frailest_26 : decode cX10_frailest 26 = .ok (.aload_n 0, 1) := by decide +kernel
set_option maxRecDepth 20000 in
theorem dX10_frailest_27 : decode cX10_frailest 27 = .ok (.iload_n 3, 1) := by decide +kernel
set_option maxRecDepth 20000 in
theorem dX10_frailest_28 : decode cX10_frailest 28 = .ok (.invokevirtual 196, 3) := by decide +kernel
set_option maxRecDepth 20000 in
theorem dX10_frailest_31 : decode cX10_frailest 31 = .ok (.istore 4, 2) := by decide +kernel
set_option maxRecDepth 20000 in
theorem dX10_frailest_33 : decode cX10_frailest 33 = .ok (.iload 4, 2) := by decide +kernel
set_option maxRecDepth 20000 in
theorem dX10_frailest_35 : decode cX10_frailest 35 = .ok (.aload_n 0, 1) := by decide +kernel
set_option maxRecDepth 20000 in
theorem dX10_frailest_36 : decode cX10_frailest 36 = .ok (.getfield 190, 3) := by decide +kernel
set_option maxRecDepth 20000 in
theorem dX10_frailest_39 : decode cX10_frailest 39 = .ok (.if_icmp .le 7, 3) := by decide +kernel
set_option maxRecDepth 20000 in
theorem dX10_frailest_42 : decode cX10_frailest 42 = .ok (.iload_n 3, 1) := by decide +kernel
set_option maxRecDepth 20000 in
theorem dX10_frailest_43 : decode cX10_frailest 43 = .ok (.goto 4, 3) := by decide +kernel
set_option maxRecDepth 20000 in
theorem dX10_frailest_46 : decode cX10_frailest 46 = .ok (.iload_n 2, 1) := by decide +kernel
set_option maxRecDepth 20000 in
theorem dX10_frailest_47 : decode cX10_frailest 47 = .ok (.istore_n 2, 1) := by decide +kernel
set_option maxRecDepth 20000 in
theorem dX10_frailest_48 : decode cX10_frailest 48 = .ok (.aload_n 0, 1) := by decide +kernel
set_option maxRecDepth 20000 in
theorem dX10_frailest_49 : decode cX10_frailest 49 = .ok (.iload 4, 2) := by decide +kernel
set_option maxRecDepth 20000 in
theorem dX10_frailest_51 : decode cX10_frailest 51 = .ok (.aload_n 0, 1) := by decide +kernel
set_option maxRecDepth 20000 in
theorem dX10_frailest_52 : decode cX10_frailest 52 = .ok (.getfield 190, 3) := by decide +kernel
set_option maxRecDepth 20000 in
theorem dX10_frailest_55 : decode cX10_frailest 55 = .ok (.if_icmp .le 8, 3) := by decide +kernel
set_option maxRecDepth 20000 in
theorem dX10_frailest_58 : decode cX10_frailest 58 = .ok (.iload 4, 2) := by decide +kernel
set_option maxRecDepth 20000 in
theorem dX10_frailest_60 : decode cX10_frailest 60 = .ok (.goto 7, 3) := by decide +kernel
set_option maxRecDepth 20000 in
theorem dX10_frailest_63 : decode cX10_frailest 63 = .ok (.aload_n 0, 1) := by decide +kernel
set_option maxRecDepth 20000 in
theorem dX10_frailest_64 : decode cX10_frailest 64 = .ok (.getfield 190, 3) := by decide +kernel
set_option maxRecDepth 20000 in
theorem dX10_frailest_67 : decode cX10_frailest 67 = .ok (.putfield 190, 3) := by decide +kernel
set_option maxRecDepth 20000 in
theorem dX10_frailest_70 : decode cX10_frailest 70 = .ok (.iinc 3 1, 3) := by decide +kernel
set_option maxRecDepth 20000 in
theorem dX10_frailest_73 : decode cX10_frailest 73 = .ok (.goto (-63), 3) := by decide +kernel
set_option maxRecDepth 20000 in
theorem dX10_frailest_76 : decode cX10_frailest 76 = .ok (.iload_n 2, 1) := by decide +kernel
set_option maxRecDepth 20000 in
theorem dX10_frailest_77 : decode cX10_frailest 77 = .ok (.ireturn, 1) := by decide +kernel
set_option maxRecDepth 20000 in
theorem dX10_frail_0 : decode cX10_frail 0 = .ok (.aload_n 0, 1) := by decide +kernel
set_option maxRecDepth 20000 in
theorem dX10_frail_1 : decode cX10_frail 1 = .ok (.getfield 80, 3) := by decide +kernel
set_option maxRecDepth 20000 in
theorem dX10_frail_4 : decode cX10_frail 4 = .ok (.ifCond .ne 6, 3) := by decide +kernel
set_option maxRecDepth 20000 in
theorem dX10_frail_7 : decode cX10_frail 7 = .ok (.bipush (-3), 2) := by decide +kernel
set_option maxRecDepth 20000 in
theorem dX10_frail_9 : decode cX10_frail 9 = .ok (.ireturn, 1) := by decide +kernel
set_option maxRecDepth 20000 in
theorem dX10_frail_10 : decode cX10_frail 10 = .ok (.iload_n 1, 1) := by decide +kernel
set_option maxRecDepth 20000 in
theorem dX10_frail_11 : decode cX10_frail 11 = .ok (.i2l, 1) := by decide +kernel
set_option maxRecDepth 20000 in
theorem dX10_frail_12 : decode cX10_frail 12 = .ok (.lconst 0, 1) := by decide +kernel
set_option maxRecDepth 20000 in
theorem dX10_frail_13 : decode cX10_frail 13 = .ok (.aload_n 0, 1) := by decide +kernel
set_option maxRecDepth 20000 in
theorem dX10_frail_14 : decode cX10_frail 14 = .ok (.getfield 80, 3) := by decide +kernel
set_option maxRecDepth 20000 in
theorem dX10_frail_17 : decode cX10_frail 17 = .ok (.i2l, 1) := by decide +kernel
set_option maxRecDepth 20000 in
theorem dX10_frail_18 : decode cX10_frail 18 = .ok (.invokestatic 83, 3) := by decide +kernel
set_option maxRecDepth 20000 in
theorem dX10_frail_21 : decode cX10_frail 21 = .ok (.ifCond .eq 13, 3) := by decide +kernel
set_option maxRecDepth 20000 in
theorem dX10_frail_24 : decode cX10_frail 24 = .ok (.iload_n 2, 1) := by decide +kernel
set_option maxRecDepth 20000 in
theorem dX10_frail_25 : decode cX10_frail 25 = .ok (.i2l, 1) := by decide +kernel
set_option maxRecDepth 20000 in
theorem dX10_frail_26 : decode cX10_frail 26 = .ok (.lconst 0, 1) := by decide +kernel
set_option maxRecDepth 20000 in
theorem dX10_frail_27 : decode cX10_frail 27 = .ok (.lconst 1, 1) := by decide +kernel
set_option maxRecDepth 20000 in
theorem dX10_frail_28 : decode cX10_frail 28 = .ok (.invokestatic 83, 3) := by decide +kernel
set_option maxRecDepth 20000 in
theorem dX10_frail_31 : decode cX10_frail 31 = .ok (.ifCond .ne 6, 3) := by decide +kernel
set_option maxRecDepth 20000 in
theorem dX10_frail_34 : decode cX10_frail 34 = .ok (.bipush (-2), 2) := by decide +kernel
set_option maxRecDepth 20000 in
theorem dX10_frail_36 : decode cX10_frail 36 = .ok (.ireturn, 1) := by decide +kernel
set_option maxRecDepth 20000 in
theorem dX10_frail_37 : decode cX10_frail 37 = .ok (.aload_n 0, 1) := by decide +kernel
set_option maxRecDepth 20000 in
theorem dX10_frail_38 : decode cX10_frail 38 = .ok (.iload_n 1, 1) := by decide +kernel
set_option maxRecDepth 20000 in
theorem dX10_frail_39 : decode cX10_frail 39 = .ok (.invokevirtual 199, 3) := by decide +kernel
set_option maxRecDepth 20000 in
theorem dX10_frail_42 : decode cX10_frail 42 = .ok (.istore_n 3, 1) := by decide +kernel
set_option maxRecDepth 20000 in
theorem dX10_frail_43 : decode cX10_frail 43 = .ok (.iload_n 2, 1) := by decide +kernel
set_option maxRecDepth 20000 in
theorem dX10_frail_44 : decode cX10_frail 44 = .ok (.ifCond .ne 7, 3) := by decide +kernel
set_option maxRecDepth 20000 in
theorem dX10_frail_47 : decode cX10_frail 47 = .ok (.iload_n 3, 1) := by decide +kernel
set_option maxRecDepth 20000 in
theorem dX10_frail_48 : decode cX10_frail 48 = .ok (.goto 7, 3) := by decide +kernel
set_option maxRecDepth 20000 in
theorem dX10_frail_51 : decode cX10_frail 51 = .ok (.aload_n 0, 1) := by decide +kernel
set_option maxRecDepth 20000 in
theorem dX10_frail_52 : decode cX10_frail 52 = .ok (.getfield 190, 3) := by decide +kernel
set_option maxRecDepth 20000 in
theorem dX10_frail_55 : decode cX10_frail 55 = .ok (.ireturn, 1) := by decide +kernel
set_option maxRecDepth 20000 in
theorem dX10_plot_0 : decode cX10_plot 0 = .ok (.aload_n 0, 1) := by decide +kernel
set_option maxRecDepth 20000 in
theorem dX10_plot_1 : decode cX10_plot 1 = .ok (.iload_n 1, 1) := by decide +kernel
set_option maxRecDepth 20000 in
theorem dX10_plot_2 : decode cX10_plot 2 = .ok (.invokevirtual 140, 3) := by decide +kernel
set_option maxRecDepth 20000 in
theorem dX10_plot_5 : decode cX10_plot 5 = .ok (.ifCond .eq 5, 3) := by decide +kernel
set_option maxRecDepth 20000 in
theorem dX10_plot_8 : decode cX10_plot 8 = .ok (.iconst (-1), 1) := by decide +kernel
set_option maxRecDepth 20000 in
theorem dX10_plot_9 : decode cX10_plot 9 = .ok (.ireturn, 1) := by decide +kernel
set_option maxRecDepth 20000 in
theorem dX10_plot_10 : decode cX10_plot 10 = .ok (.bipush (-9), 2) := by decide +kernel
set_option maxRecDepth 20000 in
theorem dX10_plot_12 : decode cX10_plot 12 = .ok (.istore_n 2, 1) := by decide +kernel
set_option maxRecDepth 20000 in
theorem dX10_plot_13 : decode cX10_plot 13 = .ok (.iconst 0, 1) := by decide +kernel
set_option maxRecDepth 20000 in
theorem dX10_plot_14 : decode cX10_plot 14 = .ok (.istore_n 3, 1) := by decide +kernel
set_option maxRecDepth 20000 in
theorem dX10_plot_15 : decode cX10_plot 15 = .ok (.iload_n 3, 1) := by decide +kernel
set_option maxRecDepth 20000 in
theorem dX10_plot_16 : decode cX10_plot 16 = .ok (.aload_n 0, 1) := by decide +kernel
set_option maxRecDepth 20000 in
theorem dX10_plot_17 : decode cX10_plot 17 = .ok (.invokevirtual 193, 3) := by decide +kernel
set_option maxRecDepth 20000 in
theorem dX10_plot_20 : decode cX10_plot 20 = .ok (.if_icmp .gt 44, 3) := by decide +kernel
set_option maxRecDepth 20000 in
theorem dX10_plot_23 : decode cX10_plot 23 = .ok (.iload_n 2, 1) := by decide +kernel
set_option maxRecDepth 20000 in
theorem dX10_plot_24 : decode cX10_plot 24 = .ok (.ifCond .lt 14, 3) := by decide +kernel
set_option maxRecDepth 20000 in
theorem dX10_plot_27 : decode cX10_plot 27 = .ok (.iload_n 3, 1) := by decide +kernel
set_option maxRecDepth 20000 in
theorem dX10_plot_28 : decode cX10_plot 28 = .ok (.invokestatic 187, 3) := by decide +kernel
set_option maxRecDepth 20000 in
theorem dX10_plot_31 : decode cX10_plot 31 = .ok (.iload_n 2, 1) := by decide +kernel
set_option maxRecDepth 20000 in
theorem dX10_plot_32 : decode cX10_plot 32 = .ok (.invokestatic 187, 3) := by decide +kernel
set_option maxRecDepth 20000 in
theorem dX10_plot_35 : decode cX10_plot 35 = .ok (.if_icmp .ge 23, 3) := by decide +kernel
set_option maxRecDepth 20000 in
theorem dX10_plot_38 : decode cX10_plot 38 = .ok (.aload_n 0, 1) := by decide +kernel
set_option maxRecDepth 20000 in
theorem dX10_plot_39 : decode cX10_plot 39 = .ok (.iload_n 3, 1) := by decide +kernel
set_option maxRecDepth 20000 in
theorem dX10_plot_40 : decode cX10_plot 40 = .ok (.invokevirtual 184, 3) := by decide +kernel
set_option maxRecDepth 20000 in
theorem dX10_plot_43 : decode cX10_plot 43 = .ok (.aload_n 0, 1) := by decide +kernel
set_option maxRecDepth 20000 in
theorem dX10_plot_44 : decode cX10_plot 44 = .ok (.getfield 43, 3) := by decide +kernel
set_option maxRecDepth 20000 in
theorem dX10_plot_47 : decode cX10_plot 47 = .ok (.iload_n 1, 1) := by decide +kernel
set_option maxRecDepth 20000 in
theorem dX10_plot_48 : decode cX10_plot 48 = .ok (.iaload, 1) := by decide +kernel
set_option maxRecDepth 20000 in
theorem dX10_plot_49 : decode cX10_plot 49 = .ok (.ifCond .ge 7, 3) := by decide +kernel
set_option maxRecDepth 20000 in
theorem dX10_plot_52 : decode cX10_plot 52 = .ok (.iload_n 3, 1) := by decide +kernel
set_option maxRecDepth 20000 in
theorem dX10_plot_53 : decode cX10_plot 53 = .ok (.goto 4, 3) := by decide +kernel
set_option maxRecDepth 20000 in
theorem dX10_plot_56 : decode cX10_plot 56 = .ok (.iload_n 2, 1) := by decide +kernel
set_option maxRecDepth 20000 in
theorem dX10_plot_57 : decode cX10_plot 57 = .ok (.istore_n 2, 1) := by decide +kernel
set_option maxRecDepth 20000 in
theorem dX10_plot_58 : decode cX10_plot 58 = .ok (.iinc 3 1, 3) := by decide +kernel
set_option maxRecDepth 20000 in
theorem dX10_plot_61 : decode cX10_plot 61 = .ok (.goto (-46), 3) := by decide +kernel
set_option maxRecDepth 20000 in
theorem dX10_plot_64 : decode cX10_plot 64 = .ok (.iload_n 2, 1) := by decide +kernel
set_option maxRecDepth 20000 in
theorem dX10_plot_65 : decode cX10_plot 65 = .ok (.ireturn, 1) := by decide +kernel
set_option maxRecDepth 20000 in
theorem dX10_mend_0 : decode cX10_mend 0 = .ok (.iload_n 1, 1) := by decide +kernel
set_option maxRecDepth 20000 in
theorem dX10_mend_1 : decode cX10_mend 1 = .ok (.i2l, 1) := by decide +kernel
set_option maxRecDepth 20000 in
theorem dX10_mend_2 : decode cX10_mend 2 = .ok (.lconst 0, 1) := by decide +kernel
set_option maxRecDepth 20000 in
theorem dX10_mend_3 : decode cX10_mend 3 = .ok (.lconst 1, 1) := by decide +kernel
set_option maxRecDepth 20000 in
theorem dX10_mend_4 : decode cX10_mend 4 = .ok (.invokestatic 83, 3) := by decide +kernel
set_option maxRecDepth 20000 in
theorem dX10_mend_7 : decode cX10_mend 7 = .ok (.ifCond .ne 6, 3) := by decide +kernel
set_option maxRecDepth 20000 in
theorem dX10_mend_10 : decode cX10_mend 10 = .ok (.bipush (-2), 2) := by decide +kernel
set_option maxRecDepth 20000 in
theorem dX10_mend_12 : decode cX10_mend 12 = .ok (.ireturn, 1) := by decide +kernel
set_option maxRecDepth 20000 in
theorem dX10_mend_13 : decode cX10_mend 13 = .ok (.aload_n 0, 1) := by decide +kernel
set_option maxRecDepth 20000 in
theorem dX10_mend_14 : decode cX10_mend 14 = .ok (.getfield 80, 3) := by decide +kernel
set_option maxRecDepth 20000 in
theorem dX10_mend_17 : decode cX10_mend 17 = .ok (.ifCond .ne 6, 3) := by decide +kernel
set_option maxRecDepth 20000 in
theorem dX10_mend_20 : decode cX10_mend 20 = .ok (.bipush (-3), 2) := by decide +kernel
set_option maxRecDepth 20000 in
theorem dX10_mend_22 : decode cX10_mend 22 = .ok (.ireturn, 1) := by decide +kernel
set_option maxRecDepth 20000 in
theorem dX10_mend_23 : decode cX10_mend 23 = .ok (.aload_n 0, 1) := by decide +kernel
set_option maxRecDepth 20000 in
theorem dX10_mend_24 : decode cX10_mend 24 = .ok (.iconst 2, 1) := by decide +kernel
set_option maxRecDepth 20000 in
theorem dX10_mend_25 : decode cX10_mend 25 = .ok (.invokevirtual 199, 3) := by decide +kernel
set_option maxRecDepth 20000 in
theorem dX10_mend_28 : decode cX10_mend 28 = .ok (.pop, 1) := by decide +kernel
set_option maxRecDepth 20000 in
theorem dX10_mend_29 : decode cX10_mend 29 = .ok (.aload_n 0, 1) := by decide +kernel
set_option maxRecDepth 20000 in
theorem dX10_mend_30 : decode cX10_mend 30 = .ok (.getfield 190, 3) := by decide +kernel
set_option maxRecDepth 20000 in
theorem dX10_mend_33 : decode cX10_mend 33 = .ok (.istore_n 2, 1) := by decide +kernel
set_option maxRecDepth 20000 in
theorem dX10_mend_34 : decode cX10_mend 34 = .ok (.bipush (-9), 2) := by decide +kernel
set_option maxRecDepth 20000 in
theorem dX10_mend_36 : decode cX10_mend 36 = .ok (.istore_n 3, 1) := by decide +kernel
set_option maxRecDepth 20000 in
theorem dX10_mend_37 : decode cX10_mend 37 = .ok (.iconst 0, 1) := by decide +kernel
set_option maxRecDepth 20000 in
theorem dX10_mend_38 : decode cX10_mend 38 = .ok (.istore 4, 2) := by decide +kernel
set_option maxRecDepth 20000 in
theorem dX10_mend_40 : decode cX10_mend 40 = .ok (.iload 4, 2) := by decide +kernel
set_option maxRecDepth 20000 in
theorem dX10_mend_42 : decode cX10_mend 42 = .ok (.aload_n 0, 1) := by decide +kernel
set_option maxRecDepth 20000 in
theorem dX10_mend_43 : decode cX10_mend 43 = .ok (.getfield 80, 3) := by decide +kernel
set_option maxRecDepth 20000 in
theorem dX10_mend_46 : decode cX10_mend 46 = .ok (.if_icmp .ge 112, 3) := by decide +kernel
set_option maxRecDepth 20000 in
theorem dX10_mend_49 : decode cX10_mend 49 = .ok (.aload_n 0, 1) := by decide +kernel
set_option maxRecDepth 20000 in
theorem dX10_mend_50 : decode cX10_mend 50 = .ok (.getfield 13, 3) := by decide +kernel
set_option maxRecDepth 20000 in
theorem dX10_mend_53 : decode cX10_mend 53 = .ok (.iload 4, 2) := by decide +kernel
set_option maxRecDepth 20000 in
theorem dX10_mend_55 : decode cX10_mend 55 = .ok (.iaload, 1) := by decide +kernel
set_option maxRecDepth 20000 in
theorem dX10_mend_56 : decode cX10_mend 56 = .ok (.istore 5, 2) := by decide +kernel
set_option maxRecDepth 20000 in
theorem dX10_mend_58 : decode cX10_mend 58 = .ok (.iconst 0, 1) := by decide +kernel
set_option maxRecDepth 20000 in
theorem dX10_mend_59 : decode cX10_mend 59 = .ok (.istore 6, 2) := by decide +kernel
set_option maxRecDepth 20000 in
theorem dX10_mend_61 : decode cX10_mend 61 = .ok (.iload 6, 2) := by decide +kernel
set_option maxRecDepth 20000 in
theorem dX10_mend_63 : decode cX10_mend 63 = .ok (.aload_n 0, 1) := by decide +kernel
set_option maxRecDepth 20000 in
theorem dX10_mend_64 : decode cX10_mend 64 = .ok (.getfield 80, 3) := by decide +kernel
set_option maxRecDepth 20000 in
theorem dX10_mend_67 : decode cX10_mend 67 = .ok (.if_icmp .ge 76, 3) := by decide +kernel
set_option maxRecDepth 20000 in
theorem dX10_mend_70 : decode cX10_mend 70 = .ok (.iload 6, 2) := by decide +kernel
set_option maxRecDepth 20000 in
theorem dX10_mend_72 : decode cX10_mend 72 = .ok (.iload 4, 2) := by decide +kernel
set_option maxRecDepth 20000 in
theorem dX10_mend_74 : decode cX10_mend 74 = .ok (.if_icmp .eq 63, 3) := by decide +kernel
set_option maxRecDepth 20000 in
theorem dX10_mend_77 : decode cX10_mend 77 = .ok (.iload 6, 2) := by decide +kernel
set_option maxRecDepth 20000 in
theorem dX10_mend_79 : decode cX10_mend 79 = .ok (.iload 5, 2) := by decide +kernel
set_option maxRecDepth 20000 in
theorem dX10_mend_81 : decode cX10_mend 81 = .ok (.if_icmp .eq 56, 3) := by decide +kernel
set_option maxRecDepth 20000 in
theorem dX10_mend_84 : decode cX10_mend 84 = .ok (.aload_n 0, 1) := by decide +kernel
set_option maxRecDepth 20000 in
theorem dX10_mend_85 : decode cX10_mend 85 = .ok (.getfield 13, 3) := by decide +kernel
set_option maxRecDepth 20000 in
theorem dX10_mend_88 : decode cX10_mend 88 = .ok (.iload 4, 2) := by decide +kernel
set_option maxRecDepth 20000 in
theorem dX10_mend_90 : decode cX10_mend 90 = .ok (.iload 6, 2) := by decide +kernel
set_option maxRecDepth 20000 in
theorem dX10_mend_92 : decode cX10_mend 92 = .ok (.iastore, 1) := by decide +kernel
set_option maxRecDepth 20000 in
theorem dX10_mend_93 : decode cX10_mend 93 = .ok (.aload_n 0, 1) := by decide +kernel
set_option maxRecDepth 20000 in
theorem dX10_mend_94 : decode cX10_mend 94 = .ok (.iconst 2, 1) := by decide +kernel
set_option maxRecDepth 20000 in
theorem dX10_mend_95 : decode cX10_mend 95 = .ok (.invokevirtual 199, 3) := by decide +kernel
set_option maxRecDepth 20000 in
theorem dX10_mend_98 : decode cX10_mend 98 = .ok (.pop, 1) := by decide +kernel
set_option maxRecDepth 20000 in
theorem dX10_mend_99 : decode cX10_mend 99 = .ok (.aload_n 0, 1) := by decide +kernel
set_option maxRecDepth 20000 in
theorem dX10_mend_100 : decode cX10_mend 100 = .ok (.getfield 190, 3) := by decide +kernel
set_option maxRecDepth 20000 in
theorem dX10_mend_103 : decode cX10_mend 103 = .ok (.iload_n 2, 1) := by decide +kernel
set_option maxRecDepth 20000 in
theorem dX10_mend_104 : decode cX10_mend 104 = .ok (.if_icmp .ge 14, 3) := by decide +kernel
set_option maxRecDepth 20000 in
theorem dX10_mend_107 : decode cX10_mend 107 = .ok (.bipush 10, 2) := by decide +kernel
set_option maxRecDepth 20000 in
theorem dX10_mend_109 : decode cX10_mend 109 = .ok (.iload 4, 2) := by decide +kernel
set_option maxRecDepth 20000 in
theorem dX10_mend_111 : decode cX10_mend 111 = .ok (.imul, 1) := by decide +kernel
set_option maxRecDepth 20000 in
theorem dX10_mend_112 : decode cX10_mend 112 = .ok (.iload 6, 2) := by decide +kernel
set_option maxRecDepth 20000 in
theorem dX10_mend_114 : decode cX10_mend 114 = .ok (.iadd, 1) := by decide +kernel
set_option maxRecDepth 20000 in
theorem dX10_mend_115 : decode cX10_mend 115 = .ok (.goto 4, 3) := by decide +kernel
set_option maxRecDepth 20000 in
theorem dX10_mend_118 : decode cX10_mend 118 = .ok (.iload_n 3, 1) := by decide +kernel
set_option maxRecDepth 20000 in
theorem dX10_mend_119 : decode cX10_mend 119 = .ok (.istore_n 3, 1) := by decide +kernel
set_option maxRecDepth 20000 in
theorem dX10_mend_120 : decode cX10_mend 120 = .ok (.aload_n 0, 1) := by decide +kernel
set_option maxRecDepth 20000 in
theorem dX10_mend_121 : decode cX10_mend 121 = .ok (.getfield 190, 3) := by decide +kernel
set_option maxRecDepth 20000 in
theorem dX10_mend_124 : decode cX10_mend 124 = .ok (.iload_n 2, 1) := by decide +kernel
set_option maxRecDepth 20000 in
theorem dX10_mend_125 : decode cX10_mend 125 = .ok (.if_icmp .ge 10, 3) := by decide +kernel
set_option maxRecDepth 20000 in
theorem dX10_mend_128 : decode cX10_mend 128 = .ok (.aload_n 0, 1) := by decide +kernel
set_option maxRecDepth 20000 in
theorem dX10_mend_129 : decode cX10_mend 129 = .ok (.getfield 190, 3) := by decide +kernel
set_option maxRecDepth 20000 in
theorem dX10_mend_132 : decode cX10_mend 132 = .ok (.goto 4, 3) := by decide +kernel
set_option maxRecDepth 20000 in
theorem dX10_mend_135 : decode cX10_mend 135 = .ok (.iload_n 2, 1) := by decide +kernel
set_option maxRecDepth 20000 in
theorem dX10_mend_136 : decode cX10_mend 136 = .ok (.istore_n 2, 1) := by decide +kernel
set_option maxRecDepth 20000 in
theorem dX10_mend_137 : decode cX10_mend 137 = .ok (.iinc 6 1, 3) := by decide +kernel
set_option maxRecDepth 20000 in
theorem dX10_mend_140 : decode cX10_mend 140 = .ok (.goto (-79), 3) := by decide +kernel
set_option maxRecDepth 20000 in
theorem dX10_mend_143 : decode cX10_mend 143 = .ok (.aload_n 0, 1) := by decide +kernel
set_option maxRecDepth 20000 in
theorem dX10_mend_144 : decode cX10_mend 144 = .ok (.getfield 13, 3) := by decide +kernel
set_option maxRecDepth 20000 in
theorem dX10_mend_147 : decode cX10_mend 147 = .ok (.iload 4, 2) := by decide +kernel
set_option maxRecDepth 20000 in
theorem dX10_mend_149 : decode cX10_mend 149 = .ok (.iload 5, 2) := by decide +kernel
set_option maxRecDepth 20000 in
theorem dX10_mend_151 : decode cX10_mend 151 = .ok (.iastore, 1) := by decide +kernel
set_option maxRecDepth 20000 in
theorem dX10_mend_152 : decode cX10_mend 152 = .ok (.iinc 4 1, 3) := by decide +kernel
set_option maxRecDepth 20000 in
theorem dX10_mend_155 : decode cX10_mend 155 = .ok (.goto (-115), 3) := by decide +kernel
set_option maxRecDepth 20000 in
theorem dX10_mend_158 : decode cX10_mend 158 = .ok (.iload_n 1, 1) := by decide +kernel
set_option maxRecDepth 20000 in
theorem dX10_mend_159 : decode cX10_mend 159 = .ok (.ifCond .ne 7, 3) := by decide +kernel
set_option maxRecDepth 20000 in
theorem dX10_mend_162 : decode cX10_mend 162 = .ok (.iload_n 3, 1) := by decide +kernel
set_option maxRecDepth 20000 in
theorem dX10_mend_163 : decode cX10_mend 163 = .ok (.goto 4, 3) := by decide +kernel
set_option maxRecDepth 20000 in
theorem dX10_mend_166 : decode cX10_mend 166 = .ok (.iload_n 2, 1) := by decide +kernel
set_option maxRecDepth 20000 in
theorem dX10_mend_167 : decode cX10_mend 167 = .ok (.ireturn, 1) := by decide +kernel
set_option maxRecDepth 20000 in
theorem dX10_wave_0 : decode cX10_wave 0 = .ok (.aload_n 0, 1) := by decide +kernel
set_option maxRecDepth 20000 in
theorem dX10_wave_1 : decode cX10_wave 1 = .ok (.iload_n 1, 1) := by decide +kernel
set_option maxRecDepth 20000 in
theorem dX10_wave_2 : decode cX10_wave 2 = .ok (.invokevirtual 140, 3) := by decide +kernel
set_option maxRecDepth 20000 in
theorem dX10_wave_5 : decode cX10_wave 5 = .ok (.ifCond .eq 5, 3) := by decide +kernel
set_option maxRecDepth 20000 in
theorem dX10_wave_8 : decode cX10_wave 8 = .ok (.iconst (-1), 1) := by decide +kernel
set_option maxRecDepth 20000 in
theorem dX10_wave_9 : decode cX10_wave 9 = .ok (.ireturn, 1) := by decide +kernel
set_option maxRecDepth 20000 in
theorem dX10_wave_10 : decode cX10_wave 10 = .ok (.aload_n 0, 1) := by decide +kernel
set_option maxRecDepth 20000 in
theorem dX10_wave_11 : decode cX10_wave 11 = .ok (.iconst 0, 1) := by decide +kernel
set_option maxRecDepth 20000 in
theorem dX10_wave_12 : decode cX10_wave 12 = .ok (.invokevirtual 164, 3) := by decide +kernel
set_option maxRecDepth 20000 in
theorem dX10_wave_15 : decode cX10_wave 15 = .ok (.istore_n 2, 1) := by decide +kernel
set_option maxRecDepth 20000 in
theorem dX10_wave_16 : decode cX10_wave 16 = .ok (.aload_n 0, 1) := by decide +kernel
set_option maxRecDepth 20000 in
theorem dX10_wave_17 : decode cX10_wave 17 = .ok (.iload_n 2, 1) := by decide +kernel
set_option maxRecDepth 20000 in
theorem dX10_wave_18 : decode cX10_wave 18 = .ok (.invokevirtual 184, 3) := by decide +kernel
set_option maxRecDepth 20000 in
theorem dX10_wave_21 : decode cX10_wave 21 = .ok (.aload_n 0, 1) := by decide +kernel
set_option maxRecDepth 20000 in
theorem dX10_wave_22 : decode cX10_wave 22 = .ok (.invokevirtual 181, 3) := by decide +kernel
set_option maxRecDepth 20000 in
theorem dX10_wave_25 : decode cX10_wave 25 = .ok (.istore_n 3, 1) := by decide +kernel
set_option maxRecDepth 20000 in
theorem dX10_wave_26 : decode cX10_wave 26 = .ok (.aload_n 0, 1) := by decide +kernel
set_option maxRecDepth 20000 in
theorem dX10_wave_27 : decode cX10_wave 27 = .ok (.iload_n 2, 1) := by decide +kernel
set_option maxRecDepth 20000 in
theorem dX10_wave_28 : decode cX10_wave 28 = .ok (.iconst 1, 1) := by decide +kernel
set_option maxRecDepth 20000 in
theorem dX10_wave_29 : decode cX10_wave 29 = .ok (.iload_n 1, 1) := by decide +kernel
set_option maxRecDepth 20000 in
theorem dX10_wave_30 : decode cX10_wave 30 = .ok (.ishl, 1) := by decide +kernel
set_option maxRecDepth 20000 in
theorem dX10_wave_31 : decode cX10_wave 31 = .ok (.ior, 1) := by decide +kernel
set_option maxRecDepth 20000 in
theorem dX10_wave_32 : decode cX10_wave 32 = .ok (.invokevirtual 184, 3) := by decide +kernel
set_option maxRecDepth 20000 in
theorem dX10_wave_35 : decode cX10_wave 35 = .ok (.iload_n 3, 1) := by decide +kernel
set_option maxRecDepth 20000 in
theorem dX10_wave_36 : decode cX10_wave 36 = .ok (.aload_n 0, 1) := by decide +kernel
set_option maxRecDepth 20000 in
theorem dX10_wave_37 : decode cX10_wave 37 = .ok (.invokevirtual 181, 3) := by decide +kernel
set_option maxRecDepth 20000 in
theorem dX10_wave_40 : decode cX10_wave 40 = .ok (.isub, 1) := by decide +kernel
set_option maxRecDepth 20000 in
theorem dX10_wave_41 : decode cX10_wave 41 = .ok (.sipush 1000, 3) := by decide +kernel
set_option maxRecDepth 20000 in
theorem dX10_wave_44 : decode cX10_wave 44 = .ok (.iadd, 1) := by decide +kernel
set_option maxRecDepth 20000 in
theorem dX10_wave_45 : decode cX10_wave 45 = .ok (.ireturn, 1) := by decide +kernel
set_option maxRecDepth 20000 in
theorem dX10_roster_0 : decode cX10_roster 0 = .ok (.iload_n 1, 1) := by decide +kernel
set_option maxRecDepth 20000 in
theorem dX10_roster_1 : decode cX10_roster 1 = .ok (.invokestatic 115, 3) := by decide +kernel
set_option maxRecDepth 20000 in
theorem dX10_roster_4 : decode cX10_roster 4 = .ok (.ifCond .eq 9, 3) := by decide +kernel
set_option maxRecDepth 20000 in
theorem dX10_roster_7 : decode cX10_roster 7 = .ok (.aload_n 0, 1) := by decide +kernel
set_option maxRecDepth 20000 in
theorem dX10_roster_8 : decode cX10_roster 8 = .ok (.iconst (-1), 1) := by decide +kernel
set_option maxRecDepth 20000 in
theorem dX10_roster_9 : decode cX10_roster 9 = .ok (.invokevirtual 119, 3) := by decide +kernel
set_option maxRecDepth 20000 in
theorem dX10_roster_12 : decode cX10_roster 12 = .ok (.ireturn, 1) := by decide +kernel
set_option maxRecDepth 20000 in
theorem dX10_roster_13 : decode cX10_roster 13 = .ok (.iload_n 2, 1) := by decide +kernel
set_option maxRecDepth 20000 in
theorem dX10_roster_14 : decode cX10_roster 14 = .ok (.i2l, 1) := by decide +kernel
set_option maxRecDepth 20000 in
theorem dX10_roster_15 : decode cX10_roster 15 = .ok (.lconst 0, 1) := by decide +kernel
set_option maxRecDepth 20000 in
theorem dX10_roster_16 : decode cX10_roster 16 = .ok (.ldc2_w 122, 3) := by decide +kernel
set_option maxRecDepth 20000 in
theorem dX10_roster_19 : decode cX10_roster 19 = .ok (.invokestatic 83, 3) := by decide +kernel
set_option maxRecDepth 20000 in
theorem dX10_roster_22 : decode cX10_roster 22 = .ok (.ifCond .ne 10, 3) := by decide +kernel
set_option maxRecDepth 20000 in
theorem dX10_roster_25 : decode cX10_roster 25 = .ok (.aload_n 0, 1) := by decide +kernel
set_option maxRecDepth 20000 in
theorem dX10_roster_26 : decode cX10_roster 26 = .ok (.bipush (-2), 2) := by decide +kernel
set_option maxRecDepth 20000 in
theorem dX10_roster_28 : decode cX10_roster 28 = .ok (.invokevirtual 119, 3) := by decide +kernel
set_option maxRecDepth 20000 in
theorem dX10_roster_31 : decode cX10_roster 31 = .ok (.ireturn, 1) := by decide +kernel
set_option maxRecDepth 20000 in
theorem dX10_roster_32 : decode cX10_roster 32 = .ok (.aload_n 0, 1) := by decide +kernel
set_option maxRecDepth 20000 in
theorem dX10_roster_33 : decode cX10_roster 33 = .ok (.getfield 80, 3) := by decide +kernel
set_option maxRecDepth 20000 in
theorem dX10_roster_36 : decode cX10_roster 36 = .ok (.ifCond .ne 10, 3) := by decide +kernel
set_option maxRecDepth 20000 in
theorem dX10_roster_39 : decode cX10_roster 39 = .ok (.aload_n 0, 1) := by decide +kernel
set_option maxRecDepth 20000 in
theorem dX10_roster_40 : decode cX10_roster 40 = .ok (.bipush (-3), 2) := by decide +kernel
set_option maxRecDepth 20000 in
theorem dX10_roster_42 : decode cX10_roster 42 = .ok (.invokevirtual 119, 3) := by decide +kernel
set_option maxRecDepth 20000 in
theorem dX10_roster_45 : decode cX10_roster 45 = .ok (.ireturn, 1) := by decide +kernel
set_option maxRecDepth 20000 in
theorem dX10_roster_46 : decode cX10_roster 46 = .ok (.aload_n 0, 1) := by decide +kernel
set_option maxRecDepth 20000 in
theorem dX10_roster_47 : decode cX10_roster 47 = .ok (.iload_n 1, 1) := by decide +kernel
set_option maxRecDepth 20000 in
theorem dX10_roster_48 : decode cX10_roster 48 = .ok (.iload_n 2, 1) := by decide +kernel
set_option maxRecDepth 20000 in
theorem dX10_roster_49 : decode cX10_roster 49 = .ok (.iload_n 3, 1) := by decide +kernel
set_option maxRecDepth 20000 in
theorem dX10_roster_50 : decode cX10_roster 50 = .ok (.iload 4, 2) := by decide +kernel
set_option maxRecDepth 20000 in
theorem dX10_roster_52 : decode cX10_roster 52 = .ok (.i2l, 1) := by decide +kernel
set_option maxRecDepth 20000 in
theorem dX10_roster_53 : decode cX10_roster 53 = .ok (.invokevirtual 124, 3) := by decide +kernel
set_option maxRecDepth 20000 in
theorem dX10_roster_56 : decode cX10_roster 56 = .ok (.istore 5, 2) := by decide +kernel
set_option maxRecDepth 20000 in
theorem dX10_roster_58 : decode cX10_roster 58 = .ok (.iload 5, 2) := by decide +kernel
set_option maxRecDepth 20000 in
theorem dX10_roster_60 : decode cX10_roster 60 = .ok (.ifCond .ge 6, 3) := by decide +kernel
set_option maxRecDepth 20000 in
theorem dX10_roster_63 : decode cX10_roster 63 = .ok (.iload 5, 2) := by decide +kernel
set_option maxRecDepth 20000 in
theorem dX10_roster_65 : decode cX10_roster 65 = .ok (.ireturn, 1) := by decide +kernel
set_option maxRecDepth 20000 in
theorem dX10_roster_66 : decode cX10_roster 66 = .ok (.iload 4, 2) := by decide +kernel
set_option maxRecDepth 20000 in
theorem dX10_roster_68 : decode cX10_roster 68 = .ok (.aload_n 0, 1) := by decide +kernel
set_option maxRecDepth 20000 in
theorem dX10_roster_69 : decode cX10_roster 69 = .ok (.getfield 80, 3) := by decide +kernel
set_option maxRecDepth 20000 in
theorem dX10_roster_72 : decode cX10_roster 72 = .ok (.if_icmp .eq 10, 3) := by decide +kernel
set_option maxRecDepth 20000 in
theorem dX10_roster_75 : decode cX10_roster 75 = .ok (.aload_n 0, 1) := by decide +kernel
set_option maxRecDepth 20000 in
theorem dX10_roster_76 : decode cX10_roster 76 = .ok (.bipush (-2), 2) := by decide +kernel
set_option maxRecDepth 20000 in
theorem dX10_roster_78 : decode cX10_roster 78 = .ok (.invokevirtual 119, 3) := by decide +kernel
set_option maxRecDepth 20000 in
theorem dX10_roster_81 : decode cX10_roster 81 = .ok (.ireturn, 1) := by decide +kernel
set_option maxRecDepth 20000 in
theorem dX10_roster_82 : decode cX10_roster 82 = .ok (.bipush 60, 2) := by decide +kernel
set_option maxRecDepth 20000 in
theorem dX10_roster_84 : decode cX10_roster 84 = .ok (.iload_n 1, 1) := by decide +kernel
set_option maxRecDepth 20000 in
theorem dX10_roster_85 : decode cX10_roster 85 = .ok (.imul, 1) := by decide +kernel
set_option maxRecDepth 20000 in
theorem dX10_roster_86 : decode cX10_roster 86 = .ok (.iload_n 3, 1) := by decide +kernel
set_option maxRecDepth 20000 in
theorem dX10_roster_87 : decode cX10_roster 87 = .ok (.iadd, 1) := by decide +kernel
set_option maxRecDepth 20000 in
theorem dX10_roster_88 : decode cX10_roster 88 = .ok (.istore 6, 2) := by decide +kernel
set_option maxRecDepth 20000 in
theorem dX10_roster_90 : decode cX10_roster 90 = .ok (.iconst 0, 1) := by decide +kernel
set_option maxRecDepth 20000 in
theorem dX10_roster_91 : decode cX10_roster 91 = .ok (.istore 7, 2) := by decide +kernel
set_option maxRecDepth 20000 in
theorem dX10_roster_93 : decode cX10_roster 93 = .ok (.iload 7, 2) := by decide +kernel
set_option maxRecDepth 20000 in
theorem dX10_roster_95 : decode cX10_roster 95 = .ok (.iload 4, 2) := by decide +kernel
set_option maxRecDepth 20000 in
theorem dX10_roster_97 : decode cX10_roster 97 = .ok (.if_icmp .ge 47, 3) := by decide +kernel
set_option maxRecDepth 20000 in
theorem dX10_roster_100 : decode cX10_roster 100 = .ok (.aload_n 0, 1) := by decide +kernel
set_option maxRecDepth 20000 in
theorem dX10_roster_101 : decode cX10_roster 101 = .ok (.getfield 64, 3) := by decide +kernel
set_option maxRecDepth 20000 in
theorem dX10_roster_104 : decode cX10_roster 104 = .ok (.iload 6, 2) := by decide +kernel
set_option maxRecDepth 20000 in
theorem dX10_roster_106 : decode cX10_roster 106 = .ok (.iload 7, 2) := by decide +kernel
set_option maxRecDepth 20000 in
theorem dX10_roster_108 : decode cX10_roster 108 = .ok (.iadd, 1) := by decide +kernel
set_option maxRecDepth 20000 in
theorem dX10_roster_109 : decode cX10_roster 109 = .ok (.iaload, 1) := by decide +kernel
set_option maxRecDepth 20000 in
theorem dX10_roster_110 : decode cX10_roster 110 = .ok (.bipush (-9), 2) := by decide +kernel
set_option maxRecDepth 20000 in
theorem dX10_roster_112 : decode cX10_roster 112 = .ok (.if_icmp .eq 26, 3) := by decide +kernel
set_option maxRecDepth 20000 in
theorem dX10_roster_115 : decode cX10_roster 115 = .ok (.aload_n 0, 1) := by decide +kernel
set_option maxRecDepth 20000 in
theorem dX10_roster_116 : decode cX10_roster 116 = .ok (.aload_n 0, 1) := by decide +kernel
set_option maxRecDepth 20000 in
theorem dX10_roster_117 : decode cX10_roster 117 = .ok (.getfield 64, 3) := by decide +kernel
set_option maxRecDepth 20000 in
theorem dX10_roster_120 : decode cX10_roster 120 = .ok (.iload 6, 2) := by decide +kernel
set_option maxRecDepth 20000 in
theorem dX10_roster_122 : decode cX10_roster 122 = .ok (.iload 7, 2) := by decide +kernel
set_option maxRecDepth 20000 in
theorem dX10_roster_124 : decode cX10_roster 124 = .ok (.iadd, 1) := by decide +kernel
set_option maxRecDepth 20000 in
theorem dX10_roster_125 : decode cX10_roster 125 = .ok (.iaload, 1) := by decide +kernel
set_option maxRecDepth 20000 in
theorem dX10_roster_126 : decode cX10_roster 126 = .ok (.invokevirtual 140, 3) := by decide +kernel
