theorem dX9_odds_78 : decode cX9_odds 78 = .ok (.goto 4, 3) := by decide +kernel
theorem dX9_odds_81 : decode cX9_odds 81 = .ok (.lconst 0, 1) := by decide +kernel
theorem dX9_odds_82 : decode cX9_odds 82 = .ok (.ladd, 1) := by decide +kernel
theorem dX9_odds_83 : decode cX9_odds 83 = .ok (.lstore 5, 2) := by decide +kernel
theorem dX9_odds_85 : decode cX9_odds 85 = .ok (.iinc 7 1, 3) := by decide +kernel
theorem dX9_odds_88 : decode cX9_odds 88 = .ok (.goto (-39), 3) := by decide +kernel
theorem dX9_odds_91 : decode cX9_odds 91 = .ok (.lload 5, 2) := by decide +kernel
theorem dX9_odds_93 : decode cX9_odds 93 = .ok (.iload_n 2, 1) := by decide +kernel
theorem dX9_odds_94 : decode cX9_odds 94 = .ok (.i2l, 1) := by decide +kernel
theorem dX9_odds_95 : decode cX9_odds 95 = .ok (.iload 4, 2) := by decide +kernel
theorem dX9_odds_97 : decode cX9_odds 97 = .ok (.invokestatic 286, 3) := by decide +kernel
theorem dX9_odds_100 : decode cX9_odds 100 = .ok (.lreturn, 1) := by decide +kernel
theorem dX9_image_0 : decode cX9_image 0 = .ok (.aload_n 0, 1) := by decide +kernel
theorem dX9_image_1 : decode cX9_image 1 = .ok (.iconst 1, 1) := by decide +kernel
theorem dX9_image_2 : decode cX9_image 2 = .ok (.putfield 290, 3) := by decide +kernel
theorem dX9_image_5 : decode cX9_image 5 = .ok (.aload_n 0, 1) := by decide +kernel
theorem dX9_image_6 : decode cX9_image 6 = .ok (.aload_n 0, 1) := by decide +kernel
theorem dX9_image_7 : decode cX9_image 7 = .ok (.getfield 7, 3) := by decide +kernel
theorem dX9_image_10 : decode cX9_image 10 = .ok (.putfield 294, 3) := by decide +kernel
theorem dX9_image_13 : decode cX9_image 13 = .ok (.aload_n 0, 1) := by decide +kernel
theorem dX9_image_14 : decode cX9_image 14 = .ok (.aload_n 0, 1) := by decide +kernel
theorem dX9_image_15 : decode cX9_image 15 = .ok (.getfield 85, 3) := by decide +kernel
theorem dX9_image_18 : decode cX9_image 18 = .ok (.putfield 297, 3) := by decide +kernel
theorem dX9_image_21 : decode cX9_image 21 = .ok (.aload_n 0, 1) := by decide +kernel
theorem dX9_image_22 : decode cX9_image 22 = .ok (.aload_n 0, 1) := by decide +kernel
theorem dX9_image_23 : decode cX9_image 23 = .ok (.getfield 82, 3) := by decide +kernel
theorem dX9_image_26 : decode cX9_image 26 = .ok (.putfield 300, 3) := by decide +kernel
theorem dX9_image_29 : decode cX9_image 29 = .ok (.aload_n 0, 1) := by decide +kernel
theorem dX9_image_30 : decode cX9_image 30 = .ok (.aload_n 0, 1) := by decide +kernel
theorem dX9_image_31 : decode cX9_image 31 = .ok (.getfield 91, 3) := by decide +kernel
theorem dX9_image_34 : decode cX9_image 34 = .ok (.putfield 303, 3) := by decide +kernel
theorem dX9_image_37 : decode cX9_image 37 = .ok (.iconst 0, 1) := by decide +kernel
theorem dX9_image_38 : decode cX9_image 38 = .ok (.istore_n 1, 1) := by decide +kernel
theorem dX9_image_39 : decode cX9_image 39 = .ok (.iload_n 1, 1) := by decide +kernel
theorem dX9_image_40 : decode cX9_image 40 = .ok (.bipush 60, 2) := by decide +kernel
theorem dX9_image_42 : decode cX9_image 42 = .ok (.if_icmp .ge 21, 3) := by decide +kernel
theorem dX9_image_45 : decode cX9_image 45 = .ok (.aload_n 0, 1) := by decide +kernel
theorem dX9_image_46 : decode cX9_image 46 = .ok (.getfield 35, 3) := by decide +kernel
theorem dX9_image_49 : decode cX9_image 49 = .ok (.iload_n 1, 1) := by decide +kernel
theorem dX9_image_50 : decode cX9_image 50 = .ok (.aload_n 0, 1) := by decide +kernel
theorem dX9_image_51 : decode cX9_image 51 = .ok (.getfield 13, 3) := by decide +kernel
theorem dX9_image_54 : decode cX9_image 54 = .ok (.iload_n 1, 1) := by decide +kernel
theorem dX9_image_55 : decode cX9_image 55 = .ok (.iaload, 1) := by decide +kernel
theorem dX9_image_56 : decode cX9_image 56 = .ok (.iastore, 1) := by decide +kernel
theorem dX9_image_57 : decode cX9_image 57 = .ok (.iinc 1 1, 3) := by decide +kernel
theorem dX9_image_60 : decode cX9_image 60 = .ok (.goto (-21), 3) := by decide +kernel
theorem dX9_image_63 : decode cX9_image 63 = .ok (.iconst 0, 1) := by decide +kernel
theorem dX9_image_64 : decode cX9_image 64 = .ok (.istore_n 1, 1) := by decide +kernel
theorem dX9_image_65 : decode cX9_image 65 = .ok (.iload_n 1, 1) := by decide +kernel
theorem dX9_image_66 : decode cX9_image 66 = .ok (.bipush 15, 2) := by decide +kernel
theorem dX9_image_68 : decode cX9_image 68 = .ok (.if_icmp .ge 21, 3) := by decide +kernel
theorem dX9_image_71 : decode cX9_image 71 = .ok (.aload_n 0, 1) := by decide +kernel
theorem dX9_image_72 : decode cX9_image 72 = .ok (.getfield 38, 3) := by decide +kernel
theorem dX9_image_75 : decode cX9_image 75 = .ok (.iload_n 1, 1) := by decide +kernel
theorem dX9_image_76 : decode cX9_image 76 = .ok (.aload_n 0, 1) := by decide +kernel
theorem dX9_image_77 : decode cX9_image 77 = .ok (.getfield 23, 3) := by decide +kernel
theorem dX9_image_80 : decode cX9_image 80 = .ok (.iload_n 1, 1) := by decide +kernel
theorem dX9_image_81 : decode cX9_image 81 = .ok (.iaload, 1) := by decide +kernel
theorem dX9_image_82 : decode cX9_image 82 = .ok (.iastore, 1) := by decide +kernel
theorem dX9_image_83 : decode cX9_image 83 = .ok (.iinc 1 1, 3) := by decide +kernel
theorem dX9_image_86 : decode cX9_image 86 = .ok (.goto (-21), 3) := by decide +kernel
theorem dX9_image_89 : decode cX9_image 89 = .ok (.aload_n 0, 1) := by decide +kernel
theorem dX9_image_90 : decode cX9_image 90 = .ok (.getfield 82, 3) := by decide +kernel
theorem dX9_image_93 : decode cX9_image 93 = .ok (.ireturn, 1) := by decide +kernel
theorem dX9_back_0 : decode cX9_back 0 = .ok (.aload_n 0, 1) := by decide +kernel
theorem dX9_back_1 : decode cX9_back 1 = .ok (.getfield 290, 3) := by decide +kernel
theorem dX9_back_4 : decode cX9_back 4 = .ok (.ifCond .ne 6, 3) := by decide +kernel
theorem dX9_back_7 : decode cX9_back 7 = .ok (.bipush (-3), 2) := by decide +kernel
theorem dX9_back_9 : decode cX9_back 9 = .ok (.ireturn, 1) := by decide +kernel
theorem dX9_back_10 : decode cX9_back 10 = .ok (.aload_n 0, 1) := by decide +kernel
theorem dX9_back_11 : decode cX9_back 11 = .ok (.aload_n 0, 1) := by decide +kernel
theorem dX9_back_12 : decode cX9_back 12 = .ok (.getfield 294, 3) := by decide +kernel
theorem dX9_back_15 : decode cX9_back 15 = .ok (.putfield 7, 3) := by decide +kernel
theorem dX9_back_18 : decode cX9_back 18 = .ok (.aload_n 0, 1) := by decide +kernel
theorem dX9_back_19 : decode cX9_back 19 = .ok (.aload_n 0, 1) := by decide +kernel
theorem dX9_back_20 : decode cX9_back 20 = .ok (.getfield 297, 3) := by decide +kernel
theorem dX9_back_23 : decode cX9_back 23 = .ok (.putfield 85, 3) := by decide +kernel
theorem dX9_back_26 : decode cX9_back 26 = .ok (.aload_n 0, 1) := by decide +kernel
theorem dX9_back_27 : decode cX9_back 27 = .ok (.aload_n 0, 1) := by decide +kernel
theorem dX9_back_28 : decode cX9_back 28 = .ok (.getfield 300, 3) := by decide +kernel
theorem dX9_back_31 : decode cX9_back 31 = .ok (.putfield 82, 3) := by decide +kernel
theorem dX9_back_34 : decode cX9_back 34 = .ok (.aload_n 0, 1) := by decide +kernel
theorem dX9_back_35 : decode cX9_back 35 = .ok (.aload_n 0, 1) := by decide +kernel
theorem dX9_back_36 : decode cX9_back 36 = .ok (.getfield 303, 3) := by decide +kernel
theorem dX9_back_39 : decode cX9_back 39 = .ok (.putfield 91, 3) := by decide +kernel
theorem dX9_back_42 : decode cX9_back 42 = .ok (.iconst 0, 1) := by decide +kernel
theorem dX9_back_43 : decode cX9_back 43 = .ok (.istore_n 1, 1) := by decide +kernel
theorem dX9_back_44 : decode cX9_back 44 = .ok (.iload_n 1, 1) := by decide +kernel
theorem dX9_back_45 : decode cX9_back 45 = .ok (.bipush 60, 2) := by decide +kernel
theorem dX9_back_47 : decode cX9_back 47 = .ok (.if_icmp .ge 21, 3) := by decide +kernel
theorem dX9_back_50 : decode cX9_back 50 = .ok (.aload_n 0, 1) := by decide +kernel
theorem dX9_back_51 : decode cX9_back 51 = .ok (.getfield 13, 3) := by decide +kernel
theorem dX9_back_54 : decode cX9_back 54 = .ok (.iload_n 1, 1) := by decide +kernel
theorem dX9_back_55 : decode cX9_back 55 = .ok (.aload_n 0, 1) := by decide +kernel
theorem dX9_back_56 : decode cX9_back 56 = .ok (.getfield 35, 3) := by decide +kernel
theorem dX9_back_59 : decode cX9_back 59 = .ok (.iload_n 1, 1) := by decide +kernel
theorem dX9_back_60 : decode cX9_back 60 = .ok (.iaload, 1) := by decide +kernel
theorem dX9_back_61 : decode cX9_back 61 = .ok (.iastore, 1) := by decide +kernel
theorem dX9_back_62 : decode cX9_back 62 = .ok (.iinc 1 1, 3) := by decide +kernel
theorem dX9_back_65 : decode cX9_back 65 = .ok (.goto (-21), 3) := by decide +kernel
theorem dX9_back_68 : decode cX9_back 68 = .ok (.iconst 0, 1) := by decide +kernel
theorem dX9_back_69 : decode cX9_back 69 = .ok (.istore_n 1, 1) := by decide +kernel
theorem dX9_back_70 : decode cX9_back 70 = .ok (.iload_n 1, 1) := by decide +kernel
theorem dX9_back_71 : decode cX9_back 71 = .ok (.bipush 15, 2) := by decide +kernel
theorem dX9_back_73 : decode cX9_back 73 = .ok (.if_icmp .ge 21, 3) := by decide +kernel
theorem dX9_back_76 : decode cX9_back 76 = .ok (.aload_n 0, 1) := by decide +kernel
theorem dX9_back_77 : decode cX9_back 77 = .ok (.getfield 23, 3) := by decide +kernel
theorem dX9_back_80 : decode cX9_back 80 = .ok (.iload_n 1, 1) := by decide +kernel
theorem dX9_back_81 : decode cX9_back 81 = .ok (.aload_n 0, 1) := by decide +kernel
theorem dX9_back_82 : decode cX9_back 82 = .ok (.getfield 38, 3) := by decide +kernel
theorem dX9_back_85 : decode cX9_back 85 = .ok (.iload_n 1, 1) := by decide +kernel
theorem dX9_back_86 : decode cX9_back 86 = .ok (.iaload, 1) := by decide +kernel
theorem dX9_back_87 : decode cX9_back 87 = .ok (.iastore, 1) := by decide +kernel
theorem dX9_back_88 : decode cX9_back 88 = .ok (.iinc 1 1, 3) := by decide +kernel
theorem dX9_back_91 : decode cX9_back 91 = .ok (.goto (-21), 3) := by decide +kernel
theorem dX9_back_94 : decode cX9_back 94 = .ok (.aload_n 0, 1) := by decide +kernel
theorem dX9_back_95 : decode cX9_back 95 = .ok (.getfield 82, 3) := by decide +kernel
theorem dX9_back_98 : decode cX9_back 98 = .ok (.ireturn, 1) := by decide +kernel
set_option maxRecDepth 20000 in
theorem ggX9_sheet_X9_in : GoodIn wsX9_sheet wsX9_in := goodIn_r _ [7] rfl (by decide +kernel)
set_option maxRecDepth 20000 in
theorem gX9_sheet_X9_in : GoodIn wsX9_sheet (va_wsS RX9 78 yX9_in wsX9_in) := goodIn_app (goodIn_of _ (by decide +kernel)) ggX9_sheet_X9_in
theorem dX9_sheet_0 : decode cX9_sheet 0 = .ok (.iload_n 1, 1) := by decide +kernel
theorem dX9_sheet_1 : decode cX9_sheet 1 = .ok (.iconst 0, 1) := by decide +kernel
theorem dX9_sheet_2 : decode cX9_sheet 2 = .ok (.iconst 3, 1) := by decide +kernel
theorem dX9_sheet_3 : decode cX9_sheet 3 = .ok (.invokestatic 78, 3) := by decide +kernel
theorem dX9_sheet_6 : decode cX9_sheet 6 = .ok (.ifCond .eq 23, 3) := by decide +kernel
theorem dX9_sheet_9 : decode cX9_sheet 9 = .ok (.iload_n 2, 1) := by decide +kernel
theorem dX9_sheet_10 : decode cX9_sheet 10 = .ok (.iconst (-1), 1) := by decide +kernel
theorem dX9_sheet_11 : decode cX9_sheet 11 = .ok (.iconst 2, 1) := by decide +kernel
theorem dX9_sheet_12 : decode cX9_sheet 12 = .ok (.invokestatic 78, 3) := by decide +kernel
theorem dX9_sheet_15 : decode cX9_sheet 15 = .ok (.ifCond .eq 14, 3) := by decide +kernel
theorem dX9_sheet_18 : decode cX9_sheet 18 = .ok (.iload_n 2, 1) := by decide +kernel
theorem dX9_sheet_19 : decode cX9_sheet 19 = .ok (.iconst (-1), 1) := by decide +kernel
theorem dX9_sheet_20 : decode cX9_sheet 20 = .ok (.if_icmp .eq 12, 3) := by decide +kernel
theorem dX9_sheet_23 : decode cX9_sheet 23 = .ok (.iload_n 3, 1) := by decide +kernel
theorem dX9_sheet_24 : decode cX9_sheet 24 = .ok (.bipush 40, 2) := by decide +kernel
theorem dX9_sheet_26 : decode cX9_sheet 26 = .ok (.if_icmp .le 6, 3) := by decide +kernel
theorem dX9_sheet_29 : decode cX9_sheet 29 = .ok (.bipush (-2), 2) := by decide +kernel
theorem dX9_sheet_31 : decode cX9_sheet 31 = .ok (.ireturn, 1) := by decide +kernel
theorem dX9_sheet_32 : decode cX9_sheet 32 = .ok (.iload_n 2, 1) := by decide +kernel
theorem dX9_sheet_33 : decode cX9_sheet 33 = .ok (.iconst (-1), 1) := by decide +kernel
theorem dX9_sheet_34 : decode cX9_sheet 34 = .ok (.if_icmp .eq 10, 3) := by decide +kernel
theorem dX9_sheet_37 : decode cX9_sheet 37 = .ok (.iload_n 3, 1) := by decide +kernel
theorem dX9_sheet_38 : decode cX9_sheet 38 = .ok (.ifCond .ge 6, 3) := by decide +kernel
theorem dX9_sheet_41 : decode cX9_sheet 41 = .ok (.bipush (-14), 2) := by decide +kernel
theorem dX9_sheet_43 : decode cX9_sheet 43 = .ok (.ireturn, 1) := by decide +kernel
theorem dX9_sheet_44 : decode cX9_sheet 44 = .ok (.aload_n 0, 1) := by decide +kernel
theorem dX9_sheet_45 : decode cX9_sheet 45 = .ok (.getfield 41, 3) := by decide +kernel
theorem dX9_sheet_48 : decode cX9_sheet 48 = .ok (.iload_n 1, 1) := by decide +kernel
theorem dX9_sheet_49 : decode cX9_sheet 49 = .ok (.iload_n 2, 1) := by decide +kernel
theorem dX9_sheet_50 : decode cX9_sheet 50 = .ok (.iastore, 1) := by decide +kernel
theorem dX9_sheet_51 : decode cX9_sheet 51 = .ok (.aload_n 0, 1) := by decide +kernel
theorem dX9_sheet_52 : decode cX9_sheet 52 = .ok (.getfield 44, 3) := by decide +kernel
theorem dX9_sheet_55 : decode cX9_sheet 55 = .ok (.iload_n 1, 1) := by decide +kernel
theorem dX9_sheet_56 : decode cX9_sheet 56 = .ok (.iload_n 2, 1) := by decide +kernel
theorem dX9_sheet_57 : decode cX9_sheet 57 = .ok (.iconst (-1), 1) := by decide +kernel
theorem dX9_sheet_58 : decode cX9_sheet 58 = .ok (.if_icmp .ne 7, 3) := by decide +kernel
theorem dX9_sheet_61 : decode cX9_sheet 61 = .ok (.iconst 0, 1) := by decide +kernel
theorem dX9_sheet_62 : decode cX9_sheet 62 = .ok (.goto 4, 3) := by decide +kernel
theorem dX9_sheet_65 : decode cX9_sheet 65 = .ok (.iload_n 3, 1) := by decide +kernel
theorem dX9_sheet_66 : decode cX9_sheet 66 = .ok (.iastore, 1) := by decide +kernel
theorem dX9_sheet_67 : decode cX9_sheet 67 = .ok (.iconst 0, 1) := by decide +kernel
theorem dX9_sheet_68 : decode cX9_sheet 68 = .ok (.istore 4, 2) := by decide +kernel
theorem dX9_sheet_70 : decode cX9_sheet 70 = .ok (.iload 4, 2) := by decide +kernel
theorem dX9_sheet_72 : decode cX9_sheet 72 = .ok (.bipush 40, 2) := by decide +kernel
theorem dX9_sheet_74 : decode cX9_sheet 74 = .ok (.if_icmp .ge 22, 3) := by decide +kernel
theorem dX9_sheet_77 : decode cX9_sheet 77 = .ok (.aload_n 0, 1) := by decide +kernel
theorem dX9_sheet_78 : decode cX9_sheet 78 = .ok (.getfield 47, 3) := by decide +kernel
theorem dX9_sheet_81 : decode cX9_sheet 81 = .ok (.bipush 40, 2) := by decide +kernel
theorem dX9_sheet_83 : decode cX9_sheet 83 = .ok (.iload_n 1, 1) := by decide +kernel
theorem dX9_sheet_84 : decode cX9_sheet 84 = .ok (.imul, 1) := by decide +kernel
theorem dX9_sheet_85 : decode cX9_sheet 85 = .ok (.iload 4, 2) := by decide +kernel
theorem dX9_sheet_87 : decode cX9_sheet 87 = .ok (.iadd, 1) := by decide +kernel
theorem dX9_sheet_88 : decode cX9_sheet 88 = .ok (.iconst 0, 1) := by decide +kernel
theorem dX9_sheet_89 : decode cX9_sheet 89 = .ok (.iastore, 1) := by decide +kernel
theorem dX9_sheet_90 : decode cX9_sheet 90 = .ok (.iinc 4 1, 3) := by decide +kernel
theorem dX9_sheet_93 : decode cX9_sheet 93 = .ok (.goto (-23), 3) := by decide +kernel
theorem dX9_sheet_96 : decode cX9_sheet 96 = .ok (.iconst 1, 1) := by decide +kernel
theorem dX9_sheet_97 : decode cX9_sheet 97 = .ok (.ireturn, 1) := by decide +kernel
set_option maxRecDepth 20000 in
theorem ggX9_cell_X9_in : GoodIn wsX9_cell wsX9_in := goodIn_r _ [7] rfl (by decide +kernel)
set_option maxRecDepth 20000 in
theorem gX9_cell_X9_in : GoodIn wsX9_cell (va_wsS RX9 78 yX9_in wsX9_in) := goodIn_app (goodIn_of _ (by decide +kernel)) ggX9_cell_X9_in
theorem dX9_cell_0 : decode cX9_cell 0 = .ok (.iload_n 1, 1) := by decide +kernel
theorem dX9_cell_1 : decode cX9_cell 1 = .ok (.iconst 0, 1) := by decide +kernel
theorem dX9_cell_2 : decode cX9_cell 2 = .ok (.iconst 3, 1) := by decide +kernel
theorem dX9_cell_3 : decode cX9_cell 3 = .ok (.invokestatic 78, 3) := by decide +kernel
theorem dX9_cell_6 : decode cX9_cell 6 = .ok (.ifCond .ne 6, 3) := by decide +kernel
theorem dX9_cell_9 : decode cX9_cell 9 = .ok (.bipush (-2), 2) := by decide +kernel
theorem dX9_cell_11 : decode cX9_cell 11 = .ok (.ireturn, 1) := by decide +kernel
theorem dX9_cell_12 : decode cX9_cell 12 = .ok (.aload_n 0, 1) := by decide +kernel
theorem dX9_cell_13 : decode cX9_cell 13 = .ok (.getfield 41, 3) := by decide +kernel
theorem dX9_cell_16 : decode cX9_cell 16 = .ok (.iload_n 1, 1) := by decide +kernel
theorem dX9_cell_17 : decode cX9_cell 17 = .ok (.iaload, 1) := by decide +kernel
theorem dX9_cell_18 : decode cX9_cell 18 = .ok (.iconst (-1), 1) := by decide +kernel
theorem dX9_cell_19 : decode cX9_cell 19 = .ok (.if_icmp .ne 6, 3) := by decide +kernel
theorem dX9_cell_22 : decode cX9_cell 22 = .ok (.bipush (-11), 2) := by decide +kernel
theorem dX9_cell_24 : decode cX9_cell 24 = .ok (.ireturn, 1) := by decide +kernel
theorem dX9_cell_25 : decode cX9_cell 25 = .ok (.iload_n 2, 1) := by decide +kernel
theorem dX9_cell_26 : decode cX9_cell 26 = .ok (.iconst 0, 1) := by decide +kernel
theorem dX9_cell_27 : decode cX9_cell 27 = .ok (.aload_n 0, 1) := by decide +kernel
theorem dX9_cell_28 : decode cX9_cell 28 = .ok (.getfield 44, 3) := by decide +kernel
theorem dX9_cell_31 : decode cX9_cell 31 = .ok (.iload_n 1, 1) := by decide +kernel
theorem dX9_cell_32 : decode cX9_cell 32 = .ok (.iaload, 1) := by decide +kernel
theorem dX9_cell_33 : decode cX9_cell 33 = .ok (.iconst 1, 1) := by decide +kernel
theorem dX9_cell_34 : decode cX9_cell 34 = .ok (.isub, 1) := by decide +kernel
theorem dX9_cell_35 : decode cX9_cell 35 = .ok (.invokestatic 78, 3) := by decide +kernel
theorem dX9_cell_38 : decode cX9_cell 38 = .ok (.ifCond .ne 6, 3) := by decide +kernel
theorem dX9_cell_41 : decode cX9_cell 41 = .ok (.bipush (-12), 2) := by decide +kernel
theorem dX9_cell_43 : decode cX9_cell 43 = .ok (.ireturn, 1) := by decide +kernel
theorem dX9_cell_44 : decode cX9_cell 44 = .ok (.aload_n 0, 1) := by decide +kernel
theorem dX9_cell_45 : decode cX9_cell 45 = .ok (.getfield 47, 3) := by decide +kernel
theorem dX9_cell_48 : decode cX9_cell 48 = .ok (.bipush 40, 2) := by decide +kernel
theorem dX9_cell_50 : decode cX9_cell 50 = .ok (.iload_n 1, 1) := by decide +kernel
theorem dX9_cell_51 : decode cX9_cell 51 = .ok (.imul, 1) := by decide +kernel
theorem dX9_cell_52 : decode cX9_cell 52 = .ok (.iload_n 2, 1) := by decide +kernel
theorem dX9_cell_53 : decode cX9_cell 53 = .ok (.iadd, 1) := by decide +kernel
theorem dX9_cell_54 : decode cX9_cell 54 = .ok (.aload_n 0, 1) := by decide +kernel
theorem dX9_cell_55 : decode cX9_cell 55 = .ok (.getfield 41, 3) := by decide +kernel
theorem dX9_cell_58 : decode cX9_cell 58 = .ok (.iload_n 1, 1) := by decide +kernel
theorem dX9_cell_59 : decode cX9_cell 59 = .ok (.iaload, 1) := by decide +kernel
theorem dX9_cell_60 : decode cX9_cell 60 = .ok (.ifCond .ne 8, 3) := by decide +kernel
theorem dX9_cell_63 : decode cX9_cell 63 = .ok (.iload_n 3, 1) := by decide +kernel
theorem dX9_cell_64 : decode cX9_cell 64 = .ok (.i2b, 1) := by decide +kernel
theorem dX9_cell_65 : decode cX9_cell 65 = .ok (.goto 19, 3) := by decide +kernel
theorem dX9_cell_68 : decode cX9_cell 68 = .ok (.aload_n 0, 1) := by decide +kernel
theorem dX9_cell_69 : decode cX9_cell 69 = .ok (.getfield 41, 3) := by decide +kernel
theorem dX9_cell_72 : decode cX9_cell 72 = .ok (.iload_n 1, 1) := by decide +kernel
theorem dX9_cell_73 : decode cX9_cell 73 = .ok (.iaload, 1) := by decide +kernel
theorem dX9_cell_74 : decode cX9_cell 74 = .ok (.iconst 1, 1) := by decide +kernel
theorem dX9_cell_75 : decode cX9_cell 75 = .ok (.if_icmp .ne 8, 3) := by decide +kernel
theorem dX9_cell_78 : decode cX9_cell 78 = .ok (.iload_n 3, 1) := by decide +kernel
theorem dX9_cell_79 : decode cX9_cell 79 = .ok (.i2s, 1) := by decide +kernel
theorem dX9_cell_80 : decode cX9_cell 80 = .ok (.goto 4, 3) := by decide +kernel
theorem dX9_cell_83 : decode cX9_cell 83 = .ok (.iload_n 3, 1) := by decide +kernel
theorem dX9_cell_84 : decode cX9_cell 84 = .ok (.iastore, 1) := by decide +kernel
theorem dX9_cell_85 : decode cX9_cell 85 = .ok (.iconst 1, 1) := by decide +kernel
theorem dX9_cell_86 : decode cX9_cell 86 = .ok (.ireturn, 1) := by decide +kernel
set_option maxRecDepth 20000 in
theorem ggX9_copy_X9_in : GoodIn wsX9_copy wsX9_in := goodIn_r _ [7] rfl (by decide +kernel)
set_option maxRecDepth 20000 in
theorem gX9_copy_X9_in : GoodIn wsX9_copy (va_wsS RX9 78 yX9_in wsX9_in) := goodIn_app (goodIn_of _ (by decide +kernel)) ggX9_copy_X9_in
theorem dX9_copy_0 : decode cX9_copy 0 = .ok (.iload_n 1, 1) := by decide +kernel
theorem dX9_copy_1 : decode cX9_copy 1 = .ok (.iconst 0, 1) := by decide +kernel
theorem dX9_copy_2 : decode cX9_copy 2 = .ok (.iconst 3, 1) := by decide +kernel
theorem dX9_copy_3 : decode cX9_copy 3 = .ok (.invokestatic 78, 3) := by decide +kernel
theorem dX9_copy_6 : decode cX9_copy 6 = .ok (.ifCond .eq 12, 3) := by decide +kernel
theorem dX9_copy_9 : decode cX9_copy 9 = .ok (.iload_n 3, 1) := by decide +kernel
theorem dX9_copy_10 : decode cX9_copy 10 = .ok (.iconst 0, 1) := by decide +kernel
theorem dX9_copy_11 : decode cX9_copy 11 = .ok (.iconst 3, 1) := by decide +kernel
theorem dX9_copy_12 : decode cX9_copy 12 = .ok (.invokestatic 78, 3) := by decide +kernel
theorem dX9_copy_15 : decode cX9_copy 15 = .ok (.ifCond .ne 6, 3) := by decide +kernel
theorem dX9_copy_18 : decode cX9_copy 18 = .ok (.bipush (-2), 2) := by decide +kernel
theorem dX9_copy_20 : decode cX9_copy 20 = .ok (.ireturn, 1) := by decide +kernel
theorem dX9_copy_21 : decode cX9_copy 21 = .ok (.aload_n 0, 1) := by decide +kernel
theorem dX9_copy_22 : decode cX9_copy 22 = .ok (.getfield 41, 3) := by decide +kernel
theorem dX9_copy_25 : decode cX9_copy 25 = .ok (.iload_n 1, 1) := by decide +kernel
theorem dX9_copy_26 : decode cX9_copy 26 = .ok (.iaload, 1) := by decide +kernel
theorem dX9_copy_27 : decode cX9_copy 27 = .ok (.iconst (-1), 1) := by decide +kernel
theorem dX9_copy_28 : decode cX9_copy 28 = .ok (.if_icmp .eq 13, 3) := by decide +kernel
theorem dX9_copy_31 : decode cX9_copy 31 = .ok (.aload_n 0, 1) := by decide +kernel
theorem dX9_copy_32 : decode cX9_copy 32 = .ok (.getfield 41, 3) := by decide +kernel
theorem dX9_copy_35 : decode cX9_copy 35 = .ok (.iload_n 3, 1) := by decide +kernel
theorem dX9_copy_36 : decode cX9_copy 36 = .ok (.iaload, 1) := by decide +kernel
theorem dX9_copy_37 : decode cX9_copy 37 = .ok (.iconst (-1), 1) := by decide +kernel
theorem dX9_copy_38 : decode cX9_copy 38 = .ok (.if_icmp .ne 6, 3) := by decide +kernel
theorem dX9_copy_41 : decode cX9_copy 41 = .ok (.bipush (-11), 2) := by decide +kernel
theorem dX9_copy_43 : decode cX9_copy 43 = .ok (.ireturn, 1) := by decide +kernel
theorem dX9_copy_44 : decode cX9_copy 44 = .ok (.aload_n 0, 1) := by decide +kernel
theorem dX9_copy_45 : decode cX9_copy 45 = .ok (.getfield 41, 3) := by decide +kernel
theorem dX9_copy_48 : decode cX9_copy 48 = .ok (.iload_n 1, 1) := by decide +kernel
theorem dX9_copy_49 : decode cX9_copy 49 = .ok (.iaload, 1) := by decide +kernel
theorem dX9_copy_50 : decode cX9_copy 50 = .ok (.aload_n 0, 1) := by decide +kernel
theorem dX9_copy_51 : decode cX9_copy 51 = .ok (.getfield 41, 3) := by decide +kernel
theorem dX9_copy_54 : decode cX9_copy 54 = .ok (.iload_n 3, 1) := by decide +kernel
theorem dX9_copy_55 : decode cX9_copy 55 = .ok (.iaload, 1) := by decide +kernel
theorem dX9_copy_56 : decode cX9_copy 56 = .ok (.if_icmp .eq 6, 3) := by decide +kernel
theorem dX9_copy_59 : decode cX9_copy 59 = .ok (.bipush (-13), 2) := by decide +kernel
theorem dX9_copy_61 : decode cX9_copy 61 = .ok (.ireturn, 1) := by decide +kernel
theorem dX9_copy_62 : decode cX9_copy 62 = .ok (.iload 5, 2) := by decide +kernel
theorem dX9_copy_64 : decode cX9_copy 64 = .ok (.ifCond .lt 60, 3) := by decide +kernel
theorem dX9_copy_67 : decode cX9_copy 67 = .ok (.iload_n 2, 1) := by decide +kernel
theorem dX9_copy_68 : decode cX9_copy 68 = .ok (.ifCond .lt 56, 3) := by decide +kernel
theorem dX9_copy_71 : decode cX9_copy 71 = .ok (.iload 4, 2) := by decide +kernel
theorem dX9_copy_73 : decode cX9_copy 73 = .ok (.ifCond .lt 51, 3) := by decide +kernel
theorem dX9_copy_76 : decode cX9_copy 76 = .ok (.iload_n 2, 1) := by decide +kernel
theorem dX9_copy_77 : decode cX9_copy 77 = .ok (.aload_n 0, 1) := by decide +kernel
theorem dX9_copy_78 : decode cX9_copy 78 = .ok (.getfield 44, 3) := by decide +kernel
theorem dX9_copy_81 : decode cX9_copy 81 = .ok (.iload_n 1, 1) := by decide +kernel
theorem dX9_copy_82 : decode cX9_copy 82 = .ok (.iaload, 1) := by decide +kernel
theorem dX9_copy_83 : decode cX9_copy 83 = .ok (.if_icmp .gt 41, 3) := by decide +kernel
theorem dX9_copy_86 : decode cX9_copy 86 = .ok (.iload 4, 2) := by decide +kernel
theorem dX9_copy_88 : decode cX9_copy 88 = .ok (.aload_n 0, 1) := by decide +kernel
theorem dX9_copy_89 : decode cX9_copy 89 = .ok (.getfield 44, 3) := by decide +kernel
theorem dX9_copy_92 : decode cX9_copy 92 = .ok (.iload_n 3, 1) := by decide +kernel
theorem dX9_copy_93 : decode cX9_copy 93 = .ok (.iaload, 1) := by decide +kernel
theorem dX9_copy_94 : decode cX9_copy 94 = .ok (.if_icmp .gt 30, 3) := by decide +kernel
theorem dX9_copy_97 : decode cX9_copy 97 = .ok (.iload 5, 2) := by decide +kernel
theorem dX9_copy_99 : decode cX9_copy 99 = .ok (.aload_n 0, 1) := by decide +kernel
theorem dX9_copy_100 : decode cX9_copy 100 = .ok (.getfield 44, 3) := by decide +kernel
theorem dX9_copy_103 : decode cX9_copy 103 = .ok (.iload_n 1, 1) := by decide +kernel
theorem dX9_copy_104 : decode cX9_copy 104 = .ok (.iaload, 1) := by decide +kernel
theorem dX9_copy_105 : decode cX9_copy 105 = .ok (.iload_n 2, 1) := by decide +kernel
theorem dX9_copy_106 : decode cX9_copy 106 = .ok (.isub, 1) := by decide +kernel
theorem dX9_copy_107 : decode cX9_copy 107 = .ok (.if_icmp .gt 17, 3) := by decide +kernel
theorem dX9_copy_110 : decode cX9_copy 110 = .ok (.iload 5, 2) := by decide +kernel
theorem dX9_copy_112 : decode cX9_copy 112 = .ok (.aload_n 0, 1) := by decide +kernel
theorem dX9_copy_113 : decode cX9_copy 113 = .ok (.getfield 44, 3) := by decide +kernel
theorem dX9_copy_116 : decode cX9_copy 116 = .ok (.iload_n 3, 1) := by decide +kernel
theorem dX9_copy_117 : decode cX9_copy 117 = .ok (.iaload, 1) := by decide +kernel
theorem dX9_copy_118 : decode cX9_copy 118 = .ok (.iload 4, 2) := by decide +kernel
theorem dX9_copy_120 : decode cX9_copy 120 = .ok (.isub, 1) := by decide +kernel
theorem dX9_copy_121 : decode cX9_copy 121 = .ok (.if_icmp .le 6, 3) := by decide +kernel
theorem dX9_copy_124 : decode cX9_copy 124 = .ok (.bipush (-12), 2) := by decide +kernel
theorem dX9_copy_126 : decode cX9_copy 126 = .ok (.ireturn, 1) := by decide +kernel
theorem dX9_copy_127 : decode cX9_copy 127 = .ok (.bipush 40, 2) := by decide +kernel
theorem dX9_copy_129 : decode cX9_copy 129 = .ok (.iload_n 1, 1) := by decide +kernel
theorem dX9_copy_130 : decode cX9_copy 130 = .ok (.imul, 1) := by decide +kernel
theorem dX9_copy_131 : decode cX9_copy 131 = .ok (.iload_n 2, 1) := by decide +kernel
theorem dX9_copy_132 : decode cX9_copy 132 = .ok (.iadd, 1) := by decide +kernel
theorem dX9_copy_133 : decode cX9_copy 133 = .ok (.istore 6, 2) := by decide +kernel
theorem dX9_copy_135 : decode cX9_copy 135 = .ok (.bipush 40, 2) := by decide +kernel
theorem dX9_copy_137 : decode cX9_copy 137 = .ok (.iload_n 3, 1) := by decide +kernel
theorem dX9_copy_138 : decode cX9_copy 138 = .ok (.imul, 1) := by decide +kernel
theorem dX9_copy_139 : decode cX9_copy 139 = .ok (.iload 4, 2) := by decide +kernel
theorem dX9_copy_141 : decode cX9_copy 141 = .ok (.iadd, 1) := by decide +kernel
theorem dX9_copy_142 : decode cX9_copy 142 = .ok (.istore 7, 2) := by decide +kernel
theorem dX9_copy_144 : decode cX9_copy 144 = .ok (.iconst 0, 1) := by decide +kernel
theorem dX9_copy_145 : decode cX9_copy 145 = .ok (.istore 8, 2) := by decide +kernel
theorem dX9_copy_147 : decode cX9_copy 147 = .ok (.iload 8, 2) := by decide +kernel
theorem dX9_copy_149 : decode cX9_copy 149 = .ok (.iload 5, 2) := by decide +kernel
theorem dX9_copy_151 : decode cX9_copy 151 = .ok (.if_icmp .ge 50, 3) := by decide +kernel
theorem dX9_copy_154 : decode cX9_copy 154 = .ok (.iload 6, 2) := by decide +kernel
theorem dX9_copy_156 : decode cX9_copy 156 = .ok (.iload 7, 2) := by decide +kernel
theorem dX9_copy_158 : decode cX9_copy 158 = .ok (.if_icmp .ge 13, 3) := by decide +kernel
theorem dX9_copy_161 : decode cX9_copy 161 = .ok (.iload 5, 2) := by decide +kernel
theorem dX9_copy_163 : decode cX9_copy 163 = .ok (.iconst 1, 1) := by decide +kernel
theorem dX9_copy_164 : decode cX9_copy 164 = .ok (.isub, 1) := by decide +kernel
theorem dX9_copy_165 : decode cX9_copy 165 = .ok (.iload 8, 2) := by decide +kernel
theorem dX9_copy_167 : decode cX9_copy 167 = .ok (.isub, 1) := by decide +kernel
theorem dX9_copy_168 : decode cX9_copy 168 = .ok (.goto 5, 3) := by decide +kernel
theorem dX9_copy_171 : decode cX9_copy 171 = .ok (.iload 8, 2) := by decide +kernel
theorem dX9_copy_173 : decode cX9_copy 173 = .ok (.istore 9, 2) := by decide +kernel
theorem dX9_copy_175 : decode cX9_copy 175 = .ok (.aload_n 0, 1) := by decide +kernel
theorem dX9_copy_176 : decode cX9_copy 176 = .ok (.getfield 47, 3) := by decide +kernel
theorem dX9_copy_179 : decode cX9_copy 179 = .ok (.iload 7, 2) := by decide +kernel
theorem dX9_copy_181 : decode cX9_copy 181 = .ok (.iload 9, 2) := by decide +kernel
theorem dX9_copy_183 : decode cX9_copy 183 = .ok (.iadd, 1) := by decide +kernel
theorem dX9_copy_184 : decode cX9_copy 184 = .ok (.aload_n 0, 1) := by decide +kernel
theorem dX9_copy_185 : decode cX9_copy 185 = .ok (.getfield 47, 3) := by decide +kernel
theorem dX9_copy_188 : decode cX9_copy 188 = .ok (.iload 6, 2) := by decide +kernel
theorem dX9_copy_190 : decode cX9_copy 190 = .ok (.iload 9, 2) := by decide +kernel
theorem dX9_copy_192 : decode cX9_copy 192 = .ok (.iadd, 1) := by decide +kernel
theorem dX9_copy_193 : decode cX9_copy 193 = .ok (.iaload, 1) := by decide +kernel
theorem dX9_copy_194 : decode cX9_copy 194 = .ok (.iastore, 1) := by decide +kernel
theorem dX9_copy_195 : decode cX9_copy 195 = .ok (.iinc 8 1, 3) := by decide +kernel
theorem dX9_copy_198 : decode cX9_copy 198 = .ok (.goto (-51), 3) := by decide +kernel
theorem dX9_copy_201 : decode cX9_copy 201 = .ok (.iload 5, 2) := by decide +kernel
theorem dX9_copy_203 : decode cX9_copy 203 = .ok (.ireturn, 1) := by decide +kernel
set_option maxRecDepth 20000 in
theorem ggX9_cardsBy_X9_in : GoodIn wsX9_cardsBy wsX9_in := goodIn_r _ [7] rfl (by decide +kernel)
set_option maxRecDepth 20000 in
theorem gX9_cardsBy_X9_in : GoodIn wsX9_cardsBy (va_wsS RX9 78 yX9_in wsX9_in) := goodIn_app (goodIn_of _ (by decide +kernel)) ggX9_cardsBy_X9_in
set_option maxRecDepth 20000 in
theorem ggX9_cardsBy_X9_card : GoodIn wsX9_cardsBy wsX9_card := goodIn_r _ [11, 12, 13, 14, 15, 16, 6, 17, 18, 4, 5, 7, 19, 20, 21, 22, 23, 24, 25, 26, 27, 28, 29, 30, 31, 32, 33, 34, 35, 36, 37, 38, 39, 40, 41, 42, 43, 44, 45, 46, 47, 48, 49, 50, 51, 52, 53, 54, 55, 56, 57, 58, 59] rfl (by decide +kernel)
set_option maxRecDepth 20000 in
theorem gX9_cardsBy_X9_card : GoodIn wsX9_cardsBy (wsV RX9 306 RX9 yX9_card wsX9_card) := goodIn_app (goodIn_of _ (by decide +kernel)) ggX9_cardsBy_X9_card
theorem dX9_cardsBy_0 : decode cX9_cardsBy 0 = .ok (.iload_n 1, 1) := by decide +kernel
theorem dX9_cardsBy_1 : decode cX9_cardsBy 1 = .ok (.iconst 0, 1) := by decide +kernel
theorem dX9_cardsBy_2 : decode cX9_cardsBy 2 = .ok (.iconst 3, 1) := by decide +kernel
theorem dX9_cardsBy_3 : decode cX9_cardsBy 3 = .ok (.invokestatic 78, 3) := by decide +kernel
theorem dX9_cardsBy_6 : decode cX9_cardsBy 6 = .ok (.ifCond .eq 23, 3) := by decide +kernel
theorem dX9_cardsBy_9 : decode cX9_cardsBy 9 = .ok (.iload_n 2, 1) := by decide +kernel
theorem dX9_cardsBy_10 : decode cX9_cardsBy 10 = .ok (.iconst 0, 1) := by decide +kernel
theorem dX9_cardsBy_11 : decode cX9_cardsBy 11 = .ok (.iconst 2, 1) := by decide +kernel
theorem dX9_cardsBy_12 : decode cX9_cardsBy 12 = .ok (.invokestatic 78, 3) := by decide +kernel
theorem dX9_cardsBy_15 : decode cX9_cardsBy 15 = .ok (.ifCond .eq 14, 3) := by decide +kernel
theorem dX9_cardsBy_18 : decode cX9_cardsBy 18 = .ok (.iload 4, 2) := by decide +kernel
theorem dX9_cardsBy_20 : decode cX9_cardsBy 20 = .ok (.iconst 0, 1) := by decide +kernel
theorem dX9_cardsBy_21 : decode cX9_cardsBy 21 = .ok (.bipush 40, 2) := by decide +kernel
theorem dX9_cardsBy_23 : decode cX9_cardsBy 23 = .ok (.invokestatic 78, 3) := by decide +kernel
theorem dX9_cardsBy_26 : decode cX9_cardsBy 26 = .ok (.ifCond .ne 6, 3) := by decide +kernel
theorem dX9_cardsBy_29 : decode cX9_cardsBy 29 = .ok (.bipush (-2), 2) := by decide +kernel
theorem dX9_cardsBy_31 : decode cX9_cardsBy 31 = .ok (.ireturn, 1) := by decide +kernel
theorem dX9_cardsBy_32 : decode cX9_cardsBy 32 = .ok (.aload_n 0, 1) := by decide +kernel
theorem dX9_cardsBy_33 : decode cX9_cardsBy 33 = .ok (.getfield 41, 3) := by decide +kernel
theorem dX9_cardsBy_36 : decode cX9_cardsBy 36 = .ok (.iload_n 1, 1) := by decide +kernel
theorem dX9_cardsBy_37 : decode cX9_cardsBy 37 = .ok (.iaload, 1) := by decide +kernel
theorem dX9_cardsBy_38 : decode cX9_cardsBy 38 = .ok (.iconst (-1), 1) := by decide +kernel
theorem dX9_cardsBy_39 : decode cX9_cardsBy 39 = .ok (.if_icmp .ne 6, 3) := by decide +kernel
theorem dX9_cardsBy_42 : decode cX9_cardsBy 42 = .ok (.bipush (-11), 2) := by decide +kernel
theorem dX9_cardsBy_44 : decode cX9_cardsBy 44 = .ok (.ireturn, 1) := by decide +kernel
theorem dX9_cardsBy_45 : decode cX9_cardsBy 45 = .ok (.aload_n 0, 1) := by decide +kernel
theorem dX9_cardsBy_46 : decode cX9_cardsBy 46 = .ok (.getfield 41, 3) := by decide +kernel
theorem dX9_cardsBy_49 : decode cX9_cardsBy 49 = .ok (.iload_n 1, 1) := by decide +kernel
theorem dX9_cardsBy_50 : decode cX9_cardsBy 50 = .ok (.iaload, 1) := by decide +kernel
theorem dX9_cardsBy_51 : decode cX9_cardsBy 51 = .ok (.iload_n 2, 1) := by decide +kernel
theorem dX9_cardsBy_52 : decode cX9_cardsBy 52 = .ok (.if_icmp .eq 6, 3) := by decide +kernel
theorem dX9_cardsBy_55 : decode cX9_cardsBy 55 = .ok (.bipush (-13), 2) := by decide +kernel
theorem dX9_cardsBy_57 : decode cX9_cardsBy 57 = .ok (.ireturn, 1) := by decide +kernel
theorem dX9_cardsBy_58 : decode cX9_cardsBy 58 = .ok (.iconst 0, 1) := by decide +kernel
theorem dX9_cardsBy_59 : decode cX9_cardsBy 59 = .ok (.istore 5, 2) := by decide +kernel
theorem dX9_cardsBy_61 : decode cX9_cardsBy 61 = .ok (.iconst 0, 1) := by decide +kernel
theorem dX9_cardsBy_62 : decode cX9_cardsBy 62 = .ok (.istore 6, 2) := by decide +kernel
theorem dX9_cardsBy_64 : decode cX9_cardsBy 64 = .ok (.iload 6, 2) := by decide +kernel
theorem dX9_cardsBy_66 : decode cX9_cardsBy 66 = .ok (.iload 4, 2) := by decide +kernel
theorem dX9_cardsBy_68 : decode cX9_cardsBy 68 = .ok (.if_icmp .ge 76, 3) := by decide +kernel
theorem dX9_cardsBy_71 : decode cX9_cardsBy 71 = .ok (.iload_n 3, 1) := by decide +kernel
theorem dX9_cardsBy_72 : decode cX9_cardsBy 72 = .ok (.iconst 1, 1) := by decide +kernel
theorem dX9_cardsBy_73 : decode cX9_cardsBy 73 = .ok (.iload 6, 2) := by decide +kernel
theorem dX9_cardsBy_75 : decode cX9_cardsBy 75 = .ok (.imul, 1) := by decide +kernel
theorem dX9_cardsBy_76 : decode cX9_cardsBy 76 = .ok (.iadd, 1) := by decide +kernel
theorem dX9_cardsBy_77 : decode cX9_cardsBy 77 = .ok (.istore 7, 2) := by decide +kernel
theorem dX9_cardsBy_79 : decode cX9_cardsBy 79 = .ok (.iload_n 3, 1) := by decide +kernel
theorem dX9_cardsBy_80 : decode cX9_cardsBy 80 = .ok (.ifCond .lt 22, 3) := by decide +kernel
theorem dX9_cardsBy_83 : decode cX9_cardsBy 83 = .ok (.iload 7, 2) := by decide +kernel
theorem dX9_cardsBy_85 : decode cX9_cardsBy 85 = .ok (.iload_n 3, 1) := by decide +kernel
theorem dX9_cardsBy_86 : decode cX9_cardsBy 86 = .ok (.if_icmp .lt 16, 3) := by decide +kernel
theorem dX9_cardsBy_89 : decode cX9_cardsBy 89 = .ok (.iload 7, 2) := by decide +kernel
theorem dX9_cardsBy_91 : decode cX9_cardsBy 91 = .ok (.aload_n 0, 1) := by decide +kernel
theorem dX9_cardsBy_92 : decode cX9_cardsBy 92 = .ok (.getfield 44, 3) := by decide +kernel
theorem dX9_cardsBy_95 : decode cX9_cardsBy 95 = .ok (.iload_n 1, 1) := by decide +kernel
theorem dX9_cardsBy_96 : decode cX9_cardsBy 96 = .ok (.iaload, 1) := by decide +kernel
theorem dX9_cardsBy_97 : decode cX9_cardsBy 97 = .ok (.iconst 1, 1) := by decide +kernel
theorem dX9_cardsBy_98 : decode cX9_cardsBy 98 = .ok (.isub, 1) := by decide +kernel
theorem dX9_cardsBy_99 : decode cX9_cardsBy 99 = .ok (.if_icmp .le 6, 3) := by decide +kernel
theorem dX9_cardsBy_102 : decode cX9_cardsBy 102 = .ok (.bipush (-12), 2) := by decide +kernel
theorem dX9_cardsBy_104 : decode cX9_cardsBy 104 = .ok (.ireturn, 1) := by decide +kernel
theorem dX9_cardsBy_105 : decode cX9_cardsBy 105 = .ok (.bipush 40, 2) := by decide +kernel
theorem dX9_cardsBy_107 : decode cX9_cardsBy 107 = .ok (.iload_n 1, 1) := by decide +kernel
theorem dX9_cardsBy_108 : decode cX9_cardsBy 108 = .ok (.imul, 1) := by decide +kernel
theorem dX9_cardsBy_109 : decode cX9_cardsBy 109 = .ok (.iload 7, 2) := by decide +kernel
theorem dX9_cardsBy_111 : decode cX9_cardsBy 111 = .ok (.iadd, 1) := by decide +kernel
theorem dX9_cardsBy_112 : decode cX9_cardsBy 112 = .ok (.istore 8, 2) := by decide +kernel
theorem dX9_cardsBy_114 : decode cX9_cardsBy 114 = .ok (.iload 5, 2) := by decide +kernel
theorem dX9_cardsBy_116 : decode cX9_cardsBy 116 = .ok (.aload_n 0, 1) := by decide +kernel
theorem dX9_cardsBy_117 : decode cX9_cardsBy 117 = .ok (.aload_n 0, 1) := by decide +kernel
theorem dX9_cardsBy_118 : decode cX9_cardsBy 118 = .ok (.getfield 47, 3) := by decide +kernel
theorem dX9_cardsBy_121 : decode cX9_cardsBy 121 = .ok (.iload 8, 2) := by decide +kernel
theorem dX9_cardsBy_123 : decode cX9_cardsBy 123 = .ok (.iaload, 1) := by decide +kernel
theorem dX9_cardsBy_124 : decode cX9_cardsBy 124 = .ok (.invokevirtual 306, 3) := by decide +kernel
theorem dX9_cardsBy_127 : decode cX9_cardsBy 127 = .ok (.ifCond .lt 7, 3) := by decide +kernel
theorem dX9_cardsBy_130 : decode cX9_cardsBy 130 = .ok (.iconst 1, 1) := by decide +kernel
theorem dX9_cardsBy_131 : decode cX9_cardsBy 131 = .ok (.goto 4, 3) := by decide +kernel
theorem dX9_cardsBy_134 : decode cX9_cardsBy 134 = .ok (.iconst 0, 1) := by decide +kernel
theorem dX9_cardsBy_135 : decode cX9_cardsBy 135 = .ok (.iadd, 1) := by decide +kernel
theorem dX9_cardsBy_136 : decode cX9_cardsBy 136 = .ok (.istore 5, 2) := by decide +kernel
theorem dX9_cardsBy_138 : decode cX9_cardsBy 138 = .ok (.iinc 6 1, 3) := by decide +kernel
theorem dX9_cardsBy_141 : decode cX9_cardsBy 141 = .ok (.goto (-77), 3) := by decide +kernel
theorem dX9_cardsBy_144 : decode cX9_cardsBy 144 = .ok (.iload 5, 2) := by decide +kernel
theorem dX9_cardsBy_146 : decode cX9_cardsBy 146 = .ok (.ireturn, 1) := by decide +kernel
theorem dX9_isUnder_0 : decode cX9_isUnder 0 = .ok (.iload_n 1, 1) := by decide +kernel
theorem dX9_isUnder_1 : decode cX9_isUnder 1 = .ok (.ifCond .eq 28, 3) := by decide +kernel
theorem dX9_isUnder_4 : decode cX9_isUnder 4 = .ok (.iload_n 0, 1) := by decide +kernel
theorem dX9_isUnder_5 : decode cX9_isUnder 5 = .ok (.iload_n 1, 1) := by decide +kernel
theorem dX9_isUnder_6 : decode cX9_isUnder 6 = .ok (.if_icmp .eq 23, 3) := by decide +kernel
theorem dX9_isUnder_9 : decode cX9_isUnder 9 = .ok (.iload_n 1, 1) := by decide +kernel
theorem dX9_isUnder_10 : decode cX9_isUnder 10 = .ok (.iconst 1, 1) := by decide +kernel
theorem dX9_isUnder_11 : decode cX9_isUnder 11 = .ok (.if_icmp .ne 8, 3) := by decide +kernel
theorem dX9_isUnder_14 : decode cX9_isUnder 14 = .ok (.iload_n 0, 1) := by decide +kernel
theorem dX9_isUnder_15 : decode cX9_isUnder 15 = .ok (.iconst 3, 1) := by decide +kernel
theorem dX9_isUnder_16 : decode cX9_isUnder 16 = .ok (.if_icmp .eq 13, 3) := by decide +kernel
theorem dX9_isUnder_19 : decode cX9_isUnder 19 = .ok (.iload_n 1, 1) := by decide +kernel
theorem dX9_isUnder_20 : decode cX9_isUnder 20 = .ok (.iconst 2, 1) := by decide +kernel
theorem dX9_isUnder_21 : decode cX9_isUnder 21 = .ok (.if_icmp .ne 12, 3) := by decide +kernel
theorem dX9_isUnder_24 : decode cX9_isUnder 24 = .ok (.iload_n 0, 1) := by decide +kernel
theorem dX9_isUnder_25 : decode cX9_isUnder 25 = .ok (.iconst 4, 1) := by decide +kernel
theorem dX9_isUnder_26 : decode cX9_isUnder 26 = .ok (.if_icmp .ne 7, 3) := by decide +kernel
theorem dX9_isUnder_29 : decode cX9_isUnder 29 = .ok (.iconst 1, 1) := by decide +kernel
theorem dX9_isUnder_30 : decode cX9_isUnder 30 = .ok (.goto 4, 3) := by decide +kernel
theorem dX9_isUnder_33 : decode cX9_isUnder 33 = .ok (.iconst 0, 1) := by decide +kernel
theorem dX9_isUnder_34 : decode cX9_isUnder 34 = .ok (.ireturn, 1) := by decide +kernel
set_option maxRecDepth 20000 in
theorem ggX9_taken_X9_in : GoodIn wsX9_taken wsX9_in := goodIn_r _ [8] rfl (by decide +kernel)
set_option maxRecDepth 20000 in
theorem gX9_taken_X9_in : GoodIn wsX9_taken (va_wsS RX9 78 yX9_in wsX9_in) := goodIn_app (goodIn_of _ (by decide +kernel)) ggX9_taken_X9_in
set_option maxRecDepth 20000 in
theorem ggX9_taken_X9_isUnder : GoodIn wsX9_taken wsX9_isUnder := goodIn_r _ [11] rfl (by decide +kernel)
set_option maxRecDepth 20000 in
theorem gX9_taken_X9_isUnder : GoodIn wsX9_taken (va_wsS RX9 309 yX9_isUnder wsX9_isUnder) := goodIn_app (goodIn_of _ (by decide +kernel)) ggX9_taken_X9_isUnder
theorem dX9_taken_0 : decode cX9_taken 0 = .ok (.iload_n 2, 1) := by decide +kernel
theorem dX9_taken_1 : decode cX9_taken 1 = .ok (.iconst 0, 1) := by decide +kernel
theorem dX9_taken_2 : decode cX9_taken 2 = .ok (.bipush 6, 2) := by decide +kernel
theorem dX9_taken_4 : decode cX9_taken 4 = .ok (.invokestatic 78, 3) := by decide +kernel
theorem dX9_taken_7 : decode cX9_taken 7 = .ok (.ifCond .ne 6, 3) := by decide +kernel
theorem dX9_taken_10 : decode cX9_taken 10 = .ok (.bipush (-2), 2) := by decide +kernel
theorem dX9_taken_12 : decode cX9_taken 12 = .ok (.ireturn, 1) := by decide +kernel
theorem dX9_taken_13 : decode cX9_taken 13 = .ok (.iload_n 1, 1) := by decide +kernel
theorem dX9_taken_14 : decode cX9_taken 14 = .ok (.iconst 0, 1) := by decide +kernel
theorem dX9_taken_15 : decode cX9_taken 15 = .ok (.bipush 64, 2) := by decide +kernel
theorem dX9_taken_17 : decode cX9_taken 17 = .ok (.invokestatic 78, 3) := by decide +kernel
theorem dX9_taken_20 : decode cX9_taken 20 = .ok (.ifCond .ne 6, 3) := by decide +kernel
theorem dX9_taken_23 : decode cX9_taken 23 = .ok (.bipush (-12), 2) := by decide +kernel
theorem dX9_taken_25 : decode cX9_taken 25 = .ok (.ireturn, 1) := by decide +kernel
theorem dX9_taken_26 : decode cX9_taken 26 = .ok (.iload_n 1, 1) := by decide +kernel
theorem dX9_taken_27 : decode cX9_taken 27 = .ok (.iconst 5, 1) := by decide +kernel
theorem dX9_taken_28 : decode cX9_taken 28 = .ok (.if_icmp .lt 38, 3) := by decide +kernel
theorem dX9_taken_31 : decode cX9_taken 31 = .ok (.iload_n 1, 1) := by decide +kernel
theorem dX9_taken_32 : decode cX9_taken 32 = .ok (.iconst 5, 1) := by decide +kernel
theorem dX9_taken_33 : decode cX9_taken 33 = .ok (.isub, 1) := by decide +kernel
theorem dX9_taken_34 : decode cX9_taken 34 = .ok (.aload_n 0, 1) := by decide +kernel
theorem dX9_taken_35 : decode cX9_taken 35 = .ok (.getfield 85, 3) := by decide +kernel
theorem dX9_taken_38 : decode cX9_taken 38 = .ok (.if_icmp .lt 8, 3) := by decide +kernel
theorem dX9_taken_41 : decode cX9_taken 41 = .ok (.bipush (-11), 2) := by decide +kernel
theorem dX9_taken_43 : decode cX9_taken 43 = .ok (.goto 22, 3) := by decide +kernel
theorem dX9_taken_46 : decode cX9_taken 46 = .ok (.iload_n 2, 1) := by decide +kernel
theorem dX9_taken_47 : decode cX9_taken 47 = .ok (.bipush 6, 2) := by decide +kernel
theorem dX9_taken_49 : decode cX9_taken 49 = .ok (.if_icmp .ne 14, 3) := by decide +kernel
theorem dX9_taken_52 : decode cX9_taken 52 = .ok (.aload_n 0, 1) := by decide +kernel
theorem dX9_taken_53 : decode cX9_taken 53 = .ok (.getfield 13, 3) := by decide +kernel
theorem dX9_taken_56 : decode cX9_taken 56 = .ok (.iload_n 1, 1) := by decide +kernel
theorem dX9_taken_57 : decode cX9_taken 57 = .ok (.iconst 5, 1) := by decide +kernel
theorem dX9_taken_58 : decode cX9_taken 58 = .ok (.isub, 1) := by decide +kernel
theorem dX9_taken_59 : decode cX9_taken 59 = .ok (.iaload, 1) := by decide +kernel
theorem dX9_taken_60 : decode cX9_taken 60 = .ok (.goto 5, 3) := by decide +kernel
theorem dX9_taken_63 : decode cX9_taken 63 = .ok (.bipush (-13), 2) := by decide +kernel
theorem dX9_taken_65 : decode cX9_taken 65 = .ok (.ireturn, 1) := by decide +kernel
theorem dX9_taken_66 : decode cX9_taken 66 = .ok (.iload_n 1, 1) := by decide +kernel
theorem dX9_taken_67 : decode cX9_taken 67 = .ok (.aload_n 0, 1) := by decide +kernel
theorem dX9_taken_68 : decode cX9_taken 68 = .ok (.getfield 82, 3) := by decide +kernel
theorem dX9_taken_71 : decode cX9_taken 71 = .ok (.if_icmp .lt 8, 3) := by decide +kernel
theorem dX9_taken_74 : decode cX9_taken 74 = .ok (.bipush (-11), 2) := by decide +kernel
theorem dX9_taken_76 : decode cX9_taken 76 = .ok (.goto 28, 3) := by decide +kernel
theorem dX9_taken_79 : decode cX9_taken 79 = .ok (.iload_n 2, 1) := by decide +kernel
theorem dX9_taken_80 : decode cX9_taken 80 = .ok (.bipush 6, 2) := by decide +kernel
theorem dX9_taken_82 : decode cX9_taken 82 = .ok (.if_icmp .ge 20, 3) := by decide +kernel
theorem dX9_taken_85 : decode cX9_taken 85 = .ok (.aload_n 0, 1) := by decide +kernel
theorem dX9_taken_86 : decode cX9_taken 86 = .ok (.getfield 17, 3) := by decide +kernel
theorem dX9_taken_89 : decode cX9_taken 89 = .ok (.iload_n 1, 1) := by decide +kernel
theorem dX9_taken_90 : decode cX9_taken 90 = .ok (.iaload, 1) := by decide +kernel
theorem dX9_taken_91 : decode cX9_taken 91 = .ok (.iload_n 2, 1) := by decide +kernel
theorem dX9_taken_92 : decode cX9_taken 92 = .ok (.invokestatic 309, 3) := by decide +kernel
theorem dX9_taken_95 : decode cX9_taken 95 = .ok (.ifCond .eq 7, 3) := by decide +kernel
theorem dX9_taken_98 : decode cX9_taken 98 = .ok (.iload_n 1, 1) := by decide +kernel
theorem dX9_taken_99 : decode cX9_taken 99 = .ok (.goto 5, 3) := by decide +kernel
theorem dX9_taken_102 : decode cX9_taken 102 = .ok (.bipush (-13), 2) := by decide +kernel
theorem dX9_taken_104 : decode cX9_taken 104 = .ok (.ireturn, 1) := by decide +kernel
theorem dJ9_max_7cf53_0 : decode cJ9_max_7cf53 0 = .ok (.iload_n 0, 1) := by decide +kernel
theorem dJ9_max_7cf53_1 : decode cJ9_max_7cf53 1 = .ok (.iload_n 1, 1) := by decide +kernel
theorem dJ9_max_7cf53_2 : decode cJ9_max_7cf53 2 = .ok (.if_icmp .lt 7, 3) := by decide +kernel
theorem dJ9_max_7cf53_5 : decode cJ9_max_7cf53 5 = .ok (.iload_n 0, 1) := by decide +kernel
theorem dJ9_max_7cf53_6 : decode cJ9_max_7cf53 6 = .ok (.goto 4, 3) := by decide +kernel
theorem dJ9_max_7cf53_9 : decode cJ9_max_7cf53 9 = .ok (.iload_n 1, 1) := by decide +kernel
theorem dJ9_max_7cf53_10 : decode cJ9_max_7cf53 10 = .ok (.ireturn, 1) := by decide +kernel
theorem dJ9_min_7cf53_0 : decode cJ9_min_7cf53 0 = .ok (.iload_n 0, 1) := by decide +kernel
theorem dJ9_min_7cf53_1 : decode cJ9_min_7cf53 1 = .ok (.iload_n 1, 1) := by decide +kernel
theorem dJ9_min_7cf53_2 : decode cJ9_min_7cf53 2 = .ok (.if_icmp .gt 7, 3) := by decide +kernel
theorem dJ9_min_7cf53_5 : decode cJ9_min_7cf53 5 = .ok (.iload_n 0, 1) := by decide +kernel
theorem dJ9_min_7cf53_6 : decode cJ9_min_7cf53 6 = .ok (.goto 4, 3) := by decide +kernel
theorem dJ9_min_7cf53_9 : decode cJ9_min_7cf53 9 = .ok (.iload_n 1, 1) := by decide +kernel
theorem dJ9_min_7cf53_10 : decode cJ9_min_7cf53 10 = .ok (.ireturn, 1) := by decide +kernel
set_option maxRecDepth 20000 in
theorem ggJ0_length_8abf5_J0_coder_7d493 : GoodIn wsJ0_length_8abf5 wsJ0_coder_7d493 := goodIn_r _ [6, 7, 8] rfl (by decide +kernel)
set_option maxRecDepth 20000 in
theorem gJ0_length_8abf5_J0_coder_7d493 : GoodIn wsJ0_length_8abf5 (wsV RJ0 335 RJ0 yJ0_coder_7d493 wsJ0_coder_7d493) := goodIn_app (goodIn_of _ (by decide +kernel)) ggJ0_length_8abf5_J0_coder_7d493
theorem dJ0_length_8abf5_0 : decode cJ0_length_8abf5 0 = .ok (.aload_n 0, 1) := by decide +kernel
theorem dJ0_length_8abf5_1 : decode cJ0_length_8abf5 1 = .ok (.getfield 9, 3) := by decide +kernel
theorem dJ0_length_8abf5_4 : decode cJ0_length_8abf5 4 = .ok (.arraylength, 1) := by decide +kernel
theorem dJ0_length_8abf5_5 : decode cJ0_length_8abf5 5 = .ok (.aload_n 0, 1) := by decide +kernel
theorem dJ0_length_8abf5_6 : decode cJ0_length_8abf5 6 = .ok (.invokevirtual 335, 3) := by decide +kernel
theorem dJ0_length_8abf5_9 : decode cJ0_length_8abf5 9 = .ok (.ishr, 1) := by decide +kernel
theorem dJ0_length_8abf5_10 : decode cJ0_length_8abf5 10 = .ok (.ireturn, 1) := by decide +kernel
set_option maxRecDepth 20000 in
theorem ggJ0_charAt_5068e_J0_isLatin1_aae02 : GoodIn wsJ0_charAt_5068e wsJ0_isLatin1_aae02 := goodIn_r _ [6, 7, 8] rfl (by decide +kernel)
set_option maxRecDepth 20000 in
theorem gJ0_charAt_5068e_J0_isLatin1_aae02 : GoodIn wsJ0_charAt_5068e (wsV RJ0 492 RJ0 yJ0_isLatin1_aae02 wsJ0_isLatin1_aae02) := goodIn_app (goodIn_of _ (by decide +kernel)) ggJ0_charAt_5068e_J0_isLatin1_aae02
set_option maxRecDepth 20000 in
theorem ggJ0_charAt_5068e_J1_charAt_3b067 : GoodIn wsJ0_charAt_5068e wsJ1_charAt_3b067 := goodIn_r _ [12, 13, 14, 5, 15, 16, 17, 18, 19, 20] rfl (by decide +kernel)
set_option maxRecDepth 20000 in
theorem gJ0_charAt_5068e_J1_charAt_3b067 : GoodIn wsJ0_charAt_5068e (va_wsS RJ0 495 yJ1_charAt_3b067 wsJ1_charAt_3b067) := goodIn_app (goodIn_of _ (by decide +kernel)) ggJ0_charAt_5068e_J1_charAt_3b067
set_option maxRecDepth 20000 in
theorem ggJ0_charAt_5068e_J2_charAt_3b067 : GoodIn wsJ0_charAt_5068e wsJ2_charAt_3b067 := goodIn_r _ [24, 25, 26, 23, 27, 28, 29, 30, 31, 14, 5, 15, 16, 17, 18, 19, 20, 32, 33, 34, 35, 36, 37] rfl (by decide +kernel)
set_option maxRecDepth 20000 in
theorem gJ0_charAt_5068e_J2_charAt_3b067 : GoodIn wsJ0_charAt_5068e (va_wsS RJ0 498 yJ2_charAt_3b067 wsJ2_charAt_3b067) := goodIn_app (goodIn_of _ (by decide +kernel)) ggJ0_charAt_5068e_J2_charAt_3b067
theorem dJ0_charAt_5068e_0 : decode cJ0_charAt_5068e 0 = .ok (.aload_n 0, 1) := by decide +kernel
theorem dJ0_charAt_5068e_1 : decode cJ0_charAt_5068e 1 = .ok (.invokevirtual 492, 3) := by decide +kernel
theorem dJ0_charAt_5068e_4 : decode cJ0_charAt_5068e 4 = .ok (.ifCond .eq 12, 3) := by decide +kernel
theorem dJ0_charAt_5068e_7 : decode cJ0_charAt_5068e 7 = .ok (.aload_n 0, 1) := by decide +kernel
theorem dJ0_charAt_5068e_8 : decode cJ0_charAt_5068e 8 = .ok (.getfield 9, 3) := by decide +kernel
theorem dJ0_charAt_5068e_11 : decode cJ0_charAt_5068e 11 = .ok (.iload_n 1, 1) := by decide +kernel
theorem dJ0_charAt_5068e_12 : decode cJ0_charAt_5068e 12 = .ok (.invokestatic 495, 3) := by decide +kernel
theorem dJ0_charAt_5068e_15 : decode cJ0_charAt_5068e 15 = .ok (.ireturn, 1) := by decide +kernel
theorem dJ0_charAt_5068e_16 : decode cJ0_charAt_5068e 16 = .ok (.aload_n 0, 1) := by decide +kernel
theorem dJ0_charAt_5068e_17 : decode cJ0_charAt_5068e 17 = .ok (.getfield 9, 3) := by decide +kernel
theorem dJ0_charAt_5068e_20 : decode cJ0_charAt_5068e 20 = .ok (.iload_n 1, 1) := by decide +kernel
theorem dJ0_charAt_5068e_21 : decode cJ0_charAt_5068e 21 = .ok (.invokestatic 498, 3) := by decide +kernel
theorem dJ0_charAt_5068e_24 : decode cJ0_charAt_5068e 24 = .ok (.ireturn, 1) := by decide +kernel
theorem dJ0_coder_7d493_0 : decode cJ0_coder_7d493 0 = .ok (.getstatic 38, 3) := by decide +kernel
theorem dJ0_coder_7d493_3 : decode cJ0_coder_7d493 3 = .ok (.ifCond .eq 10, 3) := by decide +kernel
theorem dJ0_coder_7d493_6 : decode cJ0_coder_7d493 6 = .ok (.aload_n 0, 1) := by decide +kernel
theorem dJ0_coder_7d493_7 : decode cJ0_coder_7d493 7 = .ok (.getfield 15, 3) := by decide +kernel
theorem dJ0_coder_7d493_10 : decode cJ0_coder_7d493 10 = .ok (.goto 4, 3) := by decide +kernel
theorem dJ0_coder_7d493_13 : decode cJ0_coder_7d493 13 = .ok (.iconst 1, 1) := by decide +kernel
theorem dJ0_coder_7d493_14 : decode cJ0_coder_7d493 14 = .ok (.ireturn, 1) := by decide +kernel
theorem dJ0_isLatin1_aae02_0 : decode cJ0_isLatin1_aae02 0 = .ok (.getstatic 38, 3) := by decide +kernel
theorem dJ0_isLatin1_aae02_3 : decode cJ0_isLatin1_aae02 3 = .ok (.ifCond .eq 14, 3) := by decide +kernel
theorem dJ0_isLatin1_aae02_6 : decode cJ0_isLatin1_aae02 6 = .ok (.aload_n 0, 1) := by decide +kernel
theorem dJ0_isLatin1_aae02_7 : decode cJ0_isLatin1_aae02 7 = .ok (.getfield 15, 3) := by decide +kernel
theorem dJ0_isLatin1_aae02_10 : decode cJ0_isLatin1_aae02 10 = .ok (.ifCond .ne 7, 3) := by decide +kernel
theorem dJ0_isLatin1_aae02_13 : decode cJ0_isLatin1_aae02 13 = .ok (.iconst 1, 1) := by decide +kernel
theorem dJ0_isLatin1_aae02_14 : decode cJ0_isLatin1_aae02 14 = .ok (.goto 4, 3) := by decide +kernel
theorem dJ0_isLatin1_aae02_17 : decode cJ0_isLatin1_aae02 17 = .ok (.iconst 0, 1) := by decide +kernel
theorem dJ0_isLatin1_aae02_18 : decode cJ0_isLatin1_aae02 18 = .ok (.ireturn, 1) := by decide +kernel
set_option maxRecDepth 20000 in
theorem ggJ0_checkIndex_df160_J3_checkIndex_8e157 : GoodIn wsJ0_checkIndex_df160 wsJ3_checkIndex_8e157 := goodIn_r _ [5] rfl (by decide +kernel)
set_option maxRecDepth 20000 in
theorem gJ0_checkIndex_df160_J3_checkIndex_8e157 : GoodIn wsJ0_checkIndex_df160 (va_wsS RJ0 1059 yJ3_checkIndex_8e157 wsJ3_checkIndex_8e157) := goodIn_app (goodIn_of _ (by decide +kernel)) ggJ0_checkIndex_df160_J3_checkIndex_8e157
theorem dJ0_checkIndex_df160_0 : decode cJ0_checkIndex_df160 0 = .ok (.iload_n 0, 1) := by decide +kernel
theorem dJ0_checkIndex_df160_1 : decode cJ0_checkIndex_df160 1 = .ok (.iload_n 1, 1) := by decide +kernel
theorem dJ0_checkIndex_df160_2 : decode cJ0_checkIndex_df160 2 = .ok (.getstatic 1053, 3) := by decide +kernel
theorem dJ0_checkIndex_df160_5 : decode cJ0_checkIndex_df160 5 = .ok (.invokestatic 1059, 3) := by decide +kernel
theorem dJ0_checkIndex_df160_8 : decode cJ0_checkIndex_df160 8 = .ok (.pop, 1) := by decide +kernel
theorem dJ0_checkIndex_df160_9 : decode cJ0_checkIndex_df160 9 = .ok (.return_, 1) := by decide +kernel
set_option maxRecDepth 20000 in
theorem ggJ1_charAt_3b067_J0_checkIndex_df160 : GoodIn wsJ1_charAt_3b067 wsJ0_checkIndex_df160 := goodIn_r _ [4, 5, 6, 7, 8, 9] rfl (by decide +kernel)
set_option maxRecDepth 20000 in
theorem gJ1_charAt_3b067_J0_checkIndex_df160 : GoodIn wsJ1_charAt_3b067 (va_wsS RJ1 9 yJ0_checkIndex_df160 wsJ0_checkIndex_df160) := goodIn_app (goodIn_of _ (by decide +kernel)) ggJ1_charAt_3b067_J0_checkIndex_df160
theorem dJ1_charAt_3b067_0 : decode cJ1_charAt_3b067 0 = .ok (.iload_n 1, 1) := by decide +kernel
theorem dJ1_charAt_3b067_1 : decode cJ1_charAt_3b067 1 = .ok (.aload_n 0, 1) := by decide +kernel
theorem dJ1_charAt_3b067_2 : decode cJ1_charAt_3b067 2 = .ok (.arraylength, 1) := by decide +kernel
theorem dJ1_charAt_3b067_3 : decode cJ1_charAt_3b067 3 = .ok (.invokestatic 9, 3) := by decide +kernel
theorem dJ1_charAt_3b067_6 : decode cJ1_charAt_3b067 6 = .ok (.aload_n 0, 1) := by decide +kernel
theorem dJ1_charAt_3b067_7 : decode cJ1_charAt_3b067 7 = .ok (.iload_n 1, 1) := by decide +kernel
theorem dJ1_charAt_3b067_8 : decode cJ1_charAt_3b067 8 = .ok (.baload, 1) := by decide +kernel
theorem dJ1_charAt_3b067_9 : decode cJ1_charAt_3b067 9 = .ok (.sipush 255, 3) := by decide +kernel
theorem dJ1_charAt_3b067_12 : decode cJ1_charAt_3b067 12 = .ok (.iand, 1) := by decide +kernel
theorem dJ1_charAt_3b067_13 : decode cJ1_charAt_3b067 13 = .ok (.i2c, 1) := by decide +kernel
theorem dJ1_charAt_3b067_14 : decode cJ1_charAt_3b067 14 = .ok (.ireturn, 1) := by decide +kernel
set_option maxRecDepth 20000 in
theorem ggJ2_getChar_3b067_J2_length_9d52b : GoodIn wsJ2_getChar_3b067 wsJ2_length_9d52b := goodIn_r _ [7] rfl (by decide +kernel)
set_option maxRecDepth 20000 in
theorem gJ2_getChar_3b067_J2_length_9d52b : GoodIn wsJ2_getChar_3b067 (va_wsS RJ2 48 yJ2_length_9d52b wsJ2_length_9d52b) := goodIn_app (goodIn_of _ (by decide +kernel)) ggJ2_getChar_3b067_J2_length_9d52b
theorem dJ2_getChar_3b067_0 : decode cJ2_getChar_3b067 0 = .ok (.getstatic 44, 3) := by decide +kernel
theorem dJ2_getChar_3b067_3 : decode cJ2_getChar_3b067 3 = .ok (.ifCond .ne 25, 3) := by decide +kernel
theorem dJ2_getChar_3b067_6 : decode cJ2_getChar_3b067 6 = .ok (.iload_n 1, 1) := by decide +kernel
theorem dJ2_getChar_3b067_7 : decode cJ2_getChar_3b067 7 = .ok (.ifCond .lt 11, 3) := by decide +kernel
theorem dJ2_getChar_3b067_10 : decode cJ2_getChar_3b067 10 = .ok (.iload_n 1, 1) := by decide +kernel
theorem dJ2_getChar_3b067_11 : decode cJ2_getChar_3b067 11 = .ok (.aload_n 0, 1) := by decide +kernel
theorem dJ2_getChar_3b067_12 : decode cJ2_getChar_3b067 12 = .ok (.invokestatic 48, 3) := by decide +kernel
theorem dJ2_getChar_3b067_15 : decode cJ2_getChar_3b067 15 = .ok (.if_icmp .lt 13, 3) := by decide +kernel
theorem dJ2_getChar_3b067_18 : decode cJ2_getChar_3b067 18 = .ok (.new 52, 3) := by decide +kernel
theorem dJ2_getChar_3b067_21 : decode cJ2_getChar_3b067 21 = .ok (.dup, 1) := by decide +kernel
theorem dJ2_getChar_3b067_22 : decode cJ2_getChar_3b067 22 = .ok (.ldc 54, 2) := by decide +kernel
theorem dJ2_getChar_3b067_24 : decode cJ2_getChar_3b067 24 = .ok (.invokespecial 56, 3) := by decide +kernel
theorem dJ2_getChar_3b067_27 : decode cJ2_getChar_3b067 27 = .ok (.athrow, 1) := by decide +kernel
theorem dJ2_getChar_3b067_28 : decode cJ2_getChar_3b067 28 = .ok (.iload_n 1, 1) := by decide +kernel
theorem dJ2_getChar_3b067_29 : decode cJ2_getChar_3b067 29 = .ok (.iconst 1, 1) := by decide +kernel
theorem dJ2_getChar_3b067_30 : decode cJ2_getChar_3b067 30 = .ok (.ishl, 1) := by decide +kernel
theorem dJ2_getChar_3b067_31 : decode cJ2_getChar_3b067 31 = .ok (.istore_n 1, 1) := by decide +kernel
theorem dJ2_getChar_3b067_32 : decode cJ2_getChar_3b067 32 = .ok (.aload_n 0, 1) := by decide +kernel
theorem dJ2_getChar_3b067_33 : decode cJ2_getChar_3b067 33 = .ok (.iload_n 1, 1) := by decide +kernel
theorem dJ2_getChar_3b067_34 : decode cJ2_getChar_3b067 34 = .ok (.iinc 1 1, 3) := by decide +kernel
theorem dJ2_getChar_3b067_37 : decode cJ2_getChar_3b067 37 = .ok (.baload, 1) := by decide +kernel
theorem dJ2_getChar_3b067_38 : decode cJ2_getChar_3b067 38 = .ok (.sipush 255, 3) := by decide +kernel
theorem dJ2_getChar_3b067_41 : decode cJ2_getChar_3b067 41 = .ok (.iand, 1) := by decide +kernel
theorem dJ2_getChar_3b067_42 : decode cJ2_getChar_3b067 42 = .ok (.getstatic 59, 3) := by decide +kernel
theorem dJ2_getChar_3b067_45 : decode cJ2_getChar_3b067 45 = .ok (.ishl, 1) := by decide +kernel
theorem dJ2_getChar_3b067_46 : decode cJ2_getChar_3b067 46 = .ok (.aload_n 0, 1) := by decide +kernel
theorem dJ2_getChar_3b067_47 : decode cJ2_getChar_3b067 47 = .ok (.iload_n 1, 1) := by decide +kernel
theorem dJ2_getChar_3b067_48 : decode cJ2_getChar_3b067 48 = .ok (.baload, 1) := by decide +kernel
theorem dJ2_getChar_3b067_49 : decode cJ2_getChar_3b067 49 = .ok (.sipush 255, 3) := by decide +kernel
theorem dJ2_getChar_3b067_52 : decode cJ2_getChar_3b067 52 = .ok (.iand, 1) := by decide +kernel
theorem dJ2_getChar_3b067_53 : decode cJ2_getChar_3b067 53 = .ok (.getstatic 63, 3) := by decide +kernel
theorem dJ2_getChar_3b067_56 : decode cJ2_getChar_3b067 56 = .ok (.ishl, 1) := by decide +kernel
theorem dJ2_getChar_3b067_57 : decode cJ2_getChar_3b067 57 = .ok (.ior, 1) := by decide +kernel
theorem dJ2_getChar_3b067_58 : decode cJ2_getChar_3b067 58 = .ok (.i2c, 1) := by decide +kernel
theorem dJ2_getChar_3b067_59 : decode cJ2_getChar_3b067 59 = .ok (.ireturn, 1) := by decide +kernel
theorem dJ2_length_9d52b_0 : decode cJ2_length_9d52b 0 = .ok (.aload_n 0, 1) := by decide +kernel
theorem dJ2_length_9d52b_1 : decode cJ2_length_9d52b 1 = .ok (.arraylength, 1) := by decide +kernel
theorem dJ2_length_9d52b_2 : decode cJ2_length_9d52b 2 = .ok (.iconst 1, 1) := by decide +kernel
theorem dJ2_length_9d52b_3 : decode cJ2_length_9d52b 3 = .ok (.ishr, 1) := by decide +kernel
theorem dJ2_length_9d52b_4 : decode cJ2_length_9d52b 4 = .ok (.ireturn, 1) := by decide +kernel
set_option maxRecDepth 20000 in
theorem ggJ2_charAt_3b067_J2_checkIndex_2214a : GoodIn wsJ2_charAt_3b067 wsJ2_checkIndex_2214a := goodIn_r _ [4, 5, 6, 3, 7, 8, 9, 10, 11, 12, 13, 14, 15, 16] rfl (by decide +kernel)
set_option maxRecDepth 20000 in
theorem gJ2_charAt_3b067_J2_checkIndex_2214a : GoodIn wsJ2_charAt_3b067 (va_wsS RJ2 67 yJ2_checkIndex_2214a wsJ2_checkIndex_2214a) := goodIn_app (goodIn_of _ (by decide +kernel)) ggJ2_charAt_3b067_J2_checkIndex_2214a
set_option maxRecDepth 20000 in
theorem ggJ2_charAt_3b067_J2_getChar_3b067 : GoodIn wsJ2_charAt_3b067 wsJ2_getChar_3b067 := goodIn_r _ [19, 20, 21, 22, 5, 6, 3, 7] rfl (by decide +kernel)
set_option maxRecDepth 20000 in
theorem gJ2_charAt_3b067_J2_getChar_3b067 : GoodIn wsJ2_charAt_3b067 (va_wsS RJ2 71 yJ2_getChar_3b067 wsJ2_getChar_3b067) := goodIn_app (goodIn_of _ (by decide +kernel)) ggJ2_charAt_3b067_J2_getChar_3b067
theorem dJ2_charAt_3b067_0 : decode cJ2_charAt_3b067 0 = .ok (.iload_n 1, 1) := by decide +kernel
theorem dJ2_charAt_3b067_1 : decode cJ2_charAt_3b067 1 = .ok (.aload_n 0, 1) := by decide +kernel
theorem dJ2_charAt_3b067_2 : decode cJ2_charAt_3b067 2 = .ok (.invokestatic 67, 3) := by decide +kernel
theorem dJ2_charAt_3b067_5 : decode cJ2_charAt_3b067 5 = .ok (.aload_n 0, 1) := by decide +kernel
theorem dJ2_charAt_3b067_6 : decode cJ2_charAt_3b067 6 = .ok (.iload_n 1, 1) := by decide +kernel
theorem dJ2_charAt_3b067_7 : decode cJ2_charAt_3b067 7 = .ok (.invokestatic 71, 3) := by decide +kernel
theorem dJ2_charAt_3b067_10 : decode cJ2_charAt_3b067 10 = .ok (.ireturn, 1) := by decide +kernel
set_option maxRecDepth 20000 in
theorem ggJ2_checkIndex_2214a_J2_length_9d52b : GoodIn wsJ2_checkIndex_2214a wsJ2_length_9d52b := goodIn_r _ [4] rfl (by decide +kernel)
set_option maxRecDepth 20000 in
theorem gJ2_checkIndex_2214a_J2_length_9d52b : GoodIn wsJ2_checkIndex_2214a (va_wsS RJ2 48 yJ2_length_9d52b wsJ2_length_9d52b) := goodIn_app (goodIn_of _ (by decide +kernel)) ggJ2_checkIndex_2214a_J2_length_9d52b
set_option maxRecDepth 20000 in
theorem ggJ2_checkIndex_2214a_J0_checkIndex_df160 : GoodIn wsJ2_checkIndex_2214a wsJ0_checkIndex_df160 := goodIn_r _ [8, 9, 10, 11, 12, 13] rfl (by decide +kernel)
set_option maxRecDepth 20000 in
theorem gJ2_checkIndex_2214a_J0_checkIndex_df160 : GoodIn wsJ2_checkIndex_2214a (va_wsS RJ2 414 yJ0_checkIndex_df160 wsJ0_checkIndex_df160) := goodIn_app (goodIn_of _ (by decide +kernel)) ggJ2_checkIndex_2214a_J0_checkIndex_df160
theorem dJ2_checkIndex_2214a_0 : decode cJ2_checkIndex_2214a 0 = .ok (.iload_n 0, 1) := by decide +kernel
theorem dJ2_checkIndex_2214a_1 : decode cJ2_checkIndex_2214a 1 = .ok (.aload_n 1, 1) := by decide +kernel
theorem dJ2_checkIndex_2214a_2 : decode cJ2_checkIndex_2214a 2 = .ok (.invokestatic 48, 3) := by decide +kernel
theorem dJ2_checkIndex_2214a_5 : decode cJ2_checkIndex_2214a 5 = .ok (.invokestatic 414, 3) := by decide +kernel
theorem dJ2_checkIndex_2214a_8 : decode cJ2_checkIndex_2214a 8 = .ok (.return_, 1) := by decide +kernel
theorem dJ3_checkIndex_8e157_0 : decode cJ3_checkIndex_8e157 0 = .ok (.iload_n 0, 1) := by decide +kernel
theorem dJ3_checkIndex_8e157_1 : decode cJ3_checkIndex_8e157 1 = .ok (.ifCond .lt 8, 3) := by decide +kernel
theorem dJ3_checkIndex_8e157_4 : decode cJ3_checkIndex_8e157 4 = .ok (.iload_n 0, 1) := by decide +kernel
theorem dJ3_checkIndex_8e157_5 : decode cJ3_checkIndex_8e157 5 = .ok (.iload_n 1, 1) := by decide +kernel
theorem dJ3_checkIndex_8e157_6 : decode cJ3_checkIndex_8e157 6 = .ok (.if_icmp .lt 10, 3) := by decide +kernel
theorem dJ3_checkIndex_8e157_9 : decode cJ3_checkIndex_8e157 9 = .ok (.aload_n 2, 1) := by decide +kernel
theorem dJ3_checkIndex_8e157_10 : decode cJ3_checkIndex_8e157 10 = .ok (.iload_n 0, 1) := by decide +kernel
theorem dJ3_checkIndex_8e157_11 : decode cJ3_checkIndex_8e157 11 = .ok (.iload_n 1, 1) := by decide +kernel
theorem dJ3_checkIndex_8e157_12 : decode cJ3_checkIndex_8e157 12 = .ok (.invokestatic 95, 3) := by decide +kernel
theorem dJ3_checkIndex_8e157_15 : decode cJ3_checkIndex_8e157 15 = .ok (.athrow, 1) := by decide +kernel
theorem dJ3_checkIndex_8e157_16 : decode cJ3_checkIndex_8e157 16 = .ok (.iload_n 0, 1) := by decide +kernel
theorem dJ3_checkIndex_8e157_17 : decode cJ3_checkIndex_8e157 17 = .ok (.ireturn, 1) := by decide +kernel

