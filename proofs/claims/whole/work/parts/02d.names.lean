theorem dX8_extendPairs_80 : decode cX8_extendPairs 80 = .ok (.iinc 7 1, 3) := by decide +kernel
theorem dX8_extendPairs_83 : decode cX8_extendPairs 83 = .ok (.goto (-75), 3) := by decide +kernel
theorem dX8_extendPairs_86 : decode cX8_extendPairs 86 = .ok (.iload 6, 2) := by decide +kernel
theorem dX8_extendPairs_88 : decode cX8_extendPairs 88 = .ok (.ireturn, 1) := by decide +kernel
theorem dX8_unlikePairs_0 : decode cX8_unlikePairs 0 = .ok (.iconst 0, 1) := by decide +kernel
theorem dX8_unlikePairs_1 : decode cX8_unlikePairs 1 = .ok (.istore_n 2, 1) := by decide +kernel
theorem dX8_unlikePairs_2 : decode cX8_unlikePairs 2 = .ok (.iconst 0, 1) := by decide +kernel
theorem dX8_unlikePairs_3 : decode cX8_unlikePairs 3 = .ok (.istore_n 3, 1) := by decide +kernel
theorem dX8_unlikePairs_4 : decode cX8_unlikePairs 4 = .ok (.iload_n 3, 1) := by decide +kernel
theorem dX8_unlikePairs_5 : decode cX8_unlikePairs 5 = .ok (.iload_n 1, 1) := by decide +kernel
theorem dX8_unlikePairs_6 : decode cX8_unlikePairs 6 = .ok (.if_icmp .ge 63, 3) := by decide +kernel
theorem dX8_unlikePairs_9 : decode cX8_unlikePairs 9 = .ok (.iconst 0, 1) := by decide +kernel
theorem dX8_unlikePairs_10 : decode cX8_unlikePairs 10 = .ok (.istore 4, 2) := by decide +kernel
theorem dX8_unlikePairs_12 : decode cX8_unlikePairs 12 = .ok (.iconst 0, 1) := by decide +kernel
theorem dX8_unlikePairs_13 : decode cX8_unlikePairs 13 = .ok (.istore 5, 2) := by decide +kernel
theorem dX8_unlikePairs_15 : decode cX8_unlikePairs 15 = .ok (.iload 5, 2) := by decide +kernel
theorem dX8_unlikePairs_17 : decode cX8_unlikePairs 17 = .ok (.iload_n 3, 1) := by decide +kernel
theorem dX8_unlikePairs_18 : decode cX8_unlikePairs 18 = .ok (.if_icmp .ge 37, 3) := by decide +kernel
theorem dX8_unlikePairs_21 : decode cX8_unlikePairs 21 = .ok (.iload 4, 2) := by decide +kernel
theorem dX8_unlikePairs_23 : decode cX8_unlikePairs 23 = .ok (.ifCond .ne 32, 3) := by decide +kernel
theorem dX8_unlikePairs_26 : decode cX8_unlikePairs 26 = .ok (.aload_n 0, 1) := by decide +kernel
theorem dX8_unlikePairs_27 : decode cX8_unlikePairs 27 = .ok (.getfield 57, 3) := by decide +kernel
theorem dX8_unlikePairs_30 : decode cX8_unlikePairs 30 = .ok (.iload 5, 2) := by decide +kernel
theorem dX8_unlikePairs_32 : decode cX8_unlikePairs 32 = .ok (.iaload, 1) := by decide +kernel
theorem dX8_unlikePairs_33 : decode cX8_unlikePairs 33 = .ok (.aload_n 0, 1) := by decide +kernel
theorem dX8_unlikePairs_34 : decode cX8_unlikePairs 34 = .ok (.getfield 57, 3) := by decide +kernel
theorem dX8_unlikePairs_37 : decode cX8_unlikePairs 37 = .ok (.iload_n 3, 1) := by decide +kernel
theorem dX8_unlikePairs_38 : decode cX8_unlikePairs 38 = .ok (.iaload, 1) := by decide +kernel
theorem dX8_unlikePairs_39 : decode cX8_unlikePairs 39 = .ok (.if_icmp .ne 7, 3) := by decide +kernel
theorem dX8_unlikePairs_42 : decode cX8_unlikePairs 42 = .ok (.iconst 1, 1) := by decide +kernel
theorem dX8_unlikePairs_43 : decode cX8_unlikePairs 43 = .ok (.goto 4, 3) := by decide +kernel
theorem dX8_unlikePairs_46 : decode cX8_unlikePairs 46 = .ok (.iconst 0, 1) := by decide +kernel
theorem dX8_unlikePairs_47 : decode cX8_unlikePairs 47 = .ok (.istore 4, 2) := by decide +kernel
theorem dX8_unlikePairs_49 : decode cX8_unlikePairs 49 = .ok (.iinc 5 1, 3) := by decide +kernel
theorem dX8_unlikePairs_52 : decode cX8_unlikePairs 52 = .ok (.goto (-37), 3) := by decide +kernel
theorem dX8_unlikePairs_55 : decode cX8_unlikePairs 55 = .ok (.iload 4, 2) := by decide +kernel
theorem dX8_unlikePairs_57 : decode cX8_unlikePairs 57 = .ok (.ifCond .ne 6, 3) := by decide +kernel
theorem dX8_unlikePairs_60 : decode cX8_unlikePairs 60 = .ok (.iinc 2 1, 3) := by decide +kernel
theorem dX8_unlikePairs_63 : decode cX8_unlikePairs 63 = .ok (.iinc 3 1, 3) := by decide +kernel
theorem dX8_unlikePairs_66 : decode cX8_unlikePairs 66 = .ok (.goto (-62), 3) := by decide +kernel
theorem dX8_unlikePairs_69 : decode cX8_unlikePairs 69 = .ok (.iload_n 2, 1) := by decide +kernel
theorem dX8_unlikePairs_70 : decode cX8_unlikePairs 70 = .ok (.ireturn, 1) := by decide +kernel
set_option maxRecDepth 20000 in
theorem ggX8_refusalOfSheet_X8_isSheet : GoodIn wsX8_refusalOfSheet wsX8_isSheet := goodIn_r _ [6] rfl (by decide +kernel)
set_option maxRecDepth 20000 in
theorem gX8_refusalOfSheet_X8_isSheet : GoodIn wsX8_refusalOfSheet (va_wsS RX8 283 yX8_isSheet wsX8_isSheet) := goodIn_app (goodIn_of _ (by decide +kernel)) ggX8_refusalOfSheet_X8_isSheet
set_option maxRecDepth 20000 in
theorem ggX8_refusalOfSheet_X5_isMissing : GoodIn wsX8_refusalOfSheet wsX5_isMissing := goodIn_r _ [10, 11, 27, 28, 29] rfl (by decide +kernel)
set_option maxRecDepth 20000 in
theorem gX8_refusalOfSheet_X5_isMissing_n309 : GoodIn wsX8_refusalOfSheet (wsX5_isMissing) := ggX8_refusalOfSheet_X5_isMissing
theorem dX8_refusalOfSheet_0 : decode cX8_refusalOfSheet 0 = .ok (.iload_n 1, 1) := by decide +kernel
theorem dX8_refusalOfSheet_1 : decode cX8_refusalOfSheet 1 = .ok (.invokestatic 283, 3) := by decide +kernel
theorem dX8_refusalOfSheet_4 : decode cX8_refusalOfSheet 4 = .ok (.ifCond .ne 6, 3) := by decide +kernel
theorem dX8_refusalOfSheet_7 : decode cX8_refusalOfSheet 7 = .ok (.bipush (-2), 2) := by decide +kernel
theorem dX8_refusalOfSheet_9 : decode cX8_refusalOfSheet 9 = .ok (.ireturn, 1) := by decide +kernel
theorem dX8_refusalOfSheet_10 : decode cX8_refusalOfSheet 10 = .ok (.aload_n 0, 1) := by decide +kernel
theorem dX8_refusalOfSheet_11 : decode cX8_refusalOfSheet 11 = .ok (.getfield 63, 3) := by decide +kernel
theorem dX8_refusalOfSheet_14 : decode cX8_refusalOfSheet 14 = .ok (.iload_n 1, 1) := by decide +kernel
theorem dX8_refusalOfSheet_15 : decode cX8_refusalOfSheet 15 = .ok (.aaload, 1) := by decide +kernel
theorem dX8_refusalOfSheet_16 : decode cX8_refusalOfSheet 16 = .ok (.invokevirtual 309, 3) := by decide +kernel
theorem dX8_refusalOfSheet_19 : decode cX8_refusalOfSheet 19 = .ok (.ifCond .eq 6, 3) := by decide +kernel
theorem dX8_refusalOfSheet_22 : decode cX8_refusalOfSheet 22 = .ok (.bipush (-11), 2) := by decide +kernel
theorem dX8_refusalOfSheet_24 : decode cX8_refusalOfSheet 24 = .ok (.ireturn, 1) := by decide +kernel
theorem dX8_refusalOfSheet_25 : decode cX8_refusalOfSheet 25 = .ok (.aload_n 0, 1) := by decide +kernel
theorem dX8_refusalOfSheet_26 : decode cX8_refusalOfSheet 26 = .ok (.getfield 63, 3) := by decide +kernel
theorem dX8_refusalOfSheet_29 : decode cX8_refusalOfSheet 29 = .ok (.iload_n 1, 1) := by decide +kernel
theorem dX8_refusalOfSheet_30 : decode cX8_refusalOfSheet 30 = .ok (.aaload, 1) := by decide +kernel
theorem dX8_refusalOfSheet_31 : decode cX8_refusalOfSheet 31 = .ok (.getfield 352, 3) := by decide +kernel
theorem dX8_refusalOfSheet_34 : decode cX8_refusalOfSheet 34 = .ok (.aload_n 0, 1) := by decide +kernel
theorem dX8_refusalOfSheet_35 : decode cX8_refusalOfSheet 35 = .ok (.getfield 74, 3) := by decide +kernel
theorem dX8_refusalOfSheet_38 : decode cX8_refusalOfSheet 38 = .ok (.if_icmp .le 8, 3) := by decide +kernel
theorem dX8_refusalOfSheet_41 : decode cX8_refusalOfSheet 41 = .ok (.bipush (-2), 2) := by decide +kernel
theorem dX8_refusalOfSheet_43 : decode cX8_refusalOfSheet 43 = .ok (.goto 4, 3) := by decide +kernel
theorem dX8_refusalOfSheet_46 : decode cX8_refusalOfSheet 46 = .ok (.iconst 0, 1) := by decide +kernel
theorem dX8_refusalOfSheet_47 : decode cX8_refusalOfSheet 47 = .ok (.ireturn, 1) := by decide +kernel
set_option maxRecDepth 20000 in
theorem ggX8_refusalOfSayings_X8_refusalOfSheet : GoodIn wsX8_refusalOfSayings wsX8_refusalOfSheet := goodIn_r _ [5, 6, 7, 8, 9, 4, 10, 11, 12, 13, 14, 15, 21, 22, 23, 24, 25, 26, 27, 28, 29, 30, 31, 32, 33, 34, 35, 36, 37, 38] rfl (by decide +kernel)
set_option maxRecDepth 20000 in
theorem gX8_refusalOfSayings_X8_refusalOfSheet : GoodIn wsX8_refusalOfSayings (wsV RX8 280 RX8 yX8_refusalOfSheet wsX8_refusalOfSheet) := goodIn_app (goodIn_of _ (by decide +kernel)) ggX8_refusalOfSayings_X8_refusalOfSheet
set_option maxRecDepth 20000 in
theorem ggX8_refusalOfSayings_X8_isHead : GoodIn wsX8_refusalOfSayings wsX8_isHead := goodIn_r _ [19, 20, 21, 22, 23, 24, 25, 26, 27, 28, 29, 30, 31, 32, 33, 34, 35] rfl (by decide +kernel)
set_option maxRecDepth 20000 in
theorem gX8_refusalOfSayings_X8_isHead : GoodIn wsX8_refusalOfSayings (wsV RX8 206 RX8 yX8_isHead wsX8_isHead) := goodIn_app (goodIn_of _ (by decide +kernel)) ggX8_refusalOfSayings_X8_isHead
theorem dX8_refusalOfSayings_0 : decode cX8_refusalOfSayings 0 = .ok (.aload_n 0, 1) := by decide +kernel
theorem dX8_refusalOfSayings_1 : decode cX8_refusalOfSayings 1 = .ok (.iload_n 1, 1) := by decide +kernel
theorem dX8_refusalOfSayings_2 : decode cX8_refusalOfSayings 2 = .ok (.invokevirtual 280, 3) := by decide +kernel
theorem dX8_refusalOfSayings_5 : decode cX8_refusalOfSayings 5 = .ok (.istore_n 3, 1) := by decide +kernel
theorem dX8_refusalOfSayings_6 : decode cX8_refusalOfSayings 6 = .ok (.iload_n 3, 1) := by decide +kernel
theorem dX8_refusalOfSayings_7 : decode cX8_refusalOfSayings 7 = .ok (.ifCond .eq 5, 3) := by decide +kernel
theorem dX8_refusalOfSayings_10 : decode cX8_refusalOfSayings 10 = .ok (.iload_n 3, 1) := by decide +kernel
theorem dX8_refusalOfSayings_11 : decode cX8_refusalOfSayings 11 = .ok (.ireturn, 1) := by decide +kernel
theorem dX8_refusalOfSayings_12 : decode cX8_refusalOfSayings 12 = .ok (.aload_n 0, 1) := by decide +kernel
theorem dX8_refusalOfSayings_13 : decode cX8_refusalOfSayings 13 = .ok (.iload_n 2, 1) := by decide +kernel
theorem dX8_refusalOfSayings_14 : decode cX8_refusalOfSayings 14 = .ok (.invokevirtual 206, 3) := by decide +kernel
theorem dX8_refusalOfSayings_17 : decode cX8_refusalOfSayings 17 = .ok (.ifCond .eq 7, 3) := by decide +kernel
theorem dX8_refusalOfSayings_20 : decode cX8_refusalOfSayings 20 = .ok (.iconst 0, 1) := by decide +kernel
theorem dX8_refusalOfSayings_21 : decode cX8_refusalOfSayings 21 = .ok (.goto 5, 3) := by decide +kernel
theorem dX8_refusalOfSayings_24 : decode cX8_refusalOfSayings 24 = .ok (.bipush (-5), 2) := by decide +kernel
theorem dX8_refusalOfSayings_26 : decode cX8_refusalOfSayings 26 = .ok (.ireturn, 1) := by decide +kernel
set_option maxRecDepth 20000 in
theorem ggX8_firstUnlike_X8_saysBut : GoodIn wsX8_firstUnlike wsX8_saysBut := goodIn_r _ [5, 6, 7, 8, 9, 10, 11, 12, 13, 14, 15, 16, 17, 18, 19, 20, 21, 22, 23, 24, 25, 26, 27, 28, 29, 30, 31, 32, 33, 34, 35, 36, 37, 38, 39, 40, 41, 42, 43, 44, 45, 46, 47, 48, 49, 50, 51, 52, 53, 54, 55, 56, 57, 58, 59, 60, 61, 62, 63, 64, 65, 66, 67, 68, 69, 70, 71, 72, 73, 74, 75, 76, 77, 78, 79, 80, 81, 82, 83, 84, 85, 86, 87, 88, 89, 90, 91, 92, 93, 94, 95, 96, 97, 98, 102, 103, 104, 105, 106, 107, 108, 109, 110, 111, 112, 113, 114, 115, 116, 117, 118, 119, 120, 121, 122, 123, 124, 125, 126, 127, 128, 129, 130] rfl (by decide +kernel)
set_option maxRecDepth 20000 in
theorem gX8_firstUnlike_X8_saysBut : GoodIn wsX8_firstUnlike (wsV RX8 234 RX8 yX8_saysBut wsX8_saysBut) := goodIn_app (goodIn_of _ (by decide +kernel)) ggX8_firstUnlike_X8_saysBut
theorem dX8_firstUnlike_0 : decode cX8_firstUnlike 0 = .ok (.iconst 0, 1) := by decide +kernel
theorem dX8_firstUnlike_1 : decode cX8_firstUnlike 1 = .ok (.istore 4, 2) := by decide +kernel
theorem dX8_firstUnlike_3 : decode cX8_firstUnlike 3 = .ok (.iload 4, 2) := by decide +kernel
theorem dX8_firstUnlike_5 : decode cX8_firstUnlike 5 = .ok (.aload_n 1, 1) := by decide +kernel
theorem dX8_firstUnlike_6 : decode cX8_firstUnlike 6 = .ok (.getfield 352, 3) := by decide +kernel
theorem dX8_firstUnlike_9 : decode cX8_firstUnlike 9 = .ok (.if_icmp .ge 33, 3) := by decide +kernel
theorem dX8_firstUnlike_12 : decode cX8_firstUnlike 12 = .ok (.aload_n 0, 1) := by decide +kernel
theorem dX8_firstUnlike_13 : decode cX8_firstUnlike 13 = .ok (.iload 4, 2) := by decide +kernel
theorem dX8_firstUnlike_15 : decode cX8_firstUnlike 15 = .ok (.iconst 1, 1) := by decide +kernel
theorem dX8_firstUnlike_16 : decode cX8_firstUnlike 16 = .ok (.iadd, 1) := by decide +kernel
theorem dX8_firstUnlike_17 : decode cX8_firstUnlike 17 = .ok (.iconst 0, 1) := by decide +kernel
theorem dX8_firstUnlike_18 : decode cX8_firstUnlike 18 = .ok (.aload_n 2, 1) := by decide +kernel
theorem dX8_firstUnlike_19 : decode cX8_firstUnlike 19 = .ok (.aload_n 3, 1) := by decide +kernel
theorem dX8_firstUnlike_20 : decode cX8_firstUnlike 20 = .ok (.invokevirtual 234, 3) := by decide +kernel
theorem dX8_firstUnlike_23 : decode cX8_firstUnlike 23 = .ok (.aload_n 1, 1) := by decide +kernel
theorem dX8_firstUnlike_24 : decode cX8_firstUnlike 24 = .ok (.getfield 321, 3) := by decide +kernel
theorem dX8_firstUnlike_27 : decode cX8_firstUnlike 27 = .ok (.iload 4, 2) := by decide +kernel
theorem dX8_firstUnlike_29 : decode cX8_firstUnlike 29 = .ok (.iaload, 1) := by decide +kernel
theorem dX8_firstUnlike_30 : decode cX8_firstUnlike 30 = .ok (.if_icmp .eq 6, 3) := by decide +kernel
theorem dX8_firstUnlike_33 : decode cX8_firstUnlike 33 = .ok (.iload 4, 2) := by decide +kernel
theorem dX8_firstUnlike_35 : decode cX8_firstUnlike 35 = .ok (.ireturn, 1) := by decide +kernel
theorem dX8_firstUnlike_36 : decode cX8_firstUnlike 36 = .ok (.iinc 4 1, 3) := by decide +kernel
theorem dX8_firstUnlike_39 : decode cX8_firstUnlike 39 = .ok (.goto (-36), 3) := by decide +kernel
theorem dX8_firstUnlike_42 : decode cX8_firstUnlike 42 = .ok (.iconst (-1), 1) := by decide +kernel
theorem dX8_firstUnlike_43 : decode cX8_firstUnlike 43 = .ok (.ireturn, 1) := by decide +kernel
set_option maxRecDepth 20000 in
theorem ggX8_drawTrialRow_X2_start : GoodIn wsX8_drawTrialRow wsX2_start := goodIn_r _ [7, 8, 48] rfl (by decide +kernel)
set_option maxRecDepth 20000 in
theorem gX8_drawTrialRow_X2_start_n353 : GoodIn wsX8_drawTrialRow (wsX2_start) := ggX8_drawTrialRow_X2_start
set_option maxRecDepth 20000 in
theorem ggX8_drawTrialRow_X2_below : GoodIn wsX8_drawTrialRow wsX2_below := goodIn_r _ [11, 8, 12, 13, 48] rfl (by decide +kernel)
set_option maxRecDepth 20000 in
theorem gX8_drawTrialRow_X2_below_n356 : GoodIn wsX8_drawTrialRow (wsX2_below) := ggX8_drawTrialRow_X2_below
set_option maxRecDepth 20000 in
theorem ggX8_drawTrialRow_X4_becomeAllBut : GoodIn wsX8_drawTrialRow wsX4_becomeAllBut := goodIn_r _ [17, 18, 19, 20, 21, 15, 22, 23, 46, 47] rfl (by decide +kernel)
set_option maxRecDepth 20000 in
theorem gX8_drawTrialRow_X4_becomeAllBut_n125 : GoodIn wsX8_drawTrialRow (wsX4_becomeAllBut) := ggX8_drawTrialRow_X4_becomeAllBut
set_option maxRecDepth 20000 in
theorem ggX8_drawTrialRow_X4_change : GoodIn wsX8_drawTrialRow wsX4_change := goodIn_r _ [26, 23, 27, 28, 29, 15, 30, 18, 46, 47] rfl (by decide +kernel)
set_option maxRecDepth 20000 in
theorem gX8_drawTrialRow_X4_change_n359 : GoodIn wsX8_drawTrialRow (wsX4_change) := ggX8_drawTrialRow_X4_change
theorem dX8_drawTrialRow_0 : decode cX8_drawTrialRow 0 = .ok (.aload_n 0, 1) := by decide +kernel
theorem dX8_drawTrialRow_1 : decode cX8_drawTrialRow 1 = .ok (.getfield 53, 3) := by decide +kernel
theorem dX8_drawTrialRow_4 : decode cX8_drawTrialRow 4 = .ok (.iload_n 1, 1) := by decide +kernel
theorem dX8_drawTrialRow_5 : decode cX8_drawTrialRow 5 = .ok (.invokevirtual 353, 3) := by decide +kernel
theorem dX8_drawTrialRow_8 : decode cX8_drawTrialRow 8 = .ok (.aload_n 0, 1) := by decide +kernel
theorem dX8_drawTrialRow_9 : decode cX8_drawTrialRow 9 = .ok (.getfield 53, 3) := by decide +kernel
theorem dX8_drawTrialRow_12 : decode cX8_drawTrialRow 12 = .ok (.aload_n 0, 1) := by decide +kernel
theorem dX8_drawTrialRow_13 : decode cX8_drawTrialRow 13 = .ok (.getfield 74, 3) := by decide +kernel
theorem dX8_drawTrialRow_16 : decode cX8_drawTrialRow 16 = .ok (.invokevirtual 356, 3) := by decide +kernel
theorem dX8_drawTrialRow_19 : decode cX8_drawTrialRow 19 = .ok (.iconst 1, 1) := by decide +kernel
theorem dX8_drawTrialRow_20 : decode cX8_drawTrialRow 20 = .ok (.iadd, 1) := by decide +kernel
theorem dX8_drawTrialRow_21 : decode cX8_drawTrialRow 21 = .ok (.istore_n 2, 1) := by decide +kernel
theorem dX8_drawTrialRow_22 : decode cX8_drawTrialRow 22 = .ok (.aload_n 0, 1) := by decide +kernel
theorem dX8_drawTrialRow_23 : decode cX8_drawTrialRow 23 = .ok (.getfield 16, 3) := by decide +kernel
theorem dX8_drawTrialRow_26 : decode cX8_drawTrialRow 26 = .ok (.iload_n 2, 1) := by decide +kernel
theorem dX8_drawTrialRow_27 : decode cX8_drawTrialRow 27 = .ok (.aload_n 0, 1) := by decide +kernel
theorem dX8_drawTrialRow_28 : decode cX8_drawTrialRow 28 = .ok (.getfield 74, 3) := by decide +kernel
theorem dX8_drawTrialRow_31 : decode cX8_drawTrialRow 31 = .ok (.iconst 0, 1) := by decide +kernel
theorem dX8_drawTrialRow_32 : decode cX8_drawTrialRow 32 = .ok (.invokevirtual 125, 3) := by decide +kernel
theorem dX8_drawTrialRow_35 : decode cX8_drawTrialRow 35 = .ok (.aload_n 0, 1) := by decide +kernel
theorem dX8_drawTrialRow_36 : decode cX8_drawTrialRow 36 = .ok (.getfield 16, 3) := by decide +kernel
theorem dX8_drawTrialRow_39 : decode cX8_drawTrialRow 39 = .ok (.getfield 108, 3) := by decide +kernel
theorem dX8_drawTrialRow_42 : decode cX8_drawTrialRow 42 = .ok (.iconst 1, 1) := by decide +kernel
theorem dX8_drawTrialRow_43 : decode cX8_drawTrialRow 43 = .ok (.isub, 1) := by decide +kernel
theorem dX8_drawTrialRow_44 : decode cX8_drawTrialRow 44 = .ok (.istore_n 3, 1) := by decide +kernel
theorem dX8_drawTrialRow_45 : decode cX8_drawTrialRow 45 = .ok (.iload_n 3, 1) := by decide +kernel
theorem dX8_drawTrialRow_46 : decode cX8_drawTrialRow 46 = .ok (.iconst 1, 1) := by decide +kernel
theorem dX8_drawTrialRow_47 : decode cX8_drawTrialRow 47 = .ok (.if_icmp .lt 27, 3) := by decide +kernel
theorem dX8_drawTrialRow_50 : decode cX8_drawTrialRow 50 = .ok (.aload_n 0, 1) := by decide +kernel
theorem dX8_drawTrialRow_51 : decode cX8_drawTrialRow 51 = .ok (.getfield 16, 3) := by decide +kernel
theorem dX8_drawTrialRow_54 : decode cX8_drawTrialRow 54 = .ok (.iload_n 3, 1) := by decide +kernel
theorem dX8_drawTrialRow_55 : decode cX8_drawTrialRow 55 = .ok (.aload_n 0, 1) := by decide +kernel
theorem dX8_drawTrialRow_56 : decode cX8_drawTrialRow 56 = .ok (.getfield 53, 3) := by decide +kernel
theorem dX8_drawTrialRow_59 : decode cX8_drawTrialRow 59 = .ok (.iload_n 3, 1) := by decide +kernel
theorem dX8_drawTrialRow_60 : decode cX8_drawTrialRow 60 = .ok (.iconst 1, 1) := by decide +kernel
theorem dX8_drawTrialRow_61 : decode cX8_drawTrialRow 61 = .ok (.iadd, 1) := by decide +kernel
theorem dX8_drawTrialRow_62 : decode cX8_drawTrialRow 62 = .ok (.invokevirtual 356, 3) := by decide +kernel
theorem dX8_drawTrialRow_65 : decode cX8_drawTrialRow 65 = .ok (.invokevirtual 359, 3) := by decide +kernel
theorem dX8_drawTrialRow_68 : decode cX8_drawTrialRow 68 = .ok (.iinc 3 (-1), 3) := by decide +kernel
theorem dX8_drawTrialRow_71 : decode cX8_drawTrialRow 71 = .ok (.goto (-26), 3) := by decide +kernel
theorem dX8_drawTrialRow_74 : decode cX8_drawTrialRow 74 = .ok (.iload_n 2, 1) := by decide +kernel
theorem dX8_drawTrialRow_75 : decode cX8_drawTrialRow 75 = .ok (.ireturn, 1) := by decide +kernel
theorem dX8_commonDivisor_0 : decode cX8_commonDivisor 0 = .ok (.iload_n 1, 1) := by decide +kernel
theorem dX8_commonDivisor_1 : decode cX8_commonDivisor 1 = .ok (.istore_n 2, 1) := by decide +kernel
theorem dX8_commonDivisor_2 : decode cX8_commonDivisor 2 = .ok (.iload_n 2, 1) := by decide +kernel
theorem dX8_commonDivisor_3 : decode cX8_commonDivisor 3 = .ok (.iconst 1, 1) := by decide +kernel
theorem dX8_commonDivisor_4 : decode cX8_commonDivisor 4 = .ok (.if_icmp .le 23, 3) := by decide +kernel
theorem dX8_commonDivisor_7 : decode cX8_commonDivisor 7 = .ok (.iload_n 0, 1) := by decide +kernel
theorem dX8_commonDivisor_8 : decode cX8_commonDivisor 8 = .ok (.iload_n 2, 1) := by decide +kernel
theorem dX8_commonDivisor_9 : decode cX8_commonDivisor 9 = .ok (.irem, 1) := by decide +kernel
theorem dX8_commonDivisor_10 : decode cX8_commonDivisor 10 = .ok (.ifCond .ne 11, 3) := by decide +kernel
theorem dX8_commonDivisor_13 : decode cX8_commonDivisor 13 = .ok (.iload_n 1, 1) := by decide +kernel
theorem dX8_commonDivisor_14 : decode cX8_commonDivisor 14 = .ok (.iload_n 2, 1) := by decide +kernel
theorem dX8_commonDivisor_15 : decode cX8_commonDivisor 15 = .ok (.irem, 1) := by decide +kernel
theorem dX8_commonDivisor_16 : decode cX8_commonDivisor 16 = .ok (.ifCond .ne 5, 3) := by decide +kernel
theorem dX8_commonDivisor_19 : decode cX8_commonDivisor 19 = .ok (.iload_n 2, 1) := by decide +kernel
theorem dX8_commonDivisor_20 : decode cX8_commonDivisor 20 = .ok (.ireturn, 1) := by decide +kernel
theorem dX8_commonDivisor_21 : decode cX8_commonDivisor 21 = .ok (.iinc 2 (-1), 3) := by decide +kernel
theorem dX8_commonDivisor_24 : decode cX8_commonDivisor 24 = .ok (.goto (-22), 3) := by decide +kernel
theorem dX8_commonDivisor_27 : decode cX8_commonDivisor 27 = .ok (.iconst 1, 1) := by decide +kernel
theorem dX8_commonDivisor_28 : decode cX8_commonDivisor 28 = .ok (.ireturn, 1) := by decide +kernel
set_option maxRecDepth 20000 in
theorem ggX9_init_X9_text : GoodIn wsX9_init wsX9_text := goodIn_r _ [30, 31, 32, 33, 34, 35, 12, 25, 36, 37, 38, 39, 29, 40, 10, 41, 42, 43, 44, 45, 46, 47, 19, 48, 49, 50, 51, 52, 53, 54, 55, 56, 57, 58, 11, 59, 60, 61, 62, 20, 63, 64, 65, 66, 67, 68, 69, 70, 71, 72, 73, 74, 75, 76, 77, 78, 79, 80, 81, 82, 83, 84, 85, 86, 87, 88, 89, 90, 91, 92, 93, 94, 95, 96, 97, 98, 99, 100, 101, 102, 103, 104, 105, 106, 107, 108, 109, 110, 111, 112, 113, 114, 115, 116, 117, 118, 119, 120, 121, 122] rfl (by decide +kernel)
set_option maxRecDepth 20000 in
theorem gX9_init_X9_text : GoodIn wsX9_init (wsV RX9 74 RX9 yX9_text wsX9_text) := goodIn_app (goodIn_of _ (by decide +kernel)) ggX9_init_X9_text
theorem dX9_init_0 : decode cX9_init 0 = .ok (.aload_n 0, 1) := by decide +kernel
theorem dX9_init_1 : decode cX9_init 1 = .ok (.invokespecial 1, 3) := by decide +kernel
theorem dX9_init_4 : decode cX9_init 4 = .ok (.aload_n 0, 1) := by decide +kernel
theorem dX9_init_5 : decode cX9_init 5 = .ok (.bipush 10, 2) := by decide +kernel
theorem dX9_init_7 : decode cX9_init 7 = .ok (.putfield 7, 3) := by decide +kernel
theorem dX9_init_10 : decode cX9_init 10 = .ok (.aload_n 0, 1) := by decide +kernel
theorem dX9_init_11 : decode cX9_init 11 = .ok (.bipush 60, 2) := by decide +kernel
theorem dX9_init_13 : decode cX9_init 13 = .ok (.newarray .int, 2) := by decide +kernel
theorem dX9_init_15 : decode cX9_init 15 = .ok (.putfield 13, 3) := by decide +kernel
theorem dX9_init_18 : decode cX9_init 18 = .ok (.aload_n 0, 1) := by decide +kernel
theorem dX9_init_19 : decode cX9_init 19 = .ok (.iconst 5, 1) := by decide +kernel
theorem dX9_init_20 : decode cX9_init 20 = .ok (.newarray .int, 2) := by decide +kernel
theorem dX9_init_22 : decode cX9_init 22 = .ok (.putfield 17, 3) := by decide +kernel
theorem dX9_init_25 : decode cX9_init 25 = .ok (.aload_n 0, 1) := by decide +kernel
theorem dX9_init_26 : decode cX9_init 26 = .ok (.iconst 5, 1) := by decide +kernel
theorem dX9_init_27 : decode cX9_init 27 = .ok (.newarray .int, 2) := by decide +kernel
theorem dX9_init_29 : decode cX9_init 29 = .ok (.putfield 20, 3) := by decide +kernel
theorem dX9_init_32 : decode cX9_init 32 = .ok (.aload_n 0, 1) := by decide +kernel
theorem dX9_init_33 : decode cX9_init 33 = .ok (.bipush 15, 2) := by decide +kernel
theorem dX9_init_35 : decode cX9_init 35 = .ok (.newarray .int, 2) := by decide +kernel
theorem dX9_init_37 : decode cX9_init 37 = .ok (.putfield 23, 3) := by decide +kernel
theorem dX9_init_40 : decode cX9_init 40 = .ok (.aload_n 0, 1) := by decide +kernel
theorem dX9_init_41 : decode cX9_init 41 = .ok (.sipush 160, 3) := by decide +kernel
theorem dX9_init_44 : decode cX9_init 44 = .ok (.newarray .int, 2) := by decide +kernel
theorem dX9_init_46 : decode cX9_init 46 = .ok (.putfield 26, 3) := by decide +kernel
theorem dX9_init_49 : decode cX9_init 49 = .ok (.aload_n 0, 1) := by decide +kernel
theorem dX9_init_50 : decode cX9_init 50 = .ok (.sipush 1200, 3) := by decide +kernel
theorem dX9_init_53 : decode cX9_init 53 = .ok (.newarray .int, 2) := by decide +kernel
theorem dX9_init_55 : decode cX9_init 55 = .ok (.putfield 29, 3) := by decide +kernel
theorem dX9_init_58 : decode cX9_init 58 = .ok (.aload_n 0, 1) := by decide +kernel
theorem dX9_init_59 : decode cX9_init 59 = .ok (.bipush 24, 2) := by decide +kernel
theorem dX9_init_61 : decode cX9_init 61 = .ok (.newarray .int, 2) := by decide +kernel
theorem dX9_init_63 : decode cX9_init 63 = .ok (.putfield 32, 3) := by decide +kernel
theorem dX9_init_66 : decode cX9_init 66 = .ok (.aload_n 0, 1) := by decide +kernel
theorem dX9_init_67 : decode cX9_init 67 = .ok (.bipush 60, 2) := by decide +kernel
theorem dX9_init_69 : decode cX9_init 69 = .ok (.newarray .int, 2) := by decide +kernel
theorem dX9_init_71 : decode cX9_init 71 = .ok (.putfield 35, 3) := by decide +kernel
theorem dX9_init_74 : decode cX9_init 74 = .ok (.aload_n 0, 1) := by decide +kernel
theorem dX9_init_75 : decode cX9_init 75 = .ok (.bipush 15, 2) := by decide +kernel
theorem dX9_init_77 : decode cX9_init 77 = .ok (.newarray .int, 2) := by decide +kernel
theorem dX9_init_79 : decode cX9_init 79 = .ok (.putfield 38, 3) := by decide +kernel
theorem dX9_init_82 : decode cX9_init 82 = .ok (.aload_n 0, 1) := by decide +kernel
theorem dX9_init_83 : decode cX9_init 83 = .ok (.iconst 4, 1) := by decide +kernel
theorem dX9_init_84 : decode cX9_init 84 = .ok (.newarray .int, 2) := by decide +kernel
theorem dX9_init_86 : decode cX9_init 86 = .ok (.dup, 1) := by decide +kernel
theorem dX9_init_87 : decode cX9_init 87 = .ok (.iconst 0, 1) := by decide +kernel
theorem dX9_init_88 : decode cX9_init 88 = .ok (.iconst (-1), 1) := by decide +kernel
theorem dX9_init_89 : decode cX9_init 89 = .ok (.iastore, 1) := by decide +kernel
theorem dX9_init_90 : decode cX9_init 90 = .ok (.dup, 1) := by decide +kernel
theorem dX9_init_91 : decode cX9_init 91 = .ok (.iconst 1, 1) := by decide +kernel
theorem dX9_init_92 : decode cX9_init 92 = .ok (.iconst (-1), 1) := by decide +kernel
theorem dX9_init_93 : decode cX9_init 93 = .ok (.iastore, 1) := by decide +kernel
theorem dX9_init_94 : decode cX9_init 94 = .ok (.dup, 1) := by decide +kernel
theorem dX9_init_95 : decode cX9_init 95 = .ok (.iconst 2, 1) := by decide +kernel
theorem dX9_init_96 : decode cX9_init 96 = .ok (.iconst (-1), 1) := by decide +kernel
theorem dX9_init_97 : decode cX9_init 97 = .ok (.iastore, 1) := by decide +kernel
theorem dX9_init_98 : decode cX9_init 98 = .ok (.dup, 1) := by decide +kernel
theorem dX9_init_99 : decode cX9_init 99 = .ok (.iconst 3, 1) := by decide +kernel
theorem dX9_init_100 : decode cX9_init 100 = .ok (.iconst (-1), 1) := by decide +kernel
theorem dX9_init_101 : decode cX9_init 101 = .ok (.iastore, 1) := by decide +kernel
theorem dX9_init_102 : decode cX9_init 102 = .ok (.putfield 41, 3) := by decide +kernel
theorem dX9_init_105 : decode cX9_init 105 = .ok (.aload_n 0, 1) := by decide +kernel
theorem dX9_init_106 : decode cX9_init 106 = .ok (.iconst 4, 1) := by decide +kernel
theorem dX9_init_107 : decode cX9_init 107 = .ok (.newarray .int, 2) := by decide +kernel
theorem dX9_init_109 : decode cX9_init 109 = .ok (.putfield 44, 3) := by decide +kernel
theorem dX9_init_112 : decode cX9_init 112 = .ok (.aload_n 0, 1) := by decide +kernel
theorem dX9_init_113 : decode cX9_init 113 = .ok (.sipush 160, 3) := by decide +kernel
theorem dX9_init_116 : decode cX9_init 116 = .ok (.newarray .int, 2) := by decide +kernel
theorem dX9_init_118 : decode cX9_init 118 = .ok (.putfield 47, 3) := by decide +kernel
theorem dX9_init_121 : decode cX9_init 121 = .ok (.aload_n 0, 1) := by decide +kernel
theorem dX9_init_122 : decode cX9_init 122 = .ok (.bipush 40, 2) := by decide +kernel
theorem dX9_init_124 : decode cX9_init 124 = .ok (.newarray .int, 2) := by decide +kernel
theorem dX9_init_126 : decode cX9_init 126 = .ok (.dup, 1) := by decide +kernel
theorem dX9_init_127 : decode cX9_init 127 = .ok (.iconst 0, 1) := by decide +kernel
theorem dX9_init_128 : decode cX9_init 128 = .ok (.bipush 102, 2) := by decide +kernel
theorem dX9_init_130 : decode cX9_init 130 = .ok (.iastore, 1) := by decide +kernel
theorem dX9_init_131 : decode cX9_init 131 = .ok (.dup, 1) := by decide +kernel
theorem dX9_init_132 : decode cX9_init 132 = .ok (.iconst 1, 1) := by decide +kernel
theorem dX9_init_133 : decode cX9_init 133 = .ok (.bipush 105, 2) := by decide +kernel
theorem dX9_init_135 : decode cX9_init 135 = .ok (.iastore, 1) := by decide +kernel
theorem dX9_init_136 : decode cX9_init 136 = .ok (.dup, 1) := by decide +kernel
theorem dX9_init_137 : decode cX9_init 137 = .ok (.iconst 2, 1) := by decide +kernel
theorem dX9_init_138 : decode cX9_init 138 = .ok (.bipush 114, 2) := by decide +kernel
theorem dX9_init_140 : decode cX9_init 140 = .ok (.iastore, 1) := by decide +kernel
theorem dX9_init_141 : decode cX9_init 141 = .ok (.dup, 1) := by decide +kernel
theorem dX9_init_142 : decode cX9_init 142 = .ok (.iconst 3, 1) := by decide +kernel
theorem dX9_init_143 : decode cX9_init 143 = .ok (.bipush 115, 2) := by decide +kernel
theorem dX9_init_145 : decode cX9_init 145 = .ok (.iastore, 1) := by decide +kernel
theorem dX9_init_146 : decode cX9_init 146 = .ok (.dup, 1) := by decide +kernel
theorem dX9_init_147 : decode cX9_init 147 = .ok (.iconst 4, 1) := by decide +kernel
theorem dX9_init_148 : decode cX9_init 148 = .ok (.bipush 116, 2) := by decide +kernel
theorem dX9_init_150 : decode cX9_init 150 = .ok (.iastore, 1) := by decide +kernel
theorem dX9_init_151 : decode cX9_init 151 = .ok (.dup, 1) := by decide +kernel
theorem dX9_init_152 : decode cX9_init 152 = .ok (.iconst 5, 1) := by decide +kernel
theorem dX9_init_153 : decode cX9_init 153 = .ok (.bipush 32, 2) := by decide +kernel
theorem dX9_init_155 : decode cX9_init 155 = .ok (.iastore, 1) := by decide +kernel
theorem dX9_init_156 : decode cX9_init 156 = .ok (.dup, 1) := by decide +kernel
theorem dX9_init_157 : decode cX9_init 157 = .ok (.bipush 6, 2) := by decide +kernel
theorem dX9_init_159 : decode cX9_init 159 = .ok (.bipush 97, 2) := by decide +kernel
theorem dX9_init_161 : decode cX9_init 161 = .ok (.iastore, 1) := by decide +kernel
theorem dX9_init_162 : decode cX9_init 162 = .ok (.dup, 1) := by decide +kernel
theorem dX9_init_163 : decode cX9_init 163 = .ok (.bipush 7, 2) := by decide +kernel
theorem dX9_init_165 : decode cX9_init 165 = .ok (.bipush 32, 2) := by decide +kernel
theorem dX9_init_167 : decode cX9_init 167 = .ok (.iastore, 1) := by decide +kernel
theorem dX9_init_168 : decode cX9_init 168 = .ok (.dup, 1) := by decide +kernel
theorem dX9_init_169 : decode cX9_init 169 = .ok (.bipush 8, 2) := by decide +kernel
theorem dX9_init_171 : decode cX9_init 171 = .ok (.bipush 45, 2) := by decide +kernel
theorem dX9_init_173 : decode cX9_init 173 = .ok (.iastore, 1) := by decide +kernel
theorem dX9_init_174 : decode cX9_init 174 = .ok (.dup, 1) := by decide +kernel
theorem dX9_init_175 : decode cX9_init 175 = .ok (.bipush 9, 2) := by decide +kernel
theorem dX9_init_177 : decode cX9_init 177 = .ok (.bipush 32, 2) := by decide +kernel
theorem dX9_init_179 : decode cX9_init 179 = .ok (.iastore, 1) := by decide +kernel
theorem dX9_init_180 : decode cX9_init 180 = .ok (.dup, 1) := by decide +kernel
theorem dX9_init_181 : decode cX9_init 181 = .ok (.bipush 10, 2) := by decide +kernel
theorem dX9_init_183 : decode cX9_init 183 = .ok (.bipush 105, 2) := by decide +kernel
theorem dX9_init_185 : decode cX9_init 185 = .ok (.iastore, 1) := by decide +kernel
theorem dX9_init_186 : decode cX9_init 186 = .ok (.dup, 1) := by decide +kernel
theorem dX9_init_187 : decode cX9_init 187 = .ok (.bipush 11, 2) := by decide +kernel
theorem dX9_init_189 : decode cX9_init 189 = .ok (.bipush 116, 2) := by decide +kernel
theorem dX9_init_191 : decode cX9_init 191 = .ok (.iastore, 1) := by decide +kernel
theorem dX9_init_192 : decode cX9_init 192 = .ok (.dup, 1) := by decide +kernel
theorem dX9_init_193 : decode cX9_init 193 = .ok (.bipush 12, 2) := by decide +kernel
theorem dX9_init_195 : decode cX9_init 195 = .ok (.bipush 101, 2) := by decide +kernel
theorem dX9_init_197 : decode cX9_init 197 = .ok (.iastore, 1) := by decide +kernel
theorem dX9_init_198 : decode cX9_init 198 = .ok (.dup, 1) := by decide +kernel
theorem dX9_init_199 : decode cX9_init 199 = .ok (.bipush 13, 2) := by decide +kernel
theorem dX9_init_201 : decode cX9_init 201 = .ok (.bipush 109, 2) := by decide +kernel
theorem dX9_init_203 : decode cX9_init 203 = .ok (.iastore, 1) := by decide +kernel
theorem dX9_init_204 : decode cX9_init 204 = .ok (.dup, 1) := by decide +kernel
theorem dX9_init_205 : decode cX9_init 205 = .ok (.bipush 14, 2) := by decide +kernel
theorem dX9_init_207 : decode cX9_init 207 = .ok (.bipush 32, 2) := by decide +kernel
theorem dX9_init_209 : decode cX9_init 209 = .ok (.iastore, 1) := by decide +kernel
theorem dX9_init_210 : decode cX9_init 210 = .ok (.dup, 1) := by decide +kernel
theorem dX9_init_211 : decode cX9_init 211 = .ok (.bipush 15, 2) := by decide +kernel
theorem dX9_init_213 : decode cX9_init 213 = .ok (.bipush 59, 2) := by decide +kernel
theorem dX9_init_215 : decode cX9_init 215 = .ok (.iastore, 1) := by decide +kernel
theorem dX9_init_216 : decode cX9_init 216 = .ok (.dup, 1) := by decide +kernel
theorem dX9_init_217 : decode cX9_init 217 = .ok (.bipush 16, 2) := by decide +kernel
theorem dX9_init_219 : decode cX9_init 219 = .ok (.bipush 32, 2) := by decide +kernel
theorem dX9_init_221 : decode cX9_init 221 = .ok (.iastore, 1) := by decide +kernel
theorem dX9_init_222 : decode cX9_init 222 = .ok (.dup, 1) := by decide +kernel
theorem dX9_init_223 : decode cX9_init 223 = .ok (.bipush 17, 2) := by decide +kernel
theorem dX9_init_225 : decode cX9_init 225 = .ok (.bipush 115, 2) := by decide +kernel
theorem dX9_init_227 : decode cX9_init 227 = .ok (.iastore, 1) := by decide +kernel
theorem dX9_init_228 : decode cX9_init 228 = .ok (.dup, 1) := by decide +kernel
theorem dX9_init_229 : decode cX9_init 229 = .ok (.bipush 18, 2) := by decide +kernel
theorem dX9_init_231 : decode cX9_init 231 = .ok (.bipush 101, 2) := by decide +kernel
theorem dX9_init_233 : decode cX9_init 233 = .ok (.iastore, 1) := by decide +kernel
theorem dX9_init_234 : decode cX9_init 234 = .ok (.dup, 1) := by decide +kernel
theorem dX9_init_235 : decode cX9_init 235 = .ok (.bipush 19, 2) := by decide +kernel
theorem dX9_init_237 : decode cX9_init 237 = .ok (.bipush 99, 2) := by decide +kernel
theorem dX9_init_239 : decode cX9_init 239 = .ok (.iastore, 1) := by decide +kernel
theorem dX9_init_240 : decode cX9_init 240 = .ok (.dup, 1) := by decide +kernel
theorem dX9_init_241 : decode cX9_init 241 = .ok (.bipush 20, 2) := by decide +kernel
theorem dX9_init_243 : decode cX9_init 243 = .ok (.bipush 111, 2) := by decide +kernel
theorem dX9_init_245 : decode cX9_init 245 = .ok (.iastore, 1) := by decide +kernel
theorem dX9_init_246 : decode cX9_init 246 = .ok (.dup, 1) := by decide +kernel
theorem dX9_init_247 : decode cX9_init 247 = .ok (.bipush 21, 2) := by decide +kernel
theorem dX9_init_249 : decode cX9_init 249 = .ok (.bipush 110, 2) := by decide +kernel
theorem dX9_init_251 : decode cX9_init 251 = .ok (.iastore, 1) := by decide +kernel
theorem dX9_init_252 : decode cX9_init 252 = .ok (.dup, 1) := by decide +kernel
theorem dX9_init_253 : decode cX9_init 253 = .ok (.bipush 22, 2) := by decide +kernel
theorem dX9_init_255 : decode cX9_init 255 = .ok (.bipush 100, 2) := by decide +kernel
theorem dX9_init_257 : decode cX9_init 257 = .ok (.iastore, 1) := by decide +kernel
theorem dX9_init_258 : decode cX9_init 258 = .ok (.dup, 1) := by decide +kernel
theorem dX9_init_259 : decode cX9_init 259 = .ok (.bipush 23, 2) := by decide +kernel
theorem dX9_init_261 : decode cX9_init 261 = .ok (.bipush 32, 2) := by decide +kernel
theorem dX9_init_263 : decode cX9_init 263 = .ok (.iastore, 1) := by decide +kernel
theorem dX9_init_264 : decode cX9_init 264 = .ok (.dup, 1) := by decide +kernel
theorem dX9_init_265 : decode cX9_init 265 = .ok (.bipush 24, 2) := by decide +kernel
theorem dX9_init_267 : decode cX9_init 267 = .ok (.bipush 98, 2) := by decide +kernel
theorem dX9_init_269 : decode cX9_init 269 = .ok (.iastore, 1) := by decide +kernel
theorem dX9_init_270 : decode cX9_init 270 = .ok (.dup, 1) := by decide +kernel
theorem dX9_init_271 : decode cX9_init 271 = .ok (.bipush 25, 2) := by decide +kernel
theorem dX9_init_273 : decode cX9_init 273 = .ok (.bipush 32, 2) := by decide +kernel
theorem dX9_init_275 : decode cX9_init 275 = .ok (.iastore, 1) := by decide +kernel
theorem dX9_init_276 : decode cX9_init 276 = .ok (.dup, 1) := by decide +kernel
theorem dX9_init_277 : decode cX9_init 277 = .ok (.bipush 26, 2) := by decide +kernel
theorem dX9_init_279 : decode cX9_init 279 = .ok (.bipush 43, 2) := by decide +kernel
theorem dX9_init_281 : decode cX9_init 281 = .ok (.iastore, 1) := by decide +kernel
theorem dX9_init_282 : decode cX9_init 282 = .ok (.dup, 1) := by decide +kernel
theorem dX9_init_283 : decode cX9_init 283 = .ok (.bipush 27, 2) := by decide +kernel
theorem dX9_init_285 : decode cX9_init 285 = .ok (.bipush 32, 2) := by decide +kernel
theorem dX9_init_287 : decode cX9_init 287 = .ok (.iastore, 1) := by decide +kernel
theorem dX9_init_288 : decode cX9_init 288 = .ok (.dup, 1) := by decide +kernel
theorem dX9_init_289 : decode cX9_init 289 = .ok (.bipush 28, 2) := by decide +kernel
theorem dX9_init_291 : decode cX9_init 291 = .ok (.bipush 49, 2) := by decide +kernel
theorem dX9_init_293 : decode cX9_init 293 = .ok (.iastore, 1) := by decide +kernel
theorem dX9_init_294 : decode cX9_init 294 = .ok (.dup, 1) := by decide +kernel
theorem dX9_init_295 : decode cX9_init 295 = .ok (.bipush 29, 2) := by decide +kernel
theorem dX9_init_297 : decode cX9_init 297 = .ok (.bipush 32, 2) := by decide +kernel
theorem dX9_init_299 : decode cX9_init 299 = .ok (.iastore, 1) := by decide +kernel
theorem dX9_init_300 : decode cX9_init 300 = .ok (.dup, 1) := by decide +kernel
theorem dX9_init_301 : decode cX9_init 301 = .ok (.bipush 30, 2) := by decide +kernel
theorem dX9_init_303 : decode cX9_init 303 = .ok (.bipush 59, 2) := by decide +kernel
theorem dX9_init_305 : decode cX9_init 305 = .ok (.iastore, 1) := by decide +kernel
theorem dX9_init_306 : decode cX9_init 306 = .ok (.dup, 1) := by decide +kernel
theorem dX9_init_307 : decode cX9_init 307 = .ok (.bipush 31, 2) := by decide +kernel
theorem dX9_init_309 : decode cX9_init 309 = .ok (.bipush 32, 2) := by decide +kernel
theorem dX9_init_311 : decode cX9_init 311 = .ok (.iastore, 1) := by decide +kernel
theorem dX9_init_312 : decode cX9_init 312 = .ok (.dup, 1) := by decide +kernel
theorem dX9_init_313 : decode cX9_init 313 = .ok (.bipush 32, 2) := by decide +kernel
theorem dX9_init_315 : decode cX9_init 315 = .ok (.bipush 115, 2) := by decide +kernel
theorem dX9_init_317 : decode cX9_init 317 = .ok (.iastore, 1) := by decide +kernel
theorem dX9_init_318 : decode cX9_init 318 = .ok (.dup, 1) := by decide +kernel
theorem dX9_init_319 : decode cX9_init 319 = .ok (.bipush 33, 2) := by decide +kernel
theorem dX9_init_321 : decode cX9_init 321 = .ok (.bipush 97, 2) := by decide +kernel
theorem dX9_init_323 : decode cX9_init 323 = .ok (.iastore, 1) := by decide +kernel
theorem dX9_init_324 : decode cX9_init 324 = .ok (.dup, 1) := by decide +kernel
theorem dX9_init_325 : decode cX9_init 325 = .ok (.bipush 34, 2) := by decide +kernel
theorem dX9_init_327 : decode cX9_init 327 = .ok (.bipush 121, 2) := by decide +kernel
theorem dX9_init_329 : decode cX9_init 329 = .ok (.iastore, 1) := by decide +kernel
theorem dX9_init_330 : decode cX9_init 330 = .ok (.dup, 1) := by decide +kernel
theorem dX9_init_331 : decode cX9_init 331 = .ok (.bipush 35, 2) := by decide +kernel
theorem dX9_init_333 : decode cX9_init 333 = .ok (.bipush 115, 2) := by decide +kernel
theorem dX9_init_335 : decode cX9_init 335 = .ok (.iastore, 1) := by decide +kernel
theorem dX9_init_336 : decode cX9_init 336 = .ok (.dup, 1) := by decide +kernel
theorem dX9_init_337 : decode cX9_init 337 = .ok (.bipush 36, 2) := by decide +kernel
theorem dX9_init_339 : decode cX9_init 339 = .ok (.bipush 32, 2) := by decide +kernel
theorem dX9_init_341 : decode cX9_init 341 = .ok (.iastore, 1) := by decide +kernel
theorem dX9_init_342 : decode cX9_init 342 = .ok (.dup, 1) := by decide +kernel
theorem dX9_init_343 : decode cX9_init 343 = .ok (.bipush 37, 2) := by decide +kernel
theorem dX9_init_345 : decode cX9_init 345 = .ok (.bipush 97, 2) := by decide +kernel
theorem dX9_init_347 : decode cX9_init 347 = .ok (.iastore, 1) := by decide +kernel
theorem dX9_init_348 : decode cX9_init 348 = .ok (.dup, 1) := by decide +kernel
theorem dX9_init_349 : decode cX9_init 349 = .ok (.bipush 38, 2) := by decide +kernel
theorem dX9_init_351 : decode cX9_init 351 = .ok (.bipush 32, 2) := by decide +kernel
theorem dX9_init_353 : decode cX9_init 353 = .ok (.iastore, 1) := by decide +kernel
theorem dX9_init_354 : decode cX9_init 354 = .ok (.dup, 1) := by decide +kernel
theorem dX9_init_355 : decode cX9_init 355 = .ok (.bipush 39, 2) := by decide +kernel
theorem dX9_init_357 : decode cX9_init 357 = .ok (.bipush 59, 2) := by decide +kernel
theorem dX9_init_359 : decode cX9_init 359 = .ok (.iastore, 1) := by decide +kernel
theorem dX9_init_360 : decode cX9_init 360 = .ok (.putfield 50, 3) := by decide +kernel
theorem dX9_init_363 : decode cX9_init 363 = .ok (.aload_n 0, 1) := by decide +kernel
theorem dX9_init_364 : decode cX9_init 364 = .ok (.bipush 96, 2) := by decide +kernel
theorem dX9_init_366 : decode cX9_init 366 = .ok (.newarray .int, 2) := by decide +kernel
theorem dX9_init_368 : decode cX9_init 368 = .ok (.dup, 1) := by decide +kernel
theorem dX9_init_369 : decode cX9_init 369 = .ok (.iconst 0, 1) := by decide +kernel
theorem dX9_init_370 : decode cX9_init 370 = .ok (.bipush 102, 2) := by decide +kernel
theorem dX9_init_372 : decode cX9_init 372 = .ok (.iastore, 1) := by decide +kernel
theorem dX9_init_373 : decode cX9_init 373 = .ok (.dup, 1) := by decide +kernel
theorem dX9_init_374 : decode cX9_init 374 = .ok (.iconst 1, 1) := by decide +kernel
theorem dX9_init_375 : decode cX9_init 375 = .ok (.bipush 105, 2) := by decide +kernel
theorem dX9_init_377 : decode cX9_init 377 = .ok (.iastore, 1) := by decide +kernel
theorem dX9_init_378 : decode cX9_init 378 = .ok (.dup, 1) := by decide +kernel
theorem dX9_init_379 : decode cX9_init 379 = .ok (.iconst 2, 1) := by decide +kernel
theorem dX9_init_380 : decode cX9_init 380 = .ok (.bipush 114, 2) := by decide +kernel
theorem dX9_init_382 : decode cX9_init 382 = .ok (.iastore, 1) := by decide +kernel
theorem dX9_init_383 : decode cX9_init 383 = .ok (.dup, 1) := by decide +kernel
theorem dX9_init_384 : decode cX9_init 384 = .ok (.iconst 3, 1) := by decide +kernel
theorem dX9_init_385 : decode cX9_init 385 = .ok (.bipush 115, 2) := by decide +kernel
theorem dX9_init_387 : decode cX9_init 387 = .ok (.iastore, 1) := by decide +kernel
theorem dX9_init_388 : decode cX9_init 388 = .ok (.dup, 1) := by decide +kernel
theorem dX9_init_389 : decode cX9_init 389 = .ok (.iconst 4, 1) := by decide +kernel
theorem dX9_init_390 : decode cX9_init 390 = .ok (.bipush 116, 2) := by decide +kernel
theorem dX9_init_392 : decode cX9_init 392 = .ok (.iastore, 1) := by decide +kernel
theorem dX9_init_393 : decode cX9_init 393 = .ok (.dup, 1) := by decide +kernel
theorem dX9_init_394 : decode cX9_init 394 = .ok (.iconst 5, 1) := by decide +kernel
theorem dX9_init_395 : decode cX9_init 395 = .ok (.bipush 32, 2) := by decide +kernel
theorem dX9_init_397 : decode cX9_init 397 = .ok (.iastore, 1) := by decide +kernel
theorem dX9_init_398 : decode cX9_init 398 = .ok (.dup, 1) := by decide +kernel
theorem dX9_init_399 : decode cX9_init 399 = .ok (.bipush 6, 2) := by decide +kernel
theorem dX9_init_401 : decode cX9_init 401 = .ok (.bipush 32, 2) := by decide +kernel
theorem dX9_init_403 : decode cX9_init 403 = .ok (.iastore, 1) := by decide +kernel
theorem dX9_init_404 : decode cX9_init 404 = .ok (.dup, 1) := by decide +kernel
theorem dX9_init_405 : decode cX9_init 405 = .ok (.bipush 7, 2) := by decide +kernel
theorem dX9_init_407 : decode cX9_init 407 = .ok (.bipush 32, 2) := by decide +kernel
theorem dX9_init_409 : decode cX9_init 409 = .ok (.iastore, 1) := by decide +kernel
theorem dX9_init_410 : decode cX9_init 410 = .ok (.dup, 1) := by decide +kernel
theorem dX9_init_411 : decode cX9_init 411 = .ok (.bipush 8, 2) := by decide +kernel
theorem dX9_init_413 : decode cX9_init 413 = .ok (.bipush 115, 2) := by decide +kernel
theorem dX9_init_415 : decode cX9_init 415 = .ok (.iastore, 1) := by decide +kernel
theorem dX9_init_416 : decode cX9_init 416 = .ok (.dup, 1) := by decide +kernel
theorem dX9_init_417 : decode cX9_init 417 = .ok (.bipush 9, 2) := by decide +kernel
theorem dX9_init_419 : decode cX9_init 419 = .ok (.bipush 101, 2) := by decide +kernel
theorem dX9_init_421 : decode cX9_init 421 = .ok (.iastore, 1) := by decide +kernel
theorem dX9_init_422 : decode cX9_init 422 = .ok (.dup, 1) := by decide +kernel
theorem dX9_init_423 : decode cX9_init 423 = .ok (.bipush 10, 2) := by decide +kernel
theorem dX9_init_425 : decode cX9_init 425 = .ok (.bipush 99, 2) := by decide +kernel
theorem dX9_init_427 : decode cX9_init 427 = .ok (.iastore, 1) := by decide +kernel
theorem dX9_init_428 : decode cX9_init 428 = .ok (.dup, 1) := by decide +kernel
theorem dX9_init_429 : decode cX9_init 429 = .ok (.bipush 11, 2) := by decide +kernel
theorem dX9_init_431 : decode cX9_init 431 = .ok (.bipush 111, 2) := by decide +kernel
theorem dX9_init_433 : decode cX9_init 433 = .ok (.iastore, 1) := by decide +kernel
theorem dX9_init_434 : decode cX9_init 434 = .ok (.dup, 1) := by decide +kernel
theorem dX9_init_435 : decode cX9_init 435 = .ok (.bipush 12, 2) := by decide +kernel
theorem dX9_init_437 : decode cX9_init 437 = .ok (.bipush 110, 2) := by decide +kernel
theorem dX9_init_439 : decode cX9_init 439 = .ok (.iastore, 1) := by decide +kernel
theorem dX9_init_440 : decode cX9_init 440 = .ok (.dup, 1) := by decide +kernel
theorem dX9_init_441 : decode cX9_init 441 = .ok (.bipush 13, 2) := by decide +kernel
theorem dX9_init_443 : decode cX9_init 443 = .ok (.bipush 100, 2) := by decide +kernel
theorem dX9_init_445 : decode cX9_init 445 = .ok (.iastore, 1) := by decide +kernel
theorem dX9_init_446 : decode cX9_init 446 = .ok (.dup, 1) := by decide +kernel
theorem dX9_init_447 : decode cX9_init 447 = .ok (.bipush 14, 2) := by decide +kernel
theorem dX9_init_449 : decode cX9_init 449 = .ok (.bipush 32, 2) := by decide +kernel
theorem dX9_init_451 : decode cX9_init 451 = .ok (.iastore, 1) := by decide +kernel
theorem dX9_init_452 : decode cX9_init 452 = .ok (.dup, 1) := by decide +kernel
theorem dX9_init_453 : decode cX9_init 453 = .ok (.bipush 15, 2) := by decide +kernel
theorem dX9_init_455 : decode cX9_init 455 = .ok (.bipush 32, 2) := by decide +kernel
theorem dX9_init_457 : decode cX9_init 457 = .ok (.iastore, 1) := by decide +kernel
theorem dX9_init_458 : decode cX9_init 458 = .ok (.dup, 1) := by decide +kernel
theorem dX9_init_459 : decode cX9_init 459 = .ok (.bipush 16, 2) := by decide +kernel
theorem dX9_init_461 : decode cX9_init 461 = .ok (.bipush 115, 2) := by decide +kernel
theorem dX9_init_463 : decode cX9_init 463 = .ok (.iastore, 1) := by decide +kernel
theorem dX9_init_464 : decode cX9_init 464 = .ok (.dup, 1) := by decide +kernel
theorem dX9_init_465 : decode cX9_init 465 = .ok (.bipush 17, 2) := by decide +kernel
theorem dX9_init_467 : decode cX9_init 467 = .ok (.bipush 97, 2) := by decide +kernel
theorem dX9_init_469 : decode cX9_init 469 = .ok (.iastore, 1) := by decide +kernel
theorem dX9_init_470 : decode cX9_init 470 = .ok (.dup, 1) := by decide +kernel
theorem dX9_init_471 : decode cX9_init 471 = .ok (.bipush 18, 2) := by decide +kernel
theorem dX9_init_473 : decode cX9_init 473 = .ok (.bipush 121, 2) := by decide +kernel
theorem dX9_init_475 : decode cX9_init 475 = .ok (.iastore, 1) := by decide +kernel
theorem dX9_init_476 : decode cX9_init 476 = .ok (.dup, 1) := by decide +kernel
theorem dX9_init_477 : decode cX9_init 477 = .ok (.bipush 19, 2) := by decide +kernel
theorem dX9_init_479 : decode cX9_init 479 = .ok (.bipush 115, 2) := by decide +kernel
theorem dX9_init_481 : decode cX9_init 481 = .ok (.iastore, 1) := by decide +kernel
theorem dX9_init_482 : decode cX9_init 482 = .ok (.dup, 1) := by decide +kernel
theorem dX9_init_483 : decode cX9_init 483 = .ok (.bipush 20, 2) := by decide +kernel
theorem dX9_init_485 : decode cX9_init 485 = .ok (.bipush 32, 2) := by decide +kernel
theorem dX9_init_487 : decode cX9_init 487 = .ok (.iastore, 1) := by decide +kernel
theorem dX9_init_488 : decode cX9_init 488 = .ok (.dup, 1) := by decide +kernel
theorem dX9_init_489 : decode cX9_init 489 = .ok (.bipush 21, 2) := by decide +kernel
theorem dX9_init_491 : decode cX9_init 491 = .ok (.bipush 32, 2) := by decide +kernel
theorem dX9_init_493 : decode cX9_init 493 = .ok (.iastore, 1) := by decide +kernel
theorem dX9_init_494 : decode cX9_init 494 = .ok (.dup, 1) := by decide +kernel
theorem dX9_init_495 : decode cX9_init 495 = .ok (.bipush 22, 2) := by decide +kernel
theorem dX9_init_497 : decode cX9_init 497 = .ok (.bipush 32, 2) := by decide +kernel
theorem dX9_init_499 : decode cX9_init 499 = .ok (.iastore, 1) := by decide +kernel
theorem dX9_init_500 : decode cX9_init 500 = .ok (.dup, 1) := by decide +kernel
theorem dX9_init_501 : decode cX9_init 501 = .ok (.bipush 23, 2) := by decide +kernel
theorem dX9_init_503 : decode cX9_init 503 = .ok (.bipush 32, 2) := by decide +kernel
theorem dX9_init_505 : decode cX9_init 505 = .ok (.iastore, 1) := by decide +kernel
theorem dX9_init_506 : decode cX9_init 506 = .ok (.dup, 1) := by decide +kernel
theorem dX9_init_507 : decode cX9_init 507 = .ok (.bipush 24, 2) := by decide +kernel
theorem dX9_init_509 : decode cX9_init 509 = .ok (.bipush 97, 2) := by decide +kernel
theorem dX9_init_511 : decode cX9_init 511 = .ok (.iastore, 1) := by decide +kernel
theorem dX9_init_512 : decode cX9_init 512 = .ok (.dup, 1) := by decide +kernel
theorem dX9_init_513 : decode cX9_init 513 = .ok (.bipush 25, 2) := by decide +kernel
theorem dX9_init_515 : decode cX9_init 515 = .ok (.bipush 32, 2) := by decide +kernel
theorem dX9_init_517 : decode cX9_init 517 = .ok (.iastore, 1) := by decide +kernel
theorem dX9_init_518 : decode cX9_init 518 = .ok (.dup, 1) := by decide +kernel
theorem dX9_init_519 : decode cX9_init 519 = .ok (.bipush 26, 2) := by decide +kernel
theorem dX9_init_521 : decode cX9_init 521 = .ok (.bipush 32, 2) := by decide +kernel
theorem dX9_init_523 : decode cX9_init 523 = .ok (.iastore, 1) := by decide +kernel
theorem dX9_init_524 : decode cX9_init 524 = .ok (.dup, 1) := by decide +kernel
theorem dX9_init_525 : decode cX9_init 525 = .ok (.bipush 27, 2) := by decide +kernel
theorem dX9_init_527 : decode cX9_init 527 = .ok (.bipush 32, 2) := by decide +kernel
theorem dX9_init_529 : decode cX9_init 529 = .ok (.iastore, 1) := by decide +kernel
theorem dX9_init_530 : decode cX9_init 530 = .ok (.dup, 1) := by decide +kernel
theorem dX9_init_531 : decode cX9_init 531 = .ok (.bipush 28, 2) := by decide +kernel
theorem dX9_init_533 : decode cX9_init 533 = .ok (.bipush 32, 2) := by decide +kernel
theorem dX9_init_535 : decode cX9_init 535 = .ok (.iastore, 1) := by decide +kernel
theorem dX9_init_536 : decode cX9_init 536 = .ok (.dup, 1) := by decide +kernel
theorem dX9_init_537 : decode cX9_init 537 = .ok (.bipush 29, 2) := by decide +kernel
theorem dX9_init_539 : decode cX9_init 539 = .ok (.bipush 32, 2) := by decide +kernel
theorem dX9_init_541 : decode cX9_init 541 = .ok (.iastore, 1) := by decide +kernel
theorem dX9_init_542 : decode cX9_init 542 = .ok (.dup, 1) := by decide +kernel
theorem dX9_init_543 : decode cX9_init 543 = .ok (.bipush 30, 2) := by decide +kernel
theorem dX9_init_545 : decode cX9_init 545 = .ok (.bipush 32, 2) := by decide +kernel
theorem dX9_init_547 : decode cX9_init 547 = .ok (.iastore, 1) := by decide +kernel
theorem dX9_init_548 : decode cX9_init 548 = .ok (.dup, 1) := by decide +kernel
theorem dX9_init_549 : decode cX9_init 549 = .ok (.bipush 31, 2) := by decide +kernel
theorem dX9_init_551 : decode cX9_init 551 = .ok (.bipush 32, 2) := by decide +kernel
theorem dX9_init_553 : decode cX9_init 553 = .ok (.iastore, 1) := by decide +kernel
theorem dX9_init_554 : decode cX9_init 554 = .ok (.dup, 1) := by decide +kernel
theorem dX9_init_555 : decode cX9_init 555 = .ok (.bipush 32, 2) := by decide +kernel
theorem dX9_init_557 : decode cX9_init 557 = .ok (.bipush 98, 2) := by decide +kernel
theorem dX9_init_559 : decode cX9_init 559 = .ok (.iastore, 1) := by decide +kernel
theorem dX9_init_560 : decode cX9_init 560 = .ok (.dup, 1) := by decide +kernel
theorem dX9_init_561 : decode cX9_init 561 = .ok (.bipush 33, 2) := by decide +kernel
theorem dX9_init_563 : decode cX9_init 563 = .ok (.bipush 32, 2) := by decide +kernel
theorem dX9_init_565 : decode cX9_init 565 = .ok (.iastore, 1) := by decide +kernel
theorem dX9_init_566 : decode cX9_init 566 = .ok (.dup, 1) := by decide +kernel
theorem dX9_init_567 : decode cX9_init 567 = .ok (.bipush 34, 2) := by decide +kernel
theorem dX9_init_569 : decode cX9_init 569 = .ok (.bipush 32, 2) := by decide +kernel
theorem dX9_init_571 : decode cX9_init 571 = .ok (.iastore, 1) := by decide +kernel
theorem dX9_init_572 : decode cX9_init 572 = .ok (.dup, 1) := by decide +kernel
theorem dX9_init_573 : decode cX9_init 573 = .ok (.bipush 35, 2) := by decide +kernel
theorem dX9_init_575 : decode cX9_init 575 = .ok (.bipush 32, 2) := by decide +kernel
theorem dX9_init_577 : decode cX9_init 577 = .ok (.iastore, 1) := by decide +kernel
theorem dX9_init_578 : decode cX9_init 578 = .ok (.dup, 1) := by decide +kernel
theorem dX9_init_579 : decode cX9_init 579 = .ok (.bipush 36, 2) := by decide +kernel
theorem dX9_init_581 : decode cX9_init 581 = .ok (.bipush 32, 2) := by decide +kernel
theorem dX9_init_583 : decode cX9_init 583 = .ok (.iastore, 1) := by decide +kernel
theorem dX9_init_584 : decode cX9_init 584 = .ok (.dup, 1) := by decide +kernel
theorem dX9_init_585 : decode cX9_init 585 = .ok (.bipush 37, 2) := by decide +kernel
theorem dX9_init_587 : decode cX9_init 587 = .ok (.bipush 32, 2) := by decide +kernel
theorem dX9_init_589 : decode cX9_init 589 = .ok (.iastore, 1) := by decide +kernel
theorem dX9_init_590 : decode cX9_init 590 = .ok (.dup, 1) := by decide +kernel
theorem dX9_init_591 : decode cX9_init 591 = .ok (.bipush 38, 2) := by decide +kernel
theorem dX9_init_593 : decode cX9_init 593 = .ok (.bipush 32, 2) := by decide +kernel
theorem dX9_init_595 : decode cX9_init 595 = .ok (.iastore, 1) := by decide +kernel
theorem dX9_init_596 : decode cX9_init 596 = .ok (.dup, 1) := by decide +kernel
theorem dX9_init_597 : decode cX9_init 597 = .ok (.bipush 39, 2) := by decide +kernel
theorem dX9_init_599 : decode cX9_init 599 = .ok (.bipush 32, 2) := by decide +kernel
theorem dX9_init_601 : decode cX9_init 601 = .ok (.iastore, 1) := by decide +kernel
theorem dX9_init_602 : decode cX9_init 602 = .ok (.dup, 1) := by decide +kernel
theorem dX9_init_603 : decode cX9_init 603 = .ok (.bipush 40, 2) := by decide +kernel
theorem dX9_init_605 : decode cX9_init 605 = .ok (.bipush 105, 2) := by decide +kernel
theorem dX9_init_607 : decode cX9_init 607 = .ok (.iastore, 1) := by decide +kernel
theorem dX9_init_608 : decode cX9_init 608 = .ok (.dup, 1) := by decide +kernel
theorem dX9_init_609 : decode cX9_init 609 = .ok (.bipush 41, 2) := by decide +kernel
theorem dX9_init_611 : decode cX9_init 611 = .ok (.bipush 116, 2) := by decide +kernel
theorem dX9_init_613 : decode cX9_init 613 = .ok (.iastore, 1) := by decide +kernel
theorem dX9_init_614 : decode cX9_init 614 = .ok (.dup, 1) := by decide +kernel
theorem dX9_init_615 : decode cX9_init 615 = .ok (.bipush 42, 2) := by decide +kernel
theorem dX9_init_617 : decode cX9_init 617 = .ok (.bipush 101, 2) := by decide +kernel
theorem dX9_init_619 : decode cX9_init 619 = .ok (.iastore, 1) := by decide +kernel
theorem dX9_init_620 : decode cX9_init 620 = .ok (.dup, 1) := by decide +kernel
theorem dX9_init_621 : decode cX9_init 621 = .ok (.bipush 43, 2) := by decide +kernel
theorem dX9_init_623 : decode cX9_init 623 = .ok (.bipush 109, 2) := by decide +kernel
theorem dX9_init_625 : decode cX9_init 625 = .ok (.iastore, 1) := by decide +kernel
theorem dX9_init_626 : decode cX9_init 626 = .ok (.dup, 1) := by decide +kernel
theorem dX9_init_627 : decode cX9_init 627 = .ok (.bipush 44, 2) := by decide +kernel
theorem dX9_init_629 : decode cX9_init 629 = .ok (.bipush 32, 2) := by decide +kernel
theorem dX9_init_631 : decode cX9_init 631 = .ok (.iastore, 1) := by decide +kernel
theorem dX9_init_632 : decode cX9_init 632 = .ok (.dup, 1) := by decide +kernel
theorem dX9_init_633 : decode cX9_init 633 = .ok (.bipush 45, 2) := by decide +kernel
theorem dX9_init_635 : decode cX9_init 635 = .ok (.bipush 32, 2) := by decide +kernel
theorem dX9_init_637 : decode cX9_init 637 = .ok (.iastore, 1) := by decide +kernel
theorem dX9_init_638 : decode cX9_init 638 = .ok (.dup, 1) := by decide +kernel
theorem dX9_init_639 : decode cX9_init 639 = .ok (.bipush 46, 2) := by decide +kernel
theorem dX9_init_641 : decode cX9_init 641 = .ok (.bipush 32, 2) := by decide +kernel
theorem dX9_init_643 : decode cX9_init 643 = .ok (.iastore, 1) := by decide +kernel
theorem dX9_init_644 : decode cX9_init 644 = .ok (.dup, 1) := by decide +kernel
theorem dX9_init_645 : decode cX9_init 645 = .ok (.bipush 47, 2) := by decide +kernel
theorem dX9_init_647 : decode cX9_init 647 = .ok (.bipush 32, 2) := by decide +kernel
theorem dX9_init_649 : decode cX9_init 649 = .ok (.iastore, 1) := by decide +kernel
theorem dX9_init_650 : decode cX9_init 650 = .ok (.dup, 1) := by decide +kernel
theorem dX9_init_651 : decode cX9_init 651 = .ok (.bipush 48, 2) := by decide +kernel
theorem dX9_init_653 : decode cX9_init 653 = .ok (.bipush 112, 2) := by decide +kernel
theorem dX9_init_655 : decode cX9_init 655 = .ok (.iastore, 1) := by decide +kernel
theorem dX9_init_656 : decode cX9_init 656 = .ok (.dup, 1) := by decide +kernel
theorem dX9_init_657 : decode cX9_init 657 = .ok (.bipush 49, 2) := by decide +kernel
theorem dX9_init_659 : decode cX9_init 659 = .ok (.bipush 108, 2) := by decide +kernel
theorem dX9_init_661 : decode cX9_init 661 = .ok (.iastore, 1) := by decide +kernel
theorem dX9_init_662 : decode cX9_init 662 = .ok (.dup, 1) := by decide +kernel
theorem dX9_init_663 : decode cX9_init 663 = .ok (.bipush 50, 2) := by decide +kernel
theorem dX9_init_665 : decode cX9_init 665 = .ok (.bipush 97, 2) := by decide +kernel
theorem dX9_init_667 : decode cX9_init 667 = .ok (.iastore, 1) := by decide +kernel
theorem dX9_init_668 : decode cX9_init 668 = .ok (.dup, 1) := by decide +kernel
theorem dX9_init_669 : decode cX9_init 669 = .ok (.bipush 51, 2) := by decide +kernel
theorem dX9_init_671 : decode cX9_init 671 = .ok (.bipush 99, 2) := by decide +kernel
theorem dX9_init_673 : decode cX9_init 673 = .ok (.iastore, 1) := by decide +kernel
theorem dX9_init_674 : decode cX9_init 674 = .ok (.dup, 1) := by decide +kernel
theorem dX9_init_675 : decode cX9_init 675 = .ok (.bipush 52, 2) := by decide +kernel
theorem dX9_init_677 : decode cX9_init 677 = .ok (.bipush 101, 2) := by decide +kernel
theorem dX9_init_679 : decode cX9_init 679 = .ok (.iastore, 1) := by decide +kernel
theorem dX9_init_680 : decode cX9_init 680 = .ok (.dup, 1) := by decide +kernel
theorem dX9_init_681 : decode cX9_init 681 = .ok (.bipush 53, 2) := by decide +kernel
theorem dX9_init_683 : decode cX9_init 683 = .ok (.bipush 32, 2) := by decide +kernel
theorem dX9_init_685 : decode cX9_init 685 = .ok (.iastore, 1) := by decide +kernel
theorem dX9_init_686 : decode cX9_init 686 = .ok (.dup, 1) := by decide +kernel
theorem dX9_init_687 : decode cX9_init 687 = .ok (.bipush 54, 2) := by decide +kernel
theorem dX9_init_689 : decode cX9_init 689 = .ok (.bipush 32, 2) := by decide +kernel
theorem dX9_init_691 : decode cX9_init 691 = .ok (.iastore, 1) := by decide +kernel
theorem dX9_init_692 : decode cX9_init 692 = .ok (.dup, 1) := by decide +kernel
theorem dX9_init_693 : decode cX9_init 693 = .ok (.bipush 55, 2) := by decide +kernel
theorem dX9_init_695 : decode cX9_init 695 = .ok (.bipush 32, 2) := by decide +kernel
theorem dX9_init_697 : decode cX9_init 697 = .ok (.iastore, 1) := by decide +kernel
theorem dX9_init_698 : decode cX9_init 698 = .ok (.dup, 1) := by decide +kernel
theorem dX9_init_699 : decode cX9_init 699 = .ok (.bipush 56, 2) := by decide +kernel
theorem dX9_init_701 : decode cX9_init 701 = .ok (.bipush 110, 2) := by decide +kernel
theorem dX9_init_703 : decode cX9_init 703 = .ok (.iastore, 1) := by decide +kernel
theorem dX9_init_704 : decode cX9_init 704 = .ok (.dup, 1) := by decide +kernel
theorem dX9_init_705 : decode cX9_init 705 = .ok (.bipush 57, 2) := by decide +kernel
theorem dX9_init_707 : decode cX9_init 707 = .ok (.bipush 32, 2) := by decide +kernel
theorem dX9_init_709 : decode cX9_init 709 = .ok (.iastore, 1) := by decide +kernel
theorem dX9_init_710 : decode cX9_init 710 = .ok (.dup, 1) := by decide +kernel
theorem dX9_init_711 : decode cX9_init 711 = .ok (.bipush 58, 2) := by decide +kernel
theorem dX9_init_713 : decode cX9_init 713 = .ok (.bipush 32, 2) := by decide +kernel
theorem dX9_init_715 : decode cX9_init 715 = .ok (.iastore, 1) := by decide +kernel
theorem dX9_init_716 : decode cX9_init 716 = .ok (.dup, 1) := by decide +kernel
theorem dX9_init_717 : decode cX9_init 717 = .ok (.bipush 59, 2) := by decide +kernel
theorem dX9_init_719 : decode cX9_init 719 = .ok (.bipush 32, 2) := by decide +kernel
theorem dX9_init_721 : decode cX9_init 721 = .ok (.iastore, 1) := by decide +kernel
theorem dX9_init_722 : decode cX9_init 722 = .ok (.dup, 1) := by decide +kernel
theorem dX9_init_723 : decode cX9_init 723 = .ok (.bipush 60, 2) := by decide +kernel
theorem dX9_init_725 : decode cX9_init 725 = .ok (.bipush 32, 2) := by decide +kernel
theorem dX9_init_727 : decode cX9_init 727 = .ok (.iastore, 1) := by decide +kernel
theorem dX9_init_728 : decode cX9_init 728 = .ok (.dup, 1) := by decide +kernel
theorem dX9_init_729 : decode cX9_init 729 = .ok (.bipush 61, 2) := by decide +kernel
theorem dX9_init_731 : decode cX9_init 731 = .ok (.bipush 32, 2) := by decide +kernel
theorem dX9_init_733 : decode cX9_init 733 = .ok (.iastore, 1) := by decide +kernel
theorem dX9_init_734 : decode cX9_init 734 = .ok (.dup, 1) := by decide +kernel
theorem dX9_init_735 : decode cX9_init 735 = .ok (.bipush 62, 2) := by decide +kernel
theorem dX9_init_737 : decode cX9_init 737 = .ok (.bipush 32, 2) := by decide +kernel
theorem dX9_init_739 : decode cX9_init 739 = .ok (.iastore, 1) := by decide +kernel
theorem dX9_init_740 : decode cX9_init 740 = .ok (.dup, 1) := by decide +kernel
theorem dX9_init_741 : decode cX9_init 741 = .ok (.bipush 63, 2) := by decide +kernel
theorem dX9_init_743 : decode cX9_init 743 = .ok (.bipush 32, 2) := by decide +kernel
theorem dX9_init_745 : decode cX9_init 745 = .ok (.iastore, 1) := by decide +kernel
theorem dX9_init_746 : decode cX9_init 746 = .ok (.dup, 1) := by decide +kernel
theorem dX9_init_747 : decode cX9_init 747 = .ok (.bipush 64, 2) := by decide +kernel
theorem dX9_init_749 : decode cX9_init 749 = .ok (.bipush 109, 2) := by decide +kernel
theorem dX9_init_751 : decode cX9_init 751 = .ok (.iastore, 1) := by decide +kernel
theorem dX9_init_752 : decode cX9_init 752 = .ok (.dup, 1) := by decide +kernel
theorem dX9_init_753 : decode cX9_init 753 = .ok (.bipush 65, 2) := by decide +kernel
theorem dX9_init_755 : decode cX9_init 755 = .ok (.bipush 111, 2) := by decide +kernel
theorem dX9_init_757 : decode cX9_init 757 = .ok (.iastore, 1) := by decide +kernel
theorem dX9_init_758 : decode cX9_init 758 = .ok (.dup, 1) := by decide +kernel
theorem dX9_init_759 : decode cX9_init 759 = .ok (.bipush 66, 2) := by decide +kernel
theorem dX9_init_761 : decode cX9_init 761 = .ok (.bipush 114, 2) := by decide +kernel
theorem dX9_init_763 : decode cX9_init 763 = .ok (.iastore, 1) := by decide +kernel
theorem dX9_init_764 : decode cX9_init 764 = .ok (.dup, 1) := by decide +kernel
theorem dX9_init_765 : decode cX9_init 765 = .ok (.bipush 67, 2) := by decide +kernel
theorem dX9_init_767 : decode cX9_init 767 = .ok (.bipush 101, 2) := by decide +kernel
theorem dX9_init_769 : decode cX9_init 769 = .ok (.iastore, 1) := by decide +kernel
theorem dX9_init_770 : decode cX9_init 770 = .ok (.dup, 1) := by decide +kernel
theorem dX9_init_771 : decode cX9_init 771 = .ok (.bipush 68, 2) := by decide +kernel
theorem dX9_init_773 : decode cX9_init 773 = .ok (.bipush 32, 2) := by decide +kernel
theorem dX9_init_775 : decode cX9_init 775 = .ok (.iastore, 1) := by decide +kernel
theorem dX9_init_776 : decode cX9_init 776 = .ok (.dup, 1) := by decide +kernel
theorem dX9_init_777 : decode cX9_init 777 = .ok (.bipush 69, 2) := by decide +kernel
theorem dX9_init_779 : decode cX9_init 779 = .ok (.bipush 32, 2) := by decide +kernel
theorem dX9_init_781 : decode cX9_init 781 = .ok (.iastore, 1) := by decide +kernel
theorem dX9_init_782 : decode cX9_init 782 = .ok (.dup, 1) := by decide +kernel
theorem dX9_init_783 : decode cX9_init 783 = .ok (.bipush 70, 2) := by decide +kernel
theorem dX9_init_785 : decode cX9_init 785 = .ok (.bipush 32, 2) := by decide +kernel
theorem dX9_init_787 : decode cX9_init 787 = .ok (.iastore, 1) := by decide +kernel
theorem dX9_init_788 : decode cX9_init 788 = .ok (.dup, 1) := by decide +kernel
theorem dX9_init_789 : decode cX9_init 789 = .ok (.bipush 71, 2) := by decide +kernel
theorem dX9_init_791 : decode cX9_init 791 = .ok (.bipush 32, 2) := by decide +kernel
theorem dX9_init_793 : decode cX9_init 793 = .ok (.iastore, 1) := by decide +kernel
theorem dX9_init_794 : decode cX9_init 794 = .ok (.dup, 1) := by decide +kernel
theorem dX9_init_795 : decode cX9_init 795 = .ok (.bipush 72, 2) := by decide +kernel
theorem dX9_init_797 : decode cX9_init 797 = .ok (.bipush 111, 2) := by decide +kernel
theorem dX9_init_799 : decode cX9_init 799 = .ok (.iastore, 1) := by decide +kernel
theorem dX9_init_800 : decode cX9_init 800 = .ok (.dup, 1) := by decide +kernel
theorem dX9_init_801 : decode cX9_init 801 = .ok (.bipush 73, 2) := by decide +kernel
theorem dX9_init_803 : decode cX9_init 803 = .ok (.bipush 114, 2) := by decide +kernel
theorem dX9_init_805 : decode cX9_init 805 = .ok (.iastore, 1) := by decide +kernel
theorem dX9_init_806 : decode cX9_init 806 = .ok (.dup, 1) := by decide +kernel
theorem dX9_init_807 : decode cX9_init 807 = .ok (.bipush 74, 2) := by decide +kernel
theorem dX9_init_809 : decode cX9_init 809 = .ok (.bipush 32, 2) := by decide +kernel
theorem dX9_init_811 : decode cX9_init 811 = .ok (.iastore, 1) := by decide +kernel
theorem dX9_init_812 : decode cX9_init 812 = .ok (.dup, 1) := by decide +kernel
theorem dX9_init_813 : decode cX9_init 813 = .ok (.bipush 75, 2) := by decide +kernel
theorem dX9_init_815 : decode cX9_init 815 = .ok (.bipush 32, 2) := by decide +kernel
theorem dX9_init_817 : decode cX9_init 817 = .ok (.iastore, 1) := by decide +kernel
theorem dX9_init_818 : decode cX9_init 818 = .ok (.dup, 1) := by decide +kernel
theorem dX9_init_819 : decode cX9_init 819 = .ok (.bipush 76, 2) := by decide +kernel
theorem dX9_init_821 : decode cX9_init 821 = .ok (.bipush 32, 2) := by decide +kernel
theorem dX9_init_823 : decode cX9_init 823 = .ok (.iastore, 1) := by decide +kernel
theorem dX9_init_824 : decode cX9_init 824 = .ok (.dup, 1) := by decide +kernel
theorem dX9_init_825 : decode cX9_init 825 = .ok (.bipush 77, 2) := by decide +kernel
theorem dX9_init_827 : decode cX9_init 827 = .ok (.bipush 32, 2) := by decide +kernel
theorem dX9_init_829 : decode cX9_init 829 = .ok (.iastore, 1) := by decide +kernel
theorem dX9_init_830 : decode cX9_init 830 = .ok (.dup, 1) := by decide +kernel
theorem dX9_init_831 : decode cX9_init 831 = .ok (.bipush 78, 2) := by decide +kernel
theorem dX9_init_833 : decode cX9_init 833 = .ok (.bipush 32, 2) := by decide +kernel
theorem dX9_init_835 : decode cX9_init 835 = .ok (.iastore, 1) := by decide +kernel
theorem dX9_init_836 : decode cX9_init 836 = .ok (.dup, 1) := by decide +kernel
theorem dX9_init_837 : decode cX9_init 837 = .ok (.bipush 79, 2) := by decide +kernel
theorem dX9_init_839 : decode cX9_init 839 = .ok (.bipush 32, 2) := by decide +kernel
theorem dX9_init_841 : decode cX9_init 841 = .ok (.iastore, 1) := by decide +kernel
theorem dX9_init_842 : decode cX9_init 842 = .ok (.dup, 1) := by decide +kernel
theorem dX9_init_843 : decode cX9_init 843 = .ok (.bipush 80, 2) := by decide +kernel
theorem dX9_init_845 : decode cX9_init 845 = .ok (.bipush 97, 2) := by decide +kernel
theorem dX9_init_847 : decode cX9_init 847 = .ok (.iastore, 1) := by decide +kernel
theorem dX9_init_848 : decode cX9_init 848 = .ok (.dup, 1) := by decide +kernel
theorem dX9_init_849 : decode cX9_init 849 = .ok (.bipush 81, 2) := by decide +kernel
theorem dX9_init_851 : decode cX9_init 851 = .ok (.bipush 110, 2) := by decide +kernel
theorem dX9_init_853 : decode cX9_init 853 = .ok (.iastore, 1) := by decide +kernel
theorem dX9_init_854 : decode cX9_init 854 = .ok (.dup, 1) := by decide +kernel
theorem dX9_init_855 : decode cX9_init 855 = .ok (.bipush 82, 2) := by decide +kernel
theorem dX9_init_857 : decode cX9_init 857 = .ok (.bipush 100, 2) := by decide +kernel
theorem dX9_init_859 : decode cX9_init 859 = .ok (.iastore, 1) := by decide +kernel
theorem dX9_init_860 : decode cX9_init 860 = .ok (.dup, 1) := by decide +kernel
theorem dX9_init_861 : decode cX9_init 861 = .ok (.bipush 83, 2) := by decide +kernel
theorem dX9_init_863 : decode cX9_init 863 = .ok (.bipush 32, 2) := by decide +kernel
theorem dX9_init_865 : decode cX9_init 865 = .ok (.iastore, 1) := by decide +kernel
theorem dX9_init_866 : decode cX9_init 866 = .ok (.dup, 1) := by decide +kernel
theorem dX9_init_867 : decode cX9_init 867 = .ok (.bipush 84, 2) := by decide +kernel
theorem dX9_init_869 : decode cX9_init 869 = .ok (.bipush 32, 2) := by decide +kernel
theorem dX9_init_871 : decode cX9_init 871 = .ok (.iastore, 1) := by decide +kernel
theorem dX9_init_872 : decode cX9_init 872 = .ok (.dup, 1) := by decide +kernel
theorem dX9_init_873 : decode cX9_init 873 = .ok (.bipush 85, 2) := by decide +kernel
theorem dX9_init_875 : decode cX9_init 875 = .ok (.bipush 32, 2) := by decide +kernel
theorem dX9_init_877 : decode cX9_init 877 = .ok (.iastore, 1) := by decide +kernel
theorem dX9_init_878 : decode cX9_init 878 = .ok (.dup, 1) := by decide +kernel
theorem dX9_init_879 : decode cX9_init 879 = .ok (.bipush 86, 2) := by decide +kernel
theorem dX9_init_881 : decode cX9_init 881 = .ok (.bipush 32, 2) := by decide +kernel
theorem dX9_init_883 : decode cX9_init 883 = .ok (.iastore, 1) := by decide +kernel
theorem dX9_init_884 : decode cX9_init 884 = .ok (.dup, 1) := by decide +kernel
theorem dX9_init_885 : decode cX9_init 885 = .ok (.bipush 87, 2) := by decide +kernel
theorem dX9_init_887 : decode cX9_init 887 = .ok (.bipush 32, 2) := by decide +kernel
theorem dX9_init_889 : decode cX9_init 889 = .ok (.iastore, 1) := by decide +kernel
theorem dX9_init_890 : decode cX9_init 890 = .ok (.dup, 1) := by decide +kernel
theorem dX9_init_891 : decode cX9_init 891 = .ok (.bipush 88, 2) := by decide +kernel
theorem dX9_init_893 : decode cX9_init 893 = .ok (.bipush 110, 2) := by decide +kernel
theorem dX9_init_895 : decode cX9_init 895 = .ok (.iastore, 1) := by decide +kernel
theorem dX9_init_896 : decode cX9_init 896 = .ok (.dup, 1) := by decide +kernel
theorem dX9_init_897 : decode cX9_init 897 = .ok (.bipush 89, 2) := by decide +kernel
theorem dX9_init_899 : decode cX9_init 899 = .ok (.bipush 111, 2) := by decide +kernel
theorem dX9_init_901 : decode cX9_init 901 = .ok (.iastore, 1) := by decide +kernel
theorem dX9_init_902 : decode cX9_init 902 = .ok (.dup, 1) := by decide +kernel
theorem dX9_init_903 : decode cX9_init 903 = .ok (.bipush 90, 2) := by decide +kernel
theorem dX9_init_905 : decode cX9_init 905 = .ok (.bipush 116, 2) := by decide +kernel
theorem dX9_init_907 : decode cX9_init 907 = .ok (.iastore, 1) := by decide +kernel
theorem dX9_init_908 : decode cX9_init 908 = .ok (.dup, 1) := by decide +kernel
theorem dX9_init_909 : decode cX9_init 909 = .ok (.bipush 91, 2) := by decide +kernel
theorem dX9_init_911 : decode cX9_init 911 = .ok (.bipush 32, 2) := by decide +kernel
theorem dX9_init_913 : decode cX9_init 913 = .ok (.iastore, 1) := by decide +kernel
theorem dX9_init_914 : decode cX9_init 914 = .ok (.dup, 1) := by decide +kernel
theorem dX9_init_915 : decode cX9_init 915 = .ok (.bipush 92, 2) := by decide +kernel
theorem dX9_init_917 : decode cX9_init 917 = .ok (.bipush 32, 2) := by decide +kernel
theorem dX9_init_919 : decode cX9_init 919 = .ok (.iastore, 1) := by decide +kernel
theorem dX9_init_920 : decode cX9_init 920 = .ok (.dup, 1) := by decide +kernel
theorem dX9_init_921 : decode cX9_init 921 = .ok (.bipush 93, 2) := by decide +kernel
theorem dX9_init_923 : decode cX9_init 923 = .ok (.bipush 32, 2) := by decide +kernel
theorem dX9_init_925 : decode cX9_init 925 = .ok (.iastore, 1) := by decide +kernel
theorem dX9_init_926 : decode cX9_init 926 = .ok (.dup, 1) := by decide +kernel
theorem dX9_init_927 : decode cX9_init 927 = .ok (.bipush 94, 2) := by decide +kernel
theorem dX9_init_929 : decode cX9_init 929 = .ok (.bipush 32, 2) := by decide +kernel
theorem dX9_init_931 : decode cX9_init 931 = .ok (.iastore, 1) := by decide +kernel
theorem dX9_init_932 : decode cX9_init 932 = .ok (.dup, 1) := by decide +kernel
theorem dX9_init_933 : decode cX9_init 933 = .ok (.bipush 95, 2) := by decide +kernel
theorem dX9_init_935 : decode cX9_init 935 = .ok (.bipush 32, 2) := by decide +kernel
theorem dX9_init_937 : decode cX9_init 937 = .ok (.iastore, 1) := by decide +kernel
theorem dX9_init_938 : decode cX9_init 938 = .ok (.putfield 53, 3) := by decide +kernel
theorem dX9_init_941 : decode cX9_init 941 = .ok (.aload_n 0, 1) := by decide +kernel
theorem dX9_init_942 : decode cX9_init 942 = .ok (.sipush 200, 3) := by decide +kernel
theorem dX9_init_945 : decode cX9_init 945 = .ok (.newarray .int, 2) := by decide +kernel
theorem dX9_init_947 : decode cX9_init 947 = .ok (.putfield 56, 3) := by decide +kernel
theorem dX9_init_950 : decode cX9_init 950 = .ok (.aload_n 0, 1) := by decide +kernel
theorem dX9_init_951 : decode cX9_init 951 = .ok (.sipush 200, 3) := by decide +kernel
theorem dX9_init_954 : decode cX9_init 954 = .ok (.newarray .int, 2) := by decide +kernel
theorem dX9_init_956 : decode cX9_init 956 = .ok (.putfield 59, 3) := by decide +kernel
theorem dX9_init_959 : decode cX9_init 959 = .ok (.aload_n 0, 1) := by decide +kernel
theorem dX9_init_960 : decode cX9_init 960 = .ok (.bipush 6, 2) := by decide +kernel
theorem dX9_init_962 : decode cX9_init 962 = .ok (.newarray .int, 2) := by decide +kernel
theorem dX9_init_964 : decode cX9_init 964 = .ok (.putfield 62, 3) := by decide +kernel
theorem dX9_init_967 : decode cX9_init 967 = .ok (.aload_n 0, 1) := by decide +kernel
theorem dX9_init_968 : decode cX9_init 968 = .ok (.bipush 60, 2) := by decide +kernel
theorem dX9_init_970 : decode cX9_init 970 = .ok (.newarray .int, 2) := by decide +kernel
theorem dX9_init_972 : decode cX9_init 972 = .ok (.putfield 65, 3) := by decide +kernel
theorem dX9_init_975 : decode cX9_init 975 = .ok (.aload_n 0, 1) := by decide +kernel
theorem dX9_init_976 : decode cX9_init 976 = .ok (.sipush 260, 3) := by decide +kernel
theorem dX9_init_979 : decode cX9_init 979 = .ok (.newarray .int, 2) := by decide +kernel
theorem dX9_init_981 : decode cX9_init 981 = .ok (.putfield 68, 3) := by decide +kernel
theorem dX9_init_984 : decode cX9_init 984 = .ok (.iconst 0, 1) := by decide +kernel
theorem dX9_init_985 : decode cX9_init 985 = .ok (.istore_n 1, 1) := by decide +kernel
theorem dX9_init_986 : decode cX9_init 986 = .ok (.iload_n 1, 1) := by decide +kernel
theorem dX9_init_987 : decode cX9_init 987 = .ok (.bipush 40, 2) := by decide +kernel
theorem dX9_init_989 : decode cX9_init 989 = .ok (.if_icmp .ge 21, 3) := by decide +kernel
theorem dX9_init_992 : decode cX9_init 992 = .ok (.aload_n 0, 1) := by decide +kernel
theorem dX9_init_993 : decode cX9_init 993 = .ok (.getfield 26, 3) := by decide +kernel
theorem dX9_init_996 : decode cX9_init 996 = .ok (.iload_n 1, 1) := by decide +kernel
theorem dX9_init_997 : decode cX9_init 997 = .ok (.aload_n 0, 1) := by decide +kernel
theorem dX9_init_998 : decode cX9_init 998 = .ok (.getfield 50, 3) := by decide +kernel
theorem dX9_init_1001 : decode cX9_init 1001 = .ok (.iload_n 1, 1) := by decide +kernel
theorem dX9_init_1002 : decode cX9_init 1002 = .ok (.iaload, 1) := by decide +kernel
theorem dX9_init_1003 : decode cX9_init 1003 = .ok (.iastore, 1) := by decide +kernel
theorem dX9_init_1004 : decode cX9_init 1004 = .ok (.iinc 1 1, 3) := by decide +kernel
theorem dX9_init_1007 : decode cX9_init 1007 = .ok (.goto (-21), 3) := by decide +kernel
theorem dX9_init_1010 : decode cX9_init 1010 = .ok (.aload_n 0, 1) := by decide +kernel
theorem dX9_init_1011 : decode cX9_init 1011 = .ok (.bipush 40, 2) := by decide +kernel
theorem dX9_init_1013 : decode cX9_init 1013 = .ok (.putfield 71, 3) := by decide +kernel
theorem dX9_init_1016 : decode cX9_init 1016 = .ok (.aload_n 0, 1) := by decide +kernel
theorem dX9_init_1017 : decode cX9_init 1017 = .ok (.invokevirtual 74, 3) := by decide +kernel
theorem dX9_init_1020 : decode cX9_init 1020 = .ok (.pop, 1) := by decide +kernel
theorem dX9_init_1021 : decode cX9_init 1021 = .ok (.return_, 1) := by decide +kernel
theorem dX9_in_0 : decode cX9_in 0 = .ok (.iload_n 0, 1) := by decide +kernel
theorem dX9_in_1 : decode cX9_in 1 = .ok (.iload_n 1, 1) := by decide +kernel
theorem dX9_in_2 : decode cX9_in 2 = .ok (.if_icmp .lt 12, 3) := by decide +kernel
theorem dX9_in_5 : decode cX9_in 5 = .ok (.iload_n 0, 1) := by decide +kernel
theorem dX9_in_6 : decode cX9_in 6 = .ok (.iload_n 2, 1) := by decide +kernel
theorem dX9_in_7 : decode cX9_in 7 = .ok (.if_icmp .gt 7, 3) := by decide +kernel
theorem dX9_in_10 : decode cX9_in 10 = .ok (.iconst 1, 1) := by decide +kernel
theorem dX9_in_11 : decode cX9_in 11 = .ok (.goto 4, 3) := by decide +kernel
theorem dX9_in_14 : decode cX9_in 14 = .ok (.iconst 0, 1) := by decide +kernel
theorem dX9_in_15 : decode cX9_in 15 = .ok (.ireturn, 1) := by decide +kernel
theorem dX9_within_0 : decode cX9_within 0 = .ok (.iload_n 0, 1) := by decide +kernel
theorem dX9_within_1 : decode cX9_within 1 = .ok (.iload_n 1, 1) := by decide +kernel
theorem dX9_within_2 : decode cX9_within 2 = .ok (.if_icmp .ge 7, 3) := by decide +kernel
theorem dX9_within_5 : decode cX9_within 5 = .ok (.iload_n 1, 1) := by decide +kernel
theorem dX9_within_6 : decode cX9_within 6 = .ok (.goto 13, 3) := by decide +kernel
theorem dX9_within_9 : decode cX9_within 9 = .ok (.iload_n 0, 1) := by decide +kernel
theorem dX9_within_10 : decode cX9_within 10 = .ok (.iload_n 2, 1) := by decide +kernel
theorem dX9_within_11 : decode cX9_within 11 = .ok (.if_icmp .le 7, 3) := by decide +kernel
theorem dX9_within_14 : decode cX9_within 14 = .ok (.iload_n 2, 1) := by decide +kernel
theorem dX9_within_15 : decode cX9_within 15 = .ok (.goto 4, 3) := by decide +kernel
theorem dX9_within_18 : decode cX9_within 18 = .ok (.iload_n 0, 1) := by decide +kernel
theorem dX9_within_19 : decode cX9_within 19 = .ok (.ireturn, 1) := by decide +kernel
set_option maxRecDepth 20000 in
theorem ggX9_isCard_X9_in : GoodIn wsX9_isCard wsX9_in := goodIn_r _ [5] rfl (by decide +kernel)
set_option maxRecDepth 20000 in
theorem gX9_isCard_X9_in : GoodIn wsX9_isCard (va_wsS RX9 78 yX9_in wsX9_in) := goodIn_app (goodIn_of _ (by decide +kernel)) ggX9_isCard_X9_in
theorem dX9_isCard_0 : decode cX9_isCard 0 = .ok (.iload_n 1, 1) := by decide +kernel
theorem dX9_isCard_1 : decode cX9_isCard 1 = .ok (.iconst 1, 1) := by decide +kernel
theorem dX9_isCard_2 : decode cX9_isCard 2 = .ok (.aload_n 0, 1) := by decide +kernel
theorem dX9_isCard_3 : decode cX9_isCard 3 = .ok (.getfield 7, 3) := by decide +kernel
theorem dX9_isCard_6 : decode cX9_isCard 6 = .ok (.invokestatic 78, 3) := by decide +kernel
theorem dX9_isCard_9 : decode cX9_isCard 9 = .ok (.ireturn, 1) := by decide +kernel
set_option maxRecDepth 20000 in
theorem ggX9_isHead_X9_in : GoodIn wsX9_isHead wsX9_in := goodIn_r _ [5] rfl (by decide +kernel)
set_option maxRecDepth 20000 in
theorem gX9_isHead_X9_in : GoodIn wsX9_isHead (va_wsS RX9 78 yX9_in wsX9_in) := goodIn_app (goodIn_of _ (by decide +kernel)) ggX9_isHead_X9_in
theorem dX9_isHead_0 : decode cX9_isHead 0 = .ok (.iload_n 1, 1) := by decide +kernel
theorem dX9_isHead_1 : decode cX9_isHead 1 = .ok (.iconst 0, 1) := by decide +kernel
theorem dX9_isHead_2 : decode cX9_isHead 2 = .ok (.aload_n 0, 1) := by decide +kernel
theorem dX9_isHead_3 : decode cX9_isHead 3 = .ok (.getfield 82, 3) := by decide +kernel
theorem dX9_isHead_6 : decode cX9_isHead 6 = .ok (.iconst 1, 1) := by decide +kernel
theorem dX9_isHead_7 : decode cX9_isHead 7 = .ok (.isub, 1) := by decide +kernel
theorem dX9_isHead_8 : decode cX9_isHead 8 = .ok (.invokestatic 78, 3) := by decide +kernel
theorem dX9_isHead_11 : decode cX9_isHead 11 = .ok (.ireturn, 1) := by decide +kernel
theorem dX9_count_0 : decode cX9_count 0 = .ok (.iload_n 1, 1) := by decide +kernel
theorem dX9_count_1 : decode cX9_count 1 = .ok (.tableswitch 69 0 5 #[39, 44, 49, 54, 59, 64], 39) := by decide +kernel
theorem dX9_count_40 : decode cX9_count 40 = .ok (.aload_n 0, 1) := by decide +kernel
theorem dX9_count_41 : decode cX9_count 41 = .ok (.getfield 82, 3) := by decide +kernel
theorem dX9_count_44 : decode cX9_count 44 = .ok (.ireturn, 1) := by decide +kernel
theorem dX9_count_45 : decode cX9_count 45 = .ok (.aload_n 0, 1) := by decide +kernel
theorem dX9_count_46 : decode cX9_count 46 = .ok (.getfield 7, 3) := by decide +kernel
theorem dX9_count_49 : decode cX9_count 49 = .ok (.ireturn, 1) := by decide +kernel
theorem dX9_count_50 : decode cX9_count 50 = .ok (.aload_n 0, 1) := by decide +kernel
theorem dX9_count_51 : decode cX9_count 51 = .ok (.getfield 85, 3) := by decide +kernel
theorem dX9_count_54 : decode cX9_count 54 = .ok (.ireturn, 1) := by decide +kernel
theorem dX9_count_55 : decode cX9_count 55 = .ok (.aload_n 0, 1) := by decide +kernel
theorem dX9_count_56 : decode cX9_count 56 = .ok (.getfield 88, 3) := by decide +kernel
theorem dX9_count_59 : decode cX9_count 59 = .ok (.ireturn, 1) := by decide +kernel
theorem dX9_count_60 : decode cX9_count 60 = .ok (.aload_n 0, 1) := by decide +kernel
theorem dX9_count_61 : decode cX9_count 61 = .ok (.getfield 91, 3) := by decide +kernel
theorem dX9_count_64 : decode cX9_count 64 = .ok (.ireturn, 1) := by decide +kernel
theorem dX9_count_65 : decode cX9_count 65 = .ok (.aload_n 0, 1) := by decide +kernel
theorem dX9_count_66 : decode cX9_count 66 = .ok (.getfield 71, 3) := by decide +kernel
theorem dX9_count_69 : decode cX9_count 69 = .ok (.ireturn, 1) := by decide +kernel
theorem dX9_count_70 : decode cX9_count 70 = .ok (.bipush (-2), 2) := by decide +kernel
theorem dX9_count_72 : decode cX9_count 72 = .ok (.ireturn, 1) := by decide +kernel
set_option maxRecDepth 20000 in
theorem ggX9_deal_X9_in : GoodIn wsX9_deal wsX9_in := goodIn_r _ [7] rfl (by decide +kernel)
set_option maxRecDepth 20000 in
theorem gX9_deal_X9_in : GoodIn wsX9_deal (va_wsS RX9 78 yX9_in wsX9_in) := goodIn_app (goodIn_of _ (by decide +kernel)) ggX9_deal_X9_in
theorem dX9_deal_0 : decode cX9_deal 0 = .ok (.iload_n 1, 1) := by decide +kernel
theorem dX9_deal_1 : decode cX9_deal 1 = .ok (.iconst 1, 1) := by decide +kernel
theorem dX9_deal_2 : decode cX9_deal 2 = .ok (.bipush 52, 2) := by decide +kernel
theorem dX9_deal_4 : decode cX9_deal 4 = .ok (.invokestatic 78, 3) := by decide +kernel
theorem dX9_deal_7 : decode cX9_deal 7 = .ok (.ifCond .ne 6, 3) := by decide +kernel
theorem dX9_deal_10 : decode cX9_deal 10 = .ok (.bipush (-2), 2) := by decide +kernel
theorem dX9_deal_12 : decode cX9_deal 12 = .ok (.ireturn, 1) := by decide +kernel
theorem dX9_deal_13 : decode cX9_deal 13 = .ok (.aload_n 0, 1) := by decide +kernel
theorem dX9_deal_14 : decode cX9_deal 14 = .ok (.getfield 7, 3) := by decide +kernel
theorem dX9_deal_17 : decode cX9_deal 17 = .ok (.istore_n 2, 1) := by decide +kernel
theorem dX9_deal_18 : decode cX9_deal 18 = .ok (.iconst 0, 1) := by decide +kernel
theorem dX9_deal_19 : decode cX9_deal 19 = .ok (.istore_n 3, 1) := by decide +kernel
theorem dX9_deal_20 : decode cX9_deal 20 = .ok (.iconst 0, 1) := by decide +kernel
theorem dX9_deal_21 : decode cX9_deal 21 = .ok (.istore 4, 2) := by decide +kernel
theorem dX9_deal_23 : decode cX9_deal 23 = .ok (.iload 4, 2) := by decide +kernel
theorem dX9_deal_25 : decode cX9_deal 25 = .ok (.aload_n 0, 1) := by decide +kernel
theorem dX9_deal_26 : decode cX9_deal 26 = .ok (.getfield 85, 3) := by decide +kernel
theorem dX9_deal_29 : decode cX9_deal 29 = .ok (.if_icmp .ge 36, 3) := by decide +kernel
theorem dX9_deal_32 : decode cX9_deal 32 = .ok (.aload_n 0, 1) := by decide +kernel
theorem dX9_deal_33 : decode cX9_deal 33 = .ok (.getfield 13, 3) := by decide +kernel
theorem dX9_deal_36 : decode cX9_deal 36 = .ok (.iload 4, 2) := by decide +kernel
theorem dX9_deal_38 : decode cX9_deal 38 = .ok (.iaload, 1) := by decide +kernel
theorem dX9_deal_39 : decode cX9_deal 39 = .ok (.iload_n 1, 1) := by decide +kernel
theorem dX9_deal_40 : decode cX9_deal 40 = .ok (.if_icmp .gt 19, 3) := by decide +kernel
theorem dX9_deal_43 : decode cX9_deal 43 = .ok (.aload_n 0, 1) := by decide +kernel
theorem dX9_deal_44 : decode cX9_deal 44 = .ok (.getfield 13, 3) := by decide +kernel
theorem dX9_deal_47 : decode cX9_deal 47 = .ok (.iload_n 3, 1) := by decide +kernel
theorem dX9_deal_48 : decode cX9_deal 48 = .ok (.aload_n 0, 1) := by decide +kernel
theorem dX9_deal_49 : decode cX9_deal 49 = .ok (.getfield 13, 3) := by decide +kernel
theorem dX9_deal_52 : decode cX9_deal 52 = .ok (.iload 4, 2) := by decide +kernel
theorem dX9_deal_54 : decode cX9_deal 54 = .ok (.iaload, 1) := by decide +kernel
theorem dX9_deal_55 : decode cX9_deal 55 = .ok (.iastore, 1) := by decide +kernel
theorem dX9_deal_56 : decode cX9_deal 56 = .ok (.iinc 3 1, 3) := by decide +kernel
theorem dX9_deal_59 : decode cX9_deal 59 = .ok (.iinc 4 1, 3) := by decide +kernel
theorem dX9_deal_62 : decode cX9_deal 62 = .ok (.goto (-39), 3) := by decide +kernel
theorem dX9_deal_65 : decode cX9_deal 65 = .ok (.aload_n 0, 1) := by decide +kernel
theorem dX9_deal_66 : decode cX9_deal 66 = .ok (.iload_n 3, 1) := by decide +kernel
theorem dX9_deal_67 : decode cX9_deal 67 = .ok (.putfield 85, 3) := by decide +kernel
theorem dX9_deal_70 : decode cX9_deal 70 = .ok (.aload_n 0, 1) := by decide +kernel
theorem dX9_deal_71 : decode cX9_deal 71 = .ok (.iload_n 1, 1) := by decide +kernel
theorem dX9_deal_72 : decode cX9_deal 72 = .ok (.putfield 7, 3) := by decide +kernel
theorem dX9_deal_75 : decode cX9_deal 75 = .ok (.iload_n 2, 1) := by decide +kernel
theorem dX9_deal_76 : decode cX9_deal 76 = .ok (.ireturn, 1) := by decide +kernel
set_option maxRecDepth 20000 in
theorem ggX9_card_X9_isCard : GoodIn wsX9_card wsX9_isCard := goodIn_r _ [7, 8, 9, 10, 6, 11, 12, 13, 14, 15, 16, 17, 18, 19, 20, 21, 22, 23, 24, 25, 26, 27, 28, 29, 30, 31, 32, 33, 34, 35, 36, 37, 38, 39, 40, 41, 42, 43, 44, 45, 46, 47, 48, 49, 50, 51, 52] rfl (by decide +kernel)
set_option maxRecDepth 20000 in
theorem gX9_card_X9_isCard : GoodIn wsX9_card (wsV RX9 94 RX9 yX9_isCard wsX9_isCard) := goodIn_app (goodIn_of _ (by decide +kernel)) ggX9_card_X9_isCard
theorem dX9_card_0 : decode cX9_card 0 = .ok (.aload_n 0, 1) := by decide +kernel
theorem dX9_card_1 : decode cX9_card 1 = .ok (.iload_n 1, 1) := by decide +kernel
theorem dX9_card_2 : decode cX9_card 2 = .ok (.invokevirtual 94, 3) := by decide +kernel
theorem dX9_card_5 : decode cX9_card 5 = .ok (.ifCond .ne 6, 3) := by decide +kernel
theorem dX9_card_8 : decode cX9_card 8 = .ok (.bipush (-2), 2) := by decide +kernel
theorem dX9_card_10 : decode cX9_card 10 = .ok (.ireturn, 1) := by decide +kernel
theorem dX9_card_11 : decode cX9_card 11 = .ok (.aload_n 0, 1) := by decide +kernel
theorem dX9_card_12 : decode cX9_card 12 = .ok (.getfield 85, 3) := by decide +kernel
theorem dX9_card_15 : decode cX9_card 15 = .ok (.bipush 60, 2) := by decide +kernel
theorem dX9_card_17 : decode cX9_card 17 = .ok (.if_icmp .ne 6, 3) := by decide +kernel
theorem dX9_card_20 : decode cX9_card 20 = .ok (.bipush (-4), 2) := by decide +kernel
theorem dX9_card_22 : decode cX9_card 22 = .ok (.ireturn, 1) := by decide +kernel
theorem dX9_card_23 : decode cX9_card 23 = .ok (.aload_n 0, 1) := by decide +kernel
theorem dX9_card_24 : decode cX9_card 24 = .ok (.getfield 13, 3) := by decide +kernel
theorem dX9_card_27 : decode cX9_card 27 = .ok (.aload_n 0, 1) := by decide +kernel
theorem dX9_card_28 : decode cX9_card 28 = .ok (.getfield 85, 3) := by decide +kernel
theorem dX9_card_31 : decode cX9_card 31 = .ok (.iload_n 1, 1) := by decide +kernel
theorem dX9_card_32 : decode cX9_card 32 = .ok (.iastore, 1) := by decide +kernel
theorem dX9_card_33 : decode cX9_card 33 = .ok (.aload_n 0, 1) := by decide +kernel
theorem dX9_card_34 : decode cX9_card 34 = .ok (.dup, 1) := by decide +kernel
theorem dX9_card_35 : decode cX9_card 35 = .ok (.getfield 85, 3) := by decide +kernel
theorem dX9_card_38 : decode cX9_card 38 = .ok (.iconst 1, 1) := by decide +kernel
theorem dX9_card_39 : decode cX9_card 39 = .ok (.iadd, 1) := by decide +kernel
theorem dX9_card_40 : decode cX9_card 40 = .ok (.putfield 85, 3) := by decide +kernel
theorem dX9_card_43 : decode cX9_card 43 = .ok (.aload_n 0, 1) := by decide +kernel
theorem dX9_card_44 : decode cX9_card 44 = .ok (.getfield 85, 3) := by decide +kernel
theorem dX9_card_47 : decode cX9_card 47 = .ok (.ireturn, 1) := by decide +kernel
set_option maxRecDepth 20000 in
theorem ggX9_fill_X9_isCard : GoodIn wsX9_fill wsX9_isCard := goodIn_r _ [9, 10, 11, 12, 8, 13, 18, 19, 20, 21, 22, 23, 24, 25, 26, 27, 28, 29, 30, 31, 32, 33, 34, 35, 36, 37, 38, 39, 40, 41, 42, 43, 44, 45, 46, 47, 48, 49, 50, 51, 52, 53, 54, 55, 56, 57, 58] rfl (by decide +kernel)
set_option maxRecDepth 20000 in
theorem gX9_fill_X9_isCard : GoodIn wsX9_fill (wsV RX9 94 RX9 yX9_isCard wsX9_isCard) := goodIn_app (goodIn_of _ (by decide +kernel)) ggX9_fill_X9_isCard
set_option maxRecDepth 20000 in
theorem ggX9_fill_X9_in : GoodIn wsX9_fill wsX9_in := goodIn_r _ [13] rfl (by decide +kernel)
set_option maxRecDepth 20000 in
theorem gX9_fill_X9_in : GoodIn wsX9_fill (va_wsS RX9 78 yX9_in wsX9_in) := goodIn_app (goodIn_of _ (by decide +kernel)) ggX9_fill_X9_in
set_option maxRecDepth 20000 in
theorem ggX9_fill_X9_laysBut : GoodIn wsX9_fill wsX9_laysBut := goodIn_r _ [17, 1, 10, 4, 18, 19, 20, 21, 22, 23, 24, 25, 26, 27, 28, 29, 30, 31, 32, 33, 34, 35, 36, 37, 38, 39, 40, 41, 42, 43, 44, 45, 46, 47, 48, 49, 50, 51, 52, 53, 54, 55, 56, 57, 58] rfl (by decide +kernel)
set_option maxRecDepth 20000 in
theorem gX9_fill_X9_laysBut : GoodIn wsX9_fill (wsV RX9 98 RX9 yX9_laysBut wsX9_laysBut) := goodIn_app (goodIn_of _ (by decide +kernel)) ggX9_fill_X9_laysBut
theorem dX9_fill_0 : decode cX9_fill 0 = .ok (.iload_n 1, 1) := by decide +kernel
theorem dX9_fill_1 : decode cX9_fill 1 = .ok (.iconst (-1), 1) := by decide +kernel
theorem dX9_fill_2 : decode cX9_fill 2 = .ok (.if_icmp .eq 11, 3) := by decide +kernel
theorem dX9_fill_5 : decode cX9_fill 5 = .ok (.aload_n 0, 1) := by decide +kernel
theorem dX9_fill_6 : decode cX9_fill 6 = .ok (.iload_n 1, 1) := by decide +kernel
theorem dX9_fill_7 : decode cX9_fill 7 = .ok (.invokevirtual 94, 3) := by decide +kernel
theorem dX9_fill_10 : decode cX9_fill 10 = .ok (.ifCond .eq 12, 3) := by decide +kernel
theorem dX9_fill_13 : decode cX9_fill 13 = .ok (.iload_n 2, 1) := by decide +kernel
theorem dX9_fill_14 : decode cX9_fill 14 = .ok (.iconst 0, 1) := by decide +kernel
theorem dX9_fill_15 : decode cX9_fill 15 = .ok (.iconst 1, 1) := by decide +kernel
theorem dX9_fill_16 : decode cX9_fill 16 = .ok (.invokestatic 78, 3) := by decide +kernel
theorem dX9_fill_19 : decode cX9_fill 19 = .ok (.ifCond .ne 6, 3) := by decide +kernel
theorem dX9_fill_22 : decode cX9_fill 22 = .ok (.bipush (-2), 2) := by decide +kernel
theorem dX9_fill_24 : decode cX9_fill 24 = .ok (.ireturn, 1) := by decide +kernel
theorem dX9_fill_25 : decode cX9_fill 25 = .ok (.aload_n 0, 1) := by decide +kernel
theorem dX9_fill_26 : decode cX9_fill 26 = .ok (.iload_n 1, 1) := by decide +kernel
theorem dX9_fill_27 : decode cX9_fill 27 = .ok (.iload_n 2, 1) := by decide +kernel
theorem dX9_fill_28 : decode cX9_fill 28 = .ok (.invokevirtual 98, 3) := by decide +kernel
theorem dX9_fill_31 : decode cX9_fill 31 = .ok (.aload_n 0, 1) := by decide +kernel
theorem dX9_fill_32 : decode cX9_fill 32 = .ok (.aload_n 0, 1) := by decide +kernel
theorem dX9_fill_33 : decode cX9_fill 33 = .ok (.getfield 102, 3) := by decide +kernel
theorem dX9_fill_36 : decode cX9_fill 36 = .ok (.putfield 85, 3) := by decide +kernel
theorem dX9_fill_39 : decode cX9_fill 39 = .ok (.iconst 0, 1) := by decide +kernel
theorem dX9_fill_40 : decode cX9_fill 40 = .ok (.istore_n 3, 1) := by decide +kernel
theorem dX9_fill_41 : decode cX9_fill 41 = .ok (.iload_n 3, 1) := by decide +kernel
theorem dX9_fill_42 : decode cX9_fill 42 = .ok (.aload_n 0, 1) := by decide +kernel
theorem dX9_fill_43 : decode cX9_fill 43 = .ok (.getfield 102, 3) := by decide +kernel
theorem dX9_fill_46 : decode cX9_fill 46 = .ok (.if_icmp .ge 21, 3) := by decide +kernel
theorem dX9_fill_49 : decode cX9_fill 49 = .ok (.aload_n 0, 1) := by decide +kernel
theorem dX9_fill_50 : decode cX9_fill 50 = .ok (.getfield 13, 3) := by decide +kernel
theorem dX9_fill_53 : decode cX9_fill 53 = .ok (.iload_n 3, 1) := by decide +kernel
theorem dX9_fill_54 : decode cX9_fill 54 = .ok (.aload_n 0, 1) := by decide +kernel
theorem dX9_fill_55 : decode cX9_fill 55 = .ok (.getfield 65, 3) := by decide +kernel
theorem dX9_fill_58 : decode cX9_fill 58 = .ok (.iload_n 3, 1) := by decide +kernel
theorem dX9_fill_59 : decode cX9_fill 59 = .ok (.iaload, 1) := by decide +kernel
theorem dX9_fill_60 : decode cX9_fill 60 = .ok (.iastore, 1) := by decide +kernel
theorem dX9_fill_61 : decode cX9_fill 61 = .ok (.iinc 3 1, 3) := by decide +kernel
theorem dX9_fill_64 : decode cX9_fill 64 = .ok (.goto (-23), 3) := by decide +kernel
theorem dX9_fill_67 : decode cX9_fill 67 = .ok (.aload_n 0, 1) := by decide +kernel
theorem dX9_fill_68 : decode cX9_fill 68 = .ok (.getfield 85, 3) := by decide +kernel
theorem dX9_fill_71 : decode cX9_fill 71 = .ok (.ireturn, 1) := by decide +kernel
set_option maxRecDepth 20000 in
theorem ggX9_at_X9_in : GoodIn wsX9_at wsX9_in := goodIn_r _ [6] rfl (by decide +kernel)
set_option maxRecDepth 20000 in
theorem gX9_at_X9_in : GoodIn wsX9_at (va_wsS RX9 78 yX9_in wsX9_in) := goodIn_app (goodIn_of _ (by decide +kernel)) ggX9_at_X9_in
theorem dX9_at_0 : decode cX9_at 0 = .ok (.iload_n 1, 1) := by decide +kernel
theorem dX9_at_1 : decode cX9_at 1 = .ok (.iconst 0, 1) := by decide +kernel
theorem dX9_at_2 : decode cX9_at 2 = .ok (.aload_n 0, 1) := by decide +kernel
theorem dX9_at_3 : decode cX9_at 3 = .ok (.getfield 85, 3) := by decide +kernel
theorem dX9_at_6 : decode cX9_at 6 = .ok (.iconst 1, 1) := by decide +kernel
theorem dX9_at_7 : decode cX9_at 7 = .ok (.isub, 1) := by decide +kernel
theorem dX9_at_8 : decode cX9_at 8 = .ok (.invokestatic 78, 3) := by decide +kernel
theorem dX9_at_11 : decode cX9_at 11 = .ok (.ifCond .eq 12, 3) := by decide +kernel
theorem dX9_at_14 : decode cX9_at 14 = .ok (.aload_n 0, 1) := by decide +kernel
theorem dX9_at_15 : decode cX9_at 15 = .ok (.getfield 13, 3) := by decide +kernel
theorem dX9_at_18 : decode cX9_at 18 = .ok (.iload_n 1, 1) := by decide +kernel
theorem dX9_at_19 : decode cX9_at 19 = .ok (.iaload, 1) := by decide +kernel
theorem dX9_at_20 : decode cX9_at 20 = .ok (.goto 5, 3) := by decide +kernel
theorem dX9_at_23 : decode cX9_at 23 = .ok (.bipush (-6), 2) := by decide +kernel
theorem dX9_at_25 : decode cX9_at 25 = .ok (.ireturn, 1) := by decide +kernel
set_option maxRecDepth 20000 in
theorem ggX9_turn_X9_in : GoodIn wsX9_turn wsX9_in := goodIn_r _ [7] rfl (by decide +kernel)
set_option maxRecDepth 20000 in
theorem gX9_turn_X9_in : GoodIn wsX9_turn (va_wsS RX9 78 yX9_in wsX9_in) := goodIn_app (goodIn_of _ (by decide +kernel)) ggX9_turn_X9_in
set_option maxRecDepth 20000 in
theorem ggX9_turn_X9_laysRow : GoodIn wsX9_turn wsX9_laysRow := goodIn_r _ [11, 1, 12, 3, 2, 17, 18, 19, 20, 21, 22, 23, 24, 25, 26, 27, 28, 29, 30, 31, 32, 33, 34, 35, 36, 37, 38, 39, 40, 41, 42, 43, 44, 45, 46, 47, 48, 49, 50, 51, 52, 53, 54, 55, 56, 57] rfl (by decide +kernel)
set_option maxRecDepth 20000 in
theorem gX9_turn_X9_laysRow : GoodIn wsX9_turn (wsV RX9 105 RX9 yX9_laysRow wsX9_laysRow) := goodIn_app (goodIn_of _ (by decide +kernel)) ggX9_turn_X9_laysRow
set_option maxRecDepth 20000 in
theorem ggX9_turn_X9_turnsOver : GoodIn wsX9_turn wsX9_turnsOver := goodIn_r _ [16, 12, 3, 17, 18, 19, 20, 21, 22, 23, 24, 25, 26, 27, 28, 29, 30, 31, 32, 33, 34, 35, 36, 37, 38, 39, 40, 41, 42, 43, 44, 45, 46, 47, 48, 49, 50, 51, 52, 53, 54, 55, 56, 57] rfl (by decide +kernel)
set_option maxRecDepth 20000 in
theorem gX9_turn_X9_turnsOver : GoodIn wsX9_turn (wsV RX9 108 RX9 yX9_turnsOver wsX9_turnsOver) := goodIn_app (goodIn_of _ (by decide +kernel)) ggX9_turn_X9_turnsOver
theorem dX9_turn_0 : decode cX9_turn 0 = .ok (.iload_n 1, 1) := by decide +kernel
theorem dX9_turn_1 : decode cX9_turn 1 = .ok (.iconst 0, 1) := by decide +kernel
theorem dX9_turn_2 : decode cX9_turn 2 = .ok (.iconst 2, 1) := by decide +kernel
theorem dX9_turn_3 : decode cX9_turn 3 = .ok (.invokestatic 78, 3) := by decide +kernel
theorem dX9_turn_6 : decode cX9_turn 6 = .ok (.ifCond .ne 6, 3) := by decide +kernel
theorem dX9_turn_9 : decode cX9_turn 9 = .ok (.bipush (-2), 2) := by decide +kernel
theorem dX9_turn_11 : decode cX9_turn 11 = .ok (.ireturn, 1) := by decide +kernel
theorem dX9_turn_12 : decode cX9_turn 12 = .ok (.aload_n 0, 1) := by decide +kernel
theorem dX9_turn_13 : decode cX9_turn 13 = .ok (.invokevirtual 105, 3) := by decide +kernel
theorem dX9_turn_16 : decode cX9_turn 16 = .ok (.aload_n 0, 1) := by decide +kernel
theorem dX9_turn_17 : decode cX9_turn 17 = .ok (.iload_n 1, 1) := by decide +kernel
theorem dX9_turn_18 : decode cX9_turn 18 = .ok (.invokevirtual 108, 3) := by decide +kernel
theorem dX9_turn_21 : decode cX9_turn 21 = .ok (.iconst 0, 1) := by decide +kernel
theorem dX9_turn_22 : decode cX9_turn 22 = .ok (.istore_n 2, 1) := by decide +kernel
theorem dX9_turn_23 : decode cX9_turn 23 = .ok (.iload_n 2, 1) := by decide +kernel
theorem dX9_turn_24 : decode cX9_turn 24 = .ok (.aload_n 0, 1) := by decide +kernel
theorem dX9_turn_25 : decode cX9_turn 25 = .ok (.getfield 85, 3) := by decide +kernel
theorem dX9_turn_28 : decode cX9_turn 28 = .ok (.if_icmp .ge 21, 3) := by decide +kernel
theorem dX9_turn_31 : decode cX9_turn 31 = .ok (.aload_n 0, 1) := by decide +kernel
theorem dX9_turn_32 : decode cX9_turn 32 = .ok (.getfield 13, 3) := by decide +kernel
theorem dX9_turn_35 : decode cX9_turn 35 = .ok (.iload_n 2, 1) := by decide +kernel
theorem dX9_turn_36 : decode cX9_turn 36 = .ok (.aload_n 0, 1) := by decide +kernel
theorem dX9_turn_37 : decode cX9_turn 37 = .ok (.getfield 65, 3) := by decide +kernel
theorem dX9_turn_40 : decode cX9_turn 40 = .ok (.iload_n 2, 1) := by decide +kernel
theorem dX9_turn_41 : decode cX9_turn 41 = .ok (.iaload, 1) := by decide +kernel
theorem dX9_turn_42 : decode cX9_turn 42 = .ok (.iastore, 1) := by decide +kernel
theorem dX9_turn_43 : decode cX9_turn 43 = .ok (.iinc 2 1, 3) := by decide +kernel
theorem dX9_turn_46 : decode cX9_turn 46 = .ok (.goto (-23), 3) := by decide +kernel
theorem dX9_turn_49 : decode cX9_turn 49 = .ok (.aload_n 0, 1) := by decide +kernel
theorem dX9_turn_50 : decode cX9_turn 50 = .ok (.getfield 85, 3) := by decide +kernel
theorem dX9_turn_53 : decode cX9_turn 53 = .ok (.ifCond .ne 7, 3) := by decide +kernel
theorem dX9_turn_56 : decode cX9_turn 56 = .ok (.iconst (-1), 1) := by decide +kernel
theorem dX9_turn_57 : decode cX9_turn 57 = .ok (.goto 9, 3) := by decide +kernel
theorem dX9_turn_60 : decode cX9_turn 60 = .ok (.aload_n 0, 1) := by decide +kernel
theorem dX9_turn_61 : decode cX9_turn 61 = .ok (.getfield 13, 3) := by decide +kernel
theorem dX9_turn_64 : decode cX9_turn 64 = .ok (.iconst 0, 1) := by decide +kernel
theorem dX9_turn_65 : decode cX9_turn 65 = .ok (.iaload, 1) := by decide +kernel
theorem dX9_turn_66 : decode cX9_turn 66 = .ok (.ireturn, 1) := by decide +kernel
theorem dX9_comings_0 : decode cX9_comings 0 = .ok (.iconst 0, 1) := by decide +kernel
theorem dX9_comings_1 : decode cX9_comings 1 = .ok (.istore_n 2, 1) := by decide +kernel
theorem dX9_comings_2 : decode cX9_comings 2 = .ok (.iconst 0, 1) := by decide +kernel
theorem dX9_comings_3 : decode cX9_comings 3 = .ok (.istore_n 3, 1) := by decide +kernel
theorem dX9_comings_4 : decode cX9_comings 4 = .ok (.iload_n 3, 1) := by decide +kernel
theorem dX9_comings_5 : decode cX9_comings 5 = .ok (.aload_n 0, 1) := by decide +kernel
theorem dX9_comings_6 : decode cX9_comings 6 = .ok (.getfield 85, 3) := by decide +kernel
theorem dX9_comings_9 : decode cX9_comings 9 = .ok (.if_icmp .ge 27, 3) := by decide +kernel
theorem dX9_comings_12 : decode cX9_comings 12 = .ok (.iload_n 2, 1) := by decide +kernel
theorem dX9_comings_13 : decode cX9_comings 13 = .ok (.aload_n 0, 1) := by decide +kernel
theorem dX9_comings_14 : decode cX9_comings 14 = .ok (.getfield 13, 3) := by decide +kernel
theorem dX9_comings_17 : decode cX9_comings 17 = .ok (.iload_n 3, 1) := by decide +kernel
theorem dX9_comings_18 : decode cX9_comings 18 = .ok (.iaload, 1) := by decide +kernel
theorem dX9_comings_19 : decode cX9_comings 19 = .ok (.iload_n 1, 1) := by decide +kernel
theorem dX9_comings_20 : decode cX9_comings 20 = .ok (.if_icmp .ne 7, 3) := by decide +kernel
theorem dX9_comings_23 : decode cX9_comings 23 = .ok (.iconst 1, 1) := by decide +kernel
theorem dX9_comings_24 : decode cX9_comings 24 = .ok (.goto 4, 3) := by decide +kernel
theorem dX9_comings_27 : decode cX9_comings 27 = .ok (.iconst 0, 1) := by decide +kernel
theorem dX9_comings_28 : decode cX9_comings 28 = .ok (.iadd, 1) := by decide +kernel
theorem dX9_comings_29 : decode cX9_comings 29 = .ok (.istore_n 2, 1) := by decide +kernel
theorem dX9_comings_30 : decode cX9_comings 30 = .ok (.iinc 3 1, 3) := by decide +kernel
theorem dX9_comings_33 : decode cX9_comings 33 = .ok (.goto (-29), 3) := by decide +kernel
theorem dX9_comings_36 : decode cX9_comings 36 = .ok (.iload_n 2, 1) := by decide +kernel
theorem dX9_comings_37 : decode cX9_comings 37 = .ok (.ireturn, 1) := by decide +kernel
set_option maxRecDepth 20000 in
theorem ggX9_missing_X9_in : GoodIn wsX9_missing wsX9_in := goodIn_r _ [5] rfl (by decide +kernel)
set_option maxRecDepth 20000 in
theorem gX9_missing_X9_in : GoodIn wsX9_missing (va_wsS RX9 78 yX9_in wsX9_in) := goodIn_app (goodIn_of _ (by decide +kernel)) ggX9_missing_X9_in
set_option maxRecDepth 20000 in
theorem ggX9_missing_X9_comings : GoodIn wsX9_missing wsX9_comings := goodIn_r _ [9, 10, 11, 12, 13, 14, 15, 16, 17, 18, 19, 20, 21, 22, 23, 24, 25, 26, 27, 28, 29, 30, 31, 32, 33, 34, 35, 36, 37, 38, 39, 40, 41, 42, 43, 44, 45, 46, 47, 48, 49, 50, 51, 52] rfl (by decide +kernel)
set_option maxRecDepth 20000 in
theorem gX9_missing_X9_comings : GoodIn wsX9_missing (wsV RX9 112 RX9 yX9_comings wsX9_comings) := goodIn_app (goodIn_of _ (by decide +kernel)) ggX9_missing_X9_comings
theorem dX9_missing_0 : decode cX9_missing 0 = .ok (.iload_n 1, 1) := by decide +kernel
theorem dX9_missing_1 : decode cX9_missing 1 = .ok (.iconst 0, 1) := by decide +kernel
theorem dX9_missing_2 : decode cX9_missing 2 = .ok (.bipush 51, 2) := by decide +kernel
theorem dX9_missing_4 : decode cX9_missing 4 = .ok (.invokestatic 78, 3) := by decide +kernel
theorem dX9_missing_7 : decode cX9_missing 7 = .ok (.ifCond .ne 6, 3) := by decide +kernel
theorem dX9_missing_10 : decode cX9_missing 10 = .ok (.bipush (-2), 2) := by decide +kernel
theorem dX9_missing_12 : decode cX9_missing 12 = .ok (.ireturn, 1) := by decide +kernel
theorem dX9_missing_13 : decode cX9_missing 13 = .ok (.iload_n 1, 1) := by decide +kernel
theorem dX9_missing_14 : decode cX9_missing 14 = .ok (.istore_n 2, 1) := by decide +kernel
theorem dX9_missing_15 : decode cX9_missing 15 = .ok (.iconst 1, 1) := by decide +kernel
theorem dX9_missing_16 : decode cX9_missing 16 = .ok (.istore_n 3, 1) := by decide +kernel
theorem dX9_missing_17 : decode cX9_missing 17 = .ok (.iload_n 3, 1) := by decide +kernel
theorem dX9_missing_18 : decode cX9_missing 18 = .ok (.aload_n 0, 1) := by decide +kernel
theorem dX9_missing_19 : decode cX9_missing 19 = .ok (.getfield 7, 3) := by decide +kernel
theorem dX9_missing_22 : decode cX9_missing 22 = .ok (.if_icmp .gt 26, 3) := by decide +kernel
theorem dX9_missing_25 : decode cX9_missing 25 = .ok (.aload_n 0, 1) := by decide +kernel
theorem dX9_missing_26 : decode cX9_missing 26 = .ok (.iload_n 3, 1) := by decide +kernel
theorem dX9_missing_27 : decode cX9_missing 27 = .ok (.invokevirtual 112, 3) := by decide +kernel
theorem dX9_missing_30 : decode cX9_missing 30 = .ok (.ifCond .ne 12, 3) := by decide +kernel
theorem dX9_missing_33 : decode cX9_missing 33 = .ok (.iload_n 2, 1) := by decide +kernel
theorem dX9_missing_34 : decode cX9_missing 34 = .ok (.ifCond .ne 5, 3) := by decide +kernel
theorem dX9_missing_37 : decode cX9_missing 37 = .ok (.iload_n 3, 1) := by decide +kernel
theorem dX9_missing_38 : decode cX9_missing 38 = .ok (.ireturn, 1) := by decide +kernel
theorem dX9_missing_39 : decode cX9_missing 39 = .ok (.iinc 2 (-1), 3) := by decide +kernel
theorem dX9_missing_42 : decode cX9_missing 42 = .ok (.iinc 3 1, 3) := by decide +kernel
theorem dX9_missing_45 : decode cX9_missing 45 = .ok (.goto (-28), 3) := by decide +kernel
theorem dX9_missing_48 : decode cX9_missing 48 = .ok (.iconst (-1), 1) := by decide +kernel
theorem dX9_missing_49 : decode cX9_missing 49 = .ok (.ireturn, 1) := by decide +kernel
set_option maxRecDepth 20000 in
theorem ggX9_unlikeMany_X9_comings : GoodIn wsX9_unlikeMany wsX9_comings := goodIn_r _ [6, 7, 8, 9, 10, 11, 12, 13, 14, 15, 16, 17, 18, 19, 20, 21, 22, 23, 24, 25, 26, 27, 28, 29, 30, 31, 32, 33, 34, 35, 36, 37, 38, 39, 40, 41, 42, 43, 44, 45, 46, 47, 48, 49] rfl (by decide +kernel)
set_option maxRecDepth 20000 in
theorem gX9_unlikeMany_X9_comings : GoodIn wsX9_unlikeMany (wsV RX9 112 RX9 yX9_comings wsX9_comings) := goodIn_app (goodIn_of _ (by decide +kernel)) ggX9_unlikeMany_X9_comings
theorem dX9_unlikeMany_0 : decode cX9_unlikeMany 0 = .ok (.iconst 0, 1) := by decide +kernel
theorem dX9_unlikeMany_1 : decode cX9_unlikeMany 1 = .ok (.istore_n 1, 1) := by decide +kernel
theorem dX9_unlikeMany_2 : decode cX9_unlikeMany 2 = .ok (.iconst 1, 1) := by decide +kernel
theorem dX9_unlikeMany_3 : decode cX9_unlikeMany 3 = .ok (.istore_n 2, 1) := by decide +kernel
theorem dX9_unlikeMany_4 : decode cX9_unlikeMany 4 = .ok (.iload_n 2, 1) := by decide +kernel
theorem dX9_unlikeMany_5 : decode cX9_unlikeMany 5 = .ok (.aload_n 0, 1) := by decide +kernel
theorem dX9_unlikeMany_6 : decode cX9_unlikeMany 6 = .ok (.getfield 7, 3) := by decide +kernel
theorem dX9_unlikeMany_9 : decode cX9_unlikeMany 9 = .ok (.if_icmp .gt 25, 3) := by decide +kernel
theorem dX9_unlikeMany_12 : decode cX9_unlikeMany 12 = .ok (.iload_n 1, 1) := by decide +kernel
theorem dX9_unlikeMany_13 : decode cX9_unlikeMany 13 = .ok (.aload_n 0, 1) := by decide +kernel
theorem dX9_unlikeMany_14 : decode cX9_unlikeMany 14 = .ok (.iload_n 2, 1) := by decide +kernel
theorem dX9_unlikeMany_15 : decode cX9_unlikeMany 15 = .ok (.invokevirtual 112, 3) := by decide +kernel
theorem dX9_unlikeMany_18 : decode cX9_unlikeMany 18 = .ok (.ifCond .le 7, 3) := by decide +kernel
theorem dX9_unlikeMany_21 : decode cX9_unlikeMany 21 = .ok (.iconst 1, 1) := by decide +kernel
theorem dX9_unlikeMany_22 : decode cX9_unlikeMany 22 = .ok (.goto 4, 3) := by decide +kernel
theorem dX9_unlikeMany_25 : decode cX9_unlikeMany 25 = .ok (.iconst 0, 1) := by decide +kernel
theorem dX9_unlikeMany_26 : decode cX9_unlikeMany 26 = .ok (.iadd, 1) := by decide +kernel
theorem dX9_unlikeMany_27 : decode cX9_unlikeMany 27 = .ok (.istore_n 1, 1) := by decide +kernel
theorem dX9_unlikeMany_28 : decode cX9_unlikeMany 28 = .ok (.iinc 2 1, 3) := by decide +kernel
theorem dX9_unlikeMany_31 : decode cX9_unlikeMany 31 = .ok (.goto (-27), 3) := by decide +kernel
theorem dX9_unlikeMany_34 : decode cX9_unlikeMany 34 = .ok (.iload_n 1, 1) := by decide +kernel
theorem dX9_unlikeMany_35 : decode cX9_unlikeMany 35 = .ok (.ireturn, 1) := by decide +kernel
set_option maxRecDepth 20000 in
theorem ggX9_mostComing_X9_comings : GoodIn wsX9_mostComing wsX9_comings := goodIn_r _ [6, 7, 8, 9, 10, 11, 12, 13, 14, 15, 16, 17, 18, 19, 20, 21, 22, 23, 24, 25, 26, 27, 28, 29, 30, 31, 32, 33, 34, 35, 36, 37, 38, 39, 40, 41, 42, 43, 44, 45, 46, 47, 48, 49] rfl (by decide +kernel)
set_option maxRecDepth 20000 in
theorem gX9_mostComing_X9_comings : GoodIn wsX9_mostComing (wsV RX9 112 RX9 yX9_comings wsX9_comings) := goodIn_app (goodIn_of _ (by decide +kernel)) ggX9_mostComing_X9_comings
theorem dX9_mostComing_0 : decode cX9_mostComing 0 = .ok (.iconst (-1), 1) := by decide +kernel
theorem dX9_mostComing_1 : decode cX9_mostComing 1 = .ok (.istore_n 1, 1) := by decide +kernel
theorem dX9_mostComing_2 : decode cX9_mostComing 2 = .ok (.iconst 0, 1) := by decide +kernel
theorem dX9_mostComing_3 : decode cX9_mostComing 3 = .ok (.istore_n 2, 1) := by decide +kernel
theorem dX9_mostComing_4 : decode cX9_mostComing 4 = .ok (.iconst 1, 1) := by decide +kernel
theorem dX9_mostComing_5 : decode cX9_mostComing 5 = .ok (.istore_n 3, 1) := by decide +kernel
theorem dX9_mostComing_6 : decode cX9_mostComing 6 = .ok (.iload_n 3, 1) := by decide +kernel
theorem dX9_mostComing_7 : decode cX9_mostComing 7 = .ok (.aload_n 0, 1) := by decide +kernel
theorem dX9_mostComing_8 : decode cX9_mostComing 8 = .ok (.getfield 7, 3) := by decide +kernel
theorem dX9_mostComing_11 : decode cX9_mostComing 11 = .ok (.if_icmp .gt 41, 3) := by decide +kernel
theorem dX9_mostComing_14 : decode cX9_mostComing 14 = .ok (.aload_n 0, 1) := by decide +kernel
theorem dX9_mostComing_15 : decode cX9_mostComing 15 = .ok (.iload_n 3, 1) := by decide +kernel
theorem dX9_mostComing_16 : decode cX9_mostComing 16 = .ok (.invokevirtual 112, 3) := by decide +kernel
theorem dX9_mostComing_19 : decode cX9_mostComing 19 = .ok (.istore 4, 2) := by decide +kernel
theorem dX9_mostComing_21 : decode cX9_mostComing 21 = .ok (.iload 4, 2) := by decide +kernel
theorem dX9_mostComing_23 : decode cX9_mostComing 23 = .ok (.iload_n 2, 1) := by decide +kernel
theorem dX9_mostComing_24 : decode cX9_mostComing 24 = .ok (.if_icmp .le 7, 3) := by decide +kernel
theorem dX9_mostComing_27 : decode cX9_mostComing 27 = .ok (.iload_n 3, 1) := by decide +kernel
theorem dX9_mostComing_28 : decode cX9_mostComing 28 = .ok (.goto 4, 3) := by decide +kernel
theorem dX9_mostComing_31 : decode cX9_mostComing 31 = .ok (.iload_n 1, 1) := by decide +kernel
theorem dX9_mostComing_32 : decode cX9_mostComing 32 = .ok (.istore_n 1, 1) := by decide +kernel
theorem dX9_mostComing_33 : decode cX9_mostComing 33 = .ok (.iload 4, 2) := by decide +kernel
theorem dX9_mostComing_35 : decode cX9_mostComing 35 = .ok (.iload_n 2, 1) := by decide +kernel
theorem dX9_mostComing_36 : decode cX9_mostComing 36 = .ok (.if_icmp .le 8, 3) := by decide +kernel
theorem dX9_mostComing_39 : decode cX9_mostComing 39 = .ok (.iload 4, 2) := by decide +kernel
theorem dX9_mostComing_41 : decode cX9_mostComing 41 = .ok (.goto 4, 3) := by decide +kernel
theorem dX9_mostComing_44 : decode cX9_mostComing 44 = .ok (.iload_n 2, 1) := by decide +kernel
theorem dX9_mostComing_45 : decode cX9_mostComing 45 = .ok (.istore_n 2, 1) := by decide +kernel
theorem dX9_mostComing_46 : decode cX9_mostComing 46 = .ok (.iinc 3 1, 3) := by decide +kernel
theorem dX9_mostComing_49 : decode cX9_mostComing 49 = .ok (.goto (-43), 3) := by decide +kernel
theorem dX9_mostComing_52 : decode cX9_mostComing 52 = .ok (.iload_n 1, 1) := by decide +kernel
theorem dX9_mostComing_53 : decode cX9_mostComing 53 = .ok (.ireturn, 1) := by decide +kernel
theorem dX9_firstAgain_0 : decode cX9_firstAgain 0 = .ok (.iconst 0, 1) := by decide +kernel
theorem dX9_firstAgain_1 : decode cX9_firstAgain 1 = .ok (.istore_n 1, 1) := by decide +kernel
theorem dX9_firstAgain_2 : decode cX9_firstAgain 2 = .ok (.iload_n 1, 1) := by decide +kernel
theorem dX9_firstAgain_3 : decode cX9_firstAgain 3 = .ok (.aload_n 0, 1) := by decide +kernel
theorem dX9_firstAgain_4 : decode cX9_firstAgain 4 = .ok (.getfield 85, 3) := by decide +kernel
theorem dX9_firstAgain_7 : decode cX9_firstAgain 7 = .ok (.if_icmp .ge 44, 3) := by decide +kernel
theorem dX9_firstAgain_10 : decode cX9_firstAgain 10 = .ok (.iconst 0, 1) := by decide +kernel
theorem dX9_firstAgain_11 : decode cX9_firstAgain 11 = .ok (.istore_n 2, 1) := by decide +kernel
theorem dX9_firstAgain_12 : decode cX9_firstAgain 12 = .ok (.iload_n 2, 1) := by decide +kernel
theorem dX9_firstAgain_13 : decode cX9_firstAgain 13 = .ok (.iload_n 1, 1) := by decide +kernel
theorem dX9_firstAgain_14 : decode cX9_firstAgain 14 = .ok (.if_icmp .ge 31, 3) := by decide +kernel
theorem dX9_firstAgain_17 : decode cX9_firstAgain 17 = .ok (.aload_n 0, 1) := by decide +kernel
theorem dX9_firstAgain_18 : decode cX9_firstAgain 18 = .ok (.getfield 13, 3) := by decide +kernel
theorem dX9_firstAgain_21 : decode cX9_firstAgain 21 = .ok (.iload_n 2, 1) := by decide +kernel
theorem dX9_firstAgain_22 : decode cX9_firstAgain 22 = .ok (.iaload, 1) := by decide +kernel
theorem dX9_firstAgain_23 : decode cX9_firstAgain 23 = .ok (.aload_n 0, 1) := by decide +kernel
theorem dX9_firstAgain_24 : decode cX9_firstAgain 24 = .ok (.getfield 13, 3) := by decide +kernel
theorem dX9_firstAgain_27 : decode cX9_firstAgain 27 = .ok (.iload_n 1, 1) := by decide +kernel
theorem dX9_firstAgain_28 : decode cX9_firstAgain 28 = .ok (.iaload, 1) := by decide +kernel
theorem dX9_firstAgain_29 : decode cX9_firstAgain 29 = .ok (.if_icmp .ne 10, 3) := by decide +kernel
theorem dX9_firstAgain_32 : decode cX9_firstAgain 32 = .ok (.aload_n 0, 1) := by decide +kernel
theorem dX9_firstAgain_33 : decode cX9_firstAgain 33 = .ok (.getfield 13, 3) := by decide +kernel
theorem dX9_firstAgain_36 : decode cX9_firstAgain 36 = .ok (.iload_n 1, 1) := by decide +kernel
theorem dX9_firstAgain_37 : decode cX9_firstAgain 37 = .ok (.iaload, 1) := by decide +kernel
theorem dX9_firstAgain_38 : decode cX9_firstAgain 38 = .ok (.ireturn, 1) := by decide +kernel
theorem dX9_firstAgain_39 : decode cX9_firstAgain 39 = .ok (.iinc 2 1, 3) := by decide +kernel
theorem dX9_firstAgain_42 : decode cX9_firstAgain 42 = .ok (.goto (-30), 3) := by decide +kernel
theorem dX9_firstAgain_45 : decode cX9_firstAgain 45 = .ok (.iinc 1 1, 3) := by decide +kernel
theorem dX9_firstAgain_48 : decode cX9_firstAgain 48 = .ok (.goto (-46), 3) := by decide +kernel
theorem dX9_firstAgain_51 : decode cX9_firstAgain 51 = .ok (.iconst (-1), 1) := by decide +kernel
theorem dX9_firstAgain_52 : decode cX9_firstAgain 52 = .ok (.ireturn, 1) := by decide +kernel
theorem dX9_sumOf_0 : decode cX9_sumOf 0 = .ok (.iconst 0, 1) := by decide +kernel
theorem dX9_sumOf_1 : decode cX9_sumOf 1 = .ok (.istore_n 2, 1) := by decide +kernel
theorem dX9_sumOf_2 : decode cX9_sumOf 2 = .ok (.iconst 0, 1) := by decide +kernel
theorem dX9_sumOf_3 : decode cX9_sumOf 3 = .ok (.istore_n 3, 1) := by decide +kernel
theorem dX9_sumOf_4 : decode cX9_sumOf 4 = .ok (.iload_n 3, 1) := by decide +kernel
theorem dX9_sumOf_5 : decode cX9_sumOf 5 = .ok (.aload_n 0, 1) := by decide +kernel
theorem dX9_sumOf_6 : decode cX9_sumOf 6 = .ok (.getfield 85, 3) := by decide +kernel
theorem dX9_sumOf_9 : decode cX9_sumOf 9 = .ok (.if_icmp .ge 38, 3) := by decide +kernel
theorem dX9_sumOf_12 : decode cX9_sumOf 12 = .ok (.iload_n 2, 1) := by decide +kernel
theorem dX9_sumOf_13 : decode cX9_sumOf 13 = .ok (.iload_n 1, 1) := by decide +kernel
theorem dX9_sumOf_14 : decode cX9_sumOf 14 = .ok (.ifCond .eq 19, 3) := by decide +kernel
theorem dX9_sumOf_17 : decode cX9_sumOf 17 = .ok (.aload_n 0, 1) := by decide +kernel
theorem dX9_sumOf_18 : decode cX9_sumOf 18 = .ok (.getfield 13, 3) := by decide +kernel
theorem dX9_sumOf_21 : decode cX9_sumOf 21 = .ok (.iload_n 3, 1) := by decide +kernel
theorem dX9_sumOf_22 : decode cX9_sumOf 22 = .ok (.iaload, 1) := by decide +kernel
theorem dX9_sumOf_23 : decode cX9_sumOf 23 = .ok (.aload_n 0, 1) := by decide +kernel
theorem dX9_sumOf_24 : decode cX9_sumOf 24 = .ok (.getfield 13, 3) := by decide +kernel
theorem dX9_sumOf_27 : decode cX9_sumOf 27 = .ok (.iload_n 3, 1) := by decide +kernel
theorem dX9_sumOf_28 : decode cX9_sumOf 28 = .ok (.iaload, 1) := by decide +kernel
theorem dX9_sumOf_29 : decode cX9_sumOf 29 = .ok (.imul, 1) := by decide +kernel
theorem dX9_sumOf_30 : decode cX9_sumOf 30 = .ok (.goto 9, 3) := by decide +kernel
theorem dX9_sumOf_33 : decode cX9_sumOf 33 = .ok (.aload_n 0, 1) := by decide +kernel
theorem dX9_sumOf_34 : decode cX9_sumOf 34 = .ok (.getfield 13, 3) := by decide +kernel
theorem dX9_sumOf_37 : decode cX9_sumOf 37 = .ok (.iload_n 3, 1) := by decide +kernel
theorem dX9_sumOf_38 : decode cX9_sumOf 38 = .ok (.iaload, 1) := by decide +kernel
theorem dX9_sumOf_39 : decode cX9_sumOf 39 = .ok (.iadd, 1) := by decide +kernel
theorem dX9_sumOf_40 : decode cX9_sumOf 40 = .ok (.istore_n 2, 1) := by decide +kernel
theorem dX9_sumOf_41 : decode cX9_sumOf 41 = .ok (.iinc 3 1, 3) := by decide +kernel
theorem dX9_sumOf_44 : decode cX9_sumOf 44 = .ok (.goto (-40), 3) := by decide +kernel
theorem dX9_sumOf_47 : decode cX9_sumOf 47 = .ok (.iload_n 2, 1) := by decide +kernel
theorem dX9_sumOf_48 : decode cX9_sumOf 48 = .ok (.ireturn, 1) := by decide +kernel
set_option maxRecDepth 20000 in
theorem ggX9_truth_X9_mostComing : GoodIn wsX9_truth wsX9_mostComing := goodIn_r _ [7, 1, 8, 9, 10, 6, 11, 2, 12, 25, 26, 27, 28, 29, 30, 31, 32, 33, 34, 35, 36, 37, 38, 39, 40, 41, 42, 43, 44, 45, 46, 47, 48, 49, 50, 51, 52, 53, 54, 55, 56, 57, 58, 59, 60, 61, 62, 63, 64, 65] rfl (by decide +kernel)
set_option maxRecDepth 20000 in
theorem gX9_truth_X9_mostComing : GoodIn wsX9_truth (wsV RX9 116 RX9 yX9_mostComing wsX9_mostComing) := goodIn_app (goodIn_of _ (by decide +kernel)) ggX9_truth_X9_mostComing
set_option maxRecDepth 20000 in
theorem ggX9_truth_X9_comings : GoodIn wsX9_truth wsX9_comings := goodIn_r _ [11, 2, 12, 25, 26, 27, 28, 29, 30, 31, 32, 33, 34, 35, 36, 37, 38, 39, 40, 41, 42, 43, 44, 45, 46, 47, 48, 49, 50, 51, 52, 53, 54, 55, 56, 57, 58, 59, 60, 61, 62, 63, 64, 65] rfl (by decide +kernel)
set_option maxRecDepth 20000 in
theorem gX9_truth_X9_comings : GoodIn wsX9_truth (wsV RX9 112 RX9 yX9_comings wsX9_comings) := goodIn_app (goodIn_of _ (by decide +kernel)) ggX9_truth_X9_comings
set_option maxRecDepth 20000 in
theorem ggX9_truth_X9_unlikeMany : GoodIn wsX9_truth wsX9_unlikeMany := goodIn_r _ [16, 1, 8, 9, 10, 6, 11, 2, 12, 25, 26, 27, 28, 29, 30, 31, 32, 33, 34, 35, 36, 37, 38, 39, 40, 41, 42, 43, 44, 45, 46, 47, 48, 49, 50, 51, 52, 53, 54, 55, 56, 57, 58, 59, 60, 61, 62, 63, 64, 65] rfl (by decide +kernel)
set_option maxRecDepth 20000 in
theorem gX9_truth_X9_unlikeMany : GoodIn wsX9_truth (wsV RX9 119 RX9 yX9_unlikeMany wsX9_unlikeMany) := goodIn_app (goodIn_of _ (by decide +kernel)) ggX9_truth_X9_unlikeMany
set_option maxRecDepth 20000 in
theorem ggX9_truth_X9_firstAgain : GoodIn wsX9_truth wsX9_firstAgain := goodIn_r _ [20, 2, 12, 25, 26, 27, 28, 29, 30, 31, 32, 33, 34, 35, 36, 37, 38, 39, 40, 41, 42, 43, 44, 45, 46, 47, 48, 49, 50, 51, 52, 53, 54, 55, 56, 57, 58, 59, 60, 61, 62, 63, 64, 65] rfl (by decide +kernel)
set_option maxRecDepth 20000 in
theorem gX9_truth_X9_firstAgain : GoodIn wsX9_truth (wsV RX9 122 RX9 yX9_firstAgain wsX9_firstAgain) := goodIn_app (goodIn_of _ (by decide +kernel)) ggX9_truth_X9_firstAgain
set_option maxRecDepth 20000 in
theorem ggX9_truth_X9_sumOf : GoodIn wsX9_truth wsX9_sumOf := goodIn_r _ [24, 2, 12, 25, 26, 27, 28, 29, 30, 31, 32, 33, 34, 35, 36, 37, 38, 39, 40, 41, 42, 43, 44, 45, 46, 47, 48, 49, 50, 51, 52, 53, 54, 55, 56, 57, 58, 59, 60, 61, 62, 63, 64, 65] rfl (by decide +kernel)
set_option maxRecDepth 20000 in
theorem gX9_truth_X9_sumOf : GoodIn wsX9_truth (wsV RX9 125 RX9 yX9_sumOf wsX9_sumOf) := goodIn_app (goodIn_of _ (by decide +kernel)) ggX9_truth_X9_sumOf
theorem dX9_truth_0 : decode cX9_truth 0 = .ok (.aload_n 0, 1) := by decide +kernel
theorem dX9_truth_1 : decode cX9_truth 1 = .ok (.invokevirtual 116, 3) := by decide +kernel
theorem dX9_truth_4 : decode cX9_truth 4 = .ok (.istore_n 2, 1) := by decide +kernel
theorem dX9_truth_5 : decode cX9_truth 5 = .ok (.iload_n 2, 1) := by decide +kernel
theorem dX9_truth_6 : decode cX9_truth 6 = .ok (.iconst (-1), 1) := by decide +kernel
theorem dX9_truth_7 : decode cX9_truth 7 = .ok (.if_icmp .ne 7, 3) := by decide +kernel
theorem dX9_truth_10 : decode cX9_truth 10 = .ok (.iconst 0, 1) := by decide +kernel
theorem dX9_truth_11 : decode cX9_truth 11 = .ok (.goto 8, 3) := by decide +kernel
theorem dX9_truth_14 : decode cX9_truth 14 = .ok (.aload_n 0, 1) := by decide +kernel
theorem dX9_truth_15 : decode cX9_truth 15 = .ok (.iload_n 2, 1) := by decide +kernel
theorem dX9_truth_16 : decode cX9_truth 16 = .ok (.invokevirtual 112, 3) := by decide +kernel
theorem dX9_truth_19 : decode cX9_truth 19 = .ok (.istore_n 3, 1) := by decide +kernel
theorem dX9_truth_20 : decode cX9_truth 20 = .ok (.iload_n 1, 1) := by decide +kernel
theorem dX9_truth_21 : decode cX9_truth 21 = .ok (.tableswitch 99 0 7 #[47, 57, 62, 64, 66, 82, 87, 93], 47) := by decide +kernel
theorem dX9_truth_68 : decode cX9_truth 68 = .ok (.aload_n 0, 1) := by decide +kernel
theorem dX9_truth_69 : decode cX9_truth 69 = .ok (.getfield 7, 3) := by decide +kernel
theorem dX9_truth_72 : decode cX9_truth 72 = .ok (.aload_n 0, 1) := by decide +kernel
theorem dX9_truth_73 : decode cX9_truth 73 = .ok (.invokevirtual 119, 3) := by decide +kernel
theorem dX9_truth_76 : decode cX9_truth 76 = .ok (.isub, 1) := by decide +kernel
theorem dX9_truth_77 : decode cX9_truth 77 = .ok (.ireturn, 1) := by decide +kernel
theorem dX9_truth_78 : decode cX9_truth 78 = .ok (.aload_n 0, 1) := by decide +kernel
theorem dX9_truth_79 : decode cX9_truth 79 = .ok (.invokevirtual 119, 3) := by decide +kernel
theorem dX9_truth_82 : decode cX9_truth 82 = .ok (.ireturn, 1) := by decide +kernel
theorem dX9_truth_83 : decode cX9_truth 83 = .ok (.iload_n 2, 1) := by decide +kernel
theorem dX9_truth_84 : decode cX9_truth 84 = .ok (.ireturn, 1) := by decide +kernel
theorem dX9_truth_85 : decode cX9_truth 85 = .ok (.iload_n 3, 1) := by decide +kernel
theorem dX9_truth_86 : decode cX9_truth 86 = .ok (.ireturn, 1) := by decide +kernel
theorem dX9_truth_87 : decode cX9_truth 87 = .ok (.iconst 2, 1) := by decide +kernel
theorem dX9_truth_88 : decode cX9_truth 88 = .ok (.iload_n 3, 1) := by decide +kernel
theorem dX9_truth_89 : decode cX9_truth 89 = .ok (.imul, 1) := by decide +kernel
theorem dX9_truth_90 : decode cX9_truth 90 = .ok (.aload_n 0, 1) := by decide +kernel
theorem dX9_truth_91 : decode cX9_truth 91 = .ok (.getfield 85, 3) := by decide +kernel
theorem dX9_truth_94 : decode cX9_truth 94 = .ok (.if_icmp .le 7, 3) := by decide +kernel
theorem dX9_truth_97 : decode cX9_truth 97 = .ok (.iconst 1, 1) := by decide +kernel
theorem dX9_truth_98 : decode cX9_truth 98 = .ok (.goto 4, 3) := by decide +kernel
theorem dX9_truth_101 : decode cX9_truth 101 = .ok (.iconst 0, 1) := by decide +kernel
theorem dX9_truth_102 : decode cX9_truth 102 = .ok (.ireturn, 1) := by decide +kernel
theorem dX9_truth_103 : decode cX9_truth 103 = .ok (.aload_n 0, 1) := by decide +kernel
theorem dX9_truth_104 : decode cX9_truth 104 = .ok (.invokevirtual 122, 3) := by decide +kernel
theorem dX9_truth_107 : decode cX9_truth 107 = .ok (.ireturn, 1) := by decide +kernel
theorem dX9_truth_108 : decode cX9_truth 108 = .ok (.aload_n 0, 1) := by decide +kernel
theorem dX9_truth_109 : decode cX9_truth 109 = .ok (.iconst 0, 1) := by decide +kernel
theorem dX9_truth_110 : decode cX9_truth 110 = .ok (.invokevirtual 125, 3) := by decide +kernel
theorem dX9_truth_113 : decode cX9_truth 113 = .ok (.ireturn, 1) := by decide +kernel
theorem dX9_truth_114 : decode cX9_truth 114 = .ok (.aload_n 0, 1) := by decide +kernel
theorem dX9_truth_115 : decode cX9_truth 115 = .ok (.iconst 1, 1) := by decide +kernel
theorem dX9_truth_116 : decode cX9_truth 116 = .ok (.invokevirtual 125, 3) := by decide +kernel
theorem dX9_truth_119 : decode cX9_truth 119 = .ok (.ireturn, 1) := by decide +kernel
theorem dX9_truth_120 : decode cX9_truth 120 = .ok (.bipush (-2), 2) := by decide +kernel
theorem dX9_truth_122 : decode cX9_truth 122 = .ok (.ireturn, 1) := by decide +kernel
theorem dX9_packSum_0 : decode cX9_packSum 0 = .ok (.aload_n 0, 1) := by decide +kernel
theorem dX9_packSum_1 : decode cX9_packSum 1 = .ok (.getfield 7, 3) := by decide +kernel
theorem dX9_packSum_4 : decode cX9_packSum 4 = .ok (.aload_n 0, 1) := by decide +kernel
theorem dX9_packSum_5 : decode cX9_packSum 5 = .ok (.getfield 7, 3) := by decide +kernel
theorem dX9_packSum_8 : decode cX9_packSum 8 = .ok (.iconst 1, 1) := by decide +kernel
theorem dX9_packSum_9 : decode cX9_packSum 9 = .ok (.iadd, 1) := by decide +kernel
theorem dX9_packSum_10 : decode cX9_packSum 10 = .ok (.imul, 1) := by decide +kernel
theorem dX9_packSum_11 : decode cX9_packSum 11 = .ok (.iconst 2, 1) := by decide +kernel
theorem dX9_packSum_12 : decode cX9_packSum 12 = .ok (.idiv, 1) := by decide +kernel
theorem dX9_packSum_13 : decode cX9_packSum 13 = .ok (.ireturn, 1) := by decide +kernel
set_option maxRecDepth 20000 in
theorem ggX9_two_X9_in : GoodIn wsX9_two wsX9_in := goodIn_r _ [5] rfl (by decide +kernel)
set_option maxRecDepth 20000 in
theorem gX9_two_X9_in : GoodIn wsX9_two (va_wsS RX9 78 yX9_in wsX9_in) := goodIn_app (goodIn_of _ (by decide +kernel)) ggX9_two_X9_in
set_option maxRecDepth 20000 in
theorem ggX9_two_X9_packSum : GoodIn wsX9_two wsX9_packSum := goodIn_r _ [9, 1, 16, 17, 18, 19, 20, 21, 22, 23, 24, 25, 26, 27, 28, 29, 30, 31, 32, 33, 34, 35, 36, 37, 38, 39, 40, 41, 42, 43, 44, 45, 46, 47, 48, 49, 50, 51, 52, 53, 54, 55, 56] rfl (by decide +kernel)
set_option maxRecDepth 20000 in
theorem gX9_two_X9_packSum : GoodIn wsX9_two (wsV RX9 129 RX9 yX9_packSum wsX9_packSum) := goodIn_app (goodIn_of _ (by decide +kernel)) ggX9_two_X9_packSum
set_option maxRecDepth 20000 in
theorem ggX9_two_X9_sumOf : GoodIn wsX9_two wsX9_sumOf := goodIn_r _ [13, 14, 15, 16, 17, 18, 19, 20, 21, 22, 23, 24, 25, 26, 27, 28, 29, 30, 31, 32, 33, 34, 35, 36, 37, 38, 39, 40, 41, 42, 43, 44, 45, 46, 47, 48, 49, 50, 51, 52, 53, 54, 55, 56] rfl (by decide +kernel)
set_option maxRecDepth 20000 in
theorem gX9_two_X9_sumOf : GoodIn wsX9_two (wsV RX9 125 RX9 yX9_sumOf wsX9_sumOf) := goodIn_app (goodIn_of _ (by decide +kernel)) ggX9_two_X9_sumOf
theorem dX9_two_0 : decode cX9_two 0 = .ok (.iload_n 1, 1) := by decide +kernel
theorem dX9_two_1 : decode cX9_two 1 = .ok (.iconst 0, 1) := by decide +kernel
theorem dX9_two_2 : decode cX9_two 2 = .ok (.iconst 1, 1) := by decide +kernel
theorem dX9_two_3 : decode cX9_two 3 = .ok (.invokestatic 78, 3) := by decide +kernel
theorem dX9_two_6 : decode cX9_two 6 = .ok (.ifCond .ne 6, 3) := by decide +kernel
theorem dX9_two_9 : decode cX9_two 9 = .ok (.bipush (-2), 2) := by decide +kernel
theorem dX9_two_11 : decode cX9_two 11 = .ok (.ireturn, 1) := by decide +kernel
theorem dX9_two_12 : decode cX9_two 12 = .ok (.iconst 0, 1) := by decide +kernel
theorem dX9_two_13 : decode cX9_two 13 = .ok (.istore_n 2, 1) := by decide +kernel
theorem dX9_two_14 : decode cX9_two 14 = .ok (.iconst 1, 1) := by decide +kernel
theorem dX9_two_15 : decode cX9_two 15 = .ok (.istore_n 3, 1) := by decide +kernel
theorem dX9_two_16 : decode cX9_two 16 = .ok (.iload_n 3, 1) := by decide +kernel
theorem dX9_two_17 : decode cX9_two 17 = .ok (.aload_n 0, 1) := by decide +kernel
theorem dX9_two_18 : decode cX9_two 18 = .ok (.getfield 7, 3) := by decide +kernel
theorem dX9_two_21 : decode cX9_two 21 = .ok (.if_icmp .gt 15, 3) := by decide +kernel
theorem dX9_two_24 : decode cX9_two 24 = .ok (.iload_n 2, 1) := by decide +kernel
theorem dX9_two_25 : decode cX9_two 25 = .ok (.iload_n 3, 1) := by decide +kernel
theorem dX9_two_26 : decode cX9_two 26 = .ok (.iload_n 3, 1) := by decide +kernel
theorem dX9_two_27 : decode cX9_two 27 = .ok (.imul, 1) := by decide +kernel
theorem dX9_two_28 : decode cX9_two 28 = .ok (.iadd, 1) := by decide +kernel
theorem dX9_two_29 : decode cX9_two 29 = .ok (.istore_n 2, 1) := by decide +kernel
theorem dX9_two_30 : decode cX9_two 30 = .ok (.iinc 3 1, 3) := by decide +kernel
theorem dX9_two_33 : decode cX9_two 33 = .ok (.goto (-17), 3) := by decide +kernel
theorem dX9_two_36 : decode cX9_two 36 = .ok (.aload_n 0, 1) := by decide +kernel
theorem dX9_two_37 : decode cX9_two 37 = .ok (.invokevirtual 129, 3) := by decide +kernel
theorem dX9_two_40 : decode cX9_two 40 = .ok (.aload_n 0, 1) := by decide +kernel
theorem dX9_two_41 : decode cX9_two 41 = .ok (.iconst 0, 1) := by decide +kernel
theorem dX9_two_42 : decode cX9_two 42 = .ok (.invokevirtual 125, 3) := by decide +kernel
theorem dX9_two_45 : decode cX9_two 45 = .ok (.isub, 1) := by decide +kernel
theorem dX9_two_46 : decode cX9_two 46 = .ok (.istore_n 3, 1) := by decide +kernel
theorem dX9_two_47 : decode cX9_two 47 = .ok (.iload_n 2, 1) := by decide +kernel
theorem dX9_two_48 : decode cX9_two 48 = .ok (.aload_n 0, 1) := by decide +kernel
theorem dX9_two_49 : decode cX9_two 49 = .ok (.iconst 1, 1) := by decide +kernel
theorem dX9_two_50 : decode cX9_two 50 = .ok (.invokevirtual 125, 3) := by decide +kernel
theorem dX9_two_53 : decode cX9_two 53 = .ok (.isub, 1) := by decide +kernel
theorem dX9_two_54 : decode cX9_two 54 = .ok (.istore_n 2, 1) := by decide +kernel
theorem dX9_two_55 : decode cX9_two 55 = .ok (.iconst 1, 1) := by decide +kernel
theorem dX9_two_56 : decode cX9_two 56 = .ok (.istore 4, 2) := by decide +kernel
theorem dX9_two_58 : decode cX9_two 58 = .ok (.iload 4, 2) := by decide +kernel
theorem dX9_two_60 : decode cX9_two 60 = .ok (.aload_n 0, 1) := by decide +kernel
theorem dX9_two_61 : decode cX9_two 61 = .ok (.getfield 7, 3) := by decide +kernel
theorem dX9_two_64 : decode cX9_two 64 = .ok (.if_icmp .gt 64, 3) := by decide +kernel
theorem dX9_two_67 : decode cX9_two 67 = .ok (.iload_n 3, 1) := by decide +kernel
theorem dX9_two_68 : decode cX9_two 68 = .ok (.iload 4, 2) := by decide +kernel
theorem dX9_two_70 : decode cX9_two 70 = .ok (.isub, 1) := by decide +kernel
theorem dX9_two_71 : decode cX9_two 71 = .ok (.istore 5, 2) := by decide +kernel
theorem dX9_two_73 : decode cX9_two 73 = .ok (.iload 5, 2) := by decide +kernel
theorem dX9_two_75 : decode cX9_two 75 = .ok (.iload 4, 2) := by decide +kernel
theorem dX9_two_77 : decode cX9_two 77 = .ok (.if_icmp .le 45, 3) := by decide +kernel
theorem dX9_two_80 : decode cX9_two 80 = .ok (.iload 5, 2) := by decide +kernel
theorem dX9_two_82 : decode cX9_two 82 = .ok (.aload_n 0, 1) := by decide +kernel
theorem dX9_two_83 : decode cX9_two 83 = .ok (.getfield 7, 3) := by decide +kernel
theorem dX9_two_86 : decode cX9_two 86 = .ok (.if_icmp .gt 36, 3) := by decide +kernel
theorem dX9_two_89 : decode cX9_two 89 = .ok (.iload 4, 2) := by decide +kernel
theorem dX9_two_91 : decode cX9_two 91 = .ok (.iload 4, 2) := by decide +kernel
theorem dX9_two_93 : decode cX9_two 93 = .ok (.imul, 1) := by decide +kernel
theorem dX9_two_94 : decode cX9_two 94 = .ok (.iload 5, 2) := by decide +kernel
theorem dX9_two_96 : decode cX9_two 96 = .ok (.iload 5, 2) := by decide +kernel
theorem dX9_two_98 : decode cX9_two 98 = .ok (.imul, 1) := by decide +kernel
theorem dX9_two_99 : decode cX9_two 99 = .ok (.iadd, 1) := by decide +kernel
theorem dX9_two_100 : decode cX9_two 100 = .ok (.iload_n 2, 1) := by decide +kernel
theorem dX9_two_101 : decode cX9_two 101 = .ok (.if_icmp .ne 21, 3) := by decide +kernel
theorem dX9_two_104 : decode cX9_two 104 = .ok (.iload_n 1, 1) := by decide +kernel
theorem dX9_two_105 : decode cX9_two 105 = .ok (.ifCond .ne 14, 3) := by decide +kernel
theorem dX9_two_108 : decode cX9_two 108 = .ok (.bipush 100, 2) := by decide +kernel
theorem dX9_two_110 : decode cX9_two 110 = .ok (.iload 4, 2) := by decide +kernel
theorem dX9_two_112 : decode cX9_two 112 = .ok (.imul, 1) := by decide +kernel
theorem dX9_two_113 : decode cX9_two 113 = .ok (.iload 5, 2) := by decide +kernel
theorem dX9_two_115 : decode cX9_two 115 = .ok (.iadd, 1) := by decide +kernel
theorem dX9_two_116 : decode cX9_two 116 = .ok (.goto 5, 3) := by decide +kernel
theorem dX9_two_119 : decode cX9_two 119 = .ok (.iload 4, 2) := by decide +kernel
theorem dX9_two_121 : decode cX9_two 121 = .ok (.ireturn, 1) := by decide +kernel
theorem dX9_two_122 : decode cX9_two 122 = .ok (.iinc 4 1, 3) := by decide +kernel
theorem dX9_two_125 : decode cX9_two 125 = .ok (.goto (-67), 3) := by decide +kernel
theorem dX9_two_128 : decode cX9_two 128 = .ok (.iload_n 1, 1) := by decide +kernel
theorem dX9_two_129 : decode cX9_two 129 = .ok (.ifCond .ne 7, 3) := by decide +kernel
theorem dX9_two_132 : decode cX9_two 132 = .ok (.iconst (-1), 1) := by decide +kernel
theorem dX9_two_133 : decode cX9_two 133 = .ok (.goto 7, 3) := by decide +kernel
theorem dX9_two_136 : decode cX9_two 136 = .ok (.aload_n 0, 1) := by decide +kernel
theorem dX9_two_137 : decode cX9_two 137 = .ok (.getfield 7, 3) := by decide +kernel
theorem dX9_two_140 : decode cX9_two 140 = .ok (.ireturn, 1) := by decide +kernel
set_option maxRecDepth 20000 in
theorem ggX9_isByte_X9_in : GoodIn wsX9_isByte wsX9_in := goodIn_r _ [4] rfl (by decide +kernel)
set_option maxRecDepth 20000 in
theorem gX9_isByte_X9_in : GoodIn wsX9_isByte (va_wsS RX9 78 yX9_in wsX9_in) := goodIn_app (goodIn_of _ (by decide +kernel)) ggX9_isByte_X9_in
theorem dX9_isByte_0 : decode cX9_isByte 0 = .ok (.iload_n 0, 1) := by decide +kernel
theorem dX9_isByte_1 : decode cX9_isByte 1 = .ok (.iconst 0, 1) := by decide +kernel
theorem dX9_isByte_2 : decode cX9_isByte 2 = .ok (.sipush 255, 3) := by decide +kernel
theorem dX9_isByte_5 : decode cX9_isByte 5 = .ok (.invokestatic 78, 3) := by decide +kernel
theorem dX9_isByte_8 : decode cX9_isByte 8 = .ok (.ireturn, 1) := by decide +kernel
set_option maxRecDepth 20000 in
theorem ggX9_feed_X9_in : GoodIn wsX9_feed wsX9_in := goodIn_r _ [6] rfl (by decide +kernel)
set_option maxRecDepth 20000 in
theorem gX9_feed_X9_in : GoodIn wsX9_feed (va_wsS RX9 78 yX9_in wsX9_in) := goodIn_app (goodIn_of _ (by decide +kernel)) ggX9_feed_X9_in
set_option maxRecDepth 20000 in
theorem ggX9_feed_X9_isByte : GoodIn wsX9_feed wsX9_isByte := goodIn_r _ [9, 3, 4, 5, 6] rfl (by decide +kernel)
set_option maxRecDepth 20000 in
theorem gX9_feed_X9_isByte : GoodIn wsX9_feed (va_wsS RX9 132 yX9_isByte wsX9_isByte) := goodIn_app (goodIn_of _ (by decide +kernel)) ggX9_feed_X9_isByte
theorem dX9_feed_0 : decode cX9_feed 0 = .ok (.iload_n 1, 1) := by decide +kernel
theorem dX9_feed_1 : decode cX9_feed 1 = .ok (.iconst 1, 1) := by decide +kernel
theorem dX9_feed_2 : decode cX9_feed 2 = .ok (.iconst 5, 1) := by decide +kernel
theorem dX9_feed_3 : decode cX9_feed 3 = .ok (.invokestatic 78, 3) := by decide +kernel
theorem dX9_feed_6 : decode cX9_feed 6 = .ok (.ifCond .eq 41, 3) := by decide +kernel
theorem dX9_feed_9 : decode cX9_feed 9 = .ok (.iload_n 2, 1) := by decide +kernel
theorem dX9_feed_10 : decode cX9_feed 10 = .ok (.invokestatic 132, 3) := by decide +kernel
theorem dX9_feed_13 : decode cX9_feed 13 = .ok (.ifCond .eq 34, 3) := by decide +kernel
theorem dX9_feed_16 : decode cX9_feed 16 = .ok (.iload_n 3, 1) := by decide +kernel
theorem dX9_feed_17 : decode cX9_feed 17 = .ok (.invokestatic 132, 3) := by decide +kernel
theorem dX9_feed_20 : decode cX9_feed 20 = .ok (.ifCond .eq 27, 3) := by decide +kernel
theorem dX9_feed_23 : decode cX9_feed 23 = .ok (.iload 4, 2) := by decide +kernel
theorem dX9_feed_25 : decode cX9_feed 25 = .ok (.invokestatic 132, 3) := by decide +kernel
theorem dX9_feed_28 : decode cX9_feed 28 = .ok (.ifCond .eq 19, 3) := by decide +kernel
theorem dX9_feed_31 : decode cX9_feed 31 = .ok (.iload 5, 2) := by decide +kernel
theorem dX9_feed_33 : decode cX9_feed 33 = .ok (.invokestatic 132, 3) := by decide +kernel
theorem dX9_feed_36 : decode cX9_feed 36 = .ok (.ifCond .eq 11, 3) := by decide +kernel
theorem dX9_feed_39 : decode cX9_feed 39 = .ok (.iload 6, 2) := by decide +kernel
theorem dX9_feed_41 : decode cX9_feed 41 = .ok (.invokestatic 132, 3) := by decide +kernel
theorem dX9_feed_44 : decode cX9_feed 44 = .ok (.ifCond .ne 6, 3) := by decide +kernel
theorem dX9_feed_47 : decode cX9_feed 47 = .ok (.bipush (-2), 2) := by decide +kernel
theorem dX9_feed_49 : decode cX9_feed 49 = .ok (.ireturn, 1) := by decide +kernel
theorem dX9_feed_50 : decode cX9_feed 50 = .ok (.aload_n 0, 1) := by decide +kernel
theorem dX9_feed_51 : decode cX9_feed 51 = .ok (.getfield 71, 3) := by decide +kernel
theorem dX9_feed_54 : decode cX9_feed 54 = .ok (.iload_n 1, 1) := by decide +kernel
theorem dX9_feed_55 : decode cX9_feed 55 = .ok (.iadd, 1) := by decide +kernel
theorem dX9_feed_56 : decode cX9_feed 56 = .ok (.sipush 160, 3) := by decide +kernel
theorem dX9_feed_59 : decode cX9_feed 59 = .ok (.if_icmp .le 6, 3) := by decide +kernel
theorem dX9_feed_62 : decode cX9_feed 62 = .ok (.bipush (-4), 2) := by decide +kernel
theorem dX9_feed_64 : decode cX9_feed 64 = .ok (.ireturn, 1) := by decide +kernel
theorem dX9_feed_65 : decode cX9_feed 65 = .ok (.iconst 0, 1) := by decide +kernel
theorem dX9_feed_66 : decode cX9_feed 66 = .ok (.istore 7, 2) := by decide +kernel
theorem dX9_feed_68 : decode cX9_feed 68 = .ok (.iload 7, 2) := by decide +kernel
theorem dX9_feed_70 : decode cX9_feed 70 = .ok (.iload_n 1, 1) := by decide +kernel
theorem dX9_feed_71 : decode cX9_feed 71 = .ok (.if_icmp .ge 71, 3) := by decide +kernel
theorem dX9_feed_74 : decode cX9_feed 74 = .ok (.aload_n 0, 1) := by decide +kernel
theorem dX9_feed_75 : decode cX9_feed 75 = .ok (.getfield 26, 3) := by decide +kernel
theorem dX9_feed_78 : decode cX9_feed 78 = .ok (.aload_n 0, 1) := by decide +kernel
theorem dX9_feed_79 : decode cX9_feed 79 = .ok (.getfield 71, 3) := by decide +kernel
theorem dX9_feed_82 : decode cX9_feed 82 = .ok (.iload 7, 2) := by decide +kernel
theorem dX9_feed_84 : decode cX9_feed 84 = .ok (.ifCond .ne 7, 3) := by decide +kernel
theorem dX9_feed_87 : decode cX9_feed 87 = .ok (.iload_n 2, 1) := by decide +kernel
theorem dX9_feed_88 : decode cX9_feed 88 = .ok (.goto 37, 3) := by decide +kernel
theorem dX9_feed_91 : decode cX9_feed 91 = .ok (.iload 7, 2) := by decide +kernel
theorem dX9_feed_93 : decode cX9_feed 93 = .ok (.iconst 1, 1) := by decide +kernel
theorem dX9_feed_94 : decode cX9_feed 94 = .ok (.if_icmp .ne 7, 3) := by decide +kernel
theorem dX9_feed_97 : decode cX9_feed 97 = .ok (.iload_n 3, 1) := by decide +kernel
theorem dX9_feed_98 : decode cX9_feed 98 = .ok (.goto 27, 3) := by decide +kernel
theorem dX9_feed_101 : decode cX9_feed 101 = .ok (.iload 7, 2) := by decide +kernel
theorem dX9_feed_103 : decode cX9_feed 103 = .ok (.iconst 2, 1) := by decide +kernel
theorem dX9_feed_104 : decode cX9_feed 104 = .ok (.if_icmp .ne 8, 3) := by decide +kernel
theorem dX9_feed_107 : decode cX9_feed 107 = .ok (.iload 4, 2) := by decide +kernel
theorem dX9_feed_109 : decode cX9_feed 109 = .ok (.goto 16, 3) := by decide +kernel
theorem dX9_feed_112 : decode cX9_feed 112 = .ok (.iload 7, 2) := by decide +kernel
theorem dX9_feed_114 : decode cX9_feed 114 = .ok (.iconst 3, 1) := by decide +kernel
theorem dX9_feed_115 : decode cX9_feed 115 = .ok (.if_icmp .ne 8, 3) := by decide +kernel
theorem dX9_feed_118 : decode cX9_feed 118 = .ok (.iload 5, 2) := by decide +kernel
theorem dX9_feed_120 : decode cX9_feed 120 = .ok (.goto 5, 3) := by decide +kernel
theorem dX9_feed_123 : decode cX9_feed 123 = .ok (.iload 6, 2) := by decide +kernel
theorem dX9_feed_125 : decode cX9_feed 125 = .ok (.iastore, 1) := by decide +kernel
theorem dX9_feed_126 : decode cX9_feed 126 = .ok (.aload_n 0, 1) := by decide +kernel
theorem dX9_feed_127 : decode cX9_feed 127 = .ok (.dup, 1) := by decide +kernel
theorem dX9_feed_128 : decode cX9_feed 128 = .ok (.getfield 71, 3) := by decide +kernel
theorem dX9_feed_131 : decode cX9_feed 131 = .ok (.iconst 1, 1) := by decide +kernel
theorem dX9_feed_132 : decode cX9_feed 132 = .ok (.iadd, 1) := by decide +kernel
theorem dX9_feed_133 : decode cX9_feed 133 = .ok (.putfield 71, 3) := by decide +kernel
theorem dX9_feed_136 : decode cX9_feed 136 = .ok (.iinc 7 1, 3) := by decide +kernel
theorem dX9_feed_139 : decode cX9_feed 139 = .ok (.goto (-71), 3) := by decide +kernel
theorem dX9_feed_142 : decode cX9_feed 142 = .ok (.aload_n 0, 1) := by decide +kernel
theorem dX9_feed_143 : decode cX9_feed 143 = .ok (.getfield 71, 3) := by decide +kernel
theorem dX9_feed_146 : decode cX9_feed 146 = .ok (.ireturn, 1) := by decide +kernel
theorem dX9_wordFrom_0 : decode cX9_wordFrom 0 = .ok (.iconst 0, 1) := by decide +kernel
theorem dX9_wordFrom_1 : decode cX9_wordFrom 1 = .ok (.istore_n 3, 1) := by decide +kernel
theorem dX9_wordFrom_2 : decode cX9_wordFrom 2 = .ok (.iload_n 3, 1) := by decide +kernel
theorem dX9_wordFrom_3 : decode cX9_wordFrom 3 = .ok (.bipush 12, 2) := by decide +kernel
theorem dX9_wordFrom_5 : decode cX9_wordFrom 5 = .ok (.if_icmp .ge 96, 3) := by decide +kernel
theorem dX9_wordFrom_8 : decode cX9_wordFrom 8 = .ok (.iload_n 2, 1) := by decide +kernel
theorem dX9_wordFrom_9 : decode cX9_wordFrom 9 = .ok (.iload_n 1, 1) := by decide +kernel
theorem dX9_wordFrom_10 : decode cX9_wordFrom 10 = .ok (.isub, 1) := by decide +kernel
theorem dX9_wordFrom_11 : decode cX9_wordFrom 11 = .ok (.bipush 8, 2) := by decide +kernel
theorem dX9_wordFrom_13 : decode cX9_wordFrom 13 = .ok (.if_icmp .gt 7, 3) := by decide +kernel
theorem dX9_wordFrom_16 : decode cX9_wordFrom 16 = .ok (.iconst 1, 1) := by decide +kernel
theorem dX9_wordFrom_17 : decode cX9_wordFrom 17 = .ok (.goto 4, 3) := by decide +kernel
theorem dX9_wordFrom_20 : decode cX9_wordFrom 20 = .ok (.iconst 0, 1) := by decide +kernel
theorem dX9_wordFrom_21 : decode cX9_wordFrom 21 = .ok (.istore 4, 2) := by decide +kernel
theorem dX9_wordFrom_23 : decode cX9_wordFrom 23 = .ok (.iconst 0, 1) := by decide +kernel
theorem dX9_wordFrom_24 : decode cX9_wordFrom 24 = .ok (.istore 5, 2) := by decide +kernel
theorem dX9_wordFrom_26 : decode cX9_wordFrom 26 = .ok (.iload 5, 2) := by decide +kernel
theorem dX9_wordFrom_28 : decode cX9_wordFrom 28 = .ok (.bipush 8, 2) := by decide +kernel
theorem dX9_wordFrom_30 : decode cX9_wordFrom 30 = .ok (.if_icmp .ge 58, 3) := by decide +kernel
theorem dX9_wordFrom_33 : decode cX9_wordFrom 33 = .ok (.iload 4, 2) := by decide +kernel
theorem dX9_wordFrom_35 : decode cX9_wordFrom 35 = .ok (.ifCond .eq 53, 3) := by decide +kernel
theorem dX9_wordFrom_38 : decode cX9_wordFrom 38 = .ok (.aload_n 0, 1) := by decide +kernel
theorem dX9_wordFrom_39 : decode cX9_wordFrom 39 = .ok (.getfield 53, 3) := by decide +kernel
theorem dX9_wordFrom_42 : decode cX9_wordFrom 42 = .ok (.bipush 8, 2) := by decide +kernel
theorem dX9_wordFrom_44 : decode cX9_wordFrom 44 = .ok (.iload_n 3, 1) := by decide +kernel
theorem dX9_wordFrom_45 : decode cX9_wordFrom 45 = .ok (.imul, 1) := by decide +kernel
theorem dX9_wordFrom_46 : decode cX9_wordFrom 46 = .ok (.iload 5, 2) := by decide +kernel
theorem dX9_wordFrom_48 : decode cX9_wordFrom 48 = .ok (.iadd, 1) := by decide +kernel
theorem dX9_wordFrom_49 : decode cX9_wordFrom 49 = .ok (.iaload, 1) := by decide +kernel
theorem dX9_wordFrom_50 : decode cX9_wordFrom 50 = .ok (.iload_n 1, 1) := by decide +kernel
theorem dX9_wordFrom_51 : decode cX9_wordFrom 51 = .ok (.iload 5, 2) := by decide +kernel
theorem dX9_wordFrom_53 : decode cX9_wordFrom 53 = .ok (.iadd, 1) := by decide +kernel
theorem dX9_wordFrom_54 : decode cX9_wordFrom 54 = .ok (.iload_n 2, 1) := by decide +kernel
theorem dX9_wordFrom_55 : decode cX9_wordFrom 55 = .ok (.if_icmp .ge 15, 3) := by decide +kernel
theorem dX9_wordFrom_58 : decode cX9_wordFrom 58 = .ok (.aload_n 0, 1) := by decide +kernel
theorem dX9_wordFrom_59 : decode cX9_wordFrom 59 = .ok (.getfield 26, 3) := by decide +kernel
theorem dX9_wordFrom_62 : decode cX9_wordFrom 62 = .ok (.iload_n 1, 1) := by decide +kernel
theorem dX9_wordFrom_63 : decode cX9_wordFrom 63 = .ok (.iload 5, 2) := by decide +kernel
theorem dX9_wordFrom_65 : decode cX9_wordFrom 65 = .ok (.iadd, 1) := by decide +kernel
theorem dX9_wordFrom_66 : decode cX9_wordFrom 66 = .ok (.iaload, 1) := by decide +kernel
theorem dX9_wordFrom_67 : decode cX9_wordFrom 67 = .ok (.goto 5, 3) := by decide +kernel
theorem dX9_wordFrom_70 : decode cX9_wordFrom 70 = .ok (.bipush 32, 2) := by decide +kernel
theorem dX9_wordFrom_72 : decode cX9_wordFrom 72 = .ok (.if_icmp .ne 7, 3) := by decide +kernel
theorem dX9_wordFrom_75 : decode cX9_wordFrom 75 = .ok (.iconst 1, 1) := by decide +kernel
theorem dX9_wordFrom_76 : decode cX9_wordFrom 76 = .ok (.goto 4, 3) := by decide +kernel
theorem dX9_wordFrom_79 : decode cX9_wordFrom 79 = .ok (.iconst 0, 1) := by decide +kernel
theorem dX9_wordFrom_80 : decode cX9_wordFrom 80 = .ok (.istore 4, 2) := by decide +kernel
theorem dX9_wordFrom_82 : decode cX9_wordFrom 82 = .ok (.iinc 5 1, 3) := by decide +kernel
theorem dX9_wordFrom_85 : decode cX9_wordFrom 85 = .ok (.goto (-59), 3) := by decide +kernel
theorem dX9_wordFrom_88 : decode cX9_wordFrom 88 = .ok (.iload 4, 2) := by decide +kernel
theorem dX9_wordFrom_90 : decode cX9_wordFrom 90 = .ok (.ifCond .eq 5, 3) := by decide +kernel
theorem dX9_wordFrom_93 : decode cX9_wordFrom 93 = .ok (.iload_n 3, 1) := by decide +kernel
theorem dX9_wordFrom_94 : decode cX9_wordFrom 94 = .ok (.ireturn, 1) := by decide +kernel
theorem dX9_wordFrom_95 : decode cX9_wordFrom 95 = .ok (.iinc 3 1, 3) := by decide +kernel
theorem dX9_wordFrom_98 : decode cX9_wordFrom 98 = .ok (.goto (-96), 3) := by decide +kernel
theorem dX9_wordFrom_101 : decode cX9_wordFrom 101 = .ok (.bipush 12, 2) := by decide +kernel
theorem dX9_wordFrom_103 : decode cX9_wordFrom 103 = .ok (.ireturn, 1) := by decide +kernel
set_option maxRecDepth 20000 in
theorem ggX9_next_X9_in : GoodIn wsX9_next wsX9_in := goodIn_r _ [10] rfl (by decide +kernel)
set_option maxRecDepth 20000 in
theorem gX9_next_X9_in : GoodIn wsX9_next (va_wsS RX9 78 yX9_in wsX9_in) := goodIn_app (goodIn_of _ (by decide +kernel)) ggX9_next_X9_in
set_option maxRecDepth 20000 in
theorem ggX9_next_X9_wordFrom : GoodIn wsX9_next wsX9_wordFrom := goodIn_r _ [14, 15, 3, 16, 17, 18, 19, 20, 21, 22, 23, 24, 25, 26, 27, 28, 29, 30, 31, 32, 33, 34, 35, 36, 37, 38, 39, 40, 41, 42, 43, 44, 45, 46, 47, 48, 49, 50, 51, 52, 53, 54, 55, 56] rfl (by decide +kernel)
set_option maxRecDepth 20000 in
theorem gX9_next_X9_wordFrom : GoodIn wsX9_next (wsV RX9 147 RX9 yX9_wordFrom wsX9_wordFrom) := goodIn_app (goodIn_of _ (by decide +kernel)) ggX9_next_X9_wordFrom
theorem dX9_next_0 : decode cX9_next 0 = .ok (.aload_n 0, 1) := by decide +kernel
theorem dX9_next_1 : decode cX9_next 1 = .ok (.getfield 135, 3) := by decide +kernel
theorem dX9_next_4 : decode cX9_next 4 = .ok (.aload_n 0, 1) := by decide +kernel
theorem dX9_next_5 : decode cX9_next 5 = .ok (.getfield 71, 3) := by decide +kernel
theorem dX9_next_8 : decode cX9_next 8 = .ok (.if_icmp .ge 44, 3) := by decide +kernel
theorem dX9_next_11 : decode cX9_next 11 = .ok (.aload_n 0, 1) := by decide +kernel
theorem dX9_next_12 : decode cX9_next 12 = .ok (.getfield 26, 3) := by decide +kernel
theorem dX9_next_15 : decode cX9_next 15 = .ok (.aload_n 0, 1) := by decide +kernel
theorem dX9_next_16 : decode cX9_next 16 = .ok (.getfield 135, 3) := by decide +kernel
theorem dX9_next_19 : decode cX9_next 19 = .ok (.iaload, 1) := by decide +kernel
theorem dX9_next_20 : decode cX9_next 20 = .ok (.bipush 32, 2) := by decide +kernel
theorem dX9_next_22 : decode cX9_next 22 = .ok (.if_icmp .eq 17, 3) := by decide +kernel
theorem dX9_next_25 : decode cX9_next 25 = .ok (.aload_n 0, 1) := by decide +kernel
theorem dX9_next_26 : decode cX9_next 26 = .ok (.getfield 26, 3) := by decide +kernel
theorem dX9_next_29 : decode cX9_next 29 = .ok (.aload_n 0, 1) := by decide +kernel
theorem dX9_next_30 : decode cX9_next 30 = .ok (.getfield 135, 3) := by decide +kernel
theorem dX9_next_33 : decode cX9_next 33 = .ok (.iaload, 1) := by decide +kernel
theorem dX9_next_34 : decode cX9_next 34 = .ok (.bipush 10, 2) := by decide +kernel
theorem dX9_next_36 : decode cX9_next 36 = .ok (.if_icmp .ne 16, 3) := by decide +kernel
theorem dX9_next_39 : decode cX9_next 39 = .ok (.aload_n 0, 1) := by decide +kernel
theorem dX9_next_40 : decode cX9_next 40 = .ok (.dup, 1) := by decide +kernel
theorem dX9_next_41 : decode cX9_next 41 = .ok (.getfield 135, 3) := by decide +kernel
theorem dX9_next_44 : decode cX9_next 44 = .ok (.iconst 1, 1) := by decide +kernel
theorem dX9_next_45 : decode cX9_next 45 = .ok (.iadd, 1) := by decide +kernel
theorem dX9_next_46 : decode cX9_next 46 = .ok (.putfield 135, 3) := by decide +kernel
theorem dX9_next_49 : decode cX9_next 49 = .ok (.goto (-49), 3) := by decide +kernel
theorem dX9_next_52 : decode cX9_next 52 = .ok (.aload_n 0, 1) := by decide +kernel
theorem dX9_next_53 : decode cX9_next 53 = .ok (.aload_n 0, 1) := by decide +kernel
theorem dX9_next_54 : decode cX9_next 54 = .ok (.getfield 135, 3) := by decide +kernel
theorem dX9_next_57 : decode cX9_next 57 = .ok (.putfield 138, 3) := by decide +kernel
theorem dX9_next_60 : decode cX9_next 60 = .ok (.aload_n 0, 1) := by decide +kernel
theorem dX9_next_61 : decode cX9_next 61 = .ok (.iconst 0, 1) := by decide +kernel
theorem dX9_next_62 : decode cX9_next 62 = .ok (.putfield 141, 3) := by decide +kernel
theorem dX9_next_65 : decode cX9_next 65 = .ok (.aload_n 0, 1) := by decide +kernel
theorem dX9_next_66 : decode cX9_next 66 = .ok (.iconst 0, 1) := by decide +kernel
theorem dX9_next_67 : decode cX9_next 67 = .ok (.putfield 144, 3) := by decide +kernel
theorem dX9_next_70 : decode cX9_next 70 = .ok (.aload_n 0, 1) := by decide +kernel
theorem dX9_next_71 : decode cX9_next 71 = .ok (.getfield 135, 3) := by decide +kernel
theorem dX9_next_74 : decode cX9_next 74 = .ok (.aload_n 0, 1) := by decide +kernel
theorem dX9_next_75 : decode cX9_next 75 = .ok (.getfield 71, 3) := by decide +kernel
theorem dX9_next_78 : decode cX9_next 78 = .ok (.if_icmp .ne 4, 3) := by decide +kernel
theorem dX9_next_81 : decode cX9_next 81 = .ok (.return_, 1) := by decide +kernel
theorem dX9_next_82 : decode cX9_next 82 = .ok (.aload_n 0, 1) := by decide +kernel
theorem dX9_next_83 : decode cX9_next 83 = .ok (.getfield 26, 3) := by decide +kernel
theorem dX9_next_86 : decode cX9_next 86 = .ok (.aload_n 0, 1) := by decide +kernel
theorem dX9_next_87 : decode cX9_next 87 = .ok (.getfield 135, 3) := by decide +kernel
theorem dX9_next_90 : decode cX9_next 90 = .ok (.iaload, 1) := by decide +kernel
theorem dX9_next_91 : decode cX9_next 91 = .ok (.istore_n 1, 1) := by decide +kernel
theorem dX9_next_92 : decode cX9_next 92 = .ok (.iload_n 1, 1) := by decide +kernel
theorem dX9_next_93 : decode cX9_next 93 = .ok (.bipush 97, 2) := by decide +kernel
theorem dX9_next_95 : decode cX9_next 95 = .ok (.bipush 122, 2) := by decide +kernel
theorem dX9_next_97 : decode cX9_next 97 = .ok (.invokestatic 78, 3) := by decide +kernel
theorem dX9_next_100 : decode cX9_next 100 = .ok (.ifCond .eq 117, 3) := by decide +kernel
theorem dX9_next_103 : decode cX9_next 103 = .ok (.aload_n 0, 1) := by decide +kernel
theorem dX9_next_104 : decode cX9_next 104 = .ok (.getfield 135, 3) := by decide +kernel
theorem dX9_next_107 : decode cX9_next 107 = .ok (.aload_n 0, 1) := by decide +kernel
theorem dX9_next_108 : decode cX9_next 108 = .ok (.getfield 71, 3) := by decide +kernel
theorem dX9_next_111 : decode cX9_next 111 = .ok (.if_icmp .ge 35, 3) := by decide +kernel
theorem dX9_next_114 : decode cX9_next 114 = .ok (.aload_n 0, 1) := by decide +kernel
theorem dX9_next_115 : decode cX9_next 115 = .ok (.getfield 26, 3) := by decide +kernel
theorem dX9_next_118 : decode cX9_next 118 = .ok (.aload_n 0, 1) := by decide +kernel
theorem dX9_next_119 : decode cX9_next 119 = .ok (.getfield 135, 3) := by decide +kernel
theorem dX9_next_122 : decode cX9_next 122 = .ok (.iaload, 1) := by decide +kernel
theorem dX9_next_123 : decode cX9_next 123 = .ok (.bipush 97, 2) := by decide +kernel
theorem dX9_next_125 : decode cX9_next 125 = .ok (.bipush 122, 2) := by decide +kernel
theorem dX9_next_127 : decode cX9_next 127 = .ok (.invokestatic 78, 3) := by decide +kernel
theorem dX9_next_130 : decode cX9_next 130 = .ok (.ifCond .eq 16, 3) := by decide +kernel
theorem dX9_next_133 : decode cX9_next 133 = .ok (.aload_n 0, 1) := by decide +kernel
theorem dX9_next_134 : decode cX9_next 134 = .ok (.dup, 1) := by decide +kernel
theorem dX9_next_135 : decode cX9_next 135 = .ok (.getfield 135, 3) := by decide +kernel
theorem dX9_next_138 : decode cX9_next 138 = .ok (.iconst 1, 1) := by decide +kernel
theorem dX9_next_139 : decode cX9_next 139 = .ok (.iadd, 1) := by decide +kernel
theorem dX9_next_140 : decode cX9_next 140 = .ok (.putfield 135, 3) := by decide +kernel
theorem dX9_next_143 : decode cX9_next 143 = .ok (.goto (-40), 3) := by decide +kernel
theorem dX9_next_146 : decode cX9_next 146 = .ok (.aload_n 0, 1) := by decide +kernel
theorem dX9_next_147 : decode cX9_next 147 = .ok (.aload_n 0, 1) := by decide +kernel
theorem dX9_next_148 : decode cX9_next 148 = .ok (.getfield 138, 3) := by decide +kernel
theorem dX9_next_151 : decode cX9_next 151 = .ok (.aload_n 0, 1) := by decide +kernel
theorem dX9_next_152 : decode cX9_next 152 = .ok (.getfield 135, 3) := by decide +kernel
theorem dX9_next_155 : decode cX9_next 155 = .ok (.invokevirtual 147, 3) := by decide +kernel
theorem dX9_next_158 : decode cX9_next 158 = .ok (.istore_n 2, 1) := by decide +kernel
theorem dX9_next_159 : decode cX9_next 159 = .ok (.aload_n 0, 1) := by decide +kernel
theorem dX9_next_160 : decode cX9_next 160 = .ok (.iload_n 2, 1) := by decide +kernel
theorem dX9_next_161 : decode cX9_next 161 = .ok (.iconst 3, 1) := by decide +kernel
theorem dX9_next_162 : decode cX9_next 162 = .ok (.if_icmp .ge 7, 3) := by decide +kernel
theorem dX9_next_165 : decode cX9_next 165 = .ok (.iconst 3, 1) := by decide +kernel
theorem dX9_next_166 : decode cX9_next 166 = .ok (.goto 29, 3) := by decide +kernel
theorem dX9_next_169 : decode cX9_next 169 = .ok (.iload_n 2, 1) := by decide +kernel
theorem dX9_next_170 : decode cX9_next 170 = .ok (.bipush 9, 2) := by decide +kernel
theorem dX9_next_172 : decode cX9_next 172 = .ok (.if_icmp .ge 7, 3) := by decide +kernel
theorem dX9_next_175 : decode cX9_next 175 = .ok (.iconst 2, 1) := by decide +kernel
theorem dX9_next_176 : decode cX9_next 176 = .ok (.goto 19, 3) := by decide +kernel
theorem dX9_next_179 : decode cX9_next 179 = .ok (.iload_n 2, 1) := by decide +kernel
theorem dX9_next_180 : decode cX9_next 180 = .ok (.bipush 12, 2) := by decide +kernel
theorem dX9_next_182 : decode cX9_next 182 = .ok (.if_icmp .ne 7, 3) := by decide +kernel
theorem dX9_next_185 : decode cX9_next 185 = .ok (.iconst (-1), 1) := by decide +kernel
theorem dX9_next_186 : decode cX9_next 186 = .ok (.goto 9, 3) := by decide +kernel
theorem dX9_next_189 : decode cX9_next 189 = .ok (.iconst 4, 1) := by decide +kernel
theorem dX9_next_190 : decode cX9_next 190 = .ok (.iload_n 2, 1) := by decide +kernel
theorem dX9_next_191 : decode cX9_next 191 = .ok (.iadd, 1) := by decide +kernel
theorem dX9_next_192 : decode cX9_next 192 = .ok (.bipush 9, 2) := by decide +kernel
theorem dX9_next_194 : decode cX9_next 194 = .ok (.isub, 1) := by decide +kernel
theorem dX9_next_195 : decode cX9_next 195 = .ok (.putfield 141, 3) := by decide +kernel
theorem dX9_next_198 : decode cX9_next 198 = .ok (.aload_n 0, 1) := by decide +kernel
theorem dX9_next_199 : decode cX9_next 199 = .ok (.iload_n 2, 1) := by decide +kernel
theorem dX9_next_200 : decode cX9_next 200 = .ok (.iconst 3, 1) := by decide +kernel
theorem dX9_next_201 : decode cX9_next 201 = .ok (.if_icmp .ge 7, 3) := by decide +kernel
theorem dX9_next_204 : decode cX9_next 204 = .ok (.iload_n 2, 1) := by decide +kernel
theorem dX9_next_205 : decode cX9_next 205 = .ok (.goto 6, 3) := by decide +kernel
theorem dX9_next_208 : decode cX9_next 208 = .ok (.iload_n 2, 1) := by decide +kernel
theorem dX9_next_209 : decode cX9_next 209 = .ok (.iconst 3, 1) := by decide +kernel
theorem dX9_next_210 : decode cX9_next 210 = .ok (.isub, 1) := by decide +kernel
theorem dX9_next_211 : decode cX9_next 211 = .ok (.putfield 144, 3) := by decide +kernel
theorem dX9_next_214 : decode cX9_next 214 = .ok (.goto 189, 3) := by decide +kernel
theorem dX9_next_217 : decode cX9_next 217 = .ok (.iload_n 1, 1) := by decide +kernel
theorem dX9_next_218 : decode cX9_next 218 = .ok (.bipush 48, 2) := by decide +kernel
theorem dX9_next_220 : decode cX9_next 220 = .ok (.bipush 57, 2) := by decide +kernel
theorem dX9_next_222 : decode cX9_next 222 = .ok (.invokestatic 78, 3) := by decide +kernel
theorem dX9_next_225 : decode cX9_next 225 = .ok (.ifCond .eq 101, 3) := by decide +kernel
theorem dX9_next_228 : decode cX9_next 228 = .ok (.iconst 0, 1) := by decide +kernel
theorem dX9_next_229 : decode cX9_next 229 = .ok (.istore_n 2, 1) := by decide +kernel
theorem dX9_next_230 : decode cX9_next 230 = .ok (.aload_n 0, 1) := by decide +kernel
theorem dX9_next_231 : decode cX9_next 231 = .ok (.getfield 135, 3) := by decide +kernel
theorem dX9_next_234 : decode cX9_next 234 = .ok (.aload_n 0, 1) := by decide +kernel
theorem dX9_next_235 : decode cX9_next 235 = .ok (.getfield 71, 3) := by decide +kernel
theorem dX9_next_238 : decode cX9_next 238 = .ok (.if_icmp .ge 71, 3) := by decide +kernel
theorem dX9_next_241 : decode cX9_next 241 = .ok (.aload_n 0, 1) := by decide +kernel
theorem dX9_next_242 : decode cX9_next 242 = .ok (.getfield 26, 3) := by decide +kernel
theorem dX9_next_245 : decode cX9_next 245 = .ok (.aload_n 0, 1) := by decide +kernel
theorem dX9_next_246 : decode cX9_next 246 = .ok (.getfield 135, 3) := by decide +kernel
theorem dX9_next_249 : decode cX9_next 249 = .ok (.iaload, 1) := by decide +kernel
theorem dX9_next_250 : decode cX9_next 250 = .ok (.bipush 48, 2) := by decide +kernel
theorem dX9_next_252 : decode cX9_next 252 = .ok (.bipush 57, 2) := by decide +kernel
theorem dX9_next_254 : decode cX9_next 254 = .ok (.invokestatic 78, 3) := by decide +kernel
theorem dX9_next_257 : decode cX9_next 257 = .ok (.ifCond .eq 52, 3) := by decide +kernel
theorem dX9_next_260 : decode cX9_next 260 = .ok (.aload_n 0, 1) := by decide +kernel
theorem dX9_next_261 : decode cX9_next 261 = .ok (.iload_n 2, 1) := by decide +kernel
theorem dX9_next_262 : decode cX9_next 262 = .ok (.iconst 4, 1) := by decide +kernel
theorem dX9_next_263 : decode cX9_next 263 = .ok (.if_icmp .ge 26, 3) := by decide +kernel
theorem dX9_next_266 : decode cX9_next 266 = .ok (.bipush 10, 2) := by decide +kernel
theorem dX9_next_268 : decode cX9_next 268 = .ok (.aload_n 0, 1) := by decide +kernel
theorem dX9_next_269 : decode cX9_next 269 = .ok (.getfield 144, 3) := by decide +kernel
theorem dX9_next_272 : decode cX9_next 272 = .ok (.imul, 1) := by decide +kernel
theorem dX9_next_273 : decode cX9_next 273 = .ok (.aload_n 0, 1) := by decide +kernel
theorem dX9_next_274 : decode cX9_next 274 = .ok (.getfield 26, 3) := by decide +kernel
theorem dX9_next_277 : decode cX9_next 277 = .ok (.aload_n 0, 1) := by decide +kernel
theorem dX9_next_278 : decode cX9_next 278 = .ok (.getfield 135, 3) := by decide +kernel
theorem dX9_next_281 : decode cX9_next 281 = .ok (.iaload, 1) := by decide +kernel
theorem dX9_next_282 : decode cX9_next 282 = .ok (.iadd, 1) := by decide +kernel
theorem dX9_next_283 : decode cX9_next 283 = .ok (.bipush 48, 2) := by decide +kernel
theorem dX9_next_285 : decode cX9_next 285 = .ok (.isub, 1) := by decide +kernel
theorem dX9_next_286 : decode cX9_next 286 = .ok (.goto 4, 3) := by decide +kernel
theorem dX9_next_289 : decode cX9_next 289 = .ok (.iconst 0, 1) := by decide +kernel
theorem dX9_next_290 : decode cX9_next 290 = .ok (.putfield 144, 3) := by decide +kernel
theorem dX9_next_293 : decode cX9_next 293 = .ok (.iinc 2 1, 3) := by decide +kernel
theorem dX9_next_296 : decode cX9_next 296 = .ok (.aload_n 0, 1) := by decide +kernel
theorem dX9_next_297 : decode cX9_next 297 = .ok (.dup, 1) := by decide +kernel
theorem dX9_next_298 : decode cX9_next 298 = .ok (.getfield 135, 3) := by decide +kernel
theorem dX9_next_301 : decode cX9_next 301 = .ok (.iconst 1, 1) := by decide +kernel
theorem dX9_next_302 : decode cX9_next 302 = .ok (.iadd, 1) := by decide +kernel
theorem dX9_next_303 : decode cX9_next 303 = .ok (.putfield 135, 3) := by decide +kernel
theorem dX9_next_306 : decode cX9_next 306 = .ok (.goto (-76), 3) := by decide +kernel
theorem dX9_next_309 : decode cX9_next 309 = .ok (.aload_n 0, 1) := by decide +kernel
theorem dX9_next_310 : decode cX9_next 310 = .ok (.iload_n 2, 1) := by decide +kernel
theorem dX9_next_311 : decode cX9_next 311 = .ok (.iconst 4, 1) := by decide +kernel
theorem dX9_next_312 : decode cX9_next 312 = .ok (.if_icmp .le 7, 3) := by decide +kernel
theorem dX9_next_315 : decode cX9_next 315 = .ok (.iconst (-1), 1) := by decide +kernel
theorem dX9_next_316 : decode cX9_next 316 = .ok (.goto 4, 3) := by decide +kernel
theorem dX9_next_319 : decode cX9_next 319 = .ok (.iconst 1, 1) := by decide +kernel
theorem dX9_next_320 : decode cX9_next 320 = .ok (.putfield 141, 3) := by decide +kernel
theorem dX9_next_323 : decode cX9_next 323 = .ok (.goto 80, 3) := by decide +kernel
theorem dX9_next_326 : decode cX9_next 326 = .ok (.iload_n 1, 1) := by decide +kernel
theorem dX9_next_327 : decode cX9_next 327 = .ok (.bipush 40, 2) := by decide +kernel
theorem dX9_next_329 : decode cX9_next 329 = .ok (.if_icmp .eq 45, 3) := by decide +kernel
theorem dX9_next_332 : decode cX9_next 332 = .ok (.iload_n 1, 1) := by decide +kernel
theorem dX9_next_333 : decode cX9_next 333 = .ok (.bipush 41, 2) := by decide +kernel
theorem dX9_next_335 : decode cX9_next 335 = .ok (.if_icmp .eq 39, 3) := by decide +kernel
theorem dX9_next_338 : decode cX9_next 338 = .ok (.iload_n 1, 1) := by decide +kernel
theorem dX9_next_339 : decode cX9_next 339 = .ok (.bipush 59, 2) := by decide +kernel
theorem dX9_next_341 : decode cX9_next 341 = .ok (.if_icmp .eq 33, 3) := by decide +kernel
theorem dX9_next_344 : decode cX9_next 344 = .ok (.iload_n 1, 1) := by decide +kernel
theorem dX9_next_345 : decode cX9_next 345 = .ok (.bipush 43, 2) := by decide +kernel
theorem dX9_next_347 : decode cX9_next 347 = .ok (.if_icmp .eq 27, 3) := by decide +kernel
theorem dX9_next_350 : decode cX9_next 350 = .ok (.iload_n 1, 1) := by decide +kernel
theorem dX9_next_351 : decode cX9_next 351 = .ok (.bipush 45, 2) := by decide +kernel
theorem dX9_next_353 : decode cX9_next 353 = .ok (.if_icmp .eq 21, 3) := by decide +kernel
theorem dX9_next_356 : decode cX9_next 356 = .ok (.iload_n 1, 1) := by decide +kernel
theorem dX9_next_357 : decode cX9_next 357 = .ok (.bipush 42, 2) := by decide +kernel
theorem dX9_next_359 : decode cX9_next 359 = .ok (.if_icmp .eq 15, 3) := by decide +kernel
theorem dX9_next_362 : decode cX9_next 362 = .ok (.iload_n 1, 1) := by decide +kernel
theorem dX9_next_363 : decode cX9_next 363 = .ok (.bipush 60, 2) := by decide +kernel
theorem dX9_next_365 : decode cX9_next 365 = .ok (.if_icmp .eq 9, 3) := by decide +kernel
theorem dX9_next_368 : decode cX9_next 368 = .ok (.iload_n 1, 1) := by decide +kernel
theorem dX9_next_369 : decode cX9_next 369 = .ok (.bipush 61, 2) := by decide +kernel
theorem dX9_next_371 : decode cX9_next 371 = .ok (.if_icmp .ne 7, 3) := by decide +kernel
theorem dX9_next_374 : decode cX9_next 374 = .ok (.iconst 1, 1) := by decide +kernel
theorem dX9_next_375 : decode cX9_next 375 = .ok (.goto 4, 3) := by decide +kernel
theorem dX9_next_378 : decode cX9_next 378 = .ok (.iconst 0, 1) := by decide +kernel
theorem dX9_next_379 : decode cX9_next 379 = .ok (.istore_n 2, 1) := by decide +kernel
theorem dX9_next_380 : decode cX9_next 380 = .ok (.aload_n 0, 1) := by decide +kernel
theorem dX9_next_381 : decode cX9_next 381 = .ok (.iload_n 2, 1) := by decide +kernel
theorem dX9_next_382 : decode cX9_next 382 = .ok (.ifCond .eq 7, 3) := by decide +kernel
theorem dX9_next_385 : decode cX9_next 385 = .ok (.iload_n 1, 1) := by decide +kernel
theorem dX9_next_386 : decode cX9_next 386 = .ok (.goto 4, 3) := by decide +kernel
theorem dX9_next_389 : decode cX9_next 389 = .ok (.iconst (-1), 1) := by decide +kernel
theorem dX9_next_390 : decode cX9_next 390 = .ok (.putfield 141, 3) := by decide +kernel
theorem dX9_next_393 : decode cX9_next 393 = .ok (.aload_n 0, 1) := by decide +kernel
theorem dX9_next_394 : decode cX9_next 394 = .ok (.dup, 1) := by decide +kernel
theorem dX9_next_395 : decode cX9_next 395 = .ok (.getfield 135, 3) := by decide +kernel
theorem dX9_next_398 : decode cX9_next 398 = .ok (.iconst 1, 1) := by decide +kernel
theorem dX9_next_399 : decode cX9_next 399 = .ok (.iadd, 1) := by decide +kernel
theorem dX9_next_400 : decode cX9_next 400 = .ok (.putfield 135, 3) := by decide +kernel
theorem dX9_next_403 : decode cX9_next 403 = .ok (.return_, 1) := by decide +kernel
theorem dX9_rank_0 : decode cX9_rank 0 = .ok (.iload_n 0, 1) := by decide +kernel
theorem dX9_rank_1 : decode cX9_rank 1 = .ok (.ifCond .ne 7, 3) := by decide +kernel
theorem dX9_rank_4 : decode cX9_rank 4 = .ok (.iconst 0, 1) := by decide +kernel
theorem dX9_rank_5 : decode cX9_rank 5 = .ok (.goto 66, 3) := by decide +kernel
theorem dX9_rank_8 : decode cX9_rank 8 = .ok (.iload_n 0, 1) := by decide +kernel
theorem dX9_rank_9 : decode cX9_rank 9 = .ok (.bipush 11, 2) := by decide +kernel
theorem dX9_rank_11 : decode cX9_rank 11 = .ok (.if_icmp .ne 7, 3) := by decide +kernel
theorem dX9_rank_14 : decode cX9_rank 14 = .ok (.iconst 1, 1) := by decide +kernel
theorem dX9_rank_15 : decode cX9_rank 15 = .ok (.goto 56, 3) := by decide +kernel
theorem dX9_rank_18 : decode cX9_rank 18 = .ok (.iload_n 0, 1) := by decide +kernel
theorem dX9_rank_19 : decode cX9_rank 19 = .ok (.bipush 12, 2) := by decide +kernel
theorem dX9_rank_21 : decode cX9_rank 21 = .ok (.if_icmp .ne 7, 3) := by decide +kernel
theorem dX9_rank_24 : decode cX9_rank 24 = .ok (.iconst 2, 1) := by decide +kernel
theorem dX9_rank_25 : decode cX9_rank 25 = .ok (.goto 46, 3) := by decide +kernel
theorem dX9_rank_28 : decode cX9_rank 28 = .ok (.iload_n 0, 1) := by decide +kernel
theorem dX9_rank_29 : decode cX9_rank 29 = .ok (.bipush 13, 2) := by decide +kernel
theorem dX9_rank_31 : decode cX9_rank 31 = .ok (.if_icmp .ne 7, 3) := by decide +kernel
theorem dX9_rank_34 : decode cX9_rank 34 = .ok (.iconst 3, 1) := by decide +kernel
theorem dX9_rank_35 : decode cX9_rank 35 = .ok (.goto 36, 3) := by decide +kernel
theorem dX9_rank_38 : decode cX9_rank 38 = .ok (.iload_n 0, 1) := by decide +kernel
theorem dX9_rank_39 : decode cX9_rank 39 = .ok (.bipush 15, 2) := by decide +kernel
theorem dX9_rank_41 : decode cX9_rank 41 = .ok (.if_icmp .gt 7, 3) := by decide +kernel
theorem dX9_rank_44 : decode cX9_rank 44 = .ok (.iconst 4, 1) := by decide +kernel
theorem dX9_rank_45 : decode cX9_rank 45 = .ok (.goto 26, 3) := by decide +kernel
theorem dX9_rank_48 : decode cX9_rank 48 = .ok (.iload_n 0, 1) := by decide +kernel
theorem dX9_rank_49 : decode cX9_rank 49 = .ok (.bipush 17, 2) := by decide +kernel
theorem dX9_rank_51 : decode cX9_rank 51 = .ok (.if_icmp .gt 7, 3) := by decide +kernel
theorem dX9_rank_54 : decode cX9_rank 54 = .ok (.iconst 5, 1) := by decide +kernel
theorem dX9_rank_55 : decode cX9_rank 55 = .ok (.goto 16, 3) := by decide +kernel
theorem dX9_rank_58 : decode cX9_rank 58 = .ok (.iload_n 0, 1) := by decide +kernel
theorem dX9_rank_59 : decode cX9_rank 59 = .ok (.bipush 18, 2) := by decide +kernel
theorem dX9_rank_61 : decode cX9_rank 61 = .ok (.if_icmp .ne 8, 3) := by decide +kernel
theorem dX9_rank_64 : decode cX9_rank 64 = .ok (.bipush 6, 2) := by decide +kernel
theorem dX9_rank_66 : decode cX9_rank 66 = .ok (.goto 5, 3) := by decide +kernel
theorem dX9_rank_69 : decode cX9_rank 69 = .ok (.bipush 7, 2) := by decide +kernel
theorem dX9_rank_71 : decode cX9_rank 71 = .ok (.ireturn, 1) := by decide +kernel
theorem dX9_puts_0 : decode cX9_puts 0 = .ok (.aload_n 0, 1) := by decide +kernel
theorem dX9_puts_1 : decode cX9_puts 1 = .ok (.getfield 29, 3) := by decide +kernel
theorem dX9_puts_4 : decode cX9_puts 4 = .ok (.sipush 200, 3) := by decide +kernel
theorem dX9_puts_7 : decode cX9_puts 7 = .ok (.aload_n 0, 1) := by decide +kernel
theorem dX9_puts_8 : decode cX9_puts 8 = .ok (.getfield 88, 3) := by decide +kernel
theorem dX9_puts_11 : decode cX9_puts 11 = .ok (.imul, 1) := by decide +kernel
theorem dX9_puts_12 : decode cX9_puts 12 = .ok (.aload_n 0, 1) := by decide +kernel
theorem dX9_puts_13 : decode cX9_puts 13 = .ok (.getfield 151, 3) := by decide +kernel
theorem dX9_puts_16 : decode cX9_puts 16 = .ok (.iadd, 1) := by decide +kernel
theorem dX9_puts_17 : decode cX9_puts 17 = .ok (.iload_n 1, 1) := by decide +kernel
theorem dX9_puts_18 : decode cX9_puts 18 = .ok (.iastore, 1) := by decide +kernel
theorem dX9_puts_19 : decode cX9_puts 19 = .ok (.aload_n 0, 1) := by decide +kernel
theorem dX9_puts_20 : decode cX9_puts 20 = .ok (.dup, 1) := by decide +kernel
theorem dX9_puts_21 : decode cX9_puts 21 = .ok (.getfield 151, 3) := by decide +kernel
theorem dX9_puts_24 : decode cX9_puts 24 = .ok (.iconst 1, 1) := by decide +kernel
theorem dX9_puts_25 : decode cX9_puts 25 = .ok (.iadd, 1) := by decide +kernel
theorem dX9_puts_26 : decode cX9_puts 26 = .ok (.putfield 151, 3) := by decide +kernel
theorem dX9_puts_29 : decode cX9_puts 29 = .ok (.return_, 1) := by decide +kernel
set_option maxRecDepth 20000 in
theorem ggX9_unwinds_X9_rank : GoodIn wsX9_unwinds wsX9_rank := goodIn_r _ [7] rfl (by decide +kernel)
set_option maxRecDepth 20000 in
theorem gX9_unwinds_X9_rank : GoodIn wsX9_unwinds (va_wsS RX9 157 yX9_rank wsX9_rank) := goodIn_app (goodIn_of _ (by decide +kernel)) ggX9_unwinds_X9_rank
set_option maxRecDepth 20000 in
theorem ggX9_unwinds_X9_puts : GoodIn wsX9_unwinds wsX9_puts := goodIn_r _ [11, 12, 13, 14, 15, 16, 17, 18, 19, 20, 21, 22, 23, 24, 25, 26, 27, 28, 29, 30, 31, 32, 33, 34, 35, 36, 37, 38, 39, 40, 41, 42, 43, 44, 45, 46, 47, 48, 49, 50, 51, 52, 53, 54, 55] rfl (by decide +kernel)
set_option maxRecDepth 20000 in
theorem gX9_unwinds_X9_puts : GoodIn wsX9_unwinds (wsV RX9 163 RX9 yX9_puts wsX9_puts) := goodIn_app (goodIn_of _ (by decide +kernel)) ggX9_unwinds_X9_puts
theorem dX9_unwinds_0 : decode cX9_unwinds 0 = .ok (.aload_n 0, 1) := by decide +kernel
theorem dX9_unwinds_1 : decode cX9_unwinds 1 = .ok (.getfield 154, 3) := by decide +kernel
theorem dX9_unwinds_4 : decode cX9_unwinds 4 = .ok (.ifCond .le 75, 3) := by decide +kernel
theorem dX9_unwinds_7 : decode cX9_unwinds 7 = .ok (.aload_n 0, 1) := by decide +kernel
theorem dX9_unwinds_8 : decode cX9_unwinds 8 = .ok (.getfield 56, 3) := by decide +kernel
theorem dX9_unwinds_11 : decode cX9_unwinds 11 = .ok (.aload_n 0, 1) := by decide +kernel
theorem dX9_unwinds_12 : decode cX9_unwinds 12 = .ok (.getfield 154, 3) := by decide +kernel
theorem dX9_unwinds_15 : decode cX9_unwinds 15 = .ok (.iconst 1, 1) := by decide +kernel
theorem dX9_unwinds_16 : decode cX9_unwinds 16 = .ok (.isub, 1) := by decide +kernel
theorem dX9_unwinds_17 : decode cX9_unwinds 17 = .ok (.iaload, 1) := by decide +kernel
theorem dX9_unwinds_18 : decode cX9_unwinds 18 = .ok (.invokestatic 157, 3) := by decide +kernel
theorem dX9_unwinds_21 : decode cX9_unwinds 21 = .ok (.iload_n 1, 1) := by decide +kernel
theorem dX9_unwinds_22 : decode cX9_unwinds 22 = .ok (.if_icmp .lt 57, 3) := by decide +kernel
theorem dX9_unwinds_25 : decode cX9_unwinds 25 = .ok (.aload_n 0, 1) := by decide +kernel
theorem dX9_unwinds_26 : decode cX9_unwinds 26 = .ok (.dup, 1) := by decide +kernel
theorem dX9_unwinds_27 : decode cX9_unwinds 27 = .ok (.getfield 154, 3) := by decide +kernel
theorem dX9_unwinds_30 : decode cX9_unwinds 30 = .ok (.iconst 1, 1) := by decide +kernel
theorem dX9_unwinds_31 : decode cX9_unwinds 31 = .ok (.isub, 1) := by decide +kernel
theorem dX9_unwinds_32 : decode cX9_unwinds 32 = .ok (.putfield 154, 3) := by decide +kernel
theorem dX9_unwinds_35 : decode cX9_unwinds 35 = .ok (.aload_n 0, 1) := by decide +kernel
theorem dX9_unwinds_36 : decode cX9_unwinds 36 = .ok (.getfield 56, 3) := by decide +kernel
theorem dX9_unwinds_39 : decode cX9_unwinds 39 = .ok (.aload_n 0, 1) := by decide +kernel
theorem dX9_unwinds_40 : decode cX9_unwinds 40 = .ok (.getfield 154, 3) := by decide +kernel
theorem dX9_unwinds_43 : decode cX9_unwinds 43 = .ok (.iaload, 1) := by decide +kernel
theorem dX9_unwinds_44 : decode cX9_unwinds 44 = .ok (.istore_n 2, 1) := by decide +kernel
theorem dX9_unwinds_45 : decode cX9_unwinds 45 = .ok (.aload_n 0, 1) := by decide +kernel
theorem dX9_unwinds_46 : decode cX9_unwinds 46 = .ok (.dup, 1) := by decide +kernel
theorem dX9_unwinds_47 : decode cX9_unwinds 47 = .ok (.getfield 160, 3) := by decide +kernel
theorem dX9_unwinds_50 : decode cX9_unwinds 50 = .ok (.iload_n 2, 1) := by decide +kernel
theorem dX9_unwinds_51 : decode cX9_unwinds 51 = .ok (.bipush 13, 2) := by decide +kernel
theorem dX9_unwinds_53 : decode cX9_unwinds 53 = .ok (.if_icmp .eq 9, 3) := by decide +kernel
theorem dX9_unwinds_56 : decode cX9_unwinds 56 = .ok (.iload_n 2, 1) := by decide +kernel
theorem dX9_unwinds_57 : decode cX9_unwinds 57 = .ok (.bipush 19, 2) := by decide +kernel
theorem dX9_unwinds_59 : decode cX9_unwinds 59 = .ok (.if_icmp .ne 7, 3) := by decide +kernel
theorem dX9_unwinds_62 : decode cX9_unwinds 62 = .ok (.iconst 1, 1) := by decide +kernel
theorem dX9_unwinds_63 : decode cX9_unwinds 63 = .ok (.goto 4, 3) := by decide +kernel
theorem dX9_unwinds_66 : decode cX9_unwinds 66 = .ok (.iconst 0, 1) := by decide +kernel
theorem dX9_unwinds_67 : decode cX9_unwinds 67 = .ok (.isub, 1) := by decide +kernel
theorem dX9_unwinds_68 : decode cX9_unwinds 68 = .ok (.putfield 160, 3) := by decide +kernel
theorem dX9_unwinds_71 : decode cX9_unwinds 71 = .ok (.aload_n 0, 1) := by decide +kernel
theorem dX9_unwinds_72 : decode cX9_unwinds 72 = .ok (.iload_n 2, 1) := by decide +kernel
theorem dX9_unwinds_73 : decode cX9_unwinds 73 = .ok (.invokevirtual 163, 3) := by decide +kernel
theorem dX9_unwinds_76 : decode cX9_unwinds 76 = .ok (.goto (-76), 3) := by decide +kernel
theorem dX9_unwinds_79 : decode cX9_unwinds 79 = .ok (.return_, 1) := by decide +kernel
theorem dX9_holds_0 : decode cX9_holds 0 = .ok (.aload_n 0, 1) := by decide +kernel
theorem dX9_holds_1 : decode cX9_holds 1 = .ok (.getfield 56, 3) := by decide +kernel
theorem dX9_holds_4 : decode cX9_holds 4 = .ok (.aload_n 0, 1) := by decide +kernel
theorem dX9_holds_5 : decode cX9_holds 5 = .ok (.getfield 154, 3) := by decide +kernel
theorem dX9_holds_8 : decode cX9_holds 8 = .ok (.iload_n 1, 1) := by decide +kernel
theorem dX9_holds_9 : decode cX9_holds 9 = .ok (.iastore, 1) := by decide +kernel
theorem dX9_holds_10 : decode cX9_holds 10 = .ok (.aload_n 0, 1) := by decide +kernel
theorem dX9_holds_11 : decode cX9_holds 11 = .ok (.dup, 1) := by decide +kernel
theorem dX9_holds_12 : decode cX9_holds 12 = .ok (.getfield 154, 3) := by decide +kernel
theorem dX9_holds_15 : decode cX9_holds 15 = .ok (.iconst 1, 1) := by decide +kernel
theorem dX9_holds_16 : decode cX9_holds 16 = .ok (.iadd, 1) := by decide +kernel
theorem dX9_holds_17 : decode cX9_holds 17 = .ok (.putfield 154, 3) := by decide +kernel
theorem dX9_holds_20 : decode cX9_holds 20 = .ok (.return_, 1) := by decide +kernel
set_option maxRecDepth 20000 in
theorem ggX9_opensOne_X9_holds : GoodIn wsX9_opensOne wsX9_holds := goodIn_r _ [6, 7, 8, 9, 10, 11, 12, 13, 14, 15, 16, 17, 18, 19, 20, 21, 22, 23, 24, 25, 26, 27, 28, 29, 30, 31, 32, 33, 34, 35, 36, 37, 38, 39, 40, 41, 42, 43, 44, 45, 46, 47, 48, 49] rfl (by decide +kernel)
set_option maxRecDepth 20000 in
theorem gX9_opensOne_X9_holds : GoodIn wsX9_opensOne (wsV RX9 166 RX9 yX9_holds wsX9_holds) := goodIn_app (goodIn_of _ (by decide +kernel)) ggX9_opensOne_X9_holds
theorem dX9_opensOne_0 : decode cX9_opensOne 0 = .ok (.aload_n 0, 1) := by decide +kernel
theorem dX9_opensOne_1 : decode cX9_opensOne 1 = .ok (.getfield 160, 3) := by decide +kernel
theorem dX9_opensOne_4 : decode cX9_opensOne 4 = .ok (.iconst 5, 1) := by decide +kernel
theorem dX9_opensOne_5 : decode cX9_opensOne 5 = .ok (.if_icmp .ne 5, 3) := by decide +kernel
theorem dX9_opensOne_8 : decode cX9_opensOne 8 = .ok (.iconst 0, 1) := by decide +kernel
theorem dX9_opensOne_9 : decode cX9_opensOne 9 = .ok (.ireturn, 1) := by decide +kernel
theorem dX9_opensOne_10 : decode cX9_opensOne 10 = .ok (.aload_n 0, 1) := by decide +kernel
theorem dX9_opensOne_11 : decode cX9_opensOne 11 = .ok (.dup, 1) := by decide +kernel
theorem dX9_opensOne_12 : decode cX9_opensOne 12 = .ok (.getfield 160, 3) := by decide +kernel
theorem dX9_opensOne_15 : decode cX9_opensOne 15 = .ok (.iconst 1, 1) := by decide +kernel
theorem dX9_opensOne_16 : decode cX9_opensOne 16 = .ok (.iadd, 1) := by decide +kernel
theorem dX9_opensOne_17 : decode cX9_opensOne 17 = .ok (.putfield 160, 3) := by decide +kernel
theorem dX9_opensOne_20 : decode cX9_opensOne 20 = .ok (.aload_n 0, 1) := by decide +kernel
theorem dX9_opensOne_21 : decode cX9_opensOne 21 = .ok (.iload_n 1, 1) := by decide +kernel
theorem dX9_opensOne_22 : decode cX9_opensOne 22 = .ok (.invokevirtual 166, 3) := by decide +kernel
theorem dX9_opensOne_25 : decode cX9_opensOne 25 = .ok (.iconst 1, 1) := by decide +kernel
theorem dX9_opensOne_26 : decode cX9_opensOne 26 = .ok (.ireturn, 1) := by decide +kernel
set_option maxRecDepth 20000 in
theorem ggX9_between_X9_rank : GoodIn wsX9_between wsX9_rank := goodIn_r _ [6] rfl (by decide +kernel)
set_option maxRecDepth 20000 in
theorem gX9_between_X9_rank : GoodIn wsX9_between (va_wsS RX9 157 yX9_rank wsX9_rank) := goodIn_app (goodIn_of _ (by decide +kernel)) ggX9_between_X9_rank
set_option maxRecDepth 20000 in
theorem ggX9_between_X9_unwinds : GoodIn wsX9_between wsX9_unwinds := goodIn_r _ [10, 1, 2, 11, 3, 4, 5, 6, 12, 13, 14, 15, 16, 17, 18, 23, 24, 25, 26, 27, 28, 29, 30, 31, 32, 33, 34, 35, 36, 37, 38, 39, 40, 41, 42, 43, 44, 45, 46, 47, 48, 49, 50, 51, 52, 53, 54, 55, 56, 57, 58, 59, 60, 61, 62, 63] rfl (by decide +kernel)
set_option maxRecDepth 20000 in
theorem gX9_between_X9_unwinds : GoodIn wsX9_between (wsV RX9 169 RX9 yX9_unwinds wsX9_unwinds) := goodIn_app (goodIn_of _ (by decide +kernel)) ggX9_between_X9_unwinds
set_option maxRecDepth 20000 in
theorem ggX9_between_X9_holds : GoodIn wsX9_between wsX9_holds := goodIn_r _ [22, 2, 1, 23, 24, 25, 26, 27, 28, 29, 30, 31, 32, 33, 34, 35, 36, 37, 38, 39, 40, 41, 42, 43, 44, 45, 46, 47, 48, 49, 50, 51, 52, 53, 54, 55, 56, 57, 58, 59, 60, 61, 62, 63] rfl (by decide +kernel)
set_option maxRecDepth 20000 in
theorem gX9_between_X9_holds : GoodIn wsX9_between (wsV RX9 166 RX9 yX9_holds wsX9_holds) := goodIn_app (goodIn_of _ (by decide +kernel)) ggX9_between_X9_holds
theorem dX9_between_0 : decode cX9_between 0 = .ok (.aload_n 0, 1) := by decide +kernel
theorem dX9_between_1 : decode cX9_between 1 = .ok (.iload_n 1, 1) := by decide +kernel
theorem dX9_between_2 : decode cX9_between 2 = .ok (.invokestatic 157, 3) := by decide +kernel
theorem dX9_between_5 : decode cX9_between 5 = .ok (.iconst 4, 1) := by decide +kernel
theorem dX9_between_6 : decode cX9_between 6 = .ok (.if_icmp .ne 7, 3) := by decide +kernel
theorem dX9_between_9 : decode cX9_between 9 = .ok (.iconst 5, 1) := by decide +kernel
theorem dX9_between_10 : decode cX9_between 10 = .ok (.goto 7, 3) := by decide +kernel
theorem dX9_between_13 : decode cX9_between 13 = .ok (.iload_n 1, 1) := by decide +kernel
theorem dX9_between_14 : decode cX9_between 14 = .ok (.invokestatic 157, 3) := by decide +kernel
theorem dX9_between_17 : decode cX9_between 17 = .ok (.invokevirtual 169, 3) := by decide +kernel
theorem dX9_between_20 : decode cX9_between 20 = .ok (.iload_n 1, 1) := by decide +kernel
theorem dX9_between_21 : decode cX9_between 21 = .ok (.invokestatic 157, 3) := by decide +kernel
theorem dX9_between_24 : decode cX9_between 24 = .ok (.iconst 4, 1) := by decide +kernel
theorem dX9_between_25 : decode cX9_between 25 = .ok (.if_icmp .ne 30, 3) := by decide +kernel
theorem dX9_between_28 : decode cX9_between 28 = .ok (.aload_n 0, 1) := by decide +kernel
theorem dX9_between_29 : decode cX9_between 29 = .ok (.getfield 154, 3) := by decide +kernel
theorem dX9_between_32 : decode cX9_between 32 = .ok (.ifCond .le 23, 3) := by decide +kernel
theorem dX9_between_35 : decode cX9_between 35 = .ok (.aload_n 0, 1) := by decide +kernel
theorem dX9_between_36 : decode cX9_between 36 = .ok (.getfield 56, 3) := by decide +kernel
theorem dX9_between_39 : decode cX9_between 39 = .ok (.aload_n 0, 1) := by decide +kernel
theorem dX9_between_40 : decode cX9_between 40 = .ok (.getfield 154, 3) := by decide +kernel
theorem dX9_between_43 : decode cX9_between 43 = .ok (.iconst 1, 1) := by decide +kernel
theorem dX9_between_44 : decode cX9_between 44 = .ok (.isub, 1) := by decide +kernel
theorem dX9_between_45 : decode cX9_between 45 = .ok (.iaload, 1) := by decide +kernel
theorem dX9_between_46 : decode cX9_between 46 = .ok (.invokestatic 157, 3) := by decide +kernel
theorem dX9_between_49 : decode cX9_between 49 = .ok (.iconst 4, 1) := by decide +kernel
theorem dX9_between_50 : decode cX9_between 50 = .ok (.if_icmp .ne 5, 3) := by decide +kernel
theorem dX9_between_53 : decode cX9_between 53 = .ok (.iconst 0, 1) := by decide +kernel
theorem dX9_between_54 : decode cX9_between 54 = .ok (.ireturn, 1) := by decide +kernel
theorem dX9_between_55 : decode cX9_between 55 = .ok (.aload_n 0, 1) := by decide +kernel
theorem dX9_between_56 : decode cX9_between 56 = .ok (.iload_n 1, 1) := by decide +kernel
theorem dX9_between_57 : decode cX9_between 57 = .ok (.invokevirtual 166, 3) := by decide +kernel
theorem dX9_between_60 : decode cX9_between 60 = .ok (.iconst 1, 1) := by decide +kernel
theorem dX9_between_61 : decode cX9_between 61 = .ok (.ireturn, 1) := by decide +kernel
theorem dX9_signOf_0 : decode cX9_signOf 0 = .ok (.aload_n 0, 1) := by decide +kernel
theorem dX9_signOf_1 : decode cX9_signOf 1 = .ok (.getfield 141, 3) := by decide +kernel
theorem dX9_signOf_4 : decode cX9_signOf 4 = .ok (.iconst 4, 1) := by decide +kernel
theorem dX9_signOf_5 : decode cX9_signOf 5 = .ok (.if_icmp .ne 8, 3) := by decide +kernel
theorem dX9_signOf_8 : decode cX9_signOf 8 = .ok (.bipush 11, 2) := by decide +kernel
theorem dX9_signOf_10 : decode cX9_signOf 10 = .ok (.goto 87, 3) := by decide +kernel
theorem dX9_signOf_13 : decode cX9_signOf 13 = .ok (.aload_n 0, 1) := by decide +kernel
theorem dX9_signOf_14 : decode cX9_signOf 14 = .ok (.getfield 141, 3) := by decide +kernel
theorem dX9_signOf_17 : decode cX9_signOf 17 = .ok (.iconst 5, 1) := by decide +kernel
theorem dX9_signOf_18 : decode cX9_signOf 18 = .ok (.if_icmp .ne 8, 3) := by decide +kernel
theorem dX9_signOf_21 : decode cX9_signOf 21 = .ok (.bipush 12, 2) := by decide +kernel
theorem dX9_signOf_23 : decode cX9_signOf 23 = .ok (.goto 74, 3) := by decide +kernel
theorem dX9_signOf_26 : decode cX9_signOf 26 = .ok (.aload_n 0, 1) := by decide +kernel
theorem dX9_signOf_27 : decode cX9_signOf 27 = .ok (.getfield 141, 3) := by decide +kernel
theorem dX9_signOf_30 : decode cX9_signOf 30 = .ok (.bipush 60, 2) := by decide +kernel
theorem dX9_signOf_32 : decode cX9_signOf 32 = .ok (.if_icmp .ne 8, 3) := by decide +kernel
theorem dX9_signOf_35 : decode cX9_signOf 35 = .ok (.bipush 14, 2) := by decide +kernel
theorem dX9_signOf_37 : decode cX9_signOf 37 = .ok (.goto 60, 3) := by decide +kernel
theorem dX9_signOf_40 : decode cX9_signOf 40 = .ok (.aload_n 0, 1) := by decide +kernel
theorem dX9_signOf_41 : decode cX9_signOf 41 = .ok (.getfield 141, 3) := by decide +kernel
theorem dX9_signOf_44 : decode cX9_signOf 44 = .ok (.bipush 61, 2) := by decide +kernel
theorem dX9_signOf_46 : decode cX9_signOf 46 = .ok (.if_icmp .ne 8, 3) := by decide +kernel
theorem dX9_signOf_49 : decode cX9_signOf 49 = .ok (.bipush 15, 2) := by decide +kernel
theorem dX9_signOf_51 : decode cX9_signOf 51 = .ok (.goto 46, 3) := by decide +kernel
theorem dX9_signOf_54 : decode cX9_signOf 54 = .ok (.aload_n 0, 1) := by decide +kernel
theorem dX9_signOf_55 : decode cX9_signOf 55 = .ok (.getfield 141, 3) := by decide +kernel
theorem dX9_signOf_58 : decode cX9_signOf 58 = .ok (.bipush 43, 2) := by decide +kernel
theorem dX9_signOf_60 : decode cX9_signOf 60 = .ok (.if_icmp .ne 8, 3) := by decide +kernel
theorem dX9_signOf_63 : decode cX9_signOf 63 = .ok (.bipush 16, 2) := by decide +kernel
theorem dX9_signOf_65 : decode cX9_signOf 65 = .ok (.goto 32, 3) := by decide +kernel
theorem dX9_signOf_68 : decode cX9_signOf 68 = .ok (.aload_n 0, 1) := by decide +kernel
theorem dX9_signOf_69 : decode cX9_signOf 69 = .ok (.getfield 141, 3) := by decide +kernel
theorem dX9_signOf_72 : decode cX9_signOf 72 = .ok (.bipush 45, 2) := by decide +kernel
theorem dX9_signOf_74 : decode cX9_signOf 74 = .ok (.if_icmp .ne 8, 3) := by decide +kernel
theorem dX9_signOf_77 : decode cX9_signOf 77 = .ok (.bipush 17, 2) := by decide +kernel
theorem dX9_signOf_79 : decode cX9_signOf 79 = .ok (.goto 18, 3) := by decide +kernel
theorem dX9_signOf_82 : decode cX9_signOf 82 = .ok (.aload_n 0, 1) := by decide +kernel
theorem dX9_signOf_83 : decode cX9_signOf 83 = .ok (.getfield 141, 3) := by decide +kernel
theorem dX9_signOf_86 : decode cX9_signOf 86 = .ok (.bipush 42, 2) := by decide +kernel
theorem dX9_signOf_88 : decode cX9_signOf 88 = .ok (.if_icmp .ne 8, 3) := by decide +kernel
theorem dX9_signOf_91 : decode cX9_signOf 91 = .ok (.bipush 18, 2) := by decide +kernel
theorem dX9_signOf_93 : decode cX9_signOf 93 = .ok (.goto 4, 3) := by decide +kernel
theorem dX9_signOf_96 : decode cX9_signOf 96 = .ok (.iconst (-1), 1) := by decide +kernel
theorem dX9_signOf_97 : decode cX9_signOf 97 = .ok (.ireturn, 1) := by decide +kernel
set_option maxRecDepth 20000 in
theorem ggX9_eRead_X9_next : GoodIn wsX9_eRead wsX9_next := goodIn_r _ [10, 11, 12, 13, 14, 3, 5, 15, 16, 9, 17, 18, 19, 20, 21, 22, 54, 55, 56, 57, 58, 59, 60, 61, 62, 63, 64, 65, 66, 67, 68, 69, 70, 71, 72, 73, 74, 75, 76, 77, 78, 79, 80, 81, 82, 83, 84, 85, 86, 87, 88, 89, 90, 91, 92, 93, 94] rfl (by decide +kernel)
set_option maxRecDepth 20000 in
theorem gX9_eRead_X9_next : GoodIn wsX9_eRead (wsV RX9 172 RX9 yX9_next wsX9_next) := goodIn_app (goodIn_of _ (by decide +kernel)) ggX9_eRead_X9_next
set_option maxRecDepth 20000 in
theorem ggX9_eRead_X9_puts : GoodIn wsX9_eRead wsX9_puts := goodIn_r _ [26, 27, 28, 29, 54, 55, 56, 57, 58, 59, 60, 61, 62, 63, 64, 65, 66, 67, 68, 69, 70, 71, 72, 73, 74, 75, 76, 77, 78, 79, 80, 81, 82, 83, 84, 85, 86, 87, 88, 89, 90, 91, 92, 93, 94] rfl (by decide +kernel)
set_option maxRecDepth 20000 in
theorem gX9_eRead_X9_puts : GoodIn wsX9_eRead (wsV RX9 163 RX9 yX9_puts wsX9_puts) := goodIn_app (goodIn_of _ (by decide +kernel)) ggX9_eRead_X9_puts
set_option maxRecDepth 20000 in
theorem ggX9_eRead_X9_unwinds : GoodIn wsX9_eRead wsX9_unwinds := goodIn_r _ [33, 1, 34, 2, 35, 36, 9, 37, 23, 24, 25, 26, 27, 28, 29, 54, 55, 56, 57, 58, 59, 60, 61, 62, 63, 64, 65, 66, 67, 68, 69, 70, 71, 72, 73, 74, 75, 76, 77, 78, 79, 80, 81, 82, 83, 84, 85, 86, 87, 88, 89, 90, 91, 92, 93, 94] rfl (by decide +kernel)
set_option maxRecDepth 20000 in
theorem gX9_eRead_X9_unwinds : GoodIn wsX9_eRead (wsV RX9 169 RX9 yX9_unwinds wsX9_unwinds) := goodIn_app (goodIn_of _ (by decide +kernel)) ggX9_eRead_X9_unwinds
set_option maxRecDepth 20000 in
theorem ggX9_eRead_X9_opensOne : GoodIn wsX9_eRead wsX9_opensOne := goodIn_r _ [41, 2, 42, 43, 44, 9, 45, 34, 1, 54, 55, 56, 57, 58, 59, 60, 61, 62, 63, 64, 65, 66, 67, 68, 69, 70, 71, 72, 73, 74, 75, 76, 77, 78, 79, 80, 81, 82, 83, 84, 85, 86, 87, 88, 89, 90, 91, 92, 93, 94] rfl (by decide +kernel)
set_option maxRecDepth 20000 in
theorem gX9_eRead_X9_opensOne : GoodIn wsX9_eRead (wsV RX9 176 RX9 yX9_opensOne wsX9_opensOne) := goodIn_app (goodIn_of _ (by decide +kernel)) ggX9_eRead_X9_opensOne
set_option maxRecDepth 20000 in
theorem ggX9_eRead_X9_signOf : GoodIn wsX9_eRead wsX9_signOf := goodIn_r _ [49, 3, 54, 55, 56, 57, 58, 59, 60, 61, 62, 63, 64, 65, 66, 67, 68, 69, 70, 71, 72, 73, 74, 75, 76, 77, 78, 79, 80, 81, 82, 83, 84, 85, 86, 87, 88, 89, 90, 91, 92, 93, 94] rfl (by decide +kernel)
set_option maxRecDepth 20000 in
theorem gX9_eRead_X9_signOf : GoodIn wsX9_eRead (wsV RX9 179 RX9 yX9_signOf wsX9_signOf) := goodIn_app (goodIn_of _ (by decide +kernel)) ggX9_eRead_X9_signOf
set_option maxRecDepth 20000 in
theorem ggX9_eRead_X9_between : GoodIn wsX9_eRead wsX9_between := goodIn_r _ [53, 1, 34, 35, 36, 9, 37, 30, 31, 32, 33, 2, 23, 24, 25, 26, 27, 28, 29, 42, 43, 44, 45, 54, 55, 56, 57, 58, 59, 60, 61, 62, 63, 64, 65, 66, 67, 68, 69, 70, 71, 72, 73, 74, 75, 76, 77, 78, 79, 80, 81, 82, 83, 84, 85, 86, 87, 88, 89, 90, 91, 92, 93, 94] rfl (by decide +kernel)
set_option maxRecDepth 20000 in
theorem gX9_eRead_X9_between : GoodIn wsX9_eRead (wsV RX9 182 RX9 yX9_between wsX9_between) := goodIn_app (goodIn_of _ (by decide +kernel)) ggX9_eRead_X9_between
theorem dX9_eRead_0 : decode cX9_eRead 0 = .ok (.aload_n 0, 1) := by decide +kernel
theorem dX9_eRead_1 : decode cX9_eRead 1 = .ok (.iconst 0, 1) := by decide +kernel
theorem dX9_eRead_2 : decode cX9_eRead 2 = .ok (.putfield 154, 3) := by decide +kernel
theorem dX9_eRead_5 : decode cX9_eRead 5 = .ok (.aload_n 0, 1) := by decide +kernel
theorem dX9_eRead_6 : decode cX9_eRead 6 = .ok (.iconst 0, 1) := by decide +kernel
theorem dX9_eRead_7 : decode cX9_eRead 7 = .ok (.putfield 160, 3) := by decide +kernel
theorem dX9_eRead_10 : decode cX9_eRead 10 = .ok (.iconst 1, 1) := by decide +kernel
theorem dX9_eRead_11 : decode cX9_eRead 11 = .ok (.istore_n 1, 1) := by decide +kernel
theorem dX9_eRead_12 : decode cX9_eRead 12 = .ok (.iconst 1, 1) := by decide +kernel
theorem dX9_eRead_13 : decode cX9_eRead 13 = .ok (.istore_n 2, 1) := by decide +kernel
theorem dX9_eRead_14 : decode cX9_eRead 14 = .ok (.aload_n 0, 1) := by decide +kernel
theorem dX9_eRead_15 : decode cX9_eRead 15 = .ok (.invokevirtual 172, 3) := by decide +kernel
theorem dX9_eRead_18 : decode cX9_eRead 18 = .ok (.iload_n 1, 1) := by decide +kernel
theorem dX9_eRead_19 : decode cX9_eRead 19 = .ok (.ifCond .eq 131, 3) := by decide +kernel
theorem dX9_eRead_22 : decode cX9_eRead 22 = .ok (.aload_n 0, 1) := by decide +kernel
theorem dX9_eRead_23 : decode cX9_eRead 23 = .ok (.getfield 141, 3) := by decide +kernel
theorem dX9_eRead_26 : decode cX9_eRead 26 = .ok (.iconst 1, 1) := by decide +kernel
theorem dX9_eRead_27 : decode cX9_eRead 27 = .ok (.if_icmp .eq 11, 3) := by decide +kernel
theorem dX9_eRead_30 : decode cX9_eRead 30 = .ok (.aload_n 0, 1) := by decide +kernel
theorem dX9_eRead_31 : decode cX9_eRead 31 = .ok (.getfield 141, 3) := by decide +kernel
theorem dX9_eRead_34 : decode cX9_eRead 34 = .ok (.iconst 2, 1) := by decide +kernel
theorem dX9_eRead_35 : decode cX9_eRead 35 = .ok (.if_icmp .ne 40, 3) := by decide +kernel
theorem dX9_eRead_38 : decode cX9_eRead 38 = .ok (.aload_n 0, 1) := by decide +kernel
theorem dX9_eRead_39 : decode cX9_eRead 39 = .ok (.aload_n 0, 1) := by decide +kernel
theorem dX9_eRead_40 : decode cX9_eRead 40 = .ok (.getfield 141, 3) := by decide +kernel
theorem dX9_eRead_43 : decode cX9_eRead 43 = .ok (.iconst 1, 1) := by decide +kernel
theorem dX9_eRead_44 : decode cX9_eRead 44 = .ok (.if_icmp .ne 13, 3) := by decide +kernel
theorem dX9_eRead_47 : decode cX9_eRead 47 = .ok (.ldc 175, 2) := by decide +kernel
theorem dX9_eRead_49 : decode cX9_eRead 49 = .ok (.aload_n 0, 1) := by decide +kernel
theorem dX9_eRead_50 : decode cX9_eRead 50 = .ok (.getfield 144, 3) := by decide +kernel
theorem dX9_eRead_53 : decode cX9_eRead 53 = .ok (.iadd, 1) := by decide +kernel
theorem dX9_eRead_54 : decode cX9_eRead 54 = .ok (.goto 7, 3) := by decide +kernel
theorem dX9_eRead_57 : decode cX9_eRead 57 = .ok (.aload_n 0, 1) := by decide +kernel
theorem dX9_eRead_58 : decode cX9_eRead 58 = .ok (.getfield 144, 3) := by decide +kernel
theorem dX9_eRead_61 : decode cX9_eRead 61 = .ok (.invokevirtual 163, 3) := by decide +kernel
theorem dX9_eRead_64 : decode cX9_eRead 64 = .ok (.aload_n 0, 1) := by decide +kernel
theorem dX9_eRead_65 : decode cX9_eRead 65 = .ok (.bipush 7, 2) := by decide +kernel
theorem dX9_eRead_67 : decode cX9_eRead 67 = .ok (.invokevirtual 169, 3) := by decide +kernel
theorem dX9_eRead_70 : decode cX9_eRead 70 = .ok (.iconst 0, 1) := by decide +kernel
theorem dX9_eRead_71 : decode cX9_eRead 71 = .ok (.istore_n 1, 1) := by decide +kernel
theorem dX9_eRead_72 : decode cX9_eRead 72 = .ok (.goto (-58), 3) := by decide +kernel
theorem dX9_eRead_75 : decode cX9_eRead 75 = .ok (.aload_n 0, 1) := by decide +kernel
theorem dX9_eRead_76 : decode cX9_eRead 76 = .ok (.getfield 141, 3) := by decide +kernel
theorem dX9_eRead_79 : decode cX9_eRead 79 = .ok (.bipush 6, 2) := by decide +kernel
theorem dX9_eRead_81 : decode cX9_eRead 81 = .ok (.if_icmp .ne 18, 3) := by decide +kernel
theorem dX9_eRead_84 : decode cX9_eRead 84 = .ok (.iload_n 2, 1) := by decide +kernel
theorem dX9_eRead_85 : decode cX9_eRead 85 = .ok (.ifCond .eq 14, 3) := by decide +kernel
theorem dX9_eRead_88 : decode cX9_eRead 88 = .ok (.aload_n 0, 1) := by decide +kernel
theorem dX9_eRead_89 : decode cX9_eRead 89 = .ok (.bipush 13, 2) := by decide +kernel
theorem dX9_eRead_91 : decode cX9_eRead 91 = .ok (.invokevirtual 176, 3) := by decide +kernel
theorem dX9_eRead_94 : decode cX9_eRead 94 = .ok (.ifCond .ne (-80), 3) := by decide +kernel
theorem dX9_eRead_97 : decode cX9_eRead 97 = .ok (.iconst 0, 1) := by decide +kernel
theorem dX9_eRead_98 : decode cX9_eRead 98 = .ok (.ireturn, 1) := by decide +kernel
theorem dX9_eRead_99 : decode cX9_eRead 99 = .ok (.aload_n 0, 1) := by decide +kernel
theorem dX9_eRead_100 : decode cX9_eRead 100 = .ok (.getfield 141, 3) := by decide +kernel
theorem dX9_eRead_103 : decode cX9_eRead 103 = .ok (.bipush 45, 2) := by decide +kernel
theorem dX9_eRead_105 : decode cX9_eRead 105 = .ok (.if_icmp .ne 19, 3) := by decide +kernel
theorem dX9_eRead_108 : decode cX9_eRead 108 = .ok (.aload_n 0, 1) := by decide +kernel
theorem dX9_eRead_109 : decode cX9_eRead 109 = .ok (.bipush 19, 2) := by decide +kernel
theorem dX9_eRead_111 : decode cX9_eRead 111 = .ok (.invokevirtual 176, 3) := by decide +kernel
theorem dX9_eRead_114 : decode cX9_eRead 114 = .ok (.ifCond .ne 5, 3) := by decide +kernel
theorem dX9_eRead_117 : decode cX9_eRead 117 = .ok (.iconst 0, 1) := by decide +kernel
theorem dX9_eRead_118 : decode cX9_eRead 118 = .ok (.ireturn, 1) := by decide +kernel
theorem dX9_eRead_119 : decode cX9_eRead 119 = .ok (.iconst 0, 1) := by decide +kernel
theorem dX9_eRead_120 : decode cX9_eRead 120 = .ok (.istore_n 2, 1) := by decide +kernel
theorem dX9_eRead_121 : decode cX9_eRead 121 = .ok (.goto (-107), 3) := by decide +kernel
theorem dX9_eRead_124 : decode cX9_eRead 124 = .ok (.aload_n 0, 1) := by decide +kernel
theorem dX9_eRead_125 : decode cX9_eRead 125 = .ok (.getfield 141, 3) := by decide +kernel
theorem dX9_eRead_128 : decode cX9_eRead 128 = .ok (.bipush 40, 2) := by decide +kernel
theorem dX9_eRead_130 : decode cX9_eRead 130 = .ok (.if_icmp .ne 18, 3) := by decide +kernel
theorem dX9_eRead_133 : decode cX9_eRead 133 = .ok (.aload_n 0, 1) := by decide +kernel
theorem dX9_eRead_134 : decode cX9_eRead 134 = .ok (.iconst 0, 1) := by decide +kernel
theorem dX9_eRead_135 : decode cX9_eRead 135 = .ok (.invokevirtual 176, 3) := by decide +kernel
theorem dX9_eRead_138 : decode cX9_eRead 138 = .ok (.ifCond .ne 5, 3) := by decide +kernel
theorem dX9_eRead_141 : decode cX9_eRead 141 = .ok (.iconst 0, 1) := by decide +kernel
theorem dX9_eRead_142 : decode cX9_eRead 142 = .ok (.ireturn, 1) := by decide +kernel
theorem dX9_eRead_143 : decode cX9_eRead 143 = .ok (.iconst 1, 1) := by decide +kernel
theorem dX9_eRead_144 : decode cX9_eRead 144 = .ok (.istore_n 2, 1) := by decide +kernel
theorem dX9_eRead_145 : decode cX9_eRead 145 = .ok (.goto (-131), 3) := by decide +kernel
theorem dX9_eRead_148 : decode cX9_eRead 148 = .ok (.iconst 0, 1) := by decide +kernel
theorem dX9_eRead_149 : decode cX9_eRead 149 = .ok (.ireturn, 1) := by decide +kernel
theorem dX9_eRead_150 : decode cX9_eRead 150 = .ok (.aload_n 0, 1) := by decide +kernel
theorem dX9_eRead_151 : decode cX9_eRead 151 = .ok (.getfield 141, 3) := by decide +kernel
theorem dX9_eRead_154 : decode cX9_eRead 154 = .ok (.bipush 59, 2) := by decide +kernel
theorem dX9_eRead_156 : decode cX9_eRead 156 = .ok (.if_icmp .ne 21, 3) := by decide +kernel
theorem dX9_eRead_159 : decode cX9_eRead 159 = .ok (.aload_n 0, 1) := by decide +kernel
theorem dX9_eRead_160 : decode cX9_eRead 160 = .ok (.iconst 1, 1) := by decide +kernel
theorem dX9_eRead_161 : decode cX9_eRead 161 = .ok (.invokevirtual 169, 3) := by decide +kernel
theorem dX9_eRead_164 : decode cX9_eRead 164 = .ok (.aload_n 0, 1) := by decide +kernel
theorem dX9_eRead_165 : decode cX9_eRead 165 = .ok (.getfield 154, 3) := by decide +kernel
theorem dX9_eRead_168 : decode cX9_eRead 168 = .ok (.ifCond .ne 7, 3) := by decide +kernel
theorem dX9_eRead_171 : decode cX9_eRead 171 = .ok (.iconst 1, 1) := by decide +kernel
theorem dX9_eRead_172 : decode cX9_eRead 172 = .ok (.goto 4, 3) := by decide +kernel
theorem dX9_eRead_175 : decode cX9_eRead 175 = .ok (.iconst 0, 1) := by decide +kernel
theorem dX9_eRead_176 : decode cX9_eRead 176 = .ok (.ireturn, 1) := by decide +kernel
theorem dX9_eRead_177 : decode cX9_eRead 177 = .ok (.aload_n 0, 1) := by decide +kernel
theorem dX9_eRead_178 : decode cX9_eRead 178 = .ok (.getfield 141, 3) := by decide +kernel
theorem dX9_eRead_181 : decode cX9_eRead 181 = .ok (.bipush 41, 2) := by decide +kernel
theorem dX9_eRead_183 : decode cX9_eRead 183 = .ok (.if_icmp .ne 46, 3) := by decide +kernel
theorem dX9_eRead_186 : decode cX9_eRead 186 = .ok (.aload_n 0, 1) := by decide +kernel
theorem dX9_eRead_187 : decode cX9_eRead 187 = .ok (.iconst 1, 1) := by decide +kernel
theorem dX9_eRead_188 : decode cX9_eRead 188 = .ok (.invokevirtual 169, 3) := by decide +kernel
theorem dX9_eRead_191 : decode cX9_eRead 191 = .ok (.aload_n 0, 1) := by decide +kernel
theorem dX9_eRead_192 : decode cX9_eRead 192 = .ok (.getfield 154, 3) := by decide +kernel
theorem dX9_eRead_195 : decode cX9_eRead 195 = .ok (.ifCond .ne 5, 3) := by decide +kernel
theorem dX9_eRead_198 : decode cX9_eRead 198 = .ok (.iconst 0, 1) := by decide +kernel
theorem dX9_eRead_199 : decode cX9_eRead 199 = .ok (.ireturn, 1) := by decide +kernel
theorem dX9_eRead_200 : decode cX9_eRead 200 = .ok (.aload_n 0, 1) := by decide +kernel
theorem dX9_eRead_201 : decode cX9_eRead 201 = .ok (.dup, 1) := by decide +kernel
theorem dX9_eRead_202 : decode cX9_eRead 202 = .ok (.getfield 154, 3) := by decide +kernel
theorem dX9_eRead_205 : decode cX9_eRead 205 = .ok (.iconst 1, 1) := by decide +kernel
theorem dX9_eRead_206 : decode cX9_eRead 206 = .ok (.isub, 1) := by decide +kernel
theorem dX9_eRead_207 : decode cX9_eRead 207 = .ok (.putfield 154, 3) := by decide +kernel
theorem dX9_eRead_210 : decode cX9_eRead 210 = .ok (.aload_n 0, 1) := by decide +kernel
theorem dX9_eRead_211 : decode cX9_eRead 211 = .ok (.dup, 1) := by decide +kernel
theorem dX9_eRead_212 : decode cX9_eRead 212 = .ok (.getfield 160, 3) := by decide +kernel
theorem dX9_eRead_215 : decode cX9_eRead 215 = .ok (.iconst 1, 1) := by decide +kernel
theorem dX9_eRead_216 : decode cX9_eRead 216 = .ok (.isub, 1) := by decide +kernel
theorem dX9_eRead_217 : decode cX9_eRead 217 = .ok (.putfield 160, 3) := by decide +kernel
theorem dX9_eRead_220 : decode cX9_eRead 220 = .ok (.aload_n 0, 1) := by decide +kernel
theorem dX9_eRead_221 : decode cX9_eRead 221 = .ok (.bipush 7, 2) := by decide +kernel
theorem dX9_eRead_223 : decode cX9_eRead 223 = .ok (.invokevirtual 169, 3) := by decide +kernel
theorem dX9_eRead_226 : decode cX9_eRead 226 = .ok (.goto (-212), 3) := by decide +kernel
theorem dX9_eRead_229 : decode cX9_eRead 229 = .ok (.aload_n 0, 1) := by decide +kernel
theorem dX9_eRead_230 : decode cX9_eRead 230 = .ok (.invokevirtual 179, 3) := by decide +kernel
theorem dX9_eRead_233 : decode cX9_eRead 233 = .ok (.istore_n 3, 1) := by decide +kernel
theorem dX9_eRead_234 : decode cX9_eRead 234 = .ok (.iload_n 3, 1) := by decide +kernel
theorem dX9_eRead_235 : decode cX9_eRead 235 = .ok (.iconst (-1), 1) := by decide +kernel
theorem dX9_eRead_236 : decode cX9_eRead 236 = .ok (.if_icmp .eq 11, 3) := by decide +kernel
theorem dX9_eRead_239 : decode cX9_eRead 239 = .ok (.aload_n 0, 1) := by decide +kernel
theorem dX9_eRead_240 : decode cX9_eRead 240 = .ok (.iload_n 3, 1) := by decide +kernel
theorem dX9_eRead_241 : decode cX9_eRead 241 = .ok (.invokevirtual 182, 3) := by decide +kernel
theorem dX9_eRead_244 : decode cX9_eRead 244 = .ok (.ifCond .ne 5, 3) := by decide +kernel
theorem dX9_eRead_247 : decode cX9_eRead 247 = .ok (.iconst 0, 1) := by decide +kernel
theorem dX9_eRead_248 : decode cX9_eRead 248 = .ok (.ireturn, 1) := by decide +kernel
theorem dX9_eRead_249 : decode cX9_eRead 249 = .ok (.iconst 1, 1) := by decide +kernel
theorem dX9_eRead_250 : decode cX9_eRead 250 = .ok (.istore_n 1, 1) := by decide +kernel
theorem dX9_eRead_251 : decode cX9_eRead 251 = .ok (.iload_n 3, 1) := by decide +kernel
theorem dX9_eRead_252 : decode cX9_eRead 252 = .ok (.bipush 12, 2) := by decide +kernel
theorem dX9_eRead_254 : decode cX9_eRead 254 = .ok (.if_icmp .gt 7, 3) := by decide +kernel
theorem dX9_eRead_257 : decode cX9_eRead 257 = .ok (.iconst 1, 1) := by decide +kernel
theorem dX9_eRead_258 : decode cX9_eRead 258 = .ok (.goto 4, 3) := by decide +kernel
theorem dX9_eRead_261 : decode cX9_eRead 261 = .ok (.iconst 0, 1) := by decide +kernel
theorem dX9_eRead_262 : decode cX9_eRead 262 = .ok (.istore_n 2, 1) := by decide +kernel
theorem dX9_eRead_263 : decode cX9_eRead 263 = .ok (.goto (-249), 3) := by decide +kernel
set_option maxRecDepth 20000 in
theorem ggX9_text_X9_next : GoodIn wsX9_text wsX9_next := goodIn_r _ [13, 2, 7, 14, 8, 4, 5, 15, 16, 12, 17, 18, 19, 20, 21, 22, 59, 60, 61, 62, 63, 64, 65, 66, 67, 68, 69, 70, 71, 72, 73, 74, 75, 76, 77, 78, 79, 80, 81, 82, 83, 84, 85, 86, 87, 88, 89, 90, 91, 92, 93, 94, 95, 96, 97, 98, 99] rfl (by decide +kernel)
set_option maxRecDepth 20000 in
theorem gX9_text_X9_next : GoodIn wsX9_text (wsV RX9 172 RX9 yX9_next wsX9_next) := goodIn_app (goodIn_of _ (by decide +kernel)) ggX9_text_X9_next
set_option maxRecDepth 20000 in
theorem ggX9_text_X9_eRead : GoodIn wsX9_text wsX9_eRead := goodIn_r _ [26, 27, 28, 4, 29, 5, 9, 10, 11, 12, 13, 2, 7, 14, 8, 15, 16, 17, 18, 19, 20, 21, 22, 30, 31, 32, 33, 34, 1, 3, 35, 36, 37, 38, 39, 40, 41, 42, 43, 44, 45, 46, 47, 48, 49, 50, 51, 52, 53, 54, 55, 56, 57, 58, 59, 60, 61, 62, 63, 64, 65, 66, 67, 68, 69, 70, 71, 72, 73, 74, 75, 76, 77, 78, 79, 80, 81, 82, 83, 84, 85, 86, 87, 88, 89, 90, 91, 92, 93, 94, 95, 96, 97, 98, 99] rfl (by decide +kernel)
set_option maxRecDepth 20000 in
theorem gX9_text_X9_eRead : GoodIn wsX9_text (wsV RX9 185 RX9 yX9_eRead wsX9_eRead) := goodIn_app (goodIn_of _ (by decide +kernel)) ggX9_text_X9_eRead
theorem dX9_text_0 : decode cX9_text 0 = .ok (.aload_n 0, 1) := by decide +kernel
theorem dX9_text_1 : decode cX9_text 1 = .ok (.getfield 88, 3) := by decide +kernel
theorem dX9_text_4 : decode cX9_text 4 = .ok (.bipush 6, 2) := by decide +kernel
theorem dX9_text_6 : decode cX9_text 6 = .ok (.if_icmp .ne 6, 3) := by decide +kernel
theorem dX9_text_9 : decode cX9_text 9 = .ok (.bipush (-4), 2) := by decide +kernel
theorem dX9_text_11 : decode cX9_text 11 = .ok (.ireturn, 1) := by decide +kernel
theorem dX9_text_12 : decode cX9_text 12 = .ok (.aload_n 0, 1) := by decide +kernel
theorem dX9_text_13 : decode cX9_text 13 = .ok (.iconst 0, 1) := by decide +kernel
theorem dX9_text_14 : decode cX9_text 14 = .ok (.putfield 135, 3) := by decide +kernel
theorem dX9_text_17 : decode cX9_text 17 = .ok (.aload_n 0, 1) := by decide +kernel
theorem dX9_text_18 : decode cX9_text 18 = .ok (.iconst 0, 1) := by decide +kernel
theorem dX9_text_19 : decode cX9_text 19 = .ok (.putfield 151, 3) := by decide +kernel
theorem dX9_text_22 : decode cX9_text 22 = .ok (.iconst 1, 1) := by decide +kernel
theorem dX9_text_23 : decode cX9_text 23 = .ok (.istore_n 1, 1) := by decide +kernel
theorem dX9_text_24 : decode cX9_text 24 = .ok (.iconst 0, 1) := by decide +kernel
theorem dX9_text_25 : decode cX9_text 25 = .ok (.istore_n 2, 1) := by decide +kernel
theorem dX9_text_26 : decode cX9_text 26 = .ok (.iload_n 2, 1) := by decide +kernel
theorem dX9_text_27 : decode cX9_text 27 = .ok (.iconst 3, 1) := by decide +kernel
theorem dX9_text_28 : decode cX9_text 28 = .ok (.if_icmp .ge 73, 3) := by decide +kernel
theorem dX9_text_31 : decode cX9_text 31 = .ok (.iload_n 1, 1) := by decide +kernel
theorem dX9_text_32 : decode cX9_text 32 = .ok (.ifCond .eq 69, 3) := by decide +kernel
theorem dX9_text_35 : decode cX9_text 35 = .ok (.aload_n 0, 1) := by decide +kernel
theorem dX9_text_36 : decode cX9_text 36 = .ok (.invokevirtual 172, 3) := by decide +kernel
theorem dX9_text_39 : decode cX9_text 39 = .ok (.aload_n 0, 1) := by decide +kernel
theorem dX9_text_40 : decode cX9_text 40 = .ok (.getfield 141, 3) := by decide +kernel
theorem dX9_text_43 : decode cX9_text 43 = .ok (.iconst 3, 1) := by decide +kernel
theorem dX9_text_44 : decode cX9_text 44 = .ok (.if_icmp .ne 15, 3) := by decide +kernel
theorem dX9_text_47 : decode cX9_text 47 = .ok (.aload_n 0, 1) := by decide +kernel
theorem dX9_text_48 : decode cX9_text 48 = .ok (.getfield 144, 3) := by decide +kernel
theorem dX9_text_51 : decode cX9_text 51 = .ok (.iload_n 2, 1) := by decide +kernel
theorem dX9_text_52 : decode cX9_text 52 = .ok (.if_icmp .ne 7, 3) := by decide +kernel
theorem dX9_text_55 : decode cX9_text 55 = .ok (.iconst 1, 1) := by decide +kernel
theorem dX9_text_56 : decode cX9_text 56 = .ok (.goto 4, 3) := by decide +kernel
theorem dX9_text_59 : decode cX9_text 59 = .ok (.iconst 0, 1) := by decide +kernel
theorem dX9_text_60 : decode cX9_text 60 = .ok (.istore_n 1, 1) := by decide +kernel
theorem dX9_text_61 : decode cX9_text 61 = .ok (.aload_n 0, 1) := by decide +kernel
theorem dX9_text_62 : decode cX9_text 62 = .ok (.getfield 32, 3) := by decide +kernel
theorem dX9_text_65 : decode cX9_text 65 = .ok (.iconst 4, 1) := by decide +kernel
theorem dX9_text_66 : decode cX9_text 66 = .ok (.aload_n 0, 1) := by decide +kernel
theorem dX9_text_67 : decode cX9_text 67 = .ok (.getfield 88, 3) := by decide +kernel
theorem dX9_text_70 : decode cX9_text 70 = .ok (.imul, 1) := by decide +kernel
theorem dX9_text_71 : decode cX9_text 71 = .ok (.iload_n 2, 1) := by decide +kernel
theorem dX9_text_72 : decode cX9_text 72 = .ok (.iadd, 1) := by decide +kernel
theorem dX9_text_73 : decode cX9_text 73 = .ok (.aload_n 0, 1) := by decide +kernel
theorem dX9_text_74 : decode cX9_text 74 = .ok (.getfield 151, 3) := by decide +kernel
theorem dX9_text_77 : decode cX9_text 77 = .ok (.iastore, 1) := by decide +kernel
theorem dX9_text_78 : decode cX9_text 78 = .ok (.iload_n 1, 1) := by decide +kernel
theorem dX9_text_79 : decode cX9_text 79 = .ok (.ifCond .eq 14, 3) := by decide +kernel
theorem dX9_text_82 : decode cX9_text 82 = .ok (.aload_n 0, 1) := by decide +kernel
theorem dX9_text_83 : decode cX9_text 83 = .ok (.invokevirtual 185, 3) := by decide +kernel
theorem dX9_text_86 : decode cX9_text 86 = .ok (.ifCond .eq 7, 3) := by decide +kernel
theorem dX9_text_89 : decode cX9_text 89 = .ok (.iconst 1, 1) := by decide +kernel
theorem dX9_text_90 : decode cX9_text 90 = .ok (.goto 4, 3) := by decide +kernel
theorem dX9_text_93 : decode cX9_text 93 = .ok (.iconst 0, 1) := by decide +kernel
theorem dX9_text_94 : decode cX9_text 94 = .ok (.istore_n 1, 1) := by decide +kernel
theorem dX9_text_95 : decode cX9_text 95 = .ok (.iinc 2 1, 3) := by decide +kernel
theorem dX9_text_98 : decode cX9_text 98 = .ok (.goto (-72), 3) := by decide +kernel
theorem dX9_text_101 : decode cX9_text 101 = .ok (.iload_n 1, 1) := by decide +kernel
theorem dX9_text_102 : decode cX9_text 102 = .ok (.ifCond .eq 20, 3) := by decide +kernel
theorem dX9_text_105 : decode cX9_text 105 = .ok (.aload_n 0, 1) := by decide +kernel
theorem dX9_text_106 : decode cX9_text 106 = .ok (.invokevirtual 172, 3) := by decide +kernel
theorem dX9_text_109 : decode cX9_text 109 = .ok (.aload_n 0, 1) := by decide +kernel
theorem dX9_text_110 : decode cX9_text 110 = .ok (.getfield 141, 3) := by decide +kernel
theorem dX9_text_113 : decode cX9_text 113 = .ok (.ifCond .ne 7, 3) := by decide +kernel
theorem dX9_text_116 : decode cX9_text 116 = .ok (.iconst 1, 1) := by decide +kernel
theorem dX9_text_117 : decode cX9_text 117 = .ok (.goto 4, 3) := by decide +kernel
theorem dX9_text_120 : decode cX9_text 120 = .ok (.iconst 0, 1) := by decide +kernel
theorem dX9_text_121 : decode cX9_text 121 = .ok (.istore_n 1, 1) := by decide +kernel
theorem dX9_text_122 : decode cX9_text 122 = .ok (.aload_n 0, 1) := by decide +kernel
theorem dX9_text_123 : decode cX9_text 123 = .ok (.getfield 32, 3) := by decide +kernel
theorem dX9_text_126 : decode cX9_text 126 = .ok (.iconst 4, 1) := by decide +kernel
theorem dX9_text_127 : decode cX9_text 127 = .ok (.aload_n 0, 1) := by decide +kernel
theorem dX9_text_128 : decode cX9_text 128 = .ok (.getfield 88, 3) := by decide +kernel
theorem dX9_text_131 : decode cX9_text 131 = .ok (.imul, 1) := by decide +kernel
theorem dX9_text_132 : decode cX9_text 132 = .ok (.iconst 3, 1) := by decide +kernel
theorem dX9_text_133 : decode cX9_text 133 = .ok (.iadd, 1) := by decide +kernel
theorem dX9_text_134 : decode cX9_text 134 = .ok (.aload_n 0, 1) := by decide +kernel
theorem dX9_text_135 : decode cX9_text 135 = .ok (.getfield 151, 3) := by decide +kernel
theorem dX9_text_138 : decode cX9_text 138 = .ok (.iastore, 1) := by decide +kernel
theorem dX9_text_139 : decode cX9_text 139 = .ok (.aload_n 0, 1) := by decide +kernel
theorem dX9_text_140 : decode cX9_text 140 = .ok (.iconst 0, 1) := by decide +kernel
theorem dX9_text_141 : decode cX9_text 141 = .ok (.putfield 71, 3) := by decide +kernel
theorem dX9_text_144 : decode cX9_text 144 = .ok (.iload_n 1, 1) := by decide +kernel
theorem dX9_text_145 : decode cX9_text 145 = .ok (.ifCond .ne 11, 3) := by decide +kernel
theorem dX9_text_148 : decode cX9_text 148 = .ok (.bipush (-100), 2) := by decide +kernel
theorem dX9_text_150 : decode cX9_text 150 = .ok (.aload_n 0, 1) := by decide +kernel
theorem dX9_text_151 : decode cX9_text 151 = .ok (.getfield 138, 3) := by decide +kernel
theorem dX9_text_154 : decode cX9_text 154 = .ok (.isub, 1) := by decide +kernel
theorem dX9_text_155 : decode cX9_text 155 = .ok (.ireturn, 1) := by decide +kernel
theorem dX9_text_156 : decode cX9_text 156 = .ok (.aload_n 0, 1) := by decide +kernel
theorem dX9_text_157 : decode cX9_text 157 = .ok (.dup, 1) := by decide +kernel
theorem dX9_text_158 : decode cX9_text 158 = .ok (.getfield 88, 3) := by decide +kernel
theorem dX9_text_161 : decode cX9_text 161 = .ok (.iconst 1, 1) := by decide +kernel
theorem dX9_text_162 : decode cX9_text 162 = .ok (.iadd, 1) := by decide +kernel
theorem dX9_text_163 : decode cX9_text 163 = .ok (.putfield 88, 3) := by decide +kernel
theorem dX9_text_166 : decode cX9_text 166 = .ok (.aload_n 0, 1) := by decide +kernel
theorem dX9_text_167 : decode cX9_text 167 = .ok (.getfield 88, 3) := by decide +kernel
theorem dX9_text_170 : decode cX9_text 170 = .ok (.iconst 1, 1) := by decide +kernel
theorem dX9_text_171 : decode cX9_text 171 = .ok (.isub, 1) := by decide +kernel
theorem dX9_text_172 : decode cX9_text 172 = .ok (.ireturn, 1) := by decide +kernel
theorem dX9_two__0 : decode cX9_two_ 0 = .ok (.iload_n 0, 1) := by decide +kernel
theorem dX9_two__1 : decode cX9_two_ 1 = .ok (.tableswitch 101 11 17 #[43, 57, 101, 71, 82, 93, 97], 43) := by decide +kernel
theorem dX9_two__44 : decode cX9_two_ 44 = .ok (.iload_n 1, 1) := by decide +kernel
theorem dX9_two__45 : decode cX9_two_ 45 = .ok (.ifCond .ne 7, 3) := by decide +kernel
theorem dX9_two__48 : decode cX9_two_ 48 = .ok (.iload_n 2, 1) := by decide +kernel
theorem dX9_two__49 : decode cX9_two_ 49 = .ok (.ifCond .eq 7, 3) := by decide +kernel
theorem dX9_two__52 : decode cX9_two_ 52 = .ok (.iconst 1, 1) := by decide +kernel
theorem dX9_two__53 : decode cX9_two_ 53 = .ok (.goto 4, 3) := by decide +kernel
theorem dX9_two__56 : decode cX9_two_ 56 = .ok (.iconst 0, 1) := by decide +kernel
theorem dX9_two__57 : decode cX9_two_ 57 = .ok (.ireturn, 1) := by decide +kernel
theorem dX9_two__58 : decode cX9_two_ 58 = .ok (.iload_n 1, 1) := by decide +kernel
theorem dX9_two__59 : decode cX9_two_ 59 = .ok (.ifCond .eq 11, 3) := by decide +kernel
theorem dX9_two__62 : decode cX9_two_ 62 = .ok (.iload_n 2, 1) := by decide +kernel
theorem dX9_two__63 : decode cX9_two_ 63 = .ok (.ifCond .eq 7, 3) := by decide +kernel
theorem dX9_two__66 : decode cX9_two_ 66 = .ok (.iconst 1, 1) := by decide +kernel
theorem dX9_two__67 : decode cX9_two_ 67 = .ok (.goto 4, 3) := by decide +kernel
theorem dX9_two__70 : decode cX9_two_ 70 = .ok (.iconst 0, 1) := by decide +kernel
theorem dX9_two__71 : decode cX9_two_ 71 = .ok (.ireturn, 1) := by decide +kernel
theorem dX9_two__72 : decode cX9_two_ 72 = .ok (.iload_n 1, 1) := by decide +kernel
theorem dX9_two__73 : decode cX9_two_ 73 = .ok (.iload_n 2, 1) := by decide +kernel
theorem dX9_two__74 : decode cX9_two_ 74 = .ok (.if_icmp .ge 7, 3) := by decide +kernel
theorem dX9_two__77 : decode cX9_two_ 77 = .ok (.iconst 1, 1) := by decide +kernel
theorem dX9_two__78 : decode cX9_two_ 78 = .ok (.goto 4, 3) := by decide +kernel
theorem dX9_two__81 : decode cX9_two_ 81 = .ok (.iconst 0, 1) := by decide +kernel
theorem dX9_two__82 : decode cX9_two_ 82 = .ok (.ireturn, 1) := by decide +kernel
theorem dX9_two__83 : decode cX9_two_ 83 = .ok (.iload_n 1, 1) := by decide +kernel
theorem dX9_two__84 : decode cX9_two_ 84 = .ok (.iload_n 2, 1) := by decide +kernel
theorem dX9_two__85 : decode cX9_two_ 85 = .ok (.if_icmp .ne 7, 3) := by decide +kernel
theorem dX9_two__88 : decode cX9_two_ 88 = .ok (.iconst 1, 1) := by decide +kernel
theorem dX9_two__89 : decode cX9_two_ 89 = .ok (.goto 4, 3) := by decide +kernel
theorem dX9_two__92 : decode cX9_two_ 92 = .ok (.iconst 0, 1) := by decide +kernel
theorem dX9_two__93 : decode cX9_two_ 93 = .ok (.ireturn, 1) := by decide +kernel
theorem dX9_two__94 : decode cX9_two_ 94 = .ok (.iload_n 1, 1) := by decide +kernel
theorem dX9_two__95 : decode cX9_two_ 95 = .ok (.iload_n 2, 1) := by decide +kernel
theorem dX9_two__96 : decode cX9_two_ 96 = .ok (.iadd, 1) := by decide +kernel
theorem dX9_two__97 : decode cX9_two_ 97 = .ok (.ireturn, 1) := by decide +kernel
theorem dX9_two__98 : decode cX9_two_ 98 = .ok (.iload_n 1, 1) := by decide +kernel
theorem dX9_two__99 : decode cX9_two_ 99 = .ok (.iload_n 2, 1) := by decide +kernel
theorem dX9_two__100 : decode cX9_two_ 100 = .ok (.isub, 1) := by decide +kernel
theorem dX9_two__101 : decode cX9_two_ 101 = .ok (.ireturn, 1) := by decide +kernel
theorem dX9_two__102 : decode cX9_two_ 102 = .ok (.iload_n 1, 1) := by decide +kernel
theorem dX9_two__103 : decode cX9_two_ 103 = .ok (.iload_n 2, 1) := by decide +kernel
theorem dX9_two__104 : decode cX9_two_ 104 = .ok (.imul, 1) := by decide +kernel
theorem dX9_two__105 : decode cX9_two_ 105 = .ok (.ireturn, 1) := by decide +kernel
set_option maxRecDepth 20000 in
theorem ggX9_tellsOf_X9_two_ : GoodIn wsX9_tellsOf wsX9_two_ := goodIn_r _ [10] rfl (by decide +kernel)
set_option maxRecDepth 20000 in
theorem gX9_tellsOf_X9_two_ : GoodIn wsX9_tellsOf (va_wsS RX9 189 yX9_two_ wsX9_two_) := goodIn_app (goodIn_of _ (by decide +kernel)) ggX9_tellsOf_X9_two_
theorem dX9_tellsOf_0 : decode cX9_tellsOf 0 = .ok (.iconst 0, 1) := by decide +kernel
theorem dX9_tellsOf_1 : decode cX9_tellsOf 1 = .ok (.istore_n 2, 1) := by decide +kernel
theorem dX9_tellsOf_2 : decode cX9_tellsOf 2 = .ok (.aload_n 0, 1) := by decide +kernel
theorem dX9_tellsOf_3 : decode cX9_tellsOf 3 = .ok (.getfield 32, 3) := by decide +kernel
theorem dX9_tellsOf_6 : decode cX9_tellsOf 6 = .ok (.iconst 4, 1) := by decide +kernel
theorem dX9_tellsOf_7 : decode cX9_tellsOf 7 = .ok (.aload_n 0, 1) := by decide +kernel
theorem dX9_tellsOf_8 : decode cX9_tellsOf 8 = .ok (.getfield 91, 3) := by decide +kernel
theorem dX9_tellsOf_11 : decode cX9_tellsOf 11 = .ok (.imul, 1) := by decide +kernel
theorem dX9_tellsOf_12 : decode cX9_tellsOf 12 = .ok (.iload_n 1, 1) := by decide +kernel
theorem dX9_tellsOf_13 : decode cX9_tellsOf 13 = .ok (.iadd, 1) := by decide +kernel
theorem dX9_tellsOf_14 : decode cX9_tellsOf 14 = .ok (.iaload, 1) := by decide +kernel
theorem dX9_tellsOf_15 : decode cX9_tellsOf 15 = .ok (.istore_n 3, 1) := by decide +kernel
theorem dX9_tellsOf_16 : decode cX9_tellsOf 16 = .ok (.iload_n 3, 1) := by decide +kernel
theorem dX9_tellsOf_17 : decode cX9_tellsOf 17 = .ok (.aload_n 0, 1) := by decide +kernel
theorem dX9_tellsOf_18 : decode cX9_tellsOf 18 = .ok (.getfield 32, 3) := by decide +kernel
theorem dX9_tellsOf_21 : decode cX9_tellsOf 21 = .ok (.iconst 4, 1) := by decide +kernel
theorem dX9_tellsOf_22 : decode cX9_tellsOf 22 = .ok (.aload_n 0, 1) := by decide +kernel
theorem dX9_tellsOf_23 : decode cX9_tellsOf 23 = .ok (.getfield 91, 3) := by decide +kernel
theorem dX9_tellsOf_26 : decode cX9_tellsOf 26 = .ok (.imul, 1) := by decide +kernel
theorem dX9_tellsOf_27 : decode cX9_tellsOf 27 = .ok (.iload_n 1, 1) := by decide +kernel
theorem dX9_tellsOf_28 : decode cX9_tellsOf 28 = .ok (.iadd, 1) := by decide +kernel
theorem dX9_tellsOf_29 : decode cX9_tellsOf 29 = .ok (.iconst 1, 1) := by decide +kernel
theorem dX9_tellsOf_30 : decode cX9_tellsOf 30 = .ok (.iadd, 1) := by decide +kernel
theorem dX9_tellsOf_31 : decode cX9_tellsOf 31 = .ok (.iaload, 1) := by decide +kernel
theorem dX9_tellsOf_32 : decode cX9_tellsOf 32 = .ok (.if_icmp .ge 165, 3) := by decide +kernel
theorem dX9_tellsOf_35 : decode cX9_tellsOf 35 = .ok (.aload_n 0, 1) := by decide +kernel
theorem dX9_tellsOf_36 : decode cX9_tellsOf 36 = .ok (.getfield 29, 3) := by decide +kernel
theorem dX9_tellsOf_39 : decode cX9_tellsOf 39 = .ok (.sipush 200, 3) := by decide +kernel
theorem dX9_tellsOf_42 : decode cX9_tellsOf 42 = .ok (.aload_n 0, 1) := by decide +kernel
theorem dX9_tellsOf_43 : decode cX9_tellsOf 43 = .ok (.getfield 91, 3) := by decide +kernel
theorem dX9_tellsOf_46 : decode cX9_tellsOf 46 = .ok (.imul, 1) := by decide +kernel
theorem dX9_tellsOf_47 : decode cX9_tellsOf 47 = .ok (.iload_n 3, 1) := by decide +kernel
theorem dX9_tellsOf_48 : decode cX9_tellsOf 48 = .ok (.iadd, 1) := by decide +kernel
theorem dX9_tellsOf_49 : decode cX9_tellsOf 49 = .ok (.iaload, 1) := by decide +kernel
