theorem dX8_truth_100 : decode cX8_truth 100 = .ok (.if_icmp .le 7, 3) := by decide +kernel
theorem dX8_truth_103 : decode cX8_truth 103 = .ok (.iconst 1, 1) := by decide +kernel
theorem dX8_truth_104 : decode cX8_truth 104 = .ok (.goto 4, 3) := by decide +kernel
theorem dX8_truth_107 : decode cX8_truth 107 = .ok (.iconst 0, 1) := by decide +kernel
theorem dX8_truth_108 : decode cX8_truth 108 = .ok (.ireturn, 1) := by decide +kernel
theorem dX8_truth_109 : decode cX8_truth 109 = .ok (.aload_n 0, 1) := by decide +kernel
theorem dX8_truth_110 : decode cX8_truth 110 = .ok (.getfield 10, 3) := by decide +kernel
theorem dX8_truth_113 : decode cX8_truth 113 = .ok (.invokevirtual 148, 3) := by decide +kernel
theorem dX8_truth_116 : decode cX8_truth 116 = .ok (.ireturn, 1) := by decide +kernel
theorem dX8_truth_117 : decode cX8_truth 117 = .ok (.aload_n 0, 1) := by decide +kernel
theorem dX8_truth_118 : decode cX8_truth 118 = .ok (.getfield 10, 3) := by decide +kernel
theorem dX8_truth_121 : decode cX8_truth 121 = .ok (.invokevirtual 151, 3) := by decide +kernel
theorem dX8_truth_124 : decode cX8_truth 124 = .ok (.ireturn, 1) := by decide +kernel
theorem dX8_truth_125 : decode cX8_truth 125 = .ok (.aload_n 0, 1) := by decide +kernel
theorem dX8_truth_126 : decode cX8_truth 126 = .ok (.getfield 10, 3) := by decide +kernel
theorem dX8_truth_129 : decode cX8_truth 129 = .ok (.invokevirtual 154, 3) := by decide +kernel
theorem dX8_truth_132 : decode cX8_truth 132 = .ok (.ireturn, 1) := by decide +kernel
theorem dX8_truth_133 : decode cX8_truth 133 = .ok (.bipush (-2), 2) := by decide +kernel
theorem dX8_truth_135 : decode cX8_truth 135 = .ok (.ireturn, 1) := by decide +kernel
set_option maxRecDepth 20000 in
theorem ggX8_two_X8_packSum : GoodIn wsX8_two wsX8_packSum := goodIn_r _ [7, 2, 17, 18, 19, 20, 21, 22, 23, 24, 25, 26, 27, 28, 29, 30, 31] rfl (by decide +kernel)
set_option maxRecDepth 20000 in
theorem gX8_two_X8_packSum : GoodIn wsX8_two (wsV RX8 157 RX8 yX8_packSum wsX8_packSum) := goodIn_app (goodIn_of _ (by decide +kernel)) ggX8_two_X8_packSum
set_option maxRecDepth 20000 in
theorem ggX8_two_X4_sum : GoodIn wsX8_two wsX4_sum := goodIn_r _ [11, 12, 13, 32, 33] rfl (by decide +kernel)
set_option maxRecDepth 20000 in
theorem gX8_two_X4_sum_n151 : GoodIn wsX8_two (wsX4_sum) := ggX8_two_X4_sum
set_option maxRecDepth 20000 in
theorem ggX8_two_X4_squares : GoodIn wsX8_two wsX4_squares := goodIn_r _ [16, 12, 13, 32, 33] rfl (by decide +kernel)
set_option maxRecDepth 20000 in
theorem gX8_two_X4_squares_n154 : GoodIn wsX8_two (wsX4_squares) := ggX8_two_X4_squares
theorem dX8_two_0 : decode cX8_two 0 = .ok (.iload_n 1, 1) := by decide +kernel
theorem dX8_two_1 : decode cX8_two 1 = .ok (.ifCond .lt 8, 3) := by decide +kernel
theorem dX8_two_4 : decode cX8_two 4 = .ok (.iload_n 1, 1) := by decide +kernel
theorem dX8_two_5 : decode cX8_two 5 = .ok (.iconst 1, 1) := by decide +kernel
theorem dX8_two_6 : decode cX8_two 6 = .ok (.if_icmp .le 6, 3) := by decide +kernel
theorem dX8_two_9 : decode cX8_two 9 = .ok (.bipush (-2), 2) := by decide +kernel
theorem dX8_two_11 : decode cX8_two 11 = .ok (.ireturn, 1) := by decide +kernel
theorem dX8_two_12 : decode cX8_two 12 = .ok (.aload_n 0, 1) := by decide +kernel
theorem dX8_two_13 : decode cX8_two 13 = .ok (.invokevirtual 157, 3) := by decide +kernel
theorem dX8_two_16 : decode cX8_two 16 = .ok (.aload_n 0, 1) := by decide +kernel
theorem dX8_two_17 : decode cX8_two 17 = .ok (.getfield 10, 3) := by decide +kernel
theorem dX8_two_20 : decode cX8_two 20 = .ok (.invokevirtual 151, 3) := by decide +kernel
theorem dX8_two_23 : decode cX8_two 23 = .ok (.isub, 1) := by decide +kernel
theorem dX8_two_24 : decode cX8_two 24 = .ok (.istore_n 2, 1) := by decide +kernel
theorem dX8_two_25 : decode cX8_two 25 = .ok (.aload_n 0, 1) := by decide +kernel
theorem dX8_two_26 : decode cX8_two 26 = .ok (.getfield 74, 3) := by decide +kernel
theorem dX8_two_29 : decode cX8_two 29 = .ok (.aload_n 0, 1) := by decide +kernel
theorem dX8_two_30 : decode cX8_two 30 = .ok (.getfield 74, 3) := by decide +kernel
theorem dX8_two_33 : decode cX8_two 33 = .ok (.iconst 1, 1) := by decide +kernel
theorem dX8_two_34 : decode cX8_two 34 = .ok (.iadd, 1) := by decide +kernel
theorem dX8_two_35 : decode cX8_two 35 = .ok (.imul, 1) := by decide +kernel
theorem dX8_two_36 : decode cX8_two 36 = .ok (.iconst 2, 1) := by decide +kernel
theorem dX8_two_37 : decode cX8_two 37 = .ok (.aload_n 0, 1) := by decide +kernel
theorem dX8_two_38 : decode cX8_two 38 = .ok (.getfield 74, 3) := by decide +kernel
theorem dX8_two_41 : decode cX8_two 41 = .ok (.imul, 1) := by decide +kernel
theorem dX8_two_42 : decode cX8_two 42 = .ok (.iconst 1, 1) := by decide +kernel
theorem dX8_two_43 : decode cX8_two 43 = .ok (.iadd, 1) := by decide +kernel
theorem dX8_two_44 : decode cX8_two 44 = .ok (.imul, 1) := by decide +kernel
theorem dX8_two_45 : decode cX8_two 45 = .ok (.bipush 6, 2) := by decide +kernel
theorem dX8_two_47 : decode cX8_two 47 = .ok (.idiv, 1) := by decide +kernel
theorem dX8_two_48 : decode cX8_two 48 = .ok (.aload_n 0, 1) := by decide +kernel
theorem dX8_two_49 : decode cX8_two 49 = .ok (.getfield 10, 3) := by decide +kernel
theorem dX8_two_52 : decode cX8_two 52 = .ok (.invokevirtual 154, 3) := by decide +kernel
theorem dX8_two_55 : decode cX8_two 55 = .ok (.isub, 1) := by decide +kernel
theorem dX8_two_56 : decode cX8_two 56 = .ok (.istore_n 3, 1) := by decide +kernel
theorem dX8_two_57 : decode cX8_two 57 = .ok (.iconst 1, 1) := by decide +kernel
theorem dX8_two_58 : decode cX8_two 58 = .ok (.istore 4, 2) := by decide +kernel
theorem dX8_two_60 : decode cX8_two 60 = .ok (.iload 4, 2) := by decide +kernel
theorem dX8_two_62 : decode cX8_two 62 = .ok (.aload_n 0, 1) := by decide +kernel
theorem dX8_two_63 : decode cX8_two 63 = .ok (.getfield 74, 3) := by decide +kernel
theorem dX8_two_66 : decode cX8_two 66 = .ok (.if_icmp .gt 64, 3) := by decide +kernel
theorem dX8_two_69 : decode cX8_two 69 = .ok (.iload_n 2, 1) := by decide +kernel
theorem dX8_two_70 : decode cX8_two 70 = .ok (.iload 4, 2) := by decide +kernel
theorem dX8_two_72 : decode cX8_two 72 = .ok (.isub, 1) := by decide +kernel
theorem dX8_two_73 : decode cX8_two 73 = .ok (.istore 5, 2) := by decide +kernel
theorem dX8_two_75 : decode cX8_two 75 = .ok (.iload 5, 2) := by decide +kernel
theorem dX8_two_77 : decode cX8_two 77 = .ok (.iload 4, 2) := by decide +kernel
theorem dX8_two_79 : decode cX8_two 79 = .ok (.if_icmp .le 45, 3) := by decide +kernel
theorem dX8_two_82 : decode cX8_two 82 = .ok (.iload 5, 2) := by decide +kernel
theorem dX8_two_84 : decode cX8_two 84 = .ok (.aload_n 0, 1) := by decide +kernel
theorem dX8_two_85 : decode cX8_two 85 = .ok (.getfield 74, 3) := by decide +kernel
theorem dX8_two_88 : decode cX8_two 88 = .ok (.if_icmp .gt 36, 3) := by decide +kernel
theorem dX8_two_91 : decode cX8_two 91 = .ok (.iload 4, 2) := by decide +kernel
theorem dX8_two_93 : decode cX8_two 93 = .ok (.iload 4, 2) := by decide +kernel
theorem dX8_two_95 : decode cX8_two 95 = .ok (.imul, 1) := by decide +kernel
theorem dX8_two_96 : decode cX8_two 96 = .ok (.iload 5, 2) := by decide +kernel
theorem dX8_two_98 : decode cX8_two 98 = .ok (.iload 5, 2) := by decide +kernel
theorem dX8_two_100 : decode cX8_two 100 = .ok (.imul, 1) := by decide +kernel
theorem dX8_two_101 : decode cX8_two 101 = .ok (.iadd, 1) := by decide +kernel
theorem dX8_two_102 : decode cX8_two 102 = .ok (.iload_n 3, 1) := by decide +kernel
theorem dX8_two_103 : decode cX8_two 103 = .ok (.if_icmp .ne 21, 3) := by decide +kernel
theorem dX8_two_106 : decode cX8_two 106 = .ok (.iload_n 1, 1) := by decide +kernel
theorem dX8_two_107 : decode cX8_two 107 = .ok (.ifCond .ne 14, 3) := by decide +kernel
theorem dX8_two_110 : decode cX8_two 110 = .ok (.bipush 100, 2) := by decide +kernel
theorem dX8_two_112 : decode cX8_two 112 = .ok (.iload 4, 2) := by decide +kernel
theorem dX8_two_114 : decode cX8_two 114 = .ok (.imul, 1) := by decide +kernel
theorem dX8_two_115 : decode cX8_two 115 = .ok (.iload 5, 2) := by decide +kernel
theorem dX8_two_117 : decode cX8_two 117 = .ok (.iadd, 1) := by decide +kernel
theorem dX8_two_118 : decode cX8_two 118 = .ok (.goto 5, 3) := by decide +kernel
theorem dX8_two_121 : decode cX8_two 121 = .ok (.iload 4, 2) := by decide +kernel
theorem dX8_two_123 : decode cX8_two 123 = .ok (.ireturn, 1) := by decide +kernel
theorem dX8_two_124 : decode cX8_two 124 = .ok (.iinc 4 1, 3) := by decide +kernel
theorem dX8_two_127 : decode cX8_two 127 = .ok (.goto (-67), 3) := by decide +kernel
theorem dX8_two_130 : decode cX8_two 130 = .ok (.iload_n 1, 1) := by decide +kernel
theorem dX8_two_131 : decode cX8_two 131 = .ok (.ifCond .ne 7, 3) := by decide +kernel
theorem dX8_two_134 : decode cX8_two 134 = .ok (.iconst (-1), 1) := by decide +kernel
theorem dX8_two_135 : decode cX8_two 135 = .ok (.goto 7, 3) := by decide +kernel
theorem dX8_two_138 : decode cX8_two 138 = .ok (.aload_n 0, 1) := by decide +kernel
theorem dX8_two_139 : decode cX8_two 139 = .ok (.getfield 74, 3) := by decide +kernel
theorem dX8_two_142 : decode cX8_two 142 = .ok (.ireturn, 1) := by decide +kernel
set_option maxRecDepth 20000 in
theorem ggX8_feed_X8_isByte : GoodIn wsX8_feed wsX8_isByte := goodIn_r _ [5] rfl (by decide +kernel)
set_option maxRecDepth 20000 in
theorem gX8_feed_X8_isByte : GoodIn wsX8_feed (va_wsS RX8 160 yX8_isByte wsX8_isByte) := goodIn_app (goodIn_of _ (by decide +kernel)) ggX8_feed_X8_isByte
set_option maxRecDepth 20000 in
theorem ggX8_feed_X3_take : GoodIn wsX8_feed wsX3_take := goodIn_r _ [9, 10, 11, 27, 28, 29, 30, 31, 32, 33] rfl (by decide +kernel)
set_option maxRecDepth 20000 in
theorem gX8_feed_X3_take_n101 : GoodIn wsX8_feed (wsX3_take) := ggX8_feed_X3_take
theorem dX8_feed_0 : decode cX8_feed 0 = .ok (.iload_n 1, 1) := by decide +kernel
theorem dX8_feed_1 : decode cX8_feed 1 = .ok (.iconst 1, 1) := by decide +kernel
theorem dX8_feed_2 : decode cX8_feed 2 = .ok (.if_icmp .lt 46, 3) := by decide +kernel
theorem dX8_feed_5 : decode cX8_feed 5 = .ok (.iload_n 1, 1) := by decide +kernel
theorem dX8_feed_6 : decode cX8_feed 6 = .ok (.iconst 5, 1) := by decide +kernel
theorem dX8_feed_7 : decode cX8_feed 7 = .ok (.if_icmp .gt 41, 3) := by decide +kernel
theorem dX8_feed_10 : decode cX8_feed 10 = .ok (.iload_n 2, 1) := by decide +kernel
theorem dX8_feed_11 : decode cX8_feed 11 = .ok (.invokestatic 160, 3) := by decide +kernel
theorem dX8_feed_14 : decode cX8_feed 14 = .ok (.ifCond .eq 34, 3) := by decide +kernel
theorem dX8_feed_17 : decode cX8_feed 17 = .ok (.iload_n 3, 1) := by decide +kernel
theorem dX8_feed_18 : decode cX8_feed 18 = .ok (.invokestatic 160, 3) := by decide +kernel
theorem dX8_feed_21 : decode cX8_feed 21 = .ok (.ifCond .eq 27, 3) := by decide +kernel
theorem dX8_feed_24 : decode cX8_feed 24 = .ok (.iload 4, 2) := by decide +kernel
theorem dX8_feed_26 : decode cX8_feed 26 = .ok (.invokestatic 160, 3) := by decide +kernel
theorem dX8_feed_29 : decode cX8_feed 29 = .ok (.ifCond .eq 19, 3) := by decide +kernel
theorem dX8_feed_32 : decode cX8_feed 32 = .ok (.iload 5, 2) := by decide +kernel
theorem dX8_feed_34 : decode cX8_feed 34 = .ok (.invokestatic 160, 3) := by decide +kernel
theorem dX8_feed_37 : decode cX8_feed 37 = .ok (.ifCond .eq 11, 3) := by decide +kernel
theorem dX8_feed_40 : decode cX8_feed 40 = .ok (.iload 6, 2) := by decide +kernel
theorem dX8_feed_42 : decode cX8_feed 42 = .ok (.invokestatic 160, 3) := by decide +kernel
theorem dX8_feed_45 : decode cX8_feed 45 = .ok (.ifCond .ne 6, 3) := by decide +kernel
theorem dX8_feed_48 : decode cX8_feed 48 = .ok (.bipush (-2), 2) := by decide +kernel
theorem dX8_feed_50 : decode cX8_feed 50 = .ok (.ireturn, 1) := by decide +kernel
theorem dX8_feed_51 : decode cX8_feed 51 = .ok (.aload_n 0, 1) := by decide +kernel
theorem dX8_feed_52 : decode cX8_feed 52 = .ok (.getfield 33, 3) := by decide +kernel
theorem dX8_feed_55 : decode cX8_feed 55 = .ok (.getfield 111, 3) := by decide +kernel
theorem dX8_feed_58 : decode cX8_feed 58 = .ok (.iload_n 1, 1) := by decide +kernel
theorem dX8_feed_59 : decode cX8_feed 59 = .ok (.iadd, 1) := by decide +kernel
theorem dX8_feed_60 : decode cX8_feed 60 = .ok (.sipush 160, 3) := by decide +kernel
theorem dX8_feed_63 : decode cX8_feed 63 = .ok (.if_icmp .le 6, 3) := by decide +kernel
theorem dX8_feed_66 : decode cX8_feed 66 = .ok (.bipush (-4), 2) := by decide +kernel
theorem dX8_feed_68 : decode cX8_feed 68 = .ok (.ireturn, 1) := by decide +kernel
theorem dX8_feed_69 : decode cX8_feed 69 = .ok (.iconst 0, 1) := by decide +kernel
theorem dX8_feed_70 : decode cX8_feed 70 = .ok (.istore 7, 2) := by decide +kernel
theorem dX8_feed_72 : decode cX8_feed 72 = .ok (.iload 7, 2) := by decide +kernel
theorem dX8_feed_74 : decode cX8_feed 74 = .ok (.iload_n 1, 1) := by decide +kernel
theorem dX8_feed_75 : decode cX8_feed 75 = .ok (.if_icmp .ge 59, 3) := by decide +kernel
theorem dX8_feed_78 : decode cX8_feed 78 = .ok (.aload_n 0, 1) := by decide +kernel
theorem dX8_feed_79 : decode cX8_feed 79 = .ok (.getfield 33, 3) := by decide +kernel
theorem dX8_feed_82 : decode cX8_feed 82 = .ok (.iload 7, 2) := by decide +kernel
theorem dX8_feed_84 : decode cX8_feed 84 = .ok (.ifCond .ne 7, 3) := by decide +kernel
theorem dX8_feed_87 : decode cX8_feed 87 = .ok (.iload_n 2, 1) := by decide +kernel
theorem dX8_feed_88 : decode cX8_feed 88 = .ok (.goto 37, 3) := by decide +kernel
theorem dX8_feed_91 : decode cX8_feed 91 = .ok (.iload 7, 2) := by decide +kernel
theorem dX8_feed_93 : decode cX8_feed 93 = .ok (.iconst 1, 1) := by decide +kernel
theorem dX8_feed_94 : decode cX8_feed 94 = .ok (.if_icmp .ne 7, 3) := by decide +kernel
theorem dX8_feed_97 : decode cX8_feed 97 = .ok (.iload_n 3, 1) := by decide +kernel
theorem dX8_feed_98 : decode cX8_feed 98 = .ok (.goto 27, 3) := by decide +kernel
theorem dX8_feed_101 : decode cX8_feed 101 = .ok (.iload 7, 2) := by decide +kernel
theorem dX8_feed_103 : decode cX8_feed 103 = .ok (.iconst 2, 1) := by decide +kernel
theorem dX8_feed_104 : decode cX8_feed 104 = .ok (.if_icmp .ne 8, 3) := by decide +kernel
theorem dX8_feed_107 : decode cX8_feed 107 = .ok (.iload 4, 2) := by decide +kernel
theorem dX8_feed_109 : decode cX8_feed 109 = .ok (.goto 16, 3) := by decide +kernel
theorem dX8_feed_112 : decode cX8_feed 112 = .ok (.iload 7, 2) := by decide +kernel
theorem dX8_feed_114 : decode cX8_feed 114 = .ok (.iconst 3, 1) := by decide +kernel
theorem dX8_feed_115 : decode cX8_feed 115 = .ok (.if_icmp .ne 8, 3) := by decide +kernel
theorem dX8_feed_118 : decode cX8_feed 118 = .ok (.iload 5, 2) := by decide +kernel
theorem dX8_feed_120 : decode cX8_feed 120 = .ok (.goto 5, 3) := by decide +kernel
theorem dX8_feed_123 : decode cX8_feed 123 = .ok (.iload 6, 2) := by decide +kernel
theorem dX8_feed_125 : decode cX8_feed 125 = .ok (.invokevirtual 101, 3) := by decide +kernel
theorem dX8_feed_128 : decode cX8_feed 128 = .ok (.iinc 7 1, 3) := by decide +kernel
theorem dX8_feed_131 : decode cX8_feed 131 = .ok (.goto (-59), 3) := by decide +kernel
theorem dX8_feed_134 : decode cX8_feed 134 = .ok (.aload_n 0, 1) := by decide +kernel
theorem dX8_feed_135 : decode cX8_feed 135 = .ok (.getfield 33, 3) := by decide +kernel
theorem dX8_feed_138 : decode cX8_feed 138 = .ok (.getfield 111, 3) := by decide +kernel
theorem dX8_feed_141 : decode cX8_feed 141 = .ok (.ireturn, 1) := by decide +kernel
set_option maxRecDepth 20000 in
theorem ggX8_text_X3_readInto : GoodIn wsX8_text wsX3_readInto := goodIn_r _ [7, 8, 9, 10, 11, 12, 13, 14, 15, 16, 17, 18, 19, 20, 5, 21, 22, 23, 24, 25, 26, 27, 28, 29, 30, 31, 32, 33, 34, 35, 36, 37, 38, 39, 40, 41, 42, 43, 44, 45, 46, 47, 48, 49, 50, 51, 52, 53, 54, 55, 56, 57, 58, 59, 60, 61, 62, 63, 64, 65, 66, 67, 68, 69, 70, 71, 72, 73, 74, 75, 76, 77, 78, 79, 80, 81, 82, 83, 84, 85, 86, 87, 88, 89, 90, 91, 92, 93, 94, 95, 96, 97, 98, 99, 100, 101, 102, 103, 104, 105, 106, 107, 108, 109, 110, 111, 112, 113, 114, 115, 116, 117, 118, 119, 120, 121, 122, 123, 124, 125, 126, 127, 128, 129, 130, 131, 132, 133, 134, 135, 136, 137, 138, 139, 140, 141, 142, 143, 144, 145, 146, 147, 148, 149, 150, 151, 152, 153, 169, 170, 171, 172, 173, 174, 175, 176, 177, 178, 179] rfl (by decide +kernel)
set_option maxRecDepth 20000 in
theorem gX8_text_X3_readInto_n163 : GoodIn wsX8_text (wsX3_readInto) := ggX8_text_X3_readInto
theorem dX8_text_0 : decode cX8_text 0 = .ok (.aload_n 0, 1) := by decide +kernel
theorem dX8_text_1 : decode cX8_text 1 = .ok (.getfield 81, 3) := by decide +kernel
theorem dX8_text_4 : decode cX8_text 4 = .ok (.bipush 6, 2) := by decide +kernel
theorem dX8_text_6 : decode cX8_text 6 = .ok (.if_icmp .lt 6, 3) := by decide +kernel
theorem dX8_text_9 : decode cX8_text 9 = .ok (.bipush (-4), 2) := by decide +kernel
theorem dX8_text_11 : decode cX8_text 11 = .ok (.ireturn, 1) := by decide +kernel
theorem dX8_text_12 : decode cX8_text 12 = .ok (.aload_n 0, 1) := by decide +kernel
theorem dX8_text_13 : decode cX8_text 13 = .ok (.getfield 33, 3) := by decide +kernel
theorem dX8_text_16 : decode cX8_text 16 = .ok (.aload_n 0, 1) := by decide +kernel
theorem dX8_text_17 : decode cX8_text 17 = .ok (.getfield 39, 3) := by decide +kernel
theorem dX8_text_20 : decode cX8_text 20 = .ok (.aload_n 0, 1) := by decide +kernel
theorem dX8_text_21 : decode cX8_text 21 = .ok (.getfield 81, 3) := by decide +kernel
theorem dX8_text_24 : decode cX8_text 24 = .ok (.aaload, 1) := by decide +kernel
theorem dX8_text_25 : decode cX8_text 25 = .ok (.invokevirtual 163, 3) := by decide +kernel
theorem dX8_text_28 : decode cX8_text 28 = .ok (.istore_n 1, 1) := by decide +kernel
theorem dX8_text_29 : decode cX8_text 29 = .ok (.iload_n 1, 1) := by decide +kernel
theorem dX8_text_30 : decode cX8_text 30 = .ok (.ifCond .lt 8, 3) := by decide +kernel
theorem dX8_text_33 : decode cX8_text 33 = .ok (.bipush (-100), 2) := by decide +kernel
theorem dX8_text_35 : decode cX8_text 35 = .ok (.iload_n 1, 1) := by decide +kernel
theorem dX8_text_36 : decode cX8_text 36 = .ok (.isub, 1) := by decide +kernel
theorem dX8_text_37 : decode cX8_text 37 = .ok (.ireturn, 1) := by decide +kernel
theorem dX8_text_38 : decode cX8_text 38 = .ok (.aload_n 0, 1) := by decide +kernel
theorem dX8_text_39 : decode cX8_text 39 = .ok (.dup, 1) := by decide +kernel
theorem dX8_text_40 : decode cX8_text 40 = .ok (.getfield 81, 3) := by decide +kernel
theorem dX8_text_43 : decode cX8_text 43 = .ok (.iconst 1, 1) := by decide +kernel
theorem dX8_text_44 : decode cX8_text 44 = .ok (.iadd, 1) := by decide +kernel
theorem dX8_text_45 : decode cX8_text 45 = .ok (.putfield 81, 3) := by decide +kernel
theorem dX8_text_48 : decode cX8_text 48 = .ok (.aload_n 0, 1) := by decide +kernel
theorem dX8_text_49 : decode cX8_text 49 = .ok (.getfield 81, 3) := by decide +kernel
theorem dX8_text_52 : decode cX8_text 52 = .ok (.iconst 1, 1) := by decide +kernel
theorem dX8_text_53 : decode cX8_text 53 = .ok (.isub, 1) := by decide +kernel
theorem dX8_text_54 : decode cX8_text 54 = .ok (.ireturn, 1) := by decide +kernel
theorem dX8_force_0 : decode cX8_force 0 = .ok (.iload_n 1, 1) := by decide +kernel
theorem dX8_force_1 : decode cX8_force 1 = .ok (.ifCond .lt 11, 3) := by decide +kernel
theorem dX8_force_4 : decode cX8_force 4 = .ok (.iload_n 1, 1) := by decide +kernel
theorem dX8_force_5 : decode cX8_force 5 = .ok (.aload_n 0, 1) := by decide +kernel
theorem dX8_force_6 : decode cX8_force 6 = .ok (.getfield 81, 3) := by decide +kernel
theorem dX8_force_9 : decode cX8_force 9 = .ok (.if_icmp .lt 6, 3) := by decide +kernel
theorem dX8_force_12 : decode cX8_force 12 = .ok (.bipush (-2), 2) := by decide +kernel
theorem dX8_force_14 : decode cX8_force 14 = .ok (.ireturn, 1) := by decide +kernel
theorem dX8_force_15 : decode cX8_force 15 = .ok (.aload_n 0, 1) := by decide +kernel
theorem dX8_force_16 : decode cX8_force 16 = .ok (.getfield 84, 3) := by decide +kernel
theorem dX8_force_19 : decode cX8_force 19 = .ok (.istore_n 2, 1) := by decide +kernel
theorem dX8_force_20 : decode cX8_force 20 = .ok (.aload_n 0, 1) := by decide +kernel
theorem dX8_force_21 : decode cX8_force 21 = .ok (.iload_n 1, 1) := by decide +kernel
theorem dX8_force_22 : decode cX8_force 22 = .ok (.putfield 84, 3) := by decide +kernel
theorem dX8_force_25 : decode cX8_force 25 = .ok (.iload_n 2, 1) := by decide +kernel
theorem dX8_force_26 : decode cX8_force 26 = .ok (.ireturn, 1) := by decide +kernel
set_option maxRecDepth 20000 in
theorem ggX8_asks_X8_isNumber : GoodIn wsX8_asks wsX8_isNumber := goodIn_r _ [6, 7] rfl (by decide +kernel)
set_option maxRecDepth 20000 in
theorem gX8_asks_X8_isNumber : GoodIn wsX8_asks (va_wsS RX8 167 yX8_isNumber wsX8_isNumber) := goodIn_app (goodIn_of _ (by decide +kernel)) ggX8_asks_X8_isNumber
set_option maxRecDepth 20000 in
theorem ggX8_asks_X8_lawText : GoodIn wsX8_asks wsX8_lawText := goodIn_r _ [11, 12, 13, 59, 60, 61, 62, 63, 64, 65, 66, 67, 68, 69, 70, 71, 72, 73] rfl (by decide +kernel)
set_option maxRecDepth 20000 in
theorem gX8_asks_X8_lawText : GoodIn wsX8_asks (wsV RX8 170 RX8 yX8_lawText wsX8_lawText) := goodIn_app (goodIn_of _ (by decide +kernel)) ggX8_asks_X8_lawText
set_option maxRecDepth 20000 in
theorem ggX8_asks_X7_setOut : GoodIn wsX8_asks wsX7_setOut := goodIn_r _ [17, 18, 19, 74, 75, 76] rfl (by decide +kernel)
set_option maxRecDepth 20000 in
theorem gX8_asks_X7_setOut_n174 : GoodIn wsX8_asks (wsX7_setOut) := ggX8_asks_X7_setOut
set_option maxRecDepth 20000 in
theorem ggX8_asks_X7_keepBoth : GoodIn wsX8_asks wsX7_keepBoth := goodIn_r _ [22, 19, 74, 75, 76] rfl (by decide +kernel)
set_option maxRecDepth 20000 in
theorem gX8_asks_X7_keepBoth_n178 : GoodIn wsX8_asks (wsX7_keepBoth) := ggX8_asks_X7_keepBoth
set_option maxRecDepth 20000 in
theorem ggX8_asks_X7_meet : GoodIn wsX8_asks wsX7_meet := goodIn_r _ [25, 19, 74, 75, 76] rfl (by decide +kernel)
set_option maxRecDepth 20000 in
theorem gX8_asks_X7_meet_n182 : GoodIn wsX8_asks (wsX7_meet) := ggX8_asks_X7_meet
set_option maxRecDepth 20000 in
theorem ggX8_asks_X7_tellsBounded : GoodIn wsX8_asks wsX7_tellsBounded := goodIn_r _ [28, 29, 30, 31, 32, 33, 34, 35, 36, 37, 38, 39, 40, 15, 41, 18, 42, 43, 44, 45, 46, 47, 48, 49, 50, 51, 52, 53, 54, 55, 19, 56, 57, 58, 74, 75, 76, 77, 78, 79, 80] rfl (by decide +kernel)
set_option maxRecDepth 20000 in
theorem gX8_asks_X7_tellsBounded_n185 : GoodIn wsX8_asks (wsX7_tellsBounded) := ggX8_asks_X7_tellsBounded
theorem dX8_asks_0 : decode cX8_asks 0 = .ok (.iload 4, 2) := by decide +kernel
theorem dX8_asks_2 : decode cX8_asks 2 = .ok (.sipush 1000, 3) := by decide +kernel
theorem dX8_asks_5 : decode cX8_asks 5 = .ok (.idiv, 1) := by decide +kernel
theorem dX8_asks_6 : decode cX8_asks 6 = .ok (.istore 5, 2) := by decide +kernel
theorem dX8_asks_8 : decode cX8_asks 8 = .ok (.iload 4, 2) := by decide +kernel
theorem dX8_asks_10 : decode cX8_asks 10 = .ok (.bipush 10, 2) := by decide +kernel
theorem dX8_asks_12 : decode cX8_asks 12 = .ok (.idiv, 1) := by decide +kernel
theorem dX8_asks_13 : decode cX8_asks 13 = .ok (.bipush 100, 2) := by decide +kernel
theorem dX8_asks_15 : decode cX8_asks 15 = .ok (.irem, 1) := by decide +kernel
theorem dX8_asks_16 : decode cX8_asks 16 = .ok (.istore 6, 2) := by decide +kernel
theorem dX8_asks_18 : decode cX8_asks 18 = .ok (.iload_n 1, 1) := by decide +kernel
theorem dX8_asks_19 : decode cX8_asks 19 = .ok (.ifCond .lt 41, 3) := by decide +kernel
theorem dX8_asks_22 : decode cX8_asks 22 = .ok (.iload_n 1, 1) := by decide +kernel
theorem dX8_asks_23 : decode cX8_asks 23 = .ok (.iconst 3, 1) := by decide +kernel
theorem dX8_asks_24 : decode cX8_asks 24 = .ok (.if_icmp .ge 36, 3) := by decide +kernel
theorem dX8_asks_27 : decode cX8_asks 27 = .ok (.iload_n 2, 1) := by decide +kernel
theorem dX8_asks_28 : decode cX8_asks 28 = .ok (.invokestatic 167, 3) := by decide +kernel
theorem dX8_asks_31 : decode cX8_asks 31 = .ok (.ifCond .eq 29, 3) := by decide +kernel
theorem dX8_asks_34 : decode cX8_asks 34 = .ok (.iload_n 3, 1) := by decide +kernel
theorem dX8_asks_35 : decode cX8_asks 35 = .ok (.invokestatic 167, 3) := by decide +kernel
theorem dX8_asks_38 : decode cX8_asks 38 = .ok (.ifCond .eq 22, 3) := by decide +kernel
theorem dX8_asks_41 : decode cX8_asks 41 = .ok (.iload 4, 2) := by decide +kernel
theorem dX8_asks_43 : decode cX8_asks 43 = .ok (.ifCond .lt 17, 3) := by decide +kernel
theorem dX8_asks_46 : decode cX8_asks 46 = .ok (.iload 5, 2) := by decide +kernel
theorem dX8_asks_48 : decode cX8_asks 48 = .ok (.bipush 52, 2) := by decide +kernel
theorem dX8_asks_50 : decode cX8_asks 50 = .ok (.if_icmp .gt 10, 3) := by decide +kernel
theorem dX8_asks_53 : decode cX8_asks 53 = .ok (.iload 6, 2) := by decide +kernel
theorem dX8_asks_55 : decode cX8_asks 55 = .ok (.bipush 60, 2) := by decide +kernel
theorem dX8_asks_57 : decode cX8_asks 57 = .ok (.if_icmp .lt 6, 3) := by decide +kernel
theorem dX8_asks_60 : decode cX8_asks 60 = .ok (.bipush (-2), 2) := by decide +kernel
theorem dX8_asks_62 : decode cX8_asks 62 = .ok (.ireturn, 1) := by decide +kernel
theorem dX8_asks_63 : decode cX8_asks 63 = .ok (.aload_n 0, 1) := by decide +kernel
theorem dX8_asks_64 : decode cX8_asks 64 = .ok (.getfield 46, 3) := by decide +kernel
theorem dX8_asks_67 : decode cX8_asks 67 = .ok (.aload_n 0, 1) := by decide +kernel
theorem dX8_asks_68 : decode cX8_asks 68 = .ok (.invokevirtual 170, 3) := by decide +kernel
theorem dX8_asks_71 : decode cX8_asks 71 = .ok (.aload_n 0, 1) := by decide +kernel
theorem dX8_asks_72 : decode cX8_asks 72 = .ok (.getfield 74, 3) := by decide +kernel
theorem dX8_asks_75 : decode cX8_asks 75 = .ok (.iload 4, 2) := by decide +kernel
theorem dX8_asks_77 : decode cX8_asks 77 = .ok (.bipush 10, 2) := by decide +kernel
theorem dX8_asks_79 : decode cX8_asks 79 = .ok (.irem, 1) := by decide +kernel
theorem dX8_asks_80 : decode cX8_asks 80 = .ok (.invokevirtual 174, 3) := by decide +kernel
theorem dX8_asks_83 : decode cX8_asks 83 = .ok (.aload_n 0, 1) := by decide +kernel
theorem dX8_asks_84 : decode cX8_asks 84 = .ok (.getfield 46, 3) := by decide +kernel
theorem dX8_asks_87 : decode cX8_asks 87 = .ok (.iload_n 2, 1) := by decide +kernel
theorem dX8_asks_88 : decode cX8_asks 88 = .ok (.iload_n 3, 1) := by decide +kernel
theorem dX8_asks_89 : decode cX8_asks 89 = .ok (.invokevirtual 178, 3) := by decide +kernel
theorem dX8_asks_92 : decode cX8_asks 92 = .ok (.aload_n 0, 1) := by decide +kernel
theorem dX8_asks_93 : decode cX8_asks 93 = .ok (.getfield 46, 3) := by decide +kernel
theorem dX8_asks_96 : decode cX8_asks 96 = .ok (.iload 5, 2) := by decide +kernel
theorem dX8_asks_98 : decode cX8_asks 98 = .ok (.iload 6, 2) := by decide +kernel
theorem dX8_asks_100 : decode cX8_asks 100 = .ok (.invokevirtual 182, 3) := by decide +kernel
theorem dX8_asks_103 : decode cX8_asks 103 = .ok (.aload_n 0, 1) := by decide +kernel
theorem dX8_asks_104 : decode cX8_asks 104 = .ok (.getfield 46, 3) := by decide +kernel
theorem dX8_asks_107 : decode cX8_asks 107 = .ok (.iload_n 1, 1) := by decide +kernel
theorem dX8_asks_108 : decode cX8_asks 108 = .ok (.invokevirtual 185, 3) := by decide +kernel
theorem dX8_asks_111 : decode cX8_asks 111 = .ok (.ireturn, 1) := by decide +kernel
set_option maxRecDepth 20000 in
theorem ggX8_head_X8_isBits : GoodIn wsX8_head wsX8_isBits := goodIn_r _ [6] rfl (by decide +kernel)
set_option maxRecDepth 20000 in
theorem gX8_head_X8_isBits : GoodIn wsX8_head (va_wsS RX8 188 yX8_isBits wsX8_isBits) := goodIn_app (goodIn_of _ (by decide +kernel)) ggX8_head_X8_isBits
set_option maxRecDepth 20000 in
theorem ggX8_head_X8_isNumber : GoodIn wsX8_head wsX8_isNumber := goodIn_r _ [9, 10] rfl (by decide +kernel)
set_option maxRecDepth 20000 in
theorem gX8_head_X8_isNumber : GoodIn wsX8_head (va_wsS RX8 167 yX8_isNumber wsX8_isNumber) := goodIn_app (goodIn_of _ (by decide +kernel)) ggX8_head_X8_isNumber
theorem dX8_head_0 : decode cX8_head 0 = .ok (.iload_n 1, 1) := by decide +kernel
theorem dX8_head_1 : decode cX8_head 1 = .ok (.ifCond .lt 25, 3) := by decide +kernel
theorem dX8_head_4 : decode cX8_head 4 = .ok (.iload_n 1, 1) := by decide +kernel
theorem dX8_head_5 : decode cX8_head 5 = .ok (.bipush 10, 2) := by decide +kernel
theorem dX8_head_7 : decode cX8_head 7 = .ok (.idiv, 1) := by decide +kernel
theorem dX8_head_8 : decode cX8_head 8 = .ok (.iconst 5, 1) := by decide +kernel
theorem dX8_head_9 : decode cX8_head 9 = .ok (.if_icmp .gt 17, 3) := by decide +kernel
theorem dX8_head_12 : decode cX8_head 12 = .ok (.iload_n 2, 1) := by decide +kernel
theorem dX8_head_13 : decode cX8_head 13 = .ok (.invokestatic 188, 3) := by decide +kernel
theorem dX8_head_16 : decode cX8_head 16 = .ok (.ifCond .eq 10, 3) := by decide +kernel
theorem dX8_head_19 : decode cX8_head 19 = .ok (.iload_n 3, 1) := by decide +kernel
theorem dX8_head_20 : decode cX8_head 20 = .ok (.invokestatic 167, 3) := by decide +kernel
theorem dX8_head_23 : decode cX8_head 23 = .ok (.ifCond .ne 6, 3) := by decide +kernel
theorem dX8_head_26 : decode cX8_head 26 = .ok (.bipush (-2), 2) := by decide +kernel
theorem dX8_head_28 : decode cX8_head 28 = .ok (.ireturn, 1) := by decide +kernel
theorem dX8_head_29 : decode cX8_head 29 = .ok (.aload_n 0, 1) := by decide +kernel
theorem dX8_head_30 : decode cX8_head 30 = .ok (.getfield 78, 3) := by decide +kernel
theorem dX8_head_33 : decode cX8_head 33 = .ok (.iconst 5, 1) := by decide +kernel
theorem dX8_head_34 : decode cX8_head 34 = .ok (.if_icmp .lt 6, 3) := by decide +kernel
theorem dX8_head_37 : decode cX8_head 37 = .ok (.bipush (-4), 2) := by decide +kernel
theorem dX8_head_39 : decode cX8_head 39 = .ok (.ireturn, 1) := by decide +kernel
theorem dX8_head_40 : decode cX8_head 40 = .ok (.aload_n 0, 1) := by decide +kernel
theorem dX8_head_41 : decode cX8_head 41 = .ok (.getfield 21, 3) := by decide +kernel
theorem dX8_head_44 : decode cX8_head 44 = .ok (.aload_n 0, 1) := by decide +kernel
theorem dX8_head_45 : decode cX8_head 45 = .ok (.getfield 78, 3) := by decide +kernel
theorem dX8_head_48 : decode cX8_head 48 = .ok (.aaload, 1) := by decide +kernel
theorem dX8_head_49 : decode cX8_head 49 = .ok (.astore 4, 2) := by decide +kernel
theorem dX8_head_51 : decode cX8_head 51 = .ok (.aload 4, 2) := by decide +kernel
theorem dX8_head_53 : decode cX8_head 53 = .ok (.iload_n 1, 1) := by decide +kernel
theorem dX8_head_54 : decode cX8_head 54 = .ok (.bipush 10, 2) := by decide +kernel
theorem dX8_head_56 : decode cX8_head 56 = .ok (.idiv, 1) := by decide +kernel
theorem dX8_head_57 : decode cX8_head 57 = .ok (.putfield 191, 3) := by decide +kernel
theorem dX8_head_60 : decode cX8_head 60 = .ok (.aload 4, 2) := by decide +kernel
theorem dX8_head_62 : decode cX8_head 62 = .ok (.iload_n 1, 1) := by decide +kernel
theorem dX8_head_63 : decode cX8_head 63 = .ok (.bipush 10, 2) := by decide +kernel
theorem dX8_head_65 : decode cX8_head 65 = .ok (.irem, 1) := by decide +kernel
theorem dX8_head_66 : decode cX8_head 66 = .ok (.putfield 194, 3) := by decide +kernel
theorem dX8_head_69 : decode cX8_head 69 = .ok (.aload 4, 2) := by decide +kernel
theorem dX8_head_71 : decode cX8_head 71 = .ok (.iload_n 2, 1) := by decide +kernel
theorem dX8_head_72 : decode cX8_head 72 = .ok (.putfield 197, 3) := by decide +kernel
theorem dX8_head_75 : decode cX8_head 75 = .ok (.aload 4, 2) := by decide +kernel
theorem dX8_head_77 : decode cX8_head 77 = .ok (.iload_n 3, 1) := by decide +kernel
theorem dX8_head_78 : decode cX8_head 78 = .ok (.putfield 200, 3) := by decide +kernel
theorem dX8_head_81 : decode cX8_head 81 = .ok (.aload 4, 2) := by decide +kernel
theorem dX8_head_83 : decode cX8_head 83 = .ok (.iconst 0, 1) := by decide +kernel
theorem dX8_head_84 : decode cX8_head 84 = .ok (.putfield 203, 3) := by decide +kernel
theorem dX8_head_87 : decode cX8_head 87 = .ok (.aload_n 0, 1) := by decide +kernel
theorem dX8_head_88 : decode cX8_head 88 = .ok (.dup, 1) := by decide +kernel
theorem dX8_head_89 : decode cX8_head 89 = .ok (.getfield 78, 3) := by decide +kernel
theorem dX8_head_92 : decode cX8_head 92 = .ok (.iconst 1, 1) := by decide +kernel
theorem dX8_head_93 : decode cX8_head 93 = .ok (.iadd, 1) := by decide +kernel
theorem dX8_head_94 : decode cX8_head 94 = .ok (.putfield 78, 3) := by decide +kernel
theorem dX8_head_97 : decode cX8_head 97 = .ok (.aload_n 0, 1) := by decide +kernel
theorem dX8_head_98 : decode cX8_head 98 = .ok (.getfield 78, 3) := by decide +kernel
theorem dX8_head_101 : decode cX8_head 101 = .ok (.iconst 1, 1) := by decide +kernel
theorem dX8_head_102 : decode cX8_head 102 = .ok (.isub, 1) := by decide +kernel
theorem dX8_head_103 : decode cX8_head 103 = .ok (.ireturn, 1) := by decide +kernel
set_option maxRecDepth 20000 in
theorem ggX8_set_X8_isHead : GoodIn wsX8_set wsX8_isHead := goodIn_r _ [6, 7, 19, 20, 21, 22, 23, 24, 25, 26, 27, 28, 29, 30, 31, 32, 33] rfl (by decide +kernel)
set_option maxRecDepth 20000 in
theorem gX8_set_X8_isHead : GoodIn wsX8_set (wsV RX8 206 RX8 yX8_isHead wsX8_isHead) := goodIn_app (goodIn_of _ (by decide +kernel)) ggX8_set_X8_isHead
set_option maxRecDepth 20000 in
theorem ggX8_set_X8_isBits : GoodIn wsX8_set wsX8_isBits := goodIn_r _ [10] rfl (by decide +kernel)
set_option maxRecDepth 20000 in
theorem gX8_set_X8_isBits : GoodIn wsX8_set (va_wsS RX8 188 yX8_isBits wsX8_isBits) := goodIn_app (goodIn_of _ (by decide +kernel)) ggX8_set_X8_isBits
set_option maxRecDepth 20000 in
theorem ggX8_set_X8_isNumber : GoodIn wsX8_set wsX8_isNumber := goodIn_r _ [13, 14] rfl (by decide +kernel)
set_option maxRecDepth 20000 in
theorem gX8_set_X8_isNumber : GoodIn wsX8_set (va_wsS RX8 167 yX8_isNumber wsX8_isNumber) := goodIn_app (goodIn_of _ (by decide +kernel)) ggX8_set_X8_isNumber
set_option maxRecDepth 20000 in
theorem ggX8_set_X8_told : GoodIn wsX8_set wsX8_told := goodIn_r _ [18, 1, 2, 3, 4, 5, 6, 7, 19, 20, 21, 22, 23, 24, 25, 26, 27, 28, 29, 30, 31, 32, 33, 34, 35, 36, 37, 38] rfl (by decide +kernel)
set_option maxRecDepth 20000 in
theorem gX8_set_X8_told : GoodIn wsX8_set (wsV RX8 209 RX8 yX8_told wsX8_told) := goodIn_app (goodIn_of _ (by decide +kernel)) ggX8_set_X8_told
theorem dX8_set_0 : decode cX8_set 0 = .ok (.aload_n 0, 1) := by decide +kernel
theorem dX8_set_1 : decode cX8_set 1 = .ok (.iload_n 1, 1) := by decide +kernel
theorem dX8_set_2 : decode cX8_set 2 = .ok (.invokevirtual 206, 3) := by decide +kernel
theorem dX8_set_5 : decode cX8_set 5 = .ok (.ifCond .ne 6, 3) := by decide +kernel
theorem dX8_set_8 : decode cX8_set 8 = .ok (.bipush (-5), 2) := by decide +kernel
theorem dX8_set_10 : decode cX8_set 10 = .ok (.ireturn, 1) := by decide +kernel
theorem dX8_set_11 : decode cX8_set 11 = .ok (.iload_n 2, 1) := by decide +kernel
theorem dX8_set_12 : decode cX8_set 12 = .ok (.ifCond .lt 29, 3) := by decide +kernel
theorem dX8_set_15 : decode cX8_set 15 = .ok (.iload_n 2, 1) := by decide +kernel
theorem dX8_set_16 : decode cX8_set 16 = .ok (.iconst 2, 1) := by decide +kernel
theorem dX8_set_17 : decode cX8_set 17 = .ok (.if_icmp .gt 24, 3) := by decide +kernel
theorem dX8_set_20 : decode cX8_set 20 = .ok (.iload_n 2, 1) := by decide +kernel
theorem dX8_set_21 : decode cX8_set 21 = .ok (.ifCond .ne 13, 3) := by decide +kernel
theorem dX8_set_24 : decode cX8_set 24 = .ok (.iload_n 3, 1) := by decide +kernel
theorem dX8_set_25 : decode cX8_set 25 = .ok (.invokestatic 188, 3) := by decide +kernel
theorem dX8_set_28 : decode cX8_set 28 = .ok (.ifCond .eq 13, 3) := by decide +kernel
theorem dX8_set_31 : decode cX8_set 31 = .ok (.goto 13, 3) := by decide +kernel
theorem dX8_set_34 : decode cX8_set 34 = .ok (.iload_n 3, 1) := by decide +kernel
theorem dX8_set_35 : decode cX8_set 35 = .ok (.invokestatic 167, 3) := by decide +kernel
theorem dX8_set_38 : decode cX8_set 38 = .ok (.ifCond .ne 6, 3) := by decide +kernel
theorem dX8_set_41 : decode cX8_set 41 = .ok (.bipush (-7), 2) := by decide +kernel
theorem dX8_set_43 : decode cX8_set 43 = .ok (.ireturn, 1) := by decide +kernel
theorem dX8_set_44 : decode cX8_set 44 = .ok (.aload_n 0, 1) := by decide +kernel
theorem dX8_set_45 : decode cX8_set 45 = .ok (.getfield 21, 3) := by decide +kernel
theorem dX8_set_48 : decode cX8_set 48 = .ok (.iload_n 1, 1) := by decide +kernel
theorem dX8_set_49 : decode cX8_set 49 = .ok (.aaload, 1) := by decide +kernel
theorem dX8_set_50 : decode cX8_set 50 = .ok (.astore 4, 2) := by decide +kernel
theorem dX8_set_52 : decode cX8_set 52 = .ok (.aload_n 0, 1) := by decide +kernel
theorem dX8_set_53 : decode cX8_set 53 = .ok (.iload_n 1, 1) := by decide +kernel
theorem dX8_set_54 : decode cX8_set 54 = .ok (.iload_n 2, 1) := by decide +kernel
theorem dX8_set_55 : decode cX8_set 55 = .ok (.iconst 2, 1) := by decide +kernel
theorem dX8_set_56 : decode cX8_set 56 = .ok (.iadd, 1) := by decide +kernel
theorem dX8_set_57 : decode cX8_set 57 = .ok (.invokevirtual 209, 3) := by decide +kernel
theorem dX8_set_60 : decode cX8_set 60 = .ok (.istore 5, 2) := by decide +kernel
theorem dX8_set_62 : decode cX8_set 62 = .ok (.iload_n 2, 1) := by decide +kernel
theorem dX8_set_63 : decode cX8_set 63 = .ok (.ifCond .ne 12, 3) := by decide +kernel
theorem dX8_set_66 : decode cX8_set 66 = .ok (.aload 4, 2) := by decide +kernel
theorem dX8_set_68 : decode cX8_set 68 = .ok (.iload_n 3, 1) := by decide +kernel
theorem dX8_set_69 : decode cX8_set 69 = .ok (.putfield 197, 3) := by decide +kernel
theorem dX8_set_72 : decode cX8_set 72 = .ok (.goto 23, 3) := by decide +kernel
theorem dX8_set_75 : decode cX8_set 75 = .ok (.iload_n 2, 1) := by decide +kernel
theorem dX8_set_76 : decode cX8_set 76 = .ok (.iconst 1, 1) := by decide +kernel
theorem dX8_set_77 : decode cX8_set 77 = .ok (.if_icmp .ne 12, 3) := by decide +kernel
theorem dX8_set_80 : decode cX8_set 80 = .ok (.aload 4, 2) := by decide +kernel
theorem dX8_set_82 : decode cX8_set 82 = .ok (.iload_n 3, 1) := by decide +kernel
theorem dX8_set_83 : decode cX8_set 83 = .ok (.putfield 200, 3) := by decide +kernel
theorem dX8_set_86 : decode cX8_set 86 = .ok (.goto 9, 3) := by decide +kernel
theorem dX8_set_89 : decode cX8_set 89 = .ok (.aload 4, 2) := by decide +kernel
theorem dX8_set_91 : decode cX8_set 91 = .ok (.iload_n 3, 1) := by decide +kernel
theorem dX8_set_92 : decode cX8_set 92 = .ok (.putfield 203, 3) := by decide +kernel
theorem dX8_set_95 : decode cX8_set 95 = .ok (.iload 5, 2) := by decide +kernel
theorem dX8_set_97 : decode cX8_set 97 = .ok (.ireturn, 1) := by decide +kernel
set_option maxRecDepth 20000 in
theorem ggX8_told_X8_isHead : GoodIn wsX8_told wsX8_isHead := goodIn_r _ [6, 7, 8, 9, 10, 11, 12, 13, 14, 15, 16, 17, 18, 19, 20, 21, 22] rfl (by decide +kernel)
set_option maxRecDepth 20000 in
theorem gX8_told_X8_isHead : GoodIn wsX8_told (wsV RX8 206 RX8 yX8_isHead wsX8_isHead) := goodIn_app (goodIn_of _ (by decide +kernel)) ggX8_told_X8_isHead
theorem dX8_told_0 : decode cX8_told 0 = .ok (.aload_n 0, 1) := by decide +kernel
theorem dX8_told_1 : decode cX8_told 1 = .ok (.iload_n 1, 1) := by decide +kernel
theorem dX8_told_2 : decode cX8_told 2 = .ok (.invokevirtual 206, 3) := by decide +kernel
theorem dX8_told_5 : decode cX8_told 5 = .ok (.ifCond .ne 6, 3) := by decide +kernel
theorem dX8_told_8 : decode cX8_told 8 = .ok (.bipush (-5), 2) := by decide +kernel
theorem dX8_told_10 : decode cX8_told 10 = .ok (.ireturn, 1) := by decide +kernel
theorem dX8_told_11 : decode cX8_told 11 = .ok (.aload_n 0, 1) := by decide +kernel
theorem dX8_told_12 : decode cX8_told 12 = .ok (.getfield 21, 3) := by decide +kernel
theorem dX8_told_15 : decode cX8_told 15 = .ok (.iload_n 1, 1) := by decide +kernel
theorem dX8_told_16 : decode cX8_told 16 = .ok (.aaload, 1) := by decide +kernel
theorem dX8_told_17 : decode cX8_told 17 = .ok (.astore_n 3, 1) := by decide +kernel
theorem dX8_told_18 : decode cX8_told 18 = .ok (.iload_n 2, 1) := by decide +kernel
theorem dX8_told_19 : decode cX8_told 19 = .ok (.tableswitch 58 0 4 #[33, 38, 43, 48, 53], 33) := by decide +kernel
theorem dX8_told_52 : decode cX8_told 52 = .ok (.aload_n 3, 1) := by decide +kernel
theorem dX8_told_53 : decode cX8_told 53 = .ok (.getfield 191, 3) := by decide +kernel
theorem dX8_told_56 : decode cX8_told 56 = .ok (.ireturn, 1) := by decide +kernel
theorem dX8_told_57 : decode cX8_told 57 = .ok (.aload_n 3, 1) := by decide +kernel
theorem dX8_told_58 : decode cX8_told 58 = .ok (.getfield 194, 3) := by decide +kernel
theorem dX8_told_61 : decode cX8_told 61 = .ok (.ireturn, 1) := by decide +kernel
theorem dX8_told_62 : decode cX8_told 62 = .ok (.aload_n 3, 1) := by decide +kernel
theorem dX8_told_63 : decode cX8_told 63 = .ok (.getfield 197, 3) := by decide +kernel
theorem dX8_told_66 : decode cX8_told 66 = .ok (.ireturn, 1) := by decide +kernel
theorem dX8_told_67 : decode cX8_told 67 = .ok (.aload_n 3, 1) := by decide +kernel
theorem dX8_told_68 : decode cX8_told 68 = .ok (.getfield 200, 3) := by decide +kernel
theorem dX8_told_71 : decode cX8_told 71 = .ok (.ireturn, 1) := by decide +kernel
theorem dX8_told_72 : decode cX8_told 72 = .ok (.aload_n 3, 1) := by decide +kernel
theorem dX8_told_73 : decode cX8_told 73 = .ok (.getfield 203, 3) := by decide +kernel
theorem dX8_told_76 : decode cX8_told 76 = .ok (.ireturn, 1) := by decide +kernel
theorem dX8_told_77 : decode cX8_told 77 = .ok (.bipush (-7), 2) := by decide +kernel
theorem dX8_told_79 : decode cX8_told 79 = .ok (.ireturn, 1) := by decide +kernel
set_option maxRecDepth 20000 in
theorem ggX8_say_X8_isHead : GoodIn wsX8_say wsX8_isHead := goodIn_r _ [8, 9, 102, 103, 104, 105, 106, 107, 108, 109, 110, 111, 112, 113, 114, 115, 116] rfl (by decide +kernel)
set_option maxRecDepth 20000 in
theorem gX8_say_X8_isHead : GoodIn wsX8_say (wsV RX8 206 RX8 yX8_isHead wsX8_isHead) := goodIn_app (goodIn_of _ (by decide +kernel)) ggX8_say_X8_isHead
set_option maxRecDepth 20000 in
theorem ggX8_say_X8_saysOf : GoodIn wsX8_say wsX8_saysOf := goodIn_r _ [13, 14, 15, 16, 17, 18, 7, 19, 20, 21, 22, 23, 24, 25, 26, 27, 28, 29, 30, 31, 32, 33, 34, 35, 36, 37, 38, 39, 40, 41, 42, 43, 44, 45, 46, 47, 48, 49, 50, 51, 52, 53, 54, 55, 56, 57, 58, 59, 60, 61, 62, 63, 64, 65, 66, 67, 68, 69, 70, 71, 72, 73, 74, 75, 76, 77, 78, 79, 80, 81, 82, 83, 84, 85, 86, 87, 88, 89, 90, 91, 92, 93, 94, 95, 96, 97, 98, 99, 100, 101, 102, 103, 104, 105, 106, 107, 108, 109, 110, 111, 112, 113, 114, 115, 116, 117, 118, 119, 120, 121, 122, 123, 124, 125, 126, 127, 128, 129, 130] rfl (by decide +kernel)
set_option maxRecDepth 20000 in
theorem gX8_say_X8_saysOf : GoodIn wsX8_say (wsV RX8 213 RX8 yX8_saysOf wsX8_saysOf) := goodIn_app (goodIn_of _ (by decide +kernel)) ggX8_say_X8_saysOf
theorem dX8_say_0 : decode cX8_say 0 = .ok (.aload_n 0, 1) := by decide +kernel
theorem dX8_say_1 : decode cX8_say 1 = .ok (.iload_n 1, 1) := by decide +kernel
theorem dX8_say_2 : decode cX8_say 2 = .ok (.invokevirtual 206, 3) := by decide +kernel
theorem dX8_say_5 : decode cX8_say 5 = .ok (.ifCond .eq 20, 3) := by decide +kernel
theorem dX8_say_8 : decode cX8_say 8 = .ok (.aload_n 0, 1) := by decide +kernel
theorem dX8_say_9 : decode cX8_say 9 = .ok (.aload_n 0, 1) := by decide +kernel
theorem dX8_say_10 : decode cX8_say 10 = .ok (.getfield 21, 3) := by decide +kernel
theorem dX8_say_13 : decode cX8_say 13 = .ok (.iload_n 1, 1) := by decide +kernel
theorem dX8_say_14 : decode cX8_say 14 = .ok (.aaload, 1) := by decide +kernel
theorem dX8_say_15 : decode cX8_say 15 = .ok (.aload_n 0, 1) := by decide +kernel
theorem dX8_say_16 : decode cX8_say 16 = .ok (.getfield 10, 3) := by decide +kernel
theorem dX8_say_19 : decode cX8_say 19 = .ok (.invokevirtual 213, 3) := by decide +kernel
theorem dX8_say_22 : decode cX8_say 22 = .ok (.goto 5, 3) := by decide +kernel
theorem dX8_say_25 : decode cX8_say 25 = .ok (.ldc 217, 2) := by decide +kernel
theorem dX8_say_27 : decode cX8_say 27 = .ok (.ireturn, 1) := by decide +kernel
set_option maxRecDepth 20000 in
theorem ggX8_keep_X8_isHead : GoodIn wsX8_keep wsX8_isHead := goodIn_r _ [9, 10, 79, 80, 81, 82, 83, 84, 85, 86, 87, 88, 89, 90, 91, 92, 93] rfl (by decide +kernel)
set_option maxRecDepth 20000 in
theorem gX8_keep_X8_isHead : GoodIn wsX8_keep (wsV RX8 206 RX8 yX8_isHead wsX8_isHead) := goodIn_app (goodIn_of _ (by decide +kernel)) ggX8_keep_X8_isHead
set_option maxRecDepth 20000 in
theorem ggX8_keep_X8_lawText : GoodIn wsX8_keep wsX8_lawText := goodIn_r _ [14, 15, 16, 79, 80, 81, 82, 83, 84, 85, 86, 87, 88, 89, 90, 91, 92, 93] rfl (by decide +kernel)
set_option maxRecDepth 20000 in
theorem gX8_keep_X8_lawText : GoodIn wsX8_keep (wsV RX8 170 RX8 yX8_lawText wsX8_lawText) := goodIn_app (goodIn_of _ (by decide +kernel)) ggX8_keep_X8_lawText
set_option maxRecDepth 20000 in
theorem ggX8_keep_X7_setOutAs : GoodIn wsX8_keep wsX7_setOutAs := goodIn_r _ [20, 21, 22, 23, 18, 24, 25, 26, 27, 28, 29, 30, 31, 32, 33, 34, 35, 99, 100, 101, 102, 103, 96, 97, 98] rfl (by decide +kernel)
set_option maxRecDepth 20000 in
theorem gX8_keep_X7_setOutAs_n218 : GoodIn wsX8_keep (wsX7_setOutAs) := ggX8_keep_X7_setOutAs
set_option maxRecDepth 20000 in
theorem ggX8_keep_X0_goings : GoodIn wsX8_keep wsX0_goings := goodIn_r _ [38, 39, 40, 99, 100, 101, 102, 103] rfl (by decide +kernel)
set_option maxRecDepth 20000 in
theorem gX8_keep_X0_goings_n222 : GoodIn wsX8_keep (wsX0_goings) := ggX8_keep_X0_goings
set_option maxRecDepth 20000 in
theorem ggX8_keep_X7_goAlong : GoodIn wsX8_keep wsX7_goAlong := goodIn_r _ [43, 44, 45, 46, 18, 47, 48, 28, 49, 50, 39, 40, 51, 52, 53, 54, 26, 55, 56, 57, 58, 25, 59, 60, 61, 62, 63, 64, 65, 66, 67, 68, 69, 70, 71, 72, 73, 74, 75, 76, 77, 78, 27, 29, 30, 31, 32, 33, 34, 35, 94, 95, 99, 100, 101, 102, 103, 96, 97, 98, 104, 105, 106, 107] rfl (by decide +kernel)
set_option maxRecDepth 20000 in
theorem gX8_keep_X7_goAlong_n225 : GoodIn wsX8_keep (wsX7_goAlong) := ggX8_keep_X7_goAlong
theorem dX8_keep_0 : decode cX8_keep 0 = .ok (.aload_n 0, 1) := by decide +kernel
theorem dX8_keep_1 : decode cX8_keep 1 = .ok (.iload_n 1, 1) := by decide +kernel
theorem dX8_keep_2 : decode cX8_keep 2 = .ok (.invokevirtual 206, 3) := by decide +kernel
theorem dX8_keep_5 : decode cX8_keep 5 = .ok (.ifCond .ne 6, 3) := by decide +kernel
theorem dX8_keep_8 : decode cX8_keep 8 = .ok (.bipush (-5), 2) := by decide +kernel
theorem dX8_keep_10 : decode cX8_keep 10 = .ok (.ireturn, 1) := by decide +kernel
theorem dX8_keep_11 : decode cX8_keep 11 = .ok (.iload_n 2, 1) := by decide +kernel
theorem dX8_keep_12 : decode cX8_keep 12 = .ok (.ifCond .lt 23, 3) := by decide +kernel
theorem dX8_keep_15 : decode cX8_keep 15 = .ok (.iload_n 2, 1) := by decide +kernel
theorem dX8_keep_16 : decode cX8_keep 16 = .ok (.aload_n 0, 1) := by decide +kernel
theorem dX8_keep_17 : decode cX8_keep 17 = .ok (.getfield 10, 3) := by decide +kernel
theorem dX8_keep_20 : decode cX8_keep 20 = .ok (.getfield 108, 3) := by decide +kernel
theorem dX8_keep_23 : decode cX8_keep 23 = .ok (.if_icmp .gt 12, 3) := by decide +kernel
theorem dX8_keep_26 : decode cX8_keep 26 = .ok (.iload_n 3, 1) := by decide +kernel
theorem dX8_keep_27 : decode cX8_keep 27 = .ok (.ifCond .lt 8, 3) := by decide +kernel
theorem dX8_keep_30 : decode cX8_keep 30 = .ok (.iload_n 3, 1) := by decide +kernel
theorem dX8_keep_31 : decode cX8_keep 31 = .ok (.iconst 1, 1) := by decide +kernel
theorem dX8_keep_32 : decode cX8_keep 32 = .ok (.if_icmp .le 6, 3) := by decide +kernel
theorem dX8_keep_35 : decode cX8_keep 35 = .ok (.bipush (-7), 2) := by decide +kernel
theorem dX8_keep_37 : decode cX8_keep 37 = .ok (.ireturn, 1) := by decide +kernel
theorem dX8_keep_38 : decode cX8_keep 38 = .ok (.aload_n 0, 1) := by decide +kernel
theorem dX8_keep_39 : decode cX8_keep 39 = .ok (.getfield 21, 3) := by decide +kernel
theorem dX8_keep_42 : decode cX8_keep 42 = .ok (.iload_n 1, 1) := by decide +kernel
theorem dX8_keep_43 : decode cX8_keep 43 = .ok (.aaload, 1) := by decide +kernel
theorem dX8_keep_44 : decode cX8_keep 44 = .ok (.astore 4, 2) := by decide +kernel
theorem dX8_keep_46 : decode cX8_keep 46 = .ok (.aload_n 0, 1) := by decide +kernel
theorem dX8_keep_47 : decode cX8_keep 47 = .ok (.getfield 46, 3) := by decide +kernel
theorem dX8_keep_50 : decode cX8_keep 50 = .ok (.aload 4, 2) := by decide +kernel
theorem dX8_keep_52 : decode cX8_keep 52 = .ok (.aload_n 0, 1) := by decide +kernel
theorem dX8_keep_53 : decode cX8_keep 53 = .ok (.invokevirtual 170, 3) := by decide +kernel
theorem dX8_keep_56 : decode cX8_keep 56 = .ok (.aload_n 0, 1) := by decide +kernel
theorem dX8_keep_57 : decode cX8_keep 57 = .ok (.getfield 74, 3) := by decide +kernel
theorem dX8_keep_60 : decode cX8_keep 60 = .ok (.invokevirtual 218, 3) := by decide +kernel
theorem dX8_keep_63 : decode cX8_keep 63 = .ok (.iconst 1, 1) := by decide +kernel
theorem dX8_keep_64 : decode cX8_keep 64 = .ok (.istore 5, 2) := by decide +kernel
theorem dX8_keep_66 : decode cX8_keep 66 = .ok (.iload 5, 2) := by decide +kernel
theorem dX8_keep_68 : decode cX8_keep 68 = .ok (.aload 4, 2) := by decide +kernel
theorem dX8_keep_70 : decode cX8_keep 70 = .ok (.invokevirtual 222, 3) := by decide +kernel
theorem dX8_keep_73 : decode cX8_keep 73 = .ok (.if_icmp .ge 29, 3) := by decide +kernel
theorem dX8_keep_76 : decode cX8_keep 76 = .ok (.aload_n 0, 1) := by decide +kernel
theorem dX8_keep_77 : decode cX8_keep 77 = .ok (.getfield 46, 3) := by decide +kernel
theorem dX8_keep_80 : decode cX8_keep 80 = .ok (.aload 4, 2) := by decide +kernel
theorem dX8_keep_82 : decode cX8_keep 82 = .ok (.aload_n 0, 1) := by decide +kernel
theorem dX8_keep_83 : decode cX8_keep 83 = .ok (.getfield 10, 3) := by decide +kernel
theorem dX8_keep_86 : decode cX8_keep 86 = .ok (.aload_n 0, 1) := by decide +kernel
theorem dX8_keep_87 : decode cX8_keep 87 = .ok (.getfield 10, 3) := by decide +kernel
theorem dX8_keep_90 : decode cX8_keep 90 = .ok (.getfield 108, 3) := by decide +kernel
theorem dX8_keep_93 : decode cX8_keep 93 = .ok (.invokevirtual 225, 3) := by decide +kernel
theorem dX8_keep_96 : decode cX8_keep 96 = .ok (.iinc 5 1, 3) := by decide +kernel
theorem dX8_keep_99 : decode cX8_keep 99 = .ok (.goto (-33), 3) := by decide +kernel
theorem dX8_keep_102 : decode cX8_keep 102 = .ok (.aload_n 0, 1) := by decide +kernel
theorem dX8_keep_103 : decode cX8_keep 103 = .ok (.getfield 46, 3) := by decide +kernel
theorem dX8_keep_106 : decode cX8_keep 106 = .ok (.aload 4, 2) := by decide +kernel
theorem dX8_keep_108 : decode cX8_keep 108 = .ok (.aload_n 0, 1) := by decide +kernel
theorem dX8_keep_109 : decode cX8_keep 109 = .ok (.getfield 10, 3) := by decide +kernel
theorem dX8_keep_112 : decode cX8_keep 112 = .ok (.iload_n 2, 1) := by decide +kernel
theorem dX8_keep_113 : decode cX8_keep 113 = .ok (.invokevirtual 225, 3) := by decide +kernel
theorem dX8_keep_116 : decode cX8_keep 116 = .ok (.iload_n 3, 1) := by decide +kernel
theorem dX8_keep_117 : decode cX8_keep 117 = .ok (.ifCond .ne 15, 3) := by decide +kernel
theorem dX8_keep_120 : decode cX8_keep 120 = .ok (.aload_n 0, 1) := by decide +kernel
theorem dX8_keep_121 : decode cX8_keep 121 = .ok (.getfield 46, 3) := by decide +kernel
theorem dX8_keep_124 : decode cX8_keep 124 = .ok (.getfield 229, 3) := by decide +kernel
theorem dX8_keep_127 : decode cX8_keep 127 = .ok (.iconst 0, 1) := by decide +kernel
theorem dX8_keep_128 : decode cX8_keep 128 = .ok (.iaload, 1) := by decide +kernel
theorem dX8_keep_129 : decode cX8_keep 129 = .ok (.goto 12, 3) := by decide +kernel
theorem dX8_keep_132 : decode cX8_keep 132 = .ok (.aload_n 0, 1) := by decide +kernel
theorem dX8_keep_133 : decode cX8_keep 133 = .ok (.getfield 46, 3) := by decide +kernel
theorem dX8_keep_136 : decode cX8_keep 136 = .ok (.getfield 229, 3) := by decide +kernel
theorem dX8_keep_139 : decode cX8_keep 139 = .ok (.iconst 1, 1) := by decide +kernel
theorem dX8_keep_140 : decode cX8_keep 140 = .ok (.iaload, 1) := by decide +kernel
theorem dX8_keep_141 : decode cX8_keep 141 = .ok (.ireturn, 1) := by decide +kernel
set_option maxRecDepth 20000 in
theorem ggX8_right_X8_isHead : GoodIn wsX8_right wsX8_isHead := goodIn_r _ [8, 9, 115, 116, 117, 118, 119, 120, 121, 122, 123, 124, 125, 126, 127, 128, 129] rfl (by decide +kernel)
set_option maxRecDepth 20000 in
theorem gX8_right_X8_isHead : GoodIn wsX8_right (wsV RX8 206 RX8 yX8_isHead wsX8_isHead) := goodIn_app (goodIn_of _ (by decide +kernel)) ggX8_right_X8_isHead
set_option maxRecDepth 20000 in
theorem ggX8_right_X8_isWay : GoodIn wsX8_right wsX8_isWay := goodIn_r _ [12] rfl (by decide +kernel)
set_option maxRecDepth 20000 in
theorem gX8_right_X8_isWay : GoodIn wsX8_right (va_wsS RX8 122 yX8_isWay wsX8_isWay) := goodIn_app (goodIn_of _ (by decide +kernel)) ggX8_right_X8_isWay
set_option maxRecDepth 20000 in
theorem ggX8_right_X8_lawText : GoodIn wsX8_right wsX8_lawText := goodIn_r _ [16, 17, 18, 115, 116, 117, 118, 119, 120, 121, 122, 123, 124, 125, 126, 127, 128, 129] rfl (by decide +kernel)
set_option maxRecDepth 20000 in
theorem gX8_right_X8_lawText : GoodIn wsX8_right (wsV RX8 170 RX8 yX8_lawText wsX8_lawText) := goodIn_app (goodIn_of _ (by decide +kernel)) ggX8_right_X8_lawText
set_option maxRecDepth 20000 in
theorem ggX8_right_X8_saysBut : GoodIn wsX8_right wsX8_saysBut := goodIn_r _ [22, 23, 2, 24, 25, 26, 27, 28, 29, 30, 31, 32, 33, 34, 35, 36, 37, 38, 39, 40, 41, 42, 43, 44, 45, 46, 47, 48, 49, 50, 51, 52, 53, 54, 55, 56, 57, 58, 59, 60, 61, 62, 63, 64, 65, 66, 67, 68, 69, 70, 71, 72, 73, 74, 75, 76, 77, 78, 79, 80, 81, 82, 83, 84, 85, 86, 87, 88, 89, 90, 91, 92, 93, 94, 95, 96, 97, 98, 99, 100, 101, 102, 103, 104, 105, 106, 107, 108, 109, 110, 111, 112, 113, 114, 115, 116, 117, 118, 119, 120, 121, 122, 123, 124, 125, 126, 127, 128, 129, 130, 131, 132, 133, 134, 135, 136, 137, 138, 139, 140, 141, 142, 143] rfl (by decide +kernel)
set_option maxRecDepth 20000 in
theorem gX8_right_X8_saysBut : GoodIn wsX8_right (wsV RX8 234 RX8 yX8_saysBut wsX8_saysBut) := goodIn_app (goodIn_of _ (by decide +kernel)) ggX8_right_X8_saysBut
theorem dX8_right_0 : decode cX8_right 0 = .ok (.aload_n 0, 1) := by decide +kernel
theorem dX8_right_1 : decode cX8_right 1 = .ok (.iload_n 1, 1) := by decide +kernel
theorem dX8_right_2 : decode cX8_right 2 = .ok (.invokevirtual 206, 3) := by decide +kernel
theorem dX8_right_5 : decode cX8_right 5 = .ok (.ifCond .eq 10, 3) := by decide +kernel
theorem dX8_right_8 : decode cX8_right 8 = .ok (.iload_n 2, 1) := by decide +kernel
theorem dX8_right_9 : decode cX8_right 9 = .ok (.invokestatic 122, 3) := by decide +kernel
theorem dX8_right_12 : decode cX8_right 12 = .ok (.ifCond .ne 7, 3) := by decide +kernel
theorem dX8_right_15 : decode cX8_right 15 = .ok (.ldc2_w 232, 3) := by decide +kernel
theorem dX8_right_18 : decode cX8_right 18 = .ok (.lreturn, 1) := by decide +kernel
theorem dX8_right_19 : decode cX8_right 19 = .ok (.lconst 0, 1) := by decide +kernel
theorem dX8_right_20 : decode cX8_right 20 = .ok (.lstore_n 3, 1) := by decide +kernel
theorem dX8_right_21 : decode cX8_right 21 = .ok (.iconst 1, 1) := by decide +kernel
theorem dX8_right_22 : decode cX8_right 22 = .ok (.istore 5, 2) := by decide +kernel
theorem dX8_right_24 : decode cX8_right 24 = .ok (.iload 5, 2) := by decide +kernel
theorem dX8_right_26 : decode cX8_right 26 = .ok (.aload_n 0, 1) := by decide +kernel
theorem dX8_right_27 : decode cX8_right 27 = .ok (.getfield 74, 3) := by decide +kernel
theorem dX8_right_30 : decode cX8_right 30 = .ok (.if_icmp .gt 40, 3) := by decide +kernel
theorem dX8_right_33 : decode cX8_right 33 = .ok (.aload_n 0, 1) := by decide +kernel
theorem dX8_right_34 : decode cX8_right 34 = .ok (.iload 5, 2) := by decide +kernel
theorem dX8_right_36 : decode cX8_right 36 = .ok (.iload_n 2, 1) := by decide +kernel
theorem dX8_right_37 : decode cX8_right 37 = .ok (.aload_n 0, 1) := by decide +kernel
theorem dX8_right_38 : decode cX8_right 38 = .ok (.getfield 21, 3) := by decide +kernel
theorem dX8_right_41 : decode cX8_right 41 = .ok (.iload_n 1, 1) := by decide +kernel
theorem dX8_right_42 : decode cX8_right 42 = .ok (.aaload, 1) := by decide +kernel
theorem dX8_right_43 : decode cX8_right 43 = .ok (.aload_n 0, 1) := by decide +kernel
theorem dX8_right_44 : decode cX8_right 44 = .ok (.invokevirtual 170, 3) := by decide +kernel
theorem dX8_right_47 : decode cX8_right 47 = .ok (.invokevirtual 234, 3) := by decide +kernel
theorem dX8_right_50 : decode cX8_right 50 = .ok (.iload 5, 2) := by decide +kernel
theorem dX8_right_52 : decode cX8_right 52 = .ok (.if_icmp .ne 12, 3) := by decide +kernel
theorem dX8_right_55 : decode cX8_right 55 = .ok (.lload_n 3, 1) := by decide +kernel
theorem dX8_right_56 : decode cX8_right 56 = .ok (.lconst 1, 1) := by decide +kernel
theorem dX8_right_57 : decode cX8_right 57 = .ok (.iload 5, 2) := by decide +kernel
theorem dX8_right_59 : decode cX8_right 59 = .ok (.iconst 1, 1) := by decide +kernel
theorem dX8_right_60 : decode cX8_right 60 = .ok (.isub, 1) := by decide +kernel
theorem dX8_right_61 : decode cX8_right 61 = .ok (.lshl, 1) := by decide +kernel
theorem dX8_right_62 : decode cX8_right 62 = .ok (.lor, 1) := by decide +kernel
theorem dX8_right_63 : decode cX8_right 63 = .ok (.lstore_n 3, 1) := by decide +kernel
theorem dX8_right_64 : decode cX8_right 64 = .ok (.iinc 5 1, 3) := by decide +kernel
theorem dX8_right_67 : decode cX8_right 67 = .ok (.goto (-43), 3) := by decide +kernel
theorem dX8_right_70 : decode cX8_right 70 = .ok (.lload_n 3, 1) := by decide +kernel
theorem dX8_right_71 : decode cX8_right 71 = .ok (.lreturn, 1) := by decide +kernel
set_option maxRecDepth 20000 in
theorem ggX8_least_X8_isHead : GoodIn wsX8_least wsX8_isHead := goodIn_r _ [7, 8, 121, 122, 123, 124, 125, 126, 127, 128, 129, 130, 131, 132, 133, 134, 135] rfl (by decide +kernel)
set_option maxRecDepth 20000 in
theorem gX8_least_X8_isHead : GoodIn wsX8_least (wsV RX8 206 RX8 yX8_isHead wsX8_isHead) := goodIn_app (goodIn_of _ (by decide +kernel)) ggX8_least_X8_isHead
set_option maxRecDepth 20000 in
theorem ggX8_least_X0_become : GoodIn wsX8_least wsX0_become := goodIn_r _ [12, 13, 14, 15, 16, 17, 136, 137, 138, 139, 140] rfl (by decide +kernel)
set_option maxRecDepth 20000 in
theorem gX8_least_X0_become_n238 : GoodIn wsX8_least (wsX0_become) := ggX8_least_X0_become
set_option maxRecDepth 20000 in
theorem ggX8_least_X8_isRightOfAll : GoodIn wsX8_least wsX8_isRightOfAll := goodIn_r _ [21, 22, 23, 24, 25, 6, 26, 27, 28, 29, 30, 31, 32, 33, 34, 35, 36, 37, 38, 39, 40, 41, 42, 43, 44, 45, 46, 47, 48, 49, 50, 51, 52, 53, 54, 55, 56, 57, 58, 59, 10, 60, 61, 15, 62, 63, 64, 65, 66, 67, 68, 13, 14, 69, 70, 71, 72, 73, 74, 75, 76, 77, 78, 79, 80, 81, 82, 83, 84, 85, 86, 87, 88, 89, 90, 91, 92, 93, 94, 95, 96, 97, 98, 99, 100, 101, 102, 103, 104, 105, 106, 107, 108, 109, 110, 111, 112, 113, 114, 115, 116, 117, 118, 119, 120, 121, 122, 123, 124, 125, 126, 127, 128, 129, 130, 131, 132, 133, 134, 135, 141, 142, 136, 137, 138, 139, 140, 143, 144, 145, 146, 147, 148, 149] rfl (by decide +kernel)
set_option maxRecDepth 20000 in
theorem gX8_least_X8_isRightOfAll : GoodIn wsX8_least (wsV RX8 242 RX8 yX8_isRightOfAll wsX8_isRightOfAll) := goodIn_app (goodIn_of _ (by decide +kernel)) ggX8_least_X8_isRightOfAll
theorem dX8_least_0 : decode cX8_least 0 = .ok (.aload_n 0, 1) := by decide +kernel
theorem dX8_least_1 : decode cX8_least 1 = .ok (.iload_n 1, 1) := by decide +kernel
theorem dX8_least_2 : decode cX8_least 2 = .ok (.invokevirtual 206, 3) := by decide +kernel
theorem dX8_least_5 : decode cX8_least 5 = .ok (.ifCond .ne 6, 3) := by decide +kernel
theorem dX8_least_8 : decode cX8_least 8 = .ok (.bipush (-5), 2) := by decide +kernel
theorem dX8_least_10 : decode cX8_least 10 = .ok (.ireturn, 1) := by decide +kernel
theorem dX8_least_11 : decode cX8_least 11 = .ok (.aload_n 0, 1) := by decide +kernel
theorem dX8_least_12 : decode cX8_least 12 = .ok (.getfield 26, 3) := by decide +kernel
theorem dX8_least_15 : decode cX8_least 15 = .ok (.aload_n 0, 1) := by decide +kernel
theorem dX8_least_16 : decode cX8_least 16 = .ok (.getfield 21, 3) := by decide +kernel
theorem dX8_least_19 : decode cX8_least 19 = .ok (.iload_n 1, 1) := by decide +kernel
theorem dX8_least_20 : decode cX8_least 20 = .ok (.aaload, 1) := by decide +kernel
theorem dX8_least_21 : decode cX8_least 21 = .ok (.invokevirtual 238, 3) := by decide +kernel
theorem dX8_least_24 : decode cX8_least 24 = .ok (.iconst 1, 1) := by decide +kernel
theorem dX8_least_25 : decode cX8_least 25 = .ok (.istore_n 2, 1) := by decide +kernel
theorem dX8_least_26 : decode cX8_least 26 = .ok (.iload_n 2, 1) := by decide +kernel
theorem dX8_least_27 : decode cX8_least 27 = .ok (.bipush 16, 2) := by decide +kernel
theorem dX8_least_29 : decode cX8_least 29 = .ok (.if_icmp .gt 30, 3) := by decide +kernel
theorem dX8_least_32 : decode cX8_least 32 = .ok (.aload_n 0, 1) := by decide +kernel
theorem dX8_least_33 : decode cX8_least 33 = .ok (.getfield 26, 3) := by decide +kernel
theorem dX8_least_36 : decode cX8_least 36 = .ok (.iload_n 2, 1) := by decide +kernel
theorem dX8_least_37 : decode cX8_least 37 = .ok (.putfield 197, 3) := by decide +kernel
theorem dX8_least_40 : decode cX8_least 40 = .ok (.aload_n 0, 1) := by decide +kernel
theorem dX8_least_41 : decode cX8_least 41 = .ok (.aload_n 0, 1) := by decide +kernel
theorem dX8_least_42 : decode cX8_least 42 = .ok (.getfield 26, 3) := by decide +kernel
theorem dX8_least_45 : decode cX8_least 45 = .ok (.invokevirtual 242, 3) := by decide +kernel
theorem dX8_least_48 : decode cX8_least 48 = .ok (.ifCond .eq 5, 3) := by decide +kernel
theorem dX8_least_51 : decode cX8_least 51 = .ok (.iload_n 2, 1) := by decide +kernel
theorem dX8_least_52 : decode cX8_least 52 = .ok (.ireturn, 1) := by decide +kernel
theorem dX8_least_53 : decode cX8_least 53 = .ok (.iinc 2 1, 3) := by decide +kernel
theorem dX8_least_56 : decode cX8_least 56 = .ok (.goto (-30), 3) := by decide +kernel
theorem dX8_least_59 : decode cX8_least 59 = .ok (.iconst (-1), 1) := by decide +kernel
theorem dX8_least_60 : decode cX8_least 60 = .ok (.ireturn, 1) := by decide +kernel
set_option maxRecDepth 20000 in
theorem ggX8_begin_X8_isHead : GoodIn wsX8_begin wsX8_isHead := goodIn_r _ [7, 8, 125, 126, 127, 128, 129, 130, 131, 132, 133, 134, 135, 136, 137, 138, 139] rfl (by decide +kernel)
set_option maxRecDepth 20000 in
theorem gX8_begin_X8_isHead : GoodIn wsX8_begin (wsV RX8 206 RX8 yX8_isHead wsX8_isHead) := goodIn_app (goodIn_of _ (by decide +kernel)) ggX8_begin_X8_isHead
set_option maxRecDepth 20000 in
theorem ggX8_begin_X0_become : GoodIn wsX8_begin wsX0_become := goodIn_r _ [12, 13, 14, 15, 16, 17, 140, 141, 142, 143, 144] rfl (by decide +kernel)
set_option maxRecDepth 20000 in
theorem gX8_begin_X0_become_n238 : GoodIn wsX8_begin (wsX0_become) := ggX8_begin_X0_become
set_option maxRecDepth 20000 in
theorem ggX8_begin_X8_packSum : GoodIn wsX8_begin wsX8_packSum := goodIn_r _ [21, 22, 125, 126, 127, 128, 129, 130, 131, 132, 133, 134, 135, 136, 137, 138, 139] rfl (by decide +kernel)
set_option maxRecDepth 20000 in
theorem gX8_begin_X8_packSum : GoodIn wsX8_begin (wsV RX8 157 RX8 yX8_packSum wsX8_packSum) := goodIn_app (goodIn_of _ (by decide +kernel)) ggX8_begin_X8_packSum
set_option maxRecDepth 20000 in
theorem ggX8_begin_X8_countRight : GoodIn wsX8_begin wsX8_countRight := goodIn_r _ [26, 22, 27, 28, 29, 6, 30, 31, 32, 33, 34, 35, 36, 37, 38, 39, 40, 41, 42, 43, 44, 45, 46, 47, 48, 49, 50, 51, 52, 53, 54, 55, 56, 57, 58, 59, 60, 61, 62, 63, 10, 64, 65, 15, 66, 67, 68, 69, 70, 71, 72, 13, 14, 73, 74, 75, 76, 77, 78, 79, 80, 81, 82, 83, 84, 85, 86, 87, 88, 89, 90, 91, 92, 93, 94, 95, 96, 97, 98, 99, 100, 101, 102, 103, 104, 105, 106, 107, 108, 109, 110, 111, 112, 113, 114, 115, 116, 117, 118, 119, 120, 121, 122, 123, 124, 125, 126, 127, 128, 129, 130, 131, 132, 133, 134, 135, 136, 137, 138, 139, 145, 146, 140, 141, 142, 143, 144, 147, 148, 149, 150, 151, 152, 153] rfl (by decide +kernel)
set_option maxRecDepth 20000 in
theorem gX8_begin_X8_countRight : GoodIn wsX8_begin (wsV RX8 246 RX8 yX8_countRight wsX8_countRight) := goodIn_app (goodIn_of _ (by decide +kernel)) ggX8_begin_X8_countRight
theorem dX8_begin_0 : decode cX8_begin 0 = .ok (.aload_n 0, 1) := by decide +kernel
theorem dX8_begin_1 : decode cX8_begin 1 = .ok (.iload_n 1, 1) := by decide +kernel
theorem dX8_begin_2 : decode cX8_begin 2 = .ok (.invokevirtual 206, 3) := by decide +kernel
theorem dX8_begin_5 : decode cX8_begin 5 = .ok (.ifCond .ne 6, 3) := by decide +kernel
theorem dX8_begin_8 : decode cX8_begin 8 = .ok (.bipush (-5), 2) := by decide +kernel
theorem dX8_begin_10 : decode cX8_begin 10 = .ok (.ireturn, 1) := by decide +kernel
theorem dX8_begin_11 : decode cX8_begin 11 = .ok (.iload_n 2, 1) := by decide +kernel
theorem dX8_begin_12 : decode cX8_begin 12 = .ok (.ifCond .lt 8, 3) := by decide +kernel
theorem dX8_begin_15 : decode cX8_begin 15 = .ok (.iload_n 2, 1) := by decide +kernel
theorem dX8_begin_16 : decode cX8_begin 16 = .ok (.iconst 1, 1) := by decide +kernel
theorem dX8_begin_17 : decode cX8_begin 17 = .ok (.if_icmp .le 6, 3) := by decide +kernel
theorem dX8_begin_20 : decode cX8_begin 20 = .ok (.bipush (-7), 2) := by decide +kernel
theorem dX8_begin_22 : decode cX8_begin 22 = .ok (.ireturn, 1) := by decide +kernel
theorem dX8_begin_23 : decode cX8_begin 23 = .ok (.aload_n 0, 1) := by decide +kernel
theorem dX8_begin_24 : decode cX8_begin 24 = .ok (.getfield 26, 3) := by decide +kernel
theorem dX8_begin_27 : decode cX8_begin 27 = .ok (.aload_n 0, 1) := by decide +kernel
theorem dX8_begin_28 : decode cX8_begin 28 = .ok (.getfield 21, 3) := by decide +kernel
theorem dX8_begin_31 : decode cX8_begin 31 = .ok (.iload_n 1, 1) := by decide +kernel
theorem dX8_begin_32 : decode cX8_begin 32 = .ok (.aaload, 1) := by decide +kernel
theorem dX8_begin_33 : decode cX8_begin 33 = .ok (.invokevirtual 238, 3) := by decide +kernel
theorem dX8_begin_36 : decode cX8_begin 36 = .ok (.iconst 0, 1) := by decide +kernel
theorem dX8_begin_37 : decode cX8_begin 37 = .ok (.istore_n 3, 1) := by decide +kernel
theorem dX8_begin_38 : decode cX8_begin 38 = .ok (.iconst (-1), 1) := by decide +kernel
theorem dX8_begin_39 : decode cX8_begin 39 = .ok (.istore 4, 2) := by decide +kernel
theorem dX8_begin_41 : decode cX8_begin 41 = .ok (.iconst 0, 1) := by decide +kernel
theorem dX8_begin_42 : decode cX8_begin 42 = .ok (.istore 5, 2) := by decide +kernel
theorem dX8_begin_44 : decode cX8_begin 44 = .ok (.iload 5, 2) := by decide +kernel
theorem dX8_begin_46 : decode cX8_begin 46 = .ok (.bipush 100, 2) := by decide +kernel
theorem dX8_begin_48 : decode cX8_begin 48 = .ok (.if_icmp .gt 61, 3) := by decide +kernel
theorem dX8_begin_51 : decode cX8_begin 51 = .ok (.aload_n 0, 1) := by decide +kernel
theorem dX8_begin_52 : decode cX8_begin 52 = .ok (.getfield 26, 3) := by decide +kernel
theorem dX8_begin_55 : decode cX8_begin 55 = .ok (.iload 5, 2) := by decide +kernel
theorem dX8_begin_57 : decode cX8_begin 57 = .ok (.bipush 100, 2) := by decide +kernel
theorem dX8_begin_59 : decode cX8_begin 59 = .ok (.if_icmp .ge 8, 3) := by decide +kernel
theorem dX8_begin_62 : decode cX8_begin 62 = .ok (.iload 5, 2) := by decide +kernel
theorem dX8_begin_64 : decode cX8_begin 64 = .ok (.goto 7, 3) := by decide +kernel
theorem dX8_begin_67 : decode cX8_begin 67 = .ok (.aload_n 0, 1) := by decide +kernel
theorem dX8_begin_68 : decode cX8_begin 68 = .ok (.invokevirtual 157, 3) := by decide +kernel
theorem dX8_begin_71 : decode cX8_begin 71 = .ok (.putfield 200, 3) := by decide +kernel
theorem dX8_begin_74 : decode cX8_begin 74 = .ok (.aload_n 0, 1) := by decide +kernel
theorem dX8_begin_75 : decode cX8_begin 75 = .ok (.aload_n 0, 1) := by decide +kernel
theorem dX8_begin_76 : decode cX8_begin 76 = .ok (.getfield 26, 3) := by decide +kernel
theorem dX8_begin_79 : decode cX8_begin 79 = .ok (.invokevirtual 246, 3) := by decide +kernel
theorem dX8_begin_82 : decode cX8_begin 82 = .ok (.istore 6, 2) := by decide +kernel
theorem dX8_begin_84 : decode cX8_begin 84 = .ok (.iload 6, 2) := by decide +kernel
theorem dX8_begin_86 : decode cX8_begin 86 = .ok (.iload 4, 2) := by decide +kernel
theorem dX8_begin_88 : decode cX8_begin 88 = .ok (.if_icmp .le 15, 3) := by decide +kernel
theorem dX8_begin_91 : decode cX8_begin 91 = .ok (.iload 6, 2) := by decide +kernel
theorem dX8_begin_93 : decode cX8_begin 93 = .ok (.istore 4, 2) := by decide +kernel
theorem dX8_begin_95 : decode cX8_begin 95 = .ok (.aload_n 0, 1) := by decide +kernel
theorem dX8_begin_96 : decode cX8_begin 96 = .ok (.getfield 26, 3) := by decide +kernel
theorem dX8_begin_99 : decode cX8_begin 99 = .ok (.getfield 200, 3) := by decide +kernel
theorem dX8_begin_102 : decode cX8_begin 102 = .ok (.istore_n 3, 1) := by decide +kernel
theorem dX8_begin_103 : decode cX8_begin 103 = .ok (.iinc 5 1, 3) := by decide +kernel
theorem dX8_begin_106 : decode cX8_begin 106 = .ok (.goto (-62), 3) := by decide +kernel
theorem dX8_begin_109 : decode cX8_begin 109 = .ok (.iload_n 2, 1) := by decide +kernel
theorem dX8_begin_110 : decode cX8_begin 110 = .ok (.ifCond .ne 7, 3) := by decide +kernel
theorem dX8_begin_113 : decode cX8_begin 113 = .ok (.iload_n 3, 1) := by decide +kernel
theorem dX8_begin_114 : decode cX8_begin 114 = .ok (.goto 5, 3) := by decide +kernel
theorem dX8_begin_117 : decode cX8_begin 117 = .ok (.iload 4, 2) := by decide +kernel
theorem dX8_begin_119 : decode cX8_begin 119 = .ok (.ireturn, 1) := by decide +kernel
set_option maxRecDepth 20000 in
theorem ggX8_same_X8_isHead : GoodIn wsX8_same wsX8_isHead := goodIn_r _ [8, 9, 123, 124, 125, 126, 127, 128, 129, 130, 131, 132, 133, 134, 135, 136, 137] rfl (by decide +kernel)
set_option maxRecDepth 20000 in
theorem gX8_same_X8_isHead : GoodIn wsX8_same (wsV RX8 206 RX8 yX8_isHead wsX8_isHead) := goodIn_app (goodIn_of _ (by decide +kernel)) ggX8_same_X8_isHead
set_option maxRecDepth 20000 in
theorem ggX8_same_X4_become : GoodIn wsX8_same wsX4_become := goodIn_r _ [13, 14, 15, 16, 17, 18, 11, 19, 138, 139] rfl (by decide +kernel)
set_option maxRecDepth 20000 in
theorem gX8_same_X4_become_n250 : GoodIn wsX8_same (wsX4_become) := ggX8_same_X4_become
set_option maxRecDepth 20000 in
theorem ggX8_same_X4_beTurned : GoodIn wsX8_same wsX4_beTurned := goodIn_r _ [22, 14, 23, 24, 25, 11, 26, 15, 27, 28, 29, 30, 138, 139] rfl (by decide +kernel)
set_option maxRecDepth 20000 in
theorem gX8_same_X4_beTurned_n135 : GoodIn wsX8_same (wsX4_beTurned) := ggX8_same_X4_beTurned
set_option maxRecDepth 20000 in
theorem ggX8_same_X8_saysOf : GoodIn wsX8_same wsX8_saysOf := goodIn_r _ [34, 35, 36, 37, 38, 39, 7, 40, 41, 42, 43, 44, 45, 46, 47, 48, 49, 50, 51, 52, 53, 54, 55, 56, 57, 58, 59, 60, 61, 62, 63, 64, 65, 66, 67, 68, 69, 70, 71, 72, 73, 74, 75, 76, 77, 78, 79, 80, 81, 82, 83, 84, 85, 86, 87, 88, 89, 90, 91, 92, 93, 94, 95, 96, 97, 98, 99, 100, 101, 102, 103, 104, 105, 106, 107, 108, 109, 110, 111, 112, 113, 114, 115, 116, 117, 118, 119, 120, 121, 122, 123, 124, 125, 126, 127, 128, 129, 130, 131, 132, 133, 134, 135, 136, 137, 138, 139, 140, 141, 142, 143, 144, 145, 146, 147, 148, 149, 150, 151] rfl (by decide +kernel)
set_option maxRecDepth 20000 in
theorem gX8_same_X8_saysOf : GoodIn wsX8_same (wsV RX8 213 RX8 yX8_saysOf wsX8_saysOf) := goodIn_app (goodIn_of _ (by decide +kernel)) ggX8_same_X8_saysOf
theorem dX8_same_0 : decode cX8_same 0 = .ok (.aload_n 0, 1) := by decide +kernel
theorem dX8_same_1 : decode cX8_same 1 = .ok (.iload_n 1, 1) := by decide +kernel
theorem dX8_same_2 : decode cX8_same 2 = .ok (.invokevirtual 206, 3) := by decide +kernel
theorem dX8_same_5 : decode cX8_same 5 = .ok (.ifCond .ne 6, 3) := by decide +kernel
theorem dX8_same_8 : decode cX8_same 8 = .ok (.bipush (-5), 2) := by decide +kernel
theorem dX8_same_10 : decode cX8_same 10 = .ok (.ireturn, 1) := by decide +kernel
theorem dX8_same_11 : decode cX8_same 11 = .ok (.iload_n 2, 1) := by decide +kernel
theorem dX8_same_12 : decode cX8_same 12 = .ok (.ifCond .lt 8, 3) := by decide +kernel
theorem dX8_same_15 : decode cX8_same 15 = .ok (.iload_n 2, 1) := by decide +kernel
theorem dX8_same_16 : decode cX8_same 16 = .ok (.iconst 1, 1) := by decide +kernel
theorem dX8_same_17 : decode cX8_same 17 = .ok (.if_icmp .le 6, 3) := by decide +kernel
theorem dX8_same_20 : decode cX8_same 20 = .ok (.bipush (-7), 2) := by decide +kernel
theorem dX8_same_22 : decode cX8_same 22 = .ok (.ireturn, 1) := by decide +kernel
theorem dX8_same_23 : decode cX8_same 23 = .ok (.aload_n 0, 1) := by decide +kernel
theorem dX8_same_24 : decode cX8_same 24 = .ok (.getfield 16, 3) := by decide +kernel
theorem dX8_same_27 : decode cX8_same 27 = .ok (.aload_n 0, 1) := by decide +kernel
theorem dX8_same_28 : decode cX8_same 28 = .ok (.getfield 10, 3) := by decide +kernel
theorem dX8_same_31 : decode cX8_same 31 = .ok (.invokevirtual 250, 3) := by decide +kernel
theorem dX8_same_34 : decode cX8_same 34 = .ok (.aload_n 0, 1) := by decide +kernel
theorem dX8_same_35 : decode cX8_same 35 = .ok (.getfield 16, 3) := by decide +kernel
theorem dX8_same_38 : decode cX8_same 38 = .ok (.iload_n 2, 1) := by decide +kernel
theorem dX8_same_39 : decode cX8_same 39 = .ok (.invokevirtual 135, 3) := by decide +kernel
theorem dX8_same_42 : decode cX8_same 42 = .ok (.aload_n 0, 1) := by decide +kernel
theorem dX8_same_43 : decode cX8_same 43 = .ok (.aload_n 0, 1) := by decide +kernel
theorem dX8_same_44 : decode cX8_same 44 = .ok (.getfield 21, 3) := by decide +kernel
theorem dX8_same_47 : decode cX8_same 47 = .ok (.iload_n 1, 1) := by decide +kernel
theorem dX8_same_48 : decode cX8_same 48 = .ok (.aaload, 1) := by decide +kernel
theorem dX8_same_49 : decode cX8_same 49 = .ok (.aload_n 0, 1) := by decide +kernel
theorem dX8_same_50 : decode cX8_same 50 = .ok (.getfield 10, 3) := by decide +kernel
theorem dX8_same_53 : decode cX8_same 53 = .ok (.invokevirtual 213, 3) := by decide +kernel
theorem dX8_same_56 : decode cX8_same 56 = .ok (.aload_n 0, 1) := by decide +kernel
theorem dX8_same_57 : decode cX8_same 57 = .ok (.aload_n 0, 1) := by decide +kernel
theorem dX8_same_58 : decode cX8_same 58 = .ok (.getfield 21, 3) := by decide +kernel
theorem dX8_same_61 : decode cX8_same 61 = .ok (.iload_n 1, 1) := by decide +kernel
theorem dX8_same_62 : decode cX8_same 62 = .ok (.aaload, 1) := by decide +kernel
theorem dX8_same_63 : decode cX8_same 63 = .ok (.aload_n 0, 1) := by decide +kernel
theorem dX8_same_64 : decode cX8_same 64 = .ok (.getfield 16, 3) := by decide +kernel
theorem dX8_same_67 : decode cX8_same 67 = .ok (.invokevirtual 213, 3) := by decide +kernel
theorem dX8_same_70 : decode cX8_same 70 = .ok (.if_icmp .ne 7, 3) := by decide +kernel
theorem dX8_same_73 : decode cX8_same 73 = .ok (.iconst 1, 1) := by decide +kernel
theorem dX8_same_74 : decode cX8_same 74 = .ok (.goto 4, 3) := by decide +kernel
theorem dX8_same_77 : decode cX8_same 77 = .ok (.iconst 0, 1) := by decide +kernel
theorem dX8_same_78 : decode cX8_same 78 = .ok (.ireturn, 1) := by decide +kernel
set_option maxRecDepth 20000 in
theorem ggX8_share_X8_isHead : GoodIn wsX8_share wsX8_isHead := goodIn_r _ [9, 10, 113, 114, 115, 116, 117, 118, 119, 120, 121, 122, 123, 124, 125, 126, 127] rfl (by decide +kernel)
set_option maxRecDepth 20000 in
theorem gX8_share_X8_isHead : GoodIn wsX8_share (wsV RX8 206 RX8 yX8_isHead wsX8_isHead) := goodIn_app (goodIn_of _ (by decide +kernel)) ggX8_share_X8_isHead
set_option maxRecDepth 20000 in
theorem ggX8_share_X4_becomeEverySecond : GoodIn wsX8_share wsX4_becomeEverySecond := goodIn_r _ [14, 15, 16, 17, 18, 19, 12, 20, 128, 129] rfl (by decide +kernel)
set_option maxRecDepth 20000 in
theorem gX8_share_X4_becomeEverySecond_n253 : GoodIn wsX8_share (wsX4_becomeEverySecond) := ggX8_share_X4_becomeEverySecond
set_option maxRecDepth 20000 in
theorem ggX8_share_X8_saysOf : GoodIn wsX8_share wsX8_saysOf := goodIn_r _ [24, 25, 26, 27, 28, 29, 8, 30, 31, 32, 33, 34, 35, 36, 37, 38, 39, 40, 41, 42, 43, 44, 45, 46, 47, 48, 49, 50, 51, 52, 53, 54, 55, 56, 57, 58, 59, 60, 61, 62, 63, 64, 65, 66, 67, 68, 69, 70, 71, 72, 73, 74, 75, 76, 77, 78, 79, 80, 81, 82, 83, 84, 85, 86, 87, 88, 89, 90, 91, 92, 93, 94, 95, 96, 97, 98, 99, 100, 101, 102, 103, 104, 105, 106, 107, 108, 109, 110, 111, 112, 113, 114, 115, 116, 117, 118, 119, 120, 121, 122, 123, 124, 125, 126, 127, 128, 129, 130, 131, 132, 133, 134, 135, 136, 137, 138, 139, 140, 141] rfl (by decide +kernel)
set_option maxRecDepth 20000 in
theorem gX8_share_X8_saysOf : GoodIn wsX8_share (wsV RX8 213 RX8 yX8_saysOf wsX8_saysOf) := goodIn_app (goodIn_of _ (by decide +kernel)) ggX8_share_X8_saysOf
theorem dX8_share_0 : decode cX8_share 0 = .ok (.aload_n 0, 1) := by decide +kernel
theorem dX8_share_1 : decode cX8_share 1 = .ok (.iload_n 1, 1) := by decide +kernel
theorem dX8_share_2 : decode cX8_share 2 = .ok (.invokevirtual 206, 3) := by decide +kernel
theorem dX8_share_5 : decode cX8_share 5 = .ok (.ifCond .eq 11, 3) := by decide +kernel
theorem dX8_share_8 : decode cX8_share 8 = .ok (.aload_n 0, 1) := by decide +kernel
theorem dX8_share_9 : decode cX8_share 9 = .ok (.iload_n 2, 1) := by decide +kernel
theorem dX8_share_10 : decode cX8_share 10 = .ok (.invokevirtual 206, 3) := by decide +kernel
theorem dX8_share_13 : decode cX8_share 13 = .ok (.ifCond .ne 6, 3) := by decide +kernel
theorem dX8_share_16 : decode cX8_share 16 = .ok (.ldc 217, 2) := by decide +kernel
theorem dX8_share_18 : decode cX8_share 18 = .ok (.ireturn, 1) := by decide +kernel
theorem dX8_share_19 : decode cX8_share 19 = .ok (.aload_n 0, 1) := by decide +kernel
theorem dX8_share_20 : decode cX8_share 20 = .ok (.getfield 16, 3) := by decide +kernel
theorem dX8_share_23 : decode cX8_share 23 = .ok (.aload_n 0, 1) := by decide +kernel
theorem dX8_share_24 : decode cX8_share 24 = .ok (.getfield 10, 3) := by decide +kernel
theorem dX8_share_27 : decode cX8_share 27 = .ok (.iconst 0, 1) := by decide +kernel
theorem dX8_share_28 : decode cX8_share 28 = .ok (.invokevirtual 253, 3) := by decide +kernel
theorem dX8_share_31 : decode cX8_share 31 = .ok (.aload_n 0, 1) := by decide +kernel
theorem dX8_share_32 : decode cX8_share 32 = .ok (.aload_n 0, 1) := by decide +kernel
theorem dX8_share_33 : decode cX8_share 33 = .ok (.getfield 21, 3) := by decide +kernel
theorem dX8_share_36 : decode cX8_share 36 = .ok (.iload_n 1, 1) := by decide +kernel
theorem dX8_share_37 : decode cX8_share 37 = .ok (.aaload, 1) := by decide +kernel
theorem dX8_share_38 : decode cX8_share 38 = .ok (.aload_n 0, 1) := by decide +kernel
theorem dX8_share_39 : decode cX8_share 39 = .ok (.getfield 16, 3) := by decide +kernel
theorem dX8_share_42 : decode cX8_share 42 = .ok (.invokevirtual 213, 3) := by decide +kernel
theorem dX8_share_45 : decode cX8_share 45 = .ok (.istore_n 3, 1) := by decide +kernel
theorem dX8_share_46 : decode cX8_share 46 = .ok (.aload_n 0, 1) := by decide +kernel
theorem dX8_share_47 : decode cX8_share 47 = .ok (.getfield 16, 3) := by decide +kernel
theorem dX8_share_50 : decode cX8_share 50 = .ok (.aload_n 0, 1) := by decide +kernel
theorem dX8_share_51 : decode cX8_share 51 = .ok (.getfield 10, 3) := by decide +kernel
theorem dX8_share_54 : decode cX8_share 54 = .ok (.iconst 1, 1) := by decide +kernel
theorem dX8_share_55 : decode cX8_share 55 = .ok (.invokevirtual 253, 3) := by decide +kernel
theorem dX8_share_58 : decode cX8_share 58 = .ok (.iload_n 3, 1) := by decide +kernel
theorem dX8_share_59 : decode cX8_share 59 = .ok (.aload_n 0, 1) := by decide +kernel
theorem dX8_share_60 : decode cX8_share 60 = .ok (.aload_n 0, 1) := by decide +kernel
theorem dX8_share_61 : decode cX8_share 61 = .ok (.getfield 21, 3) := by decide +kernel
theorem dX8_share_64 : decode cX8_share 64 = .ok (.iload_n 2, 1) := by decide +kernel
theorem dX8_share_65 : decode cX8_share 65 = .ok (.aaload, 1) := by decide +kernel
theorem dX8_share_66 : decode cX8_share 66 = .ok (.aload_n 0, 1) := by decide +kernel
theorem dX8_share_67 : decode cX8_share 67 = .ok (.getfield 16, 3) := by decide +kernel
theorem dX8_share_70 : decode cX8_share 70 = .ok (.invokevirtual 213, 3) := by decide +kernel
theorem dX8_share_73 : decode cX8_share 73 = .ok (.iadd, 1) := by decide +kernel
theorem dX8_share_74 : decode cX8_share 74 = .ok (.ireturn, 1) := by decide +kernel
set_option maxRecDepth 20000 in
theorem ggX8_states_X8_isHead : GoodIn wsX8_states wsX8_isHead := goodIn_r _ [9, 10, 87, 88, 89, 90, 91, 92, 93, 94, 95, 96, 97, 98, 99, 100, 101] rfl (by decide +kernel)
set_option maxRecDepth 20000 in
theorem gX8_states_X8_isHead : GoodIn wsX8_states (wsV RX8 206 RX8 yX8_isHead wsX8_isHead) := goodIn_app (goodIn_of _ (by decide +kernel)) ggX8_states_X8_isHead
set_option maxRecDepth 20000 in
theorem ggX8_states_X8_lawText : GoodIn wsX8_states wsX8_lawText := goodIn_r _ [14, 15, 16, 87, 88, 89, 90, 91, 92, 93, 94, 95, 96, 97, 98, 99, 100, 101] rfl (by decide +kernel)
set_option maxRecDepth 20000 in
theorem gX8_states_X8_lawText : GoodIn wsX8_states (wsV RX8 170 RX8 yX8_lawText wsX8_lawText) := goodIn_app (goodIn_of _ (by decide +kernel)) ggX8_states_X8_lawText
set_option maxRecDepth 20000 in
theorem ggX8_states_X7_setOutAs : GoodIn wsX8_states wsX7_setOutAs := goodIn_r _ [20, 21, 22, 23, 18, 24, 25, 26, 27, 28, 29, 30, 31, 32, 33, 34, 35, 102, 103, 104, 105, 106, 107, 108, 109] rfl (by decide +kernel)
set_option maxRecDepth 20000 in
theorem gX8_states_X7_setOutAs_n218 : GoodIn wsX8_states (wsX7_setOutAs) := ggX8_states_X7_setOutAs
set_option maxRecDepth 20000 in
theorem ggX8_states_X7_pair : GoodIn wsX8_states wsX7_pair := goodIn_r _ [38, 26, 107, 108, 109] rfl (by decide +kernel)
set_option maxRecDepth 20000 in
theorem gX8_states_X7_pair_n257 : GoodIn wsX8_states (wsX7_pair) := ggX8_states_X7_pair
set_option maxRecDepth 20000 in
theorem ggX8_states_X8_extendPairs : GoodIn wsX8_states wsX8_extendPairs := goodIn_r _ [42, 2, 4, 43, 18, 44, 45, 46, 32, 33, 34, 35, 26, 47, 48, 49, 50, 28, 51, 52, 53, 54, 55, 56, 57, 58, 59, 60, 61, 62, 25, 63, 64, 65, 66, 67, 68, 69, 70, 71, 72, 73, 74, 75, 76, 77, 78, 79, 80, 81, 82, 27, 29, 30, 31, 36, 37, 38, 87, 88, 89, 90, 91, 92, 93, 94, 95, 96, 97, 98, 99, 100, 101, 107, 108, 109, 102, 103, 104, 105, 106, 110, 111, 112, 113] rfl (by decide +kernel)
set_option maxRecDepth 20000 in
theorem gX8_states_X8_extendPairs : GoodIn wsX8_states (wsV RX8 260 RX8 yX8_extendPairs wsX8_extendPairs) := goodIn_app (goodIn_of _ (by decide +kernel)) ggX8_states_X8_extendPairs
set_option maxRecDepth 20000 in
theorem ggX8_states_X8_unlikePairs : GoodIn wsX8_states wsX8_unlikePairs := goodIn_r _ [86, 4, 87, 88, 89, 90, 91, 92, 93, 94, 95, 96, 97, 98, 99, 100, 101] rfl (by decide +kernel)
set_option maxRecDepth 20000 in
theorem gX8_states_X8_unlikePairs : GoodIn wsX8_states (wsV RX8 264 RX8 yX8_unlikePairs wsX8_unlikePairs) := goodIn_app (goodIn_of _ (by decide +kernel)) ggX8_states_X8_unlikePairs
theorem dX8_states_0 : decode cX8_states 0 = .ok (.aload_n 0, 1) := by decide +kernel
theorem dX8_states_1 : decode cX8_states 1 = .ok (.iload_n 1, 1) := by decide +kernel
theorem dX8_states_2 : decode cX8_states 2 = .ok (.invokevirtual 206, 3) := by decide +kernel
theorem dX8_states_5 : decode cX8_states 5 = .ok (.ifCond .ne 6, 3) := by decide +kernel
theorem dX8_states_8 : decode cX8_states 8 = .ok (.bipush (-5), 2) := by decide +kernel
theorem dX8_states_10 : decode cX8_states 10 = .ok (.ireturn, 1) := by decide +kernel
theorem dX8_states_11 : decode cX8_states 11 = .ok (.iload_n 2, 1) := by decide +kernel
theorem dX8_states_12 : decode cX8_states 12 = .ok (.iconst 1, 1) := by decide +kernel
theorem dX8_states_13 : decode cX8_states 13 = .ok (.if_icmp .lt 26, 3) := by decide +kernel
theorem dX8_states_16 : decode cX8_states 16 = .ok (.iload_n 2, 1) := by decide +kernel
theorem dX8_states_17 : decode cX8_states 17 = .ok (.bipush 6, 2) := by decide +kernel
theorem dX8_states_19 : decode cX8_states 19 = .ok (.if_icmp .gt 20, 3) := by decide +kernel
theorem dX8_states_22 : decode cX8_states 22 = .ok (.iload_n 2, 1) := by decide +kernel
theorem dX8_states_23 : decode cX8_states 23 = .ok (.aload_n 0, 1) := by decide +kernel
theorem dX8_states_24 : decode cX8_states 24 = .ok (.getfield 74, 3) := by decide +kernel
theorem dX8_states_27 : decode cX8_states 27 = .ok (.if_icmp .gt 12, 3) := by decide +kernel
theorem dX8_states_30 : decode cX8_states 30 = .ok (.iload_n 3, 1) := by decide +kernel
theorem dX8_states_31 : decode cX8_states 31 = .ok (.ifCond .lt 8, 3) := by decide +kernel
theorem dX8_states_34 : decode cX8_states 34 = .ok (.iload_n 3, 1) := by decide +kernel
theorem dX8_states_35 : decode cX8_states 35 = .ok (.iconst 3, 1) := by decide +kernel
theorem dX8_states_36 : decode cX8_states 36 = .ok (.if_icmp .le 6, 3) := by decide +kernel
theorem dX8_states_39 : decode cX8_states 39 = .ok (.bipush (-7), 2) := by decide +kernel
theorem dX8_states_41 : decode cX8_states 41 = .ok (.ireturn, 1) := by decide +kernel
theorem dX8_states_42 : decode cX8_states 42 = .ok (.aload_n 0, 1) := by decide +kernel
theorem dX8_states_43 : decode cX8_states 43 = .ok (.getfield 46, 3) := by decide +kernel
theorem dX8_states_46 : decode cX8_states 46 = .ok (.aload_n 0, 1) := by decide +kernel
theorem dX8_states_47 : decode cX8_states 47 = .ok (.getfield 21, 3) := by decide +kernel
theorem dX8_states_50 : decode cX8_states 50 = .ok (.iload_n 1, 1) := by decide +kernel
theorem dX8_states_51 : decode cX8_states 51 = .ok (.aaload, 1) := by decide +kernel
theorem dX8_states_52 : decode cX8_states 52 = .ok (.aload_n 0, 1) := by decide +kernel
theorem dX8_states_53 : decode cX8_states 53 = .ok (.invokevirtual 170, 3) := by decide +kernel
theorem dX8_states_56 : decode cX8_states 56 = .ok (.aload_n 0, 1) := by decide +kernel
theorem dX8_states_57 : decode cX8_states 57 = .ok (.getfield 74, 3) := by decide +kernel
theorem dX8_states_60 : decode cX8_states 60 = .ok (.invokevirtual 218, 3) := by decide +kernel
theorem dX8_states_63 : decode cX8_states 63 = .ok (.aload_n 0, 1) := by decide +kernel
theorem dX8_states_64 : decode cX8_states 64 = .ok (.getfield 57, 3) := by decide +kernel
theorem dX8_states_67 : decode cX8_states 67 = .ok (.iconst 0, 1) := by decide +kernel
theorem dX8_states_68 : decode cX8_states 68 = .ok (.aload_n 0, 1) := by decide +kernel
theorem dX8_states_69 : decode cX8_states 69 = .ok (.getfield 46, 3) := by decide +kernel
theorem dX8_states_72 : decode cX8_states 72 = .ok (.invokevirtual 257, 3) := by decide +kernel
theorem dX8_states_75 : decode cX8_states 75 = .ok (.iastore, 1) := by decide +kernel
theorem dX8_states_76 : decode cX8_states 76 = .ok (.iconst 0, 1) := by decide +kernel
theorem dX8_states_77 : decode cX8_states 77 = .ok (.istore 4, 2) := by decide +kernel
theorem dX8_states_79 : decode cX8_states 79 = .ok (.iconst 1, 1) := by decide +kernel
theorem dX8_states_80 : decode cX8_states 80 = .ok (.istore 5, 2) := by decide +kernel
theorem dX8_states_82 : decode cX8_states 82 = .ok (.iconst 0, 1) := by decide +kernel
theorem dX8_states_83 : decode cX8_states 83 = .ok (.istore 6, 2) := by decide +kernel
theorem dX8_states_85 : decode cX8_states 85 = .ok (.iload 6, 2) := by decide +kernel
theorem dX8_states_87 : decode cX8_states 87 = .ok (.iload_n 3, 1) := by decide +kernel
theorem dX8_states_88 : decode cX8_states 88 = .ok (.if_icmp .ge 36, 3) := by decide +kernel
theorem dX8_states_91 : decode cX8_states 91 = .ok (.aload_n 0, 1) := by decide +kernel
theorem dX8_states_92 : decode cX8_states 92 = .ok (.aload_n 0, 1) := by decide +kernel
theorem dX8_states_93 : decode cX8_states 93 = .ok (.getfield 21, 3) := by decide +kernel
theorem dX8_states_96 : decode cX8_states 96 = .ok (.iload_n 1, 1) := by decide +kernel
theorem dX8_states_97 : decode cX8_states 97 = .ok (.aaload, 1) := by decide +kernel
theorem dX8_states_98 : decode cX8_states 98 = .ok (.iload_n 2, 1) := by decide +kernel
theorem dX8_states_99 : decode cX8_states 99 = .ok (.iload 6, 2) := by decide +kernel
theorem dX8_states_101 : decode cX8_states 101 = .ok (.iload 4, 2) := by decide +kernel
theorem dX8_states_103 : decode cX8_states 103 = .ok (.iload 5, 2) := by decide +kernel
theorem dX8_states_105 : decode cX8_states 105 = .ok (.invokevirtual 260, 3) := by decide +kernel
theorem dX8_states_108 : decode cX8_states 108 = .ok (.istore 7, 2) := by decide +kernel
theorem dX8_states_110 : decode cX8_states 110 = .ok (.iload 5, 2) := by decide +kernel
theorem dX8_states_112 : decode cX8_states 112 = .ok (.istore 4, 2) := by decide +kernel
theorem dX8_states_114 : decode cX8_states 114 = .ok (.iload 7, 2) := by decide +kernel
theorem dX8_states_116 : decode cX8_states 116 = .ok (.istore 5, 2) := by decide +kernel
theorem dX8_states_118 : decode cX8_states 118 = .ok (.iinc 6 1, 3) := by decide +kernel
theorem dX8_states_121 : decode cX8_states 121 = .ok (.goto (-36), 3) := by decide +kernel
theorem dX8_states_124 : decode cX8_states 124 = .ok (.aload_n 0, 1) := by decide +kernel
theorem dX8_states_125 : decode cX8_states 125 = .ok (.iload 5, 2) := by decide +kernel
theorem dX8_states_127 : decode cX8_states 127 = .ok (.invokevirtual 264, 3) := by decide +kernel
theorem dX8_states_130 : decode cX8_states 130 = .ok (.ireturn, 1) := by decide +kernel
set_option maxRecDepth 20000 in
theorem ggX8_drop_X8_isHead : GoodIn wsX8_drop wsX8_isHead := goodIn_r _ [11, 12, 115, 116, 117, 118, 119, 120, 121, 122, 123, 124, 125, 126, 127, 128, 129] rfl (by decide +kernel)
set_option maxRecDepth 20000 in
theorem gX8_drop_X8_isHead : GoodIn wsX8_drop (wsV RX8 206 RX8 yX8_isHead wsX8_isHead) := goodIn_app (goodIn_of _ (by decide +kernel)) ggX8_drop_X8_isHead
set_option maxRecDepth 20000 in
theorem ggX8_drop_X4_becomeWithout : GoodIn wsX8_drop wsX4_becomeWithout := goodIn_r _ [16, 17, 18, 19, 20, 21, 14, 22, 130, 131] rfl (by decide +kernel)
set_option maxRecDepth 20000 in
theorem gX8_drop_X4_becomeWithout_n269 : GoodIn wsX8_drop (wsX4_becomeWithout) := ggX8_drop_X4_becomeWithout
set_option maxRecDepth 20000 in
theorem ggX8_drop_X8_saysOf : GoodIn wsX8_drop wsX8_saysOf := goodIn_r _ [26, 27, 28, 29, 30, 31, 10, 32, 33, 34, 35, 36, 37, 38, 39, 40, 41, 42, 43, 44, 45, 46, 47, 48, 49, 50, 51, 52, 53, 54, 55, 56, 57, 58, 59, 60, 61, 62, 63, 64, 65, 66, 67, 68, 69, 70, 71, 72, 73, 74, 75, 76, 77, 78, 79, 80, 81, 82, 83, 84, 85, 86, 87, 88, 89, 90, 91, 92, 93, 94, 95, 96, 97, 98, 99, 100, 101, 102, 103, 104, 105, 106, 107, 108, 109, 110, 111, 112, 113, 114, 115, 116, 117, 118, 119, 120, 121, 122, 123, 124, 125, 126, 127, 128, 129, 130, 131, 132, 133, 134, 135, 136, 137, 138, 139, 140, 141, 142, 143] rfl (by decide +kernel)
set_option maxRecDepth 20000 in
theorem gX8_drop_X8_saysOf : GoodIn wsX8_drop (wsV RX8 213 RX8 yX8_saysOf wsX8_saysOf) := goodIn_app (goodIn_of _ (by decide +kernel)) ggX8_drop_X8_saysOf
theorem dX8_drop_0 : decode cX8_drop 0 = .ok (.aload_n 0, 1) := by decide +kernel
theorem dX8_drop_1 : decode cX8_drop 1 = .ok (.iload_n 1, 1) := by decide +kernel
theorem dX8_drop_2 : decode cX8_drop 2 = .ok (.invokevirtual 206, 3) := by decide +kernel
theorem dX8_drop_5 : decode cX8_drop 5 = .ok (.ifCond .ne 6, 3) := by decide +kernel
theorem dX8_drop_8 : decode cX8_drop 8 = .ok (.ldc 217, 2) := by decide +kernel
theorem dX8_drop_10 : decode cX8_drop 10 = .ok (.ireturn, 1) := by decide +kernel
theorem dX8_drop_11 : decode cX8_drop 11 = .ok (.iload_n 2, 1) := by decide +kernel
theorem dX8_drop_12 : decode cX8_drop 12 = .ok (.ifCond .lt 8, 3) := by decide +kernel
theorem dX8_drop_15 : decode cX8_drop 15 = .ok (.iload_n 2, 1) := by decide +kernel
theorem dX8_drop_16 : decode cX8_drop 16 = .ok (.iconst 1, 1) := by decide +kernel
theorem dX8_drop_17 : decode cX8_drop 17 = .ok (.if_icmp .le 7, 3) := by decide +kernel
theorem dX8_drop_20 : decode cX8_drop 20 = .ok (.ldc_w 267, 3) := by decide +kernel
theorem dX8_drop_23 : decode cX8_drop 23 = .ok (.ireturn, 1) := by decide +kernel
theorem dX8_drop_24 : decode cX8_drop 24 = .ok (.iconst (-1), 1) := by decide +kernel
theorem dX8_drop_25 : decode cX8_drop 25 = .ok (.istore_n 3, 1) := by decide +kernel
theorem dX8_drop_26 : decode cX8_drop 26 = .ok (.ldc_w 268, 3) := by decide +kernel
theorem dX8_drop_29 : decode cX8_drop 29 = .ok (.istore 4, 2) := by decide +kernel
theorem dX8_drop_31 : decode cX8_drop 31 = .ok (.iconst 0, 1) := by decide +kernel
theorem dX8_drop_32 : decode cX8_drop 32 = .ok (.istore 5, 2) := by decide +kernel
theorem dX8_drop_34 : decode cX8_drop 34 = .ok (.iload 5, 2) := by decide +kernel
theorem dX8_drop_36 : decode cX8_drop 36 = .ok (.aload_n 0, 1) := by decide +kernel
theorem dX8_drop_37 : decode cX8_drop 37 = .ok (.getfield 10, 3) := by decide +kernel
theorem dX8_drop_40 : decode cX8_drop 40 = .ok (.getfield 108, 3) := by decide +kernel
theorem dX8_drop_43 : decode cX8_drop 43 = .ok (.if_icmp .ge 57, 3) := by decide +kernel
theorem dX8_drop_46 : decode cX8_drop 46 = .ok (.aload_n 0, 1) := by decide +kernel
theorem dX8_drop_47 : decode cX8_drop 47 = .ok (.getfield 16, 3) := by decide +kernel
theorem dX8_drop_50 : decode cX8_drop 50 = .ok (.aload_n 0, 1) := by decide +kernel
theorem dX8_drop_51 : decode cX8_drop 51 = .ok (.getfield 10, 3) := by decide +kernel
theorem dX8_drop_54 : decode cX8_drop 54 = .ok (.iload 5, 2) := by decide +kernel
theorem dX8_drop_56 : decode cX8_drop 56 = .ok (.invokevirtual 269, 3) := by decide +kernel
theorem dX8_drop_59 : decode cX8_drop 59 = .ok (.aload_n 0, 1) := by decide +kernel
theorem dX8_drop_60 : decode cX8_drop 60 = .ok (.aload_n 0, 1) := by decide +kernel
theorem dX8_drop_61 : decode cX8_drop 61 = .ok (.getfield 21, 3) := by decide +kernel
theorem dX8_drop_64 : decode cX8_drop 64 = .ok (.iload_n 1, 1) := by decide +kernel
theorem dX8_drop_65 : decode cX8_drop 65 = .ok (.aaload, 1) := by decide +kernel
theorem dX8_drop_66 : decode cX8_drop 66 = .ok (.aload_n 0, 1) := by decide +kernel
theorem dX8_drop_67 : decode cX8_drop 67 = .ok (.getfield 16, 3) := by decide +kernel
theorem dX8_drop_70 : decode cX8_drop 70 = .ok (.invokevirtual 213, 3) := by decide +kernel
theorem dX8_drop_73 : decode cX8_drop 73 = .ok (.istore 6, 2) := by decide +kernel
theorem dX8_drop_75 : decode cX8_drop 75 = .ok (.iload_n 3, 1) := by decide +kernel
theorem dX8_drop_76 : decode cX8_drop 76 = .ok (.iconst (-1), 1) := by decide +kernel
theorem dX8_drop_77 : decode cX8_drop 77 = .ok (.if_icmp .eq 10, 3) := by decide +kernel
theorem dX8_drop_80 : decode cX8_drop 80 = .ok (.iload 6, 2) := by decide +kernel
theorem dX8_drop_82 : decode cX8_drop 82 = .ok (.iload 4, 2) := by decide +kernel
theorem dX8_drop_84 : decode cX8_drop 84 = .ok (.if_icmp .le 10, 3) := by decide +kernel
theorem dX8_drop_87 : decode cX8_drop 87 = .ok (.iload 5, 2) := by decide +kernel
theorem dX8_drop_89 : decode cX8_drop 89 = .ok (.istore_n 3, 1) := by decide +kernel
theorem dX8_drop_90 : decode cX8_drop 90 = .ok (.iload 6, 2) := by decide +kernel
theorem dX8_drop_92 : decode cX8_drop 92 = .ok (.istore 4, 2) := by decide +kernel
theorem dX8_drop_94 : decode cX8_drop 94 = .ok (.iinc 5 1, 3) := by decide +kernel
theorem dX8_drop_97 : decode cX8_drop 97 = .ok (.goto (-63), 3) := by decide +kernel
theorem dX8_drop_100 : decode cX8_drop 100 = .ok (.iload_n 2, 1) := by decide +kernel
theorem dX8_drop_101 : decode cX8_drop 101 = .ok (.ifCond .ne 7, 3) := by decide +kernel
theorem dX8_drop_104 : decode cX8_drop 104 = .ok (.iload_n 3, 1) := by decide +kernel
theorem dX8_drop_105 : decode cX8_drop 105 = .ok (.goto 5, 3) := by decide +kernel
theorem dX8_drop_108 : decode cX8_drop 108 = .ok (.iload 4, 2) := by decide +kernel
theorem dX8_drop_110 : decode cX8_drop 110 = .ok (.ireturn, 1) := by decide +kernel
set_option maxRecDepth 20000 in
theorem ggX8_often_X8_isHead : GoodIn wsX8_often wsX8_isHead := goodIn_r _ [10, 11, 125, 126, 127, 128, 129, 130, 131, 132, 133, 134, 135, 136, 137, 138, 139] rfl (by decide +kernel)
set_option maxRecDepth 20000 in
theorem gX8_often_X8_isHead : GoodIn wsX8_often (wsV RX8 206 RX8 yX8_isHead wsX8_isHead) := goodIn_app (goodIn_of _ (by decide +kernel)) ggX8_often_X8_isHead
set_option maxRecDepth 20000 in
theorem ggX8_often_X4_become : GoodIn wsX8_often wsX4_become := goodIn_r _ [15, 16, 17, 18, 19, 20, 13, 21, 140, 141] rfl (by decide +kernel)
set_option maxRecDepth 20000 in
theorem gX8_often_X4_become_n250 : GoodIn wsX8_often (wsX4_become) := ggX8_often_X4_become
set_option maxRecDepth 20000 in
theorem ggX8_often_X8_saysOf : GoodIn wsX8_often wsX8_saysOf := goodIn_r _ [25, 26, 27, 28, 29, 30, 9, 31, 32, 33, 34, 35, 36, 37, 38, 39, 40, 41, 42, 43, 44, 45, 46, 47, 48, 49, 50, 51, 52, 53, 54, 55, 56, 57, 58, 59, 60, 61, 62, 63, 64, 65, 66, 67, 68, 69, 70, 71, 72, 73, 74, 75, 76, 77, 78, 79, 80, 81, 82, 83, 84, 85, 86, 87, 88, 89, 90, 91, 92, 93, 94, 95, 96, 97, 98, 99, 100, 101, 102, 103, 104, 105, 106, 107, 108, 109, 110, 111, 112, 113, 125, 126, 127, 128, 129, 130, 131, 132, 133, 134, 135, 136, 137, 138, 139, 140, 141, 142, 143, 144, 145, 146, 147, 148, 149, 150, 151, 152, 153] rfl (by decide +kernel)
set_option maxRecDepth 20000 in
theorem gX8_often_X8_saysOf : GoodIn wsX8_often (wsV RX8 213 RX8 yX8_saysOf wsX8_saysOf) := goodIn_app (goodIn_of _ (by decide +kernel)) ggX8_often_X8_saysOf
set_option maxRecDepth 20000 in
theorem ggX8_often_X4_beTurned : GoodIn wsX8_often wsX4_beTurned := goodIn_r _ [116, 16, 117, 118, 119, 13, 120, 17, 121, 122, 123, 124, 140, 141] rfl (by decide +kernel)
set_option maxRecDepth 20000 in
theorem gX8_often_X4_beTurned_n135 : GoodIn wsX8_often (wsX4_beTurned) := ggX8_often_X4_beTurned
theorem dX8_often_0 : decode cX8_often 0 = .ok (.aload_n 0, 1) := by decide +kernel
theorem dX8_often_1 : decode cX8_often 1 = .ok (.iload_n 1, 1) := by decide +kernel
theorem dX8_often_2 : decode cX8_often 2 = .ok (.invokevirtual 206, 3) := by decide +kernel
theorem dX8_often_5 : decode cX8_often 5 = .ok (.ifCond .ne 6, 3) := by decide +kernel
theorem dX8_often_8 : decode cX8_often 8 = .ok (.bipush (-5), 2) := by decide +kernel
theorem dX8_often_10 : decode cX8_often 10 = .ok (.ireturn, 1) := by decide +kernel
theorem dX8_often_11 : decode cX8_often 11 = .ok (.iload_n 2, 1) := by decide +kernel
theorem dX8_often_12 : decode cX8_often 12 = .ok (.iconst 1, 1) := by decide +kernel
theorem dX8_often_13 : decode cX8_often 13 = .ok (.if_icmp .lt 23, 3) := by decide +kernel
theorem dX8_often_16 : decode cX8_often 16 = .ok (.iload_n 2, 1) := by decide +kernel
theorem dX8_often_17 : decode cX8_often 17 = .ok (.bipush 20, 2) := by decide +kernel
theorem dX8_often_19 : decode cX8_often 19 = .ok (.if_icmp .gt 17, 3) := by decide +kernel
theorem dX8_often_22 : decode cX8_often 22 = .ok (.iload_n 3, 1) := by decide +kernel
theorem dX8_often_23 : decode cX8_often 23 = .ok (.ldc_w 268, 3) := by decide +kernel
theorem dX8_often_26 : decode cX8_often 26 = .ok (.if_icmp .lt 10, 3) := by decide +kernel
theorem dX8_often_29 : decode cX8_often 29 = .ok (.iload_n 3, 1) := by decide +kernel
theorem dX8_often_30 : decode cX8_often 30 = .ok (.ldc_w 272, 3) := by decide +kernel
theorem dX8_often_33 : decode cX8_often 33 = .ok (.if_icmp .le 6, 3) := by decide +kernel
theorem dX8_often_36 : decode cX8_often 36 = .ok (.bipush (-7), 2) := by decide +kernel
theorem dX8_often_38 : decode cX8_often 38 = .ok (.ireturn, 1) := by decide +kernel
theorem dX8_often_39 : decode cX8_often 39 = .ok (.aload_n 0, 1) := by decide +kernel
theorem dX8_often_40 : decode cX8_often 40 = .ok (.getfield 16, 3) := by decide +kernel
theorem dX8_often_43 : decode cX8_often 43 = .ok (.aload_n 0, 1) := by decide +kernel
theorem dX8_often_44 : decode cX8_often 44 = .ok (.getfield 10, 3) := by decide +kernel
theorem dX8_often_47 : decode cX8_often 47 = .ok (.invokevirtual 250, 3) := by decide +kernel
theorem dX8_often_50 : decode cX8_often 50 = .ok (.iconst 0, 1) := by decide +kernel
theorem dX8_often_51 : decode cX8_often 51 = .ok (.istore 4, 2) := by decide +kernel
theorem dX8_often_53 : decode cX8_often 53 = .ok (.iconst 0, 1) := by decide +kernel
theorem dX8_often_54 : decode cX8_often 54 = .ok (.istore 5, 2) := by decide +kernel
theorem dX8_often_56 : decode cX8_often 56 = .ok (.iload 5, 2) := by decide +kernel
theorem dX8_often_58 : decode cX8_often 58 = .ok (.iload_n 2, 1) := by decide +kernel
theorem dX8_often_59 : decode cX8_often 59 = .ok (.if_icmp .ge 38, 3) := by decide +kernel
theorem dX8_often_62 : decode cX8_often 62 = .ok (.aload_n 0, 1) := by decide +kernel
theorem dX8_often_63 : decode cX8_often 63 = .ok (.aload_n 0, 1) := by decide +kernel
theorem dX8_often_64 : decode cX8_often 64 = .ok (.getfield 21, 3) := by decide +kernel
theorem dX8_often_67 : decode cX8_often 67 = .ok (.iload_n 1, 1) := by decide +kernel
theorem dX8_often_68 : decode cX8_often 68 = .ok (.aaload, 1) := by decide +kernel
theorem dX8_often_69 : decode cX8_often 69 = .ok (.aload_n 0, 1) := by decide +kernel
theorem dX8_often_70 : decode cX8_often 70 = .ok (.getfield 16, 3) := by decide +kernel
theorem dX8_often_73 : decode cX8_often 73 = .ok (.invokevirtual 213, 3) := by decide +kernel
theorem dX8_often_76 : decode cX8_often 76 = .ok (.iload_n 3, 1) := by decide +kernel
theorem dX8_often_77 : decode cX8_often 77 = .ok (.if_icmp .ne 6, 3) := by decide +kernel
theorem dX8_often_80 : decode cX8_often 80 = .ok (.iinc 4 1, 3) := by decide +kernel
theorem dX8_often_83 : decode cX8_often 83 = .ok (.aload_n 0, 1) := by decide +kernel
theorem dX8_often_84 : decode cX8_often 84 = .ok (.getfield 16, 3) := by decide +kernel
theorem dX8_often_87 : decode cX8_often 87 = .ok (.iconst 1, 1) := by decide +kernel
theorem dX8_often_88 : decode cX8_often 88 = .ok (.invokevirtual 135, 3) := by decide +kernel
theorem dX8_often_91 : decode cX8_often 91 = .ok (.iinc 5 1, 3) := by decide +kernel
theorem dX8_often_94 : decode cX8_often 94 = .ok (.goto (-38), 3) := by decide +kernel
theorem dX8_often_97 : decode cX8_often 97 = .ok (.iload 4, 2) := by decide +kernel
theorem dX8_often_99 : decode cX8_often 99 = .ok (.ireturn, 1) := by decide +kernel
set_option maxRecDepth 20000 in
theorem ggX8_who_X8_countRight : GoodIn wsX8_who wsX8_countRight := goodIn_r _ [7, 8, 9, 10, 11, 6, 12, 13, 14, 15, 16, 17, 18, 19, 20, 21, 22, 23, 24, 25, 26, 27, 28, 29, 30, 31, 32, 33, 34, 35, 36, 37, 38, 39, 40, 41, 42, 43, 44, 45, 46, 47, 48, 49, 50, 51, 52, 53, 54, 55, 56, 57, 58, 59, 60, 61, 62, 63, 64, 65, 66, 67, 68, 69, 70, 71, 72, 73, 74, 75, 76, 77, 78, 79, 80, 81, 82, 83, 84, 85, 86, 87, 88, 89, 90, 91, 92, 93, 94, 95, 96, 97, 98, 99, 100, 101, 102, 103, 104, 105, 106, 107, 108, 109, 110, 111, 112, 113, 114, 115, 116, 117, 118, 119, 120, 121, 122, 123, 124, 125, 126, 127, 128, 129, 130, 131, 132, 133, 134, 135, 136, 137, 138, 139] rfl (by decide +kernel)
set_option maxRecDepth 20000 in
theorem gX8_who_X8_countRight : GoodIn wsX8_who (wsV RX8 246 RX8 yX8_countRight wsX8_countRight) := goodIn_app (goodIn_of _ (by decide +kernel)) ggX8_who_X8_countRight
theorem dX8_who_0 : decode cX8_who 0 = .ok (.iload_n 1, 1) := by decide +kernel
theorem dX8_who_1 : decode cX8_who 1 = .ok (.ifCond .lt 8, 3) := by decide +kernel
theorem dX8_who_4 : decode cX8_who 4 = .ok (.iload_n 1, 1) := by decide +kernel
theorem dX8_who_5 : decode cX8_who 5 = .ok (.iconst 1, 1) := by decide +kernel
theorem dX8_who_6 : decode cX8_who 6 = .ok (.if_icmp .le 6, 3) := by decide +kernel
theorem dX8_who_9 : decode cX8_who 9 = .ok (.bipush (-2), 2) := by decide +kernel
theorem dX8_who_11 : decode cX8_who 11 = .ok (.ireturn, 1) := by decide +kernel
theorem dX8_who_12 : decode cX8_who 12 = .ok (.iconst (-1), 1) := by decide +kernel
theorem dX8_who_13 : decode cX8_who 13 = .ok (.istore_n 2, 1) := by decide +kernel
theorem dX8_who_14 : decode cX8_who 14 = .ok (.iconst (-1), 1) := by decide +kernel
theorem dX8_who_15 : decode cX8_who 15 = .ok (.istore_n 3, 1) := by decide +kernel
theorem dX8_who_16 : decode cX8_who 16 = .ok (.iconst 0, 1) := by decide +kernel
theorem dX8_who_17 : decode cX8_who 17 = .ok (.istore 4, 2) := by decide +kernel
theorem dX8_who_19 : decode cX8_who 19 = .ok (.iload 4, 2) := by decide +kernel
theorem dX8_who_21 : decode cX8_who 21 = .ok (.aload_n 0, 1) := by decide +kernel
theorem dX8_who_22 : decode cX8_who 22 = .ok (.getfield 78, 3) := by decide +kernel
theorem dX8_who_25 : decode cX8_who 25 = .ok (.if_icmp .ge 34, 3) := by decide +kernel
theorem dX8_who_28 : decode cX8_who 28 = .ok (.aload_n 0, 1) := by decide +kernel
theorem dX8_who_29 : decode cX8_who 29 = .ok (.aload_n 0, 1) := by decide +kernel
theorem dX8_who_30 : decode cX8_who 30 = .ok (.getfield 21, 3) := by decide +kernel
theorem dX8_who_33 : decode cX8_who 33 = .ok (.iload 4, 2) := by decide +kernel
theorem dX8_who_35 : decode cX8_who 35 = .ok (.aaload, 1) := by decide +kernel
theorem dX8_who_36 : decode cX8_who 36 = .ok (.invokevirtual 246, 3) := by decide +kernel
theorem dX8_who_39 : decode cX8_who 39 = .ok (.istore 5, 2) := by decide +kernel
theorem dX8_who_41 : decode cX8_who 41 = .ok (.iload 5, 2) := by decide +kernel
theorem dX8_who_43 : decode cX8_who 43 = .ok (.iload_n 3, 1) := by decide +kernel
theorem dX8_who_44 : decode cX8_who 44 = .ok (.if_icmp .le 9, 3) := by decide +kernel
theorem dX8_who_47 : decode cX8_who 47 = .ok (.iload 5, 2) := by decide +kernel
theorem dX8_who_49 : decode cX8_who 49 = .ok (.istore_n 3, 1) := by decide +kernel
theorem dX8_who_50 : decode cX8_who 50 = .ok (.iload 4, 2) := by decide +kernel
theorem dX8_who_52 : decode cX8_who 52 = .ok (.istore_n 2, 1) := by decide +kernel
theorem dX8_who_53 : decode cX8_who 53 = .ok (.iinc 4 1, 3) := by decide +kernel
theorem dX8_who_56 : decode cX8_who 56 = .ok (.goto (-37), 3) := by decide +kernel
theorem dX8_who_59 : decode cX8_who 59 = .ok (.iload_n 1, 1) := by decide +kernel
theorem dX8_who_60 : decode cX8_who 60 = .ok (.ifCond .ne 7, 3) := by decide +kernel
theorem dX8_who_63 : decode cX8_who 63 = .ok (.iload_n 2, 1) := by decide +kernel
theorem dX8_who_64 : decode cX8_who 64 = .ok (.goto 4, 3) := by decide +kernel
theorem dX8_who_67 : decode cX8_who 67 = .ok (.iload_n 3, 1) := by decide +kernel
theorem dX8_who_68 : decode cX8_who 68 = .ok (.ireturn, 1) := by decide +kernel
set_option maxRecDepth 20000 in
theorem ggX8_judge_X8_refusalOfSayings : GoodIn wsX8_judge wsX8_refusalOfSayings := goodIn_r _ [7, 8, 9, 10, 6, 11, 1, 12, 13, 14, 15, 16, 17, 18, 19, 20, 21, 22, 23, 24, 25, 132, 133, 134, 135, 136, 137, 138, 139, 140, 141, 142, 143, 144, 145, 146, 147, 148, 149] rfl (by decide +kernel)
set_option maxRecDepth 20000 in
theorem gX8_judge_X8_refusalOfSayings : GoodIn wsX8_judge (wsV RX8 273 RX8 yX8_refusalOfSayings wsX8_refusalOfSayings) := goodIn_app (goodIn_of _ (by decide +kernel)) ggX8_judge_X8_refusalOfSayings
set_option maxRecDepth 20000 in
theorem ggX8_judge_X8_lawText : GoodIn wsX8_judge wsX8_lawText := goodIn_r _ [29, 30, 31, 132, 133, 134, 135, 136, 137, 138, 139, 140, 141, 142, 143, 144, 145, 146] rfl (by decide +kernel)
set_option maxRecDepth 20000 in
theorem gX8_judge_X8_lawText : GoodIn wsX8_judge (wsV RX8 170 RX8 yX8_lawText wsX8_lawText) := goodIn_app (goodIn_of _ (by decide +kernel)) ggX8_judge_X8_lawText
set_option maxRecDepth 20000 in
theorem ggX8_judge_X8_firstUnlike : GoodIn wsX8_judge wsX8_firstUnlike := goodIn_r _ [35, 36, 37, 38, 6, 39, 40, 12, 41, 42, 43, 44, 45, 46, 47, 48, 49, 50, 51, 52, 53, 54, 55, 56, 57, 58, 59, 60, 61, 62, 63, 64, 65, 66, 67, 68, 69, 70, 71, 72, 73, 74, 75, 76, 77, 78, 79, 80, 81, 82, 83, 84, 85, 86, 87, 88, 89, 90, 91, 92, 93, 94, 95, 96, 97, 98, 99, 100, 101, 102, 103, 104, 105, 106, 107, 108, 109, 110, 111, 112, 113, 114, 115, 116, 117, 118, 119, 120, 121, 122, 123, 124, 125, 126, 127, 128, 129, 130, 131, 147, 148, 149, 132, 133, 134, 135, 136, 137, 138, 139, 140, 141, 142, 143, 144, 145, 146, 150, 151, 152, 153, 154, 155, 156, 157, 158, 159, 160, 161, 162, 163] rfl (by decide +kernel)
set_option maxRecDepth 20000 in
theorem gX8_judge_X8_firstUnlike : GoodIn wsX8_judge (wsV RX8 276 RX8 yX8_firstUnlike wsX8_firstUnlike) := goodIn_app (goodIn_of _ (by decide +kernel)) ggX8_judge_X8_firstUnlike
theorem dX8_judge_0 : decode cX8_judge 0 = .ok (.aload_n 0, 1) := by decide +kernel
theorem dX8_judge_1 : decode cX8_judge 1 = .ok (.iload_n 1, 1) := by decide +kernel
theorem dX8_judge_2 : decode cX8_judge 2 = .ok (.iload_n 2, 1) := by decide +kernel
theorem dX8_judge_3 : decode cX8_judge 3 = .ok (.invokevirtual 273, 3) := by decide +kernel
theorem dX8_judge_6 : decode cX8_judge 6 = .ok (.istore_n 3, 1) := by decide +kernel
theorem dX8_judge_7 : decode cX8_judge 7 = .ok (.iload_n 3, 1) := by decide +kernel
theorem dX8_judge_8 : decode cX8_judge 8 = .ok (.ifCond .eq 7, 3) := by decide +kernel
theorem dX8_judge_11 : decode cX8_judge 11 = .ok (.iload_n 3, 1) := by decide +kernel
theorem dX8_judge_12 : decode cX8_judge 12 = .ok (.goto 23, 3) := by decide +kernel
theorem dX8_judge_15 : decode cX8_judge 15 = .ok (.aload_n 0, 1) := by decide +kernel
theorem dX8_judge_16 : decode cX8_judge 16 = .ok (.aload_n 0, 1) := by decide +kernel
theorem dX8_judge_17 : decode cX8_judge 17 = .ok (.getfield 63, 3) := by decide +kernel
theorem dX8_judge_20 : decode cX8_judge 20 = .ok (.iload_n 1, 1) := by decide +kernel
theorem dX8_judge_21 : decode cX8_judge 21 = .ok (.aaload, 1) := by decide +kernel
theorem dX8_judge_22 : decode cX8_judge 22 = .ok (.aload_n 0, 1) := by decide +kernel
theorem dX8_judge_23 : decode cX8_judge 23 = .ok (.getfield 21, 3) := by decide +kernel
theorem dX8_judge_26 : decode cX8_judge 26 = .ok (.iload_n 2, 1) := by decide +kernel
theorem dX8_judge_27 : decode cX8_judge 27 = .ok (.aaload, 1) := by decide +kernel
theorem dX8_judge_28 : decode cX8_judge 28 = .ok (.aload_n 0, 1) := by decide +kernel
theorem dX8_judge_29 : decode cX8_judge 29 = .ok (.invokevirtual 170, 3) := by decide +kernel
theorem dX8_judge_32 : decode cX8_judge 32 = .ok (.invokevirtual 276, 3) := by decide +kernel
theorem dX8_judge_35 : decode cX8_judge 35 = .ok (.ireturn, 1) := by decide +kernel
set_option maxRecDepth 20000 in
theorem ggX8_kinds_X8_refusalOfSayings : GoodIn wsX8_kinds wsX8_refusalOfSayings := goodIn_r _ [8, 9, 10, 11, 7, 12, 3, 13, 14, 15, 16, 17, 18, 19, 20, 21, 22, 23, 24, 25, 26, 138, 139, 140, 141, 142, 143, 144, 145, 146, 147, 148, 149, 150, 151, 152, 158, 159, 160] rfl (by decide +kernel)
set_option maxRecDepth 20000 in
theorem gX8_kinds_X8_refusalOfSayings : GoodIn wsX8_kinds (wsV RX8 273 RX8 yX8_refusalOfSayings wsX8_refusalOfSayings) := goodIn_app (goodIn_of _ (by decide +kernel)) ggX8_kinds_X8_refusalOfSayings
set_option maxRecDepth 20000 in
theorem ggX8_kinds_X0_become : GoodIn wsX8_kinds wsX0_become := goodIn_r _ [30, 31, 32, 33, 34, 35, 153, 154, 155, 156, 157] rfl (by decide +kernel)
set_option maxRecDepth 20000 in
theorem gX8_kinds_X0_become_n238 : GoodIn wsX8_kinds (wsX0_become) := ggX8_kinds_X0_become
set_option maxRecDepth 20000 in
theorem ggX8_kinds_X8_lawText : GoodIn wsX8_kinds wsX8_lawText := goodIn_r _ [39, 40, 41, 138, 139, 140, 141, 142, 143, 144, 145, 146, 147, 148, 149, 150, 151, 152] rfl (by decide +kernel)
set_option maxRecDepth 20000 in
theorem gX8_kinds_X8_lawText : GoodIn wsX8_kinds (wsV RX8 170 RX8 yX8_lawText wsX8_lawText) := goodIn_app (goodIn_of _ (by decide +kernel)) ggX8_kinds_X8_lawText
set_option maxRecDepth 20000 in
theorem ggX8_kinds_X8_firstUnlike : GoodIn wsX8_kinds wsX8_firstUnlike := goodIn_r _ [45, 46, 47, 48, 7, 49, 50, 13, 51, 52, 53, 54, 55, 56, 57, 58, 59, 60, 61, 62, 63, 64, 65, 66, 67, 68, 69, 70, 71, 72, 73, 74, 75, 76, 28, 77, 78, 33, 79, 80, 81, 82, 83, 84, 85, 31, 32, 86, 87, 88, 89, 90, 91, 92, 93, 94, 95, 96, 97, 98, 99, 100, 101, 102, 103, 104, 105, 106, 107, 108, 109, 110, 111, 112, 113, 114, 115, 116, 117, 118, 119, 120, 121, 122, 123, 124, 125, 126, 127, 128, 129, 130, 131, 132, 133, 134, 135, 136, 137, 158, 159, 160, 138, 139, 140, 141, 142, 143, 144, 145, 146, 147, 148, 149, 150, 151, 152, 161, 162, 153, 154, 155, 156, 157, 163, 164, 165, 166, 167, 168, 169] rfl (by decide +kernel)
set_option maxRecDepth 20000 in
theorem gX8_kinds_X8_firstUnlike : GoodIn wsX8_kinds (wsV RX8 276 RX8 yX8_firstUnlike wsX8_firstUnlike) := goodIn_app (goodIn_of _ (by decide +kernel)) ggX8_kinds_X8_firstUnlike
theorem dX8_kinds_0 : decode cX8_kinds 0 = .ok (.aload_n 0, 1) := by decide +kernel
theorem dX8_kinds_1 : decode cX8_kinds 1 = .ok (.iload_n 1, 1) := by decide +kernel
theorem dX8_kinds_2 : decode cX8_kinds 2 = .ok (.iload_n 2, 1) := by decide +kernel
theorem dX8_kinds_3 : decode cX8_kinds 3 = .ok (.invokevirtual 273, 3) := by decide +kernel
theorem dX8_kinds_6 : decode cX8_kinds 6 = .ok (.istore 4, 2) := by decide +kernel
theorem dX8_kinds_8 : decode cX8_kinds 8 = .ok (.iload 4, 2) := by decide +kernel
theorem dX8_kinds_10 : decode cX8_kinds 10 = .ok (.ifCond .eq 6, 3) := by decide +kernel
theorem dX8_kinds_13 : decode cX8_kinds 13 = .ok (.iload 4, 2) := by decide +kernel
theorem dX8_kinds_15 : decode cX8_kinds 15 = .ok (.ireturn, 1) := by decide +kernel
theorem dX8_kinds_16 : decode cX8_kinds 16 = .ok (.iload_n 3, 1) := by decide +kernel
theorem dX8_kinds_17 : decode cX8_kinds 17 = .ok (.ifCond .lt 8, 3) := by decide +kernel
theorem dX8_kinds_20 : decode cX8_kinds 20 = .ok (.iload_n 3, 1) := by decide +kernel
theorem dX8_kinds_21 : decode cX8_kinds 21 = .ok (.iconst 2, 1) := by decide +kernel
theorem dX8_kinds_22 : decode cX8_kinds 22 = .ok (.if_icmp .le 6, 3) := by decide +kernel
theorem dX8_kinds_25 : decode cX8_kinds 25 = .ok (.bipush (-7), 2) := by decide +kernel
theorem dX8_kinds_27 : decode cX8_kinds 27 = .ok (.ireturn, 1) := by decide +kernel
theorem dX8_kinds_28 : decode cX8_kinds 28 = .ok (.aload_n 0, 1) := by decide +kernel
theorem dX8_kinds_29 : decode cX8_kinds 29 = .ok (.getfield 26, 3) := by decide +kernel
theorem dX8_kinds_32 : decode cX8_kinds 32 = .ok (.aload_n 0, 1) := by decide +kernel
theorem dX8_kinds_33 : decode cX8_kinds 33 = .ok (.getfield 21, 3) := by decide +kernel
theorem dX8_kinds_36 : decode cX8_kinds 36 = .ok (.iload_n 2, 1) := by decide +kernel
theorem dX8_kinds_37 : decode cX8_kinds 37 = .ok (.aaload, 1) := by decide +kernel
theorem dX8_kinds_38 : decode cX8_kinds 38 = .ok (.invokevirtual 238, 3) := by decide +kernel
theorem dX8_kinds_41 : decode cX8_kinds 41 = .ok (.iconst 0, 1) := by decide +kernel
theorem dX8_kinds_42 : decode cX8_kinds 42 = .ok (.istore 5, 2) := by decide +kernel
theorem dX8_kinds_44 : decode cX8_kinds 44 = .ok (.iload_n 3, 1) := by decide +kernel
theorem dX8_kinds_45 : decode cX8_kinds 45 = .ok (.ifCond .ne 7, 3) := by decide +kernel
theorem dX8_kinds_48 : decode cX8_kinds 48 = .ok (.iconst 5, 1) := by decide +kernel
theorem dX8_kinds_49 : decode cX8_kinds 49 = .ok (.goto 15, 3) := by decide +kernel
theorem dX8_kinds_52 : decode cX8_kinds 52 = .ok (.iload_n 3, 1) := by decide +kernel
theorem dX8_kinds_53 : decode cX8_kinds 53 = .ok (.iconst 1, 1) := by decide +kernel
theorem dX8_kinds_54 : decode cX8_kinds 54 = .ok (.if_icmp .ne 8, 3) := by decide +kernel
theorem dX8_kinds_57 : decode cX8_kinds 57 = .ok (.bipush 9, 2) := by decide +kernel
theorem dX8_kinds_59 : decode cX8_kinds 59 = .ok (.goto 5, 3) := by decide +kernel
theorem dX8_kinds_62 : decode cX8_kinds 62 = .ok (.bipush 16, 2) := by decide +kernel
theorem dX8_kinds_64 : decode cX8_kinds 64 = .ok (.istore 6, 2) := by decide +kernel
theorem dX8_kinds_66 : decode cX8_kinds 66 = .ok (.iload_n 3, 1) := by decide +kernel
theorem dX8_kinds_67 : decode cX8_kinds 67 = .ok (.iconst 2, 1) := by decide +kernel
theorem dX8_kinds_68 : decode cX8_kinds 68 = .ok (.if_icmp .ne 7, 3) := by decide +kernel
theorem dX8_kinds_71 : decode cX8_kinds 71 = .ok (.iconst 1, 1) := by decide +kernel
theorem dX8_kinds_72 : decode cX8_kinds 72 = .ok (.goto 4, 3) := by decide +kernel
theorem dX8_kinds_75 : decode cX8_kinds 75 = .ok (.iconst 0, 1) := by decide +kernel
theorem dX8_kinds_76 : decode cX8_kinds 76 = .ok (.istore 7, 2) := by decide +kernel
theorem dX8_kinds_78 : decode cX8_kinds 78 = .ok (.iload 7, 2) := by decide +kernel
theorem dX8_kinds_80 : decode cX8_kinds 80 = .ok (.iload 6, 2) := by decide +kernel
theorem dX8_kinds_82 : decode cX8_kinds 82 = .ok (.if_icmp .gt 82, 3) := by decide +kernel
theorem dX8_kinds_85 : decode cX8_kinds 85 = .ok (.iload_n 3, 1) := by decide +kernel
theorem dX8_kinds_86 : decode cX8_kinds 86 = .ok (.ifCond .ne 15, 3) := by decide +kernel
theorem dX8_kinds_89 : decode cX8_kinds 89 = .ok (.aload_n 0, 1) := by decide +kernel
theorem dX8_kinds_90 : decode cX8_kinds 90 = .ok (.getfield 26, 3) := by decide +kernel
theorem dX8_kinds_93 : decode cX8_kinds 93 = .ok (.iload 7, 2) := by decide +kernel
theorem dX8_kinds_95 : decode cX8_kinds 95 = .ok (.putfield 191, 3) := by decide +kernel
theorem dX8_kinds_98 : decode cX8_kinds 98 = .ok (.goto 29, 3) := by decide +kernel
theorem dX8_kinds_101 : decode cX8_kinds 101 = .ok (.iload_n 3, 1) := by decide +kernel
theorem dX8_kinds_102 : decode cX8_kinds 102 = .ok (.iconst 1, 1) := by decide +kernel
theorem dX8_kinds_103 : decode cX8_kinds 103 = .ok (.if_icmp .ne 15, 3) := by decide +kernel
theorem dX8_kinds_106 : decode cX8_kinds 106 = .ok (.aload_n 0, 1) := by decide +kernel
theorem dX8_kinds_107 : decode cX8_kinds 107 = .ok (.getfield 26, 3) := by decide +kernel
theorem dX8_kinds_110 : decode cX8_kinds 110 = .ok (.iload 7, 2) := by decide +kernel
theorem dX8_kinds_112 : decode cX8_kinds 112 = .ok (.putfield 194, 3) := by decide +kernel
theorem dX8_kinds_115 : decode cX8_kinds 115 = .ok (.goto 12, 3) := by decide +kernel
theorem dX8_kinds_118 : decode cX8_kinds 118 = .ok (.aload_n 0, 1) := by decide +kernel
theorem dX8_kinds_119 : decode cX8_kinds 119 = .ok (.getfield 26, 3) := by decide +kernel
theorem dX8_kinds_122 : decode cX8_kinds 122 = .ok (.iload 7, 2) := by decide +kernel
theorem dX8_kinds_124 : decode cX8_kinds 124 = .ok (.putfield 197, 3) := by decide +kernel
theorem dX8_kinds_127 : decode cX8_kinds 127 = .ok (.aload_n 0, 1) := by decide +kernel
theorem dX8_kinds_128 : decode cX8_kinds 128 = .ok (.aload_n 0, 1) := by decide +kernel
theorem dX8_kinds_129 : decode cX8_kinds 129 = .ok (.getfield 63, 3) := by decide +kernel
theorem dX8_kinds_132 : decode cX8_kinds 132 = .ok (.iload_n 1, 1) := by decide +kernel
theorem dX8_kinds_133 : decode cX8_kinds 133 = .ok (.aaload, 1) := by decide +kernel
theorem dX8_kinds_134 : decode cX8_kinds 134 = .ok (.aload_n 0, 1) := by decide +kernel
theorem dX8_kinds_135 : decode cX8_kinds 135 = .ok (.getfield 26, 3) := by decide +kernel
theorem dX8_kinds_138 : decode cX8_kinds 138 = .ok (.aload_n 0, 1) := by decide +kernel
theorem dX8_kinds_139 : decode cX8_kinds 139 = .ok (.invokevirtual 170, 3) := by decide +kernel
theorem dX8_kinds_142 : decode cX8_kinds 142 = .ok (.invokevirtual 276, 3) := by decide +kernel
theorem dX8_kinds_145 : decode cX8_kinds 145 = .ok (.iconst (-1), 1) := by decide +kernel
theorem dX8_kinds_146 : decode cX8_kinds 146 = .ok (.if_icmp .ne 12, 3) := by decide +kernel
theorem dX8_kinds_149 : decode cX8_kinds 149 = .ok (.iload 5, 2) := by decide +kernel
theorem dX8_kinds_151 : decode cX8_kinds 151 = .ok (.iconst 1, 1) := by decide +kernel
theorem dX8_kinds_152 : decode cX8_kinds 152 = .ok (.iload 7, 2) := by decide +kernel
theorem dX8_kinds_154 : decode cX8_kinds 154 = .ok (.ishl, 1) := by decide +kernel
theorem dX8_kinds_155 : decode cX8_kinds 155 = .ok (.ior, 1) := by decide +kernel
theorem dX8_kinds_156 : decode cX8_kinds 156 = .ok (.istore 5, 2) := by decide +kernel
theorem dX8_kinds_158 : decode cX8_kinds 158 = .ok (.iinc 7 1, 3) := by decide +kernel
theorem dX8_kinds_161 : decode cX8_kinds 161 = .ok (.goto (-83), 3) := by decide +kernel
theorem dX8_kinds_164 : decode cX8_kinds 164 = .ok (.iload 5, 2) := by decide +kernel
theorem dX8_kinds_166 : decode cX8_kinds 166 = .ok (.ireturn, 1) := by decide +kernel
set_option maxRecDepth 20000 in
theorem ggX8_begins_X8_refusalOfSayings : GoodIn wsX8_begins wsX8_refusalOfSayings := goodIn_r _ [8, 9, 10, 11, 7, 12, 3, 13, 14, 15, 16, 17, 18, 19, 20, 21, 22, 23, 24, 25, 26, 138, 139, 140, 141, 142, 143, 144, 145, 146, 147, 148, 149, 150, 151, 152, 158, 159, 160] rfl (by decide +kernel)
set_option maxRecDepth 20000 in
theorem gX8_begins_X8_refusalOfSayings : GoodIn wsX8_begins (wsV RX8 273 RX8 yX8_refusalOfSayings wsX8_refusalOfSayings) := goodIn_app (goodIn_of _ (by decide +kernel)) ggX8_begins_X8_refusalOfSayings
set_option maxRecDepth 20000 in
theorem ggX8_begins_X0_become : GoodIn wsX8_begins wsX0_become := goodIn_r _ [30, 31, 32, 33, 34, 35, 153, 154, 155, 156, 157] rfl (by decide +kernel)
set_option maxRecDepth 20000 in
theorem gX8_begins_X0_become_n238 : GoodIn wsX8_begins (wsX0_become) := ggX8_begins_X0_become
set_option maxRecDepth 20000 in
theorem ggX8_begins_X8_lawText : GoodIn wsX8_begins wsX8_lawText := goodIn_r _ [39, 40, 41, 138, 139, 140, 141, 142, 143, 144, 145, 146, 147, 148, 149, 150, 151, 152] rfl (by decide +kernel)
set_option maxRecDepth 20000 in
theorem gX8_begins_X8_lawText : GoodIn wsX8_begins (wsV RX8 170 RX8 yX8_lawText wsX8_lawText) := goodIn_app (goodIn_of _ (by decide +kernel)) ggX8_begins_X8_lawText
set_option maxRecDepth 20000 in
theorem ggX8_begins_X8_firstUnlike : GoodIn wsX8_begins wsX8_firstUnlike := goodIn_r _ [45, 46, 47, 48, 7, 49, 50, 13, 51, 52, 53, 54, 55, 56, 57, 58, 59, 60, 61, 62, 63, 64, 65, 66, 67, 68, 69, 70, 71, 72, 73, 74, 75, 76, 28, 77, 78, 33, 79, 80, 81, 82, 83, 84, 85, 31, 32, 86, 87, 88, 89, 90, 91, 92, 93, 94, 95, 96, 97, 98, 99, 100, 101, 102, 103, 104, 105, 106, 107, 108, 109, 110, 111, 112, 113, 114, 115, 116, 117, 118, 119, 120, 121, 122, 123, 124, 125, 126, 127, 128, 129, 130, 131, 132, 133, 134, 135, 136, 137, 158, 159, 160, 138, 139, 140, 141, 142, 143, 144, 145, 146, 147, 148, 149, 150, 151, 152, 161, 162, 153, 154, 155, 156, 157, 163, 164, 165, 166, 167, 168, 169] rfl (by decide +kernel)
set_option maxRecDepth 20000 in
theorem gX8_begins_X8_firstUnlike : GoodIn wsX8_begins (wsV RX8 276 RX8 yX8_firstUnlike wsX8_firstUnlike) := goodIn_app (goodIn_of _ (by decide +kernel)) ggX8_begins_X8_firstUnlike
theorem dX8_begins_0 : decode cX8_begins 0 = .ok (.aload_n 0, 1) := by decide +kernel
theorem dX8_begins_1 : decode cX8_begins 1 = .ok (.iload_n 1, 1) := by decide +kernel
theorem dX8_begins_2 : decode cX8_begins 2 = .ok (.iload_n 2, 1) := by decide +kernel
theorem dX8_begins_3 : decode cX8_begins 3 = .ok (.invokevirtual 273, 3) := by decide +kernel
theorem dX8_begins_6 : decode cX8_begins 6 = .ok (.istore 4, 2) := by decide +kernel
theorem dX8_begins_8 : decode cX8_begins 8 = .ok (.iload 4, 2) := by decide +kernel
theorem dX8_begins_10 : decode cX8_begins 10 = .ok (.ifCond .eq 6, 3) := by decide +kernel
theorem dX8_begins_13 : decode cX8_begins 13 = .ok (.iload 4, 2) := by decide +kernel
theorem dX8_begins_15 : decode cX8_begins 15 = .ok (.ireturn, 1) := by decide +kernel
theorem dX8_begins_16 : decode cX8_begins 16 = .ok (.iload_n 3, 1) := by decide +kernel
theorem dX8_begins_17 : decode cX8_begins 17 = .ok (.ifCond .lt 8, 3) := by decide +kernel
theorem dX8_begins_20 : decode cX8_begins 20 = .ok (.iload_n 3, 1) := by decide +kernel
theorem dX8_begins_21 : decode cX8_begins 21 = .ok (.iconst 1, 1) := by decide +kernel
theorem dX8_begins_22 : decode cX8_begins 22 = .ok (.if_icmp .le 6, 3) := by decide +kernel
theorem dX8_begins_25 : decode cX8_begins 25 = .ok (.bipush (-7), 2) := by decide +kernel
theorem dX8_begins_27 : decode cX8_begins 27 = .ok (.ireturn, 1) := by decide +kernel
theorem dX8_begins_28 : decode cX8_begins 28 = .ok (.aload_n 0, 1) := by decide +kernel
theorem dX8_begins_29 : decode cX8_begins 29 = .ok (.getfield 26, 3) := by decide +kernel
theorem dX8_begins_32 : decode cX8_begins 32 = .ok (.aload_n 0, 1) := by decide +kernel
theorem dX8_begins_33 : decode cX8_begins 33 = .ok (.getfield 21, 3) := by decide +kernel
theorem dX8_begins_36 : decode cX8_begins 36 = .ok (.iload_n 2, 1) := by decide +kernel
theorem dX8_begins_37 : decode cX8_begins 37 = .ok (.aaload, 1) := by decide +kernel
theorem dX8_begins_38 : decode cX8_begins 38 = .ok (.invokevirtual 238, 3) := by decide +kernel
theorem dX8_begins_41 : decode cX8_begins 41 = .ok (.iconst 0, 1) := by decide +kernel
theorem dX8_begins_42 : decode cX8_begins 42 = .ok (.istore 5, 2) := by decide +kernel
theorem dX8_begins_44 : decode cX8_begins 44 = .ok (.iconst (-1), 1) := by decide +kernel
theorem dX8_begins_45 : decode cX8_begins 45 = .ok (.istore 6, 2) := by decide +kernel
theorem dX8_begins_47 : decode cX8_begins 47 = .ok (.iconst 0, 1) := by decide +kernel
theorem dX8_begins_48 : decode cX8_begins 48 = .ok (.istore 7, 2) := by decide +kernel
theorem dX8_begins_50 : decode cX8_begins 50 = .ok (.iload 7, 2) := by decide +kernel
theorem dX8_begins_52 : decode cX8_begins 52 = .ok (.sipush 200, 3) := by decide +kernel
theorem dX8_begins_55 : decode cX8_begins 55 = .ok (.if_icmp .gt 53, 3) := by decide +kernel
theorem dX8_begins_58 : decode cX8_begins 58 = .ok (.aload_n 0, 1) := by decide +kernel
theorem dX8_begins_59 : decode cX8_begins 59 = .ok (.getfield 26, 3) := by decide +kernel
theorem dX8_begins_62 : decode cX8_begins 62 = .ok (.iload 7, 2) := by decide +kernel
theorem dX8_begins_64 : decode cX8_begins 64 = .ok (.putfield 200, 3) := by decide +kernel
theorem dX8_begins_67 : decode cX8_begins 67 = .ok (.aload_n 0, 1) := by decide +kernel
theorem dX8_begins_68 : decode cX8_begins 68 = .ok (.aload_n 0, 1) := by decide +kernel
theorem dX8_begins_69 : decode cX8_begins 69 = .ok (.getfield 63, 3) := by decide +kernel
theorem dX8_begins_72 : decode cX8_begins 72 = .ok (.iload_n 1, 1) := by decide +kernel
theorem dX8_begins_73 : decode cX8_begins 73 = .ok (.aaload, 1) := by decide +kernel
theorem dX8_begins_74 : decode cX8_begins 74 = .ok (.aload_n 0, 1) := by decide +kernel
theorem dX8_begins_75 : decode cX8_begins 75 = .ok (.getfield 26, 3) := by decide +kernel
theorem dX8_begins_78 : decode cX8_begins 78 = .ok (.aload_n 0, 1) := by decide +kernel
theorem dX8_begins_79 : decode cX8_begins 79 = .ok (.invokevirtual 170, 3) := by decide +kernel
theorem dX8_begins_82 : decode cX8_begins 82 = .ok (.invokevirtual 276, 3) := by decide +kernel
theorem dX8_begins_85 : decode cX8_begins 85 = .ok (.iconst (-1), 1) := by decide +kernel
theorem dX8_begins_86 : decode cX8_begins 86 = .ok (.if_icmp .ne 16, 3) := by decide +kernel
theorem dX8_begins_89 : decode cX8_begins 89 = .ok (.iinc 5 1, 3) := by decide +kernel
theorem dX8_begins_92 : decode cX8_begins 92 = .ok (.iload 6, 2) := by decide +kernel
theorem dX8_begins_94 : decode cX8_begins 94 = .ok (.iconst (-1), 1) := by decide +kernel
theorem dX8_begins_95 : decode cX8_begins 95 = .ok (.if_icmp .ne 7, 3) := by decide +kernel
theorem dX8_begins_98 : decode cX8_begins 98 = .ok (.iload 7, 2) := by decide +kernel
theorem dX8_begins_100 : decode cX8_begins 100 = .ok (.istore 6, 2) := by decide +kernel
theorem dX8_begins_102 : decode cX8_begins 102 = .ok (.iinc 7 1, 3) := by decide +kernel
theorem dX8_begins_105 : decode cX8_begins 105 = .ok (.goto (-55), 3) := by decide +kernel
theorem dX8_begins_108 : decode cX8_begins 108 = .ok (.iload_n 3, 1) := by decide +kernel
theorem dX8_begins_109 : decode cX8_begins 109 = .ok (.ifCond .ne 8, 3) := by decide +kernel
theorem dX8_begins_112 : decode cX8_begins 112 = .ok (.iload 5, 2) := by decide +kernel
theorem dX8_begins_114 : decode cX8_begins 114 = .ok (.goto 5, 3) := by decide +kernel
theorem dX8_begins_117 : decode cX8_begins 117 = .ok (.iload 6, 2) := by decide +kernel
theorem dX8_begins_119 : decode cX8_begins 119 = .ok (.ireturn, 1) := by decide +kernel
set_option maxRecDepth 20000 in
theorem ggX8_laws_X8_refusalOfSayings : GoodIn wsX8_laws wsX8_refusalOfSayings := goodIn_r _ [9, 10, 11, 12, 8, 13, 2, 14, 15, 16, 17, 18, 19, 20, 21, 22, 23, 24, 25, 26, 27, 128, 129, 130, 131, 132, 133, 134, 135, 136, 137, 138, 139, 140, 141, 142, 143, 144, 145] rfl (by decide +kernel)
set_option maxRecDepth 20000 in
theorem gX8_laws_X8_refusalOfSayings : GoodIn wsX8_laws (wsV RX8 273 RX8 yX8_refusalOfSayings wsX8_refusalOfSayings) := goodIn_app (goodIn_of _ (by decide +kernel)) ggX8_laws_X8_refusalOfSayings
set_option maxRecDepth 20000 in
theorem ggX8_laws_X8_firstUnlike : GoodIn wsX8_laws wsX8_firstUnlike := goodIn_r _ [31, 32, 33, 34, 8, 35, 36, 14, 37, 38, 39, 40, 41, 42, 43, 44, 45, 46, 47, 48, 49, 50, 51, 52, 53, 54, 55, 56, 57, 58, 59, 60, 61, 62, 63, 64, 65, 66, 67, 68, 69, 70, 71, 72, 73, 74, 75, 76, 77, 78, 79, 80, 81, 82, 83, 84, 85, 86, 87, 88, 89, 90, 91, 92, 93, 94, 95, 96, 97, 98, 99, 100, 101, 102, 103, 104, 105, 106, 107, 108, 109, 110, 111, 112, 113, 114, 115, 116, 117, 118, 119, 120, 121, 122, 123, 124, 125, 126, 127, 143, 144, 145, 128, 129, 130, 131, 132, 133, 134, 135, 136, 137, 138, 139, 140, 141, 142, 146, 147, 148, 149, 150, 151, 152, 153, 154, 155, 156, 157, 158, 159] rfl (by decide +kernel)
set_option maxRecDepth 20000 in
theorem gX8_laws_X8_firstUnlike : GoodIn wsX8_laws (wsV RX8 276 RX8 yX8_firstUnlike wsX8_firstUnlike) := goodIn_app (goodIn_of _ (by decide +kernel)) ggX8_laws_X8_firstUnlike
theorem dX8_laws_0 : decode cX8_laws 0 = .ok (.aload_n 0, 1) := by decide +kernel
theorem dX8_laws_1 : decode cX8_laws 1 = .ok (.iload_n 1, 1) := by decide +kernel
theorem dX8_laws_2 : decode cX8_laws 2 = .ok (.iload_n 2, 1) := by decide +kernel
theorem dX8_laws_3 : decode cX8_laws 3 = .ok (.invokevirtual 273, 3) := by decide +kernel
theorem dX8_laws_6 : decode cX8_laws 6 = .ok (.istore_n 3, 1) := by decide +kernel
theorem dX8_laws_7 : decode cX8_laws 7 = .ok (.iload_n 3, 1) := by decide +kernel
theorem dX8_laws_8 : decode cX8_laws 8 = .ok (.ifCond .eq 5, 3) := by decide +kernel
theorem dX8_laws_11 : decode cX8_laws 11 = .ok (.iload_n 3, 1) := by decide +kernel
theorem dX8_laws_12 : decode cX8_laws 12 = .ok (.ireturn, 1) := by decide +kernel
theorem dX8_laws_13 : decode cX8_laws 13 = .ok (.iconst 0, 1) := by decide +kernel
theorem dX8_laws_14 : decode cX8_laws 14 = .ok (.istore 4, 2) := by decide +kernel
theorem dX8_laws_16 : decode cX8_laws 16 = .ok (.iconst 0, 1) := by decide +kernel
theorem dX8_laws_17 : decode cX8_laws 17 = .ok (.istore 5, 2) := by decide +kernel
theorem dX8_laws_19 : decode cX8_laws 19 = .ok (.iload 5, 2) := by decide +kernel
theorem dX8_laws_21 : decode cX8_laws 21 = .ok (.aload_n 0, 1) := by decide +kernel
theorem dX8_laws_22 : decode cX8_laws 22 = .ok (.getfield 81, 3) := by decide +kernel
theorem dX8_laws_25 : decode cX8_laws 25 = .ok (.if_icmp .ge 45, 3) := by decide +kernel
theorem dX8_laws_28 : decode cX8_laws 28 = .ok (.aload_n 0, 1) := by decide +kernel
theorem dX8_laws_29 : decode cX8_laws 29 = .ok (.aload_n 0, 1) := by decide +kernel
theorem dX8_laws_30 : decode cX8_laws 30 = .ok (.getfield 63, 3) := by decide +kernel
theorem dX8_laws_33 : decode cX8_laws 33 = .ok (.iload_n 1, 1) := by decide +kernel
theorem dX8_laws_34 : decode cX8_laws 34 = .ok (.aaload, 1) := by decide +kernel
theorem dX8_laws_35 : decode cX8_laws 35 = .ok (.aload_n 0, 1) := by decide +kernel
theorem dX8_laws_36 : decode cX8_laws 36 = .ok (.getfield 21, 3) := by decide +kernel
theorem dX8_laws_39 : decode cX8_laws 39 = .ok (.iload_n 2, 1) := by decide +kernel
theorem dX8_laws_40 : decode cX8_laws 40 = .ok (.aaload, 1) := by decide +kernel
theorem dX8_laws_41 : decode cX8_laws 41 = .ok (.aload_n 0, 1) := by decide +kernel
theorem dX8_laws_42 : decode cX8_laws 42 = .ok (.getfield 39, 3) := by decide +kernel
theorem dX8_laws_45 : decode cX8_laws 45 = .ok (.iload 5, 2) := by decide +kernel
theorem dX8_laws_47 : decode cX8_laws 47 = .ok (.aaload, 1) := by decide +kernel
theorem dX8_laws_48 : decode cX8_laws 48 = .ok (.invokevirtual 276, 3) := by decide +kernel
theorem dX8_laws_51 : decode cX8_laws 51 = .ok (.iconst (-1), 1) := by decide +kernel
theorem dX8_laws_52 : decode cX8_laws 52 = .ok (.if_icmp .ne 12, 3) := by decide +kernel
theorem dX8_laws_55 : decode cX8_laws 55 = .ok (.iload 4, 2) := by decide +kernel
theorem dX8_laws_57 : decode cX8_laws 57 = .ok (.iconst 1, 1) := by decide +kernel
theorem dX8_laws_58 : decode cX8_laws 58 = .ok (.iload 5, 2) := by decide +kernel
theorem dX8_laws_60 : decode cX8_laws 60 = .ok (.ishl, 1) := by decide +kernel
theorem dX8_laws_61 : decode cX8_laws 61 = .ok (.ior, 1) := by decide +kernel
theorem dX8_laws_62 : decode cX8_laws 62 = .ok (.istore 4, 2) := by decide +kernel
theorem dX8_laws_64 : decode cX8_laws 64 = .ok (.iinc 5 1, 3) := by decide +kernel
theorem dX8_laws_67 : decode cX8_laws 67 = .ok (.goto (-48), 3) := by decide +kernel
theorem dX8_laws_70 : decode cX8_laws 70 = .ok (.iload 4, 2) := by decide +kernel
theorem dX8_laws_72 : decode cX8_laws 72 = .ok (.ireturn, 1) := by decide +kernel
set_option maxRecDepth 20000 in
theorem ggX8_whose_X8_refusalOfSheet : GoodIn wsX8_whose wsX8_refusalOfSheet := goodIn_r _ [8, 2, 9, 10, 11, 7, 12, 13, 14, 15, 16, 17, 124, 125, 126, 127, 128, 129, 130, 131, 132, 133, 134, 135, 136, 137, 138, 139, 140, 141] rfl (by decide +kernel)
set_option maxRecDepth 20000 in
theorem gX8_whose_X8_refusalOfSheet : GoodIn wsX8_whose (wsV RX8 280 RX8 yX8_refusalOfSheet wsX8_refusalOfSheet) := goodIn_app (goodIn_of _ (by decide +kernel)) ggX8_whose_X8_refusalOfSheet
set_option maxRecDepth 20000 in
theorem ggX8_whose_X8_lawText : GoodIn wsX8_whose wsX8_lawText := goodIn_r _ [21, 22, 23, 124, 125, 126, 127, 128, 129, 130, 131, 132, 133, 134, 135, 136, 137, 138] rfl (by decide +kernel)
set_option maxRecDepth 20000 in
theorem gX8_whose_X8_lawText : GoodIn wsX8_whose (wsV RX8 170 RX8 yX8_lawText wsX8_lawText) := goodIn_app (goodIn_of _ (by decide +kernel)) ggX8_whose_X8_lawText
set_option maxRecDepth 20000 in
theorem ggX8_whose_X8_firstUnlike : GoodIn wsX8_whose wsX8_firstUnlike := goodIn_r _ [27, 28, 29, 30, 7, 31, 32, 9, 33, 34, 35, 36, 37, 38, 39, 40, 41, 42, 43, 44, 45, 46, 47, 48, 49, 50, 51, 52, 53, 54, 55, 56, 57, 58, 59, 60, 61, 62, 63, 64, 65, 66, 67, 68, 69, 70, 71, 72, 73, 74, 75, 76, 77, 78, 79, 80, 81, 82, 83, 84, 85, 86, 87, 88, 89, 90, 91, 92, 93, 94, 95, 96, 97, 98, 99, 100, 101, 102, 103, 104, 105, 106, 107, 108, 109, 110, 111, 112, 113, 114, 115, 116, 117, 118, 119, 120, 121, 122, 123, 139, 140, 141, 124, 125, 126, 127, 128, 129, 130, 131, 132, 133, 134, 135, 136, 137, 138, 142, 143, 144, 145, 146, 147, 148, 149, 150, 151, 152, 153, 154, 155] rfl (by decide +kernel)
set_option maxRecDepth 20000 in
theorem gX8_whose_X8_firstUnlike : GoodIn wsX8_whose (wsV RX8 276 RX8 yX8_firstUnlike wsX8_firstUnlike) := goodIn_app (goodIn_of _ (by decide +kernel)) ggX8_whose_X8_firstUnlike
theorem dX8_whose_0 : decode cX8_whose 0 = .ok (.aload_n 0, 1) := by decide +kernel
theorem dX8_whose_1 : decode cX8_whose 1 = .ok (.iload_n 1, 1) := by decide +kernel
theorem dX8_whose_2 : decode cX8_whose 2 = .ok (.invokevirtual 280, 3) := by decide +kernel
theorem dX8_whose_5 : decode cX8_whose 5 = .ok (.istore_n 2, 1) := by decide +kernel
theorem dX8_whose_6 : decode cX8_whose 6 = .ok (.iload_n 2, 1) := by decide +kernel
theorem dX8_whose_7 : decode cX8_whose 7 = .ok (.ifCond .eq 5, 3) := by decide +kernel
theorem dX8_whose_10 : decode cX8_whose 10 = .ok (.iload_n 2, 1) := by decide +kernel
theorem dX8_whose_11 : decode cX8_whose 11 = .ok (.ireturn, 1) := by decide +kernel
theorem dX8_whose_12 : decode cX8_whose 12 = .ok (.iconst 0, 1) := by decide +kernel
theorem dX8_whose_13 : decode cX8_whose 13 = .ok (.istore_n 3, 1) := by decide +kernel
theorem dX8_whose_14 : decode cX8_whose 14 = .ok (.iconst 0, 1) := by decide +kernel
theorem dX8_whose_15 : decode cX8_whose 15 = .ok (.istore 4, 2) := by decide +kernel
theorem dX8_whose_17 : decode cX8_whose 17 = .ok (.iload 4, 2) := by decide +kernel
theorem dX8_whose_19 : decode cX8_whose 19 = .ok (.aload_n 0, 1) := by decide +kernel
theorem dX8_whose_20 : decode cX8_whose 20 = .ok (.getfield 78, 3) := by decide +kernel
theorem dX8_whose_23 : decode cX8_whose 23 = .ok (.if_icmp .ge 41, 3) := by decide +kernel
theorem dX8_whose_26 : decode cX8_whose 26 = .ok (.aload_n 0, 1) := by decide +kernel
theorem dX8_whose_27 : decode cX8_whose 27 = .ok (.aload_n 0, 1) := by decide +kernel
theorem dX8_whose_28 : decode cX8_whose 28 = .ok (.getfield 63, 3) := by decide +kernel
theorem dX8_whose_31 : decode cX8_whose 31 = .ok (.iload_n 1, 1) := by decide +kernel
theorem dX8_whose_32 : decode cX8_whose 32 = .ok (.aaload, 1) := by decide +kernel
theorem dX8_whose_33 : decode cX8_whose 33 = .ok (.aload_n 0, 1) := by decide +kernel
theorem dX8_whose_34 : decode cX8_whose 34 = .ok (.getfield 21, 3) := by decide +kernel
theorem dX8_whose_37 : decode cX8_whose 37 = .ok (.iload 4, 2) := by decide +kernel
theorem dX8_whose_39 : decode cX8_whose 39 = .ok (.aaload, 1) := by decide +kernel
theorem dX8_whose_40 : decode cX8_whose 40 = .ok (.aload_n 0, 1) := by decide +kernel
theorem dX8_whose_41 : decode cX8_whose 41 = .ok (.invokevirtual 170, 3) := by decide +kernel
theorem dX8_whose_44 : decode cX8_whose 44 = .ok (.invokevirtual 276, 3) := by decide +kernel
theorem dX8_whose_47 : decode cX8_whose 47 = .ok (.iconst (-1), 1) := by decide +kernel
theorem dX8_whose_48 : decode cX8_whose 48 = .ok (.if_icmp .ne 10, 3) := by decide +kernel
theorem dX8_whose_51 : decode cX8_whose 51 = .ok (.iload_n 3, 1) := by decide +kernel
theorem dX8_whose_52 : decode cX8_whose 52 = .ok (.iconst 1, 1) := by decide +kernel
theorem dX8_whose_53 : decode cX8_whose 53 = .ok (.iload 4, 2) := by decide +kernel
theorem dX8_whose_55 : decode cX8_whose 55 = .ok (.ishl, 1) := by decide +kernel
theorem dX8_whose_56 : decode cX8_whose 56 = .ok (.ior, 1) := by decide +kernel
theorem dX8_whose_57 : decode cX8_whose 57 = .ok (.istore_n 3, 1) := by decide +kernel
theorem dX8_whose_58 : decode cX8_whose 58 = .ok (.iinc 4 1, 3) := by decide +kernel
theorem dX8_whose_61 : decode cX8_whose 61 = .ok (.goto (-44), 3) := by decide +kernel
theorem dX8_whose_64 : decode cX8_whose 64 = .ok (.iload_n 3, 1) := by decide +kernel
theorem dX8_whose_65 : decode cX8_whose 65 = .ok (.ireturn, 1) := by decide +kernel
set_option maxRecDepth 20000 in
theorem ggX8_film_X8_isSheet : GoodIn wsX8_film wsX8_isSheet := goodIn_r _ [7] rfl (by decide +kernel)
set_option maxRecDepth 20000 in
theorem gX8_film_X8_isSheet : GoodIn wsX8_film (va_wsS RX8 283 yX8_isSheet wsX8_isSheet) := goodIn_app (goodIn_of _ (by decide +kernel)) ggX8_film_X8_isSheet
set_option maxRecDepth 20000 in
theorem ggX8_film_X8_isHead : GoodIn wsX8_film wsX8_isHead := goodIn_r _ [11, 12, 131, 132, 133, 134, 135, 136, 137, 138, 139, 140, 141, 142, 143, 144, 145] rfl (by decide +kernel)
set_option maxRecDepth 20000 in
theorem gX8_film_X8_isHead : GoodIn wsX8_film (wsV RX8 206 RX8 yX8_isHead wsX8_isHead) := goodIn_app (goodIn_of _ (by decide +kernel)) ggX8_film_X8_isHead
set_option maxRecDepth 20000 in
theorem ggX8_film_X5_become : GoodIn wsX8_film wsX5_become := goodIn_r _ [16, 17, 18, 19, 20, 21, 22, 23, 24, 25, 26, 146, 147, 148] rfl (by decide +kernel)
set_option maxRecDepth 20000 in
theorem gX8_film_X5_become_n286 : GoodIn wsX8_film (wsX5_become) := ggX8_film_X5_become
set_option maxRecDepth 20000 in
theorem ggX8_film_X8_lawText : GoodIn wsX8_film wsX8_lawText := goodIn_r _ [30, 31, 32, 131, 132, 133, 134, 135, 136, 137, 138, 139, 140, 141, 142, 143, 144, 145] rfl (by decide +kernel)
set_option maxRecDepth 20000 in
theorem gX8_film_X8_lawText : GoodIn wsX8_film (wsV RX8 170 RX8 yX8_lawText wsX8_lawText) := goodIn_app (goodIn_of _ (by decide +kernel)) ggX8_film_X8_lawText
set_option maxRecDepth 20000 in
theorem ggX8_film_X8_saysBut : GoodIn wsX8_film wsX8_saysBut := goodIn_r _ [36, 37, 1, 38, 39, 40, 41, 42, 43, 44, 45, 46, 47, 48, 49, 50, 51, 52, 53, 54, 55, 56, 57, 58, 59, 60, 61, 62, 63, 64, 65, 66, 67, 68, 69, 70, 71, 72, 73, 74, 75, 76, 77, 78, 79, 80, 81, 82, 83, 84, 85, 86, 87, 88, 89, 90, 91, 92, 93, 94, 95, 96, 97, 98, 99, 100, 101, 102, 103, 104, 105, 106, 107, 108, 109, 110, 111, 112, 113, 114, 115, 116, 117, 118, 119, 120, 121, 122, 19, 20, 21, 123, 23, 24, 131, 132, 133, 134, 135, 136, 137, 138, 139, 140, 141, 142, 143, 144, 145, 149, 150, 151, 152, 153, 154, 155, 156, 157, 158, 159, 160, 161, 162] rfl (by decide +kernel)
set_option maxRecDepth 20000 in
theorem gX8_film_X8_saysBut : GoodIn wsX8_film (wsV RX8 234 RX8 yX8_saysBut wsX8_saysBut) := goodIn_app (goodIn_of _ (by decide +kernel)) ggX8_film_X8_saysBut
set_option maxRecDepth 20000 in
theorem ggX8_film_X5_put : GoodIn wsX8_film wsX5_put := goodIn_r _ [126, 26, 17, 127, 128, 129, 14, 130, 25, 146, 147, 148] rfl (by decide +kernel)
set_option maxRecDepth 20000 in
theorem gX8_film_X5_put_n288 : GoodIn wsX8_film (wsX5_put) := ggX8_film_X5_put
theorem dX8_film_0 : decode cX8_film 0 = .ok (.iload_n 1, 1) := by decide +kernel
theorem dX8_film_1 : decode cX8_film 1 = .ok (.invokestatic 283, 3) := by decide +kernel
theorem dX8_film_4 : decode cX8_film 4 = .ok (.ifCond .ne 6, 3) := by decide +kernel
theorem dX8_film_7 : decode cX8_film 7 = .ok (.bipush (-2), 2) := by decide +kernel
theorem dX8_film_9 : decode cX8_film 9 = .ok (.ireturn, 1) := by decide +kernel
theorem dX8_film_10 : decode cX8_film 10 = .ok (.aload_n 0, 1) := by decide +kernel
theorem dX8_film_11 : decode cX8_film 11 = .ok (.iload_n 2, 1) := by decide +kernel
theorem dX8_film_12 : decode cX8_film 12 = .ok (.invokevirtual 206, 3) := by decide +kernel
theorem dX8_film_15 : decode cX8_film 15 = .ok (.ifCond .ne 6, 3) := by decide +kernel
theorem dX8_film_18 : decode cX8_film 18 = .ok (.bipush (-5), 2) := by decide +kernel
theorem dX8_film_20 : decode cX8_film 20 = .ok (.ireturn, 1) := by decide +kernel
theorem dX8_film_21 : decode cX8_film 21 = .ok (.iload_n 3, 1) := by decide +kernel
theorem dX8_film_22 : decode cX8_film 22 = .ok (.ifCond .lt 17, 3) := by decide +kernel
theorem dX8_film_25 : decode cX8_film 25 = .ok (.iload_n 3, 1) := by decide +kernel
theorem dX8_film_26 : decode cX8_film 26 = .ok (.aload_n 0, 1) := by decide +kernel
theorem dX8_film_27 : decode cX8_film 27 = .ok (.getfield 74, 3) := by decide +kernel
theorem dX8_film_30 : decode cX8_film 30 = .ok (.if_icmp .gt 9, 3) := by decide +kernel
theorem dX8_film_33 : decode cX8_film 33 = .ok (.iload_n 3, 1) := by decide +kernel
theorem dX8_film_34 : decode cX8_film 34 = .ok (.bipush 40, 2) := by decide +kernel
theorem dX8_film_36 : decode cX8_film 36 = .ok (.if_icmp .le 6, 3) := by decide +kernel
theorem dX8_film_39 : decode cX8_film 39 = .ok (.bipush (-7), 2) := by decide +kernel
theorem dX8_film_41 : decode cX8_film 41 = .ok (.ireturn, 1) := by decide +kernel
theorem dX8_film_42 : decode cX8_film 42 = .ok (.aload_n 0, 1) := by decide +kernel
theorem dX8_film_43 : decode cX8_film 43 = .ok (.getfield 63, 3) := by decide +kernel
theorem dX8_film_46 : decode cX8_film 46 = .ok (.iload_n 1, 1) := by decide +kernel
theorem dX8_film_47 : decode cX8_film 47 = .ok (.aaload, 1) := by decide +kernel
theorem dX8_film_48 : decode cX8_film 48 = .ok (.iconst 2, 1) := by decide +kernel
theorem dX8_film_49 : decode cX8_film 49 = .ok (.iload_n 3, 1) := by decide +kernel
theorem dX8_film_50 : decode cX8_film 50 = .ok (.invokevirtual 286, 3) := by decide +kernel
theorem dX8_film_53 : decode cX8_film 53 = .ok (.iconst 0, 1) := by decide +kernel
theorem dX8_film_54 : decode cX8_film 54 = .ok (.istore 4, 2) := by decide +kernel
theorem dX8_film_56 : decode cX8_film 56 = .ok (.iload 4, 2) := by decide +kernel
theorem dX8_film_58 : decode cX8_film 58 = .ok (.iload_n 3, 1) := by decide +kernel
theorem dX8_film_59 : decode cX8_film 59 = .ok (.if_icmp .ge 39, 3) := by decide +kernel
theorem dX8_film_62 : decode cX8_film 62 = .ok (.aload_n 0, 1) := by decide +kernel
theorem dX8_film_63 : decode cX8_film 63 = .ok (.getfield 63, 3) := by decide +kernel
theorem dX8_film_66 : decode cX8_film 66 = .ok (.iload_n 1, 1) := by decide +kernel
theorem dX8_film_67 : decode cX8_film 67 = .ok (.aaload, 1) := by decide +kernel
theorem dX8_film_68 : decode cX8_film 68 = .ok (.iload 4, 2) := by decide +kernel
theorem dX8_film_70 : decode cX8_film 70 = .ok (.aload_n 0, 1) := by decide +kernel
theorem dX8_film_71 : decode cX8_film 71 = .ok (.iload 4, 2) := by decide +kernel
theorem dX8_film_73 : decode cX8_film 73 = .ok (.iconst 1, 1) := by decide +kernel
theorem dX8_film_74 : decode cX8_film 74 = .ok (.iadd, 1) := by decide +kernel
theorem dX8_film_75 : decode cX8_film 75 = .ok (.iconst 0, 1) := by decide +kernel
theorem dX8_film_76 : decode cX8_film 76 = .ok (.aload_n 0, 1) := by decide +kernel
theorem dX8_film_77 : decode cX8_film 77 = .ok (.getfield 21, 3) := by decide +kernel
theorem dX8_film_80 : decode cX8_film 80 = .ok (.iload_n 2, 1) := by decide +kernel
theorem dX8_film_81 : decode cX8_film 81 = .ok (.aaload, 1) := by decide +kernel
theorem dX8_film_82 : decode cX8_film 82 = .ok (.aload_n 0, 1) := by decide +kernel
theorem dX8_film_83 : decode cX8_film 83 = .ok (.invokevirtual 170, 3) := by decide +kernel
theorem dX8_film_86 : decode cX8_film 86 = .ok (.invokevirtual 234, 3) := by decide +kernel
theorem dX8_film_89 : decode cX8_film 89 = .ok (.invokevirtual 288, 3) := by decide +kernel
theorem dX8_film_92 : decode cX8_film 92 = .ok (.iinc 4 1, 3) := by decide +kernel
theorem dX8_film_95 : decode cX8_film 95 = .ok (.goto (-39), 3) := by decide +kernel
theorem dX8_film_98 : decode cX8_film 98 = .ok (.iload_n 3, 1) := by decide +kernel
theorem dX8_film_99 : decode cX8_film 99 = .ok (.ireturn, 1) := by decide +kernel
set_option maxRecDepth 20000 in
theorem ggX8_drawn_X8_isHead : GoodIn wsX8_drawn wsX8_isHead := goodIn_r _ [9, 10, 139, 140, 141, 142, 143, 144, 145, 146, 147, 148, 149, 150, 151, 152, 153] rfl (by decide +kernel)
set_option maxRecDepth 20000 in
theorem gX8_drawn_X8_isHead : GoodIn wsX8_drawn (wsV RX8 206 RX8 yX8_isHead wsX8_isHead) := goodIn_app (goodIn_of _ (by decide +kernel)) ggX8_drawn_X8_isHead
set_option maxRecDepth 20000 in
theorem ggX8_drawn_X8_isSeed : GoodIn wsX8_drawn wsX8_isSeed := goodIn_r _ [13, 14] rfl (by decide +kernel)
set_option maxRecDepth 20000 in
theorem gX8_drawn_X8_isSeed : GoodIn wsX8_drawn (va_wsS RX8 291 yX8_isSeed wsX8_isSeed) := goodIn_app (goodIn_of _ (by decide +kernel)) ggX8_drawn_X8_isSeed
set_option maxRecDepth 20000 in
theorem ggX8_drawn_X8_drawTrialRow : GoodIn wsX8_drawn wsX8_drawTrialRow := goodIn_r _ [18, 19, 20, 4, 21, 22, 23, 24, 25, 26, 27, 28, 29, 30, 31, 32, 33, 34, 35, 36, 37, 38, 39, 40, 41, 42, 43, 44, 45, 46, 47, 139, 140, 141, 142, 143, 144, 145, 146, 147, 148, 149, 150, 151, 152, 153, 154, 155, 156] rfl (by decide +kernel)
set_option maxRecDepth 20000 in
theorem gX8_drawn_X8_drawTrialRow : GoodIn wsX8_drawn (wsV RX8 294 RX8 yX8_drawTrialRow wsX8_drawTrialRow) := goodIn_app (goodIn_of _ (by decide +kernel)) ggX8_drawn_X8_drawTrialRow
set_option maxRecDepth 20000 in
theorem ggX8_drawn_X8_saysOf : GoodIn wsX8_drawn wsX8_saysOf := goodIn_r _ [51, 52, 20, 53, 54, 55, 8, 56, 57, 58, 59, 60, 61, 62, 63, 64, 65, 66, 67, 68, 69, 70, 71, 72, 73, 74, 75, 76, 77, 78, 79, 80, 81, 82, 83, 84, 85, 86, 87, 88, 89, 90, 91, 92, 93, 94, 95, 96, 97, 98, 99, 100, 101, 102, 103, 104, 105, 106, 107, 108, 109, 110, 111, 112, 113, 114, 115, 116, 117, 118, 119, 120, 121, 122, 123, 124, 125, 126, 127, 128, 129, 130, 131, 132, 133, 134, 135, 136, 137, 138, 139, 140, 141, 142, 143, 144, 145, 146, 147, 148, 149, 150, 151, 152, 153, 154, 155, 157, 158, 159, 160, 161, 162, 163, 164, 165, 166, 167, 168] rfl (by decide +kernel)
set_option maxRecDepth 20000 in
theorem gX8_drawn_X8_saysOf : GoodIn wsX8_drawn (wsV RX8 213 RX8 yX8_saysOf wsX8_saysOf) := goodIn_app (goodIn_of _ (by decide +kernel)) ggX8_drawn_X8_saysOf
theorem dX8_drawn_0 : decode cX8_drawn 0 = .ok (.aload_n 0, 1) := by decide +kernel
theorem dX8_drawn_1 : decode cX8_drawn 1 = .ok (.iload_n 2, 1) := by decide +kernel
theorem dX8_drawn_2 : decode cX8_drawn 2 = .ok (.invokevirtual 206, 3) := by decide +kernel
theorem dX8_drawn_5 : decode cX8_drawn 5 = .ok (.ifCond .ne 6, 3) := by decide +kernel
theorem dX8_drawn_8 : decode cX8_drawn 8 = .ok (.ldc 217, 2) := by decide +kernel
theorem dX8_drawn_10 : decode cX8_drawn 10 = .ok (.ireturn, 1) := by decide +kernel
theorem dX8_drawn_11 : decode cX8_drawn 11 = .ok (.iload_n 1, 1) := by decide +kernel
theorem dX8_drawn_12 : decode cX8_drawn 12 = .ok (.invokestatic 291, 3) := by decide +kernel
theorem dX8_drawn_15 : decode cX8_drawn 15 = .ok (.ifCond .eq 12, 3) := by decide +kernel
theorem dX8_drawn_18 : decode cX8_drawn 18 = .ok (.iload_n 3, 1) := by decide +kernel
theorem dX8_drawn_19 : decode cX8_drawn 19 = .ok (.ifCond .lt 8, 3) := by decide +kernel
theorem dX8_drawn_22 : decode cX8_drawn 22 = .ok (.iload_n 3, 1) := by decide +kernel
theorem dX8_drawn_23 : decode cX8_drawn 23 = .ok (.iconst 1, 1) := by decide +kernel
theorem dX8_drawn_24 : decode cX8_drawn 24 = .ok (.if_icmp .le 7, 3) := by decide +kernel
theorem dX8_drawn_27 : decode cX8_drawn 27 = .ok (.ldc_w 267, 3) := by decide +kernel
theorem dX8_drawn_30 : decode cX8_drawn 30 = .ok (.ireturn, 1) := by decide +kernel
theorem dX8_drawn_31 : decode cX8_drawn 31 = .ok (.aload_n 0, 1) := by decide +kernel
theorem dX8_drawn_32 : decode cX8_drawn 32 = .ok (.iload_n 1, 1) := by decide +kernel
theorem dX8_drawn_33 : decode cX8_drawn 33 = .ok (.invokevirtual 294, 3) := by decide +kernel
theorem dX8_drawn_36 : decode cX8_drawn 36 = .ok (.istore 4, 2) := by decide +kernel
theorem dX8_drawn_38 : decode cX8_drawn 38 = .ok (.iload_n 3, 1) := by decide +kernel
theorem dX8_drawn_39 : decode cX8_drawn 39 = .ok (.ifCond .ne 8, 3) := by decide +kernel
theorem dX8_drawn_42 : decode cX8_drawn 42 = .ok (.iload 4, 2) := by decide +kernel
theorem dX8_drawn_44 : decode cX8_drawn 44 = .ok (.goto 17, 3) := by decide +kernel
theorem dX8_drawn_47 : decode cX8_drawn 47 = .ok (.aload_n 0, 1) := by decide +kernel
theorem dX8_drawn_48 : decode cX8_drawn 48 = .ok (.aload_n 0, 1) := by decide +kernel
theorem dX8_drawn_49 : decode cX8_drawn 49 = .ok (.getfield 21, 3) := by decide +kernel
theorem dX8_drawn_52 : decode cX8_drawn 52 = .ok (.iload_n 2, 1) := by decide +kernel
theorem dX8_drawn_53 : decode cX8_drawn 53 = .ok (.aaload, 1) := by decide +kernel
theorem dX8_drawn_54 : decode cX8_drawn 54 = .ok (.aload_n 0, 1) := by decide +kernel
theorem dX8_drawn_55 : decode cX8_drawn 55 = .ok (.getfield 16, 3) := by decide +kernel
theorem dX8_drawn_58 : decode cX8_drawn 58 = .ok (.invokevirtual 213, 3) := by decide +kernel
theorem dX8_drawn_61 : decode cX8_drawn 61 = .ok (.ireturn, 1) := by decide +kernel
set_option maxRecDepth 20000 in
theorem ggX8_odds_X8_isSeed : GoodIn wsX8_odds wsX8_isSeed := goodIn_r _ [7, 8] rfl (by decide +kernel)
set_option maxRecDepth 20000 in
theorem gX8_odds_X8_isSeed : GoodIn wsX8_odds (va_wsS RX8 291 yX8_isSeed wsX8_isSeed) := goodIn_app (goodIn_of _ (by decide +kernel)) ggX8_odds_X8_isSeed
set_option maxRecDepth 20000 in
theorem ggX8_odds_X8_isHead : GoodIn wsX8_odds wsX8_isHead := goodIn_r _ [12, 13, 141, 142, 143, 144, 145, 146, 147, 148, 149, 150, 151, 152, 153, 154, 155] rfl (by decide +kernel)
set_option maxRecDepth 20000 in
theorem gX8_odds_X8_isHead : GoodIn wsX8_odds (wsV RX8 206 RX8 yX8_isHead wsX8_isHead) := goodIn_app (goodIn_of _ (by decide +kernel)) ggX8_odds_X8_isHead
set_option maxRecDepth 20000 in
theorem ggX8_odds_X8_drawTrialRow : GoodIn wsX8_odds wsX8_drawTrialRow := goodIn_r _ [17, 18, 19, 3, 20, 21, 22, 23, 24, 25, 26, 27, 28, 29, 30, 31, 32, 33, 34, 35, 36, 37, 38, 39, 40, 41, 42, 43, 44, 45, 46, 141, 142, 143, 144, 145, 146, 147, 148, 149, 150, 151, 152, 153, 154, 155, 156, 157, 158] rfl (by decide +kernel)
set_option maxRecDepth 20000 in
theorem gX8_odds_X8_drawTrialRow : GoodIn wsX8_odds (wsV RX8 294 RX8 yX8_drawTrialRow wsX8_drawTrialRow) := goodIn_app (goodIn_of _ (by decide +kernel)) ggX8_odds_X8_drawTrialRow
set_option maxRecDepth 20000 in
theorem ggX8_odds_X8_saysOf : GoodIn wsX8_odds wsX8_saysOf := goodIn_r _ [50, 51, 19, 52, 53, 54, 6, 55, 56, 57, 58, 59, 60, 61, 62, 63, 64, 65, 66, 67, 68, 69, 70, 71, 72, 73, 74, 75, 76, 77, 78, 79, 80, 81, 82, 83, 84, 85, 86, 87, 88, 89, 90, 91, 92, 93, 94, 95, 96, 97, 98, 99, 100, 101, 102, 103, 104, 105, 106, 107, 108, 109, 110, 111, 112, 113, 114, 115, 116, 117, 118, 119, 120, 121, 122, 123, 124, 125, 126, 127, 128, 129, 130, 131, 132, 133, 134, 135, 136, 137, 141, 142, 143, 144, 145, 146, 147, 148, 149, 150, 151, 152, 153, 154, 155, 156, 157, 159, 160, 161, 162, 163, 164, 165, 166, 167, 168, 169, 170] rfl (by decide +kernel)
set_option maxRecDepth 20000 in
theorem gX8_odds_X8_saysOf : GoodIn wsX8_odds (wsV RX8 213 RX8 yX8_saysOf wsX8_saysOf) := goodIn_app (goodIn_of _ (by decide +kernel)) ggX8_odds_X8_saysOf
set_option maxRecDepth 20000 in
theorem ggX8_odds_X8_commonDivisor : GoodIn wsX8_odds wsX8_commonDivisor := goodIn_r _ [140] rfl (by decide +kernel)
set_option maxRecDepth 20000 in
theorem gX8_odds_X8_commonDivisor : GoodIn wsX8_odds (va_wsS RX8 297 yX8_commonDivisor wsX8_commonDivisor) := goodIn_app (goodIn_of _ (by decide +kernel)) ggX8_odds_X8_commonDivisor
theorem dX8_odds_0 : decode cX8_odds 0 = .ok (.iload_n 1, 1) := by decide +kernel
theorem dX8_odds_1 : decode cX8_odds 1 = .ok (.invokestatic 291, 3) := by decide +kernel
theorem dX8_odds_4 : decode cX8_odds 4 = .ok (.ifCond .eq 33, 3) := by decide +kernel
theorem dX8_odds_7 : decode cX8_odds 7 = .ok (.iload_n 2, 1) := by decide +kernel
theorem dX8_odds_8 : decode cX8_odds 8 = .ok (.iconst 1, 1) := by decide +kernel
theorem dX8_odds_9 : decode cX8_odds 9 = .ok (.if_icmp .lt 28, 3) := by decide +kernel
theorem dX8_odds_12 : decode cX8_odds 12 = .ok (.iload_n 2, 1) := by decide +kernel
theorem dX8_odds_13 : decode cX8_odds 13 = .ok (.bipush 30, 2) := by decide +kernel
theorem dX8_odds_15 : decode cX8_odds 15 = .ok (.if_icmp .gt 22, 3) := by decide +kernel
theorem dX8_odds_18 : decode cX8_odds 18 = .ok (.aload_n 0, 1) := by decide +kernel
theorem dX8_odds_19 : decode cX8_odds 19 = .ok (.iload_n 3, 1) := by decide +kernel
theorem dX8_odds_20 : decode cX8_odds 20 = .ok (.invokevirtual 206, 3) := by decide +kernel
theorem dX8_odds_23 : decode cX8_odds 23 = .ok (.ifCond .eq 14, 3) := by decide +kernel
theorem dX8_odds_26 : decode cX8_odds 26 = .ok (.iload 4, 2) := by decide +kernel
theorem dX8_odds_28 : decode cX8_odds 28 = .ok (.ifCond .lt 9, 3) := by decide +kernel
theorem dX8_odds_31 : decode cX8_odds 31 = .ok (.iload 4, 2) := by decide +kernel
theorem dX8_odds_33 : decode cX8_odds 33 = .ok (.iconst 1, 1) := by decide +kernel
theorem dX8_odds_34 : decode cX8_odds 34 = .ok (.if_icmp .le 7, 3) := by decide +kernel
theorem dX8_odds_37 : decode cX8_odds 37 = .ok (.ldc2_w 232, 3) := by decide +kernel
theorem dX8_odds_40 : decode cX8_odds 40 = .ok (.lreturn, 1) := by decide +kernel
theorem dX8_odds_41 : decode cX8_odds 41 = .ok (.iconst 0, 1) := by decide +kernel
theorem dX8_odds_42 : decode cX8_odds 42 = .ok (.istore 5, 2) := by decide +kernel
theorem dX8_odds_44 : decode cX8_odds 44 = .ok (.iconst 0, 1) := by decide +kernel
theorem dX8_odds_45 : decode cX8_odds 45 = .ok (.istore 6, 2) := by decide +kernel
theorem dX8_odds_47 : decode cX8_odds 47 = .ok (.iload 6, 2) := by decide +kernel
theorem dX8_odds_49 : decode cX8_odds 49 = .ok (.iload_n 2, 1) := by decide +kernel
theorem dX8_odds_50 : decode cX8_odds 50 = .ok (.if_icmp .ge 41, 3) := by decide +kernel
theorem dX8_odds_53 : decode cX8_odds 53 = .ok (.aload_n 0, 1) := by decide +kernel
theorem dX8_odds_54 : decode cX8_odds 54 = .ok (.iload_n 1, 1) := by decide +kernel
theorem dX8_odds_55 : decode cX8_odds 55 = .ok (.iload 6, 2) := by decide +kernel
theorem dX8_odds_57 : decode cX8_odds 57 = .ok (.iadd, 1) := by decide +kernel
theorem dX8_odds_58 : decode cX8_odds 58 = .ok (.invokevirtual 294, 3) := by decide +kernel
theorem dX8_odds_61 : decode cX8_odds 61 = .ok (.istore 7, 2) := by decide +kernel
theorem dX8_odds_63 : decode cX8_odds 63 = .ok (.aload_n 0, 1) := by decide +kernel
theorem dX8_odds_64 : decode cX8_odds 64 = .ok (.aload_n 0, 1) := by decide +kernel
theorem dX8_odds_65 : decode cX8_odds 65 = .ok (.getfield 21, 3) := by decide +kernel
theorem dX8_odds_68 : decode cX8_odds 68 = .ok (.iload_n 3, 1) := by decide +kernel
theorem dX8_odds_69 : decode cX8_odds 69 = .ok (.aaload, 1) := by decide +kernel
theorem dX8_odds_70 : decode cX8_odds 70 = .ok (.aload_n 0, 1) := by decide +kernel
theorem dX8_odds_71 : decode cX8_odds 71 = .ok (.getfield 16, 3) := by decide +kernel
theorem dX8_odds_74 : decode cX8_odds 74 = .ok (.invokevirtual 213, 3) := by decide +kernel
theorem dX8_odds_77 : decode cX8_odds 77 = .ok (.iload 7, 2) := by decide +kernel
theorem dX8_odds_79 : decode cX8_odds 79 = .ok (.if_icmp .ne 6, 3) := by decide +kernel
theorem dX8_odds_82 : decode cX8_odds 82 = .ok (.iinc 5 1, 3) := by decide +kernel
theorem dX8_odds_85 : decode cX8_odds 85 = .ok (.iinc 6 1, 3) := by decide +kernel
theorem dX8_odds_88 : decode cX8_odds 88 = .ok (.goto (-41), 3) := by decide +kernel
theorem dX8_odds_91 : decode cX8_odds 91 = .ok (.iload 5, 2) := by decide +kernel
theorem dX8_odds_93 : decode cX8_odds 93 = .ok (.iload_n 2, 1) := by decide +kernel
theorem dX8_odds_94 : decode cX8_odds 94 = .ok (.invokestatic 297, 3) := by decide +kernel
theorem dX8_odds_97 : decode cX8_odds 97 = .ok (.istore 6, 2) := by decide +kernel
theorem dX8_odds_99 : decode cX8_odds 99 = .ok (.iload 4, 2) := by decide +kernel
theorem dX8_odds_101 : decode cX8_odds 101 = .ok (.ifCond .ne 12, 3) := by decide +kernel
theorem dX8_odds_104 : decode cX8_odds 104 = .ok (.iload 5, 2) := by decide +kernel
theorem dX8_odds_106 : decode cX8_odds 106 = .ok (.iload 6, 2) := by decide +kernel
theorem dX8_odds_108 : decode cX8_odds 108 = .ok (.idiv, 1) := by decide +kernel
theorem dX8_odds_109 : decode cX8_odds 109 = .ok (.i2l, 1) := by decide +kernel
theorem dX8_odds_110 : decode cX8_odds 110 = .ok (.goto 8, 3) := by decide +kernel
theorem dX8_odds_113 : decode cX8_odds 113 = .ok (.iload_n 2, 1) := by decide +kernel
theorem dX8_odds_114 : decode cX8_odds 114 = .ok (.iload 6, 2) := by decide +kernel
theorem dX8_odds_116 : decode cX8_odds 116 = .ok (.idiv, 1) := by decide +kernel
theorem dX8_odds_117 : decode cX8_odds 117 = .ok (.i2l, 1) := by decide +kernel
theorem dX8_odds_118 : decode cX8_odds 118 = .ok (.lreturn, 1) := by decide +kernel
set_option maxRecDepth 20000 in
theorem ggX8_image_X4_become : GoodIn wsX8_image wsX4_become := goodIn_r _ [10, 11, 12, 13, 14, 15, 8, 16, 47, 48] rfl (by decide +kernel)
set_option maxRecDepth 20000 in
theorem gX8_image_X4_become_n250 : GoodIn wsX8_image (wsX4_become) := ggX8_image_X4_become
set_option maxRecDepth 20000 in
theorem ggX8_image_X0_become : GoodIn wsX8_image wsX0_become := goodIn_r _ [20, 21, 22, 23, 24, 25, 49, 50, 51, 52, 53] rfl (by decide +kernel)
set_option maxRecDepth 20000 in
theorem gX8_image_X0_become_n238 : GoodIn wsX8_image (wsX0_become) := ggX8_image_X0_become
theorem dX8_image_0 : decode cX8_image 0 = .ok (.aload_n 0, 1) := by decide +kernel
theorem dX8_image_1 : decode cX8_image 1 = .ok (.getfield 70, 3) := by decide +kernel
theorem dX8_image_4 : decode cX8_image 4 = .ok (.iconst 1, 1) := by decide +kernel
theorem dX8_image_5 : decode cX8_image 5 = .ok (.putfield 300, 3) := by decide +kernel
theorem dX8_image_8 : decode cX8_image 8 = .ok (.aload_n 0, 1) := by decide +kernel
theorem dX8_image_9 : decode cX8_image 9 = .ok (.getfield 70, 3) := by decide +kernel
theorem dX8_image_12 : decode cX8_image 12 = .ok (.aload_n 0, 1) := by decide +kernel
theorem dX8_image_13 : decode cX8_image 13 = .ok (.getfield 74, 3) := by decide +kernel
theorem dX8_image_16 : decode cX8_image 16 = .ok (.putfield 304, 3) := by decide +kernel
theorem dX8_image_19 : decode cX8_image 19 = .ok (.aload_n 0, 1) := by decide +kernel
theorem dX8_image_20 : decode cX8_image 20 = .ok (.getfield 70, 3) := by decide +kernel
theorem dX8_image_23 : decode cX8_image 23 = .ok (.aload_n 0, 1) := by decide +kernel
theorem dX8_image_24 : decode cX8_image 24 = .ok (.getfield 78, 3) := by decide +kernel
theorem dX8_image_27 : decode cX8_image 27 = .ok (.putfield 305, 3) := by decide +kernel
theorem dX8_image_30 : decode cX8_image 30 = .ok (.aload_n 0, 1) := by decide +kernel
theorem dX8_image_31 : decode cX8_image 31 = .ok (.getfield 70, 3) := by decide +kernel
theorem dX8_image_34 : decode cX8_image 34 = .ok (.aload_n 0, 1) := by decide +kernel
theorem dX8_image_35 : decode cX8_image 35 = .ok (.getfield 84, 3) := by decide +kernel
theorem dX8_image_38 : decode cX8_image 38 = .ok (.putfield 306, 3) := by decide +kernel
theorem dX8_image_41 : decode cX8_image 41 = .ok (.aload_n 0, 1) := by decide +kernel
theorem dX8_image_42 : decode cX8_image 42 = .ok (.getfield 70, 3) := by decide +kernel
theorem dX8_image_45 : decode cX8_image 45 = .ok (.getfield 307, 3) := by decide +kernel
theorem dX8_image_48 : decode cX8_image 48 = .ok (.aload_n 0, 1) := by decide +kernel
theorem dX8_image_49 : decode cX8_image 49 = .ok (.getfield 10, 3) := by decide +kernel
theorem dX8_image_52 : decode cX8_image 52 = .ok (.invokevirtual 250, 3) := by decide +kernel
theorem dX8_image_55 : decode cX8_image 55 = .ok (.iconst 0, 1) := by decide +kernel
theorem dX8_image_56 : decode cX8_image 56 = .ok (.istore_n 1, 1) := by decide +kernel
theorem dX8_image_57 : decode cX8_image 57 = .ok (.iload_n 1, 1) := by decide +kernel
theorem dX8_image_58 : decode cX8_image 58 = .ok (.aload_n 0, 1) := by decide +kernel
theorem dX8_image_59 : decode cX8_image 59 = .ok (.getfield 78, 3) := by decide +kernel
theorem dX8_image_62 : decode cX8_image 62 = .ok (.if_icmp .ge 27, 3) := by decide +kernel
theorem dX8_image_65 : decode cX8_image 65 = .ok (.aload_n 0, 1) := by decide +kernel
theorem dX8_image_66 : decode cX8_image 66 = .ok (.getfield 70, 3) := by decide +kernel
theorem dX8_image_69 : decode cX8_image 69 = .ok (.getfield 308, 3) := by decide +kernel
theorem dX8_image_72 : decode cX8_image 72 = .ok (.iload_n 1, 1) := by decide +kernel
theorem dX8_image_73 : decode cX8_image 73 = .ok (.aaload, 1) := by decide +kernel
theorem dX8_image_74 : decode cX8_image 74 = .ok (.aload_n 0, 1) := by decide +kernel
theorem dX8_image_75 : decode cX8_image 75 = .ok (.getfield 21, 3) := by decide +kernel
theorem dX8_image_78 : decode cX8_image 78 = .ok (.iload_n 1, 1) := by decide +kernel
theorem dX8_image_79 : decode cX8_image 79 = .ok (.aaload, 1) := by decide +kernel
theorem dX8_image_80 : decode cX8_image 80 = .ok (.invokevirtual 238, 3) := by decide +kernel
theorem dX8_image_83 : decode cX8_image 83 = .ok (.iinc 1 1, 3) := by decide +kernel
theorem dX8_image_86 : decode cX8_image 86 = .ok (.goto (-29), 3) := by decide +kernel
theorem dX8_image_89 : decode cX8_image 89 = .ok (.aload_n 0, 1) := by decide +kernel
theorem dX8_image_90 : decode cX8_image 90 = .ok (.getfield 78, 3) := by decide +kernel
theorem dX8_image_93 : decode cX8_image 93 = .ok (.ireturn, 1) := by decide +kernel
set_option maxRecDepth 20000 in
theorem ggX8_back_X4_become : GoodIn wsX8_back wsX4_become := goodIn_r _ [10, 11, 12, 13, 14, 15, 8, 16, 47, 48] rfl (by decide +kernel)
set_option maxRecDepth 20000 in
theorem gX8_back_X4_become_n250 : GoodIn wsX8_back (wsX4_become) := ggX8_back_X4_become
set_option maxRecDepth 20000 in
theorem ggX8_back_X0_become : GoodIn wsX8_back wsX0_become := goodIn_r _ [20, 21, 22, 23, 24, 25, 49, 50, 51, 52, 53] rfl (by decide +kernel)
set_option maxRecDepth 20000 in
theorem gX8_back_X0_become_n238 : GoodIn wsX8_back (wsX0_become) := ggX8_back_X0_become
theorem dX8_back_0 : decode cX8_back 0 = .ok (.aload_n 0, 1) := by decide +kernel
theorem dX8_back_1 : decode cX8_back 1 = .ok (.getfield 70, 3) := by decide +kernel
theorem dX8_back_4 : decode cX8_back 4 = .ok (.getfield 300, 3) := by decide +kernel
theorem dX8_back_7 : decode cX8_back 7 = .ok (.ifCond .ne 6, 3) := by decide +kernel
theorem dX8_back_10 : decode cX8_back 10 = .ok (.bipush (-3), 2) := by decide +kernel
theorem dX8_back_12 : decode cX8_back 12 = .ok (.ireturn, 1) := by decide +kernel
theorem dX8_back_13 : decode cX8_back 13 = .ok (.aload_n 0, 1) := by decide +kernel
theorem dX8_back_14 : decode cX8_back 14 = .ok (.aload_n 0, 1) := by decide +kernel
theorem dX8_back_15 : decode cX8_back 15 = .ok (.getfield 70, 3) := by decide +kernel
theorem dX8_back_18 : decode cX8_back 18 = .ok (.getfield 304, 3) := by decide +kernel
theorem dX8_back_21 : decode cX8_back 21 = .ok (.putfield 74, 3) := by decide +kernel
theorem dX8_back_24 : decode cX8_back 24 = .ok (.aload_n 0, 1) := by decide +kernel
theorem dX8_back_25 : decode cX8_back 25 = .ok (.aload_n 0, 1) := by decide +kernel
theorem dX8_back_26 : decode cX8_back 26 = .ok (.getfield 70, 3) := by decide +kernel
theorem dX8_back_29 : decode cX8_back 29 = .ok (.getfield 305, 3) := by decide +kernel
theorem dX8_back_32 : decode cX8_back 32 = .ok (.putfield 78, 3) := by decide +kernel
theorem dX8_back_35 : decode cX8_back 35 = .ok (.aload_n 0, 1) := by decide +kernel
theorem dX8_back_36 : decode cX8_back 36 = .ok (.aload_n 0, 1) := by decide +kernel
theorem dX8_back_37 : decode cX8_back 37 = .ok (.getfield 70, 3) := by decide +kernel
theorem dX8_back_40 : decode cX8_back 40 = .ok (.getfield 306, 3) := by decide +kernel
theorem dX8_back_43 : decode cX8_back 43 = .ok (.putfield 84, 3) := by decide +kernel
theorem dX8_back_46 : decode cX8_back 46 = .ok (.aload_n 0, 1) := by decide +kernel
theorem dX8_back_47 : decode cX8_back 47 = .ok (.getfield 10, 3) := by decide +kernel
theorem dX8_back_50 : decode cX8_back 50 = .ok (.aload_n 0, 1) := by decide +kernel
theorem dX8_back_51 : decode cX8_back 51 = .ok (.getfield 70, 3) := by decide +kernel
theorem dX8_back_54 : decode cX8_back 54 = .ok (.getfield 307, 3) := by decide +kernel
theorem dX8_back_57 : decode cX8_back 57 = .ok (.invokevirtual 250, 3) := by decide +kernel
theorem dX8_back_60 : decode cX8_back 60 = .ok (.iconst 0, 1) := by decide +kernel
theorem dX8_back_61 : decode cX8_back 61 = .ok (.istore_n 1, 1) := by decide +kernel
theorem dX8_back_62 : decode cX8_back 62 = .ok (.iload_n 1, 1) := by decide +kernel
theorem dX8_back_63 : decode cX8_back 63 = .ok (.aload_n 0, 1) := by decide +kernel
theorem dX8_back_64 : decode cX8_back 64 = .ok (.getfield 78, 3) := by decide +kernel
theorem dX8_back_67 : decode cX8_back 67 = .ok (.if_icmp .ge 27, 3) := by decide +kernel
theorem dX8_back_70 : decode cX8_back 70 = .ok (.aload_n 0, 1) := by decide +kernel
theorem dX8_back_71 : decode cX8_back 71 = .ok (.getfield 21, 3) := by decide +kernel
theorem dX8_back_74 : decode cX8_back 74 = .ok (.iload_n 1, 1) := by decide +kernel
theorem dX8_back_75 : decode cX8_back 75 = .ok (.aaload, 1) := by decide +kernel
theorem dX8_back_76 : decode cX8_back 76 = .ok (.aload_n 0, 1) := by decide +kernel
theorem dX8_back_77 : decode cX8_back 77 = .ok (.getfield 70, 3) := by decide +kernel
theorem dX8_back_80 : decode cX8_back 80 = .ok (.getfield 308, 3) := by decide +kernel
theorem dX8_back_83 : decode cX8_back 83 = .ok (.iload_n 1, 1) := by decide +kernel
theorem dX8_back_84 : decode cX8_back 84 = .ok (.aaload, 1) := by decide +kernel
theorem dX8_back_85 : decode cX8_back 85 = .ok (.invokevirtual 238, 3) := by decide +kernel
theorem dX8_back_88 : decode cX8_back 88 = .ok (.iinc 1 1, 3) := by decide +kernel
theorem dX8_back_91 : decode cX8_back 91 = .ok (.goto (-29), 3) := by decide +kernel
theorem dX8_back_94 : decode cX8_back 94 = .ok (.aload_n 0, 1) := by decide +kernel
theorem dX8_back_95 : decode cX8_back 95 = .ok (.getfield 78, 3) := by decide +kernel
theorem dX8_back_98 : decode cX8_back 98 = .ok (.ireturn, 1) := by decide +kernel
set_option maxRecDepth 20000 in
theorem ggX8_sheet_X8_isSheet : GoodIn wsX8_sheet wsX8_isSheet := goodIn_r _ [5] rfl (by decide +kernel)
set_option maxRecDepth 20000 in
theorem gX8_sheet_X8_isSheet : GoodIn wsX8_sheet (va_wsS RX8 283 yX8_isSheet wsX8_isSheet) := goodIn_app (goodIn_of _ (by decide +kernel)) ggX8_sheet_X8_isSheet
set_option maxRecDepth 20000 in
theorem ggX8_sheet_X5_become : GoodIn wsX8_sheet wsX5_become := goodIn_r _ [9, 10, 11, 12, 13, 14, 15, 16, 17, 18, 19, 35, 36, 37] rfl (by decide +kernel)
set_option maxRecDepth 20000 in
theorem gX8_sheet_X5_become_n286 : GoodIn wsX8_sheet (wsX5_become) := ggX8_sheet_X5_become
theorem dX8_sheet_0 : decode cX8_sheet 0 = .ok (.iload_n 1, 1) := by decide +kernel
theorem dX8_sheet_1 : decode cX8_sheet 1 = .ok (.invokestatic 283, 3) := by decide +kernel
theorem dX8_sheet_4 : decode cX8_sheet 4 = .ok (.ifCond .eq 24, 3) := by decide +kernel
theorem dX8_sheet_7 : decode cX8_sheet 7 = .ok (.iload_n 2, 1) := by decide +kernel
theorem dX8_sheet_8 : decode cX8_sheet 8 = .ok (.iconst (-1), 1) := by decide +kernel
theorem dX8_sheet_9 : decode cX8_sheet 9 = .ok (.if_icmp .lt 19, 3) := by decide +kernel
theorem dX8_sheet_12 : decode cX8_sheet 12 = .ok (.iload_n 2, 1) := by decide +kernel
theorem dX8_sheet_13 : decode cX8_sheet 13 = .ok (.iconst 2, 1) := by decide +kernel
theorem dX8_sheet_14 : decode cX8_sheet 14 = .ok (.if_icmp .gt 14, 3) := by decide +kernel
theorem dX8_sheet_17 : decode cX8_sheet 17 = .ok (.iload_n 2, 1) := by decide +kernel
theorem dX8_sheet_18 : decode cX8_sheet 18 = .ok (.iconst (-1), 1) := by decide +kernel
theorem dX8_sheet_19 : decode cX8_sheet 19 = .ok (.if_icmp .eq 12, 3) := by decide +kernel
theorem dX8_sheet_22 : decode cX8_sheet 22 = .ok (.iload_n 3, 1) := by decide +kernel
theorem dX8_sheet_23 : decode cX8_sheet 23 = .ok (.bipush 40, 2) := by decide +kernel
theorem dX8_sheet_25 : decode cX8_sheet 25 = .ok (.if_icmp .le 6, 3) := by decide +kernel
theorem dX8_sheet_28 : decode cX8_sheet 28 = .ok (.bipush (-2), 2) := by decide +kernel
theorem dX8_sheet_30 : decode cX8_sheet 30 = .ok (.ireturn, 1) := by decide +kernel
theorem dX8_sheet_31 : decode cX8_sheet 31 = .ok (.iload_n 2, 1) := by decide +kernel
theorem dX8_sheet_32 : decode cX8_sheet 32 = .ok (.iconst (-1), 1) := by decide +kernel
theorem dX8_sheet_33 : decode cX8_sheet 33 = .ok (.if_icmp .eq 10, 3) := by decide +kernel
theorem dX8_sheet_36 : decode cX8_sheet 36 = .ok (.iload_n 3, 1) := by decide +kernel
theorem dX8_sheet_37 : decode cX8_sheet 37 = .ok (.ifCond .ge 6, 3) := by decide +kernel
theorem dX8_sheet_40 : decode cX8_sheet 40 = .ok (.bipush (-14), 2) := by decide +kernel
theorem dX8_sheet_42 : decode cX8_sheet 42 = .ok (.ireturn, 1) := by decide +kernel
theorem dX8_sheet_43 : decode cX8_sheet 43 = .ok (.aload_n 0, 1) := by decide +kernel
theorem dX8_sheet_44 : decode cX8_sheet 44 = .ok (.getfield 63, 3) := by decide +kernel
theorem dX8_sheet_47 : decode cX8_sheet 47 = .ok (.iload_n 1, 1) := by decide +kernel
theorem dX8_sheet_48 : decode cX8_sheet 48 = .ok (.aaload, 1) := by decide +kernel
theorem dX8_sheet_49 : decode cX8_sheet 49 = .ok (.iload_n 2, 1) := by decide +kernel
theorem dX8_sheet_50 : decode cX8_sheet 50 = .ok (.iload_n 2, 1) := by decide +kernel
theorem dX8_sheet_51 : decode cX8_sheet 51 = .ok (.iconst (-1), 1) := by decide +kernel
theorem dX8_sheet_52 : decode cX8_sheet 52 = .ok (.if_icmp .ne 7, 3) := by decide +kernel
theorem dX8_sheet_55 : decode cX8_sheet 55 = .ok (.iconst 0, 1) := by decide +kernel
theorem dX8_sheet_56 : decode cX8_sheet 56 = .ok (.goto 4, 3) := by decide +kernel
theorem dX8_sheet_59 : decode cX8_sheet 59 = .ok (.iload_n 3, 1) := by decide +kernel
theorem dX8_sheet_60 : decode cX8_sheet 60 = .ok (.invokevirtual 286, 3) := by decide +kernel
theorem dX8_sheet_63 : decode cX8_sheet 63 = .ok (.iconst 1, 1) := by decide +kernel
theorem dX8_sheet_64 : decode cX8_sheet 64 = .ok (.ireturn, 1) := by decide +kernel
set_option maxRecDepth 20000 in
theorem ggX8_cell_X8_isSheet : GoodIn wsX8_cell wsX8_isSheet := goodIn_r _ [5] rfl (by decide +kernel)
set_option maxRecDepth 20000 in
theorem gX8_cell_X8_isSheet : GoodIn wsX8_cell (va_wsS RX8 283 yX8_isSheet wsX8_isSheet) := goodIn_app (goodIn_of _ (by decide +kernel)) ggX8_cell_X8_isSheet
set_option maxRecDepth 20000 in
theorem ggX8_cell_X5_isMissing : GoodIn wsX8_cell wsX5_isMissing := goodIn_r _ [9, 10, 35, 36, 37] rfl (by decide +kernel)
set_option maxRecDepth 20000 in
theorem gX8_cell_X5_isMissing_n309 : GoodIn wsX8_cell (wsX5_isMissing) := ggX8_cell_X5_isMissing
set_option maxRecDepth 20000 in
theorem ggX8_cell_X5_has : GoodIn wsX8_cell wsX5_has := goodIn_r _ [13, 14, 35, 36, 37] rfl (by decide +kernel)
set_option maxRecDepth 20000 in
theorem gX8_cell_X5_has_n313 : GoodIn wsX8_cell (wsX5_has) := ggX8_cell_X5_has
set_option maxRecDepth 20000 in
theorem ggX8_cell_X5_put : GoodIn wsX8_cell wsX5_put := goodIn_r _ [17, 18, 10, 19, 11, 12, 7, 13, 14, 35, 36, 37] rfl (by decide +kernel)
set_option maxRecDepth 20000 in
theorem gX8_cell_X5_put_n288 : GoodIn wsX8_cell (wsX5_put) := ggX8_cell_X5_put
theorem dX8_cell_0 : decode cX8_cell 0 = .ok (.iload_n 1, 1) := by decide +kernel
theorem dX8_cell_1 : decode cX8_cell 1 = .ok (.invokestatic 283, 3) := by decide +kernel
theorem dX8_cell_4 : decode cX8_cell 4 = .ok (.ifCond .ne 6, 3) := by decide +kernel
theorem dX8_cell_7 : decode cX8_cell 7 = .ok (.bipush (-2), 2) := by decide +kernel
theorem dX8_cell_9 : decode cX8_cell 9 = .ok (.ireturn, 1) := by decide +kernel
theorem dX8_cell_10 : decode cX8_cell 10 = .ok (.aload_n 0, 1) := by decide +kernel
theorem dX8_cell_11 : decode cX8_cell 11 = .ok (.getfield 63, 3) := by decide +kernel
theorem dX8_cell_14 : decode cX8_cell 14 = .ok (.iload_n 1, 1) := by decide +kernel
theorem dX8_cell_15 : decode cX8_cell 15 = .ok (.aaload, 1) := by decide +kernel
theorem dX8_cell_16 : decode cX8_cell 16 = .ok (.invokevirtual 309, 3) := by decide +kernel
theorem dX8_cell_19 : decode cX8_cell 19 = .ok (.ifCond .eq 6, 3) := by decide +kernel
theorem dX8_cell_22 : decode cX8_cell 22 = .ok (.bipush (-11), 2) := by decide +kernel
theorem dX8_cell_24 : decode cX8_cell 24 = .ok (.ireturn, 1) := by decide +kernel
theorem dX8_cell_25 : decode cX8_cell 25 = .ok (.aload_n 0, 1) := by decide +kernel
theorem dX8_cell_26 : decode cX8_cell 26 = .ok (.getfield 63, 3) := by decide +kernel
theorem dX8_cell_29 : decode cX8_cell 29 = .ok (.iload_n 1, 1) := by decide +kernel
theorem dX8_cell_30 : decode cX8_cell 30 = .ok (.aaload, 1) := by decide +kernel
theorem dX8_cell_31 : decode cX8_cell 31 = .ok (.iload_n 2, 1) := by decide +kernel
theorem dX8_cell_32 : decode cX8_cell 32 = .ok (.invokevirtual 313, 3) := by decide +kernel
theorem dX8_cell_35 : decode cX8_cell 35 = .ok (.ifCond .ne 6, 3) := by decide +kernel
theorem dX8_cell_38 : decode cX8_cell 38 = .ok (.bipush (-12), 2) := by decide +kernel
theorem dX8_cell_40 : decode cX8_cell 40 = .ok (.ireturn, 1) := by decide +kernel
theorem dX8_cell_41 : decode cX8_cell 41 = .ok (.aload_n 0, 1) := by decide +kernel
theorem dX8_cell_42 : decode cX8_cell 42 = .ok (.getfield 63, 3) := by decide +kernel
theorem dX8_cell_45 : decode cX8_cell 45 = .ok (.iload_n 1, 1) := by decide +kernel
theorem dX8_cell_46 : decode cX8_cell 46 = .ok (.aaload, 1) := by decide +kernel
theorem dX8_cell_47 : decode cX8_cell 47 = .ok (.iload_n 2, 1) := by decide +kernel
theorem dX8_cell_48 : decode cX8_cell 48 = .ok (.iload_n 3, 1) := by decide +kernel
theorem dX8_cell_49 : decode cX8_cell 49 = .ok (.invokevirtual 288, 3) := by decide +kernel
theorem dX8_cell_52 : decode cX8_cell 52 = .ok (.iconst 1, 1) := by decide +kernel
theorem dX8_cell_53 : decode cX8_cell 53 = .ok (.ireturn, 1) := by decide +kernel
set_option maxRecDepth 20000 in
theorem ggX8_copy_X8_isSheet : GoodIn wsX8_copy wsX8_isSheet := goodIn_r _ [9] rfl (by decide +kernel)
set_option maxRecDepth 20000 in
theorem gX8_copy_X8_isSheet : GoodIn wsX8_copy (va_wsS RX8 283 yX8_isSheet wsX8_isSheet) := goodIn_app (goodIn_of _ (by decide +kernel)) ggX8_copy_X8_isSheet
set_option maxRecDepth 20000 in
theorem ggX8_copy_X5_isMissing : GoodIn wsX8_copy wsX5_isMissing := goodIn_r _ [13, 14, 34, 35, 36] rfl (by decide +kernel)
set_option maxRecDepth 20000 in
theorem gX8_copy_X5_isMissing_n309 : GoodIn wsX8_copy (wsX5_isMissing) := ggX8_copy_X5_isMissing
set_option maxRecDepth 20000 in
theorem ggX8_copy_X5_hasRun : GoodIn wsX8_copy wsX5_hasRun := goodIn_r _ [17, 18, 34, 35, 36] rfl (by decide +kernel)
set_option maxRecDepth 20000 in
theorem gX8_copy_X5_hasRun_n317 : GoodIn wsX8_copy (wsX5_hasRun) := ggX8_copy_X5_hasRun
theorem dX8_copy_0 : decode cX8_copy 0 = .ok (.iload_n 1, 1) := by decide +kernel
theorem dX8_copy_1 : decode cX8_copy 1 = .ok (.invokestatic 283, 3) := by decide +kernel
theorem dX8_copy_4 : decode cX8_copy 4 = .ok (.ifCond .eq 10, 3) := by decide +kernel
theorem dX8_copy_7 : decode cX8_copy 7 = .ok (.iload_n 3, 1) := by decide +kernel
theorem dX8_copy_8 : decode cX8_copy 8 = .ok (.invokestatic 283, 3) := by decide +kernel
theorem dX8_copy_11 : decode cX8_copy 11 = .ok (.ifCond .ne 6, 3) := by decide +kernel
theorem dX8_copy_14 : decode cX8_copy 14 = .ok (.bipush (-2), 2) := by decide +kernel
theorem dX8_copy_16 : decode cX8_copy 16 = .ok (.ireturn, 1) := by decide +kernel
theorem dX8_copy_17 : decode cX8_copy 17 = .ok (.aload_n 0, 1) := by decide +kernel
theorem dX8_copy_18 : decode cX8_copy 18 = .ok (.getfield 63, 3) := by decide +kernel
theorem dX8_copy_21 : decode cX8_copy 21 = .ok (.iload_n 1, 1) := by decide +kernel
theorem dX8_copy_22 : decode cX8_copy 22 = .ok (.aaload, 1) := by decide +kernel
theorem dX8_copy_23 : decode cX8_copy 23 = .ok (.astore 6, 2) := by decide +kernel
theorem dX8_copy_25 : decode cX8_copy 25 = .ok (.aload_n 0, 1) := by decide +kernel
theorem dX8_copy_26 : decode cX8_copy 26 = .ok (.getfield 63, 3) := by decide +kernel
theorem dX8_copy_29 : decode cX8_copy 29 = .ok (.iload_n 3, 1) := by decide +kernel
theorem dX8_copy_30 : decode cX8_copy 30 = .ok (.aaload, 1) := by decide +kernel
theorem dX8_copy_31 : decode cX8_copy 31 = .ok (.astore 7, 2) := by decide +kernel
theorem dX8_copy_33 : decode cX8_copy 33 = .ok (.aload 6, 2) := by decide +kernel
theorem dX8_copy_35 : decode cX8_copy 35 = .ok (.invokevirtual 309, 3) := by decide +kernel
theorem dX8_copy_38 : decode cX8_copy 38 = .ok (.ifCond .ne 11, 3) := by decide +kernel
theorem dX8_copy_41 : decode cX8_copy 41 = .ok (.aload 7, 2) := by decide +kernel
theorem dX8_copy_43 : decode cX8_copy 43 = .ok (.invokevirtual 309, 3) := by decide +kernel
theorem dX8_copy_46 : decode cX8_copy 46 = .ok (.ifCond .eq 6, 3) := by decide +kernel
theorem dX8_copy_49 : decode cX8_copy 49 = .ok (.bipush (-11), 2) := by decide +kernel
theorem dX8_copy_51 : decode cX8_copy 51 = .ok (.ireturn, 1) := by decide +kernel
theorem dX8_copy_52 : decode cX8_copy 52 = .ok (.aload 6, 2) := by decide +kernel
theorem dX8_copy_54 : decode cX8_copy 54 = .ok (.getfield 314, 3) := by decide +kernel
theorem dX8_copy_57 : decode cX8_copy 57 = .ok (.aload 7, 2) := by decide +kernel
theorem dX8_copy_59 : decode cX8_copy 59 = .ok (.getfield 314, 3) := by decide +kernel
theorem dX8_copy_62 : decode cX8_copy 62 = .ok (.if_icmp .eq 6, 3) := by decide +kernel
theorem dX8_copy_65 : decode cX8_copy 65 = .ok (.bipush (-13), 2) := by decide +kernel
theorem dX8_copy_67 : decode cX8_copy 67 = .ok (.ireturn, 1) := by decide +kernel
theorem dX8_copy_68 : decode cX8_copy 68 = .ok (.aload 6, 2) := by decide +kernel
theorem dX8_copy_70 : decode cX8_copy 70 = .ok (.iload_n 2, 1) := by decide +kernel
theorem dX8_copy_71 : decode cX8_copy 71 = .ok (.iload 5, 2) := by decide +kernel
theorem dX8_copy_73 : decode cX8_copy 73 = .ok (.invokevirtual 317, 3) := by decide +kernel
theorem dX8_copy_76 : decode cX8_copy 76 = .ok (.ifCond .eq 15, 3) := by decide +kernel
theorem dX8_copy_79 : decode cX8_copy 79 = .ok (.aload 7, 2) := by decide +kernel
theorem dX8_copy_81 : decode cX8_copy 81 = .ok (.iload 4, 2) := by decide +kernel
theorem dX8_copy_83 : decode cX8_copy 83 = .ok (.iload 5, 2) := by decide +kernel
theorem dX8_copy_85 : decode cX8_copy 85 = .ok (.invokevirtual 317, 3) := by decide +kernel
theorem dX8_copy_88 : decode cX8_copy 88 = .ok (.ifCond .ne 6, 3) := by decide +kernel
theorem dX8_copy_91 : decode cX8_copy 91 = .ok (.bipush (-12), 2) := by decide +kernel
theorem dX8_copy_93 : decode cX8_copy 93 = .ok (.ireturn, 1) := by decide +kernel
theorem dX8_copy_94 : decode cX8_copy 94 = .ok (.aload 6, 2) := by decide +kernel
theorem dX8_copy_96 : decode cX8_copy 96 = .ok (.getfield 321, 3) := by decide +kernel
theorem dX8_copy_99 : decode cX8_copy 99 = .ok (.iload_n 2, 1) := by decide +kernel
theorem dX8_copy_100 : decode cX8_copy 100 = .ok (.aload 7, 2) := by decide +kernel
theorem dX8_copy_102 : decode cX8_copy 102 = .ok (.getfield 321, 3) := by decide +kernel
theorem dX8_copy_105 : decode cX8_copy 105 = .ok (.iload 4, 2) := by decide +kernel
theorem dX8_copy_107 : decode cX8_copy 107 = .ok (.iload 5, 2) := by decide +kernel
theorem dX8_copy_109 : decode cX8_copy 109 = .ok (.invokestatic 324, 3) := by decide +kernel
theorem dX8_copy_112 : decode cX8_copy 112 = .ok (.iload 5, 2) := by decide +kernel
theorem dX8_copy_114 : decode cX8_copy 114 = .ok (.ireturn, 1) := by decide +kernel
set_option maxRecDepth 20000 in
theorem ggX8_cardsBy_X8_isSheet : GoodIn wsX8_cardsBy wsX8_isSheet := goodIn_r _ [5] rfl (by decide +kernel)
set_option maxRecDepth 20000 in
theorem gX8_cardsBy_X8_isSheet : GoodIn wsX8_cardsBy (va_wsS RX8 283 yX8_isSheet wsX8_isSheet) := goodIn_app (goodIn_of _ (by decide +kernel)) ggX8_cardsBy_X8_isSheet
set_option maxRecDepth 20000 in
theorem ggX8_cardsBy_X5_isMissing : GoodIn wsX8_cardsBy wsX5_isMissing := goodIn_r _ [9, 10, 46, 47, 48] rfl (by decide +kernel)
set_option maxRecDepth 20000 in
theorem gX8_cardsBy_X5_isMissing_n309 : GoodIn wsX8_cardsBy (wsX5_isMissing) := ggX8_cardsBy_X5_isMissing
set_option maxRecDepth 20000 in
theorem ggX8_cardsBy_X5_has : GoodIn wsX8_cardsBy wsX5_has := goodIn_r _ [13, 14, 46, 47, 48] rfl (by decide +kernel)
set_option maxRecDepth 20000 in
theorem gX8_cardsBy_X5_has_n313 : GoodIn wsX8_cardsBy (wsX5_has) := ggX8_cardsBy_X5_has
set_option maxRecDepth 20000 in
theorem ggX8_cardsBy_X8_card : GoodIn wsX8_cardsBy wsX8_card := goodIn_r _ [18, 19, 20, 21, 22, 4, 23, 24, 25, 26, 27, 28, 29, 30, 31, 32, 33, 34, 35, 36, 37, 38, 39, 40, 41, 42, 43, 44, 45, 49, 50] rfl (by decide +kernel)
set_option maxRecDepth 20000 in
theorem gX8_cardsBy_X8_card : GoodIn wsX8_cardsBy (wsV RX8 330 RX8 yX8_card wsX8_card) := goodIn_app (goodIn_of _ (by decide +kernel)) ggX8_cardsBy_X8_card
theorem dX8_cardsBy_0 : decode cX8_cardsBy 0 = .ok (.iload_n 1, 1) := by decide +kernel
theorem dX8_cardsBy_1 : decode cX8_cardsBy 1 = .ok (.invokestatic 283, 3) := by decide +kernel
theorem dX8_cardsBy_4 : decode cX8_cardsBy 4 = .ok (.ifCond .eq 24, 3) := by decide +kernel
theorem dX8_cardsBy_7 : decode cX8_cardsBy 7 = .ok (.iload_n 2, 1) := by decide +kernel
theorem dX8_cardsBy_8 : decode cX8_cardsBy 8 = .ok (.ifCond .lt 20, 3) := by decide +kernel
theorem dX8_cardsBy_11 : decode cX8_cardsBy 11 = .ok (.iload_n 2, 1) := by decide +kernel
theorem dX8_cardsBy_12 : decode cX8_cardsBy 12 = .ok (.iconst 2, 1) := by decide +kernel
theorem dX8_cardsBy_13 : decode cX8_cardsBy 13 = .ok (.if_icmp .gt 15, 3) := by decide +kernel
theorem dX8_cardsBy_16 : decode cX8_cardsBy 16 = .ok (.iload 4, 2) := by decide +kernel
theorem dX8_cardsBy_18 : decode cX8_cardsBy 18 = .ok (.ifCond .lt 10, 3) := by decide +kernel
theorem dX8_cardsBy_21 : decode cX8_cardsBy 21 = .ok (.iload 4, 2) := by decide +kernel
theorem dX8_cardsBy_23 : decode cX8_cardsBy 23 = .ok (.bipush 40, 2) := by decide +kernel
theorem dX8_cardsBy_25 : decode cX8_cardsBy 25 = .ok (.if_icmp .le 6, 3) := by decide +kernel
theorem dX8_cardsBy_28 : decode cX8_cardsBy 28 = .ok (.bipush (-2), 2) := by decide +kernel
theorem dX8_cardsBy_30 : decode cX8_cardsBy 30 = .ok (.ireturn, 1) := by decide +kernel
theorem dX8_cardsBy_31 : decode cX8_cardsBy 31 = .ok (.aload_n 0, 1) := by decide +kernel
theorem dX8_cardsBy_32 : decode cX8_cardsBy 32 = .ok (.getfield 63, 3) := by decide +kernel
theorem dX8_cardsBy_35 : decode cX8_cardsBy 35 = .ok (.iload_n 1, 1) := by decide +kernel
theorem dX8_cardsBy_36 : decode cX8_cardsBy 36 = .ok (.aaload, 1) := by decide +kernel
theorem dX8_cardsBy_37 : decode cX8_cardsBy 37 = .ok (.invokevirtual 309, 3) := by decide +kernel
theorem dX8_cardsBy_40 : decode cX8_cardsBy 40 = .ok (.ifCond .eq 6, 3) := by decide +kernel
theorem dX8_cardsBy_43 : decode cX8_cardsBy 43 = .ok (.bipush (-11), 2) := by decide +kernel
theorem dX8_cardsBy_45 : decode cX8_cardsBy 45 = .ok (.ireturn, 1) := by decide +kernel
theorem dX8_cardsBy_46 : decode cX8_cardsBy 46 = .ok (.aload_n 0, 1) := by decide +kernel
theorem dX8_cardsBy_47 : decode cX8_cardsBy 47 = .ok (.getfield 63, 3) := by decide +kernel
theorem dX8_cardsBy_50 : decode cX8_cardsBy 50 = .ok (.iload_n 1, 1) := by decide +kernel
theorem dX8_cardsBy_51 : decode cX8_cardsBy 51 = .ok (.aaload, 1) := by decide +kernel
theorem dX8_cardsBy_52 : decode cX8_cardsBy 52 = .ok (.getfield 314, 3) := by decide +kernel
theorem dX8_cardsBy_55 : decode cX8_cardsBy 55 = .ok (.iload_n 2, 1) := by decide +kernel
theorem dX8_cardsBy_56 : decode cX8_cardsBy 56 = .ok (.if_icmp .eq 6, 3) := by decide +kernel
theorem dX8_cardsBy_59 : decode cX8_cardsBy 59 = .ok (.bipush (-13), 2) := by decide +kernel
theorem dX8_cardsBy_61 : decode cX8_cardsBy 61 = .ok (.ireturn, 1) := by decide +kernel
theorem dX8_cardsBy_62 : decode cX8_cardsBy 62 = .ok (.iconst 0, 1) := by decide +kernel
theorem dX8_cardsBy_63 : decode cX8_cardsBy 63 = .ok (.istore 5, 2) := by decide +kernel
theorem dX8_cardsBy_65 : decode cX8_cardsBy 65 = .ok (.iconst 0, 1) := by decide +kernel
theorem dX8_cardsBy_66 : decode cX8_cardsBy 66 = .ok (.istore 6, 2) := by decide +kernel
theorem dX8_cardsBy_68 : decode cX8_cardsBy 68 = .ok (.iload 6, 2) := by decide +kernel
theorem dX8_cardsBy_70 : decode cX8_cardsBy 70 = .ok (.iload 4, 2) := by decide +kernel
theorem dX8_cardsBy_72 : decode cX8_cardsBy 72 = .ok (.if_icmp .ge 52, 3) := by decide +kernel
theorem dX8_cardsBy_75 : decode cX8_cardsBy 75 = .ok (.aload_n 0, 1) := by decide +kernel
theorem dX8_cardsBy_76 : decode cX8_cardsBy 76 = .ok (.getfield 63, 3) := by decide +kernel
theorem dX8_cardsBy_79 : decode cX8_cardsBy 79 = .ok (.iload_n 1, 1) := by decide +kernel
theorem dX8_cardsBy_80 : decode cX8_cardsBy 80 = .ok (.aaload, 1) := by decide +kernel
theorem dX8_cardsBy_81 : decode cX8_cardsBy 81 = .ok (.iload_n 3, 1) := by decide +kernel
theorem dX8_cardsBy_82 : decode cX8_cardsBy 82 = .ok (.iload 6, 2) := by decide +kernel
theorem dX8_cardsBy_84 : decode cX8_cardsBy 84 = .ok (.iadd, 1) := by decide +kernel
theorem dX8_cardsBy_85 : decode cX8_cardsBy 85 = .ok (.invokevirtual 313, 3) := by decide +kernel
theorem dX8_cardsBy_88 : decode cX8_cardsBy 88 = .ok (.ifCond .ne 6, 3) := by decide +kernel
theorem dX8_cardsBy_91 : decode cX8_cardsBy 91 = .ok (.bipush (-12), 2) := by decide +kernel
theorem dX8_cardsBy_93 : decode cX8_cardsBy 93 = .ok (.ireturn, 1) := by decide +kernel
theorem dX8_cardsBy_94 : decode cX8_cardsBy 94 = .ok (.aload_n 0, 1) := by decide +kernel
theorem dX8_cardsBy_95 : decode cX8_cardsBy 95 = .ok (.aload_n 0, 1) := by decide +kernel
theorem dX8_cardsBy_96 : decode cX8_cardsBy 96 = .ok (.getfield 63, 3) := by decide +kernel
theorem dX8_cardsBy_99 : decode cX8_cardsBy 99 = .ok (.iload_n 1, 1) := by decide +kernel
theorem dX8_cardsBy_100 : decode cX8_cardsBy 100 = .ok (.aaload, 1) := by decide +kernel
theorem dX8_cardsBy_101 : decode cX8_cardsBy 101 = .ok (.getfield 321, 3) := by decide +kernel
theorem dX8_cardsBy_104 : decode cX8_cardsBy 104 = .ok (.iload_n 3, 1) := by decide +kernel
theorem dX8_cardsBy_105 : decode cX8_cardsBy 105 = .ok (.iload 6, 2) := by decide +kernel
theorem dX8_cardsBy_107 : decode cX8_cardsBy 107 = .ok (.iadd, 1) := by decide +kernel
theorem dX8_cardsBy_108 : decode cX8_cardsBy 108 = .ok (.iaload, 1) := by decide +kernel
theorem dX8_cardsBy_109 : decode cX8_cardsBy 109 = .ok (.invokevirtual 330, 3) := by decide +kernel
theorem dX8_cardsBy_112 : decode cX8_cardsBy 112 = .ok (.ifCond .le 6, 3) := by decide +kernel
theorem dX8_cardsBy_115 : decode cX8_cardsBy 115 = .ok (.iinc 5 1, 3) := by decide +kernel
theorem dX8_cardsBy_118 : decode cX8_cardsBy 118 = .ok (.iinc 6 1, 3) := by decide +kernel
theorem dX8_cardsBy_121 : decode cX8_cardsBy 121 = .ok (.goto (-53), 3) := by decide +kernel
theorem dX8_cardsBy_124 : decode cX8_cardsBy 124 = .ok (.iload 5, 2) := by decide +kernel
theorem dX8_cardsBy_126 : decode cX8_cardsBy 126 = .ok (.ireturn, 1) := by decide +kernel
set_option maxRecDepth 20000 in
theorem ggX8_taken_X8_isHead : GoodIn wsX8_taken wsX8_isHead := goodIn_r _ [7, 8, 18, 19, 20, 21, 22, 23, 24, 25, 26, 27, 28, 29, 30, 31, 32] rfl (by decide +kernel)
set_option maxRecDepth 20000 in
theorem gX8_taken_X8_isHead : GoodIn wsX8_taken (wsV RX8 206 RX8 yX8_isHead wsX8_isHead) := goodIn_app (goodIn_of _ (by decide +kernel)) ggX8_taken_X8_isHead
set_option maxRecDepth 20000 in
theorem ggX8_taken_X8_isOfKind : GoodIn wsX8_taken wsX8_isOfKind := goodIn_r _ [11, 12] rfl (by decide +kernel)
set_option maxRecDepth 20000 in
theorem gX8_taken_X8_isOfKind : GoodIn wsX8_taken (va_wsS RX8 333 yX8_isOfKind wsX8_isOfKind) := goodIn_app (goodIn_of _ (by decide +kernel)) ggX8_taken_X8_isOfKind
set_option maxRecDepth 20000 in
theorem ggX8_taken_X4_has : GoodIn wsX8_taken wsX4_has := goodIn_r _ [16, 17, 38, 39] rfl (by decide +kernel)
set_option maxRecDepth 20000 in
theorem gX8_taken_X4_has_n129 : GoodIn wsX8_taken (wsX4_has) := ggX8_taken_X4_has
theorem dX8_taken_0 : decode cX8_taken 0 = .ok (.iload_n 2, 1) := by decide +kernel
theorem dX8_taken_1 : decode cX8_taken 1 = .ok (.ifCond .lt 9, 3) := by decide +kernel
theorem dX8_taken_4 : decode cX8_taken 4 = .ok (.iload_n 2, 1) := by decide +kernel
theorem dX8_taken_5 : decode cX8_taken 5 = .ok (.bipush 6, 2) := by decide +kernel
theorem dX8_taken_7 : decode cX8_taken 7 = .ok (.if_icmp .le 6, 3) := by decide +kernel
theorem dX8_taken_10 : decode cX8_taken 10 = .ok (.bipush (-2), 2) := by decide +kernel
theorem dX8_taken_12 : decode cX8_taken 12 = .ok (.ireturn, 1) := by decide +kernel
theorem dX8_taken_13 : decode cX8_taken 13 = .ok (.iload_n 1, 1) := by decide +kernel
theorem dX8_taken_14 : decode cX8_taken 14 = .ok (.ifCond .lt 9, 3) := by decide +kernel
theorem dX8_taken_17 : decode cX8_taken 17 = .ok (.iload_n 1, 1) := by decide +kernel
theorem dX8_taken_18 : decode cX8_taken 18 = .ok (.bipush 65, 2) := by decide +kernel
theorem dX8_taken_20 : decode cX8_taken 20 = .ok (.if_icmp .lt 6, 3) := by decide +kernel
theorem dX8_taken_23 : decode cX8_taken 23 = .ok (.bipush (-12), 2) := by decide +kernel
theorem dX8_taken_25 : decode cX8_taken 25 = .ok (.ireturn, 1) := by decide +kernel
theorem dX8_taken_26 : decode cX8_taken 26 = .ok (.iload_n 1, 1) := by decide +kernel
theorem dX8_taken_27 : decode cX8_taken 27 = .ok (.iconst 5, 1) := by decide +kernel
theorem dX8_taken_28 : decode cX8_taken 28 = .ok (.if_icmp .ge 37, 3) := by decide +kernel
theorem dX8_taken_31 : decode cX8_taken 31 = .ok (.aload_n 0, 1) := by decide +kernel
theorem dX8_taken_32 : decode cX8_taken 32 = .ok (.iload_n 1, 1) := by decide +kernel
theorem dX8_taken_33 : decode cX8_taken 33 = .ok (.invokevirtual 206, 3) := by decide +kernel
theorem dX8_taken_36 : decode cX8_taken 36 = .ok (.ifCond .ne 6, 3) := by decide +kernel
theorem dX8_taken_39 : decode cX8_taken 39 = .ok (.bipush (-11), 2) := by decide +kernel
theorem dX8_taken_41 : decode cX8_taken 41 = .ok (.ireturn, 1) := by decide +kernel
theorem dX8_taken_42 : decode cX8_taken 42 = .ok (.aload_n 0, 1) := by decide +kernel
theorem dX8_taken_43 : decode cX8_taken 43 = .ok (.getfield 21, 3) := by decide +kernel
theorem dX8_taken_46 : decode cX8_taken 46 = .ok (.iload_n 1, 1) := by decide +kernel
theorem dX8_taken_47 : decode cX8_taken 47 = .ok (.aaload, 1) := by decide +kernel
theorem dX8_taken_48 : decode cX8_taken 48 = .ok (.getfield 191, 3) := by decide +kernel
theorem dX8_taken_51 : decode cX8_taken 51 = .ok (.iload_n 2, 1) := by decide +kernel
theorem dX8_taken_52 : decode cX8_taken 52 = .ok (.invokestatic 333, 3) := by decide +kernel
theorem dX8_taken_55 : decode cX8_taken 55 = .ok (.ifCond .eq 7, 3) := by decide +kernel
theorem dX8_taken_58 : decode cX8_taken 58 = .ok (.iload_n 1, 1) := by decide +kernel
theorem dX8_taken_59 : decode cX8_taken 59 = .ok (.goto 5, 3) := by decide +kernel
theorem dX8_taken_62 : decode cX8_taken 62 = .ok (.bipush (-13), 2) := by decide +kernel
theorem dX8_taken_64 : decode cX8_taken 64 = .ok (.ireturn, 1) := by decide +kernel
theorem dX8_taken_65 : decode cX8_taken 65 = .ok (.iload_n 1, 1) := by decide +kernel
theorem dX8_taken_66 : decode cX8_taken 66 = .ok (.iconst 5, 1) := by decide +kernel
theorem dX8_taken_67 : decode cX8_taken 67 = .ok (.isub, 1) := by decide +kernel
theorem dX8_taken_68 : decode cX8_taken 68 = .ok (.istore_n 3, 1) := by decide +kernel
theorem dX8_taken_69 : decode cX8_taken 69 = .ok (.aload_n 0, 1) := by decide +kernel
theorem dX8_taken_70 : decode cX8_taken 70 = .ok (.getfield 10, 3) := by decide +kernel
theorem dX8_taken_73 : decode cX8_taken 73 = .ok (.iload_n 3, 1) := by decide +kernel
theorem dX8_taken_74 : decode cX8_taken 74 = .ok (.invokevirtual 129, 3) := by decide +kernel
theorem dX8_taken_77 : decode cX8_taken 77 = .ok (.ifCond .ne 6, 3) := by decide +kernel
theorem dX8_taken_80 : decode cX8_taken 80 = .ok (.bipush (-11), 2) := by decide +kernel
theorem dX8_taken_82 : decode cX8_taken 82 = .ok (.ireturn, 1) := by decide +kernel
theorem dX8_taken_83 : decode cX8_taken 83 = .ok (.iload_n 2, 1) := by decide +kernel
theorem dX8_taken_84 : decode cX8_taken 84 = .ok (.bipush 6, 2) := by decide +kernel
theorem dX8_taken_86 : decode cX8_taken 86 = .ok (.if_icmp .ne 15, 3) := by decide +kernel
theorem dX8_taken_89 : decode cX8_taken 89 = .ok (.aload_n 0, 1) := by decide +kernel
theorem dX8_taken_90 : decode cX8_taken 90 = .ok (.getfield 10, 3) := by decide +kernel
theorem dX8_taken_93 : decode cX8_taken 93 = .ok (.getfield 132, 3) := by decide +kernel
theorem dX8_taken_96 : decode cX8_taken 96 = .ok (.iload_n 3, 1) := by decide +kernel
theorem dX8_taken_97 : decode cX8_taken 97 = .ok (.iaload, 1) := by decide +kernel
theorem dX8_taken_98 : decode cX8_taken 98 = .ok (.goto 5, 3) := by decide +kernel
theorem dX8_taken_101 : decode cX8_taken 101 = .ok (.bipush (-13), 2) := by decide +kernel
theorem dX8_taken_103 : decode cX8_taken 103 = .ok (.ireturn, 1) := by decide +kernel
theorem dX8_isCard_0 : decode cX8_isCard 0 = .ok (.iload_n 1, 1) := by decide +kernel
theorem dX8_isCard_1 : decode cX8_isCard 1 = .ok (.iconst 1, 1) := by decide +kernel
theorem dX8_isCard_2 : decode cX8_isCard 2 = .ok (.if_icmp .lt 15, 3) := by decide +kernel
theorem dX8_isCard_5 : decode cX8_isCard 5 = .ok (.iload_n 1, 1) := by decide +kernel
theorem dX8_isCard_6 : decode cX8_isCard 6 = .ok (.aload_n 0, 1) := by decide +kernel
theorem dX8_isCard_7 : decode cX8_isCard 7 = .ok (.getfield 74, 3) := by decide +kernel
theorem dX8_isCard_10 : decode cX8_isCard 10 = .ok (.if_icmp .gt 7, 3) := by decide +kernel
theorem dX8_isCard_13 : decode cX8_isCard 13 = .ok (.iconst 1, 1) := by decide +kernel
theorem dX8_isCard_14 : decode cX8_isCard 14 = .ok (.goto 4, 3) := by decide +kernel
theorem dX8_isCard_17 : decode cX8_isCard 17 = .ok (.iconst 0, 1) := by decide +kernel
theorem dX8_isCard_18 : decode cX8_isCard 18 = .ok (.ireturn, 1) := by decide +kernel
theorem dX8_isHead_0 : decode cX8_isHead 0 = .ok (.iload_n 1, 1) := by decide +kernel
theorem dX8_isHead_1 : decode cX8_isHead 1 = .ok (.ifCond .lt 15, 3) := by decide +kernel
theorem dX8_isHead_4 : decode cX8_isHead 4 = .ok (.iload_n 1, 1) := by decide +kernel
theorem dX8_isHead_5 : decode cX8_isHead 5 = .ok (.aload_n 0, 1) := by decide +kernel
theorem dX8_isHead_6 : decode cX8_isHead 6 = .ok (.getfield 78, 3) := by decide +kernel
theorem dX8_isHead_9 : decode cX8_isHead 9 = .ok (.if_icmp .ge 7, 3) := by decide +kernel
theorem dX8_isHead_12 : decode cX8_isHead 12 = .ok (.iconst 1, 1) := by decide +kernel
theorem dX8_isHead_13 : decode cX8_isHead 13 = .ok (.goto 4, 3) := by decide +kernel
theorem dX8_isHead_16 : decode cX8_isHead 16 = .ok (.iconst 0, 1) := by decide +kernel
theorem dX8_isHead_17 : decode cX8_isHead 17 = .ok (.ireturn, 1) := by decide +kernel
theorem dX8_isSheet_0 : decode cX8_isSheet 0 = .ok (.iload_n 0, 1) := by decide +kernel
theorem dX8_isSheet_1 : decode cX8_isSheet 1 = .ok (.ifCond .lt 12, 3) := by decide +kernel
theorem dX8_isSheet_4 : decode cX8_isSheet 4 = .ok (.iload_n 0, 1) := by decide +kernel
theorem dX8_isSheet_5 : decode cX8_isSheet 5 = .ok (.iconst 4, 1) := by decide +kernel
theorem dX8_isSheet_6 : decode cX8_isSheet 6 = .ok (.if_icmp .ge 7, 3) := by decide +kernel
theorem dX8_isSheet_9 : decode cX8_isSheet 9 = .ok (.iconst 1, 1) := by decide +kernel
theorem dX8_isSheet_10 : decode cX8_isSheet 10 = .ok (.goto 4, 3) := by decide +kernel
theorem dX8_isSheet_13 : decode cX8_isSheet 13 = .ok (.iconst 0, 1) := by decide +kernel
theorem dX8_isSheet_14 : decode cX8_isSheet 14 = .ok (.ireturn, 1) := by decide +kernel
theorem dX8_isWay_0 : decode cX8_isWay 0 = .ok (.iload_n 0, 1) := by decide +kernel
theorem dX8_isWay_1 : decode cX8_isWay 1 = .ok (.ifCond .eq 8, 3) := by decide +kernel
theorem dX8_isWay_4 : decode cX8_isWay 4 = .ok (.iload_n 0, 1) := by decide +kernel
theorem dX8_isWay_5 : decode cX8_isWay 5 = .ok (.iconst 1, 1) := by decide +kernel
theorem dX8_isWay_6 : decode cX8_isWay 6 = .ok (.if_icmp .ne 7, 3) := by decide +kernel
theorem dX8_isWay_9 : decode cX8_isWay 9 = .ok (.iconst 1, 1) := by decide +kernel
theorem dX8_isWay_10 : decode cX8_isWay 10 = .ok (.goto 4, 3) := by decide +kernel
theorem dX8_isWay_13 : decode cX8_isWay 13 = .ok (.iconst 0, 1) := by decide +kernel
theorem dX8_isWay_14 : decode cX8_isWay 14 = .ok (.ireturn, 1) := by decide +kernel
theorem dX8_isByte_0 : decode cX8_isByte 0 = .ok (.iload_n 0, 1) := by decide +kernel
theorem dX8_isByte_1 : decode cX8_isByte 1 = .ok (.ifCond .lt 14, 3) := by decide +kernel
theorem dX8_isByte_4 : decode cX8_isByte 4 = .ok (.iload_n 0, 1) := by decide +kernel
theorem dX8_isByte_5 : decode cX8_isByte 5 = .ok (.sipush 255, 3) := by decide +kernel
theorem dX8_isByte_8 : decode cX8_isByte 8 = .ok (.if_icmp .gt 7, 3) := by decide +kernel
theorem dX8_isByte_11 : decode cX8_isByte 11 = .ok (.iconst 1, 1) := by decide +kernel
theorem dX8_isByte_12 : decode cX8_isByte 12 = .ok (.goto 4, 3) := by decide +kernel
theorem dX8_isByte_15 : decode cX8_isByte 15 = .ok (.iconst 0, 1) := by decide +kernel
theorem dX8_isByte_16 : decode cX8_isByte 16 = .ok (.ireturn, 1) := by decide +kernel
theorem dX8_isNumber_0 : decode cX8_isNumber 0 = .ok (.iload_n 0, 1) := by decide +kernel
theorem dX8_isNumber_1 : decode cX8_isNumber 1 = .ok (.ifCond .lt 14, 3) := by decide +kernel
theorem dX8_isNumber_4 : decode cX8_isNumber 4 = .ok (.iload_n 0, 1) := by decide +kernel
theorem dX8_isNumber_5 : decode cX8_isNumber 5 = .ok (.ldc_w 336, 3) := by decide +kernel
theorem dX8_isNumber_8 : decode cX8_isNumber 8 = .ok (.if_icmp .gt 7, 3) := by decide +kernel
theorem dX8_isNumber_11 : decode cX8_isNumber 11 = .ok (.iconst 1, 1) := by decide +kernel
theorem dX8_isNumber_12 : decode cX8_isNumber 12 = .ok (.goto 4, 3) := by decide +kernel
theorem dX8_isNumber_15 : decode cX8_isNumber 15 = .ok (.iconst 0, 1) := by decide +kernel
theorem dX8_isNumber_16 : decode cX8_isNumber 16 = .ok (.ireturn, 1) := by decide +kernel
theorem dX8_isBits_0 : decode cX8_isBits 0 = .ok (.iload_n 0, 1) := by decide +kernel
theorem dX8_isBits_1 : decode cX8_isBits 1 = .ok (.iconst 1, 1) := by decide +kernel
theorem dX8_isBits_2 : decode cX8_isBits 2 = .ok (.if_icmp .lt 13, 3) := by decide +kernel
theorem dX8_isBits_5 : decode cX8_isBits 5 = .ok (.iload_n 0, 1) := by decide +kernel
theorem dX8_isBits_6 : decode cX8_isBits 6 = .ok (.bipush 16, 2) := by decide +kernel
theorem dX8_isBits_8 : decode cX8_isBits 8 = .ok (.if_icmp .gt 7, 3) := by decide +kernel
theorem dX8_isBits_11 : decode cX8_isBits 11 = .ok (.iconst 1, 1) := by decide +kernel
theorem dX8_isBits_12 : decode cX8_isBits 12 = .ok (.goto 4, 3) := by decide +kernel
theorem dX8_isBits_15 : decode cX8_isBits 15 = .ok (.iconst 0, 1) := by decide +kernel
theorem dX8_isBits_16 : decode cX8_isBits 16 = .ok (.ireturn, 1) := by decide +kernel
theorem dX8_isSeed_0 : decode cX8_isSeed 0 = .ok (.iload_n 0, 1) := by decide +kernel
theorem dX8_isSeed_1 : decode cX8_isSeed 1 = .ok (.ifCond .lt 14, 3) := by decide +kernel
theorem dX8_isSeed_4 : decode cX8_isSeed 4 = .ok (.iload_n 0, 1) := by decide +kernel
theorem dX8_isSeed_5 : decode cX8_isSeed 5 = .ok (.ldc_w 337, 3) := by decide +kernel
theorem dX8_isSeed_8 : decode cX8_isSeed 8 = .ok (.if_icmp .gt 7, 3) := by decide +kernel
theorem dX8_isSeed_11 : decode cX8_isSeed 11 = .ok (.iconst 1, 1) := by decide +kernel
theorem dX8_isSeed_12 : decode cX8_isSeed 12 = .ok (.goto 4, 3) := by decide +kernel
theorem dX8_isSeed_15 : decode cX8_isSeed 15 = .ok (.iconst 0, 1) := by decide +kernel
theorem dX8_isSeed_16 : decode cX8_isSeed 16 = .ok (.ireturn, 1) := by decide +kernel
theorem dX8_isOfKind_0 : decode cX8_isOfKind 0 = .ok (.iload_n 0, 1) := by decide +kernel
theorem dX8_isOfKind_1 : decode cX8_isOfKind 1 = .ok (.istore_n 2, 1) := by decide +kernel
theorem dX8_isOfKind_2 : decode cX8_isOfKind 2 = .ok (.iconst 0, 1) := by decide +kernel
theorem dX8_isOfKind_3 : decode cX8_isOfKind 3 = .ok (.istore_n 3, 1) := by decide +kernel
theorem dX8_isOfKind_4 : decode cX8_isOfKind 4 = .ok (.iload_n 3, 1) := by decide +kernel
theorem dX8_isOfKind_5 : decode cX8_isOfKind 5 = .ok (.getstatic 338, 3) := by decide +kernel
theorem dX8_isOfKind_8 : decode cX8_isOfKind 8 = .ok (.arraylength, 1) := by decide +kernel
theorem dX8_isOfKind_9 : decode cX8_isOfKind 9 = .ok (.if_icmp .ge 34, 3) := by decide +kernel
theorem dX8_isOfKind_12 : decode cX8_isOfKind 12 = .ok (.iload_n 2, 1) := by decide +kernel
theorem dX8_isOfKind_13 : decode cX8_isOfKind 13 = .ok (.ifCond .lt 30, 3) := by decide +kernel
theorem dX8_isOfKind_16 : decode cX8_isOfKind 16 = .ok (.iload_n 2, 1) := by decide +kernel
theorem dX8_isOfKind_17 : decode cX8_isOfKind 17 = .ok (.getstatic 338, 3) := by decide +kernel
theorem dX8_isOfKind_20 : decode cX8_isOfKind 20 = .ok (.arraylength, 1) := by decide +kernel
theorem dX8_isOfKind_21 : decode cX8_isOfKind 21 = .ok (.if_icmp .ge 22, 3) := by decide +kernel
theorem dX8_isOfKind_24 : decode cX8_isOfKind 24 = .ok (.iload_n 2, 1) := by decide +kernel
theorem dX8_isOfKind_25 : decode cX8_isOfKind 25 = .ok (.iload_n 1, 1) := by decide +kernel
theorem dX8_isOfKind_26 : decode cX8_isOfKind 26 = .ok (.if_icmp .ne 5, 3) := by decide +kernel
theorem dX8_isOfKind_29 : decode cX8_isOfKind 29 = .ok (.iconst 1, 1) := by decide +kernel
theorem dX8_isOfKind_30 : decode cX8_isOfKind 30 = .ok (.ireturn, 1) := by decide +kernel
theorem dX8_isOfKind_31 : decode cX8_isOfKind 31 = .ok (.getstatic 338, 3) := by decide +kernel
theorem dX8_isOfKind_34 : decode cX8_isOfKind 34 = .ok (.iload_n 2, 1) := by decide +kernel
theorem dX8_isOfKind_35 : decode cX8_isOfKind 35 = .ok (.iaload, 1) := by decide +kernel
theorem dX8_isOfKind_36 : decode cX8_isOfKind 36 = .ok (.istore_n 2, 1) := by decide +kernel
theorem dX8_isOfKind_37 : decode cX8_isOfKind 37 = .ok (.iinc 3 1, 3) := by decide +kernel
theorem dX8_isOfKind_40 : decode cX8_isOfKind 40 = .ok (.goto (-36), 3) := by decide +kernel
theorem dX8_isOfKind_43 : decode cX8_isOfKind 43 = .ok (.iconst 0, 1) := by decide +kernel
theorem dX8_isOfKind_44 : decode cX8_isOfKind 44 = .ok (.ireturn, 1) := by decide +kernel
theorem dX8_packSum_0 : decode cX8_packSum 0 = .ok (.aload_n 0, 1) := by decide +kernel
theorem dX8_packSum_1 : decode cX8_packSum 1 = .ok (.getfield 74, 3) := by decide +kernel
theorem dX8_packSum_4 : decode cX8_packSum 4 = .ok (.aload_n 0, 1) := by decide +kernel
theorem dX8_packSum_5 : decode cX8_packSum 5 = .ok (.getfield 74, 3) := by decide +kernel
theorem dX8_packSum_8 : decode cX8_packSum 8 = .ok (.iconst 1, 1) := by decide +kernel
theorem dX8_packSum_9 : decode cX8_packSum 9 = .ok (.iadd, 1) := by decide +kernel
theorem dX8_packSum_10 : decode cX8_packSum 10 = .ok (.imul, 1) := by decide +kernel
theorem dX8_packSum_11 : decode cX8_packSum 11 = .ok (.iconst 2, 1) := by decide +kernel
theorem dX8_packSum_12 : decode cX8_packSum 12 = .ok (.idiv, 1) := by decide +kernel
theorem dX8_packSum_13 : decode cX8_packSum 13 = .ok (.ireturn, 1) := by decide +kernel
set_option maxRecDepth 20000 in
theorem ggX8_unlikeCards_X4_timesOf : GoodIn wsX8_unlikeCards wsX4_timesOf := goodIn_r _ [6, 7, 8, 24, 25] rfl (by decide +kernel)
set_option maxRecDepth 20000 in
theorem gX8_unlikeCards_X4_timesOf_n138 : GoodIn wsX8_unlikeCards (wsX4_timesOf) := ggX8_unlikeCards_X4_timesOf
theorem dX8_unlikeCards_0 : decode cX8_unlikeCards 0 = .ok (.iconst 0, 1) := by decide +kernel
theorem dX8_unlikeCards_1 : decode cX8_unlikeCards 1 = .ok (.istore_n 1, 1) := by decide +kernel
theorem dX8_unlikeCards_2 : decode cX8_unlikeCards 2 = .ok (.iconst 1, 1) := by decide +kernel
theorem dX8_unlikeCards_3 : decode cX8_unlikeCards 3 = .ok (.istore_n 2, 1) := by decide +kernel
theorem dX8_unlikeCards_4 : decode cX8_unlikeCards 4 = .ok (.iload_n 2, 1) := by decide +kernel
theorem dX8_unlikeCards_5 : decode cX8_unlikeCards 5 = .ok (.aload_n 0, 1) := by decide +kernel
theorem dX8_unlikeCards_6 : decode cX8_unlikeCards 6 = .ok (.getfield 74, 3) := by decide +kernel
theorem dX8_unlikeCards_9 : decode cX8_unlikeCards 9 = .ok (.if_icmp .gt 23, 3) := by decide +kernel
theorem dX8_unlikeCards_12 : decode cX8_unlikeCards 12 = .ok (.aload_n 0, 1) := by decide +kernel
theorem dX8_unlikeCards_13 : decode cX8_unlikeCards 13 = .ok (.getfield 10, 3) := by decide +kernel
theorem dX8_unlikeCards_16 : decode cX8_unlikeCards 16 = .ok (.iload_n 2, 1) := by decide +kernel
theorem dX8_unlikeCards_17 : decode cX8_unlikeCards 17 = .ok (.invokevirtual 138, 3) := by decide +kernel
theorem dX8_unlikeCards_20 : decode cX8_unlikeCards 20 = .ok (.ifCond .le 6, 3) := by decide +kernel
theorem dX8_unlikeCards_23 : decode cX8_unlikeCards 23 = .ok (.iinc 1 1, 3) := by decide +kernel
theorem dX8_unlikeCards_26 : decode cX8_unlikeCards 26 = .ok (.iinc 2 1, 3) := by decide +kernel
theorem dX8_unlikeCards_29 : decode cX8_unlikeCards 29 = .ok (.goto (-25), 3) := by decide +kernel
theorem dX8_unlikeCards_32 : decode cX8_unlikeCards 32 = .ok (.iload_n 1, 1) := by decide +kernel
theorem dX8_unlikeCards_33 : decode cX8_unlikeCards 33 = .ok (.ireturn, 1) := by decide +kernel
set_option maxRecDepth 20000 in
theorem ggX8_commonestCard_X4_timesOf : GoodIn wsX8_commonestCard wsX4_timesOf := goodIn_r _ [6, 7, 8, 24, 25] rfl (by decide +kernel)
set_option maxRecDepth 20000 in
theorem gX8_commonestCard_X4_timesOf_n138 : GoodIn wsX8_commonestCard (wsX4_timesOf) := ggX8_commonestCard_X4_timesOf
theorem dX8_commonestCard_0 : decode cX8_commonestCard 0 = .ok (.iconst (-1), 1) := by decide +kernel
theorem dX8_commonestCard_1 : decode cX8_commonestCard 1 = .ok (.istore_n 1, 1) := by decide +kernel
theorem dX8_commonestCard_2 : decode cX8_commonestCard 2 = .ok (.iconst 0, 1) := by decide +kernel
theorem dX8_commonestCard_3 : decode cX8_commonestCard 3 = .ok (.istore_n 2, 1) := by decide +kernel
theorem dX8_commonestCard_4 : decode cX8_commonestCard 4 = .ok (.iconst 1, 1) := by decide +kernel
theorem dX8_commonestCard_5 : decode cX8_commonestCard 5 = .ok (.istore_n 3, 1) := by decide +kernel
theorem dX8_commonestCard_6 : decode cX8_commonestCard 6 = .ok (.iload_n 3, 1) := by decide +kernel
theorem dX8_commonestCard_7 : decode cX8_commonestCard 7 = .ok (.aload_n 0, 1) := by decide +kernel
theorem dX8_commonestCard_8 : decode cX8_commonestCard 8 = .ok (.getfield 74, 3) := by decide +kernel
theorem dX8_commonestCard_11 : decode cX8_commonestCard 11 = .ok (.if_icmp .gt 30, 3) := by decide +kernel
theorem dX8_commonestCard_14 : decode cX8_commonestCard 14 = .ok (.aload_n 0, 1) := by decide +kernel
theorem dX8_commonestCard_15 : decode cX8_commonestCard 15 = .ok (.getfield 10, 3) := by decide +kernel
theorem dX8_commonestCard_18 : decode cX8_commonestCard 18 = .ok (.iload_n 3, 1) := by decide +kernel
theorem dX8_commonestCard_19 : decode cX8_commonestCard 19 = .ok (.invokevirtual 138, 3) := by decide +kernel
theorem dX8_commonestCard_22 : decode cX8_commonestCard 22 = .ok (.istore 4, 2) := by decide +kernel
theorem dX8_commonestCard_24 : decode cX8_commonestCard 24 = .ok (.iload 4, 2) := by decide +kernel
theorem dX8_commonestCard_26 : decode cX8_commonestCard 26 = .ok (.iload_n 2, 1) := by decide +kernel
theorem dX8_commonestCard_27 : decode cX8_commonestCard 27 = .ok (.if_icmp .le 8, 3) := by decide +kernel
theorem dX8_commonestCard_30 : decode cX8_commonestCard 30 = .ok (.iload 4, 2) := by decide +kernel
theorem dX8_commonestCard_32 : decode cX8_commonestCard 32 = .ok (.istore_n 2, 1) := by decide +kernel
theorem dX8_commonestCard_33 : decode cX8_commonestCard 33 = .ok (.iload_n 3, 1) := by decide +kernel
theorem dX8_commonestCard_34 : decode cX8_commonestCard 34 = .ok (.istore_n 1, 1) := by decide +kernel
theorem dX8_commonestCard_35 : decode cX8_commonestCard 35 = .ok (.iinc 3 1, 3) := by decide +kernel
theorem dX8_commonestCard_38 : decode cX8_commonestCard 38 = .ok (.goto (-32), 3) := by decide +kernel
theorem dX8_commonestCard_41 : decode cX8_commonestCard 41 = .ok (.iload_n 1, 1) := by decide +kernel
theorem dX8_commonestCard_42 : decode cX8_commonestCard 42 = .ok (.ireturn, 1) := by decide +kernel
theorem dX8_lawText_0 : decode cX8_lawText 0 = .ok (.aload_n 0, 1) := by decide +kernel
theorem dX8_lawText_1 : decode cX8_lawText 1 = .ok (.getfield 84, 3) := by decide +kernel
theorem dX8_lawText_4 : decode cX8_lawText 4 = .ok (.ifCond .lt 24, 3) := by decide +kernel
theorem dX8_lawText_7 : decode cX8_lawText 7 = .ok (.aload_n 0, 1) := by decide +kernel
theorem dX8_lawText_8 : decode cX8_lawText 8 = .ok (.getfield 84, 3) := by decide +kernel
theorem dX8_lawText_11 : decode cX8_lawText 11 = .ok (.bipush 6, 2) := by decide +kernel
theorem dX8_lawText_13 : decode cX8_lawText 13 = .ok (.if_icmp .ge 15, 3) := by decide +kernel
theorem dX8_lawText_16 : decode cX8_lawText 16 = .ok (.aload_n 0, 1) := by decide +kernel
theorem dX8_lawText_17 : decode cX8_lawText 17 = .ok (.getfield 39, 3) := by decide +kernel
theorem dX8_lawText_20 : decode cX8_lawText 20 = .ok (.aload_n 0, 1) := by decide +kernel
theorem dX8_lawText_21 : decode cX8_lawText 21 = .ok (.getfield 84, 3) := by decide +kernel
theorem dX8_lawText_24 : decode cX8_lawText 24 = .ok (.aaload, 1) := by decide +kernel
theorem dX8_lawText_25 : decode cX8_lawText 25 = .ok (.goto 9, 3) := by decide +kernel
theorem dX8_lawText_28 : decode cX8_lawText 28 = .ok (.aload_n 0, 1) := by decide +kernel
theorem dX8_lawText_29 : decode cX8_lawText 29 = .ok (.getfield 39, 3) := by decide +kernel
theorem dX8_lawText_32 : decode cX8_lawText 32 = .ok (.iconst 0, 1) := by decide +kernel
theorem dX8_lawText_33 : decode cX8_lawText 33 = .ok (.aaload, 1) := by decide +kernel
theorem dX8_lawText_34 : decode cX8_lawText 34 = .ok (.areturn, 1) := by decide +kernel
set_option maxRecDepth 20000 in
theorem ggX8_saysOf_X8_lawText : GoodIn wsX8_saysOf wsX8_lawText := goodIn_r _ [7, 8, 9, 90, 91, 92, 93, 94, 95, 96, 97, 98, 99, 100, 101, 102, 103, 104] rfl (by decide +kernel)
set_option maxRecDepth 20000 in
theorem gX8_saysOf_X8_lawText : GoodIn wsX8_saysOf (wsV RX8 170 RX8 yX8_lawText wsX8_lawText) := goodIn_app (goodIn_of _ (by decide +kernel)) ggX8_saysOf_X8_lawText
set_option maxRecDepth 20000 in
theorem ggX8_saysOf_X7_says : GoodIn wsX8_saysOf wsX7_says := goodIn_r _ [13, 14, 15, 16, 11, 17, 18, 19, 20, 21, 22, 23, 24, 25, 26, 27, 28, 29, 30, 31, 32, 33, 34, 35, 36, 37, 38, 39, 40, 41, 42, 43, 44, 45, 46, 47, 48, 49, 50, 51, 52, 53, 54, 55, 56, 57, 58, 59, 60, 61, 62, 63, 64, 65, 66, 67, 68, 69, 70, 71, 72, 73, 74, 75, 76, 77, 78, 79, 80, 81, 82, 83, 84, 85, 86, 87, 88, 89, 105, 106, 107, 108, 109, 110, 111, 112, 113, 114, 115, 116, 117, 118] rfl (by decide +kernel)
set_option maxRecDepth 20000 in
theorem gX8_saysOf_X7_says_n341 : GoodIn wsX8_saysOf (wsX7_says) := ggX8_saysOf_X7_says
theorem dX8_saysOf_0 : decode cX8_saysOf 0 = .ok (.aload_n 0, 1) := by decide +kernel
theorem dX8_saysOf_1 : decode cX8_saysOf 1 = .ok (.getfield 46, 3) := by decide +kernel
theorem dX8_saysOf_4 : decode cX8_saysOf 4 = .ok (.aload_n 1, 1) := by decide +kernel
theorem dX8_saysOf_5 : decode cX8_saysOf 5 = .ok (.aload_n 2, 1) := by decide +kernel
theorem dX8_saysOf_6 : decode cX8_saysOf 6 = .ok (.aload_n 0, 1) := by decide +kernel
theorem dX8_saysOf_7 : decode cX8_saysOf 7 = .ok (.invokevirtual 170, 3) := by decide +kernel
theorem dX8_saysOf_10 : decode cX8_saysOf 10 = .ok (.aload_n 0, 1) := by decide +kernel
theorem dX8_saysOf_11 : decode cX8_saysOf 11 = .ok (.getfield 74, 3) := by decide +kernel
theorem dX8_saysOf_14 : decode cX8_saysOf 14 = .ok (.invokevirtual 341, 3) := by decide +kernel
theorem dX8_saysOf_17 : decode cX8_saysOf 17 = .ok (.ireturn, 1) := by decide +kernel
set_option maxRecDepth 20000 in
theorem ggX8_saysBut_X4_becomeAllBut : GoodIn wsX8_saysBut wsX4_becomeAllBut := goodIn_r _ [7, 8, 9, 10, 11, 5, 12, 13, 109, 110] rfl (by decide +kernel)
set_option maxRecDepth 20000 in
theorem gX8_saysBut_X4_becomeAllBut_n125 : GoodIn wsX8_saysBut (wsX4_becomeAllBut) := ggX8_saysBut_X4_becomeAllBut
set_option maxRecDepth 20000 in
theorem ggX8_saysBut_X7_says : GoodIn wsX8_saysBut wsX7_says := goodIn_r _ [17, 18, 19, 20, 15, 21, 22, 23, 24, 25, 26, 27, 28, 29, 30, 31, 32, 33, 34, 35, 36, 37, 38, 39, 40, 41, 42, 43, 44, 45, 46, 47, 48, 49, 50, 51, 52, 53, 54, 55, 56, 57, 58, 59, 60, 61, 62, 63, 64, 65, 66, 67, 68, 69, 70, 71, 72, 73, 74, 75, 76, 77, 78, 79, 80, 81, 82, 83, 84, 85, 86, 87, 88, 89, 90, 91, 92, 93, 109, 110, 111, 112, 113, 114, 115, 116, 117, 118, 119, 120, 121, 122] rfl (by decide +kernel)
set_option maxRecDepth 20000 in
theorem gX8_saysBut_X7_says_n341 : GoodIn wsX8_saysBut (wsX7_says) := ggX8_saysBut_X7_says
theorem dX8_saysBut_0 : decode cX8_saysBut 0 = .ok (.aload_n 0, 1) := by decide +kernel
theorem dX8_saysBut_1 : decode cX8_saysBut 1 = .ok (.getfield 16, 3) := by decide +kernel
theorem dX8_saysBut_4 : decode cX8_saysBut 4 = .ok (.iload_n 1, 1) := by decide +kernel
theorem dX8_saysBut_5 : decode cX8_saysBut 5 = .ok (.aload_n 0, 1) := by decide +kernel
theorem dX8_saysBut_6 : decode cX8_saysBut 6 = .ok (.getfield 74, 3) := by decide +kernel
theorem dX8_saysBut_9 : decode cX8_saysBut 9 = .ok (.iload_n 2, 1) := by decide +kernel
theorem dX8_saysBut_10 : decode cX8_saysBut 10 = .ok (.invokevirtual 125, 3) := by decide +kernel
theorem dX8_saysBut_13 : decode cX8_saysBut 13 = .ok (.aload_n 0, 1) := by decide +kernel
theorem dX8_saysBut_14 : decode cX8_saysBut 14 = .ok (.getfield 46, 3) := by decide +kernel
theorem dX8_saysBut_17 : decode cX8_saysBut 17 = .ok (.aload_n 3, 1) := by decide +kernel
theorem dX8_saysBut_18 : decode cX8_saysBut 18 = .ok (.aload_n 0, 1) := by decide +kernel
theorem dX8_saysBut_19 : decode cX8_saysBut 19 = .ok (.getfield 16, 3) := by decide +kernel
theorem dX8_saysBut_22 : decode cX8_saysBut 22 = .ok (.aload 4, 2) := by decide +kernel
theorem dX8_saysBut_24 : decode cX8_saysBut 24 = .ok (.aload_n 0, 1) := by decide +kernel
theorem dX8_saysBut_25 : decode cX8_saysBut 25 = .ok (.getfield 74, 3) := by decide +kernel
theorem dX8_saysBut_28 : decode cX8_saysBut 28 = .ok (.invokevirtual 341, 3) := by decide +kernel
theorem dX8_saysBut_31 : decode cX8_saysBut 31 = .ok (.ireturn, 1) := by decide +kernel
set_option maxRecDepth 20000 in
theorem ggX8_countRight_X8_lawText : GoodIn wsX8_countRight wsX8_lawText := goodIn_r _ [6, 7, 8, 105, 106, 107, 108, 109, 110, 111, 112, 113, 114, 115, 116, 117, 118, 119] rfl (by decide +kernel)
set_option maxRecDepth 20000 in
theorem gX8_countRight_X8_lawText : GoodIn wsX8_countRight (wsV RX8 170 RX8 yX8_lawText wsX8_lawText) := goodIn_app (goodIn_of _ (by decide +kernel)) ggX8_countRight_X8_lawText
set_option maxRecDepth 20000 in
theorem ggX8_countRight_X8_saysBut : GoodIn wsX8_countRight wsX8_saysBut := goodIn_r _ [12, 13, 1, 14, 15, 16, 17, 18, 19, 20, 21, 22, 23, 24, 25, 26, 27, 28, 29, 30, 31, 32, 33, 34, 35, 36, 37, 38, 39, 40, 41, 42, 43, 44, 45, 46, 47, 48, 49, 50, 51, 52, 53, 54, 55, 56, 57, 58, 59, 60, 61, 62, 63, 64, 65, 66, 67, 68, 69, 70, 71, 72, 73, 74, 75, 76, 77, 78, 79, 80, 81, 82, 83, 84, 85, 86, 87, 88, 89, 90, 91, 92, 93, 94, 95, 96, 97, 98, 99, 100, 101, 102, 103, 104, 105, 106, 107, 108, 109, 110, 111, 112, 113, 114, 115, 116, 117, 118, 119, 120, 121, 122, 123, 124, 125, 126, 127, 128, 129, 130, 131, 132, 133] rfl (by decide +kernel)
set_option maxRecDepth 20000 in
theorem gX8_countRight_X8_saysBut : GoodIn wsX8_countRight (wsV RX8 234 RX8 yX8_saysBut wsX8_saysBut) := goodIn_app (goodIn_of _ (by decide +kernel)) ggX8_countRight_X8_saysBut
theorem dX8_countRight_0 : decode cX8_countRight 0 = .ok (.iconst 0, 1) := by decide +kernel
theorem dX8_countRight_1 : decode cX8_countRight 1 = .ok (.istore_n 2, 1) := by decide +kernel
theorem dX8_countRight_2 : decode cX8_countRight 2 = .ok (.iconst 1, 1) := by decide +kernel
theorem dX8_countRight_3 : decode cX8_countRight 3 = .ok (.istore_n 3, 1) := by decide +kernel
theorem dX8_countRight_4 : decode cX8_countRight 4 = .ok (.iload_n 3, 1) := by decide +kernel
theorem dX8_countRight_5 : decode cX8_countRight 5 = .ok (.aload_n 0, 1) := by decide +kernel
theorem dX8_countRight_6 : decode cX8_countRight 6 = .ok (.getfield 74, 3) := by decide +kernel
theorem dX8_countRight_9 : decode cX8_countRight 9 = .ok (.if_icmp .gt 27, 3) := by decide +kernel
theorem dX8_countRight_12 : decode cX8_countRight 12 = .ok (.aload_n 0, 1) := by decide +kernel
theorem dX8_countRight_13 : decode cX8_countRight 13 = .ok (.iload_n 3, 1) := by decide +kernel
theorem dX8_countRight_14 : decode cX8_countRight 14 = .ok (.iconst 0, 1) := by decide +kernel
theorem dX8_countRight_15 : decode cX8_countRight 15 = .ok (.aload_n 1, 1) := by decide +kernel
theorem dX8_countRight_16 : decode cX8_countRight 16 = .ok (.aload_n 0, 1) := by decide +kernel
theorem dX8_countRight_17 : decode cX8_countRight 17 = .ok (.invokevirtual 170, 3) := by decide +kernel
theorem dX8_countRight_20 : decode cX8_countRight 20 = .ok (.invokevirtual 234, 3) := by decide +kernel
theorem dX8_countRight_23 : decode cX8_countRight 23 = .ok (.iload_n 3, 1) := by decide +kernel
theorem dX8_countRight_24 : decode cX8_countRight 24 = .ok (.if_icmp .ne 6, 3) := by decide +kernel
theorem dX8_countRight_27 : decode cX8_countRight 27 = .ok (.iinc 2 1, 3) := by decide +kernel
theorem dX8_countRight_30 : decode cX8_countRight 30 = .ok (.iinc 3 1, 3) := by decide +kernel
theorem dX8_countRight_33 : decode cX8_countRight 33 = .ok (.goto (-29), 3) := by decide +kernel
theorem dX8_countRight_36 : decode cX8_countRight 36 = .ok (.iload_n 2, 1) := by decide +kernel
theorem dX8_countRight_37 : decode cX8_countRight 37 = .ok (.ireturn, 1) := by decide +kernel
set_option maxRecDepth 20000 in
theorem ggX8_isRightOfAll_X8_lawText : GoodIn wsX8_isRightOfAll wsX8_lawText := goodIn_r _ [6, 7, 8, 105, 106, 107, 108, 109, 110, 111, 112, 113, 114, 115, 116, 117, 118, 119] rfl (by decide +kernel)
set_option maxRecDepth 20000 in
theorem gX8_isRightOfAll_X8_lawText : GoodIn wsX8_isRightOfAll (wsV RX8 170 RX8 yX8_lawText wsX8_lawText) := goodIn_app (goodIn_of _ (by decide +kernel)) ggX8_isRightOfAll_X8_lawText
set_option maxRecDepth 20000 in
theorem ggX8_isRightOfAll_X8_saysBut : GoodIn wsX8_isRightOfAll wsX8_saysBut := goodIn_r _ [12, 13, 1, 14, 15, 16, 17, 18, 19, 20, 21, 22, 23, 24, 25, 26, 27, 28, 29, 30, 31, 32, 33, 34, 35, 36, 37, 38, 39, 40, 41, 42, 43, 44, 45, 46, 47, 48, 49, 50, 51, 52, 53, 54, 55, 56, 57, 58, 59, 60, 61, 62, 63, 64, 65, 66, 67, 68, 69, 70, 71, 72, 73, 74, 75, 76, 77, 78, 79, 80, 81, 82, 83, 84, 85, 86, 87, 88, 89, 90, 91, 92, 93, 94, 95, 96, 97, 98, 99, 100, 101, 102, 103, 104, 105, 106, 107, 108, 109, 110, 111, 112, 113, 114, 115, 116, 117, 118, 119, 120, 121, 122, 123, 124, 125, 126, 127, 128, 129, 130, 131, 132, 133] rfl (by decide +kernel)
set_option maxRecDepth 20000 in
theorem gX8_isRightOfAll_X8_saysBut : GoodIn wsX8_isRightOfAll (wsV RX8 234 RX8 yX8_saysBut wsX8_saysBut) := goodIn_app (goodIn_of _ (by decide +kernel)) ggX8_isRightOfAll_X8_saysBut
theorem dX8_isRightOfAll_0 : decode cX8_isRightOfAll 0 = .ok (.iconst 1, 1) := by decide +kernel
theorem dX8_isRightOfAll_1 : decode cX8_isRightOfAll 1 = .ok (.istore_n 2, 1) := by decide +kernel
theorem dX8_isRightOfAll_2 : decode cX8_isRightOfAll 2 = .ok (.iload_n 2, 1) := by decide +kernel
theorem dX8_isRightOfAll_3 : decode cX8_isRightOfAll 3 = .ok (.aload_n 0, 1) := by decide +kernel
theorem dX8_isRightOfAll_4 : decode cX8_isRightOfAll 4 = .ok (.getfield 74, 3) := by decide +kernel
theorem dX8_isRightOfAll_7 : decode cX8_isRightOfAll 7 = .ok (.if_icmp .gt 26, 3) := by decide +kernel
theorem dX8_isRightOfAll_10 : decode cX8_isRightOfAll 10 = .ok (.aload_n 0, 1) := by decide +kernel
theorem dX8_isRightOfAll_11 : decode cX8_isRightOfAll 11 = .ok (.iload_n 2, 1) := by decide +kernel
theorem dX8_isRightOfAll_12 : decode cX8_isRightOfAll 12 = .ok (.iconst 0, 1) := by decide +kernel
theorem dX8_isRightOfAll_13 : decode cX8_isRightOfAll 13 = .ok (.aload_n 1, 1) := by decide +kernel
theorem dX8_isRightOfAll_14 : decode cX8_isRightOfAll 14 = .ok (.aload_n 0, 1) := by decide +kernel
theorem dX8_isRightOfAll_15 : decode cX8_isRightOfAll 15 = .ok (.invokevirtual 170, 3) := by decide +kernel
theorem dX8_isRightOfAll_18 : decode cX8_isRightOfAll 18 = .ok (.invokevirtual 234, 3) := by decide +kernel
theorem dX8_isRightOfAll_21 : decode cX8_isRightOfAll 21 = .ok (.iload_n 2, 1) := by decide +kernel
theorem dX8_isRightOfAll_22 : decode cX8_isRightOfAll 22 = .ok (.if_icmp .eq 5, 3) := by decide +kernel
theorem dX8_isRightOfAll_25 : decode cX8_isRightOfAll 25 = .ok (.iconst 0, 1) := by decide +kernel
theorem dX8_isRightOfAll_26 : decode cX8_isRightOfAll 26 = .ok (.ireturn, 1) := by decide +kernel
theorem dX8_isRightOfAll_27 : decode cX8_isRightOfAll 27 = .ok (.iinc 2 1, 3) := by decide +kernel
theorem dX8_isRightOfAll_30 : decode cX8_isRightOfAll 30 = .ok (.goto (-28), 3) := by decide +kernel
theorem dX8_isRightOfAll_33 : decode cX8_isRightOfAll 33 = .ok (.iconst 1, 1) := by decide +kernel
theorem dX8_isRightOfAll_34 : decode cX8_isRightOfAll 34 = .ok (.ireturn, 1) := by decide +kernel
set_option maxRecDepth 20000 in
theorem ggX8_extendPairs_X7_keepPair : GoodIn wsX8_extendPairs wsX7_keepPair := goodIn_r _ [6, 7, 8, 9, 10, 4, 11, 12, 73, 74, 75] rfl (by decide +kernel)
set_option maxRecDepth 20000 in
theorem gX8_extendPairs_X7_keepPair_n345 : GoodIn wsX8_extendPairs (wsX7_keepPair) := ggX8_extendPairs_X7_keepPair
set_option maxRecDepth 20000 in
theorem ggX8_extendPairs_X7_pass : GoodIn wsX8_extendPairs wsX7_pass := goodIn_r _ [15, 16, 17, 18, 19, 20, 21, 22, 23, 24, 4, 25, 12, 26, 27, 28, 29, 30, 31, 32, 33, 34, 35, 36, 37, 38, 39, 40, 41, 42, 43, 44, 45, 46, 47, 48, 49, 50, 51, 52, 53, 54, 8, 9, 10, 11, 76, 77, 78, 79, 80, 73, 74, 75, 81, 82, 83, 84] rfl (by decide +kernel)
set_option maxRecDepth 20000 in
theorem gX8_extendPairs_X7_pass_n348 : GoodIn wsX8_extendPairs (wsX7_pass) := ggX8_extendPairs_X7_pass
set_option maxRecDepth 20000 in
theorem ggX8_extendPairs_X7_pair : GoodIn wsX8_extendPairs wsX7_pair := goodIn_r _ [57, 12, 73, 74, 75] rfl (by decide +kernel)
set_option maxRecDepth 20000 in
theorem gX8_extendPairs_X7_pair_n257 : GoodIn wsX8_extendPairs (wsX7_pair) := ggX8_extendPairs_X7_pair
theorem dX8_extendPairs_0 : decode cX8_extendPairs 0 = .ok (.iload 5, 2) := by decide +kernel
theorem dX8_extendPairs_2 : decode cX8_extendPairs 2 = .ok (.istore 6, 2) := by decide +kernel
theorem dX8_extendPairs_4 : decode cX8_extendPairs 4 = .ok (.iload 4, 2) := by decide +kernel
theorem dX8_extendPairs_6 : decode cX8_extendPairs 6 = .ok (.istore 7, 2) := by decide +kernel
theorem dX8_extendPairs_8 : decode cX8_extendPairs 8 = .ok (.iload 7, 2) := by decide +kernel
theorem dX8_extendPairs_10 : decode cX8_extendPairs 10 = .ok (.iload 5, 2) := by decide +kernel
theorem dX8_extendPairs_12 : decode cX8_extendPairs 12 = .ok (.if_icmp .ge 74, 3) := by decide +kernel
theorem dX8_extendPairs_15 : decode cX8_extendPairs 15 = .ok (.iconst 1, 1) := by decide +kernel
theorem dX8_extendPairs_16 : decode cX8_extendPairs 16 = .ok (.istore 8, 2) := by decide +kernel
theorem dX8_extendPairs_18 : decode cX8_extendPairs 18 = .ok (.iload 8, 2) := by decide +kernel
theorem dX8_extendPairs_20 : decode cX8_extendPairs 20 = .ok (.iload_n 2, 1) := by decide +kernel
theorem dX8_extendPairs_21 : decode cX8_extendPairs 21 = .ok (.if_icmp .gt 59, 3) := by decide +kernel
theorem dX8_extendPairs_24 : decode cX8_extendPairs 24 = .ok (.iload 6, 2) := by decide +kernel
theorem dX8_extendPairs_26 : decode cX8_extendPairs 26 = .ok (.sipush 259, 3) := by decide +kernel
theorem dX8_extendPairs_29 : decode cX8_extendPairs 29 = .ok (.if_icmp .ge 51, 3) := by decide +kernel
theorem dX8_extendPairs_32 : decode cX8_extendPairs 32 = .ok (.aload_n 0, 1) := by decide +kernel
theorem dX8_extendPairs_33 : decode cX8_extendPairs 33 = .ok (.getfield 46, 3) := by decide +kernel
theorem dX8_extendPairs_36 : decode cX8_extendPairs 36 = .ok (.aload_n 0, 1) := by decide +kernel
theorem dX8_extendPairs_37 : decode cX8_extendPairs 37 = .ok (.getfield 57, 3) := by decide +kernel
theorem dX8_extendPairs_40 : decode cX8_extendPairs 40 = .ok (.iload 7, 2) := by decide +kernel
theorem dX8_extendPairs_42 : decode cX8_extendPairs 42 = .ok (.iaload, 1) := by decide +kernel
theorem dX8_extendPairs_43 : decode cX8_extendPairs 43 = .ok (.invokevirtual 345, 3) := by decide +kernel
theorem dX8_extendPairs_46 : decode cX8_extendPairs 46 = .ok (.aload_n 0, 1) := by decide +kernel
theorem dX8_extendPairs_47 : decode cX8_extendPairs 47 = .ok (.getfield 46, 3) := by decide +kernel
theorem dX8_extendPairs_50 : decode cX8_extendPairs 50 = .ok (.aload_n 1, 1) := by decide +kernel
theorem dX8_extendPairs_51 : decode cX8_extendPairs 51 = .ok (.iload 8, 2) := by decide +kernel
theorem dX8_extendPairs_53 : decode cX8_extendPairs 53 = .ok (.iload_n 3, 1) := by decide +kernel
theorem dX8_extendPairs_54 : decode cX8_extendPairs 54 = .ok (.invokevirtual 348, 3) := by decide +kernel
theorem dX8_extendPairs_57 : decode cX8_extendPairs 57 = .ok (.aload_n 0, 1) := by decide +kernel
theorem dX8_extendPairs_58 : decode cX8_extendPairs 58 = .ok (.getfield 57, 3) := by decide +kernel
theorem dX8_extendPairs_61 : decode cX8_extendPairs 61 = .ok (.iload 6, 2) := by decide +kernel
theorem dX8_extendPairs_63 : decode cX8_extendPairs 63 = .ok (.aload_n 0, 1) := by decide +kernel
theorem dX8_extendPairs_64 : decode cX8_extendPairs 64 = .ok (.getfield 46, 3) := by decide +kernel
theorem dX8_extendPairs_67 : decode cX8_extendPairs 67 = .ok (.invokevirtual 257, 3) := by decide +kernel
theorem dX8_extendPairs_70 : decode cX8_extendPairs 70 = .ok (.iastore, 1) := by decide +kernel
theorem dX8_extendPairs_71 : decode cX8_extendPairs 71 = .ok (.iinc 6 1, 3) := by decide +kernel
theorem dX8_extendPairs_74 : decode cX8_extendPairs 74 = .ok (.iinc 8 1, 3) := by decide +kernel
theorem dX8_extendPairs_77 : decode cX8_extendPairs 77 = .ok (.goto (-59), 3) := by decide +kernel
