theorem dX9_tellsOf_50 : decode cX9_tellsOf 50 = .ok (.istore 4, 2) := by decide +kernel
theorem dX9_tellsOf_52 : decode cX9_tellsOf 52 = .ok (.iload 4, 2) := by decide +kernel
theorem dX9_tellsOf_54 : decode cX9_tellsOf 54 = .ok (.ldc 175, 2) := by decide +kernel
theorem dX9_tellsOf_56 : decode cX9_tellsOf 56 = .ok (.if_icmp .ge 10, 3) := by decide +kernel
theorem dX9_tellsOf_59 : decode cX9_tellsOf 59 = .ok (.iload 4, 2) := by decide +kernel
theorem dX9_tellsOf_61 : decode cX9_tellsOf 61 = .ok (.bipush 11, 2) := by decide +kernel
theorem dX9_tellsOf_63 : decode cX9_tellsOf 63 = .ok (.if_icmp .ge 37, 3) := by decide +kernel
theorem dX9_tellsOf_66 : decode cX9_tellsOf 66 = .ok (.aload_n 0, 1) := by decide +kernel
theorem dX9_tellsOf_67 : decode cX9_tellsOf 67 = .ok (.getfield 59, 3) := by decide +kernel
theorem dX9_tellsOf_70 : decode cX9_tellsOf 70 = .ok (.iload_n 2, 1) := by decide +kernel
theorem dX9_tellsOf_71 : decode cX9_tellsOf 71 = .ok (.iload 4, 2) := by decide +kernel
theorem dX9_tellsOf_73 : decode cX9_tellsOf 73 = .ok (.bipush 11, 2) := by decide +kernel
theorem dX9_tellsOf_75 : decode cX9_tellsOf 75 = .ok (.if_icmp .ge 13, 3) := by decide +kernel
theorem dX9_tellsOf_78 : decode cX9_tellsOf 78 = .ok (.aload_n 0, 1) := by decide +kernel
theorem dX9_tellsOf_79 : decode cX9_tellsOf 79 = .ok (.getfield 62, 3) := by decide +kernel
theorem dX9_tellsOf_82 : decode cX9_tellsOf 82 = .ok (.iload 4, 2) := by decide +kernel
theorem dX9_tellsOf_84 : decode cX9_tellsOf 84 = .ok (.iaload, 1) := by decide +kernel
theorem dX9_tellsOf_85 : decode cX9_tellsOf 85 = .ok (.goto 8, 3) := by decide +kernel
theorem dX9_tellsOf_88 : decode cX9_tellsOf 88 = .ok (.iload 4, 2) := by decide +kernel
theorem dX9_tellsOf_90 : decode cX9_tellsOf 90 = .ok (.ldc 175, 2) := by decide +kernel
theorem dX9_tellsOf_92 : decode cX9_tellsOf 92 = .ok (.isub, 1) := by decide +kernel
theorem dX9_tellsOf_93 : decode cX9_tellsOf 93 = .ok (.iastore, 1) := by decide +kernel
theorem dX9_tellsOf_94 : decode cX9_tellsOf 94 = .ok (.iinc 2 1, 3) := by decide +kernel
theorem dX9_tellsOf_97 : decode cX9_tellsOf 97 = .ok (.goto 94, 3) := by decide +kernel
theorem dX9_tellsOf_100 : decode cX9_tellsOf 100 = .ok (.iload 4, 2) := by decide +kernel
theorem dX9_tellsOf_102 : decode cX9_tellsOf 102 = .ok (.bipush 13, 2) := by decide +kernel
theorem dX9_tellsOf_104 : decode cX9_tellsOf 104 = .ok (.if_icmp .ne 30, 3) := by decide +kernel
theorem dX9_tellsOf_107 : decode cX9_tellsOf 107 = .ok (.aload_n 0, 1) := by decide +kernel
theorem dX9_tellsOf_108 : decode cX9_tellsOf 108 = .ok (.getfield 59, 3) := by decide +kernel
theorem dX9_tellsOf_111 : decode cX9_tellsOf 111 = .ok (.iload_n 2, 1) := by decide +kernel
theorem dX9_tellsOf_112 : decode cX9_tellsOf 112 = .ok (.iconst 1, 1) := by decide +kernel
theorem dX9_tellsOf_113 : decode cX9_tellsOf 113 = .ok (.isub, 1) := by decide +kernel
theorem dX9_tellsOf_114 : decode cX9_tellsOf 114 = .ok (.aload_n 0, 1) := by decide +kernel
theorem dX9_tellsOf_115 : decode cX9_tellsOf 115 = .ok (.getfield 59, 3) := by decide +kernel
theorem dX9_tellsOf_118 : decode cX9_tellsOf 118 = .ok (.iload_n 2, 1) := by decide +kernel
theorem dX9_tellsOf_119 : decode cX9_tellsOf 119 = .ok (.iconst 1, 1) := by decide +kernel
theorem dX9_tellsOf_120 : decode cX9_tellsOf 120 = .ok (.isub, 1) := by decide +kernel
theorem dX9_tellsOf_121 : decode cX9_tellsOf 121 = .ok (.iaload, 1) := by decide +kernel
theorem dX9_tellsOf_122 : decode cX9_tellsOf 122 = .ok (.ifCond .ne 7, 3) := by decide +kernel
theorem dX9_tellsOf_125 : decode cX9_tellsOf 125 = .ok (.iconst 1, 1) := by decide +kernel
theorem dX9_tellsOf_126 : decode cX9_tellsOf 126 = .ok (.goto 4, 3) := by decide +kernel
theorem dX9_tellsOf_129 : decode cX9_tellsOf 129 = .ok (.iconst 0, 1) := by decide +kernel
theorem dX9_tellsOf_130 : decode cX9_tellsOf 130 = .ok (.iastore, 1) := by decide +kernel
theorem dX9_tellsOf_131 : decode cX9_tellsOf 131 = .ok (.goto 60, 3) := by decide +kernel
theorem dX9_tellsOf_134 : decode cX9_tellsOf 134 = .ok (.iload 4, 2) := by decide +kernel
theorem dX9_tellsOf_136 : decode cX9_tellsOf 136 = .ok (.bipush 19, 2) := by decide +kernel
theorem dX9_tellsOf_138 : decode cX9_tellsOf 138 = .ok (.if_icmp .ne 23, 3) := by decide +kernel
theorem dX9_tellsOf_141 : decode cX9_tellsOf 141 = .ok (.aload_n 0, 1) := by decide +kernel
theorem dX9_tellsOf_142 : decode cX9_tellsOf 142 = .ok (.getfield 59, 3) := by decide +kernel
theorem dX9_tellsOf_145 : decode cX9_tellsOf 145 = .ok (.iload_n 2, 1) := by decide +kernel
theorem dX9_tellsOf_146 : decode cX9_tellsOf 146 = .ok (.iconst 1, 1) := by decide +kernel
theorem dX9_tellsOf_147 : decode cX9_tellsOf 147 = .ok (.isub, 1) := by decide +kernel
theorem dX9_tellsOf_148 : decode cX9_tellsOf 148 = .ok (.aload_n 0, 1) := by decide +kernel
theorem dX9_tellsOf_149 : decode cX9_tellsOf 149 = .ok (.getfield 59, 3) := by decide +kernel
theorem dX9_tellsOf_152 : decode cX9_tellsOf 152 = .ok (.iload_n 2, 1) := by decide +kernel
theorem dX9_tellsOf_153 : decode cX9_tellsOf 153 = .ok (.iconst 1, 1) := by decide +kernel
theorem dX9_tellsOf_154 : decode cX9_tellsOf 154 = .ok (.isub, 1) := by decide +kernel
theorem dX9_tellsOf_155 : decode cX9_tellsOf 155 = .ok (.iaload, 1) := by decide +kernel
theorem dX9_tellsOf_156 : decode cX9_tellsOf 156 = .ok (.ineg, 1) := by decide +kernel
theorem dX9_tellsOf_157 : decode cX9_tellsOf 157 = .ok (.iastore, 1) := by decide +kernel
theorem dX9_tellsOf_158 : decode cX9_tellsOf 158 = .ok (.goto 33, 3) := by decide +kernel
theorem dX9_tellsOf_161 : decode cX9_tellsOf 161 = .ok (.iinc 2 (-1), 3) := by decide +kernel
theorem dX9_tellsOf_164 : decode cX9_tellsOf 164 = .ok (.aload_n 0, 1) := by decide +kernel
theorem dX9_tellsOf_165 : decode cX9_tellsOf 165 = .ok (.getfield 59, 3) := by decide +kernel
theorem dX9_tellsOf_168 : decode cX9_tellsOf 168 = .ok (.iload_n 2, 1) := by decide +kernel
theorem dX9_tellsOf_169 : decode cX9_tellsOf 169 = .ok (.iconst 1, 1) := by decide +kernel
theorem dX9_tellsOf_170 : decode cX9_tellsOf 170 = .ok (.isub, 1) := by decide +kernel
theorem dX9_tellsOf_171 : decode cX9_tellsOf 171 = .ok (.iload 4, 2) := by decide +kernel
theorem dX9_tellsOf_173 : decode cX9_tellsOf 173 = .ok (.aload_n 0, 1) := by decide +kernel
theorem dX9_tellsOf_174 : decode cX9_tellsOf 174 = .ok (.getfield 59, 3) := by decide +kernel
theorem dX9_tellsOf_177 : decode cX9_tellsOf 177 = .ok (.iload_n 2, 1) := by decide +kernel
theorem dX9_tellsOf_178 : decode cX9_tellsOf 178 = .ok (.iconst 1, 1) := by decide +kernel
theorem dX9_tellsOf_179 : decode cX9_tellsOf 179 = .ok (.isub, 1) := by decide +kernel
theorem dX9_tellsOf_180 : decode cX9_tellsOf 180 = .ok (.iaload, 1) := by decide +kernel
theorem dX9_tellsOf_181 : decode cX9_tellsOf 181 = .ok (.aload_n 0, 1) := by decide +kernel
theorem dX9_tellsOf_182 : decode cX9_tellsOf 182 = .ok (.getfield 59, 3) := by decide +kernel
theorem dX9_tellsOf_185 : decode cX9_tellsOf 185 = .ok (.iload_n 2, 1) := by decide +kernel
theorem dX9_tellsOf_186 : decode cX9_tellsOf 186 = .ok (.iaload, 1) := by decide +kernel
theorem dX9_tellsOf_187 : decode cX9_tellsOf 187 = .ok (.invokestatic 189, 3) := by decide +kernel
theorem dX9_tellsOf_190 : decode cX9_tellsOf 190 = .ok (.iastore, 1) := by decide +kernel
theorem dX9_tellsOf_191 : decode cX9_tellsOf 191 = .ok (.iinc 3 1, 3) := by decide +kernel
theorem dX9_tellsOf_194 : decode cX9_tellsOf 194 = .ok (.goto (-178), 3) := by decide +kernel
theorem dX9_tellsOf_197 : decode cX9_tellsOf 197 = .ok (.aload_n 0, 1) := by decide +kernel
theorem dX9_tellsOf_198 : decode cX9_tellsOf 198 = .ok (.getfield 59, 3) := by decide +kernel
theorem dX9_tellsOf_201 : decode cX9_tellsOf 201 = .ok (.iconst 0, 1) := by decide +kernel
theorem dX9_tellsOf_202 : decode cX9_tellsOf 202 = .ok (.iaload, 1) := by decide +kernel
theorem dX9_tellsOf_203 : decode cX9_tellsOf 203 = .ok (.ireturn, 1) := by decide +kernel
set_option maxRecDepth 20000 in
theorem ggX9_force_X9_in : GoodIn wsX9_force wsX9_in := goodIn_r _ [6] rfl (by decide +kernel)
set_option maxRecDepth 20000 in
theorem gX9_force_X9_in : GoodIn wsX9_force (va_wsS RX9 78 yX9_in wsX9_in) := goodIn_app (goodIn_of _ (by decide +kernel)) ggX9_force_X9_in
theorem dX9_force_0 : decode cX9_force 0 = .ok (.iload_n 1, 1) := by decide +kernel
theorem dX9_force_1 : decode cX9_force 1 = .ok (.iconst 0, 1) := by decide +kernel
theorem dX9_force_2 : decode cX9_force 2 = .ok (.aload_n 0, 1) := by decide +kernel
theorem dX9_force_3 : decode cX9_force 3 = .ok (.getfield 88, 3) := by decide +kernel
theorem dX9_force_6 : decode cX9_force 6 = .ok (.iconst 1, 1) := by decide +kernel
theorem dX9_force_7 : decode cX9_force 7 = .ok (.isub, 1) := by decide +kernel
theorem dX9_force_8 : decode cX9_force 8 = .ok (.invokestatic 78, 3) := by decide +kernel
theorem dX9_force_11 : decode cX9_force 11 = .ok (.ifCond .ne 6, 3) := by decide +kernel
theorem dX9_force_14 : decode cX9_force 14 = .ok (.bipush (-2), 2) := by decide +kernel
theorem dX9_force_16 : decode cX9_force 16 = .ok (.ireturn, 1) := by decide +kernel
theorem dX9_force_17 : decode cX9_force 17 = .ok (.aload_n 0, 1) := by decide +kernel
theorem dX9_force_18 : decode cX9_force 18 = .ok (.getfield 91, 3) := by decide +kernel
theorem dX9_force_21 : decode cX9_force 21 = .ok (.istore_n 2, 1) := by decide +kernel
theorem dX9_force_22 : decode cX9_force 22 = .ok (.aload_n 0, 1) := by decide +kernel
theorem dX9_force_23 : decode cX9_force 23 = .ok (.iload_n 1, 1) := by decide +kernel
theorem dX9_force_24 : decode cX9_force 24 = .ok (.putfield 91, 3) := by decide +kernel
theorem dX9_force_27 : decode cX9_force 27 = .ok (.iload_n 2, 1) := by decide +kernel
theorem dX9_force_28 : decode cX9_force 28 = .ok (.ireturn, 1) := by decide +kernel
set_option maxRecDepth 20000 in
theorem ggX9_asksOf_X9_tellsOf : GoodIn wsX9_asksOf wsX9_tellsOf := goodIn_r _ [7, 8, 9, 10, 11, 12, 1, 13, 14, 6, 15, 16, 17, 18, 19, 20, 21, 22, 23, 24, 25, 26, 27, 28, 29, 30, 31, 32, 33, 34, 35, 36, 37, 38, 39, 40, 41, 42, 43, 44, 45, 46, 47, 48, 49, 50, 51, 52, 53, 54, 55, 56] rfl (by decide +kernel)
set_option maxRecDepth 20000 in
theorem gX9_asksOf_X9_tellsOf : GoodIn wsX9_asksOf (wsV RX9 193 RX9 yX9_tellsOf wsX9_tellsOf) := goodIn_app (goodIn_of _ (by decide +kernel)) ggX9_asksOf_X9_tellsOf
theorem dX9_asksOf_0 : decode cX9_asksOf 0 = .ok (.aload_n 0, 1) := by decide +kernel
theorem dX9_asksOf_1 : decode cX9_asksOf 1 = .ok (.getfield 62, 3) := by decide +kernel
theorem dX9_asksOf_4 : decode cX9_asksOf 4 = .ok (.iconst 0, 1) := by decide +kernel
theorem dX9_asksOf_5 : decode cX9_asksOf 5 = .ok (.iload_n 2, 1) := by decide +kernel
theorem dX9_asksOf_6 : decode cX9_asksOf 6 = .ok (.iastore, 1) := by decide +kernel
theorem dX9_asksOf_7 : decode cX9_asksOf 7 = .ok (.aload_n 0, 1) := by decide +kernel
theorem dX9_asksOf_8 : decode cX9_asksOf 8 = .ok (.getfield 62, 3) := by decide +kernel
theorem dX9_asksOf_11 : decode cX9_asksOf 11 = .ok (.iconst 1, 1) := by decide +kernel
theorem dX9_asksOf_12 : decode cX9_asksOf 12 = .ok (.iload_n 3, 1) := by decide +kernel
theorem dX9_asksOf_13 : decode cX9_asksOf 13 = .ok (.iastore, 1) := by decide +kernel
theorem dX9_asksOf_14 : decode cX9_asksOf 14 = .ok (.aload_n 0, 1) := by decide +kernel
theorem dX9_asksOf_15 : decode cX9_asksOf 15 = .ok (.getfield 62, 3) := by decide +kernel
theorem dX9_asksOf_18 : decode cX9_asksOf 18 = .ok (.iconst 2, 1) := by decide +kernel
theorem dX9_asksOf_19 : decode cX9_asksOf 19 = .ok (.iload 4, 2) := by decide +kernel
theorem dX9_asksOf_21 : decode cX9_asksOf 21 = .ok (.iastore, 1) := by decide +kernel
theorem dX9_asksOf_22 : decode cX9_asksOf 22 = .ok (.aload_n 0, 1) := by decide +kernel
theorem dX9_asksOf_23 : decode cX9_asksOf 23 = .ok (.getfield 62, 3) := by decide +kernel
theorem dX9_asksOf_26 : decode cX9_asksOf 26 = .ok (.iconst 3, 1) := by decide +kernel
theorem dX9_asksOf_27 : decode cX9_asksOf 27 = .ok (.iload 5, 2) := by decide +kernel
theorem dX9_asksOf_29 : decode cX9_asksOf 29 = .ok (.iastore, 1) := by decide +kernel
theorem dX9_asksOf_30 : decode cX9_asksOf 30 = .ok (.aload_n 0, 1) := by decide +kernel
theorem dX9_asksOf_31 : decode cX9_asksOf 31 = .ok (.getfield 62, 3) := by decide +kernel
theorem dX9_asksOf_34 : decode cX9_asksOf 34 = .ok (.iconst 4, 1) := by decide +kernel
theorem dX9_asksOf_35 : decode cX9_asksOf 35 = .ok (.aload_n 0, 1) := by decide +kernel
theorem dX9_asksOf_36 : decode cX9_asksOf 36 = .ok (.getfield 7, 3) := by decide +kernel
theorem dX9_asksOf_39 : decode cX9_asksOf 39 = .ok (.iastore, 1) := by decide +kernel
theorem dX9_asksOf_40 : decode cX9_asksOf 40 = .ok (.aload_n 0, 1) := by decide +kernel
theorem dX9_asksOf_41 : decode cX9_asksOf 41 = .ok (.getfield 62, 3) := by decide +kernel
theorem dX9_asksOf_44 : decode cX9_asksOf 44 = .ok (.iconst 5, 1) := by decide +kernel
theorem dX9_asksOf_45 : decode cX9_asksOf 45 = .ok (.iload 6, 2) := by decide +kernel
theorem dX9_asksOf_47 : decode cX9_asksOf 47 = .ok (.iastore, 1) := by decide +kernel
theorem dX9_asksOf_48 : decode cX9_asksOf 48 = .ok (.aload_n 0, 1) := by decide +kernel
theorem dX9_asksOf_49 : decode cX9_asksOf 49 = .ok (.iload_n 1, 1) := by decide +kernel
theorem dX9_asksOf_50 : decode cX9_asksOf 50 = .ok (.invokevirtual 193, 3) := by decide +kernel
theorem dX9_asksOf_53 : decode cX9_asksOf 53 = .ok (.ireturn, 1) := by decide +kernel
set_option maxRecDepth 20000 in
theorem ggX9_asks_X9_in : GoodIn wsX9_asks wsX9_in := goodIn_r _ [8] rfl (by decide +kernel)
set_option maxRecDepth 20000 in
theorem gX9_asks_X9_in : GoodIn wsX9_asks (va_wsS RX9 78 yX9_in wsX9_in) := goodIn_app (goodIn_of _ (by decide +kernel)) ggX9_asks_X9_in
set_option maxRecDepth 20000 in
theorem ggX9_asks_X9_asksOf : GoodIn wsX9_asks wsX9_asksOf := goodIn_r _ [12, 13, 14, 15, 16, 17, 7, 18, 19, 20, 21, 22, 23, 24, 25, 26, 30, 31, 32, 33, 34, 35, 36, 37, 38, 39, 40, 41, 42, 43, 44, 45, 46, 47, 48, 49, 50, 51, 52, 53, 54, 55, 56, 57, 58, 59, 60, 61, 62, 63, 64, 65, 66, 67, 68, 69, 70] rfl (by decide +kernel)
set_option maxRecDepth 20000 in
theorem gX9_asks_X9_asksOf : GoodIn wsX9_asks (wsV RX9 198 RX9 yX9_asksOf wsX9_asksOf) := goodIn_app (goodIn_of _ (by decide +kernel)) ggX9_asks_X9_asksOf
set_option maxRecDepth 20000 in
theorem ggX9_asks_X9_within : GoodIn wsX9_asks wsX9_within := goodIn_r _ [29] rfl (by decide +kernel)
set_option maxRecDepth 20000 in
theorem gX9_asks_X9_within : GoodIn wsX9_asks (va_wsS RX9 204 yX9_within wsX9_within) := goodIn_app (goodIn_of _ (by decide +kernel)) ggX9_asks_X9_within
theorem dX9_asks_0 : decode cX9_asks 0 = .ok (.iload_n 1, 1) := by decide +kernel
theorem dX9_asks_1 : decode cX9_asks 1 = .ok (.iconst 0, 1) := by decide +kernel
theorem dX9_asks_2 : decode cX9_asks 2 = .ok (.iconst 2, 1) := by decide +kernel
theorem dX9_asks_3 : decode cX9_asks 3 = .ok (.invokestatic 78, 3) := by decide +kernel
theorem dX9_asks_6 : decode cX9_asks 6 = .ok (.ifCond .eq 50, 3) := by decide +kernel
theorem dX9_asks_9 : decode cX9_asks 9 = .ok (.iload_n 2, 1) := by decide +kernel
theorem dX9_asks_10 : decode cX9_asks 10 = .ok (.iconst 0, 1) := by decide +kernel
theorem dX9_asks_11 : decode cX9_asks 11 = .ok (.ldc 196, 2) := by decide +kernel
theorem dX9_asks_13 : decode cX9_asks 13 = .ok (.invokestatic 78, 3) := by decide +kernel
theorem dX9_asks_16 : decode cX9_asks 16 = .ok (.ifCond .eq 40, 3) := by decide +kernel
theorem dX9_asks_19 : decode cX9_asks 19 = .ok (.iload_n 3, 1) := by decide +kernel
theorem dX9_asks_20 : decode cX9_asks 20 = .ok (.iconst 0, 1) := by decide +kernel
theorem dX9_asks_21 : decode cX9_asks 21 = .ok (.ldc 196, 2) := by decide +kernel
theorem dX9_asks_23 : decode cX9_asks 23 = .ok (.invokestatic 78, 3) := by decide +kernel
theorem dX9_asks_26 : decode cX9_asks 26 = .ok (.ifCond .eq 30, 3) := by decide +kernel
theorem dX9_asks_29 : decode cX9_asks 29 = .ok (.iload 4, 2) := by decide +kernel
theorem dX9_asks_31 : decode cX9_asks 31 = .ok (.iconst 0, 1) := by decide +kernel
theorem dX9_asks_32 : decode cX9_asks 32 = .ok (.ldc 197, 2) := by decide +kernel
theorem dX9_asks_34 : decode cX9_asks 34 = .ok (.invokestatic 78, 3) := by decide +kernel
theorem dX9_asks_37 : decode cX9_asks 37 = .ok (.ifCond .eq 19, 3) := by decide +kernel
theorem dX9_asks_40 : decode cX9_asks 40 = .ok (.iload 4, 2) := by decide +kernel
theorem dX9_asks_42 : decode cX9_asks 42 = .ok (.sipush 1000, 3) := by decide +kernel
theorem dX9_asks_45 : decode cX9_asks 45 = .ok (.irem, 1) := by decide +kernel
theorem dX9_asks_46 : decode cX9_asks 46 = .ok (.sipush 600, 3) := by decide +kernel
theorem dX9_asks_49 : decode cX9_asks 49 = .ok (.if_icmp .ge 7, 3) := by decide +kernel
theorem dX9_asks_52 : decode cX9_asks 52 = .ok (.iconst 1, 1) := by decide +kernel
theorem dX9_asks_53 : decode cX9_asks 53 = .ok (.goto 4, 3) := by decide +kernel
theorem dX9_asks_56 : decode cX9_asks 56 = .ok (.iconst 0, 1) := by decide +kernel
theorem dX9_asks_57 : decode cX9_asks 57 = .ok (.istore 5, 2) := by decide +kernel
theorem dX9_asks_59 : decode cX9_asks 59 = .ok (.iload 5, 2) := by decide +kernel
theorem dX9_asks_61 : decode cX9_asks 61 = .ok (.ifCond .eq 39, 3) := by decide +kernel
theorem dX9_asks_64 : decode cX9_asks 64 = .ok (.aload_n 0, 1) := by decide +kernel
theorem dX9_asks_65 : decode cX9_asks 65 = .ok (.iload_n 1, 1) := by decide +kernel
theorem dX9_asks_66 : decode cX9_asks 66 = .ok (.iload_n 2, 1) := by decide +kernel
theorem dX9_asks_67 : decode cX9_asks 67 = .ok (.iload_n 3, 1) := by decide +kernel
theorem dX9_asks_68 : decode cX9_asks 68 = .ok (.iload 4, 2) := by decide +kernel
theorem dX9_asks_70 : decode cX9_asks 70 = .ok (.sipush 1000, 3) := by decide +kernel
theorem dX9_asks_73 : decode cX9_asks 73 = .ok (.idiv, 1) := by decide +kernel
theorem dX9_asks_74 : decode cX9_asks 74 = .ok (.iload 4, 2) := by decide +kernel
theorem dX9_asks_76 : decode cX9_asks 76 = .ok (.bipush 10, 2) := by decide +kernel
theorem dX9_asks_78 : decode cX9_asks 78 = .ok (.idiv, 1) := by decide +kernel
theorem dX9_asks_79 : decode cX9_asks 79 = .ok (.bipush 100, 2) := by decide +kernel
theorem dX9_asks_81 : decode cX9_asks 81 = .ok (.irem, 1) := by decide +kernel
theorem dX9_asks_82 : decode cX9_asks 82 = .ok (.iload 4, 2) := by decide +kernel
theorem dX9_asks_84 : decode cX9_asks 84 = .ok (.bipush 10, 2) := by decide +kernel
theorem dX9_asks_86 : decode cX9_asks 86 = .ok (.irem, 1) := by decide +kernel
theorem dX9_asks_87 : decode cX9_asks 87 = .ok (.invokevirtual 198, 3) := by decide +kernel
theorem dX9_asks_90 : decode cX9_asks 90 = .ok (.ldc 202, 2) := by decide +kernel
theorem dX9_asks_92 : decode cX9_asks 92 = .ok (.ldc 203, 2) := by decide +kernel
theorem dX9_asks_94 : decode cX9_asks 94 = .ok (.invokestatic 204, 3) := by decide +kernel
theorem dX9_asks_97 : decode cX9_asks 97 = .ok (.goto 5, 3) := by decide +kernel
theorem dX9_asks_100 : decode cX9_asks 100 = .ok (.bipush (-2), 2) := by decide +kernel
theorem dX9_asks_102 : decode cX9_asks 102 = .ok (.ireturn, 1) := by decide +kernel
set_option maxRecDepth 20000 in
theorem ggX9_head_X9_in : GoodIn wsX9_head wsX9_in := goodIn_r _ [9] rfl (by decide +kernel)
set_option maxRecDepth 20000 in
theorem gX9_head_X9_in : GoodIn wsX9_head (va_wsS RX9 78 yX9_in wsX9_in) := goodIn_app (goodIn_of _ (by decide +kernel)) ggX9_head_X9_in
theorem dX9_head_0 : decode cX9_head 0 = .ok (.iload_n 1, 1) := by decide +kernel
theorem dX9_head_1 : decode cX9_head 1 = .ok (.iconst 0, 1) := by decide +kernel
theorem dX9_head_2 : decode cX9_head 2 = .ok (.bipush 59, 2) := by decide +kernel
theorem dX9_head_4 : decode cX9_head 4 = .ok (.invokestatic 78, 3) := by decide +kernel
theorem dX9_head_7 : decode cX9_head 7 = .ok (.ifCond .eq 23, 3) := by decide +kernel
theorem dX9_head_10 : decode cX9_head 10 = .ok (.iload_n 2, 1) := by decide +kernel
theorem dX9_head_11 : decode cX9_head 11 = .ok (.iconst 1, 1) := by decide +kernel
theorem dX9_head_12 : decode cX9_head 12 = .ok (.bipush 16, 2) := by decide +kernel
theorem dX9_head_14 : decode cX9_head 14 = .ok (.invokestatic 78, 3) := by decide +kernel
theorem dX9_head_17 : decode cX9_head 17 = .ok (.ifCond .eq 13, 3) := by decide +kernel
theorem dX9_head_20 : decode cX9_head 20 = .ok (.iload_n 3, 1) := by decide +kernel
theorem dX9_head_21 : decode cX9_head 21 = .ok (.iconst 0, 1) := by decide +kernel
theorem dX9_head_22 : decode cX9_head 22 = .ok (.ldc 196, 2) := by decide +kernel
theorem dX9_head_24 : decode cX9_head 24 = .ok (.invokestatic 78, 3) := by decide +kernel
theorem dX9_head_27 : decode cX9_head 27 = .ok (.ifCond .ne 6, 3) := by decide +kernel
theorem dX9_head_30 : decode cX9_head 30 = .ok (.bipush (-2), 2) := by decide +kernel
theorem dX9_head_32 : decode cX9_head 32 = .ok (.ireturn, 1) := by decide +kernel
theorem dX9_head_33 : decode cX9_head 33 = .ok (.aload_n 0, 1) := by decide +kernel
theorem dX9_head_34 : decode cX9_head 34 = .ok (.getfield 82, 3) := by decide +kernel
theorem dX9_head_37 : decode cX9_head 37 = .ok (.iconst 5, 1) := by decide +kernel
theorem dX9_head_38 : decode cX9_head 38 = .ok (.if_icmp .ne 6, 3) := by decide +kernel
theorem dX9_head_41 : decode cX9_head 41 = .ok (.bipush (-4), 2) := by decide +kernel
theorem dX9_head_43 : decode cX9_head 43 = .ok (.ireturn, 1) := by decide +kernel
theorem dX9_head_44 : decode cX9_head 44 = .ok (.aload_n 0, 1) := by decide +kernel
theorem dX9_head_45 : decode cX9_head 45 = .ok (.getfield 17, 3) := by decide +kernel
theorem dX9_head_48 : decode cX9_head 48 = .ok (.aload_n 0, 1) := by decide +kernel
theorem dX9_head_49 : decode cX9_head 49 = .ok (.getfield 82, 3) := by decide +kernel
theorem dX9_head_52 : decode cX9_head 52 = .ok (.iload_n 1, 1) := by decide +kernel
theorem dX9_head_53 : decode cX9_head 53 = .ok (.bipush 10, 2) := by decide +kernel
theorem dX9_head_55 : decode cX9_head 55 = .ok (.idiv, 1) := by decide +kernel
theorem dX9_head_56 : decode cX9_head 56 = .ok (.iastore, 1) := by decide +kernel
theorem dX9_head_57 : decode cX9_head 57 = .ok (.aload_n 0, 1) := by decide +kernel
theorem dX9_head_58 : decode cX9_head 58 = .ok (.getfield 20, 3) := by decide +kernel
theorem dX9_head_61 : decode cX9_head 61 = .ok (.aload_n 0, 1) := by decide +kernel
theorem dX9_head_62 : decode cX9_head 62 = .ok (.getfield 82, 3) := by decide +kernel
theorem dX9_head_65 : decode cX9_head 65 = .ok (.iload_n 1, 1) := by decide +kernel
theorem dX9_head_66 : decode cX9_head 66 = .ok (.bipush 10, 2) := by decide +kernel
theorem dX9_head_68 : decode cX9_head 68 = .ok (.irem, 1) := by decide +kernel
theorem dX9_head_69 : decode cX9_head 69 = .ok (.iastore, 1) := by decide +kernel
theorem dX9_head_70 : decode cX9_head 70 = .ok (.aload_n 0, 1) := by decide +kernel
theorem dX9_head_71 : decode cX9_head 71 = .ok (.getfield 23, 3) := by decide +kernel
theorem dX9_head_74 : decode cX9_head 74 = .ok (.iconst 3, 1) := by decide +kernel
theorem dX9_head_75 : decode cX9_head 75 = .ok (.aload_n 0, 1) := by decide +kernel
theorem dX9_head_76 : decode cX9_head 76 = .ok (.getfield 82, 3) := by decide +kernel
theorem dX9_head_79 : decode cX9_head 79 = .ok (.imul, 1) := by decide +kernel
theorem dX9_head_80 : decode cX9_head 80 = .ok (.iload_n 2, 1) := by decide +kernel
theorem dX9_head_81 : decode cX9_head 81 = .ok (.iastore, 1) := by decide +kernel
theorem dX9_head_82 : decode cX9_head 82 = .ok (.aload_n 0, 1) := by decide +kernel
theorem dX9_head_83 : decode cX9_head 83 = .ok (.getfield 23, 3) := by decide +kernel
theorem dX9_head_86 : decode cX9_head 86 = .ok (.iconst 3, 1) := by decide +kernel
theorem dX9_head_87 : decode cX9_head 87 = .ok (.aload_n 0, 1) := by decide +kernel
theorem dX9_head_88 : decode cX9_head 88 = .ok (.getfield 82, 3) := by decide +kernel
theorem dX9_head_91 : decode cX9_head 91 = .ok (.imul, 1) := by decide +kernel
theorem dX9_head_92 : decode cX9_head 92 = .ok (.iconst 1, 1) := by decide +kernel
theorem dX9_head_93 : decode cX9_head 93 = .ok (.iadd, 1) := by decide +kernel
theorem dX9_head_94 : decode cX9_head 94 = .ok (.iload_n 3, 1) := by decide +kernel
theorem dX9_head_95 : decode cX9_head 95 = .ok (.iastore, 1) := by decide +kernel
theorem dX9_head_96 : decode cX9_head 96 = .ok (.aload_n 0, 1) := by decide +kernel
theorem dX9_head_97 : decode cX9_head 97 = .ok (.getfield 23, 3) := by decide +kernel
theorem dX9_head_100 : decode cX9_head 100 = .ok (.iconst 3, 1) := by decide +kernel
theorem dX9_head_101 : decode cX9_head 101 = .ok (.aload_n 0, 1) := by decide +kernel
theorem dX9_head_102 : decode cX9_head 102 = .ok (.getfield 82, 3) := by decide +kernel
theorem dX9_head_105 : decode cX9_head 105 = .ok (.imul, 1) := by decide +kernel
theorem dX9_head_106 : decode cX9_head 106 = .ok (.iconst 2, 1) := by decide +kernel
theorem dX9_head_107 : decode cX9_head 107 = .ok (.iadd, 1) := by decide +kernel
theorem dX9_head_108 : decode cX9_head 108 = .ok (.iconst 0, 1) := by decide +kernel
theorem dX9_head_109 : decode cX9_head 109 = .ok (.iastore, 1) := by decide +kernel
theorem dX9_head_110 : decode cX9_head 110 = .ok (.aload_n 0, 1) := by decide +kernel
theorem dX9_head_111 : decode cX9_head 111 = .ok (.dup, 1) := by decide +kernel
theorem dX9_head_112 : decode cX9_head 112 = .ok (.getfield 82, 3) := by decide +kernel
theorem dX9_head_115 : decode cX9_head 115 = .ok (.iconst 1, 1) := by decide +kernel
theorem dX9_head_116 : decode cX9_head 116 = .ok (.iadd, 1) := by decide +kernel
theorem dX9_head_117 : decode cX9_head 117 = .ok (.putfield 82, 3) := by decide +kernel
theorem dX9_head_120 : decode cX9_head 120 = .ok (.aload_n 0, 1) := by decide +kernel
theorem dX9_head_121 : decode cX9_head 121 = .ok (.getfield 82, 3) := by decide +kernel
theorem dX9_head_124 : decode cX9_head 124 = .ok (.iconst 1, 1) := by decide +kernel
theorem dX9_head_125 : decode cX9_head 125 = .ok (.isub, 1) := by decide +kernel
theorem dX9_head_126 : decode cX9_head 126 = .ok (.ireturn, 1) := by decide +kernel
set_option maxRecDepth 20000 in
theorem ggX9_set_X9_isHead : GoodIn wsX9_set wsX9_isHead := goodIn_r _ [7, 8, 9, 10, 6, 11, 12, 13, 14, 15, 16, 17, 18, 19, 20, 21, 22, 23, 24, 25, 26, 27, 28, 29, 30, 31, 32, 33, 34, 35, 36, 37, 38, 39, 40, 41, 42, 43, 44, 45, 46, 47, 48, 49, 50, 51, 52] rfl (by decide +kernel)
set_option maxRecDepth 20000 in
theorem gX9_set_X9_isHead : GoodIn wsX9_set (wsV RX9 207 RX9 yX9_isHead wsX9_isHead) := goodIn_app (goodIn_of _ (by decide +kernel)) ggX9_set_X9_isHead
set_option maxRecDepth 20000 in
theorem ggX9_set_X9_in : GoodIn wsX9_set wsX9_in := goodIn_r _ [11] rfl (by decide +kernel)
set_option maxRecDepth 20000 in
theorem gX9_set_X9_in : GoodIn wsX9_set (va_wsS RX9 78 yX9_in wsX9_in) := goodIn_app (goodIn_of _ (by decide +kernel)) ggX9_set_X9_in
theorem dX9_set_0 : decode cX9_set 0 = .ok (.aload_n 0, 1) := by decide +kernel
theorem dX9_set_1 : decode cX9_set 1 = .ok (.iload_n 1, 1) := by decide +kernel
theorem dX9_set_2 : decode cX9_set 2 = .ok (.invokevirtual 207, 3) := by decide +kernel
theorem dX9_set_5 : decode cX9_set 5 = .ok (.ifCond .ne 6, 3) := by decide +kernel
theorem dX9_set_8 : decode cX9_set 8 = .ok (.bipush (-5), 2) := by decide +kernel
theorem dX9_set_10 : decode cX9_set 10 = .ok (.ireturn, 1) := by decide +kernel
theorem dX9_set_11 : decode cX9_set 11 = .ok (.iload_n 2, 1) := by decide +kernel
theorem dX9_set_12 : decode cX9_set 12 = .ok (.iconst 0, 1) := by decide +kernel
theorem dX9_set_13 : decode cX9_set 13 = .ok (.iconst 2, 1) := by decide +kernel
theorem dX9_set_14 : decode cX9_set 14 = .ok (.invokestatic 78, 3) := by decide +kernel
theorem dX9_set_17 : decode cX9_set 17 = .ok (.ifCond .eq 30, 3) := by decide +kernel
theorem dX9_set_20 : decode cX9_set 20 = .ok (.iload_n 3, 1) := by decide +kernel
theorem dX9_set_21 : decode cX9_set 21 = .ok (.iload_n 2, 1) := by decide +kernel
theorem dX9_set_22 : decode cX9_set 22 = .ok (.ifCond .ne 7, 3) := by decide +kernel
theorem dX9_set_25 : decode cX9_set 25 = .ok (.iconst 1, 1) := by decide +kernel
theorem dX9_set_26 : decode cX9_set 26 = .ok (.goto 4, 3) := by decide +kernel
theorem dX9_set_29 : decode cX9_set 29 = .ok (.iconst 0, 1) := by decide +kernel
theorem dX9_set_30 : decode cX9_set 30 = .ok (.iload_n 2, 1) := by decide +kernel
theorem dX9_set_31 : decode cX9_set 31 = .ok (.ifCond .ne 8, 3) := by decide +kernel
theorem dX9_set_34 : decode cX9_set 34 = .ok (.bipush 16, 2) := by decide +kernel
theorem dX9_set_36 : decode cX9_set 36 = .ok (.goto 5, 3) := by decide +kernel
theorem dX9_set_39 : decode cX9_set 39 = .ok (.ldc 196, 2) := by decide +kernel
theorem dX9_set_41 : decode cX9_set 41 = .ok (.invokestatic 78, 3) := by decide +kernel
theorem dX9_set_44 : decode cX9_set 44 = .ok (.ifCond .ne 6, 3) := by decide +kernel
theorem dX9_set_47 : decode cX9_set 47 = .ok (.bipush (-7), 2) := by decide +kernel
theorem dX9_set_49 : decode cX9_set 49 = .ok (.ireturn, 1) := by decide +kernel
theorem dX9_set_50 : decode cX9_set 50 = .ok (.aload_n 0, 1) := by decide +kernel
theorem dX9_set_51 : decode cX9_set 51 = .ok (.getfield 23, 3) := by decide +kernel
theorem dX9_set_54 : decode cX9_set 54 = .ok (.iconst 3, 1) := by decide +kernel
theorem dX9_set_55 : decode cX9_set 55 = .ok (.iload_n 1, 1) := by decide +kernel
theorem dX9_set_56 : decode cX9_set 56 = .ok (.imul, 1) := by decide +kernel
theorem dX9_set_57 : decode cX9_set 57 = .ok (.iload_n 2, 1) := by decide +kernel
theorem dX9_set_58 : decode cX9_set 58 = .ok (.iadd, 1) := by decide +kernel
theorem dX9_set_59 : decode cX9_set 59 = .ok (.iaload, 1) := by decide +kernel
theorem dX9_set_60 : decode cX9_set 60 = .ok (.istore 4, 2) := by decide +kernel
theorem dX9_set_62 : decode cX9_set 62 = .ok (.aload_n 0, 1) := by decide +kernel
theorem dX9_set_63 : decode cX9_set 63 = .ok (.getfield 23, 3) := by decide +kernel
theorem dX9_set_66 : decode cX9_set 66 = .ok (.iconst 3, 1) := by decide +kernel
theorem dX9_set_67 : decode cX9_set 67 = .ok (.iload_n 1, 1) := by decide +kernel
theorem dX9_set_68 : decode cX9_set 68 = .ok (.imul, 1) := by decide +kernel
theorem dX9_set_69 : decode cX9_set 69 = .ok (.iload_n 2, 1) := by decide +kernel
theorem dX9_set_70 : decode cX9_set 70 = .ok (.iadd, 1) := by decide +kernel
theorem dX9_set_71 : decode cX9_set 71 = .ok (.iload_n 3, 1) := by decide +kernel
theorem dX9_set_72 : decode cX9_set 72 = .ok (.iastore, 1) := by decide +kernel
theorem dX9_set_73 : decode cX9_set 73 = .ok (.iload 4, 2) := by decide +kernel
theorem dX9_set_75 : decode cX9_set 75 = .ok (.ireturn, 1) := by decide +kernel
set_option maxRecDepth 20000 in
theorem ggX9_told_X9_isHead : GoodIn wsX9_told wsX9_isHead := goodIn_r _ [8, 9, 10, 11, 7, 12, 13, 14, 15, 16, 17, 18, 19, 20, 21, 22, 23, 24, 25, 26, 27, 28, 29, 30, 31, 32, 33, 34, 35, 36, 37, 38, 39, 40, 41, 42, 43, 44, 45, 46, 47, 48, 49, 50, 51, 52, 53] rfl (by decide +kernel)
set_option maxRecDepth 20000 in
theorem gX9_told_X9_isHead : GoodIn wsX9_told (wsV RX9 207 RX9 yX9_isHead wsX9_isHead) := goodIn_app (goodIn_of _ (by decide +kernel)) ggX9_told_X9_isHead
set_option maxRecDepth 20000 in
theorem ggX9_told_X9_in : GoodIn wsX9_told wsX9_in := goodIn_r _ [12] rfl (by decide +kernel)
set_option maxRecDepth 20000 in
theorem gX9_told_X9_in : GoodIn wsX9_told (va_wsS RX9 78 yX9_in wsX9_in) := goodIn_app (goodIn_of _ (by decide +kernel)) ggX9_told_X9_in
theorem dX9_told_0 : decode cX9_told 0 = .ok (.aload_n 0, 1) := by decide +kernel
theorem dX9_told_1 : decode cX9_told 1 = .ok (.iload_n 1, 1) := by decide +kernel
theorem dX9_told_2 : decode cX9_told 2 = .ok (.invokevirtual 207, 3) := by decide +kernel
theorem dX9_told_5 : decode cX9_told 5 = .ok (.ifCond .ne 6, 3) := by decide +kernel
theorem dX9_told_8 : decode cX9_told 8 = .ok (.bipush (-5), 2) := by decide +kernel
theorem dX9_told_10 : decode cX9_told 10 = .ok (.ireturn, 1) := by decide +kernel
theorem dX9_told_11 : decode cX9_told 11 = .ok (.iload_n 2, 1) := by decide +kernel
theorem dX9_told_12 : decode cX9_told 12 = .ok (.ifCond .ne 12, 3) := by decide +kernel
theorem dX9_told_15 : decode cX9_told 15 = .ok (.aload_n 0, 1) := by decide +kernel
theorem dX9_told_16 : decode cX9_told 16 = .ok (.getfield 17, 3) := by decide +kernel
theorem dX9_told_19 : decode cX9_told 19 = .ok (.iload_n 1, 1) := by decide +kernel
theorem dX9_told_20 : decode cX9_told 20 = .ok (.iaload, 1) := by decide +kernel
theorem dX9_told_21 : decode cX9_told 21 = .ok (.goto 43, 3) := by decide +kernel
theorem dX9_told_24 : decode cX9_told 24 = .ok (.iload_n 2, 1) := by decide +kernel
theorem dX9_told_25 : decode cX9_told 25 = .ok (.iconst 1, 1) := by decide +kernel
theorem dX9_told_26 : decode cX9_told 26 = .ok (.if_icmp .ne 12, 3) := by decide +kernel
theorem dX9_told_29 : decode cX9_told 29 = .ok (.aload_n 0, 1) := by decide +kernel
theorem dX9_told_30 : decode cX9_told 30 = .ok (.getfield 20, 3) := by decide +kernel
theorem dX9_told_33 : decode cX9_told 33 = .ok (.iload_n 1, 1) := by decide +kernel
theorem dX9_told_34 : decode cX9_told 34 = .ok (.iaload, 1) := by decide +kernel
theorem dX9_told_35 : decode cX9_told 35 = .ok (.goto 29, 3) := by decide +kernel
theorem dX9_told_38 : decode cX9_told 38 = .ok (.iload_n 2, 1) := by decide +kernel
theorem dX9_told_39 : decode cX9_told 39 = .ok (.iconst 2, 1) := by decide +kernel
theorem dX9_told_40 : decode cX9_told 40 = .ok (.iconst 4, 1) := by decide +kernel
theorem dX9_told_41 : decode cX9_told 41 = .ok (.invokestatic 78, 3) := by decide +kernel
theorem dX9_told_44 : decode cX9_told 44 = .ok (.ifCond .eq 18, 3) := by decide +kernel
theorem dX9_told_47 : decode cX9_told 47 = .ok (.aload_n 0, 1) := by decide +kernel
theorem dX9_told_48 : decode cX9_told 48 = .ok (.getfield 23, 3) := by decide +kernel
theorem dX9_told_51 : decode cX9_told 51 = .ok (.iconst 3, 1) := by decide +kernel
theorem dX9_told_52 : decode cX9_told 52 = .ok (.iload_n 1, 1) := by decide +kernel
theorem dX9_told_53 : decode cX9_told 53 = .ok (.imul, 1) := by decide +kernel
theorem dX9_told_54 : decode cX9_told 54 = .ok (.iload_n 2, 1) := by decide +kernel
theorem dX9_told_55 : decode cX9_told 55 = .ok (.iadd, 1) := by decide +kernel
theorem dX9_told_56 : decode cX9_told 56 = .ok (.iconst 2, 1) := by decide +kernel
theorem dX9_told_57 : decode cX9_told 57 = .ok (.isub, 1) := by decide +kernel
theorem dX9_told_58 : decode cX9_told 58 = .ok (.iaload, 1) := by decide +kernel
theorem dX9_told_59 : decode cX9_told 59 = .ok (.goto 5, 3) := by decide +kernel
theorem dX9_told_62 : decode cX9_told 62 = .ok (.bipush (-7), 2) := by decide +kernel
theorem dX9_told_64 : decode cX9_told 64 = .ok (.ireturn, 1) := by decide +kernel
theorem dX9_laysRow_0 : decode cX9_laysRow 0 = .ok (.aload_n 0, 1) := by decide +kernel
theorem dX9_laysRow_1 : decode cX9_laysRow 1 = .ok (.aload_n 0, 1) := by decide +kernel
theorem dX9_laysRow_2 : decode cX9_laysRow 2 = .ok (.getfield 85, 3) := by decide +kernel
theorem dX9_laysRow_5 : decode cX9_laysRow 5 = .ok (.putfield 102, 3) := by decide +kernel
theorem dX9_laysRow_8 : decode cX9_laysRow 8 = .ok (.iconst 0, 1) := by decide +kernel
theorem dX9_laysRow_9 : decode cX9_laysRow 9 = .ok (.istore_n 1, 1) := by decide +kernel
theorem dX9_laysRow_10 : decode cX9_laysRow 10 = .ok (.iload_n 1, 1) := by decide +kernel
theorem dX9_laysRow_11 : decode cX9_laysRow 11 = .ok (.aload_n 0, 1) := by decide +kernel
theorem dX9_laysRow_12 : decode cX9_laysRow 12 = .ok (.getfield 85, 3) := by decide +kernel
theorem dX9_laysRow_15 : decode cX9_laysRow 15 = .ok (.if_icmp .ge 21, 3) := by decide +kernel
theorem dX9_laysRow_18 : decode cX9_laysRow 18 = .ok (.aload_n 0, 1) := by decide +kernel
theorem dX9_laysRow_19 : decode cX9_laysRow 19 = .ok (.getfield 65, 3) := by decide +kernel
theorem dX9_laysRow_22 : decode cX9_laysRow 22 = .ok (.iload_n 1, 1) := by decide +kernel
theorem dX9_laysRow_23 : decode cX9_laysRow 23 = .ok (.aload_n 0, 1) := by decide +kernel
theorem dX9_laysRow_24 : decode cX9_laysRow 24 = .ok (.getfield 13, 3) := by decide +kernel
theorem dX9_laysRow_27 : decode cX9_laysRow 27 = .ok (.iload_n 1, 1) := by decide +kernel
theorem dX9_laysRow_28 : decode cX9_laysRow 28 = .ok (.iaload, 1) := by decide +kernel
theorem dX9_laysRow_29 : decode cX9_laysRow 29 = .ok (.iastore, 1) := by decide +kernel
theorem dX9_laysRow_30 : decode cX9_laysRow 30 = .ok (.iinc 1 1, 3) := by decide +kernel
theorem dX9_laysRow_33 : decode cX9_laysRow 33 = .ok (.goto (-23), 3) := by decide +kernel
theorem dX9_laysRow_36 : decode cX9_laysRow 36 = .ok (.return_, 1) := by decide +kernel
theorem dX9_laysBut_0 : decode cX9_laysBut 0 = .ok (.aload_n 0, 1) := by decide +kernel
theorem dX9_laysBut_1 : decode cX9_laysBut 1 = .ok (.iconst 0, 1) := by decide +kernel
theorem dX9_laysBut_2 : decode cX9_laysBut 2 = .ok (.putfield 102, 3) := by decide +kernel
theorem dX9_laysBut_5 : decode cX9_laysBut 5 = .ok (.iconst 1, 1) := by decide +kernel
theorem dX9_laysBut_6 : decode cX9_laysBut 6 = .ok (.istore_n 3, 1) := by decide +kernel
theorem dX9_laysBut_7 : decode cX9_laysBut 7 = .ok (.iload_n 3, 1) := by decide +kernel
theorem dX9_laysBut_8 : decode cX9_laysBut 8 = .ok (.aload_n 0, 1) := by decide +kernel
theorem dX9_laysBut_9 : decode cX9_laysBut 9 = .ok (.getfield 7, 3) := by decide +kernel
theorem dX9_laysBut_12 : decode cX9_laysBut 12 = .ok (.if_icmp .gt 54, 3) := by decide +kernel
theorem dX9_laysBut_15 : decode cX9_laysBut 15 = .ok (.iload_n 2, 1) := by decide +kernel
theorem dX9_laysBut_16 : decode cX9_laysBut 16 = .ok (.ifCond .ne 7, 3) := by decide +kernel
theorem dX9_laysBut_19 : decode cX9_laysBut 19 = .ok (.iload_n 3, 1) := by decide +kernel
theorem dX9_laysBut_20 : decode cX9_laysBut 20 = .ok (.goto 11, 3) := by decide +kernel
theorem dX9_laysBut_23 : decode cX9_laysBut 23 = .ok (.aload_n 0, 1) := by decide +kernel
theorem dX9_laysBut_24 : decode cX9_laysBut 24 = .ok (.getfield 7, 3) := by decide +kernel
theorem dX9_laysBut_27 : decode cX9_laysBut 27 = .ok (.iconst 1, 1) := by decide +kernel
theorem dX9_laysBut_28 : decode cX9_laysBut 28 = .ok (.iadd, 1) := by decide +kernel
theorem dX9_laysBut_29 : decode cX9_laysBut 29 = .ok (.iload_n 3, 1) := by decide +kernel
theorem dX9_laysBut_30 : decode cX9_laysBut 30 = .ok (.isub, 1) := by decide +kernel
theorem dX9_laysBut_31 : decode cX9_laysBut 31 = .ok (.istore 4, 2) := by decide +kernel
theorem dX9_laysBut_33 : decode cX9_laysBut 33 = .ok (.iload 4, 2) := by decide +kernel
theorem dX9_laysBut_35 : decode cX9_laysBut 35 = .ok (.iload_n 1, 1) := by decide +kernel
theorem dX9_laysBut_36 : decode cX9_laysBut 36 = .ok (.if_icmp .eq 24, 3) := by decide +kernel
theorem dX9_laysBut_39 : decode cX9_laysBut 39 = .ok (.aload_n 0, 1) := by decide +kernel
theorem dX9_laysBut_40 : decode cX9_laysBut 40 = .ok (.getfield 65, 3) := by decide +kernel
theorem dX9_laysBut_43 : decode cX9_laysBut 43 = .ok (.aload_n 0, 1) := by decide +kernel
theorem dX9_laysBut_44 : decode cX9_laysBut 44 = .ok (.getfield 102, 3) := by decide +kernel
theorem dX9_laysBut_47 : decode cX9_laysBut 47 = .ok (.iload 4, 2) := by decide +kernel
theorem dX9_laysBut_49 : decode cX9_laysBut 49 = .ok (.iastore, 1) := by decide +kernel
theorem dX9_laysBut_50 : decode cX9_laysBut 50 = .ok (.aload_n 0, 1) := by decide +kernel
theorem dX9_laysBut_51 : decode cX9_laysBut 51 = .ok (.dup, 1) := by decide +kernel
theorem dX9_laysBut_52 : decode cX9_laysBut 52 = .ok (.getfield 102, 3) := by decide +kernel
theorem dX9_laysBut_55 : decode cX9_laysBut 55 = .ok (.iconst 1, 1) := by decide +kernel
theorem dX9_laysBut_56 : decode cX9_laysBut 56 = .ok (.iadd, 1) := by decide +kernel
theorem dX9_laysBut_57 : decode cX9_laysBut 57 = .ok (.putfield 102, 3) := by decide +kernel
theorem dX9_laysBut_60 : decode cX9_laysBut 60 = .ok (.iinc 3 1, 3) := by decide +kernel
theorem dX9_laysBut_63 : decode cX9_laysBut 63 = .ok (.goto (-56), 3) := by decide +kernel
theorem dX9_laysBut_66 : decode cX9_laysBut 66 = .ok (.return_, 1) := by decide +kernel
theorem dX9_turnsOver_0 : decode cX9_turnsOver 0 = .ok (.aload_n 0, 1) := by decide +kernel
theorem dX9_turnsOver_1 : decode cX9_turnsOver 1 = .ok (.getfield 102, 3) := by decide +kernel
theorem dX9_turnsOver_4 : decode cX9_turnsOver 4 = .ok (.ifCond .ne 4, 3) := by decide +kernel
theorem dX9_turnsOver_7 : decode cX9_turnsOver 7 = .ok (.return_, 1) := by decide +kernel
theorem dX9_turnsOver_8 : decode cX9_turnsOver 8 = .ok (.aload_n 0, 1) := by decide +kernel
theorem dX9_turnsOver_9 : decode cX9_turnsOver 9 = .ok (.getfield 65, 3) := by decide +kernel
theorem dX9_turnsOver_12 : decode cX9_turnsOver 12 = .ok (.iconst 0, 1) := by decide +kernel
theorem dX9_turnsOver_13 : decode cX9_turnsOver 13 = .ok (.iaload, 1) := by decide +kernel
theorem dX9_turnsOver_14 : decode cX9_turnsOver 14 = .ok (.istore_n 2, 1) := by decide +kernel
theorem dX9_turnsOver_15 : decode cX9_turnsOver 15 = .ok (.aload_n 0, 1) := by decide +kernel
theorem dX9_turnsOver_16 : decode cX9_turnsOver 16 = .ok (.getfield 65, 3) := by decide +kernel
theorem dX9_turnsOver_19 : decode cX9_turnsOver 19 = .ok (.aload_n 0, 1) := by decide +kernel
theorem dX9_turnsOver_20 : decode cX9_turnsOver 20 = .ok (.getfield 102, 3) := by decide +kernel
theorem dX9_turnsOver_23 : decode cX9_turnsOver 23 = .ok (.iconst 1, 1) := by decide +kernel
theorem dX9_turnsOver_24 : decode cX9_turnsOver 24 = .ok (.isub, 1) := by decide +kernel
theorem dX9_turnsOver_25 : decode cX9_turnsOver 25 = .ok (.iaload, 1) := by decide +kernel
theorem dX9_turnsOver_26 : decode cX9_turnsOver 26 = .ok (.istore_n 3, 1) := by decide +kernel
theorem dX9_turnsOver_27 : decode cX9_turnsOver 27 = .ok (.iconst 0, 1) := by decide +kernel
theorem dX9_turnsOver_28 : decode cX9_turnsOver 28 = .ok (.istore 4, 2) := by decide +kernel
theorem dX9_turnsOver_30 : decode cX9_turnsOver 30 = .ok (.iload 4, 2) := by decide +kernel
theorem dX9_turnsOver_32 : decode cX9_turnsOver 32 = .ok (.aload_n 0, 1) := by decide +kernel
theorem dX9_turnsOver_33 : decode cX9_turnsOver 33 = .ok (.getfield 102, 3) := by decide +kernel
theorem dX9_turnsOver_36 : decode cX9_turnsOver 36 = .ok (.iconst 2, 1) := by decide +kernel
theorem dX9_turnsOver_37 : decode cX9_turnsOver 37 = .ok (.idiv, 1) := by decide +kernel
theorem dX9_turnsOver_38 : decode cX9_turnsOver 38 = .ok (.if_icmp .ge 59, 3) := by decide +kernel
theorem dX9_turnsOver_41 : decode cX9_turnsOver 41 = .ok (.iload_n 1, 1) := by decide +kernel
theorem dX9_turnsOver_42 : decode cX9_turnsOver 42 = .ok (.ifCond .ne 55, 3) := by decide +kernel
theorem dX9_turnsOver_45 : decode cX9_turnsOver 45 = .ok (.aload_n 0, 1) := by decide +kernel
theorem dX9_turnsOver_46 : decode cX9_turnsOver 46 = .ok (.getfield 65, 3) := by decide +kernel
theorem dX9_turnsOver_49 : decode cX9_turnsOver 49 = .ok (.iload 4, 2) := by decide +kernel
theorem dX9_turnsOver_51 : decode cX9_turnsOver 51 = .ok (.iaload, 1) := by decide +kernel
theorem dX9_turnsOver_52 : decode cX9_turnsOver 52 = .ok (.istore 5, 2) := by decide +kernel
theorem dX9_turnsOver_54 : decode cX9_turnsOver 54 = .ok (.aload_n 0, 1) := by decide +kernel
theorem dX9_turnsOver_55 : decode cX9_turnsOver 55 = .ok (.getfield 65, 3) := by decide +kernel
theorem dX9_turnsOver_58 : decode cX9_turnsOver 58 = .ok (.iload 4, 2) := by decide +kernel
theorem dX9_turnsOver_60 : decode cX9_turnsOver 60 = .ok (.aload_n 0, 1) := by decide +kernel
theorem dX9_turnsOver_61 : decode cX9_turnsOver 61 = .ok (.getfield 65, 3) := by decide +kernel
theorem dX9_turnsOver_64 : decode cX9_turnsOver 64 = .ok (.aload_n 0, 1) := by decide +kernel
theorem dX9_turnsOver_65 : decode cX9_turnsOver 65 = .ok (.getfield 102, 3) := by decide +kernel
theorem dX9_turnsOver_68 : decode cX9_turnsOver 68 = .ok (.iconst 1, 1) := by decide +kernel
theorem dX9_turnsOver_69 : decode cX9_turnsOver 69 = .ok (.isub, 1) := by decide +kernel
theorem dX9_turnsOver_70 : decode cX9_turnsOver 70 = .ok (.iload 4, 2) := by decide +kernel
theorem dX9_turnsOver_72 : decode cX9_turnsOver 72 = .ok (.isub, 1) := by decide +kernel
theorem dX9_turnsOver_73 : decode cX9_turnsOver 73 = .ok (.iaload, 1) := by decide +kernel
theorem dX9_turnsOver_74 : decode cX9_turnsOver 74 = .ok (.iastore, 1) := by decide +kernel
theorem dX9_turnsOver_75 : decode cX9_turnsOver 75 = .ok (.aload_n 0, 1) := by decide +kernel
theorem dX9_turnsOver_76 : decode cX9_turnsOver 76 = .ok (.getfield 65, 3) := by decide +kernel
theorem dX9_turnsOver_79 : decode cX9_turnsOver 79 = .ok (.aload_n 0, 1) := by decide +kernel
theorem dX9_turnsOver_80 : decode cX9_turnsOver 80 = .ok (.getfield 102, 3) := by decide +kernel
theorem dX9_turnsOver_83 : decode cX9_turnsOver 83 = .ok (.iconst 1, 1) := by decide +kernel
theorem dX9_turnsOver_84 : decode cX9_turnsOver 84 = .ok (.isub, 1) := by decide +kernel
theorem dX9_turnsOver_85 : decode cX9_turnsOver 85 = .ok (.iload 4, 2) := by decide +kernel
theorem dX9_turnsOver_87 : decode cX9_turnsOver 87 = .ok (.isub, 1) := by decide +kernel
theorem dX9_turnsOver_88 : decode cX9_turnsOver 88 = .ok (.iload 5, 2) := by decide +kernel
theorem dX9_turnsOver_90 : decode cX9_turnsOver 90 = .ok (.iastore, 1) := by decide +kernel
theorem dX9_turnsOver_91 : decode cX9_turnsOver 91 = .ok (.iinc 4 1, 3) := by decide +kernel
theorem dX9_turnsOver_94 : decode cX9_turnsOver 94 = .ok (.goto (-64), 3) := by decide +kernel
theorem dX9_turnsOver_97 : decode cX9_turnsOver 97 = .ok (.iconst 0, 1) := by decide +kernel
theorem dX9_turnsOver_98 : decode cX9_turnsOver 98 = .ok (.istore 4, 2) := by decide +kernel
theorem dX9_turnsOver_100 : decode cX9_turnsOver 100 = .ok (.iload 4, 2) := by decide +kernel
theorem dX9_turnsOver_102 : decode cX9_turnsOver 102 = .ok (.iconst 1, 1) := by decide +kernel
theorem dX9_turnsOver_103 : decode cX9_turnsOver 103 = .ok (.iadd, 1) := by decide +kernel
theorem dX9_turnsOver_104 : decode cX9_turnsOver 104 = .ok (.aload_n 0, 1) := by decide +kernel
theorem dX9_turnsOver_105 : decode cX9_turnsOver 105 = .ok (.getfield 102, 3) := by decide +kernel
theorem dX9_turnsOver_108 : decode cX9_turnsOver 108 = .ok (.if_icmp .ge 30, 3) := by decide +kernel
theorem dX9_turnsOver_111 : decode cX9_turnsOver 111 = .ok (.iload_n 1, 1) := by decide +kernel
theorem dX9_turnsOver_112 : decode cX9_turnsOver 112 = .ok (.iconst 1, 1) := by decide +kernel
theorem dX9_turnsOver_113 : decode cX9_turnsOver 113 = .ok (.if_icmp .ne 25, 3) := by decide +kernel
theorem dX9_turnsOver_116 : decode cX9_turnsOver 116 = .ok (.aload_n 0, 1) := by decide +kernel
theorem dX9_turnsOver_117 : decode cX9_turnsOver 117 = .ok (.getfield 65, 3) := by decide +kernel
theorem dX9_turnsOver_120 : decode cX9_turnsOver 120 = .ok (.iload 4, 2) := by decide +kernel
theorem dX9_turnsOver_122 : decode cX9_turnsOver 122 = .ok (.aload_n 0, 1) := by decide +kernel
theorem dX9_turnsOver_123 : decode cX9_turnsOver 123 = .ok (.getfield 65, 3) := by decide +kernel
theorem dX9_turnsOver_126 : decode cX9_turnsOver 126 = .ok (.iload 4, 2) := by decide +kernel
theorem dX9_turnsOver_128 : decode cX9_turnsOver 128 = .ok (.iconst 1, 1) := by decide +kernel
theorem dX9_turnsOver_129 : decode cX9_turnsOver 129 = .ok (.iadd, 1) := by decide +kernel
theorem dX9_turnsOver_130 : decode cX9_turnsOver 130 = .ok (.iaload, 1) := by decide +kernel
theorem dX9_turnsOver_131 : decode cX9_turnsOver 131 = .ok (.iastore, 1) := by decide +kernel
theorem dX9_turnsOver_132 : decode cX9_turnsOver 132 = .ok (.iinc 4 1, 3) := by decide +kernel
theorem dX9_turnsOver_135 : decode cX9_turnsOver 135 = .ok (.goto (-35), 3) := by decide +kernel
theorem dX9_turnsOver_138 : decode cX9_turnsOver 138 = .ok (.aload_n 0, 1) := by decide +kernel
theorem dX9_turnsOver_139 : decode cX9_turnsOver 139 = .ok (.getfield 102, 3) := by decide +kernel
theorem dX9_turnsOver_142 : decode cX9_turnsOver 142 = .ok (.iconst 1, 1) := by decide +kernel
theorem dX9_turnsOver_143 : decode cX9_turnsOver 143 = .ok (.isub, 1) := by decide +kernel
theorem dX9_turnsOver_144 : decode cX9_turnsOver 144 = .ok (.istore 4, 2) := by decide +kernel
theorem dX9_turnsOver_146 : decode cX9_turnsOver 146 = .ok (.iload 4, 2) := by decide +kernel
theorem dX9_turnsOver_148 : decode cX9_turnsOver 148 = .ok (.ifCond .le 30, 3) := by decide +kernel
theorem dX9_turnsOver_151 : decode cX9_turnsOver 151 = .ok (.iload_n 1, 1) := by decide +kernel
theorem dX9_turnsOver_152 : decode cX9_turnsOver 152 = .ok (.iconst 2, 1) := by decide +kernel
theorem dX9_turnsOver_153 : decode cX9_turnsOver 153 = .ok (.if_icmp .ne 25, 3) := by decide +kernel
theorem dX9_turnsOver_156 : decode cX9_turnsOver 156 = .ok (.aload_n 0, 1) := by decide +kernel
theorem dX9_turnsOver_157 : decode cX9_turnsOver 157 = .ok (.getfield 65, 3) := by decide +kernel
theorem dX9_turnsOver_160 : decode cX9_turnsOver 160 = .ok (.iload 4, 2) := by decide +kernel
theorem dX9_turnsOver_162 : decode cX9_turnsOver 162 = .ok (.aload_n 0, 1) := by decide +kernel
theorem dX9_turnsOver_163 : decode cX9_turnsOver 163 = .ok (.getfield 65, 3) := by decide +kernel
theorem dX9_turnsOver_166 : decode cX9_turnsOver 166 = .ok (.iload 4, 2) := by decide +kernel
theorem dX9_turnsOver_168 : decode cX9_turnsOver 168 = .ok (.iconst 1, 1) := by decide +kernel
theorem dX9_turnsOver_169 : decode cX9_turnsOver 169 = .ok (.isub, 1) := by decide +kernel
theorem dX9_turnsOver_170 : decode cX9_turnsOver 170 = .ok (.iaload, 1) := by decide +kernel
theorem dX9_turnsOver_171 : decode cX9_turnsOver 171 = .ok (.iastore, 1) := by decide +kernel
theorem dX9_turnsOver_172 : decode cX9_turnsOver 172 = .ok (.iinc 4 (-1), 3) := by decide +kernel
theorem dX9_turnsOver_175 : decode cX9_turnsOver 175 = .ok (.goto (-29), 3) := by decide +kernel
theorem dX9_turnsOver_178 : decode cX9_turnsOver 178 = .ok (.aload_n 0, 1) := by decide +kernel
theorem dX9_turnsOver_179 : decode cX9_turnsOver 179 = .ok (.getfield 65, 3) := by decide +kernel
theorem dX9_turnsOver_182 : decode cX9_turnsOver 182 = .ok (.aload_n 0, 1) := by decide +kernel
theorem dX9_turnsOver_183 : decode cX9_turnsOver 183 = .ok (.getfield 102, 3) := by decide +kernel
theorem dX9_turnsOver_186 : decode cX9_turnsOver 186 = .ok (.iconst 1, 1) := by decide +kernel
theorem dX9_turnsOver_187 : decode cX9_turnsOver 187 = .ok (.isub, 1) := by decide +kernel
theorem dX9_turnsOver_188 : decode cX9_turnsOver 188 = .ok (.iload_n 1, 1) := by decide +kernel
theorem dX9_turnsOver_189 : decode cX9_turnsOver 189 = .ok (.iconst 1, 1) := by decide +kernel
theorem dX9_turnsOver_190 : decode cX9_turnsOver 190 = .ok (.if_icmp .ne 7, 3) := by decide +kernel
theorem dX9_turnsOver_193 : decode cX9_turnsOver 193 = .ok (.iload_n 2, 1) := by decide +kernel
theorem dX9_turnsOver_194 : decode cX9_turnsOver 194 = .ok (.goto 14, 3) := by decide +kernel
theorem dX9_turnsOver_197 : decode cX9_turnsOver 197 = .ok (.aload_n 0, 1) := by decide +kernel
theorem dX9_turnsOver_198 : decode cX9_turnsOver 198 = .ok (.getfield 65, 3) := by decide +kernel
theorem dX9_turnsOver_201 : decode cX9_turnsOver 201 = .ok (.aload_n 0, 1) := by decide +kernel
theorem dX9_turnsOver_202 : decode cX9_turnsOver 202 = .ok (.getfield 102, 3) := by decide +kernel
theorem dX9_turnsOver_205 : decode cX9_turnsOver 205 = .ok (.iconst 1, 1) := by decide +kernel
theorem dX9_turnsOver_206 : decode cX9_turnsOver 206 = .ok (.isub, 1) := by decide +kernel
theorem dX9_turnsOver_207 : decode cX9_turnsOver 207 = .ok (.iaload, 1) := by decide +kernel
theorem dX9_turnsOver_208 : decode cX9_turnsOver 208 = .ok (.iastore, 1) := by decide +kernel
theorem dX9_turnsOver_209 : decode cX9_turnsOver 209 = .ok (.aload_n 0, 1) := by decide +kernel
theorem dX9_turnsOver_210 : decode cX9_turnsOver 210 = .ok (.getfield 65, 3) := by decide +kernel
theorem dX9_turnsOver_213 : decode cX9_turnsOver 213 = .ok (.iconst 0, 1) := by decide +kernel
theorem dX9_turnsOver_214 : decode cX9_turnsOver 214 = .ok (.iload_n 1, 1) := by decide +kernel
theorem dX9_turnsOver_215 : decode cX9_turnsOver 215 = .ok (.iconst 2, 1) := by decide +kernel
theorem dX9_turnsOver_216 : decode cX9_turnsOver 216 = .ok (.if_icmp .ne 7, 3) := by decide +kernel
theorem dX9_turnsOver_219 : decode cX9_turnsOver 219 = .ok (.iload_n 3, 1) := by decide +kernel
theorem dX9_turnsOver_220 : decode cX9_turnsOver 220 = .ok (.goto 9, 3) := by decide +kernel
theorem dX9_turnsOver_223 : decode cX9_turnsOver 223 = .ok (.aload_n 0, 1) := by decide +kernel
theorem dX9_turnsOver_224 : decode cX9_turnsOver 224 = .ok (.getfield 65, 3) := by decide +kernel
theorem dX9_turnsOver_227 : decode cX9_turnsOver 227 = .ok (.iconst 0, 1) := by decide +kernel
theorem dX9_turnsOver_228 : decode cX9_turnsOver 228 = .ok (.iaload, 1) := by decide +kernel
theorem dX9_turnsOver_229 : decode cX9_turnsOver 229 = .ok (.iastore, 1) := by decide +kernel
theorem dX9_turnsOver_230 : decode cX9_turnsOver 230 = .ok (.return_, 1) := by decide +kernel
theorem dX9_sees_0 : decode cX9_sees 0 = .ok (.aload_n 0, 1) := by decide +kernel
theorem dX9_sees_1 : decode cX9_sees 1 = .ok (.getfield 20, 3) := by decide +kernel
theorem dX9_sees_4 : decode cX9_sees 4 = .ok (.iload_n 1, 1) := by decide +kernel
theorem dX9_sees_5 : decode cX9_sees 5 = .ok (.iaload, 1) := by decide +kernel
theorem dX9_sees_6 : decode cX9_sees 6 = .ok (.istore_n 3, 1) := by decide +kernel
theorem dX9_sees_7 : decode cX9_sees 7 = .ok (.aload_n 0, 1) := by decide +kernel
theorem dX9_sees_8 : decode cX9_sees 8 = .ok (.getfield 17, 3) := by decide +kernel
theorem dX9_sees_11 : decode cX9_sees 11 = .ok (.iload_n 1, 1) := by decide +kernel
theorem dX9_sees_12 : decode cX9_sees 12 = .ok (.iaload, 1) := by decide +kernel
theorem dX9_sees_13 : decode cX9_sees 13 = .ok (.iconst 1, 1) := by decide +kernel
theorem dX9_sees_14 : decode cX9_sees 14 = .ok (.if_icmp .eq 13, 3) := by decide +kernel
theorem dX9_sees_17 : decode cX9_sees 17 = .ok (.aload_n 0, 1) := by decide +kernel
theorem dX9_sees_18 : decode cX9_sees 18 = .ok (.getfield 17, 3) := by decide +kernel
theorem dX9_sees_21 : decode cX9_sees 21 = .ok (.iload_n 1, 1) := by decide +kernel
theorem dX9_sees_22 : decode cX9_sees 22 = .ok (.iaload, 1) := by decide +kernel
theorem dX9_sees_23 : decode cX9_sees 23 = .ok (.iconst 3, 1) := by decide +kernel
theorem dX9_sees_24 : decode cX9_sees 24 = .ok (.if_icmp .ne 7, 3) := by decide +kernel
theorem dX9_sees_27 : decode cX9_sees 27 = .ok (.iconst 1, 1) := by decide +kernel
theorem dX9_sees_28 : decode cX9_sees 28 = .ok (.goto 4, 3) := by decide +kernel
theorem dX9_sees_31 : decode cX9_sees 31 = .ok (.iconst 0, 1) := by decide +kernel
theorem dX9_sees_32 : decode cX9_sees 32 = .ok (.istore 4, 2) := by decide +kernel
theorem dX9_sees_34 : decode cX9_sees 34 = .ok (.iload 4, 2) := by decide +kernel
theorem dX9_sees_36 : decode cX9_sees 36 = .ok (.ifCond .eq 14, 3) := by decide +kernel
theorem dX9_sees_39 : decode cX9_sees 39 = .ok (.iload_n 2, 1) := by decide +kernel
theorem dX9_sees_40 : decode cX9_sees 40 = .ok (.iload_n 3, 1) := by decide +kernel
theorem dX9_sees_41 : decode cX9_sees 41 = .ok (.iconst 2, 1) := by decide +kernel
theorem dX9_sees_42 : decode cX9_sees 42 = .ok (.iadd, 1) := by decide +kernel
theorem dX9_sees_43 : decode cX9_sees 43 = .ok (.irem, 1) := by decide +kernel
theorem dX9_sees_44 : decode cX9_sees 44 = .ok (.iload_n 3, 1) := by decide +kernel
theorem dX9_sees_45 : decode cX9_sees 45 = .ok (.iconst 1, 1) := by decide +kernel
theorem dX9_sees_46 : decode cX9_sees 46 = .ok (.iadd, 1) := by decide +kernel
theorem dX9_sees_47 : decode cX9_sees 47 = .ok (.if_icmp .eq 24, 3) := by decide +kernel
theorem dX9_sees_50 : decode cX9_sees 50 = .ok (.aload_n 0, 1) := by decide +kernel
theorem dX9_sees_51 : decode cX9_sees 51 = .ok (.getfield 17, 3) := by decide +kernel
theorem dX9_sees_54 : decode cX9_sees 54 = .ok (.iload_n 1, 1) := by decide +kernel
theorem dX9_sees_55 : decode cX9_sees 55 = .ok (.iaload, 1) := by decide +kernel
theorem dX9_sees_56 : decode cX9_sees 56 = .ok (.iconst 3, 1) := by decide +kernel
theorem dX9_sees_57 : decode cX9_sees 57 = .ok (.if_icmp .ne 10, 3) := by decide +kernel
theorem dX9_sees_60 : decode cX9_sees 60 = .ok (.iload_n 2, 1) := by decide +kernel
theorem dX9_sees_61 : decode cX9_sees 61 = .ok (.iload_n 3, 1) := by decide +kernel
theorem dX9_sees_62 : decode cX9_sees 62 = .ok (.iconst 3, 1) := by decide +kernel
theorem dX9_sees_63 : decode cX9_sees 63 = .ok (.idiv, 1) := by decide +kernel
theorem dX9_sees_64 : decode cX9_sees 64 = .ok (.if_icmp .lt 7, 3) := by decide +kernel
theorem dX9_sees_67 : decode cX9_sees 67 = .ok (.iconst 1, 1) := by decide +kernel
theorem dX9_sees_68 : decode cX9_sees 68 = .ok (.goto 4, 3) := by decide +kernel
theorem dX9_sees_71 : decode cX9_sees 71 = .ok (.iconst 0, 1) := by decide +kernel
theorem dX9_sees_72 : decode cX9_sees 72 = .ok (.ireturn, 1) := by decide +kernel
theorem dX9_keepsOf_0 : decode cX9_keepsOf 0 = .ok (.aload_n 0, 1) := by decide +kernel
theorem dX9_keepsOf_1 : decode cX9_keepsOf 1 = .ok (.getfield 20, 3) := by decide +kernel
theorem dX9_keepsOf_4 : decode cX9_keepsOf 4 = .ok (.iload_n 1, 1) := by decide +kernel
theorem dX9_keepsOf_5 : decode cX9_keepsOf 5 = .ok (.iaload, 1) := by decide +kernel
theorem dX9_keepsOf_6 : decode cX9_keepsOf 6 = .ok (.istore 4, 2) := by decide +kernel
theorem dX9_keepsOf_8 : decode cX9_keepsOf 8 = .ok (.iload_n 3, 1) := by decide +kernel
theorem dX9_keepsOf_9 : decode cX9_keepsOf 9 = .ok (.iload 4, 2) := by decide +kernel
theorem dX9_keepsOf_11 : decode cX9_keepsOf 11 = .ok (.iconst 3, 1) := by decide +kernel
theorem dX9_keepsOf_12 : decode cX9_keepsOf 12 = .ok (.iadd, 1) := by decide +kernel
theorem dX9_keepsOf_13 : decode cX9_keepsOf 13 = .ok (.irem, 1) := by decide +kernel
theorem dX9_keepsOf_14 : decode cX9_keepsOf 14 = .ok (.iload 4, 2) := by decide +kernel
theorem dX9_keepsOf_16 : decode cX9_keepsOf 16 = .ok (.iconst 2, 1) := by decide +kernel
theorem dX9_keepsOf_17 : decode cX9_keepsOf 17 = .ok (.iadd, 1) := by decide +kernel
theorem dX9_keepsOf_18 : decode cX9_keepsOf 18 = .ok (.if_icmp .ne 9, 3) := by decide +kernel
theorem dX9_keepsOf_21 : decode cX9_keepsOf 21 = .ok (.iload_n 2, 1) := by decide +kernel
theorem dX9_keepsOf_22 : decode cX9_keepsOf 22 = .ok (.iconst 1, 1) := by decide +kernel
theorem dX9_keepsOf_23 : decode cX9_keepsOf 23 = .ok (.iadd, 1) := by decide +kernel
theorem dX9_keepsOf_24 : decode cX9_keepsOf 24 = .ok (.goto 4, 3) := by decide +kernel
theorem dX9_keepsOf_27 : decode cX9_keepsOf 27 = .ok (.iload_n 2, 1) := by decide +kernel
theorem dX9_keepsOf_28 : decode cX9_keepsOf 28 = .ok (.istore 5, 2) := by decide +kernel
theorem dX9_keepsOf_30 : decode cX9_keepsOf 30 = .ok (.aload_n 0, 1) := by decide +kernel
theorem dX9_keepsOf_31 : decode cX9_keepsOf 31 = .ok (.getfield 17, 3) := by decide +kernel
theorem dX9_keepsOf_34 : decode cX9_keepsOf 34 = .ok (.iload_n 1, 1) := by decide +kernel
theorem dX9_keepsOf_35 : decode cX9_keepsOf 35 = .ok (.iaload, 1) := by decide +kernel
theorem dX9_keepsOf_36 : decode cX9_keepsOf 36 = .ok (.iconst 2, 1) := by decide +kernel
theorem dX9_keepsOf_37 : decode cX9_keepsOf 37 = .ok (.if_icmp .ne 8, 3) := by decide +kernel
theorem dX9_keepsOf_40 : decode cX9_keepsOf 40 = .ok (.iload 5, 2) := by decide +kernel
theorem dX9_keepsOf_42 : decode cX9_keepsOf 42 = .ok (.goto 24, 3) := by decide +kernel
theorem dX9_keepsOf_45 : decode cX9_keepsOf 45 = .ok (.aload_n 0, 1) := by decide +kernel
theorem dX9_keepsOf_46 : decode cX9_keepsOf 46 = .ok (.getfield 17, 3) := by decide +kernel
theorem dX9_keepsOf_49 : decode cX9_keepsOf 49 = .ok (.iload_n 1, 1) := by decide +kernel
theorem dX9_keepsOf_50 : decode cX9_keepsOf 50 = .ok (.iaload, 1) := by decide +kernel
theorem dX9_keepsOf_51 : decode cX9_keepsOf 51 = .ok (.iconst 4, 1) := by decide +kernel
theorem dX9_keepsOf_52 : decode cX9_keepsOf 52 = .ok (.if_icmp .ne 13, 3) := by decide +kernel
theorem dX9_keepsOf_55 : decode cX9_keepsOf 55 = .ok (.iload 5, 2) := by decide +kernel
theorem dX9_keepsOf_57 : decode cX9_keepsOf 57 = .ok (.iload 5, 2) := by decide +kernel
theorem dX9_keepsOf_59 : decode cX9_keepsOf 59 = .ok (.iconst 1, 1) := by decide +kernel
theorem dX9_keepsOf_60 : decode cX9_keepsOf 60 = .ok (.iand, 1) := by decide +kernel
theorem dX9_keepsOf_61 : decode cX9_keepsOf 61 = .ok (.isub, 1) := by decide +kernel
theorem dX9_keepsOf_62 : decode cX9_keepsOf 62 = .ok (.goto 4, 3) := by decide +kernel
theorem dX9_keepsOf_65 : decode cX9_keepsOf 65 = .ok (.iload_n 2, 1) := by decide +kernel
theorem dX9_keepsOf_66 : decode cX9_keepsOf 66 = .ok (.ireturn, 1) := by decide +kernel
theorem dX9_maskOf_0 : decode cX9_maskOf 0 = .ok (.iconst 1, 1) := by decide +kernel
theorem dX9_maskOf_1 : decode cX9_maskOf 1 = .ok (.aload_n 0, 1) := by decide +kernel
theorem dX9_maskOf_2 : decode cX9_maskOf 2 = .ok (.getfield 23, 3) := by decide +kernel
theorem dX9_maskOf_5 : decode cX9_maskOf 5 = .ok (.iconst 3, 1) := by decide +kernel
theorem dX9_maskOf_6 : decode cX9_maskOf 6 = .ok (.iload_n 1, 1) := by decide +kernel
theorem dX9_maskOf_7 : decode cX9_maskOf 7 = .ok (.imul, 1) := by decide +kernel
theorem dX9_maskOf_8 : decode cX9_maskOf 8 = .ok (.iaload, 1) := by decide +kernel
theorem dX9_maskOf_9 : decode cX9_maskOf 9 = .ok (.ishl, 1) := by decide +kernel
theorem dX9_maskOf_10 : decode cX9_maskOf 10 = .ok (.iconst 1, 1) := by decide +kernel
theorem dX9_maskOf_11 : decode cX9_maskOf 11 = .ok (.isub, 1) := by decide +kernel
theorem dX9_maskOf_12 : decode cX9_maskOf 12 = .ok (.ireturn, 1) := by decide +kernel
set_option maxRecDepth 20000 in
theorem ggX9_beginsOn_X9_maskOf : GoodIn wsX9_beginsOn wsX9_maskOf := goodIn_r _ [8, 1, 9, 10, 11, 12, 13, 14, 15, 16, 17, 18, 19, 20, 21, 22, 23, 24, 25, 26, 27, 28, 29, 30, 31, 32, 33, 34, 35, 36, 37, 38, 39, 40, 41, 42, 43, 44, 45, 46, 47, 48, 49] rfl (by decide +kernel)
set_option maxRecDepth 20000 in
theorem gX9_beginsOn_X9_maskOf : GoodIn wsX9_beginsOn (wsV RX9 210 RX9 yX9_maskOf wsX9_maskOf) := goodIn_app (goodIn_of _ (by decide +kernel)) ggX9_beginsOn_X9_maskOf
theorem dX9_beginsOn_0 : decode cX9_beginsOn 0 = .ok (.aload_n 0, 1) := by decide +kernel
theorem dX9_beginsOn_1 : decode cX9_beginsOn 1 = .ok (.aload_n 0, 1) := by decide +kernel
theorem dX9_beginsOn_2 : decode cX9_beginsOn 2 = .ok (.getfield 23, 3) := by decide +kernel
theorem dX9_beginsOn_5 : decode cX9_beginsOn 5 = .ok (.iconst 3, 1) := by decide +kernel
theorem dX9_beginsOn_6 : decode cX9_beginsOn 6 = .ok (.iload_n 1, 1) := by decide +kernel
theorem dX9_beginsOn_7 : decode cX9_beginsOn 7 = .ok (.imul, 1) := by decide +kernel
theorem dX9_beginsOn_8 : decode cX9_beginsOn 8 = .ok (.iconst 1, 1) := by decide +kernel
theorem dX9_beginsOn_9 : decode cX9_beginsOn 9 = .ok (.iadd, 1) := by decide +kernel
theorem dX9_beginsOn_10 : decode cX9_beginsOn 10 = .ok (.iaload, 1) := by decide +kernel
theorem dX9_beginsOn_11 : decode cX9_beginsOn 11 = .ok (.aload_n 0, 1) := by decide +kernel
theorem dX9_beginsOn_12 : decode cX9_beginsOn 12 = .ok (.iload_n 1, 1) := by decide +kernel
theorem dX9_beginsOn_13 : decode cX9_beginsOn 13 = .ok (.invokevirtual 210, 3) := by decide +kernel
theorem dX9_beginsOn_16 : decode cX9_beginsOn 16 = .ok (.iand, 1) := by decide +kernel
theorem dX9_beginsOn_17 : decode cX9_beginsOn 17 = .ok (.putfield 213, 3) := by decide +kernel
theorem dX9_beginsOn_20 : decode cX9_beginsOn 20 = .ok (.aload_n 0, 1) := by decide +kernel
theorem dX9_beginsOn_21 : decode cX9_beginsOn 21 = .ok (.aload_n 0, 1) := by decide +kernel
theorem dX9_beginsOn_22 : decode cX9_beginsOn 22 = .ok (.getfield 23, 3) := by decide +kernel
theorem dX9_beginsOn_25 : decode cX9_beginsOn 25 = .ok (.iconst 3, 1) := by decide +kernel
theorem dX9_beginsOn_26 : decode cX9_beginsOn 26 = .ok (.iload_n 1, 1) := by decide +kernel
theorem dX9_beginsOn_27 : decode cX9_beginsOn 27 = .ok (.imul, 1) := by decide +kernel
theorem dX9_beginsOn_28 : decode cX9_beginsOn 28 = .ok (.iconst 2, 1) := by decide +kernel
theorem dX9_beginsOn_29 : decode cX9_beginsOn 29 = .ok (.iadd, 1) := by decide +kernel
theorem dX9_beginsOn_30 : decode cX9_beginsOn 30 = .ok (.iaload, 1) := by decide +kernel
theorem dX9_beginsOn_31 : decode cX9_beginsOn 31 = .ok (.aload_n 0, 1) := by decide +kernel
theorem dX9_beginsOn_32 : decode cX9_beginsOn 32 = .ok (.iload_n 1, 1) := by decide +kernel
theorem dX9_beginsOn_33 : decode cX9_beginsOn 33 = .ok (.invokevirtual 210, 3) := by decide +kernel
theorem dX9_beginsOn_36 : decode cX9_beginsOn 36 = .ok (.iand, 1) := by decide +kernel
theorem dX9_beginsOn_37 : decode cX9_beginsOn 37 = .ok (.putfield 216, 3) := by decide +kernel
theorem dX9_beginsOn_40 : decode cX9_beginsOn 40 = .ok (.return_, 1) := by decide +kernel
set_option maxRecDepth 20000 in
theorem ggX9_comes_X9_sees : GoodIn wsX9_comes wsX9_sees := goodIn_r _ [8, 3, 9, 37, 38, 39, 40, 41, 42, 43, 44, 45, 46, 47, 48, 49, 50, 51, 52, 53, 54, 55, 56, 57, 58, 59, 60, 61, 62, 63, 64, 65, 66, 67, 68, 69, 70, 71, 72, 73, 74, 75, 76, 77] rfl (by decide +kernel)
set_option maxRecDepth 20000 in
theorem gX9_comes_X9_sees : GoodIn wsX9_comes (wsV RX9 219 RX9 yX9_sees wsX9_sees) := goodIn_app (goodIn_of _ (by decide +kernel)) ggX9_comes_X9_sees
set_option maxRecDepth 20000 in
theorem ggX9_comes_X9_asksOf : GoodIn wsX9_comes wsX9_asksOf := goodIn_r _ [13, 14, 15, 16, 17, 18, 7, 19, 20, 21, 22, 23, 24, 25, 26, 27, 37, 38, 39, 40, 41, 42, 43, 44, 45, 46, 47, 48, 49, 50, 51, 52, 53, 54, 55, 56, 57, 58, 59, 60, 61, 62, 63, 64, 65, 66, 67, 68, 69, 70, 71, 72, 73, 74, 75, 76, 77] rfl (by decide +kernel)
set_option maxRecDepth 20000 in
theorem gX9_comes_X9_asksOf : GoodIn wsX9_comes (wsV RX9 198 RX9 yX9_asksOf wsX9_asksOf) := goodIn_app (goodIn_of _ (by decide +kernel)) ggX9_comes_X9_asksOf
set_option maxRecDepth 20000 in
theorem ggX9_comes_X9_keepsOf : GoodIn wsX9_comes wsX9_keepsOf := goodIn_r _ [31, 3, 9, 37, 38, 39, 40, 41, 42, 43, 44, 45, 46, 47, 48, 49, 50, 51, 52, 53, 54, 55, 56, 57, 58, 59, 60, 61, 62, 63, 64, 65, 66, 67, 68, 69, 70, 71, 72, 73, 74, 75, 76, 77] rfl (by decide +kernel)
set_option maxRecDepth 20000 in
theorem gX9_comes_X9_keepsOf : GoodIn wsX9_comes (wsV RX9 223 RX9 yX9_keepsOf wsX9_keepsOf) := goodIn_app (goodIn_of _ (by decide +kernel)) ggX9_comes_X9_keepsOf
set_option maxRecDepth 20000 in
theorem ggX9_comes_X9_maskOf : GoodIn wsX9_comes wsX9_maskOf := goodIn_r _ [35, 36, 37, 38, 39, 40, 41, 42, 43, 44, 45, 46, 47, 48, 49, 50, 51, 52, 53, 54, 55, 56, 57, 58, 59, 60, 61, 62, 63, 64, 65, 66, 67, 68, 69, 70, 71, 72, 73, 74, 75, 76, 77] rfl (by decide +kernel)
set_option maxRecDepth 20000 in
theorem gX9_comes_X9_maskOf : GoodIn wsX9_comes (wsV RX9 210 RX9 yX9_maskOf wsX9_maskOf) := goodIn_app (goodIn_of _ (by decide +kernel)) ggX9_comes_X9_maskOf
theorem dX9_comes_0 : decode cX9_comes 0 = .ok (.aload_n 0, 1) := by decide +kernel
theorem dX9_comes_1 : decode cX9_comes 1 = .ok (.iload_n 1, 1) := by decide +kernel
theorem dX9_comes_2 : decode cX9_comes 2 = .ok (.iload_n 3, 1) := by decide +kernel
theorem dX9_comes_3 : decode cX9_comes 3 = .ok (.invokevirtual 219, 3) := by decide +kernel
theorem dX9_comes_6 : decode cX9_comes 6 = .ok (.ifCond .eq 79, 3) := by decide +kernel
theorem dX9_comes_9 : decode cX9_comes 9 = .ok (.aload_n 0, 1) := by decide +kernel
theorem dX9_comes_10 : decode cX9_comes 10 = .ok (.iload_n 1, 1) := by decide +kernel
theorem dX9_comes_11 : decode cX9_comes 11 = .ok (.aload_n 0, 1) := by decide +kernel
theorem dX9_comes_12 : decode cX9_comes 12 = .ok (.iconst 0, 1) := by decide +kernel
theorem dX9_comes_13 : decode cX9_comes 13 = .ok (.aload_n 0, 1) := by decide +kernel
theorem dX9_comes_14 : decode cX9_comes 14 = .ok (.getfield 213, 3) := by decide +kernel
theorem dX9_comes_17 : decode cX9_comes 17 = .ok (.aload_n 0, 1) := by decide +kernel
theorem dX9_comes_18 : decode cX9_comes 18 = .ok (.getfield 216, 3) := by decide +kernel
theorem dX9_comes_21 : decode cX9_comes 21 = .ok (.iload_n 2, 1) := by decide +kernel
theorem dX9_comes_22 : decode cX9_comes 22 = .ok (.iload_n 3, 1) := by decide +kernel
theorem dX9_comes_23 : decode cX9_comes 23 = .ok (.aload_n 0, 1) := by decide +kernel
theorem dX9_comes_24 : decode cX9_comes 24 = .ok (.getfield 20, 3) := by decide +kernel
theorem dX9_comes_27 : decode cX9_comes 27 = .ok (.iload_n 1, 1) := by decide +kernel
theorem dX9_comes_28 : decode cX9_comes 28 = .ok (.iaload, 1) := by decide +kernel
theorem dX9_comes_29 : decode cX9_comes 29 = .ok (.invokevirtual 198, 3) := by decide +kernel
theorem dX9_comes_32 : decode cX9_comes 32 = .ok (.iload_n 3, 1) := by decide +kernel
theorem dX9_comes_33 : decode cX9_comes 33 = .ok (.invokevirtual 223, 3) := by decide +kernel
theorem dX9_comes_36 : decode cX9_comes 36 = .ok (.istore 4, 2) := by decide +kernel
theorem dX9_comes_38 : decode cX9_comes 38 = .ok (.aload_n 0, 1) := by decide +kernel
theorem dX9_comes_39 : decode cX9_comes 39 = .ok (.iconst 1, 1) := by decide +kernel
theorem dX9_comes_40 : decode cX9_comes 40 = .ok (.aload_n 0, 1) := by decide +kernel
theorem dX9_comes_41 : decode cX9_comes 41 = .ok (.getfield 213, 3) := by decide +kernel
theorem dX9_comes_44 : decode cX9_comes 44 = .ok (.aload_n 0, 1) := by decide +kernel
theorem dX9_comes_45 : decode cX9_comes 45 = .ok (.getfield 216, 3) := by decide +kernel
theorem dX9_comes_48 : decode cX9_comes 48 = .ok (.iload_n 2, 1) := by decide +kernel
theorem dX9_comes_49 : decode cX9_comes 49 = .ok (.iload_n 3, 1) := by decide +kernel
theorem dX9_comes_50 : decode cX9_comes 50 = .ok (.aload_n 0, 1) := by decide +kernel
theorem dX9_comes_51 : decode cX9_comes 51 = .ok (.getfield 20, 3) := by decide +kernel
theorem dX9_comes_54 : decode cX9_comes 54 = .ok (.iload_n 1, 1) := by decide +kernel
theorem dX9_comes_55 : decode cX9_comes 55 = .ok (.iaload, 1) := by decide +kernel
theorem dX9_comes_56 : decode cX9_comes 56 = .ok (.invokevirtual 198, 3) := by decide +kernel
theorem dX9_comes_59 : decode cX9_comes 59 = .ok (.istore 5, 2) := by decide +kernel
theorem dX9_comes_61 : decode cX9_comes 61 = .ok (.aload_n 0, 1) := by decide +kernel
theorem dX9_comes_62 : decode cX9_comes 62 = .ok (.iload 4, 2) := by decide +kernel
theorem dX9_comes_64 : decode cX9_comes 64 = .ok (.aload_n 0, 1) := by decide +kernel
theorem dX9_comes_65 : decode cX9_comes 65 = .ok (.iload_n 1, 1) := by decide +kernel
theorem dX9_comes_66 : decode cX9_comes 66 = .ok (.invokevirtual 210, 3) := by decide +kernel
theorem dX9_comes_69 : decode cX9_comes 69 = .ok (.iand, 1) := by decide +kernel
theorem dX9_comes_70 : decode cX9_comes 70 = .ok (.putfield 213, 3) := by decide +kernel
theorem dX9_comes_73 : decode cX9_comes 73 = .ok (.aload_n 0, 1) := by decide +kernel
theorem dX9_comes_74 : decode cX9_comes 74 = .ok (.iload 5, 2) := by decide +kernel
theorem dX9_comes_76 : decode cX9_comes 76 = .ok (.aload_n 0, 1) := by decide +kernel
theorem dX9_comes_77 : decode cX9_comes 77 = .ok (.iload_n 1, 1) := by decide +kernel
theorem dX9_comes_78 : decode cX9_comes 78 = .ok (.invokevirtual 210, 3) := by decide +kernel
theorem dX9_comes_81 : decode cX9_comes 81 = .ok (.iand, 1) := by decide +kernel
theorem dX9_comes_82 : decode cX9_comes 82 = .ok (.putfield 216, 3) := by decide +kernel
theorem dX9_comes_85 : decode cX9_comes 85 = .ok (.return_, 1) := by decide +kernel
theorem dX9_timesOf_0 : decode cX9_timesOf 0 = .ok (.aload_n 0, 1) := by decide +kernel
theorem dX9_timesOf_1 : decode cX9_timesOf 1 = .ok (.getfield 17, 3) := by decide +kernel
theorem dX9_timesOf_4 : decode cX9_timesOf 4 = .ok (.iload_n 1, 1) := by decide +kernel
theorem dX9_timesOf_5 : decode cX9_timesOf 5 = .ok (.iaload, 1) := by decide +kernel
theorem dX9_timesOf_6 : decode cX9_timesOf 6 = .ok (.iconst 5, 1) := by decide +kernel
theorem dX9_timesOf_7 : decode cX9_timesOf 7 = .ok (.if_icmp .ne 16, 3) := by decide +kernel
theorem dX9_timesOf_10 : decode cX9_timesOf 10 = .ok (.iconst 2, 1) := by decide +kernel
theorem dX9_timesOf_11 : decode cX9_timesOf 11 = .ok (.aload_n 0, 1) := by decide +kernel
theorem dX9_timesOf_12 : decode cX9_timesOf 12 = .ok (.getfield 20, 3) := by decide +kernel
theorem dX9_timesOf_15 : decode cX9_timesOf 15 = .ok (.iload_n 1, 1) := by decide +kernel
theorem dX9_timesOf_16 : decode cX9_timesOf 16 = .ok (.iaload, 1) := by decide +kernel
theorem dX9_timesOf_17 : decode cX9_timesOf 17 = .ok (.iconst 5, 1) := by decide +kernel
theorem dX9_timesOf_18 : decode cX9_timesOf 18 = .ok (.idiv, 1) := by decide +kernel
theorem dX9_timesOf_19 : decode cX9_timesOf 19 = .ok (.iadd, 1) := by decide +kernel
theorem dX9_timesOf_20 : decode cX9_timesOf 20 = .ok (.goto 4, 3) := by decide +kernel
theorem dX9_timesOf_23 : decode cX9_timesOf 23 = .ok (.iconst 1, 1) := by decide +kernel
theorem dX9_timesOf_24 : decode cX9_timesOf 24 = .ok (.ireturn, 1) := by decide +kernel
set_option maxRecDepth 20000 in
theorem ggX9_goesBy_X9_beginsOn : GoodIn wsX9_goesBy wsX9_beginsOn := goodIn_r _ [7, 8, 9, 10, 11, 12, 13, 6, 14, 51, 52, 53, 54, 55, 56, 57, 58, 59, 60, 61, 62, 63, 64, 65, 66, 67, 68, 69, 70, 71, 72, 73, 74, 75, 76, 77, 78, 79, 80, 81, 82, 83, 84, 85, 86, 87, 88, 89, 90, 91] rfl (by decide +kernel)
set_option maxRecDepth 20000 in
theorem gX9_goesBy_X9_beginsOn : GoodIn wsX9_goesBy (wsV RX9 226 RX9 yX9_beginsOn wsX9_beginsOn) := goodIn_app (goodIn_of _ (by decide +kernel)) ggX9_goesBy_X9_beginsOn
set_option maxRecDepth 20000 in
theorem ggX9_goesBy_X9_timesOf : GoodIn wsX9_goesBy wsX9_timesOf := goodIn_r _ [18, 19, 20, 51, 52, 53, 54, 55, 56, 57, 58, 59, 60, 61, 62, 63, 64, 65, 66, 67, 68, 69, 70, 71, 72, 73, 74, 75, 76, 77, 78, 79, 80, 81, 82, 83, 84, 85, 86, 87, 88, 89, 90, 91] rfl (by decide +kernel)
set_option maxRecDepth 20000 in
theorem gX9_goesBy_X9_timesOf : GoodIn wsX9_goesBy (wsV RX9 229 RX9 yX9_timesOf wsX9_timesOf) := goodIn_app (goodIn_of _ (by decide +kernel)) ggX9_goesBy_X9_timesOf
set_option maxRecDepth 20000 in
theorem ggX9_goesBy_X9_comes : GoodIn wsX9_goesBy wsX9_comes := goodIn_r _ [24, 9, 10, 20, 25, 26, 27, 6, 28, 19, 29, 30, 31, 32, 33, 34, 35, 36, 37, 38, 39, 40, 41, 42, 43, 44, 45, 46, 47, 48, 49, 50, 11, 12, 13, 14, 8, 51, 52, 53, 54, 55, 56, 57, 58, 59, 60, 61, 62, 63, 64, 65, 66, 67, 68, 69, 70, 71, 72, 73, 74, 75, 76, 77, 78, 79, 80, 81, 82, 83, 84, 85, 86, 87, 88, 89, 90, 91] rfl (by decide +kernel)
set_option maxRecDepth 20000 in
theorem gX9_goesBy_X9_comes : GoodIn wsX9_goesBy (wsV RX9 232 RX9 yX9_comes wsX9_comes) := goodIn_app (goodIn_of _ (by decide +kernel)) ggX9_goesBy_X9_comes
theorem dX9_goesBy_0 : decode cX9_goesBy 0 = .ok (.aload_n 0, 1) := by decide +kernel
theorem dX9_goesBy_1 : decode cX9_goesBy 1 = .ok (.iload_n 1, 1) := by decide +kernel
theorem dX9_goesBy_2 : decode cX9_goesBy 2 = .ok (.invokevirtual 226, 3) := by decide +kernel
theorem dX9_goesBy_5 : decode cX9_goesBy 5 = .ok (.iconst 1, 1) := by decide +kernel
theorem dX9_goesBy_6 : decode cX9_goesBy 6 = .ok (.istore_n 3, 1) := by decide +kernel
theorem dX9_goesBy_7 : decode cX9_goesBy 7 = .ok (.iload_n 3, 1) := by decide +kernel
theorem dX9_goesBy_8 : decode cX9_goesBy 8 = .ok (.aload_n 0, 1) := by decide +kernel
theorem dX9_goesBy_9 : decode cX9_goesBy 9 = .ok (.iload_n 1, 1) := by decide +kernel
theorem dX9_goesBy_10 : decode cX9_goesBy 10 = .ok (.invokevirtual 229, 3) := by decide +kernel
theorem dX9_goesBy_13 : decode cX9_goesBy 13 = .ok (.if_icmp .gt 54, 3) := by decide +kernel
theorem dX9_goesBy_16 : decode cX9_goesBy 16 = .ok (.iconst 0, 1) := by decide +kernel
theorem dX9_goesBy_17 : decode cX9_goesBy 17 = .ok (.istore 4, 2) := by decide +kernel
theorem dX9_goesBy_19 : decode cX9_goesBy 19 = .ok (.iload 4, 2) := by decide +kernel
theorem dX9_goesBy_21 : decode cX9_goesBy 21 = .ok (.iload_n 3, 1) := by decide +kernel
theorem dX9_goesBy_22 : decode cX9_goesBy 22 = .ok (.aload_n 0, 1) := by decide +kernel
theorem dX9_goesBy_23 : decode cX9_goesBy 23 = .ok (.iload_n 1, 1) := by decide +kernel
theorem dX9_goesBy_24 : decode cX9_goesBy 24 = .ok (.invokevirtual 229, 3) := by decide +kernel
theorem dX9_goesBy_27 : decode cX9_goesBy 27 = .ok (.if_icmp .ge 10, 3) := by decide +kernel
theorem dX9_goesBy_30 : decode cX9_goesBy 30 = .ok (.aload_n 0, 1) := by decide +kernel
theorem dX9_goesBy_31 : decode cX9_goesBy 31 = .ok (.getfield 102, 3) := by decide +kernel
theorem dX9_goesBy_34 : decode cX9_goesBy 34 = .ok (.goto 4, 3) := by decide +kernel
theorem dX9_goesBy_37 : decode cX9_goesBy 37 = .ok (.iload_n 2, 1) := by decide +kernel
theorem dX9_goesBy_38 : decode cX9_goesBy 38 = .ok (.if_icmp .ge 23, 3) := by decide +kernel
theorem dX9_goesBy_41 : decode cX9_goesBy 41 = .ok (.aload_n 0, 1) := by decide +kernel
theorem dX9_goesBy_42 : decode cX9_goesBy 42 = .ok (.iload_n 1, 1) := by decide +kernel
theorem dX9_goesBy_43 : decode cX9_goesBy 43 = .ok (.aload_n 0, 1) := by decide +kernel
theorem dX9_goesBy_44 : decode cX9_goesBy 44 = .ok (.getfield 65, 3) := by decide +kernel
theorem dX9_goesBy_47 : decode cX9_goesBy 47 = .ok (.iload 4, 2) := by decide +kernel
theorem dX9_goesBy_49 : decode cX9_goesBy 49 = .ok (.iaload, 1) := by decide +kernel
theorem dX9_goesBy_50 : decode cX9_goesBy 50 = .ok (.iload 4, 2) := by decide +kernel
theorem dX9_goesBy_52 : decode cX9_goesBy 52 = .ok (.invokevirtual 232, 3) := by decide +kernel
theorem dX9_goesBy_55 : decode cX9_goesBy 55 = .ok (.iinc 4 1, 3) := by decide +kernel
theorem dX9_goesBy_58 : decode cX9_goesBy 58 = .ok (.goto (-39), 3) := by decide +kernel
theorem dX9_goesBy_61 : decode cX9_goesBy 61 = .ok (.iinc 3 1, 3) := by decide +kernel
theorem dX9_goesBy_64 : decode cX9_goesBy 64 = .ok (.goto (-57), 3) := by decide +kernel
theorem dX9_goesBy_67 : decode cX9_goesBy 67 = .ok (.return_, 1) := by decide +kernel
set_option maxRecDepth 20000 in
theorem ggX9_saysOf_X9_goesBy : GoodIn wsX9_saysOf wsX9_goesBy := goodIn_r _ [11, 1, 12, 13, 14, 15, 10, 16, 17, 2, 3, 18, 19, 20, 21, 22, 23, 24, 25, 26, 4, 27, 28, 29, 30, 31, 32, 33, 34, 35, 36, 37, 38, 39, 40, 41, 42, 43, 44, 45, 46, 47, 48, 49, 50, 51, 52, 53, 54, 55, 56, 60, 61, 62, 63, 64, 65, 66, 67, 68, 69, 70, 71, 72, 73, 74, 75, 76, 77, 78, 79, 80, 81, 82, 83, 84, 85, 86, 87, 88, 89, 90, 91, 92, 93, 94, 95, 96, 97, 98, 99, 100] rfl (by decide +kernel)
set_option maxRecDepth 20000 in
theorem gX9_saysOf_X9_goesBy : GoodIn wsX9_saysOf (wsV RX9 236 RX9 yX9_goesBy wsX9_goesBy) := goodIn_app (goodIn_of _ (by decide +kernel)) ggX9_saysOf_X9_goesBy
set_option maxRecDepth 20000 in
theorem ggX9_saysOf_X9_asksOf : GoodIn wsX9_saysOf wsX9_asksOf := goodIn_r _ [38, 39, 40, 41, 42, 43, 10, 44, 45, 46, 47, 48, 49, 50, 51, 52, 60, 61, 62, 63, 64, 65, 66, 67, 68, 69, 70, 71, 72, 73, 74, 75, 76, 77, 78, 79, 80, 81, 82, 83, 84, 85, 86, 87, 88, 89, 90, 91, 92, 93, 94, 95, 96, 97, 98, 99, 100] rfl (by decide +kernel)
set_option maxRecDepth 20000 in
theorem gX9_saysOf_X9_asksOf : GoodIn wsX9_saysOf (wsV RX9 198 RX9 yX9_asksOf wsX9_asksOf) := goodIn_app (goodIn_of _ (by decide +kernel)) ggX9_saysOf_X9_asksOf
set_option maxRecDepth 20000 in
theorem ggX9_saysOf_X9_within : GoodIn wsX9_saysOf wsX9_within := goodIn_r _ [59] rfl (by decide +kernel)
set_option maxRecDepth 20000 in
theorem gX9_saysOf_X9_within : GoodIn wsX9_saysOf (va_wsS RX9 204 yX9_within wsX9_within) := goodIn_app (goodIn_of _ (by decide +kernel)) ggX9_saysOf_X9_within
theorem dX9_saysOf_0 : decode cX9_saysOf 0 = .ok (.aload_n 0, 1) := by decide +kernel
theorem dX9_saysOf_1 : decode cX9_saysOf 1 = .ok (.iload_n 1, 1) := by decide +kernel
theorem dX9_saysOf_2 : decode cX9_saysOf 2 = .ok (.aload_n 0, 1) := by decide +kernel
theorem dX9_saysOf_3 : decode cX9_saysOf 3 = .ok (.getfield 102, 3) := by decide +kernel
theorem dX9_saysOf_6 : decode cX9_saysOf 6 = .ok (.invokevirtual 236, 3) := by decide +kernel
theorem dX9_saysOf_9 : decode cX9_saysOf 9 = .ok (.aload_n 0, 1) := by decide +kernel
theorem dX9_saysOf_10 : decode cX9_saysOf 10 = .ok (.iconst 2, 1) := by decide +kernel
theorem dX9_saysOf_11 : decode cX9_saysOf 11 = .ok (.aload_n 0, 1) := by decide +kernel
theorem dX9_saysOf_12 : decode cX9_saysOf 12 = .ok (.getfield 213, 3) := by decide +kernel
theorem dX9_saysOf_15 : decode cX9_saysOf 15 = .ok (.aload_n 0, 1) := by decide +kernel
theorem dX9_saysOf_16 : decode cX9_saysOf 16 = .ok (.getfield 216, 3) := by decide +kernel
theorem dX9_saysOf_19 : decode cX9_saysOf 19 = .ok (.iconst 0, 1) := by decide +kernel
theorem dX9_saysOf_20 : decode cX9_saysOf 20 = .ok (.aload_n 0, 1) := by decide +kernel
theorem dX9_saysOf_21 : decode cX9_saysOf 21 = .ok (.getfield 102, 3) := by decide +kernel
theorem dX9_saysOf_24 : decode cX9_saysOf 24 = .ok (.aload_n 0, 1) := by decide +kernel
theorem dX9_saysOf_25 : decode cX9_saysOf 25 = .ok (.getfield 20, 3) := by decide +kernel
theorem dX9_saysOf_28 : decode cX9_saysOf 28 = .ok (.iload_n 1, 1) := by decide +kernel
theorem dX9_saysOf_29 : decode cX9_saysOf 29 = .ok (.iaload, 1) := by decide +kernel
theorem dX9_saysOf_30 : decode cX9_saysOf 30 = .ok (.invokevirtual 198, 3) := by decide +kernel
theorem dX9_saysOf_33 : decode cX9_saysOf 33 = .ok (.ldc 202, 2) := by decide +kernel
theorem dX9_saysOf_35 : decode cX9_saysOf 35 = .ok (.ldc 203, 2) := by decide +kernel
theorem dX9_saysOf_37 : decode cX9_saysOf 37 = .ok (.invokestatic 204, 3) := by decide +kernel
theorem dX9_saysOf_40 : decode cX9_saysOf 40 = .ok (.ireturn, 1) := by decide +kernel
set_option maxRecDepth 20000 in
theorem ggX9_say_X9_isHead : GoodIn wsX9_say wsX9_isHead := goodIn_r _ [6, 7, 8, 9, 5, 10, 79, 80, 81, 82, 83, 84, 85, 86, 87, 88, 89, 90, 91, 92, 93, 94, 95, 96, 97, 98, 99, 100, 101, 102, 103, 104, 105, 106, 107, 108, 109, 110, 111, 112, 113, 114, 115, 116, 117, 118, 119] rfl (by decide +kernel)
set_option maxRecDepth 20000 in
theorem gX9_say_X9_isHead : GoodIn wsX9_say (wsV RX9 207 RX9 yX9_isHead wsX9_isHead) := goodIn_app (goodIn_of _ (by decide +kernel)) ggX9_say_X9_isHead
set_option maxRecDepth 20000 in
theorem ggX9_say_X9_laysRow : GoodIn wsX9_say wsX9_laysRow := goodIn_r _ [14, 15, 16, 17, 18, 79, 80, 81, 82, 83, 84, 85, 86, 87, 88, 89, 90, 91, 92, 93, 94, 95, 96, 97, 98, 99, 100, 101, 102, 103, 104, 105, 106, 107, 108, 109, 110, 111, 112, 113, 114, 115, 116, 117, 118, 119] rfl (by decide +kernel)
set_option maxRecDepth 20000 in
theorem gX9_say_X9_laysRow : GoodIn wsX9_say (wsV RX9 105 RX9 yX9_laysRow wsX9_laysRow) := goodIn_app (goodIn_of _ (by decide +kernel)) ggX9_say_X9_laysRow
set_option maxRecDepth 20000 in
theorem ggX9_say_X9_saysOf : GoodIn wsX9_say wsX9_saysOf := goodIn_r _ [22, 16, 23, 24, 25, 26, 27, 28, 29, 30, 5, 31, 17, 32, 33, 34, 35, 36, 37, 38, 39, 40, 41, 42, 43, 44, 45, 46, 47, 48, 49, 50, 51, 52, 53, 54, 55, 56, 57, 58, 59, 60, 61, 62, 63, 64, 65, 66, 67, 68, 69, 70, 71, 72, 73, 74, 75, 76, 77, 78, 79, 80, 81, 82, 83, 84, 85, 86, 87, 88, 89, 90, 91, 92, 93, 94, 95, 96, 97, 98, 99, 100, 101, 102, 103, 104, 105, 106, 107, 108, 109, 110, 111, 112, 113, 114, 115, 116, 117, 118, 119] rfl (by decide +kernel)
set_option maxRecDepth 20000 in
theorem gX9_say_X9_saysOf : GoodIn wsX9_say (wsV RX9 240 RX9 yX9_saysOf wsX9_saysOf) := goodIn_app (goodIn_of _ (by decide +kernel)) ggX9_say_X9_saysOf
theorem dX9_say_0 : decode cX9_say 0 = .ok (.aload_n 0, 1) := by decide +kernel
theorem dX9_say_1 : decode cX9_say 1 = .ok (.iload_n 1, 1) := by decide +kernel
theorem dX9_say_2 : decode cX9_say 2 = .ok (.invokevirtual 207, 3) := by decide +kernel
theorem dX9_say_5 : decode cX9_say 5 = .ok (.ifCond .ne 6, 3) := by decide +kernel
theorem dX9_say_8 : decode cX9_say 8 = .ok (.ldc 239, 2) := by decide +kernel
theorem dX9_say_10 : decode cX9_say 10 = .ok (.ireturn, 1) := by decide +kernel
theorem dX9_say_11 : decode cX9_say 11 = .ok (.aload_n 0, 1) := by decide +kernel
theorem dX9_say_12 : decode cX9_say 12 = .ok (.invokevirtual 105, 3) := by decide +kernel
theorem dX9_say_15 : decode cX9_say 15 = .ok (.aload_n 0, 1) := by decide +kernel
theorem dX9_say_16 : decode cX9_say 16 = .ok (.iload_n 1, 1) := by decide +kernel
theorem dX9_say_17 : decode cX9_say 17 = .ok (.invokevirtual 240, 3) := by decide +kernel
theorem dX9_say_20 : decode cX9_say 20 = .ok (.ireturn, 1) := by decide +kernel
set_option maxRecDepth 20000 in
theorem ggX9_keep_X9_isHead : GoodIn wsX9_keep wsX9_isHead := goodIn_r _ [8, 9, 10, 11, 7, 12, 69, 70, 71, 72, 73, 74, 75, 76, 77, 78, 79, 80, 81, 82, 83, 84, 85, 86, 87, 88, 89, 90, 91, 92, 93, 94, 95, 96, 97, 98, 99, 100, 101, 102, 103, 104, 105, 106, 107, 108, 109] rfl (by decide +kernel)
set_option maxRecDepth 20000 in
theorem gX9_keep_X9_isHead : GoodIn wsX9_keep (wsV RX9 207 RX9 yX9_isHead wsX9_isHead) := goodIn_app (goodIn_of _ (by decide +kernel)) ggX9_keep_X9_isHead
set_option maxRecDepth 20000 in
theorem ggX9_keep_X9_in : GoodIn wsX9_keep wsX9_in := goodIn_r _ [12] rfl (by decide +kernel)
set_option maxRecDepth 20000 in
theorem gX9_keep_X9_in : GoodIn wsX9_keep (va_wsS RX9 78 yX9_in wsX9_in) := goodIn_app (goodIn_of _ (by decide +kernel)) ggX9_keep_X9_in
set_option maxRecDepth 20000 in
theorem ggX9_keep_X9_laysRow : GoodIn wsX9_keep wsX9_laysRow := goodIn_r _ [16, 1, 17, 18, 19, 69, 70, 71, 72, 73, 74, 75, 76, 77, 78, 79, 80, 81, 82, 83, 84, 85, 86, 87, 88, 89, 90, 91, 92, 93, 94, 95, 96, 97, 98, 99, 100, 101, 102, 103, 104, 105, 106, 107, 108, 109] rfl (by decide +kernel)
set_option maxRecDepth 20000 in
theorem gX9_keep_X9_laysRow : GoodIn wsX9_keep (wsV RX9 105 RX9 yX9_laysRow wsX9_laysRow) := goodIn_app (goodIn_of _ (by decide +kernel)) ggX9_keep_X9_laysRow
set_option maxRecDepth 20000 in
theorem ggX9_keep_X9_goesBy : GoodIn wsX9_keep wsX9_goesBy := goodIn_r _ [23, 17, 18, 24, 25, 26, 7, 27, 28, 2, 3, 29, 30, 31, 32, 33, 34, 35, 36, 37, 38, 39, 40, 41, 42, 43, 44, 45, 46, 47, 48, 49, 50, 51, 52, 53, 54, 55, 56, 57, 58, 59, 60, 61, 62, 63, 64, 65, 66, 67, 68, 69, 70, 71, 72, 73, 74, 75, 76, 77, 78, 79, 80, 81, 82, 83, 84, 85, 86, 87, 88, 89, 90, 91, 92, 93, 94, 95, 96, 97, 98, 99, 100, 101, 102, 103, 104, 105, 106, 107, 108, 109] rfl (by decide +kernel)
set_option maxRecDepth 20000 in
theorem gX9_keep_X9_goesBy : GoodIn wsX9_keep (wsV RX9 236 RX9 yX9_goesBy wsX9_goesBy) := goodIn_app (goodIn_of _ (by decide +kernel)) ggX9_keep_X9_goesBy
theorem dX9_keep_0 : decode cX9_keep 0 = .ok (.aload_n 0, 1) := by decide +kernel
theorem dX9_keep_1 : decode cX9_keep 1 = .ok (.iload_n 1, 1) := by decide +kernel
theorem dX9_keep_2 : decode cX9_keep 2 = .ok (.invokevirtual 207, 3) := by decide +kernel
theorem dX9_keep_5 : decode cX9_keep 5 = .ok (.ifCond .ne 6, 3) := by decide +kernel
theorem dX9_keep_8 : decode cX9_keep 8 = .ok (.bipush (-5), 2) := by decide +kernel
theorem dX9_keep_10 : decode cX9_keep 10 = .ok (.ireturn, 1) := by decide +kernel
theorem dX9_keep_11 : decode cX9_keep 11 = .ok (.iload_n 2, 1) := by decide +kernel
theorem dX9_keep_12 : decode cX9_keep 12 = .ok (.iconst 0, 1) := by decide +kernel
theorem dX9_keep_13 : decode cX9_keep 13 = .ok (.aload_n 0, 1) := by decide +kernel
theorem dX9_keep_14 : decode cX9_keep 14 = .ok (.getfield 85, 3) := by decide +kernel
theorem dX9_keep_17 : decode cX9_keep 17 = .ok (.invokestatic 78, 3) := by decide +kernel
theorem dX9_keep_20 : decode cX9_keep 20 = .ok (.ifCond .eq 12, 3) := by decide +kernel
theorem dX9_keep_23 : decode cX9_keep 23 = .ok (.iload_n 3, 1) := by decide +kernel
theorem dX9_keep_24 : decode cX9_keep 24 = .ok (.iconst 0, 1) := by decide +kernel
theorem dX9_keep_25 : decode cX9_keep 25 = .ok (.iconst 1, 1) := by decide +kernel
theorem dX9_keep_26 : decode cX9_keep 26 = .ok (.invokestatic 78, 3) := by decide +kernel
theorem dX9_keep_29 : decode cX9_keep 29 = .ok (.ifCond .ne 6, 3) := by decide +kernel
theorem dX9_keep_32 : decode cX9_keep 32 = .ok (.bipush (-7), 2) := by decide +kernel
theorem dX9_keep_34 : decode cX9_keep 34 = .ok (.ireturn, 1) := by decide +kernel
theorem dX9_keep_35 : decode cX9_keep 35 = .ok (.aload_n 0, 1) := by decide +kernel
theorem dX9_keep_36 : decode cX9_keep 36 = .ok (.invokevirtual 105, 3) := by decide +kernel
theorem dX9_keep_39 : decode cX9_keep 39 = .ok (.aload_n 0, 1) := by decide +kernel
theorem dX9_keep_40 : decode cX9_keep 40 = .ok (.iload_n 1, 1) := by decide +kernel
theorem dX9_keep_41 : decode cX9_keep 41 = .ok (.iload_n 2, 1) := by decide +kernel
theorem dX9_keep_42 : decode cX9_keep 42 = .ok (.invokevirtual 236, 3) := by decide +kernel
theorem dX9_keep_45 : decode cX9_keep 45 = .ok (.iload_n 3, 1) := by decide +kernel
theorem dX9_keep_46 : decode cX9_keep 46 = .ok (.ifCond .ne 10, 3) := by decide +kernel
theorem dX9_keep_49 : decode cX9_keep 49 = .ok (.aload_n 0, 1) := by decide +kernel
theorem dX9_keep_50 : decode cX9_keep 50 = .ok (.getfield 213, 3) := by decide +kernel
theorem dX9_keep_53 : decode cX9_keep 53 = .ok (.goto 7, 3) := by decide +kernel
theorem dX9_keep_56 : decode cX9_keep 56 = .ok (.aload_n 0, 1) := by decide +kernel
theorem dX9_keep_57 : decode cX9_keep 57 = .ok (.getfield 216, 3) := by decide +kernel
theorem dX9_keep_60 : decode cX9_keep 60 = .ok (.ireturn, 1) := by decide +kernel
set_option maxRecDepth 20000 in
theorem ggX9_rightOf_X9_laysBut : GoodIn wsX9_rightOf wsX9_laysBut := goodIn_r _ [6, 7, 1, 8, 68, 69, 70, 71, 72, 73, 74, 75, 76, 77, 78, 79, 80, 81, 82, 83, 84, 85, 86, 87, 88, 89, 90, 91, 92, 93, 94, 95, 96, 97, 98, 99, 100, 101, 102, 103, 104, 105, 106, 107, 108] rfl (by decide +kernel)
set_option maxRecDepth 20000 in
theorem gX9_rightOf_X9_laysBut : GoodIn wsX9_rightOf (wsV RX9 98 RX9 yX9_laysBut wsX9_laysBut) := goodIn_app (goodIn_of _ (by decide +kernel)) ggX9_rightOf_X9_laysBut
set_option maxRecDepth 20000 in
theorem ggX9_rightOf_X9_saysOf : GoodIn wsX9_rightOf wsX9_saysOf := goodIn_r _ [12, 7, 13, 14, 15, 16, 17, 18, 19, 20, 5, 21, 8, 22, 23, 24, 25, 26, 27, 28, 29, 30, 31, 32, 33, 34, 35, 36, 37, 38, 39, 40, 41, 42, 43, 44, 45, 46, 47, 48, 1, 49, 50, 51, 52, 53, 54, 55, 56, 57, 58, 59, 60, 61, 62, 63, 64, 65, 66, 67, 68, 69, 70, 71, 72, 73, 74, 75, 76, 77, 78, 79, 80, 81, 82, 83, 84, 85, 86, 87, 88, 89, 90, 91, 92, 93, 94, 95, 96, 97, 98, 99, 100, 101, 102, 103, 104, 105, 106, 107, 108] rfl (by decide +kernel)
set_option maxRecDepth 20000 in
theorem gX9_rightOf_X9_saysOf : GoodIn wsX9_rightOf (wsV RX9 240 RX9 yX9_saysOf wsX9_saysOf) := goodIn_app (goodIn_of _ (by decide +kernel)) ggX9_rightOf_X9_saysOf
theorem dX9_rightOf_0 : decode cX9_rightOf 0 = .ok (.lconst 0, 1) := by decide +kernel
theorem dX9_rightOf_1 : decode cX9_rightOf 1 = .ok (.lstore_n 3, 1) := by decide +kernel
theorem dX9_rightOf_2 : decode cX9_rightOf 2 = .ok (.iconst 1, 1) := by decide +kernel
theorem dX9_rightOf_3 : decode cX9_rightOf 3 = .ok (.istore 5, 2) := by decide +kernel
theorem dX9_rightOf_5 : decode cX9_rightOf 5 = .ok (.iload 5, 2) := by decide +kernel
theorem dX9_rightOf_7 : decode cX9_rightOf 7 = .ok (.aload_n 0, 1) := by decide +kernel
theorem dX9_rightOf_8 : decode cX9_rightOf 8 = .ok (.getfield 7, 3) := by decide +kernel
theorem dX9_rightOf_11 : decode cX9_rightOf 11 = .ok (.if_icmp .gt 39, 3) := by decide +kernel
theorem dX9_rightOf_14 : decode cX9_rightOf 14 = .ok (.aload_n 0, 1) := by decide +kernel
theorem dX9_rightOf_15 : decode cX9_rightOf 15 = .ok (.iload 5, 2) := by decide +kernel
theorem dX9_rightOf_17 : decode cX9_rightOf 17 = .ok (.iload_n 2, 1) := by decide +kernel
theorem dX9_rightOf_18 : decode cX9_rightOf 18 = .ok (.invokevirtual 98, 3) := by decide +kernel
theorem dX9_rightOf_21 : decode cX9_rightOf 21 = .ok (.lload_n 3, 1) := by decide +kernel
theorem dX9_rightOf_22 : decode cX9_rightOf 22 = .ok (.aload_n 0, 1) := by decide +kernel
theorem dX9_rightOf_23 : decode cX9_rightOf 23 = .ok (.iload_n 1, 1) := by decide +kernel
theorem dX9_rightOf_24 : decode cX9_rightOf 24 = .ok (.invokevirtual 240, 3) := by decide +kernel
theorem dX9_rightOf_27 : decode cX9_rightOf 27 = .ok (.iload 5, 2) := by decide +kernel
theorem dX9_rightOf_29 : decode cX9_rightOf 29 = .ok (.if_icmp .ne 12, 3) := by decide +kernel
theorem dX9_rightOf_32 : decode cX9_rightOf 32 = .ok (.lconst 1, 1) := by decide +kernel
theorem dX9_rightOf_33 : decode cX9_rightOf 33 = .ok (.iload 5, 2) := by decide +kernel
theorem dX9_rightOf_35 : decode cX9_rightOf 35 = .ok (.iconst 1, 1) := by decide +kernel
theorem dX9_rightOf_36 : decode cX9_rightOf 36 = .ok (.isub, 1) := by decide +kernel
theorem dX9_rightOf_37 : decode cX9_rightOf 37 = .ok (.lshl, 1) := by decide +kernel
theorem dX9_rightOf_38 : decode cX9_rightOf 38 = .ok (.goto 4, 3) := by decide +kernel
theorem dX9_rightOf_41 : decode cX9_rightOf 41 = .ok (.lconst 0, 1) := by decide +kernel
theorem dX9_rightOf_42 : decode cX9_rightOf 42 = .ok (.lor, 1) := by decide +kernel
theorem dX9_rightOf_43 : decode cX9_rightOf 43 = .ok (.lstore_n 3, 1) := by decide +kernel
theorem dX9_rightOf_44 : decode cX9_rightOf 44 = .ok (.iinc 5 1, 3) := by decide +kernel
theorem dX9_rightOf_47 : decode cX9_rightOf 47 = .ok (.goto (-42), 3) := by decide +kernel
theorem dX9_rightOf_50 : decode cX9_rightOf 50 = .ok (.lload_n 3, 1) := by decide +kernel
theorem dX9_rightOf_51 : decode cX9_rightOf 51 = .ok (.lreturn, 1) := by decide +kernel
theorem dX9_ones_0 : decode cX9_ones 0 = .ok (.iconst 0, 1) := by decide +kernel
theorem dX9_ones_1 : decode cX9_ones 1 = .ok (.istore_n 2, 1) := by decide +kernel
theorem dX9_ones_2 : decode cX9_ones 2 = .ok (.iconst 0, 1) := by decide +kernel
theorem dX9_ones_3 : decode cX9_ones 3 = .ok (.istore_n 3, 1) := by decide +kernel
theorem dX9_ones_4 : decode cX9_ones 4 = .ok (.iload_n 3, 1) := by decide +kernel
theorem dX9_ones_5 : decode cX9_ones 5 = .ok (.bipush 52, 2) := by decide +kernel
theorem dX9_ones_7 : decode cX9_ones 7 = .ok (.if_icmp .ge 27, 3) := by decide +kernel
theorem dX9_ones_10 : decode cX9_ones 10 = .ok (.iload_n 2, 1) := by decide +kernel
theorem dX9_ones_11 : decode cX9_ones 11 = .ok (.lload_n 0, 1) := by decide +kernel
theorem dX9_ones_12 : decode cX9_ones 12 = .ok (.iload_n 3, 1) := by decide +kernel
theorem dX9_ones_13 : decode cX9_ones 13 = .ok (.lshr, 1) := by decide +kernel
theorem dX9_ones_14 : decode cX9_ones 14 = .ok (.lconst 1, 1) := by decide +kernel
theorem dX9_ones_15 : decode cX9_ones 15 = .ok (.land, 1) := by decide +kernel
theorem dX9_ones_16 : decode cX9_ones 16 = .ok (.lconst 1, 1) := by decide +kernel
theorem dX9_ones_17 : decode cX9_ones 17 = .ok (.lcmp, 1) := by decide +kernel
theorem dX9_ones_18 : decode cX9_ones 18 = .ok (.ifCond .ne 7, 3) := by decide +kernel
theorem dX9_ones_21 : decode cX9_ones 21 = .ok (.iconst 1, 1) := by decide +kernel
theorem dX9_ones_22 : decode cX9_ones 22 = .ok (.goto 4, 3) := by decide +kernel
theorem dX9_ones_25 : decode cX9_ones 25 = .ok (.iconst 0, 1) := by decide +kernel
theorem dX9_ones_26 : decode cX9_ones 26 = .ok (.iadd, 1) := by decide +kernel
theorem dX9_ones_27 : decode cX9_ones 27 = .ok (.istore_n 2, 1) := by decide +kernel
theorem dX9_ones_28 : decode cX9_ones 28 = .ok (.iinc 3 1, 3) := by decide +kernel
theorem dX9_ones_31 : decode cX9_ones 31 = .ok (.goto (-27), 3) := by decide +kernel
theorem dX9_ones_34 : decode cX9_ones 34 = .ok (.iload_n 2, 1) := by decide +kernel
theorem dX9_ones_35 : decode cX9_ones 35 = .ok (.ireturn, 1) := by decide +kernel
set_option maxRecDepth 20000 in
theorem ggX9_right_X9_isHead : GoodIn wsX9_right wsX9_isHead := goodIn_r _ [6, 7, 8, 9, 5, 10, 81, 82, 83, 84, 85, 86, 87, 88, 89, 90, 91, 92, 93, 94, 95, 96, 97, 98, 99, 100, 101, 102, 103, 104, 105, 106, 107, 108, 109, 110, 111, 112, 113, 114, 115, 116, 117, 118, 119, 120, 121] rfl (by decide +kernel)
set_option maxRecDepth 20000 in
theorem gX9_right_X9_isHead : GoodIn wsX9_right (wsV RX9 207 RX9 yX9_isHead wsX9_isHead) := goodIn_app (goodIn_of _ (by decide +kernel)) ggX9_right_X9_isHead
set_option maxRecDepth 20000 in
theorem ggX9_right_X9_in : GoodIn wsX9_right wsX9_in := goodIn_r _ [10] rfl (by decide +kernel)
set_option maxRecDepth 20000 in
theorem gX9_right_X9_in : GoodIn wsX9_right (va_wsS RX9 78 yX9_in wsX9_in) := goodIn_app (goodIn_of _ (by decide +kernel)) ggX9_right_X9_in
set_option maxRecDepth 20000 in
theorem ggX9_right_X9_rightOf : GoodIn wsX9_right wsX9_rightOf := goodIn_r _ [14, 15, 16, 17, 18, 5, 19, 20, 21, 22, 23, 24, 25, 26, 27, 28, 29, 30, 31, 32, 33, 34, 35, 36, 37, 38, 39, 40, 41, 42, 43, 44, 45, 46, 47, 48, 49, 50, 51, 52, 53, 54, 55, 56, 57, 58, 59, 60, 61, 62, 63, 64, 65, 66, 67, 68, 69, 70, 71, 72, 73, 74, 75, 76, 77, 78, 79, 80, 81, 82, 83, 84, 85, 86, 87, 88, 89, 90, 91, 92, 93, 94, 95, 96, 97, 98, 99, 100, 101, 102, 103, 104, 105, 106, 107, 108, 109, 110, 111, 112, 113, 114, 115, 116, 117, 118, 119, 120, 121] rfl (by decide +kernel)
set_option maxRecDepth 20000 in
theorem gX9_right_X9_rightOf : GoodIn wsX9_right (wsV RX9 243 RX9 yX9_rightOf wsX9_rightOf) := goodIn_app (goodIn_of _ (by decide +kernel)) ggX9_right_X9_rightOf
theorem dX9_right_0 : decode cX9_right 0 = .ok (.aload_n 0, 1) := by decide +kernel
theorem dX9_right_1 : decode cX9_right 1 = .ok (.iload_n 1, 1) := by decide +kernel
theorem dX9_right_2 : decode cX9_right 2 = .ok (.invokevirtual 207, 3) := by decide +kernel
theorem dX9_right_5 : decode cX9_right 5 = .ok (.ifCond .eq 21, 3) := by decide +kernel
theorem dX9_right_8 : decode cX9_right 8 = .ok (.iload_n 2, 1) := by decide +kernel
theorem dX9_right_9 : decode cX9_right 9 = .ok (.iconst 0, 1) := by decide +kernel
theorem dX9_right_10 : decode cX9_right 10 = .ok (.iconst 1, 1) := by decide +kernel
theorem dX9_right_11 : decode cX9_right 11 = .ok (.invokestatic 78, 3) := by decide +kernel
theorem dX9_right_14 : decode cX9_right 14 = .ok (.ifCond .eq 12, 3) := by decide +kernel
theorem dX9_right_17 : decode cX9_right 17 = .ok (.aload_n 0, 1) := by decide +kernel
theorem dX9_right_18 : decode cX9_right 18 = .ok (.iload_n 1, 1) := by decide +kernel
theorem dX9_right_19 : decode cX9_right 19 = .ok (.iload_n 2, 1) := by decide +kernel
theorem dX9_right_20 : decode cX9_right 20 = .ok (.invokevirtual 243, 3) := by decide +kernel
theorem dX9_right_23 : decode cX9_right 23 = .ok (.goto 6, 3) := by decide +kernel
theorem dX9_right_26 : decode cX9_right 26 = .ok (.ldc2_w 247, 3) := by decide +kernel
theorem dX9_right_29 : decode cX9_right 29 = .ok (.lreturn, 1) := by decide +kernel
set_option maxRecDepth 20000 in
theorem ggX9_least_X9_isHead : GoodIn wsX9_least wsX9_isHead := goodIn_r _ [7, 8, 9, 10, 6, 11, 83, 84, 85, 86, 87, 88, 89, 90, 91, 92, 93, 94, 95, 96, 97, 98, 99, 100, 101, 102, 103, 104, 105, 106, 107, 108, 109, 110, 111, 112, 113, 114, 115, 116, 117, 118, 119, 120, 121, 122, 123] rfl (by decide +kernel)
set_option maxRecDepth 20000 in
theorem gX9_least_X9_isHead : GoodIn wsX9_least (wsV RX9 207 RX9 yX9_isHead wsX9_isHead) := goodIn_app (goodIn_of _ (by decide +kernel)) ggX9_least_X9_isHead
set_option maxRecDepth 20000 in
theorem ggX9_least_X9_rightOf : GoodIn wsX9_least wsX9_rightOf := goodIn_r _ [15, 2, 16, 17, 18, 6, 19, 20, 21, 22, 23, 24, 25, 26, 27, 28, 29, 30, 31, 32, 33, 34, 35, 36, 37, 38, 1, 39, 40, 41, 42, 43, 44, 45, 46, 47, 48, 49, 50, 51, 52, 53, 54, 55, 56, 57, 58, 59, 60, 61, 62, 63, 64, 65, 66, 67, 68, 69, 70, 71, 72, 73, 74, 75, 76, 77, 78, 79, 83, 84, 85, 86, 87, 88, 89, 90, 91, 92, 93, 94, 95, 96, 97, 98, 99, 100, 101, 102, 103, 104, 105, 106, 107, 108, 109, 110, 111, 112, 113, 114, 115, 116, 117, 118, 119, 120, 121, 122, 123] rfl (by decide +kernel)
set_option maxRecDepth 20000 in
theorem gX9_least_X9_rightOf : GoodIn wsX9_least (wsV RX9 243 RX9 yX9_rightOf wsX9_rightOf) := goodIn_app (goodIn_of _ (by decide +kernel)) ggX9_least_X9_rightOf
set_option maxRecDepth 20000 in
theorem ggX9_least_X9_ones : GoodIn wsX9_least wsX9_ones := goodIn_r _ [82] rfl (by decide +kernel)
set_option maxRecDepth 20000 in
theorem gX9_least_X9_ones : GoodIn wsX9_least (va_wsS RX9 249 yX9_ones wsX9_ones) := goodIn_app (goodIn_of _ (by decide +kernel)) ggX9_least_X9_ones
theorem dX9_least_0 : decode cX9_least 0 = .ok (.aload_n 0, 1) := by decide +kernel
theorem dX9_least_1 : decode cX9_least 1 = .ok (.iload_n 1, 1) := by decide +kernel
theorem dX9_least_2 : decode cX9_least 2 = .ok (.invokevirtual 207, 3) := by decide +kernel
theorem dX9_least_5 : decode cX9_least 5 = .ok (.ifCond .ne 6, 3) := by decide +kernel
theorem dX9_least_8 : decode cX9_least 8 = .ok (.bipush (-5), 2) := by decide +kernel
theorem dX9_least_10 : decode cX9_least 10 = .ok (.ireturn, 1) := by decide +kernel
theorem dX9_least_11 : decode cX9_least 11 = .ok (.aload_n 0, 1) := by decide +kernel
theorem dX9_least_12 : decode cX9_least 12 = .ok (.getfield 23, 3) := by decide +kernel
theorem dX9_least_15 : decode cX9_least 15 = .ok (.iconst 3, 1) := by decide +kernel
theorem dX9_least_16 : decode cX9_least 16 = .ok (.iload_n 1, 1) := by decide +kernel
theorem dX9_least_17 : decode cX9_least 17 = .ok (.imul, 1) := by decide +kernel
theorem dX9_least_18 : decode cX9_least 18 = .ok (.iaload, 1) := by decide +kernel
theorem dX9_least_19 : decode cX9_least 19 = .ok (.istore_n 2, 1) := by decide +kernel
theorem dX9_least_20 : decode cX9_least 20 = .ok (.iconst (-1), 1) := by decide +kernel
theorem dX9_least_21 : decode cX9_least 21 = .ok (.istore_n 3, 1) := by decide +kernel
theorem dX9_least_22 : decode cX9_least 22 = .ok (.bipush 16, 2) := by decide +kernel
theorem dX9_least_24 : decode cX9_least 24 = .ok (.istore 4, 2) := by decide +kernel
theorem dX9_least_26 : decode cX9_least 26 = .ok (.iload 4, 2) := by decide +kernel
theorem dX9_least_28 : decode cX9_least 28 = .ok (.iconst 1, 1) := by decide +kernel
theorem dX9_least_29 : decode cX9_least 29 = .ok (.if_icmp .lt 42, 3) := by decide +kernel
theorem dX9_least_32 : decode cX9_least 32 = .ok (.aload_n 0, 1) := by decide +kernel
theorem dX9_least_33 : decode cX9_least 33 = .ok (.getfield 23, 3) := by decide +kernel
theorem dX9_least_36 : decode cX9_least 36 = .ok (.iconst 3, 1) := by decide +kernel
theorem dX9_least_37 : decode cX9_least 37 = .ok (.iload_n 1, 1) := by decide +kernel
theorem dX9_least_38 : decode cX9_least 38 = .ok (.imul, 1) := by decide +kernel
theorem dX9_least_39 : decode cX9_least 39 = .ok (.iload 4, 2) := by decide +kernel
theorem dX9_least_41 : decode cX9_least 41 = .ok (.iastore, 1) := by decide +kernel
theorem dX9_least_42 : decode cX9_least 42 = .ok (.aload_n 0, 1) := by decide +kernel
theorem dX9_least_43 : decode cX9_least 43 = .ok (.iload_n 1, 1) := by decide +kernel
theorem dX9_least_44 : decode cX9_least 44 = .ok (.iconst 0, 1) := by decide +kernel
theorem dX9_least_45 : decode cX9_least 45 = .ok (.invokevirtual 243, 3) := by decide +kernel
theorem dX9_least_48 : decode cX9_least 48 = .ok (.invokestatic 249, 3) := by decide +kernel
theorem dX9_least_51 : decode cX9_least 51 = .ok (.aload_n 0, 1) := by decide +kernel
theorem dX9_least_52 : decode cX9_least 52 = .ok (.getfield 7, 3) := by decide +kernel
theorem dX9_least_55 : decode cX9_least 55 = .ok (.if_icmp .ne 8, 3) := by decide +kernel
theorem dX9_least_58 : decode cX9_least 58 = .ok (.iload 4, 2) := by decide +kernel
theorem dX9_least_60 : decode cX9_least 60 = .ok (.goto 4, 3) := by decide +kernel
theorem dX9_least_63 : decode cX9_least 63 = .ok (.iload_n 3, 1) := by decide +kernel
theorem dX9_least_64 : decode cX9_least 64 = .ok (.istore_n 3, 1) := by decide +kernel
theorem dX9_least_65 : decode cX9_least 65 = .ok (.iinc 4 (-1), 3) := by decide +kernel
theorem dX9_least_68 : decode cX9_least 68 = .ok (.goto (-42), 3) := by decide +kernel
theorem dX9_least_71 : decode cX9_least 71 = .ok (.aload_n 0, 1) := by decide +kernel
theorem dX9_least_72 : decode cX9_least 72 = .ok (.getfield 23, 3) := by decide +kernel
theorem dX9_least_75 : decode cX9_least 75 = .ok (.iconst 3, 1) := by decide +kernel
theorem dX9_least_76 : decode cX9_least 76 = .ok (.iload_n 1, 1) := by decide +kernel
theorem dX9_least_77 : decode cX9_least 77 = .ok (.imul, 1) := by decide +kernel
theorem dX9_least_78 : decode cX9_least 78 = .ok (.iload_n 2, 1) := by decide +kernel
theorem dX9_least_79 : decode cX9_least 79 = .ok (.iastore, 1) := by decide +kernel
theorem dX9_least_80 : decode cX9_least 80 = .ok (.iload_n 3, 1) := by decide +kernel
theorem dX9_least_81 : decode cX9_least 81 = .ok (.ireturn, 1) := by decide +kernel
set_option maxRecDepth 20000 in
theorem ggX9_begin_X9_isHead : GoodIn wsX9_begin wsX9_isHead := goodIn_r _ [6, 7, 8, 9, 5, 10, 87, 88, 89, 90, 91, 92, 93, 94, 95, 96, 97, 98, 99, 100, 101, 102, 103, 104, 105, 106, 107, 108, 109, 110, 111, 112, 113, 114, 115, 116, 117, 118, 119, 120, 121, 122, 123, 124, 125, 126, 127] rfl (by decide +kernel)
set_option maxRecDepth 20000 in
theorem gX9_begin_X9_isHead : GoodIn wsX9_begin (wsV RX9 207 RX9 yX9_isHead wsX9_isHead) := goodIn_app (goodIn_of _ (by decide +kernel)) ggX9_begin_X9_isHead
set_option maxRecDepth 20000 in
theorem ggX9_begin_X9_in : GoodIn wsX9_begin wsX9_in := goodIn_r _ [10] rfl (by decide +kernel)
set_option maxRecDepth 20000 in
theorem gX9_begin_X9_in : GoodIn wsX9_begin (va_wsS RX9 78 yX9_in wsX9_in) := goodIn_app (goodIn_of _ (by decide +kernel)) ggX9_begin_X9_in
set_option maxRecDepth 20000 in
theorem ggX9_begin_X9_packSum : GoodIn wsX9_begin wsX9_packSum := goodIn_r _ [14, 15, 87, 88, 89, 90, 91, 92, 93, 94, 95, 96, 97, 98, 99, 100, 101, 102, 103, 104, 105, 106, 107, 108, 109, 110, 111, 112, 113, 114, 115, 116, 117, 118, 119, 120, 121, 122, 123, 124, 125, 126, 127] rfl (by decide +kernel)
set_option maxRecDepth 20000 in
theorem gX9_begin_X9_packSum : GoodIn wsX9_begin (wsV RX9 129 RX9 yX9_packSum wsX9_packSum) := goodIn_app (goodIn_of _ (by decide +kernel)) ggX9_begin_X9_packSum
set_option maxRecDepth 20000 in
theorem ggX9_begin_X9_rightOf : GoodIn wsX9_begin wsX9_rightOf := goodIn_r _ [19, 15, 20, 21, 22, 5, 23, 24, 25, 26, 27, 28, 29, 30, 31, 32, 33, 34, 35, 36, 37, 38, 39, 40, 41, 42, 1, 43, 44, 45, 46, 47, 48, 49, 50, 51, 52, 53, 54, 55, 56, 57, 58, 59, 60, 61, 62, 63, 64, 65, 66, 67, 68, 69, 70, 71, 72, 73, 74, 75, 76, 77, 78, 79, 80, 81, 82, 83, 87, 88, 89, 90, 91, 92, 93, 94, 95, 96, 97, 98, 99, 100, 101, 102, 103, 104, 105, 106, 107, 108, 109, 110, 111, 112, 113, 114, 115, 116, 117, 118, 119, 120, 121, 122, 123, 124, 125, 126, 127] rfl (by decide +kernel)
set_option maxRecDepth 20000 in
theorem gX9_begin_X9_rightOf : GoodIn wsX9_begin (wsV RX9 243 RX9 yX9_rightOf wsX9_rightOf) := goodIn_app (goodIn_of _ (by decide +kernel)) ggX9_begin_X9_rightOf
set_option maxRecDepth 20000 in
theorem ggX9_begin_X9_ones : GoodIn wsX9_begin wsX9_ones := goodIn_r _ [86] rfl (by decide +kernel)
set_option maxRecDepth 20000 in
theorem gX9_begin_X9_ones : GoodIn wsX9_begin (va_wsS RX9 249 yX9_ones wsX9_ones) := goodIn_app (goodIn_of _ (by decide +kernel)) ggX9_begin_X9_ones
theorem dX9_begin_0 : decode cX9_begin 0 = .ok (.aload_n 0, 1) := by decide +kernel
theorem dX9_begin_1 : decode cX9_begin 1 = .ok (.iload_n 1, 1) := by decide +kernel
theorem dX9_begin_2 : decode cX9_begin 2 = .ok (.invokevirtual 207, 3) := by decide +kernel
theorem dX9_begin_5 : decode cX9_begin 5 = .ok (.ifCond .ne 6, 3) := by decide +kernel
theorem dX9_begin_8 : decode cX9_begin 8 = .ok (.bipush (-5), 2) := by decide +kernel
theorem dX9_begin_10 : decode cX9_begin 10 = .ok (.ireturn, 1) := by decide +kernel
theorem dX9_begin_11 : decode cX9_begin 11 = .ok (.iload_n 2, 1) := by decide +kernel
theorem dX9_begin_12 : decode cX9_begin 12 = .ok (.iconst 0, 1) := by decide +kernel
theorem dX9_begin_13 : decode cX9_begin 13 = .ok (.iconst 1, 1) := by decide +kernel
theorem dX9_begin_14 : decode cX9_begin 14 = .ok (.invokestatic 78, 3) := by decide +kernel
theorem dX9_begin_17 : decode cX9_begin 17 = .ok (.ifCond .ne 6, 3) := by decide +kernel
theorem dX9_begin_20 : decode cX9_begin 20 = .ok (.bipush (-7), 2) := by decide +kernel
theorem dX9_begin_22 : decode cX9_begin 22 = .ok (.ireturn, 1) := by decide +kernel
theorem dX9_begin_23 : decode cX9_begin 23 = .ok (.aload_n 0, 1) := by decide +kernel
theorem dX9_begin_24 : decode cX9_begin 24 = .ok (.getfield 23, 3) := by decide +kernel
theorem dX9_begin_27 : decode cX9_begin 27 = .ok (.iconst 3, 1) := by decide +kernel
theorem dX9_begin_28 : decode cX9_begin 28 = .ok (.iload_n 1, 1) := by decide +kernel
theorem dX9_begin_29 : decode cX9_begin 29 = .ok (.imul, 1) := by decide +kernel
theorem dX9_begin_30 : decode cX9_begin 30 = .ok (.iconst 1, 1) := by decide +kernel
theorem dX9_begin_31 : decode cX9_begin 31 = .ok (.iadd, 1) := by decide +kernel
theorem dX9_begin_32 : decode cX9_begin 32 = .ok (.iaload, 1) := by decide +kernel
theorem dX9_begin_33 : decode cX9_begin 33 = .ok (.istore_n 3, 1) := by decide +kernel
theorem dX9_begin_34 : decode cX9_begin 34 = .ok (.iconst (-1), 1) := by decide +kernel
theorem dX9_begin_35 : decode cX9_begin 35 = .ok (.istore 4, 2) := by decide +kernel
theorem dX9_begin_37 : decode cX9_begin 37 = .ok (.iconst (-1), 1) := by decide +kernel
theorem dX9_begin_38 : decode cX9_begin 38 = .ok (.istore 5, 2) := by decide +kernel
theorem dX9_begin_40 : decode cX9_begin 40 = .ok (.iconst 0, 1) := by decide +kernel
theorem dX9_begin_41 : decode cX9_begin 41 = .ok (.istore 6, 2) := by decide +kernel
theorem dX9_begin_43 : decode cX9_begin 43 = .ok (.iload 6, 2) := by decide +kernel
theorem dX9_begin_45 : decode cX9_begin 45 = .ok (.bipush 100, 2) := by decide +kernel
theorem dX9_begin_47 : decode cX9_begin 47 = .ok (.if_icmp .gt 82, 3) := by decide +kernel
theorem dX9_begin_50 : decode cX9_begin 50 = .ok (.iload 6, 2) := by decide +kernel
theorem dX9_begin_52 : decode cX9_begin 52 = .ok (.bipush 100, 2) := by decide +kernel
theorem dX9_begin_54 : decode cX9_begin 54 = .ok (.if_icmp .ne 10, 3) := by decide +kernel
theorem dX9_begin_57 : decode cX9_begin 57 = .ok (.aload_n 0, 1) := by decide +kernel
theorem dX9_begin_58 : decode cX9_begin 58 = .ok (.invokevirtual 129, 3) := by decide +kernel
theorem dX9_begin_61 : decode cX9_begin 61 = .ok (.goto 5, 3) := by decide +kernel
theorem dX9_begin_64 : decode cX9_begin 64 = .ok (.iload 6, 2) := by decide +kernel
theorem dX9_begin_66 : decode cX9_begin 66 = .ok (.istore 7, 2) := by decide +kernel
theorem dX9_begin_68 : decode cX9_begin 68 = .ok (.aload_n 0, 1) := by decide +kernel
theorem dX9_begin_69 : decode cX9_begin 69 = .ok (.getfield 23, 3) := by decide +kernel
theorem dX9_begin_72 : decode cX9_begin 72 = .ok (.iconst 3, 1) := by decide +kernel
theorem dX9_begin_73 : decode cX9_begin 73 = .ok (.iload_n 1, 1) := by decide +kernel
theorem dX9_begin_74 : decode cX9_begin 74 = .ok (.imul, 1) := by decide +kernel
theorem dX9_begin_75 : decode cX9_begin 75 = .ok (.iconst 1, 1) := by decide +kernel
theorem dX9_begin_76 : decode cX9_begin 76 = .ok (.iadd, 1) := by decide +kernel
theorem dX9_begin_77 : decode cX9_begin 77 = .ok (.iload 7, 2) := by decide +kernel
theorem dX9_begin_79 : decode cX9_begin 79 = .ok (.iastore, 1) := by decide +kernel
theorem dX9_begin_80 : decode cX9_begin 80 = .ok (.aload_n 0, 1) := by decide +kernel
theorem dX9_begin_81 : decode cX9_begin 81 = .ok (.iload_n 1, 1) := by decide +kernel
theorem dX9_begin_82 : decode cX9_begin 82 = .ok (.iconst 0, 1) := by decide +kernel
theorem dX9_begin_83 : decode cX9_begin 83 = .ok (.invokevirtual 243, 3) := by decide +kernel
theorem dX9_begin_86 : decode cX9_begin 86 = .ok (.invokestatic 249, 3) := by decide +kernel
theorem dX9_begin_89 : decode cX9_begin 89 = .ok (.istore 8, 2) := by decide +kernel
theorem dX9_begin_91 : decode cX9_begin 91 = .ok (.iload 8, 2) := by decide +kernel
theorem dX9_begin_93 : decode cX9_begin 93 = .ok (.iload 5, 2) := by decide +kernel
theorem dX9_begin_95 : decode cX9_begin 95 = .ok (.if_icmp .le 8, 3) := by decide +kernel
theorem dX9_begin_98 : decode cX9_begin 98 = .ok (.iload 7, 2) := by decide +kernel
theorem dX9_begin_100 : decode cX9_begin 100 = .ok (.goto 5, 3) := by decide +kernel
theorem dX9_begin_103 : decode cX9_begin 103 = .ok (.iload 4, 2) := by decide +kernel
theorem dX9_begin_105 : decode cX9_begin 105 = .ok (.istore 4, 2) := by decide +kernel
theorem dX9_begin_107 : decode cX9_begin 107 = .ok (.iload 8, 2) := by decide +kernel
theorem dX9_begin_109 : decode cX9_begin 109 = .ok (.iload 5, 2) := by decide +kernel
theorem dX9_begin_111 : decode cX9_begin 111 = .ok (.if_icmp .le 8, 3) := by decide +kernel
theorem dX9_begin_114 : decode cX9_begin 114 = .ok (.iload 8, 2) := by decide +kernel
theorem dX9_begin_116 : decode cX9_begin 116 = .ok (.goto 5, 3) := by decide +kernel
theorem dX9_begin_119 : decode cX9_begin 119 = .ok (.iload 5, 2) := by decide +kernel
theorem dX9_begin_121 : decode cX9_begin 121 = .ok (.istore 5, 2) := by decide +kernel
theorem dX9_begin_123 : decode cX9_begin 123 = .ok (.iinc 6 1, 3) := by decide +kernel
theorem dX9_begin_126 : decode cX9_begin 126 = .ok (.goto (-83), 3) := by decide +kernel
theorem dX9_begin_129 : decode cX9_begin 129 = .ok (.aload_n 0, 1) := by decide +kernel
theorem dX9_begin_130 : decode cX9_begin 130 = .ok (.getfield 23, 3) := by decide +kernel
theorem dX9_begin_133 : decode cX9_begin 133 = .ok (.iconst 3, 1) := by decide +kernel
theorem dX9_begin_134 : decode cX9_begin 134 = .ok (.iload_n 1, 1) := by decide +kernel
theorem dX9_begin_135 : decode cX9_begin 135 = .ok (.imul, 1) := by decide +kernel
theorem dX9_begin_136 : decode cX9_begin 136 = .ok (.iconst 1, 1) := by decide +kernel
theorem dX9_begin_137 : decode cX9_begin 137 = .ok (.iadd, 1) := by decide +kernel
theorem dX9_begin_138 : decode cX9_begin 138 = .ok (.iload_n 3, 1) := by decide +kernel
theorem dX9_begin_139 : decode cX9_begin 139 = .ok (.iastore, 1) := by decide +kernel
theorem dX9_begin_140 : decode cX9_begin 140 = .ok (.iload_n 2, 1) := by decide +kernel
theorem dX9_begin_141 : decode cX9_begin 141 = .ok (.ifCond .ne 8, 3) := by decide +kernel
theorem dX9_begin_144 : decode cX9_begin 144 = .ok (.iload 4, 2) := by decide +kernel
theorem dX9_begin_146 : decode cX9_begin 146 = .ok (.goto 5, 3) := by decide +kernel
theorem dX9_begin_149 : decode cX9_begin 149 = .ok (.iload 5, 2) := by decide +kernel
theorem dX9_begin_151 : decode cX9_begin 151 = .ok (.ireturn, 1) := by decide +kernel
set_option maxRecDepth 20000 in
theorem ggX9_same_X9_isHead : GoodIn wsX9_same wsX9_isHead := goodIn_r _ [5, 6, 7, 8, 4, 9, 82, 83, 84, 85, 86, 87, 88, 89, 90, 91, 92, 93, 94, 95, 96, 97, 98, 99, 100, 101, 102, 103, 104, 105, 106, 107, 108, 109, 110, 111, 112, 113, 114, 115, 116, 117, 118, 119, 120, 121, 122] rfl (by decide +kernel)
set_option maxRecDepth 20000 in
theorem gX9_same_X9_isHead : GoodIn wsX9_same (wsV RX9 207 RX9 yX9_isHead wsX9_isHead) := goodIn_app (goodIn_of _ (by decide +kernel)) ggX9_same_X9_isHead
set_option maxRecDepth 20000 in
theorem ggX9_same_X9_in : GoodIn wsX9_same wsX9_in := goodIn_r _ [9] rfl (by decide +kernel)
set_option maxRecDepth 20000 in
theorem gX9_same_X9_in : GoodIn wsX9_same (va_wsS RX9 78 yX9_in wsX9_in) := goodIn_app (goodIn_of _ (by decide +kernel)) ggX9_same_X9_in
set_option maxRecDepth 20000 in
theorem ggX9_same_X9_laysRow : GoodIn wsX9_same wsX9_laysRow := goodIn_r _ [13, 14, 15, 16, 17, 82, 83, 84, 85, 86, 87, 88, 89, 90, 91, 92, 93, 94, 95, 96, 97, 98, 99, 100, 101, 102, 103, 104, 105, 106, 107, 108, 109, 110, 111, 112, 113, 114, 115, 116, 117, 118, 119, 120, 121, 122] rfl (by decide +kernel)
set_option maxRecDepth 20000 in
theorem gX9_same_X9_laysRow : GoodIn wsX9_same (wsV RX9 105 RX9 yX9_laysRow wsX9_laysRow) := goodIn_app (goodIn_of _ (by decide +kernel)) ggX9_same_X9_laysRow
set_option maxRecDepth 20000 in
theorem ggX9_same_X9_saysOf : GoodIn wsX9_same wsX9_saysOf := goodIn_r _ [21, 15, 22, 23, 24, 25, 26, 27, 28, 29, 4, 30, 16, 31, 32, 33, 34, 35, 36, 37, 38, 39, 40, 41, 42, 43, 44, 45, 46, 47, 48, 49, 50, 51, 52, 53, 54, 55, 56, 57, 58, 59, 60, 61, 62, 63, 64, 65, 66, 67, 68, 69, 70, 71, 72, 73, 74, 75, 76, 77, 82, 83, 84, 85, 86, 87, 88, 89, 90, 91, 92, 93, 94, 95, 96, 97, 98, 99, 100, 101, 102, 103, 104, 105, 106, 107, 108, 109, 110, 111, 112, 113, 114, 115, 116, 117, 118, 119, 120, 121, 122] rfl (by decide +kernel)
set_option maxRecDepth 20000 in
theorem gX9_same_X9_saysOf : GoodIn wsX9_same (wsV RX9 240 RX9 yX9_saysOf wsX9_saysOf) := goodIn_app (goodIn_of _ (by decide +kernel)) ggX9_same_X9_saysOf
set_option maxRecDepth 20000 in
theorem ggX9_same_X9_turnsOver : GoodIn wsX9_same wsX9_turnsOver := goodIn_r _ [81, 15, 16, 82, 83, 84, 85, 86, 87, 88, 89, 90, 91, 92, 93, 94, 95, 96, 97, 98, 99, 100, 101, 102, 103, 104, 105, 106, 107, 108, 109, 110, 111, 112, 113, 114, 115, 116, 117, 118, 119, 120, 121, 122] rfl (by decide +kernel)
set_option maxRecDepth 20000 in
theorem gX9_same_X9_turnsOver : GoodIn wsX9_same (wsV RX9 108 RX9 yX9_turnsOver wsX9_turnsOver) := goodIn_app (goodIn_of _ (by decide +kernel)) ggX9_same_X9_turnsOver
theorem dX9_same_0 : decode cX9_same 0 = .ok (.aload_n 0, 1) := by decide +kernel
theorem dX9_same_1 : decode cX9_same 1 = .ok (.iload_n 1, 1) := by decide +kernel
theorem dX9_same_2 : decode cX9_same 2 = .ok (.invokevirtual 207, 3) := by decide +kernel
theorem dX9_same_5 : decode cX9_same 5 = .ok (.ifCond .ne 6, 3) := by decide +kernel
theorem dX9_same_8 : decode cX9_same 8 = .ok (.bipush (-5), 2) := by decide +kernel
theorem dX9_same_10 : decode cX9_same 10 = .ok (.ireturn, 1) := by decide +kernel
theorem dX9_same_11 : decode cX9_same 11 = .ok (.iload_n 2, 1) := by decide +kernel
theorem dX9_same_12 : decode cX9_same 12 = .ok (.iconst 0, 1) := by decide +kernel
theorem dX9_same_13 : decode cX9_same 13 = .ok (.iconst 1, 1) := by decide +kernel
theorem dX9_same_14 : decode cX9_same 14 = .ok (.invokestatic 78, 3) := by decide +kernel
theorem dX9_same_17 : decode cX9_same 17 = .ok (.ifCond .ne 6, 3) := by decide +kernel
theorem dX9_same_20 : decode cX9_same 20 = .ok (.bipush (-7), 2) := by decide +kernel
theorem dX9_same_22 : decode cX9_same 22 = .ok (.ireturn, 1) := by decide +kernel
theorem dX9_same_23 : decode cX9_same 23 = .ok (.aload_n 0, 1) := by decide +kernel
theorem dX9_same_24 : decode cX9_same 24 = .ok (.invokevirtual 105, 3) := by decide +kernel
theorem dX9_same_27 : decode cX9_same 27 = .ok (.aload_n 0, 1) := by decide +kernel
theorem dX9_same_28 : decode cX9_same 28 = .ok (.iload_n 1, 1) := by decide +kernel
theorem dX9_same_29 : decode cX9_same 29 = .ok (.invokevirtual 240, 3) := by decide +kernel
theorem dX9_same_32 : decode cX9_same 32 = .ok (.istore_n 3, 1) := by decide +kernel
theorem dX9_same_33 : decode cX9_same 33 = .ok (.aload_n 0, 1) := by decide +kernel
theorem dX9_same_34 : decode cX9_same 34 = .ok (.iload_n 2, 1) := by decide +kernel
theorem dX9_same_35 : decode cX9_same 35 = .ok (.invokevirtual 108, 3) := by decide +kernel
theorem dX9_same_38 : decode cX9_same 38 = .ok (.aload_n 0, 1) := by decide +kernel
theorem dX9_same_39 : decode cX9_same 39 = .ok (.iload_n 1, 1) := by decide +kernel
theorem dX9_same_40 : decode cX9_same 40 = .ok (.invokevirtual 240, 3) := by decide +kernel
theorem dX9_same_43 : decode cX9_same 43 = .ok (.iload_n 3, 1) := by decide +kernel
theorem dX9_same_44 : decode cX9_same 44 = .ok (.if_icmp .ne 7, 3) := by decide +kernel
theorem dX9_same_47 : decode cX9_same 47 = .ok (.iconst 1, 1) := by decide +kernel
theorem dX9_same_48 : decode cX9_same 48 = .ok (.goto 4, 3) := by decide +kernel
theorem dX9_same_51 : decode cX9_same 51 = .ok (.iconst 0, 1) := by decide +kernel
theorem dX9_same_52 : decode cX9_same 52 = .ok (.ireturn, 1) := by decide +kernel
theorem dX9_laysHalf_0 : decode cX9_laysHalf 0 = .ok (.aload_n 0, 1) := by decide +kernel
theorem dX9_laysHalf_1 : decode cX9_laysHalf 1 = .ok (.iconst 0, 1) := by decide +kernel
theorem dX9_laysHalf_2 : decode cX9_laysHalf 2 = .ok (.putfield 102, 3) := by decide +kernel
theorem dX9_laysHalf_5 : decode cX9_laysHalf 5 = .ok (.iload_n 1, 1) := by decide +kernel
theorem dX9_laysHalf_6 : decode cX9_laysHalf 6 = .ok (.istore_n 2, 1) := by decide +kernel
theorem dX9_laysHalf_7 : decode cX9_laysHalf 7 = .ok (.iload_n 2, 1) := by decide +kernel
theorem dX9_laysHalf_8 : decode cX9_laysHalf 8 = .ok (.aload_n 0, 1) := by decide +kernel
theorem dX9_laysHalf_9 : decode cX9_laysHalf 9 = .ok (.getfield 85, 3) := by decide +kernel
theorem dX9_laysHalf_12 : decode cX9_laysHalf 12 = .ok (.if_icmp .ge 34, 3) := by decide +kernel
theorem dX9_laysHalf_15 : decode cX9_laysHalf 15 = .ok (.aload_n 0, 1) := by decide +kernel
theorem dX9_laysHalf_16 : decode cX9_laysHalf 16 = .ok (.getfield 65, 3) := by decide +kernel
theorem dX9_laysHalf_19 : decode cX9_laysHalf 19 = .ok (.aload_n 0, 1) := by decide +kernel
theorem dX9_laysHalf_20 : decode cX9_laysHalf 20 = .ok (.getfield 102, 3) := by decide +kernel
theorem dX9_laysHalf_23 : decode cX9_laysHalf 23 = .ok (.aload_n 0, 1) := by decide +kernel
theorem dX9_laysHalf_24 : decode cX9_laysHalf 24 = .ok (.getfield 13, 3) := by decide +kernel
theorem dX9_laysHalf_27 : decode cX9_laysHalf 27 = .ok (.iload_n 2, 1) := by decide +kernel
theorem dX9_laysHalf_28 : decode cX9_laysHalf 28 = .ok (.iaload, 1) := by decide +kernel
theorem dX9_laysHalf_29 : decode cX9_laysHalf 29 = .ok (.iastore, 1) := by decide +kernel
theorem dX9_laysHalf_30 : decode cX9_laysHalf 30 = .ok (.aload_n 0, 1) := by decide +kernel
theorem dX9_laysHalf_31 : decode cX9_laysHalf 31 = .ok (.dup, 1) := by decide +kernel
theorem dX9_laysHalf_32 : decode cX9_laysHalf 32 = .ok (.getfield 102, 3) := by decide +kernel
theorem dX9_laysHalf_35 : decode cX9_laysHalf 35 = .ok (.iconst 1, 1) := by decide +kernel
theorem dX9_laysHalf_36 : decode cX9_laysHalf 36 = .ok (.iadd, 1) := by decide +kernel
theorem dX9_laysHalf_37 : decode cX9_laysHalf 37 = .ok (.putfield 102, 3) := by decide +kernel
theorem dX9_laysHalf_40 : decode cX9_laysHalf 40 = .ok (.iinc 2 2, 3) := by decide +kernel
theorem dX9_laysHalf_43 : decode cX9_laysHalf 43 = .ok (.goto (-36), 3) := by decide +kernel
theorem dX9_laysHalf_46 : decode cX9_laysHalf 46 = .ok (.return_, 1) := by decide +kernel
set_option maxRecDepth 20000 in
theorem ggX9_share_X9_isHead : GoodIn wsX9_share wsX9_isHead := goodIn_r _ [6, 7, 8, 9, 5, 10, 79, 80, 81, 82, 83, 84, 85, 86, 87, 88, 89, 90, 91, 92, 93, 94, 95, 96, 97, 98, 99, 100, 101, 102, 103, 104, 105, 106, 107, 108, 109, 110, 111, 112, 113, 114, 115, 116, 117, 118, 119] rfl (by decide +kernel)
set_option maxRecDepth 20000 in
theorem gX9_share_X9_isHead : GoodIn wsX9_share (wsV RX9 207 RX9 yX9_isHead wsX9_isHead) := goodIn_app (goodIn_of _ (by decide +kernel)) ggX9_share_X9_isHead
set_option maxRecDepth 20000 in
theorem ggX9_share_X9_laysHalf : GoodIn wsX9_share wsX9_laysHalf := goodIn_r _ [14, 15, 16, 17, 18, 79, 80, 81, 82, 83, 84, 85, 86, 87, 88, 89, 90, 91, 92, 93, 94, 95, 96, 97, 98, 99, 100, 101, 102, 103, 104, 105, 106, 107, 108, 109, 110, 111, 112, 113, 114, 115, 116, 117, 118, 119] rfl (by decide +kernel)
set_option maxRecDepth 20000 in
theorem gX9_share_X9_laysHalf : GoodIn wsX9_share (wsV RX9 253 RX9 yX9_laysHalf wsX9_laysHalf) := goodIn_app (goodIn_of _ (by decide +kernel)) ggX9_share_X9_laysHalf
set_option maxRecDepth 20000 in
theorem ggX9_share_X9_saysOf : GoodIn wsX9_share wsX9_saysOf := goodIn_r _ [22, 15, 23, 24, 25, 26, 27, 28, 29, 30, 5, 31, 17, 32, 33, 34, 35, 36, 37, 38, 39, 40, 41, 42, 43, 44, 45, 46, 47, 48, 49, 50, 51, 52, 53, 54, 55, 56, 57, 58, 59, 60, 61, 62, 63, 64, 65, 66, 67, 68, 69, 70, 71, 72, 73, 74, 75, 76, 77, 78, 79, 80, 81, 82, 83, 84, 85, 86, 87, 88, 89, 90, 91, 92, 93, 94, 95, 96, 97, 98, 99, 100, 101, 102, 103, 104, 105, 106, 107, 108, 109, 110, 111, 112, 113, 114, 115, 116, 117, 118, 119] rfl (by decide +kernel)
set_option maxRecDepth 20000 in
theorem gX9_share_X9_saysOf : GoodIn wsX9_share (wsV RX9 240 RX9 yX9_saysOf wsX9_saysOf) := goodIn_app (goodIn_of _ (by decide +kernel)) ggX9_share_X9_saysOf
theorem dX9_share_0 : decode cX9_share 0 = .ok (.aload_n 0, 1) := by decide +kernel
theorem dX9_share_1 : decode cX9_share 1 = .ok (.iload_n 1, 1) := by decide +kernel
theorem dX9_share_2 : decode cX9_share 2 = .ok (.invokevirtual 207, 3) := by decide +kernel
theorem dX9_share_5 : decode cX9_share 5 = .ok (.ifCond .eq 11, 3) := by decide +kernel
theorem dX9_share_8 : decode cX9_share 8 = .ok (.aload_n 0, 1) := by decide +kernel
theorem dX9_share_9 : decode cX9_share 9 = .ok (.iload_n 2, 1) := by decide +kernel
theorem dX9_share_10 : decode cX9_share 10 = .ok (.invokevirtual 207, 3) := by decide +kernel
theorem dX9_share_13 : decode cX9_share 13 = .ok (.ifCond .ne 6, 3) := by decide +kernel
theorem dX9_share_16 : decode cX9_share 16 = .ok (.ldc 239, 2) := by decide +kernel
theorem dX9_share_18 : decode cX9_share 18 = .ok (.ireturn, 1) := by decide +kernel
theorem dX9_share_19 : decode cX9_share 19 = .ok (.aload_n 0, 1) := by decide +kernel
theorem dX9_share_20 : decode cX9_share 20 = .ok (.iconst 0, 1) := by decide +kernel
theorem dX9_share_21 : decode cX9_share 21 = .ok (.invokevirtual 253, 3) := by decide +kernel
theorem dX9_share_24 : decode cX9_share 24 = .ok (.aload_n 0, 1) := by decide +kernel
theorem dX9_share_25 : decode cX9_share 25 = .ok (.iload_n 1, 1) := by decide +kernel
theorem dX9_share_26 : decode cX9_share 26 = .ok (.invokevirtual 240, 3) := by decide +kernel
theorem dX9_share_29 : decode cX9_share 29 = .ok (.istore_n 3, 1) := by decide +kernel
theorem dX9_share_30 : decode cX9_share 30 = .ok (.aload_n 0, 1) := by decide +kernel
theorem dX9_share_31 : decode cX9_share 31 = .ok (.iconst 1, 1) := by decide +kernel
theorem dX9_share_32 : decode cX9_share 32 = .ok (.invokevirtual 253, 3) := by decide +kernel
theorem dX9_share_35 : decode cX9_share 35 = .ok (.iload_n 3, 1) := by decide +kernel
theorem dX9_share_36 : decode cX9_share 36 = .ok (.aload_n 0, 1) := by decide +kernel
theorem dX9_share_37 : decode cX9_share 37 = .ok (.iload_n 2, 1) := by decide +kernel
theorem dX9_share_38 : decode cX9_share 38 = .ok (.invokevirtual 240, 3) := by decide +kernel
theorem dX9_share_41 : decode cX9_share 41 = .ok (.iadd, 1) := by decide +kernel
theorem dX9_share_42 : decode cX9_share 42 = .ok (.ireturn, 1) := by decide +kernel
theorem dX9_pairsUp_0 : decode cX9_pairsUp 0 = .ok (.aload_n 0, 1) := by decide +kernel
theorem dX9_pairsUp_1 : decode cX9_pairsUp 1 = .ok (.getfield 213, 3) := by decide +kernel
theorem dX9_pairsUp_4 : decode cX9_pairsUp 4 = .ok (.bipush 16, 2) := by decide +kernel
theorem dX9_pairsUp_6 : decode cX9_pairsUp 6 = .ok (.ishl, 1) := by decide +kernel
theorem dX9_pairsUp_7 : decode cX9_pairsUp 7 = .ok (.aload_n 0, 1) := by decide +kernel
theorem dX9_pairsUp_8 : decode cX9_pairsUp 8 = .ok (.getfield 216, 3) := by decide +kernel
theorem dX9_pairsUp_11 : decode cX9_pairsUp 11 = .ok (.ior, 1) := by decide +kernel
theorem dX9_pairsUp_12 : decode cX9_pairsUp 12 = .ok (.istore_n 1, 1) := by decide +kernel
theorem dX9_pairsUp_13 : decode cX9_pairsUp 13 = .ok (.iconst 0, 1) := by decide +kernel
theorem dX9_pairsUp_14 : decode cX9_pairsUp 14 = .ok (.istore_n 2, 1) := by decide +kernel
theorem dX9_pairsUp_15 : decode cX9_pairsUp 15 = .ok (.iload_n 2, 1) := by decide +kernel
theorem dX9_pairsUp_16 : decode cX9_pairsUp 16 = .ok (.aload_n 0, 1) := by decide +kernel
theorem dX9_pairsUp_17 : decode cX9_pairsUp 17 = .ok (.getfield 256, 3) := by decide +kernel
theorem dX9_pairsUp_20 : decode cX9_pairsUp 20 = .ok (.if_icmp .ge 20, 3) := by decide +kernel
theorem dX9_pairsUp_23 : decode cX9_pairsUp 23 = .ok (.aload_n 0, 1) := by decide +kernel
theorem dX9_pairsUp_24 : decode cX9_pairsUp 24 = .ok (.getfield 68, 3) := by decide +kernel
theorem dX9_pairsUp_27 : decode cX9_pairsUp 27 = .ok (.iload_n 2, 1) := by decide +kernel
theorem dX9_pairsUp_28 : decode cX9_pairsUp 28 = .ok (.iaload, 1) := by decide +kernel
theorem dX9_pairsUp_29 : decode cX9_pairsUp 29 = .ok (.iload_n 1, 1) := by decide +kernel
theorem dX9_pairsUp_30 : decode cX9_pairsUp 30 = .ok (.if_icmp .ne 4, 3) := by decide +kernel
theorem dX9_pairsUp_33 : decode cX9_pairsUp 33 = .ok (.return_, 1) := by decide +kernel
theorem dX9_pairsUp_34 : decode cX9_pairsUp 34 = .ok (.iinc 2 1, 3) := by decide +kernel
theorem dX9_pairsUp_37 : decode cX9_pairsUp 37 = .ok (.goto (-22), 3) := by decide +kernel
theorem dX9_pairsUp_40 : decode cX9_pairsUp 40 = .ok (.aload_n 0, 1) := by decide +kernel
theorem dX9_pairsUp_41 : decode cX9_pairsUp 41 = .ok (.getfield 68, 3) := by decide +kernel
theorem dX9_pairsUp_44 : decode cX9_pairsUp 44 = .ok (.aload_n 0, 1) := by decide +kernel
theorem dX9_pairsUp_45 : decode cX9_pairsUp 45 = .ok (.getfield 256, 3) := by decide +kernel
theorem dX9_pairsUp_48 : decode cX9_pairsUp 48 = .ok (.iload_n 1, 1) := by decide +kernel
theorem dX9_pairsUp_49 : decode cX9_pairsUp 49 = .ok (.iastore, 1) := by decide +kernel
theorem dX9_pairsUp_50 : decode cX9_pairsUp 50 = .ok (.aload_n 0, 1) := by decide +kernel
theorem dX9_pairsUp_51 : decode cX9_pairsUp 51 = .ok (.dup, 1) := by decide +kernel
theorem dX9_pairsUp_52 : decode cX9_pairsUp 52 = .ok (.getfield 256, 3) := by decide +kernel
theorem dX9_pairsUp_55 : decode cX9_pairsUp 55 = .ok (.iconst 1, 1) := by decide +kernel
theorem dX9_pairsUp_56 : decode cX9_pairsUp 56 = .ok (.iadd, 1) := by decide +kernel
theorem dX9_pairsUp_57 : decode cX9_pairsUp 57 = .ok (.putfield 256, 3) := by decide +kernel
theorem dX9_pairsUp_60 : decode cX9_pairsUp 60 = .ok (.return_, 1) := by decide +kernel
theorem dX9_powerOf_0 : decode cX9_powerOf 0 = .ok (.iconst 1, 1) := by decide +kernel
theorem dX9_powerOf_1 : decode cX9_powerOf 1 = .ok (.istore_n 3, 1) := by decide +kernel
theorem dX9_powerOf_2 : decode cX9_powerOf 2 = .ok (.iconst 0, 1) := by decide +kernel
theorem dX9_powerOf_3 : decode cX9_powerOf 3 = .ok (.istore 4, 2) := by decide +kernel
theorem dX9_powerOf_5 : decode cX9_powerOf 5 = .ok (.iload 4, 2) := by decide +kernel
theorem dX9_powerOf_7 : decode cX9_powerOf 7 = .ok (.iload_n 2, 1) := by decide +kernel
theorem dX9_powerOf_8 : decode cX9_powerOf 8 = .ok (.if_icmp .ge 13, 3) := by decide +kernel
theorem dX9_powerOf_11 : decode cX9_powerOf 11 = .ok (.iload_n 3, 1) := by decide +kernel
theorem dX9_powerOf_12 : decode cX9_powerOf 12 = .ok (.iload_n 1, 1) := by decide +kernel
theorem dX9_powerOf_13 : decode cX9_powerOf 13 = .ok (.imul, 1) := by decide +kernel
theorem dX9_powerOf_14 : decode cX9_powerOf 14 = .ok (.istore_n 3, 1) := by decide +kernel
theorem dX9_powerOf_15 : decode cX9_powerOf 15 = .ok (.iinc 4 1, 3) := by decide +kernel
theorem dX9_powerOf_18 : decode cX9_powerOf 18 = .ok (.goto (-13), 3) := by decide +kernel
theorem dX9_powerOf_21 : decode cX9_powerOf 21 = .ok (.iload_n 3, 1) := by decide +kernel
theorem dX9_powerOf_22 : decode cX9_powerOf 22 = .ok (.ireturn, 1) := by decide +kernel
set_option maxRecDepth 20000 in
theorem ggX9_states_X9_isHead : GoodIn wsX9_states wsX9_isHead := goodIn_r _ [7, 8, 9, 10, 6, 11, 63, 64, 65, 66, 67, 68, 69, 70, 71, 72, 73, 74, 75, 76, 77, 78, 79, 80, 81, 82, 83, 84, 85, 86, 87, 88, 89, 90, 91, 92, 93, 94, 95, 96, 97, 98, 99, 100, 101, 102, 103] rfl (by decide +kernel)
set_option maxRecDepth 20000 in
theorem gX9_states_X9_isHead : GoodIn wsX9_states (wsV RX9 207 RX9 yX9_isHead wsX9_isHead) := goodIn_app (goodIn_of _ (by decide +kernel)) ggX9_states_X9_isHead
set_option maxRecDepth 20000 in
theorem ggX9_states_X9_in : GoodIn wsX9_states wsX9_in := goodIn_r _ [11] rfl (by decide +kernel)
set_option maxRecDepth 20000 in
theorem gX9_states_X9_in : GoodIn wsX9_states (va_wsS RX9 78 yX9_in wsX9_in) := goodIn_app (goodIn_of _ (by decide +kernel)) ggX9_states_X9_in
set_option maxRecDepth 20000 in
theorem ggX9_states_X9_powerOf : GoodIn wsX9_states wsX9_powerOf := goodIn_r _ [15] rfl (by decide +kernel)
set_option maxRecDepth 20000 in
theorem gX9_states_X9_powerOf : GoodIn wsX9_states (wsV RX9 259 RX9 yX9_powerOf wsX9_powerOf) := goodIn_app (goodIn_of _ (by decide +kernel)) ggX9_states_X9_powerOf
set_option maxRecDepth 20000 in
theorem ggX9_states_X9_beginsOn : GoodIn wsX9_states wsX9_beginsOn := goodIn_r _ [19, 20, 21, 22, 23, 24, 25, 6, 26, 63, 64, 65, 66, 67, 68, 69, 70, 71, 72, 73, 74, 75, 76, 77, 78, 79, 80, 81, 82, 83, 84, 85, 86, 87, 88, 89, 90, 91, 92, 93, 94, 95, 96, 97, 98, 99, 100, 101, 102, 103] rfl (by decide +kernel)
set_option maxRecDepth 20000 in
theorem gX9_states_X9_beginsOn : GoodIn wsX9_states (wsV RX9 226 RX9 yX9_beginsOn wsX9_beginsOn) := goodIn_app (goodIn_of _ (by decide +kernel)) ggX9_states_X9_beginsOn
set_option maxRecDepth 20000 in
theorem ggX9_states_X9_comes : GoodIn wsX9_states wsX9_comes := goodIn_r _ [30, 21, 22, 31, 32, 33, 34, 6, 35, 36, 37, 38, 39, 40, 41, 1, 42, 43, 44, 45, 46, 47, 48, 49, 50, 51, 52, 53, 54, 55, 56, 57, 23, 24, 25, 26, 20, 63, 64, 65, 66, 67, 68, 69, 70, 71, 72, 73, 74, 75, 76, 77, 78, 79, 80, 81, 82, 83, 84, 85, 86, 87, 88, 89, 90, 91, 92, 93, 94, 95, 96, 97, 98, 99, 100, 101, 102, 103] rfl (by decide +kernel)
set_option maxRecDepth 20000 in
theorem gX9_states_X9_comes : GoodIn wsX9_states (wsV RX9 232 RX9 yX9_comes wsX9_comes) := goodIn_app (goodIn_of _ (by decide +kernel)) ggX9_states_X9_comes
set_option maxRecDepth 20000 in
theorem ggX9_states_X9_pairsUp : GoodIn wsX9_states wsX9_pairsUp := goodIn_r _ [61, 21, 22, 2, 62, 63, 64, 65, 66, 67, 68, 69, 70, 71, 72, 73, 74, 75, 76, 77, 78, 79, 80, 81, 82, 83, 84, 85, 86, 87, 88, 89, 90, 91, 92, 93, 94, 95, 96, 97, 98, 99, 100, 101, 102, 103] rfl (by decide +kernel)
set_option maxRecDepth 20000 in
theorem gX9_states_X9_pairsUp : GoodIn wsX9_states (wsV RX9 262 RX9 yX9_pairsUp wsX9_pairsUp) := goodIn_app (goodIn_of _ (by decide +kernel)) ggX9_states_X9_pairsUp
theorem dX9_states_0 : decode cX9_states 0 = .ok (.aload_n 0, 1) := by decide +kernel
theorem dX9_states_1 : decode cX9_states 1 = .ok (.iload_n 1, 1) := by decide +kernel
theorem dX9_states_2 : decode cX9_states 2 = .ok (.invokevirtual 207, 3) := by decide +kernel
theorem dX9_states_5 : decode cX9_states 5 = .ok (.ifCond .ne 6, 3) := by decide +kernel
theorem dX9_states_8 : decode cX9_states 8 = .ok (.bipush (-5), 2) := by decide +kernel
theorem dX9_states_10 : decode cX9_states 10 = .ok (.ireturn, 1) := by decide +kernel
theorem dX9_states_11 : decode cX9_states 11 = .ok (.iload_n 2, 1) := by decide +kernel
theorem dX9_states_12 : decode cX9_states 12 = .ok (.iconst 1, 1) := by decide +kernel
theorem dX9_states_13 : decode cX9_states 13 = .ok (.bipush 6, 2) := by decide +kernel
theorem dX9_states_15 : decode cX9_states 15 = .ok (.invokestatic 78, 3) := by decide +kernel
theorem dX9_states_18 : decode cX9_states 18 = .ok (.ifCond .eq 20, 3) := by decide +kernel
theorem dX9_states_21 : decode cX9_states 21 = .ok (.iload_n 2, 1) := by decide +kernel
theorem dX9_states_22 : decode cX9_states 22 = .ok (.aload_n 0, 1) := by decide +kernel
theorem dX9_states_23 : decode cX9_states 23 = .ok (.getfield 7, 3) := by decide +kernel
theorem dX9_states_26 : decode cX9_states 26 = .ok (.if_icmp .gt 12, 3) := by decide +kernel
theorem dX9_states_29 : decode cX9_states 29 = .ok (.iload_n 3, 1) := by decide +kernel
theorem dX9_states_30 : decode cX9_states 30 = .ok (.iconst 0, 1) := by decide +kernel
theorem dX9_states_31 : decode cX9_states 31 = .ok (.iconst 3, 1) := by decide +kernel
theorem dX9_states_32 : decode cX9_states 32 = .ok (.invokestatic 78, 3) := by decide +kernel
theorem dX9_states_35 : decode cX9_states 35 = .ok (.ifCond .ne 6, 3) := by decide +kernel
theorem dX9_states_38 : decode cX9_states 38 = .ok (.bipush (-7), 2) := by decide +kernel
theorem dX9_states_40 : decode cX9_states 40 = .ok (.ireturn, 1) := by decide +kernel
theorem dX9_states_41 : decode cX9_states 41 = .ok (.aload_n 0, 1) := by decide +kernel
theorem dX9_states_42 : decode cX9_states 42 = .ok (.iconst 0, 1) := by decide +kernel
theorem dX9_states_43 : decode cX9_states 43 = .ok (.putfield 256, 3) := by decide +kernel
theorem dX9_states_46 : decode cX9_states 46 = .ok (.iconst 0, 1) := by decide +kernel
theorem dX9_states_47 : decode cX9_states 47 = .ok (.istore 4, 2) := by decide +kernel
theorem dX9_states_49 : decode cX9_states 49 = .ok (.iload 4, 2) := by decide +kernel
theorem dX9_states_51 : decode cX9_states 51 = .ok (.iload_n 3, 1) := by decide +kernel
theorem dX9_states_52 : decode cX9_states 52 = .ok (.if_icmp .gt 78, 3) := by decide +kernel
theorem dX9_states_55 : decode cX9_states 55 = .ok (.iconst 0, 1) := by decide +kernel
theorem dX9_states_56 : decode cX9_states 56 = .ok (.istore 5, 2) := by decide +kernel
theorem dX9_states_58 : decode cX9_states 58 = .ok (.iload 5, 2) := by decide +kernel
theorem dX9_states_60 : decode cX9_states 60 = .ok (.aload_n 0, 1) := by decide +kernel
theorem dX9_states_61 : decode cX9_states 61 = .ok (.iload_n 2, 1) := by decide +kernel
theorem dX9_states_62 : decode cX9_states 62 = .ok (.iload 4, 2) := by decide +kernel
theorem dX9_states_64 : decode cX9_states 64 = .ok (.invokevirtual 259, 3) := by decide +kernel
theorem dX9_states_67 : decode cX9_states 67 = .ok (.if_icmp .ge 57, 3) := by decide +kernel
theorem dX9_states_70 : decode cX9_states 70 = .ok (.iload 5, 2) := by decide +kernel
theorem dX9_states_72 : decode cX9_states 72 = .ok (.istore 6, 2) := by decide +kernel
theorem dX9_states_74 : decode cX9_states 74 = .ok (.aload_n 0, 1) := by decide +kernel
theorem dX9_states_75 : decode cX9_states 75 = .ok (.iload_n 1, 1) := by decide +kernel
theorem dX9_states_76 : decode cX9_states 76 = .ok (.invokevirtual 226, 3) := by decide +kernel
theorem dX9_states_79 : decode cX9_states 79 = .ok (.iconst 0, 1) := by decide +kernel
theorem dX9_states_80 : decode cX9_states 80 = .ok (.istore 7, 2) := by decide +kernel
theorem dX9_states_82 : decode cX9_states 82 = .ok (.iload 7, 2) := by decide +kernel
theorem dX9_states_84 : decode cX9_states 84 = .ok (.iload 4, 2) := by decide +kernel
theorem dX9_states_86 : decode cX9_states 86 = .ok (.if_icmp .ge 28, 3) := by decide +kernel
theorem dX9_states_89 : decode cX9_states 89 = .ok (.aload_n 0, 1) := by decide +kernel
theorem dX9_states_90 : decode cX9_states 90 = .ok (.iload_n 1, 1) := by decide +kernel
theorem dX9_states_91 : decode cX9_states 91 = .ok (.iload 6, 2) := by decide +kernel
theorem dX9_states_93 : decode cX9_states 93 = .ok (.iload_n 2, 1) := by decide +kernel
theorem dX9_states_94 : decode cX9_states 94 = .ok (.irem, 1) := by decide +kernel
theorem dX9_states_95 : decode cX9_states 95 = .ok (.iconst 1, 1) := by decide +kernel
theorem dX9_states_96 : decode cX9_states 96 = .ok (.iadd, 1) := by decide +kernel
theorem dX9_states_97 : decode cX9_states 97 = .ok (.iload 7, 2) := by decide +kernel
theorem dX9_states_99 : decode cX9_states 99 = .ok (.invokevirtual 232, 3) := by decide +kernel
theorem dX9_states_102 : decode cX9_states 102 = .ok (.iload 6, 2) := by decide +kernel
theorem dX9_states_104 : decode cX9_states 104 = .ok (.iload_n 2, 1) := by decide +kernel
theorem dX9_states_105 : decode cX9_states 105 = .ok (.idiv, 1) := by decide +kernel
theorem dX9_states_106 : decode cX9_states 106 = .ok (.istore 6, 2) := by decide +kernel
theorem dX9_states_108 : decode cX9_states 108 = .ok (.iinc 7 1, 3) := by decide +kernel
theorem dX9_states_111 : decode cX9_states 111 = .ok (.goto (-29), 3) := by decide +kernel
theorem dX9_states_114 : decode cX9_states 114 = .ok (.aload_n 0, 1) := by decide +kernel
theorem dX9_states_115 : decode cX9_states 115 = .ok (.invokevirtual 262, 3) := by decide +kernel
theorem dX9_states_118 : decode cX9_states 118 = .ok (.iinc 5 1, 3) := by decide +kernel
theorem dX9_states_121 : decode cX9_states 121 = .ok (.goto (-63), 3) := by decide +kernel
theorem dX9_states_124 : decode cX9_states 124 = .ok (.iinc 4 1, 3) := by decide +kernel
theorem dX9_states_127 : decode cX9_states 127 = .ok (.goto (-78), 3) := by decide +kernel
theorem dX9_states_130 : decode cX9_states 130 = .ok (.aload_n 0, 1) := by decide +kernel
theorem dX9_states_131 : decode cX9_states 131 = .ok (.getfield 256, 3) := by decide +kernel
theorem dX9_states_134 : decode cX9_states 134 = .ok (.ireturn, 1) := by decide +kernel
theorem dX9_laysWithout_0 : decode cX9_laysWithout 0 = .ok (.aload_n 0, 1) := by decide +kernel
theorem dX9_laysWithout_1 : decode cX9_laysWithout 1 = .ok (.iconst 0, 1) := by decide +kernel
theorem dX9_laysWithout_2 : decode cX9_laysWithout 2 = .ok (.putfield 102, 3) := by decide +kernel
theorem dX9_laysWithout_5 : decode cX9_laysWithout 5 = .ok (.iconst 0, 1) := by decide +kernel
theorem dX9_laysWithout_6 : decode cX9_laysWithout 6 = .ok (.istore_n 2, 1) := by decide +kernel
theorem dX9_laysWithout_7 : decode cX9_laysWithout 7 = .ok (.iload_n 2, 1) := by decide +kernel
theorem dX9_laysWithout_8 : decode cX9_laysWithout 8 = .ok (.aload_n 0, 1) := by decide +kernel
theorem dX9_laysWithout_9 : decode cX9_laysWithout 9 = .ok (.getfield 85, 3) := by decide +kernel
theorem dX9_laysWithout_12 : decode cX9_laysWithout 12 = .ok (.if_icmp .ge 39, 3) := by decide +kernel
theorem dX9_laysWithout_15 : decode cX9_laysWithout 15 = .ok (.iload_n 2, 1) := by decide +kernel
theorem dX9_laysWithout_16 : decode cX9_laysWithout 16 = .ok (.iload_n 1, 1) := by decide +kernel
theorem dX9_laysWithout_17 : decode cX9_laysWithout 17 = .ok (.if_icmp .eq 28, 3) := by decide +kernel
theorem dX9_laysWithout_20 : decode cX9_laysWithout 20 = .ok (.aload_n 0, 1) := by decide +kernel
theorem dX9_laysWithout_21 : decode cX9_laysWithout 21 = .ok (.getfield 65, 3) := by decide +kernel
theorem dX9_laysWithout_24 : decode cX9_laysWithout 24 = .ok (.aload_n 0, 1) := by decide +kernel
theorem dX9_laysWithout_25 : decode cX9_laysWithout 25 = .ok (.getfield 102, 3) := by decide +kernel
theorem dX9_laysWithout_28 : decode cX9_laysWithout 28 = .ok (.aload_n 0, 1) := by decide +kernel
theorem dX9_laysWithout_29 : decode cX9_laysWithout 29 = .ok (.getfield 13, 3) := by decide +kernel
theorem dX9_laysWithout_32 : decode cX9_laysWithout 32 = .ok (.iload_n 2, 1) := by decide +kernel
theorem dX9_laysWithout_33 : decode cX9_laysWithout 33 = .ok (.iaload, 1) := by decide +kernel
theorem dX9_laysWithout_34 : decode cX9_laysWithout 34 = .ok (.iastore, 1) := by decide +kernel
theorem dX9_laysWithout_35 : decode cX9_laysWithout 35 = .ok (.aload_n 0, 1) := by decide +kernel
theorem dX9_laysWithout_36 : decode cX9_laysWithout 36 = .ok (.dup, 1) := by decide +kernel
theorem dX9_laysWithout_37 : decode cX9_laysWithout 37 = .ok (.getfield 102, 3) := by decide +kernel
theorem dX9_laysWithout_40 : decode cX9_laysWithout 40 = .ok (.iconst 1, 1) := by decide +kernel
theorem dX9_laysWithout_41 : decode cX9_laysWithout 41 = .ok (.iadd, 1) := by decide +kernel
theorem dX9_laysWithout_42 : decode cX9_laysWithout 42 = .ok (.putfield 102, 3) := by decide +kernel
theorem dX9_laysWithout_45 : decode cX9_laysWithout 45 = .ok (.iinc 2 1, 3) := by decide +kernel
theorem dX9_laysWithout_48 : decode cX9_laysWithout 48 = .ok (.goto (-41), 3) := by decide +kernel
theorem dX9_laysWithout_51 : decode cX9_laysWithout 51 = .ok (.return_, 1) := by decide +kernel
set_option maxRecDepth 20000 in
theorem ggX9_drop_X9_isHead : GoodIn wsX9_drop wsX9_isHead := goodIn_r _ [9, 10, 11, 12, 8, 13, 80, 81, 82, 83, 84, 85, 86, 87, 88, 89, 90, 91, 92, 93, 94, 95, 96, 97, 98, 99, 100, 101, 102, 103, 104, 105, 106, 107, 108, 109, 110, 111, 112, 113, 114, 115, 116, 117, 118, 119, 120] rfl (by decide +kernel)
set_option maxRecDepth 20000 in
theorem gX9_drop_X9_isHead : GoodIn wsX9_drop (wsV RX9 207 RX9 yX9_isHead wsX9_isHead) := goodIn_app (goodIn_of _ (by decide +kernel)) ggX9_drop_X9_isHead
set_option maxRecDepth 20000 in
theorem ggX9_drop_X9_in : GoodIn wsX9_drop wsX9_in := goodIn_r _ [13] rfl (by decide +kernel)
set_option maxRecDepth 20000 in
theorem gX9_drop_X9_in : GoodIn wsX9_drop (va_wsS RX9 78 yX9_in wsX9_in) := goodIn_app (goodIn_of _ (by decide +kernel)) ggX9_drop_X9_in
set_option maxRecDepth 20000 in
theorem ggX9_drop_X9_laysWithout : GoodIn wsX9_drop wsX9_laysWithout := goodIn_r _ [17, 18, 4, 19, 20, 80, 81, 82, 83, 84, 85, 86, 87, 88, 89, 90, 91, 92, 93, 94, 95, 96, 97, 98, 99, 100, 101, 102, 103, 104, 105, 106, 107, 108, 109, 110, 111, 112, 113, 114, 115, 116, 117, 118, 119, 120] rfl (by decide +kernel)
set_option maxRecDepth 20000 in
theorem gX9_drop_X9_laysWithout : GoodIn wsX9_drop (wsV RX9 266 RX9 yX9_laysWithout wsX9_laysWithout) := goodIn_app (goodIn_of _ (by decide +kernel)) ggX9_drop_X9_laysWithout
set_option maxRecDepth 20000 in
theorem ggX9_drop_X9_saysOf : GoodIn wsX9_drop wsX9_saysOf := goodIn_r _ [24, 18, 25, 26, 27, 3, 28, 29, 30, 31, 8, 32, 19, 33, 34, 35, 36, 37, 38, 39, 40, 41, 42, 43, 44, 45, 46, 47, 48, 49, 50, 51, 52, 53, 54, 55, 56, 57, 58, 59, 60, 61, 62, 63, 64, 65, 66, 67, 68, 69, 70, 71, 72, 73, 74, 75, 76, 77, 78, 79, 80, 81, 82, 83, 84, 85, 86, 87, 88, 89, 90, 91, 92, 93, 94, 95, 96, 97, 98, 99, 100, 101, 102, 103, 104, 105, 106, 107, 108, 109, 110, 111, 112, 113, 114, 115, 116, 117, 118, 119, 120] rfl (by decide +kernel)
set_option maxRecDepth 20000 in
theorem gX9_drop_X9_saysOf : GoodIn wsX9_drop (wsV RX9 240 RX9 yX9_saysOf wsX9_saysOf) := goodIn_app (goodIn_of _ (by decide +kernel)) ggX9_drop_X9_saysOf
theorem dX9_drop_0 : decode cX9_drop 0 = .ok (.aload_n 0, 1) := by decide +kernel
theorem dX9_drop_1 : decode cX9_drop 1 = .ok (.iload_n 1, 1) := by decide +kernel
theorem dX9_drop_2 : decode cX9_drop 2 = .ok (.invokevirtual 207, 3) := by decide +kernel
theorem dX9_drop_5 : decode cX9_drop 5 = .ok (.ifCond .ne 6, 3) := by decide +kernel
theorem dX9_drop_8 : decode cX9_drop 8 = .ok (.ldc 239, 2) := by decide +kernel
theorem dX9_drop_10 : decode cX9_drop 10 = .ok (.ireturn, 1) := by decide +kernel
theorem dX9_drop_11 : decode cX9_drop 11 = .ok (.iload_n 2, 1) := by decide +kernel
theorem dX9_drop_12 : decode cX9_drop 12 = .ok (.iconst 0, 1) := by decide +kernel
theorem dX9_drop_13 : decode cX9_drop 13 = .ok (.iconst 1, 1) := by decide +kernel
theorem dX9_drop_14 : decode cX9_drop 14 = .ok (.invokestatic 78, 3) := by decide +kernel
theorem dX9_drop_17 : decode cX9_drop 17 = .ok (.ifCond .ne 7, 3) := by decide +kernel
theorem dX9_drop_20 : decode cX9_drop 20 = .ok (.ldc_w 265, 3) := by decide +kernel
theorem dX9_drop_23 : decode cX9_drop 23 = .ok (.ireturn, 1) := by decide +kernel
theorem dX9_drop_24 : decode cX9_drop 24 = .ok (.iconst (-1), 1) := by decide +kernel
theorem dX9_drop_25 : decode cX9_drop 25 = .ok (.istore_n 3, 1) := by decide +kernel
theorem dX9_drop_26 : decode cX9_drop 26 = .ok (.ldc 202, 2) := by decide +kernel
theorem dX9_drop_28 : decode cX9_drop 28 = .ok (.istore 4, 2) := by decide +kernel
theorem dX9_drop_30 : decode cX9_drop 30 = .ok (.iconst 0, 1) := by decide +kernel
theorem dX9_drop_31 : decode cX9_drop 31 = .ok (.istore 5, 2) := by decide +kernel
theorem dX9_drop_33 : decode cX9_drop 33 = .ok (.iload 5, 2) := by decide +kernel
theorem dX9_drop_35 : decode cX9_drop 35 = .ok (.aload_n 0, 1) := by decide +kernel
theorem dX9_drop_36 : decode cX9_drop 36 = .ok (.getfield 85, 3) := by decide +kernel
theorem dX9_drop_39 : decode cX9_drop 39 = .ok (.if_icmp .ge 67, 3) := by decide +kernel
theorem dX9_drop_42 : decode cX9_drop 42 = .ok (.aload_n 0, 1) := by decide +kernel
theorem dX9_drop_43 : decode cX9_drop 43 = .ok (.iload 5, 2) := by decide +kernel
theorem dX9_drop_45 : decode cX9_drop 45 = .ok (.invokevirtual 266, 3) := by decide +kernel
theorem dX9_drop_48 : decode cX9_drop 48 = .ok (.aload_n 0, 1) := by decide +kernel
theorem dX9_drop_49 : decode cX9_drop 49 = .ok (.iload_n 1, 1) := by decide +kernel
theorem dX9_drop_50 : decode cX9_drop 50 = .ok (.invokevirtual 240, 3) := by decide +kernel
theorem dX9_drop_53 : decode cX9_drop 53 = .ok (.istore 6, 2) := by decide +kernel
theorem dX9_drop_55 : decode cX9_drop 55 = .ok (.iload_n 3, 1) := by decide +kernel
theorem dX9_drop_56 : decode cX9_drop 56 = .ok (.iconst (-1), 1) := by decide +kernel
theorem dX9_drop_57 : decode cX9_drop 57 = .ok (.if_icmp .eq 10, 3) := by decide +kernel
theorem dX9_drop_60 : decode cX9_drop 60 = .ok (.iload 6, 2) := by decide +kernel
theorem dX9_drop_62 : decode cX9_drop 62 = .ok (.iload 4, 2) := by decide +kernel
theorem dX9_drop_64 : decode cX9_drop 64 = .ok (.if_icmp .le 7, 3) := by decide +kernel
theorem dX9_drop_67 : decode cX9_drop 67 = .ok (.iconst 1, 1) := by decide +kernel
theorem dX9_drop_68 : decode cX9_drop 68 = .ok (.goto 4, 3) := by decide +kernel
theorem dX9_drop_71 : decode cX9_drop 71 = .ok (.iconst 0, 1) := by decide +kernel
theorem dX9_drop_72 : decode cX9_drop 72 = .ok (.istore 7, 2) := by decide +kernel
theorem dX9_drop_74 : decode cX9_drop 74 = .ok (.iload 7, 2) := by decide +kernel
theorem dX9_drop_76 : decode cX9_drop 76 = .ok (.ifCond .eq 8, 3) := by decide +kernel
theorem dX9_drop_79 : decode cX9_drop 79 = .ok (.iload 5, 2) := by decide +kernel
theorem dX9_drop_81 : decode cX9_drop 81 = .ok (.goto 4, 3) := by decide +kernel
theorem dX9_drop_84 : decode cX9_drop 84 = .ok (.iload_n 3, 1) := by decide +kernel
theorem dX9_drop_85 : decode cX9_drop 85 = .ok (.istore_n 3, 1) := by decide +kernel
theorem dX9_drop_86 : decode cX9_drop 86 = .ok (.iload 7, 2) := by decide +kernel
theorem dX9_drop_88 : decode cX9_drop 88 = .ok (.ifCond .eq 8, 3) := by decide +kernel
theorem dX9_drop_91 : decode cX9_drop 91 = .ok (.iload 6, 2) := by decide +kernel
theorem dX9_drop_93 : decode cX9_drop 93 = .ok (.goto 5, 3) := by decide +kernel
theorem dX9_drop_96 : decode cX9_drop 96 = .ok (.iload 4, 2) := by decide +kernel
theorem dX9_drop_98 : decode cX9_drop 98 = .ok (.istore 4, 2) := by decide +kernel
theorem dX9_drop_100 : decode cX9_drop 100 = .ok (.iinc 5 1, 3) := by decide +kernel
theorem dX9_drop_103 : decode cX9_drop 103 = .ok (.goto (-70), 3) := by decide +kernel
theorem dX9_drop_106 : decode cX9_drop 106 = .ok (.iload_n 2, 1) := by decide +kernel
theorem dX9_drop_107 : decode cX9_drop 107 = .ok (.ifCond .ne 7, 3) := by decide +kernel
theorem dX9_drop_110 : decode cX9_drop 110 = .ok (.iload_n 3, 1) := by decide +kernel
theorem dX9_drop_111 : decode cX9_drop 111 = .ok (.goto 5, 3) := by decide +kernel
theorem dX9_drop_114 : decode cX9_drop 114 = .ok (.iload 4, 2) := by decide +kernel
theorem dX9_drop_116 : decode cX9_drop 116 = .ok (.ireturn, 1) := by decide +kernel
set_option maxRecDepth 20000 in
theorem ggX9_often_X9_isHead : GoodIn wsX9_often wsX9_isHead := goodIn_r _ [7, 8, 9, 10, 6, 11, 82, 83, 84, 85, 86, 87, 88, 89, 90, 91, 92, 93, 94, 95, 96, 97, 98, 99, 100, 101, 102, 103, 104, 105, 106, 107, 108, 109, 110, 111, 112, 113, 114, 115, 116, 117, 118, 119, 120, 121, 122] rfl (by decide +kernel)
set_option maxRecDepth 20000 in
theorem gX9_often_X9_isHead : GoodIn wsX9_often (wsV RX9 207 RX9 yX9_isHead wsX9_isHead) := goodIn_app (goodIn_of _ (by decide +kernel)) ggX9_often_X9_isHead
set_option maxRecDepth 20000 in
theorem ggX9_often_X9_in : GoodIn wsX9_often wsX9_in := goodIn_r _ [11] rfl (by decide +kernel)
set_option maxRecDepth 20000 in
theorem gX9_often_X9_in : GoodIn wsX9_often (va_wsS RX9 78 yX9_in wsX9_in) := goodIn_app (goodIn_of _ (by decide +kernel)) ggX9_often_X9_in
set_option maxRecDepth 20000 in
theorem ggX9_often_X9_laysRow : GoodIn wsX9_often wsX9_laysRow := goodIn_r _ [15, 16, 17, 18, 19, 82, 83, 84, 85, 86, 87, 88, 89, 90, 91, 92, 93, 94, 95, 96, 97, 98, 99, 100, 101, 102, 103, 104, 105, 106, 107, 108, 109, 110, 111, 112, 113, 114, 115, 116, 117, 118, 119, 120, 121, 122] rfl (by decide +kernel)
set_option maxRecDepth 20000 in
theorem gX9_often_X9_laysRow : GoodIn wsX9_often (wsV RX9 105 RX9 yX9_laysRow wsX9_laysRow) := goodIn_app (goodIn_of _ (by decide +kernel)) ggX9_often_X9_laysRow
set_option maxRecDepth 20000 in
theorem ggX9_often_X9_saysOf : GoodIn wsX9_often wsX9_saysOf := goodIn_r _ [23, 17, 24, 25, 26, 1, 2, 27, 28, 29, 6, 30, 18, 31, 32, 33, 34, 35, 36, 37, 38, 39, 40, 41, 42, 43, 44, 45, 46, 47, 48, 49, 50, 51, 52, 53, 54, 55, 56, 57, 58, 59, 60, 61, 62, 63, 64, 65, 66, 67, 68, 69, 70, 71, 72, 73, 74, 75, 76, 77, 82, 83, 84, 85, 86, 87, 88, 89, 90, 91, 92, 93, 94, 95, 96, 97, 98, 99, 100, 101, 102, 103, 104, 105, 106, 107, 108, 109, 110, 111, 112, 113, 114, 115, 116, 117, 118, 119, 120, 121, 122] rfl (by decide +kernel)
set_option maxRecDepth 20000 in
theorem gX9_often_X9_saysOf : GoodIn wsX9_often (wsV RX9 240 RX9 yX9_saysOf wsX9_saysOf) := goodIn_app (goodIn_of _ (by decide +kernel)) ggX9_often_X9_saysOf
set_option maxRecDepth 20000 in
theorem ggX9_often_X9_turnsOver : GoodIn wsX9_often wsX9_turnsOver := goodIn_r _ [81, 17, 18, 82, 83, 84, 85, 86, 87, 88, 89, 90, 91, 92, 93, 94, 95, 96, 97, 98, 99, 100, 101, 102, 103, 104, 105, 106, 107, 108, 109, 110, 111, 112, 113, 114, 115, 116, 117, 118, 119, 120, 121, 122] rfl (by decide +kernel)
set_option maxRecDepth 20000 in
theorem gX9_often_X9_turnsOver : GoodIn wsX9_often (wsV RX9 108 RX9 yX9_turnsOver wsX9_turnsOver) := goodIn_app (goodIn_of _ (by decide +kernel)) ggX9_often_X9_turnsOver
theorem dX9_often_0 : decode cX9_often 0 = .ok (.aload_n 0, 1) := by decide +kernel
theorem dX9_often_1 : decode cX9_often 1 = .ok (.iload_n 1, 1) := by decide +kernel
theorem dX9_often_2 : decode cX9_often 2 = .ok (.invokevirtual 207, 3) := by decide +kernel
theorem dX9_often_5 : decode cX9_often 5 = .ok (.ifCond .ne 6, 3) := by decide +kernel
theorem dX9_often_8 : decode cX9_often 8 = .ok (.bipush (-5), 2) := by decide +kernel
theorem dX9_often_10 : decode cX9_often 10 = .ok (.ireturn, 1) := by decide +kernel
theorem dX9_often_11 : decode cX9_often 11 = .ok (.iload_n 2, 1) := by decide +kernel
theorem dX9_often_12 : decode cX9_often 12 = .ok (.iconst 1, 1) := by decide +kernel
theorem dX9_often_13 : decode cX9_often 13 = .ok (.bipush 20, 2) := by decide +kernel
theorem dX9_often_15 : decode cX9_often 15 = .ok (.invokestatic 78, 3) := by decide +kernel
theorem dX9_often_18 : decode cX9_often 18 = .ok (.ifCond .eq 14, 3) := by decide +kernel
theorem dX9_often_21 : decode cX9_often 21 = .ok (.iload_n 3, 1) := by decide +kernel
theorem dX9_often_22 : decode cX9_often 22 = .ok (.ldc 202, 2) := by decide +kernel
theorem dX9_often_24 : decode cX9_often 24 = .ok (.ldc 203, 2) := by decide +kernel
theorem dX9_often_26 : decode cX9_often 26 = .ok (.invokestatic 78, 3) := by decide +kernel
theorem dX9_often_29 : decode cX9_often 29 = .ok (.ifCond .ne 6, 3) := by decide +kernel
theorem dX9_often_32 : decode cX9_often 32 = .ok (.bipush (-7), 2) := by decide +kernel
theorem dX9_often_34 : decode cX9_often 34 = .ok (.ireturn, 1) := by decide +kernel
theorem dX9_often_35 : decode cX9_often 35 = .ok (.iconst 0, 1) := by decide +kernel
theorem dX9_often_36 : decode cX9_often 36 = .ok (.istore 4, 2) := by decide +kernel
theorem dX9_often_38 : decode cX9_often 38 = .ok (.aload_n 0, 1) := by decide +kernel
theorem dX9_often_39 : decode cX9_often 39 = .ok (.invokevirtual 105, 3) := by decide +kernel
theorem dX9_often_42 : decode cX9_often 42 = .ok (.iconst 0, 1) := by decide +kernel
theorem dX9_often_43 : decode cX9_often 43 = .ok (.istore 5, 2) := by decide +kernel
theorem dX9_often_45 : decode cX9_often 45 = .ok (.iload 5, 2) := by decide +kernel
theorem dX9_often_47 : decode cX9_often 47 = .ok (.iload_n 2, 1) := by decide +kernel
theorem dX9_often_48 : decode cX9_often 48 = .ok (.if_icmp .ge 33, 3) := by decide +kernel
theorem dX9_often_51 : decode cX9_often 51 = .ok (.iload 4, 2) := by decide +kernel
theorem dX9_often_53 : decode cX9_often 53 = .ok (.aload_n 0, 1) := by decide +kernel
theorem dX9_often_54 : decode cX9_often 54 = .ok (.iload_n 1, 1) := by decide +kernel
theorem dX9_often_55 : decode cX9_often 55 = .ok (.invokevirtual 240, 3) := by decide +kernel
theorem dX9_often_58 : decode cX9_often 58 = .ok (.iload_n 3, 1) := by decide +kernel
theorem dX9_often_59 : decode cX9_often 59 = .ok (.if_icmp .ne 7, 3) := by decide +kernel
theorem dX9_often_62 : decode cX9_often 62 = .ok (.iconst 1, 1) := by decide +kernel
theorem dX9_often_63 : decode cX9_often 63 = .ok (.goto 4, 3) := by decide +kernel
theorem dX9_often_66 : decode cX9_often 66 = .ok (.iconst 0, 1) := by decide +kernel
theorem dX9_often_67 : decode cX9_often 67 = .ok (.iadd, 1) := by decide +kernel
theorem dX9_often_68 : decode cX9_often 68 = .ok (.istore 4, 2) := by decide +kernel
theorem dX9_often_70 : decode cX9_often 70 = .ok (.aload_n 0, 1) := by decide +kernel
theorem dX9_often_71 : decode cX9_often 71 = .ok (.iconst 1, 1) := by decide +kernel
theorem dX9_often_72 : decode cX9_often 72 = .ok (.invokevirtual 108, 3) := by decide +kernel
theorem dX9_often_75 : decode cX9_often 75 = .ok (.iinc 5 1, 3) := by decide +kernel
theorem dX9_often_78 : decode cX9_often 78 = .ok (.goto (-33), 3) := by decide +kernel
theorem dX9_often_81 : decode cX9_often 81 = .ok (.iload 4, 2) := by decide +kernel
theorem dX9_often_83 : decode cX9_often 83 = .ok (.ireturn, 1) := by decide +kernel
set_option maxRecDepth 20000 in
theorem ggX9_who_X9_in : GoodIn wsX9_who wsX9_in := goodIn_r _ [5] rfl (by decide +kernel)
set_option maxRecDepth 20000 in
theorem gX9_who_X9_in : GoodIn wsX9_who (va_wsS RX9 78 yX9_in wsX9_in) := goodIn_app (goodIn_of _ (by decide +kernel)) ggX9_who_X9_in
set_option maxRecDepth 20000 in
theorem ggX9_who_X9_rightOf : GoodIn wsX9_who wsX9_rightOf := goodIn_r _ [9, 10, 11, 12, 13, 4, 14, 15, 16, 17, 18, 19, 20, 21, 22, 23, 24, 25, 26, 27, 28, 29, 30, 31, 32, 33, 34, 35, 36, 37, 38, 39, 40, 41, 42, 43, 44, 45, 46, 47, 48, 49, 50, 51, 52, 53, 54, 55, 56, 57, 58, 59, 60, 61, 62, 63, 64, 65, 66, 67, 68, 69, 70, 71, 72, 73, 74, 75, 79, 80, 81, 82, 83, 84, 85, 86, 87, 88, 89, 90, 91, 92, 93, 94, 95, 96, 97, 98, 99, 100, 101, 102, 103, 104, 105, 106, 107, 108, 109, 110, 111, 112, 113, 114, 115, 116, 117, 118, 119] rfl (by decide +kernel)
set_option maxRecDepth 20000 in
theorem gX9_who_X9_rightOf : GoodIn wsX9_who (wsV RX9 243 RX9 yX9_rightOf wsX9_rightOf) := goodIn_app (goodIn_of _ (by decide +kernel)) ggX9_who_X9_rightOf
set_option maxRecDepth 20000 in
theorem ggX9_who_X9_ones : GoodIn wsX9_who wsX9_ones := goodIn_r _ [78] rfl (by decide +kernel)
set_option maxRecDepth 20000 in
theorem gX9_who_X9_ones : GoodIn wsX9_who (va_wsS RX9 249 yX9_ones wsX9_ones) := goodIn_app (goodIn_of _ (by decide +kernel)) ggX9_who_X9_ones
theorem dX9_who_0 : decode cX9_who 0 = .ok (.iload_n 1, 1) := by decide +kernel
theorem dX9_who_1 : decode cX9_who 1 = .ok (.iconst 0, 1) := by decide +kernel
theorem dX9_who_2 : decode cX9_who 2 = .ok (.iconst 1, 1) := by decide +kernel
theorem dX9_who_3 : decode cX9_who 3 = .ok (.invokestatic 78, 3) := by decide +kernel
theorem dX9_who_6 : decode cX9_who 6 = .ok (.ifCond .ne 6, 3) := by decide +kernel
theorem dX9_who_9 : decode cX9_who 9 = .ok (.bipush (-2), 2) := by decide +kernel
theorem dX9_who_11 : decode cX9_who 11 = .ok (.ireturn, 1) := by decide +kernel
theorem dX9_who_12 : decode cX9_who 12 = .ok (.iconst (-1), 1) := by decide +kernel
theorem dX9_who_13 : decode cX9_who 13 = .ok (.istore_n 2, 1) := by decide +kernel
theorem dX9_who_14 : decode cX9_who 14 = .ok (.iconst (-1), 1) := by decide +kernel
theorem dX9_who_15 : decode cX9_who 15 = .ok (.istore_n 3, 1) := by decide +kernel
theorem dX9_who_16 : decode cX9_who 16 = .ok (.iconst 0, 1) := by decide +kernel
theorem dX9_who_17 : decode cX9_who 17 = .ok (.istore 4, 2) := by decide +kernel
theorem dX9_who_19 : decode cX9_who 19 = .ok (.iload 4, 2) := by decide +kernel
theorem dX9_who_21 : decode cX9_who 21 = .ok (.aload_n 0, 1) := by decide +kernel
theorem dX9_who_22 : decode cX9_who 22 = .ok (.getfield 82, 3) := by decide +kernel
theorem dX9_who_25 : decode cX9_who 25 = .ok (.if_icmp .ge 47, 3) := by decide +kernel
theorem dX9_who_28 : decode cX9_who 28 = .ok (.aload_n 0, 1) := by decide +kernel
theorem dX9_who_29 : decode cX9_who 29 = .ok (.iload 4, 2) := by decide +kernel
theorem dX9_who_31 : decode cX9_who 31 = .ok (.iconst 0, 1) := by decide +kernel
theorem dX9_who_32 : decode cX9_who 32 = .ok (.invokevirtual 243, 3) := by decide +kernel
theorem dX9_who_35 : decode cX9_who 35 = .ok (.invokestatic 249, 3) := by decide +kernel
theorem dX9_who_38 : decode cX9_who 38 = .ok (.istore 5, 2) := by decide +kernel
theorem dX9_who_40 : decode cX9_who 40 = .ok (.iload 5, 2) := by decide +kernel
theorem dX9_who_42 : decode cX9_who 42 = .ok (.iload_n 3, 1) := by decide +kernel
theorem dX9_who_43 : decode cX9_who 43 = .ok (.if_icmp .le 8, 3) := by decide +kernel
theorem dX9_who_46 : decode cX9_who 46 = .ok (.iload 4, 2) := by decide +kernel
theorem dX9_who_48 : decode cX9_who 48 = .ok (.goto 4, 3) := by decide +kernel
theorem dX9_who_51 : decode cX9_who 51 = .ok (.iload_n 2, 1) := by decide +kernel
theorem dX9_who_52 : decode cX9_who 52 = .ok (.istore_n 2, 1) := by decide +kernel
theorem dX9_who_53 : decode cX9_who 53 = .ok (.iload 5, 2) := by decide +kernel
theorem dX9_who_55 : decode cX9_who 55 = .ok (.iload_n 3, 1) := by decide +kernel
theorem dX9_who_56 : decode cX9_who 56 = .ok (.if_icmp .le 8, 3) := by decide +kernel
theorem dX9_who_59 : decode cX9_who 59 = .ok (.iload 5, 2) := by decide +kernel
theorem dX9_who_61 : decode cX9_who 61 = .ok (.goto 4, 3) := by decide +kernel
theorem dX9_who_64 : decode cX9_who 64 = .ok (.iload_n 3, 1) := by decide +kernel
theorem dX9_who_65 : decode cX9_who 65 = .ok (.istore_n 3, 1) := by decide +kernel
theorem dX9_who_66 : decode cX9_who 66 = .ok (.iinc 4 1, 3) := by decide +kernel
theorem dX9_who_69 : decode cX9_who 69 = .ok (.goto (-50), 3) := by decide +kernel
theorem dX9_who_72 : decode cX9_who 72 = .ok (.iload_n 1, 1) := by decide +kernel
theorem dX9_who_73 : decode cX9_who 73 = .ok (.ifCond .ne 7, 3) := by decide +kernel
theorem dX9_who_76 : decode cX9_who 76 = .ok (.iload_n 2, 1) := by decide +kernel
theorem dX9_who_77 : decode cX9_who 77 = .ok (.goto 4, 3) := by decide +kernel
theorem dX9_who_80 : decode cX9_who 80 = .ok (.iload_n 3, 1) := by decide +kernel
theorem dX9_who_81 : decode cX9_who 81 = .ok (.ireturn, 1) := by decide +kernel
set_option maxRecDepth 20000 in
theorem ggX9_sheetWrong_X9_in : GoodIn wsX9_sheetWrong wsX9_in := goodIn_r _ [7] rfl (by decide +kernel)
set_option maxRecDepth 20000 in
theorem gX9_sheetWrong_X9_in : GoodIn wsX9_sheetWrong (va_wsS RX9 78 yX9_in wsX9_in) := goodIn_app (goodIn_of _ (by decide +kernel)) ggX9_sheetWrong_X9_in
theorem dX9_sheetWrong_0 : decode cX9_sheetWrong 0 = .ok (.iload_n 1, 1) := by decide +kernel
theorem dX9_sheetWrong_1 : decode cX9_sheetWrong 1 = .ok (.iconst 0, 1) := by decide +kernel
theorem dX9_sheetWrong_2 : decode cX9_sheetWrong 2 = .ok (.iconst 3, 1) := by decide +kernel
theorem dX9_sheetWrong_3 : decode cX9_sheetWrong 3 = .ok (.invokestatic 78, 3) := by decide +kernel
theorem dX9_sheetWrong_6 : decode cX9_sheetWrong 6 = .ok (.ifCond .ne 6, 3) := by decide +kernel
theorem dX9_sheetWrong_9 : decode cX9_sheetWrong 9 = .ok (.bipush (-2), 2) := by decide +kernel
theorem dX9_sheetWrong_11 : decode cX9_sheetWrong 11 = .ok (.ireturn, 1) := by decide +kernel
theorem dX9_sheetWrong_12 : decode cX9_sheetWrong 12 = .ok (.aload_n 0, 1) := by decide +kernel
theorem dX9_sheetWrong_13 : decode cX9_sheetWrong 13 = .ok (.getfield 41, 3) := by decide +kernel
theorem dX9_sheetWrong_16 : decode cX9_sheetWrong 16 = .ok (.iload_n 1, 1) := by decide +kernel
theorem dX9_sheetWrong_17 : decode cX9_sheetWrong 17 = .ok (.iaload, 1) := by decide +kernel
theorem dX9_sheetWrong_18 : decode cX9_sheetWrong 18 = .ok (.iconst (-1), 1) := by decide +kernel
theorem dX9_sheetWrong_19 : decode cX9_sheetWrong 19 = .ok (.if_icmp .ne 6, 3) := by decide +kernel
theorem dX9_sheetWrong_22 : decode cX9_sheetWrong 22 = .ok (.bipush (-11), 2) := by decide +kernel
theorem dX9_sheetWrong_24 : decode cX9_sheetWrong 24 = .ok (.ireturn, 1) := by decide +kernel
theorem dX9_sheetWrong_25 : decode cX9_sheetWrong 25 = .ok (.aload_n 0, 1) := by decide +kernel
theorem dX9_sheetWrong_26 : decode cX9_sheetWrong 26 = .ok (.getfield 44, 3) := by decide +kernel
theorem dX9_sheetWrong_29 : decode cX9_sheetWrong 29 = .ok (.iload_n 1, 1) := by decide +kernel
theorem dX9_sheetWrong_30 : decode cX9_sheetWrong 30 = .ok (.iaload, 1) := by decide +kernel
theorem dX9_sheetWrong_31 : decode cX9_sheetWrong 31 = .ok (.aload_n 0, 1) := by decide +kernel
theorem dX9_sheetWrong_32 : decode cX9_sheetWrong 32 = .ok (.getfield 7, 3) := by decide +kernel
theorem dX9_sheetWrong_35 : decode cX9_sheetWrong 35 = .ok (.if_icmp .le 8, 3) := by decide +kernel
theorem dX9_sheetWrong_38 : decode cX9_sheetWrong 38 = .ok (.bipush (-2), 2) := by decide +kernel
theorem dX9_sheetWrong_40 : decode cX9_sheetWrong 40 = .ok (.goto 4, 3) := by decide +kernel
theorem dX9_sheetWrong_43 : decode cX9_sheetWrong 43 = .ok (.iconst 0, 1) := by decide +kernel
theorem dX9_sheetWrong_44 : decode cX9_sheetWrong 44 = .ok (.ireturn, 1) := by decide +kernel
set_option maxRecDepth 20000 in
theorem ggX9_toldWrong_X9_sheetWrong : GoodIn wsX9_toldWrong wsX9_sheetWrong := goodIn_r _ [5, 6, 7, 8, 9, 10, 4, 11, 17, 18, 19, 20, 21, 22, 23, 24, 25, 26, 27, 28, 29, 30, 31, 32, 33, 34, 35, 36, 37, 38, 39, 40, 41, 42, 43, 44, 45, 46, 47, 48, 49, 50, 51, 52, 53, 54, 55, 56, 57] rfl (by decide +kernel)
set_option maxRecDepth 20000 in
theorem gX9_toldWrong_X9_sheetWrong : GoodIn wsX9_toldWrong (wsV RX9 269 RX9 yX9_sheetWrong wsX9_sheetWrong) := goodIn_app (goodIn_of _ (by decide +kernel)) ggX9_toldWrong_X9_sheetWrong
set_option maxRecDepth 20000 in
theorem ggX9_toldWrong_X9_isHead : GoodIn wsX9_toldWrong wsX9_isHead := goodIn_r _ [15, 16, 9, 10, 4, 11, 17, 18, 19, 20, 21, 22, 23, 24, 25, 26, 27, 28, 29, 30, 31, 32, 33, 34, 35, 36, 37, 38, 39, 40, 41, 42, 43, 44, 45, 46, 47, 48, 49, 50, 51, 52, 53, 54, 55, 56, 57] rfl (by decide +kernel)
set_option maxRecDepth 20000 in
theorem gX9_toldWrong_X9_isHead : GoodIn wsX9_toldWrong (wsV RX9 207 RX9 yX9_isHead wsX9_isHead) := goodIn_app (goodIn_of _ (by decide +kernel)) ggX9_toldWrong_X9_isHead
theorem dX9_toldWrong_0 : decode cX9_toldWrong 0 = .ok (.aload_n 0, 1) := by decide +kernel
theorem dX9_toldWrong_1 : decode cX9_toldWrong 1 = .ok (.iload_n 1, 1) := by decide +kernel
theorem dX9_toldWrong_2 : decode cX9_toldWrong 2 = .ok (.invokevirtual 269, 3) := by decide +kernel
theorem dX9_toldWrong_5 : decode cX9_toldWrong 5 = .ok (.istore_n 3, 1) := by decide +kernel
theorem dX9_toldWrong_6 : decode cX9_toldWrong 6 = .ok (.iload_n 3, 1) := by decide +kernel
theorem dX9_toldWrong_7 : decode cX9_toldWrong 7 = .ok (.ifCond .eq 7, 3) := by decide +kernel
theorem dX9_toldWrong_10 : decode cX9_toldWrong 10 = .ok (.iload_n 3, 1) := by decide +kernel
theorem dX9_toldWrong_11 : decode cX9_toldWrong 11 = .ok (.goto 17, 3) := by decide +kernel
theorem dX9_toldWrong_14 : decode cX9_toldWrong 14 = .ok (.aload_n 0, 1) := by decide +kernel
theorem dX9_toldWrong_15 : decode cX9_toldWrong 15 = .ok (.iload_n 2, 1) := by decide +kernel
theorem dX9_toldWrong_16 : decode cX9_toldWrong 16 = .ok (.invokevirtual 207, 3) := by decide +kernel
theorem dX9_toldWrong_19 : decode cX9_toldWrong 19 = .ok (.ifCond .eq 7, 3) := by decide +kernel
theorem dX9_toldWrong_22 : decode cX9_toldWrong 22 = .ok (.iconst 0, 1) := by decide +kernel
theorem dX9_toldWrong_23 : decode cX9_toldWrong 23 = .ok (.goto 5, 3) := by decide +kernel
theorem dX9_toldWrong_26 : decode cX9_toldWrong 26 = .ok (.bipush (-5), 2) := by decide +kernel
theorem dX9_toldWrong_28 : decode cX9_toldWrong 28 = .ok (.ireturn, 1) := by decide +kernel
set_option maxRecDepth 20000 in
theorem ggX9_unlike_X9_laysBut : GoodIn wsX9_unlike wsX9_laysBut := goodIn_r _ [7, 8, 9, 10, 70, 71, 72, 73, 74, 75, 76, 77, 78, 79, 80, 81, 82, 83, 84, 85, 86, 87, 88, 89, 90, 91, 92, 93, 94, 95, 96, 97, 98, 99, 100, 101, 102, 103, 104, 105, 106, 107, 108, 109, 110] rfl (by decide +kernel)
set_option maxRecDepth 20000 in
theorem gX9_unlike_X9_laysBut : GoodIn wsX9_unlike (wsV RX9 98 RX9 yX9_laysBut wsX9_laysBut) := goodIn_app (goodIn_of _ (by decide +kernel)) ggX9_unlike_X9_laysBut
set_option maxRecDepth 20000 in
theorem ggX9_unlike_X9_saysOf : GoodIn wsX9_unlike wsX9_saysOf := goodIn_r _ [14, 8, 15, 16, 17, 18, 19, 20, 21, 22, 6, 23, 10, 24, 25, 26, 27, 28, 29, 30, 31, 32, 33, 34, 35, 36, 37, 38, 39, 40, 41, 42, 43, 44, 45, 46, 47, 48, 49, 50, 9, 51, 52, 53, 54, 55, 56, 57, 58, 59, 60, 61, 62, 63, 64, 65, 66, 67, 68, 69, 70, 71, 72, 73, 74, 75, 76, 77, 78, 79, 80, 81, 82, 83, 84, 85, 86, 87, 88, 89, 90, 91, 92, 93, 94, 95, 96, 97, 98, 99, 100, 101, 102, 103, 104, 105, 106, 107, 108, 109, 110] rfl (by decide +kernel)
set_option maxRecDepth 20000 in
theorem gX9_unlike_X9_saysOf : GoodIn wsX9_unlike (wsV RX9 240 RX9 yX9_saysOf wsX9_saysOf) := goodIn_app (goodIn_of _ (by decide +kernel)) ggX9_unlike_X9_saysOf
theorem dX9_unlike_0 : decode cX9_unlike 0 = .ok (.iconst 0, 1) := by decide +kernel
theorem dX9_unlike_1 : decode cX9_unlike 1 = .ok (.istore_n 3, 1) := by decide +kernel
theorem dX9_unlike_2 : decode cX9_unlike 2 = .ok (.iload_n 3, 1) := by decide +kernel
theorem dX9_unlike_3 : decode cX9_unlike 3 = .ok (.aload_n 0, 1) := by decide +kernel
theorem dX9_unlike_4 : decode cX9_unlike 4 = .ok (.getfield 44, 3) := by decide +kernel
theorem dX9_unlike_7 : decode cX9_unlike 7 = .ok (.iload_n 1, 1) := by decide +kernel
theorem dX9_unlike_8 : decode cX9_unlike 8 = .ok (.iaload, 1) := by decide +kernel
theorem dX9_unlike_9 : decode cX9_unlike 9 = .ok (.if_icmp .ge 38, 3) := by decide +kernel
theorem dX9_unlike_12 : decode cX9_unlike 12 = .ok (.aload_n 0, 1) := by decide +kernel
theorem dX9_unlike_13 : decode cX9_unlike 13 = .ok (.iload_n 3, 1) := by decide +kernel
theorem dX9_unlike_14 : decode cX9_unlike 14 = .ok (.iconst 1, 1) := by decide +kernel
theorem dX9_unlike_15 : decode cX9_unlike 15 = .ok (.iadd, 1) := by decide +kernel
theorem dX9_unlike_16 : decode cX9_unlike 16 = .ok (.iconst 0, 1) := by decide +kernel
theorem dX9_unlike_17 : decode cX9_unlike 17 = .ok (.invokevirtual 98, 3) := by decide +kernel
theorem dX9_unlike_20 : decode cX9_unlike 20 = .ok (.aload_n 0, 1) := by decide +kernel
theorem dX9_unlike_21 : decode cX9_unlike 21 = .ok (.iload_n 2, 1) := by decide +kernel
theorem dX9_unlike_22 : decode cX9_unlike 22 = .ok (.invokevirtual 240, 3) := by decide +kernel
theorem dX9_unlike_25 : decode cX9_unlike 25 = .ok (.aload_n 0, 1) := by decide +kernel
theorem dX9_unlike_26 : decode cX9_unlike 26 = .ok (.getfield 47, 3) := by decide +kernel
theorem dX9_unlike_29 : decode cX9_unlike 29 = .ok (.bipush 40, 2) := by decide +kernel
theorem dX9_unlike_31 : decode cX9_unlike 31 = .ok (.iload_n 1, 1) := by decide +kernel
theorem dX9_unlike_32 : decode cX9_unlike 32 = .ok (.imul, 1) := by decide +kernel
theorem dX9_unlike_33 : decode cX9_unlike 33 = .ok (.iload_n 3, 1) := by decide +kernel
theorem dX9_unlike_34 : decode cX9_unlike 34 = .ok (.iadd, 1) := by decide +kernel
theorem dX9_unlike_35 : decode cX9_unlike 35 = .ok (.iaload, 1) := by decide +kernel
theorem dX9_unlike_36 : decode cX9_unlike 36 = .ok (.if_icmp .eq 5, 3) := by decide +kernel
theorem dX9_unlike_39 : decode cX9_unlike 39 = .ok (.iload_n 3, 1) := by decide +kernel
theorem dX9_unlike_40 : decode cX9_unlike 40 = .ok (.ireturn, 1) := by decide +kernel
theorem dX9_unlike_41 : decode cX9_unlike 41 = .ok (.iinc 3 1, 3) := by decide +kernel
theorem dX9_unlike_44 : decode cX9_unlike 44 = .ok (.goto (-42), 3) := by decide +kernel
theorem dX9_unlike_47 : decode cX9_unlike 47 = .ok (.iconst (-1), 1) := by decide +kernel
theorem dX9_unlike_48 : decode cX9_unlike 48 = .ok (.ireturn, 1) := by decide +kernel
set_option maxRecDepth 20000 in
theorem ggX9_judge_X9_toldWrong : GoodIn wsX9_judge wsX9_toldWrong := goodIn_r _ [5, 6, 7, 8, 4, 9, 10, 11, 12, 13, 14, 15, 16, 17, 18, 19, 20, 91, 92, 93, 94, 95, 96, 97, 98, 99, 100, 101, 102, 103, 104, 105, 106, 107, 108, 109, 110, 111, 112, 113, 114, 115, 116, 117, 118, 119, 120, 121, 122, 123, 124, 125, 126, 127, 128, 129, 130, 131] rfl (by decide +kernel)
set_option maxRecDepth 20000 in
theorem gX9_judge_X9_toldWrong : GoodIn wsX9_judge (wsV RX9 272 RX9 yX9_toldWrong wsX9_toldWrong) := goodIn_app (goodIn_of _ (by decide +kernel)) ggX9_judge_X9_toldWrong
set_option maxRecDepth 20000 in
theorem ggX9_judge_X9_unlike : GoodIn wsX9_judge wsX9_unlike := goodIn_r _ [24, 11, 25, 26, 27, 28, 4, 29, 30, 12, 31, 32, 33, 34, 35, 36, 37, 38, 39, 40, 41, 42, 43, 44, 45, 46, 47, 48, 49, 50, 51, 52, 53, 54, 55, 56, 57, 58, 59, 60, 61, 62, 63, 64, 65, 66, 67, 68, 69, 70, 71, 72, 73, 74, 75, 76, 77, 78, 79, 80, 81, 82, 83, 84, 85, 86, 87, 88, 89, 90, 91, 92, 93, 94, 95, 96, 97, 98, 99, 100, 101, 102, 103, 104, 105, 106, 107, 108, 109, 110, 111, 112, 113, 114, 115, 116, 117, 118, 119, 120, 121, 122, 123, 124, 125, 126, 127, 128, 129, 130, 131] rfl (by decide +kernel)
set_option maxRecDepth 20000 in
theorem gX9_judge_X9_unlike : GoodIn wsX9_judge (wsV RX9 275 RX9 yX9_unlike wsX9_unlike) := goodIn_app (goodIn_of _ (by decide +kernel)) ggX9_judge_X9_unlike
theorem dX9_judge_0 : decode cX9_judge 0 = .ok (.aload_n 0, 1) := by decide +kernel
theorem dX9_judge_1 : decode cX9_judge 1 = .ok (.iload_n 1, 1) := by decide +kernel
theorem dX9_judge_2 : decode cX9_judge 2 = .ok (.iload_n 2, 1) := by decide +kernel
theorem dX9_judge_3 : decode cX9_judge 3 = .ok (.invokevirtual 272, 3) := by decide +kernel
theorem dX9_judge_6 : decode cX9_judge 6 = .ok (.istore_n 3, 1) := by decide +kernel
theorem dX9_judge_7 : decode cX9_judge 7 = .ok (.iload_n 3, 1) := by decide +kernel
theorem dX9_judge_8 : decode cX9_judge 8 = .ok (.ifCond .ne 12, 3) := by decide +kernel
theorem dX9_judge_11 : decode cX9_judge 11 = .ok (.aload_n 0, 1) := by decide +kernel
theorem dX9_judge_12 : decode cX9_judge 12 = .ok (.iload_n 1, 1) := by decide +kernel
theorem dX9_judge_13 : decode cX9_judge 13 = .ok (.iload_n 2, 1) := by decide +kernel
theorem dX9_judge_14 : decode cX9_judge 14 = .ok (.invokevirtual 275, 3) := by decide +kernel
theorem dX9_judge_17 : decode cX9_judge 17 = .ok (.goto 4, 3) := by decide +kernel
theorem dX9_judge_20 : decode cX9_judge 20 = .ok (.iload_n 3, 1) := by decide +kernel
theorem dX9_judge_21 : decode cX9_judge 21 = .ok (.ireturn, 1) := by decide +kernel
set_option maxRecDepth 20000 in
theorem ggX9_kinds_X9_toldWrong : GoodIn wsX9_kinds wsX9_toldWrong := goodIn_r _ [8, 9, 10, 11, 7, 12, 13, 14, 15, 16, 17, 18, 19, 20, 21, 22, 23, 91, 92, 93, 94, 95, 96, 97, 98, 99, 100, 101, 102, 103, 104, 105, 106, 107, 108, 109, 110, 111, 112, 113, 114, 115, 116, 117, 118, 119, 120, 121, 122, 123, 124, 125, 126, 127, 128, 129, 130, 131] rfl (by decide +kernel)
set_option maxRecDepth 20000 in
theorem gX9_kinds_X9_toldWrong : GoodIn wsX9_kinds (wsV RX9 272 RX9 yX9_toldWrong wsX9_toldWrong) := goodIn_app (goodIn_of _ (by decide +kernel)) ggX9_kinds_X9_toldWrong
set_option maxRecDepth 20000 in
theorem ggX9_kinds_X9_in : GoodIn wsX9_kinds wsX9_in := goodIn_r _ [18] rfl (by decide +kernel)
set_option maxRecDepth 20000 in
theorem gX9_kinds_X9_in : GoodIn wsX9_kinds (va_wsS RX9 78 yX9_in wsX9_in) := goodIn_app (goodIn_of _ (by decide +kernel)) ggX9_kinds_X9_in
set_option maxRecDepth 20000 in
theorem ggX9_kinds_X9_unlike : GoodIn wsX9_kinds wsX9_unlike := goodIn_r _ [27, 14, 28, 29, 30, 31, 7, 32, 33, 15, 34, 35, 36, 37, 38, 39, 40, 2, 41, 42, 43, 44, 45, 46, 47, 48, 49, 50, 3, 51, 52, 53, 54, 55, 56, 57, 58, 1, 59, 60, 61, 62, 63, 64, 65, 66, 67, 68, 69, 70, 71, 72, 73, 74, 75, 76, 77, 78, 79, 80, 81, 82, 83, 84, 85, 86, 87, 88, 89, 90, 91, 92, 93, 94, 95, 96, 97, 98, 99, 100, 101, 102, 103, 104, 105, 106, 107, 108, 109, 110, 111, 112, 113, 114, 115, 116, 117, 118, 119, 120, 121, 122, 123, 124, 125, 126, 127, 128, 129, 130, 131] rfl (by decide +kernel)
set_option maxRecDepth 20000 in
theorem gX9_kinds_X9_unlike : GoodIn wsX9_kinds (wsV RX9 275 RX9 yX9_unlike wsX9_unlike) := goodIn_app (goodIn_of _ (by decide +kernel)) ggX9_kinds_X9_unlike
theorem dX9_kinds_0 : decode cX9_kinds 0 = .ok (.aload_n 0, 1) := by decide +kernel
theorem dX9_kinds_1 : decode cX9_kinds 1 = .ok (.iload_n 1, 1) := by decide +kernel
theorem dX9_kinds_2 : decode cX9_kinds 2 = .ok (.iload_n 2, 1) := by decide +kernel
theorem dX9_kinds_3 : decode cX9_kinds 3 = .ok (.invokevirtual 272, 3) := by decide +kernel
theorem dX9_kinds_6 : decode cX9_kinds 6 = .ok (.istore 4, 2) := by decide +kernel
theorem dX9_kinds_8 : decode cX9_kinds 8 = .ok (.iload 4, 2) := by decide +kernel
theorem dX9_kinds_10 : decode cX9_kinds 10 = .ok (.ifCond .eq 6, 3) := by decide +kernel
theorem dX9_kinds_13 : decode cX9_kinds 13 = .ok (.iload 4, 2) := by decide +kernel
theorem dX9_kinds_15 : decode cX9_kinds 15 = .ok (.ireturn, 1) := by decide +kernel
theorem dX9_kinds_16 : decode cX9_kinds 16 = .ok (.iload_n 3, 1) := by decide +kernel
theorem dX9_kinds_17 : decode cX9_kinds 17 = .ok (.iconst 0, 1) := by decide +kernel
theorem dX9_kinds_18 : decode cX9_kinds 18 = .ok (.iconst 2, 1) := by decide +kernel
theorem dX9_kinds_19 : decode cX9_kinds 19 = .ok (.invokestatic 78, 3) := by decide +kernel
theorem dX9_kinds_22 : decode cX9_kinds 22 = .ok (.ifCond .ne 6, 3) := by decide +kernel
theorem dX9_kinds_25 : decode cX9_kinds 25 = .ok (.bipush (-7), 2) := by decide +kernel
theorem dX9_kinds_27 : decode cX9_kinds 27 = .ok (.ireturn, 1) := by decide +kernel
theorem dX9_kinds_28 : decode cX9_kinds 28 = .ok (.aload_n 0, 1) := by decide +kernel
theorem dX9_kinds_29 : decode cX9_kinds 29 = .ok (.getfield 17, 3) := by decide +kernel
theorem dX9_kinds_32 : decode cX9_kinds 32 = .ok (.iload_n 2, 1) := by decide +kernel
theorem dX9_kinds_33 : decode cX9_kinds 33 = .ok (.iaload, 1) := by decide +kernel
theorem dX9_kinds_34 : decode cX9_kinds 34 = .ok (.istore 5, 2) := by decide +kernel
theorem dX9_kinds_36 : decode cX9_kinds 36 = .ok (.aload_n 0, 1) := by decide +kernel
theorem dX9_kinds_37 : decode cX9_kinds 37 = .ok (.getfield 20, 3) := by decide +kernel
theorem dX9_kinds_40 : decode cX9_kinds 40 = .ok (.iload_n 2, 1) := by decide +kernel
theorem dX9_kinds_41 : decode cX9_kinds 41 = .ok (.iaload, 1) := by decide +kernel
theorem dX9_kinds_42 : decode cX9_kinds 42 = .ok (.istore 6, 2) := by decide +kernel
theorem dX9_kinds_44 : decode cX9_kinds 44 = .ok (.aload_n 0, 1) := by decide +kernel
theorem dX9_kinds_45 : decode cX9_kinds 45 = .ok (.getfield 23, 3) := by decide +kernel
theorem dX9_kinds_48 : decode cX9_kinds 48 = .ok (.iconst 3, 1) := by decide +kernel
theorem dX9_kinds_49 : decode cX9_kinds 49 = .ok (.iload_n 2, 1) := by decide +kernel
theorem dX9_kinds_50 : decode cX9_kinds 50 = .ok (.imul, 1) := by decide +kernel
theorem dX9_kinds_51 : decode cX9_kinds 51 = .ok (.iaload, 1) := by decide +kernel
theorem dX9_kinds_52 : decode cX9_kinds 52 = .ok (.istore 7, 2) := by decide +kernel
theorem dX9_kinds_54 : decode cX9_kinds 54 = .ok (.iconst 0, 1) := by decide +kernel
theorem dX9_kinds_55 : decode cX9_kinds 55 = .ok (.istore 8, 2) := by decide +kernel
theorem dX9_kinds_57 : decode cX9_kinds 57 = .ok (.iload_n 3, 1) := by decide +kernel
theorem dX9_kinds_58 : decode cX9_kinds 58 = .ok (.iconst 2, 1) := by decide +kernel
theorem dX9_kinds_59 : decode cX9_kinds 59 = .ok (.if_icmp .ne 7, 3) := by decide +kernel
theorem dX9_kinds_62 : decode cX9_kinds 62 = .ok (.iconst 1, 1) := by decide +kernel
theorem dX9_kinds_63 : decode cX9_kinds 63 = .ok (.goto 4, 3) := by decide +kernel
theorem dX9_kinds_66 : decode cX9_kinds 66 = .ok (.iconst 0, 1) := by decide +kernel
theorem dX9_kinds_67 : decode cX9_kinds 67 = .ok (.istore 9, 2) := by decide +kernel
theorem dX9_kinds_69 : decode cX9_kinds 69 = .ok (.iload 9, 2) := by decide +kernel
theorem dX9_kinds_71 : decode cX9_kinds 71 = .ok (.iload_n 3, 1) := by decide +kernel
theorem dX9_kinds_72 : decode cX9_kinds 72 = .ok (.ifCond .ne 8, 3) := by decide +kernel
theorem dX9_kinds_75 : decode cX9_kinds 75 = .ok (.bipush 6, 2) := by decide +kernel
theorem dX9_kinds_77 : decode cX9_kinds 77 = .ok (.goto 15, 3) := by decide +kernel
theorem dX9_kinds_80 : decode cX9_kinds 80 = .ok (.iload_n 3, 1) := by decide +kernel
theorem dX9_kinds_81 : decode cX9_kinds 81 = .ok (.iconst 1, 1) := by decide +kernel
theorem dX9_kinds_82 : decode cX9_kinds 82 = .ok (.if_icmp .ne 8, 3) := by decide +kernel
theorem dX9_kinds_85 : decode cX9_kinds 85 = .ok (.bipush 10, 2) := by decide +kernel
theorem dX9_kinds_87 : decode cX9_kinds 87 = .ok (.goto 5, 3) := by decide +kernel
theorem dX9_kinds_90 : decode cX9_kinds 90 = .ok (.bipush 17, 2) := by decide +kernel
theorem dX9_kinds_92 : decode cX9_kinds 92 = .ok (.if_icmp .ge 87, 3) := by decide +kernel
theorem dX9_kinds_95 : decode cX9_kinds 95 = .ok (.aload_n 0, 1) := by decide +kernel
theorem dX9_kinds_96 : decode cX9_kinds 96 = .ok (.getfield 17, 3) := by decide +kernel
theorem dX9_kinds_99 : decode cX9_kinds 99 = .ok (.iload_n 2, 1) := by decide +kernel
theorem dX9_kinds_100 : decode cX9_kinds 100 = .ok (.iload_n 3, 1) := by decide +kernel
theorem dX9_kinds_101 : decode cX9_kinds 101 = .ok (.ifCond .ne 8, 3) := by decide +kernel
theorem dX9_kinds_104 : decode cX9_kinds 104 = .ok (.iload 9, 2) := by decide +kernel
theorem dX9_kinds_106 : decode cX9_kinds 106 = .ok (.goto 5, 3) := by decide +kernel
theorem dX9_kinds_109 : decode cX9_kinds 109 = .ok (.iload 5, 2) := by decide +kernel
theorem dX9_kinds_111 : decode cX9_kinds 111 = .ok (.iastore, 1) := by decide +kernel
theorem dX9_kinds_112 : decode cX9_kinds 112 = .ok (.aload_n 0, 1) := by decide +kernel
theorem dX9_kinds_113 : decode cX9_kinds 113 = .ok (.getfield 20, 3) := by decide +kernel
theorem dX9_kinds_116 : decode cX9_kinds 116 = .ok (.iload_n 2, 1) := by decide +kernel
theorem dX9_kinds_117 : decode cX9_kinds 117 = .ok (.iload_n 3, 1) := by decide +kernel
theorem dX9_kinds_118 : decode cX9_kinds 118 = .ok (.iconst 1, 1) := by decide +kernel
theorem dX9_kinds_119 : decode cX9_kinds 119 = .ok (.if_icmp .ne 8, 3) := by decide +kernel
theorem dX9_kinds_122 : decode cX9_kinds 122 = .ok (.iload 9, 2) := by decide +kernel
theorem dX9_kinds_124 : decode cX9_kinds 124 = .ok (.goto 5, 3) := by decide +kernel
theorem dX9_kinds_127 : decode cX9_kinds 127 = .ok (.iload 6, 2) := by decide +kernel
theorem dX9_kinds_129 : decode cX9_kinds 129 = .ok (.iastore, 1) := by decide +kernel
theorem dX9_kinds_130 : decode cX9_kinds 130 = .ok (.aload_n 0, 1) := by decide +kernel
theorem dX9_kinds_131 : decode cX9_kinds 131 = .ok (.getfield 23, 3) := by decide +kernel
theorem dX9_kinds_134 : decode cX9_kinds 134 = .ok (.iconst 3, 1) := by decide +kernel
theorem dX9_kinds_135 : decode cX9_kinds 135 = .ok (.iload_n 2, 1) := by decide +kernel
theorem dX9_kinds_136 : decode cX9_kinds 136 = .ok (.imul, 1) := by decide +kernel
theorem dX9_kinds_137 : decode cX9_kinds 137 = .ok (.iload_n 3, 1) := by decide +kernel
theorem dX9_kinds_138 : decode cX9_kinds 138 = .ok (.iconst 2, 1) := by decide +kernel
theorem dX9_kinds_139 : decode cX9_kinds 139 = .ok (.if_icmp .ne 8, 3) := by decide +kernel
theorem dX9_kinds_142 : decode cX9_kinds 142 = .ok (.iload 9, 2) := by decide +kernel
theorem dX9_kinds_144 : decode cX9_kinds 144 = .ok (.goto 5, 3) := by decide +kernel
theorem dX9_kinds_147 : decode cX9_kinds 147 = .ok (.iload 7, 2) := by decide +kernel
theorem dX9_kinds_149 : decode cX9_kinds 149 = .ok (.iastore, 1) := by decide +kernel
theorem dX9_kinds_150 : decode cX9_kinds 150 = .ok (.iload 8, 2) := by decide +kernel
theorem dX9_kinds_152 : decode cX9_kinds 152 = .ok (.aload_n 0, 1) := by decide +kernel
theorem dX9_kinds_153 : decode cX9_kinds 153 = .ok (.iload_n 1, 1) := by decide +kernel
theorem dX9_kinds_154 : decode cX9_kinds 154 = .ok (.iload_n 2, 1) := by decide +kernel
theorem dX9_kinds_155 : decode cX9_kinds 155 = .ok (.invokevirtual 275, 3) := by decide +kernel
theorem dX9_kinds_158 : decode cX9_kinds 158 = .ok (.iconst (-1), 1) := by decide +kernel
theorem dX9_kinds_159 : decode cX9_kinds 159 = .ok (.if_icmp .ne 10, 3) := by decide +kernel
theorem dX9_kinds_162 : decode cX9_kinds 162 = .ok (.iconst 1, 1) := by decide +kernel
theorem dX9_kinds_163 : decode cX9_kinds 163 = .ok (.iload 9, 2) := by decide +kernel
theorem dX9_kinds_165 : decode cX9_kinds 165 = .ok (.ishl, 1) := by decide +kernel
theorem dX9_kinds_166 : decode cX9_kinds 166 = .ok (.goto 4, 3) := by decide +kernel
theorem dX9_kinds_169 : decode cX9_kinds 169 = .ok (.iconst 0, 1) := by decide +kernel
theorem dX9_kinds_170 : decode cX9_kinds 170 = .ok (.ior, 1) := by decide +kernel
theorem dX9_kinds_171 : decode cX9_kinds 171 = .ok (.istore 8, 2) := by decide +kernel
theorem dX9_kinds_173 : decode cX9_kinds 173 = .ok (.iinc 9 1, 3) := by decide +kernel
theorem dX9_kinds_176 : decode cX9_kinds 176 = .ok (.goto (-107), 3) := by decide +kernel
theorem dX9_kinds_179 : decode cX9_kinds 179 = .ok (.aload_n 0, 1) := by decide +kernel
theorem dX9_kinds_180 : decode cX9_kinds 180 = .ok (.getfield 17, 3) := by decide +kernel
theorem dX9_kinds_183 : decode cX9_kinds 183 = .ok (.iload_n 2, 1) := by decide +kernel
theorem dX9_kinds_184 : decode cX9_kinds 184 = .ok (.iload 5, 2) := by decide +kernel
theorem dX9_kinds_186 : decode cX9_kinds 186 = .ok (.iastore, 1) := by decide +kernel
theorem dX9_kinds_187 : decode cX9_kinds 187 = .ok (.aload_n 0, 1) := by decide +kernel
theorem dX9_kinds_188 : decode cX9_kinds 188 = .ok (.getfield 20, 3) := by decide +kernel
theorem dX9_kinds_191 : decode cX9_kinds 191 = .ok (.iload_n 2, 1) := by decide +kernel
theorem dX9_kinds_192 : decode cX9_kinds 192 = .ok (.iload 6, 2) := by decide +kernel
theorem dX9_kinds_194 : decode cX9_kinds 194 = .ok (.iastore, 1) := by decide +kernel
theorem dX9_kinds_195 : decode cX9_kinds 195 = .ok (.aload_n 0, 1) := by decide +kernel
theorem dX9_kinds_196 : decode cX9_kinds 196 = .ok (.getfield 23, 3) := by decide +kernel
theorem dX9_kinds_199 : decode cX9_kinds 199 = .ok (.iconst 3, 1) := by decide +kernel
theorem dX9_kinds_200 : decode cX9_kinds 200 = .ok (.iload_n 2, 1) := by decide +kernel
theorem dX9_kinds_201 : decode cX9_kinds 201 = .ok (.imul, 1) := by decide +kernel
theorem dX9_kinds_202 : decode cX9_kinds 202 = .ok (.iload 7, 2) := by decide +kernel
theorem dX9_kinds_204 : decode cX9_kinds 204 = .ok (.iastore, 1) := by decide +kernel
theorem dX9_kinds_205 : decode cX9_kinds 205 = .ok (.iload 8, 2) := by decide +kernel
theorem dX9_kinds_207 : decode cX9_kinds 207 = .ok (.ireturn, 1) := by decide +kernel
set_option maxRecDepth 20000 in
theorem ggX9_begins_X9_toldWrong : GoodIn wsX9_begins wsX9_toldWrong := goodIn_r _ [6, 7, 8, 9, 5, 10, 11, 12, 13, 14, 15, 16, 17, 18, 19, 20, 21, 91, 92, 93, 94, 95, 96, 97, 98, 99, 100, 101, 102, 103, 104, 105, 106, 107, 108, 109, 110, 111, 112, 113, 114, 115, 116, 117, 118, 119, 120, 121, 122, 123, 124, 125, 126, 127, 128, 129, 130, 131] rfl (by decide +kernel)
set_option maxRecDepth 20000 in
theorem gX9_begins_X9_toldWrong : GoodIn wsX9_begins (wsV RX9 272 RX9 yX9_toldWrong wsX9_toldWrong) := goodIn_app (goodIn_of _ (by decide +kernel)) ggX9_begins_X9_toldWrong
set_option maxRecDepth 20000 in
theorem ggX9_begins_X9_in : GoodIn wsX9_begins wsX9_in := goodIn_r _ [16] rfl (by decide +kernel)
set_option maxRecDepth 20000 in
theorem gX9_begins_X9_in : GoodIn wsX9_begins (va_wsS RX9 78 yX9_in wsX9_in) := goodIn_app (goodIn_of _ (by decide +kernel)) ggX9_begins_X9_in
set_option maxRecDepth 20000 in
theorem ggX9_begins_X9_unlike : GoodIn wsX9_begins wsX9_unlike := goodIn_r _ [25, 12, 26, 27, 28, 29, 5, 30, 31, 13, 32, 33, 34, 35, 36, 37, 38, 39, 40, 41, 42, 43, 44, 45, 46, 47, 48, 49, 1, 50, 51, 52, 53, 54, 55, 56, 57, 58, 59, 60, 61, 62, 63, 64, 65, 66, 67, 68, 69, 70, 71, 72, 73, 74, 75, 76, 77, 78, 79, 80, 81, 82, 83, 84, 85, 86, 87, 88, 89, 90, 91, 92, 93, 94, 95, 96, 97, 98, 99, 100, 101, 102, 103, 104, 105, 106, 107, 108, 109, 110, 111, 112, 113, 114, 115, 116, 117, 118, 119, 120, 121, 122, 123, 124, 125, 126, 127, 128, 129, 130, 131] rfl (by decide +kernel)
set_option maxRecDepth 20000 in
theorem gX9_begins_X9_unlike : GoodIn wsX9_begins (wsV RX9 275 RX9 yX9_unlike wsX9_unlike) := goodIn_app (goodIn_of _ (by decide +kernel)) ggX9_begins_X9_unlike
theorem dX9_begins_0 : decode cX9_begins 0 = .ok (.aload_n 0, 1) := by decide +kernel
theorem dX9_begins_1 : decode cX9_begins 1 = .ok (.iload_n 1, 1) := by decide +kernel
theorem dX9_begins_2 : decode cX9_begins 2 = .ok (.iload_n 2, 1) := by decide +kernel
theorem dX9_begins_3 : decode cX9_begins 3 = .ok (.invokevirtual 272, 3) := by decide +kernel
theorem dX9_begins_6 : decode cX9_begins 6 = .ok (.istore 4, 2) := by decide +kernel
theorem dX9_begins_8 : decode cX9_begins 8 = .ok (.iload 4, 2) := by decide +kernel
theorem dX9_begins_10 : decode cX9_begins 10 = .ok (.ifCond .eq 6, 3) := by decide +kernel
theorem dX9_begins_13 : decode cX9_begins 13 = .ok (.iload 4, 2) := by decide +kernel
theorem dX9_begins_15 : decode cX9_begins 15 = .ok (.ireturn, 1) := by decide +kernel
theorem dX9_begins_16 : decode cX9_begins 16 = .ok (.iload_n 3, 1) := by decide +kernel
theorem dX9_begins_17 : decode cX9_begins 17 = .ok (.iconst 0, 1) := by decide +kernel
theorem dX9_begins_18 : decode cX9_begins 18 = .ok (.iconst 1, 1) := by decide +kernel
theorem dX9_begins_19 : decode cX9_begins 19 = .ok (.invokestatic 78, 3) := by decide +kernel
theorem dX9_begins_22 : decode cX9_begins 22 = .ok (.ifCond .ne 6, 3) := by decide +kernel
theorem dX9_begins_25 : decode cX9_begins 25 = .ok (.bipush (-7), 2) := by decide +kernel
theorem dX9_begins_27 : decode cX9_begins 27 = .ok (.ireturn, 1) := by decide +kernel
theorem dX9_begins_28 : decode cX9_begins 28 = .ok (.aload_n 0, 1) := by decide +kernel
theorem dX9_begins_29 : decode cX9_begins 29 = .ok (.getfield 23, 3) := by decide +kernel
theorem dX9_begins_32 : decode cX9_begins 32 = .ok (.iconst 3, 1) := by decide +kernel
theorem dX9_begins_33 : decode cX9_begins 33 = .ok (.iload_n 2, 1) := by decide +kernel
theorem dX9_begins_34 : decode cX9_begins 34 = .ok (.imul, 1) := by decide +kernel
theorem dX9_begins_35 : decode cX9_begins 35 = .ok (.iconst 1, 1) := by decide +kernel
theorem dX9_begins_36 : decode cX9_begins 36 = .ok (.iadd, 1) := by decide +kernel
theorem dX9_begins_37 : decode cX9_begins 37 = .ok (.iaload, 1) := by decide +kernel
theorem dX9_begins_38 : decode cX9_begins 38 = .ok (.istore 5, 2) := by decide +kernel
theorem dX9_begins_40 : decode cX9_begins 40 = .ok (.iconst 0, 1) := by decide +kernel
theorem dX9_begins_41 : decode cX9_begins 41 = .ok (.istore 6, 2) := by decide +kernel
theorem dX9_begins_43 : decode cX9_begins 43 = .ok (.iconst (-1), 1) := by decide +kernel
theorem dX9_begins_44 : decode cX9_begins 44 = .ok (.istore 7, 2) := by decide +kernel
theorem dX9_begins_46 : decode cX9_begins 46 = .ok (.iconst 0, 1) := by decide +kernel
theorem dX9_begins_47 : decode cX9_begins 47 = .ok (.istore 8, 2) := by decide +kernel
theorem dX9_begins_49 : decode cX9_begins 49 = .ok (.iload 8, 2) := by decide +kernel
theorem dX9_begins_51 : decode cX9_begins 51 = .ok (.sipush 200, 3) := by decide +kernel
theorem dX9_begins_54 : decode cX9_begins 54 = .ok (.if_icmp .gt 73, 3) := by decide +kernel
theorem dX9_begins_57 : decode cX9_begins 57 = .ok (.aload_n 0, 1) := by decide +kernel
theorem dX9_begins_58 : decode cX9_begins 58 = .ok (.getfield 23, 3) := by decide +kernel
theorem dX9_begins_61 : decode cX9_begins 61 = .ok (.iconst 3, 1) := by decide +kernel
theorem dX9_begins_62 : decode cX9_begins 62 = .ok (.iload_n 2, 1) := by decide +kernel
theorem dX9_begins_63 : decode cX9_begins 63 = .ok (.imul, 1) := by decide +kernel
theorem dX9_begins_64 : decode cX9_begins 64 = .ok (.iconst 1, 1) := by decide +kernel
theorem dX9_begins_65 : decode cX9_begins 65 = .ok (.iadd, 1) := by decide +kernel
theorem dX9_begins_66 : decode cX9_begins 66 = .ok (.iload 8, 2) := by decide +kernel
theorem dX9_begins_68 : decode cX9_begins 68 = .ok (.iastore, 1) := by decide +kernel
theorem dX9_begins_69 : decode cX9_begins 69 = .ok (.aload_n 0, 1) := by decide +kernel
theorem dX9_begins_70 : decode cX9_begins 70 = .ok (.iload_n 1, 1) := by decide +kernel
theorem dX9_begins_71 : decode cX9_begins 71 = .ok (.iload_n 2, 1) := by decide +kernel
theorem dX9_begins_72 : decode cX9_begins 72 = .ok (.invokevirtual 275, 3) := by decide +kernel
theorem dX9_begins_75 : decode cX9_begins 75 = .ok (.iconst (-1), 1) := by decide +kernel
theorem dX9_begins_76 : decode cX9_begins 76 = .ok (.if_icmp .ne 7, 3) := by decide +kernel
theorem dX9_begins_79 : decode cX9_begins 79 = .ok (.iconst 1, 1) := by decide +kernel
theorem dX9_begins_80 : decode cX9_begins 80 = .ok (.goto 4, 3) := by decide +kernel
theorem dX9_begins_83 : decode cX9_begins 83 = .ok (.iconst 0, 1) := by decide +kernel
theorem dX9_begins_84 : decode cX9_begins 84 = .ok (.istore 9, 2) := by decide +kernel
theorem dX9_begins_86 : decode cX9_begins 86 = .ok (.iload 6, 2) := by decide +kernel
theorem dX9_begins_88 : decode cX9_begins 88 = .ok (.iload 9, 2) := by decide +kernel
theorem dX9_begins_90 : decode cX9_begins 90 = .ok (.ifCond .eq 7, 3) := by decide +kernel
theorem dX9_begins_93 : decode cX9_begins 93 = .ok (.iconst 1, 1) := by decide +kernel
theorem dX9_begins_94 : decode cX9_begins 94 = .ok (.goto 4, 3) := by decide +kernel
theorem dX9_begins_97 : decode cX9_begins 97 = .ok (.iconst 0, 1) := by decide +kernel
theorem dX9_begins_98 : decode cX9_begins 98 = .ok (.iadd, 1) := by decide +kernel
theorem dX9_begins_99 : decode cX9_begins 99 = .ok (.istore 6, 2) := by decide +kernel
theorem dX9_begins_101 : decode cX9_begins 101 = .ok (.iload 9, 2) := by decide +kernel
theorem dX9_begins_103 : decode cX9_begins 103 = .ok (.ifCond .eq 14, 3) := by decide +kernel
theorem dX9_begins_106 : decode cX9_begins 106 = .ok (.iload 7, 2) := by decide +kernel
theorem dX9_begins_108 : decode cX9_begins 108 = .ok (.iconst (-1), 1) := by decide +kernel
theorem dX9_begins_109 : decode cX9_begins 109 = .ok (.if_icmp .ne 8, 3) := by decide +kernel
theorem dX9_begins_112 : decode cX9_begins 112 = .ok (.iload 8, 2) := by decide +kernel
theorem dX9_begins_114 : decode cX9_begins 114 = .ok (.goto 5, 3) := by decide +kernel
theorem dX9_begins_117 : decode cX9_begins 117 = .ok (.iload 7, 2) := by decide +kernel
theorem dX9_begins_119 : decode cX9_begins 119 = .ok (.istore 7, 2) := by decide +kernel
theorem dX9_begins_121 : decode cX9_begins 121 = .ok (.iinc 8 1, 3) := by decide +kernel
theorem dX9_begins_124 : decode cX9_begins 124 = .ok (.goto (-75), 3) := by decide +kernel
theorem dX9_begins_127 : decode cX9_begins 127 = .ok (.aload_n 0, 1) := by decide +kernel
theorem dX9_begins_128 : decode cX9_begins 128 = .ok (.getfield 23, 3) := by decide +kernel
theorem dX9_begins_131 : decode cX9_begins 131 = .ok (.iconst 3, 1) := by decide +kernel
theorem dX9_begins_132 : decode cX9_begins 132 = .ok (.iload_n 2, 1) := by decide +kernel
theorem dX9_begins_133 : decode cX9_begins 133 = .ok (.imul, 1) := by decide +kernel
theorem dX9_begins_134 : decode cX9_begins 134 = .ok (.iconst 1, 1) := by decide +kernel
theorem dX9_begins_135 : decode cX9_begins 135 = .ok (.iadd, 1) := by decide +kernel
theorem dX9_begins_136 : decode cX9_begins 136 = .ok (.iload 5, 2) := by decide +kernel
theorem dX9_begins_138 : decode cX9_begins 138 = .ok (.iastore, 1) := by decide +kernel
theorem dX9_begins_139 : decode cX9_begins 139 = .ok (.iload_n 3, 1) := by decide +kernel
theorem dX9_begins_140 : decode cX9_begins 140 = .ok (.ifCond .ne 8, 3) := by decide +kernel
theorem dX9_begins_143 : decode cX9_begins 143 = .ok (.iload 6, 2) := by decide +kernel
theorem dX9_begins_145 : decode cX9_begins 145 = .ok (.goto 5, 3) := by decide +kernel
theorem dX9_begins_148 : decode cX9_begins 148 = .ok (.iload 7, 2) := by decide +kernel
theorem dX9_begins_150 : decode cX9_begins 150 = .ok (.ireturn, 1) := by decide +kernel
set_option maxRecDepth 20000 in
theorem ggX9_laws_X9_toldWrong : GoodIn wsX9_laws wsX9_toldWrong := goodIn_r _ [7, 8, 9, 10, 6, 11, 12, 13, 14, 15, 16, 17, 18, 19, 20, 21, 22, 92, 93, 94, 95, 96, 97, 98, 99, 100, 101, 102, 103, 104, 105, 106, 107, 108, 109, 110, 111, 112, 113, 114, 115, 116, 117, 118, 119, 120, 121, 122, 123, 124, 125, 126, 127, 128, 129, 130, 131, 132] rfl (by decide +kernel)
set_option maxRecDepth 20000 in
theorem gX9_laws_X9_toldWrong : GoodIn wsX9_laws (wsV RX9 272 RX9 yX9_toldWrong wsX9_toldWrong) := goodIn_app (goodIn_of _ (by decide +kernel)) ggX9_laws_X9_toldWrong
set_option maxRecDepth 20000 in
theorem ggX9_laws_X9_unlike : GoodIn wsX9_laws wsX9_unlike := goodIn_r _ [26, 13, 27, 28, 29, 30, 6, 31, 32, 14, 33, 34, 35, 36, 37, 38, 39, 40, 41, 42, 43, 44, 45, 46, 47, 48, 49, 50, 51, 52, 53, 54, 55, 56, 57, 58, 59, 60, 61, 62, 63, 64, 65, 66, 67, 68, 69, 70, 71, 72, 73, 74, 75, 76, 77, 78, 1, 79, 80, 81, 82, 83, 84, 85, 86, 87, 88, 89, 90, 91, 92, 93, 94, 95, 96, 97, 98, 99, 100, 101, 102, 103, 104, 105, 106, 107, 108, 109, 110, 111, 112, 113, 114, 115, 116, 117, 118, 119, 120, 121, 122, 123, 124, 125, 126, 127, 128, 129, 130, 131, 132] rfl (by decide +kernel)
set_option maxRecDepth 20000 in
theorem gX9_laws_X9_unlike : GoodIn wsX9_laws (wsV RX9 275 RX9 yX9_unlike wsX9_unlike) := goodIn_app (goodIn_of _ (by decide +kernel)) ggX9_laws_X9_unlike
theorem dX9_laws_0 : decode cX9_laws 0 = .ok (.aload_n 0, 1) := by decide +kernel
theorem dX9_laws_1 : decode cX9_laws 1 = .ok (.iload_n 1, 1) := by decide +kernel
theorem dX9_laws_2 : decode cX9_laws 2 = .ok (.iload_n 2, 1) := by decide +kernel
theorem dX9_laws_3 : decode cX9_laws 3 = .ok (.invokevirtual 272, 3) := by decide +kernel
theorem dX9_laws_6 : decode cX9_laws 6 = .ok (.istore_n 3, 1) := by decide +kernel
theorem dX9_laws_7 : decode cX9_laws 7 = .ok (.iload_n 3, 1) := by decide +kernel
theorem dX9_laws_8 : decode cX9_laws 8 = .ok (.ifCond .eq 5, 3) := by decide +kernel
theorem dX9_laws_11 : decode cX9_laws 11 = .ok (.iload_n 3, 1) := by decide +kernel
theorem dX9_laws_12 : decode cX9_laws 12 = .ok (.ireturn, 1) := by decide +kernel
theorem dX9_laws_13 : decode cX9_laws 13 = .ok (.aload_n 0, 1) := by decide +kernel
theorem dX9_laws_14 : decode cX9_laws 14 = .ok (.getfield 91, 3) := by decide +kernel
theorem dX9_laws_17 : decode cX9_laws 17 = .ok (.istore 4, 2) := by decide +kernel
theorem dX9_laws_19 : decode cX9_laws 19 = .ok (.iconst 0, 1) := by decide +kernel
theorem dX9_laws_20 : decode cX9_laws 20 = .ok (.istore 5, 2) := by decide +kernel
theorem dX9_laws_22 : decode cX9_laws 22 = .ok (.iconst 0, 1) := by decide +kernel
theorem dX9_laws_23 : decode cX9_laws 23 = .ok (.istore 6, 2) := by decide +kernel
theorem dX9_laws_25 : decode cX9_laws 25 = .ok (.iload 6, 2) := by decide +kernel
theorem dX9_laws_27 : decode cX9_laws 27 = .ok (.aload_n 0, 1) := by decide +kernel
theorem dX9_laws_28 : decode cX9_laws 28 = .ok (.getfield 88, 3) := by decide +kernel
theorem dX9_laws_31 : decode cX9_laws 31 = .ok (.if_icmp .ge 38, 3) := by decide +kernel
theorem dX9_laws_34 : decode cX9_laws 34 = .ok (.aload_n 0, 1) := by decide +kernel
theorem dX9_laws_35 : decode cX9_laws 35 = .ok (.iload 6, 2) := by decide +kernel
theorem dX9_laws_37 : decode cX9_laws 37 = .ok (.putfield 91, 3) := by decide +kernel
theorem dX9_laws_40 : decode cX9_laws 40 = .ok (.iload 5, 2) := by decide +kernel
theorem dX9_laws_42 : decode cX9_laws 42 = .ok (.aload_n 0, 1) := by decide +kernel
theorem dX9_laws_43 : decode cX9_laws 43 = .ok (.iload_n 1, 1) := by decide +kernel
theorem dX9_laws_44 : decode cX9_laws 44 = .ok (.iload_n 2, 1) := by decide +kernel
theorem dX9_laws_45 : decode cX9_laws 45 = .ok (.invokevirtual 275, 3) := by decide +kernel
theorem dX9_laws_48 : decode cX9_laws 48 = .ok (.iconst (-1), 1) := by decide +kernel
theorem dX9_laws_49 : decode cX9_laws 49 = .ok (.if_icmp .ne 10, 3) := by decide +kernel
theorem dX9_laws_52 : decode cX9_laws 52 = .ok (.iconst 1, 1) := by decide +kernel
theorem dX9_laws_53 : decode cX9_laws 53 = .ok (.iload 6, 2) := by decide +kernel
theorem dX9_laws_55 : decode cX9_laws 55 = .ok (.ishl, 1) := by decide +kernel
theorem dX9_laws_56 : decode cX9_laws 56 = .ok (.goto 4, 3) := by decide +kernel
theorem dX9_laws_59 : decode cX9_laws 59 = .ok (.iconst 0, 1) := by decide +kernel
theorem dX9_laws_60 : decode cX9_laws 60 = .ok (.ior, 1) := by decide +kernel
theorem dX9_laws_61 : decode cX9_laws 61 = .ok (.istore 5, 2) := by decide +kernel
theorem dX9_laws_63 : decode cX9_laws 63 = .ok (.iinc 6 1, 3) := by decide +kernel
theorem dX9_laws_66 : decode cX9_laws 66 = .ok (.goto (-41), 3) := by decide +kernel
theorem dX9_laws_69 : decode cX9_laws 69 = .ok (.aload_n 0, 1) := by decide +kernel
theorem dX9_laws_70 : decode cX9_laws 70 = .ok (.iload 4, 2) := by decide +kernel
theorem dX9_laws_72 : decode cX9_laws 72 = .ok (.putfield 91, 3) := by decide +kernel
theorem dX9_laws_75 : decode cX9_laws 75 = .ok (.iload 5, 2) := by decide +kernel
theorem dX9_laws_77 : decode cX9_laws 77 = .ok (.ireturn, 1) := by decide +kernel
set_option maxRecDepth 20000 in
theorem ggX9_whose_X9_sheetWrong : GoodIn wsX9_whose wsX9_sheetWrong := goodIn_r _ [6, 7, 8, 9, 10, 11, 5, 12, 83, 84, 85, 86, 87, 88, 89, 90, 91, 92, 93, 94, 95, 96, 97, 98, 99, 100, 101, 102, 103, 104, 105, 106, 107, 108, 109, 110, 111, 112, 113, 114, 115, 116, 117, 118, 119, 120, 121, 122, 123] rfl (by decide +kernel)
set_option maxRecDepth 20000 in
theorem gX9_whose_X9_sheetWrong : GoodIn wsX9_whose (wsV RX9 269 RX9 yX9_sheetWrong wsX9_sheetWrong) := goodIn_app (goodIn_of _ (by decide +kernel)) ggX9_whose_X9_sheetWrong
set_option maxRecDepth 20000 in
theorem ggX9_whose_X9_unlike : GoodIn wsX9_whose wsX9_unlike := goodIn_r _ [16, 8, 17, 18, 19, 20, 5, 21, 22, 9, 23, 24, 25, 26, 27, 28, 29, 30, 31, 32, 33, 34, 35, 36, 37, 38, 39, 40, 41, 42, 43, 44, 45, 46, 47, 48, 49, 50, 51, 52, 53, 54, 55, 56, 57, 58, 59, 60, 61, 62, 63, 64, 65, 66, 67, 68, 69, 70, 71, 72, 73, 74, 75, 76, 77, 78, 79, 80, 81, 82, 83, 84, 85, 86, 87, 88, 89, 90, 91, 92, 93, 94, 95, 96, 97, 98, 99, 100, 101, 102, 103, 104, 105, 106, 107, 108, 109, 110, 111, 112, 113, 114, 115, 116, 117, 118, 119, 120, 121, 122, 123] rfl (by decide +kernel)
set_option maxRecDepth 20000 in
theorem gX9_whose_X9_unlike : GoodIn wsX9_whose (wsV RX9 275 RX9 yX9_unlike wsX9_unlike) := goodIn_app (goodIn_of _ (by decide +kernel)) ggX9_whose_X9_unlike
theorem dX9_whose_0 : decode cX9_whose 0 = .ok (.aload_n 0, 1) := by decide +kernel
theorem dX9_whose_1 : decode cX9_whose 1 = .ok (.iload_n 1, 1) := by decide +kernel
theorem dX9_whose_2 : decode cX9_whose 2 = .ok (.invokevirtual 269, 3) := by decide +kernel
theorem dX9_whose_5 : decode cX9_whose 5 = .ok (.istore_n 2, 1) := by decide +kernel
theorem dX9_whose_6 : decode cX9_whose 6 = .ok (.iload_n 2, 1) := by decide +kernel
theorem dX9_whose_7 : decode cX9_whose 7 = .ok (.ifCond .eq 5, 3) := by decide +kernel
theorem dX9_whose_10 : decode cX9_whose 10 = .ok (.iload_n 2, 1) := by decide +kernel
theorem dX9_whose_11 : decode cX9_whose 11 = .ok (.ireturn, 1) := by decide +kernel
theorem dX9_whose_12 : decode cX9_whose 12 = .ok (.iconst 0, 1) := by decide +kernel
theorem dX9_whose_13 : decode cX9_whose 13 = .ok (.istore_n 3, 1) := by decide +kernel
theorem dX9_whose_14 : decode cX9_whose 14 = .ok (.iconst 0, 1) := by decide +kernel
theorem dX9_whose_15 : decode cX9_whose 15 = .ok (.istore 4, 2) := by decide +kernel
theorem dX9_whose_17 : decode cX9_whose 17 = .ok (.iload 4, 2) := by decide +kernel
theorem dX9_whose_19 : decode cX9_whose 19 = .ok (.aload_n 0, 1) := by decide +kernel
theorem dX9_whose_20 : decode cX9_whose 20 = .ok (.getfield 82, 3) := by decide +kernel
theorem dX9_whose_23 : decode cX9_whose 23 = .ok (.if_icmp .ge 31, 3) := by decide +kernel
theorem dX9_whose_26 : decode cX9_whose 26 = .ok (.iload_n 3, 1) := by decide +kernel
theorem dX9_whose_27 : decode cX9_whose 27 = .ok (.aload_n 0, 1) := by decide +kernel
theorem dX9_whose_28 : decode cX9_whose 28 = .ok (.iload_n 1, 1) := by decide +kernel
theorem dX9_whose_29 : decode cX9_whose 29 = .ok (.iload 4, 2) := by decide +kernel
theorem dX9_whose_31 : decode cX9_whose 31 = .ok (.invokevirtual 275, 3) := by decide +kernel
theorem dX9_whose_34 : decode cX9_whose 34 = .ok (.iconst (-1), 1) := by decide +kernel
theorem dX9_whose_35 : decode cX9_whose 35 = .ok (.if_icmp .ne 10, 3) := by decide +kernel
theorem dX9_whose_38 : decode cX9_whose 38 = .ok (.iconst 1, 1) := by decide +kernel
theorem dX9_whose_39 : decode cX9_whose 39 = .ok (.iload 4, 2) := by decide +kernel
theorem dX9_whose_41 : decode cX9_whose 41 = .ok (.ishl, 1) := by decide +kernel
theorem dX9_whose_42 : decode cX9_whose 42 = .ok (.goto 4, 3) := by decide +kernel
theorem dX9_whose_45 : decode cX9_whose 45 = .ok (.iconst 0, 1) := by decide +kernel
theorem dX9_whose_46 : decode cX9_whose 46 = .ok (.ior, 1) := by decide +kernel
theorem dX9_whose_47 : decode cX9_whose 47 = .ok (.istore_n 3, 1) := by decide +kernel
theorem dX9_whose_48 : decode cX9_whose 48 = .ok (.iinc 4 1, 3) := by decide +kernel
theorem dX9_whose_51 : decode cX9_whose 51 = .ok (.goto (-34), 3) := by decide +kernel
theorem dX9_whose_54 : decode cX9_whose 54 = .ok (.iload_n 3, 1) := by decide +kernel
theorem dX9_whose_55 : decode cX9_whose 55 = .ok (.ireturn, 1) := by decide +kernel
set_option maxRecDepth 20000 in
theorem ggX9_film_X9_in : GoodIn wsX9_film wsX9_in := goodIn_r _ [8] rfl (by decide +kernel)
set_option maxRecDepth 20000 in
theorem gX9_film_X9_in : GoodIn wsX9_film (va_wsS RX9 78 yX9_in wsX9_in) := goodIn_app (goodIn_of _ (by decide +kernel)) ggX9_film_X9_in
set_option maxRecDepth 20000 in
theorem ggX9_film_X9_isHead : GoodIn wsX9_film wsX9_isHead := goodIn_r _ [12, 13, 5, 6, 7, 8, 79, 80, 81, 82, 83, 84, 85, 86, 87, 88, 89, 90, 91, 92, 93, 94, 95, 96, 97, 98, 99, 100, 101, 102, 103, 104, 105, 106, 107, 108, 109, 110, 111, 112, 113, 114, 115, 116, 117, 118, 119] rfl (by decide +kernel)
set_option maxRecDepth 20000 in
theorem gX9_film_X9_isHead : GoodIn wsX9_film (wsV RX9 207 RX9 yX9_isHead wsX9_isHead) := goodIn_app (goodIn_of _ (by decide +kernel)) ggX9_film_X9_isHead
set_option maxRecDepth 20000 in
theorem ggX9_film_X9_within : GoodIn wsX9_film wsX9_within := goodIn_r _ [16] rfl (by decide +kernel)
set_option maxRecDepth 20000 in
theorem gX9_film_X9_within : GoodIn wsX9_film (va_wsS RX9 204 yX9_within wsX9_within) := goodIn_app (goodIn_of _ (by decide +kernel)) ggX9_film_X9_within
set_option maxRecDepth 20000 in
theorem ggX9_film_X9_laysBut : GoodIn wsX9_film wsX9_laysBut := goodIn_r _ [20, 21, 1, 22, 79, 80, 81, 82, 83, 84, 85, 86, 87, 88, 89, 90, 91, 92, 93, 94, 95, 96, 97, 98, 99, 100, 101, 102, 103, 104, 105, 106, 107, 108, 109, 110, 111, 112, 113, 114, 115, 116, 117, 118, 119] rfl (by decide +kernel)
set_option maxRecDepth 20000 in
theorem gX9_film_X9_laysBut : GoodIn wsX9_film (wsV RX9 98 RX9 yX9_laysBut wsX9_laysBut) := goodIn_app (goodIn_of _ (by decide +kernel)) ggX9_film_X9_laysBut
set_option maxRecDepth 20000 in
theorem ggX9_film_X9_saysOf : GoodIn wsX9_film wsX9_saysOf := goodIn_r _ [26, 21, 27, 28, 29, 30, 31, 32, 33, 34, 7, 35, 22, 36, 37, 38, 39, 40, 41, 42, 43, 44, 45, 46, 47, 48, 49, 50, 51, 52, 53, 54, 55, 56, 57, 58, 59, 60, 61, 62, 1, 63, 64, 65, 66, 67, 68, 69, 70, 71, 72, 73, 74, 75, 76, 77, 78, 14, 15, 16, 79, 80, 81, 82, 83, 84, 85, 86, 87, 88, 89, 90, 91, 92, 93, 94, 95, 96, 97, 98, 99, 100, 101, 102, 103, 104, 105, 106, 107, 108, 109, 110, 111, 112, 113, 114, 115, 116, 117, 118, 119] rfl (by decide +kernel)
set_option maxRecDepth 20000 in
theorem gX9_film_X9_saysOf : GoodIn wsX9_film (wsV RX9 240 RX9 yX9_saysOf wsX9_saysOf) := goodIn_app (goodIn_of _ (by decide +kernel)) ggX9_film_X9_saysOf
theorem dX9_film_0 : decode cX9_film 0 = .ok (.iload_n 1, 1) := by decide +kernel
theorem dX9_film_1 : decode cX9_film 1 = .ok (.iconst 0, 1) := by decide +kernel
theorem dX9_film_2 : decode cX9_film 2 = .ok (.iconst 3, 1) := by decide +kernel
theorem dX9_film_3 : decode cX9_film 3 = .ok (.invokestatic 78, 3) := by decide +kernel
theorem dX9_film_6 : decode cX9_film 6 = .ok (.ifCond .ne 6, 3) := by decide +kernel
theorem dX9_film_9 : decode cX9_film 9 = .ok (.bipush (-2), 2) := by decide +kernel
theorem dX9_film_11 : decode cX9_film 11 = .ok (.ireturn, 1) := by decide +kernel
theorem dX9_film_12 : decode cX9_film 12 = .ok (.aload_n 0, 1) := by decide +kernel
theorem dX9_film_13 : decode cX9_film 13 = .ok (.iload_n 2, 1) := by decide +kernel
theorem dX9_film_14 : decode cX9_film 14 = .ok (.invokevirtual 207, 3) := by decide +kernel
theorem dX9_film_17 : decode cX9_film 17 = .ok (.ifCond .ne 6, 3) := by decide +kernel
theorem dX9_film_20 : decode cX9_film 20 = .ok (.bipush (-5), 2) := by decide +kernel
theorem dX9_film_22 : decode cX9_film 22 = .ok (.ireturn, 1) := by decide +kernel
theorem dX9_film_23 : decode cX9_film 23 = .ok (.iload_n 3, 1) := by decide +kernel
theorem dX9_film_24 : decode cX9_film 24 = .ok (.iconst 0, 1) := by decide +kernel
theorem dX9_film_25 : decode cX9_film 25 = .ok (.aload_n 0, 1) := by decide +kernel
theorem dX9_film_26 : decode cX9_film 26 = .ok (.getfield 7, 3) := by decide +kernel
theorem dX9_film_29 : decode cX9_film 29 = .ok (.iconst 0, 1) := by decide +kernel
theorem dX9_film_30 : decode cX9_film 30 = .ok (.bipush 40, 2) := by decide +kernel
theorem dX9_film_32 : decode cX9_film 32 = .ok (.invokestatic 204, 3) := by decide +kernel
theorem dX9_film_35 : decode cX9_film 35 = .ok (.invokestatic 78, 3) := by decide +kernel
theorem dX9_film_38 : decode cX9_film 38 = .ok (.ifCond .ne 6, 3) := by decide +kernel
theorem dX9_film_41 : decode cX9_film 41 = .ok (.bipush (-7), 2) := by decide +kernel
theorem dX9_film_43 : decode cX9_film 43 = .ok (.ireturn, 1) := by decide +kernel
theorem dX9_film_44 : decode cX9_film 44 = .ok (.aload_n 0, 1) := by decide +kernel
theorem dX9_film_45 : decode cX9_film 45 = .ok (.getfield 41, 3) := by decide +kernel
theorem dX9_film_48 : decode cX9_film 48 = .ok (.iload_n 1, 1) := by decide +kernel
theorem dX9_film_49 : decode cX9_film 49 = .ok (.iconst 2, 1) := by decide +kernel
theorem dX9_film_50 : decode cX9_film 50 = .ok (.iastore, 1) := by decide +kernel
theorem dX9_film_51 : decode cX9_film 51 = .ok (.aload_n 0, 1) := by decide +kernel
theorem dX9_film_52 : decode cX9_film 52 = .ok (.getfield 44, 3) := by decide +kernel
theorem dX9_film_55 : decode cX9_film 55 = .ok (.iload_n 1, 1) := by decide +kernel
theorem dX9_film_56 : decode cX9_film 56 = .ok (.iload_n 3, 1) := by decide +kernel
theorem dX9_film_57 : decode cX9_film 57 = .ok (.iastore, 1) := by decide +kernel
theorem dX9_film_58 : decode cX9_film 58 = .ok (.iconst 0, 1) := by decide +kernel
theorem dX9_film_59 : decode cX9_film 59 = .ok (.istore 4, 2) := by decide +kernel
theorem dX9_film_61 : decode cX9_film 61 = .ok (.iload 4, 2) := by decide +kernel
theorem dX9_film_63 : decode cX9_film 63 = .ok (.bipush 40, 2) := by decide +kernel
theorem dX9_film_65 : decode cX9_film 65 = .ok (.if_icmp .ge 48, 3) := by decide +kernel
theorem dX9_film_68 : decode cX9_film 68 = .ok (.iconst 0, 1) := by decide +kernel
theorem dX9_film_69 : decode cX9_film 69 = .ok (.istore 5, 2) := by decide +kernel
theorem dX9_film_71 : decode cX9_film 71 = .ok (.iload 4, 2) := by decide +kernel
theorem dX9_film_73 : decode cX9_film 73 = .ok (.iload_n 3, 1) := by decide +kernel
theorem dX9_film_74 : decode cX9_film 74 = .ok (.if_icmp .ge 19, 3) := by decide +kernel
theorem dX9_film_77 : decode cX9_film 77 = .ok (.aload_n 0, 1) := by decide +kernel
theorem dX9_film_78 : decode cX9_film 78 = .ok (.iload 4, 2) := by decide +kernel
theorem dX9_film_80 : decode cX9_film 80 = .ok (.iconst 1, 1) := by decide +kernel
theorem dX9_film_81 : decode cX9_film 81 = .ok (.iadd, 1) := by decide +kernel
theorem dX9_film_82 : decode cX9_film 82 = .ok (.iconst 0, 1) := by decide +kernel
theorem dX9_film_83 : decode cX9_film 83 = .ok (.invokevirtual 98, 3) := by decide +kernel
theorem dX9_film_86 : decode cX9_film 86 = .ok (.aload_n 0, 1) := by decide +kernel
theorem dX9_film_87 : decode cX9_film 87 = .ok (.iload_n 2, 1) := by decide +kernel
theorem dX9_film_88 : decode cX9_film 88 = .ok (.invokevirtual 240, 3) := by decide +kernel
theorem dX9_film_91 : decode cX9_film 91 = .ok (.istore 5, 2) := by decide +kernel
theorem dX9_film_93 : decode cX9_film 93 = .ok (.aload_n 0, 1) := by decide +kernel
theorem dX9_film_94 : decode cX9_film 94 = .ok (.getfield 47, 3) := by decide +kernel
theorem dX9_film_97 : decode cX9_film 97 = .ok (.bipush 40, 2) := by decide +kernel
theorem dX9_film_99 : decode cX9_film 99 = .ok (.iload_n 1, 1) := by decide +kernel
theorem dX9_film_100 : decode cX9_film 100 = .ok (.imul, 1) := by decide +kernel
theorem dX9_film_101 : decode cX9_film 101 = .ok (.iload 4, 2) := by decide +kernel
theorem dX9_film_103 : decode cX9_film 103 = .ok (.iadd, 1) := by decide +kernel
theorem dX9_film_104 : decode cX9_film 104 = .ok (.iload 5, 2) := by decide +kernel
theorem dX9_film_106 : decode cX9_film 106 = .ok (.iastore, 1) := by decide +kernel
theorem dX9_film_107 : decode cX9_film 107 = .ok (.iinc 4 1, 3) := by decide +kernel
theorem dX9_film_110 : decode cX9_film 110 = .ok (.goto (-49), 3) := by decide +kernel
theorem dX9_film_113 : decode cX9_film 113 = .ok (.iload_n 3, 1) := by decide +kernel
theorem dX9_film_114 : decode cX9_film 114 = .ok (.ireturn, 1) := by decide +kernel
set_option maxRecDepth 20000 in
theorem ggX9_lots_X9_laysBut : GoodIn wsX9_lots wsX9_laysBut := goodIn_r _ [10, 4, 3, 5, 11, 12, 13, 14, 15, 16, 17, 18, 19, 20, 21, 22, 23, 24, 25, 26, 27, 28, 29, 30, 31, 32, 33, 34, 35, 36, 37, 38, 39, 40, 41, 42, 43, 44, 45, 46, 47, 48, 49, 50, 51] rfl (by decide +kernel)
set_option maxRecDepth 20000 in
theorem gX9_lots_X9_laysBut : GoodIn wsX9_lots (wsV RX9 98 RX9 yX9_laysBut wsX9_laysBut) := goodIn_app (goodIn_of _ (by decide +kernel)) ggX9_lots_X9_laysBut
theorem dX9_lots_0 : decode cX9_lots 0 = .ok (.iload_n 1, 1) := by decide +kernel
theorem dX9_lots_1 : decode cX9_lots 1 = .ok (.i2l, 1) := by decide +kernel
theorem dX9_lots_2 : decode cX9_lots 2 = .ok (.lconst 1, 1) := by decide +kernel
theorem dX9_lots_3 : decode cX9_lots 3 = .ok (.ladd, 1) := by decide +kernel
theorem dX9_lots_4 : decode cX9_lots 4 = .ok (.ldc2_w 278, 3) := by decide +kernel
theorem dX9_lots_7 : decode cX9_lots 7 = .ok (.lmul, 1) := by decide +kernel
theorem dX9_lots_8 : decode cX9_lots 8 = .ok (.ldc2_w 280, 3) := by decide +kernel
theorem dX9_lots_11 : decode cX9_lots 11 = .ok (.lrem, 1) := by decide +kernel
theorem dX9_lots_12 : decode cX9_lots 12 = .ok (.lstore_n 2, 1) := by decide +kernel
theorem dX9_lots_13 : decode cX9_lots 13 = .ok (.lload_n 2, 1) := by decide +kernel
theorem dX9_lots_14 : decode cX9_lots 14 = .ok (.aload_n 0, 1) := by decide +kernel
theorem dX9_lots_15 : decode cX9_lots 15 = .ok (.getfield 7, 3) := by decide +kernel
theorem dX9_lots_18 : decode cX9_lots 18 = .ok (.i2l, 1) := by decide +kernel
theorem dX9_lots_19 : decode cX9_lots 19 = .ok (.lrem, 1) := by decide +kernel
theorem dX9_lots_20 : decode cX9_lots 20 = .ok (.l2i, 1) := by decide +kernel
theorem dX9_lots_21 : decode cX9_lots 21 = .ok (.iconst 1, 1) := by decide +kernel
theorem dX9_lots_22 : decode cX9_lots 22 = .ok (.iadd, 1) := by decide +kernel
theorem dX9_lots_23 : decode cX9_lots 23 = .ok (.istore 4, 2) := by decide +kernel
theorem dX9_lots_25 : decode cX9_lots 25 = .ok (.aload_n 0, 1) := by decide +kernel
theorem dX9_lots_26 : decode cX9_lots 26 = .ok (.iload 4, 2) := by decide +kernel
theorem dX9_lots_28 : decode cX9_lots 28 = .ok (.iconst 0, 1) := by decide +kernel
theorem dX9_lots_29 : decode cX9_lots 29 = .ok (.invokevirtual 98, 3) := by decide +kernel
theorem dX9_lots_32 : decode cX9_lots 32 = .ok (.aload_n 0, 1) := by decide +kernel
theorem dX9_lots_33 : decode cX9_lots 33 = .ok (.getfield 102, 3) := by decide +kernel
theorem dX9_lots_36 : decode cX9_lots 36 = .ok (.iconst 1, 1) := by decide +kernel
theorem dX9_lots_37 : decode cX9_lots 37 = .ok (.isub, 1) := by decide +kernel
theorem dX9_lots_38 : decode cX9_lots 38 = .ok (.istore 5, 2) := by decide +kernel
theorem dX9_lots_40 : decode cX9_lots 40 = .ok (.iload 5, 2) := by decide +kernel
theorem dX9_lots_42 : decode cX9_lots 42 = .ok (.ifCond .le 61, 3) := by decide +kernel
theorem dX9_lots_45 : decode cX9_lots 45 = .ok (.lload_n 2, 1) := by decide +kernel
theorem dX9_lots_46 : decode cX9_lots 46 = .ok (.ldc2_w 278, 3) := by decide +kernel
theorem dX9_lots_49 : decode cX9_lots 49 = .ok (.lmul, 1) := by decide +kernel
theorem dX9_lots_50 : decode cX9_lots 50 = .ok (.ldc2_w 280, 3) := by decide +kernel
theorem dX9_lots_53 : decode cX9_lots 53 = .ok (.lrem, 1) := by decide +kernel
theorem dX9_lots_54 : decode cX9_lots 54 = .ok (.lstore_n 2, 1) := by decide +kernel
theorem dX9_lots_55 : decode cX9_lots 55 = .ok (.lload_n 2, 1) := by decide +kernel
theorem dX9_lots_56 : decode cX9_lots 56 = .ok (.iload 5, 2) := by decide +kernel
theorem dX9_lots_58 : decode cX9_lots 58 = .ok (.iconst 1, 1) := by decide +kernel
theorem dX9_lots_59 : decode cX9_lots 59 = .ok (.iadd, 1) := by decide +kernel
theorem dX9_lots_60 : decode cX9_lots 60 = .ok (.i2l, 1) := by decide +kernel
theorem dX9_lots_61 : decode cX9_lots 61 = .ok (.lrem, 1) := by decide +kernel
theorem dX9_lots_62 : decode cX9_lots 62 = .ok (.l2i, 1) := by decide +kernel
theorem dX9_lots_63 : decode cX9_lots 63 = .ok (.istore 6, 2) := by decide +kernel
theorem dX9_lots_65 : decode cX9_lots 65 = .ok (.aload_n 0, 1) := by decide +kernel
theorem dX9_lots_66 : decode cX9_lots 66 = .ok (.getfield 65, 3) := by decide +kernel
theorem dX9_lots_69 : decode cX9_lots 69 = .ok (.iload 5, 2) := by decide +kernel
theorem dX9_lots_71 : decode cX9_lots 71 = .ok (.iaload, 1) := by decide +kernel
theorem dX9_lots_72 : decode cX9_lots 72 = .ok (.istore 7, 2) := by decide +kernel
theorem dX9_lots_74 : decode cX9_lots 74 = .ok (.aload_n 0, 1) := by decide +kernel
theorem dX9_lots_75 : decode cX9_lots 75 = .ok (.getfield 65, 3) := by decide +kernel
theorem dX9_lots_78 : decode cX9_lots 78 = .ok (.iload 5, 2) := by decide +kernel
theorem dX9_lots_80 : decode cX9_lots 80 = .ok (.aload_n 0, 1) := by decide +kernel
theorem dX9_lots_81 : decode cX9_lots 81 = .ok (.getfield 65, 3) := by decide +kernel
theorem dX9_lots_84 : decode cX9_lots 84 = .ok (.iload 6, 2) := by decide +kernel
theorem dX9_lots_86 : decode cX9_lots 86 = .ok (.iaload, 1) := by decide +kernel
theorem dX9_lots_87 : decode cX9_lots 87 = .ok (.iastore, 1) := by decide +kernel
theorem dX9_lots_88 : decode cX9_lots 88 = .ok (.aload_n 0, 1) := by decide +kernel
theorem dX9_lots_89 : decode cX9_lots 89 = .ok (.getfield 65, 3) := by decide +kernel
theorem dX9_lots_92 : decode cX9_lots 92 = .ok (.iload 6, 2) := by decide +kernel
theorem dX9_lots_94 : decode cX9_lots 94 = .ok (.iload 7, 2) := by decide +kernel
theorem dX9_lots_96 : decode cX9_lots 96 = .ok (.iastore, 1) := by decide +kernel
theorem dX9_lots_97 : decode cX9_lots 97 = .ok (.iinc 5 (-1), 3) := by decide +kernel
theorem dX9_lots_100 : decode cX9_lots 100 = .ok (.goto (-60), 3) := by decide +kernel
theorem dX9_lots_103 : decode cX9_lots 103 = .ok (.iload 4, 2) := by decide +kernel
theorem dX9_lots_105 : decode cX9_lots 105 = .ok (.ireturn, 1) := by decide +kernel
set_option maxRecDepth 20000 in
theorem ggX9_drawn_X9_isHead : GoodIn wsX9_drawn wsX9_isHead := goodIn_r _ [8, 9, 10, 11, 7, 12, 85, 86, 87, 88, 89, 90, 91, 92, 93, 94, 95, 96, 97, 98, 99, 100, 101, 102, 103, 104, 105, 106, 107, 108, 109, 110, 111, 112, 113, 114, 115, 116, 117, 118, 119, 120, 121, 122, 123, 124, 125] rfl (by decide +kernel)
set_option maxRecDepth 20000 in
theorem gX9_drawn_X9_isHead : GoodIn wsX9_drawn (wsV RX9 207 RX9 yX9_isHead wsX9_isHead) := goodIn_app (goodIn_of _ (by decide +kernel)) ggX9_drawn_X9_isHead
set_option maxRecDepth 20000 in
theorem ggX9_drawn_X9_in : GoodIn wsX9_drawn wsX9_in := goodIn_r _ [12] rfl (by decide +kernel)
set_option maxRecDepth 20000 in
theorem gX9_drawn_X9_in : GoodIn wsX9_drawn (va_wsS RX9 78 yX9_in wsX9_in) := goodIn_app (goodIn_of _ (by decide +kernel)) ggX9_drawn_X9_in
set_option maxRecDepth 20000 in
theorem ggX9_drawn_X9_lots : GoodIn wsX9_drawn wsX9_lots := goodIn_r _ [16, 17, 18, 19, 20, 21, 22, 23, 24, 7, 25, 85, 86, 87, 88, 89, 90, 91, 92, 93, 94, 95, 96, 97, 98, 99, 100, 101, 102, 103, 104, 105, 106, 107, 108, 109, 110, 111, 112, 113, 114, 115, 116, 117, 118, 119, 120, 121, 122, 123, 124, 125] rfl (by decide +kernel)
set_option maxRecDepth 20000 in
theorem gX9_drawn_X9_lots : GoodIn wsX9_drawn (wsV RX9 283 RX9 yX9_lots wsX9_lots) := goodIn_app (goodIn_of _ (by decide +kernel)) ggX9_drawn_X9_lots
set_option maxRecDepth 20000 in
theorem ggX9_drawn_X9_saysOf : GoodIn wsX9_drawn wsX9_saysOf := goodIn_r _ [29, 20, 30, 31, 32, 33, 34, 35, 36, 37, 7, 38, 21, 39, 40, 41, 42, 43, 44, 45, 46, 47, 48, 49, 50, 51, 52, 53, 54, 55, 56, 57, 58, 59, 60, 61, 62, 63, 64, 65, 19, 66, 67, 68, 69, 70, 71, 72, 73, 74, 75, 76, 77, 78, 79, 80, 81, 82, 83, 84, 85, 86, 87, 88, 89, 90, 91, 92, 93, 94, 95, 96, 97, 98, 99, 100, 101, 102, 103, 104, 105, 106, 107, 108, 109, 110, 111, 112, 113, 114, 115, 116, 117, 118, 119, 120, 121, 122, 123, 124, 125] rfl (by decide +kernel)
set_option maxRecDepth 20000 in
theorem gX9_drawn_X9_saysOf : GoodIn wsX9_drawn (wsV RX9 240 RX9 yX9_saysOf wsX9_saysOf) := goodIn_app (goodIn_of _ (by decide +kernel)) ggX9_drawn_X9_saysOf
theorem dX9_drawn_0 : decode cX9_drawn 0 = .ok (.aload_n 0, 1) := by decide +kernel
theorem dX9_drawn_1 : decode cX9_drawn 1 = .ok (.iload_n 2, 1) := by decide +kernel
theorem dX9_drawn_2 : decode cX9_drawn 2 = .ok (.invokevirtual 207, 3) := by decide +kernel
theorem dX9_drawn_5 : decode cX9_drawn 5 = .ok (.ifCond .ne 6, 3) := by decide +kernel
theorem dX9_drawn_8 : decode cX9_drawn 8 = .ok (.ldc 239, 2) := by decide +kernel
theorem dX9_drawn_10 : decode cX9_drawn 10 = .ok (.ireturn, 1) := by decide +kernel
theorem dX9_drawn_11 : decode cX9_drawn 11 = .ok (.iload_n 1, 1) := by decide +kernel
theorem dX9_drawn_12 : decode cX9_drawn 12 = .ok (.iconst 0, 1) := by decide +kernel
theorem dX9_drawn_13 : decode cX9_drawn 13 = .ok (.ldc_w 282, 3) := by decide +kernel
theorem dX9_drawn_16 : decode cX9_drawn 16 = .ok (.invokestatic 78, 3) := by decide +kernel
theorem dX9_drawn_19 : decode cX9_drawn 19 = .ok (.ifCond .eq 12, 3) := by decide +kernel
theorem dX9_drawn_22 : decode cX9_drawn 22 = .ok (.iload_n 3, 1) := by decide +kernel
theorem dX9_drawn_23 : decode cX9_drawn 23 = .ok (.iconst 0, 1) := by decide +kernel
theorem dX9_drawn_24 : decode cX9_drawn 24 = .ok (.iconst 1, 1) := by decide +kernel
theorem dX9_drawn_25 : decode cX9_drawn 25 = .ok (.invokestatic 78, 3) := by decide +kernel
theorem dX9_drawn_28 : decode cX9_drawn 28 = .ok (.ifCond .ne 7, 3) := by decide +kernel
theorem dX9_drawn_31 : decode cX9_drawn 31 = .ok (.ldc_w 265, 3) := by decide +kernel
theorem dX9_drawn_34 : decode cX9_drawn 34 = .ok (.ireturn, 1) := by decide +kernel
theorem dX9_drawn_35 : decode cX9_drawn 35 = .ok (.aload_n 0, 1) := by decide +kernel
theorem dX9_drawn_36 : decode cX9_drawn 36 = .ok (.iload_n 1, 1) := by decide +kernel
theorem dX9_drawn_37 : decode cX9_drawn 37 = .ok (.invokevirtual 283, 3) := by decide +kernel
theorem dX9_drawn_40 : decode cX9_drawn 40 = .ok (.istore 4, 2) := by decide +kernel
theorem dX9_drawn_42 : decode cX9_drawn 42 = .ok (.iload_n 3, 1) := by decide +kernel
theorem dX9_drawn_43 : decode cX9_drawn 43 = .ok (.ifCond .ne 8, 3) := by decide +kernel
theorem dX9_drawn_46 : decode cX9_drawn 46 = .ok (.iload 4, 2) := by decide +kernel
theorem dX9_drawn_48 : decode cX9_drawn 48 = .ok (.goto 8, 3) := by decide +kernel
theorem dX9_drawn_51 : decode cX9_drawn 51 = .ok (.aload_n 0, 1) := by decide +kernel
theorem dX9_drawn_52 : decode cX9_drawn 52 = .ok (.iload_n 2, 1) := by decide +kernel
theorem dX9_drawn_53 : decode cX9_drawn 53 = .ok (.invokevirtual 240, 3) := by decide +kernel
theorem dX9_drawn_56 : decode cX9_drawn 56 = .ok (.ireturn, 1) := by decide +kernel
theorem dX9_lowest_0 : decode cX9_lowest 0 = .ok (.lload_n 0, 1) := by decide +kernel
theorem dX9_lowest_1 : decode cX9_lowest 1 = .ok (.lconst 0, 1) := by decide +kernel
theorem dX9_lowest_2 : decode cX9_lowest 2 = .ok (.lcmp, 1) := by decide +kernel
theorem dX9_lowest_3 : decode cX9_lowest 3 = .ok (.ifCond .ne 7, 3) := by decide +kernel
theorem dX9_lowest_6 : decode cX9_lowest 6 = .ok (.iload 4, 2) := by decide +kernel
theorem dX9_lowest_8 : decode cX9_lowest 8 = .ok (.i2l, 1) := by decide +kernel
theorem dX9_lowest_9 : decode cX9_lowest 9 = .ok (.lreturn, 1) := by decide +kernel
theorem dX9_lowest_10 : decode cX9_lowest 10 = .ok (.lload_n 0, 1) := by decide +kernel
theorem dX9_lowest_11 : decode cX9_lowest 11 = .ok (.lstore 5, 2) := by decide +kernel
theorem dX9_lowest_13 : decode cX9_lowest 13 = .ok (.lload_n 2, 1) := by decide +kernel
theorem dX9_lowest_14 : decode cX9_lowest 14 = .ok (.lstore 7, 2) := by decide +kernel
theorem dX9_lowest_16 : decode cX9_lowest 16 = .ok (.lload 7, 2) := by decide +kernel
theorem dX9_lowest_18 : decode cX9_lowest 18 = .ok (.lconst 0, 1) := by decide +kernel
theorem dX9_lowest_19 : decode cX9_lowest 19 = .ok (.lcmp, 1) := by decide +kernel
theorem dX9_lowest_20 : decode cX9_lowest 20 = .ok (.ifCond .eq 21, 3) := by decide +kernel
theorem dX9_lowest_23 : decode cX9_lowest 23 = .ok (.lload 5, 2) := by decide +kernel
theorem dX9_lowest_25 : decode cX9_lowest 25 = .ok (.lload 7, 2) := by decide +kernel
theorem dX9_lowest_27 : decode cX9_lowest 27 = .ok (.lrem, 1) := by decide +kernel
theorem dX9_lowest_28 : decode cX9_lowest 28 = .ok (.lstore 9, 2) := by decide +kernel
theorem dX9_lowest_30 : decode cX9_lowest 30 = .ok (.lload 7, 2) := by decide +kernel
theorem dX9_lowest_32 : decode cX9_lowest 32 = .ok (.lstore 5, 2) := by decide +kernel
theorem dX9_lowest_34 : decode cX9_lowest 34 = .ok (.lload 9, 2) := by decide +kernel
theorem dX9_lowest_36 : decode cX9_lowest 36 = .ok (.lstore 7, 2) := by decide +kernel
theorem dX9_lowest_38 : decode cX9_lowest 38 = .ok (.goto (-22), 3) := by decide +kernel
theorem dX9_lowest_41 : decode cX9_lowest 41 = .ok (.iload 4, 2) := by decide +kernel
theorem dX9_lowest_43 : decode cX9_lowest 43 = .ok (.ifCond .ne 7, 3) := by decide +kernel
theorem dX9_lowest_46 : decode cX9_lowest 46 = .ok (.lload_n 0, 1) := by decide +kernel
theorem dX9_lowest_47 : decode cX9_lowest 47 = .ok (.goto 4, 3) := by decide +kernel
theorem dX9_lowest_50 : decode cX9_lowest 50 = .ok (.lload_n 2, 1) := by decide +kernel
theorem dX9_lowest_51 : decode cX9_lowest 51 = .ok (.lload 5, 2) := by decide +kernel
theorem dX9_lowest_53 : decode cX9_lowest 53 = .ok (.ldiv, 1) := by decide +kernel
theorem dX9_lowest_54 : decode cX9_lowest 54 = .ok (.lreturn, 1) := by decide +kernel
set_option maxRecDepth 20000 in
theorem ggX9_odds_X9_in : GoodIn wsX9_odds wsX9_in := goodIn_r _ [6] rfl (by decide +kernel)
set_option maxRecDepth 20000 in
theorem gX9_odds_X9_in : GoodIn wsX9_odds (va_wsS RX9 78 yX9_in wsX9_in) := goodIn_app (goodIn_of _ (by decide +kernel)) ggX9_odds_X9_in
set_option maxRecDepth 20000 in
theorem ggX9_odds_X9_isHead : GoodIn wsX9_odds wsX9_isHead := goodIn_r _ [10, 11, 3, 4, 5, 6, 87, 88, 89, 90, 91, 92, 93, 94, 95, 96, 97, 98, 99, 100, 101, 102, 103, 104, 105, 106, 107, 108, 109, 110, 111, 112, 113, 114, 115, 116, 117, 118, 119, 120, 121, 122, 123, 124, 125, 126, 127] rfl (by decide +kernel)
set_option maxRecDepth 20000 in
theorem gX9_odds_X9_isHead : GoodIn wsX9_odds (wsV RX9 207 RX9 yX9_isHead wsX9_isHead) := goodIn_app (goodIn_of _ (by decide +kernel)) ggX9_odds_X9_isHead
set_option maxRecDepth 20000 in
theorem ggX9_odds_X9_lots : GoodIn wsX9_odds wsX9_lots := goodIn_r _ [15, 16, 17, 18, 19, 20, 21, 22, 23, 5, 24, 87, 88, 89, 90, 91, 92, 93, 94, 95, 96, 97, 98, 99, 100, 101, 102, 103, 104, 105, 106, 107, 108, 109, 110, 111, 112, 113, 114, 115, 116, 117, 118, 119, 120, 121, 122, 123, 124, 125, 126, 127] rfl (by decide +kernel)
set_option maxRecDepth 20000 in
theorem gX9_odds_X9_lots : GoodIn wsX9_odds (wsV RX9 283 RX9 yX9_lots wsX9_lots) := goodIn_app (goodIn_of _ (by decide +kernel)) ggX9_odds_X9_lots
set_option maxRecDepth 20000 in
theorem ggX9_odds_X9_saysOf : GoodIn wsX9_odds wsX9_saysOf := goodIn_r _ [28, 19, 29, 30, 31, 32, 33, 34, 35, 36, 5, 37, 20, 38, 39, 40, 41, 42, 43, 44, 45, 46, 47, 48, 49, 50, 51, 52, 53, 54, 55, 56, 57, 58, 59, 60, 61, 62, 63, 64, 18, 65, 66, 67, 68, 69, 70, 71, 72, 73, 74, 75, 76, 77, 78, 79, 80, 81, 82, 83, 87, 88, 89, 90, 91, 92, 93, 94, 95, 96, 97, 98, 99, 100, 101, 102, 103, 104, 105, 106, 107, 108, 109, 110, 111, 112, 113, 114, 115, 116, 117, 118, 119, 120, 121, 122, 123, 124, 125, 126, 127] rfl (by decide +kernel)
set_option maxRecDepth 20000 in
theorem gX9_odds_X9_saysOf : GoodIn wsX9_odds (wsV RX9 240 RX9 yX9_saysOf wsX9_saysOf) := goodIn_app (goodIn_of _ (by decide +kernel)) ggX9_odds_X9_saysOf
set_option maxRecDepth 20000 in
theorem ggX9_odds_X9_lowest : GoodIn wsX9_odds wsX9_lowest := goodIn_r _ [86] rfl (by decide +kernel)
set_option maxRecDepth 20000 in
theorem gX9_odds_X9_lowest : GoodIn wsX9_odds (va_wsS RX9 286 yX9_lowest wsX9_lowest) := goodIn_app (goodIn_of _ (by decide +kernel)) ggX9_odds_X9_lowest
theorem dX9_odds_0 : decode cX9_odds 0 = .ok (.iload_n 1, 1) := by decide +kernel
theorem dX9_odds_1 : decode cX9_odds 1 = .ok (.iconst 0, 1) := by decide +kernel
theorem dX9_odds_2 : decode cX9_odds 2 = .ok (.ldc_w 282, 3) := by decide +kernel
theorem dX9_odds_5 : decode cX9_odds 5 = .ok (.invokestatic 78, 3) := by decide +kernel
theorem dX9_odds_8 : decode cX9_odds 8 = .ok (.ifCond .eq 31, 3) := by decide +kernel
theorem dX9_odds_11 : decode cX9_odds 11 = .ok (.iload_n 2, 1) := by decide +kernel
theorem dX9_odds_12 : decode cX9_odds 12 = .ok (.iconst 1, 1) := by decide +kernel
theorem dX9_odds_13 : decode cX9_odds 13 = .ok (.bipush 30, 2) := by decide +kernel
theorem dX9_odds_15 : decode cX9_odds 15 = .ok (.invokestatic 78, 3) := by decide +kernel
theorem dX9_odds_18 : decode cX9_odds 18 = .ok (.ifCond .eq 21, 3) := by decide +kernel
theorem dX9_odds_21 : decode cX9_odds 21 = .ok (.aload_n 0, 1) := by decide +kernel
theorem dX9_odds_22 : decode cX9_odds 22 = .ok (.iload_n 3, 1) := by decide +kernel
theorem dX9_odds_23 : decode cX9_odds 23 = .ok (.invokevirtual 207, 3) := by decide +kernel
theorem dX9_odds_26 : decode cX9_odds 26 = .ok (.ifCond .eq 13, 3) := by decide +kernel
theorem dX9_odds_29 : decode cX9_odds 29 = .ok (.iload 4, 2) := by decide +kernel
theorem dX9_odds_31 : decode cX9_odds 31 = .ok (.iconst 0, 1) := by decide +kernel
theorem dX9_odds_32 : decode cX9_odds 32 = .ok (.iconst 1, 1) := by decide +kernel
theorem dX9_odds_33 : decode cX9_odds 33 = .ok (.invokestatic 78, 3) := by decide +kernel
theorem dX9_odds_36 : decode cX9_odds 36 = .ok (.ifCond .ne 7, 3) := by decide +kernel
theorem dX9_odds_39 : decode cX9_odds 39 = .ok (.ldc2_w 247, 3) := by decide +kernel
theorem dX9_odds_42 : decode cX9_odds 42 = .ok (.lreturn, 1) := by decide +kernel
theorem dX9_odds_43 : decode cX9_odds 43 = .ok (.lconst 0, 1) := by decide +kernel
theorem dX9_odds_44 : decode cX9_odds 44 = .ok (.lstore 5, 2) := by decide +kernel
theorem dX9_odds_46 : decode cX9_odds 46 = .ok (.iconst 0, 1) := by decide +kernel
theorem dX9_odds_47 : decode cX9_odds 47 = .ok (.istore 7, 2) := by decide +kernel
theorem dX9_odds_49 : decode cX9_odds 49 = .ok (.iload 7, 2) := by decide +kernel
theorem dX9_odds_51 : decode cX9_odds 51 = .ok (.iload_n 2, 1) := by decide +kernel
theorem dX9_odds_52 : decode cX9_odds 52 = .ok (.if_icmp .ge 39, 3) := by decide +kernel
theorem dX9_odds_55 : decode cX9_odds 55 = .ok (.aload_n 0, 1) := by decide +kernel
theorem dX9_odds_56 : decode cX9_odds 56 = .ok (.iload_n 1, 1) := by decide +kernel
theorem dX9_odds_57 : decode cX9_odds 57 = .ok (.iload 7, 2) := by decide +kernel
theorem dX9_odds_59 : decode cX9_odds 59 = .ok (.iadd, 1) := by decide +kernel
theorem dX9_odds_60 : decode cX9_odds 60 = .ok (.invokevirtual 283, 3) := by decide +kernel
theorem dX9_odds_63 : decode cX9_odds 63 = .ok (.istore 8, 2) := by decide +kernel
theorem dX9_odds_65 : decode cX9_odds 65 = .ok (.lload 5, 2) := by decide +kernel
theorem dX9_odds_67 : decode cX9_odds 67 = .ok (.aload_n 0, 1) := by decide +kernel
theorem dX9_odds_68 : decode cX9_odds 68 = .ok (.iload_n 3, 1) := by decide +kernel
theorem dX9_odds_69 : decode cX9_odds 69 = .ok (.invokevirtual 240, 3) := by decide +kernel
theorem dX9_odds_72 : decode cX9_odds 72 = .ok (.iload 8, 2) := by decide +kernel
theorem dX9_odds_74 : decode cX9_odds 74 = .ok (.if_icmp .ne 7, 3) := by decide +kernel
theorem dX9_odds_77 : decode cX9_odds 77 = .ok (.lconst 1, 1) := by decide +kernel
