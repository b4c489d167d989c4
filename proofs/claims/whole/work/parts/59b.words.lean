/-! the law's words, on -/
set_option maxRecDepth 20000 in
theorem gw_wsX9_drop_r1 : GoodIn lw_tbl wsX9_drop_r1 := gq_r _ [(5, 214), (6, 59), (5, 189), (4, 202), (5, 202), (5, 204), (0, 97), (1, 14), (5, 205), (4, 203), (4, 161), (4, 162), (4, 163), (6, 60), (6, 62), (0, 110), (6, 63), (4, 236), (4, 235), (4, 201), (5, 215), (5, 217), (0, 98), (5, 218)] rfl (by decide +kernel)
set_option maxRecDepth 20000 in
theorem gw_wsX9_drop_r2 : GoodIn lw_tbl wsX9_drop_r2 := gq_r _ [(4, 237), (4, 238), (4, 205), (5, 190), (5, 219), (5, 221), (0, 99), (5, 222), (5, 223), (5, 225), (0, 100), (5, 226), (4, 206), (5, 227), (5, 229), (0, 101), (5, 230), (5, 231), (5, 233), (0, 102), (5, 234), (4, 204), (5, 235), (5, 237)] rfl (by decide +kernel)
set_option maxRecDepth 20000 in
theorem gw_wsX9_drop_r3 : GoodIn lw_tbl wsX9_drop_r3 := gq_r _ [(0, 103), (5, 238), (5, 239), (6, 1), (0, 104), (6, 2), (5, 178), (5, 180), (0, 95), (5, 181), (4, 234), (4, 200), (5, 182), (5, 184), (0, 96), (5, 185), (4, 210), (4, 212), (4, 209), (4, 172), (4, 233), (5, 186), (5, 187), (5, 188)] rfl (by decide +kernel)
set_option maxRecDepth 20000 in
theorem gw_wsX9_drop_r4 : GoodIn lw_tbl wsX9_drop_r4 := gq_r _ [(6, 3), (6, 5), (0, 105), (6, 6), (5, 191), (5, 192), (5, 193)] rfl (by decide +kernel)
set_option maxRecDepth 20000 in
theorem gw_wsX9_drop : GoodIn lw_tbl wsX9_drop := goodIn_ca2 (gq_r [.code yX9_drop cX9_drop 8 (some .int)] [(6, 58)] rfl (by decide +kernel)) (goodIn_app (goodIn_app (gw_wsX9_drop_r1) (goodIn_app (gw_wsX9_drop_r2) (goodIn_app (gw_wsX9_drop_r3) (gw_wsX9_drop_r4)))) (gw_wsX90))
set_option maxRecDepth 20000 in
theorem gw_wsX8_often_r1 : GoodIn lw_tbl wsX8_often_r1 := gq_r _ [(4, 4), (4, 13), (2, 130), (2, 129), (2, 131), (3, 111), (3, 113), (0, 44), (1, 1), (3, 114), (2, 141), (3, 207), (1, 2), (0, 58), (3, 208), (1, 34), (1, 31), (2, 188), (2, 190), (0, 22), (2, 191), (3, 124), (3, 126), (0, 45)] rfl (by decide +kernel)
set_option maxRecDepth 20000 in
theorem gw_wsX8_often_r2 : GoodIn lw_tbl wsX8_often_r2 := gq_r _ [(3, 127), (2, 135), (2, 140), (3, 53), (3, 55), (0, 35), (3, 56), (2, 143), (2, 134), (3, 130), (1, 5), (0, 46), (3, 131), (3, 132), (3, 134), (0, 47), (3, 135), (3, 136), (3, 59), (0, 36), (3, 60), (1, 114), (1, 111), (3, 139)] rfl (by decide +kernel)
set_option maxRecDepth 20000 in
theorem gw_wsX8_often_r3 : GoodIn lw_tbl wsX8_often_r3 := gq_r _ [(1, 3), (0, 48), (3, 140), (1, 55), (3, 141), (3, 63), (0, 37), (3, 64), (3, 144), (0, 49), (3, 145), (1, 50), (1, 52), (3, 146), (3, 148), (0, 50), (3, 149), (3, 150), (3, 152), (0, 51), (3, 153), (3, 156), (0, 52), (3, 157)] rfl (by decide +kernel)
set_option maxRecDepth 20000 in
theorem gw_wsX8_often_r4 : GoodIn lw_tbl wsX8_often_r4 := gq_r _ [(3, 158), (3, 67), (0, 38), (3, 68), (3, 75), (3, 77), (0, 40), (3, 78), (1, 113), (3, 81), (1, 8), (0, 41), (3, 82), (1, 178), (1, 176), (3, 85), (0, 42), (3, 86), (3, 87), (3, 89), (0, 43), (3, 90), (3, 91), (3, 92)] rfl (by decide +kernel)
set_option maxRecDepth 20000 in
theorem gw_wsX8_often_r5 : GoodIn lw_tbl wsX8_often_r5 := gq_r _ [(3, 93), (3, 161), (0, 53), (3, 162), (3, 163), (3, 71), (0, 39), (3, 72), (3, 73), (3, 74), (3, 94), (3, 95), (1, 15), (3, 96), (3, 97), (3, 98), (3, 99), (2, 226), (0, 26), (2, 227), (2, 228), (2, 230), (0, 27), (2, 231)] rfl (by decide +kernel)
set_option maxRecDepth 20000 in
theorem gw_wsX8_often_r6 : GoodIn lw_tbl wsX8_often_r6 := gq_r _ [(2, 232), (2, 218), (0, 25), (2, 219)] rfl (by decide +kernel)
set_option maxRecDepth 20000 in
theorem gw_wsX8_often : GoodIn lw_tbl wsX8_often := goodIn_ca2 (gq_r [.code yX8_often cX8_often 6 (some .int)] [(4, 12)] rfl (by decide +kernel)) (goodIn_app (goodIn_app (goodIn_app (goodIn_app (goodIn_app (goodIn_app (gw_wsX8_often_r1) (goodIn_app (gw_wsX8_often_r2) (goodIn_app (gw_wsX8_often_r3) (goodIn_app (gw_wsX8_often_r4) (goodIn_app (gw_wsX8_often_r5) (gw_wsX8_often_r6)))))) (gw_wsX80)) (gw_wsX40)) (gw_wsX00)) (gw_wsX70)) (gw_wsX60))
set_option maxRecDepth 20000 in
theorem gw_wsX9_often_r1 : GoodIn lw_tbl wsX9_often_r1 := gq_r _ [(5, 189), (5, 190), (5, 202), (5, 204), (0, 97), (1, 14), (5, 205), (4, 203), (4, 161), (4, 162), (4, 163), (5, 116), (5, 118), (0, 87), (5, 119), (4, 202), (4, 236), (4, 235), (4, 201), (5, 215), (5, 217), (0, 98), (5, 218), (4, 237)] rfl (by decide +kernel)
set_option maxRecDepth 20000 in
theorem gw_wsX9_often_r2 : GoodIn lw_tbl wsX9_often_r2 := gq_r _ [(4, 238), (4, 205), (5, 219), (5, 221), (0, 99), (5, 222), (5, 223), (5, 225), (0, 100), (5, 226), (4, 206), (5, 227), (5, 229), (0, 101), (5, 230), (5, 231), (5, 233), (0, 102), (5, 234), (4, 204), (5, 235), (5, 237), (0, 103), (5, 238)] rfl (by decide +kernel)
set_option maxRecDepth 20000 in
theorem gw_wsX9_often_r3 : GoodIn lw_tbl wsX9_often_r3 := gq_r _ [(5, 239), (6, 1), (0, 104), (6, 2), (5, 178), (5, 180), (0, 95), (5, 181), (4, 234), (4, 200), (5, 182), (5, 184), (0, 96), (5, 185), (4, 210), (4, 212), (4, 209), (4, 172), (4, 233), (5, 186), (5, 187), (5, 188), (6, 3), (6, 5)] rfl (by decide +kernel)
set_option maxRecDepth 20000 in
theorem gw_wsX9_often_r4 : GoodIn lw_tbl wsX9_often_r4 := gq_r _ [(0, 105), (6, 6), (5, 191), (5, 192), (5, 193), (5, 120), (5, 122), (0, 88), (5, 123)] rfl (by decide +kernel)
set_option maxRecDepth 20000 in
theorem gw_wsX9_often : GoodIn lw_tbl wsX9_often := goodIn_ca2 (gq_r [.code yX9_often cX9_often 6 (some .int)] [(6, 67)] rfl (by decide +kernel)) (goodIn_app (goodIn_app (gw_wsX9_often_r1) (goodIn_app (gw_wsX9_often_r2) (goodIn_app (gw_wsX9_often_r3) (gw_wsX9_often_r4)))) (gw_wsX90))
set_option maxRecDepth 20000 in
theorem gw_wsX8_who_r1 : GoodIn lw_tbl wsX8_who_r1 := gq_r _ [(2, 141), (2, 131), (3, 197), (3, 199), (0, 57), (1, 1), (3, 200), (2, 140), (3, 53), (3, 55), (0, 35), (3, 56), (2, 143), (2, 134), (3, 177), (3, 179), (0, 54), (3, 180), (2, 130), (2, 135), (2, 210), (1, 2), (0, 24), (2, 211)] rfl (by decide +kernel)
set_option maxRecDepth 20000 in
theorem gw_wsX8_who_r2 : GoodIn lw_tbl wsX8_who_r2 := gq_r _ [(1, 34), (2, 188), (2, 190), (0, 22), (2, 191), (1, 31), (3, 130), (1, 5), (0, 46), (3, 131), (3, 132), (3, 134), (0, 47), (3, 135), (3, 136), (3, 59), (0, 36), (3, 60), (1, 114), (1, 111), (3, 139), (1, 3), (0, 48), (3, 140)] rfl (by decide +kernel)
set_option maxRecDepth 20000 in
theorem gw_wsX8_who_r3 : GoodIn lw_tbl wsX8_who_r3 := gq_r _ [(1, 55), (3, 141), (3, 63), (0, 37), (3, 64), (3, 144), (0, 49), (3, 145), (1, 50), (1, 52), (3, 146), (3, 148), (0, 50), (3, 149), (3, 150), (3, 152), (0, 51), (3, 153), (3, 156), (0, 52), (3, 157), (3, 158), (3, 67), (0, 38)] rfl (by decide +kernel)
set_option maxRecDepth 20000 in
theorem gw_wsX8_who_r4 : GoodIn lw_tbl wsX8_who_r4 := gq_r _ [(3, 68), (3, 75), (3, 77), (0, 40), (3, 78), (1, 113), (3, 81), (1, 8), (0, 41), (3, 82), (1, 178), (1, 176), (3, 85), (0, 42), (3, 86), (3, 87), (3, 89), (0, 43), (3, 90), (3, 91), (3, 92), (3, 93), (3, 161), (0, 53)] rfl (by decide +kernel)
set_option maxRecDepth 20000 in
theorem gw_wsX8_who_r5 : GoodIn lw_tbl wsX8_who_r5 := gq_r _ [(3, 162), (3, 163), (3, 71), (0, 39), (3, 72), (3, 73), (3, 74), (3, 94), (3, 95), (1, 15), (3, 96), (3, 97), (3, 98), (3, 99)] rfl (by decide +kernel)
set_option maxRecDepth 20000 in
theorem gw_wsX8_who : GoodIn lw_tbl wsX8_who := goodIn_ca2 (gq_r [.code yX8_who cX8_who 6 (some .int)] [(4, 17)] rfl (by decide +kernel)) (goodIn_app (goodIn_app (goodIn_app (goodIn_app (goodIn_app (goodIn_app (gw_wsX8_who_r1) (goodIn_app (gw_wsX8_who_r2) (goodIn_app (gw_wsX8_who_r3) (goodIn_app (gw_wsX8_who_r4) (gw_wsX8_who_r5))))) (gw_wsX80)) (gw_wsX40)) (gw_wsX00)) (gw_wsX70)) (gw_wsX60))
set_option maxRecDepth 20000 in
theorem gw_wsX9_who_r1 : GoodIn lw_tbl wsX9_who_r1 := gq_r _ [(4, 203), (4, 161), (4, 162), (1, 14), (4, 163), (6, 15), (6, 17), (0, 106), (6, 18), (4, 200), (5, 104), (5, 106), (0, 86), (5, 107), (4, 236), (4, 235), (5, 215), (5, 217), (0, 98), (5, 218), (4, 237), (4, 238), (4, 205), (5, 189)] rfl (by decide +kernel)
set_option maxRecDepth 20000 in
theorem gw_wsX9_who_r2 : GoodIn lw_tbl wsX9_who_r2 := gq_r _ [(5, 190), (5, 219), (5, 221), (0, 99), (5, 222), (5, 223), (5, 225), (0, 100), (5, 226), (4, 206), (5, 227), (5, 229), (0, 101), (5, 230), (5, 231), (5, 233), (0, 102), (5, 234), (4, 204), (5, 235), (5, 237), (0, 103), (5, 238), (5, 239)] rfl (by decide +kernel)
set_option maxRecDepth 20000 in
theorem gw_wsX9_who_r3 : GoodIn lw_tbl wsX9_who_r3 := gq_r _ [(6, 1), (0, 104), (6, 2), (5, 178), (5, 180), (0, 95), (5, 181), (4, 234), (5, 182), (5, 184), (0, 96), (5, 185), (4, 210), (4, 212), (4, 209), (4, 172), (4, 233), (5, 186), (5, 187), (5, 188), (6, 3), (6, 5), (0, 105), (6, 6)] rfl (by decide +kernel)
set_option maxRecDepth 20000 in
theorem gw_wsX9_who_r4 : GoodIn lw_tbl wsX9_who_r4 := gq_r _ [(5, 191), (5, 192), (5, 193), (6, 24), (6, 25), (6, 26)] rfl (by decide +kernel)
set_option maxRecDepth 20000 in
theorem gw_wsX9_who : GoodIn lw_tbl wsX9_who := goodIn_ca2 (gq_r [.code yX9_who cX9_who 6 (some .int)] [(6, 71)] rfl (by decide +kernel)) (goodIn_app (goodIn_app (gw_wsX9_who_r1) (goodIn_app (gw_wsX9_who_r2) (goodIn_app (gw_wsX9_who_r3) (gw_wsX9_who_r4)))) (gw_wsX90))
set_option maxRecDepth 20000 in
theorem gw_wsX8_judge_r1 : GoodIn lw_tbl wsX8_judge_r1 := gq_r _ [(2, 138), (2, 131), (4, 22), (4, 24), (0, 65), (1, 1), (4, 25), (4, 26), (4, 28), (0, 66), (4, 29), (2, 140), (4, 30), (4, 31), (4, 32), (4, 35), (1, 9), (0, 67), (4, 36), (1, 195), (3, 111), (3, 113), (0, 44), (3, 114)] rfl (by decide +kernel)
set_option maxRecDepth 20000 in
theorem gw_wsX8_judge_r2 : GoodIn lw_tbl wsX8_judge_r2 := gq_r _ [(2, 141), (3, 53), (3, 55), (0, 35), (3, 56), (2, 143), (2, 134), (4, 37), (4, 39), (0, 68), (4, 40), (3, 177), (3, 179), (0, 54), (3, 180), (2, 130), (2, 135), (2, 210), (1, 2), (0, 24), (2, 211), (1, 34), (2, 188), (2, 190)] rfl (by decide +kernel)
set_option maxRecDepth 20000 in
theorem gw_wsX8_judge_r3 : GoodIn lw_tbl wsX8_judge_r3 := gq_r _ [(0, 22), (2, 191), (1, 31), (3, 130), (1, 5), (0, 46), (3, 131), (3, 132), (3, 134), (0, 47), (3, 135), (3, 136), (3, 59), (0, 36), (3, 60), (1, 114), (1, 111), (3, 139), (1, 3), (0, 48), (3, 140), (1, 55), (3, 141), (3, 63)] rfl (by decide +kernel)
set_option maxRecDepth 20000 in
theorem gw_wsX8_judge_r4 : GoodIn lw_tbl wsX8_judge_r4 := gq_r _ [(0, 37), (3, 64), (3, 144), (0, 49), (3, 145), (1, 50), (1, 52), (3, 146), (3, 148), (0, 50), (3, 149), (3, 150), (3, 152), (0, 51), (3, 153), (3, 156), (0, 52), (3, 157), (3, 158), (3, 67), (0, 38), (3, 68), (3, 75), (3, 77)] rfl (by decide +kernel)
set_option maxRecDepth 20000 in
theorem gw_wsX8_judge_r5 : GoodIn lw_tbl wsX8_judge_r5 := gq_r _ [(0, 40), (3, 78), (1, 113), (3, 81), (1, 8), (0, 41), (3, 82), (1, 178), (1, 176), (3, 85), (0, 42), (3, 86), (3, 87), (3, 89), (0, 43), (3, 90), (3, 91), (3, 92), (3, 93), (3, 161), (0, 53), (3, 162), (3, 163), (3, 71)] rfl (by decide +kernel)
set_option maxRecDepth 20000 in
theorem gw_wsX8_judge_r6 : GoodIn lw_tbl wsX8_judge_r6 := gq_r _ [(0, 39), (3, 72), (3, 73), (3, 74), (3, 94), (3, 95), (1, 15), (3, 96), (3, 97), (3, 98), (3, 99)] rfl (by decide +kernel)
set_option maxRecDepth 20000 in
theorem gw_wsX8_judge : GoodIn lw_tbl wsX8_judge := goodIn_ca2 (gq_r [.code yX8_judge cX8_judge 4 (some .int)] [(4, 21)] rfl (by decide +kernel)) (goodIn_app (goodIn_app (goodIn_app (goodIn_app (goodIn_app (goodIn_app (goodIn_app (gw_wsX8_judge_r1) (goodIn_app (gw_wsX8_judge_r2) (goodIn_app (gw_wsX8_judge_r3) (goodIn_app (gw_wsX8_judge_r4) (goodIn_app (gw_wsX8_judge_r5) (gw_wsX8_judge_r6)))))) (gw_wsX80)) (gw_wsX50)) (gw_wsX40)) (gw_wsX00)) (gw_wsX70)) (gw_wsX60))
set_option maxRecDepth 20000 in
theorem gw_wsX9_judge_r1 : GoodIn lw_tbl wsX9_judge_r1 := gq_r _ [(6, 76), (6, 78), (0, 111), (1, 14), (6, 79), (6, 80), (6, 82), (0, 112), (6, 83), (4, 220), (4, 221), (4, 200), (4, 161), (4, 162), (4, 163), (5, 202), (5, 204), (0, 97), (5, 205), (4, 203), (6, 84), (6, 86), (0, 113), (6, 87)] rfl (by decide +kernel)
set_option maxRecDepth 20000 in
theorem gw_wsX9_judge_r2 : GoodIn lw_tbl wsX9_judge_r2 := gq_r _ [(4, 222), (5, 104), (5, 106), (0, 86), (5, 107), (4, 236), (4, 235), (5, 215), (5, 217), (0, 98), (5, 218), (4, 237), (4, 238), (4, 205), (5, 189), (5, 190), (5, 219), (5, 221), (0, 99), (5, 222), (5, 223), (5, 225), (0, 100), (5, 226)] rfl (by decide +kernel)
set_option maxRecDepth 20000 in
theorem gw_wsX9_judge_r3 : GoodIn lw_tbl wsX9_judge_r3 := gq_r _ [(4, 206), (5, 227), (5, 229), (0, 101), (5, 230), (5, 231), (5, 233), (0, 102), (5, 234), (4, 204), (5, 235), (5, 237), (0, 103), (5, 238), (5, 239), (6, 1), (0, 104), (6, 2), (5, 178), (5, 180), (0, 95), (5, 181), (4, 234), (5, 182)] rfl (by decide +kernel)
set_option maxRecDepth 20000 in
theorem gw_wsX9_judge_r4 : GoodIn lw_tbl wsX9_judge_r4 := gq_r _ [(5, 184), (0, 96), (5, 185), (4, 210), (4, 212), (4, 209), (4, 172), (4, 233), (5, 186), (5, 187), (5, 188), (6, 3), (6, 5), (0, 105), (6, 6), (5, 191), (5, 192), (5, 193)] rfl (by decide +kernel)
set_option maxRecDepth 20000 in
theorem gw_wsX9_judge : GoodIn lw_tbl wsX9_judge := goodIn_ca2 (gq_r [.code yX9_judge cX9_judge 4 (some .int)] [(6, 75)] rfl (by decide +kernel)) (goodIn_app (goodIn_app (gw_wsX9_judge_r1) (goodIn_app (gw_wsX9_judge_r2) (goodIn_app (gw_wsX9_judge_r3) (gw_wsX9_judge_r4)))) (gw_wsX90))
set_option maxRecDepth 20000 in
theorem gw_wsX8_kinds_r1 : GoodIn lw_tbl wsX8_kinds_r1 := gq_r _ [(2, 132), (2, 131), (2, 138), (4, 22), (4, 24), (0, 65), (1, 1), (4, 25), (4, 26), (4, 28), (0, 66), (4, 29), (2, 140), (4, 30), (4, 31), (4, 32), (4, 35), (1, 9), (0, 67), (4, 36), (1, 195), (3, 111), (3, 113), (0, 44)] rfl (by decide +kernel)
set_option maxRecDepth 20000 in
theorem gw_wsX8_kinds_r2 : GoodIn lw_tbl wsX8_kinds_r2 := gq_r _ [(3, 114), (2, 141), (3, 187), (1, 3), (0, 55), (3, 188), (1, 50), (1, 52), (1, 55), (1, 57), (1, 60), (3, 53), (3, 55), (0, 35), (3, 56), (2, 143), (2, 134), (4, 37), (4, 39), (0, 68), (4, 40), (3, 177), (3, 179), (0, 54)] rfl (by decide +kernel)
set_option maxRecDepth 20000 in
theorem gw_wsX8_kinds_r3 : GoodIn lw_tbl wsX8_kinds_r3 := gq_r _ [(3, 180), (2, 130), (2, 135), (2, 210), (1, 2), (0, 24), (2, 211), (1, 34), (2, 188), (2, 190), (0, 22), (2, 191), (1, 31), (3, 130), (1, 5), (0, 46), (3, 131), (3, 132), (3, 134), (0, 47), (3, 135), (3, 136), (3, 59), (0, 36)] rfl (by decide +kernel)
set_option maxRecDepth 20000 in
theorem gw_wsX8_kinds_r4 : GoodIn lw_tbl wsX8_kinds_r4 := gq_r _ [(3, 60), (1, 114), (1, 111), (3, 139), (0, 48), (3, 140), (3, 141), (3, 63), (0, 37), (3, 64), (3, 144), (0, 49), (3, 145), (3, 146), (3, 148), (0, 50), (3, 149), (3, 150), (3, 152), (0, 51), (3, 153), (3, 156), (0, 52), (3, 157)] rfl (by decide +kernel)
set_option maxRecDepth 20000 in
theorem gw_wsX8_kinds_r5 : GoodIn lw_tbl wsX8_kinds_r5 := gq_r _ [(3, 158), (3, 67), (0, 38), (3, 68), (3, 75), (3, 77), (0, 40), (3, 78), (1, 113), (3, 81), (1, 8), (0, 41), (3, 82), (1, 178), (1, 176), (3, 85), (0, 42), (3, 86), (3, 87), (3, 89), (0, 43), (3, 90), (3, 91), (3, 92)] rfl (by decide +kernel)
set_option maxRecDepth 20000 in
theorem gw_wsX8_kinds_r6 : GoodIn lw_tbl wsX8_kinds_r6 := gq_r _ [(3, 93), (3, 161), (0, 53), (3, 162), (3, 163), (3, 71), (0, 39), (3, 72), (3, 73), (3, 74), (3, 94), (3, 95), (1, 15), (3, 96), (3, 97), (3, 98), (3, 99)] rfl (by decide +kernel)
set_option maxRecDepth 20000 in
theorem gw_wsX8_kinds : GoodIn lw_tbl wsX8_kinds := goodIn_ca2 (gq_r [.code yX8_kinds cX8_kinds 8 (some .int)] [(4, 44)] rfl (by decide +kernel)) (goodIn_app (goodIn_app (goodIn_app (goodIn_app (goodIn_app (goodIn_app (goodIn_app (gw_wsX8_kinds_r1) (goodIn_app (gw_wsX8_kinds_r2) (goodIn_app (gw_wsX8_kinds_r3) (goodIn_app (gw_wsX8_kinds_r4) (goodIn_app (gw_wsX8_kinds_r5) (gw_wsX8_kinds_r6)))))) (gw_wsX80)) (gw_wsX00)) (gw_wsX50)) (gw_wsX40)) (gw_wsX70)) (gw_wsX60))
set_option maxRecDepth 20000 in
theorem gw_wsX9_kinds_r1 : GoodIn lw_tbl wsX9_kinds_r1 := gq_r _ [(4, 204), (4, 205), (4, 206), (6, 76), (6, 78), (0, 111), (1, 14), (6, 79), (6, 80), (6, 82), (0, 112), (6, 83), (4, 220), (4, 221), (4, 200), (4, 161), (4, 162), (4, 163), (5, 202), (5, 204), (0, 97), (5, 205), (4, 203), (6, 84)] rfl (by decide +kernel)
set_option maxRecDepth 20000 in
theorem gw_wsX9_kinds_r2 : GoodIn lw_tbl wsX9_kinds_r2 := gq_r _ [(6, 86), (0, 113), (6, 87), (4, 222), (5, 104), (5, 106), (0, 86), (5, 107), (4, 236), (4, 235), (5, 215), (5, 217), (0, 98), (5, 218), (4, 237), (4, 238), (5, 189), (5, 190), (5, 219), (5, 221), (0, 99), (5, 222), (5, 223), (5, 225)] rfl (by decide +kernel)
set_option maxRecDepth 20000 in
theorem gw_wsX9_kinds_r3 : GoodIn lw_tbl wsX9_kinds_r3 := gq_r _ [(0, 100), (5, 226), (5, 227), (5, 229), (0, 101), (5, 230), (5, 231), (5, 233), (0, 102), (5, 234), (5, 235), (5, 237), (0, 103), (5, 238), (5, 239), (6, 1), (0, 104), (6, 2), (5, 178), (5, 180), (0, 95), (5, 181), (4, 234), (5, 182)] rfl (by decide +kernel)
set_option maxRecDepth 20000 in
theorem gw_wsX9_kinds_r4 : GoodIn lw_tbl wsX9_kinds_r4 := gq_r _ [(5, 184), (0, 96), (5, 185), (4, 210), (4, 212), (4, 209), (4, 172), (4, 233), (5, 186), (5, 187), (5, 188), (6, 3), (6, 5), (0, 105), (6, 6), (5, 191), (5, 192), (5, 193)] rfl (by decide +kernel)
set_option maxRecDepth 20000 in
theorem gw_wsX9_kinds : GoodIn lw_tbl wsX9_kinds := goodIn_ca2 (gq_r [.code yX9_kinds cX9_kinds 10 (some .int)] [(6, 91)] rfl (by decide +kernel)) (goodIn_app (goodIn_app (gw_wsX9_kinds_r1) (goodIn_app (gw_wsX9_kinds_r2) (goodIn_app (gw_wsX9_kinds_r3) (gw_wsX9_kinds_r4)))) (gw_wsX90))
set_option maxRecDepth 20000 in
theorem gw_wsX8_begins_r1 : GoodIn lw_tbl wsX8_begins_r1 := gq_r _ [(2, 132), (2, 131), (2, 138), (4, 22), (4, 24), (0, 65), (1, 1), (4, 25), (4, 26), (4, 28), (0, 66), (4, 29), (2, 140), (4, 30), (4, 31), (4, 32), (4, 35), (1, 9), (0, 67), (4, 36), (1, 195), (3, 111), (3, 113), (0, 44)] rfl (by decide +kernel)
set_option maxRecDepth 20000 in
theorem gw_wsX8_begins_r2 : GoodIn lw_tbl wsX8_begins_r2 := gq_r _ [(3, 114), (2, 141), (3, 187), (1, 3), (0, 55), (3, 188), (1, 50), (1, 52), (1, 55), (1, 57), (1, 60), (3, 53), (3, 55), (0, 35), (3, 56), (2, 143), (2, 134), (4, 37), (4, 39), (0, 68), (4, 40), (3, 177), (3, 179), (0, 54)] rfl (by decide +kernel)
set_option maxRecDepth 20000 in
theorem gw_wsX8_begins_r3 : GoodIn lw_tbl wsX8_begins_r3 := gq_r _ [(3, 180), (2, 130), (2, 135), (2, 210), (1, 2), (0, 24), (2, 211), (1, 34), (2, 188), (2, 190), (0, 22), (2, 191), (1, 31), (3, 130), (1, 5), (0, 46), (3, 131), (3, 132), (3, 134), (0, 47), (3, 135), (3, 136), (3, 59), (0, 36)] rfl (by decide +kernel)
set_option maxRecDepth 20000 in
theorem gw_wsX8_begins_r4 : GoodIn lw_tbl wsX8_begins_r4 := gq_r _ [(3, 60), (1, 114), (1, 111), (3, 139), (0, 48), (3, 140), (3, 141), (3, 63), (0, 37), (3, 64), (3, 144), (0, 49), (3, 145), (3, 146), (3, 148), (0, 50), (3, 149), (3, 150), (3, 152), (0, 51), (3, 153), (3, 156), (0, 52), (3, 157)] rfl (by decide +kernel)
set_option maxRecDepth 20000 in
theorem gw_wsX8_begins_r5 : GoodIn lw_tbl wsX8_begins_r5 := gq_r _ [(3, 158), (3, 67), (0, 38), (3, 68), (3, 75), (3, 77), (0, 40), (3, 78), (1, 113), (3, 81), (1, 8), (0, 41), (3, 82), (1, 178), (1, 176), (3, 85), (0, 42), (3, 86), (3, 87), (3, 89), (0, 43), (3, 90), (3, 91), (3, 92)] rfl (by decide +kernel)
set_option maxRecDepth 20000 in
theorem gw_wsX8_begins_r6 : GoodIn lw_tbl wsX8_begins_r6 := gq_r _ [(3, 93), (3, 161), (0, 53), (3, 162), (3, 163), (3, 71), (0, 39), (3, 72), (3, 73), (3, 74), (3, 94), (3, 95), (1, 15), (3, 96), (3, 97), (3, 98), (3, 99)] rfl (by decide +kernel)
set_option maxRecDepth 20000 in
theorem gw_wsX8_begins : GoodIn lw_tbl wsX8_begins := goodIn_ca2 (gq_r [.code yX8_begins cX8_begins 8 (some .int)] [(4, 48)] rfl (by decide +kernel)) (goodIn_app (goodIn_app (goodIn_app (goodIn_app (goodIn_app (goodIn_app (goodIn_app (gw_wsX8_begins_r1) (goodIn_app (gw_wsX8_begins_r2) (goodIn_app (gw_wsX8_begins_r3) (goodIn_app (gw_wsX8_begins_r4) (goodIn_app (gw_wsX8_begins_r5) (gw_wsX8_begins_r6)))))) (gw_wsX80)) (gw_wsX00)) (gw_wsX50)) (gw_wsX40)) (gw_wsX70)) (gw_wsX60))
set_option maxRecDepth 20000 in
theorem gw_wsX9_begins_r1 : GoodIn lw_tbl wsX9_begins_r1 := gq_r _ [(4, 206), (6, 76), (6, 78), (0, 111), (1, 14), (6, 79), (6, 80), (6, 82), (0, 112), (6, 83), (4, 220), (4, 221), (4, 200), (4, 161), (4, 162), (4, 163), (5, 202), (5, 204), (0, 97), (5, 205), (4, 203), (6, 84), (6, 86), (0, 113)] rfl (by decide +kernel)
set_option maxRecDepth 20000 in
theorem gw_wsX9_begins_r2 : GoodIn lw_tbl wsX9_begins_r2 := gq_r _ [(6, 87), (4, 222), (5, 104), (5, 106), (0, 86), (5, 107), (4, 236), (4, 235), (5, 215), (5, 217), (0, 98), (5, 218), (4, 237), (4, 238), (4, 205), (5, 189), (5, 190), (5, 219), (5, 221), (0, 99), (5, 222), (5, 223), (5, 225), (0, 100)] rfl (by decide +kernel)
set_option maxRecDepth 20000 in
theorem gw_wsX9_begins_r3 : GoodIn lw_tbl wsX9_begins_r3 := gq_r _ [(5, 226), (5, 227), (5, 229), (0, 101), (5, 230), (5, 231), (5, 233), (0, 102), (5, 234), (4, 204), (5, 235), (5, 237), (0, 103), (5, 238), (5, 239), (6, 1), (0, 104), (6, 2), (5, 178), (5, 180), (0, 95), (5, 181), (4, 234), (5, 182)] rfl (by decide +kernel)
set_option maxRecDepth 20000 in
theorem gw_wsX9_begins_r4 : GoodIn lw_tbl wsX9_begins_r4 := gq_r _ [(5, 184), (0, 96), (5, 185), (4, 210), (4, 212), (4, 209), (4, 172), (4, 233), (5, 186), (5, 187), (5, 188), (6, 3), (6, 5), (0, 105), (6, 6), (5, 191), (5, 192), (5, 193)] rfl (by decide +kernel)
set_option maxRecDepth 20000 in
theorem gw_wsX9_begins : GoodIn lw_tbl wsX9_begins := goodIn_ca2 (gq_r [.code yX9_begins cX9_begins 10 (some .int)] [(6, 95)] rfl (by decide +kernel)) (goodIn_app (goodIn_app (gw_wsX9_begins_r1) (goodIn_app (gw_wsX9_begins_r2) (goodIn_app (gw_wsX9_begins_r3) (gw_wsX9_begins_r4)))) (gw_wsX90))
set_option maxRecDepth 20000 in
theorem gw_wsX8_laws_r1 : GoodIn lw_tbl wsX8_laws_r1 := gq_r _ [(2, 142), (2, 138), (2, 131), (2, 134), (4, 22), (4, 24), (0, 65), (1, 1), (4, 25), (4, 26), (4, 28), (0, 66), (4, 29), (2, 140), (4, 30), (4, 31), (4, 32), (4, 35), (1, 9), (0, 67), (4, 36), (1, 195), (3, 111), (3, 113)] rfl (by decide +kernel)
set_option maxRecDepth 20000 in
theorem gw_wsX8_laws_r2 : GoodIn lw_tbl wsX8_laws_r2 := gq_r _ [(0, 44), (3, 114), (2, 141), (4, 37), (4, 39), (0, 68), (4, 40), (3, 177), (3, 179), (0, 54), (3, 180), (2, 130), (2, 135), (2, 210), (1, 2), (0, 24), (2, 211), (1, 34), (2, 188), (2, 190), (0, 22), (2, 191), (1, 31), (3, 130)] rfl (by decide +kernel)
set_option maxRecDepth 20000 in
theorem gw_wsX8_laws_r3 : GoodIn lw_tbl wsX8_laws_r3 := gq_r _ [(1, 5), (0, 46), (3, 131), (3, 132), (3, 134), (0, 47), (3, 135), (3, 136), (3, 59), (0, 36), (3, 60), (1, 114), (1, 111), (3, 139), (1, 3), (0, 48), (3, 140), (1, 55), (3, 141), (3, 63), (0, 37), (3, 64), (3, 144), (0, 49)] rfl (by decide +kernel)
set_option maxRecDepth 20000 in
theorem gw_wsX8_laws_r4 : GoodIn lw_tbl wsX8_laws_r4 := gq_r _ [(3, 145), (1, 50), (1, 52), (3, 146), (3, 148), (0, 50), (3, 149), (3, 150), (3, 152), (0, 51), (3, 153), (3, 156), (0, 52), (3, 157), (3, 158), (3, 67), (0, 38), (3, 68), (3, 75), (3, 77), (0, 40), (3, 78), (1, 113), (3, 81)] rfl (by decide +kernel)
set_option maxRecDepth 20000 in
theorem gw_wsX8_laws_r5 : GoodIn lw_tbl wsX8_laws_r5 := gq_r _ [(1, 8), (0, 41), (3, 82), (1, 178), (1, 176), (3, 85), (0, 42), (3, 86), (3, 87), (3, 89), (0, 43), (3, 90), (3, 91), (3, 92), (3, 93), (3, 161), (0, 53), (3, 162), (3, 163), (3, 71), (0, 39), (3, 72), (3, 73), (3, 74)] rfl (by decide +kernel)
set_option maxRecDepth 20000 in
theorem gw_wsX8_laws_r6 : GoodIn lw_tbl wsX8_laws_r6 := gq_r _ [(3, 94), (3, 95), (1, 15), (3, 96), (3, 97), (3, 98), (3, 99)] rfl (by decide +kernel)
set_option maxRecDepth 20000 in
theorem gw_wsX8_laws : GoodIn lw_tbl wsX8_laws := goodIn_ca2 (gq_r [.code yX8_laws cX8_laws 6 (some .int)] [(4, 52)] rfl (by decide +kernel)) (goodIn_app (goodIn_app (goodIn_app (goodIn_app (goodIn_app (goodIn_app (goodIn_app (gw_wsX8_laws_r1) (goodIn_app (gw_wsX8_laws_r2) (goodIn_app (gw_wsX8_laws_r3) (goodIn_app (gw_wsX8_laws_r4) (goodIn_app (gw_wsX8_laws_r5) (gw_wsX8_laws_r6)))))) (gw_wsX80)) (gw_wsX50)) (gw_wsX40)) (gw_wsX00)) (gw_wsX70)) (gw_wsX60))
set_option maxRecDepth 20000 in
theorem gw_wsX9_laws_r1 : GoodIn lw_tbl wsX9_laws_r1 := gq_r _ [(4, 212), (4, 211), (6, 76), (6, 78), (0, 111), (1, 14), (6, 79), (6, 80), (6, 82), (0, 112), (6, 83), (4, 220), (4, 221), (4, 200), (4, 161), (4, 162), (4, 163), (5, 202), (5, 204), (0, 97), (5, 205), (4, 203), (6, 84), (6, 86)] rfl (by decide +kernel)
set_option maxRecDepth 20000 in
theorem gw_wsX9_laws_r2 : GoodIn lw_tbl wsX9_laws_r2 := gq_r _ [(0, 113), (6, 87), (4, 222), (5, 104), (5, 106), (0, 86), (5, 107), (4, 236), (4, 235), (5, 215), (5, 217), (0, 98), (5, 218), (4, 237), (4, 238), (4, 205), (5, 189), (5, 190), (5, 219), (5, 221), (0, 99), (5, 222), (5, 223), (5, 225)] rfl (by decide +kernel)
set_option maxRecDepth 20000 in
theorem gw_wsX9_laws_r3 : GoodIn lw_tbl wsX9_laws_r3 := gq_r _ [(0, 100), (5, 226), (4, 206), (5, 227), (5, 229), (0, 101), (5, 230), (5, 231), (5, 233), (0, 102), (5, 234), (4, 204), (5, 235), (5, 237), (0, 103), (5, 238), (5, 239), (6, 1), (0, 104), (6, 2), (5, 178), (5, 180), (0, 95), (5, 181)] rfl (by decide +kernel)
set_option maxRecDepth 20000 in
theorem gw_wsX9_laws_r4 : GoodIn lw_tbl wsX9_laws_r4 := gq_r _ [(4, 234), (5, 182), (5, 184), (0, 96), (5, 185), (4, 210), (4, 209), (4, 172), (4, 233), (5, 186), (5, 187), (5, 188), (6, 3), (6, 5), (0, 105), (6, 6), (5, 191), (5, 192), (5, 193)] rfl (by decide +kernel)
set_option maxRecDepth 20000 in
theorem gw_wsX9_laws : GoodIn lw_tbl wsX9_laws := goodIn_ca2 (gq_r [.code yX9_laws cX9_laws 7 (some .int)] [(6, 99)] rfl (by decide +kernel)) (goodIn_app (goodIn_app (gw_wsX9_laws_r1) (goodIn_app (gw_wsX9_laws_r2) (goodIn_app (gw_wsX9_laws_r3) (gw_wsX9_laws_r4)))) (gw_wsX90))
set_option maxRecDepth 20000 in
theorem gw_wsX8_whose_r1 : GoodIn lw_tbl wsX8_whose_r1 := gq_r _ [(2, 141), (2, 138), (2, 131), (4, 26), (4, 28), (0, 66), (1, 1), (4, 29), (2, 140), (4, 30), (4, 31), (4, 32), (4, 35), (1, 9), (0, 67), (4, 36), (1, 195), (3, 53), (3, 55), (0, 35), (3, 56), (2, 143), (2, 134), (4, 37)] rfl (by decide +kernel)
set_option maxRecDepth 20000 in
theorem gw_wsX8_whose_r2 : GoodIn lw_tbl wsX8_whose_r2 := gq_r _ [(4, 39), (0, 68), (4, 40), (3, 177), (3, 179), (0, 54), (3, 180), (2, 130), (2, 135), (2, 210), (1, 2), (0, 24), (2, 211), (1, 34), (2, 188), (2, 190), (0, 22), (2, 191), (1, 31), (3, 130), (1, 5), (0, 46), (3, 131), (3, 132)] rfl (by decide +kernel)
set_option maxRecDepth 20000 in
theorem gw_wsX8_whose_r3 : GoodIn lw_tbl wsX8_whose_r3 := gq_r _ [(3, 134), (0, 47), (3, 135), (3, 136), (3, 59), (0, 36), (3, 60), (1, 114), (1, 111), (3, 139), (1, 3), (0, 48), (3, 140), (1, 55), (3, 141), (3, 63), (0, 37), (3, 64), (3, 144), (0, 49), (3, 145), (1, 50), (1, 52), (3, 146)] rfl (by decide +kernel)
set_option maxRecDepth 20000 in
theorem gw_wsX8_whose_r4 : GoodIn lw_tbl wsX8_whose_r4 := gq_r _ [(3, 148), (0, 50), (3, 149), (3, 150), (3, 152), (0, 51), (3, 153), (3, 156), (0, 52), (3, 157), (3, 158), (3, 67), (0, 38), (3, 68), (3, 75), (3, 77), (0, 40), (3, 78), (1, 113), (3, 81), (1, 8), (0, 41), (3, 82), (1, 178)] rfl (by decide +kernel)
set_option maxRecDepth 20000 in
theorem gw_wsX8_whose_r5 : GoodIn lw_tbl wsX8_whose_r5 := gq_r _ [(1, 176), (3, 85), (0, 42), (3, 86), (3, 87), (3, 89), (0, 43), (3, 90), (3, 91), (3, 92), (3, 93), (3, 161), (0, 53), (3, 162), (3, 163), (3, 71), (0, 39), (3, 72), (3, 73), (3, 74), (3, 94), (3, 95), (1, 15), (3, 96)] rfl (by decide +kernel)
set_option maxRecDepth 20000 in
theorem gw_wsX8_whose_r6 : GoodIn lw_tbl wsX8_whose_r6 := gq_r _ [(3, 97), (3, 98), (3, 99)] rfl (by decide +kernel)
set_option maxRecDepth 20000 in
theorem gw_wsX8_whose : GoodIn lw_tbl wsX8_whose := goodIn_ca2 (gq_r [.code yX8_whose cX8_whose 5 (some .int)] [(4, 56)] rfl (by decide +kernel)) (goodIn_app (goodIn_app (goodIn_app (goodIn_app (goodIn_app (goodIn_app (goodIn_app (gw_wsX8_whose_r1) (goodIn_app (gw_wsX8_whose_r2) (goodIn_app (gw_wsX8_whose_r3) (goodIn_app (gw_wsX8_whose_r4) (goodIn_app (gw_wsX8_whose_r5) (gw_wsX8_whose_r6)))))) (gw_wsX80)) (gw_wsX50)) (gw_wsX40)) (gw_wsX00)) (gw_wsX70)) (gw_wsX60))
set_option maxRecDepth 20000 in
theorem gw_wsX9_whose_r1 : GoodIn lw_tbl wsX9_whose_r1 := gq_r _ [(4, 203), (6, 80), (6, 82), (0, 112), (1, 14), (6, 83), (4, 220), (4, 221), (4, 200), (4, 161), (4, 162), (4, 163), (6, 84), (6, 86), (0, 113), (6, 87), (4, 222), (5, 104), (5, 106), (0, 86), (5, 107), (4, 236), (4, 235), (5, 215)] rfl (by decide +kernel)
set_option maxRecDepth 20000 in
theorem gw_wsX9_whose_r2 : GoodIn lw_tbl wsX9_whose_r2 := gq_r _ [(5, 217), (0, 98), (5, 218), (4, 237), (4, 238), (4, 205), (5, 189), (5, 190), (5, 219), (5, 221), (0, 99), (5, 222), (5, 223), (5, 225), (0, 100), (5, 226), (4, 206), (5, 227), (5, 229), (0, 101), (5, 230), (5, 231), (5, 233), (0, 102)] rfl (by decide +kernel)
set_option maxRecDepth 20000 in
theorem gw_wsX9_whose_r3 : GoodIn lw_tbl wsX9_whose_r3 := gq_r _ [(5, 234), (4, 204), (5, 235), (5, 237), (0, 103), (5, 238), (5, 239), (6, 1), (0, 104), (6, 2), (5, 178), (5, 180), (0, 95), (5, 181), (4, 234), (5, 182), (5, 184), (0, 96), (5, 185), (4, 210), (4, 212), (4, 209), (4, 172), (4, 233)] rfl (by decide +kernel)
set_option maxRecDepth 20000 in
theorem gw_wsX9_whose_r4 : GoodIn lw_tbl wsX9_whose_r4 := gq_r _ [(5, 186), (5, 187), (5, 188), (6, 3), (6, 5), (0, 105), (6, 6), (5, 191), (5, 192), (5, 193)] rfl (by decide +kernel)
set_option maxRecDepth 20000 in
theorem gw_wsX9_whose : GoodIn lw_tbl wsX9_whose := goodIn_ca2 (gq_r [.code yX9_whose cX9_whose 5 (some .int)] [(6, 103)] rfl (by decide +kernel)) (goodIn_app (goodIn_app (gw_wsX9_whose_r1) (goodIn_app (gw_wsX9_whose_r2) (goodIn_app (gw_wsX9_whose_r3) (gw_wsX9_whose_r4)))) (gw_wsX90))
set_option maxRecDepth 20000 in
theorem gw_wsX8_film_r1 : GoodIn lw_tbl wsX8_film_r1 := gq_r _ [(2, 140), (2, 138), (2, 131), (4, 30), (4, 31), (1, 1), (4, 32), (3, 111), (3, 113), (0, 44), (3, 114), (2, 141), (4, 63), (1, 9), (0, 69), (4, 64), (1, 195), (4, 65), (3, 95), (1, 15), (3, 96), (4, 66), (3, 98), (3, 99)] rfl (by decide +kernel)
set_option maxRecDepth 20000 in
theorem gw_wsX8_film_r2 : GoodIn lw_tbl wsX8_film_r2 := gq_r _ [(1, 197), (1, 193), (3, 53), (3, 55), (0, 35), (3, 56), (2, 143), (2, 134), (3, 177), (3, 179), (0, 54), (3, 180), (2, 130), (2, 135), (2, 210), (1, 2), (0, 24), (2, 211), (1, 34), (2, 188), (2, 190), (0, 22), (2, 191), (1, 31)] rfl (by decide +kernel)
set_option maxRecDepth 20000 in
theorem gw_wsX8_film_r3 : GoodIn lw_tbl wsX8_film_r3 := gq_r _ [(3, 130), (1, 5), (0, 46), (3, 131), (3, 132), (3, 134), (0, 47), (3, 135), (3, 136), (3, 59), (0, 36), (3, 60), (1, 114), (1, 111), (3, 139), (1, 3), (0, 48), (3, 140), (1, 55), (3, 141), (3, 63), (0, 37), (3, 64), (3, 144)] rfl (by decide +kernel)
set_option maxRecDepth 20000 in
theorem gw_wsX8_film_r4 : GoodIn lw_tbl wsX8_film_r4 := gq_r _ [(0, 49), (3, 145), (1, 50), (1, 52), (3, 146), (3, 148), (0, 50), (3, 149), (3, 150), (3, 152), (0, 51), (3, 153), (3, 156), (0, 52), (3, 157), (3, 158), (3, 67), (0, 38), (3, 68), (3, 75), (3, 77), (0, 40), (3, 78), (1, 113)] rfl (by decide +kernel)
set_option maxRecDepth 20000 in
theorem gw_wsX8_film_r5 : GoodIn lw_tbl wsX8_film_r5 := gq_r _ [(3, 81), (1, 8), (0, 41), (3, 82), (1, 178), (1, 176), (3, 85), (0, 42), (3, 86), (3, 87), (3, 89), (0, 43), (3, 90), (3, 91), (3, 92), (3, 93), (3, 161), (0, 53), (3, 162), (3, 163), (3, 71), (0, 39), (3, 72), (3, 73)] rfl (by decide +kernel)
set_option maxRecDepth 20000 in
theorem gw_wsX8_film_r6 : GoodIn lw_tbl wsX8_film_r6 := gq_r _ [(3, 74), (3, 94), (3, 97), (4, 69), (0, 70), (4, 70), (4, 71), (4, 73), (0, 71), (4, 74)] rfl (by decide +kernel)
set_option maxRecDepth 20000 in
theorem gw_wsX8_film : GoodIn lw_tbl wsX8_film := goodIn_ca2 (gq_r [.code yX8_film cX8_film 5 (some .int)] [(4, 60)] rfl (by decide +kernel)) (goodIn_app (goodIn_app (goodIn_app (goodIn_app (goodIn_app (goodIn_app (goodIn_app (gw_wsX8_film_r1) (goodIn_app (gw_wsX8_film_r2) (goodIn_app (gw_wsX8_film_r3) (goodIn_app (gw_wsX8_film_r4) (goodIn_app (gw_wsX8_film_r5) (gw_wsX8_film_r6)))))) (gw_wsX80)) (gw_wsX50)) (gw_wsX40)) (gw_wsX00)) (gw_wsX70)) (gw_wsX60))
set_option maxRecDepth 20000 in
theorem gw_wsX9_film_r1 : GoodIn lw_tbl wsX9_film_r1 := gq_r _ [(4, 200), (4, 220), (4, 221), (4, 222), (4, 161), (4, 162), (1, 14), (4, 163), (5, 202), (5, 204), (0, 97), (5, 205), (4, 203), (5, 191), (5, 192), (5, 193), (5, 104), (5, 106), (0, 86), (5, 107), (4, 236), (4, 235), (5, 215), (5, 217)] rfl (by decide +kernel)
set_option maxRecDepth 20000 in
theorem gw_wsX9_film_r2 : GoodIn lw_tbl wsX9_film_r2 := gq_r _ [(0, 98), (5, 218), (4, 237), (4, 238), (4, 205), (5, 189), (5, 190), (5, 219), (5, 221), (0, 99), (5, 222), (5, 223), (5, 225), (0, 100), (5, 226), (4, 206), (5, 227), (5, 229), (0, 101), (5, 230), (5, 231), (5, 233), (0, 102), (5, 234)] rfl (by decide +kernel)
set_option maxRecDepth 20000 in
theorem gw_wsX9_film_r3 : GoodIn lw_tbl wsX9_film_r3 := gq_r _ [(4, 204), (5, 235), (5, 237), (0, 103), (5, 238), (5, 239), (6, 1), (0, 104), (6, 2), (5, 178), (5, 180), (0, 95), (5, 181), (4, 234), (5, 182), (5, 184), (0, 96), (5, 185), (4, 210), (4, 212), (4, 209), (4, 172), (4, 233), (5, 186)] rfl (by decide +kernel)
set_option maxRecDepth 20000 in
theorem gw_wsX9_film_r4 : GoodIn lw_tbl wsX9_film_r4 := gq_r _ [(5, 187), (5, 188), (6, 3), (6, 5), (0, 105), (6, 6)] rfl (by decide +kernel)
set_option maxRecDepth 20000 in
theorem gw_wsX9_film : GoodIn lw_tbl wsX9_film := goodIn_ca2 (gq_r [.code yX9_film cX9_film 6 (some .int)] [(6, 107)] rfl (by decide +kernel)) (goodIn_app (goodIn_app (gw_wsX9_film_r1) (goodIn_app (gw_wsX9_film_r2) (goodIn_app (gw_wsX9_film_r3) (gw_wsX9_film_r4)))) (gw_wsX90))
set_option maxRecDepth 20000 in
theorem gw_wsX8_drawn_r1 : GoodIn lw_tbl wsX8_drawn_r1 := gq_r _ [(3, 164), (4, 3), (2, 131), (2, 130), (3, 111), (3, 113), (0, 44), (1, 1), (3, 114), (2, 141), (4, 79), (4, 80), (4, 81), (4, 82), (4, 83), (4, 85), (0, 72), (4, 86), (2, 136), (2, 140), (4, 89), (1, 6), (0, 73), (4, 90)] rfl (by decide +kernel)
set_option maxRecDepth 20000 in
theorem gw_wsX8_drawn_r2 : GoodIn lw_tbl wsX8_drawn_r2 := gq_r _ [(1, 128), (4, 93), (0, 74), (4, 94), (4, 95), (4, 96), (2, 210), (1, 2), (0, 24), (2, 211), (1, 34), (2, 188), (2, 190), (0, 22), (2, 191), (1, 31), (2, 230), (0, 27), (2, 231), (2, 232), (2, 218), (0, 25), (2, 219), (3, 124)] rfl (by decide +kernel)
set_option maxRecDepth 20000 in
theorem gw_wsX8_drawn_r3 : GoodIn lw_tbl wsX8_drawn_r3 := gq_r _ [(3, 126), (0, 45), (3, 127), (2, 135), (3, 53), (3, 55), (0, 35), (3, 56), (2, 143), (2, 134), (3, 130), (1, 5), (0, 46), (3, 131), (3, 132), (3, 134), (0, 47), (3, 135), (3, 136), (3, 59), (0, 36), (3, 60), (1, 114), (1, 111)] rfl (by decide +kernel)
set_option maxRecDepth 20000 in
theorem gw_wsX8_drawn_r4 : GoodIn lw_tbl wsX8_drawn_r4 := gq_r _ [(3, 139), (1, 3), (0, 48), (3, 140), (1, 55), (3, 141), (3, 63), (0, 37), (3, 64), (3, 144), (0, 49), (3, 145), (1, 50), (1, 52), (3, 146), (3, 148), (0, 50), (3, 149), (3, 150), (3, 152), (0, 51), (3, 153), (3, 156), (0, 52)] rfl (by decide +kernel)
set_option maxRecDepth 20000 in
theorem gw_wsX8_drawn_r5 : GoodIn lw_tbl wsX8_drawn_r5 := gq_r _ [(3, 157), (3, 158), (3, 67), (0, 38), (3, 68), (3, 75), (3, 77), (0, 40), (3, 78), (1, 113), (3, 81), (1, 8), (0, 41), (3, 82), (1, 178), (1, 176), (3, 85), (0, 42), (3, 86), (3, 87), (3, 89), (0, 43), (3, 90), (3, 91)] rfl (by decide +kernel)
set_option maxRecDepth 20000 in
theorem gw_wsX8_drawn_r6 : GoodIn lw_tbl wsX8_drawn_r6 := gq_r _ [(3, 92), (3, 93), (3, 161), (0, 53), (3, 162), (3, 163), (3, 71), (0, 39), (3, 72), (3, 73), (3, 74), (3, 94), (3, 95), (1, 15), (3, 96), (3, 97), (3, 98), (3, 99)] rfl (by decide +kernel)
set_option maxRecDepth 20000 in
theorem gw_wsX8_drawn : GoodIn lw_tbl wsX8_drawn := goodIn_ca2 (gq_r [.code yX8_drawn cX8_drawn 5 (some .int)] [(4, 78)] rfl (by decide +kernel)) (goodIn_app (goodIn_app (goodIn_app (goodIn_app (goodIn_app (goodIn_app (goodIn_app (gw_wsX8_drawn_r1) (goodIn_app (gw_wsX8_drawn_r2) (goodIn_app (gw_wsX8_drawn_r3) (goodIn_app (gw_wsX8_drawn_r4) (goodIn_app (gw_wsX8_drawn_r5) (gw_wsX8_drawn_r6)))))) (gw_wsX80)) (gw_wsX40)) (gw_wsX20)) (gw_wsX00)) (gw_wsX70)) (gw_wsX60))
set_option maxRecDepth 20000 in
theorem gw_wsX9_drawn_r1 : GoodIn lw_tbl wsX9_drawn_r1 := gq_r _ [(5, 214), (6, 112), (6, 59), (5, 202), (5, 204), (0, 97), (1, 14), (5, 205), (4, 203), (4, 161), (4, 162), (4, 163), (6, 113), (6, 115), (0, 114), (6, 116), (6, 117), (6, 118), (4, 200), (4, 236), (4, 235), (5, 104), (5, 106), (0, 86)] rfl (by decide +kernel)
set_option maxRecDepth 20000 in
theorem gw_wsX9_drawn_r2 : GoodIn lw_tbl wsX9_drawn_r2 := gq_r _ [(5, 107), (5, 215), (5, 217), (0, 98), (5, 218), (4, 237), (4, 238), (4, 205), (5, 189), (5, 190), (5, 219), (5, 221), (0, 99), (5, 222), (5, 223), (5, 225), (0, 100), (5, 226), (4, 206), (5, 227), (5, 229), (0, 101), (5, 230), (5, 231)] rfl (by decide +kernel)
set_option maxRecDepth 20000 in
theorem gw_wsX9_drawn_r3 : GoodIn lw_tbl wsX9_drawn_r3 := gq_r _ [(5, 233), (0, 102), (5, 234), (4, 204), (5, 235), (5, 237), (0, 103), (5, 238), (5, 239), (6, 1), (0, 104), (6, 2), (5, 178), (5, 180), (0, 95), (5, 181), (4, 234), (5, 182), (5, 184), (0, 96), (5, 185), (4, 210), (4, 212), (4, 209)] rfl (by decide +kernel)
set_option maxRecDepth 20000 in
theorem gw_wsX9_drawn_r4 : GoodIn lw_tbl wsX9_drawn_r4 := gq_r _ [(4, 172), (4, 233), (5, 186), (5, 187), (5, 188), (6, 3), (6, 5), (0, 105), (6, 6), (5, 191), (5, 192), (5, 193)] rfl (by decide +kernel)
set_option maxRecDepth 20000 in
theorem gw_wsX9_drawn : GoodIn lw_tbl wsX9_drawn := goodIn_ca2 (gq_r [.code yX9_drawn cX9_drawn 5 (some .int)] [(6, 111)] rfl (by decide +kernel)) (goodIn_app (goodIn_app (gw_wsX9_drawn_r1) (goodIn_app (gw_wsX9_drawn_r2) (goodIn_app (gw_wsX9_drawn_r3) (gw_wsX9_drawn_r4)))) (gw_wsX90))
set_option maxRecDepth 20000 in
theorem gw_wsX8_odds_r1 : GoodIn lw_tbl wsX8_odds_r1 := gq_r _ [(3, 176), (2, 131), (2, 130), (4, 79), (4, 80), (1, 1), (4, 81), (4, 82), (3, 111), (3, 113), (0, 44), (3, 114), (2, 141), (4, 83), (4, 85), (0, 72), (4, 86), (2, 136), (2, 140), (4, 89), (1, 6), (0, 73), (4, 90), (1, 128)] rfl (by decide +kernel)
set_option maxRecDepth 20000 in
theorem gw_wsX8_odds_r2 : GoodIn lw_tbl wsX8_odds_r2 := gq_r _ [(4, 93), (0, 74), (4, 94), (4, 95), (4, 96), (2, 210), (1, 2), (0, 24), (2, 211), (1, 34), (2, 188), (2, 190), (0, 22), (2, 191), (1, 31), (2, 230), (0, 27), (2, 231), (2, 232), (2, 218), (0, 25), (2, 219), (3, 124), (3, 126)] rfl (by decide +kernel)
set_option maxRecDepth 20000 in
theorem gw_wsX8_odds_r3 : GoodIn lw_tbl wsX8_odds_r3 := gq_r _ [(0, 45), (3, 127), (2, 135), (3, 53), (3, 55), (0, 35), (3, 56), (2, 143), (2, 134), (3, 130), (1, 5), (0, 46), (3, 131), (3, 132), (3, 134), (0, 47), (3, 135), (3, 136), (3, 59), (0, 36), (3, 60), (1, 114), (1, 111), (3, 139)] rfl (by decide +kernel)
set_option maxRecDepth 20000 in
theorem gw_wsX8_odds_r4 : GoodIn lw_tbl wsX8_odds_r4 := gq_r _ [(1, 3), (0, 48), (3, 140), (1, 55), (3, 141), (3, 63), (0, 37), (3, 64), (3, 144), (0, 49), (3, 145), (1, 50), (1, 52), (3, 146), (3, 148), (0, 50), (3, 149), (3, 150), (3, 152), (0, 51), (3, 153), (3, 156), (0, 52), (3, 157)] rfl (by decide +kernel)
set_option maxRecDepth 20000 in
theorem gw_wsX8_odds_r5 : GoodIn lw_tbl wsX8_odds_r5 := gq_r _ [(3, 158), (3, 67), (0, 38), (3, 68), (3, 75), (3, 77), (0, 40), (3, 78), (1, 113), (3, 81), (1, 8), (0, 41), (3, 82), (1, 178), (1, 176), (3, 85), (0, 42), (3, 86), (3, 87), (3, 89), (0, 43), (3, 90), (3, 91), (3, 92)] rfl (by decide +kernel)
set_option maxRecDepth 20000 in
theorem gw_wsX8_odds_r6 : GoodIn lw_tbl wsX8_odds_r6 := gq_r _ [(3, 93), (3, 161), (0, 53), (3, 162), (3, 163), (3, 71), (0, 39), (3, 72), (3, 73), (3, 74), (3, 94), (3, 95), (1, 15), (3, 96), (3, 97), (3, 98), (3, 99), (4, 102), (4, 103), (4, 104)] rfl (by decide +kernel)
set_option maxRecDepth 20000 in
theorem gw_wsX8_odds : GoodIn lw_tbl wsX8_odds := goodIn_ca2 (gq_r [.code yX8_odds cX8_odds 8 (some .long)] [(4, 101)] rfl (by decide +kernel)) (goodIn_app (goodIn_app (goodIn_app (goodIn_app (goodIn_app (goodIn_app (goodIn_app (gw_wsX8_odds_r1) (goodIn_app (gw_wsX8_odds_r2) (goodIn_app (gw_wsX8_odds_r3) (goodIn_app (gw_wsX8_odds_r4) (goodIn_app (gw_wsX8_odds_r5) (gw_wsX8_odds_r6)))))) (gw_wsX80)) (gw_wsX40)) (gw_wsX20)) (gw_wsX00)) (gw_wsX70)) (gw_wsX60))
set_option maxRecDepth 20000 in
theorem gw_wsX9_odds_r1 : GoodIn lw_tbl wsX9_odds_r1 := gq_r _ [(6, 112), (6, 19), (4, 161), (4, 162), (1, 14), (4, 163), (5, 202), (5, 204), (0, 97), (5, 205), (4, 203), (6, 113), (6, 115), (0, 114), (6, 116), (6, 117), (6, 118), (4, 200), (4, 236), (4, 235), (5, 104), (5, 106), (0, 86), (5, 107)] rfl (by decide +kernel)
set_option maxRecDepth 20000 in
theorem gw_wsX9_odds_r2 : GoodIn lw_tbl wsX9_odds_r2 := gq_r _ [(5, 215), (5, 217), (0, 98), (5, 218), (4, 237), (4, 238), (4, 205), (5, 189), (5, 190), (5, 219), (5, 221), (0, 99), (5, 222), (5, 223), (5, 225), (0, 100), (5, 226), (4, 206), (5, 227), (5, 229), (0, 101), (5, 230), (5, 231), (5, 233)] rfl (by decide +kernel)
set_option maxRecDepth 20000 in
theorem gw_wsX9_odds_r3 : GoodIn lw_tbl wsX9_odds_r3 := gq_r _ [(0, 102), (5, 234), (4, 204), (5, 235), (5, 237), (0, 103), (5, 238), (5, 239), (6, 1), (0, 104), (6, 2), (5, 178), (5, 180), (0, 95), (5, 181), (4, 234), (5, 182), (5, 184), (0, 96), (5, 185), (4, 210), (4, 212), (4, 209), (4, 172)] rfl (by decide +kernel)
set_option maxRecDepth 20000 in
theorem gw_wsX9_odds_r4 : GoodIn lw_tbl wsX9_odds_r4 := gq_r _ [(4, 233), (5, 186), (5, 187), (5, 188), (6, 3), (6, 5), (0, 105), (6, 6), (5, 191), (5, 192), (5, 193), (6, 123), (6, 124), (6, 125)] rfl (by decide +kernel)
set_option maxRecDepth 20000 in
theorem gw_wsX9_odds : GoodIn lw_tbl wsX9_odds := goodIn_ca2 (gq_r [.code yX9_odds cX9_odds 9 (some .long)] [(6, 122)] rfl (by decide +kernel)) (goodIn_app (goodIn_app (gw_wsX9_odds_r1) (goodIn_app (gw_wsX9_odds_r2) (goodIn_app (gw_wsX9_odds_r3) (gw_wsX9_odds_r4)))) (gw_wsX90))
set_option maxRecDepth 20000 in
theorem gw_wsX8_image_r1 : GoodIn lw_tbl wsX8_image_r1 := gq_r _ [(2, 139), (2, 140), (2, 141), (2, 143), (2, 129), (2, 131), (3, 207), (1, 2), (0, 58), (3, 208), (1, 34), (1, 31), (2, 188), (2, 190), (0, 22), (2, 191), (3, 187), (1, 3), (0, 55), (3, 188), (1, 50), (1, 52), (1, 55), (1, 57)] rfl (by decide +kernel)
set_option maxRecDepth 20000 in
theorem gw_wsX8_image_r2 : GoodIn lw_tbl wsX8_image_r2 := gq_r _ [(1, 60)] rfl (by decide +kernel)
set_option maxRecDepth 20000 in
theorem gw_wsX8_image : GoodIn lw_tbl wsX8_image := goodIn_ca2 (gq_r [.code yX8_image cX8_image 2 (some .int)] [(4, 108)] rfl (by decide +kernel)) (goodIn_app (goodIn_app (goodIn_app (goodIn_app (goodIn_app (gw_wsX8_image_r1) (gw_wsX8_image_r2)) (gw_wsX80)) (gw_wsX10)) (gw_wsX40)) (gw_wsX00))
set_option maxRecDepth 20000 in
theorem gw_wsX9_image : GoodIn lw_tbl wsX9_image := goodIn_ca2 (gq_r [.code yX9_image cX9_image 2 (some .int)] [(6, 129)] rfl (by decide +kernel)) (goodIn_app (gq_r _ [(4, 213), (4, 200), (4, 214), (4, 202), (4, 215), (4, 203), (4, 216), (4, 212), (4, 217), (4, 218), (4, 201), (4, 219), (4, 206)] rfl (by decide +kernel)) (gw_wsX90))
set_option maxRecDepth 20000 in
theorem gw_wsX8_back_r1 : GoodIn lw_tbl wsX8_back_r1 := gq_r _ [(2, 139), (2, 140), (2, 141), (2, 143), (2, 129), (2, 131), (3, 207), (1, 2), (0, 58), (3, 208), (1, 34), (1, 31), (2, 188), (2, 190), (0, 22), (2, 191), (3, 187), (1, 3), (0, 55), (3, 188), (1, 50), (1, 52), (1, 55), (1, 57)] rfl (by decide +kernel)
set_option maxRecDepth 20000 in
theorem gw_wsX8_back_r2 : GoodIn lw_tbl wsX8_back_r2 := gq_r _ [(1, 60)] rfl (by decide +kernel)
set_option maxRecDepth 20000 in
theorem gw_wsX8_back : GoodIn lw_tbl wsX8_back := goodIn_ca2 (gq_r [.code yX8_back cX8_back 2 (some .int)] [(4, 112)] rfl (by decide +kernel)) (goodIn_app (goodIn_app (goodIn_app (goodIn_app (goodIn_app (gw_wsX8_back_r1) (gw_wsX8_back_r2)) (gw_wsX80)) (gw_wsX10)) (gw_wsX40)) (gw_wsX00))
set_option maxRecDepth 20000 in
theorem gw_wsX9_back : GoodIn lw_tbl wsX9_back := goodIn_ca2 (gq_r [.code yX9_back cX9_back 2 (some .int)] [(6, 133)] rfl (by decide +kernel)) (goodIn_app (gq_r _ [(4, 213), (4, 214), (4, 200), (4, 215), (4, 202), (4, 216), (4, 203), (4, 217), (4, 212), (4, 201), (4, 218), (4, 206), (4, 219)] rfl (by decide +kernel)) (gw_wsX90))
set_option maxRecDepth 20000 in
theorem gw_wsX8_sheet : GoodIn lw_tbl wsX8_sheet := goodIn_ca2 (gq_r [.code yX8_sheet cX8_sheet 4 (some .int)] [(4, 116)] rfl (by decide +kernel)) (goodIn_app (goodIn_app (gq_r _ [(2, 138), (4, 30), (4, 31), (1, 1), (4, 32), (4, 63), (1, 9), (0, 69), (4, 64), (1, 195), (4, 65), (3, 95), (1, 15), (3, 96), (4, 66), (3, 98), (3, 99), (1, 197), (1, 193)] rfl (by decide +kernel)) (gw_wsX80)) (gw_wsX50))
set_option maxRecDepth 20000 in
theorem gw_wsX9_sheet : GoodIn lw_tbl wsX9_sheet := goodIn_ca2 (gq_r [.code yX9_sheet cX9_sheet 5 (some .int)] [(6, 137)] rfl (by decide +kernel)) (goodIn_app (gq_r _ [(4, 220), (4, 221), (4, 222), (4, 161), (4, 162), (1, 14), (4, 163)] rfl (by decide +kernel)) (gw_wsX90))
set_option maxRecDepth 20000 in
theorem gw_wsX8_cell : GoodIn lw_tbl wsX8_cell := goodIn_ca2 (gq_r [.code yX8_cell cX8_cell 4 (some .int)] [(4, 120)] rfl (by decide +kernel)) (goodIn_app (goodIn_app (gq_r _ [(2, 138), (4, 30), (4, 31), (1, 1), (4, 32), (4, 35), (1, 9), (0, 67), (4, 36), (1, 195), (4, 73), (0, 71), (4, 74), (1, 197), (4, 69), (0, 70), (4, 70), (1, 193), (4, 71)] rfl (by decide +kernel)) (gw_wsX80)) (gw_wsX50))
set_option maxRecDepth 20000 in
theorem gw_wsX9_cell : GoodIn lw_tbl wsX9_cell := goodIn_ca2 (gq_r [.code yX9_cell cX9_cell 4 (some .int)] [(6, 141)] rfl (by decide +kernel)) (goodIn_app (gq_r _ [(4, 220), (4, 221), (4, 222), (4, 161), (4, 162), (1, 14), (4, 163)] rfl (by decide +kernel)) (gw_wsX90))
set_option maxRecDepth 20000 in
theorem gw_wsX8_copy : GoodIn lw_tbl wsX8_copy := goodIn_ca2 (gq_r [.code yX8_copy cX8_copy 8 (some .int)] [(4, 125)] rfl (by decide +kernel)) (goodIn_app (goodIn_app (gq_r _ [(2, 138), (4, 130), (4, 132), (4, 131), (1, 16), (4, 30), (4, 31), (1, 1), (4, 32), (4, 35), (1, 9), (0, 67), (4, 36), (1, 195), (4, 128), (0, 75), (4, 129), (1, 197)] rfl (by decide +kernel)) (gw_wsX80)) (gw_wsX50))
set_option maxRecDepth 20000 in
theorem gw_wsX9_copy : GoodIn lw_tbl wsX9_copy := goodIn_ca2 (gq_r [.code yX9_copy cX9_copy 10 (some .int)] [(6, 145)] rfl (by decide +kernel)) (goodIn_app (gq_r _ [(4, 220), (4, 221), (4, 222), (4, 161), (4, 162), (1, 14), (4, 163)] rfl (by decide +kernel)) (gw_wsX90))
set_option maxRecDepth 20000 in
theorem gw_wsX8_cardsBy_r1 : GoodIn lw_tbl wsX8_cardsBy_r1 := gq_r _ [(2, 138), (4, 30), (4, 31), (1, 1), (4, 32), (4, 35), (1, 9), (0, 67), (4, 36), (1, 195), (4, 73), (0, 71), (4, 74), (1, 197), (4, 137), (2, 193), (2, 194), (2, 195), (2, 129), (2, 196), (2, 198), (0, 23), (2, 199), (2, 140)] rfl (by decide +kernel)
set_option maxRecDepth 20000 in
theorem gw_wsX8_cardsBy_r2 : GoodIn lw_tbl wsX8_cardsBy_r2 := gq_r _ [(2, 190), (1, 2), (0, 22), (2, 191), (1, 34), (1, 31)] rfl (by decide +kernel)
set_option maxRecDepth 20000 in
theorem gw_wsX8_cardsBy : GoodIn lw_tbl wsX8_cardsBy := goodIn_ca2 (gq_r [.code yX8_cardsBy cX8_cardsBy 7 (some .int)] [(4, 136)] rfl (by decide +kernel)) (goodIn_app (goodIn_app (goodIn_app (goodIn_app (gw_wsX8_cardsBy_r1) (gw_wsX8_cardsBy_r2)) (gw_wsX80)) (gw_wsX50)) (gw_wsX40))
set_option maxRecDepth 20000 in
theorem gw_wsX9_cardsBy : GoodIn lw_tbl wsX9_cardsBy := goodIn_ca2 (gq_r [.code yX9_cardsBy cX9_cardsBy 9 (some .int)] [(6, 149)] rfl (by decide +kernel)) (goodIn_app (gq_r _ [(4, 220), (4, 221), (4, 222), (4, 161), (4, 162), (1, 14), (4, 163), (6, 150), (5, 93), (5, 94), (5, 95), (4, 202), (4, 201), (5, 96), (5, 98), (0, 85), (5, 99), (4, 200)] rfl (by decide +kernel)) (gw_wsX90))
set_option maxRecDepth 20000 in
theorem gw_wsX8_taken : GoodIn lw_tbl wsX8_taken := goodIn_ca2 (gq_r [.code yX8_taken cX8_taken 4 (some .int)] [(4, 141)] rfl (by decide +kernel)) (goodIn_app (goodIn_app (goodIn_app (gq_r _ [(2, 131), (2, 129), (3, 111), (3, 113), (0, 44), (1, 1), (3, 114), (2, 141), (4, 142), (4, 143), (4, 144), (4, 145), (2, 218), (1, 2), (0, 25), (2, 219), (1, 34)] rfl (by decide +kernel)) (gw_wsX80)) (gw_wsX00)) (gw_wsX40))
set_option maxRecDepth 20000 in
theorem gw_wsX9_taken : GoodIn lw_tbl wsX9_taken := goodIn_ca2 (gq_r [.code yX9_taken cX9_taken 3 (some .int)] [(6, 154)] rfl (by decide +kernel)) (goodIn_app (gq_r _ [(4, 202), (4, 201), (4, 203), (4, 204), (4, 161), (4, 162), (1, 14), (4, 163), (6, 155), (6, 156), (6, 157)] rfl (by decide +kernel)) (gw_wsX90))
set_option maxRecDepth 20000 in
theorem gL_law_X8_init : GoodIn lw_tbl (wsX8_init) := gw_wsX8_init
set_option maxRecDepth 20000 in
theorem gL_law_X9_init : GoodIn lw_tbl (wsX9_init) := gw_wsX9_init
set_option maxRecDepth 20000 in
theorem gL_law_X8_count : GoodIn lw_tbl (wsV RL 13 RX8 yX8_count wsX8_count) := goodIn_app (gq_r _ [(2, 176), (2, 177), (2, 178), (1, 1)] rfl (by decide +kernel)) gw_wsX8_count
set_option maxRecDepth 20000 in
theorem gL_law_X9_count : GoodIn lw_tbl (wsV RL 17 RX9 yX9_count wsX9_count) := goodIn_app (gq_r _ [(5, 84), (5, 85), (5, 86), (1, 14)] rfl (by decide +kernel)) gw_wsX9_count
set_option maxRecDepth 20000 in
theorem gL_law_X8_deal : GoodIn lw_tbl (wsV RL 18 RX8 yX8_deal wsX8_deal) := goodIn_app (gq_r _ [(2, 180), (2, 181), (2, 182), (1, 1)] rfl (by decide +kernel)) gw_wsX8_deal
set_option maxRecDepth 20000 in
theorem gL_law_X9_deal : GoodIn lw_tbl (wsV RL 21 RX9 yX9_deal wsX9_deal) := goodIn_app (gq_r _ [(5, 88), (5, 89), (5, 90), (1, 14)] rfl (by decide +kernel)) gw_wsX9_deal
set_option maxRecDepth 20000 in
theorem gL_law_X8_card : GoodIn lw_tbl (wsV RL 22 RX8 yX8_card wsX8_card) := goodIn_app (gq_r _ [(2, 192), (2, 193), (2, 194), (1, 1)] rfl (by decide +kernel)) gw_wsX8_card
set_option maxRecDepth 20000 in
theorem gL_law_X9_card : GoodIn lw_tbl (wsV RL 25 RX9 yX9_card wsX9_card) := goodIn_app (gq_r _ [(5, 92), (5, 93), (5, 94), (1, 14)] rfl (by decide +kernel)) gw_wsX9_card
set_option maxRecDepth 20000 in
theorem gL_law_X8_fill : GoodIn lw_tbl (wsV RL 26 RX8 yX8_fill wsX8_fill) := goodIn_app (gq_r _ [(2, 201), (2, 202), (2, 203), (1, 1)] rfl (by decide +kernel)) gw_wsX8_fill
set_option maxRecDepth 20000 in
theorem gL_law_X9_fill : GoodIn lw_tbl (wsV RL 30 RX9 yX9_fill wsX9_fill) := goodIn_app (gq_r _ [(5, 100), (5, 101), (5, 102), (1, 14)] rfl (by decide +kernel)) gw_wsX9_fill
set_option maxRecDepth 20000 in
theorem gL_law_X8_at : GoodIn lw_tbl (wsV RL 31 RX8 yX8_at wsX8_at) := goodIn_app (gq_r _ [(2, 212), (2, 213), (2, 214), (1, 1)] rfl (by decide +kernel)) gw_wsX8_at
set_option maxRecDepth 20000 in
theorem gL_law_X9_at : GoodIn lw_tbl (wsV RL 34 RX9 yX9_at wsX9_at) := goodIn_app (gq_r _ [(5, 108), (5, 109), (5, 110), (1, 14)] rfl (by decide +kernel)) gw_wsX9_at
set_option maxRecDepth 20000 in
theorem gL_law_X8_turn : GoodIn lw_tbl (wsV RL 35 RX8 yX8_turn wsX8_turn) := goodIn_app (gq_r _ [(2, 220), (2, 221), (2, 222), (1, 1)] rfl (by decide +kernel)) gw_wsX8_turn
set_option maxRecDepth 20000 in
theorem gL_law_X9_turn : GoodIn lw_tbl (wsV RL 38 RX9 yX9_turn wsX9_turn) := goodIn_app (gq_r _ [(5, 112), (5, 113), (5, 114), (1, 14)] rfl (by decide +kernel)) gw_wsX9_turn
set_option maxRecDepth 20000 in
theorem gL_law_X8_missing : GoodIn lw_tbl (wsV RL 39 RX8 yX8_missing wsX8_missing) := goodIn_app (gq_r _ [(2, 233), (2, 234), (2, 235), (1, 1)] rfl (by decide +kernel)) gw_wsX8_missing
set_option maxRecDepth 20000 in
theorem gL_law_X9_missing : GoodIn lw_tbl (wsV RL 42 RX9 yX9_missing wsX9_missing) := goodIn_app (gq_r _ [(5, 124), (5, 125), (5, 126), (1, 14)] rfl (by decide +kernel)) gw_wsX9_missing
set_option maxRecDepth 20000 in
theorem gL_law_X8_truth : GoodIn lw_tbl (wsV RL 43 RX8 yX8_truth wsX8_truth) := goodIn_app (gq_r _ [(3, 1), (3, 2), (3, 3), (1, 1)] rfl (by decide +kernel)) gw_wsX8_truth
set_option maxRecDepth 20000 in
theorem gL_law_X9_truth : GoodIn lw_tbl (wsV RL 46 RX9 yX9_truth wsX9_truth) := goodIn_app (gq_r _ [(5, 132), (5, 133), (5, 134), (1, 14)] rfl (by decide +kernel)) gw_wsX9_truth
set_option maxRecDepth 20000 in
theorem gL_law_X8_two : GoodIn lw_tbl (wsV RL 47 RX8 yX8_two wsX8_two) := goodIn_app (gq_r _ [(3, 25), (3, 26), (3, 27), (1, 1)] rfl (by decide +kernel)) gw_wsX8_two
set_option maxRecDepth 20000 in
theorem gL_law_X9_two : GoodIn lw_tbl (wsV RL 50 RX9 yX9_two wsX9_two) := goodIn_app (gq_r _ [(5, 152), (5, 153), (5, 154), (1, 14)] rfl (by decide +kernel)) gw_wsX9_two
set_option maxRecDepth 20000 in
theorem gL_law_X8_feed : GoodIn lw_tbl (wsV RL 51 RX8 yX8_feed wsX8_feed) := goodIn_app (gq_r _ [(3, 33), (3, 34), (3, 35), (1, 1)] rfl (by decide +kernel)) gw_wsX8_feed
set_option maxRecDepth 20000 in
theorem gL_law_X9_feed : GoodIn lw_tbl (wsV RL 55 RX9 yX9_feed wsX9_feed) := goodIn_app (gq_r _ [(5, 160), (5, 161), (5, 162), (1, 14)] rfl (by decide +kernel)) gw_wsX9_feed
set_option maxRecDepth 20000 in
theorem gL_law_X8_text : GoodIn lw_tbl (wsV RL 56 RX8 yX8_text wsX8_text) := goodIn_app (gq_r _ [(3, 40), (2, 20), (2, 21), (1, 1)] rfl (by decide +kernel)) gw_wsX8_text
set_option maxRecDepth 20000 in
theorem gL_law_X9_text : GoodIn lw_tbl (wsV RL 60 RX9 yX9_text wsX9_text) := goodIn_app (gq_r _ [(5, 167), (4, 154), (4, 155), (1, 14)] rfl (by decide +kernel)) gw_wsX9_text
set_option maxRecDepth 20000 in
theorem gL_law_X8_force : GoodIn lw_tbl (wsV RL 61 RX8 yX8_force wsX8_force) := goodIn_app (gq_r _ [(3, 41), (3, 42), (3, 43), (1, 1)] rfl (by decide +kernel)) gw_wsX8_force
set_option maxRecDepth 20000 in
theorem gL_law_X9_force : GoodIn lw_tbl (wsV RL 64 RX9 yX9_force wsX9_force) := goodIn_app (gq_r _ [(5, 168), (5, 169), (5, 170), (1, 14)] rfl (by decide +kernel)) gw_wsX9_force
set_option maxRecDepth 20000 in
theorem gL_law_X8_asks : GoodIn lw_tbl (wsV RL 65 RX8 yX8_asks wsX8_asks) := goodIn_app (gq_r _ [(3, 45), (3, 46), (3, 47), (1, 1)] rfl (by decide +kernel)) gw_wsX8_asks
set_option maxRecDepth 20000 in
theorem gL_law_X9_asks : GoodIn lw_tbl (wsV RL 69 RX9 yX9_asks wsX9_asks) := goodIn_app (gq_r _ [(5, 172), (5, 173), (5, 174), (1, 14)] rfl (by decide +kernel)) gw_wsX9_asks
set_option maxRecDepth 20000 in
theorem gL_law_X8_head : GoodIn lw_tbl (wsV RL 70 RX8 yX8_head wsX8_head) := goodIn_app (gq_r _ [(3, 100), (3, 101), (3, 102), (1, 1)] rfl (by decide +kernel)) gw_wsX8_head
set_option maxRecDepth 20000 in
theorem gL_law_X9_head : GoodIn lw_tbl (wsV RL 74 RX9 yX9_head wsX9_head) := goodIn_app (gq_r _ [(5, 194), (5, 195), (5, 196), (1, 14)] rfl (by decide +kernel)) gw_wsX9_head
set_option maxRecDepth 20000 in
theorem gL_law_X8_set : GoodIn lw_tbl (wsV RL 75 RX8 yX8_set wsX8_set) := goodIn_app (gq_r _ [(3, 107), (3, 108), (3, 109), (1, 1)] rfl (by decide +kernel)) gw_wsX8_set
set_option maxRecDepth 20000 in
theorem gL_law_X9_set : GoodIn lw_tbl (wsV RL 78 RX9 yX9_set wsX9_set) := goodIn_app (gq_r _ [(5, 198), (5, 199), (5, 200), (1, 14)] rfl (by decide +kernel)) gw_wsX9_set
set_option maxRecDepth 20000 in
theorem gL_law_X8_told : GoodIn lw_tbl (wsV RL 79 RX8 yX8_told wsX8_told) := goodIn_app (gq_r _ [(3, 119), (3, 116), (3, 117), (1, 1)] rfl (by decide +kernel)) gw_wsX8_told
set_option maxRecDepth 20000 in
theorem gL_law_X9_told : GoodIn lw_tbl (wsV RL 82 RX9 yX9_told wsX9_told) := goodIn_app (gq_r _ [(5, 206), (5, 207), (5, 208), (1, 14)] rfl (by decide +kernel)) gw_wsX9_told
set_option maxRecDepth 20000 in
theorem gL_law_X8_say : GoodIn lw_tbl (wsV RL 83 RX8 yX8_say wsX8_say) := goodIn_app (gq_r _ [(3, 120), (3, 121), (3, 122), (1, 1)] rfl (by decide +kernel)) gw_wsX8_say
set_option maxRecDepth 20000 in
theorem gL_law_X9_say : GoodIn lw_tbl (wsV RL 86 RX9 yX9_say wsX9_say) := goodIn_app (gq_r _ [(5, 210), (5, 211), (5, 212), (1, 14)] rfl (by decide +kernel)) gw_wsX9_say
set_option maxRecDepth 20000 in
theorem gL_law_X8_keep : GoodIn lw_tbl (wsV RL 87 RX8 yX8_keep wsX8_keep) := goodIn_app (gq_r _ [(3, 165), (3, 166), (3, 167), (1, 1)] rfl (by decide +kernel)) gw_wsX8_keep
set_option maxRecDepth 20000 in
theorem gL_law_X9_keep : GoodIn lw_tbl (wsV RL 90 RX9 yX9_keep wsX9_keep) := goodIn_app (gq_r _ [(6, 7), (6, 8), (6, 9), (1, 14)] rfl (by decide +kernel)) gw_wsX9_keep
set_option maxRecDepth 20000 in
theorem gL_law_X8_right : GoodIn lw_tbl (wsV RL 91 RX8 yX8_right wsX8_right) := goodIn_app (gq_r _ [(3, 172), (3, 173), (3, 174), (1, 1)] rfl (by decide +kernel)) gw_wsX8_right
set_option maxRecDepth 20000 in
theorem gL_law_X9_right : GoodIn lw_tbl (wsV RL 95 RX9 yX9_right wsX9_right) := goodIn_app (gq_r _ [(6, 11), (6, 12), (6, 13), (1, 14)] rfl (by decide +kernel)) gw_wsX9_right
set_option maxRecDepth 20000 in
theorem gL_law_X8_least : GoodIn lw_tbl (wsV RL 96 RX8 yX8_least wsX8_least) := goodIn_app (gq_r _ [(3, 181), (3, 182), (3, 183), (1, 1)] rfl (by decide +kernel)) gw_wsX8_least
set_option maxRecDepth 20000 in
theorem gL_law_X9_least : GoodIn lw_tbl (wsV RL 99 RX9 yX9_least wsX9_least) := goodIn_app (gq_r _ [(6, 20), (6, 21), (6, 22), (1, 14)] rfl (by decide +kernel)) gw_wsX9_least
set_option maxRecDepth 20000 in
theorem gL_law_X8_begin : GoodIn lw_tbl (wsV RL 100 RX8 yX8_begin wsX8_begin) := goodIn_app (gq_r _ [(3, 193), (3, 194), (3, 195), (1, 1)] rfl (by decide +kernel)) gw_wsX8_begin
set_option maxRecDepth 20000 in
theorem gL_law_X9_begin : GoodIn lw_tbl (wsV RL 103 RX9 yX9_begin wsX9_begin) := goodIn_app (gq_r _ [(6, 27), (6, 28), (6, 29), (1, 14)] rfl (by decide +kernel)) gw_wsX9_begin
set_option maxRecDepth 20000 in
theorem gL_law_X8_same : GoodIn lw_tbl (wsV RL 104 RX8 yX8_same wsX8_same) := goodIn_app (gq_r _ [(3, 201), (3, 202), (3, 203), (1, 1)] rfl (by decide +kernel)) gw_wsX8_same
set_option maxRecDepth 20000 in
theorem gL_law_X9_same : GoodIn lw_tbl (wsV RL 107 RX9 yX9_same wsX9_same) := goodIn_app (gq_r _ [(6, 31), (6, 32), (6, 33), (1, 14)] rfl (by decide +kernel)) gw_wsX9_same
set_option maxRecDepth 20000 in
theorem gL_law_X8_share : GoodIn lw_tbl (wsV RL 108 RX8 yX8_share wsX8_share) := goodIn_app (gq_r _ [(3, 209), (3, 210), (3, 211), (1, 1)] rfl (by decide +kernel)) gw_wsX8_share
set_option maxRecDepth 20000 in
theorem gL_law_X9_share : GoodIn lw_tbl (wsV RL 111 RX9 yX9_share wsX9_share) := goodIn_app (gq_r _ [(6, 35), (6, 36), (6, 37), (1, 14)] rfl (by decide +kernel)) gw_wsX9_share
set_option maxRecDepth 20000 in
theorem gL_law_X8_states : GoodIn lw_tbl (wsV RL 112 RX8 yX8_states wsX8_states) := goodIn_app (gq_r _ [(3, 217), (3, 218), (3, 219), (1, 1)] rfl (by decide +kernel)) gw_wsX8_states
set_option maxRecDepth 20000 in
theorem gL_law_X9_states : GoodIn lw_tbl (wsV RL 115 RX9 yX9_states wsX9_states) := goodIn_app (gq_r _ [(6, 43), (6, 44), (6, 45), (1, 14)] rfl (by decide +kernel)) gw_wsX9_states
set_option maxRecDepth 20000 in
theorem gL_law_X8_drop : GoodIn lw_tbl (wsV RL 116 RX8 yX8_drop wsX8_drop) := goodIn_app (gq_r _ [(3, 239), (4, 0), (4, 1), (1, 1)] rfl (by decide +kernel)) gw_wsX8_drop
set_option maxRecDepth 20000 in
theorem gL_law_X9_drop : GoodIn lw_tbl (wsV RL 119 RX9 yX9_drop wsX9_drop) := goodIn_app (gq_r _ [(6, 55), (6, 56), (6, 57), (1, 14)] rfl (by decide +kernel)) gw_wsX9_drop
set_option maxRecDepth 20000 in
theorem gL_law_X8_often : GoodIn lw_tbl (wsV RL 120 RX8 yX8_often wsX8_often) := goodIn_app (gq_r _ [(4, 9), (4, 10), (4, 11), (1, 1)] rfl (by decide +kernel)) gw_wsX8_often
set_option maxRecDepth 20000 in
theorem gL_law_X9_often : GoodIn lw_tbl (wsV RL 123 RX9 yX9_often wsX9_often) := goodIn_app (gq_r _ [(6, 64), (6, 65), (6, 66), (1, 14)] rfl (by decide +kernel)) gw_wsX9_often
