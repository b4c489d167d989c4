/-! the law's words: each in the tables -/
def lw_ch : Nat → List Cond
  | 0 => k2_sels lw_privs
  | 1 => tables_1_1
  | 2 => tables_1_2
  | 3 => tables_1_3
  | 4 => tables_1_4
  | 5 => tables_1_5
  | _ => tables_1_6
theorem lw_ch_in : ∀ (j : Nat) (w : Cond), w ∈ lw_ch j → w ∈ lw_tbl
  | 0, _, h => List.mem_append_left _ h
  | 1, _, h => List.mem_append_right _ (List.mem_append_left _ h)
  | 2, _, h => List.mem_append_right _ (List.mem_append_right _ (List.mem_append_left _ h))
  | 3, _, h => List.mem_append_right _ (List.mem_append_right _ (List.mem_append_right _ (List.mem_append_left _ h)))
  | 4, _, h => List.mem_append_right _ (List.mem_append_right _ (List.mem_append_right _ (List.mem_append_right _ (List.mem_append_left _ h))))
  | 5, _, h => List.mem_append_right _ (List.mem_append_right _ (List.mem_append_right _ (List.mem_append_right _ (List.mem_append_right _ (List.mem_append_left _ h)))))
  | _ + 6, _, h => List.mem_append_right _ (List.mem_append_right _ (List.mem_append_right _ (List.mem_append_right _ (List.mem_append_right _ (List.mem_append_right _ h)))))
theorem gq_r (ws : List Cond) (ps : List (Nat × Nat)) (hp : ws = ps.filterMap (fun q => (lw_ch q.1)[q.2]?)) (h : ws.all goodWord = true) : GoodIn lw_tbl ws := by
  intro w hw
  have h1 := List.all_eq_true.mp h w hw
  rw [hp] at hw
  obtain ⟨q, -, hi⟩ := List.mem_filterMap.mp hw
  exact ⟨lw_ch_in q.1 w (List.mem_of_getElem? hi), good_of_word h1⟩
theorem goodIn_ca2 {big a : List Cond} {c : Cond} (hc : GoodIn big [c]) (ha : GoodIn big a) : GoodIn big (c :: a) := fun w h => (List.mem_cons.mp h).elim (fun e => hc w (by rw [e]; exact List.mem_singleton.mpr rfl)) (ha w)
set_option maxRecDepth 20000 in
theorem gw_wsX8_init_r1 : GoodIn lw_tbl wsX8_init_r1 := gq_r _ [(1, 22), (1, 23), (1, 24), (1, 25), (1, 26), (1, 2), (2, 129), (2, 130), (1, 43), (2, 131), (1, 45), (1, 3), (2, 132), (1, 74), (1, 75), (1, 4), (2, 133), (1, 103), (2, 134), (1, 105), (1, 106), (1, 5), (2, 135), (1, 122)] rfl (by decide +kernel)
set_option maxRecDepth 20000 in
theorem gw_wsX8_init_r2 : GoodIn lw_tbl wsX8_init_r2 := gq_r _ [(1, 123), (1, 6), (2, 136), (1, 42), (2, 137), (1, 132), (2, 138), (1, 134), (1, 135), (1, 7), (2, 139), (2, 140), (2, 141), (2, 142), (2, 143), (1, 169), (1, 8), (1, 188), (1, 9), (1, 28), (1, 29), (1, 30), (1, 31), (1, 34)] rfl (by decide +kernel)
set_option maxRecDepth 20000 in
theorem gw_wsX8_init_r3 : GoodIn lw_tbl wsX8_init_r3 := gq_r _ [(1, 47), (1, 48), (1, 49), (1, 50), (1, 52), (1, 55), (1, 57), (1, 60), (1, 77), (1, 78), (1, 79), (1, 80), (1, 81), (1, 83), (1, 84), (1, 85), (1, 86), (1, 87), (1, 108), (1, 109), (1, 110), (1, 111), (1, 113), (1, 114)] rfl (by decide +kernel)
set_option maxRecDepth 20000 in
theorem gw_wsX8_init_r4 : GoodIn lw_tbl wsX8_init_r4 := gq_r _ [(1, 125), (1, 126), (1, 127), (1, 128), (1, 137), (1, 138), (1, 139), (1, 140), (1, 144), (1, 142), (1, 146), (1, 148), (1, 150), (1, 152), (1, 154), (1, 171), (1, 172), (1, 173), (1, 174), (1, 176), (1, 177), (1, 178), (1, 190), (1, 191)] rfl (by decide +kernel)
set_option maxRecDepth 20000 in
theorem gw_wsX8_init_r5 : GoodIn lw_tbl wsX8_init_r5 := gq_r _ [(1, 192), (1, 193), (1, 195), (1, 197), (1, 207), (1, 208), (1, 209), (1, 10), (1, 210), (6, 158), (1, 211), (1, 212), (1, 213), (1, 214), (1, 215), (6, 159), (1, 217), (1, 218), (1, 219), (1, 220), (1, 221), (1, 222), (1, 223), (1, 224)] rfl (by decide +kernel)
set_option maxRecDepth 20000 in
theorem gw_wsX8_init_r6 : GoodIn lw_tbl wsX8_init_r6 := gq_r _ [(1, 225), (1, 226), (1, 11), (1, 227), (1, 228), (1, 229), (1, 230), (1, 231), (1, 233), (1, 234), (1, 12), (1, 235), (1, 236), (1, 237), (1, 13), (1, 238), (1, 239), (2, 0), (2, 1), (2, 2), (2, 3), (2, 4), (2, 5), (2, 6)] rfl (by decide +kernel)
set_option maxRecDepth 20000 in
theorem gw_wsX8_init_r7 : GoodIn lw_tbl wsX8_init_r7 := gq_r _ [(2, 7), (2, 8), (2, 9), (2, 11), (2, 13), (2, 17), (0, 0), (2, 18), (2, 19), (2, 20), (2, 21), (1, 1), (2, 22), (2, 25), (0, 1), (2, 26), (2, 29), (0, 2), (2, 30), (2, 31), (2, 33), (0, 3), (2, 34), (2, 35)] rfl (by decide +kernel)
set_option maxRecDepth 20000 in
theorem gw_wsX8_init_r8 : GoodIn lw_tbl wsX8_init_r8 := gq_r _ [(2, 36), (2, 37), (2, 38), (2, 39), (2, 40), (2, 41), (2, 43), (0, 4), (2, 44), (2, 45), (2, 47), (0, 5), (2, 48), (2, 50), (2, 52), (0, 6), (2, 53), (2, 54), (2, 55), (2, 67), (2, 68), (2, 69), (2, 70), (2, 72)] rfl (by decide +kernel)
set_option maxRecDepth 20000 in
theorem gw_wsX8_init_r9 : GoodIn lw_tbl wsX8_init_r9 := gq_r _ [(0, 7), (2, 73), (2, 74), (2, 75), (2, 76), (2, 77), (2, 79), (0, 8), (2, 80), (2, 81), (2, 83), (0, 9), (2, 84), (2, 85), (2, 87), (0, 10), (2, 88), (2, 89), (2, 91), (0, 11), (2, 92), (2, 93), (2, 95), (0, 12)] rfl (by decide +kernel)
set_option maxRecDepth 20000 in
theorem gw_wsX8_init_r10 : GoodIn lw_tbl wsX8_init_r10 := gq_r _ [(2, 101), (2, 103), (0, 14), (2, 104), (2, 107), (0, 15), (2, 108), (2, 96), (2, 97), (2, 99), (0, 13), (2, 100), (2, 109), (2, 111), (0, 16), (2, 120), (2, 117), (2, 119), (0, 18), (2, 112), (2, 113), (2, 115), (0, 17), (2, 116)] rfl (by decide +kernel)
set_option maxRecDepth 20000 in
theorem gw_wsX8_init_r11 : GoodIn lw_tbl wsX8_init_r11 := gq_r _ [(2, 123), (0, 19), (2, 124), (2, 125), (2, 127), (0, 20), (2, 128)] rfl (by decide +kernel)
set_option maxRecDepth 20000 in
theorem gw_wsX40 : GoodIn lw_tbl wsX40 := gq_r _ [(1, 37), (1, 39)] rfl (by decide +kernel)
set_option maxRecDepth 20000 in
theorem gw_wsX80 : GoodIn lw_tbl wsX80 := gq_r _ [(2, 144), (2, 146), (2, 148), (2, 150), (2, 152), (2, 154), (2, 156), (2, 158), (2, 160), (2, 162), (2, 164), (2, 166), (2, 168), (2, 170), (2, 172)] rfl (by decide +kernel)
set_option maxRecDepth 20000 in
theorem gw_wsX00 : GoodIn lw_tbl wsX00 := gq_r _ [(1, 63), (1, 65), (1, 67), (1, 69), (1, 71)] rfl (by decide +kernel)
set_option maxRecDepth 20000 in
theorem gw_wsX30 : GoodIn lw_tbl wsX30 := gq_r _ [(1, 88), (1, 90), (1, 92), (1, 94), (1, 96), (1, 98), (1, 100)] rfl (by decide +kernel)
set_option maxRecDepth 20000 in
theorem gw_wsX70 : GoodIn lw_tbl wsX70 := gq_r _ [(1, 115), (1, 117), (1, 119)] rfl (by decide +kernel)
set_option maxRecDepth 20000 in
theorem gw_wsX20 : GoodIn lw_tbl wsX20 := gq_r _ [(1, 129)] rfl (by decide +kernel)
set_option maxRecDepth 20000 in
theorem gw_wsX10 : GoodIn lw_tbl wsX10 := gq_r _ [(1, 156), (1, 158), (1, 160), (1, 162), (1, 164), (1, 166)] rfl (by decide +kernel)
set_option maxRecDepth 20000 in
theorem gw_wsX60 : GoodIn lw_tbl wsX60 := gq_r _ [(1, 179), (1, 181), (1, 183), (1, 185)] rfl (by decide +kernel)
set_option maxRecDepth 20000 in
theorem gw_wsX50 : GoodIn lw_tbl wsX50 := gq_r _ [(1, 199), (1, 201), (1, 203)] rfl (by decide +kernel)
set_option maxRecDepth 20000 in
theorem gw_wsX8_init : GoodIn lw_tbl wsX8_init := goodIn_ca2 (gq_r [.code yX8_init cX8_init 2 none] [(1, 21)] rfl (by decide +kernel)) (goodIn_app (goodIn_app (goodIn_app (goodIn_app (goodIn_app (goodIn_app (goodIn_app (goodIn_app (goodIn_app (goodIn_app (gw_wsX8_init_r1) (goodIn_app (gw_wsX8_init_r2) (goodIn_app (gw_wsX8_init_r3) (goodIn_app (gw_wsX8_init_r4) (goodIn_app (gw_wsX8_init_r5) (goodIn_app (gw_wsX8_init_r6) (goodIn_app (gw_wsX8_init_r7) (goodIn_app (gw_wsX8_init_r8) (goodIn_app (gw_wsX8_init_r9) (goodIn_app (gw_wsX8_init_r10) (gw_wsX8_init_r11))))))))))) (gw_wsX40)) (gw_wsX80)) (gw_wsX00)) (gw_wsX30)) (gw_wsX70)) (gw_wsX20)) (gw_wsX10)) (gw_wsX60)) (gw_wsX50))
set_option maxRecDepth 20000 in
theorem gw_wsX9_init_r1 : GoodIn lw_tbl wsX9_init_r1 := gq_r _ [(4, 152), (1, 23), (1, 24), (4, 200), (1, 42), (4, 201), (4, 204), (4, 205), (4, 206), (4, 207), (4, 209), (4, 210), (4, 218), (4, 219), (4, 220), (4, 221), (4, 222), (4, 223), (4, 228), (4, 229), (4, 233), (4, 234), (4, 235), (4, 239)] rfl (by decide +kernel)
set_option maxRecDepth 20000 in
theorem gw_wsX9_init_r2 : GoodIn lw_tbl wsX9_init_r2 := gq_r _ [(4, 208), (4, 153), (4, 154), (4, 155), (1, 14), (4, 156), (4, 211), (4, 224), (4, 232), (4, 226), (4, 227), (4, 225), (4, 157), (4, 159), (0, 76), (4, 160), (4, 161), (4, 162), (4, 163), (4, 164), (4, 166), (0, 77), (4, 167), (4, 168)] rfl (by decide +kernel)
set_option maxRecDepth 20000 in
theorem gw_wsX9_init_r3 : GoodIn lw_tbl wsX9_init_r3 := gq_r _ [(4, 170), (0, 78), (4, 171), (4, 230), (4, 231), (4, 172), (4, 173), (4, 175), (0, 79), (4, 176), (4, 177), (4, 179), (0, 80), (4, 180), (4, 181), (4, 182), (4, 183), (4, 184), (4, 186), (0, 81), (4, 187), (4, 188), (4, 190), (0, 82)] rfl (by decide +kernel)
set_option maxRecDepth 20000 in
theorem gw_wsX9_init_r4 : GoodIn lw_tbl wsX9_init_r4 := gq_r _ [(4, 191), (4, 192), (4, 194), (0, 83), (4, 195), (4, 196), (4, 198), (0, 84), (4, 199)] rfl (by decide +kernel)
set_option maxRecDepth 20000 in
theorem gw_wsX90 : GoodIn lw_tbl wsX90 := gq_r _ [(5, 1), (5, 3), (5, 5), (5, 7), (5, 9), (5, 11), (5, 13), (5, 15), (5, 17), (5, 19), (5, 21), (5, 23), (5, 25), (5, 27), (5, 29), (5, 31), (5, 33), (5, 35), (5, 37), (5, 39), (5, 41), (5, 43), (5, 45), (5, 47), (5, 49), (5, 51), (5, 53), (5, 55), (5, 57), (5, 59), (5, 61), (5, 63), (5, 65), (5, 67), (5, 69), (5, 71), (5, 73), (5, 75), (5, 77), (5, 79), (5, 81)] rfl (by decide +kernel)
set_option maxRecDepth 20000 in
theorem gw_wsX9_init : GoodIn lw_tbl wsX9_init := goodIn_ca2 (gq_r [.code yX9_init cX9_init 2 none] [(4, 151)] rfl (by decide +kernel)) (goodIn_app (goodIn_app (gw_wsX9_init_r1) (goodIn_app (gw_wsX9_init_r2) (goodIn_app (gw_wsX9_init_r3) (gw_wsX9_init_r4)))) (gw_wsX90))
set_option maxRecDepth 20000 in
theorem gw_wsX8_count : GoodIn lw_tbl wsX8_count := goodIn_ca2 (gq_r [.code yX8_count cX8_count 2 (some .int)] [(2, 179)] rfl (by decide +kernel)) (goodIn_app (goodIn_app (goodIn_app (gq_r _ [(2, 141), (2, 140), (2, 129), (2, 142), (2, 143), (2, 133)] rfl (by decide +kernel)) (gw_wsX80)) (gw_wsX40)) (gw_wsX30))
set_option maxRecDepth 20000 in
theorem gw_wsX9_count : GoodIn lw_tbl wsX9_count := goodIn_ca2 (gq_r [.code yX9_count cX9_count 2 (some .int)] [(5, 87)] rfl (by decide +kernel)) (goodIn_app (gq_r _ [(4, 203), (4, 200), (4, 202), (4, 211), (4, 212), (4, 208)] rfl (by decide +kernel)) (gw_wsX90))
set_option maxRecDepth 20000 in
theorem gw_wsX8_deal : GoodIn lw_tbl wsX8_deal := goodIn_ca2 (gq_r [.code yX8_deal cX8_deal 3 (some .int)] [(2, 183)] rfl (by decide +kernel)) (goodIn_app (goodIn_app (gq_r _ [(2, 140), (2, 129), (2, 186), (1, 2), (0, 21), (2, 187), (1, 34), (1, 31), (2, 188), (2, 190), (0, 22), (2, 191)] rfl (by decide +kernel)) (gw_wsX80)) (gw_wsX40))
set_option maxRecDepth 20000 in
theorem gw_wsX9_deal : GoodIn lw_tbl wsX9_deal := goodIn_ca2 (gq_r [.code yX9_deal cX9_deal 5 (some .int)] [(5, 91)] rfl (by decide +kernel)) (goodIn_app (gq_r _ [(4, 200), (4, 202), (4, 201), (4, 161), (4, 162), (1, 14), (4, 163)] rfl (by decide +kernel)) (gw_wsX90))
set_option maxRecDepth 20000 in
theorem gw_wsX8_card : GoodIn lw_tbl wsX8_card := goodIn_ca2 (gq_r [.code yX8_card cX8_card 2 (some .int)] [(2, 195)] rfl (by decide +kernel)) (goodIn_app (goodIn_app (gq_r _ [(2, 129), (2, 196), (2, 198), (0, 23), (1, 1), (2, 199), (2, 140), (2, 190), (1, 2), (0, 22), (2, 191), (1, 34), (1, 31)] rfl (by decide +kernel)) (gw_wsX80)) (gw_wsX40))
set_option maxRecDepth 20000 in
theorem gw_wsX9_card : GoodIn lw_tbl wsX9_card := goodIn_ca2 (gq_r [.code yX9_card cX9_card 2 (some .int)] [(5, 95)] rfl (by decide +kernel)) (goodIn_app (gq_r _ [(4, 202), (4, 201), (5, 96), (5, 98), (0, 85), (1, 14), (5, 99), (4, 200), (4, 161), (4, 162), (4, 163)] rfl (by decide +kernel)) (gw_wsX90))
set_option maxRecDepth 20000 in
theorem gw_wsX8_fill : GoodIn lw_tbl wsX8_fill := goodIn_ca2 (gq_r [.code yX8_fill cX8_fill 3 (some .int)] [(2, 204)] rfl (by decide +kernel)) (goodIn_app (goodIn_app (gq_r _ [(2, 129), (2, 140), (2, 196), (2, 198), (0, 23), (1, 1), (2, 199), (2, 205), (2, 206), (2, 207), (2, 210), (1, 2), (0, 24), (2, 211), (1, 34), (2, 188), (2, 190), (0, 22), (2, 191), (1, 31)] rfl (by decide +kernel)) (gw_wsX80)) (gw_wsX40))
set_option maxRecDepth 20000 in
theorem gw_wsX9_fill : GoodIn lw_tbl wsX9_fill := goodIn_ca2 (gq_r [.code yX9_fill cX9_fill 4 (some .int)] [(5, 103)] rfl (by decide +kernel)) (goodIn_app (gq_r _ [(4, 236), (4, 202), (4, 201), (4, 235), (5, 96), (5, 98), (0, 85), (1, 14), (5, 99), (4, 200), (4, 161), (4, 162), (4, 163), (5, 104), (5, 106), (0, 86), (5, 107)] rfl (by decide +kernel)) (gw_wsX90))
set_option maxRecDepth 20000 in
theorem gw_wsX8_at : GoodIn lw_tbl wsX8_at := goodIn_ca2 (gq_r [.code yX8_at cX8_at 2 (some .int)] [(2, 215)] rfl (by decide +kernel)) (goodIn_app (goodIn_app (gq_r _ [(2, 129), (2, 218), (1, 2), (0, 25), (2, 219), (1, 34)] rfl (by decide +kernel)) (gw_wsX80)) (gw_wsX40))
set_option maxRecDepth 20000 in
theorem gw_wsX9_at : GoodIn lw_tbl wsX9_at := goodIn_ca2 (gq_r [.code yX9_at cX9_at 2 (some .int)] [(5, 111)] rfl (by decide +kernel)) (goodIn_app (gq_r _ [(4, 202), (4, 201), (4, 161), (4, 162), (1, 14), (4, 163)] rfl (by decide +kernel)) (gw_wsX90))
set_option maxRecDepth 20000 in
theorem gw_wsX8_turn : GoodIn lw_tbl wsX8_turn := goodIn_ca2 (gq_r [.code yX8_turn cX8_turn 2 (some .int)] [(2, 223)] rfl (by decide +kernel)) (goodIn_app (goodIn_app (gq_r _ [(2, 129), (2, 226), (1, 2), (0, 26), (2, 227), (1, 34), (2, 228), (2, 230), (0, 27), (2, 231), (1, 31), (2, 232), (2, 218), (0, 25), (2, 219)] rfl (by decide +kernel)) (gw_wsX80)) (gw_wsX40))
set_option maxRecDepth 20000 in
theorem gw_wsX9_turn : GoodIn lw_tbl wsX9_turn := goodIn_ca2 (gq_r [.code yX9_turn cX9_turn 3 (some .int)] [(5, 115)] rfl (by decide +kernel)) (goodIn_app (gq_r _ [(4, 202), (4, 201), (4, 235), (4, 161), (4, 162), (1, 14), (4, 163), (5, 116), (5, 118), (0, 87), (5, 119), (4, 236), (5, 120), (5, 122), (0, 88), (5, 123)] rfl (by decide +kernel)) (gw_wsX90))
set_option maxRecDepth 20000 in
theorem gw_wsX8_missing : GoodIn lw_tbl wsX8_missing := goodIn_ca2 (gq_r [.code yX8_missing cX8_missing 4 (some .int)] [(2, 236)] rfl (by decide +kernel)) (goodIn_app (goodIn_app (gq_r _ [(2, 140), (2, 129), (2, 239), (1, 2), (0, 28), (3, 0), (1, 34), (1, 31)] rfl (by decide +kernel)) (gw_wsX80)) (gw_wsX40))
set_option maxRecDepth 20000 in
theorem gw_wsX9_missing : GoodIn lw_tbl wsX9_missing := goodIn_ca2 (gq_r [.code yX9_missing cX9_missing 4 (some .int)] [(5, 127)] rfl (by decide +kernel)) (goodIn_app (gq_r _ [(4, 200), (4, 161), (4, 162), (1, 14), (4, 163), (5, 128), (5, 130), (0, 89), (5, 131), (4, 202), (4, 201)] rfl (by decide +kernel)) (gw_wsX90))
set_option maxRecDepth 20000 in
theorem gw_wsX8_truth_r1 : GoodIn lw_tbl wsX8_truth_r1 := gq_r _ [(2, 140), (2, 129), (3, 5), (3, 7), (0, 29), (1, 1), (3, 8), (2, 239), (1, 2), (0, 28), (3, 0), (1, 34), (1, 31), (3, 9), (3, 11), (0, 30), (3, 12), (3, 15), (0, 31), (3, 16), (3, 19), (0, 32), (3, 20), (3, 23)] rfl (by decide +kernel)
set_option maxRecDepth 20000 in
theorem gw_wsX8_truth_r2 : GoodIn lw_tbl wsX8_truth_r2 := gq_r _ [(0, 33), (3, 24)] rfl (by decide +kernel)
set_option maxRecDepth 20000 in
theorem gw_wsX8_truth : GoodIn lw_tbl wsX8_truth := goodIn_ca2 (gq_r [.code yX8_truth cX8_truth 2 (some .int)] [(3, 4)] rfl (by decide +kernel)) (goodIn_app (goodIn_app (goodIn_app (gw_wsX8_truth_r1) (gw_wsX8_truth_r2)) (gw_wsX80)) (gw_wsX40))
set_option maxRecDepth 20000 in
theorem gw_wsX9_truth : GoodIn lw_tbl wsX9_truth := goodIn_ca2 (gq_r [.code yX9_truth cX9_truth 4 (some .int)] [(5, 135)] rfl (by decide +kernel)) (goodIn_app (gq_r _ [(4, 200), (4, 202), (5, 136), (5, 138), (0, 90), (1, 14), (5, 139), (5, 128), (5, 130), (0, 89), (5, 131), (4, 201), (5, 140), (5, 142), (0, 91), (5, 143), (5, 144), (5, 146), (0, 92), (5, 147), (5, 148), (5, 150), (0, 93), (5, 151)] rfl (by decide +kernel)) (gw_wsX90))
set_option maxRecDepth 20000 in
theorem gw_wsX8_two : GoodIn lw_tbl wsX8_two := goodIn_ca2 (gq_r [.code yX8_two cX8_two 6 (some .int)] [(3, 28)] rfl (by decide +kernel)) (goodIn_app (goodIn_app (gq_r _ [(2, 129), (2, 140), (3, 29), (3, 31), (0, 34), (1, 1), (3, 32), (3, 19), (1, 2), (0, 32), (3, 20), (1, 34), (1, 31), (3, 23), (0, 33), (3, 24)] rfl (by decide +kernel)) (gw_wsX80)) (gw_wsX40))
set_option maxRecDepth 20000 in
theorem gw_wsX9_two : GoodIn lw_tbl wsX9_two := goodIn_ca2 (gq_r [.code yX9_two cX9_two 6 (some .int)] [(5, 155)] rfl (by decide +kernel)) (goodIn_app (gq_r _ [(4, 200), (4, 161), (4, 162), (1, 14), (4, 163), (5, 156), (5, 158), (0, 94), (5, 159), (5, 148), (5, 150), (0, 93), (5, 151), (4, 202), (4, 201)] rfl (by decide +kernel)) (gw_wsX90))
set_option maxRecDepth 20000 in
theorem gw_wsX8_feed : GoodIn lw_tbl wsX8_feed := goodIn_ca2 (gq_r [.code yX8_feed cX8_feed 8 (some .int)] [(3, 36)] rfl (by decide +kernel)) (goodIn_app (goodIn_app (gq_r _ [(2, 133), (3, 37), (3, 38), (1, 1), (3, 39), (2, 17), (1, 4), (0, 0), (2, 18), (1, 81), (1, 80)] rfl (by decide +kernel)) (gw_wsX80)) (gw_wsX30))
set_option maxRecDepth 20000 in
theorem gw_wsX9_feed : GoodIn lw_tbl wsX9_feed := goodIn_ca2 (gq_r [.code yX9_feed cX9_feed 8 (some .int)] [(5, 163)] rfl (by decide +kernel)) (goodIn_app (gq_r _ [(4, 208), (4, 207), (4, 161), (4, 162), (1, 14), (4, 163), (5, 164), (5, 165), (5, 166)] rfl (by decide +kernel)) (gw_wsX90))
set_option maxRecDepth 20000 in
theorem gw_wsX8_text_r1 : GoodIn lw_tbl wsX8_text_r1 := gq_r _ [(2, 142), (2, 133), (2, 134), (2, 25), (1, 4), (0, 1), (2, 26), (1, 87), (1, 83), (1, 86), (1, 81), (2, 29), (1, 8), (0, 2), (2, 30), (1, 177), (1, 178), (2, 31), (2, 33), (0, 3), (2, 34), (1, 80), (1, 85), (1, 84)] rfl (by decide +kernel)
set_option maxRecDepth 20000 in
theorem gw_wsX8_text_r2 : GoodIn lw_tbl wsX8_text_r2 := gq_r _ [(2, 35), (2, 36), (2, 37), (2, 38), (2, 39), (2, 40), (2, 41), (2, 43), (0, 4), (2, 44), (2, 45), (2, 47), (0, 5), (2, 48), (2, 50), (2, 52), (0, 6), (2, 53), (2, 54), (1, 208), (1, 209), (1, 10), (1, 210), (6, 158)] rfl (by decide +kernel)
set_option maxRecDepth 20000 in
theorem gw_wsX8_text_r3 : GoodIn lw_tbl wsX8_text_r3 := gq_r _ [(1, 211), (1, 212), (1, 213), (1, 214), (1, 215), (6, 159), (2, 55), (1, 218), (1, 219), (1, 220), (1, 221), (1, 222), (1, 223), (1, 224), (1, 225), (1, 226), (1, 11), (1, 227), (1, 228), (1, 229), (1, 230), (1, 231), (1, 233), (1, 234)] rfl (by decide +kernel)
set_option maxRecDepth 20000 in
theorem gw_wsX8_text_r4 : GoodIn lw_tbl wsX8_text_r4 := gq_r _ [(1, 12), (1, 235), (1, 236), (1, 237), (1, 13), (1, 238), (1, 239), (2, 0), (2, 1), (2, 2), (2, 3), (2, 4), (2, 5), (2, 6), (2, 7), (2, 8), (2, 9), (2, 11), (2, 13), (2, 67), (2, 68), (2, 69), (2, 70), (2, 72)] rfl (by decide +kernel)
set_option maxRecDepth 20000 in
theorem gw_wsX8_text_r5 : GoodIn lw_tbl wsX8_text_r5 := gq_r _ [(0, 7), (2, 73), (2, 74), (2, 75), (2, 76), (2, 77), (2, 79), (0, 8), (2, 80), (2, 81), (2, 83), (0, 9), (2, 84), (2, 85), (2, 87), (0, 10), (2, 88), (2, 89), (2, 91), (0, 11), (2, 92), (2, 93), (2, 95), (0, 12)] rfl (by decide +kernel)
set_option maxRecDepth 20000 in
theorem gw_wsX8_text_r6 : GoodIn lw_tbl wsX8_text_r6 := gq_r _ [(2, 101), (2, 103), (0, 14), (2, 104), (2, 107), (0, 15), (2, 108), (1, 174), (2, 96), (2, 97), (2, 99), (0, 13), (2, 100), (2, 109), (2, 111), (0, 16), (2, 120), (2, 117), (2, 119), (0, 18), (2, 112), (2, 113), (2, 115), (0, 17)] rfl (by decide +kernel)
set_option maxRecDepth 20000 in
theorem gw_wsX8_text_r7 : GoodIn lw_tbl wsX8_text_r7 := gq_r _ [(2, 116), (2, 123), (0, 19), (2, 124), (1, 176), (2, 125), (2, 127), (0, 20), (2, 128)] rfl (by decide +kernel)
set_option maxRecDepth 20000 in
theorem gw_wsX8_text : GoodIn lw_tbl wsX8_text := goodIn_ca2 (gq_r [.code yX8_text cX8_text 2 (some .int)] [(2, 22)] rfl (by decide +kernel)) (goodIn_app (goodIn_app (goodIn_app (goodIn_app (gw_wsX8_text_r1) (goodIn_app (gw_wsX8_text_r2) (goodIn_app (gw_wsX8_text_r3) (goodIn_app (gw_wsX8_text_r4) (goodIn_app (gw_wsX8_text_r5) (goodIn_app (gw_wsX8_text_r6) (gw_wsX8_text_r7))))))) (gw_wsX80)) (gw_wsX30)) (gw_wsX60))
set_option maxRecDepth 20000 in
theorem gw_wsX9_text_r1 : GoodIn lw_tbl wsX9_text_r1 := gq_r _ [(4, 211), (4, 224), (4, 232), (4, 226), (4, 227), (4, 210), (4, 208), (4, 225), (4, 157), (4, 159), (0, 76), (1, 14), (4, 160), (4, 207), (4, 161), (4, 162), (4, 163), (4, 164), (4, 166), (0, 77), (4, 167), (4, 228), (4, 168), (4, 170)] rfl (by decide +kernel)
set_option maxRecDepth 20000 in
theorem gw_wsX9_text_r2 : GoodIn lw_tbl wsX9_text_r2 := gq_r _ [(0, 78), (4, 171), (4, 230), (4, 231), (4, 172), (4, 173), (4, 175), (0, 79), (4, 176), (4, 209), (4, 177), (4, 179), (0, 80), (4, 180), (4, 229), (4, 181), (4, 182), (4, 183), (4, 184), (4, 186), (0, 81), (4, 187), (4, 188), (4, 190)] rfl (by decide +kernel)
set_option maxRecDepth 20000 in
theorem gw_wsX9_text_r3 : GoodIn lw_tbl wsX9_text_r3 := gq_r _ [(0, 82), (4, 191), (4, 192), (4, 194), (0, 83), (4, 195), (4, 196), (4, 198), (0, 84), (4, 199)] rfl (by decide +kernel)
set_option maxRecDepth 20000 in
theorem gw_wsX9_text : GoodIn lw_tbl wsX9_text := goodIn_ca2 (gq_r [.code yX9_text cX9_text 3 (some .int)] [(4, 156)] rfl (by decide +kernel)) (goodIn_app (goodIn_app (gw_wsX9_text_r1) (goodIn_app (gw_wsX9_text_r2) (gw_wsX9_text_r3))) (gw_wsX90))
set_option maxRecDepth 20000 in
theorem gw_wsX8_force : GoodIn lw_tbl wsX8_force := goodIn_ca2 (gq_r [.code yX8_force cX8_force 3 (some .int)] [(3, 44)] rfl (by decide +kernel)) (goodIn_app (gq_r _ [(2, 142), (2, 143)] rfl (by decide +kernel)) (gw_wsX80))
set_option maxRecDepth 20000 in
theorem gw_wsX9_force : GoodIn lw_tbl wsX9_force := goodIn_ca2 (gq_r [.code yX9_force cX9_force 3 (some .int)] [(5, 171)] rfl (by decide +kernel)) (goodIn_app (gq_r _ [(4, 211), (4, 212), (4, 161), (4, 162), (1, 14), (4, 163)] rfl (by decide +kernel)) (gw_wsX90))
set_option maxRecDepth 20000 in
theorem gw_wsX8_asks_r1 : GoodIn lw_tbl wsX8_asks_r1 := gq_r _ [(2, 135), (2, 140), (3, 49), (3, 50), (1, 1), (3, 51), (3, 52), (3, 53), (3, 55), (0, 35), (3, 56), (2, 143), (2, 134), (3, 59), (1, 5), (0, 36), (3, 60), (1, 114), (1, 111), (3, 63), (0, 37), (3, 64), (3, 67), (0, 38)] rfl (by decide +kernel)
set_option maxRecDepth 20000 in
theorem gw_wsX8_asks_r2 : GoodIn lw_tbl wsX8_asks_r2 := gq_r _ [(3, 68), (3, 71), (0, 39), (3, 72), (3, 73), (3, 74), (3, 94), (3, 95), (1, 15), (3, 96), (3, 97), (3, 98), (3, 99), (3, 75), (3, 77), (0, 40), (3, 78), (1, 113), (3, 81), (1, 8), (0, 41), (3, 82), (1, 178), (1, 176)] rfl (by decide +kernel)
set_option maxRecDepth 20000 in
theorem gw_wsX8_asks_r3 : GoodIn lw_tbl wsX8_asks_r3 := gq_r _ [(3, 85), (0, 42), (3, 86), (3, 87), (3, 89), (0, 43), (3, 90), (3, 91), (3, 92), (3, 93)] rfl (by decide +kernel)
set_option maxRecDepth 20000 in
theorem gw_wsX8_asks : GoodIn lw_tbl wsX8_asks := goodIn_ca2 (gq_r [.code yX8_asks cX8_asks 7 (some .int)] [(3, 48)] rfl (by decide +kernel)) (goodIn_app (goodIn_app (goodIn_app (goodIn_app (gw_wsX8_asks_r1) (goodIn_app (gw_wsX8_asks_r2) (gw_wsX8_asks_r3))) (gw_wsX80)) (gw_wsX70)) (gw_wsX60))
set_option maxRecDepth 20000 in
theorem gw_wsX9_asks_r1 : GoodIn lw_tbl wsX9_asks_r1 := gq_r _ [(5, 176), (5, 177), (5, 189), (5, 190), (4, 161), (4, 162), (1, 14), (4, 163), (5, 178), (5, 180), (0, 95), (5, 181), (4, 234), (4, 200), (5, 182), (5, 184), (0, 96), (5, 185), (4, 210), (4, 212), (4, 209), (4, 172), (4, 233), (5, 186)] rfl (by decide +kernel)
set_option maxRecDepth 20000 in
theorem gw_wsX9_asks_r2 : GoodIn lw_tbl wsX9_asks_r2 := gq_r _ [(5, 187), (5, 188), (5, 191), (5, 192), (5, 193)] rfl (by decide +kernel)
set_option maxRecDepth 20000 in
theorem gw_wsX9_asks : GoodIn lw_tbl wsX9_asks := goodIn_ca2 (gq_r [.code yX9_asks cX9_asks 6 (some .int)] [(5, 175)] rfl (by decide +kernel)) (goodIn_app (goodIn_app (gw_wsX9_asks_r1) (gw_wsX9_asks_r2)) (gw_wsX90))
set_option maxRecDepth 20000 in
theorem gw_wsX8_head : GoodIn lw_tbl wsX8_head := goodIn_ca2 (gq_r [.code yX8_head cX8_head 5 (some .int)] [(3, 103)] rfl (by decide +kernel)) (goodIn_app (goodIn_app (gq_r _ [(2, 141), (2, 131), (3, 104), (3, 105), (1, 1), (3, 106), (3, 49), (3, 50), (3, 51), (3, 52)] rfl (by decide +kernel)) (gw_wsX80)) (gw_wsX00))
set_option maxRecDepth 20000 in
theorem gw_wsX9_head : GoodIn lw_tbl wsX9_head := goodIn_ca2 (gq_r [.code yX9_head cX9_head 4 (some .int)] [(5, 197)] rfl (by decide +kernel)) (goodIn_app (gq_r _ [(5, 176), (4, 203), (4, 204), (4, 205), (4, 206), (4, 161), (4, 162), (1, 14), (4, 163)] rfl (by decide +kernel)) (gw_wsX90))
set_option maxRecDepth 20000 in
theorem gw_wsX8_set : GoodIn lw_tbl wsX8_set := goodIn_ca2 (gq_r [.code yX8_set cX8_set 6 (some .int)] [(3, 110)] rfl (by decide +kernel)) (goodIn_app (goodIn_app (gq_r _ [(2, 131), (3, 111), (3, 113), (0, 44), (1, 1), (3, 114), (2, 141), (3, 104), (3, 105), (3, 106), (3, 49), (3, 50), (3, 51), (3, 52), (3, 115), (3, 116), (3, 117), (3, 118)] rfl (by decide +kernel)) (gw_wsX80)) (gw_wsX00))
set_option maxRecDepth 20000 in
theorem gw_wsX9_set : GoodIn lw_tbl wsX9_set := goodIn_ca2 (gq_r [.code yX9_set cX9_set 5 (some .int)] [(5, 201)] rfl (by decide +kernel)) (goodIn_app (gq_r _ [(5, 176), (4, 206), (5, 202), (5, 204), (0, 97), (1, 14), (5, 205), (4, 203), (4, 161), (4, 162), (4, 163)] rfl (by decide +kernel)) (gw_wsX90))
set_option maxRecDepth 20000 in
theorem gw_wsX8_told : GoodIn lw_tbl wsX8_told := goodIn_ca2 (gq_r [.code yX8_told cX8_told 4 (some .int)] [(3, 118)] rfl (by decide +kernel)) (goodIn_app (goodIn_app (gq_r _ [(2, 131), (3, 111), (3, 113), (0, 44), (1, 1), (3, 114), (2, 141)] rfl (by decide +kernel)) (gw_wsX80)) (gw_wsX00))
set_option maxRecDepth 20000 in
theorem gw_wsX9_told : GoodIn lw_tbl wsX9_told := goodIn_ca2 (gq_r [.code yX9_told cX9_told 3 (some .int)] [(5, 209)] rfl (by decide +kernel)) (goodIn_app (gq_r _ [(4, 204), (4, 205), (4, 206), (5, 202), (5, 204), (0, 97), (1, 14), (5, 205), (4, 203), (4, 161), (4, 162), (4, 163)] rfl (by decide +kernel)) (gw_wsX90))
set_option maxRecDepth 20000 in
theorem gw_wsX8_say_r1 : GoodIn lw_tbl wsX8_say_r1 := gq_r _ [(2, 131), (2, 129), (3, 164), (3, 111), (3, 113), (0, 44), (1, 1), (3, 114), (2, 141), (3, 124), (3, 126), (0, 45), (3, 127), (2, 135), (2, 140), (3, 53), (3, 55), (0, 35), (3, 56), (2, 143), (2, 134), (3, 130), (1, 5), (0, 46)] rfl (by decide +kernel)
set_option maxRecDepth 20000 in
theorem gw_wsX8_say_r2 : GoodIn lw_tbl wsX8_say_r2 := gq_r _ [(3, 131), (3, 132), (3, 134), (0, 47), (3, 135), (3, 136), (3, 59), (0, 36), (3, 60), (1, 114), (1, 111), (3, 139), (1, 3), (0, 48), (3, 140), (1, 55), (3, 141), (3, 63), (0, 37), (3, 64), (3, 144), (0, 49), (3, 145), (1, 50)] rfl (by decide +kernel)
set_option maxRecDepth 20000 in
theorem gw_wsX8_say_r3 : GoodIn lw_tbl wsX8_say_r3 := gq_r _ [(1, 52), (3, 146), (3, 148), (0, 50), (3, 149), (3, 150), (3, 152), (0, 51), (3, 153), (3, 156), (0, 52), (3, 157), (3, 158), (3, 67), (0, 38), (3, 68), (3, 75), (3, 77), (0, 40), (3, 78), (1, 113), (3, 81), (1, 8), (0, 41)] rfl (by decide +kernel)
set_option maxRecDepth 20000 in
theorem gw_wsX8_say_r4 : GoodIn lw_tbl wsX8_say_r4 := gq_r _ [(3, 82), (1, 178), (1, 176), (3, 85), (0, 42), (3, 86), (3, 87), (3, 89), (0, 43), (3, 90), (3, 91), (3, 92), (3, 93), (3, 161), (0, 53), (3, 162), (3, 163), (3, 71), (0, 39), (3, 72), (3, 73), (3, 74), (3, 94), (3, 95)] rfl (by decide +kernel)
set_option maxRecDepth 20000 in
theorem gw_wsX8_say_r5 : GoodIn lw_tbl wsX8_say_r5 := gq_r _ [(1, 15), (3, 96), (3, 97), (3, 98), (3, 99)] rfl (by decide +kernel)
set_option maxRecDepth 20000 in
theorem gw_wsX8_say : GoodIn lw_tbl wsX8_say := goodIn_ca2 (gq_r [.code yX8_say cX8_say 2 (some .int)] [(3, 123)] rfl (by decide +kernel)) (goodIn_app (goodIn_app (goodIn_app (goodIn_app (goodIn_app (goodIn_app (gw_wsX8_say_r1) (goodIn_app (gw_wsX8_say_r2) (goodIn_app (gw_wsX8_say_r3) (goodIn_app (gw_wsX8_say_r4) (gw_wsX8_say_r5))))) (gw_wsX80)) (gw_wsX40)) (gw_wsX00)) (gw_wsX70)) (gw_wsX60))
set_option maxRecDepth 20000 in
theorem gw_wsX9_say_r1 : GoodIn lw_tbl wsX9_say_r1 := gq_r _ [(5, 214), (5, 202), (5, 204), (0, 97), (1, 14), (5, 205), (4, 203), (4, 161), (4, 162), (4, 163), (5, 116), (5, 118), (0, 87), (5, 119), (4, 202), (4, 236), (4, 235), (4, 201), (5, 215), (5, 217), (0, 98), (5, 218), (4, 237), (4, 238)] rfl (by decide +kernel)
set_option maxRecDepth 20000 in
theorem gw_wsX9_say_r2 : GoodIn lw_tbl wsX9_say_r2 := gq_r _ [(4, 205), (5, 189), (5, 190), (5, 219), (5, 221), (0, 99), (5, 222), (5, 223), (5, 225), (0, 100), (5, 226), (4, 206), (5, 227), (5, 229), (0, 101), (5, 230), (5, 231), (5, 233), (0, 102), (5, 234), (4, 204), (5, 235), (5, 237), (0, 103)] rfl (by decide +kernel)
set_option maxRecDepth 20000 in
theorem gw_wsX9_say_r3 : GoodIn lw_tbl wsX9_say_r3 := gq_r _ [(5, 238), (5, 239), (6, 1), (0, 104), (6, 2), (5, 178), (5, 180), (0, 95), (5, 181), (4, 234), (4, 200), (5, 182), (5, 184), (0, 96), (5, 185), (4, 210), (4, 212), (4, 209), (4, 172), (4, 233), (5, 186), (5, 187), (5, 188), (6, 3)] rfl (by decide +kernel)
set_option maxRecDepth 20000 in
theorem gw_wsX9_say_r4 : GoodIn lw_tbl wsX9_say_r4 := gq_r _ [(6, 5), (0, 105), (6, 6), (5, 191), (5, 192), (5, 193)] rfl (by decide +kernel)
set_option maxRecDepth 20000 in
theorem gw_wsX9_say : GoodIn lw_tbl wsX9_say := goodIn_ca2 (gq_r [.code yX9_say cX9_say 2 (some .int)] [(5, 213)] rfl (by decide +kernel)) (goodIn_app (goodIn_app (gw_wsX9_say_r1) (goodIn_app (gw_wsX9_say_r2) (goodIn_app (gw_wsX9_say_r3) (gw_wsX9_say_r4)))) (gw_wsX90))
set_option maxRecDepth 20000 in
theorem gw_wsX8_keep_r1 : GoodIn lw_tbl wsX8_keep_r1 := gq_r _ [(2, 129), (2, 131), (2, 135), (2, 140), (3, 111), (3, 113), (0, 44), (1, 1), (3, 114), (2, 141), (3, 53), (3, 55), (0, 35), (3, 56), (2, 143), (2, 134), (3, 134), (1, 5), (0, 47), (3, 135), (3, 136), (3, 59), (0, 36), (3, 60)] rfl (by decide +kernel)
set_option maxRecDepth 20000 in
theorem gw_wsX8_keep_r2 : GoodIn lw_tbl wsX8_keep_r2 := gq_r _ [(1, 114), (1, 111), (3, 139), (1, 3), (0, 48), (3, 140), (1, 55), (3, 141), (3, 63), (0, 37), (3, 64), (3, 144), (0, 49), (3, 145), (1, 50), (1, 52), (3, 148), (0, 50), (3, 149), (3, 150), (3, 152), (0, 51), (3, 153), (3, 156)] rfl (by decide +kernel)
set_option maxRecDepth 20000 in
theorem gw_wsX8_keep_r3 : GoodIn lw_tbl wsX8_keep_r3 := gq_r _ [(0, 52), (3, 157), (3, 158), (3, 67), (0, 38), (3, 68), (3, 75), (3, 77), (0, 40), (3, 78), (1, 113), (3, 81), (1, 8), (0, 41), (3, 82), (1, 178), (1, 176), (3, 85), (0, 42), (3, 86), (3, 87), (3, 89), (0, 43), (3, 90)] rfl (by decide +kernel)
set_option maxRecDepth 20000 in
theorem gw_wsX8_keep_r4 : GoodIn lw_tbl wsX8_keep_r4 := gq_r _ [(3, 91), (3, 92), (3, 93), (3, 161), (0, 53), (3, 162)] rfl (by decide +kernel)
set_option maxRecDepth 20000 in
theorem gw_wsX8_keep : GoodIn lw_tbl wsX8_keep := goodIn_ca2 (gq_r [.code yX8_keep cX8_keep 6 (some .int)] [(3, 168)] rfl (by decide +kernel)) (goodIn_app (goodIn_app (goodIn_app (goodIn_app (goodIn_app (goodIn_app (gw_wsX8_keep_r1) (goodIn_app (gw_wsX8_keep_r2) (goodIn_app (gw_wsX8_keep_r3) (gw_wsX8_keep_r4)))) (gw_wsX80)) (gw_wsX40)) (gw_wsX70)) (gw_wsX00)) (gw_wsX60))
set_option maxRecDepth 20000 in
theorem gw_wsX9_keep_r1 : GoodIn lw_tbl wsX9_keep_r1 := gq_r _ [(4, 202), (4, 237), (4, 238), (5, 202), (5, 204), (0, 97), (1, 14), (5, 205), (4, 203), (4, 161), (4, 162), (4, 163), (5, 116), (5, 118), (0, 87), (5, 119), (4, 236), (4, 235), (4, 201), (5, 219), (5, 221), (0, 99), (5, 222), (5, 223)] rfl (by decide +kernel)
set_option maxRecDepth 20000 in
theorem gw_wsX9_keep_r2 : GoodIn lw_tbl wsX9_keep_r2 := gq_r _ [(5, 225), (0, 100), (5, 226), (4, 206), (5, 227), (5, 229), (0, 101), (5, 230), (5, 231), (5, 233), (0, 102), (5, 234), (4, 204), (4, 205), (5, 235), (5, 237), (0, 103), (5, 238), (5, 239), (6, 1), (0, 104), (6, 2), (5, 178), (5, 180)] rfl (by decide +kernel)
set_option maxRecDepth 20000 in
theorem gw_wsX9_keep_r3 : GoodIn lw_tbl wsX9_keep_r3 := gq_r _ [(0, 95), (5, 181), (4, 234), (4, 200), (5, 182), (5, 184), (0, 96), (5, 185), (4, 210), (4, 212), (4, 209), (4, 172), (4, 233), (5, 186), (5, 187), (5, 188), (6, 3), (6, 5), (0, 105), (6, 6)] rfl (by decide +kernel)
set_option maxRecDepth 20000 in
theorem gw_wsX9_keep : GoodIn lw_tbl wsX9_keep := goodIn_ca2 (gq_r [.code yX9_keep cX9_keep 4 (some .int)] [(6, 10)] rfl (by decide +kernel)) (goodIn_app (goodIn_app (gw_wsX9_keep_r1) (goodIn_app (gw_wsX9_keep_r2) (gw_wsX9_keep_r3))) (gw_wsX90))
set_option maxRecDepth 20000 in
theorem gw_wsX8_right_r1 : GoodIn lw_tbl wsX8_right_r1 := gq_r _ [(3, 176), (2, 140), (2, 131), (3, 111), (3, 113), (0, 44), (1, 1), (3, 114), (2, 141), (2, 205), (2, 206), (2, 207), (3, 53), (3, 55), (0, 35), (3, 56), (2, 143), (2, 134), (3, 177), (3, 179), (0, 54), (3, 180), (2, 130), (2, 135)] rfl (by decide +kernel)
set_option maxRecDepth 20000 in
theorem gw_wsX8_right_r2 : GoodIn lw_tbl wsX8_right_r2 := gq_r _ [(2, 210), (1, 2), (0, 24), (2, 211), (1, 34), (2, 188), (2, 190), (0, 22), (2, 191), (1, 31), (3, 130), (1, 5), (0, 46), (3, 131), (3, 132), (3, 134), (0, 47), (3, 135), (3, 136), (3, 59), (0, 36), (3, 60), (1, 114), (1, 111)] rfl (by decide +kernel)
set_option maxRecDepth 20000 in
theorem gw_wsX8_right_r3 : GoodIn lw_tbl wsX8_right_r3 := gq_r _ [(3, 139), (1, 3), (0, 48), (3, 140), (1, 55), (3, 141), (3, 63), (0, 37), (3, 64), (3, 144), (0, 49), (3, 145), (1, 50), (1, 52), (3, 146), (3, 148), (0, 50), (3, 149), (3, 150), (3, 152), (0, 51), (3, 153), (3, 156), (0, 52)] rfl (by decide +kernel)
set_option maxRecDepth 20000 in
theorem gw_wsX8_right_r4 : GoodIn lw_tbl wsX8_right_r4 := gq_r _ [(3, 157), (3, 158), (3, 67), (0, 38), (3, 68), (3, 75), (3, 77), (0, 40), (3, 78), (1, 113), (3, 81), (1, 8), (0, 41), (3, 82), (1, 178), (1, 176), (3, 85), (0, 42), (3, 86), (3, 87), (3, 89), (0, 43), (3, 90), (3, 91)] rfl (by decide +kernel)
set_option maxRecDepth 20000 in
theorem gw_wsX8_right_r5 : GoodIn lw_tbl wsX8_right_r5 := gq_r _ [(3, 92), (3, 93), (3, 161), (0, 53), (3, 162), (3, 163), (3, 71), (0, 39), (3, 72), (3, 73), (3, 74), (3, 94), (3, 95), (1, 15), (3, 96), (3, 97), (3, 98), (3, 99)] rfl (by decide +kernel)
set_option maxRecDepth 20000 in
theorem gw_wsX8_right : GoodIn lw_tbl wsX8_right := goodIn_ca2 (gq_r [.code yX8_right cX8_right 6 (some .long)] [(3, 175)] rfl (by decide +kernel)) (goodIn_app (goodIn_app (goodIn_app (goodIn_app (goodIn_app (goodIn_app (gw_wsX8_right_r1) (goodIn_app (gw_wsX8_right_r2) (goodIn_app (gw_wsX8_right_r3) (goodIn_app (gw_wsX8_right_r4) (gw_wsX8_right_r5))))) (gw_wsX80)) (gw_wsX40)) (gw_wsX00)) (gw_wsX70)) (gw_wsX60))
set_option maxRecDepth 20000 in
theorem gw_wsX9_right_r1 : GoodIn lw_tbl wsX9_right_r1 := gq_r _ [(6, 19), (5, 202), (5, 204), (0, 97), (1, 14), (5, 205), (4, 203), (4, 161), (4, 162), (4, 163), (6, 15), (6, 17), (0, 106), (6, 18), (4, 200), (5, 104), (5, 106), (0, 86), (5, 107), (4, 236), (4, 235), (5, 215), (5, 217), (0, 98)] rfl (by decide +kernel)
set_option maxRecDepth 20000 in
theorem gw_wsX9_right_r2 : GoodIn lw_tbl wsX9_right_r2 := gq_r _ [(5, 218), (4, 237), (4, 238), (4, 205), (5, 189), (5, 190), (5, 219), (5, 221), (0, 99), (5, 222), (5, 223), (5, 225), (0, 100), (5, 226), (4, 206), (5, 227), (5, 229), (0, 101), (5, 230), (5, 231), (5, 233), (0, 102), (5, 234), (4, 204)] rfl (by decide +kernel)
set_option maxRecDepth 20000 in
theorem gw_wsX9_right_r3 : GoodIn lw_tbl wsX9_right_r3 := gq_r _ [(5, 235), (5, 237), (0, 103), (5, 238), (5, 239), (6, 1), (0, 104), (6, 2), (5, 178), (5, 180), (0, 95), (5, 181), (4, 234), (5, 182), (5, 184), (0, 96), (5, 185), (4, 210), (4, 212), (4, 209), (4, 172), (4, 233), (5, 186), (5, 187)] rfl (by decide +kernel)
set_option maxRecDepth 20000 in
theorem gw_wsX9_right_r4 : GoodIn lw_tbl wsX9_right_r4 := gq_r _ [(5, 188), (6, 3), (6, 5), (0, 105), (6, 6), (5, 191), (5, 192), (5, 193)] rfl (by decide +kernel)
set_option maxRecDepth 20000 in
theorem gw_wsX9_right : GoodIn lw_tbl wsX9_right := goodIn_ca2 (gq_r [.code yX9_right cX9_right 3 (some .long)] [(6, 14)] rfl (by decide +kernel)) (goodIn_app (goodIn_app (gw_wsX9_right_r1) (goodIn_app (gw_wsX9_right_r2) (goodIn_app (gw_wsX9_right_r3) (gw_wsX9_right_r4)))) (gw_wsX90))
set_option maxRecDepth 20000 in
theorem gw_wsX8_least_r1 : GoodIn lw_tbl wsX8_least_r1 := gq_r _ [(2, 132), (2, 131), (3, 111), (3, 113), (0, 44), (1, 1), (3, 114), (2, 141), (3, 187), (1, 3), (0, 55), (3, 188), (1, 50), (1, 52), (1, 55), (1, 57), (1, 60), (3, 189), (3, 191), (0, 56), (3, 192), (2, 140), (3, 53), (3, 55)] rfl (by decide +kernel)
set_option maxRecDepth 20000 in
theorem gw_wsX8_least_r2 : GoodIn lw_tbl wsX8_least_r2 := gq_r _ [(0, 35), (3, 56), (2, 143), (2, 134), (3, 177), (3, 179), (0, 54), (3, 180), (2, 130), (2, 135), (2, 210), (1, 2), (0, 24), (2, 211), (1, 34), (2, 188), (2, 190), (0, 22), (2, 191), (1, 31), (3, 130), (1, 5), (0, 46), (3, 131)] rfl (by decide +kernel)
set_option maxRecDepth 20000 in
theorem gw_wsX8_least_r3 : GoodIn lw_tbl wsX8_least_r3 := gq_r _ [(3, 132), (3, 134), (0, 47), (3, 135), (3, 136), (3, 59), (0, 36), (3, 60), (1, 114), (1, 111), (3, 139), (0, 48), (3, 140), (3, 141), (3, 63), (0, 37), (3, 64), (3, 144), (0, 49), (3, 145), (3, 146), (3, 148), (0, 50), (3, 149)] rfl (by decide +kernel)
set_option maxRecDepth 20000 in
theorem gw_wsX8_least_r4 : GoodIn lw_tbl wsX8_least_r4 := gq_r _ [(3, 150), (3, 152), (0, 51), (3, 153), (3, 156), (0, 52), (3, 157), (3, 158), (3, 67), (0, 38), (3, 68), (3, 75), (3, 77), (0, 40), (3, 78), (1, 113), (3, 81), (1, 8), (0, 41), (3, 82), (1, 178), (1, 176), (3, 85), (0, 42)] rfl (by decide +kernel)
set_option maxRecDepth 20000 in
theorem gw_wsX8_least_r5 : GoodIn lw_tbl wsX8_least_r5 := gq_r _ [(3, 86), (3, 87), (3, 89), (0, 43), (3, 90), (3, 91), (3, 92), (3, 93), (3, 161), (0, 53), (3, 162), (3, 163), (3, 71), (0, 39), (3, 72), (3, 73), (3, 74), (3, 94), (3, 95), (1, 15), (3, 96), (3, 97), (3, 98), (3, 99)] rfl (by decide +kernel)
set_option maxRecDepth 20000 in
theorem gw_wsX8_least : GoodIn lw_tbl wsX8_least := goodIn_ca2 (gq_r [.code yX8_least cX8_least 3 (some .int)] [(3, 184)] rfl (by decide +kernel)) (goodIn_app (goodIn_app (goodIn_app (goodIn_app (goodIn_app (goodIn_app (gw_wsX8_least_r1) (goodIn_app (gw_wsX8_least_r2) (goodIn_app (gw_wsX8_least_r3) (goodIn_app (gw_wsX8_least_r4) (gw_wsX8_least_r5))))) (gw_wsX80)) (gw_wsX00)) (gw_wsX40)) (gw_wsX70)) (gw_wsX60))
set_option maxRecDepth 20000 in
theorem gw_wsX9_least_r1 : GoodIn lw_tbl wsX9_least_r1 := gq_r _ [(4, 206), (4, 200), (5, 202), (5, 204), (0, 97), (1, 14), (5, 205), (4, 203), (4, 161), (4, 162), (4, 163), (6, 15), (6, 17), (0, 106), (6, 18), (5, 104), (5, 106), (0, 86), (5, 107), (4, 236), (4, 235), (5, 215), (5, 217), (0, 98)] rfl (by decide +kernel)
set_option maxRecDepth 20000 in
theorem gw_wsX9_least_r2 : GoodIn lw_tbl wsX9_least_r2 := gq_r _ [(5, 218), (4, 237), (4, 238), (4, 205), (5, 189), (5, 190), (5, 219), (5, 221), (0, 99), (5, 222), (5, 223), (5, 225), (0, 100), (5, 226), (5, 227), (5, 229), (0, 101), (5, 230), (5, 231), (5, 233), (0, 102), (5, 234), (4, 204), (5, 235)] rfl (by decide +kernel)
set_option maxRecDepth 20000 in
theorem gw_wsX9_least_r3 : GoodIn lw_tbl wsX9_least_r3 := gq_r _ [(5, 237), (0, 103), (5, 238), (5, 239), (6, 1), (0, 104), (6, 2), (5, 178), (5, 180), (0, 95), (5, 181), (4, 234), (5, 182), (5, 184), (0, 96), (5, 185), (4, 210), (4, 212), (4, 209), (4, 172), (4, 233), (5, 186), (5, 187), (5, 188)] rfl (by decide +kernel)
set_option maxRecDepth 20000 in
theorem gw_wsX9_least_r4 : GoodIn lw_tbl wsX9_least_r4 := gq_r _ [(6, 3), (6, 5), (0, 105), (6, 6), (5, 191), (5, 192), (5, 193), (6, 24), (6, 25), (6, 26)] rfl (by decide +kernel)
set_option maxRecDepth 20000 in
theorem gw_wsX9_least : GoodIn lw_tbl wsX9_least := goodIn_ca2 (gq_r [.code yX9_least cX9_least 5 (some .int)] [(6, 23)] rfl (by decide +kernel)) (goodIn_app (goodIn_app (gw_wsX9_least_r1) (goodIn_app (gw_wsX9_least_r2) (goodIn_app (gw_wsX9_least_r3) (gw_wsX9_least_r4)))) (gw_wsX90))
set_option maxRecDepth 20000 in
theorem gw_wsX8_begin_r1 : GoodIn lw_tbl wsX8_begin_r1 := gq_r _ [(2, 132), (2, 131), (3, 111), (3, 113), (0, 44), (1, 1), (3, 114), (2, 141), (3, 187), (1, 3), (0, 55), (3, 188), (1, 50), (1, 52), (1, 55), (1, 57), (1, 60), (3, 29), (3, 31), (0, 34), (3, 32), (2, 140), (3, 197), (3, 199)] rfl (by decide +kernel)
set_option maxRecDepth 20000 in
theorem gw_wsX8_begin_r2 : GoodIn lw_tbl wsX8_begin_r2 := gq_r _ [(0, 57), (3, 200), (3, 53), (3, 55), (0, 35), (3, 56), (2, 143), (2, 134), (3, 177), (3, 179), (0, 54), (3, 180), (2, 130), (2, 135), (2, 210), (1, 2), (0, 24), (2, 211), (1, 34), (2, 188), (2, 190), (0, 22), (2, 191), (1, 31)] rfl (by decide +kernel)
set_option maxRecDepth 20000 in
theorem gw_wsX8_begin_r3 : GoodIn lw_tbl wsX8_begin_r3 := gq_r _ [(3, 130), (1, 5), (0, 46), (3, 131), (3, 132), (3, 134), (0, 47), (3, 135), (3, 136), (3, 59), (0, 36), (3, 60), (1, 114), (1, 111), (3, 139), (0, 48), (3, 140), (3, 141), (3, 63), (0, 37), (3, 64), (3, 144), (0, 49), (3, 145)] rfl (by decide +kernel)
set_option maxRecDepth 20000 in
theorem gw_wsX8_begin_r4 : GoodIn lw_tbl wsX8_begin_r4 := gq_r _ [(3, 146), (3, 148), (0, 50), (3, 149), (3, 150), (3, 152), (0, 51), (3, 153), (3, 156), (0, 52), (3, 157), (3, 158), (3, 67), (0, 38), (3, 68), (3, 75), (3, 77), (0, 40), (3, 78), (1, 113), (3, 81), (1, 8), (0, 41), (3, 82)] rfl (by decide +kernel)
set_option maxRecDepth 20000 in
theorem gw_wsX8_begin_r5 : GoodIn lw_tbl wsX8_begin_r5 := gq_r _ [(1, 178), (1, 176), (3, 85), (0, 42), (3, 86), (3, 87), (3, 89), (0, 43), (3, 90), (3, 91), (3, 92), (3, 93), (3, 161), (0, 53), (3, 162), (3, 163), (3, 71), (0, 39), (3, 72), (3, 73), (3, 74), (3, 94), (3, 95), (1, 15)] rfl (by decide +kernel)
set_option maxRecDepth 20000 in
theorem gw_wsX8_begin_r6 : GoodIn lw_tbl wsX8_begin_r6 := gq_r _ [(3, 96), (3, 97), (3, 98), (3, 99)] rfl (by decide +kernel)
set_option maxRecDepth 20000 in
theorem gw_wsX8_begin : GoodIn lw_tbl wsX8_begin := goodIn_ca2 (gq_r [.code yX8_begin cX8_begin 7 (some .int)] [(3, 196)] rfl (by decide +kernel)) (goodIn_app (goodIn_app (goodIn_app (goodIn_app (goodIn_app (goodIn_app (gw_wsX8_begin_r1) (goodIn_app (gw_wsX8_begin_r2) (goodIn_app (gw_wsX8_begin_r3) (goodIn_app (gw_wsX8_begin_r4) (goodIn_app (gw_wsX8_begin_r5) (gw_wsX8_begin_r6)))))) (gw_wsX80)) (gw_wsX00)) (gw_wsX40)) (gw_wsX70)) (gw_wsX60))
set_option maxRecDepth 20000 in
theorem gw_wsX9_begin_r1 : GoodIn lw_tbl wsX9_begin_r1 := gq_r _ [(4, 206), (5, 202), (5, 204), (0, 97), (1, 14), (5, 205), (4, 203), (4, 161), (4, 162), (4, 163), (5, 156), (5, 158), (0, 94), (5, 159), (4, 200), (6, 15), (6, 17), (0, 106), (6, 18), (5, 104), (5, 106), (0, 86), (5, 107), (4, 236)] rfl (by decide +kernel)
set_option maxRecDepth 20000 in
theorem gw_wsX9_begin_r2 : GoodIn lw_tbl wsX9_begin_r2 := gq_r _ [(4, 235), (5, 215), (5, 217), (0, 98), (5, 218), (4, 237), (4, 238), (4, 205), (5, 189), (5, 190), (5, 219), (5, 221), (0, 99), (5, 222), (5, 223), (5, 225), (0, 100), (5, 226), (5, 227), (5, 229), (0, 101), (5, 230), (5, 231), (5, 233)] rfl (by decide +kernel)
set_option maxRecDepth 20000 in
theorem gw_wsX9_begin_r3 : GoodIn lw_tbl wsX9_begin_r3 := gq_r _ [(0, 102), (5, 234), (4, 204), (5, 235), (5, 237), (0, 103), (5, 238), (5, 239), (6, 1), (0, 104), (6, 2), (5, 178), (5, 180), (0, 95), (5, 181), (4, 234), (5, 182), (5, 184), (0, 96), (5, 185), (4, 210), (4, 212), (4, 209), (4, 172)] rfl (by decide +kernel)
set_option maxRecDepth 20000 in
theorem gw_wsX9_begin_r4 : GoodIn lw_tbl wsX9_begin_r4 := gq_r _ [(4, 233), (5, 186), (5, 187), (5, 188), (6, 3), (6, 5), (0, 105), (6, 6), (5, 191), (5, 192), (5, 193), (6, 24), (6, 25), (6, 26)] rfl (by decide +kernel)
set_option maxRecDepth 20000 in
theorem gw_wsX9_begin : GoodIn lw_tbl wsX9_begin := goodIn_ca2 (gq_r [.code yX9_begin cX9_begin 9 (some .int)] [(6, 30)] rfl (by decide +kernel)) (goodIn_app (goodIn_app (gw_wsX9_begin_r1) (goodIn_app (gw_wsX9_begin_r2) (goodIn_app (gw_wsX9_begin_r3) (gw_wsX9_begin_r4)))) (gw_wsX90))
set_option maxRecDepth 20000 in
theorem gw_wsX8_same_r1 : GoodIn lw_tbl wsX8_same_r1 := gq_r _ [(2, 130), (2, 129), (2, 131), (3, 111), (3, 113), (0, 44), (1, 1), (3, 114), (2, 141), (3, 207), (1, 2), (0, 58), (3, 208), (1, 34), (1, 31), (2, 188), (2, 190), (0, 22), (2, 191), (2, 226), (0, 26), (2, 227), (2, 228), (2, 230)] rfl (by decide +kernel)
set_option maxRecDepth 20000 in
theorem gw_wsX8_same_r2 : GoodIn lw_tbl wsX8_same_r2 := gq_r _ [(0, 27), (2, 231), (2, 232), (2, 218), (0, 25), (2, 219), (3, 124), (3, 126), (0, 45), (3, 127), (2, 135), (2, 140), (3, 53), (3, 55), (0, 35), (3, 56), (2, 143), (2, 134), (3, 130), (1, 5), (0, 46), (3, 131), (3, 132), (3, 134)] rfl (by decide +kernel)
set_option maxRecDepth 20000 in
theorem gw_wsX8_same_r3 : GoodIn lw_tbl wsX8_same_r3 := gq_r _ [(0, 47), (3, 135), (3, 136), (3, 59), (0, 36), (3, 60), (1, 114), (1, 111), (3, 139), (1, 3), (0, 48), (3, 140), (1, 55), (3, 141), (3, 63), (0, 37), (3, 64), (3, 144), (0, 49), (3, 145), (1, 50), (1, 52), (3, 146), (3, 148)] rfl (by decide +kernel)
set_option maxRecDepth 20000 in
theorem gw_wsX8_same_r4 : GoodIn lw_tbl wsX8_same_r4 := gq_r _ [(0, 50), (3, 149), (3, 150), (3, 152), (0, 51), (3, 153), (3, 156), (0, 52), (3, 157), (3, 158), (3, 67), (0, 38), (3, 68), (3, 75), (3, 77), (0, 40), (3, 78), (1, 113), (3, 81), (1, 8), (0, 41), (3, 82), (1, 178), (1, 176)] rfl (by decide +kernel)
set_option maxRecDepth 20000 in
theorem gw_wsX8_same_r5 : GoodIn lw_tbl wsX8_same_r5 := gq_r _ [(3, 85), (0, 42), (3, 86), (3, 87), (3, 89), (0, 43), (3, 90), (3, 91), (3, 92), (3, 93), (3, 161), (0, 53), (3, 162), (3, 163), (3, 71), (0, 39), (3, 72), (3, 73), (3, 74), (3, 94), (3, 95), (1, 15), (3, 96), (3, 97)] rfl (by decide +kernel)
set_option maxRecDepth 20000 in
theorem gw_wsX8_same_r6 : GoodIn lw_tbl wsX8_same_r6 := gq_r _ [(3, 98), (3, 99)] rfl (by decide +kernel)
set_option maxRecDepth 20000 in
theorem gw_wsX8_same : GoodIn lw_tbl wsX8_same := goodIn_ca2 (gq_r [.code yX8_same cX8_same 3 (some .int)] [(3, 204)] rfl (by decide +kernel)) (goodIn_app (goodIn_app (goodIn_app (goodIn_app (goodIn_app (goodIn_app (gw_wsX8_same_r1) (goodIn_app (gw_wsX8_same_r2) (goodIn_app (gw_wsX8_same_r3) (goodIn_app (gw_wsX8_same_r4) (goodIn_app (gw_wsX8_same_r5) (gw_wsX8_same_r6)))))) (gw_wsX80)) (gw_wsX40)) (gw_wsX00)) (gw_wsX70)) (gw_wsX60))
set_option maxRecDepth 20000 in
theorem gw_wsX9_same_r1 : GoodIn lw_tbl wsX9_same_r1 := gq_r _ [(5, 202), (5, 204), (0, 97), (1, 14), (5, 205), (4, 203), (4, 161), (4, 162), (4, 163), (5, 116), (5, 118), (0, 87), (5, 119), (4, 202), (4, 236), (4, 235), (4, 201), (5, 215), (5, 217), (0, 98), (5, 218), (4, 237), (4, 238), (4, 205)] rfl (by decide +kernel)
set_option maxRecDepth 20000 in
theorem gw_wsX9_same_r2 : GoodIn lw_tbl wsX9_same_r2 := gq_r _ [(5, 189), (5, 190), (5, 219), (5, 221), (0, 99), (5, 222), (5, 223), (5, 225), (0, 100), (5, 226), (4, 206), (5, 227), (5, 229), (0, 101), (5, 230), (5, 231), (5, 233), (0, 102), (5, 234), (4, 204), (5, 235), (5, 237), (0, 103), (5, 238)] rfl (by decide +kernel)
set_option maxRecDepth 20000 in
theorem gw_wsX9_same_r3 : GoodIn lw_tbl wsX9_same_r3 := gq_r _ [(5, 239), (6, 1), (0, 104), (6, 2), (5, 178), (5, 180), (0, 95), (5, 181), (4, 234), (4, 200), (5, 182), (5, 184), (0, 96), (5, 185), (4, 210), (4, 212), (4, 209), (4, 172), (4, 233), (5, 186), (5, 187), (5, 188), (6, 3), (6, 5)] rfl (by decide +kernel)
set_option maxRecDepth 20000 in
theorem gw_wsX9_same_r4 : GoodIn lw_tbl wsX9_same_r4 := gq_r _ [(0, 105), (6, 6), (5, 191), (5, 192), (5, 193), (5, 120), (5, 122), (0, 88), (5, 123)] rfl (by decide +kernel)
set_option maxRecDepth 20000 in
theorem gw_wsX9_same : GoodIn lw_tbl wsX9_same := goodIn_ca2 (gq_r [.code yX9_same cX9_same 4 (some .int)] [(6, 34)] rfl (by decide +kernel)) (goodIn_app (goodIn_app (gw_wsX9_same_r1) (goodIn_app (gw_wsX9_same_r2) (goodIn_app (gw_wsX9_same_r3) (gw_wsX9_same_r4)))) (gw_wsX90))
set_option maxRecDepth 20000 in
theorem gw_wsX8_share_r1 : GoodIn lw_tbl wsX8_share_r1 := gq_r _ [(3, 164), (2, 130), (2, 129), (2, 131), (3, 111), (3, 113), (0, 44), (1, 1), (3, 114), (2, 141), (3, 215), (1, 2), (0, 59), (3, 216), (1, 34), (1, 31), (2, 188), (2, 190), (0, 22), (2, 191), (3, 124), (3, 126), (0, 45), (3, 127)] rfl (by decide +kernel)
set_option maxRecDepth 20000 in
theorem gw_wsX8_share_r2 : GoodIn lw_tbl wsX8_share_r2 := gq_r _ [(2, 135), (2, 140), (3, 53), (3, 55), (0, 35), (3, 56), (2, 143), (2, 134), (3, 130), (1, 5), (0, 46), (3, 131), (3, 132), (3, 134), (0, 47), (3, 135), (3, 136), (3, 59), (0, 36), (3, 60), (1, 114), (1, 111), (3, 139), (1, 3)] rfl (by decide +kernel)
set_option maxRecDepth 20000 in
theorem gw_wsX8_share_r3 : GoodIn lw_tbl wsX8_share_r3 := gq_r _ [(0, 48), (3, 140), (1, 55), (3, 141), (3, 63), (0, 37), (3, 64), (3, 144), (0, 49), (3, 145), (1, 50), (1, 52), (3, 146), (3, 148), (0, 50), (3, 149), (3, 150), (3, 152), (0, 51), (3, 153), (3, 156), (0, 52), (3, 157), (3, 158)] rfl (by decide +kernel)
set_option maxRecDepth 20000 in
theorem gw_wsX8_share_r4 : GoodIn lw_tbl wsX8_share_r4 := gq_r _ [(3, 67), (0, 38), (3, 68), (3, 75), (3, 77), (0, 40), (3, 78), (1, 113), (3, 81), (1, 8), (0, 41), (3, 82), (1, 178), (1, 176), (3, 85), (0, 42), (3, 86), (3, 87), (3, 89), (0, 43), (3, 90), (3, 91), (3, 92), (3, 93)] rfl (by decide +kernel)
set_option maxRecDepth 20000 in
theorem gw_wsX8_share_r5 : GoodIn lw_tbl wsX8_share_r5 := gq_r _ [(3, 161), (0, 53), (3, 162), (3, 163), (3, 71), (0, 39), (3, 72), (3, 73), (3, 74), (3, 94), (3, 95), (1, 15), (3, 96), (3, 97), (3, 98), (3, 99)] rfl (by decide +kernel)
set_option maxRecDepth 20000 in
theorem gw_wsX8_share : GoodIn lw_tbl wsX8_share := goodIn_ca2 (gq_r [.code yX8_share cX8_share 4 (some .int)] [(3, 212)] rfl (by decide +kernel)) (goodIn_app (goodIn_app (goodIn_app (goodIn_app (goodIn_app (goodIn_app (gw_wsX8_share_r1) (goodIn_app (gw_wsX8_share_r2) (goodIn_app (gw_wsX8_share_r3) (goodIn_app (gw_wsX8_share_r4) (gw_wsX8_share_r5))))) (gw_wsX80)) (gw_wsX40)) (gw_wsX00)) (gw_wsX70)) (gw_wsX60))
set_option maxRecDepth 20000 in
theorem gw_wsX9_share_r1 : GoodIn lw_tbl wsX9_share_r1 := gq_r _ [(5, 214), (5, 202), (5, 204), (0, 97), (1, 14), (5, 205), (4, 203), (4, 161), (4, 162), (4, 163), (6, 39), (6, 41), (0, 107), (6, 42), (4, 236), (4, 202), (4, 235), (4, 201), (5, 215), (5, 217), (0, 98), (5, 218), (4, 237), (4, 238)] rfl (by decide +kernel)
set_option maxRecDepth 20000 in
theorem gw_wsX9_share_r2 : GoodIn lw_tbl wsX9_share_r2 := gq_r _ [(4, 205), (5, 189), (5, 190), (5, 219), (5, 221), (0, 99), (5, 222), (5, 223), (5, 225), (0, 100), (5, 226), (4, 206), (5, 227), (5, 229), (0, 101), (5, 230), (5, 231), (5, 233), (0, 102), (5, 234), (4, 204), (5, 235), (5, 237), (0, 103)] rfl (by decide +kernel)
set_option maxRecDepth 20000 in
theorem gw_wsX9_share_r3 : GoodIn lw_tbl wsX9_share_r3 := gq_r _ [(5, 238), (5, 239), (6, 1), (0, 104), (6, 2), (5, 178), (5, 180), (0, 95), (5, 181), (4, 234), (4, 200), (5, 182), (5, 184), (0, 96), (5, 185), (4, 210), (4, 212), (4, 209), (4, 172), (4, 233), (5, 186), (5, 187), (5, 188), (6, 3)] rfl (by decide +kernel)
set_option maxRecDepth 20000 in
theorem gw_wsX9_share_r4 : GoodIn lw_tbl wsX9_share_r4 := gq_r _ [(6, 5), (0, 105), (6, 6), (5, 191), (5, 192), (5, 193)] rfl (by decide +kernel)
set_option maxRecDepth 20000 in
theorem gw_wsX9_share : GoodIn lw_tbl wsX9_share := goodIn_ca2 (gq_r [.code yX9_share cX9_share 4 (some .int)] [(6, 38)] rfl (by decide +kernel)) (goodIn_app (goodIn_app (gw_wsX9_share_r1) (goodIn_app (gw_wsX9_share_r2) (goodIn_app (gw_wsX9_share_r3) (gw_wsX9_share_r4)))) (gw_wsX90))
set_option maxRecDepth 20000 in
theorem gw_wsX8_states_r1 : GoodIn lw_tbl wsX8_states_r1 := gq_r _ [(2, 140), (2, 135), (2, 131), (2, 137), (3, 111), (3, 113), (0, 44), (1, 1), (3, 114), (2, 141), (3, 53), (3, 55), (0, 35), (3, 56), (2, 143), (2, 134), (3, 134), (1, 5), (0, 47), (3, 135), (3, 136), (3, 59), (0, 36), (3, 60)] rfl (by decide +kernel)
set_option maxRecDepth 20000 in
theorem gw_wsX8_states_r2 : GoodIn lw_tbl wsX8_states_r2 := gq_r _ [(1, 114), (1, 111), (3, 139), (1, 3), (0, 48), (3, 140), (1, 55), (3, 141), (3, 63), (0, 37), (3, 64), (3, 223), (0, 60), (3, 224), (3, 225), (3, 227), (0, 61), (3, 228), (3, 231), (0, 62), (3, 232), (3, 233), (3, 152), (0, 51)] rfl (by decide +kernel)
set_option maxRecDepth 20000 in
theorem gw_wsX8_states_r3 : GoodIn lw_tbl wsX8_states_r3 := gq_r _ [(3, 153), (3, 156), (0, 52), (3, 157), (1, 50), (1, 52), (3, 158), (3, 67), (0, 38), (3, 68), (3, 75), (3, 77), (0, 40), (3, 78), (1, 113), (3, 81), (1, 8), (0, 41), (3, 82), (1, 178), (1, 176), (3, 85), (0, 42), (3, 86)] rfl (by decide +kernel)
set_option maxRecDepth 20000 in
theorem gw_wsX8_states_r4 : GoodIn lw_tbl wsX8_states_r4 := gq_r _ [(3, 87), (3, 89), (0, 43), (3, 90), (3, 91), (3, 92), (3, 93), (3, 161), (0, 53), (3, 162), (3, 235), (3, 237), (0, 63), (3, 238)] rfl (by decide +kernel)
set_option maxRecDepth 20000 in
theorem gw_wsX8_states : GoodIn lw_tbl wsX8_states := goodIn_ca2 (gq_r [.code yX8_states cX8_states 8 (some .int)] [(3, 220)] rfl (by decide +kernel)) (goodIn_app (goodIn_app (goodIn_app (goodIn_app (goodIn_app (gw_wsX8_states_r1) (goodIn_app (gw_wsX8_states_r2) (goodIn_app (gw_wsX8_states_r3) (gw_wsX8_states_r4)))) (gw_wsX80)) (gw_wsX00)) (gw_wsX70)) (gw_wsX60))
set_option maxRecDepth 20000 in
theorem gw_wsX9_states_r1 : GoodIn lw_tbl wsX9_states_r1 := gq_r _ [(4, 200), (5, 0), (5, 202), (5, 204), (0, 97), (1, 14), (5, 205), (4, 203), (4, 161), (4, 162), (4, 163), (6, 47), (6, 49), (0, 108), (6, 50), (5, 223), (5, 225), (0, 100), (5, 226), (4, 206), (4, 237), (4, 238), (5, 227), (5, 229)] rfl (by decide +kernel)
set_option maxRecDepth 20000 in
theorem gw_wsX9_states_r2 : GoodIn lw_tbl wsX9_states_r2 := gq_r _ [(0, 101), (5, 230), (5, 235), (5, 237), (0, 103), (5, 238), (4, 205), (5, 239), (6, 1), (0, 104), (6, 2), (4, 204), (5, 178), (5, 180), (0, 95), (5, 181), (4, 234), (5, 182), (5, 184), (0, 96), (5, 185), (4, 210), (4, 212), (4, 209)] rfl (by decide +kernel)
set_option maxRecDepth 20000 in
theorem gw_wsX9_states_r3 : GoodIn lw_tbl wsX9_states_r3 := gq_r _ [(4, 172), (4, 233), (5, 186), (5, 187), (5, 188), (6, 3), (6, 5), (0, 105), (6, 6), (6, 51), (6, 53), (0, 109), (6, 54), (4, 239)] rfl (by decide +kernel)
set_option maxRecDepth 20000 in
theorem gw_wsX9_states : GoodIn lw_tbl wsX9_states := goodIn_ca2 (gq_r [.code yX9_states cX9_states 8 (some .int)] [(6, 46)] rfl (by decide +kernel)) (goodIn_app (goodIn_app (gw_wsX9_states_r1) (goodIn_app (gw_wsX9_states_r2) (gw_wsX9_states_r3))) (gw_wsX90))
set_option maxRecDepth 20000 in
theorem gw_wsX8_drop_r1 : GoodIn lw_tbl wsX8_drop_r1 := gq_r _ [(3, 164), (4, 3), (4, 4), (2, 129), (2, 130), (2, 131), (3, 111), (3, 113), (0, 44), (1, 1), (3, 114), (2, 141), (4, 7), (1, 2), (0, 64), (4, 8), (1, 34), (1, 31), (2, 188), (2, 190), (0, 22), (2, 191), (3, 124), (3, 126)] rfl (by decide +kernel)
set_option maxRecDepth 20000 in
theorem gw_wsX8_drop_r2 : GoodIn lw_tbl wsX8_drop_r2 := gq_r _ [(0, 45), (3, 127), (2, 135), (2, 140), (3, 53), (3, 55), (0, 35), (3, 56), (2, 143), (2, 134), (3, 130), (1, 5), (0, 46), (3, 131), (3, 132), (3, 134), (0, 47), (3, 135), (3, 136), (3, 59), (0, 36), (3, 60), (1, 114), (1, 111)] rfl (by decide +kernel)
set_option maxRecDepth 20000 in
theorem gw_wsX8_drop_r3 : GoodIn lw_tbl wsX8_drop_r3 := gq_r _ [(3, 139), (1, 3), (0, 48), (3, 140), (1, 55), (3, 141), (3, 63), (0, 37), (3, 64), (3, 144), (0, 49), (3, 145), (1, 50), (1, 52), (3, 146), (3, 148), (0, 50), (3, 149), (3, 150), (3, 152), (0, 51), (3, 153), (3, 156), (0, 52)] rfl (by decide +kernel)
set_option maxRecDepth 20000 in
theorem gw_wsX8_drop_r4 : GoodIn lw_tbl wsX8_drop_r4 := gq_r _ [(3, 157), (3, 158), (3, 67), (0, 38), (3, 68), (3, 75), (3, 77), (0, 40), (3, 78), (1, 113), (3, 81), (1, 8), (0, 41), (3, 82), (1, 178), (1, 176), (3, 85), (0, 42), (3, 86), (3, 87), (3, 89), (0, 43), (3, 90), (3, 91)] rfl (by decide +kernel)
set_option maxRecDepth 20000 in
theorem gw_wsX8_drop_r5 : GoodIn lw_tbl wsX8_drop_r5 := gq_r _ [(3, 92), (3, 93), (3, 161), (0, 53), (3, 162), (3, 163), (3, 71), (0, 39), (3, 72), (3, 73), (3, 74), (3, 94), (3, 95), (1, 15), (3, 96), (3, 97), (3, 98), (3, 99)] rfl (by decide +kernel)
set_option maxRecDepth 20000 in
theorem gw_wsX8_drop : GoodIn lw_tbl wsX8_drop := goodIn_ca2 (gq_r [.code yX8_drop cX8_drop 7 (some .int)] [(4, 2)] rfl (by decide +kernel)) (goodIn_app (goodIn_app (goodIn_app (goodIn_app (goodIn_app (goodIn_app (gw_wsX8_drop_r1) (goodIn_app (gw_wsX8_drop_r2) (goodIn_app (gw_wsX8_drop_r3) (goodIn_app (gw_wsX8_drop_r4) (gw_wsX8_drop_r5))))) (gw_wsX80)) (gw_wsX40)) (gw_wsX00)) (gw_wsX70)) (gw_wsX60))
