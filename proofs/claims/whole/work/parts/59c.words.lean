/-! the law's words, on -/
set_option maxRecDepth 20000 in
theorem gL_law_X8_who : GoodIn lw_tbl (wsV RL 124 RX8 yX8_who wsX8_who) := goodIn_app (gq_r _ [(4, 14), (4, 15), (4, 16), (1, 1)] rfl (by decide +kernel)) gw_wsX8_who
set_option maxRecDepth 20000 in
theorem gL_law_X9_who : GoodIn lw_tbl (wsV RL 127 RX9 yX9_who wsX9_who) := goodIn_app (gq_r _ [(6, 68), (6, 69), (6, 70), (1, 14)] rfl (by decide +kernel)) gw_wsX9_who
set_option maxRecDepth 20000 in
theorem gL_law_X8_judge : GoodIn lw_tbl (wsV RL 128 RX8 yX8_judge wsX8_judge) := goodIn_app (gq_r _ [(4, 18), (4, 19), (4, 20), (1, 1)] rfl (by decide +kernel)) gw_wsX8_judge
set_option maxRecDepth 20000 in
theorem gL_law_X9_judge : GoodIn lw_tbl (wsV RL 131 RX9 yX9_judge wsX9_judge) := goodIn_app (gq_r _ [(6, 72), (6, 73), (6, 74), (1, 14)] rfl (by decide +kernel)) gw_wsX9_judge
set_option maxRecDepth 20000 in
theorem gL_law_X8_kinds : GoodIn lw_tbl (wsV RL 132 RX8 yX8_kinds wsX8_kinds) := goodIn_app (gq_r _ [(4, 41), (4, 42), (4, 43), (1, 1)] rfl (by decide +kernel)) gw_wsX8_kinds
set_option maxRecDepth 20000 in
theorem gL_law_X9_kinds : GoodIn lw_tbl (wsV RL 135 RX9 yX9_kinds wsX9_kinds) := goodIn_app (gq_r _ [(6, 88), (6, 89), (6, 90), (1, 14)] rfl (by decide +kernel)) gw_wsX9_kinds
set_option maxRecDepth 20000 in
theorem gL_law_X8_begins : GoodIn lw_tbl (wsV RL 136 RX8 yX8_begins wsX8_begins) := goodIn_app (gq_r _ [(4, 45), (4, 46), (4, 47), (1, 1)] rfl (by decide +kernel)) gw_wsX8_begins
set_option maxRecDepth 20000 in
theorem gL_law_X9_begins : GoodIn lw_tbl (wsV RL 139 RX9 yX9_begins wsX9_begins) := goodIn_app (gq_r _ [(6, 92), (6, 93), (6, 94), (1, 14)] rfl (by decide +kernel)) gw_wsX9_begins
set_option maxRecDepth 20000 in
theorem gL_law_X8_laws : GoodIn lw_tbl (wsV RL 140 RX8 yX8_laws wsX8_laws) := goodIn_app (gq_r _ [(4, 49), (4, 50), (4, 51), (1, 1)] rfl (by decide +kernel)) gw_wsX8_laws
set_option maxRecDepth 20000 in
theorem gL_law_X9_laws : GoodIn lw_tbl (wsV RL 143 RX9 yX9_laws wsX9_laws) := goodIn_app (gq_r _ [(6, 96), (6, 97), (6, 98), (1, 14)] rfl (by decide +kernel)) gw_wsX9_laws
set_option maxRecDepth 20000 in
theorem gL_law_X8_whose : GoodIn lw_tbl (wsV RL 144 RX8 yX8_whose wsX8_whose) := goodIn_app (gq_r _ [(4, 53), (4, 54), (4, 55), (1, 1)] rfl (by decide +kernel)) gw_wsX8_whose
set_option maxRecDepth 20000 in
theorem gL_law_X9_whose : GoodIn lw_tbl (wsV RL 147 RX9 yX9_whose wsX9_whose) := goodIn_app (gq_r _ [(6, 100), (6, 101), (6, 102), (1, 14)] rfl (by decide +kernel)) gw_wsX9_whose
set_option maxRecDepth 20000 in
theorem gL_law_X8_film : GoodIn lw_tbl (wsV RL 148 RX8 yX8_film wsX8_film) := goodIn_app (gq_r _ [(4, 57), (4, 58), (4, 59), (1, 1)] rfl (by decide +kernel)) gw_wsX8_film
set_option maxRecDepth 20000 in
theorem gL_law_X9_film : GoodIn lw_tbl (wsV RL 151 RX9 yX9_film wsX9_film) := goodIn_app (gq_r _ [(6, 104), (6, 105), (6, 106), (1, 14)] rfl (by decide +kernel)) gw_wsX9_film
set_option maxRecDepth 20000 in
theorem gL_law_X8_drawn : GoodIn lw_tbl (wsV RL 152 RX8 yX8_drawn wsX8_drawn) := goodIn_app (gq_r _ [(4, 75), (4, 76), (4, 77), (1, 1)] rfl (by decide +kernel)) gw_wsX8_drawn
set_option maxRecDepth 20000 in
theorem gL_law_X9_drawn : GoodIn lw_tbl (wsV RL 155 RX9 yX9_drawn wsX9_drawn) := goodIn_app (gq_r _ [(6, 108), (6, 109), (6, 110), (1, 14)] rfl (by decide +kernel)) gw_wsX9_drawn
set_option maxRecDepth 20000 in
theorem gL_law_X8_odds : GoodIn lw_tbl (wsV RL 156 RX8 yX8_odds wsX8_odds) := goodIn_app (gq_r _ [(4, 98), (4, 99), (4, 100), (1, 1)] rfl (by decide +kernel)) gw_wsX8_odds
set_option maxRecDepth 20000 in
theorem gL_law_X9_odds : GoodIn lw_tbl (wsV RL 160 RX9 yX9_odds wsX9_odds) := goodIn_app (gq_r _ [(6, 119), (6, 120), (6, 121), (1, 14)] rfl (by decide +kernel)) gw_wsX9_odds
set_option maxRecDepth 20000 in
theorem gL_law_X8_image : GoodIn lw_tbl (wsV RL 161 RX8 yX8_image wsX8_image) := goodIn_app (gq_r _ [(4, 105), (4, 106), (4, 107), (1, 1)] rfl (by decide +kernel)) gw_wsX8_image
set_option maxRecDepth 20000 in
theorem gL_law_X9_image : GoodIn lw_tbl (wsV RL 164 RX9 yX9_image wsX9_image) := goodIn_app (gq_r _ [(6, 126), (6, 127), (6, 128), (1, 14)] rfl (by decide +kernel)) gw_wsX9_image
set_option maxRecDepth 20000 in
theorem gL_law_X8_back : GoodIn lw_tbl (wsV RL 165 RX8 yX8_back wsX8_back) := goodIn_app (gq_r _ [(4, 109), (4, 110), (4, 111), (1, 1)] rfl (by decide +kernel)) gw_wsX8_back
set_option maxRecDepth 20000 in
theorem gL_law_X9_back : GoodIn lw_tbl (wsV RL 168 RX9 yX9_back wsX9_back) := goodIn_app (gq_r _ [(6, 130), (6, 131), (6, 132), (1, 14)] rfl (by decide +kernel)) gw_wsX9_back
set_option maxRecDepth 20000 in
theorem gL_law_X8_sheet : GoodIn lw_tbl (wsV RL 169 RX8 yX8_sheet wsX8_sheet) := goodIn_app (gq_r _ [(4, 113), (4, 114), (4, 115), (1, 1)] rfl (by decide +kernel)) gw_wsX8_sheet
set_option maxRecDepth 20000 in
theorem gL_law_X9_sheet : GoodIn lw_tbl (wsV RL 172 RX9 yX9_sheet wsX9_sheet) := goodIn_app (gq_r _ [(6, 134), (6, 135), (6, 136), (1, 14)] rfl (by decide +kernel)) gw_wsX9_sheet
set_option maxRecDepth 20000 in
theorem gL_law_X8_cell : GoodIn lw_tbl (wsV RL 173 RX8 yX8_cell wsX8_cell) := goodIn_app (gq_r _ [(4, 117), (4, 118), (4, 119), (1, 1)] rfl (by decide +kernel)) gw_wsX8_cell
set_option maxRecDepth 20000 in
theorem gL_law_X9_cell : GoodIn lw_tbl (wsV RL 176 RX9 yX9_cell wsX9_cell) := goodIn_app (gq_r _ [(6, 138), (6, 139), (6, 140), (1, 14)] rfl (by decide +kernel)) gw_wsX9_cell
set_option maxRecDepth 20000 in
theorem gL_law_X8_copy : GoodIn lw_tbl (wsV RL 177 RX8 yX8_copy wsX8_copy) := goodIn_app (gq_r _ [(4, 122), (4, 123), (4, 124), (1, 1)] rfl (by decide +kernel)) gw_wsX8_copy
set_option maxRecDepth 20000 in
theorem gL_law_X9_copy : GoodIn lw_tbl (wsV RL 181 RX9 yX9_copy wsX9_copy) := goodIn_app (gq_r _ [(6, 142), (6, 143), (6, 144), (1, 14)] rfl (by decide +kernel)) gw_wsX9_copy
set_option maxRecDepth 20000 in
theorem gL_law_X8_cardsBy : GoodIn lw_tbl (wsV RL 182 RX8 yX8_cardsBy wsX8_cardsBy) := goodIn_app (gq_r _ [(4, 133), (4, 134), (4, 135), (1, 1)] rfl (by decide +kernel)) gw_wsX8_cardsBy
set_option maxRecDepth 20000 in
theorem gL_law_X9_cardsBy : GoodIn lw_tbl (wsV RL 185 RX9 yX9_cardsBy wsX9_cardsBy) := goodIn_app (gq_r _ [(6, 146), (6, 147), (6, 148), (1, 14)] rfl (by decide +kernel)) gw_wsX9_cardsBy
set_option maxRecDepth 20000 in
theorem gL_law_X8_taken : GoodIn lw_tbl (wsV RL 186 RX8 yX8_taken wsX8_taken) := goodIn_app (gq_r _ [(4, 138), (4, 139), (4, 140), (1, 1)] rfl (by decide +kernel)) gw_wsX8_taken
set_option maxRecDepth 20000 in
theorem gL_law_X9_taken : GoodIn lw_tbl (wsV RL 189 RX9 yX9_taken wsX9_taken) := goodIn_app (gq_r _ [(6, 151), (6, 152), (6, 153), (1, 14)] rfl (by decide +kernel)) gw_wsX9_taken
