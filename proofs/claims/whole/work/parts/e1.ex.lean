-- PURE: the law's words among the tables' (2)
set_option maxRecDepth 20000 in
theorem in_wsL_law_r28 : GoodIn lw_tbl wsL_law_r28 := goodIn_ix tbPcs tbPcs_in _ [(0, 74), (6, 99), (6, 100), (6, 102), (0, 75), (6, 103), (6, 104), (6, 106), (0, 76), (6, 107), (6, 108), (6, 110), (0, 77), (6, 111), (6, 112), (6, 114), (0, 78), (6, 115), (6, 116), (6, 118), (0, 79), (6, 119), (5, 75), (6, 120)] rfl (by decide +kernel)
set_option maxRecDepth 20000 in
theorem in_wsL_law_r29 : GoodIn lw_tbl wsL_law_r29 := goodIn_ix tbPcs tbPcs_in _ [(6, 122), (0, 80), (6, 123), (3, 183), (3, 184), (3, 185), (3, 186), (3, 187), (3, 188), (3, 189), (3, 190), (3, 191), (3, 192), (3, 193), (3, 194), (3, 195), (3, 196), (3, 197), (3, 198), (3, 199), (6, 124), (6, 125), (6, 126), (6, 127)] rfl (by decide +kernel)
set_option maxRecDepth 20000 in
theorem in_wsL_law_r30 : GoodIn lw_tbl wsL_law_r30 := goodIn_ix tbPcs tbPcs_in _ [(6, 128), (6, 130), (0, 81), (6, 131), (6, 132), (6, 134), (0, 82), (6, 135), (3, 200), (3, 201), (3, 202), (3, 203), (3, 204), (3, 205), (3, 206), (3, 207), (3, 208), (6, 136), (6, 137), (6, 138), (6, 139), (6, 140), (6, 142), (0, 83)] rfl (by decide +kernel)
set_option maxRecDepth 20000 in
theorem in_wsL_law_r31 : GoodIn lw_tbl wsL_law_r31 := goodIn_ix tbPcs tbPcs_in _ [(6, 143), (3, 209), (3, 210), (3, 211), (3, 212), (1, 84), (1, 102), (3, 213), (3, 214), (3, 215), (3, 216), (6, 144), (6, 145), (6, 146), (6, 147), (3, 217), (3, 218), (3, 219), (3, 220), (3, 221), (3, 223), (0, 20), (3, 224), (3, 225)] rfl (by decide +kernel)
set_option maxRecDepth 20000 in
theorem in_wsL_law_r32 : GoodIn lw_tbl wsL_law_r32 := goodIn_ix tbPcs tbPcs_in _ [(3, 227), (0, 21), (3, 228), (3, 229), (3, 230), (3, 231), (3, 232), (3, 233), (3, 234), (3, 235), (3, 236), (3, 237), (3, 238), (3, 239), (4, 0), (4, 1), (4, 2), (4, 4), (0, 22), (4, 5), (4, 6), (4, 7), (4, 8), (4, 9)] rfl (by decide +kernel)
set_option maxRecDepth 20000 in
theorem in_wsL_law_r33 : GoodIn lw_tbl wsL_law_r33 := goodIn_ix tbPcs tbPcs_in _ [(4, 10), (4, 11), (4, 12), (4, 13), (4, 14), (4, 15), (4, 16), (4, 17), (4, 18), (4, 19), (6, 162), (6, 163), (6, 164), (6, 165), (6, 166), (6, 168), (0, 85), (6, 169), (6, 170), (6, 172), (0, 86), (6, 173), (6, 174), (6, 176)] rfl (by decide +kernel)
set_option maxRecDepth 20000 in
theorem in_wsL_law_r34 : GoodIn lw_tbl wsL_law_r34 := goodIn_ix tbPcs tbPcs_in _ [(0, 87), (6, 177), (6, 178), (6, 180), (0, 88), (6, 181), (6, 182), (6, 184), (0, 89), (6, 185), (6, 186), (6, 188), (0, 90), (6, 189), (5, 72), (6, 190), (6, 192), (0, 91), (6, 193), (6, 194), (6, 196), (0, 92), (6, 197), (6, 198)] rfl (by decide +kernel)
set_option maxRecDepth 20000 in
theorem in_wsL_law_r35 : GoodIn lw_tbl wsL_law_r35 := goodIn_ix tbPcs tbPcs_in _ [(6, 199), (6, 200), (4, 20), (4, 21), (4, 22), (4, 23), (1, 97), (1, 99), (4, 24), (4, 25), (4, 26), (4, 27), (6, 201), (6, 202), (6, 203), (6, 204), (6, 156), (6, 205), (6, 207), (0, 93), (6, 208), (6, 209), (6, 211), (0, 94)] rfl (by decide +kernel)
set_option maxRecDepth 20000 in
theorem in_wsL_law_r36 : GoodIn lw_tbl wsL_law_r36 := goodIn_ix tbPcs tbPcs_in _ [(6, 212), (4, 28), (4, 29), (4, 30), (4, 31), (1, 104), (1, 106), (1, 108), (1, 159), (4, 32), (4, 34), (0, 23), (4, 35), (6, 148), (6, 149), (6, 150), (6, 151), (6, 152), (6, 154), (0, 84), (6, 155), (4, 36), (4, 37), (4, 38)] rfl (by decide +kernel)
set_option maxRecDepth 20000 in
theorem in_wsL_law_r37 : GoodIn lw_tbl wsL_law_r37 := goodIn_ix tbPcs tbPcs_in _ [(4, 39), (4, 40), (4, 41), (4, 42), (4, 43), (6, 157), (6, 158), (6, 159), (6, 160), (6, 161), (4, 44), (4, 45), (4, 46), (4, 47), (1, 88), (1, 95), (4, 48), (4, 50), (0, 24), (4, 51), (4, 52), (4, 53), (4, 54), (4, 55)] rfl (by decide +kernel)
set_option maxRecDepth 20000 in
theorem in_wsL_law_r38 : GoodIn lw_tbl wsL_law_r38 := goodIn_ix tbPcs tbPcs_in _ [(4, 56), (4, 57), (4, 58), (4, 59), (4, 60), (4, 61), (4, 62), (4, 63), (4, 64), (4, 65), (4, 66), (4, 67), (1, 190), (4, 86), (4, 68), (4, 70), (0, 25), (4, 71), (1, 189), (4, 72), (1, 58), (1, 51), (4, 73), (1, 194)] rfl (by decide +kernel)
set_option maxRecDepth 20000 in
theorem in_wsL_law_r39 : GoodIn lw_tbl wsL_law_r39 := goodIn_ix tbPcs tbPcs_in _ [(1, 191), (1, 192), (1, 193), (4, 74), (4, 76), (0, 26), (4, 77), (4, 78), (4, 80), (0, 27), (4, 81), (4, 82), (4, 84), (0, 28), (4, 85), (4, 87), (4, 89), (0, 29), (4, 90), (1, 188), (4, 91), (4, 92), (4, 94), (0, 30)] rfl (by decide +kernel)
set_option maxRecDepth 20000 in
theorem in_wsL_law_r40 : GoodIn lw_tbl wsL_law_r40 := goodIn_ix tbPcs tbPcs_in _ [(4, 95), (4, 96), (4, 97), (4, 98), (4, 99), (4, 101), (0, 31), (4, 102), (4, 103), (4, 104), (4, 105), (4, 106), (4, 107), (4, 108), (4, 109), (4, 110), (4, 111), (4, 112), (4, 113), (4, 114), (4, 115), (4, 117), (0, 32), (4, 118)] rfl (by decide +kernel)
set_option maxRecDepth 20000 in
theorem in_wsL_law_r41 : GoodIn lw_tbl wsL_law_r41 := goodIn_ix tbPcs tbPcs_in _ [(4, 119), (4, 120), (4, 121), (6, 213), (6, 214), (6, 215), (6, 216), (6, 217), (6, 219), (0, 95), (6, 220), (6, 221), (6, 223), (0, 96), (6, 224), (6, 225), (6, 227), (0, 97), (6, 228), (6, 229), (6, 231), (0, 98), (6, 232), (6, 233)] rfl (by decide +kernel)
set_option maxRecDepth 20000 in
theorem in_wsL_law_r42 : GoodIn lw_tbl wsL_law_r42 := goodIn_ix tbPcs tbPcs_in _ [(6, 234), (6, 235), (6, 236), (6, 238), (0, 99), (6, 239), (7, 0), (7, 1), (7, 2), (4, 122), (4, 123), (4, 124), (4, 125), (4, 126), (4, 127), (4, 128), (4, 129), (1, 87), (1, 91), (4, 130), (4, 131), (4, 132), (4, 133), (4, 134)] rfl (by decide +kernel)
set_option maxRecDepth 20000 in
theorem in_wsL_law_r43 : GoodIn lw_tbl wsL_law_r43 := goodIn_ix tbPcs tbPcs_in _ [(4, 135), (7, 3), (7, 4), (7, 5), (7, 6), (4, 136), (4, 137), (4, 138), (4, 139), (4, 140), (4, 142), (0, 33), (4, 143), (7, 7), (7, 8), (7, 9), (7, 10), (7, 11), (7, 13), (0, 100), (7, 14), (4, 144), (4, 145), (4, 146)] rfl (by decide +kernel)
set_option maxRecDepth 20000 in
theorem in_wsL_law_r44 : GoodIn lw_tbl wsL_law_r44 := goodIn_ix tbPcs tbPcs_in _ [(4, 147), (4, 148), (4, 149), (4, 150), (7, 15), (7, 16), (7, 17), (7, 18), (7, 19), (7, 20), (7, 21), (4, 151), (4, 152), (4, 153), (4, 154), (4, 155), (4, 157), (0, 34), (4, 158), (4, 159), (4, 160), (4, 161), (4, 162), (7, 22)] rfl (by decide +kernel)
set_option maxRecDepth 20000 in
theorem in_wsL_law_r45 : GoodIn lw_tbl wsL_law_r45 := goodIn_ix tbPcs tbPcs_in _ [(7, 23), (7, 24), (7, 25), (7, 26), (7, 28), (0, 101), (7, 29), (4, 163), (4, 164), (4, 165), (4, 166), (4, 167), (4, 169), (0, 35), (4, 170), (4, 171), (4, 172), (7, 30), (7, 31), (7, 32), (7, 33), (7, 34), (7, 36), (0, 102)] rfl (by decide +kernel)
set_option maxRecDepth 20000 in
theorem in_wsL_law_r46 : GoodIn lw_tbl wsL_law_r46 := goodIn_ix tbPcs tbPcs_in _ [(7, 37), (4, 173), (4, 174), (4, 175), (4, 176), (4, 177), (4, 178), (4, 179), (4, 180), (1, 227), (1, 86), (1, 228), (1, 90), (1, 94), (4, 181), (4, 182), (1, 20), (4, 183), (4, 184), (4, 185), (4, 186), (4, 187), (4, 189), (0, 36)] rfl (by decide +kernel)
set_option maxRecDepth 20000 in
theorem in_wsL_law_r47 : GoodIn lw_tbl wsL_law_r47 := goodIn_ix tbPcs tbPcs_in _ [(4, 190), (4, 194), (1, 50), (1, 57), (4, 191), (4, 192), (4, 193), (4, 195), (4, 196), (4, 198), (0, 37), (4, 200), (4, 202), (0, 38), (4, 203), (4, 199), (4, 204), (7, 38), (7, 39), (7, 40), (7, 41), (7, 42), (7, 43), (7, 44)] rfl (by decide +kernel)
set_option maxRecDepth 20000 in
theorem in_wsL_law_r48 : GoodIn lw_tbl wsL_law_r48 := goodIn_ix tbPcs tbPcs_in _ [(7, 46), (0, 103), (7, 47), (7, 48), (7, 50), (0, 104), (7, 51), (7, 52), (7, 54), (0, 105), (7, 55), (4, 205), (4, 206), (4, 207), (4, 208), (1, 157), (1, 138), (4, 209), (4, 210), (4, 211), (4, 212), (1, 136), (7, 56), (7, 57)] rfl (by decide +kernel)
set_option maxRecDepth 20000 in
theorem in_wsL_law_r49 : GoodIn lw_tbl wsL_law_r49 := goodIn_ix tbPcs tbPcs_in _ [(7, 58), (7, 59), (7, 60), (7, 61), (4, 213), (4, 214), (4, 215), (4, 216), (1, 142), (4, 217), (4, 218), (4, 219), (4, 220), (4, 221), (4, 223), (0, 39), (4, 224), (4, 225), (4, 226), (4, 227), (4, 228), (7, 62), (7, 63), (7, 64)] rfl (by decide +kernel)
set_option maxRecDepth 20000 in
theorem in_wsL_law_r50 : GoodIn lw_tbl wsL_law_r50 := goodIn_ix tbPcs tbPcs_in _ [(7, 65), (7, 66), (7, 67), (7, 69), (0, 106), (7, 70), (4, 229), (4, 230), (4, 231), (4, 232), (1, 161), (7, 71), (7, 72), (7, 73), (7, 74), (4, 233), (4, 234), (4, 235), (4, 236), (2, 5), (4, 237), (4, 239), (0, 40), (5, 0)] rfl (by decide +kernel)
set_option maxRecDepth 20000 in
theorem in_wsL_law_r51 : GoodIn lw_tbl wsL_law_r51 := goodIn_ix tbPcs tbPcs_in _ [(2, 9), (2, 11), (2, 13), (2, 7), (5, 1), (5, 2), (5, 3), (5, 4), (2, 6), (2, 8), (2, 10), (2, 12), (5, 5), (5, 7), (0, 41), (5, 8), (2, 4), (5, 9), (5, 10), (5, 11), (5, 12), (5, 13), (5, 15), (0, 42)] rfl (by decide +kernel)
set_option maxRecDepth 20000 in
theorem in_wsL_law_r52 : GoodIn lw_tbl wsL_law_r52 := goodIn_ix tbPcs tbPcs_in _ [(5, 16), (7, 75), (7, 76), (7, 77), (7, 78), (7, 79), (7, 80), (5, 82), (7, 81), (7, 83), (0, 107), (7, 84), (7, 85), (7, 87), (0, 108), (7, 88), (7, 89), (7, 91), (0, 109), (7, 92), (7, 93), (7, 94), (7, 95), (7, 96)] rfl (by decide +kernel)
set_option maxRecDepth 20000 in
theorem in_wsL_law_r53 : GoodIn lw_tbl wsL_law_r53 := goodIn_ix tbPcs tbPcs_in _ [(5, 17), (5, 18), (5, 19), (5, 20), (1, 52), (5, 21), (5, 22), (5, 23), (5, 24), (7, 97), (7, 98), (7, 99), (7, 100), (5, 25), (5, 26), (5, 27), (5, 28), (5, 29), (5, 30), (5, 31), (5, 32), (1, 160), (5, 33), (5, 34)] rfl (by decide +kernel)
set_option maxRecDepth 20000 in
theorem in_wsL_law_r54 : GoodIn lw_tbl wsL_law_r54 := goodIn_ix tbPcs tbPcs_in _ [(5, 35), (5, 36), (5, 37), (5, 38), (7, 101), (7, 102), (7, 103), (7, 104), (5, 39), (5, 40), (5, 41), (5, 42), (7, 105), (7, 106), (7, 107), (7, 108)] rfl (by decide +kernel)
