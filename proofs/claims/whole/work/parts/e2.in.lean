-- PURE: the law's words among the tables', in pieces (2)
set_option maxRecDepth 20000 in
theorem in_wsL_law_r29 : GoodIn lw_tbl wsL_law_r29 := goodIn_p wsL_law_r29 [1433, 776, 780, 784, 789, 1437] (by decide +kernel) (by decide +kernel)
set_option maxRecDepth 20000 in
theorem in_wsL_law_r30 : GoodIn lw_tbl wsL_law_r30 := goodIn_p wsL_law_r30 [1441, 1445, 793, 798, 1449] (by decide +kernel) (by decide +kernel)
set_option maxRecDepth 20000 in
theorem in_wsL_law_r31 : GoodIn lw_tbl wsL_law_r31 := goodIn_p wsL_law_r31 [1453, 802, 806, 1457, 810, 814] (by decide +kernel) (by decide +kernel)
set_option maxRecDepth 20000 in
theorem in_wsL_law_r32 : GoodIn lw_tbl wsL_law_r32 := goodIn_p wsL_law_r32 [818, 822, 826, 829, 835, 839] (by decide +kernel) (by decide +kernel)
set_option maxRecDepth 20000 in
theorem in_wsL_law_r33 : GoodIn lw_tbl wsL_law_r33 := goodIn_p wsL_law_r33 [843, 846, 1475, 1479, 1483] (by decide +kernel) (by decide +kernel)
set_option maxRecDepth 20000 in
theorem in_wsL_law_r34 : GoodIn lw_tbl wsL_law_r34 := goodIn_p wsL_law_r34 [1487, 1491, 1495, 1499, 1503, 1507] (by decide +kernel) (by decide +kernel)
set_option maxRecDepth 20000 in
theorem in_wsL_law_r35 : GoodIn lw_tbl wsL_law_r35 := goodIn_p wsL_law_r35 [1510, 853, 857, 1514, 1518] (by decide +kernel) (by decide +kernel)
set_option maxRecDepth 20000 in
theorem in_wsL_law_r36 : GoodIn lw_tbl wsL_law_r36 := goodIn_p wsL_law_r36 [1522, 861, 865, 1461, 1465] (by decide +kernel) (by decide +kernel)
set_option maxRecDepth 20000 in
theorem in_wsL_law_r37 : GoodIn lw_tbl wsL_law_r37 := goodIn_p wsL_law_r37 [869, 872, 1470, 877, 881, 885] (by decide +kernel) (by decide +kernel)
set_option maxRecDepth 20000 in
theorem in_wsL_law_r38 : GoodIn lw_tbl wsL_law_r38 := goodIn_p wsL_law_r38 [889, 893, 897, 901] (by decide +kernel) (by decide +kernel)
set_option maxRecDepth 20000 in
theorem in_wsL_law_r39 : GoodIn lw_tbl wsL_law_r39 := goodIn_p wsL_law_r39 [907, 911, 915, 920] (by decide +kernel) (by decide +kernel)
set_option maxRecDepth 20000 in
theorem in_wsL_law_r40 : GoodIn lw_tbl wsL_law_r40 := goodIn_p wsL_law_r40 [925, 928, 932, 935, 941, 948] (by decide +kernel) (by decide +kernel)
set_option maxRecDepth 20000 in
theorem in_wsL_law_r41 : GoodIn lw_tbl wsL_law_r41 := goodIn_p wsL_law_r41 [951, 1526, 1530, 1534, 1538, 1542] (by decide +kernel) (by decide +kernel)
set_option maxRecDepth 20000 in
theorem in_wsL_law_r42 : GoodIn lw_tbl wsL_law_r42 := goodIn_p wsL_law_r42 [1545, 1549, 1552, 955, 959] (by decide +kernel) (by decide +kernel)
