-- PURE: what the law's calls need, among its words (5)
set_option maxRecDepth 20000 in
theorem ggL_law_X11_waits : GoodIn wsL_law wsX11_waits := goodIn_r _ [1142, 19, 1143, 1144, 849, 850, 851, 2, 852, 590, 154, 1145, 1146, 1147, 52, 1148, 1149, 72, 73, 1288, 1289, 1290, 1291, 1292, 1293, 1294, 1295, 1296, 1297, 1298, 1299, 1337, 1338, 1339, 1340, 1341, 1378, 1379, 1380, 1381, 1342, 1343, 1344, 1345, 1346, 1347] (by decide +kernel) (by decide +kernel)
set_option maxRecDepth 20000 in
theorem gL_law_X11_waits : GoodIn wsL_law (wsV RL 94 RX11 yX11_waits wsX11_waits) := goodIn_app (goodIn_of _ (by decide +kernel)) ggL_law_X11_waits
set_option maxRecDepth 20000 in
theorem ggL_law_X12_waits : GoodIn wsL_law wsX12_waits := goodIn_r _ [1153, 107, 1154, 1155, 857, 858, 859, 5, 860, 400, 401, 402, 1300, 1301, 1302, 1303, 1304, 1305, 1306, 1307, 1308, 1309, 1310, 1311, 1312, 1313, 1314, 1315, 1316, 1317, 1318, 1319, 1320, 1321, 1322, 1323, 1324, 1325, 1326, 1327, 1328, 1329, 1330, 1331, 1332, 1333, 1334, 1335, 1336] (by decide +kernel) (by decide +kernel)
set_option maxRecDepth 20000 in
theorem gL_law_X12_waits : GoodIn wsL_law (wsV RL 97 RX12 yX12_waits wsX12_waits) := goodIn_app (goodIn_of _ (by decide +kernel)) ggL_law_X12_waits
set_option maxRecDepth 20000 in
theorem ggL_law_X11_order : GoodIn wsL_law wsX11_order := goodIn_r _ [1159, 19, 1143, 1144, 1160, 1161, 1162, 1163, 52, 1164, 1149, 74, 1165, 1166, 1167, 1168, 73, 72, 1169, 1170, 1171, 1172, 1288, 1289, 1290, 1291, 1292, 1293, 1294, 1295, 1296, 1297, 1298, 1299, 1337, 1338, 1339, 1340, 1341, 1378, 1379, 1380, 1381] (by decide +kernel) (by decide +kernel)
set_option maxRecDepth 20000 in
theorem gL_law_X11_order : GoodIn wsL_law (wsV RL 98 RX11 yX11_order wsX11_order) := goodIn_app (goodIn_of _ (by decide +kernel)) ggL_law_X11_order
set_option maxRecDepth 20000 in
theorem ggL_law_X12_order : GoodIn wsL_law wsX12_order := goodIn_r _ [1176, 1177, 107, 112, 113, 400, 401, 5, 402, 1178, 1179, 1180, 1181, 1300, 1301, 1302, 1303, 1304, 1305, 1306, 1307, 1308, 1309, 1310, 1311, 1312, 1313, 1314, 1315, 1316, 1317, 1318, 1319, 1320, 1321, 1322, 1323, 1324, 1325, 1326, 1327, 1328, 1329, 1330, 1331, 1332, 1333, 1334, 1335, 1336] (by decide +kernel) (by decide +kernel)
set_option maxRecDepth 20000 in
theorem gL_law_X12_order : GoodIn wsL_law (wsV RL 101 RX12 yX12_order wsX12_order) := goodIn_app (goodIn_of _ (by decide +kernel)) ggL_law_X12_order
set_option maxRecDepth 20000 in
theorem ggL_law_X11_seed : GoodIn wsL_law wsX11_seed := goodIn_r _ [1185, 19, 1186, 1288, 1289, 1290, 1291, 1292, 1293, 1294, 1295, 1296, 1297, 1298, 1299, 1337, 1338, 1339, 1340, 1341] (by decide +kernel) (by decide +kernel)
set_option maxRecDepth 20000 in
theorem gL_law_X11_seed : GoodIn wsL_law (wsV RL 102 RX11 yX11_seed wsX11_seed) := goodIn_app (goodIn_of _ (by decide +kernel)) ggL_law_X11_seed
set_option maxRecDepth 20000 in
theorem ggL_law_X12_seed : GoodIn wsL_law wsX12_seed := goodIn_r _ [1190, 107, 1300, 1301, 1302, 1303, 1304, 1305, 1306, 1307, 1308, 1309, 1310, 1311, 1312, 1313, 1314, 1315, 1316, 1317, 1318, 1319, 1320, 1321, 1322, 1323, 1324, 1325, 1326, 1327, 1328, 1329, 1330, 1331, 1332, 1333, 1334, 1335, 1336] (by decide +kernel) (by decide +kernel)
set_option maxRecDepth 20000 in
theorem gL_law_X12_seed : GoodIn wsL_law (wsV RL 105 RX12 yX12_seed wsX12_seed) := goodIn_app (goodIn_of _ (by decide +kernel)) ggL_law_X12_seed
set_option maxRecDepth 20000 in
theorem ggL_law_X11_lots : GoodIn wsL_law wsX11_lots := goodIn_r _ [1194, 40, 19, 1186, 1195, 743, 744, 745, 2, 746, 497, 15, 865, 866, 867, 849, 850, 851, 852, 590, 154, 1196, 1197, 1198, 1199, 42, 1200, 1201, 1202, 1203, 1047, 1048, 1049, 1050, 32, 1051, 605, 606, 23, 607, 58, 608, 594, 595, 596, 315, 896, 897, 898, 31, 899, 900, 901, 902, 903, 904, 905, 906, 907, 180, 162, 181, 908, 909, 910, 161, 163, 911, 912, 913, 914, 915, 916, 917, 918, 80, 919, 920, 921, 922, 79, 923, 924, 925, 926, 927, 928, 929, 930, 931, 81, 82, 932, 622, 623, 624, 316, 59, 317, 933, 934, 935, 936, 937, 938, 939, 940, 941, 942, 943, 944, 945, 946, 947, 948, 949, 950, 951, 952, 953, 954, 955, 956, 957, 958, 959, 1204, 1205, 1206, 39, 1207, 1208, 1209, 1210, 1211, 1212, 1213, 1214, 1215, 1216, 1217, 1218, 1219, 1220, 960, 961, 962, 1221, 1222, 1223, 1224, 28, 823, 845, 726, 598, 599, 600, 27, 601, 326, 64, 602, 603, 330, 331, 332, 333, 334, 65, 67, 68, 604, 609, 610, 611, 612, 613, 614, 615, 616, 66, 617, 618, 619, 620, 621, 625, 626, 627, 628, 747, 748, 749, 750, 751, 752, 753, 499, 754, 525, 506, 507, 755, 756, 757, 758, 759, 684, 685, 686, 687, 760, 761, 762, 763, 508, 509, 764, 765, 766, 767, 768, 769, 770, 771, 772, 773, 774, 775, 728, 729, 730, 776, 710, 711, 712, 327, 777, 689, 690, 691, 1288, 1289, 1290, 1291, 1292, 1293, 1294, 1295, 1296, 1297, 1298, 1299, 1337, 1338, 1339, 1340, 1341, 1373, 1374, 1375, 1376, 1377, 1342, 1343, 1344, 1345, 1346, 1347, 1358, 1359, 1360, 1361, 1362, 1363, 1364, 1365, 1366, 1367, 1368, 1348, 1349, 1350, 1351, 1352, 1353, 1354, 1355, 1356, 1357, 1392, 1393, 1394, 1395, 1396, 1397] (by decide +kernel) (by decide +kernel)
set_option maxRecDepth 20000 in
theorem gL_law_X11_lots : GoodIn wsL_law (wsV RL 106 RX11 yX11_lots wsX11_lots) := goodIn_app (goodIn_of _ (by decide +kernel)) ggL_law_X11_lots
set_option maxRecDepth 20000 in
theorem ggL_law_X12_lots : GoodIn wsL_law wsX12_lots := goodIn_r _ [1228, 1229, 873, 1230, 107, 1231, 108, 857, 858, 859, 5, 860, 782, 783, 784, 785, 786, 787, 788, 789, 585, 400, 401, 402, 1232, 1233, 1234, 1235, 114, 642, 643, 644, 645, 967, 968, 969, 970, 971, 972, 973, 974, 109, 975, 976, 977, 978, 979, 980, 981, 982, 983, 984, 985, 1059, 1060, 1061, 1062, 833, 834, 835, 836, 1236, 1237, 1238, 1239, 1240, 1241, 1242, 1243, 1244, 1245, 1246, 1247, 646, 647, 648, 649, 650, 651, 652, 653, 654, 655, 656, 657, 658, 659, 660, 661, 662, 663, 664, 665, 666, 667, 668, 669, 670, 671, 672, 673, 674, 790, 791, 792, 793, 99, 696, 697, 698, 699, 794, 795, 796, 797, 100, 798, 799, 800, 801, 106, 802, 803, 804, 805, 806, 97, 807, 808, 809, 810, 105, 811, 812, 813, 814, 815, 816, 817, 700, 701, 702, 703, 717, 718, 719, 720, 837, 838, 839, 840, 1300, 1301, 1302, 1303, 1304, 1305, 1306, 1307, 1308, 1309, 1310, 1311, 1312, 1313, 1314, 1315, 1316, 1317, 1318, 1319, 1320, 1321, 1322, 1323, 1324, 1325, 1326, 1327, 1328, 1329, 1330, 1331, 1332, 1333, 1334, 1335, 1336] (by decide +kernel) (by decide +kernel)
set_option maxRecDepth 20000 in
theorem gL_law_X12_lots : GoodIn wsL_law (wsV RL 109 RX12 yX12_lots wsX12_lots) := goodIn_app (goodIn_of _ (by decide +kernel)) ggL_law_X12_lots
