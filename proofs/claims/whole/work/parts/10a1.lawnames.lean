set_option maxRecDepth 20000 in
theorem ggL_law_X5_init : GoodIn wsL_law wsX5_init := goodIn_r _ [8, 9, 10, 11, 12, 13, 14, 15, 16, 17, 18, 19, 20, 21, 22, 23, 24, 25, 26, 27, 28, 29, 30, 31, 32, 33, 34, 35, 36, 37, 38, 39, 40, 41, 42, 43, 44, 45, 46, 47, 48, 49, 50, 51, 52, 53, 54, 55, 56, 57, 58, 59, 60, 61, 62, 63, 64, 65, 66, 67, 68, 784, 785, 786, 787, 788, 789, 790, 791, 792, 793, 794, 795, 796, 797, 798, 799, 800, 801, 769, 770, 771, 772, 802, 803, 804, 805, 806, 807, 808, 809, 810, 811, 812, 813, 814, 815, 816, 817, 818, 819, 820, 821] (by decide +kernel) (by decide +kernel)
set_option maxRecDepth 20000 in
theorem gL_law_X5_init : GoodIn wsL_law (wsX5_init) := ggL_law_X5_init
set_option maxRecDepth 20000 in
theorem ggL_law_X6_init : GoodIn wsL_law wsX6_init := goodIn_r _ [71, 72, 10, 11, 37, 73, 74, 75, 76, 77, 78, 773, 774, 775, 776, 777, 778, 779, 780, 781, 782, 783] (by decide +kernel) (by decide +kernel)
set_option maxRecDepth 20000 in
theorem gL_law_X6_init : GoodIn wsL_law (wsX6_init) := ggL_law_X6_init
set_option maxRecDepth 20000 in
theorem ggL_law_X5_gate : GoodIn wsL_law wsX5_gate := goodIn_r _ [82, 20, 15, 83, 84, 85, 19, 86, 87, 88, 89, 90, 91, 63, 92, 93, 94, 14, 95, 31, 35, 36, 38, 96, 97, 98, 99, 39, 100, 101, 102, 103, 104, 105, 106, 107, 40, 108, 109, 110, 111, 112, 113, 114, 30, 115, 116, 44, 117, 45, 46, 47, 48, 118, 119, 120, 34, 121, 122, 52, 123, 53, 124, 125, 126, 127, 128, 129, 130, 131, 132, 133, 134, 135, 136, 137, 138, 139, 140, 141, 142, 143, 144, 145, 2, 146, 147, 148, 149, 150, 151, 152, 153, 769, 770, 771, 772, 802, 803, 784, 785, 786, 787, 788, 789, 790, 791, 792, 793, 794, 795, 796, 797, 798, 799, 800, 801, 812, 813, 814, 815, 816, 817, 818, 819, 820, 821] (by decide +kernel) (by decide +kernel)
set_option maxRecDepth 20000 in
theorem gL_law_X5_gate : GoodIn wsL_law (wsV RL 13 RX5 yX5_gate wsX5_gate) := goodIn_app (goodIn_of _ (by decide +kernel)) ggL_law_X5_gate
set_option maxRecDepth 20000 in
theorem ggL_law_X6_gate : GoodIn wsL_law wsX6_gate := goodIn_r _ [157, 158, 73, 159, 160, 161, 5, 162, 163, 164, 165, 166, 167, 168, 74, 169, 170, 171, 172, 773, 774, 775, 776, 777, 778, 779, 780, 781, 782, 783] (by decide +kernel) (by decide +kernel)
set_option maxRecDepth 20000 in
theorem gL_law_X6_gate : GoodIn wsL_law (wsV RL 17 RX6 yX6_gate wsX6_gate) := goodIn_app (goodIn_of _ (by decide +kernel)) ggL_law_X6_gate
set_option maxRecDepth 20000 in
theorem ggL_law_X5_order : GoodIn wsL_law wsX5_order := goodIn_r _ [176, 20, 15, 83, 84, 85, 19, 86, 87, 88, 89, 90, 91, 63, 92, 93, 94, 14, 95, 31, 35, 36, 38, 96, 97, 98, 99, 39, 100, 101, 102, 103, 104, 105, 106, 107, 40, 108, 109, 110, 111, 112, 113, 114, 30, 115, 116, 44, 117, 45, 46, 47, 48, 118, 119, 120, 34, 121, 122, 52, 123, 53, 177, 178, 179, 180, 128, 181, 182, 183, 184, 185, 186, 187, 188, 189, 190, 191, 192, 193, 194, 195, 196, 197, 198, 199, 200, 201, 202, 58, 203, 204, 205, 206, 207, 143, 144, 145, 2, 146, 147, 148, 149, 150, 151, 152, 153, 769, 770, 771, 772, 802, 803, 784, 785, 786, 787, 788, 789, 790, 791, 792, 793, 794, 795, 796, 797, 798, 799, 800, 801, 812, 813, 814, 815, 816, 817, 818, 819, 820, 821] (by decide +kernel) (by decide +kernel)
set_option maxRecDepth 20000 in
theorem gL_law_X5_order : GoodIn wsL_law (wsV RL 18 RX5 yX5_order wsX5_order) := goodIn_app (goodIn_of _ (by decide +kernel)) ggL_law_X5_order
set_option maxRecDepth 20000 in
theorem ggL_law_X6_order : GoodIn wsL_law wsX6_order := goodIn_r _ [211, 158, 212, 73, 213, 214, 215, 5, 216, 160, 161, 162, 217, 218, 219, 220, 163, 164, 165, 166, 167, 168, 74, 221, 222, 223, 224, 225, 226, 227, 228, 229, 230, 231, 232, 233, 234, 235, 236, 237, 238, 239, 240, 241, 773, 774, 775, 776, 777, 778, 779, 780, 781, 782, 783] (by decide +kernel) (by decide +kernel)
set_option maxRecDepth 20000 in
theorem gL_law_X6_order : GoodIn wsL_law (wsV RL 21 RX6 yX6_order wsX6_order) := goodIn_app (goodIn_of _ (by decide +kernel)) ggL_law_X6_order
set_option maxRecDepth 20000 in
theorem ggL_law_X5_cancel : GoodIn wsL_law wsX5_cancel := goodIn_r _ [245, 20, 15, 83, 84, 85, 19, 86, 87, 88, 89, 90, 91, 63, 92, 93, 94, 14, 95, 31, 35, 36, 38, 96, 97, 98, 99, 39, 100, 101, 102, 103, 104, 105, 106, 107, 40, 108, 109, 110, 111, 112, 113, 114, 30, 115, 116, 44, 117, 45, 46, 47, 48, 118, 119, 120, 34, 121, 122, 52, 123, 53, 246, 247, 248, 249, 128, 181, 182, 183, 184, 185, 191, 192, 193, 194, 250, 251, 252, 253, 195, 196, 197, 198, 143, 144, 145, 2, 146, 147, 148, 149, 150, 151, 152, 153, 769, 770, 771, 772, 802, 803, 784, 785, 786, 787, 788, 789, 790, 791, 792, 793, 794, 795, 796, 797, 798, 799, 800, 801, 812, 813, 814, 815, 816, 817, 818, 819, 820, 821] (by decide +kernel) (by decide +kernel)
set_option maxRecDepth 20000 in
theorem gL_law_X5_cancel : GoodIn wsL_law (wsV RL 22 RX5 yX5_cancel wsX5_cancel) := goodIn_app (goodIn_of _ (by decide +kernel)) ggL_law_X5_cancel
set_option maxRecDepth 20000 in
theorem ggL_law_X6_cancel : GoodIn wsL_law wsX6_cancel := goodIn_r _ [257, 158, 212, 73, 213, 214, 215, 5, 216, 221, 222, 223, 224, 225, 226, 227, 228, 229, 163, 164, 165, 166, 167, 168, 74, 258, 259, 260, 261, 238, 239, 240, 241, 773, 774, 775, 776, 777, 778, 779, 780, 781, 782, 783] (by decide +kernel) (by decide +kernel)
set_option maxRecDepth 20000 in
theorem gL_law_X6_cancel : GoodIn wsL_law (wsV RL 26 RX6 yX6_cancel wsX6_cancel) := goodIn_app (goodIn_of _ (by decide +kernel)) ggL_law_X6_cancel
set_option maxRecDepth 20000 in
theorem ggL_law_X5_inflow : GoodIn wsL_law wsX5_inflow := goodIn_r _ [265, 20, 15, 83, 84, 85, 19, 86, 87, 88, 89, 90, 91, 63, 92, 93, 94, 14, 95, 31, 35, 36, 38, 96, 97, 98, 99, 39, 100, 101, 102, 103, 104, 105, 106, 107, 40, 108, 109, 110, 111, 112, 113, 114, 30, 115, 116, 44, 117, 45, 46, 47, 48, 118, 119, 120, 34, 121, 122, 52, 123, 53, 266, 267, 268, 269, 128, 143, 144, 145, 2, 146, 147, 148, 149, 150, 151, 152, 153, 769, 770, 771, 772, 802, 803, 784, 785, 786, 787, 788, 789, 790, 791, 792, 793, 794, 795, 796, 797, 798, 799, 800, 801, 812, 813, 814, 815, 816, 817, 818, 819, 820, 821] (by decide +kernel) (by decide +kernel)
set_option maxRecDepth 20000 in
theorem gL_law_X5_inflow : GoodIn wsL_law (wsV RL 27 RX5 yX5_inflow wsX5_inflow) := goodIn_app (goodIn_of _ (by decide +kernel)) ggL_law_X5_inflow
set_option maxRecDepth 20000 in
theorem ggL_law_X6_inflow : GoodIn wsL_law wsX6_inflow := goodIn_r _ [273, 158, 160, 161, 5, 162, 274, 275, 276, 277, 73, 163, 164, 165, 166, 167, 168, 74, 773, 774, 775, 776, 777, 778, 779, 780, 781, 782, 783] (by decide +kernel) (by decide +kernel)
set_option maxRecDepth 20000 in
theorem gL_law_X6_inflow : GoodIn wsL_law (wsV RL 30 RX6 yX6_inflow wsX6_inflow) := goodIn_app (goodIn_of _ (by decide +kernel)) ggL_law_X6_inflow
set_option maxRecDepth 20000 in
theorem ggL_law_X5_fill : GoodIn wsL_law wsX5_fill := goodIn_r _ [281, 20, 15, 83, 84, 85, 19, 86, 87, 88, 89, 90, 91, 63, 92, 93, 94, 14, 95, 31, 35, 36, 38, 96, 97, 98, 99, 39, 100, 101, 102, 103, 104, 105, 106, 107, 40, 108, 109, 110, 111, 112, 113, 114, 30, 115, 116, 44, 117, 45, 46, 47, 48, 118, 119, 120, 34, 121, 122, 52, 123, 53, 282, 283, 284, 285, 128, 143, 144, 145, 2, 146, 147, 148, 149, 150, 151, 152, 153, 769, 770, 771, 772, 802, 803, 784, 785, 786, 787, 788, 789, 790, 791, 792, 793, 794, 795, 796, 797, 798, 799, 800, 801, 812, 813, 814, 815, 816, 817, 818, 819, 820, 821] (by decide +kernel) (by decide +kernel)
set_option maxRecDepth 20000 in
theorem gL_law_X5_fill : GoodIn wsL_law (wsV RL 31 RX5 yX5_fill wsX5_fill) := goodIn_app (goodIn_of _ (by decide +kernel)) ggL_law_X5_fill
set_option maxRecDepth 20000 in
theorem ggL_law_X6_fill : GoodIn wsL_law wsX6_fill := goodIn_r _ [289, 158, 160, 161, 5, 162, 274, 275, 276, 277, 73, 163, 164, 165, 166, 167, 168, 74, 773, 774, 775, 776, 777, 778, 779, 780, 781, 782, 783] (by decide +kernel) (by decide +kernel)
set_option maxRecDepth 20000 in
theorem gL_law_X6_fill : GoodIn wsL_law (wsV RL 34 RX6 yX6_fill wsX6_fill) := goodIn_app (goodIn_of _ (by decide +kernel)) ggL_law_X6_fill
