set_option maxRecDepth 20000 in
theorem ggL_law_X5_set : GoodIn wsL_law wsX5_set := goodIn_r _ [293, 20, 15, 83, 84, 85, 19, 86, 87, 88, 89, 90, 91, 63, 92, 93, 94, 14, 95, 31, 35, 36, 38, 96, 97, 98, 99, 39, 100, 101, 102, 103, 104, 105, 106, 107, 40, 108, 109, 110, 111, 112, 113, 114, 30, 115, 116, 44, 117, 45, 46, 47, 48, 118, 119, 120, 34, 121, 122, 52, 123, 53, 294, 295, 296, 297, 128, 143, 144, 145, 2, 146, 147, 148, 149, 150, 151, 152, 153, 769, 770, 771, 772, 802, 803, 784, 785, 786, 787, 788, 789, 790, 791, 792, 793, 794, 795, 796, 797, 798, 799, 800, 801, 812, 813, 814, 815, 816, 817, 818, 819, 820, 821] (by decide +kernel) (by decide +kernel)
set_option maxRecDepth 20000 in
theorem gL_law_X5_set : GoodIn wsL_law (wsV RL 35 RX5 yX5_set wsX5_set) := goodIn_app (goodIn_of _ (by decide +kernel)) ggL_law_X5_set
set_option maxRecDepth 20000 in
theorem ggL_law_X6_set : GoodIn wsL_law wsX6_set := goodIn_r _ [301, 158, 160, 161, 5, 162, 274, 275, 276, 277, 73, 163, 164, 165, 166, 167, 168, 74, 773, 774, 775, 776, 777, 778, 779, 780, 781, 782, 783] (by decide +kernel) (by decide +kernel)
set_option maxRecDepth 20000 in
theorem gL_law_X6_set : GoodIn wsL_law (wsV RL 38 RX6 yX6_set wsX6_set) := goodIn_app (goodIn_of _ (by decide +kernel)) ggL_law_X6_set
set_option maxRecDepth 20000 in
theorem ggL_law_X5_pass : GoodIn wsL_law wsX5_pass := goodIn_r _ [305, 15, 20, 306, 307, 308, 14, 309, 128, 104, 310, 129, 147, 148, 2, 149, 83, 84, 85, 19, 86, 87, 88, 89, 90, 91, 63, 92, 93, 94, 95, 31, 35, 36, 38, 96, 97, 98, 99, 39, 100, 101, 102, 103, 105, 106, 107, 40, 108, 109, 110, 111, 112, 113, 114, 30, 115, 116, 44, 117, 45, 46, 47, 48, 118, 119, 120, 34, 121, 122, 52, 123, 53, 311, 312, 313, 314, 315, 316, 317, 318, 319, 320, 321, 322, 323, 324, 325, 326, 327, 328, 329, 330, 58, 54, 55, 56, 57, 203, 192, 193, 194, 331, 196, 197, 198, 332, 333, 334, 335, 336, 337, 338, 339, 340, 341, 342, 343, 344, 345, 346, 347, 348, 349, 350, 204, 205, 206, 207, 351, 352, 353, 354, 355, 356, 357, 358, 250, 251, 252, 253, 195, 359, 360, 361, 362, 363, 364, 365, 366, 367, 368, 369, 370, 371, 372, 373, 374, 375, 376, 377, 378, 379, 380, 190, 183, 184, 185, 381, 382, 383, 384, 385, 386, 387, 388, 389, 139, 140, 141, 142, 390, 391, 392, 393, 394, 395, 396, 397, 398, 399, 400, 401, 143, 144, 145, 146, 150, 151, 152, 153, 769, 770, 771, 772, 784, 785, 786, 787, 788, 789, 790, 791, 792, 793, 794, 795, 796, 797, 798, 799, 800, 801, 802, 803, 812, 813, 814, 815, 816, 817, 818, 819, 820, 821] (by decide +kernel) (by decide +kernel)
set_option maxRecDepth 20000 in
theorem gL_law_X5_pass : GoodIn wsL_law (wsV RL 39 RX5 yX5_pass wsX5_pass) := goodIn_app (goodIn_of _ (by decide +kernel)) ggL_law_X5_pass
set_option maxRecDepth 20000 in
theorem ggL_law_X6_pass : GoodIn wsL_law wsX6_pass := goodIn_r _ [405, 158, 73, 406, 159, 160, 161, 5, 162, 163, 164, 165, 166, 167, 168, 74, 407, 408, 409, 410, 411, 412, 413, 414, 415, 416, 417, 418, 230, 231, 232, 233, 225, 226, 227, 228, 229, 234, 235, 236, 237, 238, 239, 240, 241, 419, 420, 421, 422, 423, 424, 425, 426, 217, 218, 219, 220, 427, 428, 429, 430, 431, 432, 433, 258, 259, 260, 261, 434, 435, 436, 437, 438, 439, 440, 441, 169, 170, 171, 172, 442, 443, 444, 445, 446, 447, 448, 449, 450, 451, 452, 453, 773, 774, 775, 776, 777, 778, 779, 780, 781, 782, 783] (by decide +kernel) (by decide +kernel)
set_option maxRecDepth 20000 in
theorem gL_law_X6_pass : GoodIn wsL_law (wsV RL 42 RX6 yX6_pass wsX6_pass) := goodIn_app (goodIn_of _ (by decide +kernel)) ggL_law_X6_pass
set_option maxRecDepth 20000 in
theorem ggL_law_X5_gateOf : GoodIn wsL_law wsX5_gateOf := goodIn_r _ [457, 15, 458, 459, 460, 14, 461, 31, 128, 35, 36, 182, 183, 184, 30, 185, 116, 186, 187, 188, 189, 44, 190, 462, 463, 464, 465, 45, 364, 365, 366, 367, 46, 386, 387, 388, 389, 39, 390, 391, 392, 393, 466, 467, 468, 469, 47, 470, 471, 472, 473, 474, 191, 192, 193, 34, 194, 122, 52, 250, 251, 252, 253, 53, 475, 476, 477, 478, 48, 769, 770, 771, 772, 784, 785, 786, 787, 788, 789, 790, 791, 792, 793, 794, 795, 796, 797, 798, 799, 800, 801, 812, 813, 814, 815, 816, 817, 818, 819, 820, 821] (by decide +kernel) (by decide +kernel)
set_option maxRecDepth 20000 in
theorem gL_law_X5_gateOf : GoodIn wsL_law (wsV RL 43 RX5 yX5_gateOf wsX5_gateOf) := goodIn_app (goodIn_of _ (by decide +kernel)) ggL_law_X5_gateOf
set_option maxRecDepth 20000 in
theorem ggL_law_X6_gateOf : GoodIn wsL_law wsX6_gateOf := goodIn_r _ [482, 158, 229, 73, 213, 214, 215, 5, 216, 160, 161, 162, 217, 218, 219, 220, 446, 447, 448, 449, 450, 451, 452, 453, 221, 222, 223, 224, 225, 226, 227, 228, 230, 231, 232, 233, 773, 774, 775, 776, 777, 778, 779, 780, 781, 782, 783] (by decide +kernel) (by decide +kernel)
set_option maxRecDepth 20000 in
theorem gL_law_X6_gateOf : GoodIn wsL_law (wsV RL 46 RX6 yX6_gateOf wsX6_gateOf) := goodIn_app (goodIn_of _ (by decide +kernel)) ggL_law_X6_gateOf
set_option maxRecDepth 20000 in
theorem ggL_law_X5_craneOf : GoodIn wsL_law wsX5_craneOf := goodIn_r _ [486, 15, 487, 488, 489, 14, 490, 107, 40, 474, 108, 109, 110, 111, 36, 128, 323, 324, 325, 326, 204, 205, 206, 34, 207, 122, 769, 770, 771, 772, 784, 785, 786, 787, 788, 789, 790, 791, 792, 793, 794, 795, 796, 797, 798, 799, 800, 801, 818, 819, 820, 821] (by decide +kernel) (by decide +kernel)
set_option maxRecDepth 20000 in
theorem gL_law_X5_craneOf : GoodIn wsL_law (wsV RL 47 RX5 yX5_craneOf wsX5_craneOf) := goodIn_app (goodIn_of _ (by decide +kernel)) ggL_law_X5_craneOf
set_option maxRecDepth 20000 in
theorem ggL_law_X6_craneOf : GoodIn wsL_law wsX6_craneOf := goodIn_r _ [494, 73, 229, 158, 773, 774, 775, 776, 777, 778, 779, 780, 781, 782, 783] (by decide +kernel) (by decide +kernel)
set_option maxRecDepth 20000 in
theorem gL_law_X6_craneOf : GoodIn wsL_law (wsV RL 50 RX6 yX6_craneOf wsX6_craneOf) := goodIn_app (goodIn_of _ (by decide +kernel)) ggL_law_X6_craneOf
set_option maxRecDepth 20000 in
theorem ggL_law_X5_orderAt : GoodIn wsL_law wsX5_orderAt := goodIn_r _ [498, 15, 499, 500, 501, 14, 502, 35, 503, 504, 505, 506, 128, 474, 204, 205, 206, 34, 207, 122, 355, 356, 357, 358, 52, 769, 770, 771, 772, 784, 785, 786, 787, 788, 789, 790, 791, 792, 793, 794, 795, 796, 797, 798, 799, 800, 801, 818, 819, 820, 821] (by decide +kernel) (by decide +kernel)
set_option maxRecDepth 20000 in
theorem gL_law_X5_orderAt : GoodIn wsL_law (wsV RL 51 RX5 yX5_orderAt wsX5_orderAt) := goodIn_app (goodIn_of _ (by decide +kernel)) ggL_law_X5_orderAt
set_option maxRecDepth 20000 in
theorem ggL_law_X6_orderAt : GoodIn wsL_law wsX6_orderAt := goodIn_r _ [510, 158, 73, 229, 773, 774, 775, 776, 777, 778, 779, 780, 781, 782, 783] (by decide +kernel) (by decide +kernel)
set_option maxRecDepth 20000 in
theorem gL_law_X6_orderAt : GoodIn wsL_law (wsV RL 54 RX6 yX6_orderAt wsX6_orderAt) := goodIn_app (goodIn_of _ (by decide +kernel)) ggL_law_X6_orderAt
set_option maxRecDepth 20000 in
theorem ggL_law_X5_markAt : GoodIn wsL_law wsX5_markAt := goodIn_r _ [514, 15, 515, 516, 517, 14, 518, 36, 503, 504, 505, 506, 128, 474, 204, 205, 206, 34, 207, 122, 355, 356, 357, 358, 52, 769, 770, 771, 772, 784, 785, 786, 787, 788, 789, 790, 791, 792, 793, 794, 795, 796, 797, 798, 799, 800, 801, 818, 819, 820, 821] (by decide +kernel) (by decide +kernel)
set_option maxRecDepth 20000 in
theorem gL_law_X5_markAt : GoodIn wsL_law (wsV RL 55 RX5 yX5_markAt wsX5_markAt) := goodIn_app (goodIn_of _ (by decide +kernel)) ggL_law_X5_markAt
set_option maxRecDepth 20000 in
theorem ggL_law_X6_markAt : GoodIn wsL_law wsX6_markAt := goodIn_r _ [522, 158, 73, 229, 773, 774, 775, 776, 777, 778, 779, 780, 781, 782, 783] (by decide +kernel) (by decide +kernel)
set_option maxRecDepth 20000 in
theorem gL_law_X6_markAt : GoodIn wsL_law (wsV RL 58 RX6 yX6_markAt wsX6_markAt) := goodIn_app (goodIn_of _ (by decide +kernel)) ggL_law_X6_markAt
