/-! The words of the law's calls. -/
set_option maxRecDepth 20000 in
theorem ggL_law_X6_burn : GoodIn wsL_law wsX6_burn := goodIn_r _ [259, 28, 16, 94, 95, 96, 27, 97, 73, 98, 72, 14, 15, 30, 31, 32, 11, 12, 33, 34, 35, 36, 37, 38, 39, 40, 41, 42, 43, 44, 45, 46, 47, 48, 49, 50, 51, 52, 53, 54, 55, 56, 57, 58, 59, 99, 100, 101, 102, 103, 104, 2, 105, 106, 107, 108, 109, 110, 111, 112, 113, 114, 115, 116, 117, 118, 119, 120, 121, 122, 260, 261, 262, 263, 156, 157, 164, 165, 166, 167, 264, 265, 266, 267, 210, 162, 163, 268, 269, 270, 271, 272, 159, 158, 273, 274, 275, 172, 173, 174, 175, 127, 128, 129, 130, 131, 132, 133, 134, 730, 731, 732, 733, 734, 763, 764, 751, 752, 753, 754, 765, 766, 767, 768, 769, 770, 771, 772, 773, 774, 775, 776] (by decide +kernel) (by decide +kernel)
set_option maxRecDepth 20000 in
theorem gL_law_X6_burn : GoodIn wsL_law (wsV RL 36 RX6 yX6_burn wsX6_burn) := goodIn_app (goodIn_of _ (by decide +kernel)) ggL_law_X6_burn
set_option maxRecDepth 20000 in
theorem ggL_law_X7_burn : GoodIn wsL_law wsX7_burn := goodIn_r _ [279, 280, 281, 282, 5, 283, 78, 187, 188, 189, 190, 139, 140, 141, 195, 196, 197, 87, 88, 89, 142, 143, 144, 145, 146, 80, 284, 285, 286, 287, 288, 289, 290, 291, 735, 736, 737, 738, 739, 740, 741, 742, 743, 744, 745, 746, 747, 748, 749, 750] (by decide +kernel) (by decide +kernel)
set_option maxRecDepth 20000 in
theorem gL_law_X7_burn : GoodIn wsL_law (wsV RL 39 RX7 yX7_burn wsX7_burn) := goodIn_app (goodIn_of _ (by decide +kernel)) ggL_law_X7_burn
set_option maxRecDepth 20000 in
theorem ggL_law_X6_pass : GoodIn wsL_law wsX6_pass := goodIn_r _ [295, 28, 16, 94, 95, 96, 27, 97, 73, 98, 72, 14, 15, 30, 31, 32, 11, 12, 33, 34, 35, 36, 37, 38, 39, 40, 41, 42, 43, 44, 45, 46, 47, 48, 49, 50, 51, 52, 53, 54, 55, 56, 57, 58, 59, 99, 100, 101, 102, 103, 104, 2, 105, 106, 107, 108, 109, 110, 111, 112, 113, 114, 115, 116, 117, 118, 119, 120, 121, 122, 296, 297, 298, 299, 300, 301, 302, 303, 304, 305, 306, 307, 308, 309, 310, 311, 155, 210, 312, 313, 314, 315, 172, 173, 174, 175, 316, 317, 318, 319, 158, 320, 159, 227, 273, 274, 275, 321, 322, 323, 324, 272, 161, 156, 268, 269, 270, 271, 325, 326, 327, 328, 329, 330, 331, 127, 128, 129, 130, 131, 132, 133, 134, 730, 731, 732, 733, 734, 763, 764, 751, 752, 753, 754, 765, 766, 767, 768, 769, 770, 771, 772, 773, 774, 775, 776] (by decide +kernel) (by decide +kernel)
set_option maxRecDepth 20000 in
theorem gL_law_X6_pass : GoodIn wsL_law (wsV RL 40 RX6 yX6_pass wsX6_pass) := goodIn_app (goodIn_of _ (by decide +kernel)) ggL_law_X6_pass
set_option maxRecDepth 20000 in
theorem ggL_law_X7_pass : GoodIn wsL_law wsX7_pass := goodIn_r _ [335, 336, 337, 338, 5, 339, 78, 139, 140, 141, 142, 143, 144, 145, 146, 80, 340, 341, 342, 343, 191, 192, 193, 194, 195, 196, 197, 344, 345, 346, 347, 87, 88, 89, 348, 349, 350, 351, 288, 289, 290, 291, 735, 736, 737, 738, 739, 740, 741, 742, 743, 744, 745, 746, 747, 748, 749, 750] (by decide +kernel) (by decide +kernel)
set_option maxRecDepth 20000 in
theorem gL_law_X7_pass : GoodIn wsL_law (wsV RL 43 RX7 yX7_pass wsX7_pass) := goodIn_app (goodIn_of _ (by decide +kernel)) ggL_law_X7_pass
set_option maxRecDepth 20000 in
theorem ggL_law_X6_ofLetter : GoodIn wsL_law wsX6_ofLetter := goodIn_r _ [355, 16, 356, 357, 358, 359, 360, 361, 362, 20, 363, 165, 166, 41, 167, 122, 364, 269, 270, 15, 271, 42, 156, 272, 159, 158, 34, 273, 274, 108, 275, 172, 173, 174, 175, 103, 365, 366, 367, 19, 368, 63, 369, 370, 371, 372, 373, 374, 375, 376, 377, 378, 379, 380, 381, 382, 383, 56, 384, 385, 386, 387, 388, 730, 731, 732, 733, 734, 751, 752, 753, 754, 769, 770, 771, 772, 773, 774, 775, 776, 755] (by decide +kernel) (by decide +kernel)
set_option maxRecDepth 20000 in
theorem gL_law_X6_ofLetter : GoodIn wsL_law (wsV RL 44 RX6 yX6_ofLetter wsX6_ofLetter) := goodIn_app (goodIn_of _ (by decide +kernel)) ggL_law_X6_ofLetter
set_option maxRecDepth 20000 in
theorem ggL_law_X7_ofLetter : GoodIn wsL_law wsX7_ofLetter := goodIn_r _ [392, 78, 85, 187, 188, 189, 5, 190, 139, 140, 141, 195, 196, 197, 288, 289, 290, 291, 393, 394, 395, 396, 86, 397, 398, 399, 400, 401, 402, 403, 404, 735, 736, 737, 738, 739, 740, 741, 742, 743, 744, 745, 746, 747, 748, 749, 750] (by decide +kernel) (by decide +kernel)
set_option maxRecDepth 20000 in
theorem gL_law_X7_ofLetter : GoodIn wsL_law (wsV RL 47 RX7 yX7_ofLetter wsX7_ofLetter) := goodIn_app (goodIn_of _ (by decide +kernel)) ggL_law_X7_ofLetter
set_option maxRecDepth 20000 in
theorem ggL_law_X6_ofDrawer : GoodIn wsL_law wsX6_ofDrawer := goodIn_r _ [408, 16, 409, 356, 410, 411, 412, 413, 414, 162, 2, 163, 415, 169, 170, 41, 171, 122, 53, 57, 416, 417, 418, 15, 419, 42, 155, 312, 313, 314, 315, 268, 269, 270, 271, 156, 272, 159, 158, 34, 273, 274, 108, 275, 172, 173, 174, 175, 103, 730, 731, 732, 733, 734, 751, 752, 753, 754, 765, 766, 767, 768, 769, 770, 771, 772, 773, 774, 775, 776] (by decide +kernel) (by decide +kernel)
set_option maxRecDepth 20000 in
theorem gL_law_X6_ofDrawer : GoodIn wsL_law (wsV RL 48 RX6 yX6_ofDrawer wsX6_ofDrawer) := goodIn_app (goodIn_of _ (by decide +kernel)) ggL_law_X6_ofDrawer
set_option maxRecDepth 20000 in
theorem ggL_law_X7_ofDrawer : GoodIn wsL_law wsX7_ofDrawer := goodIn_r _ [423, 78, 184, 185, 5, 186, 139, 140, 141, 191, 192, 193, 194, 195, 196, 197, 87, 88, 89, 424, 425, 426, 427, 288, 289, 290, 291, 735, 736, 737, 738, 739, 740, 741, 742, 743, 744, 745, 746, 747, 748, 749, 750] (by decide +kernel) (by decide +kernel)
set_option maxRecDepth 20000 in
theorem gL_law_X7_ofDrawer : GoodIn wsL_law (wsV RL 51 RX7 yX7_ofDrawer wsX7_ofDrawer) := goodIn_app (goodIn_of _ (by decide +kernel)) ggL_law_X7_ofDrawer
set_option maxRecDepth 20000 in
theorem ggL_law_X6_letters : GoodIn wsL_law wsX6_letters := goodIn_r _ [431, 16, 356, 432, 433, 434, 435, 41, 436, 122, 57, 437, 309, 310, 15, 311, 42, 155, 38, 210, 312, 313, 314, 315, 53, 172, 173, 174, 175, 103, 316, 317, 318, 319, 158, 34, 320, 159, 227, 273, 274, 108, 275, 730, 731, 732, 733, 734, 751, 752, 753, 754, 769, 770, 771, 772, 773, 774, 775, 776, 765, 766, 767, 768] (by decide +kernel) (by decide +kernel)
set_option maxRecDepth 20000 in
theorem gL_law_X6_letters : GoodIn wsL_law (wsV RL 52 RX6 yX6_letters wsX6_letters) := goodIn_app (goodIn_of _ (by decide +kernel)) ggL_law_X6_letters
set_option maxRecDepth 20000 in
theorem ggL_law_X7_letters : GoodIn wsL_law wsX7_letters := goodIn_r _ [441, 442, 78, 139, 140, 5, 141, 348, 349, 350, 351, 195, 196, 197, 87, 88, 89, 288, 289, 290, 291, 735, 736, 737, 738, 739, 740, 741, 742, 743, 744, 745, 746, 747, 748, 749, 750] (by decide +kernel) (by decide +kernel)
set_option maxRecDepth 20000 in
theorem gL_law_X7_letters : GoodIn wsL_law (wsV RL 56 RX7 yX7_letters wsX7_letters) := goodIn_app (goodIn_of _ (by decide +kernel)) ggL_law_X7_letters
set_option maxRecDepth 20000 in
theorem ggL_law_X6_count : GoodIn wsL_law wsX6_count := goodIn_r _ [446, 16, 356, 447, 409, 448, 24, 449, 28, 450, 451, 173, 174, 15, 175, 103, 452, 301, 302, 303, 433, 434, 435, 41, 436, 122, 57, 453, 326, 327, 328, 329, 330, 331, 454, 455, 456, 37, 457, 47, 730, 731, 732, 733, 734, 751, 752, 753, 754, 769, 770, 771, 772, 773, 774, 775, 776, 756, 757, 758, 759, 760, 761, 762, 763, 764, 765, 766, 767, 768] (by decide +kernel) (by decide +kernel)
set_option maxRecDepth 20000 in
theorem gL_law_X6_count : GoodIn wsL_law (wsV RL 57 RX6 yX6_count wsX6_count) := goodIn_app (goodIn_of _ (by decide +kernel)) ggL_law_X6_count
set_option maxRecDepth 20000 in
theorem ggL_law_X7_count : GoodIn wsL_law wsX7_count := goodIn_r _ [461, 78, 462, 146, 191, 192, 193, 5, 194, 195, 196, 197, 463, 464, 465, 466, 87, 88, 89, 735, 736, 737, 738, 739, 740, 741, 742, 743, 744, 745, 746, 747, 748, 749, 750] (by decide +kernel) (by decide +kernel)
set_option maxRecDepth 20000 in
theorem gL_law_X7_count : GoodIn wsL_law (wsV RL 60 RX7 yX7_count wsX7_count) := goodIn_app (goodIn_of _ (by decide +kernel)) ggL_law_X7_count
set_option maxRecDepth 20000 in
theorem ggL_law_X6_meanHeat : GoodIn wsL_law wsX6_meanHeat := goodIn_r _ [470, 16, 356, 433, 434, 435, 41, 436, 122, 57, 453, 326, 327, 328, 329, 330, 331, 471, 472, 473, 474, 59, 475, 476, 2, 477, 478, 730, 731, 732, 733, 734, 751, 752, 753, 754, 769, 770, 771, 772, 773, 774, 775, 776] (by decide +kernel) (by decide +kernel)
set_option maxRecDepth 20000 in
theorem gL_law_X6_meanHeat : GoodIn wsL_law (wsV RL 61 RX6 yX6_meanHeat wsX6_meanHeat) := goodIn_app (goodIn_of _ (by decide +kernel)) ggL_law_X6_meanHeat
