/-! The words of the law's calls. -/
set_option maxRecDepth 20000 in
theorem ggL_law_X7_meanHeat : GoodIn wsL_law wsX7_meanHeat := goodIn_r _ [482, 78, 195, 196, 5, 197, 288, 289, 290, 291, 191, 192, 193, 194, 483, 484, 485, 486, 487, 488, 489, 490, 735, 736, 737, 738, 739, 740, 741, 742, 743, 744, 745, 746, 747, 748, 749, 750] (by decide +kernel) (by decide +kernel)
set_option maxRecDepth 20000 in
theorem gL_law_X7_meanHeat : GoodIn wsL_law (wsV RL 65 RX7 yX7_meanHeat wsX7_meanHeat) := goodIn_app (goodIn_of _ (by decide +kernel)) ggL_law_X7_meanHeat
set_option maxRecDepth 20000 in
theorem ggL_law_X6_share : GoodIn wsL_law wsX6_share := goodIn_r _ [494, 16, 356, 447, 433, 434, 435, 41, 436, 122, 57, 453, 326, 327, 328, 329, 330, 331, 475, 476, 2, 477, 478, 730, 731, 732, 733, 734, 751, 752, 753, 754, 769, 770, 771, 772, 773, 774, 775, 776] (by decide +kernel) (by decide +kernel)
set_option maxRecDepth 20000 in
theorem gL_law_X6_share : GoodIn wsL_law (wsV RL 66 RX6 yX6_share wsX6_share) := goodIn_app (goodIn_of _ (by decide +kernel)) ggL_law_X6_share
set_option maxRecDepth 20000 in
theorem ggL_law_X7_share : GoodIn wsL_law wsX7_share := goodIn_r _ [498, 78, 191, 192, 193, 5, 194, 195, 196, 197, 499, 500, 501, 502, 503, 735, 736, 737, 738, 739, 740, 741, 742, 743, 744, 745, 746, 747, 748, 749, 750] (by decide +kernel) (by decide +kernel)
set_option maxRecDepth 20000 in
theorem gL_law_X7_share : GoodIn wsL_law (wsV RL 70 RX7 yX7_share wsX7_share) := goodIn_app (goodIn_of _ (by decide +kernel)) ggL_law_X7_share
set_option maxRecDepth 20000 in
theorem ggL_law_X6_goesIn : GoodIn wsL_law wsX6_goesIn := goodIn_r _ [507, 16, 356, 360, 448, 363, 165, 166, 41, 167, 122, 508, 509, 510, 15, 511, 42, 157, 103, 273, 274, 108, 275, 38, 162, 2, 163, 316, 317, 318, 319, 158, 34, 320, 159, 227, 512, 513, 514, 515, 516, 517, 518, 37, 519, 48, 47, 49, 520, 107, 109, 521, 730, 731, 732, 733, 734, 751, 752, 753, 754, 769, 770, 771, 772, 773, 774, 775, 776, 765, 766, 767, 768] (by decide +kernel) (by decide +kernel)
set_option maxRecDepth 20000 in
theorem gL_law_X6_goesIn : GoodIn wsL_law (wsV RL 71 RX6 yX6_goesIn wsX6_goesIn) := goodIn_app (goodIn_of _ (by decide +kernel)) ggL_law_X6_goesIn
set_option maxRecDepth 20000 in
theorem ggL_law_X7_goesIn : GoodIn wsL_law wsX7_goesIn := goodIn_r _ [525, 78, 187, 188, 189, 5, 190, 139, 140, 141, 195, 196, 197, 526, 527, 528, 529, 79, 344, 345, 346, 347, 87, 88, 89, 348, 349, 350, 351, 288, 289, 290, 291, 530, 531, 532, 533, 735, 736, 737, 738, 739, 740, 741, 742, 743, 744, 745, 746, 747, 748, 749, 750] (by decide +kernel) (by decide +kernel)
set_option maxRecDepth 20000 in
theorem gL_law_X7_goesIn : GoodIn wsL_law (wsV RL 74 RX7 yX7_goesIn wsX7_goesIn) := goodIn_app (goodIn_of _ (by decide +kernel)) ggL_law_X7_goesIn
set_option maxRecDepth 20000 in
theorem ggL_law_X6_bestPost : GoodIn wsL_law wsX6_bestPost := goodIn_r _ [537, 16, 538, 539, 540, 15, 541, 42, 155, 156, 542, 509, 510, 511, 157, 103, 273, 274, 108, 275, 38, 162, 2, 163, 316, 317, 318, 319, 158, 34, 320, 159, 227, 512, 513, 514, 515, 516, 517, 518, 37, 519, 48, 47, 49, 520, 107, 109, 521, 730, 731, 732, 733, 734, 751, 752, 753, 754, 769, 770, 771, 772, 773, 774, 775, 776, 765, 766, 767, 768] (by decide +kernel) (by decide +kernel)
set_option maxRecDepth 20000 in
theorem gL_law_X6_bestPost : GoodIn wsL_law (wsV RL 75 RX6 yX6_bestPost wsX6_bestPost) := goodIn_app (goodIn_of _ (by decide +kernel)) ggL_law_X6_bestPost
set_option maxRecDepth 20000 in
theorem ggL_law_X7_bestPost : GoodIn wsL_law wsX7_bestPost := goodIn_r _ [546, 78, 139, 140, 5, 141, 526, 527, 528, 529, 79, 340, 341, 342, 343, 191, 192, 193, 194, 195, 196, 197, 344, 345, 346, 347, 87, 88, 89, 348, 349, 350, 351, 288, 289, 290, 291, 530, 531, 532, 533, 735, 736, 737, 738, 739, 740, 741, 742, 743, 744, 745, 746, 747, 748, 749, 750] (by decide +kernel) (by decide +kernel)
set_option maxRecDepth 20000 in
theorem gL_law_X7_bestPost : GoodIn wsL_law (wsV RL 78 RX7 yX7_bestPost wsX7_bestPost) := goodIn_app (goodIn_of _ (by decide +kernel)) ggL_law_X7_bestPost
set_option maxRecDepth 20000 in
theorem ggL_law_X6_mostRegretted : GoodIn wsL_law wsX6_mostRegretted := goodIn_r _ [550, 20, 16, 551, 552, 553, 19, 554, 373, 374, 375, 63, 369, 370, 371, 372, 376, 377, 274, 108, 275, 378, 269, 270, 15, 271, 42, 156, 272, 159, 158, 34, 273, 172, 173, 174, 175, 103, 379, 165, 166, 41, 167, 122, 730, 731, 732, 733, 734, 751, 752, 753, 754, 769, 770, 771, 772, 773, 774, 775, 776, 755] (by decide +kernel) (by decide +kernel)
set_option maxRecDepth 20000 in
theorem gL_law_X6_mostRegretted : GoodIn wsL_law (wsV RL 79 RX6 yX6_mostRegretted wsX6_mostRegretted) := goodIn_app (goodIn_of _ (by decide +kernel)) ggL_law_X6_mostRegretted
set_option maxRecDepth 20000 in
theorem ggL_law_X7_mostRegretted : GoodIn wsL_law wsX7_mostRegretted := goodIn_r _ [558, 78, 85, 393, 394, 395, 5, 396, 86, 195, 196, 197, 288, 289, 290, 291, 735, 736, 737, 738, 739, 740, 741, 742, 743, 744, 745, 746, 747, 748, 749, 750] (by decide +kernel) (by decide +kernel)
set_option maxRecDepth 20000 in
theorem gL_law_X7_mostRegretted : GoodIn wsL_law (wsV RL 82 RX7 yX7_mostRegretted wsX7_mostRegretted) := goodIn_app (goodIn_of _ (by decide +kernel)) ggL_law_X7_mostRegretted
set_option maxRecDepth 20000 in
theorem ggL_law_X6_ifSent : GoodIn wsL_law wsX6_ifSent := goodIn_r _ [562, 16, 356, 360, 20, 363, 165, 166, 41, 167, 122, 563, 564, 565, 19, 566, 63, 369, 370, 371, 372, 373, 374, 375, 376, 377, 274, 108, 275, 378, 269, 270, 15, 271, 42, 156, 272, 159, 158, 34, 273, 172, 173, 174, 175, 103, 379, 730, 731, 732, 733, 734, 751, 752, 753, 754, 769, 770, 771, 772, 773, 774, 775, 776, 755] (by decide +kernel) (by decide +kernel)
set_option maxRecDepth 20000 in
theorem gL_law_X6_ifSent : GoodIn wsL_law (wsV RL 83 RX6 yX6_ifSent wsX6_ifSent) := goodIn_app (goodIn_of _ (by decide +kernel)) ggL_law_X6_ifSent
set_option maxRecDepth 20000 in
theorem ggL_law_X7_ifSent : GoodIn wsL_law wsX7_ifSent := goodIn_r _ [570, 78, 187, 188, 189, 5, 190, 139, 140, 141, 195, 196, 197, 526, 527, 528, 529, 79, 288, 289, 290, 291, 571, 390, 391, 392, 85, 393, 394, 395, 396, 86, 397, 398, 399, 400, 401, 402, 403, 404, 530, 531, 532, 533, 735, 736, 737, 738, 739, 740, 741, 742, 743, 744, 745, 746, 747, 748, 749, 750] (by decide +kernel) (by decide +kernel)
set_option maxRecDepth 20000 in
theorem gL_law_X7_ifSent : GoodIn wsL_law (wsV RL 86 RX7 yX7_ifSent wsX7_ifSent) := goodIn_app (goodIn_of _ (by decide +kernel)) ggL_law_X7_ifSent
set_option maxRecDepth 20000 in
theorem ggL_law_X6_put : GoodIn wsL_law wsX6_put := goodIn_r _ [575, 24, 449, 576, 577, 578, 2, 579, 580, 581, 582, 583, 584, 23, 585, 586, 68, 730, 731, 732, 733, 734, 756, 757, 758, 759, 760, 761, 762] (by decide +kernel) (by decide +kernel)
set_option maxRecDepth 20000 in
theorem gL_law_X6_put : GoodIn wsL_law (wsV RL 89 RX6 yX6_put wsX6_put) := goodIn_app (goodIn_of _ (by decide +kernel)) ggL_law_X6_put
