/-! The words of the law's calls. -/
set_option maxRecDepth 20000 in
theorem ggL_law_X7_put : GoodIn wsL_law wsX7_put := goodIn_r _ [590, 591, 462, 84, 139, 140, 5, 141, 735, 736, 737, 738, 739, 740, 741, 742, 743, 744, 745, 746, 747, 748, 749, 750] (by decide +kernel) (by decide +kernel)
set_option maxRecDepth 20000 in
theorem gL_law_X7_put : GoodIn wsL_law (wsV RL 93 RX7 yX7_put wsX7_put) := goodIn_app (goodIn_of _ (by decide +kernel)) ggL_law_X7_put
set_option maxRecDepth 20000 in
theorem ggL_law_X6_wipe : GoodIn wsL_law wsX6_wipe := goodIn_r _ [595, 24, 449, 730, 731, 732, 733, 734, 756, 757, 758, 759, 760, 761, 762] (by decide +kernel) (by decide +kernel)
set_option maxRecDepth 20000 in
theorem gL_law_X6_wipe : GoodIn wsL_law (wsV RL 94 RX6 yX6_wipe wsX6_wipe) := goodIn_app (goodIn_of _ (by decide +kernel)) ggL_law_X6_wipe
set_option maxRecDepth 20000 in
theorem ggL_law_X7_wipe : GoodIn wsL_law wsX7_wipe := goodIn_r _ [599, 462, 735, 736, 737, 738, 739, 740, 741, 742, 743, 744, 745, 746, 747, 748, 749, 750] (by decide +kernel) (by decide +kernel)
set_option maxRecDepth 20000 in
theorem gL_law_X7_wipe : GoodIn wsL_law (wsV RL 97 RX7 yX7_wipe wsX7_wipe) := goodIn_app (goodIn_of _ (by decide +kernel)) ggL_law_X7_wipe
set_option maxRecDepth 20000 in
theorem ggL_law_X6_fault : GoodIn wsL_law wsX6_fault := goodIn_r _ [603, 24, 604, 605, 606, 23, 607, 608, 586, 609, 610, 611, 612, 613, 614, 615, 616, 617, 618, 68, 619, 620, 621, 622, 623, 624, 625, 626, 627, 162, 2, 163, 628, 629, 630, 631, 632, 633, 634, 635, 636, 637, 638, 639, 640, 641, 642, 643, 730, 731, 732, 733, 734, 756, 757, 758, 759, 760, 761, 762] (by decide +kernel) (by decide +kernel)
set_option maxRecDepth 20000 in
theorem gL_law_X6_fault : GoodIn wsL_law (wsV RL 98 RX6 yX6_fault wsX6_fault) := goodIn_app (goodIn_of _ (by decide +kernel)) ggL_law_X6_fault
set_option maxRecDepth 20000 in
theorem ggL_law_X7_fault : GoodIn wsL_law wsX7_fault := goodIn_r _ [647, 648, 649, 650, 651, 652, 5, 653, 462, 654, 655, 656, 657, 84, 658, 659, 660, 661, 662, 663, 664, 665, 139, 140, 141, 666, 667, 668, 669, 670, 671, 672, 673, 674, 675, 676, 677, 180, 181, 182, 183, 78, 184, 185, 186, 187, 188, 189, 190, 191, 192, 193, 194, 195, 196, 197, 336, 337, 338, 339, 280, 281, 282, 283, 87, 88, 89, 248, 249, 250, 251, 198, 199, 200, 201, 340, 341, 342, 343, 344, 345, 346, 347, 348, 349, 350, 351, 288, 289, 290, 291, 284, 285, 286, 287, 252, 253, 254, 255, 215, 216, 217, 218, 735, 736, 737, 738, 739, 740, 741, 742, 743, 744, 745, 746, 747, 748, 749, 750] (by decide +kernel) (by decide +kernel)
set_option maxRecDepth 20000 in
theorem gL_law_X7_fault : GoodIn wsL_law (wsV RL 101 RX7 yX7_fault wsX7_fault) := goodIn_app (goodIn_of _ (by decide +kernel)) ggL_law_X7_fault
set_option maxRecDepth 20000 in
theorem ggL_law_X6_carryOut : GoodIn wsL_law wsX6_carryOut := goodIn_r _ [681, 24, 28, 16, 449, 604, 605, 606, 23, 607, 608, 586, 609, 610, 611, 612, 613, 614, 615, 616, 617, 618, 68, 619, 620, 621, 622, 623, 624, 625, 626, 627, 162, 2, 163, 628, 629, 630, 631, 632, 633, 634, 635, 636, 637, 638, 639, 640, 641, 642, 643, 94, 95, 96, 27, 97, 73, 98, 72, 14, 15, 30, 31, 32, 11, 12, 33, 34, 35, 36, 37, 38, 39, 40, 41, 42, 43, 44, 45, 46, 47, 48, 49, 50, 51, 52, 53, 54, 55, 56, 57, 58, 59, 99, 100, 101, 102, 103, 104, 105, 106, 107, 108, 109, 110, 111, 112, 113, 114, 115, 116, 117, 118, 119, 120, 121, 122, 682, 683, 684, 685, 686, 687, 688, 689, 690, 691, 692, 693, 694, 695, 151, 152, 153, 154, 155, 156, 157, 158, 159, 160, 161, 164, 165, 166, 167, 168, 169, 170, 171, 172, 173, 174, 175, 206, 207, 208, 209, 210, 296, 297, 298, 299, 300, 301, 302, 303, 304, 305, 306, 307, 308, 309, 310, 311, 312, 313, 314, 315, 316, 317, 318, 319, 320, 227, 273, 274, 275, 321, 322, 323, 324, 272, 268, 269, 270, 271, 325, 326, 327, 328, 329, 330, 331, 260, 261, 262, 263, 264, 265, 266, 267, 236, 237, 238, 239, 240, 241, 242, 243, 696, 127, 128, 129, 130, 131, 132, 133, 134, 730, 731, 732, 733, 734, 756, 757, 758, 759, 760, 761, 762, 763, 764, 751, 752, 753, 754, 765, 766, 767, 768, 769, 770, 771, 772, 773, 774, 775, 776] (by decide +kernel) (by decide +kernel)
set_option maxRecDepth 20000 in
theorem gL_law_X6_carryOut : GoodIn wsL_law (wsV RL 102 RX6 yX6_carryOut wsX6_carryOut) := goodIn_app (goodIn_of _ (by decide +kernel)) ggL_law_X6_carryOut
set_option maxRecDepth 20000 in
theorem ggL_law_X7_carryOut : GoodIn wsL_law wsX7_carryOut := goodIn_r _ [700, 648, 462, 650, 651, 652, 5, 653, 649, 654, 655, 656, 657, 84, 658, 659, 660, 661, 662, 663, 664, 665, 139, 140, 141, 666, 667, 668, 669, 670, 671, 672, 673, 674, 675, 676, 677, 180, 181, 182, 183, 78, 184, 185, 186, 187, 188, 189, 190, 191, 192, 193, 194, 195, 196, 197, 336, 337, 338, 339, 280, 281, 282, 283, 87, 88, 89, 248, 249, 250, 251, 198, 199, 200, 201, 340, 341, 342, 343, 344, 345, 346, 347, 348, 349, 350, 351, 288, 289, 290, 291, 284, 285, 286, 287, 252, 253, 254, 255, 215, 216, 217, 218, 142, 143, 144, 145, 146, 80, 735, 736, 737, 738, 739, 740, 741, 742, 743, 744, 745, 746, 747, 748, 749, 750] (by decide +kernel) (by decide +kernel)
set_option maxRecDepth 20000 in
theorem gL_law_X7_carryOut : GoodIn wsL_law (wsV RL 105 RX7 yX7_carryOut wsX7_carryOut) := goodIn_app (goodIn_of _ (by decide +kernel)) ggL_law_X7_carryOut
set_option maxRecDepth 20000 in
theorem ggL_law_X6_undo : GoodIn wsL_law wsX6_undo := goodIn_r _ [704, 28, 16, 450, 705, 706, 707, 27, 708, 98, 73, 99, 100, 101, 15, 102, 34, 103, 38, 42, 104, 2, 105, 106, 107, 108, 109, 110, 111, 112, 113, 114, 115, 116, 37, 117, 46, 47, 48, 49, 118, 119, 120, 41, 121, 122, 53, 54, 55, 56, 57, 58, 59, 730, 731, 732, 733, 734, 763, 764, 751, 752, 753, 754, 765, 766, 767, 768, 769, 770, 771, 772, 773, 774, 775, 776] (by decide +kernel) (by decide +kernel)
set_option maxRecDepth 20000 in
theorem gL_law_X6_undo : GoodIn wsL_law (wsV RL 106 RX6 yX6_undo wsX6_undo) := goodIn_app (goodIn_of _ (by decide +kernel)) ggL_law_X6_undo
set_option maxRecDepth 20000 in
theorem ggL_law_X7_undo : GoodIn wsL_law wsX7_undo := goodIn_r _ [712, 146, 78, 80, 735, 736, 737, 738, 739, 740, 741, 742, 743, 744, 745, 746, 747, 748, 749, 750] (by decide +kernel) (by decide +kernel)
set_option maxRecDepth 20000 in
theorem gL_law_X7_undo : GoodIn wsL_law (wsV RL 109 RX7 yX7_undo wsX7_undo) := goodIn_app (goodIn_of _ (by decide +kernel)) ggL_law_X7_undo
set_option maxRecDepth 20000 in
theorem ggL_law_X6_save : GoodIn wsL_law wsX6_save := goodIn_r _ [716, 29, 13, 14, 15, 16, 356, 447, 30, 31, 32, 11, 12, 33, 34, 35, 36, 37, 38, 39, 40, 41, 42, 43, 44, 45, 46, 47, 48, 49, 50, 51, 52, 53, 54, 55, 56, 57, 58, 59, 717, 100, 101, 102, 103, 104, 2, 105, 106, 107, 108, 109, 110, 111, 112, 113, 114, 115, 116, 117, 118, 119, 120, 121, 122, 730, 731, 732, 733, 734, 751, 752, 753, 754, 769, 770, 771, 772, 773, 774, 775, 776, 765, 766, 767, 768] (by decide +kernel) (by decide +kernel)
set_option maxRecDepth 20000 in
theorem gL_law_X6_save : GoodIn wsL_law (wsV RL 110 RX6 yX6_save wsX6_save) := goodIn_app (goodIn_of _ (by decide +kernel)) ggL_law_X6_save
set_option maxRecDepth 20000 in
theorem ggL_law_X7_save : GoodIn wsL_law wsX7_save := goodIn_r _ [721, 81, 78, 83, 139, 140, 5, 141, 735, 736, 737, 738, 739, 740, 741, 742, 743, 744, 745, 746, 747, 748, 749, 750] (by decide +kernel) (by decide +kernel)
set_option maxRecDepth 20000 in
theorem gL_law_X7_save : GoodIn wsL_law (wsV RL 113 RX7 yX7_save wsX7_save) := goodIn_app (goodIn_of _ (by decide +kernel)) ggL_law_X7_save
set_option maxRecDepth 20000 in
theorem ggL_law_X6_restore : GoodIn wsL_law wsX6_restore := goodIn_r _ [725, 29, 28, 16, 356, 447, 94, 95, 96, 27, 97, 73, 98, 72, 14, 15, 30, 31, 32, 11, 12, 33, 34, 35, 36, 37, 38, 39, 40, 41, 42, 43, 44, 45, 46, 47, 48, 49, 50, 51, 52, 53, 54, 55, 56, 57, 58, 59, 99, 100, 101, 102, 103, 104, 2, 105, 106, 107, 108, 109, 110, 111, 112, 113, 114, 115, 116, 117, 118, 119, 120, 121, 122, 717, 127, 128, 129, 130, 131, 132, 133, 134, 730, 731, 732, 733, 734, 751, 752, 753, 754, 769, 770, 771, 772, 773, 774, 775, 776, 763, 764, 765, 766, 767, 768] (by decide +kernel) (by decide +kernel)
set_option maxRecDepth 20000 in
theorem gL_law_X6_restore : GoodIn wsL_law (wsV RL 114 RX6 yX6_restore wsX6_restore) := goodIn_app (goodIn_of _ (by decide +kernel)) ggL_law_X6_restore
set_option maxRecDepth 20000 in
theorem ggL_law_X7_restore : GoodIn wsL_law wsX7_restore := goodIn_r _ [729, 83, 78, 81, 139, 140, 5, 141, 142, 143, 144, 145, 146, 80, 735, 736, 737, 738, 739, 740, 741, 742, 743, 744, 745, 746, 747, 748, 749, 750] (by decide +kernel) (by decide +kernel)
set_option maxRecDepth 20000 in
theorem gL_law_X7_restore : GoodIn wsL_law (wsV RL 117 RX7 yX7_restore wsX7_restore) := goodIn_app (goodIn_of _ (by decide +kernel)) ggL_law_X7_restore
