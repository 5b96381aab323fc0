/-! The words of the law's calls. -/
set_option maxRecDepth 20000 in
theorem ggL_law_L_areDrawersSo : GoodIn wsL_law wsL_areDrawersSo := goodIn_r _ [330, 74, 75, 76, 2, 77, 12, 78, 79, 80, 81, 20, 82, 24, 83, 84, 85, 86, 11, 87, 88, 89, 90, 91, 92, 93, 94, 95, 37, 96, 97, 53, 98, 99, 100, 101, 102, 103, 104, 105, 106, 107, 33, 108, 43, 119, 120, 121, 122, 123, 124, 125, 126, 127, 128, 16, 129, 130, 131, 132, 133, 134, 135, 136, 38, 137, 138, 139, 140, 30, 141, 142, 143, 144, 145, 146, 147, 148, 15, 149, 59, 150, 151, 152, 153, 154, 155, 156, 157, 158, 159, 160, 161, 162, 163, 164, 52, 165, 166, 167, 168, 169, 308, 309, 310, 311, 312, 313, 314, 315, 316, 208, 209, 317, 212, 213, 214, 49, 318, 319, 320, 321, 204, 291, 292, 293, 294, 265, 322, 323, 324, 325, 326, 327, 288, 289, 290, 34, 231, 295, 296, 297, 298, 299, 240, 331, 332, 333, 334, 335, 336, 337, 338, 399, 400, 401, 402, 403, 404, 405, 406, 407, 422, 423, 424, 425, 426, 427, 428, 429, 409, 410, 411, 412, 413, 414, 415, 416, 417, 418, 419, 420, 421, 408] (by decide +kernel) (by decide +kernel)
set_option maxRecDepth 20000 in
theorem gL_law_L_areDrawersSo : GoodIn wsL_law (va_wsS RL 87 yL_areDrawersSo wsL_areDrawersSo) := goodIn_app (goodIn_of _ (by decide +kernel)) ggL_law_L_areDrawersSo
set_option maxRecDepth 20000 in
theorem ggL_law_L_low : GoodIn wsL_law wsL_low := goodIn_r _ [114, 115] (by decide +kernel) (by decide +kernel)
set_option maxRecDepth 20000 in
theorem gL_law_L_low : GoodIn wsL_law (va_wsS RL 14 yL_low wsL_low) := goodIn_app (goodIn_of _ (by decide +kernel)) ggL_law_L_low
