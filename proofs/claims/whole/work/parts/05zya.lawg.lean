set_option maxRecDepth 20000 in
theorem ggL_law_X5_init : GoodIn wsL_law wsX5_init := goodIn_r _ [8, 9, 10, 11, 12, 13, 14, 15, 16, 17, 18, 19, 20, 21, 22, 23, 24, 25, 26, 27, 28, 29, 30, 31, 32, 33, 34, 35, 36, 37, 38, 39, 40, 41, 42, 43, 44, 45, 46, 47, 48, 49, 50, 51, 52, 53, 54, 55, 56, 57, 58, 59, 60, 61, 62, 63, 64, 65, 66, 67, 68, 69, 70, 71, 72, 73, 74, 75, 76, 77, 778, 779, 780, 781, 782, 749, 750, 751, 752, 753, 754, 755, 756, 783, 784, 785, 786, 787, 788, 789, 790, 791, 792, 793, 794, 795, 796, 797, 798, 799, 800, 801, 802, 803] (by decide +kernel) (by decide +kernel)
set_option maxRecDepth 20000 in
theorem gL_law_X5_init : GoodIn wsL_law (wsX5_init) := ggL_law_X5_init
set_option maxRecDepth 20000 in
theorem ggL_law_X6_init : GoodIn wsL_law wsX6_init := goodIn_r _ [80, 81, 10, 11, 36, 82, 83, 84, 85, 86, 55, 87, 88, 89, 90, 91, 92, 757, 758, 759, 760, 761, 762, 763, 764, 765, 766, 767, 768, 769, 770, 771, 772, 773, 774, 775, 776, 777] (by decide +kernel) (by decide +kernel)
set_option maxRecDepth 20000 in
theorem gL_law_X6_init : GoodIn wsL_law (wsX6_init) := ggL_law_X6_init
set_option maxRecDepth 20000 in
theorem ggL_law_X5_day : GoodIn wsL_law wsX5_day := goodIn_r _ [96, 15, 97, 98, 2, 99, 100, 101, 102, 103, 104, 105, 106, 107, 108, 109, 110, 14, 111, 112, 113, 114, 115, 116, 117, 118, 119, 120, 121, 19, 23, 122, 123, 124, 18, 125, 126, 127, 128, 129, 130, 131, 49, 132, 133, 134, 135, 37, 136, 137, 138, 139, 38, 140, 39, 141, 142, 143, 22, 144, 64, 145, 146, 147, 148, 149, 150, 151, 152, 153, 154, 155, 156, 157, 158, 749, 750, 751, 752, 753, 754, 755, 756, 778, 779, 780, 781, 782, 783, 784, 785, 786, 787, 788, 789, 790, 791, 792, 793, 794] (by decide +kernel) (by decide +kernel)
set_option maxRecDepth 20000 in
theorem gL_law_X5_day : GoodIn wsL_law (wsV RL 13 RX5 yX5_day wsX5_day) := goodIn_app (goodIn_of _ (by decide +kernel)) ggL_law_X5_day
set_option maxRecDepth 20000 in
theorem ggL_law_X6_day : GoodIn wsL_law wsX6_day := goodIn_r _ [162, 163, 164, 165, 5, 166, 167, 168, 169, 170, 171, 172, 173, 82, 174, 175, 176, 177, 178, 179, 180, 181, 182, 85, 83, 84, 183, 184, 185, 186, 757, 758, 759, 760, 761, 762, 763, 764, 765, 766, 767, 768, 769, 770, 771, 772, 773, 774, 775, 776, 777] (by decide +kernel) (by decide +kernel)
set_option maxRecDepth 20000 in
theorem gL_law_X6_day : GoodIn wsL_law (wsV RL 17 RX6 yX6_day wsX6_day) := goodIn_app (goodIn_of _ (by decide +kernel)) ggL_law_X6_day
set_option maxRecDepth 20000 in
theorem ggL_law_X5_sets : GoodIn wsL_law wsX5_sets := goodIn_r _ [190, 15, 191, 154, 155, 14, 156, 112, 192, 157, 2, 158, 100, 101, 102, 97, 98, 99, 103, 104, 105, 106, 107, 193, 194, 195, 196, 37, 153, 118, 119, 120, 121, 19, 23, 122, 123, 124, 18, 125, 126, 127, 128, 129, 130, 131, 49, 132, 133, 134, 135, 136, 137, 138, 139, 38, 140, 39, 141, 142, 143, 22, 144, 64, 197, 150, 151, 152, 749, 750, 751, 752, 753, 754, 755, 756, 778, 779, 780, 781, 782, 783, 784, 785, 786, 787, 788, 789, 790, 791, 792, 793, 794] (by decide +kernel) (by decide +kernel)
set_option maxRecDepth 20000 in
theorem gL_law_X5_sets : GoodIn wsL_law (wsV RL 18 RX5 yX5_sets wsX5_sets) := goodIn_app (goodIn_of _ (by decide +kernel)) ggL_law_X5_sets
set_option maxRecDepth 20000 in
theorem ggL_law_X6_sets : GoodIn wsL_law wsX6_sets := goodIn_r _ [201, 84, 202, 203, 204, 5, 205, 163, 167, 168, 169, 206, 207, 208, 164, 165, 166, 209, 210, 211, 212, 82, 178, 179, 180, 181, 182, 85, 83, 757, 758, 759, 760, 761, 762, 763, 764, 765, 766, 767, 768, 769, 770, 771, 772, 773, 774, 775, 776, 777] (by decide +kernel) (by decide +kernel)
set_option maxRecDepth 20000 in
theorem gL_law_X6_sets : GoodIn wsL_law (wsV RL 22 RX6 yX6_sets wsX6_sets) := goodIn_app (goodIn_of _ (by decide +kernel)) ggL_law_X6_sets
set_option maxRecDepth 20000 in
theorem ggL_law_X5_draw : GoodIn wsL_law wsX5_draw := goodIn_r _ [216, 217, 15, 100, 101, 2, 102, 103, 104, 105, 106, 107, 118, 119, 120, 121, 19, 23, 122, 123, 124, 18, 125, 126, 127, 128, 129, 130, 131, 49, 132, 133, 134, 14, 135, 37, 136, 137, 138, 139, 38, 112, 140, 39, 141, 142, 143, 22, 144, 64, 218, 219, 220, 221, 222, 223, 224, 225, 226, 227, 228, 229, 230, 231, 232, 149, 150, 151, 152, 153, 154, 155, 156, 157, 158, 233, 234, 235, 236, 237, 194, 195, 196, 749, 750, 751, 752, 753, 754, 755, 756, 783, 784, 785, 778, 779, 780, 781, 782, 786, 787, 788, 789, 790, 791, 792, 793, 794] (by decide +kernel) (by decide +kernel)
set_option maxRecDepth 20000 in
theorem gL_law_X5_draw : GoodIn wsL_law (wsV RL 23 RX5 yX5_draw wsX5_draw) := goodIn_app (goodIn_of _ (by decide +kernel)) ggL_law_X5_draw
set_option maxRecDepth 20000 in
theorem ggL_law_X6_draw : GoodIn wsL_law wsX6_draw := goodIn_r _ [241, 242, 163, 243, 244, 245, 246, 247, 84, 248, 249, 167, 168, 5, 169, 170, 171, 172, 173, 82, 178, 179, 180, 181, 182, 85, 83, 250, 251, 252, 253, 757, 758, 759, 760, 761, 762, 763, 764, 765, 766, 767, 768, 769, 770, 771, 772, 773, 774, 775, 776, 777] (by decide +kernel) (by decide +kernel)
set_option maxRecDepth 20000 in
theorem gL_law_X6_draw : GoodIn wsL_law (wsV RL 27 RX6 yX6_draw wsX6_draw) := goodIn_app (goodIn_of _ (by decide +kernel)) ggL_law_X6_draw
set_option maxRecDepth 20000 in
theorem ggL_law_X5_empties : GoodIn wsL_law wsX5_empties := goodIn_r _ [257, 15, 108, 109, 110, 14, 111, 112, 118, 119, 120, 2, 121, 19, 23, 122, 123, 124, 18, 125, 126, 127, 128, 129, 130, 131, 49, 132, 133, 134, 135, 37, 136, 137, 138, 139, 38, 140, 39, 141, 142, 143, 22, 144, 64, 258, 259, 260, 261, 749, 750, 751, 752, 753, 754, 755, 756, 778, 779, 780, 781, 782, 783, 784, 785, 786, 787, 788, 789, 790, 791, 792, 793, 794] (by decide +kernel) (by decide +kernel)
set_option maxRecDepth 20000 in
theorem gL_law_X5_empties : GoodIn wsL_law (wsV RL 28 RX5 yX5_empties wsX5_empties) := goodIn_app (goodIn_of _ (by decide +kernel)) ggL_law_X5_empties
set_option maxRecDepth 20000 in
theorem ggL_law_X6_empties : GoodIn wsL_law wsX6_empties := goodIn_r _ [265, 163, 178, 179, 180, 5, 181, 182, 85, 83, 84, 757, 758, 759, 760, 761, 762, 763, 764, 765, 766, 767, 768, 769, 770, 771, 772, 773, 774, 775, 776, 777] (by decide +kernel) (by decide +kernel)
set_option maxRecDepth 20000 in
theorem gL_law_X6_empties : GoodIn wsL_law (wsV RL 32 RX6 yX6_empties wsX6_empties) := goodIn_app (goodIn_of _ (by decide +kernel)) ggL_law_X6_empties
set_option maxRecDepth 20000 in
theorem ggL_law_X5_rules : GoodIn wsL_law wsX5_rules := goodIn_r _ [269, 15, 270, 271, 2, 272, 100, 101, 102, 192, 157, 158, 103, 104, 105, 106, 107, 273, 274, 275, 14, 276, 140, 39, 38, 118, 119, 120, 121, 19, 23, 122, 123, 124, 18, 125, 126, 127, 128, 129, 130, 131, 49, 132, 133, 134, 135, 37, 136, 137, 138, 139, 112, 141, 142, 143, 22, 144, 64, 277, 278, 279, 280, 749, 750, 751, 752, 753, 754, 755, 756, 778, 779, 780, 781, 782, 783, 784, 785, 786, 787, 788, 789, 790, 791, 792, 793, 794] (by decide +kernel) (by decide +kernel)
set_option maxRecDepth 20000 in
theorem gL_law_X5_rules : GoodIn wsL_law (wsV RL 33 RX5 yX5_rules wsX5_rules) := goodIn_app (goodIn_of _ (by decide +kernel)) ggL_law_X5_rules
set_option maxRecDepth 20000 in
theorem ggL_law_X6_rules : GoodIn wsL_law wsX6_rules := goodIn_r _ [284, 83, 167, 168, 5, 169, 206, 207, 208, 170, 171, 172, 173, 82, 178, 179, 180, 181, 182, 85, 163, 84, 757, 758, 759, 760, 761, 762, 763, 764, 765, 766, 767, 768, 769, 770, 771, 772, 773, 774, 775, 776, 777] (by decide +kernel) (by decide +kernel)
set_option maxRecDepth 20000 in
theorem gL_law_X6_rules : GoodIn wsL_law (wsV RL 36 RX6 yX6_rules wsX6_rules) := goodIn_app (goodIn_of _ (by decide +kernel)) ggL_law_X6_rules
set_option maxRecDepth 20000 in
theorem ggL_law_X5_at : GoodIn wsL_law wsX5_at := goodIn_r _ [288, 15, 191, 154, 155, 14, 156, 112, 192, 157, 2, 158, 100, 101, 102, 103, 104, 105, 106, 107, 193, 194, 195, 196, 37, 153, 749, 750, 751, 752, 753, 754, 755, 756, 778, 779, 780, 781, 782] (by decide +kernel) (by decide +kernel)
set_option maxRecDepth 20000 in
theorem gL_law_X5_at : GoodIn wsL_law (wsV RL 37 RX5 yX5_at wsX5_at) := goodIn_app (goodIn_of _ (by decide +kernel)) ggL_law_X5_at
set_option maxRecDepth 20000 in
theorem ggL_law_X6_at : GoodIn wsL_law wsX6_at := goodIn_r _ [292, 84, 202, 203, 204, 5, 205, 163, 167, 168, 169, 206, 207, 208, 209, 210, 211, 212, 82, 757, 758, 759, 760, 761, 762, 763, 764, 765, 766, 767, 768, 769, 770, 771, 772, 773, 774, 775, 776, 777] (by decide +kernel) (by decide +kernel)
set_option maxRecDepth 20000 in
theorem gL_law_X6_at : GoodIn wsL_law (wsV RL 40 RX6 yX6_at wsX6_at) := goodIn_app (goodIn_of _ (by decide +kernel)) ggL_law_X6_at
set_option maxRecDepth 20000 in
theorem ggL_law_X5_distance : GoodIn wsL_law wsX5_distance := goodIn_r _ [296, 15, 23, 191, 154, 155, 14, 156, 112, 103, 104, 105, 2, 106, 107, 297, 298, 299, 22, 300, 64, 301, 129, 130, 131, 302, 59, 303, 60, 304, 109, 110, 111, 305, 306, 307, 308, 58, 56, 309, 194, 195, 196, 37, 153, 157, 158, 100, 101, 102, 310, 311, 312, 313, 274, 275, 276, 140, 39, 38, 314, 315, 316, 317, 318, 319, 320, 321, 322, 323, 324, 325, 326, 327, 328, 329, 63, 62, 330, 331, 332, 333, 61, 334, 335, 336, 337, 338, 339, 340, 341, 342, 343, 344, 345, 346, 347, 348, 349, 350, 749, 750, 751, 752, 753, 754, 755, 756, 778, 779, 780, 781, 782, 786, 787, 788, 789, 790, 791, 792, 793, 794] (by decide +kernel) (by decide +kernel)
set_option maxRecDepth 20000 in
theorem gL_law_X5_distance : GoodIn wsL_law (wsV RL 41 RX5 yX5_distance wsX5_distance) := goodIn_app (goodIn_of _ (by decide +kernel)) ggL_law_X5_distance
set_option maxRecDepth 20000 in
theorem ggL_law_X6_distance : GoodIn wsL_law wsX6_distance := goodIn_r _ [354, 355, 202, 203, 204, 5, 205, 163, 167, 168, 169, 170, 171, 172, 173, 82, 356, 357, 358, 359, 84, 83, 360, 361, 362, 363, 364, 365, 366, 367, 368, 369, 370, 371, 372, 373, 374, 375, 376, 377, 378, 379, 757, 758, 759, 760, 761, 762, 763, 764, 765, 766, 767, 768, 769, 770, 771, 772, 773, 774, 775, 776, 777] (by decide +kernel) (by decide +kernel)
set_option maxRecDepth 20000 in
theorem gL_law_X6_distance : GoodIn wsL_law (wsV RL 44 RX6 yX6_distance wsX6_distance) := goodIn_app (goodIn_of _ (by decide +kernel)) ggL_law_X6_distance
set_option maxRecDepth 20000 in
theorem ggL_law_X5_nearest : GoodIn wsL_law wsX5_nearest := goodIn_r _ [383, 15, 23, 191, 154, 155, 14, 156, 112, 100, 101, 2, 102, 103, 104, 105, 106, 107, 297, 298, 299, 22, 300, 64, 301, 129, 130, 131, 302, 59, 303, 60, 304, 109, 110, 111, 305, 306, 307, 308, 58, 56, 309, 194, 195, 196, 37, 153, 157, 158, 310, 311, 312, 313, 274, 275, 276, 140, 39, 38, 314, 315, 316, 317, 318, 319, 320, 321, 322, 323, 324, 325, 326, 327, 328, 329, 63, 62, 330, 331, 332, 333, 61, 334, 335, 336, 337, 338, 339, 340, 341, 384, 385, 386, 387, 388, 389, 390, 391, 392, 393, 394, 395, 342, 343, 344, 345, 346, 347, 348, 349, 350, 749, 750, 751, 752, 753, 754, 755, 756, 778, 779, 780, 781, 782, 786, 787, 788, 789, 790, 791, 792, 793, 794] (by decide +kernel) (by decide +kernel)
set_option maxRecDepth 20000 in
theorem gL_law_X5_nearest : GoodIn wsL_law (wsV RL 45 RX5 yX5_nearest wsX5_nearest) := goodIn_app (goodIn_of _ (by decide +kernel)) ggL_law_X5_nearest
set_option maxRecDepth 20000 in
theorem ggL_law_X6_nearest : GoodIn wsL_law wsX6_nearest := goodIn_r _ [399, 400, 86, 87, 202, 203, 204, 5, 205, 163, 167, 168, 169, 170, 171, 172, 173, 82, 401, 402, 403, 404, 83, 405, 406, 407, 408, 355, 409, 410, 411, 412, 356, 357, 358, 359, 84, 360, 361, 362, 363, 364, 365, 366, 367, 368, 369, 370, 371, 372, 373, 374, 375, 376, 377, 378, 379, 757, 758, 759, 760, 761, 762, 763, 764, 765, 766, 767, 768, 769, 770, 771, 772, 773, 774, 775, 776, 777] (by decide +kernel) (by decide +kernel)
set_option maxRecDepth 20000 in
theorem gL_law_X6_nearest : GoodIn wsL_law (wsV RL 48 RX6 yX6_nearest wsX6_nearest) := goodIn_app (goodIn_of _ (by decide +kernel)) ggL_law_X6_nearest
set_option maxRecDepth 20000 in
theorem ggL_law_X5_likes : GoodIn wsL_law wsX5_likes := goodIn_r _ [416, 15, 23, 191, 154, 155, 14, 156, 112, 103, 104, 105, 2, 106, 107, 297, 298, 299, 22, 300, 64, 301, 129, 130, 131, 302, 59, 303, 60, 304, 109, 110, 111, 305, 306, 307, 308, 58, 56, 309, 194, 195, 196, 37, 153, 157, 158, 100, 101, 102, 310, 311, 312, 313, 274, 275, 276, 140, 39, 38, 314, 315, 316, 317, 318, 319, 320, 321, 322, 323, 324, 325, 326, 327, 328, 329, 63, 62, 330, 331, 332, 333, 61, 334, 335, 336, 337, 338, 339, 340, 341, 417, 418, 419, 420, 749, 750, 751, 752, 753, 754, 755, 756, 778, 779, 780, 781, 782, 786, 787, 788, 789, 790, 791, 792, 793, 794] (by decide +kernel) (by decide +kernel)
set_option maxRecDepth 20000 in
theorem gL_law_X5_likes : GoodIn wsL_law (wsV RL 49 RX5 yX5_likes wsX5_likes) := goodIn_app (goodIn_of _ (by decide +kernel)) ggL_law_X5_likes
set_option maxRecDepth 20000 in
theorem ggL_law_X6_likes : GoodIn wsL_law wsX6_likes := goodIn_r _ [424, 400, 202, 203, 204, 5, 205, 163, 167, 168, 169, 170, 171, 172, 173, 82, 405, 406, 407, 408, 355, 87, 86, 409, 410, 411, 412, 83, 356, 357, 358, 359, 84, 360, 361, 362, 363, 364, 365, 366, 367, 757, 758, 759, 760, 761, 762, 763, 764, 765, 766, 767, 768, 769, 770, 771, 772, 773, 774, 775, 776, 777] (by decide +kernel) (by decide +kernel)
set_option maxRecDepth 20000 in
theorem gL_law_X6_likes : GoodIn wsL_law (wsV RL 53 RX6 yX6_likes wsX6_likes) := goodIn_app (goodIn_of _ (by decide +kernel)) ggL_law_X6_likes
set_option maxRecDepth 20000 in
theorem ggL_law_X5_serves : GoodIn wsL_law wsX5_serves := goodIn_r _ [428, 15, 23, 191, 154, 155, 14, 156, 112, 103, 104, 105, 2, 106, 107, 297, 298, 299, 22, 300, 64, 301, 129, 130, 131, 302, 59, 303, 60, 304, 109, 110, 111, 305, 306, 307, 308, 58, 56, 309, 194, 195, 196, 37, 153, 157, 158, 100, 101, 102, 310, 311, 312, 313, 274, 275, 276, 140, 39, 38, 314, 315, 316, 317, 318, 319, 320, 321, 322, 323, 324, 325, 326, 327, 328, 329, 63, 62, 330, 331, 332, 333, 61, 334, 335, 336, 337, 338, 339, 340, 341, 108, 384, 385, 386, 387, 429, 430, 431, 432, 433, 389, 390, 391, 434, 393, 394, 395, 749, 750, 751, 752, 753, 754, 755, 756, 778, 779, 780, 781, 782, 786, 787, 788, 789, 790, 791, 792, 793, 794] (by decide +kernel) (by decide +kernel)
set_option maxRecDepth 20000 in
theorem gL_law_X5_serves : GoodIn wsL_law (wsV RL 54 RX5 yX5_serves wsX5_serves) := goodIn_app (goodIn_of _ (by decide +kernel)) ggL_law_X5_serves
set_option maxRecDepth 20000 in
theorem ggL_law_X6_serves : GoodIn wsL_law wsX6_serves := goodIn_r _ [438, 163, 400, 86, 202, 203, 204, 5, 205, 167, 168, 169, 170, 171, 172, 173, 82, 401, 402, 403, 404, 83, 405, 406, 407, 408, 355, 87, 409, 410, 411, 412, 356, 357, 358, 359, 84, 360, 361, 362, 363, 364, 365, 366, 367, 757, 758, 759, 760, 761, 762, 763, 764, 765, 766, 767, 768, 769, 770, 771, 772, 773, 774, 775, 776, 777] (by decide +kernel) (by decide +kernel)
set_option maxRecDepth 20000 in
theorem gL_law_X6_serves : GoodIn wsL_law (wsV RL 57 RX6 yX6_serves wsX6_serves) := goodIn_app (goodIn_of _ (by decide +kernel)) ggL_law_X6_serves
set_option maxRecDepth 20000 in
theorem ggL_law_X5_twins : GoodIn wsL_law wsX5_twins := goodIn_r _ [442, 23, 15, 443, 100, 101, 2, 102, 103, 104, 105, 106, 107, 297, 298, 299, 22, 300, 64, 301, 129, 130, 131, 302, 59, 303, 60, 304, 109, 110, 14, 111, 112, 305, 306, 307, 308, 58, 56, 309, 194, 195, 196, 37, 153, 154, 155, 156, 157, 158, 310, 311, 312, 313, 274, 275, 276, 140, 39, 38, 314, 315, 316, 317, 318, 319, 320, 321, 322, 323, 324, 325, 326, 327, 328, 329, 63, 62, 330, 331, 332, 333, 61, 334, 335, 336, 337, 338, 339, 340, 341, 108, 342, 444, 445, 446, 343, 344, 345, 346, 347, 348, 349, 350, 749, 750, 751, 752, 753, 754, 755, 756, 786, 787, 788, 789, 790, 791, 792, 793, 794, 778, 779, 780, 781, 782] (by decide +kernel) (by decide +kernel)
set_option maxRecDepth 20000 in
theorem gL_law_X5_twins : GoodIn wsL_law (wsV RL 58 RX5 yX5_twins wsX5_twins) := goodIn_app (goodIn_of _ (by decide +kernel)) ggL_law_X5_twins
set_option maxRecDepth 20000 in
theorem ggL_law_X6_twins : GoodIn wsL_law wsX6_twins := goodIn_r _ [450, 163, 355, 167, 168, 5, 169, 170, 171, 172, 173, 82, 356, 357, 358, 359, 84, 83, 360, 361, 362, 363, 364, 365, 366, 367, 368, 369, 370, 371, 372, 373, 374, 375, 376, 377, 378, 379, 757, 758, 759, 760, 761, 762, 763, 764, 765, 766, 767, 768, 769, 770, 771, 772, 773, 774, 775, 776, 777] (by decide +kernel) (by decide +kernel)
set_option maxRecDepth 20000 in
theorem gL_law_X6_twins : GoodIn wsL_law (wsV RL 61 RX6 yX6_twins wsX6_twins) := goodIn_app (goodIn_of _ (by decide +kernel)) ggL_law_X6_twins
set_option maxRecDepth 20000 in
theorem ggL_law_X5_strangers : GoodIn wsL_law wsX5_strangers := goodIn_r _ [454, 15, 23, 191, 154, 155, 14, 156, 112, 103, 104, 105, 2, 106, 107, 297, 298, 299, 22, 300, 64, 301, 129, 130, 131, 302, 59, 303, 60, 304, 109, 110, 111, 305, 306, 307, 308, 58, 56, 309, 194, 195, 196, 37, 153, 157, 158, 100, 101, 102, 310, 311, 312, 313, 274, 275, 276, 140, 39, 38, 314, 315, 316, 317, 318, 319, 320, 321, 322, 323, 324, 325, 326, 327, 328, 329, 63, 62, 330, 331, 332, 333, 61, 334, 335, 336, 337, 338, 339, 340, 341, 108, 342, 749, 750, 751, 752, 753, 754, 755, 756, 778, 779, 780, 781, 782, 786, 787, 788, 789, 790, 791, 792, 793, 794] (by decide +kernel) (by decide +kernel)
set_option maxRecDepth 20000 in
theorem gL_law_X5_strangers : GoodIn wsL_law (wsV RL 62 RX5 yX5_strangers wsX5_strangers) := goodIn_app (goodIn_of _ (by decide +kernel)) ggL_law_X5_strangers
set_option maxRecDepth 20000 in
theorem ggL_law_X6_strangers : GoodIn wsL_law wsX6_strangers := goodIn_r _ [458, 163, 355, 202, 203, 204, 5, 205, 167, 168, 169, 170, 171, 172, 173, 82, 356, 357, 358, 359, 84, 83, 360, 361, 362, 363, 364, 365, 366, 367, 757, 758, 759, 760, 761, 762, 763, 764, 765, 766, 767, 768, 769, 770, 771, 772, 773, 774, 775, 776, 777] (by decide +kernel) (by decide +kernel)
set_option maxRecDepth 20000 in
theorem gL_law_X6_strangers : GoodIn wsL_law (wsV RL 65 RX6 yX6_strangers wsX6_strangers) := goodIn_app (goodIn_of _ (by decide +kernel)) ggL_law_X6_strangers
