set_option maxRecDepth 20000 in
theorem ggL_law_X3_init : GoodIn wsL_law wsX3_init := goodIn_r _ [8, 9, 10, 11, 12, 13, 14, 15, 16, 17, 18, 19, 20, 21, 22, 23, 24, 25, 26, 27, 28, 29, 30, 31, 32, 33, 34, 35, 36, 37, 38, 39, 40, 41, 42, 43, 44, 45, 46, 47, 48, 49, 50, 51, 52, 53, 54, 55, 56, 57, 58, 727, 728, 729, 730, 731, 732, 733, 734, 764, 765, 766, 767, 768, 769, 770, 771, 772, 773, 774, 775, 776, 777, 778, 779] (by decide +kernel) (by decide +kernel)
set_option maxRecDepth 20000 in
theorem gL_law_X3_init : GoodIn wsL_law (wsX3_init) := ggL_law_X3_init
set_option maxRecDepth 20000 in
theorem ggL_law_X4_init : GoodIn wsL_law wsX4_init := goodIn_r _ [61, 62, 10, 11, 36, 63, 64, 65, 66, 67, 68, 69, 70, 71, 72, 73, 74, 75, 76, 77, 78, 735, 736, 737, 738, 739, 740, 741, 742, 743, 744, 745, 746, 747, 748, 749, 750, 751, 752, 753, 754, 755, 756, 757, 758, 759, 760, 761, 762, 763] (by decide +kernel) (by decide +kernel)
set_option maxRecDepth 20000 in
theorem gL_law_X4_init : GoodIn wsL_law (wsX4_init) := ggL_law_X4_init
set_option maxRecDepth 20000 in
theorem ggL_law_X3_county : GoodIn wsL_law wsX3_county := goodIn_r _ [82, 26, 13, 17, 18, 22, 83, 23, 24, 84, 85, 86, 2, 87, 88, 89, 90, 91, 92, 93, 28, 94, 56, 57, 95, 96, 97, 98, 58, 99, 100, 101, 102, 103, 104, 105, 106, 107, 108, 109, 110, 16, 111, 33, 34, 35, 112, 113, 114, 115, 37, 116, 117, 118, 119, 120, 121, 122, 123, 124, 125, 38, 39, 40, 126, 127, 128, 129, 130, 131, 132, 133, 134, 135, 136, 137, 138, 139, 140, 727, 728, 729, 730, 731, 732, 733, 734, 772, 773, 774, 775, 764, 765, 766, 767, 768, 769, 770, 771, 776, 777, 778, 779] (by decide +kernel) (by decide +kernel)
set_option maxRecDepth 20000 in
theorem gL_law_X3_county : GoodIn wsL_law (wsV RL 13 RX3 yX3_county wsX3_county) := goodIn_app (goodIn_of _ (by decide +kernel)) ggL_law_X3_county
set_option maxRecDepth 20000 in
theorem ggL_law_X4_county : GoodIn wsL_law wsX4_county := goodIn_r _ [144, 145, 146, 147, 148, 149, 5, 150, 151, 152, 153, 154, 155, 156, 157, 158, 159, 160, 63, 64, 161, 162, 163, 164, 165, 166, 167, 168, 169, 170, 70, 171, 172, 173, 174, 65, 175, 176, 177, 178, 179, 180, 181, 182, 183, 184, 185, 71, 186, 187, 188, 189, 190, 66, 67, 68, 69, 191, 192, 193, 194, 195, 196, 197, 198, 735, 736, 737, 738, 739, 740, 741, 742, 743, 744, 745, 746, 747, 748, 749, 750, 751, 752, 753, 754, 755, 756, 757, 758, 759, 760, 761, 762, 763] (by decide +kernel) (by decide +kernel)
set_option maxRecDepth 20000 in
theorem gL_law_X4_county : GoodIn wsL_law (wsV RL 17 RX4 yX4_county wsX4_county) := goodIn_app (goodIn_of _ (by decide +kernel)) ggL_law_X4_county
set_option maxRecDepth 20000 in
theorem ggL_law_X3_ofGoer : GoodIn wsL_law wsX3_ofGoer := goodIn_r _ [202, 17, 203, 204, 205, 206, 207, 208, 2, 209, 84, 210, 211, 212, 16, 213, 38, 39, 214, 215, 727, 728, 729, 730, 731, 732, 733, 734, 764, 765, 766, 767, 768, 769, 770, 771] (by decide +kernel) (by decide +kernel)
set_option maxRecDepth 20000 in
theorem gL_law_X3_ofGoer : GoodIn wsL_law (wsV RL 18 RX3 yX3_ofGoer wsX3_ofGoer) := goodIn_app (goodIn_of _ (by decide +kernel)) ggL_law_X3_ofGoer
set_option maxRecDepth 20000 in
theorem ggL_law_X4_ofGoer : GoodIn wsL_law wsX4_ofGoer := goodIn_r _ [219, 67, 68, 69, 220, 221, 222, 5, 223, 147, 224, 225, 226, 227, 735, 736, 737, 738, 739, 740, 741, 742, 743, 744, 745, 746, 747, 748, 749, 750, 751, 752, 753, 754, 755, 756, 757, 758, 759, 760, 761, 762, 763] (by decide +kernel) (by decide +kernel)
set_option maxRecDepth 20000 in
theorem gL_law_X4_ofGoer : GoodIn wsL_law (wsV RL 22 RX4 yX4_ofGoer wsX4_ofGoer) := goodIn_app (goodIn_of _ (by decide +kernel)) ggL_law_X4_ofGoer
set_option maxRecDepth 20000 in
theorem ggL_law_X3_hole : GoodIn wsL_law wsX3_hole := goodIn_r _ [231, 17, 232, 233, 234, 235, 236, 2, 237, 238, 239, 240, 241, 242, 243, 244, 245, 16, 246, 247, 248, 249, 250, 251, 252, 253, 33, 254, 255, 256, 727, 728, 729, 730, 731, 732, 733, 734, 764, 765, 766, 767, 768, 769, 770, 771] (by decide +kernel) (by decide +kernel)
set_option maxRecDepth 20000 in
theorem gL_law_X3_hole : GoodIn wsL_law (wsV RL 23 RX3 yX3_hole wsX3_hole) := goodIn_app (goodIn_of _ (by decide +kernel)) ggL_law_X3_hole
set_option maxRecDepth 20000 in
theorem ggL_law_X4_hole : GoodIn wsL_law wsX4_hole := goodIn_r _ [260, 66, 191, 261, 262, 263, 5, 264, 265, 266, 267, 268, 190, 269, 270, 271, 272, 735, 736, 737, 738, 739, 740, 741, 742, 743, 744, 745, 746, 747, 748, 749, 750, 751, 752, 753, 754, 755, 756, 757, 758, 759, 760, 761, 762, 763] (by decide +kernel) (by decide +kernel)
set_option maxRecDepth 20000 in
theorem gL_law_X4_hole : GoodIn wsL_law (wsV RL 27 RX4 yX4_hole wsX4_hole) := goodIn_app (goodIn_of _ (by decide +kernel)) ggL_law_X4_hole
set_option maxRecDepth 20000 in
theorem ggL_law_X3_hoop : GoodIn wsL_law wsX3_hoop := goodIn_r _ [276, 17, 232, 233, 234, 235, 236, 2, 237, 238, 239, 240, 241, 242, 243, 244, 245, 16, 246, 247, 248, 249, 250, 251, 252, 253, 33, 727, 728, 729, 730, 731, 732, 733, 734, 764, 765, 766, 767, 768, 769, 770, 771] (by decide +kernel) (by decide +kernel)
set_option maxRecDepth 20000 in
theorem gL_law_X3_hoop : GoodIn wsL_law (wsV RL 28 RX3 yX3_hoop wsX3_hoop) := goodIn_app (goodIn_of _ (by decide +kernel)) ggL_law_X3_hoop
set_option maxRecDepth 20000 in
theorem ggL_law_X4_hoop : GoodIn wsL_law wsX4_hoop := goodIn_r _ [280, 66, 191, 261, 262, 263, 5, 264, 265, 266, 267, 268, 190, 151, 152, 153, 269, 270, 271, 272, 735, 736, 737, 738, 739, 740, 741, 742, 743, 744, 745, 746, 747, 748, 749, 750, 751, 752, 753, 754, 755, 756, 757, 758, 759, 760, 761, 762, 763] (by decide +kernel) (by decide +kernel)
set_option maxRecDepth 20000 in
theorem gL_law_X4_hoop : GoodIn wsL_law (wsV RL 31 RX4 yX4_hoop wsX4_hoop) := goodIn_app (goodIn_of _ (by decide +kernel)) ggL_law_X4_hoop
set_option maxRecDepth 20000 in
theorem ggL_law_X3_fatten : GoodIn wsL_law wsX3_fatten := goodIn_r _ [284, 17, 204, 206, 207, 208, 2, 209, 84, 727, 728, 729, 730, 731, 732, 733, 734, 764, 765, 766, 767, 768, 769, 770, 771] (by decide +kernel) (by decide +kernel)
set_option maxRecDepth 20000 in
theorem gL_law_X3_fatten : GoodIn wsL_law (wsV RL 32 RX3 yX3_fatten wsX3_fatten) := goodIn_app (goodIn_of _ (by decide +kernel)) ggL_law_X3_fatten
set_option maxRecDepth 20000 in
theorem ggL_law_X4_fatten : GoodIn wsL_law wsX4_fatten := goodIn_r _ [288, 68, 220, 221, 222, 5, 223, 147, 151, 152, 153, 735, 736, 737, 738, 739, 740, 741, 742, 743, 744, 745, 746, 747, 748, 749, 750, 751, 752, 753, 754, 755, 756, 757, 758, 759, 760, 761, 762, 763] (by decide +kernel) (by decide +kernel)
set_option maxRecDepth 20000 in
theorem gL_law_X4_fatten : GoodIn wsL_law (wsV RL 35 RX4 yX4_fatten wsX4_fatten) := goodIn_app (goodIn_of _ (by decide +kernel)) ggL_law_X4_fatten
set_option maxRecDepth 20000 in
theorem ggL_law_X3_go : GoodIn wsL_law wsX3_go := goodIn_r _ [292, 17, 232, 205, 24, 206, 207, 208, 2, 209, 84, 238, 239, 240, 241, 242, 293, 294, 295, 16, 296, 40, 297, 211, 212, 213, 38, 39, 214, 215, 298, 299, 300, 301, 37, 302, 244, 245, 246, 247, 248, 249, 250, 251, 252, 253, 33, 303, 304, 243, 210, 305, 306, 307, 308, 35, 727, 728, 729, 730, 731, 732, 733, 734, 764, 765, 766, 767, 768, 769, 770, 771] (by decide +kernel) (by decide +kernel)
set_option maxRecDepth 20000 in
theorem gL_law_X3_go : GoodIn wsL_law (wsV RL 36 RX3 yX3_go wsX3_go) := goodIn_app (goodIn_of _ (by decide +kernel)) ggL_law_X3_go
set_option maxRecDepth 20000 in
theorem ggL_law_X4_go : GoodIn wsL_law wsX4_go := goodIn_r _ [312, 69, 193, 66, 220, 221, 222, 5, 223, 147, 265, 266, 267, 268, 190, 313, 314, 315, 316, 191, 261, 262, 263, 264, 269, 270, 271, 272, 317, 318, 319, 320, 224, 225, 226, 227, 67, 68, 735, 736, 737, 738, 739, 740, 741, 742, 743, 744, 745, 746, 747, 748, 749, 750, 751, 752, 753, 754, 755, 756, 757, 758, 759, 760, 761, 762, 763] (by decide +kernel) (by decide +kernel)
set_option maxRecDepth 20000 in
theorem gL_law_X4_go : GoodIn wsL_law (wsV RL 39 RX4 yX4_go wsX4_go) := goodIn_app (goodIn_of _ (by decide +kernel)) ggL_law_X4_go
set_option maxRecDepth 20000 in
theorem ggL_law_X3_years : GoodIn wsL_law wsX3_years := goodIn_r _ [324, 17, 23, 325, 326, 327, 2, 328, 242, 329, 330, 331, 16, 332, 37, 35, 247, 248, 249, 250, 251, 252, 253, 118, 119, 120, 121, 33, 255, 256, 333, 334, 335, 336, 727, 728, 729, 730, 731, 732, 733, 734, 764, 765, 766, 767, 768, 769, 770, 771] (by decide +kernel) (by decide +kernel)
set_option maxRecDepth 20000 in
theorem gL_law_X3_years : GoodIn wsL_law (wsV RL 40 RX3 yX3_years wsX3_years) := goodIn_app (goodIn_of _ (by decide +kernel)) ggL_law_X3_years
set_option maxRecDepth 20000 in
theorem ggL_law_X4_years : GoodIn wsL_law wsX4_years := goodIn_r _ [340, 190, 192, 151, 152, 5, 153, 341, 342, 343, 344, 191, 66, 195, 196, 197, 198, 179, 180, 181, 345, 346, 347, 348, 349, 350, 351, 735, 736, 737, 738, 739, 740, 741, 742, 743, 744, 745, 746, 747, 748, 749, 750, 751, 752, 753, 754, 755, 756, 757, 758, 759, 760, 761, 762, 763] (by decide +kernel) (by decide +kernel)
set_option maxRecDepth 20000 in
theorem gL_law_X4_years : GoodIn wsL_law (wsV RL 44 RX4 yX4_years wsX4_years) := goodIn_app (goodIn_of _ (by decide +kernel)) ggL_law_X4_years
set_option maxRecDepth 20000 in
theorem ggL_law_X3_stop : GoodIn wsL_law wsX3_stop := goodIn_r _ [355, 17, 232, 234, 235, 236, 2, 237, 238, 239, 240, 241, 242, 243, 244, 245, 16, 246, 247, 248, 249, 250, 251, 252, 253, 33, 356, 357, 358, 359, 37, 118, 119, 120, 121, 727, 728, 729, 730, 731, 732, 733, 734, 764, 765, 766, 767, 768, 769, 770, 771] (by decide +kernel) (by decide +kernel)
set_option maxRecDepth 20000 in
theorem gL_law_X3_stop : GoodIn wsL_law (wsV RL 45 RX3 yX3_stop wsX3_stop) := goodIn_app (goodIn_of _ (by decide +kernel)) ggL_law_X3_stop
set_option maxRecDepth 20000 in
theorem ggL_law_X4_stop : GoodIn wsL_law wsX4_stop := goodIn_r _ [363, 66, 261, 262, 263, 5, 264, 265, 266, 267, 268, 190, 269, 270, 271, 272, 735, 736, 737, 738, 739, 740, 741, 742, 743, 744, 745, 746, 747, 748, 749, 750, 751, 752, 753, 754, 755, 756, 757, 758, 759, 760, 761, 762, 763] (by decide +kernel) (by decide +kernel)
set_option maxRecDepth 20000 in
theorem gL_law_X4_stop : GoodIn wsL_law (wsV RL 48 RX4 yX4_stop wsX4_stop) := goodIn_app (goodIn_of _ (by decide +kernel)) ggL_law_X4_stop
set_option maxRecDepth 20000 in
theorem ggL_law_X3_season : GoodIn wsL_law wsX3_season := goodIn_r _ [367, 26, 13, 85, 86, 2, 87, 88, 89, 90, 368, 369, 370, 91, 92, 93, 28, 94, 56, 57, 95, 96, 97, 98, 58, 99, 100, 101, 102, 325, 326, 327, 328, 17, 242, 371, 372, 373, 374, 107, 206, 207, 208, 209, 84, 375, 376, 377, 378, 18, 133, 134, 135, 16, 136, 33, 34, 35, 37, 137, 138, 139, 140, 38, 39, 40, 379, 380, 381, 382, 383, 330, 331, 332, 247, 248, 249, 250, 251, 252, 253, 118, 119, 120, 121, 255, 256, 384, 357, 358, 359, 385, 294, 295, 296, 297, 211, 212, 213, 214, 215, 298, 299, 300, 301, 302, 244, 245, 246, 303, 304, 386, 306, 307, 308, 387, 388, 389, 390, 391, 392, 393, 233, 205, 333, 334, 335, 336, 394, 395, 396, 397, 727, 728, 729, 730, 731, 732, 733, 734, 776, 777, 778, 779, 764, 765, 766, 767, 768, 769, 770, 771] (by decide +kernel) (by decide +kernel)
set_option maxRecDepth 20000 in
theorem gL_law_X3_season : GoodIn wsL_law (wsV RL 49 RX3 yX3_season wsX3_season) := goodIn_app (goodIn_of _ (by decide +kernel)) ggL_law_X3_season
set_option maxRecDepth 20000 in
theorem ggL_law_X4_season : GoodIn wsL_law wsX4_season := goodIn_r _ [401, 145, 190, 65, 148, 149, 5, 150, 151, 152, 153, 154, 155, 156, 157, 158, 159, 160, 63, 64, 161, 162, 163, 164, 402, 403, 404, 405, 220, 221, 222, 223, 147, 406, 407, 408, 409, 191, 410, 72, 66, 73, 69, 195, 196, 197, 198, 179, 180, 181, 411, 412, 413, 414, 415, 416, 417, 418, 419, 341, 342, 343, 344, 345, 346, 347, 313, 314, 315, 316, 261, 262, 263, 264, 265, 266, 267, 268, 269, 270, 271, 272, 317, 318, 319, 320, 224, 225, 226, 227, 67, 68, 420, 421, 422, 423, 348, 349, 350, 351, 424, 425, 426, 427, 735, 736, 737, 738, 739, 740, 741, 742, 743, 744, 745, 746, 747, 748, 749, 750, 751, 752, 753, 754, 755, 756, 757, 758, 759, 760, 761, 762, 763] (by decide +kernel) (by decide +kernel)
set_option maxRecDepth 20000 in
theorem gL_law_X4_season : GoodIn wsL_law (wsV RL 53 RX4 yX4_season wsX4_season) := goodIn_app (goodIn_of _ (by decide +kernel)) ggL_law_X4_season
set_option maxRecDepth 20000 in
theorem ggL_law_X3_widest : GoodIn wsL_law wsX3_widest := goodIn_r _ [431, 17, 234, 235, 236, 2, 237, 238, 239, 240, 241, 242, 432, 433, 434, 16, 435, 33, 255, 256, 298, 299, 300, 301, 37, 302, 244, 245, 246, 247, 248, 249, 250, 251, 252, 253, 303, 304, 254, 727, 728, 729, 730, 731, 732, 733, 734, 764, 765, 766, 767, 768, 769, 770, 771] (by decide +kernel) (by decide +kernel)
set_option maxRecDepth 20000 in
theorem gL_law_X3_widest : GoodIn wsL_law (wsV RL 54 RX3 yX3_widest wsX3_widest) := goodIn_app (goodIn_of _ (by decide +kernel)) ggL_law_X3_widest
set_option maxRecDepth 20000 in
theorem ggL_law_X4_widest : GoodIn wsL_law wsX4_widest := goodIn_r _ [439, 261, 262, 263, 5, 264, 265, 266, 267, 268, 190, 440, 441, 442, 443, 66, 345, 346, 347, 269, 270, 271, 272, 735, 736, 737, 738, 739, 740, 741, 742, 743, 744, 745, 746, 747, 748, 749, 750, 751, 752, 753, 754, 755, 756, 757, 758, 759, 760, 761, 762, 763] (by decide +kernel) (by decide +kernel)
set_option maxRecDepth 20000 in
theorem gL_law_X4_widest : GoodIn wsL_law (wsV RL 57 RX4 yX4_widest wsX4_widest) := goodIn_app (goodIn_of _ (by decide +kernel)) ggL_law_X4_widest
set_option maxRecDepth 20000 in
theorem ggL_law_X3_way : GoodIn wsL_law wsX3_way := goodIn_r _ [447, 17, 448, 205, 206, 207, 208, 2, 209, 84, 238, 239, 240, 241, 242, 210, 211, 212, 16, 213, 38, 39, 214, 215, 449, 450, 451, 452, 33, 41, 37, 247, 248, 249, 250, 302, 244, 245, 246, 251, 252, 253, 298, 299, 300, 301, 303, 304, 453, 454, 455, 456, 40, 297, 457, 458, 459, 460, 727, 728, 729, 730, 731, 732, 733, 734, 764, 765, 766, 767, 768, 769, 770, 771] (by decide +kernel) (by decide +kernel)
set_option maxRecDepth 20000 in
theorem gL_law_X3_way : GoodIn wsL_law (wsV RL 58 RX3 yX3_way wsX3_way) := goodIn_app (goodIn_of _ (by decide +kernel)) ggL_law_X3_way
set_option maxRecDepth 20000 in
theorem ggL_law_X4_way : GoodIn wsL_law wsX4_way := goodIn_r _ [464, 69, 74, 220, 221, 222, 5, 223, 147, 265, 266, 267, 268, 190, 151, 152, 153, 465, 466, 467, 468, 269, 270, 271, 272, 317, 318, 319, 320, 66, 224, 225, 226, 227, 67, 68, 735, 736, 737, 738, 739, 740, 741, 742, 743, 744, 745, 746, 747, 748, 749, 750, 751, 752, 753, 754, 755, 756, 757, 758, 759, 760, 761, 762, 763] (by decide +kernel) (by decide +kernel)
set_option maxRecDepth 20000 in
theorem gL_law_X4_way : GoodIn wsL_law (wsV RL 61 RX4 yX4_way wsX4_way) := goodIn_app (goodIn_of _ (by decide +kernel)) ggL_law_X4_way
set_option maxRecDepth 20000 in
theorem ggL_law_X3_market : GoodIn wsL_law wsX3_market := goodIn_r _ [472, 17, 242, 325, 326, 327, 2, 328, 473, 474, 475, 16, 476, 34, 40, 297, 211, 212, 213, 38, 39, 214, 215, 477, 433, 434, 435, 33, 255, 256, 298, 299, 300, 301, 37, 302, 244, 245, 246, 247, 248, 249, 250, 251, 252, 253, 303, 304, 478, 479, 480, 481, 482, 483, 484, 727, 728, 729, 730, 731, 732, 733, 734, 764, 765, 766, 767, 768, 769, 770, 771] (by decide +kernel) (by decide +kernel)
set_option maxRecDepth 20000 in
theorem gL_law_X3_market : GoodIn wsL_law (wsV RL 62 RX3 yX3_market wsX3_market) := goodIn_app (goodIn_of _ (by decide +kernel)) ggL_law_X3_market
set_option maxRecDepth 20000 in
theorem ggL_law_X4_market : GoodIn wsL_law wsX4_market := goodIn_r _ [488, 190, 147, 151, 152, 5, 153, 489, 490, 491, 492, 69, 493, 494, 495, 496, 224, 225, 226, 227, 67, 68, 440, 441, 442, 443, 66, 345, 346, 347, 269, 270, 271, 272, 497, 498, 499, 735, 736, 737, 738, 739, 740, 741, 742, 743, 744, 745, 746, 747, 748, 749, 750, 751, 752, 753, 754, 755, 756, 757, 758, 759, 760, 761, 762, 763] (by decide +kernel) (by decide +kernel)
set_option maxRecDepth 20000 in
theorem gL_law_X4_market : GoodIn wsL_law (wsV RL 65 RX4 yX4_market wsX4_market) := goodIn_app (goodIn_of _ (by decide +kernel)) ggL_law_X4_market
set_option maxRecDepth 20000 in
theorem ggL_law_X3_widen : GoodIn wsL_law wsX3_widen := goodIn_r _ [503, 17, 448, 205, 206, 207, 208, 2, 209, 84, 238, 239, 240, 241, 242, 210, 211, 212, 16, 213, 38, 39, 214, 215, 449, 450, 451, 452, 33, 41, 37, 247, 248, 249, 250, 302, 244, 245, 246, 251, 252, 253, 298, 299, 300, 301, 303, 304, 727, 728, 729, 730, 731, 732, 733, 734, 764, 765, 766, 767, 768, 769, 770, 771] (by decide +kernel) (by decide +kernel)
set_option maxRecDepth 20000 in
theorem gL_law_X3_widen : GoodIn wsL_law (wsV RL 66 RX3 yX3_widen wsX3_widen) := goodIn_app (goodIn_of _ (by decide +kernel)) ggL_law_X3_widen
set_option maxRecDepth 20000 in
theorem ggL_law_X4_widen : GoodIn wsL_law wsX4_widen := goodIn_r _ [507, 190, 75, 69, 66, 220, 221, 222, 5, 223, 147, 265, 266, 267, 268, 269, 270, 271, 272, 317, 318, 319, 320, 224, 225, 226, 227, 67, 68, 735, 736, 737, 738, 739, 740, 741, 742, 743, 744, 745, 746, 747, 748, 749, 750, 751, 752, 753, 754, 755, 756, 757, 758, 759, 760, 761, 762, 763] (by decide +kernel) (by decide +kernel)
set_option maxRecDepth 20000 in
theorem gL_law_X4_widen : GoodIn wsL_law (wsV RL 69 RX4 yX4_widen wsX4_widen) := goodIn_app (goodIn_of _ (by decide +kernel)) ggL_law_X4_widen
set_option maxRecDepth 20000 in
theorem ggL_law_X3_keep : GoodIn wsL_law wsX3_keep := goodIn_r _ [511, 17, 205, 206, 207, 208, 2, 209, 84, 238, 239, 240, 241, 242, 512, 513, 514, 16, 515, 33, 40, 255, 256, 297, 211, 212, 213, 38, 39, 214, 215, 516, 517, 518, 519, 298, 299, 300, 301, 37, 302, 244, 245, 246, 247, 248, 249, 250, 251, 252, 253, 303, 304, 520, 521, 522, 523, 479, 480, 481, 482, 483, 484, 727, 728, 729, 730, 731, 732, 733, 734, 764, 765, 766, 767, 768, 769, 770, 771] (by decide +kernel) (by decide +kernel)
set_option maxRecDepth 20000 in
theorem gL_law_X3_keep : GoodIn wsL_law (wsV RL 70 RX3 yX3_keep wsX3_keep) := goodIn_app (goodIn_of _ (by decide +kernel)) ggL_law_X3_keep
set_option maxRecDepth 20000 in
theorem ggL_law_X4_keep : GoodIn wsL_law wsX4_keep := goodIn_r _ [527, 69, 220, 221, 222, 5, 223, 147, 265, 266, 267, 268, 190, 195, 196, 197, 198, 179, 180, 181, 497, 498, 499, 493, 494, 495, 496, 224, 225, 226, 227, 67, 68, 440, 441, 442, 443, 66, 345, 346, 347, 269, 270, 271, 272, 735, 736, 737, 738, 739, 740, 741, 742, 743, 744, 745, 746, 747, 748, 749, 750, 751, 752, 753, 754, 755, 756, 757, 758, 759, 760, 761, 762, 763] (by decide +kernel) (by decide +kernel)
set_option maxRecDepth 20000 in
theorem gL_law_X4_keep : GoodIn wsL_law (wsV RL 73 RX4 yX4_keep wsX4_keep) := goodIn_app (goodIn_of _ (by decide +kernel)) ggL_law_X4_keep
set_option maxRecDepth 20000 in
theorem ggL_law_X3_reading : GoodIn wsL_law wsX3_reading := goodIn_r _ [531, 22, 83, 17, 206, 207, 208, 2, 209, 84, 234, 235, 236, 237, 238, 239, 240, 241, 242, 243, 244, 245, 16, 246, 247, 248, 249, 250, 251, 252, 253, 33, 532, 533, 534, 21, 535, 50, 46, 47, 49, 727, 728, 729, 730, 731, 732, 733, 734, 772, 773, 774, 775, 764, 765, 766, 767, 768, 769, 770, 771] (by decide +kernel) (by decide +kernel)
set_option maxRecDepth 20000 in
theorem gL_law_X3_reading : GoodIn wsL_law (wsV RL 74 RX3 yX3_reading wsX3_reading) := goodIn_app (goodIn_of _ (by decide +kernel)) ggL_law_X3_reading
set_option maxRecDepth 20000 in
theorem ggL_law_X4_reading : GoodIn wsL_law wsX4_reading := goodIn_r _ [539, 194, 76, 77, 78, 220, 221, 222, 5, 223, 147, 261, 262, 263, 264, 265, 266, 267, 268, 190, 151, 152, 153, 269, 270, 271, 272, 735, 736, 737, 738, 739, 740, 741, 742, 743, 744, 745, 746, 747, 748, 749, 750, 751, 752, 753, 754, 755, 756, 757, 758, 759, 760, 761, 762, 763] (by decide +kernel) (by decide +kernel)
set_option maxRecDepth 20000 in
theorem gL_law_X4_reading : GoodIn wsL_law (wsV RL 77 RX4 yX4_reading wsX4_reading) := goodIn_app (goodIn_of _ (by decide +kernel)) ggL_law_X4_reading
set_option maxRecDepth 20000 in
theorem ggL_law_X3_back : GoodIn wsL_law wsX3_back := goodIn_r _ [543, 22, 83, 727, 728, 729, 730, 731, 732, 733, 734, 772, 773, 774, 775] (by decide +kernel) (by decide +kernel)
set_option maxRecDepth 20000 in
theorem gL_law_X3_back : GoodIn wsL_law (wsV RL 78 RX3 yX3_back wsX3_back) := goodIn_app (goodIn_of _ (by decide +kernel)) ggL_law_X3_back
set_option maxRecDepth 20000 in
theorem ggL_law_X4_back : GoodIn wsL_law wsX4_back := goodIn_r _ [547, 194, 151, 152, 5, 153, 735, 736, 737, 738, 739, 740, 741, 742, 743, 744, 745, 746, 747, 748, 749, 750, 751, 752, 753, 754, 755, 756, 757, 758, 759, 760, 761, 762, 763] (by decide +kernel) (by decide +kernel)
set_option maxRecDepth 20000 in
theorem gL_law_X4_back : GoodIn wsL_law (wsV RL 81 RX4 yX4_back wsX4_back) := goodIn_app (goodIn_of _ (by decide +kernel)) ggL_law_X4_back
set_option maxRecDepth 20000 in
theorem ggL_law_X3_girths : GoodIn wsL_law wsX3_girths := goodIn_r _ [551, 18, 17, 204, 22, 206, 207, 208, 2, 209, 84, 133, 134, 135, 16, 136, 33, 34, 35, 37, 137, 138, 139, 140, 38, 39, 40, 552, 553, 554, 21, 555, 50, 556, 47, 46, 49, 557, 211, 212, 213, 214, 215, 303, 304, 727, 728, 729, 730, 731, 732, 733, 734, 764, 765, 766, 767, 768, 769, 770, 771, 772, 773, 774, 775] (by decide +kernel) (by decide +kernel)
set_option maxRecDepth 20000 in
theorem gL_law_X3_girths : GoodIn wsL_law (wsV RL 82 RX3 yX3_girths wsX3_girths) := goodIn_app (goodIn_of _ (by decide +kernel)) ggL_law_X3_girths
set_option maxRecDepth 20000 in
theorem ggL_law_X4_girths : GoodIn wsL_law wsX4_girths := goodIn_r _ [561, 68, 220, 221, 222, 5, 223, 147, 562, 563, 564, 565, 194, 76, 77, 78, 317, 318, 319, 320, 66, 224, 225, 226, 227, 67, 735, 736, 737, 738, 739, 740, 741, 742, 743, 744, 745, 746, 747, 748, 749, 750, 751, 752, 753, 754, 755, 756, 757, 758, 759, 760, 761, 762, 763] (by decide +kernel) (by decide +kernel)
set_option maxRecDepth 20000 in
theorem gL_law_X4_girths : GoodIn wsL_law (wsV RL 85 RX4 yX4_girths wsX4_girths) := goodIn_app (goodIn_of _ (by decide +kernel)) ggL_law_X4_girths
set_option maxRecDepth 20000 in
theorem ggL_law_X3_kinds : GoodIn wsL_law wsX3_kinds := goodIn_r _ [569, 18, 17, 203, 22, 206, 207, 208, 2, 209, 84, 133, 134, 135, 16, 136, 33, 34, 35, 37, 137, 138, 139, 140, 38, 39, 40, 552, 553, 554, 21, 555, 50, 556, 47, 46, 49, 557, 211, 212, 213, 214, 215, 303, 304, 727, 728, 729, 730, 731, 732, 733, 734, 764, 765, 766, 767, 768, 769, 770, 771, 772, 773, 774, 775] (by decide +kernel) (by decide +kernel)
set_option maxRecDepth 20000 in
theorem gL_law_X3_kinds : GoodIn wsL_law (wsV RL 86 RX3 yX3_kinds wsX3_kinds) := goodIn_app (goodIn_of _ (by decide +kernel)) ggL_law_X3_kinds
set_option maxRecDepth 20000 in
theorem ggL_law_X4_kinds : GoodIn wsL_law wsX4_kinds := goodIn_r _ [573, 67, 220, 221, 222, 5, 223, 147, 562, 563, 564, 565, 194, 76, 77, 78, 317, 318, 319, 320, 66, 224, 225, 226, 227, 68, 735, 736, 737, 738, 739, 740, 741, 742, 743, 744, 745, 746, 747, 748, 749, 750, 751, 752, 753, 754, 755, 756, 757, 758, 759, 760, 761, 762, 763] (by decide +kernel) (by decide +kernel)
set_option maxRecDepth 20000 in
theorem gL_law_X4_kinds : GoodIn wsL_law (wsV RL 89 RX4 yX4_kinds wsX4_kinds) := goodIn_app (goodIn_of _ (by decide +kernel)) ggL_law_X4_kinds
set_option maxRecDepth 20000 in
theorem ggL_law_X3_holes : GoodIn wsL_law wsX3_holes := goodIn_r _ [577, 18, 17, 232, 22, 234, 235, 236, 2, 237, 238, 239, 240, 241, 242, 133, 134, 135, 16, 136, 33, 34, 35, 37, 137, 138, 139, 140, 38, 39, 40, 243, 244, 245, 246, 247, 248, 249, 250, 251, 252, 253, 552, 553, 554, 21, 555, 50, 556, 47, 46, 49, 557, 211, 212, 213, 214, 215, 303, 304, 727, 728, 729, 730, 731, 732, 733, 734, 764, 765, 766, 767, 768, 769, 770, 771, 772, 773, 774, 775] (by decide +kernel) (by decide +kernel)
set_option maxRecDepth 20000 in
theorem gL_law_X3_holes : GoodIn wsL_law (wsV RL 90 RX3 yX3_holes wsX3_holes) := goodIn_app (goodIn_of _ (by decide +kernel)) ggL_law_X3_holes
set_option maxRecDepth 20000 in
theorem ggL_law_X4_holes : GoodIn wsL_law wsX4_holes := goodIn_r _ [581, 66, 261, 262, 263, 5, 264, 265, 266, 267, 268, 190, 269, 270, 271, 272, 562, 563, 564, 565, 194, 76, 77, 78, 317, 318, 319, 320, 224, 225, 226, 227, 67, 68, 735, 736, 737, 738, 739, 740, 741, 742, 743, 744, 745, 746, 747, 748, 749, 750, 751, 752, 753, 754, 755, 756, 757, 758, 759, 760, 761, 762, 763] (by decide +kernel) (by decide +kernel)
set_option maxRecDepth 20000 in
theorem gL_law_X4_holes : GoodIn wsL_law (wsV RL 93 RX4 yX4_holes wsX4_holes) := goodIn_app (goodIn_of _ (by decide +kernel)) ggL_law_X4_holes
set_option maxRecDepth 20000 in
theorem ggL_law_X3_odds : GoodIn wsL_law wsX3_odds := goodIn_r _ [585, 586, 17, 205, 203, 206, 207, 208, 2, 209, 84, 238, 239, 240, 241, 242, 587, 214, 215, 432, 433, 434, 16, 435, 33, 255, 256, 298, 299, 300, 301, 37, 302, 244, 245, 246, 247, 248, 249, 250, 251, 252, 253, 303, 304, 254, 588, 589, 590, 727, 728, 729, 730, 731, 732, 733, 734, 764, 765, 766, 767, 768, 769, 770, 771] (by decide +kernel) (by decide +kernel)
set_option maxRecDepth 20000 in
theorem gL_law_X3_odds : GoodIn wsL_law (wsV RL 94 RX3 yX3_odds wsX3_odds) := goodIn_app (goodIn_of _ (by decide +kernel)) ggL_law_X3_odds
set_option maxRecDepth 20000 in
theorem ggL_law_X4_odds : GoodIn wsL_law wsX4_odds := goodIn_r _ [594, 595, 68, 596, 220, 221, 222, 5, 223, 147, 265, 266, 267, 268, 190, 151, 152, 153, 489, 490, 491, 492, 69, 493, 494, 495, 496, 224, 225, 226, 227, 67, 440, 441, 442, 443, 66, 345, 346, 347, 269, 270, 271, 272, 597, 598, 599, 735, 736, 737, 738, 739, 740, 741, 742, 743, 744, 745, 746, 747, 748, 749, 750, 751, 752, 753, 754, 755, 756, 757, 758, 759, 760, 761, 762, 763] (by decide +kernel) (by decide +kernel)
set_option maxRecDepth 20000 in
theorem gL_law_X4_odds : GoodIn wsL_law (wsV RL 98 RX4 yX4_odds wsX4_odds) := goodIn_app (goodIn_of _ (by decide +kernel)) ggL_law_X4_odds
set_option maxRecDepth 20000 in
theorem ggL_law_X3_sheet : GoodIn wsL_law wsX3_sheet := goodIn_r _ [603, 26, 13, 85, 86, 2, 87, 88, 89, 90, 99, 100, 101, 102, 604, 605, 606, 28, 607, 55, 56, 57, 58, 608, 609, 610, 611, 727, 728, 729, 730, 731, 732, 733, 734, 776, 777, 778, 779] (by decide +kernel) (by decide +kernel)
set_option maxRecDepth 20000 in
theorem gL_law_X3_sheet : GoodIn wsL_law (wsV RL 99 RX3 yX3_sheet wsX3_sheet) := goodIn_app (goodIn_of _ (by decide +kernel)) ggL_law_X3_sheet
set_option maxRecDepth 20000 in
theorem ggL_law_X4_sheet : GoodIn wsL_law wsX4_sheet := goodIn_r _ [615, 145, 63, 64, 65, 148, 149, 5, 150, 151, 152, 153, 154, 155, 156, 161, 162, 163, 164, 735, 736, 737, 738, 739, 740, 741, 742, 743, 744, 745, 746, 747, 748, 749, 750, 751, 752, 753, 754, 755, 756, 757, 758, 759, 760, 761, 762, 763] (by decide +kernel) (by decide +kernel)
set_option maxRecDepth 20000 in
theorem gL_law_X4_sheet : GoodIn wsL_law (wsV RL 102 RX4 yX4_sheet wsX4_sheet) := goodIn_app (goodIn_of _ (by decide +kernel)) ggL_law_X4_sheet
set_option maxRecDepth 20000 in
theorem ggL_law_X3_lose : GoodIn wsL_law wsX3_lose := goodIn_r _ [619, 13, 620, 85, 86, 2, 87, 727, 728, 729, 730, 731, 732, 733, 734, 776, 777, 778, 779] (by decide +kernel) (by decide +kernel)
set_option maxRecDepth 20000 in
theorem gL_law_X3_lose : GoodIn wsL_law (wsV RL 103 RX3 yX3_lose wsX3_lose) := goodIn_app (goodIn_of _ (by decide +kernel)) ggL_law_X3_lose
set_option maxRecDepth 20000 in
theorem ggL_law_X4_lose : GoodIn wsL_law wsX4_lose := goodIn_r _ [624, 63, 148, 149, 5, 150, 151, 152, 153, 735, 736, 737, 738, 739, 740, 741, 742, 743, 744, 745, 746, 747, 748, 749, 750, 751, 752, 753, 754, 755, 756, 757, 758, 759, 760, 761, 762, 763] (by decide +kernel) (by decide +kernel)
set_option maxRecDepth 20000 in
theorem gL_law_X4_lose : GoodIn wsL_law (wsV RL 106 RX4 yX4_lose wsX4_lose) := goodIn_app (goodIn_of _ (by decide +kernel)) ggL_law_X4_lose
set_option maxRecDepth 20000 in
theorem ggL_law_X3_put : GoodIn wsL_law wsX3_put := goodIn_r _ [628, 26, 13, 620, 107, 629, 85, 86, 2, 87, 99, 100, 101, 102, 95, 96, 97, 28, 98, 58, 630, 631, 632, 727, 728, 729, 730, 731, 732, 733, 734, 776, 777, 778, 779] (by decide +kernel) (by decide +kernel)
set_option maxRecDepth 20000 in
theorem gL_law_X3_put : GoodIn wsL_law (wsV RL 107 RX3 yX3_put wsX3_put) := goodIn_app (goodIn_of _ (by decide +kernel)) ggL_law_X3_put
set_option maxRecDepth 20000 in
theorem ggL_law_X4_put : GoodIn wsL_law wsX4_put := goodIn_r _ [636, 145, 63, 64, 65, 148, 149, 5, 150, 151, 152, 153, 161, 162, 163, 164, 735, 736, 737, 738, 739, 740, 741, 742, 743, 744, 745, 746, 747, 748, 749, 750, 751, 752, 753, 754, 755, 756, 757, 758, 759, 760, 761, 762, 763] (by decide +kernel) (by decide +kernel)
set_option maxRecDepth 20000 in
theorem gL_law_X4_put : GoodIn wsL_law (wsV RL 110 RX4 yX4_put wsX4_put) := goodIn_app (goodIn_of _ (by decide +kernel)) ggL_law_X4_put
set_option maxRecDepth 20000 in
theorem ggL_law_X3_cell : GoodIn wsL_law wsX3_cell := goodIn_r _ [640, 26, 586, 13, 107, 85, 86, 2, 87, 88, 89, 90, 91, 92, 93, 28, 94, 56, 57, 95, 96, 97, 98, 58, 727, 728, 729, 730, 731, 732, 733, 734, 776, 777, 778, 779] (by decide +kernel) (by decide +kernel)
set_option maxRecDepth 20000 in
theorem gL_law_X3_cell : GoodIn wsL_law (wsV RL 111 RX3 yX3_cell wsX3_cell) := goodIn_app (goodIn_of _ (by decide +kernel)) ggL_law_X3_cell
set_option maxRecDepth 20000 in
theorem ggL_law_X4_cell : GoodIn wsL_law wsX4_cell := goodIn_r _ [644, 145, 595, 63, 64, 65, 148, 149, 5, 150, 151, 152, 153, 154, 155, 156, 645, 646, 647, 648, 735, 736, 737, 738, 739, 740, 741, 742, 743, 744, 745, 746, 747, 748, 749, 750, 751, 752, 753, 754, 755, 756, 757, 758, 759, 760, 761, 762, 763] (by decide +kernel) (by decide +kernel)
set_option maxRecDepth 20000 in
theorem gL_law_X4_cell : GoodIn wsL_law (wsV RL 114 RX4 yX4_cell wsX4_cell) := goodIn_app (goodIn_of _ (by decide +kernel)) ggL_law_X4_cell
set_option maxRecDepth 20000 in
theorem ggL_law_X3_copy : GoodIn wsL_law wsX3_copy := goodIn_r _ [652, 26, 13, 620, 629, 107, 653, 138, 139, 140, 85, 86, 2, 87, 99, 100, 101, 102, 95, 96, 97, 28, 98, 58, 727, 728, 729, 730, 731, 732, 733, 734, 776, 777, 778, 779] (by decide +kernel) (by decide +kernel)
set_option maxRecDepth 20000 in
theorem gL_law_X3_copy : GoodIn wsL_law (wsV RL 115 RX3 yX3_copy wsX3_copy) := goodIn_app (goodIn_of _ (by decide +kernel)) ggL_law_X3_copy
set_option maxRecDepth 20000 in
theorem ggL_law_X4_copy : GoodIn wsL_law wsX4_copy := goodIn_r _ [657, 145, 63, 64, 65, 148, 149, 5, 150, 151, 152, 153, 161, 162, 163, 164, 735, 736, 737, 738, 739, 740, 741, 742, 743, 744, 745, 746, 747, 748, 749, 750, 751, 752, 753, 754, 755, 756, 757, 758, 759, 760, 761, 762, 763] (by decide +kernel) (by decide +kernel)
set_option maxRecDepth 20000 in
theorem gL_law_X4_copy : GoodIn wsL_law (wsV RL 118 RX4 yX4_copy wsX4_copy) := goodIn_app (goodIn_of _ (by decide +kernel)) ggL_law_X4_copy
set_option maxRecDepth 20000 in
theorem ggL_law_X3_tell : GoodIn wsL_law wsX3_tell := goodIn_r _ [661, 17, 203, 206, 207, 208, 2, 209, 84, 662, 663, 664, 665, 666, 667, 668, 669, 25, 670, 671, 672, 673, 674, 675, 676, 677, 204, 727, 728, 729, 730, 731, 732, 733, 734, 764, 765, 766, 767, 768, 769, 770, 771] (by decide +kernel) (by decide +kernel)
set_option maxRecDepth 20000 in
theorem gL_law_X3_tell : GoodIn wsL_law (wsV RL 119 RX3 yX3_tell wsX3_tell) := goodIn_app (goodIn_of _ (by decide +kernel)) ggL_law_X3_tell
set_option maxRecDepth 20000 in
theorem ggL_law_X4_tell : GoodIn wsL_law wsX4_tell := goodIn_r _ [681, 68, 67, 220, 221, 222, 5, 223, 147, 682, 683, 684, 685, 686, 735, 736, 737, 738, 739, 740, 741, 742, 743, 744, 745, 746, 747, 748, 749, 750, 751, 752, 753, 754, 755, 756, 757, 758, 759, 760, 761, 762, 763] (by decide +kernel) (by decide +kernel)
set_option maxRecDepth 20000 in
theorem gL_law_X4_tell : GoodIn wsL_law (wsV RL 122 RX4 yX4_tell wsX4_tell) := goodIn_app (goodIn_of _ (by decide +kernel)) ggL_law_X4_tell
set_option maxRecDepth 20000 in
theorem ggL_law_X3_hail : GoodIn wsL_law wsX3_hail := goodIn_r _ [690, 17, 203, 205, 206, 207, 208, 2, 209, 84, 666, 667, 668, 669, 25, 727, 728, 729, 730, 731, 732, 733, 734, 764, 765, 766, 767, 768, 769, 770, 771] (by decide +kernel) (by decide +kernel)
set_option maxRecDepth 20000 in
theorem gL_law_X3_hail : GoodIn wsL_law (wsV RL 123 RX3 yX3_hail wsX3_hail) := goodIn_app (goodIn_of _ (by decide +kernel)) ggL_law_X3_hail
set_option maxRecDepth 20000 in
theorem ggL_law_X4_hail : GoodIn wsL_law wsX4_hail := goodIn_r _ [694, 67, 69, 220, 221, 222, 5, 223, 147, 682, 683, 684, 685, 686, 735, 736, 737, 738, 739, 740, 741, 742, 743, 744, 745, 746, 747, 748, 749, 750, 751, 752, 753, 754, 755, 756, 757, 758, 759, 760, 761, 762, 763] (by decide +kernel) (by decide +kernel)
set_option maxRecDepth 20000 in
theorem gL_law_X4_hail : GoodIn wsL_law (wsV RL 126 RX4 yX4_hail wsX4_hail) := goodIn_app (goodIn_of _ (by decide +kernel)) ggL_law_X4_hail
set_option maxRecDepth 20000 in
theorem ggL_law_X3_as : GoodIn wsL_law wsX3_as := goodIn_r _ [698, 26, 17, 203, 206, 207, 208, 2, 209, 84, 99, 100, 101, 102, 727, 728, 729, 730, 731, 732, 733, 734, 764, 765, 766, 767, 768, 769, 770, 771] (by decide +kernel) (by decide +kernel)
set_option maxRecDepth 20000 in
theorem gL_law_X3_as : GoodIn wsL_law (wsV RL 127 RX3 yX3_as wsX3_as) := goodIn_app (goodIn_of _ (by decide +kernel)) ggL_law_X3_as
set_option maxRecDepth 20000 in
theorem ggL_law_X4_as : GoodIn wsL_law wsX4_as := goodIn_r _ [702, 145, 67, 220, 221, 222, 5, 223, 147, 151, 152, 153, 161, 162, 163, 164, 735, 736, 737, 738, 739, 740, 741, 742, 743, 744, 745, 746, 747, 748, 749, 750, 751, 752, 753, 754, 755, 756, 757, 758, 759, 760, 761, 762, 763] (by decide +kernel) (by decide +kernel)
set_option maxRecDepth 20000 in
theorem gL_law_X4_as : GoodIn wsL_law (wsV RL 130 RX4 yX4_as wsX4_as) := goodIn_app (goodIn_of _ (by decide +kernel)) ggL_law_X4_as
set_option maxRecDepth 20000 in
theorem ggL_law_X3_trace : GoodIn wsL_law wsX3_trace := goodIn_r _ [706, 25, 727, 728, 729, 730, 731, 732, 733, 734] (by decide +kernel) (by decide +kernel)
set_option maxRecDepth 20000 in
theorem gL_law_X3_trace : GoodIn wsL_law (wsV RL 131 RX3 yX3_trace wsX3_trace) := goodIn_app (goodIn_of _ (by decide +kernel)) ggL_law_X3_trace
set_option maxRecDepth 20000 in
theorem ggL_law_X4_trace : GoodIn wsL_law wsX4_trace := goodIn_r _ [710, 686, 735, 736, 737, 738, 739, 740, 741, 742, 743, 744, 745, 746, 747, 748, 749, 750, 751, 752, 753, 754, 755, 756, 757, 758, 759, 760, 761, 762, 763] (by decide +kernel) (by decide +kernel)
set_option maxRecDepth 20000 in
theorem gL_law_X4_trace : GoodIn wsL_law (wsV RL 135 RX4 yX4_trace wsX4_trace) := goodIn_app (goodIn_of _ (by decide +kernel)) ggL_law_X4_trace
set_option maxRecDepth 20000 in
theorem ggL_law_X3_fault : GoodIn wsL_law wsX3_fault := goodIn_r _ [714, 26, 727, 728, 729, 730, 731, 732, 733, 734] (by decide +kernel) (by decide +kernel)
set_option maxRecDepth 20000 in
theorem gL_law_X3_fault : GoodIn wsL_law (wsV RL 136 RX3 yX3_fault wsX3_fault) := goodIn_app (goodIn_of _ (by decide +kernel)) ggL_law_X3_fault
set_option maxRecDepth 20000 in
theorem ggL_law_X4_fault : GoodIn wsL_law wsX4_fault := goodIn_r _ [718, 145, 735, 736, 737, 738, 739, 740, 741, 742, 743, 744, 745, 746, 747, 748, 749, 750, 751, 752, 753, 754, 755, 756, 757, 758, 759, 760, 761, 762, 763] (by decide +kernel) (by decide +kernel)
set_option maxRecDepth 20000 in
theorem gL_law_X4_fault : GoodIn wsL_law (wsV RL 139 RX4 yX4_fault wsX4_fault) := goodIn_app (goodIn_of _ (by decide +kernel)) ggL_law_X4_fault
set_option maxRecDepth 20000 in
theorem ggL_law_X3_many : GoodIn wsL_law wsX3_many := goodIn_r _ [722, 17, 242, 84, 23, 24, 22, 83, 727, 728, 729, 730, 731, 732, 733, 734, 764, 765, 766, 767, 768, 769, 770, 771, 772, 773, 774, 775] (by decide +kernel) (by decide +kernel)
set_option maxRecDepth 20000 in
theorem gL_law_X3_many : GoodIn wsL_law (wsV RL 140 RX3 yX3_many wsX3_many) := goodIn_app (goodIn_of _ (by decide +kernel)) ggL_law_X3_many
set_option maxRecDepth 20000 in
theorem ggL_law_X4_many : GoodIn wsL_law wsX4_many := goodIn_r _ [726, 190, 147, 192, 193, 194, 735, 736, 737, 738, 739, 740, 741, 742, 743, 744, 745, 746, 747, 748, 749, 750, 751, 752, 753, 754, 755, 756, 757, 758, 759, 760, 761, 762, 763] (by decide +kernel) (by decide +kernel)
set_option maxRecDepth 20000 in
theorem gL_law_X4_many : GoodIn wsL_law (wsV RL 143 RX4 yX4_many wsX4_many) := goodIn_app (goodIn_of _ (by decide +kernel)) ggL_law_X4_many
