set_option maxRecDepth 20000 in
theorem ggL_law_X5_needs : GoodIn wsL_law wsX5_needs := goodIn_r _ [254, 16, 20, 188, 120, 121, 15, 122, 118, 255, 256, 257, 19, 258, 51, 259, 260, 261, 262, 127, 52, 678, 679, 680, 681, 682, 683, 684, 685, 686, 687, 721, 722, 723, 724, 725, 726, 727, 728, 729, 730, 731, 732] (by decide +kernel) (by decide +kernel)
set_option maxRecDepth 20000 in
theorem gL_law_X5_needs : GoodIn wsL_law (wsV RL 42 RX5 yX5_needs wsX5_needs) := goodIn_app (goodIn_r _ [251, 252, 253, 2] (by decide +kernel) (by decide +kernel)) ggL_law_X5_needs
set_option maxRecDepth 20000 in
theorem ggL_law_X6_needs : GoodIn wsL_law wsX6_needs := goodIn_r _ [266, 201, 202, 203, 5, 204, 150, 155, 156, 157, 267, 268, 269, 270, 83, 87, 86, 688, 689, 690, 691, 692, 693, 694, 695, 696, 697, 698, 699, 700, 701, 702, 703, 704, 705, 706, 707, 708, 709, 710, 711, 712, 713, 714, 715, 716, 717, 718, 719, 720] (by decide +kernel) (by decide +kernel)
set_option maxRecDepth 20000 in
theorem gL_law_X6_needs : GoodIn wsL_law (wsV RL 45 RX6 yX6_needs wsX6_needs) := goodIn_app (goodIn_r _ [263, 264, 265, 5] (by decide +kernel) (by decide +kernel)) ggL_law_X6_needs
set_option maxRecDepth 20000 in
theorem ggL_law_X5_orders : GoodIn wsL_law wsX5_orders := goodIn_r _ [274, 20, 275, 276, 277, 19, 278, 53, 279, 280, 281, 282, 128, 127, 283, 284, 285, 286, 287, 288, 289, 290, 52, 678, 679, 680, 681, 682, 683, 684, 685, 686, 687, 727, 728, 729, 730, 731, 732] (by decide +kernel) (by decide +kernel)
set_option maxRecDepth 20000 in
theorem gL_law_X5_orders : GoodIn wsL_law (wsV RL 46 RX5 yX5_orders wsX5_orders) := goodIn_app (goodIn_r _ [271, 272, 273, 2] (by decide +kernel) (by decide +kernel)) ggL_law_X5_orders
set_option maxRecDepth 20000 in
theorem ggL_law_X6_orders : GoodIn wsL_law wsX6_orders := goodIn_r _ [294, 90, 688, 689, 690, 691, 692, 693, 694, 695, 696, 697, 698, 699, 700, 701, 702, 703, 704, 705, 706, 707, 708, 709, 710, 711, 712, 713, 714, 715, 716, 717, 718, 719, 720] (by decide +kernel) (by decide +kernel)
set_option maxRecDepth 20000 in
theorem gL_law_X6_orders : GoodIn wsL_law (wsV RL 50 RX6 yX6_orders wsX6_orders) := goodIn_app (goodIn_r _ [291, 292, 293, 5] (by decide +kernel) (by decide +kernel)) ggL_law_X6_orders
set_option maxRecDepth 20000 in
theorem ggL_law_X5_right : GoodIn wsL_law wsX5_right := goodIn_r _ [298, 20, 299, 300, 301, 19, 302, 127, 303, 276, 277, 278, 53, 279, 280, 281, 282, 128, 283, 284, 285, 286, 287, 288, 289, 290, 52, 304, 305, 306, 307, 308, 309, 310, 311, 50, 678, 679, 680, 681, 682, 683, 684, 685, 686, 687, 727, 728, 729, 730, 731, 732] (by decide +kernel) (by decide +kernel)
set_option maxRecDepth 20000 in
theorem gL_law_X5_right : GoodIn wsL_law (wsV RL 53 RX5 yX5_right wsX5_right) := goodIn_app (goodIn_r _ [295, 296, 297, 2] (by decide +kernel) (by decide +kernel)) ggL_law_X5_right
set_option maxRecDepth 20000 in
theorem ggL_law_X6_right : GoodIn wsL_law wsX6_right := goodIn_r _ [315, 90, 151, 88, 85, 155, 156, 5, 157, 688, 689, 690, 691, 692, 693, 694, 695, 696, 697, 698, 699, 700, 701, 702, 703, 704, 705, 706, 707, 708, 709, 710, 711, 712, 713, 714, 715, 716, 717, 718, 719, 720] (by decide +kernel) (by decide +kernel)
set_option maxRecDepth 20000 in
theorem gL_law_X6_right : GoodIn wsL_law (wsV RL 57 RX6 yX6_right wsX6_right) := goodIn_app (goodIn_r _ [312, 313, 314, 5] (by decide +kernel) (by decide +kernel)) ggL_law_X6_right
set_option maxRecDepth 20000 in
theorem ggL_law_X5_which : GoodIn wsL_law wsX5_which := goodIn_r _ [319, 20, 24, 320, 321, 322, 19, 323, 127, 324, 279, 280, 281, 282, 128, 53, 283, 284, 285, 286, 287, 288, 289, 290, 52, 325, 326, 327, 23, 328, 61, 329, 330, 331, 332, 333, 334, 256, 257, 258, 51, 678, 679, 680, 681, 682, 683, 684, 685, 686, 687, 733, 734, 727, 728, 729, 730, 731, 732] (by decide +kernel) (by decide +kernel)
set_option maxRecDepth 20000 in
theorem gL_law_X5_which : GoodIn wsL_law (wsV RL 58 RX5 yX5_which wsX5_which) := goodIn_app (goodIn_r _ [316, 317, 318, 2] (by decide +kernel) (by decide +kernel)) ggL_law_X5_which
set_option maxRecDepth 20000 in
theorem ggL_law_X6_which : GoodIn wsL_law wsX6_which := goodIn_r _ [338, 149, 151, 339, 92, 83, 88, 86, 90, 688, 689, 690, 691, 692, 693, 694, 695, 696, 697, 698, 699, 700, 701, 702, 703, 704, 705, 706, 707, 708, 709, 710, 711, 712, 713, 714, 715, 716, 717, 718, 719, 720] (by decide +kernel) (by decide +kernel)
set_option maxRecDepth 20000 in
theorem gL_law_X6_which : GoodIn wsL_law (wsV RL 61 RX6 yX6_which wsX6_which) := goodIn_app (goodIn_r _ [335, 336, 337, 5] (by decide +kernel) (by decide +kernel)) ggL_law_X6_which
set_option maxRecDepth 20000 in
theorem ggL_law_X5_lay : GoodIn wsL_law wsX5_lay := goodIn_r _ [343, 16, 24, 188, 120, 121, 15, 122, 118, 344, 345, 346, 23, 347, 348, 349, 350, 351, 333, 61, 352, 353, 354, 355, 678, 679, 680, 681, 682, 683, 684, 685, 686, 687, 733, 734, 721, 722, 723, 724, 725, 726] (by decide +kernel) (by decide +kernel)
set_option maxRecDepth 20000 in
theorem gL_law_X5_lay : GoodIn wsL_law (wsV RL 62 RX5 yX5_lay wsX5_lay) := goodIn_app (goodIn_r _ [340, 341, 342, 2] (by decide +kernel) (by decide +kernel)) ggL_law_X5_lay
set_option maxRecDepth 20000 in
theorem ggL_law_X6_lay : GoodIn wsL_law wsX6_lay := goodIn_r _ [359, 149, 201, 202, 203, 5, 204, 150, 155, 156, 157, 360, 361, 362, 363, 92, 364, 365, 366, 367, 688, 689, 690, 691, 692, 693, 694, 695, 696, 697, 698, 699, 700, 701, 702, 703, 704, 705, 706, 707, 708, 709, 710, 711, 712, 713, 714, 715, 716, 717, 718, 719, 720] (by decide +kernel) (by decide +kernel)
set_option maxRecDepth 20000 in
theorem gL_law_X6_lay : GoodIn wsL_law (wsV RL 65 RX6 yX6_lay wsX6_lay) := goodIn_app (goodIn_r _ [356, 357, 358, 5] (by decide +kernel) (by decide +kernel)) ggL_law_X6_lay
set_option maxRecDepth 20000 in
theorem ggL_law_X5_take : GoodIn wsL_law wsX5_take := goodIn_r _ [371, 24, 372, 330, 331, 23, 332, 333, 373, 374, 375, 376, 61, 329, 678, 679, 680, 681, 682, 683, 684, 685, 686, 687, 733, 734] (by decide +kernel) (by decide +kernel)
set_option maxRecDepth 20000 in
theorem gL_law_X5_take : GoodIn wsL_law (wsV RL 66 RX5 yX5_take wsX5_take) := goodIn_app (goodIn_r _ [368, 369, 370, 2] (by decide +kernel) (by decide +kernel)) ggL_law_X5_take
set_option maxRecDepth 20000 in
theorem ggL_law_X6_take : GoodIn wsL_law wsX6_take := goodIn_r _ [380, 149, 155, 156, 5, 157, 381, 382, 383, 384, 92, 688, 689, 690, 691, 692, 693, 694, 695, 696, 697, 698, 699, 700, 701, 702, 703, 704, 705, 706, 707, 708, 709, 710, 711, 712, 713, 714, 715, 716, 717, 718, 719, 720] (by decide +kernel) (by decide +kernel)
set_option maxRecDepth 20000 in
theorem gL_law_X6_take : GoodIn wsL_law (wsV RL 70 RX6 yX6_take wsX6_take) := goodIn_app (goodIn_r _ [377, 378, 379, 5] (by decide +kernel) (by decide +kernel)) ggL_law_X6_take
set_option maxRecDepth 20000 in
theorem ggL_law_X5_move : GoodIn wsL_law wsX5_move := goodIn_r _ [388, 24, 372, 330, 331, 23, 332, 333, 373, 374, 375, 376, 61, 329, 352, 353, 354, 355, 678, 679, 680, 681, 682, 683, 684, 685, 686, 687, 733, 734] (by decide +kernel) (by decide +kernel)
set_option maxRecDepth 20000 in
theorem gL_law_X5_move : GoodIn wsL_law (wsV RL 71 RX5 yX5_move wsX5_move) := goodIn_app (goodIn_r _ [385, 386, 387, 2] (by decide +kernel) (by decide +kernel)) ggL_law_X5_move
