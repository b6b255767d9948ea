set_option maxRecDepth 20000 in
theorem ggL_law_X6_move : GoodIn wsL_law wsX6_move := goodIn_r _ [392, 149, 155, 156, 5, 157, 381, 382, 383, 384, 92, 364, 365, 366, 367, 688, 689, 690, 691, 692, 693, 694, 695, 696, 697, 698, 699, 700, 701, 702, 703, 704, 705, 706, 707, 708, 709, 710, 711, 712, 713, 714, 715, 716, 717, 718, 719, 720] (by decide +kernel) (by decide +kernel)
set_option maxRecDepth 20000 in
theorem gL_law_X6_move : GoodIn wsL_law (wsV RL 74 RX6 yX6_move wsX6_move) := goodIn_app (goodIn_r _ [389, 390, 391, 5] (by decide +kernel) (by decide +kernel)) ggL_law_X6_move
set_option maxRecDepth 20000 in
theorem ggL_law_X5_clear : GoodIn wsL_law wsX5_clear := goodIn_r _ [396, 24, 678, 679, 680, 681, 682, 683, 684, 685, 686, 687, 733, 734] (by decide +kernel) (by decide +kernel)
set_option maxRecDepth 20000 in
theorem gL_law_X5_clear : GoodIn wsL_law (wsV RL 75 RX5 yX5_clear wsX5_clear) := goodIn_app (goodIn_r _ [393, 394, 395, 2] (by decide +kernel) (by decide +kernel)) ggL_law_X5_clear
set_option maxRecDepth 20000 in
theorem ggL_law_X6_clear : GoodIn wsL_law wsX6_clear := goodIn_r _ [400, 149, 688, 689, 690, 691, 692, 693, 694, 695, 696, 697, 698, 699, 700, 701, 702, 703, 704, 705, 706, 707, 708, 709, 710, 711, 712, 713, 714, 715, 716, 717, 718, 719, 720] (by decide +kernel) (by decide +kernel)
set_option maxRecDepth 20000 in
theorem gL_law_X6_clear : GoodIn wsL_law (wsV RL 78 RX6 yX6_clear wsX6_clear) := goodIn_app (goodIn_r _ [397, 398, 399, 5] (by decide +kernel) (by decide +kernel)) ggL_law_X6_clear
set_option maxRecDepth 20000 in
theorem ggL_law_X5_at : GoodIn wsL_law wsX5_at := goodIn_r _ [404, 24, 405, 326, 327, 23, 328, 61, 329, 330, 331, 332, 333, 678, 679, 680, 681, 682, 683, 684, 685, 686, 687, 733, 734] (by decide +kernel) (by decide +kernel)
set_option maxRecDepth 20000 in
theorem gL_law_X5_at : GoodIn wsL_law (wsV RL 79 RX5 yX5_at wsX5_at) := goodIn_app (goodIn_r _ [401, 402, 403, 2] (by decide +kernel) (by decide +kernel)) ggL_law_X5_at
set_option maxRecDepth 20000 in
theorem ggL_law_X6_at : GoodIn wsL_law wsX6_at := goodIn_r _ [409, 149, 92, 155, 156, 5, 157, 688, 689, 690, 691, 692, 693, 694, 695, 696, 697, 698, 699, 700, 701, 702, 703, 704, 705, 706, 707, 708, 709, 710, 711, 712, 713, 714, 715, 716, 717, 718, 719, 720] (by decide +kernel) (by decide +kernel)
set_option maxRecDepth 20000 in
theorem gL_law_X6_at : GoodIn wsL_law (wsV RL 82 RX6 yX6_at wsX6_at) := goodIn_app (goodIn_r _ [406, 407, 408, 5] (by decide +kernel) (by decide +kernel)) ggL_law_X6_at
set_option maxRecDepth 20000 in
theorem ggL_law_X5_size : GoodIn wsL_law wsX5_size := goodIn_r _ [413, 24, 678, 679, 680, 681, 682, 683, 684, 685, 686, 687, 733, 734] (by decide +kernel) (by decide +kernel)
set_option maxRecDepth 20000 in
theorem gL_law_X5_size : GoodIn wsL_law (wsV RL 83 RX5 yX5_size wsX5_size) := goodIn_app (goodIn_r _ [410, 411, 412, 2] (by decide +kernel) (by decide +kernel)) ggL_law_X5_size
set_option maxRecDepth 20000 in
theorem ggL_law_X6_size : GoodIn wsL_law wsX6_size := goodIn_r _ [417, 149, 688, 689, 690, 691, 692, 693, 694, 695, 696, 697, 698, 699, 700, 701, 702, 703, 704, 705, 706, 707, 708, 709, 710, 711, 712, 713, 714, 715, 716, 717, 718, 719, 720] (by decide +kernel) (by decide +kernel)
set_option maxRecDepth 20000 in
theorem gL_law_X6_size : GoodIn wsL_law (wsV RL 86 RX6 yX6_size wsX6_size) := goodIn_app (goodIn_r _ [414, 415, 416, 5] (by decide +kernel) (by decide +kernel)) ggL_law_X6_size
set_option maxRecDepth 20000 in
theorem ggL_law_X5_run : GoodIn wsL_law wsX5_run := goodIn_r _ [421, 209, 35, 422, 423, 424, 2, 425, 31, 20, 24, 16, 426, 427, 428, 34, 429, 74, 430, 431, 432, 433, 231, 434, 309, 310, 19, 311, 127, 50, 405, 326, 327, 23, 328, 61, 329, 330, 331, 332, 333, 435, 436, 437, 438, 439, 244, 245, 15, 246, 41, 42, 43, 44, 45, 119, 120, 121, 122, 118, 440, 134, 135, 136, 441, 442, 443, 444, 445, 112, 113, 446, 447, 448, 449, 450, 451, 452, 453, 75, 678, 679, 680, 681, 682, 683, 684, 685, 686, 687, 745, 746, 747, 727, 728, 729, 730, 731, 732, 733, 734, 721, 722, 723, 724, 725, 726] (by decide +kernel) (by decide +kernel)
set_option maxRecDepth 20000 in
theorem gL_law_X5_run : GoodIn wsL_law (wsV RL 87 RX5 yX5_run wsX5_run) := goodIn_app (goodIn_r _ [418, 419, 420, 2] (by decide +kernel) (by decide +kernel)) ggL_law_X5_run
set_option maxRecDepth 20000 in
theorem ggL_law_X6_run : GoodIn wsL_law wsX6_run := goodIn_r _ [457, 214, 237, 238, 155, 156, 5, 157, 458, 459, 460, 461, 93, 91, 151, 149, 85, 92, 462, 463, 464, 465, 81, 82, 80, 94, 688, 689, 690, 691, 692, 693, 694, 695, 696, 697, 698, 699, 700, 701, 702, 703, 704, 705, 706, 707, 708, 709, 710, 711, 712, 713, 714, 715, 716, 717, 718, 719, 720] (by decide +kernel) (by decide +kernel)
set_option maxRecDepth 20000 in
theorem gL_law_X6_run : GoodIn wsL_law (wsV RL 91 RX6 yX6_run wsX6_run) := goodIn_app (goodIn_r _ [454, 455, 456, 5] (by decide +kernel) (by decide +kernel)) ggL_law_X6_run
set_option maxRecDepth 20000 in
theorem ggL_law_X5_printed : GoodIn wsL_law wsX5_printed := goodIn_r _ [469, 35, 470, 471, 472, 34, 473, 231, 75, 678, 679, 680, 681, 682, 683, 684, 685, 686, 687, 745, 746, 747] (by decide +kernel) (by decide +kernel)
set_option maxRecDepth 20000 in
theorem gL_law_X5_printed : GoodIn wsL_law (wsV RL 92 RX5 yX5_printed wsX5_printed) := goodIn_app (goodIn_r _ [466, 467, 468, 2] (by decide +kernel) (by decide +kernel)) ggL_law_X5_printed
set_option maxRecDepth 20000 in
theorem ggL_law_X6_printed : GoodIn wsL_law wsX6_printed := goodIn_r _ [477, 238, 94, 155, 156, 5, 157, 688, 689, 690, 691, 692, 693, 694, 695, 696, 697, 698, 699, 700, 701, 702, 703, 704, 705, 706, 707, 708, 709, 710, 711, 712, 713, 714, 715, 716, 717, 718, 719, 720] (by decide +kernel) (by decide +kernel)
set_option maxRecDepth 20000 in
theorem gL_law_X6_printed : GoodIn wsL_law (wsV RL 95 RX6 yX6_printed wsX6_printed) := goodIn_app (goodIn_r _ [474, 475, 476, 5] (by decide +kernel) (by decide +kernel)) ggL_law_X6_printed
set_option maxRecDepth 20000 in
theorem ggL_law_X5_value : GoodIn wsL_law wsX5_value := goodIn_r _ [481, 35, 482, 447, 448, 34, 449, 74, 445, 112, 15, 113, 678, 679, 680, 681, 682, 683, 684, 685, 686, 687, 745, 746, 747] (by decide +kernel) (by decide +kernel)
set_option maxRecDepth 20000 in
theorem gL_law_X5_value : GoodIn wsL_law (wsV RL 96 RX5 yX5_value wsX5_value) := goodIn_app (goodIn_r _ [478, 479, 480, 2] (by decide +kernel) (by decide +kernel)) ggL_law_X5_value
set_option maxRecDepth 20000 in
theorem ggL_law_X6_value : GoodIn wsL_law wsX6_value := goodIn_r _ [486, 237, 93, 155, 156, 5, 157, 688, 689, 690, 691, 692, 693, 694, 695, 696, 697, 698, 699, 700, 701, 702, 703, 704, 705, 706, 707, 708, 709, 710, 711, 712, 713, 714, 715, 716, 717, 718, 719, 720] (by decide +kernel) (by decide +kernel)
set_option maxRecDepth 20000 in
theorem gL_law_X6_value : GoodIn wsL_law (wsV RL 99 RX6 yX6_value wsX6_value) := goodIn_app (goodIn_r _ [483, 484, 485, 5] (by decide +kernel) (by decide +kernel)) ggL_law_X6_value
set_option maxRecDepth 20000 in
theorem ggL_law_X5_alike : GoodIn wsL_law wsX5_alike := goodIn_r _ [490, 209, 36, 37, 422, 423, 424, 2, 425, 31, 20, 24, 16, 426, 427, 428, 34, 429, 74, 430, 431, 432, 433, 231, 434, 309, 310, 19, 311, 127, 50, 405, 326, 327, 23, 328, 61, 329, 330, 331, 332, 333, 435, 436, 437, 438, 439, 244, 245, 15, 246, 41, 42, 43, 44, 45, 119, 120, 121, 122, 118, 440, 134, 135, 136, 441, 442, 443, 444, 445, 112, 113, 446, 447, 448, 449, 450, 451, 452, 453, 75, 491, 492, 493, 494, 678, 679, 680, 681, 682, 683, 684, 685, 686, 687, 727, 728, 729, 730, 731, 732, 733, 734, 745, 746, 747, 721, 722, 723, 724, 725, 726] (by decide +kernel) (by decide +kernel)
set_option maxRecDepth 20000 in
theorem gL_law_X5_alike : GoodIn wsL_law (wsV RL 100 RX5 yX5_alike wsX5_alike) := goodIn_app (goodIn_r _ [487, 488, 489, 2] (by decide +kernel) (by decide +kernel)) ggL_law_X5_alike
