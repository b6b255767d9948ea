set_option maxRecDepth 20000 in
theorem ggL_law_X5_init : GoodIn wsL_law wsX5_init := goodIn_r _ [9, 10, 11, 12, 13, 14, 15, 16, 17, 18, 19, 20, 21, 22, 23, 24, 25, 26, 27, 28, 29, 30, 31, 32, 33, 34, 35, 36, 37, 38, 39, 40, 41, 42, 43, 44, 45, 46, 47, 48, 49, 50, 51, 52, 53, 54, 55, 56, 57, 58, 59, 60, 61, 62, 63, 64, 65, 66, 67, 68, 69, 70, 71, 72, 73, 74, 75, 721, 722, 723, 724, 725, 726, 678, 679, 680, 681, 682, 683, 684, 685, 686, 687, 727, 728, 729, 730, 731, 732, 733, 734, 735, 736, 737, 738, 739, 740, 741, 742, 743, 744, 745, 746, 747] (by decide +kernel) (by decide +kernel)
set_option maxRecDepth 20000 in
theorem gL_law_X5_init : GoodIn wsL_law (wsX5_init) := ggL_law_X5_init
set_option maxRecDepth 20000 in
theorem ggL_law_X6_init : GoodIn wsL_law wsX6_init := goodIn_r _ [78, 79, 11, 12, 30, 80, 81, 82, 83, 84, 85, 86, 87, 88, 89, 90, 91, 92, 93, 94, 95, 96, 97, 98, 99, 688, 689, 690, 691, 692, 693, 694, 695, 696, 697, 698, 699, 700, 701, 702, 703, 704, 705, 706, 707, 708, 709, 710, 711, 712, 713, 714, 715, 716, 717, 718, 719, 720] (by decide +kernel) (by decide +kernel)
set_option maxRecDepth 20000 in
theorem gL_law_X6_init : GoodIn wsL_law (wsX6_init) := ggL_law_X6_init
set_option maxRecDepth 20000 in
theorem ggL_law_X5_line : GoodIn wsL_law wsX5_line := goodIn_r _ [103, 16, 20, 104, 105, 106, 2, 107, 24, 108, 109, 15, 110, 111, 112, 113, 114, 115, 116, 117, 118, 41, 42, 43, 44, 45, 119, 120, 121, 122, 123, 124, 125, 19, 126, 127, 50, 52, 51, 128, 129, 130, 131, 132, 133, 134, 135, 136, 137, 138, 139, 140, 141, 142, 143, 144, 678, 679, 680, 681, 682, 683, 684, 685, 686, 687, 721, 722, 723, 724, 725, 726, 727, 728, 729, 730, 731, 732, 733, 734] (by decide +kernel) (by decide +kernel)
set_option maxRecDepth 20000 in
theorem gL_law_X5_line : GoodIn wsL_law (wsV RL 13 RX5 yX5_line wsX5_line) := goodIn_app (goodIn_r _ [100, 101, 102, 2] (by decide +kernel) (by decide +kernel)) ggL_law_X5_line
set_option maxRecDepth 20000 in
theorem ggL_law_X6_line : GoodIn wsL_law wsX6_line := goodIn_r _ [148, 149, 150, 151, 85, 86, 152, 153, 5, 154, 155, 156, 157, 158, 159, 160, 161, 80, 81, 82, 83, 84, 162, 163, 164, 165, 87, 88, 90, 166, 167, 168, 169, 170, 171, 172, 173, 174, 175, 688, 689, 690, 691, 692, 693, 694, 695, 696, 697, 698, 699, 700, 701, 702, 703, 704, 705, 706, 707, 708, 709, 710, 711, 712, 713, 714, 715, 716, 717, 718, 719, 720] (by decide +kernel) (by decide +kernel)
set_option maxRecDepth 20000 in
theorem gL_law_X6_line : GoodIn wsL_law (wsV RL 17 RX6 yX6_line wsX6_line) := goodIn_app (goodIn_r _ [145, 146, 147, 5] (by decide +kernel) (by decide +kernel)) ggL_law_X6_line
set_option maxRecDepth 20000 in
theorem ggL_law_X5_decoy : GoodIn wsL_law wsX5_decoy := goodIn_r _ [179, 16, 104, 105, 106, 2, 107, 24, 108, 109, 15, 110, 111, 112, 113, 114, 115, 116, 117, 118, 41, 42, 43, 44, 45, 119, 120, 121, 122, 678, 679, 680, 681, 682, 683, 684, 685, 686, 687, 721, 722, 723, 724, 725, 726, 733, 734] (by decide +kernel) (by decide +kernel)
set_option maxRecDepth 20000 in
theorem gL_law_X5_decoy : GoodIn wsL_law (wsV RL 18 RX5 yX5_decoy wsX5_decoy) := goodIn_app (goodIn_r _ [176, 177, 178, 2] (by decide +kernel) (by decide +kernel)) ggL_law_X5_decoy
set_option maxRecDepth 20000 in
theorem ggL_law_X6_decoy : GoodIn wsL_law wsX6_decoy := goodIn_r _ [183, 149, 150, 152, 153, 5, 154, 155, 156, 157, 158, 159, 160, 161, 80, 81, 82, 83, 84, 688, 689, 690, 691, 692, 693, 694, 695, 696, 697, 698, 699, 700, 701, 702, 703, 704, 705, 706, 707, 708, 709, 710, 711, 712, 713, 714, 715, 716, 717, 718, 719, 720] (by decide +kernel) (by decide +kernel)
set_option maxRecDepth 20000 in
theorem gL_law_X6_decoy : GoodIn wsL_law (wsV RL 21 RX6 yX6_decoy wsX6_decoy) := goodIn_app (goodIn_r _ [180, 181, 182, 5] (by decide +kernel) (by decide +kernel)) ggL_law_X6_decoy
set_option maxRecDepth 20000 in
theorem ggL_law_X5_wrong : GoodIn wsL_law wsX5_wrong := goodIn_r _ [187, 16, 188, 120, 121, 15, 122, 118, 104, 105, 106, 2, 107, 24, 108, 109, 110, 111, 112, 113, 189, 190, 191, 192, 44, 119, 193, 194, 195, 196, 45, 114, 115, 116, 117, 41, 42, 43, 678, 679, 680, 681, 682, 683, 684, 685, 686, 687, 721, 722, 723, 724, 725, 726, 733, 734] (by decide +kernel) (by decide +kernel)
set_option maxRecDepth 20000 in
theorem gL_law_X5_wrong : GoodIn wsL_law (wsV RL 22 RX5 yX5_wrong wsX5_wrong) := goodIn_app (goodIn_r _ [184, 185, 186, 2] (by decide +kernel) (by decide +kernel)) ggL_law_X5_wrong
set_option maxRecDepth 20000 in
theorem ggL_law_X6_wrong : GoodIn wsL_law wsX6_wrong := goodIn_r _ [200, 149, 83, 84, 150, 201, 202, 203, 5, 204, 155, 156, 157, 152, 153, 154, 158, 159, 160, 161, 80, 81, 82, 688, 689, 690, 691, 692, 693, 694, 695, 696, 697, 698, 699, 700, 701, 702, 703, 704, 705, 706, 707, 708, 709, 710, 711, 712, 713, 714, 715, 716, 717, 718, 719, 720] (by decide +kernel) (by decide +kernel)
set_option maxRecDepth 20000 in
theorem gL_law_X6_wrong : GoodIn wsL_law (wsV RL 26 RX6 yX6_wrong wsX6_wrong) := goodIn_app (goodIn_r _ [197, 198, 199, 5] (by decide +kernel) (by decide +kernel)) ggL_law_X6_wrong
set_option maxRecDepth 20000 in
theorem ggL_law_X5_input : GoodIn wsL_law wsX5_input := goodIn_r _ [208, 24, 209, 31, 678, 679, 680, 681, 682, 683, 684, 685, 686, 687, 733, 734] (by decide +kernel) (by decide +kernel)
set_option maxRecDepth 20000 in
theorem gL_law_X5_input : GoodIn wsL_law (wsV RL 27 RX5 yX5_input wsX5_input) := goodIn_app (goodIn_r _ [205, 206, 207, 2] (by decide +kernel) (by decide +kernel)) ggL_law_X5_input
set_option maxRecDepth 20000 in
theorem ggL_law_X6_input : GoodIn wsL_law wsX6_input := goodIn_r _ [213, 149, 214, 91, 688, 689, 690, 691, 692, 693, 694, 695, 696, 697, 698, 699, 700, 701, 702, 703, 704, 705, 706, 707, 708, 709, 710, 711, 712, 713, 714, 715, 716, 717, 718, 719, 720] (by decide +kernel) (by decide +kernel)
set_option maxRecDepth 20000 in
theorem gL_law_X6_input : GoodIn wsL_law (wsV RL 31 RX6 yX6_input wsX6_input) := goodIn_app (goodIn_r _ [210, 211, 212, 5] (by decide +kernel) (by decide +kernel)) ggL_law_X6_input
set_option maxRecDepth 20000 in
theorem ggL_law_X5_wipe : GoodIn wsL_law wsX5_wipe := goodIn_r _ [218, 16, 20, 24, 209, 35, 219, 220, 221, 15, 222, 118, 223, 224, 225, 19, 226, 51, 127, 128, 54, 55, 56, 57, 227, 228, 229, 34, 230, 74, 231, 232, 678, 679, 680, 681, 682, 683, 684, 685, 686, 687, 721, 722, 723, 724, 725, 726, 733, 734, 727, 728, 729, 730, 731, 732, 745, 746, 747] (by decide +kernel) (by decide +kernel)
set_option maxRecDepth 20000 in
theorem gL_law_X5_wipe : GoodIn wsL_law (wsV RL 32 RX5 yX5_wipe wsX5_wipe) := goodIn_app (goodIn_r _ [215, 216, 217, 2] (by decide +kernel) (by decide +kernel)) ggL_law_X5_wipe
set_option maxRecDepth 20000 in
theorem ggL_law_X6_wipe : GoodIn wsL_law wsX6_wipe := goodIn_r _ [236, 150, 151, 214, 149, 237, 238, 162, 163, 164, 5, 165, 87, 85, 88, 90, 166, 167, 168, 169, 80, 81, 82, 170, 171, 172, 173, 174, 175, 688, 689, 690, 691, 692, 693, 694, 695, 696, 697, 698, 699, 700, 701, 702, 703, 704, 705, 706, 707, 708, 709, 710, 711, 712, 713, 714, 715, 716, 717, 718, 719, 720] (by decide +kernel) (by decide +kernel)
set_option maxRecDepth 20000 in
theorem gL_law_X6_wipe : GoodIn wsL_law (wsV RL 36 RX6 yX6_wipe wsX6_wipe) := goodIn_app (goodIn_r _ [233, 234, 235, 5] (by decide +kernel) (by decide +kernel)) ggL_law_X6_wipe
set_option maxRecDepth 20000 in
theorem ggL_law_X5_told : GoodIn wsL_law wsX5_told := goodIn_r _ [242, 16, 188, 120, 121, 15, 122, 118, 243, 244, 245, 246, 41, 42, 43, 44, 45, 119, 678, 679, 680, 681, 682, 683, 684, 685, 686, 687, 721, 722, 723, 724, 725, 726] (by decide +kernel) (by decide +kernel)
set_option maxRecDepth 20000 in
theorem gL_law_X5_told : GoodIn wsL_law (wsV RL 37 RX5 yX5_told wsX5_told) := goodIn_app (goodIn_r _ [239, 240, 241, 2] (by decide +kernel) (by decide +kernel)) ggL_law_X5_told
set_option maxRecDepth 20000 in
theorem ggL_law_X6_told : GoodIn wsL_law wsX6_told := goodIn_r _ [250, 80, 81, 82, 83, 84, 201, 202, 203, 5, 204, 150, 155, 156, 157, 688, 689, 690, 691, 692, 693, 694, 695, 696, 697, 698, 699, 700, 701, 702, 703, 704, 705, 706, 707, 708, 709, 710, 711, 712, 713, 714, 715, 716, 717, 718, 719, 720] (by decide +kernel) (by decide +kernel)
set_option maxRecDepth 20000 in
theorem gL_law_X6_told : GoodIn wsL_law (wsV RL 41 RX6 yX6_told wsX6_told) := goodIn_app (goodIn_r _ [247, 248, 249, 5] (by decide +kernel) (by decide +kernel)) ggL_law_X6_told
