/-! the law: what its calls need of the tables (printed rows) -/
set_option maxRecDepth 20000 in
theorem ggL_law_X4_init : GoodIn wsL_law wsX4_init := goodIn_r _ [8, 9, 10, 11, 12, 13, 14, 15, 16, 17, 18, 19, 20, 21, 22, 23, 24, 25, 26, 27, 28, 29, 30, 31, 32, 33, 34, 35, 36, 37, 38, 39, 40, 41, 42, 43, 44, 45, 46, 47, 48, 49, 50, 51, 52, 53, 54, 55, 56, 57, 58, 59, 60, 61, 62, 63, 64, 65, 66, 67, 68, 69, 70, 71, 72, 73, 74, 75, 76, 77, 78, 79, 80, 81, 82, 83, 84, 85, 86, 2, 87, 88, 89, 90, 91, 92, 93, 94, 95, 96, 97, 98, 99, 100, 101, 102, 103, 104, 105, 106, 107, 108, 109, 110, 111, 112, 113, 114, 115, 116, 117, 118, 119, 120, 121, 122, 123, 124, 125, 126, 689, 690, 691, 692, 693, 694, 695, 696, 697, 639, 640, 641, 642, 643, 644, 645, 646, 698, 699, 700, 701, 702, 703, 704, 705, 706, 707, 708, 709, 710, 711, 712, 713, 714, 715, 716, 717, 718, 719, 720, 721, 722, 723, 724, 725] rfl (by decide +kernel)
set_option maxRecDepth 20000 in
theorem gL_law_X4_init : GoodIn wsL_law (wsX4_init) := ggL_law_X4_init
set_option maxRecDepth 20000 in
theorem ggL_law_X5_init : GoodIn wsL_law wsX5_init := goodIn_r _ [129, 130, 10, 11, 131, 35, 132, 133, 134, 135, 136, 137, 138, 139, 140, 37, 141, 142, 143, 144, 145, 146, 147, 148, 149, 150, 151, 152, 153, 154, 155, 156, 157, 158, 159, 160, 161, 647, 648, 649, 650, 651, 652, 653, 654, 655, 656, 657, 658, 659, 660, 661, 662, 663, 664, 665, 666, 667, 668, 669, 670, 671, 672, 673, 674, 675, 676, 677, 678, 679, 680, 681, 682, 683, 684, 685, 686, 687, 688] rfl (by decide +kernel)
set_option maxRecDepth 20000 in
theorem gL_law_X5_init : GoodIn wsL_law (wsX5_init) := ggL_law_X5_init
set_option maxRecDepth 20000 in
theorem ggL_law_X4_columns : GoodIn wsL_law wsX4_columns := goodIn_r _ [165, 166, 167, 2, 168, 84, 85, 86, 87, 15, 19, 20, 88, 89, 90, 14, 91, 92, 93, 94, 95, 96, 18, 97, 98, 99, 100, 101, 102, 47, 48, 49, 103, 104, 105, 106, 21, 25, 26, 27, 31, 107, 108, 109, 110, 111, 112, 113, 114, 115, 116, 24, 117, 54, 55, 56, 57, 62, 59, 118, 119, 120, 121, 122, 123, 124, 125, 126, 79, 80, 30, 81, 82, 83, 639, 640, 641, 642, 643, 644, 645, 646, 689, 690, 691, 692, 693, 694, 695, 696, 697, 698, 699, 700, 701, 702, 703, 704, 705, 706, 707, 708, 709, 710, 711, 712, 713, 714, 715, 716, 717, 718, 719, 720, 721, 722, 723, 724, 725] rfl (by decide +kernel)
set_option maxRecDepth 20000 in
theorem gL_law_X4_columns : GoodIn wsL_law (wsV RL 13 RX4 yX4_columns wsX4_columns) := goodIn_app (goodIn_of _ (by decide +kernel)) ggL_law_X4_columns
set_option maxRecDepth 20000 in
theorem ggL_law_X5_columns : GoodIn wsL_law wsX5_columns := goodIn_r _ [172, 131, 173, 132, 133, 134, 135, 139, 174, 175, 176, 5, 177, 178, 179, 180, 181, 136, 137, 138, 647, 648, 649, 650, 651, 652, 653, 654, 655, 656, 657, 658, 659, 660, 661, 662, 663, 664, 665, 666, 667, 668, 669, 670, 671, 672, 673, 674, 675, 676, 677, 678, 679, 680, 681, 682, 683, 684, 685, 686, 687, 688] rfl (by decide +kernel)
set_option maxRecDepth 20000 in
theorem gL_law_X5_columns : GoodIn wsL_law (wsV RL 17 RX5 yX5_columns wsX5_columns) := goodIn_app (goodIn_of _ (by decide +kernel)) ggL_law_X5_columns
set_option maxRecDepth 20000 in
theorem ggL_law_X4_column : GoodIn wsL_law wsX4_column := goodIn_r _ [185, 15, 19, 20, 186, 187, 188, 14, 189, 92, 166, 167, 2, 168, 190, 100, 101, 18, 102, 47, 48, 49, 103, 104, 105, 106, 21, 25, 26, 27, 31, 107, 108, 109, 110, 98, 111, 112, 113, 114, 115, 116, 24, 117, 54, 55, 56, 57, 62, 59, 118, 119, 120, 121, 122, 123, 124, 125, 126, 79, 80, 30, 81, 82, 83, 639, 640, 641, 642, 643, 644, 645, 646, 689, 690, 691, 692, 693, 694, 695, 696, 697, 698, 699, 700, 701, 702, 703, 704, 705, 706, 707, 708, 709, 710, 711, 712, 713, 714, 715, 716, 717, 718, 719, 720, 721, 722, 723, 724, 725] rfl (by decide +kernel)
set_option maxRecDepth 20000 in
theorem gL_law_X4_column : GoodIn wsL_law (wsV RL 18 RX4 yX4_column wsX4_column) := goodIn_app (goodIn_of _ (by decide +kernel)) ggL_law_X4_column
