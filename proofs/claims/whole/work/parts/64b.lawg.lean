/-! the law: what its calls need of the tables (printed rows) -/
set_option maxRecDepth 20000 in
theorem ggL_law_X5_column : GoodIn wsL_law wsX5_column := goodIn_r _ [194, 132, 133, 134, 174, 195, 196, 197, 5, 198, 131, 175, 176, 177, 178, 179, 180, 181, 136, 137, 138, 647, 648, 649, 650, 651, 652, 653, 654, 655, 656, 657, 658, 659, 660, 661, 662, 663, 664, 665, 666, 667, 668, 669, 670, 671, 672, 673, 674, 675, 676, 677, 678, 679, 680, 681, 682, 683, 684, 685, 686, 687, 688] rfl (by decide +kernel)
set_option maxRecDepth 20000 in
theorem gL_law_X5_column : GoodIn wsL_law (wsV RL 22 RX5 yX5_column wsX5_column) := goodIn_app (goodIn_of _ (by decide +kernel)) ggL_law_X5_column
set_option maxRecDepth 20000 in
theorem ggL_law_X4_pace : GoodIn wsL_law wsX4_pace := goodIn_r _ [202, 19, 203, 166, 167, 2, 168, 103, 104, 105, 106, 21, 20, 25, 26, 27, 31, 107, 108, 109, 18, 110, 47, 48, 49, 98, 111, 112, 113, 114, 115, 116, 24, 117, 54, 55, 56, 57, 62, 59, 118, 119, 120, 121, 122, 123, 124, 125, 126, 79, 80, 30, 81, 82, 83, 639, 640, 641, 642, 643, 644, 645, 646, 698, 699, 700, 701, 702, 703, 704, 705, 706, 707, 708, 709, 710, 711, 712, 713, 714, 715, 716, 717, 718, 719, 720, 721, 722, 723, 724, 725] rfl (by decide +kernel)
set_option maxRecDepth 20000 in
theorem gL_law_X4_pace : GoodIn wsL_law (wsV RL 23 RX4 yX4_pace wsX4_pace) := goodIn_app (goodIn_of _ (by decide +kernel)) ggL_law_X4_pace
set_option maxRecDepth 20000 in
theorem ggL_law_X5_pace : GoodIn wsL_law wsX5_pace := goodIn_r _ [207, 135, 174, 175, 176, 5, 177, 647, 648, 649, 650, 651, 652, 653, 654, 655, 656, 657, 658, 659, 660, 661, 662, 663, 664, 665, 666, 667, 668, 669, 670, 671, 672, 673, 674, 675, 676, 677, 678, 679, 680, 681, 682, 683, 684, 685, 686, 687, 688] rfl (by decide +kernel)
set_option maxRecDepth 20000 in
theorem gL_law_X5_pace : GoodIn wsL_law (wsV RL 26 RX5 yX5_pace wsX5_pace) := goodIn_app (goodIn_of _ (by decide +kernel)) ggL_law_X5_pace
set_option maxRecDepth 20000 in
theorem ggL_law_X4_card : GoodIn wsL_law wsX4_card := goodIn_r _ [211, 15, 212, 166, 167, 2, 168, 213, 214, 215, 14, 216, 93, 36, 38, 39, 40, 41, 217, 218, 219, 220, 43, 221, 222, 223, 224, 42, 103, 104, 105, 106, 21, 19, 20, 25, 26, 27, 31, 107, 108, 109, 18, 110, 47, 48, 49, 98, 111, 112, 113, 114, 115, 116, 24, 117, 54, 55, 56, 57, 62, 59, 118, 119, 120, 121, 122, 123, 124, 125, 126, 79, 80, 30, 81, 82, 83, 639, 640, 641, 642, 643, 644, 645, 646, 689, 690, 691, 692, 693, 694, 695, 696, 697, 698, 699, 700, 701, 702, 703, 704, 705, 706, 707, 708, 709, 710, 711, 712, 713, 714, 715, 716, 717, 718, 719, 720, 721, 722, 723, 724, 725] rfl (by decide +kernel)
set_option maxRecDepth 20000 in
theorem gL_law_X4_card : GoodIn wsL_law (wsV RL 27 RX4 yX4_card wsX4_card) := goodIn_app (goodIn_of _ (by decide +kernel)) ggL_law_X4_card
set_option maxRecDepth 20000 in
theorem ggL_law_X5_card : GoodIn wsL_law wsX5_card := goodIn_r _ [228, 173, 140, 141, 143, 144, 145, 142, 174, 175, 176, 5, 177, 647, 648, 649, 650, 651, 652, 653, 654, 655, 656, 657, 658, 659, 660, 661, 662, 663, 664, 665, 666, 667, 668, 669, 670, 671, 672, 673, 674, 675, 676, 677, 678, 679, 680, 681, 682, 683, 684, 685, 686, 687, 688] rfl (by decide +kernel)
set_option maxRecDepth 20000 in
theorem gL_law_X5_card : GoodIn wsL_law (wsV RL 31 RX5 yX5_card wsX5_card) := goodIn_app (goodIn_of _ (by decide +kernel)) ggL_law_X5_card
