/-! the law: what its calls need of the tables (printed rows) -/
set_option maxRecDepth 20000 in
theorem ggL_law_X4_size : GoodIn wsL_law wsX4_size := goodIn_r _ [232, 15, 233, 234, 235, 14, 236, 93, 186, 187, 188, 189, 92, 166, 167, 2, 168, 237, 218, 219, 220, 43, 103, 104, 105, 106, 21, 19, 20, 25, 26, 27, 31, 107, 108, 109, 18, 110, 47, 48, 49, 98, 111, 112, 113, 114, 115, 116, 24, 117, 54, 55, 56, 57, 62, 59, 118, 119, 120, 121, 122, 123, 124, 125, 126, 79, 80, 30, 81, 82, 83, 639, 640, 641, 642, 643, 644, 645, 646, 689, 690, 691, 692, 693, 694, 695, 696, 697, 698, 699, 700, 701, 702, 703, 704, 705, 706, 707, 708, 709, 710, 711, 712, 713, 714, 715, 716, 717, 718, 719, 720, 721, 722, 723, 724, 725] rfl (by decide +kernel)
set_option maxRecDepth 20000 in
theorem gL_law_X4_size : GoodIn wsL_law (wsV RL 32 RX4 yX4_size wsX4_size) := goodIn_app (goodIn_of _ (by decide +kernel)) ggL_law_X4_size
set_option maxRecDepth 20000 in
theorem ggL_law_X5_size : GoodIn wsL_law wsX5_size := goodIn_r _ [241, 142, 174, 242, 243, 244, 5, 245, 173, 175, 176, 177, 195, 196, 197, 198, 131, 647, 648, 649, 650, 651, 652, 653, 654, 655, 656, 657, 658, 659, 660, 661, 662, 663, 664, 665, 666, 667, 668, 669, 670, 671, 672, 673, 674, 675, 676, 677, 678, 679, 680, 681, 682, 683, 684, 685, 686, 687, 688] rfl (by decide +kernel)
set_option maxRecDepth 20000 in
theorem gL_law_X5_size : GoodIn wsL_law (wsV RL 36 RX5 yX5_size wsX5_size) := goodIn_app (goodIn_of _ (by decide +kernel)) ggL_law_X5_size
set_option maxRecDepth 20000 in
theorem ggL_law_X4_waits : GoodIn wsL_law wsX4_waits := goodIn_r _ [249, 15, 250, 233, 234, 235, 14, 236, 93, 166, 167, 2, 168, 103, 104, 105, 106, 21, 19, 20, 25, 26, 27, 31, 107, 108, 109, 18, 110, 47, 48, 49, 98, 111, 112, 113, 114, 115, 116, 24, 117, 54, 55, 56, 57, 62, 59, 118, 119, 120, 121, 122, 123, 124, 125, 126, 79, 80, 30, 81, 82, 83, 639, 640, 641, 642, 643, 644, 645, 646, 689, 690, 691, 692, 693, 694, 695, 696, 697, 698, 699, 700, 701, 702, 703, 704, 705, 706, 707, 708, 709, 710, 711, 712, 713, 714, 715, 716, 717, 718, 719, 720, 721, 722, 723, 724, 725] rfl (by decide +kernel)
set_option maxRecDepth 20000 in
theorem gL_law_X4_waits : GoodIn wsL_law (wsV RL 37 RX4 yX4_waits wsX4_waits) := goodIn_app (goodIn_of _ (by decide +kernel)) ggL_law_X4_waits
set_option maxRecDepth 20000 in
theorem ggL_law_X5_waits : GoodIn wsL_law wsX5_waits := goodIn_r _ [254, 143, 174, 242, 243, 244, 5, 245, 173, 175, 176, 177, 647, 648, 649, 650, 651, 652, 653, 654, 655, 656, 657, 658, 659, 660, 661, 662, 663, 664, 665, 666, 667, 668, 669, 670, 671, 672, 673, 674, 675, 676, 677, 678, 679, 680, 681, 682, 683, 684, 685, 686, 687, 688] rfl (by decide +kernel)
set_option maxRecDepth 20000 in
theorem gL_law_X5_waits : GoodIn wsL_law (wsV RL 41 RX5 yX5_waits wsX5_waits) := goodIn_app (goodIn_of _ (by decide +kernel)) ggL_law_X5_waits
set_option maxRecDepth 20000 in
theorem ggL_law_X4_back : GoodIn wsL_law wsX4_back := goodIn_r _ [258, 15, 259, 260, 233, 234, 235, 14, 236, 93, 186, 187, 188, 189, 92, 166, 167, 2, 168, 103, 104, 105, 106, 21, 19, 20, 25, 26, 27, 31, 107, 108, 109, 18, 110, 47, 48, 49, 98, 111, 112, 113, 114, 115, 116, 24, 117, 54, 55, 56, 57, 62, 59, 118, 119, 120, 121, 122, 123, 124, 125, 126, 79, 80, 30, 81, 82, 83, 639, 640, 641, 642, 643, 644, 645, 646, 689, 690, 691, 692, 693, 694, 695, 696, 697, 698, 699, 700, 701, 702, 703, 704, 705, 706, 707, 708, 709, 710, 711, 712, 713, 714, 715, 716, 717, 718, 719, 720, 721, 722, 723, 724, 725] rfl (by decide +kernel)
set_option maxRecDepth 20000 in
theorem gL_law_X4_back : GoodIn wsL_law (wsV RL 42 RX4 yX4_back wsX4_back) := goodIn_app (goodIn_of _ (by decide +kernel)) ggL_law_X4_back
