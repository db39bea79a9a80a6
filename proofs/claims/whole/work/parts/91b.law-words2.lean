set_option maxRecDepth 20000 in
theorem ggL_law_X7_when : GoodIn wsL_law wsX7_when := goodIn_r _ [530, 354, 355, 356, 2, 357, 20, 358, 132, 133, 134, 531, 532, 533, 534, 25, 24, 348, 535, 536, 537, 23, 538, 304, 305, 70, 306, 66, 67, 68, 69, 453, 454, 455, 456, 457, 458, 204, 459, 460, 400, 401, 19, 402, 179, 61, 461, 462, 463, 464, 465, 466, 467, 468, 469, 56, 57, 470, 203, 205, 471, 472, 473, 474, 475, 476, 477, 478, 479, 480, 844, 845, 846, 847, 848, 849, 850, 851, 852, 853, 888, 889, 890, 891, 892, 893, 894, 895, 896, 897, 898, 899, 900, 901, 902, 903] (by decide +kernel) (by decide +kernel)
set_option maxRecDepth 20000 in
theorem gL_law_X7_when : GoodIn wsL_law (wsV RL 67 RX7 yX7_when wsX7_when) := goodIn_app (goodIn_of _ (by decide +kernel)) ggL_law_X7_when
set_option maxRecDepth 20000 in
theorem ggL_law_X8_when : GoodIn wsL_law wsX8_when := goodIn_r _ [542, 119, 363, 364, 365, 5, 366, 110, 146, 147, 148, 543, 544, 545, 546, 485, 486, 487, 488, 408, 409, 410, 411, 117, 118, 489, 490, 491, 492, 112, 111, 116, 113, 854, 855, 856, 857, 858, 859, 860, 861, 862, 863, 864, 865, 866, 867, 868, 869, 870, 871, 872, 873, 874, 875, 876, 877, 878, 879] (by decide +kernel) (by decide +kernel)
set_option maxRecDepth 20000 in
theorem gL_law_X8_when : GoodIn wsL_law (wsV RL 70 RX8 yX8_when wsX8_when) := goodIn_app (goodIn_of _ (by decide +kernel)) ggL_law_X8_when
set_option maxRecDepth 20000 in
theorem ggL_law_X7_damp : GoodIn wsL_law wsX7_damp := goodIn_r _ [550, 354, 355, 356, 2, 357, 20, 358, 132, 133, 134, 531, 532, 533, 534, 25, 24, 348, 535, 536, 537, 23, 538, 304, 305, 70, 306, 66, 67, 68, 69, 453, 454, 455, 456, 457, 458, 204, 459, 460, 400, 401, 19, 402, 179, 61, 461, 462, 463, 464, 465, 466, 467, 468, 469, 56, 57, 470, 203, 205, 471, 472, 473, 474, 475, 476, 477, 478, 479, 480, 844, 845, 846, 847, 848, 849, 850, 851, 852, 853, 888, 889, 890, 891, 892, 893, 894, 895, 896, 897, 898, 899, 900, 901, 902, 903] (by decide +kernel) (by decide +kernel)
set_option maxRecDepth 20000 in
theorem gL_law_X7_damp : GoodIn wsL_law (wsV RL 71 RX7 yX7_damp wsX7_damp) := goodIn_app (goodIn_of _ (by decide +kernel)) ggL_law_X7_damp
set_option maxRecDepth 20000 in
theorem ggL_law_X8_damp : GoodIn wsL_law wsX8_damp := goodIn_r _ [554, 119, 363, 364, 365, 5, 366, 110, 146, 147, 148, 543, 544, 545, 546, 485, 486, 487, 488, 408, 409, 410, 411, 117, 118, 489, 490, 491, 492, 112, 111, 116, 113, 854, 855, 856, 857, 858, 859, 860, 861, 862, 863, 864, 865, 866, 867, 868, 869, 870, 871, 872, 873, 874, 875, 876, 877, 878, 879] (by decide +kernel) (by decide +kernel)
set_option maxRecDepth 20000 in
theorem gL_law_X8_damp : GoodIn wsL_law (wsV RL 75 RX8 yX8_damp wsX8_damp) := goodIn_app (goodIn_of _ (by decide +kernel)) ggL_law_X8_damp
set_option maxRecDepth 20000 in
theorem ggL_law_X7_where : GoodIn wsL_law wsX7_where := goodIn_r _ [558, 32, 559, 560, 132, 133, 2, 134, 354, 355, 356, 357, 20, 358, 561, 562, 563, 31, 564, 565, 566, 567, 76, 568, 569, 570, 571, 79, 81, 572, 82, 573, 78, 574, 575, 203, 204, 205, 576, 417, 418, 19, 419, 57, 59, 577, 578, 579, 580, 83, 581, 582, 583, 536, 537, 23, 538, 304, 305, 70, 306, 66, 67, 68, 69, 584, 454, 455, 456, 457, 458, 459, 460, 400, 401, 402, 179, 61, 461, 462, 463, 464, 465, 466, 467, 468, 469, 56, 470, 471, 472, 473, 474, 475, 476, 477, 478, 479, 480, 585, 586, 587, 75, 588, 589, 590, 591, 80, 592, 297, 298, 299, 593, 499, 500, 501, 844, 845, 846, 847, 848, 849, 850, 851, 852, 853, 904, 905, 906, 907, 908, 909, 910, 911, 912, 913, 888, 889, 890, 891, 892, 893, 894, 895, 896, 897, 898, 899, 900, 901, 902, 903] (by decide +kernel) (by decide +kernel)
set_option maxRecDepth 20000 in
theorem gL_law_X7_where : GoodIn wsL_law (wsV RL 76 RX7 yX7_where wsX7_where) := goodIn_app (goodIn_of _ (by decide +kernel)) ggL_law_X7_where
set_option maxRecDepth 20000 in
theorem ggL_law_X8_where : GoodIn wsL_law wsX8_where := goodIn_r _ [597, 110, 114, 119, 121, 122, 146, 147, 5, 148, 598, 599, 600, 601, 112, 115, 543, 544, 545, 546, 485, 486, 487, 488, 408, 409, 410, 411, 117, 118, 489, 490, 491, 492, 111, 116, 113, 518, 519, 520, 521, 854, 855, 856, 857, 858, 859, 860, 861, 862, 863, 864, 865, 866, 867, 868, 869, 870, 871, 872, 873, 874, 875, 876, 877, 878, 879] (by decide +kernel) (by decide +kernel)
set_option maxRecDepth 20000 in
theorem gL_law_X8_where : GoodIn wsL_law (wsV RL 79 RX8 yX8_where wsX8_where) := goodIn_app (goodIn_of _ (by decide +kernel)) ggL_law_X8_where
set_option maxRecDepth 20000 in
theorem ggL_law_X7_order : GoodIn wsL_law wsX7_order := goodIn_r _ [605, 36, 606, 607, 608, 132, 133, 2, 134, 609, 610, 611, 35, 612, 613, 92, 614, 615, 616, 89, 617, 503, 504, 23, 505, 70, 306, 461, 462, 463, 464, 68, 465, 618, 499, 500, 501, 66, 619, 620, 621, 91, 622, 623, 88, 624, 625, 626, 627, 90, 628, 297, 298, 299, 629, 630, 467, 468, 19, 469, 56, 57, 470, 203, 204, 205, 844, 845, 846, 847, 848, 849, 850, 851, 852, 853, 914, 915, 916, 917, 918, 919, 920, 921, 897, 898, 899, 900, 901, 902, 903, 888, 889, 890, 891, 892, 893, 894, 895, 896] (by decide +kernel) (by decide +kernel)
set_option maxRecDepth 20000 in
theorem gL_law_X7_order : GoodIn wsL_law (wsV RL 80 RX7 yX7_order wsX7_order) := goodIn_app (goodIn_of _ (by decide +kernel)) ggL_law_X7_order
set_option maxRecDepth 20000 in
theorem ggL_law_X8_order : GoodIn wsL_law wsX8_order := goodIn_r _ [634, 124, 123, 146, 147, 5, 148, 635, 636, 637, 638, 110, 119, 639, 640, 641, 642, 643, 644, 645, 646, 647, 648, 649, 112, 111, 518, 519, 520, 521, 854, 855, 856, 857, 858, 859, 860, 861, 862, 863, 864, 865, 866, 867, 868, 869, 870, 871, 872, 873, 874, 875, 876, 877, 878, 879] (by decide +kernel) (by decide +kernel)
set_option maxRecDepth 20000 in
theorem gL_law_X8_order : GoodIn wsL_law (wsV RL 83 RX8 yX8_order wsX8_order) := goodIn_app (goodIn_of _ (by decide +kernel)) ggL_law_X8_order
set_option maxRecDepth 20000 in
theorem ggL_law_X7_odds : GoodIn wsL_law wsX7_odds := goodIn_r _ [653, 654, 24, 655, 132, 133, 2, 134, 502, 503, 504, 23, 505, 70, 306, 461, 462, 463, 464, 68, 465, 656, 657, 658, 659, 25, 20, 452, 535, 536, 537, 538, 304, 305, 66, 67, 69, 660, 661, 662, 663, 399, 400, 401, 19, 402, 179, 61, 453, 454, 455, 456, 457, 458, 204, 459, 460, 466, 467, 468, 469, 56, 57, 470, 203, 205, 471, 472, 473, 474, 475, 476, 477, 478, 479, 480, 664, 665, 666, 667, 668, 669, 844, 845, 846, 847, 848, 849, 850, 851, 852, 853, 897, 898, 899, 900, 901, 902, 903, 888, 889, 890, 891, 892, 893, 894, 895, 896] (by decide +kernel) (by decide +kernel)
set_option maxRecDepth 20000 in
theorem gL_law_X7_odds : GoodIn wsL_law (wsV RL 84 RX7 yX7_odds wsX7_odds) := goodIn_app (goodIn_of _ (by decide +kernel)) ggL_law_X7_odds
set_option maxRecDepth 20000 in
theorem ggL_law_X8_odds : GoodIn wsL_law wsX8_odds := goodIn_r _ [673, 674, 675, 119, 146, 147, 5, 148, 635, 636, 637, 638, 110, 543, 544, 545, 546, 676, 677, 678, 679, 408, 409, 410, 411, 117, 118, 485, 486, 487, 488, 489, 490, 491, 492, 112, 111, 116, 113, 680, 681, 682, 854, 855, 856, 857, 858, 859, 860, 861, 862, 863, 864, 865, 866, 867, 868, 869, 870, 871, 872, 873, 874, 875, 876, 877, 878, 879] (by decide +kernel) (by decide +kernel)
set_option maxRecDepth 20000 in
theorem gL_law_X8_odds : GoodIn wsL_law (wsV RL 88 RX8 yX8_odds wsX8_odds) := goodIn_app (goodIn_of _ (by decide +kernel)) ggL_law_X8_odds
set_option maxRecDepth 20000 in
theorem ggL_law_X7_roomFor : GoodIn wsL_law wsX7_roomFor := goodIn_r _ [686, 25, 24, 20, 377, 132, 133, 2, 134, 535, 536, 537, 23, 538, 304, 305, 70, 306, 66, 67, 68, 69, 660, 661, 662, 663, 461, 462, 463, 464, 465, 453, 454, 455, 456, 457, 458, 204, 459, 460, 400, 401, 19, 402, 179, 61, 466, 467, 468, 469, 56, 57, 470, 203, 205, 471, 472, 473, 474, 475, 476, 477, 478, 479, 480, 844, 845, 846, 847, 848, 849, 850, 851, 852, 853, 888, 889, 890, 891, 892, 893, 894, 895, 896, 897, 898, 899, 900, 901, 902, 903] (by decide +kernel) (by decide +kernel)
set_option maxRecDepth 20000 in
theorem gL_law_X7_roomFor : GoodIn wsL_law (wsV RL 89 RX7 yX7_roomFor wsX7_roomFor) := goodIn_app (goodIn_of _ (by decide +kernel)) ggL_law_X7_roomFor
set_option maxRecDepth 20000 in
theorem ggL_law_X8_roomFor : GoodIn wsL_law wsX8_roomFor := goodIn_r _ [690, 114, 119, 146, 147, 5, 148, 543, 544, 545, 546, 390, 391, 392, 393, 110, 485, 486, 487, 488, 408, 409, 410, 411, 117, 118, 489, 490, 491, 492, 112, 111, 116, 113, 854, 855, 856, 857, 858, 859, 860, 861, 862, 863, 864, 865, 866, 867, 868, 869, 870, 871, 872, 873, 874, 875, 876, 877, 878, 879] (by decide +kernel) (by decide +kernel)
set_option maxRecDepth 20000 in
theorem gL_law_X8_roomFor : GoodIn wsL_law (wsV RL 92 RX8 yX8_roomFor wsX8_roomFor) := goodIn_app (goodIn_of _ (by decide +kernel)) ggL_law_X8_roomFor
set_option maxRecDepth 20000 in
theorem ggL_law_X7_pegs : GoodIn wsL_law wsX7_pegs := goodIn_r _ [694, 20, 377, 24, 349, 372, 378, 379, 380, 23, 381, 70, 306, 68, 844, 845, 846, 847, 848, 849, 850, 851, 852, 853, 888, 889, 890, 891, 892, 893, 894, 895, 896, 897, 898, 899, 900, 901, 902, 903] (by decide +kernel) (by decide +kernel)
set_option maxRecDepth 20000 in
theorem gL_law_X7_pegs : GoodIn wsL_law (wsV RL 93 RX7 yX7_pegs wsX7_pegs) := goodIn_app (goodIn_of _ (by decide +kernel)) ggL_law_X7_pegs
set_option maxRecDepth 20000 in
theorem ggL_law_X8_pegs : GoodIn wsL_law wsX8_pegs := goodIn_r _ [698, 114, 112, 116, 390, 391, 392, 5, 393, 110, 119, 854, 855, 856, 857, 858, 859, 860, 861, 862, 863, 864, 865, 866, 867, 868, 869, 870, 871, 872, 873, 874, 875, 876, 877, 878, 879] (by decide +kernel) (by decide +kernel)
set_option maxRecDepth 20000 in
theorem gL_law_X8_pegs : GoodIn wsL_law (wsV RL 96 RX8 yX8_pegs wsX8_pegs) := goodIn_app (goodIn_of _ (by decide +kernel)) ggL_law_X8_pegs
set_option maxRecDepth 20000 in
theorem ggL_law_X7_coins : GoodIn wsL_law wsX7_coins := goodIn_r _ [702, 25, 24, 20, 358, 348, 132, 133, 2, 134, 535, 536, 537, 23, 538, 304, 305, 70, 306, 66, 67, 68, 69, 453, 454, 455, 456, 457, 458, 204, 459, 460, 400, 401, 19, 402, 179, 61, 461, 462, 463, 464, 465, 466, 467, 468, 469, 56, 57, 470, 203, 205, 471, 472, 473, 474, 475, 476, 477, 478, 479, 480, 844, 845, 846, 847, 848, 849, 850, 851, 852, 853, 888, 889, 890, 891, 892, 893, 894, 895, 896, 897, 898, 899, 900, 901, 902, 903] (by decide +kernel) (by decide +kernel)
set_option maxRecDepth 20000 in
theorem gL_law_X7_coins : GoodIn wsL_law (wsV RL 97 RX7 yX7_coins wsX7_coins) := goodIn_app (goodIn_of _ (by decide +kernel)) ggL_law_X7_coins
set_option maxRecDepth 20000 in
theorem ggL_law_X8_coins : GoodIn wsL_law wsX8_coins := goodIn_r _ [706, 110, 119, 146, 147, 5, 148, 543, 544, 545, 546, 485, 486, 487, 488, 408, 409, 410, 411, 117, 118, 489, 490, 491, 492, 112, 111, 116, 113, 854, 855, 856, 857, 858, 859, 860, 861, 862, 863, 864, 865, 866, 867, 868, 869, 870, 871, 872, 873, 874, 875, 876, 877, 878, 879] (by decide +kernel) (by decide +kernel)
set_option maxRecDepth 20000 in
theorem gL_law_X8_coins : GoodIn wsL_law (wsV RL 100 RX8 yX8_coins wsX8_coins) := goodIn_app (goodIn_of _ (by decide +kernel)) ggL_law_X8_coins
set_option maxRecDepth 20000 in
theorem ggL_law_X7_held : GoodIn wsL_law wsX7_held := goodIn_r _ [710, 40, 711, 132, 133, 2, 134, 712, 713, 714, 39, 715, 716, 717, 718, 719, 720, 96, 97, 98, 844, 845, 846, 847, 848, 849, 850, 851, 852, 853, 922, 923, 924, 925] (by decide +kernel) (by decide +kernel)
set_option maxRecDepth 20000 in
theorem gL_law_X7_held : GoodIn wsL_law (wsV RL 101 RX7 yX7_held wsX7_held) := goodIn_app (goodIn_of _ (by decide +kernel)) ggL_law_X7_held
set_option maxRecDepth 20000 in
theorem ggL_law_X8_held : GoodIn wsL_law wsX8_held := goodIn_r _ [724, 725, 125, 126, 146, 147, 5, 148, 854, 855, 856, 857, 858, 859, 860, 861, 862, 863, 864, 865, 866, 867, 868, 869, 870, 871, 872, 873, 874, 875, 876, 877, 878, 879] (by decide +kernel) (by decide +kernel)
set_option maxRecDepth 20000 in
theorem gL_law_X8_held : GoodIn wsL_law (wsV RL 105 RX8 yX8_held wsX8_held) := goodIn_app (goodIn_of _ (by decide +kernel)) ggL_law_X8_held
set_option maxRecDepth 20000 in
theorem ggL_law_X7_right : GoodIn wsL_law wsX7_right := goodIn_r _ [729, 40, 730, 132, 133, 2, 134, 844, 845, 846, 847, 848, 849, 850, 851, 852, 853, 922, 923, 924, 925] (by decide +kernel) (by decide +kernel)
set_option maxRecDepth 20000 in
theorem gL_law_X7_right : GoodIn wsL_law (wsV RL 106 RX7 yX7_right wsX7_right) := goodIn_app (goodIn_of _ (by decide +kernel)) ggL_law_X7_right
set_option maxRecDepth 20000 in
theorem ggL_law_X8_right : GoodIn wsL_law wsX8_right := goodIn_r _ [734, 146, 147, 5, 148, 735, 736, 737, 738, 725, 125, 126, 854, 855, 856, 857, 858, 859, 860, 861, 862, 863, 864, 865, 866, 867, 868, 869, 870, 871, 872, 873, 874, 875, 876, 877, 878, 879] (by decide +kernel) (by decide +kernel)
set_option maxRecDepth 20000 in
theorem gL_law_X8_right : GoodIn wsL_law (wsV RL 109 RX8 yX8_right wsX8_right) := goodIn_app (goodIn_of _ (by decide +kernel)) ggL_law_X8_right
set_option maxRecDepth 20000 in
theorem ggL_law_X7_better : GoodIn wsL_law wsX7_better := goodIn_r _ [742, 40, 711, 730, 844, 845, 846, 847, 848, 849, 850, 851, 852, 853, 922, 923, 924, 925] (by decide +kernel) (by decide +kernel)
set_option maxRecDepth 20000 in
theorem gL_law_X7_better : GoodIn wsL_law (wsV RL 110 RX7 yX7_better wsX7_better) := goodIn_app (goodIn_of _ (by decide +kernel)) ggL_law_X7_better
set_option maxRecDepth 20000 in
theorem ggL_law_X8_better : GoodIn wsL_law wsX8_better := goodIn_r _ [746, 725, 735, 736, 737, 5, 738, 125, 126, 854, 855, 856, 857, 858, 859, 860, 861, 862, 863, 864, 865, 866, 867, 868, 869, 870, 871, 872, 873, 874, 875, 876, 877, 878, 879] (by decide +kernel) (by decide +kernel)
set_option maxRecDepth 20000 in
theorem gL_law_X8_better : GoodIn wsL_law (wsV RL 113 RX8 yX8_better wsX8_better) := goodIn_app (goodIn_of _ (by decide +kernel)) ggL_law_X8_better
set_option maxRecDepth 20000 in
theorem ggL_law_X7_trust : GoodIn wsL_law wsX7_trust := goodIn_r _ [750, 40, 751, 752, 132, 133, 2, 134, 664, 665, 666, 844, 845, 846, 847, 848, 849, 850, 851, 852, 853, 922, 923, 924, 925] (by decide +kernel) (by decide +kernel)
set_option maxRecDepth 20000 in
theorem gL_law_X7_trust : GoodIn wsL_law (wsV RL 114 RX7 yX7_trust wsX7_trust) := goodIn_app (goodIn_of _ (by decide +kernel)) ggL_law_X7_trust
set_option maxRecDepth 20000 in
theorem ggL_law_X8_trust : GoodIn wsL_law wsX8_trust := goodIn_r _ [756, 725, 125, 126, 146, 147, 5, 148, 680, 681, 682, 854, 855, 856, 857, 858, 859, 860, 861, 862, 863, 864, 865, 866, 867, 868, 869, 870, 871, 872, 873, 874, 875, 876, 877, 878, 879] (by decide +kernel) (by decide +kernel)
set_option maxRecDepth 20000 in
theorem gL_law_X8_trust : GoodIn wsL_law (wsV RL 117 RX8 yX8_trust wsX8_trust) := goodIn_app (goodIn_of _ (by decide +kernel)) ggL_law_X8_trust
set_option maxRecDepth 20000 in
theorem ggL_law_X7_mark : GoodIn wsL_law wsX7_mark := goodIn_r _ [760, 44, 398, 132, 133, 2, 134, 354, 355, 356, 357, 20, 358, 761, 762, 763, 43, 764, 765, 766, 767, 768, 769, 770, 771, 772, 773, 774, 104, 775, 776, 777, 778, 779, 780, 103, 781, 782, 783, 784, 785, 786, 787, 788, 789, 790, 791, 792, 793, 794, 795, 796, 797, 798, 799, 844, 845, 846, 847, 848, 849, 850, 851, 852, 853, 888, 889, 890, 891, 892, 893, 894, 895, 896, 926, 927, 928, 897, 898, 899, 900, 901, 902, 903] (by decide +kernel) (by decide +kernel)
set_option maxRecDepth 20000 in
theorem gL_law_X7_mark : GoodIn wsL_law (wsV RL 118 RX7 yX7_mark wsX7_mark) := goodIn_app (goodIn_of _ (by decide +kernel)) ggL_law_X7_mark
set_option maxRecDepth 20000 in
theorem ggL_law_X8_mark : GoodIn wsL_law wsX8_mark := goodIn_r _ [803, 407, 119, 804, 805, 806, 113, 807, 112, 808, 809, 146, 147, 5, 148, 363, 364, 365, 366, 110, 854, 855, 856, 857, 858, 859, 860, 861, 862, 863, 864, 865, 866, 867, 868, 869, 870, 871, 872, 873, 874, 875, 876, 877, 878, 879] (by decide +kernel) (by decide +kernel)
set_option maxRecDepth 20000 in
theorem gL_law_X8_mark : GoodIn wsL_law (wsV RL 121 RX8 yX8_mark wsX8_mark) := goodIn_app (goodIn_of _ (by decide +kernel)) ggL_law_X8_mark
set_option maxRecDepth 20000 in
theorem ggL_law_X7_keep : GoodIn wsL_law wsX7_keep := goodIn_r _ [813, 26, 24, 28, 452, 132, 133, 2, 134, 535, 536, 537, 23, 538, 304, 305, 70, 306, 66, 67, 68, 69, 844, 845, 846, 847, 848, 849, 850, 851, 852, 853, 897, 898, 899, 900, 901, 902, 903, 888, 889, 890, 891, 892, 893, 894, 895, 896] (by decide +kernel) (by decide +kernel)
set_option maxRecDepth 20000 in
theorem gL_law_X7_keep : GoodIn wsL_law (wsV RL 122 RX7 yX7_keep wsX7_keep) := goodIn_app (goodIn_of _ (by decide +kernel)) ggL_law_X7_keep
set_option maxRecDepth 20000 in
theorem ggL_law_X8_keep : GoodIn wsL_law wsX8_keep := goodIn_r _ [817, 120, 119, 146, 147, 5, 148, 543, 544, 545, 546, 854, 855, 856, 857, 858, 859, 860, 861, 862, 863, 864, 865, 866, 867, 868, 869, 870, 871, 872, 873, 874, 875, 876, 877, 878, 879] (by decide +kernel) (by decide +kernel)
set_option maxRecDepth 20000 in
theorem gL_law_X8_keep : GoodIn wsL_law (wsV RL 125 RX8 yX8_keep wsX8_keep) := goodIn_app (goodIn_of _ (by decide +kernel)) ggL_law_X8_keep
set_option maxRecDepth 20000 in
theorem ggL_law_X7_back : GoodIn wsL_law wsX7_back := goodIn_r _ [821, 28, 24, 26, 452, 132, 133, 2, 134, 535, 536, 537, 23, 538, 304, 305, 70, 306, 66, 67, 68, 69, 844, 845, 846, 847, 848, 849, 850, 851, 852, 853, 897, 898, 899, 900, 901, 902, 903, 888, 889, 890, 891, 892, 893, 894, 895, 896] (by decide +kernel) (by decide +kernel)
set_option maxRecDepth 20000 in
theorem gL_law_X7_back : GoodIn wsL_law (wsV RL 126 RX7 yX7_back wsX7_back) := goodIn_app (goodIn_of _ (by decide +kernel)) ggL_law_X7_back
set_option maxRecDepth 20000 in
theorem ggL_law_X8_back : GoodIn wsL_law wsX8_back := goodIn_r _ [825, 120, 119, 146, 147, 5, 148, 543, 544, 545, 546, 854, 855, 856, 857, 858, 859, 860, 861, 862, 863, 864, 865, 866, 867, 868, 869, 870, 871, 872, 873, 874, 875, 876, 877, 878, 879] (by decide +kernel) (by decide +kernel)
set_option maxRecDepth 20000 in
theorem gL_law_X8_back : GoodIn wsL_law (wsV RL 129 RX8 yX8_back wsX8_back) := goodIn_app (goodIn_of _ (by decide +kernel)) ggL_law_X8_back
set_option maxRecDepth 20000 in
theorem ggL_law_X7_count : GoodIn wsL_law wsX7_count := goodIn_r _ [829, 20, 358, 377, 830, 24, 40, 711, 16, 131, 428, 429, 430, 23, 431, 70, 306, 68, 844, 845, 846, 847, 848, 849, 850, 851, 852, 853, 888, 889, 890, 891, 892, 893, 894, 895, 896, 922, 923, 924, 925, 880, 881, 882, 883, 884, 885, 886, 887, 897, 898, 899, 900, 901, 902, 903] (by decide +kernel) (by decide +kernel)
set_option maxRecDepth 20000 in
theorem gL_law_X7_count : GoodIn wsL_law (wsV RL 130 RX7 yX7_count wsX7_count) := goodIn_app (goodIn_of _ (by decide +kernel)) ggL_law_X7_count
set_option maxRecDepth 20000 in
theorem ggL_law_X8_count : GoodIn wsL_law wsX8_count := goodIn_r _ [834, 110, 114, 117, 725, 144, 436, 437, 438, 5, 439, 119, 854, 855, 856, 857, 858, 859, 860, 861, 862, 863, 864, 865, 866, 867, 868, 869, 870, 871, 872, 873, 874, 875, 876, 877, 878, 879] (by decide +kernel) (by decide +kernel)
set_option maxRecDepth 20000 in
theorem gL_law_X8_count : GoodIn wsL_law (wsV RL 133 RX8 yX8_count wsX8_count) := goodIn_app (goodIn_of _ (by decide +kernel)) ggL_law_X8_count
set_option maxRecDepth 20000 in
theorem ggL_law_X7_trace : GoodIn wsL_law wsX7_trace := goodIn_r _ [838, 44, 839, 844, 845, 846, 847, 848, 849, 850, 851, 852, 853, 926, 927, 928] (by decide +kernel) (by decide +kernel)
set_option maxRecDepth 20000 in
theorem gL_law_X7_trace : GoodIn wsL_law (wsV RL 134 RX7 yX7_trace wsX7_trace) := goodIn_app (goodIn_of _ (by decide +kernel)) ggL_law_X7_trace
set_option maxRecDepth 20000 in
theorem ggL_law_X8_trace : GoodIn wsL_law wsX8_trace := goodIn_r _ [843, 804, 854, 855, 856, 857, 858, 859, 860, 861, 862, 863, 864, 865, 866, 867, 868, 869, 870, 871, 872, 873, 874, 875, 876, 877, 878, 879] (by decide +kernel) (by decide +kernel)
set_option maxRecDepth 20000 in
theorem gL_law_X8_trace : GoodIn wsL_law (wsV RL 138 RX8 yX8_trace wsX8_trace) := goodIn_app (goodIn_of _ (by decide +kernel)) ggL_law_X8_trace
