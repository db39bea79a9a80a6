set_option maxRecDepth 20000 in
theorem ggL_law_X7_when : GoodIn wsL_law wsX7_when := goodIn_r _ [528, 352, 353, 354, 2, 355, 20, 356, 132, 133, 134, 529, 530, 531, 532, 25, 24, 346, 533, 534, 535, 23, 536, 302, 303, 70, 304, 66, 67, 68, 69, 451, 452, 453, 454, 455, 456, 202, 457, 458, 398, 399, 19, 400, 179, 61, 459, 460, 461, 462, 463, 464, 465, 466, 467, 56, 57, 468, 201, 203, 469, 470, 471, 472, 473, 474, 475, 476, 477, 478, 842, 843, 844, 845, 846, 847, 848, 849, 850, 851, 886, 887, 888, 889, 890, 891, 892, 893, 894, 895, 896, 897, 898, 899, 900, 901] (by decide +kernel) (by decide +kernel)
set_option maxRecDepth 20000 in
theorem gL_law_X7_when : GoodIn wsL_law (wsV RL 67 RX7 yX7_when wsX7_when) := goodIn_app (goodIn_of _ (by decide +kernel)) ggL_law_X7_when
set_option maxRecDepth 20000 in
theorem ggL_law_X8_when : GoodIn wsL_law wsX8_when := goodIn_r _ [540, 119, 361, 362, 363, 5, 364, 110, 146, 147, 148, 541, 542, 543, 544, 483, 484, 485, 486, 406, 407, 408, 409, 117, 118, 487, 488, 489, 490, 112, 111, 116, 113, 852, 853, 854, 855, 856, 857, 858, 859, 860, 861, 862, 863, 864, 865, 866, 867, 868, 869, 870, 871, 872, 873, 874, 875, 876, 877] (by decide +kernel) (by decide +kernel)
set_option maxRecDepth 20000 in
theorem gL_law_X8_when : GoodIn wsL_law (wsV RL 70 RX8 yX8_when wsX8_when) := goodIn_app (goodIn_of _ (by decide +kernel)) ggL_law_X8_when
set_option maxRecDepth 20000 in
theorem ggL_law_X7_damp : GoodIn wsL_law wsX7_damp := goodIn_r _ [548, 352, 353, 354, 2, 355, 20, 356, 132, 133, 134, 529, 530, 531, 532, 25, 24, 346, 533, 534, 535, 23, 536, 302, 303, 70, 304, 66, 67, 68, 69, 451, 452, 453, 454, 455, 456, 202, 457, 458, 398, 399, 19, 400, 179, 61, 459, 460, 461, 462, 463, 464, 465, 466, 467, 56, 57, 468, 201, 203, 469, 470, 471, 472, 473, 474, 475, 476, 477, 478, 842, 843, 844, 845, 846, 847, 848, 849, 850, 851, 886, 887, 888, 889, 890, 891, 892, 893, 894, 895, 896, 897, 898, 899, 900, 901] (by decide +kernel) (by decide +kernel)
set_option maxRecDepth 20000 in
theorem gL_law_X7_damp : GoodIn wsL_law (wsV RL 71 RX7 yX7_damp wsX7_damp) := goodIn_app (goodIn_of _ (by decide +kernel)) ggL_law_X7_damp
set_option maxRecDepth 20000 in
theorem ggL_law_X8_damp : GoodIn wsL_law wsX8_damp := goodIn_r _ [552, 119, 361, 362, 363, 5, 364, 110, 146, 147, 148, 541, 542, 543, 544, 483, 484, 485, 486, 406, 407, 408, 409, 117, 118, 487, 488, 489, 490, 112, 111, 116, 113, 852, 853, 854, 855, 856, 857, 858, 859, 860, 861, 862, 863, 864, 865, 866, 867, 868, 869, 870, 871, 872, 873, 874, 875, 876, 877] (by decide +kernel) (by decide +kernel)
set_option maxRecDepth 20000 in
theorem gL_law_X8_damp : GoodIn wsL_law (wsV RL 75 RX8 yX8_damp wsX8_damp) := goodIn_app (goodIn_of _ (by decide +kernel)) ggL_law_X8_damp
set_option maxRecDepth 20000 in
theorem ggL_law_X7_where : GoodIn wsL_law wsX7_where := goodIn_r _ [556, 32, 557, 558, 132, 133, 2, 134, 352, 353, 354, 355, 20, 356, 559, 560, 561, 31, 562, 563, 564, 565, 76, 566, 567, 568, 569, 79, 81, 570, 82, 571, 78, 572, 573, 201, 202, 203, 574, 415, 416, 19, 417, 57, 59, 575, 576, 577, 578, 83, 579, 580, 581, 534, 535, 23, 536, 302, 303, 70, 304, 66, 67, 68, 69, 582, 452, 453, 454, 455, 456, 457, 458, 398, 399, 400, 179, 61, 459, 460, 461, 462, 463, 464, 465, 466, 467, 56, 468, 469, 470, 471, 472, 473, 474, 475, 476, 477, 478, 583, 584, 585, 75, 586, 587, 588, 589, 80, 590, 295, 296, 297, 591, 497, 498, 499, 842, 843, 844, 845, 846, 847, 848, 849, 850, 851, 902, 903, 904, 905, 906, 907, 908, 909, 910, 911, 886, 887, 888, 889, 890, 891, 892, 893, 894, 895, 896, 897, 898, 899, 900, 901] (by decide +kernel) (by decide +kernel)
set_option maxRecDepth 20000 in
theorem gL_law_X7_where : GoodIn wsL_law (wsV RL 76 RX7 yX7_where wsX7_where) := goodIn_app (goodIn_of _ (by decide +kernel)) ggL_law_X7_where
set_option maxRecDepth 20000 in
theorem ggL_law_X8_where : GoodIn wsL_law wsX8_where := goodIn_r _ [595, 110, 114, 119, 121, 122, 146, 147, 5, 148, 596, 597, 598, 599, 112, 115, 541, 542, 543, 544, 483, 484, 485, 486, 406, 407, 408, 409, 117, 118, 487, 488, 489, 490, 111, 116, 113, 516, 517, 518, 519, 852, 853, 854, 855, 856, 857, 858, 859, 860, 861, 862, 863, 864, 865, 866, 867, 868, 869, 870, 871, 872, 873, 874, 875, 876, 877] (by decide +kernel) (by decide +kernel)
set_option maxRecDepth 20000 in
theorem gL_law_X8_where : GoodIn wsL_law (wsV RL 79 RX8 yX8_where wsX8_where) := goodIn_app (goodIn_of _ (by decide +kernel)) ggL_law_X8_where
set_option maxRecDepth 20000 in
theorem ggL_law_X7_order : GoodIn wsL_law wsX7_order := goodIn_r _ [603, 36, 604, 605, 606, 132, 133, 2, 134, 607, 608, 609, 35, 610, 611, 92, 612, 613, 614, 89, 615, 501, 502, 23, 503, 70, 304, 459, 460, 461, 462, 68, 463, 616, 497, 498, 499, 66, 617, 618, 619, 91, 620, 621, 88, 622, 623, 624, 625, 90, 626, 295, 296, 297, 627, 628, 465, 466, 19, 467, 56, 57, 468, 201, 202, 203, 842, 843, 844, 845, 846, 847, 848, 849, 850, 851, 912, 913, 914, 915, 916, 917, 918, 919, 895, 896, 897, 898, 899, 900, 901, 886, 887, 888, 889, 890, 891, 892, 893, 894] (by decide +kernel) (by decide +kernel)
set_option maxRecDepth 20000 in
theorem gL_law_X7_order : GoodIn wsL_law (wsV RL 80 RX7 yX7_order wsX7_order) := goodIn_app (goodIn_of _ (by decide +kernel)) ggL_law_X7_order
set_option maxRecDepth 20000 in
theorem ggL_law_X8_order : GoodIn wsL_law wsX8_order := goodIn_r _ [632, 124, 123, 146, 147, 5, 148, 633, 634, 635, 636, 110, 119, 637, 638, 639, 640, 641, 642, 643, 644, 645, 646, 647, 112, 111, 516, 517, 518, 519, 852, 853, 854, 855, 856, 857, 858, 859, 860, 861, 862, 863, 864, 865, 866, 867, 868, 869, 870, 871, 872, 873, 874, 875, 876, 877] (by decide +kernel) (by decide +kernel)
set_option maxRecDepth 20000 in
theorem gL_law_X8_order : GoodIn wsL_law (wsV RL 83 RX8 yX8_order wsX8_order) := goodIn_app (goodIn_of _ (by decide +kernel)) ggL_law_X8_order
set_option maxRecDepth 20000 in
theorem ggL_law_X7_odds : GoodIn wsL_law wsX7_odds := goodIn_r _ [651, 652, 24, 653, 132, 133, 2, 134, 500, 501, 502, 23, 503, 70, 304, 459, 460, 461, 462, 68, 463, 654, 655, 656, 657, 25, 20, 450, 533, 534, 535, 536, 302, 303, 66, 67, 69, 658, 659, 660, 661, 397, 398, 399, 19, 400, 179, 61, 451, 452, 453, 454, 455, 456, 202, 457, 458, 464, 465, 466, 467, 56, 57, 468, 201, 203, 469, 470, 471, 472, 473, 474, 475, 476, 477, 478, 662, 663, 664, 665, 666, 667, 842, 843, 844, 845, 846, 847, 848, 849, 850, 851, 895, 896, 897, 898, 899, 900, 901, 886, 887, 888, 889, 890, 891, 892, 893, 894] (by decide +kernel) (by decide +kernel)
set_option maxRecDepth 20000 in
theorem gL_law_X7_odds : GoodIn wsL_law (wsV RL 84 RX7 yX7_odds wsX7_odds) := goodIn_app (goodIn_of _ (by decide +kernel)) ggL_law_X7_odds
set_option maxRecDepth 20000 in
theorem ggL_law_X8_odds : GoodIn wsL_law wsX8_odds := goodIn_r _ [671, 672, 673, 119, 146, 147, 5, 148, 633, 634, 635, 636, 110, 541, 542, 543, 544, 674, 675, 676, 677, 406, 407, 408, 409, 117, 118, 483, 484, 485, 486, 487, 488, 489, 490, 112, 111, 116, 113, 678, 679, 680, 852, 853, 854, 855, 856, 857, 858, 859, 860, 861, 862, 863, 864, 865, 866, 867, 868, 869, 870, 871, 872, 873, 874, 875, 876, 877] (by decide +kernel) (by decide +kernel)
set_option maxRecDepth 20000 in
theorem gL_law_X8_odds : GoodIn wsL_law (wsV RL 88 RX8 yX8_odds wsX8_odds) := goodIn_app (goodIn_of _ (by decide +kernel)) ggL_law_X8_odds
set_option maxRecDepth 20000 in
theorem ggL_law_X7_roomFor : GoodIn wsL_law wsX7_roomFor := goodIn_r _ [684, 25, 24, 20, 375, 132, 133, 2, 134, 533, 534, 535, 23, 536, 302, 303, 70, 304, 66, 67, 68, 69, 658, 659, 660, 661, 459, 460, 461, 462, 463, 451, 452, 453, 454, 455, 456, 202, 457, 458, 398, 399, 19, 400, 179, 61, 464, 465, 466, 467, 56, 57, 468, 201, 203, 469, 470, 471, 472, 473, 474, 475, 476, 477, 478, 842, 843, 844, 845, 846, 847, 848, 849, 850, 851, 886, 887, 888, 889, 890, 891, 892, 893, 894, 895, 896, 897, 898, 899, 900, 901] (by decide +kernel) (by decide +kernel)
set_option maxRecDepth 20000 in
theorem gL_law_X7_roomFor : GoodIn wsL_law (wsV RL 89 RX7 yX7_roomFor wsX7_roomFor) := goodIn_app (goodIn_of _ (by decide +kernel)) ggL_law_X7_roomFor
set_option maxRecDepth 20000 in
theorem ggL_law_X8_roomFor : GoodIn wsL_law wsX8_roomFor := goodIn_r _ [688, 114, 119, 146, 147, 5, 148, 541, 542, 543, 544, 388, 389, 390, 391, 110, 483, 484, 485, 486, 406, 407, 408, 409, 117, 118, 487, 488, 489, 490, 112, 111, 116, 113, 852, 853, 854, 855, 856, 857, 858, 859, 860, 861, 862, 863, 864, 865, 866, 867, 868, 869, 870, 871, 872, 873, 874, 875, 876, 877] (by decide +kernel) (by decide +kernel)
set_option maxRecDepth 20000 in
theorem gL_law_X8_roomFor : GoodIn wsL_law (wsV RL 92 RX8 yX8_roomFor wsX8_roomFor) := goodIn_app (goodIn_of _ (by decide +kernel)) ggL_law_X8_roomFor
set_option maxRecDepth 20000 in
theorem ggL_law_X7_pegs : GoodIn wsL_law wsX7_pegs := goodIn_r _ [692, 20, 375, 24, 347, 370, 376, 377, 378, 23, 379, 70, 304, 68, 842, 843, 844, 845, 846, 847, 848, 849, 850, 851, 886, 887, 888, 889, 890, 891, 892, 893, 894, 895, 896, 897, 898, 899, 900, 901] (by decide +kernel) (by decide +kernel)
set_option maxRecDepth 20000 in
theorem gL_law_X7_pegs : GoodIn wsL_law (wsV RL 93 RX7 yX7_pegs wsX7_pegs) := goodIn_app (goodIn_of _ (by decide +kernel)) ggL_law_X7_pegs
set_option maxRecDepth 20000 in
theorem ggL_law_X8_pegs : GoodIn wsL_law wsX8_pegs := goodIn_r _ [696, 114, 112, 116, 388, 389, 390, 5, 391, 110, 119, 852, 853, 854, 855, 856, 857, 858, 859, 860, 861, 862, 863, 864, 865, 866, 867, 868, 869, 870, 871, 872, 873, 874, 875, 876, 877] (by decide +kernel) (by decide +kernel)
set_option maxRecDepth 20000 in
theorem gL_law_X8_pegs : GoodIn wsL_law (wsV RL 96 RX8 yX8_pegs wsX8_pegs) := goodIn_app (goodIn_of _ (by decide +kernel)) ggL_law_X8_pegs
set_option maxRecDepth 20000 in
theorem ggL_law_X7_coins : GoodIn wsL_law wsX7_coins := goodIn_r _ [700, 25, 24, 20, 356, 346, 132, 133, 2, 134, 533, 534, 535, 23, 536, 302, 303, 70, 304, 66, 67, 68, 69, 451, 452, 453, 454, 455, 456, 202, 457, 458, 398, 399, 19, 400, 179, 61, 459, 460, 461, 462, 463, 464, 465, 466, 467, 56, 57, 468, 201, 203, 469, 470, 471, 472, 473, 474, 475, 476, 477, 478, 842, 843, 844, 845, 846, 847, 848, 849, 850, 851, 886, 887, 888, 889, 890, 891, 892, 893, 894, 895, 896, 897, 898, 899, 900, 901] (by decide +kernel) (by decide +kernel)
set_option maxRecDepth 20000 in
theorem gL_law_X7_coins : GoodIn wsL_law (wsV RL 97 RX7 yX7_coins wsX7_coins) := goodIn_app (goodIn_of _ (by decide +kernel)) ggL_law_X7_coins
set_option maxRecDepth 20000 in
theorem ggL_law_X8_coins : GoodIn wsL_law wsX8_coins := goodIn_r _ [704, 110, 119, 146, 147, 5, 148, 541, 542, 543, 544, 483, 484, 485, 486, 406, 407, 408, 409, 117, 118, 487, 488, 489, 490, 112, 111, 116, 113, 852, 853, 854, 855, 856, 857, 858, 859, 860, 861, 862, 863, 864, 865, 866, 867, 868, 869, 870, 871, 872, 873, 874, 875, 876, 877] (by decide +kernel) (by decide +kernel)
set_option maxRecDepth 20000 in
theorem gL_law_X8_coins : GoodIn wsL_law (wsV RL 100 RX8 yX8_coins wsX8_coins) := goodIn_app (goodIn_of _ (by decide +kernel)) ggL_law_X8_coins
set_option maxRecDepth 20000 in
theorem ggL_law_X7_held : GoodIn wsL_law wsX7_held := goodIn_r _ [708, 40, 709, 132, 133, 2, 134, 710, 711, 712, 39, 713, 714, 715, 716, 717, 718, 96, 97, 98, 842, 843, 844, 845, 846, 847, 848, 849, 850, 851, 920, 921, 922, 923] (by decide +kernel) (by decide +kernel)
set_option maxRecDepth 20000 in
theorem gL_law_X7_held : GoodIn wsL_law (wsV RL 101 RX7 yX7_held wsX7_held) := goodIn_app (goodIn_of _ (by decide +kernel)) ggL_law_X7_held
set_option maxRecDepth 20000 in
theorem ggL_law_X8_held : GoodIn wsL_law wsX8_held := goodIn_r _ [722, 723, 125, 126, 146, 147, 5, 148, 852, 853, 854, 855, 856, 857, 858, 859, 860, 861, 862, 863, 864, 865, 866, 867, 868, 869, 870, 871, 872, 873, 874, 875, 876, 877] (by decide +kernel) (by decide +kernel)
set_option maxRecDepth 20000 in
theorem gL_law_X8_held : GoodIn wsL_law (wsV RL 105 RX8 yX8_held wsX8_held) := goodIn_app (goodIn_of _ (by decide +kernel)) ggL_law_X8_held
set_option maxRecDepth 20000 in
theorem ggL_law_X7_right : GoodIn wsL_law wsX7_right := goodIn_r _ [727, 40, 728, 132, 133, 2, 134, 842, 843, 844, 845, 846, 847, 848, 849, 850, 851, 920, 921, 922, 923] (by decide +kernel) (by decide +kernel)
set_option maxRecDepth 20000 in
theorem gL_law_X7_right : GoodIn wsL_law (wsV RL 106 RX7 yX7_right wsX7_right) := goodIn_app (goodIn_of _ (by decide +kernel)) ggL_law_X7_right
set_option maxRecDepth 20000 in
theorem ggL_law_X8_right : GoodIn wsL_law wsX8_right := goodIn_r _ [732, 146, 147, 5, 148, 733, 734, 735, 736, 723, 125, 126, 852, 853, 854, 855, 856, 857, 858, 859, 860, 861, 862, 863, 864, 865, 866, 867, 868, 869, 870, 871, 872, 873, 874, 875, 876, 877] (by decide +kernel) (by decide +kernel)
set_option maxRecDepth 20000 in
theorem gL_law_X8_right : GoodIn wsL_law (wsV RL 109 RX8 yX8_right wsX8_right) := goodIn_app (goodIn_of _ (by decide +kernel)) ggL_law_X8_right
set_option maxRecDepth 20000 in
theorem ggL_law_X7_better : GoodIn wsL_law wsX7_better := goodIn_r _ [740, 40, 709, 728, 842, 843, 844, 845, 846, 847, 848, 849, 850, 851, 920, 921, 922, 923] (by decide +kernel) (by decide +kernel)
set_option maxRecDepth 20000 in
theorem gL_law_X7_better : GoodIn wsL_law (wsV RL 110 RX7 yX7_better wsX7_better) := goodIn_app (goodIn_of _ (by decide +kernel)) ggL_law_X7_better
set_option maxRecDepth 20000 in
theorem ggL_law_X8_better : GoodIn wsL_law wsX8_better := goodIn_r _ [744, 723, 733, 734, 735, 5, 736, 125, 126, 852, 853, 854, 855, 856, 857, 858, 859, 860, 861, 862, 863, 864, 865, 866, 867, 868, 869, 870, 871, 872, 873, 874, 875, 876, 877] (by decide +kernel) (by decide +kernel)
set_option maxRecDepth 20000 in
theorem gL_law_X8_better : GoodIn wsL_law (wsV RL 113 RX8 yX8_better wsX8_better) := goodIn_app (goodIn_of _ (by decide +kernel)) ggL_law_X8_better
set_option maxRecDepth 20000 in
theorem ggL_law_X7_trust : GoodIn wsL_law wsX7_trust := goodIn_r _ [748, 40, 749, 750, 132, 133, 2, 134, 662, 663, 664, 842, 843, 844, 845, 846, 847, 848, 849, 850, 851, 920, 921, 922, 923] (by decide +kernel) (by decide +kernel)
set_option maxRecDepth 20000 in
theorem gL_law_X7_trust : GoodIn wsL_law (wsV RL 114 RX7 yX7_trust wsX7_trust) := goodIn_app (goodIn_of _ (by decide +kernel)) ggL_law_X7_trust
set_option maxRecDepth 20000 in
theorem ggL_law_X8_trust : GoodIn wsL_law wsX8_trust := goodIn_r _ [754, 723, 125, 126, 146, 147, 5, 148, 678, 679, 680, 852, 853, 854, 855, 856, 857, 858, 859, 860, 861, 862, 863, 864, 865, 866, 867, 868, 869, 870, 871, 872, 873, 874, 875, 876, 877] (by decide +kernel) (by decide +kernel)
set_option maxRecDepth 20000 in
theorem gL_law_X8_trust : GoodIn wsL_law (wsV RL 117 RX8 yX8_trust wsX8_trust) := goodIn_app (goodIn_of _ (by decide +kernel)) ggL_law_X8_trust
set_option maxRecDepth 20000 in
theorem ggL_law_X7_mark : GoodIn wsL_law wsX7_mark := goodIn_r _ [758, 44, 396, 132, 133, 2, 134, 352, 353, 354, 355, 20, 356, 759, 760, 761, 43, 762, 763, 764, 765, 766, 767, 768, 769, 770, 771, 772, 104, 773, 774, 775, 776, 777, 778, 103, 779, 780, 781, 782, 783, 784, 785, 786, 787, 788, 789, 790, 791, 792, 793, 794, 795, 796, 797, 842, 843, 844, 845, 846, 847, 848, 849, 850, 851, 886, 887, 888, 889, 890, 891, 892, 893, 894, 924, 925, 926, 895, 896, 897, 898, 899, 900, 901] (by decide +kernel) (by decide +kernel)
set_option maxRecDepth 20000 in
theorem gL_law_X7_mark : GoodIn wsL_law (wsV RL 118 RX7 yX7_mark wsX7_mark) := goodIn_app (goodIn_of _ (by decide +kernel)) ggL_law_X7_mark
set_option maxRecDepth 20000 in
theorem ggL_law_X8_mark : GoodIn wsL_law wsX8_mark := goodIn_r _ [801, 405, 119, 802, 803, 804, 113, 805, 112, 806, 807, 146, 147, 5, 148, 361, 362, 363, 364, 110, 852, 853, 854, 855, 856, 857, 858, 859, 860, 861, 862, 863, 864, 865, 866, 867, 868, 869, 870, 871, 872, 873, 874, 875, 876, 877] (by decide +kernel) (by decide +kernel)
set_option maxRecDepth 20000 in
theorem gL_law_X8_mark : GoodIn wsL_law (wsV RL 121 RX8 yX8_mark wsX8_mark) := goodIn_app (goodIn_of _ (by decide +kernel)) ggL_law_X8_mark
set_option maxRecDepth 20000 in
theorem ggL_law_X7_keep : GoodIn wsL_law wsX7_keep := goodIn_r _ [811, 26, 24, 28, 450, 132, 133, 2, 134, 533, 534, 535, 23, 536, 302, 303, 70, 304, 66, 67, 68, 69, 842, 843, 844, 845, 846, 847, 848, 849, 850, 851, 895, 896, 897, 898, 899, 900, 901, 886, 887, 888, 889, 890, 891, 892, 893, 894] (by decide +kernel) (by decide +kernel)
set_option maxRecDepth 20000 in
theorem gL_law_X7_keep : GoodIn wsL_law (wsV RL 122 RX7 yX7_keep wsX7_keep) := goodIn_app (goodIn_of _ (by decide +kernel)) ggL_law_X7_keep
set_option maxRecDepth 20000 in
theorem ggL_law_X8_keep : GoodIn wsL_law wsX8_keep := goodIn_r _ [815, 120, 119, 146, 147, 5, 148, 541, 542, 543, 544, 852, 853, 854, 855, 856, 857, 858, 859, 860, 861, 862, 863, 864, 865, 866, 867, 868, 869, 870, 871, 872, 873, 874, 875, 876, 877] (by decide +kernel) (by decide +kernel)
set_option maxRecDepth 20000 in
theorem gL_law_X8_keep : GoodIn wsL_law (wsV RL 125 RX8 yX8_keep wsX8_keep) := goodIn_app (goodIn_of _ (by decide +kernel)) ggL_law_X8_keep
set_option maxRecDepth 20000 in
theorem ggL_law_X7_back : GoodIn wsL_law wsX7_back := goodIn_r _ [819, 28, 24, 26, 450, 132, 133, 2, 134, 533, 534, 535, 23, 536, 302, 303, 70, 304, 66, 67, 68, 69, 842, 843, 844, 845, 846, 847, 848, 849, 850, 851, 895, 896, 897, 898, 899, 900, 901, 886, 887, 888, 889, 890, 891, 892, 893, 894] (by decide +kernel) (by decide +kernel)
set_option maxRecDepth 20000 in
theorem gL_law_X7_back : GoodIn wsL_law (wsV RL 126 RX7 yX7_back wsX7_back) := goodIn_app (goodIn_of _ (by decide +kernel)) ggL_law_X7_back
set_option maxRecDepth 20000 in
theorem ggL_law_X8_back : GoodIn wsL_law wsX8_back := goodIn_r _ [823, 120, 119, 146, 147, 5, 148, 541, 542, 543, 544, 852, 853, 854, 855, 856, 857, 858, 859, 860, 861, 862, 863, 864, 865, 866, 867, 868, 869, 870, 871, 872, 873, 874, 875, 876, 877] (by decide +kernel) (by decide +kernel)
set_option maxRecDepth 20000 in
theorem gL_law_X8_back : GoodIn wsL_law (wsV RL 129 RX8 yX8_back wsX8_back) := goodIn_app (goodIn_of _ (by decide +kernel)) ggL_law_X8_back
set_option maxRecDepth 20000 in
theorem ggL_law_X7_count : GoodIn wsL_law wsX7_count := goodIn_r _ [827, 20, 356, 375, 828, 24, 40, 709, 16, 131, 426, 427, 428, 23, 429, 70, 304, 68, 842, 843, 844, 845, 846, 847, 848, 849, 850, 851, 886, 887, 888, 889, 890, 891, 892, 893, 894, 920, 921, 922, 923, 878, 879, 880, 881, 882, 883, 884, 885, 895, 896, 897, 898, 899, 900, 901] (by decide +kernel) (by decide +kernel)
set_option maxRecDepth 20000 in
theorem gL_law_X7_count : GoodIn wsL_law (wsV RL 130 RX7 yX7_count wsX7_count) := goodIn_app (goodIn_of _ (by decide +kernel)) ggL_law_X7_count
set_option maxRecDepth 20000 in
theorem ggL_law_X8_count : GoodIn wsL_law wsX8_count := goodIn_r _ [832, 110, 114, 117, 723, 144, 434, 435, 436, 5, 437, 119, 852, 853, 854, 855, 856, 857, 858, 859, 860, 861, 862, 863, 864, 865, 866, 867, 868, 869, 870, 871, 872, 873, 874, 875, 876, 877] (by decide +kernel) (by decide +kernel)
set_option maxRecDepth 20000 in
theorem gL_law_X8_count : GoodIn wsL_law (wsV RL 133 RX8 yX8_count wsX8_count) := goodIn_app (goodIn_of _ (by decide +kernel)) ggL_law_X8_count
set_option maxRecDepth 20000 in
theorem ggL_law_X7_trace : GoodIn wsL_law wsX7_trace := goodIn_r _ [836, 44, 837, 842, 843, 844, 845, 846, 847, 848, 849, 850, 851, 924, 925, 926] (by decide +kernel) (by decide +kernel)
set_option maxRecDepth 20000 in
theorem gL_law_X7_trace : GoodIn wsL_law (wsV RL 134 RX7 yX7_trace wsX7_trace) := goodIn_app (goodIn_of _ (by decide +kernel)) ggL_law_X7_trace
set_option maxRecDepth 20000 in
theorem ggL_law_X8_trace : GoodIn wsL_law wsX8_trace := goodIn_r _ [841, 802, 852, 853, 854, 855, 856, 857, 858, 859, 860, 861, 862, 863, 864, 865, 866, 867, 868, 869, 870, 871, 872, 873, 874, 875, 876, 877] (by decide +kernel) (by decide +kernel)
set_option maxRecDepth 20000 in
theorem gL_law_X8_trace : GoodIn wsL_law (wsV RL 138 RX8 yX8_trace wsX8_trace) := goodIn_app (goodIn_of _ (by decide +kernel)) ggL_law_X8_trace
