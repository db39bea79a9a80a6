set_option maxRecDepth 20000 in
theorem ggL_law_X7_init : GoodIn wsL_law wsX7_init := goodIn_r _ [9, 10, 11, 12, 13, 14, 15, 16, 17, 18, 19, 20, 21, 22, 23, 24, 25, 26, 27, 28, 29, 30, 31, 32, 33, 34, 35, 36, 37, 38, 39, 40, 41, 42, 43, 44, 45, 46, 47, 48, 49, 50, 51, 52, 53, 54, 55, 56, 57, 58, 59, 60, 61, 62, 63, 64, 65, 66, 67, 68, 69, 70, 71, 72, 73, 74, 75, 76, 77, 78, 79, 80, 81, 82, 83, 84, 85, 86, 87, 88, 89, 90, 91, 92, 93, 94, 95, 96, 97, 98, 99, 100, 101, 102, 103, 104, 878, 879, 880, 881, 882, 883, 884, 885, 842, 843, 844, 845, 846, 847, 848, 849, 850, 851, 886, 887, 888, 889, 890, 891, 892, 893, 894, 895, 896, 897, 898, 899, 900, 901, 902, 903, 904, 905, 906, 907, 908, 909, 910, 911, 912, 913, 914, 915, 916, 917, 918, 919, 920, 921, 922, 923, 924, 925, 926] (by decide +kernel) (by decide +kernel)
set_option maxRecDepth 20000 in
theorem gL_law_X7_init : GoodIn wsL_law (wsX7_init) := ggL_law_X7_init
set_option maxRecDepth 20000 in
theorem ggL_law_X8_init : GoodIn wsL_law wsX8_init := goodIn_r _ [107, 108, 11, 12, 48, 109, 55, 110, 111, 112, 113, 114, 115, 116, 117, 118, 119, 27, 120, 121, 122, 123, 124, 125, 126, 852, 853, 854, 855, 856, 857, 858, 859, 860, 861, 862, 863, 864, 865, 866, 867, 868, 869, 870, 871, 872, 873, 874, 875, 876, 877] (by decide +kernel) (by decide +kernel)
set_option maxRecDepth 20000 in
theorem gL_law_X8_init : GoodIn wsL_law (wsX8_init) := ggL_law_X8_init
set_option maxRecDepth 20000 in
theorem ggL_law_X7_type : GoodIn wsL_law wsX7_type := goodIn_r _ [130, 16, 131, 132, 133, 2, 134, 135, 136, 137, 15, 138, 139, 49, 842, 843, 844, 845, 846, 847, 848, 849, 850, 851, 878, 879, 880, 881, 882, 883, 884, 885] (by decide +kernel) (by decide +kernel)
set_option maxRecDepth 20000 in
theorem gL_law_X7_type : GoodIn wsL_law (wsV RL 15 RX7 yX7_type wsX7_type) := goodIn_app (goodIn_of _ (by decide +kernel)) ggL_law_X7_type
set_option maxRecDepth 20000 in
theorem ggL_law_X8_type : GoodIn wsL_law wsX8_type := goodIn_r _ [143, 144, 109, 145, 146, 147, 5, 148, 852, 853, 854, 855, 856, 857, 858, 859, 860, 861, 862, 863, 864, 865, 866, 867, 868, 869, 870, 871, 872, 873, 874, 875, 876, 877] (by decide +kernel) (by decide +kernel)
set_option maxRecDepth 20000 in
theorem gL_law_X8_type : GoodIn wsL_law (wsV RL 19 RX8 yX8_type wsX8_type) := goodIn_app (goodIn_of _ (by decide +kernel)) ggL_law_X8_type
set_option maxRecDepth 20000 in
theorem ggL_law_X7_clear : GoodIn wsL_law wsX7_clear := goodIn_r _ [152, 16, 153, 154, 155, 15, 156, 139, 842, 843, 844, 845, 846, 847, 848, 849, 850, 851, 878, 879, 880, 881, 882, 883, 884, 885] (by decide +kernel) (by decide +kernel)
set_option maxRecDepth 20000 in
theorem gL_law_X7_clear : GoodIn wsL_law (wsV RL 20 RX7 yX7_clear wsX7_clear) := goodIn_app (goodIn_of _ (by decide +kernel)) ggL_law_X7_clear
set_option maxRecDepth 20000 in
theorem ggL_law_X8_clear : GoodIn wsL_law wsX8_clear := goodIn_r _ [160, 144, 852, 853, 854, 855, 856, 857, 858, 859, 860, 861, 862, 863, 864, 865, 866, 867, 868, 869, 870, 871, 872, 873, 874, 875, 876, 877] (by decide +kernel) (by decide +kernel)
set_option maxRecDepth 20000 in
theorem gL_law_X8_clear : GoodIn wsL_law (wsV RL 24 RX8 yX8_clear wsX8_clear) := goodIn_app (goodIn_of _ (by decide +kernel)) ggL_law_X8_clear
set_option maxRecDepth 20000 in
theorem ggL_law_X7_day : GoodIn wsL_law wsX7_day := goodIn_r _ [164, 16, 20, 165, 24, 28, 166, 167, 168, 15, 169, 51, 170, 171, 172, 173, 174, 175, 19, 176, 177, 178, 179, 180, 181, 182, 183, 139, 49, 184, 185, 186, 187, 188, 189, 190, 191, 192, 193, 194, 195, 196, 197, 198, 199, 200, 201, 202, 203, 204, 205, 206, 207, 208, 209, 210, 211, 212, 213, 214, 215, 216, 217, 218, 219, 220, 221, 222, 223, 224, 225, 226, 227, 228, 229, 230, 231, 232, 233, 234, 235, 236, 237, 238, 239, 240, 241, 242, 243, 244, 245, 246, 247, 248, 249, 250, 251, 252, 253, 254, 255, 256, 257, 258, 259, 260, 261, 262, 263, 264, 265, 266, 267, 268, 269, 270, 271, 272, 273, 133, 2, 134, 274, 275, 276, 277, 278, 279, 280, 281, 282, 283, 284, 285, 286, 287, 288, 289, 290, 291, 292, 293, 56, 294, 295, 296, 297, 57, 58, 59, 60, 61, 153, 154, 155, 156, 298, 299, 300, 23, 301, 302, 303, 70, 304, 66, 305, 67, 68, 69, 842, 843, 844, 845, 846, 847, 848, 849, 850, 851, 878, 879, 880, 881, 882, 883, 884, 885, 886, 887, 888, 889, 890, 891, 892, 893, 894, 895, 896, 897, 898, 899, 900, 901] (by decide +kernel) (by decide +kernel)
set_option maxRecDepth 20000 in
theorem gL_law_X7_day : GoodIn wsL_law (wsV RL 25 RX7 yX7_day wsX7_day) := goodIn_app (goodIn_of _ (by decide +kernel)) ggL_law_X7_day
set_option maxRecDepth 20000 in
theorem ggL_law_X8_day : GoodIn wsL_law wsX8_day := goodIn_r _ [309, 310, 311, 110, 114, 117, 312, 111, 112, 113, 115, 116, 118, 120, 144, 313, 314, 315, 5, 316, 317, 318, 319, 320, 321, 322, 109, 146, 147, 148, 323, 324, 325, 326, 327, 328, 329, 330, 331, 332, 333, 334, 335, 336, 337, 338, 339, 340, 341, 119, 852, 853, 854, 855, 856, 857, 858, 859, 860, 861, 862, 863, 864, 865, 866, 867, 868, 869, 870, 871, 872, 873, 874, 875, 876, 877] (by decide +kernel) (by decide +kernel)
set_option maxRecDepth 20000 in
theorem gL_law_X8_day : GoodIn wsL_law (wsV RL 28 RX8 yX8_day wsX8_day) := goodIn_app (goodIn_of _ (by decide +kernel)) ggL_law_X8_day
set_option maxRecDepth 20000 in
theorem ggL_law_X7_piece : GoodIn wsL_law wsX7_piece := goodIn_r _ [345, 24, 346, 20, 347, 348, 349, 350, 351, 352, 353, 354, 2, 355, 356, 132, 133, 134, 842, 843, 844, 845, 846, 847, 848, 849, 850, 851, 895, 896, 897, 898, 899, 900, 901, 886, 887, 888, 889, 890, 891, 892, 893, 894] (by decide +kernel) (by decide +kernel)
set_option maxRecDepth 20000 in
theorem gL_law_X7_piece : GoodIn wsL_law (wsV RL 29 RX7 yX7_piece wsX7_piece) := goodIn_app (goodIn_of _ (by decide +kernel)) ggL_law_X7_piece
set_option maxRecDepth 20000 in
theorem ggL_law_X8_piece : GoodIn wsL_law wsX8_piece := goodIn_r _ [360, 119, 112, 113, 361, 362, 363, 5, 364, 110, 146, 147, 148, 852, 853, 854, 855, 856, 857, 858, 859, 860, 861, 862, 863, 864, 865, 866, 867, 868, 869, 870, 871, 872, 873, 874, 875, 876, 877] (by decide +kernel) (by decide +kernel)
set_option maxRecDepth 20000 in
theorem gL_law_X8_piece : GoodIn wsL_law (wsV RL 33 RX8 yX8_piece wsX8_piece) := goodIn_app (goodIn_of _ (by decide +kernel)) ggL_law_X8_piece
set_option maxRecDepth 20000 in
theorem ggL_law_X7_spot : GoodIn wsL_law wsX7_spot := goodIn_r _ [368, 20, 369, 370, 24, 371, 372, 373, 2, 374, 375, 132, 133, 134, 376, 377, 378, 23, 379, 70, 304, 68, 842, 843, 844, 845, 846, 847, 848, 849, 850, 851, 886, 887, 888, 889, 890, 891, 892, 893, 894, 895, 896, 897, 898, 899, 900, 901] (by decide +kernel) (by decide +kernel)
set_option maxRecDepth 20000 in
theorem gL_law_X7_spot : GoodIn wsL_law (wsV RL 34 RX7 yX7_spot wsX7_spot) := goodIn_app (goodIn_of _ (by decide +kernel)) ggL_law_X7_spot
set_option maxRecDepth 20000 in
theorem ggL_law_X8_spot : GoodIn wsL_law wsX8_spot := goodIn_r _ [383, 115, 116, 384, 385, 386, 5, 387, 114, 146, 147, 148, 388, 389, 390, 391, 110, 119, 852, 853, 854, 855, 856, 857, 858, 859, 860, 861, 862, 863, 864, 865, 866, 867, 868, 869, 870, 871, 872, 873, 874, 875, 876, 877] (by decide +kernel) (by decide +kernel)
set_option maxRecDepth 20000 in
theorem gL_law_X8_spot : GoodIn wsL_law (wsV RL 37 RX8 yX8_spot wsX8_spot) := goodIn_app (goodIn_of _ (by decide +kernel)) ggL_law_X8_spot
set_option maxRecDepth 20000 in
theorem ggL_law_X7_sky : GoodIn wsL_law wsX7_sky := goodIn_r _ [395, 20, 396, 132, 133, 2, 134, 397, 398, 399, 19, 400, 179, 61, 842, 843, 844, 845, 846, 847, 848, 849, 850, 851, 886, 887, 888, 889, 890, 891, 892, 893, 894] (by decide +kernel) (by decide +kernel)
set_option maxRecDepth 20000 in
theorem gL_law_X7_sky : GoodIn wsL_law (wsV RL 38 RX7 yX7_sky wsX7_sky) := goodIn_app (goodIn_of _ (by decide +kernel)) ggL_law_X7_sky
set_option maxRecDepth 20000 in
theorem ggL_law_X8_sky : GoodIn wsL_law wsX8_sky := goodIn_r _ [404, 405, 146, 147, 5, 148, 406, 407, 408, 409, 117, 118, 852, 853, 854, 855, 856, 857, 858, 859, 860, 861, 862, 863, 864, 865, 866, 867, 868, 869, 870, 871, 872, 873, 874, 875, 876, 877] (by decide +kernel) (by decide +kernel)
set_option maxRecDepth 20000 in
theorem gL_law_X8_sky : GoodIn wsL_law (wsV RL 42 RX8 yX8_sky wsX8_sky) := goodIn_app (goodIn_of _ (by decide +kernel)) ggL_law_X8_sky
set_option maxRecDepth 20000 in
theorem ggL_law_X7_hang : GoodIn wsL_law wsX7_hang := goodIn_r _ [413, 24, 20, 351, 352, 353, 354, 2, 355, 356, 132, 133, 134, 371, 372, 373, 374, 375, 376, 377, 378, 23, 379, 70, 304, 68, 414, 415, 416, 19, 417, 57, 59, 842, 843, 844, 845, 846, 847, 848, 849, 850, 851, 895, 896, 897, 898, 899, 900, 901, 886, 887, 888, 889, 890, 891, 892, 893, 894] (by decide +kernel) (by decide +kernel)
set_option maxRecDepth 20000 in
theorem gL_law_X7_hang : GoodIn wsL_law (wsV RL 43 RX7 yX7_hang wsX7_hang) := goodIn_app (goodIn_of _ (by decide +kernel)) ggL_law_X7_hang
set_option maxRecDepth 20000 in
theorem ggL_law_X8_hang : GoodIn wsL_law wsX8_hang := goodIn_r _ [421, 112, 115, 119, 361, 362, 363, 5, 364, 110, 146, 147, 148, 384, 385, 386, 387, 114, 388, 389, 390, 391, 852, 853, 854, 855, 856, 857, 858, 859, 860, 861, 862, 863, 864, 865, 866, 867, 868, 869, 870, 871, 872, 873, 874, 875, 876, 877] (by decide +kernel) (by decide +kernel)
set_option maxRecDepth 20000 in
theorem gL_law_X8_hang : GoodIn wsL_law (wsV RL 46 RX8 yX8_hang wsX8_hang) := goodIn_app (goodIn_of _ (by decide +kernel)) ggL_law_X8_hang
set_option maxRecDepth 20000 in
theorem ggL_law_X7_rack : GoodIn wsL_law wsX7_rack := goodIn_r _ [425, 24, 351, 352, 353, 354, 2, 355, 20, 356, 132, 133, 134, 426, 427, 428, 23, 429, 70, 304, 68, 842, 843, 844, 845, 846, 847, 848, 849, 850, 851, 895, 896, 897, 898, 899, 900, 901, 886, 887, 888, 889, 890, 891, 892, 893, 894] (by decide +kernel) (by decide +kernel)
set_option maxRecDepth 20000 in
theorem gL_law_X7_rack : GoodIn wsL_law (wsV RL 47 RX7 yX7_rack wsX7_rack) := goodIn_app (goodIn_of _ (by decide +kernel)) ggL_law_X7_rack
set_option maxRecDepth 20000 in
theorem ggL_law_X8_rack : GoodIn wsL_law wsX8_rack := goodIn_r _ [433, 119, 361, 362, 363, 5, 364, 110, 146, 147, 148, 434, 435, 436, 437, 852, 853, 854, 855, 856, 857, 858, 859, 860, 861, 862, 863, 864, 865, 866, 867, 868, 869, 870, 871, 872, 873, 874, 875, 876, 877] (by decide +kernel) (by decide +kernel)
set_option maxRecDepth 20000 in
theorem gL_law_X8_rack : GoodIn wsL_law (wsV RL 50 RX8 yX8_rack wsX8_rack) := goodIn_app (goodIn_of _ (by decide +kernel)) ggL_law_X8_rack
set_option maxRecDepth 20000 in
theorem ggL_law_X7_basket : GoodIn wsL_law wsX7_basket := goodIn_r _ [441, 24, 351, 352, 353, 354, 2, 355, 20, 356, 132, 133, 134, 842, 843, 844, 845, 846, 847, 848, 849, 850, 851, 895, 896, 897, 898, 899, 900, 901, 886, 887, 888, 889, 890, 891, 892, 893, 894] (by decide +kernel) (by decide +kernel)
set_option maxRecDepth 20000 in
theorem gL_law_X7_basket : GoodIn wsL_law (wsV RL 51 RX7 yX7_basket wsX7_basket) := goodIn_app (goodIn_of _ (by decide +kernel)) ggL_law_X7_basket
set_option maxRecDepth 20000 in
theorem ggL_law_X8_basket : GoodIn wsL_law wsX8_basket := goodIn_r _ [445, 119, 361, 362, 363, 5, 364, 110, 146, 147, 148, 852, 853, 854, 855, 856, 857, 858, 859, 860, 861, 862, 863, 864, 865, 866, 867, 868, 869, 870, 871, 872, 873, 874, 875, 876, 877] (by decide +kernel) (by decide +kernel)
set_option maxRecDepth 20000 in
theorem gL_law_X8_basket : GoodIn wsL_law (wsV RL 54 RX8 yX8_basket wsX8_basket) := goodIn_app (goodIn_of _ (by decide +kernel)) ggL_law_X8_basket
set_option maxRecDepth 20000 in
theorem ggL_law_X7_go : GoodIn wsL_law wsX7_go := goodIn_r _ [449, 24, 450, 132, 133, 2, 134, 451, 452, 453, 23, 454, 70, 302, 304, 66, 68, 455, 456, 202, 457, 303, 458, 398, 399, 19, 400, 179, 61, 459, 460, 461, 462, 463, 464, 465, 466, 467, 56, 57, 468, 201, 203, 469, 470, 471, 472, 473, 474, 475, 476, 477, 478, 67, 69, 842, 843, 844, 845, 846, 847, 848, 849, 850, 851, 895, 896, 897, 898, 899, 900, 901, 886, 887, 888, 889, 890, 891, 892, 893, 894] (by decide +kernel) (by decide +kernel)
set_option maxRecDepth 20000 in
theorem gL_law_X7_go : GoodIn wsL_law (wsV RL 55 RX7 yX7_go wsX7_go) := goodIn_app (goodIn_of _ (by decide +kernel)) ggL_law_X7_go
set_option maxRecDepth 20000 in
theorem ggL_law_X8_go : GoodIn wsL_law wsX8_go := goodIn_r _ [482, 119, 146, 147, 5, 148, 483, 484, 485, 486, 110, 406, 407, 408, 409, 117, 118, 487, 488, 489, 490, 112, 111, 116, 113, 852, 853, 854, 855, 856, 857, 858, 859, 860, 861, 862, 863, 864, 865, 866, 867, 868, 869, 870, 871, 872, 873, 874, 875, 876, 877] (by decide +kernel) (by decide +kernel)
set_option maxRecDepth 20000 in
theorem gL_law_X8_go : GoodIn wsL_law (wsV RL 58 RX8 yX8_go wsX8_go) := goodIn_app (goodIn_of _ (by decide +kernel)) ggL_law_X8_go
set_option maxRecDepth 20000 in
theorem ggL_law_X7_now : GoodIn wsL_law wsX7_now := goodIn_r _ [494, 24, 450, 495, 496, 497, 498, 23, 499, 70, 304, 66, 500, 501, 502, 503, 459, 460, 461, 462, 68, 463, 133, 2, 134, 504, 505, 506, 507, 508, 509, 510, 511, 69, 842, 843, 844, 845, 846, 847, 848, 849, 850, 851, 895, 896, 897, 898, 899, 900, 901, 886, 887, 888, 889, 890, 891, 892, 893, 894] (by decide +kernel) (by decide +kernel)
set_option maxRecDepth 20000 in
theorem gL_law_X7_now : GoodIn wsL_law (wsV RL 59 RX7 yX7_now wsX7_now) := goodIn_app (goodIn_of _ (by decide +kernel)) ggL_law_X7_now
set_option maxRecDepth 20000 in
theorem ggL_law_X8_now : GoodIn wsL_law wsX8_now := goodIn_r _ [515, 110, 119, 516, 517, 518, 5, 519, 852, 853, 854, 855, 856, 857, 858, 859, 860, 861, 862, 863, 864, 865, 866, 867, 868, 869, 870, 871, 872, 873, 874, 875, 876, 877] (by decide +kernel) (by decide +kernel)
set_option maxRecDepth 20000 in
theorem gL_law_X8_now : GoodIn wsL_law (wsV RL 62 RX8 yX8_now wsX8_now) := goodIn_app (goodIn_of _ (by decide +kernel)) ggL_law_X8_now
set_option maxRecDepth 20000 in
theorem ggL_law_X7_anew : GoodIn wsL_law wsX7_anew := goodIn_r _ [523, 24, 450, 298, 299, 300, 23, 301, 302, 303, 70, 304, 66, 305, 67, 68, 69, 842, 843, 844, 845, 846, 847, 848, 849, 850, 851, 895, 896, 897, 898, 899, 900, 901, 886, 887, 888, 889, 890, 891, 892, 893, 894] (by decide +kernel) (by decide +kernel)
set_option maxRecDepth 20000 in
theorem gL_law_X7_anew : GoodIn wsL_law (wsV RL 63 RX7 yX7_anew wsX7_anew) := goodIn_app (goodIn_of _ (by decide +kernel)) ggL_law_X7_anew
set_option maxRecDepth 20000 in
theorem ggL_law_X8_anew : GoodIn wsL_law wsX8_anew := goodIn_r _ [341, 119, 110, 111, 852, 853, 854, 855, 856, 857, 858, 859, 860, 861, 862, 863, 864, 865, 866, 867, 868, 869, 870, 871, 872, 873, 874, 875, 876, 877] (by decide +kernel) (by decide +kernel)
set_option maxRecDepth 20000 in
theorem gL_law_X8_anew : GoodIn wsL_law (wsV RL 66 RX8 yX8_anew wsX8_anew) := goodIn_app (goodIn_of _ (by decide +kernel)) ggL_law_X8_anew
