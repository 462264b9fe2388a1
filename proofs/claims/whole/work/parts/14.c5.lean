set_option maxRecDepth 20000 in
theorem ggL_law_X7_shown : GoodIn wsL_law wsX7_shown := goodIn_r _ [762, 17, 379, 314, 25, 124, 125, 2, 126, 763, 764, 765, 24, 766, 67, 245, 246, 326, 327, 546, 318, 319, 320, 66, 380, 381, 382, 383, 885, 886, 887, 888, 889, 890, 891, 892, 893, 894, 913, 914, 915, 916, 917, 918, 919, 920, 921, 922, 923, 924, 925, 926, 934, 935] (by decide +kernel) (by decide +kernel)
set_option maxRecDepth 20000 in
theorem gL_law_X7_shown : GoodIn wsL_law (wsV RL 112 RX7 yX7_shown wsX7_shown) := goodIn_app (goodIn_of _ (by decide +kernel)) ggL_law_X7_shown
set_option maxRecDepth 20000 in
theorem ggL_law_X8_shown : GoodIn wsL_law wsX8_shown := goodIn_r _ [770, 101, 102, 401, 402, 403, 5, 404, 133, 134, 135, 445, 446, 447, 448, 895, 896, 897, 898, 899, 900, 901, 902, 903, 904, 905, 906, 907, 908, 909, 910, 911, 912] (by decide +kernel) (by decide +kernel)
set_option maxRecDepth 20000 in
theorem gL_law_X8_shown : GoodIn wsL_law (wsV RL 115 RX8 yX8_shown wsX8_shown) := goodIn_app (goodIn_of _ (by decide +kernel)) ggL_law_X8_shown
set_option maxRecDepth 20000 in
theorem ggL_law_X7_odds : GoodIn wsL_law wsX7_odds := goodIn_r _ [774, 17, 357, 25, 35, 124, 125, 2, 126, 653, 654, 655, 24, 656, 493, 363, 364, 365, 66, 775, 776, 777, 34, 778, 79, 663, 435, 436, 437, 438, 439, 440, 779, 780, 599, 600, 601, 602, 603, 238, 239, 240, 664, 665, 666, 667, 668, 490, 491, 492, 669, 326, 327, 605, 512, 513, 514, 67, 515, 516, 517, 508, 509, 510, 606, 519, 520, 521, 522, 523, 524, 525, 245, 526, 390, 391, 392, 393, 394, 395, 388, 322, 323, 324, 527, 528, 529, 530, 498, 531, 532, 533, 534, 535, 536, 537, 538, 539, 540, 541, 542, 543, 544, 545, 546, 318, 319, 320, 604, 781, 782, 783, 784, 885, 886, 887, 888, 889, 890, 891, 892, 893, 894, 913, 914, 915, 916, 917, 918, 919, 920, 921, 922, 923, 924, 925, 926, 934, 935, 939, 940] (by decide +kernel) (by decide +kernel)
set_option maxRecDepth 20000 in
theorem gL_law_X7_odds : GoodIn wsL_law (wsV RL 116 RX7 yX7_odds wsX7_odds) := goodIn_app (goodIn_of _ (by decide +kernel)) ggL_law_X7_odds
set_option maxRecDepth 20000 in
theorem ggL_law_X8_odds : GoodIn wsL_law wsX8_odds := goodIn_r _ [788, 789, 790, 102, 371, 372, 373, 5, 374, 101, 133, 134, 135, 674, 675, 676, 677, 611, 612, 613, 614, 104, 556, 557, 558, 559, 405, 406, 407, 408, 413, 414, 415, 416, 560, 561, 562, 563, 409, 410, 411, 412, 445, 446, 447, 448, 552, 553, 554, 555, 615, 616, 617, 618, 895, 896, 897, 898, 899, 900, 901, 902, 903, 904, 905, 906, 907, 908, 909, 910, 911, 912] (by decide +kernel) (by decide +kernel)
set_option maxRecDepth 20000 in
theorem gL_law_X8_odds : GoodIn wsL_law (wsV RL 120 RX8 yX8_odds wsX8_odds) := goodIn_app (goodIn_of _ (by decide +kernel)) ggL_law_X8_odds
set_option maxRecDepth 20000 in
theorem ggL_law_X7_mark : GoodIn wsL_law wsX7_mark := goodIn_r _ [794, 17, 314, 795, 124, 125, 2, 126, 796, 797, 798, 799, 800, 25, 317, 318, 319, 24, 320, 66, 801, 802, 803, 804, 805, 315, 806, 807, 808, 809, 810, 321, 322, 323, 324, 811, 812, 813, 814, 815, 816, 817, 818, 819, 820, 316, 434, 435, 436, 437, 438, 439, 440, 821, 822, 823, 824, 825, 507, 508, 509, 510, 885, 886, 887, 888, 889, 890, 891, 892, 893, 894, 913, 914, 915, 916, 917, 918, 919, 920, 921, 922, 923, 924, 925, 926, 934, 935] (by decide +kernel) (by decide +kernel)
set_option maxRecDepth 20000 in
theorem gL_law_X7_mark : GoodIn wsL_law (wsV RL 121 RX7 yX7_mark wsX7_mark) := goodIn_app (goodIn_of _ (by decide +kernel)) ggL_law_X7_mark
set_option maxRecDepth 20000 in
theorem ggL_law_X8_mark : GoodIn wsL_law wsX8_mark := goodIn_r _ [829, 370, 830, 831, 832, 833, 834, 835, 836, 101, 102, 133, 134, 5, 135, 333, 334, 335, 336, 445, 446, 447, 448, 405, 406, 407, 408, 453, 454, 455, 456, 895, 896, 897, 898, 899, 900, 901, 902, 903, 904, 905, 906, 907, 908, 909, 910, 911, 912] (by decide +kernel) (by decide +kernel)
set_option maxRecDepth 20000 in
theorem gL_law_X8_mark : GoodIn wsL_law (wsV RL 124 RX8 yX8_mark wsX8_mark) := goodIn_app (goodIn_of _ (by decide +kernel)) ggL_law_X8_mark
set_option maxRecDepth 20000 in
theorem ggL_law_X7_keep : GoodIn wsL_law wsX7_keep := goodIn_r _ [840, 31, 25, 29, 124, 125, 2, 126, 841, 842, 843, 41, 844, 845, 846, 92, 847, 238, 239, 240, 94, 848, 849, 850, 28, 851, 432, 430, 72, 431, 507, 508, 509, 24, 510, 66, 885, 886, 887, 888, 889, 890, 891, 892, 893, 894, 949, 950, 951, 934, 935, 936, 937, 938] (by decide +kernel) (by decide +kernel)
set_option maxRecDepth 20000 in
theorem gL_law_X7_keep : GoodIn wsL_law (wsV RL 125 RX7 yX7_keep wsX7_keep) := goodIn_app (goodIn_of _ (by decide +kernel)) ggL_law_X7_keep
set_option maxRecDepth 20000 in
theorem ggL_law_X8_keep : GoodIn wsL_law wsX8_keep := goodIn_r _ [855, 108, 118, 102, 103, 133, 134, 5, 135, 895, 896, 897, 898, 899, 900, 901, 902, 903, 904, 905, 906, 907, 908, 909, 910, 911, 912] (by decide +kernel) (by decide +kernel)
set_option maxRecDepth 20000 in
theorem gL_law_X8_keep : GoodIn wsL_law (wsV RL 128 RX8 yX8_keep wsX8_keep) := goodIn_app (goodIn_of _ (by decide +kernel)) ggL_law_X8_keep
set_option maxRecDepth 20000 in
theorem ggL_law_X7_back : GoodIn wsL_law wsX7_back := goodIn_r _ [859, 31, 152, 25, 29, 124, 125, 2, 126, 860, 861, 862, 41, 863, 92, 846, 847, 238, 239, 240, 94, 848, 849, 850, 28, 851, 432, 430, 72, 431, 507, 508, 509, 24, 510, 66, 885, 886, 887, 888, 889, 890, 891, 892, 893, 894, 949, 950, 951, 934, 935, 936, 937, 938] (by decide +kernel) (by decide +kernel)
set_option maxRecDepth 20000 in
theorem gL_law_X7_back : GoodIn wsL_law (wsV RL 129 RX7 yX7_back wsX7_back) := goodIn_app (goodIn_of _ (by decide +kernel)) ggL_law_X7_back
set_option maxRecDepth 20000 in
theorem ggL_law_X8_back : GoodIn wsL_law wsX8_back := goodIn_r _ [867, 108, 118, 102, 103, 133, 134, 5, 135, 895, 896, 897, 898, 899, 900, 901, 902, 903, 904, 905, 906, 907, 908, 909, 910, 911, 912] (by decide +kernel) (by decide +kernel)
set_option maxRecDepth 20000 in
theorem gL_law_X8_back : GoodIn wsL_law (wsV RL 132 RX8 yX8_back wsX8_back) := goodIn_app (goodIn_of _ (by decide +kernel)) ggL_law_X8_back
