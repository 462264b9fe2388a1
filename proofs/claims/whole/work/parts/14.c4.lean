set_option maxRecDepth 20000 in
theorem ggL_law_X7_guard : GoodIn wsL_law wsX7_guard := goodIn_r _ [692, 17, 357, 25, 35, 316, 124, 125, 2, 126, 653, 654, 655, 24, 656, 493, 363, 364, 365, 66, 657, 658, 659, 34, 660, 77, 661, 79, 662, 663, 435, 436, 437, 438, 439, 440, 599, 600, 601, 602, 603, 238, 239, 240, 664, 665, 666, 667, 668, 490, 491, 492, 669, 326, 327, 605, 512, 513, 514, 67, 515, 516, 517, 508, 509, 510, 606, 519, 520, 521, 522, 523, 524, 525, 245, 526, 390, 391, 392, 393, 394, 395, 388, 322, 323, 324, 527, 528, 529, 530, 498, 531, 532, 533, 534, 535, 536, 537, 538, 539, 540, 541, 542, 543, 544, 545, 546, 318, 319, 320, 604, 885, 886, 887, 888, 889, 890, 891, 892, 893, 894, 913, 914, 915, 916, 917, 918, 919, 920, 921, 922, 923, 924, 925, 926, 934, 935, 939, 940] (by decide +kernel) (by decide +kernel)
set_option maxRecDepth 20000 in
theorem gL_law_X7_guard : GoodIn wsL_law (wsV RL 92 RX7 yX7_guard wsX7_guard) := goodIn_app (goodIn_of _ (by decide +kernel)) ggL_law_X7_guard
set_option maxRecDepth 20000 in
theorem ggL_law_X8_guard : GoodIn wsL_law wsX8_guard := goodIn_r _ [696, 371, 372, 373, 5, 374, 101, 133, 134, 135, 674, 675, 676, 677, 102, 678, 679, 680, 681, 611, 612, 613, 614, 104, 587, 588, 589, 590, 682, 683, 684, 685, 686, 687, 688, 552, 553, 554, 555, 556, 557, 558, 559, 405, 406, 407, 408, 413, 414, 415, 416, 560, 561, 562, 563, 409, 410, 411, 412, 445, 446, 447, 448, 615, 616, 617, 618, 895, 896, 897, 898, 899, 900, 901, 902, 903, 904, 905, 906, 907, 908, 909, 910, 911, 912] (by decide +kernel) (by decide +kernel)
set_option maxRecDepth 20000 in
theorem gL_law_X8_guard : GoodIn wsL_law (wsV RL 95 RX8 yX8_guard wsX8_guard) := goodIn_app (goodIn_of _ (by decide +kernel)) ggL_law_X8_guard
set_option maxRecDepth 20000 in
theorem ggL_law_X7_falls : GoodIn wsL_law wsX7_falls := goodIn_r _ [700, 17, 357, 361, 124, 125, 2, 126, 325, 326, 327, 885, 886, 887, 888, 889, 890, 891, 892, 893, 894, 913, 914, 915, 916, 917, 918, 919, 920, 921, 922, 923, 924, 925, 926] (by decide +kernel) (by decide +kernel)
set_option maxRecDepth 20000 in
theorem gL_law_X7_falls : GoodIn wsL_law (wsV RL 96 RX7 yX7_falls wsX7_falls) := goodIn_app (goodIn_of _ (by decide +kernel)) ggL_law_X7_falls
set_option maxRecDepth 20000 in
theorem ggL_law_X8_falls : GoodIn wsL_law wsX8_falls := goodIn_r _ [704, 101, 371, 372, 373, 5, 374, 133, 134, 135, 895, 896, 897, 898, 899, 900, 901, 902, 903, 904, 905, 906, 907, 908, 909, 910, 911, 912] (by decide +kernel) (by decide +kernel)
set_option maxRecDepth 20000 in
theorem gL_law_X8_falls : GoodIn wsL_law (wsV RL 99 RX8 yX8_falls wsX8_falls) := goodIn_app (goodIn_of _ (by decide +kernel)) ggL_law_X8_falls
set_option maxRecDepth 20000 in
theorem ggL_law_X7_wants : GoodIn wsL_law wsX7_wants := goodIn_r _ [708, 39, 151, 709, 124, 125, 2, 126, 885, 886, 887, 888, 889, 890, 891, 892, 893, 894, 941, 942, 943, 944, 945, 946, 947, 948] (by decide +kernel) (by decide +kernel)
set_option maxRecDepth 20000 in
theorem gL_law_X7_wants : GoodIn wsL_law (wsV RL 100 RX7 yX7_wants wsX7_wants) := goodIn_app (goodIn_of _ (by decide +kernel)) ggL_law_X7_wants
set_option maxRecDepth 20000 in
theorem ggL_law_X8_wants : GoodIn wsL_law wsX8_wants := goodIn_r _ [713, 551, 117, 105, 133, 134, 5, 135, 895, 896, 897, 898, 899, 900, 901, 902, 903, 904, 905, 906, 907, 908, 909, 910, 911, 912] (by decide +kernel) (by decide +kernel)
set_option maxRecDepth 20000 in
theorem gL_law_X8_wants : GoodIn wsL_law (wsV RL 103 RX8 yX8_wants wsX8_wants) := goodIn_app (goodIn_of _ (by decide +kernel)) ggL_law_X8_wants
set_option maxRecDepth 20000 in
theorem ggL_law_X7_forget : GoodIn wsL_law wsX7_forget := goodIn_r _ [717, 39, 151, 885, 886, 887, 888, 889, 890, 891, 892, 893, 894, 941, 942, 943, 944, 945, 946, 947, 948] (by decide +kernel) (by decide +kernel)
set_option maxRecDepth 20000 in
theorem gL_law_X7_forget : GoodIn wsL_law (wsV RL 104 RX7 yX7_forget wsX7_forget) := goodIn_app (goodIn_of _ (by decide +kernel)) ggL_law_X7_forget
set_option maxRecDepth 20000 in
theorem ggL_law_X8_forget : GoodIn wsL_law wsX8_forget := goodIn_r _ [721, 117, 895, 896, 897, 898, 899, 900, 901, 902, 903, 904, 905, 906, 907, 908, 909, 910, 911, 912] (by decide +kernel) (by decide +kernel)
set_option maxRecDepth 20000 in
theorem gL_law_X8_forget : GoodIn wsL_law (wsV RL 107 RX8 yX8_forget wsX8_forget) := goodIn_app (goodIn_of _ (by decide +kernel)) ggL_law_X8_forget
set_option maxRecDepth 20000 in
theorem ggL_law_X7_cut : GoodIn wsL_law wsX7_cut := goodIn_r _ [725, 39, 151, 25, 726, 727, 124, 125, 2, 126, 728, 729, 730, 38, 731, 86, 732, 87, 733, 734, 326, 327, 735, 318, 319, 24, 320, 66, 736, 737, 738, 739, 740, 84, 741, 742, 743, 88, 85, 744, 238, 239, 240, 745, 435, 436, 437, 438, 439, 440, 746, 747, 748, 749, 750, 751, 752, 753, 885, 886, 887, 888, 889, 890, 891, 892, 893, 894, 941, 942, 943, 944, 945, 946, 947, 948, 934, 935] (by decide +kernel) (by decide +kernel)
set_option maxRecDepth 20000 in
theorem gL_law_X7_cut : GoodIn wsL_law (wsV RL 108 RX7 yX7_cut wsX7_cut) := goodIn_app (goodIn_of _ (by decide +kernel)) ggL_law_X7_cut
set_option maxRecDepth 20000 in
theorem ggL_law_X8_cut : GoodIn wsL_law wsX8_cut := goodIn_r _ [757, 758, 117, 101, 107, 105, 106, 133, 134, 5, 135, 409, 410, 411, 412, 102, 445, 446, 447, 448, 682, 683, 684, 895, 896, 897, 898, 899, 900, 901, 902, 903, 904, 905, 906, 907, 908, 909, 910, 911, 912] (by decide +kernel) (by decide +kernel)
set_option maxRecDepth 20000 in
theorem gL_law_X8_cut : GoodIn wsL_law (wsV RL 111 RX8 yX8_cut wsX8_cut) := goodIn_app (goodIn_of _ (by decide +kernel)) ggL_law_X8_cut
