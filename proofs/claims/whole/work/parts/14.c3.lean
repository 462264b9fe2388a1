set_option maxRecDepth 20000 in
theorem ggL_law_X7_now : GoodIn wsL_law wsX7_now := goodIn_r _ [579, 25, 316, 17, 359, 507, 508, 509, 24, 510, 66, 511, 512, 513, 514, 67, 515, 516, 517, 494, 495, 496, 497, 498, 493, 363, 364, 365, 580, 581, 2, 582, 325, 326, 327, 885, 886, 887, 888, 889, 890, 891, 892, 893, 894, 934, 935, 913, 914, 915, 916, 917, 918, 919, 920, 921, 922, 923, 924, 925, 926] (by decide +kernel) (by decide +kernel)
set_option maxRecDepth 20000 in
theorem gL_law_X7_now : GoodIn wsL_law (wsV RL 72 RX7 yX7_now wsX7_now) := goodIn_app (goodIn_of _ (by decide +kernel)) ggL_law_X7_now
set_option maxRecDepth 20000 in
theorem ggL_law_X8_now : GoodIn wsL_law wsX8_now := goodIn_r _ [586, 102, 101, 552, 553, 554, 5, 555, 587, 588, 589, 590, 895, 896, 897, 898, 899, 900, 901, 902, 903, 904, 905, 906, 907, 908, 909, 910, 911, 912] (by decide +kernel) (by decide +kernel)
set_option maxRecDepth 20000 in
theorem gL_law_X8_now : GoodIn wsL_law (wsV RL 75 RX8 yX8_now wsX8_now) := goodIn_app (goodIn_of _ (by decide +kernel)) ggL_law_X8_now
set_option maxRecDepth 20000 in
theorem ggL_law_X7_comes : GoodIn wsL_law wsX7_comes := goodIn_r _ [594, 17, 357, 35, 25, 124, 125, 2, 126, 595, 596, 597, 34, 598, 79, 599, 600, 601, 24, 602, 66, 603, 238, 239, 240, 604, 363, 364, 365, 605, 512, 513, 514, 67, 515, 516, 517, 508, 509, 510, 606, 519, 520, 521, 522, 523, 524, 525, 245, 526, 390, 391, 392, 393, 394, 395, 326, 327, 388, 322, 323, 324, 527, 528, 529, 530, 498, 531, 532, 533, 534, 535, 493, 536, 537, 538, 539, 540, 541, 542, 543, 544, 545, 546, 318, 319, 320, 885, 886, 887, 888, 889, 890, 891, 892, 893, 894, 913, 914, 915, 916, 917, 918, 919, 920, 921, 922, 923, 924, 925, 926, 939, 940, 934, 935] (by decide +kernel) (by decide +kernel)
set_option maxRecDepth 20000 in
theorem gL_law_X7_comes : GoodIn wsL_law (wsV RL 76 RX7 yX7_comes wsX7_comes) := goodIn_app (goodIn_of _ (by decide +kernel)) ggL_law_X7_comes
set_option maxRecDepth 20000 in
theorem ggL_law_X8_comes : GoodIn wsL_law wsX8_comes := goodIn_r _ [610, 551, 102, 371, 372, 373, 5, 374, 101, 133, 134, 135, 611, 612, 613, 614, 104, 552, 553, 554, 555, 556, 557, 558, 559, 405, 406, 407, 408, 413, 414, 415, 416, 560, 561, 562, 563, 409, 410, 411, 412, 445, 446, 447, 448, 615, 616, 617, 618, 895, 896, 897, 898, 899, 900, 901, 902, 903, 904, 905, 906, 907, 908, 909, 910, 911, 912] (by decide +kernel) (by decide +kernel)
set_option maxRecDepth 20000 in
theorem gL_law_X8_comes : GoodIn wsL_law (wsV RL 79 RX8 yX8_comes wsX8_comes) := goodIn_app (goodIn_of _ (by decide +kernel)) ggL_law_X8_comes
set_option maxRecDepth 20000 in
theorem ggL_law_X7_first : GoodIn wsL_law wsX7_first := goodIn_r _ [622, 35, 25, 124, 125, 2, 126, 623, 624, 625, 34, 626, 79, 599, 600, 601, 24, 602, 66, 603, 238, 239, 240, 627, 495, 496, 497, 67, 498, 493, 363, 364, 365, 605, 512, 513, 514, 515, 516, 517, 508, 509, 510, 606, 519, 520, 521, 522, 523, 524, 525, 245, 526, 390, 391, 392, 393, 394, 395, 326, 327, 388, 322, 323, 324, 527, 528, 529, 530, 531, 532, 533, 534, 535, 536, 537, 538, 539, 540, 541, 542, 543, 544, 545, 546, 318, 319, 320, 628, 629, 436, 630, 631, 885, 886, 887, 888, 889, 890, 891, 892, 893, 894, 939, 940, 934, 935, 913, 914, 915, 916, 917, 918, 919, 920, 921, 922, 923, 924, 925, 926] (by decide +kernel) (by decide +kernel)
set_option maxRecDepth 20000 in
theorem gL_law_X7_first : GoodIn wsL_law (wsV RL 80 RX7 yX7_first wsX7_first) := goodIn_app (goodIn_of _ (by decide +kernel)) ggL_law_X7_first
set_option maxRecDepth 20000 in
theorem ggL_law_X8_first : GoodIn wsL_law wsX8_first := goodIn_r _ [635, 102, 101, 104, 133, 134, 5, 135, 611, 612, 613, 614, 552, 553, 554, 555, 556, 557, 558, 559, 405, 406, 407, 408, 413, 414, 415, 416, 560, 561, 562, 563, 409, 410, 411, 412, 445, 446, 447, 448, 615, 616, 617, 618, 895, 896, 897, 898, 899, 900, 901, 902, 903, 904, 905, 906, 907, 908, 909, 910, 911, 912] (by decide +kernel) (by decide +kernel)
set_option maxRecDepth 20000 in
theorem gL_law_X8_first : GoodIn wsL_law (wsV RL 83 RX8 yX8_first wsX8_first) := goodIn_app (goodIn_of _ (by decide +kernel)) ggL_law_X8_first
set_option maxRecDepth 20000 in
theorem ggL_law_X7_bestActs : GoodIn wsL_law wsX7_bestActs := goodIn_r _ [639, 17, 357, 358, 359, 124, 125, 2, 126, 580, 581, 582, 325, 326, 327, 640, 641, 642, 643, 25, 361, 494, 495, 496, 24, 497, 67, 498, 493, 363, 364, 365, 66, 885, 886, 887, 888, 889, 890, 891, 892, 893, 894, 913, 914, 915, 916, 917, 918, 919, 920, 921, 922, 923, 924, 925, 926, 934, 935] (by decide +kernel) (by decide +kernel)
set_option maxRecDepth 20000 in
theorem gL_law_X7_bestActs : GoodIn wsL_law (wsV RL 84 RX7 yX7_bestActs wsX7_bestActs) := goodIn_app (goodIn_of _ (by decide +kernel)) ggL_law_X7_bestActs
set_option maxRecDepth 20000 in
theorem ggL_law_X8_bestActs : GoodIn wsL_law wsX8_bestActs := goodIn_r _ [647, 648, 101, 133, 134, 5, 135, 587, 588, 589, 590, 102, 895, 896, 897, 898, 899, 900, 901, 902, 903, 904, 905, 906, 907, 908, 909, 910, 911, 912] (by decide +kernel) (by decide +kernel)
set_option maxRecDepth 20000 in
theorem gL_law_X8_bestActs : GoodIn wsL_law (wsV RL 87 RX8 yX8_bestActs wsX8_bestActs) := goodIn_app (goodIn_of _ (by decide +kernel)) ggL_law_X8_bestActs
set_option maxRecDepth 20000 in
theorem ggL_law_X7_plot : GoodIn wsL_law wsX7_plot := goodIn_r _ [652, 17, 357, 25, 35, 316, 124, 125, 2, 126, 653, 654, 655, 24, 656, 493, 363, 364, 365, 66, 657, 658, 659, 34, 660, 77, 661, 79, 662, 663, 435, 436, 437, 438, 439, 440, 599, 600, 601, 602, 603, 238, 239, 240, 664, 665, 666, 667, 668, 490, 491, 492, 669, 326, 327, 605, 512, 513, 514, 67, 515, 516, 517, 508, 509, 510, 606, 519, 520, 521, 522, 523, 524, 525, 245, 526, 390, 391, 392, 393, 394, 395, 388, 322, 323, 324, 527, 528, 529, 530, 498, 531, 532, 533, 534, 535, 536, 537, 538, 539, 540, 541, 542, 543, 544, 545, 546, 318, 319, 320, 604, 885, 886, 887, 888, 889, 890, 891, 892, 893, 894, 913, 914, 915, 916, 917, 918, 919, 920, 921, 922, 923, 924, 925, 926, 934, 935, 939, 940] (by decide +kernel) (by decide +kernel)
set_option maxRecDepth 20000 in
theorem gL_law_X7_plot : GoodIn wsL_law (wsV RL 88 RX7 yX7_plot wsX7_plot) := goodIn_app (goodIn_of _ (by decide +kernel)) ggL_law_X7_plot
set_option maxRecDepth 20000 in
theorem ggL_law_X8_plot : GoodIn wsL_law wsX8_plot := goodIn_r _ [673, 371, 372, 373, 5, 374, 101, 133, 134, 135, 674, 675, 676, 677, 102, 678, 679, 680, 681, 611, 612, 613, 614, 104, 587, 588, 589, 590, 682, 683, 684, 685, 686, 687, 688, 552, 553, 554, 555, 556, 557, 558, 559, 405, 406, 407, 408, 413, 414, 415, 416, 560, 561, 562, 563, 409, 410, 411, 412, 445, 446, 447, 448, 615, 616, 617, 618, 895, 896, 897, 898, 899, 900, 901, 902, 903, 904, 905, 906, 907, 908, 909, 910, 911, 912] (by decide +kernel) (by decide +kernel)
set_option maxRecDepth 20000 in
theorem gL_law_X8_plot : GoodIn wsL_law (wsV RL 91 RX8 yX8_plot wsX8_plot) := goodIn_app (goodIn_of _ (by decide +kernel)) ggL_law_X8_plot
