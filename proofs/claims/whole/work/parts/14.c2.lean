set_option maxRecDepth 20000 in
theorem ggL_law_X7_shields : GoodIn wsL_law wsX7_shields := goodIn_r _ [472, 17, 314, 25, 316, 124, 125, 2, 126, 325, 326, 327, 421, 422, 423, 424, 29, 425, 426, 427, 28, 428, 429, 72, 430, 431, 238, 239, 240, 432, 433, 158, 159, 160, 434, 435, 436, 437, 438, 439, 440, 885, 886, 887, 888, 889, 890, 891, 892, 893, 894, 913, 914, 915, 916, 917, 918, 919, 920, 921, 922, 923, 924, 925, 926, 934, 935, 936, 937, 938] (by decide +kernel) (by decide +kernel)
set_option maxRecDepth 20000 in
theorem gL_law_X7_shields : GoodIn wsL_law (wsV RL 52 RX7 yX7_shields wsX7_shields) := goodIn_app (goodIn_of _ (by decide +kernel)) ggL_law_X7_shields
set_option maxRecDepth 20000 in
theorem ggL_law_X8_shields : GoodIn wsL_law wsX8_shields := goodIn_r _ [476, 102, 101, 333, 334, 335, 5, 336, 133, 134, 135, 449, 450, 451, 452, 118, 103, 453, 454, 455, 456, 895, 896, 897, 898, 899, 900, 901, 902, 903, 904, 905, 906, 907, 908, 909, 910, 911, 912] (by decide +kernel) (by decide +kernel)
set_option maxRecDepth 20000 in
theorem gL_law_X8_shields : GoodIn wsL_law (wsV RL 55 RX8 yX8_shields wsX8_shields) := goodIn_app (goodIn_of _ (by decide +kernel)) ggL_law_X8_shields
set_option maxRecDepth 20000 in
theorem ggL_law_X7_opens : GoodIn wsL_law wsX7_opens := goodIn_r _ [480, 17, 341, 25, 316, 124, 125, 2, 126, 325, 326, 327, 421, 422, 423, 424, 29, 425, 426, 427, 28, 428, 429, 72, 430, 431, 238, 239, 240, 432, 433, 158, 159, 160, 434, 435, 436, 437, 438, 439, 440, 885, 886, 887, 888, 889, 890, 891, 892, 893, 894, 913, 914, 915, 916, 917, 918, 919, 920, 921, 922, 923, 924, 925, 926, 934, 935, 936, 937, 938] (by decide +kernel) (by decide +kernel)
set_option maxRecDepth 20000 in
theorem gL_law_X7_opens : GoodIn wsL_law (wsV RL 56 RX7 yX7_opens wsX7_opens) := goodIn_app (goodIn_of _ (by decide +kernel)) ggL_law_X7_opens
set_option maxRecDepth 20000 in
theorem ggL_law_X8_opens : GoodIn wsL_law wsX8_opens := goodIn_r _ [484, 102, 101, 349, 350, 351, 5, 352, 133, 134, 135, 449, 450, 451, 452, 118, 103, 453, 454, 455, 456, 895, 896, 897, 898, 899, 900, 901, 902, 903, 904, 905, 906, 907, 908, 909, 910, 911, 912] (by decide +kernel) (by decide +kernel)
set_option maxRecDepth 20000 in
theorem gL_law_X8_opens : GoodIn wsL_law (wsV RL 59 RX8 yX8_opens wsX8_opens) := goodIn_app (goodIn_of _ (by decide +kernel)) ggL_law_X8_opens
set_option maxRecDepth 20000 in
theorem ggL_law_X7_begins : GoodIn wsL_law wsX7_begins := goodIn_r _ [488, 17, 357, 25, 29, 124, 125, 2, 126, 362, 363, 364, 24, 365, 66, 425, 426, 427, 28, 428, 429, 72, 430, 431, 238, 239, 240, 432, 433, 158, 159, 160, 489, 490, 491, 492, 493, 494, 495, 496, 497, 67, 498, 434, 435, 436, 437, 438, 439, 440, 885, 886, 887, 888, 889, 890, 891, 892, 893, 894, 913, 914, 915, 916, 917, 918, 919, 920, 921, 922, 923, 924, 925, 926, 934, 935, 936, 937, 938] (by decide +kernel) (by decide +kernel)
set_option maxRecDepth 20000 in
theorem gL_law_X7_begins : GoodIn wsL_law (wsV RL 60 RX7 yX7_begins wsX7_begins) := goodIn_app (goodIn_of _ (by decide +kernel)) ggL_law_X7_begins
set_option maxRecDepth 20000 in
theorem ggL_law_X8_begins : GoodIn wsL_law wsX8_begins := goodIn_r _ [502, 102, 101, 371, 372, 373, 5, 374, 133, 134, 135, 449, 450, 451, 452, 118, 103, 453, 454, 455, 456, 895, 896, 897, 898, 899, 900, 901, 902, 903, 904, 905, 906, 907, 908, 909, 910, 911, 912] (by decide +kernel) (by decide +kernel)
set_option maxRecDepth 20000 in
theorem gL_law_X8_begins : GoodIn wsL_law (wsV RL 63 RX8 yX8_begins wsX8_begins) := goodIn_app (goodIn_of _ (by decide +kernel)) ggL_law_X8_begins
set_option maxRecDepth 20000 in
theorem ggL_law_X7_minutes : GoodIn wsL_law wsX7_minutes := goodIn_r _ [506, 25, 29, 124, 125, 2, 126, 507, 508, 509, 24, 510, 66, 425, 426, 427, 28, 428, 429, 72, 430, 431, 238, 239, 240, 432, 433, 158, 159, 160, 511, 512, 513, 514, 67, 515, 516, 517, 518, 519, 520, 521, 522, 523, 524, 525, 245, 526, 390, 391, 392, 393, 394, 395, 326, 327, 388, 322, 323, 324, 527, 528, 529, 530, 498, 531, 532, 533, 534, 535, 493, 363, 364, 365, 536, 537, 538, 539, 540, 541, 542, 543, 544, 545, 546, 318, 319, 320, 885, 886, 887, 888, 889, 890, 891, 892, 893, 894, 934, 935, 936, 937, 938, 913, 914, 915, 916, 917, 918, 919, 920, 921, 922, 923, 924, 925, 926] (by decide +kernel) (by decide +kernel)
set_option maxRecDepth 20000 in
theorem gL_law_X7_minutes : GoodIn wsL_law (wsV RL 64 RX7 yX7_minutes wsX7_minutes) := goodIn_app (goodIn_of _ (by decide +kernel)) ggL_law_X7_minutes
set_option maxRecDepth 20000 in
theorem ggL_law_X8_minutes : GoodIn wsL_law wsX8_minutes := goodIn_r _ [550, 551, 102, 101, 133, 134, 5, 135, 453, 454, 455, 456, 449, 450, 451, 452, 118, 103, 552, 553, 554, 555, 556, 557, 558, 559, 405, 406, 407, 408, 413, 414, 415, 416, 560, 561, 562, 563, 409, 410, 411, 412, 445, 446, 447, 448, 895, 896, 897, 898, 899, 900, 901, 902, 903, 904, 905, 906, 907, 908, 909, 910, 911, 912] (by decide +kernel) (by decide +kernel)
set_option maxRecDepth 20000 in
theorem gL_law_X8_minutes : GoodIn wsL_law (wsV RL 67 RX8 yX8_minutes wsX8_minutes) := goodIn_app (goodIn_of _ (by decide +kernel)) ggL_law_X8_minutes
set_option maxRecDepth 20000 in
theorem ggL_law_X7_undo : GoodIn wsL_law wsX7_undo := goodIn_r _ [567, 29, 150, 25, 568, 569, 570, 28, 571, 430, 432, 72, 429, 431, 238, 239, 240, 885, 886, 887, 888, 889, 890, 891, 892, 893, 894, 936, 937, 938, 934, 935] (by decide +kernel) (by decide +kernel)
set_option maxRecDepth 20000 in
theorem gL_law_X7_undo : GoodIn wsL_law (wsV RL 68 RX7 yX7_undo wsX7_undo) := goodIn_app (goodIn_of _ (by decide +kernel)) ggL_law_X7_undo
set_option maxRecDepth 20000 in
theorem ggL_law_X8_undo : GoodIn wsL_law wsX8_undo := goodIn_r _ [575, 118, 102, 103, 895, 896, 897, 898, 899, 900, 901, 902, 903, 904, 905, 906, 907, 908, 909, 910, 911, 912] (by decide +kernel) (by decide +kernel)
set_option maxRecDepth 20000 in
theorem gL_law_X8_undo : GoodIn wsL_law (wsV RL 71 RX8 yX8_undo wsX8_undo) := goodIn_app (goodIn_of _ (by decide +kernel)) ggL_law_X8_undo
