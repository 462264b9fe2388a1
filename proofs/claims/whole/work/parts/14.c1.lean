set_option maxRecDepth 20000 in
theorem ggL_law_X7_door : GoodIn wsL_law wsX7_door := goodIn_r _ [340, 17, 341, 342, 343, 25, 316, 124, 125, 2, 126, 325, 326, 327, 885, 886, 887, 888, 889, 890, 891, 892, 893, 894, 913, 914, 915, 916, 917, 918, 919, 920, 921, 922, 923, 924, 925, 926, 934, 935] (by decide +kernel) (by decide +kernel)
set_option maxRecDepth 20000 in
theorem gL_law_X7_door : GoodIn wsL_law (wsV RL 32 RX7 yX7_door wsX7_door) := goodIn_app (goodIn_of _ (by decide +kernel)) ggL_law_X7_door
set_option maxRecDepth 20000 in
theorem ggL_law_X8_door : GoodIn wsL_law wsX8_door := goodIn_r _ [347, 348, 102, 101, 349, 350, 351, 5, 352, 133, 134, 135, 895, 896, 897, 898, 899, 900, 901, 902, 903, 904, 905, 906, 907, 908, 909, 910, 911, 912] (by decide +kernel) (by decide +kernel)
set_option maxRecDepth 20000 in
theorem gL_law_X8_door : GoodIn wsL_law (wsV RL 35 RX8 yX8_door wsX8_door) := goodIn_app (goodIn_of _ (by decide +kernel)) ggL_law_X8_door
set_option maxRecDepth 20000 in
theorem ggL_law_X7_act : GoodIn wsL_law wsX7_act := goodIn_r _ [356, 17, 357, 358, 359, 360, 361, 25, 316, 124, 125, 2, 126, 362, 363, 364, 24, 365, 66, 885, 886, 887, 888, 889, 890, 891, 892, 893, 894, 913, 914, 915, 916, 917, 918, 919, 920, 921, 922, 923, 924, 925, 926, 934, 935] (by decide +kernel) (by decide +kernel)
set_option maxRecDepth 20000 in
theorem gL_law_X7_act : GoodIn wsL_law (wsV RL 36 RX7 yX7_act wsX7_act) := goodIn_app (goodIn_of _ (by decide +kernel)) ggL_law_X7_act
set_option maxRecDepth 20000 in
theorem ggL_law_X8_act : GoodIn wsL_law wsX8_act := goodIn_r _ [369, 370, 101, 102, 371, 372, 373, 5, 374, 133, 134, 135, 895, 896, 897, 898, 899, 900, 901, 902, 903, 904, 905, 906, 907, 908, 909, 910, 911, 912] (by decide +kernel) (by decide +kernel)
set_option maxRecDepth 20000 in
theorem gL_law_X8_act : GoodIn wsL_law (wsV RL 39 RX8 yX8_act wsX8_act) := goodIn_app (goodIn_of _ (by decide +kernel)) ggL_law_X8_act
set_option maxRecDepth 20000 in
theorem ggL_law_X7_room : GoodIn wsL_law wsX7_room := goodIn_r _ [378, 17, 379, 25, 316, 124, 125, 2, 126, 380, 381, 382, 24, 383, 66, 384, 385, 386, 387, 67, 245, 388, 322, 323, 324, 389, 390, 391, 392, 393, 394, 395, 326, 327, 325, 885, 886, 887, 888, 889, 890, 891, 892, 893, 894, 913, 914, 915, 916, 917, 918, 919, 920, 921, 922, 923, 924, 925, 926, 934, 935] (by decide +kernel) (by decide +kernel)
set_option maxRecDepth 20000 in
theorem gL_law_X7_room : GoodIn wsL_law (wsV RL 40 RX7 yX7_room wsX7_room) := goodIn_app (goodIn_of _ (by decide +kernel)) ggL_law_X7_room
set_option maxRecDepth 20000 in
theorem ggL_law_X8_room : GoodIn wsL_law wsX8_room := goodIn_r _ [399, 400, 101, 102, 401, 402, 403, 5, 404, 133, 134, 135, 405, 406, 407, 408, 409, 410, 411, 412, 413, 414, 415, 416, 895, 896, 897, 898, 899, 900, 901, 902, 903, 904, 905, 906, 907, 908, 909, 910, 911, 912] (by decide +kernel) (by decide +kernel)
set_option maxRecDepth 20000 in
theorem gL_law_X8_room : GoodIn wsL_law (wsV RL 43 RX8 yX8_room wsX8_room) := goodIn_app (goodIn_of _ (by decide +kernel)) ggL_law_X8_room
set_option maxRecDepth 20000 in
theorem ggL_law_X7_lights : GoodIn wsL_law wsX7_lights := goodIn_r _ [420, 17, 314, 25, 316, 124, 125, 2, 126, 325, 326, 327, 317, 318, 319, 24, 320, 66, 421, 422, 423, 424, 29, 425, 426, 427, 28, 428, 429, 72, 430, 431, 238, 239, 240, 432, 433, 158, 159, 160, 434, 435, 436, 437, 438, 439, 440, 885, 886, 887, 888, 889, 890, 891, 892, 893, 894, 913, 914, 915, 916, 917, 918, 919, 920, 921, 922, 923, 924, 925, 926, 934, 935, 936, 937, 938] (by decide +kernel) (by decide +kernel)
set_option maxRecDepth 20000 in
theorem gL_law_X7_lights : GoodIn wsL_law (wsV RL 44 RX7 yX7_lights wsX7_lights) := goodIn_app (goodIn_of _ (by decide +kernel)) ggL_law_X7_lights
set_option maxRecDepth 20000 in
theorem ggL_law_X8_lights : GoodIn wsL_law wsX8_lights := goodIn_r _ [444, 102, 101, 333, 334, 335, 5, 336, 133, 134, 135, 445, 446, 447, 448, 449, 450, 451, 452, 118, 103, 453, 454, 455, 456, 895, 896, 897, 898, 899, 900, 901, 902, 903, 904, 905, 906, 907, 908, 909, 910, 911, 912] (by decide +kernel) (by decide +kernel)
set_option maxRecDepth 20000 in
theorem gL_law_X8_lights : GoodIn wsL_law (wsV RL 47 RX8 yX8_lights wsX8_lights) := goodIn_app (goodIn_of _ (by decide +kernel)) ggL_law_X8_lights
set_option maxRecDepth 20000 in
theorem ggL_law_X7_carries : GoodIn wsL_law wsX7_carries := goodIn_r _ [460, 17, 314, 379, 25, 29, 316, 124, 125, 2, 126, 321, 322, 323, 24, 324, 66, 461, 462, 463, 464, 67, 393, 394, 395, 326, 327, 425, 426, 427, 28, 428, 429, 72, 430, 431, 238, 239, 240, 432, 433, 158, 159, 160, 885, 886, 887, 888, 889, 890, 891, 892, 893, 894, 913, 914, 915, 916, 917, 918, 919, 920, 921, 922, 923, 924, 925, 926, 934, 935, 936, 937, 938] (by decide +kernel) (by decide +kernel)
set_option maxRecDepth 20000 in
theorem gL_law_X7_carries : GoodIn wsL_law (wsV RL 48 RX7 yX7_carries wsX7_carries) := goodIn_app (goodIn_of _ (by decide +kernel)) ggL_law_X7_carries
set_option maxRecDepth 20000 in
theorem ggL_law_X8_carries : GoodIn wsL_law wsX8_carries := goodIn_r _ [468, 101, 102, 333, 334, 335, 5, 336, 133, 134, 135, 401, 402, 403, 404, 405, 406, 407, 408, 449, 450, 451, 452, 118, 103, 895, 896, 897, 898, 899, 900, 901, 902, 903, 904, 905, 906, 907, 908, 909, 910, 911, 912] (by decide +kernel) (by decide +kernel)
set_option maxRecDepth 20000 in
theorem gL_law_X8_carries : GoodIn wsL_law (wsV RL 51 RX8 yX8_carries wsX8_carries) := goodIn_app (goodIn_of _ (by decide +kernel)) ggL_law_X8_carries
