set_option maxRecDepth 20000 in
theorem ggL_law_X6_freeze : GoodIn wsL_law wsX6_freeze := goodIn_r _ [413, 25, 30, 414, 415, 416, 417, 24, 418, 219, 334, 335, 336, 29, 337, 69, 338, 339, 340, 176, 177, 178, 341, 342, 343, 344, 61, 62, 217, 218, 220, 873, 874, 875, 876, 877, 878, 879, 880, 881, 882, 883, 884, 885, 925, 926, 927, 928, 929, 930, 931, 932, 933, 934] (by decide +kernel) (by decide +kernel)
set_option maxRecDepth 20000 in
theorem gL_law_X6_freeze : GoodIn wsL_law (wsV RL 53 RX6 yX6_freeze wsX6_freeze) := goodIn_app (goodIn_of _ (by decide +kernel)) ggL_law_X6_freeze
set_option maxRecDepth 20000 in
theorem ggL_law_X7_freeze : GoodIn wsL_law wsX7_freeze := goodIn_r _ [422, 96, 358, 359, 360, 5, 361, 100, 362, 231, 886, 887, 888, 889, 890, 891, 892, 893, 894, 895, 896, 897, 898, 899, 900, 901, 902, 903, 904, 905, 906, 907, 908, 909, 910, 911, 912, 913, 914, 915] (by decide +kernel) (by decide +kernel)
set_option maxRecDepth 20000 in
theorem gL_law_X7_freeze : GoodIn wsL_law (wsV RL 56 RX7 yX7_freeze wsX7_freeze) := goodIn_app (goodIn_of _ (by decide +kernel)) ggL_law_X7_freeze
set_option maxRecDepth 20000 in
theorem ggL_law_X6_thaw : GoodIn wsL_law wsX6_thaw := goodIn_r _ [426, 25, 414, 30, 334, 335, 336, 29, 337, 69, 338, 339, 340, 176, 177, 178, 341, 342, 343, 24, 344, 61, 62, 217, 218, 219, 220, 873, 874, 875, 876, 877, 878, 879, 880, 881, 882, 883, 884, 885, 925, 926, 927, 928, 929, 930, 931, 932, 933, 934] (by decide +kernel) (by decide +kernel)
set_option maxRecDepth 20000 in
theorem gL_law_X6_thaw : GoodIn wsL_law (wsV RL 57 RX6 yX6_thaw wsX6_thaw) := goodIn_app (goodIn_of _ (by decide +kernel)) ggL_law_X6_thaw
set_option maxRecDepth 20000 in
theorem ggL_law_X7_thaw : GoodIn wsL_law wsX7_thaw := goodIn_r _ [430, 96, 358, 359, 360, 5, 361, 100, 362, 231, 886, 887, 888, 889, 890, 891, 892, 893, 894, 895, 896, 897, 898, 899, 900, 901, 902, 903, 904, 905, 906, 907, 908, 909, 910, 911, 912, 913, 914, 915] (by decide +kernel) (by decide +kernel)
set_option maxRecDepth 20000 in
theorem gL_law_X7_thaw : GoodIn wsL_law (wsV RL 60 RX7 yX7_thaw wsX7_thaw) := goodIn_app (goodIn_of _ (by decide +kernel)) ggL_law_X7_thaw
set_option maxRecDepth 20000 in
theorem ggL_law_X6_undo : GoodIn wsL_law wsX6_undo := goodIn_r _ [434, 30, 207, 25, 435, 436, 437, 29, 438, 338, 339, 69, 341, 342, 343, 24, 344, 61, 62, 217, 218, 219, 220, 873, 874, 875, 876, 877, 878, 879, 880, 881, 882, 883, 884, 885, 932, 933, 934, 925, 926, 927, 928, 929, 930, 931] (by decide +kernel) (by decide +kernel)
set_option maxRecDepth 20000 in
theorem gL_law_X6_undo : GoodIn wsL_law (wsV RL 61 RX6 yX6_undo wsX6_undo) := goodIn_app (goodIn_of _ (by decide +kernel)) ggL_law_X6_undo
set_option maxRecDepth 20000 in
theorem ggL_law_X7_undo : GoodIn wsL_law wsX7_undo := goodIn_r _ [442, 231, 362, 96, 100, 886, 887, 888, 889, 890, 891, 892, 893, 894, 895, 896, 897, 898, 899, 900, 901, 902, 903, 904, 905, 906, 907, 908, 909, 910, 911, 912, 913, 914, 915] (by decide +kernel) (by decide +kernel)
set_option maxRecDepth 20000 in
theorem gL_law_X7_undo : GoodIn wsL_law (wsV RL 64 RX7 yX7_undo wsX7_undo) := goodIn_app (goodIn_of _ (by decide +kernel)) ggL_law_X7_undo
set_option maxRecDepth 20000 in
theorem ggL_law_X6_reach : GoodIn wsL_law wsX6_reach := goodIn_r _ [446, 21, 25, 283, 284, 285, 19, 286, 148, 447, 448, 449, 2, 450, 37, 242, 451, 452, 453, 36, 454, 80, 455, 456, 78, 457, 79, 458, 459, 460, 461, 462, 463, 464, 465, 466, 253, 254, 255, 53, 52, 467, 299, 300, 468, 469, 470, 471, 472, 473, 474, 77, 475, 476, 477, 478, 75, 479, 480, 481, 482, 483, 484, 485, 486, 487, 488, 489, 490, 491, 492, 493, 494, 495, 873, 874, 875, 876, 877, 878, 879, 880, 881, 882, 883, 884, 885, 918, 919, 920, 921, 922, 923, 924, 925, 926, 927, 928, 929, 930, 931, 935, 936, 937, 938, 939, 940, 941, 942, 943, 944] (by decide +kernel) (by decide +kernel)
set_option maxRecDepth 20000 in
theorem gL_law_X6_reach : GoodIn wsL_law (wsV RL 65 RX6 yX6_reach wsX6_reach) := goodIn_app (goodIn_of _ (by decide +kernel)) ggL_law_X6_reach
set_option maxRecDepth 20000 in
theorem ggL_law_X7_reach : GoodIn wsL_law wsX7_reach := goodIn_r _ [499, 305, 306, 307, 5, 308, 230, 123, 124, 125, 500, 501, 502, 503, 96, 504, 505, 506, 507, 508, 102, 509, 510, 511, 512, 101, 513, 514, 515, 516, 517, 518, 519, 520, 521, 95, 93, 94, 313, 314, 315, 316, 260, 261, 262, 263, 229, 264, 265, 266, 267, 268, 92, 269, 270, 271, 272, 273, 274, 321, 322, 323, 390, 391, 392, 393, 886, 887, 888, 889, 890, 891, 892, 893, 894, 895, 896, 897, 898, 899, 900, 901, 902, 903, 904, 905, 906, 907, 908, 909, 910, 911, 912, 913, 914, 915] (by decide +kernel) (by decide +kernel)
set_option maxRecDepth 20000 in
theorem gL_law_X7_reach : GoodIn wsL_law (wsV RL 68 RX7 yX7_reach wsX7_reach) := goodIn_app (goodIn_of _ (by decide +kernel)) ggL_law_X7_reach
set_option maxRecDepth 20000 in
theorem ggL_law_X6_fewest : GoodIn wsL_law wsX6_fewest := goodIn_r _ [525, 21, 37, 25, 242, 283, 284, 285, 19, 286, 148, 526, 527, 528, 529, 147, 451, 452, 453, 36, 454, 80, 455, 456, 78, 457, 79, 458, 459, 460, 461, 462, 463, 464, 465, 466, 253, 254, 255, 53, 52, 467, 299, 300, 468, 469, 470, 530, 531, 532, 533, 75, 475, 476, 477, 478, 479, 480, 481, 482, 534, 535, 536, 537, 76, 538, 539, 540, 541, 542, 543, 544, 545, 487, 488, 489, 490, 491, 492, 493, 494, 495, 546, 547, 548, 549, 550, 379, 177, 380, 551, 376, 377, 378, 381, 176, 178, 873, 874, 875, 876, 877, 878, 879, 880, 881, 882, 883, 884, 885, 925, 926, 927, 928, 929, 930, 931, 918, 919, 920, 921, 922, 923, 924, 935, 936, 937, 938, 939, 940, 941, 942, 943, 944] (by decide +kernel) (by decide +kernel)
set_option maxRecDepth 20000 in
theorem gL_law_X6_fewest : GoodIn wsL_law (wsV RL 69 RX6 yX6_fewest wsX6_fewest) := goodIn_app (goodIn_of _ (by decide +kernel)) ggL_law_X6_fewest
set_option maxRecDepth 20000 in
theorem ggL_law_X7_fewest : GoodIn wsL_law wsX7_fewest := goodIn_r _ [555, 96, 508, 102, 101, 305, 306, 307, 5, 308, 230, 123, 124, 125, 556, 557, 558, 559, 229, 509, 510, 511, 512, 513, 514, 515, 516, 517, 518, 519, 520, 521, 95, 93, 94, 313, 314, 315, 316, 260, 261, 262, 263, 264, 265, 266, 267, 268, 92, 269, 270, 271, 272, 273, 274, 321, 322, 323, 390, 391, 392, 393, 886, 887, 888, 889, 890, 891, 892, 893, 894, 895, 896, 897, 898, 899, 900, 901, 902, 903, 904, 905, 906, 907, 908, 909, 910, 911, 912, 913, 914, 915] (by decide +kernel) (by decide +kernel)
set_option maxRecDepth 20000 in
theorem gL_law_X7_fewest : GoodIn wsL_law (wsV RL 72 RX7 yX7_fewest wsX7_fewest) := goodIn_app (goodIn_of _ (by decide +kernel)) ggL_law_X7_fewest
set_option maxRecDepth 20000 in
theorem ggL_law_X6_wants : GoodIn wsL_law wsX6_wants := goodIn_r _ [563, 21, 208, 25, 242, 283, 284, 285, 19, 286, 148, 526, 527, 528, 529, 147, 564, 565, 566, 2, 567, 37, 451, 452, 453, 36, 454, 80, 455, 456, 78, 457, 79, 458, 459, 460, 461, 462, 463, 464, 465, 466, 253, 254, 255, 53, 52, 467, 299, 300, 468, 469, 470, 471, 472, 473, 474, 77, 475, 476, 477, 478, 75, 479, 480, 481, 482, 483, 484, 485, 486, 487, 488, 489, 490, 491, 492, 493, 494, 495, 568, 569, 570, 571, 572, 573, 574, 873, 874, 875, 876, 877, 878, 879, 880, 881, 882, 883, 884, 885, 918, 919, 920, 921, 922, 923, 924, 925, 926, 927, 928, 929, 930, 931, 935, 936, 937, 938, 939, 940, 941, 942, 943, 944] (by decide +kernel) (by decide +kernel)
set_option maxRecDepth 20000 in
theorem gL_law_X6_wants : GoodIn wsL_law (wsV RL 73 RX6 yX6_wants wsX6_wants) := goodIn_app (goodIn_of _ (by decide +kernel)) ggL_law_X6_wants
set_option maxRecDepth 20000 in
theorem ggL_law_X7_wants : GoodIn wsL_law wsX7_wants := goodIn_r _ [578, 229, 96, 305, 306, 307, 5, 308, 230, 123, 124, 125, 556, 557, 558, 559, 579, 580, 581, 504, 505, 506, 507, 508, 102, 509, 510, 511, 512, 101, 513, 514, 515, 516, 517, 518, 519, 520, 521, 95, 93, 94, 313, 314, 315, 316, 260, 261, 262, 263, 264, 265, 266, 267, 268, 92, 269, 270, 271, 272, 273, 274, 321, 322, 323, 390, 391, 392, 393, 886, 887, 888, 889, 890, 891, 892, 893, 894, 895, 896, 897, 898, 899, 900, 901, 902, 903, 904, 905, 906, 907, 908, 909, 910, 911, 912, 913, 914, 915] (by decide +kernel) (by decide +kernel)
set_option maxRecDepth 20000 in
theorem gL_law_X7_wants : GoodIn wsL_law (wsV RL 76 RX7 yX7_wants wsX7_wants) := goodIn_app (goodIn_of _ (by decide +kernel)) ggL_law_X7_wants
set_option maxRecDepth 20000 in
theorem ggL_law_X6_shutIn : GoodIn wsL_law wsX6_shutIn := goodIn_r _ [585, 21, 209, 25, 279, 447, 448, 449, 2, 450, 37, 242, 451, 452, 453, 36, 454, 80, 455, 456, 78, 457, 79, 458, 459, 460, 461, 462, 463, 464, 465, 466, 253, 254, 19, 255, 53, 52, 467, 299, 300, 468, 469, 470, 471, 472, 473, 474, 77, 475, 476, 477, 478, 75, 479, 480, 481, 482, 483, 484, 485, 486, 487, 488, 489, 490, 491, 492, 493, 494, 495, 873, 874, 875, 876, 877, 878, 879, 880, 881, 882, 883, 884, 885, 918, 919, 920, 921, 922, 923, 924, 925, 926, 927, 928, 929, 930, 931, 935, 936, 937, 938, 939, 940, 941, 942, 943, 944] (by decide +kernel) (by decide +kernel)
set_option maxRecDepth 20000 in
theorem gL_law_X6_shutIn : GoodIn wsL_law (wsV RL 77 RX6 yX6_shutIn wsX6_shutIn) := goodIn_app (goodIn_of _ (by decide +kernel)) ggL_law_X6_shutIn
set_option maxRecDepth 20000 in
theorem ggL_law_X7_shutIn : GoodIn wsL_law wsX7_shutIn := goodIn_r _ [589, 230, 96, 500, 501, 502, 5, 503, 504, 505, 506, 507, 508, 102, 509, 510, 511, 512, 101, 513, 514, 515, 516, 517, 518, 519, 520, 521, 95, 93, 94, 313, 314, 315, 316, 260, 261, 262, 263, 229, 123, 124, 125, 264, 265, 266, 267, 268, 92, 269, 270, 271, 272, 273, 274, 321, 322, 323, 390, 391, 392, 393, 886, 887, 888, 889, 890, 891, 892, 893, 894, 895, 896, 897, 898, 899, 900, 901, 902, 903, 904, 905, 906, 907, 908, 909, 910, 911, 912, 913, 914, 915] (by decide +kernel) (by decide +kernel)
set_option maxRecDepth 20000 in
theorem gL_law_X7_shutIn : GoodIn wsL_law (wsV RL 80 RX7 yX7_shutIn wsX7_shutIn) := goodIn_app (goodIn_of _ (by decide +kernel)) ggL_law_X7_shutIn
set_option maxRecDepth 20000 in
theorem ggL_law_X6_meet : GoodIn wsL_law wsX6_meet := goodIn_r _ [593, 21, 25, 283, 284, 285, 19, 286, 148, 447, 448, 449, 2, 450, 37, 242, 451, 452, 453, 36, 454, 80, 455, 456, 78, 457, 79, 458, 459, 460, 461, 462, 463, 464, 465, 466, 253, 254, 255, 53, 52, 467, 299, 300, 468, 469, 470, 471, 472, 473, 474, 77, 475, 476, 477, 478, 75, 479, 480, 481, 482, 483, 484, 485, 486, 487, 488, 489, 490, 491, 492, 493, 494, 495, 873, 874, 875, 876, 877, 878, 879, 880, 881, 882, 883, 884, 885, 918, 919, 920, 921, 922, 923, 924, 925, 926, 927, 928, 929, 930, 931, 935, 936, 937, 938, 939, 940, 941, 942, 943, 944] (by decide +kernel) (by decide +kernel)
set_option maxRecDepth 20000 in
theorem gL_law_X6_meet : GoodIn wsL_law (wsV RL 81 RX6 yX6_meet wsX6_meet) := goodIn_app (goodIn_of _ (by decide +kernel)) ggL_law_X6_meet
set_option maxRecDepth 20000 in
theorem ggL_law_X7_meet : GoodIn wsL_law wsX7_meet := goodIn_r _ [597, 305, 306, 307, 5, 308, 230, 123, 124, 125, 500, 501, 502, 503, 96, 504, 505, 506, 507, 508, 102, 509, 510, 511, 512, 101, 513, 514, 515, 516, 517, 518, 519, 520, 521, 95, 93, 94, 313, 314, 315, 316, 260, 261, 262, 263, 229, 264, 265, 266, 267, 268, 92, 269, 270, 271, 272, 273, 274, 321, 322, 323, 390, 391, 392, 393, 886, 887, 888, 889, 890, 891, 892, 893, 894, 895, 896, 897, 898, 899, 900, 901, 902, 903, 904, 905, 906, 907, 908, 909, 910, 911, 912, 913, 914, 915] (by decide +kernel) (by decide +kernel)
set_option maxRecDepth 20000 in
theorem gL_law_X7_meet : GoodIn wsL_law (wsV RL 84 RX7 yX7_meet wsX7_meet) := goodIn_app (goodIn_of _ (by decide +kernel)) ggL_law_X7_meet
set_option maxRecDepth 20000 in
theorem ggL_law_X6_judge : GoodIn wsL_law wsX6_judge := goodIn_r _ [601, 602, 26, 25, 603, 604, 342, 343, 24, 344, 61, 62, 217, 218, 219, 220, 605, 606, 607, 608, 63, 609, 610, 611, 612, 613, 329, 330, 331, 332, 284, 285, 19, 286, 148, 333, 288, 289, 290, 291, 292, 293, 294, 295, 296, 245, 246, 247, 147, 297, 249, 250, 251, 252, 253, 254, 255, 53, 52, 298, 299, 300, 614, 346, 347, 348, 349, 216, 615, 616, 617, 618, 619, 372, 373, 374, 375, 376, 377, 378, 379, 177, 380, 381, 176, 178, 620, 621, 622, 623, 624, 399, 400, 401, 625, 403, 404, 405, 626, 627, 628, 629, 630, 416, 417, 418, 873, 874, 875, 876, 877, 878, 879, 880, 881, 882, 883, 884, 885, 925, 926, 927, 928, 929, 930, 931, 918, 919, 920, 921, 922, 923, 924] (by decide +kernel) (by decide +kernel)
set_option maxRecDepth 20000 in
theorem gL_law_X6_judge : GoodIn wsL_law (wsV RL 87 RX6 yX6_judge wsX6_judge) := goodIn_app (goodIn_of _ (by decide +kernel)) ggL_law_X6_judge
set_option maxRecDepth 20000 in
theorem ggL_law_X7_judge : GoodIn wsL_law wsX7_judge := goodIn_r _ [634, 635, 636, 123, 124, 5, 125, 637, 638, 639, 640, 641, 642, 643, 96, 644, 645, 646, 647, 354, 355, 356, 357, 305, 306, 307, 308, 230, 313, 314, 315, 316, 260, 261, 262, 263, 229, 317, 318, 319, 320, 95, 264, 265, 266, 267, 268, 93, 92, 269, 270, 271, 272, 273, 274, 321, 322, 323, 363, 364, 365, 366, 94, 386, 387, 388, 389, 390, 391, 392, 393, 886, 887, 888, 889, 890, 891, 892, 893, 894, 895, 896, 897, 898, 899, 900, 901, 902, 903, 904, 905, 906, 907, 908, 909, 910, 911, 912, 913, 914, 915] (by decide +kernel) (by decide +kernel)
set_option maxRecDepth 20000 in
theorem gL_law_X7_judge : GoodIn wsL_law (wsV RL 91 RX7 yX7_judge wsX7_judge) := goodIn_app (goodIn_of _ (by decide +kernel)) ggL_law_X7_judge
set_option maxRecDepth 20000 in
theorem ggL_law_X6_hear : GoodIn wsL_law wsX6_hear := goodIn_r _ [651, 41, 652, 653, 654, 40, 655, 656, 85, 86, 873, 874, 875, 876, 877, 878, 879, 880, 881, 882, 883, 884, 885, 945, 946, 947, 948] (by decide +kernel) (by decide +kernel)
set_option maxRecDepth 20000 in
theorem gL_law_X6_hear : GoodIn wsL_law (wsV RL 92 RX6 yX6_hear wsX6_hear) := goodIn_app (goodIn_of _ (by decide +kernel)) ggL_law_X6_hear
set_option maxRecDepth 20000 in
theorem ggL_law_X7_hear : GoodIn wsL_law wsX7_hear := goodIn_r _ [660, 661, 662, 103, 104, 123, 124, 5, 125, 886, 887, 888, 889, 890, 891, 892, 893, 894, 895, 896, 897, 898, 899, 900, 901, 902, 903, 904, 905, 906, 907, 908, 909, 910, 911, 912, 913, 914, 915] (by decide +kernel) (by decide +kernel)
set_option maxRecDepth 20000 in
theorem gL_law_X7_hear : GoodIn wsL_law (wsV RL 95 RX7 yX7_hear wsX7_hear) := goodIn_app (goodIn_of _ (by decide +kernel)) ggL_law_X7_hear
