set_option maxRecDepth 20000 in
theorem ggL_law_X6_unhear : GoodIn wsL_law wsX6_unhear := goodIn_r _ [666, 41, 667, 873, 874, 875, 876, 877, 878, 879, 880, 881, 882, 883, 884, 885, 945, 946, 947, 948] (by decide +kernel) (by decide +kernel)
set_option maxRecDepth 20000 in
theorem gL_law_X6_unhear : GoodIn wsL_law (wsV RL 96 RX6 yX6_unhear wsX6_unhear) := goodIn_app (goodIn_of _ (by decide +kernel)) ggL_law_X6_unhear
set_option maxRecDepth 20000 in
theorem ggL_law_X7_unhear : GoodIn wsL_law wsX7_unhear := goodIn_r _ [671, 662, 886, 887, 888, 889, 890, 891, 892, 893, 894, 895, 896, 897, 898, 899, 900, 901, 902, 903, 904, 905, 906, 907, 908, 909, 910, 911, 912, 913, 914, 915] (by decide +kernel) (by decide +kernel)
set_option maxRecDepth 20000 in
theorem gL_law_X7_unhear : GoodIn wsL_law (wsV RL 99 RX7 yX7_unhear wsX7_unhear) := goodIn_app (goodIn_of _ (by decide +kernel)) ggL_law_X7_unhear
set_option maxRecDepth 20000 in
theorem ggL_law_X6_who : GoodIn wsL_law wsX6_who := goodIn_r _ [675, 41, 676, 677, 678, 40, 679, 680, 681, 682, 683, 656, 85, 86, 684, 685, 686, 687, 87, 688, 689, 690, 222, 223, 19, 224, 147, 53, 691, 253, 254, 255, 52, 692, 299, 300, 693, 694, 695, 696, 873, 874, 875, 876, 877, 878, 879, 880, 881, 882, 883, 884, 885, 945, 946, 947, 948, 918, 919, 920, 921, 922, 923, 924] (by decide +kernel) (by decide +kernel)
set_option maxRecDepth 20000 in
theorem gL_law_X6_who : GoodIn wsL_law (wsV RL 100 RX6 yX6_who wsX6_who) := goodIn_app (goodIn_of _ (by decide +kernel)) ggL_law_X6_who
set_option maxRecDepth 20000 in
theorem ggL_law_X7_who : GoodIn wsL_law wsX7_who := goodIn_r _ [700, 662, 103, 104, 123, 124, 5, 125, 701, 702, 703, 704, 229, 93, 232, 233, 234, 235, 264, 265, 266, 267, 268, 92, 269, 270, 271, 272, 273, 274, 321, 322, 323, 886, 887, 888, 889, 890, 891, 892, 893, 894, 895, 896, 897, 898, 899, 900, 901, 902, 903, 904, 905, 906, 907, 908, 909, 910, 911, 912, 913, 914, 915] (by decide +kernel) (by decide +kernel)
set_option maxRecDepth 20000 in
theorem gL_law_X7_who : GoodIn wsL_law (wsV RL 103 RX7 yX7_who wsX7_who) := goodIn_app (goodIn_of _ (by decide +kernel)) ggL_law_X7_who
set_option maxRecDepth 20000 in
theorem ggL_law_X6_share : GoodIn wsL_law wsX6_share := goodIn_r _ [708, 21, 25, 208, 283, 284, 285, 19, 286, 148, 447, 448, 449, 2, 450, 37, 242, 451, 452, 453, 36, 454, 80, 455, 456, 78, 457, 79, 458, 459, 460, 461, 462, 463, 464, 465, 466, 253, 254, 255, 53, 52, 467, 299, 300, 468, 469, 470, 471, 472, 473, 474, 77, 475, 476, 477, 478, 75, 479, 480, 481, 482, 483, 484, 485, 486, 487, 488, 489, 490, 491, 492, 493, 494, 495, 709, 710, 711, 712, 209, 713, 714, 715, 716, 717, 718, 719, 720, 721, 873, 874, 875, 876, 877, 878, 879, 880, 881, 882, 883, 884, 885, 918, 919, 920, 921, 922, 923, 924, 925, 926, 927, 928, 929, 930, 931, 935, 936, 937, 938, 939, 940, 941, 942, 943, 944] (by decide +kernel) (by decide +kernel)
set_option maxRecDepth 20000 in
theorem gL_law_X6_share : GoodIn wsL_law (wsV RL 104 RX6 yX6_share wsX6_share) := goodIn_app (goodIn_of _ (by decide +kernel)) ggL_law_X6_share
set_option maxRecDepth 20000 in
theorem ggL_law_X7_share : GoodIn wsL_law wsX7_share := goodIn_r _ [725, 230, 105, 305, 306, 307, 5, 308, 123, 124, 125, 500, 501, 502, 503, 96, 504, 505, 506, 507, 508, 102, 509, 510, 511, 512, 101, 513, 514, 515, 516, 517, 518, 519, 520, 521, 95, 93, 94, 313, 314, 315, 316, 260, 261, 262, 263, 229, 264, 265, 266, 267, 268, 92, 269, 270, 271, 272, 273, 274, 321, 322, 323, 390, 391, 392, 393, 579, 580, 581, 726, 727, 728, 729, 730, 731, 732, 733, 734, 735, 886, 887, 888, 889, 890, 891, 892, 893, 894, 895, 896, 897, 898, 899, 900, 901, 902, 903, 904, 905, 906, 907, 908, 909, 910, 911, 912, 913, 914, 915] (by decide +kernel) (by decide +kernel)
set_option maxRecDepth 20000 in
theorem gL_law_X7_share : GoodIn wsL_law (wsV RL 107 RX7 yX7_share wsX7_share) := goodIn_app (goodIn_of _ (by decide +kernel)) ggL_law_X7_share
set_option maxRecDepth 20000 in
theorem ggL_law_X6_rests : GoodIn wsL_law wsX6_rests := goodIn_r _ [739, 21, 283, 284, 285, 19, 286, 148, 740, 741, 742, 2, 743, 26, 25, 43, 44, 604, 342, 343, 24, 344, 61, 62, 217, 218, 219, 220, 744, 610, 611, 612, 613, 329, 330, 331, 63, 332, 333, 288, 289, 290, 291, 292, 293, 294, 295, 296, 245, 246, 247, 147, 297, 249, 250, 251, 252, 253, 254, 255, 53, 52, 298, 299, 300, 614, 346, 347, 348, 349, 216, 745, 746, 747, 748, 279, 447, 448, 449, 450, 37, 242, 451, 452, 453, 36, 454, 80, 455, 456, 78, 457, 79, 458, 459, 460, 461, 462, 463, 464, 465, 466, 467, 468, 469, 470, 471, 472, 473, 474, 77, 475, 476, 477, 478, 75, 479, 480, 481, 482, 483, 484, 485, 486, 487, 488, 489, 490, 491, 492, 493, 494, 495, 749, 750, 751, 752, 753, 754, 755, 756, 757, 758, 759, 760, 873, 874, 875, 876, 877, 878, 879, 880, 881, 882, 883, 884, 885, 918, 919, 920, 921, 922, 923, 924, 925, 926, 927, 928, 929, 930, 931, 935, 936, 937, 938, 939, 940, 941, 942, 943, 944] (by decide +kernel) (by decide +kernel)
set_option maxRecDepth 20000 in
theorem gL_law_X6_rests : GoodIn wsL_law (wsV RL 108 RX6 yX6_rests wsX6_rests) := goodIn_app (goodIn_of _ (by decide +kernel)) ggL_law_X6_rests
set_option maxRecDepth 20000 in
theorem ggL_law_X7_rests : GoodIn wsL_law wsX7_rests := goodIn_r _ [764, 305, 306, 307, 5, 308, 230, 123, 124, 125, 765, 766, 767, 768, 769, 770, 771, 772, 96, 640, 641, 642, 643, 773, 774, 775, 776, 354, 355, 356, 357, 313, 314, 315, 316, 260, 261, 262, 263, 229, 317, 318, 319, 320, 95, 264, 265, 266, 267, 268, 93, 92, 269, 270, 271, 272, 273, 274, 321, 322, 323, 363, 364, 365, 366, 94, 504, 505, 506, 507, 508, 102, 509, 510, 511, 512, 101, 513, 514, 515, 516, 517, 518, 519, 520, 521, 390, 391, 392, 393, 886, 887, 888, 889, 890, 891, 892, 893, 894, 895, 896, 897, 898, 899, 900, 901, 902, 903, 904, 905, 906, 907, 908, 909, 910, 911, 912, 913, 914, 915] (by decide +kernel) (by decide +kernel)
set_option maxRecDepth 20000 in
theorem gL_law_X7_rests : GoodIn wsL_law (wsV RL 112 RX7 yX7_rests wsX7_rests) := goodIn_app (goodIn_of _ (by decide +kernel)) ggL_law_X7_rests
set_option maxRecDepth 20000 in
theorem ggL_law_X6_icy : GoodIn wsL_law wsX6_icy := goodIn_r _ [780, 21, 25, 242, 283, 284, 285, 19, 286, 148, 526, 527, 528, 529, 147, 781, 782, 783, 784, 53, 568, 569, 570, 571, 572, 573, 574, 785, 786, 2, 787, 564, 565, 566, 567, 37, 451, 452, 453, 36, 454, 80, 455, 456, 78, 457, 79, 458, 459, 460, 461, 462, 463, 464, 465, 466, 253, 254, 255, 52, 467, 299, 300, 468, 469, 470, 471, 472, 473, 474, 77, 475, 476, 477, 478, 75, 479, 480, 481, 482, 483, 484, 485, 486, 487, 488, 489, 490, 491, 492, 493, 494, 495, 716, 717, 718, 719, 720, 721, 873, 874, 875, 876, 877, 878, 879, 880, 881, 882, 883, 884, 885, 925, 926, 927, 928, 929, 930, 931, 918, 919, 920, 921, 922, 923, 924, 935, 936, 937, 938, 939, 940, 941, 942, 943, 944] (by decide +kernel) (by decide +kernel)
set_option maxRecDepth 20000 in
theorem gL_law_X6_icy : GoodIn wsL_law (wsV RL 113 RX6 yX6_icy wsX6_icy) := goodIn_app (goodIn_of _ (by decide +kernel)) ggL_law_X6_icy
set_option maxRecDepth 20000 in
theorem ggL_law_X7_icy : GoodIn wsL_law wsX7_icy := goodIn_r _ [791, 661, 268, 305, 306, 307, 5, 308, 230, 123, 124, 125, 556, 557, 558, 559, 229, 792, 793, 794, 795, 93, 579, 580, 581, 796, 797, 798, 500, 501, 502, 503, 96, 504, 505, 506, 507, 508, 102, 509, 510, 511, 512, 101, 513, 514, 515, 516, 517, 518, 519, 520, 521, 95, 94, 313, 314, 315, 316, 260, 261, 262, 263, 264, 265, 266, 267, 92, 269, 270, 271, 272, 273, 274, 321, 322, 323, 390, 391, 392, 393, 733, 734, 735, 886, 887, 888, 889, 890, 891, 892, 893, 894, 895, 896, 897, 898, 899, 900, 901, 902, 903, 904, 905, 906, 907, 908, 909, 910, 911, 912, 913, 914, 915] (by decide +kernel) (by decide +kernel)
set_option maxRecDepth 20000 in
theorem gL_law_X7_icy : GoodIn wsL_law (wsV RL 117 RX7 yX7_icy wsX7_icy) := goodIn_app (goodIn_of _ (by decide +kernel)) ggL_law_X7_icy
set_option maxRecDepth 20000 in
theorem ggL_law_X6_seed : GoodIn wsL_law wsX6_seed := goodIn_r _ [802, 803, 873, 874, 875, 876, 877, 878, 879, 880, 881, 882, 883, 884, 885] (by decide +kernel) (by decide +kernel)
set_option maxRecDepth 20000 in
theorem gL_law_X6_seed : GoodIn wsL_law (wsV RL 118 RX6 yX6_seed wsX6_seed) := goodIn_app (goodIn_of _ (by decide +kernel)) ggL_law_X6_seed
set_option maxRecDepth 20000 in
theorem ggL_law_X7_seed : GoodIn wsL_law wsX7_seed := goodIn_r _ [807, 808, 886, 887, 888, 889, 890, 891, 892, 893, 894, 895, 896, 897, 898, 899, 900, 901, 902, 903, 904, 905, 906, 907, 908, 909, 910, 911, 912, 913, 914, 915] (by decide +kernel) (by decide +kernel)
set_option maxRecDepth 20000 in
theorem gL_law_X7_seed : GoodIn wsL_law (wsV RL 122 RX7 yX7_seed wsX7_seed) := goodIn_app (goodIn_of _ (by decide +kernel)) ggL_law_X7_seed
set_option maxRecDepth 20000 in
theorem ggL_law_X6_summers : GoodIn wsL_law wsX6_summers := goodIn_r _ [812, 26, 25, 803, 813, 814, 815, 604, 342, 343, 24, 344, 61, 62, 217, 218, 219, 220, 816, 817, 818, 819, 609, 610, 611, 612, 613, 329, 330, 331, 63, 332, 284, 285, 19, 286, 148, 333, 288, 289, 290, 291, 292, 293, 294, 295, 296, 245, 246, 247, 147, 297, 249, 250, 251, 252, 253, 254, 255, 53, 52, 298, 299, 300, 614, 346, 347, 348, 349, 216, 615, 616, 617, 618, 619, 372, 373, 374, 375, 376, 377, 378, 379, 177, 380, 381, 176, 178, 620, 621, 622, 623, 624, 399, 400, 401, 625, 403, 404, 405, 626, 627, 628, 629, 630, 416, 417, 418, 820, 821, 822, 823, 214, 873, 874, 875, 876, 877, 878, 879, 880, 881, 882, 883, 884, 885, 925, 926, 927, 928, 929, 930, 931, 918, 919, 920, 921, 922, 923, 924] (by decide +kernel) (by decide +kernel)
set_option maxRecDepth 20000 in
theorem gL_law_X6_summers : GoodIn wsL_law (wsV RL 123 RX6 yX6_summers wsX6_summers) := goodIn_app (goodIn_of _ (by decide +kernel)) ggL_law_X6_summers
set_option maxRecDepth 20000 in
theorem ggL_law_X7_summers : GoodIn wsL_law wsX7_summers := goodIn_r _ [827, 828, 808, 829, 830, 831, 230, 96, 123, 124, 5, 125, 640, 641, 642, 643, 644, 645, 646, 647, 354, 355, 356, 357, 305, 306, 307, 308, 313, 314, 315, 316, 260, 261, 262, 263, 229, 317, 318, 319, 320, 95, 264, 265, 266, 267, 268, 93, 92, 269, 270, 271, 272, 273, 274, 321, 322, 323, 363, 364, 365, 366, 94, 386, 387, 388, 389, 390, 391, 392, 393, 886, 887, 888, 889, 890, 891, 892, 893, 894, 895, 896, 897, 898, 899, 900, 901, 902, 903, 904, 905, 906, 907, 908, 909, 910, 911, 912, 913, 914, 915] (by decide +kernel) (by decide +kernel)
set_option maxRecDepth 20000 in
theorem gL_law_X7_summers : GoodIn wsL_law (wsV RL 126 RX7 yX7_summers wsX7_summers) := goodIn_app (goodIn_of _ (by decide +kernel)) ggL_law_X7_summers
set_option maxRecDepth 20000 in
theorem ggL_law_X6_keep : GoodIn wsL_law wsX6_keep := goodIn_r _ [835, 31, 25, 33, 836, 604, 342, 343, 24, 344, 61, 62, 217, 218, 219, 220, 873, 874, 875, 876, 877, 878, 879, 880, 881, 882, 883, 884, 885, 925, 926, 927, 928, 929, 930, 931] (by decide +kernel) (by decide +kernel)
set_option maxRecDepth 20000 in
theorem gL_law_X6_keep : GoodIn wsL_law (wsV RL 127 RX6 yX6_keep wsX6_keep) := goodIn_app (goodIn_of _ (by decide +kernel)) ggL_law_X6_keep
set_option maxRecDepth 20000 in
theorem ggL_law_X7_keep : GoodIn wsL_law wsX7_keep := goodIn_r _ [840, 106, 107, 96, 123, 124, 5, 125, 886, 887, 888, 889, 890, 891, 892, 893, 894, 895, 896, 897, 898, 899, 900, 901, 902, 903, 904, 905, 906, 907, 908, 909, 910, 911, 912, 913, 914, 915] (by decide +kernel) (by decide +kernel)
set_option maxRecDepth 20000 in
theorem gL_law_X7_keep : GoodIn wsL_law (wsV RL 130 RX7 yX7_keep wsX7_keep) := goodIn_app (goodIn_of _ (by decide +kernel)) ggL_law_X7_keep
set_option maxRecDepth 20000 in
theorem ggL_law_X6_again : GoodIn wsL_law wsX6_again := goodIn_r _ [844, 33, 25, 31, 30, 207, 836, 604, 342, 343, 24, 344, 61, 62, 217, 218, 219, 220, 873, 874, 875, 876, 877, 878, 879, 880, 881, 882, 883, 884, 885, 932, 933, 934, 925, 926, 927, 928, 929, 930, 931] (by decide +kernel) (by decide +kernel)
set_option maxRecDepth 20000 in
theorem gL_law_X6_again : GoodIn wsL_law (wsV RL 131 RX6 yX6_again wsX6_again) := goodIn_app (goodIn_of _ (by decide +kernel)) ggL_law_X6_again
set_option maxRecDepth 20000 in
theorem ggL_law_X7_again : GoodIn wsL_law wsX7_again := goodIn_r _ [848, 106, 96, 107, 231, 123, 124, 5, 125, 886, 887, 888, 889, 890, 891, 892, 893, 894, 895, 896, 897, 898, 899, 900, 901, 902, 903, 904, 905, 906, 907, 908, 909, 910, 911, 912, 913, 914, 915] (by decide +kernel) (by decide +kernel)
set_option maxRecDepth 20000 in
theorem gL_law_X7_again : GoodIn wsL_law (wsV RL 134 RX7 yX7_again wsX7_again) := goodIn_app (goodIn_of _ (by decide +kernel)) ggL_law_X7_again
set_option maxRecDepth 20000 in
theorem ggL_law_X6_count : GoodIn wsL_law wsX6_count := goodIn_r _ [852, 16, 130, 21, 208, 209, 25, 836, 414, 242, 243, 30, 207, 41, 667, 853, 854, 855, 24, 856, 63, 214, 61, 857, 858, 859, 860, 62, 873, 874, 875, 876, 877, 878, 879, 880, 881, 882, 883, 884, 885, 916, 917, 918, 919, 920, 921, 922, 923, 924, 925, 926, 927, 928, 929, 930, 931, 932, 933, 934, 945, 946, 947, 948] (by decide +kernel) (by decide +kernel)
set_option maxRecDepth 20000 in
theorem gL_law_X6_count : GoodIn wsL_law (wsV RL 135 RX6 yX6_count wsX6_count) := goodIn_app (goodIn_of _ (by decide +kernel)) ggL_law_X6_count
set_option maxRecDepth 20000 in
theorem ggL_law_X7_count : GoodIn wsL_law wsX7_count := goodIn_r _ [864, 122, 229, 230, 96, 231, 662, 865, 866, 867, 5, 868, 869, 870, 871, 872, 886, 887, 888, 889, 890, 891, 892, 893, 894, 895, 896, 897, 898, 899, 900, 901, 902, 903, 904, 905, 906, 907, 908, 909, 910, 911, 912, 913, 914, 915] (by decide +kernel) (by decide +kernel)
set_option maxRecDepth 20000 in
theorem gL_law_X7_count : GoodIn wsL_law (wsV RL 138 RX7 yX7_count wsX7_count) := goodIn_app (goodIn_of _ (by decide +kernel)) ggL_law_X7_count
theorem dL_law_0 : decode cL_law 0 = .ok (.new 7, 3) := by decide +kernel
theorem dL_law_3 : decode cL_law 3 = .ok (.dup, 1) := by decide +kernel
theorem dL_law_4 : decode cL_law 4 = .ok (.invokespecial 9, 3) := by decide +kernel
theorem dL_law_7 : decode cL_law 7 = .ok (.astore_n 1, 1) := by decide +kernel
theorem dL_law_8 : decode cL_law 8 = .ok (.new 10, 3) := by decide +kernel
theorem dL_law_11 : decode cL_law 11 = .ok (.dup, 1) := by decide +kernel
theorem dL_law_12 : decode cL_law 12 = .ok (.invokespecial 12, 3) := by decide +kernel
theorem dL_law_15 : decode cL_law 15 = .ok (.astore_n 2, 1) := by decide +kernel
theorem dL_law_16 : decode cL_law 16 = .ok (.iconst 0, 1) := by decide +kernel
theorem dL_law_17 : decode cL_law 17 = .ok (.istore_n 3, 1) := by decide +kernel
theorem dL_law_18 : decode cL_law 18 = .ok (.iload_n 3, 1) := by decide +kernel
theorem dL_law_19 : decode cL_law 19 = .ok (.aload_n 0, 1) := by decide +kernel
theorem dL_law_20 : decode cL_law 20 = .ok (.arraylength, 1) := by decide +kernel
theorem dL_law_21 : decode cL_law 21 = .ok (.iconst 5, 1) := by decide +kernel
theorem dL_law_22 : decode cL_law 22 = .ok (.isub, 1) := by decide +kernel
theorem dL_law_23 : decode cL_law 23 = .ok (.if_icmp .gt 983, 3) := by decide +kernel
theorem dL_law_26 : decode cL_law 26 = .ok (.aload_n 0, 1) := by decide +kernel
theorem dL_law_27 : decode cL_law 27 = .ok (.iload_n 3, 1) := by decide +kernel
theorem dL_law_28 : decode cL_law 28 = .ok (.iaload, 1) := by decide +kernel
theorem dL_law_29 : decode cL_law 29 = .ok (.bipush 31, 2) := by decide +kernel
theorem dL_law_31 : decode cL_law 31 = .ok (.iand, 1) := by decide +kernel
theorem dL_law_32 : decode cL_law 32 = .ok (.tableswitch 968 0 28 #[132, 155, 168, 181, 194, 227, 260, 309, 332, 355, 368, 381, 394, 417, 450, 483, 496, 529, 592, 625, 638, 661, 710, 753, 822, 876, 899, 922, 945], 132) := by decide +kernel
theorem dL_law_164 : decode cL_law 164 = .ok (.aload_n 1, 1) := by decide +kernel
theorem dL_law_165 : decode cL_law 165 = .ok (.aload_n 0, 1) := by decide +kernel
theorem dL_law_166 : decode cL_law 166 = .ok (.iload_n 3, 1) := by decide +kernel
theorem dL_law_167 : decode cL_law 167 = .ok (.iconst 1, 1) := by decide +kernel
theorem dL_law_168 : decode cL_law 168 = .ok (.iadd, 1) := by decide +kernel
theorem dL_law_169 : decode cL_law 169 = .ok (.iaload, 1) := by decide +kernel
theorem dL_law_170 : decode cL_law 170 = .ok (.invokevirtual 13, 3) := by decide +kernel
theorem dL_law_173 : decode cL_law 173 = .ok (.aload_n 2, 1) := by decide +kernel
theorem dL_law_174 : decode cL_law 174 = .ok (.aload_n 0, 1) := by decide +kernel
theorem dL_law_175 : decode cL_law 175 = .ok (.iload_n 3, 1) := by decide +kernel
theorem dL_law_176 : decode cL_law 176 = .ok (.iconst 1, 1) := by decide +kernel
theorem dL_law_177 : decode cL_law 177 = .ok (.iadd, 1) := by decide +kernel
theorem dL_law_178 : decode cL_law 178 = .ok (.iaload, 1) := by decide +kernel
theorem dL_law_179 : decode cL_law 179 = .ok (.invokevirtual 17, 3) := by decide +kernel
theorem dL_law_182 : decode cL_law 182 = .ok (.if_icmp .eq 818, 3) := by decide +kernel
theorem dL_law_185 : decode cL_law 185 = .ok (.iconst 0, 1) := by decide +kernel
theorem dL_law_186 : decode cL_law 186 = .ok (.ireturn, 1) := by decide +kernel
theorem dL_law_187 : decode cL_law 187 = .ok (.aload_n 1, 1) := by decide +kernel
theorem dL_law_188 : decode cL_law 188 = .ok (.invokevirtual 18, 3) := by decide +kernel
theorem dL_law_191 : decode cL_law 191 = .ok (.aload_n 2, 1) := by decide +kernel
theorem dL_law_192 : decode cL_law 192 = .ok (.invokevirtual 22, 3) := by decide +kernel
theorem dL_law_195 : decode cL_law 195 = .ok (.if_icmp .eq 805, 3) := by decide +kernel
theorem dL_law_198 : decode cL_law 198 = .ok (.iconst 0, 1) := by decide +kernel
theorem dL_law_199 : decode cL_law 199 = .ok (.ireturn, 1) := by decide +kernel
theorem dL_law_200 : decode cL_law 200 = .ok (.aload_n 1, 1) := by decide +kernel
theorem dL_law_201 : decode cL_law 201 = .ok (.invokevirtual 23, 3) := by decide +kernel
theorem dL_law_204 : decode cL_law 204 = .ok (.aload_n 2, 1) := by decide +kernel
theorem dL_law_205 : decode cL_law 205 = .ok (.invokevirtual 26, 3) := by decide +kernel
theorem dL_law_208 : decode cL_law 208 = .ok (.if_icmp .eq 792, 3) := by decide +kernel
theorem dL_law_211 : decode cL_law 211 = .ok (.iconst 0, 1) := by decide +kernel
theorem dL_law_212 : decode cL_law 212 = .ok (.ireturn, 1) := by decide +kernel
theorem dL_law_213 : decode cL_law 213 = .ok (.aload_n 1, 1) := by decide +kernel
theorem dL_law_214 : decode cL_law 214 = .ok (.invokevirtual 27, 3) := by decide +kernel
theorem dL_law_217 : decode cL_law 217 = .ok (.aload_n 2, 1) := by decide +kernel
theorem dL_law_218 : decode cL_law 218 = .ok (.invokevirtual 30, 3) := by decide +kernel
theorem dL_law_221 : decode cL_law 221 = .ok (.if_icmp .eq 779, 3) := by decide +kernel
theorem dL_law_224 : decode cL_law 224 = .ok (.iconst 0, 1) := by decide +kernel
theorem dL_law_225 : decode cL_law 225 = .ok (.ireturn, 1) := by decide +kernel
theorem dL_law_226 : decode cL_law 226 = .ok (.aload_n 1, 1) := by decide +kernel
theorem dL_law_227 : decode cL_law 227 = .ok (.aload_n 0, 1) := by decide +kernel
theorem dL_law_228 : decode cL_law 228 = .ok (.iload_n 3, 1) := by decide +kernel
theorem dL_law_229 : decode cL_law 229 = .ok (.iconst 1, 1) := by decide +kernel
theorem dL_law_230 : decode cL_law 230 = .ok (.iadd, 1) := by decide +kernel
theorem dL_law_231 : decode cL_law 231 = .ok (.iaload, 1) := by decide +kernel
theorem dL_law_232 : decode cL_law 232 = .ok (.aload_n 0, 1) := by decide +kernel
theorem dL_law_233 : decode cL_law 233 = .ok (.iload_n 3, 1) := by decide +kernel
theorem dL_law_234 : decode cL_law 234 = .ok (.iconst 2, 1) := by decide +kernel
theorem dL_law_235 : decode cL_law 235 = .ok (.iadd, 1) := by decide +kernel
theorem dL_law_236 : decode cL_law 236 = .ok (.iaload, 1) := by decide +kernel
theorem dL_law_237 : decode cL_law 237 = .ok (.invokevirtual 31, 3) := by decide +kernel
theorem dL_law_240 : decode cL_law 240 = .ok (.aload_n 2, 1) := by decide +kernel
theorem dL_law_241 : decode cL_law 241 = .ok (.aload_n 0, 1) := by decide +kernel
theorem dL_law_242 : decode cL_law 242 = .ok (.iload_n 3, 1) := by decide +kernel
theorem dL_law_243 : decode cL_law 243 = .ok (.iconst 1, 1) := by decide +kernel
theorem dL_law_244 : decode cL_law 244 = .ok (.iadd, 1) := by decide +kernel
theorem dL_law_245 : decode cL_law 245 = .ok (.iaload, 1) := by decide +kernel
theorem dL_law_246 : decode cL_law 246 = .ok (.aload_n 0, 1) := by decide +kernel
theorem dL_law_247 : decode cL_law 247 = .ok (.iload_n 3, 1) := by decide +kernel
theorem dL_law_248 : decode cL_law 248 = .ok (.iconst 2, 1) := by decide +kernel
theorem dL_law_249 : decode cL_law 249 = .ok (.iadd, 1) := by decide +kernel
theorem dL_law_250 : decode cL_law 250 = .ok (.iaload, 1) := by decide +kernel
theorem dL_law_251 : decode cL_law 251 = .ok (.invokevirtual 35, 3) := by decide +kernel
theorem dL_law_254 : decode cL_law 254 = .ok (.if_icmp .eq 746, 3) := by decide +kernel
theorem dL_law_257 : decode cL_law 257 = .ok (.iconst 0, 1) := by decide +kernel
theorem dL_law_258 : decode cL_law 258 = .ok (.ireturn, 1) := by decide +kernel
theorem dL_law_259 : decode cL_law 259 = .ok (.aload_n 1, 1) := by decide +kernel
theorem dL_law_260 : decode cL_law 260 = .ok (.aload_n 0, 1) := by decide +kernel
theorem dL_law_261 : decode cL_law 261 = .ok (.iload_n 3, 1) := by decide +kernel
theorem dL_law_262 : decode cL_law 262 = .ok (.iconst 1, 1) := by decide +kernel
theorem dL_law_263 : decode cL_law 263 = .ok (.iadd, 1) := by decide +kernel
theorem dL_law_264 : decode cL_law 264 = .ok (.iaload, 1) := by decide +kernel
theorem dL_law_265 : decode cL_law 265 = .ok (.aload_n 0, 1) := by decide +kernel
theorem dL_law_266 : decode cL_law 266 = .ok (.iload_n 3, 1) := by decide +kernel
theorem dL_law_267 : decode cL_law 267 = .ok (.iconst 2, 1) := by decide +kernel
theorem dL_law_268 : decode cL_law 268 = .ok (.iadd, 1) := by decide +kernel
theorem dL_law_269 : decode cL_law 269 = .ok (.iaload, 1) := by decide +kernel
theorem dL_law_270 : decode cL_law 270 = .ok (.invokevirtual 36, 3) := by decide +kernel
theorem dL_law_273 : decode cL_law 273 = .ok (.aload_n 2, 1) := by decide +kernel
theorem dL_law_274 : decode cL_law 274 = .ok (.aload_n 0, 1) := by decide +kernel
theorem dL_law_275 : decode cL_law 275 = .ok (.iload_n 3, 1) := by decide +kernel
theorem dL_law_276 : decode cL_law 276 = .ok (.iconst 1, 1) := by decide +kernel
theorem dL_law_277 : decode cL_law 277 = .ok (.iadd, 1) := by decide +kernel
theorem dL_law_278 : decode cL_law 278 = .ok (.iaload, 1) := by decide +kernel
theorem dL_law_279 : decode cL_law 279 = .ok (.aload_n 0, 1) := by decide +kernel
theorem dL_law_280 : decode cL_law 280 = .ok (.iload_n 3, 1) := by decide +kernel
theorem dL_law_281 : decode cL_law 281 = .ok (.iconst 2, 1) := by decide +kernel
theorem dL_law_282 : decode cL_law 282 = .ok (.iadd, 1) := by decide +kernel
theorem dL_law_283 : decode cL_law 283 = .ok (.iaload, 1) := by decide +kernel
theorem dL_law_284 : decode cL_law 284 = .ok (.invokevirtual 39, 3) := by decide +kernel
theorem dL_law_287 : decode cL_law 287 = .ok (.if_icmp .eq 713, 3) := by decide +kernel
theorem dL_law_290 : decode cL_law 290 = .ok (.iconst 0, 1) := by decide +kernel
theorem dL_law_291 : decode cL_law 291 = .ok (.ireturn, 1) := by decide +kernel
theorem dL_law_292 : decode cL_law 292 = .ok (.aload_n 1, 1) := by decide +kernel
theorem dL_law_293 : decode cL_law 293 = .ok (.aload_n 0, 1) := by decide +kernel
theorem dL_law_294 : decode cL_law 294 = .ok (.iload_n 3, 1) := by decide +kernel
theorem dL_law_295 : decode cL_law 295 = .ok (.iconst 1, 1) := by decide +kernel
theorem dL_law_296 : decode cL_law 296 = .ok (.iadd, 1) := by decide +kernel
theorem dL_law_297 : decode cL_law 297 = .ok (.iaload, 1) := by decide +kernel
theorem dL_law_298 : decode cL_law 298 = .ok (.aload_n 0, 1) := by decide +kernel
theorem dL_law_299 : decode cL_law 299 = .ok (.iload_n 3, 1) := by decide +kernel
theorem dL_law_300 : decode cL_law 300 = .ok (.iconst 2, 1) := by decide +kernel
theorem dL_law_301 : decode cL_law 301 = .ok (.iadd, 1) := by decide +kernel
theorem dL_law_302 : decode cL_law 302 = .ok (.iaload, 1) := by decide +kernel
theorem dL_law_303 : decode cL_law 303 = .ok (.ifCond .eq 7, 3) := by decide +kernel
theorem dL_law_306 : decode cL_law 306 = .ok (.iconst 1, 1) := by decide +kernel
theorem dL_law_307 : decode cL_law 307 = .ok (.goto 4, 3) := by decide +kernel
theorem dL_law_310 : decode cL_law 310 = .ok (.iconst 0, 1) := by decide +kernel
theorem dL_law_311 : decode cL_law 311 = .ok (.invokevirtual 40, 3) := by decide +kernel
theorem dL_law_314 : decode cL_law 314 = .ok (.aload_n 2, 1) := by decide +kernel
theorem dL_law_315 : decode cL_law 315 = .ok (.aload_n 0, 1) := by decide +kernel
theorem dL_law_316 : decode cL_law 316 = .ok (.iload_n 3, 1) := by decide +kernel
theorem dL_law_317 : decode cL_law 317 = .ok (.iconst 1, 1) := by decide +kernel
theorem dL_law_318 : decode cL_law 318 = .ok (.iadd, 1) := by decide +kernel
theorem dL_law_319 : decode cL_law 319 = .ok (.iaload, 1) := by decide +kernel
theorem dL_law_320 : decode cL_law 320 = .ok (.aload_n 0, 1) := by decide +kernel
theorem dL_law_321 : decode cL_law 321 = .ok (.iload_n 3, 1) := by decide +kernel
theorem dL_law_322 : decode cL_law 322 = .ok (.iconst 2, 1) := by decide +kernel
theorem dL_law_323 : decode cL_law 323 = .ok (.iadd, 1) := by decide +kernel
theorem dL_law_324 : decode cL_law 324 = .ok (.iaload, 1) := by decide +kernel
theorem dL_law_325 : decode cL_law 325 = .ok (.ifCond .eq 7, 3) := by decide +kernel
theorem dL_law_328 : decode cL_law 328 = .ok (.iconst 1, 1) := by decide +kernel
theorem dL_law_329 : decode cL_law 329 = .ok (.goto 4, 3) := by decide +kernel
theorem dL_law_332 : decode cL_law 332 = .ok (.iconst 0, 1) := by decide +kernel
theorem dL_law_333 : decode cL_law 333 = .ok (.invokevirtual 44, 3) := by decide +kernel
theorem dL_law_336 : decode cL_law 336 = .ok (.if_icmp .eq 664, 3) := by decide +kernel
theorem dL_law_339 : decode cL_law 339 = .ok (.iconst 0, 1) := by decide +kernel
theorem dL_law_340 : decode cL_law 340 = .ok (.ireturn, 1) := by decide +kernel
theorem dL_law_341 : decode cL_law 341 = .ok (.aload_n 1, 1) := by decide +kernel
theorem dL_law_342 : decode cL_law 342 = .ok (.aload_n 0, 1) := by decide +kernel
theorem dL_law_343 : decode cL_law 343 = .ok (.iload_n 3, 1) := by decide +kernel
theorem dL_law_344 : decode cL_law 344 = .ok (.iconst 1, 1) := by decide +kernel
theorem dL_law_345 : decode cL_law 345 = .ok (.iadd, 1) := by decide +kernel
theorem dL_law_346 : decode cL_law 346 = .ok (.iaload, 1) := by decide +kernel
theorem dL_law_347 : decode cL_law 347 = .ok (.invokevirtual 45, 3) := by decide +kernel
theorem dL_law_350 : decode cL_law 350 = .ok (.aload_n 2, 1) := by decide +kernel
theorem dL_law_351 : decode cL_law 351 = .ok (.aload_n 0, 1) := by decide +kernel
theorem dL_law_352 : decode cL_law 352 = .ok (.iload_n 3, 1) := by decide +kernel
theorem dL_law_353 : decode cL_law 353 = .ok (.iconst 1, 1) := by decide +kernel
theorem dL_law_354 : decode cL_law 354 = .ok (.iadd, 1) := by decide +kernel
theorem dL_law_355 : decode cL_law 355 = .ok (.iaload, 1) := by decide +kernel
theorem dL_law_356 : decode cL_law 356 = .ok (.invokevirtual 48, 3) := by decide +kernel
theorem dL_law_359 : decode cL_law 359 = .ok (.if_icmp .eq 641, 3) := by decide +kernel
theorem dL_law_362 : decode cL_law 362 = .ok (.iconst 0, 1) := by decide +kernel
theorem dL_law_363 : decode cL_law 363 = .ok (.ireturn, 1) := by decide +kernel
theorem dL_law_364 : decode cL_law 364 = .ok (.aload_n 1, 1) := by decide +kernel
theorem dL_law_365 : decode cL_law 365 = .ok (.aload_n 0, 1) := by decide +kernel
theorem dL_law_366 : decode cL_law 366 = .ok (.iload_n 3, 1) := by decide +kernel
theorem dL_law_367 : decode cL_law 367 = .ok (.iconst 1, 1) := by decide +kernel
theorem dL_law_368 : decode cL_law 368 = .ok (.iadd, 1) := by decide +kernel
theorem dL_law_369 : decode cL_law 369 = .ok (.iaload, 1) := by decide +kernel
theorem dL_law_370 : decode cL_law 370 = .ok (.invokevirtual 49, 3) := by decide +kernel
theorem dL_law_373 : decode cL_law 373 = .ok (.aload_n 2, 1) := by decide +kernel
theorem dL_law_374 : decode cL_law 374 = .ok (.aload_n 0, 1) := by decide +kernel
theorem dL_law_375 : decode cL_law 375 = .ok (.iload_n 3, 1) := by decide +kernel
theorem dL_law_376 : decode cL_law 376 = .ok (.iconst 1, 1) := by decide +kernel
theorem dL_law_377 : decode cL_law 377 = .ok (.iadd, 1) := by decide +kernel
theorem dL_law_378 : decode cL_law 378 = .ok (.iaload, 1) := by decide +kernel
theorem dL_law_379 : decode cL_law 379 = .ok (.invokevirtual 52, 3) := by decide +kernel
theorem dL_law_382 : decode cL_law 382 = .ok (.if_icmp .eq 618, 3) := by decide +kernel
theorem dL_law_385 : decode cL_law 385 = .ok (.iconst 0, 1) := by decide +kernel
theorem dL_law_386 : decode cL_law 386 = .ok (.ireturn, 1) := by decide +kernel
theorem dL_law_387 : decode cL_law 387 = .ok (.aload_n 1, 1) := by decide +kernel
theorem dL_law_388 : decode cL_law 388 = .ok (.invokevirtual 53, 3) := by decide +kernel
theorem dL_law_391 : decode cL_law 391 = .ok (.aload_n 2, 1) := by decide +kernel
theorem dL_law_392 : decode cL_law 392 = .ok (.invokevirtual 56, 3) := by decide +kernel
theorem dL_law_395 : decode cL_law 395 = .ok (.if_icmp .eq 605, 3) := by decide +kernel
theorem dL_law_398 : decode cL_law 398 = .ok (.iconst 0, 1) := by decide +kernel
theorem dL_law_399 : decode cL_law 399 = .ok (.ireturn, 1) := by decide +kernel
theorem dL_law_400 : decode cL_law 400 = .ok (.aload_n 1, 1) := by decide +kernel
theorem dL_law_401 : decode cL_law 401 = .ok (.invokevirtual 57, 3) := by decide +kernel
theorem dL_law_404 : decode cL_law 404 = .ok (.aload_n 2, 1) := by decide +kernel
theorem dL_law_405 : decode cL_law 405 = .ok (.invokevirtual 60, 3) := by decide +kernel
theorem dL_law_408 : decode cL_law 408 = .ok (.if_icmp .eq 592, 3) := by decide +kernel
theorem dL_law_411 : decode cL_law 411 = .ok (.iconst 0, 1) := by decide +kernel
theorem dL_law_412 : decode cL_law 412 = .ok (.ireturn, 1) := by decide +kernel
theorem dL_law_413 : decode cL_law 413 = .ok (.aload_n 1, 1) := by decide +kernel
theorem dL_law_414 : decode cL_law 414 = .ok (.invokevirtual 61, 3) := by decide +kernel
theorem dL_law_417 : decode cL_law 417 = .ok (.aload_n 2, 1) := by decide +kernel
theorem dL_law_418 : decode cL_law 418 = .ok (.invokevirtual 64, 3) := by decide +kernel
theorem dL_law_421 : decode cL_law 421 = .ok (.if_icmp .eq 579, 3) := by decide +kernel
theorem dL_law_424 : decode cL_law 424 = .ok (.iconst 0, 1) := by decide +kernel
theorem dL_law_425 : decode cL_law 425 = .ok (.ireturn, 1) := by decide +kernel
theorem dL_law_426 : decode cL_law 426 = .ok (.aload_n 1, 1) := by decide +kernel
theorem dL_law_427 : decode cL_law 427 = .ok (.aload_n 0, 1) := by decide +kernel
theorem dL_law_428 : decode cL_law 428 = .ok (.iload_n 3, 1) := by decide +kernel
theorem dL_law_429 : decode cL_law 429 = .ok (.iconst 1, 1) := by decide +kernel
theorem dL_law_430 : decode cL_law 430 = .ok (.iadd, 1) := by decide +kernel
theorem dL_law_431 : decode cL_law 431 = .ok (.iaload, 1) := by decide +kernel
theorem dL_law_432 : decode cL_law 432 = .ok (.invokevirtual 65, 3) := by decide +kernel
theorem dL_law_435 : decode cL_law 435 = .ok (.aload_n 2, 1) := by decide +kernel
theorem dL_law_436 : decode cL_law 436 = .ok (.aload_n 0, 1) := by decide +kernel
theorem dL_law_437 : decode cL_law 437 = .ok (.iload_n 3, 1) := by decide +kernel
theorem dL_law_438 : decode cL_law 438 = .ok (.iconst 1, 1) := by decide +kernel
theorem dL_law_439 : decode cL_law 439 = .ok (.iadd, 1) := by decide +kernel
theorem dL_law_440 : decode cL_law 440 = .ok (.iaload, 1) := by decide +kernel
theorem dL_law_441 : decode cL_law 441 = .ok (.invokevirtual 68, 3) := by decide +kernel
theorem dL_law_444 : decode cL_law 444 = .ok (.if_icmp .eq 556, 3) := by decide +kernel
theorem dL_law_447 : decode cL_law 447 = .ok (.iconst 0, 1) := by decide +kernel
theorem dL_law_448 : decode cL_law 448 = .ok (.ireturn, 1) := by decide +kernel
theorem dL_law_449 : decode cL_law 449 = .ok (.aload_n 1, 1) := by decide +kernel
theorem dL_law_450 : decode cL_law 450 = .ok (.aload_n 0, 1) := by decide +kernel
theorem dL_law_451 : decode cL_law 451 = .ok (.iload_n 3, 1) := by decide +kernel
theorem dL_law_452 : decode cL_law 452 = .ok (.iconst 1, 1) := by decide +kernel
theorem dL_law_453 : decode cL_law 453 = .ok (.iadd, 1) := by decide +kernel
theorem dL_law_454 : decode cL_law 454 = .ok (.iaload, 1) := by decide +kernel
theorem dL_law_455 : decode cL_law 455 = .ok (.aload_n 0, 1) := by decide +kernel
theorem dL_law_456 : decode cL_law 456 = .ok (.iload_n 3, 1) := by decide +kernel
theorem dL_law_457 : decode cL_law 457 = .ok (.iconst 2, 1) := by decide +kernel
theorem dL_law_458 : decode cL_law 458 = .ok (.iadd, 1) := by decide +kernel
theorem dL_law_459 : decode cL_law 459 = .ok (.iaload, 1) := by decide +kernel
theorem dL_law_460 : decode cL_law 460 = .ok (.invokevirtual 69, 3) := by decide +kernel
theorem dL_law_463 : decode cL_law 463 = .ok (.aload_n 2, 1) := by decide +kernel
theorem dL_law_464 : decode cL_law 464 = .ok (.aload_n 0, 1) := by decide +kernel
theorem dL_law_465 : decode cL_law 465 = .ok (.iload_n 3, 1) := by decide +kernel
theorem dL_law_466 : decode cL_law 466 = .ok (.iconst 1, 1) := by decide +kernel
theorem dL_law_467 : decode cL_law 467 = .ok (.iadd, 1) := by decide +kernel
theorem dL_law_468 : decode cL_law 468 = .ok (.iaload, 1) := by decide +kernel
theorem dL_law_469 : decode cL_law 469 = .ok (.aload_n 0, 1) := by decide +kernel
theorem dL_law_470 : decode cL_law 470 = .ok (.iload_n 3, 1) := by decide +kernel
theorem dL_law_471 : decode cL_law 471 = .ok (.iconst 2, 1) := by decide +kernel
theorem dL_law_472 : decode cL_law 472 = .ok (.iadd, 1) := by decide +kernel
theorem dL_law_473 : decode cL_law 473 = .ok (.iaload, 1) := by decide +kernel
theorem dL_law_474 : decode cL_law 474 = .ok (.invokevirtual 72, 3) := by decide +kernel
theorem dL_law_477 : decode cL_law 477 = .ok (.if_icmp .eq 523, 3) := by decide +kernel
theorem dL_law_480 : decode cL_law 480 = .ok (.iconst 0, 1) := by decide +kernel
theorem dL_law_481 : decode cL_law 481 = .ok (.ireturn, 1) := by decide +kernel
theorem dL_law_482 : decode cL_law 482 = .ok (.aload_n 1, 1) := by decide +kernel
theorem dL_law_483 : decode cL_law 483 = .ok (.aload_n 0, 1) := by decide +kernel
theorem dL_law_484 : decode cL_law 484 = .ok (.iload_n 3, 1) := by decide +kernel
theorem dL_law_485 : decode cL_law 485 = .ok (.iconst 1, 1) := by decide +kernel
theorem dL_law_486 : decode cL_law 486 = .ok (.iadd, 1) := by decide +kernel
theorem dL_law_487 : decode cL_law 487 = .ok (.iaload, 1) := by decide +kernel
theorem dL_law_488 : decode cL_law 488 = .ok (.aload_n 0, 1) := by decide +kernel
theorem dL_law_489 : decode cL_law 489 = .ok (.iload_n 3, 1) := by decide +kernel
theorem dL_law_490 : decode cL_law 490 = .ok (.iconst 2, 1) := by decide +kernel
theorem dL_law_491 : decode cL_law 491 = .ok (.iadd, 1) := by decide +kernel
theorem dL_law_492 : decode cL_law 492 = .ok (.iaload, 1) := by decide +kernel
theorem dL_law_493 : decode cL_law 493 = .ok (.invokevirtual 73, 3) := by decide +kernel
theorem dL_law_496 : decode cL_law 496 = .ok (.aload_n 2, 1) := by decide +kernel
theorem dL_law_497 : decode cL_law 497 = .ok (.aload_n 0, 1) := by decide +kernel
theorem dL_law_498 : decode cL_law 498 = .ok (.iload_n 3, 1) := by decide +kernel
theorem dL_law_499 : decode cL_law 499 = .ok (.iconst 1, 1) := by decide +kernel
theorem dL_law_500 : decode cL_law 500 = .ok (.iadd, 1) := by decide +kernel
theorem dL_law_501 : decode cL_law 501 = .ok (.iaload, 1) := by decide +kernel
theorem dL_law_502 : decode cL_law 502 = .ok (.aload_n 0, 1) := by decide +kernel
theorem dL_law_503 : decode cL_law 503 = .ok (.iload_n 3, 1) := by decide +kernel
theorem dL_law_504 : decode cL_law 504 = .ok (.iconst 2, 1) := by decide +kernel
theorem dL_law_505 : decode cL_law 505 = .ok (.iadd, 1) := by decide +kernel
theorem dL_law_506 : decode cL_law 506 = .ok (.iaload, 1) := by decide +kernel
theorem dL_law_507 : decode cL_law 507 = .ok (.invokevirtual 76, 3) := by decide +kernel
theorem dL_law_510 : decode cL_law 510 = .ok (.if_icmp .eq 490, 3) := by decide +kernel
theorem dL_law_513 : decode cL_law 513 = .ok (.iconst 0, 1) := by decide +kernel
theorem dL_law_514 : decode cL_law 514 = .ok (.ireturn, 1) := by decide +kernel
theorem dL_law_515 : decode cL_law 515 = .ok (.aload_n 1, 1) := by decide +kernel
theorem dL_law_516 : decode cL_law 516 = .ok (.invokevirtual 77, 3) := by decide +kernel
theorem dL_law_519 : decode cL_law 519 = .ok (.aload_n 2, 1) := by decide +kernel
theorem dL_law_520 : decode cL_law 520 = .ok (.invokevirtual 80, 3) := by decide +kernel
theorem dL_law_523 : decode cL_law 523 = .ok (.if_icmp .eq 477, 3) := by decide +kernel
theorem dL_law_526 : decode cL_law 526 = .ok (.iconst 0, 1) := by decide +kernel
theorem dL_law_527 : decode cL_law 527 = .ok (.ireturn, 1) := by decide +kernel
theorem dL_law_528 : decode cL_law 528 = .ok (.aload_n 1, 1) := by decide +kernel
theorem dL_law_529 : decode cL_law 529 = .ok (.aload_n 0, 1) := by decide +kernel
theorem dL_law_530 : decode cL_law 530 = .ok (.iload_n 3, 1) := by decide +kernel
theorem dL_law_531 : decode cL_law 531 = .ok (.iconst 1, 1) := by decide +kernel
theorem dL_law_532 : decode cL_law 532 = .ok (.iadd, 1) := by decide +kernel
theorem dL_law_533 : decode cL_law 533 = .ok (.iaload, 1) := by decide +kernel
theorem dL_law_534 : decode cL_law 534 = .ok (.aload_n 0, 1) := by decide +kernel
theorem dL_law_535 : decode cL_law 535 = .ok (.iload_n 3, 1) := by decide +kernel
theorem dL_law_536 : decode cL_law 536 = .ok (.iconst 2, 1) := by decide +kernel
theorem dL_law_537 : decode cL_law 537 = .ok (.iadd, 1) := by decide +kernel
theorem dL_law_538 : decode cL_law 538 = .ok (.iaload, 1) := by decide +kernel
theorem dL_law_539 : decode cL_law 539 = .ok (.invokevirtual 81, 3) := by decide +kernel
theorem dL_law_542 : decode cL_law 542 = .ok (.aload_n 2, 1) := by decide +kernel
theorem dL_law_543 : decode cL_law 543 = .ok (.aload_n 0, 1) := by decide +kernel
theorem dL_law_544 : decode cL_law 544 = .ok (.iload_n 3, 1) := by decide +kernel
theorem dL_law_545 : decode cL_law 545 = .ok (.iconst 1, 1) := by decide +kernel
theorem dL_law_546 : decode cL_law 546 = .ok (.iadd, 1) := by decide +kernel
theorem dL_law_547 : decode cL_law 547 = .ok (.iaload, 1) := by decide +kernel
theorem dL_law_548 : decode cL_law 548 = .ok (.aload_n 0, 1) := by decide +kernel
theorem dL_law_549 : decode cL_law 549 = .ok (.iload_n 3, 1) := by decide +kernel
theorem dL_law_550 : decode cL_law 550 = .ok (.iconst 2, 1) := by decide +kernel
theorem dL_law_551 : decode cL_law 551 = .ok (.iadd, 1) := by decide +kernel
theorem dL_law_552 : decode cL_law 552 = .ok (.iaload, 1) := by decide +kernel
theorem dL_law_553 : decode cL_law 553 = .ok (.invokevirtual 84, 3) := by decide +kernel
theorem dL_law_556 : decode cL_law 556 = .ok (.if_icmp .eq 444, 3) := by decide +kernel
theorem dL_law_559 : decode cL_law 559 = .ok (.iconst 0, 1) := by decide +kernel
theorem dL_law_560 : decode cL_law 560 = .ok (.ireturn, 1) := by decide +kernel
theorem dL_law_561 : decode cL_law 561 = .ok (.aload_n 1, 1) := by decide +kernel
theorem dL_law_562 : decode cL_law 562 = .ok (.aload_n 0, 1) := by decide +kernel
theorem dL_law_563 : decode cL_law 563 = .ok (.iload_n 3, 1) := by decide +kernel
theorem dL_law_564 : decode cL_law 564 = .ok (.iconst 1, 1) := by decide +kernel
theorem dL_law_565 : decode cL_law 565 = .ok (.iadd, 1) := by decide +kernel
theorem dL_law_566 : decode cL_law 566 = .ok (.iaload, 1) := by decide +kernel
theorem dL_law_567 : decode cL_law 567 = .ok (.aload_n 0, 1) := by decide +kernel
theorem dL_law_568 : decode cL_law 568 = .ok (.iload_n 3, 1) := by decide +kernel
theorem dL_law_569 : decode cL_law 569 = .ok (.iconst 2, 1) := by decide +kernel
theorem dL_law_570 : decode cL_law 570 = .ok (.iadd, 1) := by decide +kernel
theorem dL_law_571 : decode cL_law 571 = .ok (.iaload, 1) := by decide +kernel
theorem dL_law_572 : decode cL_law 572 = .ok (.i2l, 1) := by decide +kernel
theorem dL_law_573 : decode cL_law 573 = .ok (.bipush 32, 2) := by decide +kernel
theorem dL_law_575 : decode cL_law 575 = .ok (.lshl, 1) := by decide +kernel
theorem dL_law_576 : decode cL_law 576 = .ok (.aload_n 0, 1) := by decide +kernel
theorem dL_law_577 : decode cL_law 577 = .ok (.iload_n 3, 1) := by decide +kernel
theorem dL_law_578 : decode cL_law 578 = .ok (.iconst 3, 1) := by decide +kernel
theorem dL_law_579 : decode cL_law 579 = .ok (.iadd, 1) := by decide +kernel
theorem dL_law_580 : decode cL_law 580 = .ok (.iaload, 1) := by decide +kernel
theorem dL_law_581 : decode cL_law 581 = .ok (.i2l, 1) := by decide +kernel
theorem dL_law_582 : decode cL_law 582 = .ok (.ldc2_w 85, 3) := by decide +kernel
theorem dL_law_585 : decode cL_law 585 = .ok (.land, 1) := by decide +kernel
theorem dL_law_586 : decode cL_law 586 = .ok (.lor, 1) := by decide +kernel
theorem dL_law_587 : decode cL_law 587 = .ok (.invokevirtual 87, 3) := by decide +kernel
theorem dL_law_590 : decode cL_law 590 = .ok (.aload_n 2, 1) := by decide +kernel
theorem dL_law_591 : decode cL_law 591 = .ok (.aload_n 0, 1) := by decide +kernel
theorem dL_law_592 : decode cL_law 592 = .ok (.iload_n 3, 1) := by decide +kernel
theorem dL_law_593 : decode cL_law 593 = .ok (.iconst 1, 1) := by decide +kernel
theorem dL_law_594 : decode cL_law 594 = .ok (.iadd, 1) := by decide +kernel
theorem dL_law_595 : decode cL_law 595 = .ok (.iaload, 1) := by decide +kernel
theorem dL_law_596 : decode cL_law 596 = .ok (.aload_n 0, 1) := by decide +kernel
theorem dL_law_597 : decode cL_law 597 = .ok (.iload_n 3, 1) := by decide +kernel
theorem dL_law_598 : decode cL_law 598 = .ok (.iconst 2, 1) := by decide +kernel
theorem dL_law_599 : decode cL_law 599 = .ok (.iadd, 1) := by decide +kernel
theorem dL_law_600 : decode cL_law 600 = .ok (.iaload, 1) := by decide +kernel
theorem dL_law_601 : decode cL_law 601 = .ok (.i2l, 1) := by decide +kernel
theorem dL_law_602 : decode cL_law 602 = .ok (.bipush 32, 2) := by decide +kernel
theorem dL_law_604 : decode cL_law 604 = .ok (.lshl, 1) := by decide +kernel
theorem dL_law_605 : decode cL_law 605 = .ok (.aload_n 0, 1) := by decide +kernel
theorem dL_law_606 : decode cL_law 606 = .ok (.iload_n 3, 1) := by decide +kernel
theorem dL_law_607 : decode cL_law 607 = .ok (.iconst 3, 1) := by decide +kernel
theorem dL_law_608 : decode cL_law 608 = .ok (.iadd, 1) := by decide +kernel
theorem dL_law_609 : decode cL_law 609 = .ok (.iaload, 1) := by decide +kernel
theorem dL_law_610 : decode cL_law 610 = .ok (.i2l, 1) := by decide +kernel
theorem dL_law_611 : decode cL_law 611 = .ok (.ldc2_w 85, 3) := by decide +kernel
theorem dL_law_614 : decode cL_law 614 = .ok (.land, 1) := by decide +kernel
theorem dL_law_615 : decode cL_law 615 = .ok (.lor, 1) := by decide +kernel
theorem dL_law_616 : decode cL_law 616 = .ok (.invokevirtual 91, 3) := by decide +kernel
theorem dL_law_619 : decode cL_law 619 = .ok (.if_icmp .eq 381, 3) := by decide +kernel
theorem dL_law_622 : decode cL_law 622 = .ok (.iconst 0, 1) := by decide +kernel
theorem dL_law_623 : decode cL_law 623 = .ok (.ireturn, 1) := by decide +kernel
theorem dL_law_624 : decode cL_law 624 = .ok (.aload_n 1, 1) := by decide +kernel
theorem dL_law_625 : decode cL_law 625 = .ok (.aload_n 0, 1) := by decide +kernel
theorem dL_law_626 : decode cL_law 626 = .ok (.iload_n 3, 1) := by decide +kernel
theorem dL_law_627 : decode cL_law 627 = .ok (.iconst 1, 1) := by decide +kernel
theorem dL_law_628 : decode cL_law 628 = .ok (.iadd, 1) := by decide +kernel
theorem dL_law_629 : decode cL_law 629 = .ok (.iaload, 1) := by decide +kernel
theorem dL_law_630 : decode cL_law 630 = .ok (.aload_n 0, 1) := by decide +kernel
theorem dL_law_631 : decode cL_law 631 = .ok (.iload_n 3, 1) := by decide +kernel
theorem dL_law_632 : decode cL_law 632 = .ok (.iconst 2, 1) := by decide +kernel
theorem dL_law_633 : decode cL_law 633 = .ok (.iadd, 1) := by decide +kernel
theorem dL_law_634 : decode cL_law 634 = .ok (.iaload, 1) := by decide +kernel
theorem dL_law_635 : decode cL_law 635 = .ok (.invokevirtual 92, 3) := by decide +kernel
theorem dL_law_638 : decode cL_law 638 = .ok (.aload_n 2, 1) := by decide +kernel
theorem dL_law_639 : decode cL_law 639 = .ok (.aload_n 0, 1) := by decide +kernel
theorem dL_law_640 : decode cL_law 640 = .ok (.iload_n 3, 1) := by decide +kernel
theorem dL_law_641 : decode cL_law 641 = .ok (.iconst 1, 1) := by decide +kernel
theorem dL_law_642 : decode cL_law 642 = .ok (.iadd, 1) := by decide +kernel
theorem dL_law_643 : decode cL_law 643 = .ok (.iaload, 1) := by decide +kernel
theorem dL_law_644 : decode cL_law 644 = .ok (.aload_n 0, 1) := by decide +kernel
theorem dL_law_645 : decode cL_law 645 = .ok (.iload_n 3, 1) := by decide +kernel
theorem dL_law_646 : decode cL_law 646 = .ok (.iconst 2, 1) := by decide +kernel
theorem dL_law_647 : decode cL_law 647 = .ok (.iadd, 1) := by decide +kernel
theorem dL_law_648 : decode cL_law 648 = .ok (.iaload, 1) := by decide +kernel
theorem dL_law_649 : decode cL_law 649 = .ok (.invokevirtual 95, 3) := by decide +kernel
theorem dL_law_652 : decode cL_law 652 = .ok (.if_icmp .eq 348, 3) := by decide +kernel
theorem dL_law_655 : decode cL_law 655 = .ok (.iconst 0, 1) := by decide +kernel
theorem dL_law_656 : decode cL_law 656 = .ok (.ireturn, 1) := by decide +kernel
theorem dL_law_657 : decode cL_law 657 = .ok (.aload_n 1, 1) := by decide +kernel
theorem dL_law_658 : decode cL_law 658 = .ok (.invokevirtual 96, 3) := by decide +kernel
theorem dL_law_661 : decode cL_law 661 = .ok (.aload_n 2, 1) := by decide +kernel
theorem dL_law_662 : decode cL_law 662 = .ok (.invokevirtual 99, 3) := by decide +kernel
theorem dL_law_665 : decode cL_law 665 = .ok (.if_icmp .eq 335, 3) := by decide +kernel
theorem dL_law_668 : decode cL_law 668 = .ok (.iconst 0, 1) := by decide +kernel
theorem dL_law_669 : decode cL_law 669 = .ok (.ireturn, 1) := by decide +kernel
theorem dL_law_670 : decode cL_law 670 = .ok (.aload_n 1, 1) := by decide +kernel
theorem dL_law_671 : decode cL_law 671 = .ok (.aload_n 0, 1) := by decide +kernel
theorem dL_law_672 : decode cL_law 672 = .ok (.iload_n 3, 1) := by decide +kernel
theorem dL_law_673 : decode cL_law 673 = .ok (.iconst 1, 1) := by decide +kernel
theorem dL_law_674 : decode cL_law 674 = .ok (.iadd, 1) := by decide +kernel
theorem dL_law_675 : decode cL_law 675 = .ok (.iaload, 1) := by decide +kernel
theorem dL_law_676 : decode cL_law 676 = .ok (.invokevirtual 100, 3) := by decide +kernel
theorem dL_law_679 : decode cL_law 679 = .ok (.aload_n 2, 1) := by decide +kernel
theorem dL_law_680 : decode cL_law 680 = .ok (.aload_n 0, 1) := by decide +kernel
theorem dL_law_681 : decode cL_law 681 = .ok (.iload_n 3, 1) := by decide +kernel
theorem dL_law_682 : decode cL_law 682 = .ok (.iconst 1, 1) := by decide +kernel
theorem dL_law_683 : decode cL_law 683 = .ok (.iadd, 1) := by decide +kernel
theorem dL_law_684 : decode cL_law 684 = .ok (.iaload, 1) := by decide +kernel
theorem dL_law_685 : decode cL_law 685 = .ok (.invokevirtual 103, 3) := by decide +kernel
theorem dL_law_688 : decode cL_law 688 = .ok (.if_icmp .eq 312, 3) := by decide +kernel
theorem dL_law_691 : decode cL_law 691 = .ok (.iconst 0, 1) := by decide +kernel
theorem dL_law_692 : decode cL_law 692 = .ok (.ireturn, 1) := by decide +kernel
theorem dL_law_693 : decode cL_law 693 = .ok (.aload_n 1, 1) := by decide +kernel
theorem dL_law_694 : decode cL_law 694 = .ok (.aload_n 0, 1) := by decide +kernel
theorem dL_law_695 : decode cL_law 695 = .ok (.iload_n 3, 1) := by decide +kernel
theorem dL_law_696 : decode cL_law 696 = .ok (.iconst 1, 1) := by decide +kernel
theorem dL_law_697 : decode cL_law 697 = .ok (.iadd, 1) := by decide +kernel
theorem dL_law_698 : decode cL_law 698 = .ok (.iaload, 1) := by decide +kernel
theorem dL_law_699 : decode cL_law 699 = .ok (.aload_n 0, 1) := by decide +kernel
theorem dL_law_700 : decode cL_law 700 = .ok (.iload_n 3, 1) := by decide +kernel
theorem dL_law_701 : decode cL_law 701 = .ok (.iconst 2, 1) := by decide +kernel
theorem dL_law_702 : decode cL_law 702 = .ok (.iadd, 1) := by decide +kernel
theorem dL_law_703 : decode cL_law 703 = .ok (.iaload, 1) := by decide +kernel
theorem dL_law_704 : decode cL_law 704 = .ok (.ifCond .eq 7, 3) := by decide +kernel
theorem dL_law_707 : decode cL_law 707 = .ok (.iconst 1, 1) := by decide +kernel
theorem dL_law_708 : decode cL_law 708 = .ok (.goto 4, 3) := by decide +kernel
theorem dL_law_711 : decode cL_law 711 = .ok (.iconst 0, 1) := by decide +kernel
theorem dL_law_712 : decode cL_law 712 = .ok (.invokevirtual 104, 3) := by decide +kernel
theorem dL_law_715 : decode cL_law 715 = .ok (.aload_n 2, 1) := by decide +kernel
theorem dL_law_716 : decode cL_law 716 = .ok (.aload_n 0, 1) := by decide +kernel
theorem dL_law_717 : decode cL_law 717 = .ok (.iload_n 3, 1) := by decide +kernel
theorem dL_law_718 : decode cL_law 718 = .ok (.iconst 1, 1) := by decide +kernel
theorem dL_law_719 : decode cL_law 719 = .ok (.iadd, 1) := by decide +kernel
theorem dL_law_720 : decode cL_law 720 = .ok (.iaload, 1) := by decide +kernel
theorem dL_law_721 : decode cL_law 721 = .ok (.aload_n 0, 1) := by decide +kernel
theorem dL_law_722 : decode cL_law 722 = .ok (.iload_n 3, 1) := by decide +kernel
theorem dL_law_723 : decode cL_law 723 = .ok (.iconst 2, 1) := by decide +kernel
theorem dL_law_724 : decode cL_law 724 = .ok (.iadd, 1) := by decide +kernel
theorem dL_law_725 : decode cL_law 725 = .ok (.iaload, 1) := by decide +kernel
theorem dL_law_726 : decode cL_law 726 = .ok (.ifCond .eq 7, 3) := by decide +kernel
theorem dL_law_729 : decode cL_law 729 = .ok (.iconst 1, 1) := by decide +kernel
theorem dL_law_730 : decode cL_law 730 = .ok (.goto 4, 3) := by decide +kernel
theorem dL_law_733 : decode cL_law 733 = .ok (.iconst 0, 1) := by decide +kernel
theorem dL_law_734 : decode cL_law 734 = .ok (.invokevirtual 107, 3) := by decide +kernel
theorem dL_law_737 : decode cL_law 737 = .ok (.if_icmp .eq 263, 3) := by decide +kernel
theorem dL_law_740 : decode cL_law 740 = .ok (.iconst 0, 1) := by decide +kernel
theorem dL_law_741 : decode cL_law 741 = .ok (.ireturn, 1) := by decide +kernel
theorem dL_law_742 : decode cL_law 742 = .ok (.aload_n 1, 1) := by decide +kernel
theorem dL_law_743 : decode cL_law 743 = .ok (.aload_n 0, 1) := by decide +kernel
theorem dL_law_744 : decode cL_law 744 = .ok (.iload_n 3, 1) := by decide +kernel
theorem dL_law_745 : decode cL_law 745 = .ok (.iconst 1, 1) := by decide +kernel
theorem dL_law_746 : decode cL_law 746 = .ok (.iadd, 1) := by decide +kernel
theorem dL_law_747 : decode cL_law 747 = .ok (.iaload, 1) := by decide +kernel
theorem dL_law_748 : decode cL_law 748 = .ok (.aload_n 0, 1) := by decide +kernel
theorem dL_law_749 : decode cL_law 749 = .ok (.iload_n 3, 1) := by decide +kernel
theorem dL_law_750 : decode cL_law 750 = .ok (.iconst 2, 1) := by decide +kernel
theorem dL_law_751 : decode cL_law 751 = .ok (.iadd, 1) := by decide +kernel
theorem dL_law_752 : decode cL_law 752 = .ok (.iaload, 1) := by decide +kernel
theorem dL_law_753 : decode cL_law 753 = .ok (.aload_n 0, 1) := by decide +kernel
theorem dL_law_754 : decode cL_law 754 = .ok (.iload_n 3, 1) := by decide +kernel
theorem dL_law_755 : decode cL_law 755 = .ok (.iconst 3, 1) := by decide +kernel
theorem dL_law_756 : decode cL_law 756 = .ok (.iadd, 1) := by decide +kernel
theorem dL_law_757 : decode cL_law 757 = .ok (.iaload, 1) := by decide +kernel
theorem dL_law_758 : decode cL_law 758 = .ok (.invokevirtual 108, 3) := by decide +kernel
theorem dL_law_761 : decode cL_law 761 = .ok (.aload_n 2, 1) := by decide +kernel
theorem dL_law_762 : decode cL_law 762 = .ok (.aload_n 0, 1) := by decide +kernel
theorem dL_law_763 : decode cL_law 763 = .ok (.iload_n 3, 1) := by decide +kernel
theorem dL_law_764 : decode cL_law 764 = .ok (.iconst 1, 1) := by decide +kernel
theorem dL_law_765 : decode cL_law 765 = .ok (.iadd, 1) := by decide +kernel
theorem dL_law_766 : decode cL_law 766 = .ok (.iaload, 1) := by decide +kernel
theorem dL_law_767 : decode cL_law 767 = .ok (.aload_n 0, 1) := by decide +kernel
theorem dL_law_768 : decode cL_law 768 = .ok (.iload_n 3, 1) := by decide +kernel
theorem dL_law_769 : decode cL_law 769 = .ok (.iconst 2, 1) := by decide +kernel
theorem dL_law_770 : decode cL_law 770 = .ok (.iadd, 1) := by decide +kernel
theorem dL_law_771 : decode cL_law 771 = .ok (.iaload, 1) := by decide +kernel
theorem dL_law_772 : decode cL_law 772 = .ok (.aload_n 0, 1) := by decide +kernel
theorem dL_law_773 : decode cL_law 773 = .ok (.iload_n 3, 1) := by decide +kernel
theorem dL_law_774 : decode cL_law 774 = .ok (.iconst 3, 1) := by decide +kernel
theorem dL_law_775 : decode cL_law 775 = .ok (.iadd, 1) := by decide +kernel
theorem dL_law_776 : decode cL_law 776 = .ok (.iaload, 1) := by decide +kernel
theorem dL_law_777 : decode cL_law 777 = .ok (.invokevirtual 112, 3) := by decide +kernel
theorem dL_law_780 : decode cL_law 780 = .ok (.if_icmp .eq 220, 3) := by decide +kernel
theorem dL_law_783 : decode cL_law 783 = .ok (.iconst 0, 1) := by decide +kernel
theorem dL_law_784 : decode cL_law 784 = .ok (.ireturn, 1) := by decide +kernel
theorem dL_law_785 : decode cL_law 785 = .ok (.aload_n 1, 1) := by decide +kernel
theorem dL_law_786 : decode cL_law 786 = .ok (.aload_n 0, 1) := by decide +kernel
theorem dL_law_787 : decode cL_law 787 = .ok (.iload_n 3, 1) := by decide +kernel
theorem dL_law_788 : decode cL_law 788 = .ok (.iconst 1, 1) := by decide +kernel
theorem dL_law_789 : decode cL_law 789 = .ok (.iadd, 1) := by decide +kernel
theorem dL_law_790 : decode cL_law 790 = .ok (.iaload, 1) := by decide +kernel
theorem dL_law_791 : decode cL_law 791 = .ok (.aload_n 0, 1) := by decide +kernel
theorem dL_law_792 : decode cL_law 792 = .ok (.iload_n 3, 1) := by decide +kernel
theorem dL_law_793 : decode cL_law 793 = .ok (.iconst 2, 1) := by decide +kernel
theorem dL_law_794 : decode cL_law 794 = .ok (.iadd, 1) := by decide +kernel
theorem dL_law_795 : decode cL_law 795 = .ok (.iaload, 1) := by decide +kernel
theorem dL_law_796 : decode cL_law 796 = .ok (.aload_n 0, 1) := by decide +kernel
theorem dL_law_797 : decode cL_law 797 = .ok (.iload_n 3, 1) := by decide +kernel
theorem dL_law_798 : decode cL_law 798 = .ok (.iconst 3, 1) := by decide +kernel
theorem dL_law_799 : decode cL_law 799 = .ok (.iadd, 1) := by decide +kernel
theorem dL_law_800 : decode cL_law 800 = .ok (.iaload, 1) := by decide +kernel
theorem dL_law_801 : decode cL_law 801 = .ok (.aload_n 0, 1) := by decide +kernel
theorem dL_law_802 : decode cL_law 802 = .ok (.iload_n 3, 1) := by decide +kernel
theorem dL_law_803 : decode cL_law 803 = .ok (.iconst 4, 1) := by decide +kernel
theorem dL_law_804 : decode cL_law 804 = .ok (.iadd, 1) := by decide +kernel
theorem dL_law_805 : decode cL_law 805 = .ok (.iaload, 1) := by decide +kernel
theorem dL_law_806 : decode cL_law 806 = .ok (.ifCond .eq 7, 3) := by decide +kernel
theorem dL_law_809 : decode cL_law 809 = .ok (.iconst 1, 1) := by decide +kernel
theorem dL_law_810 : decode cL_law 810 = .ok (.goto 4, 3) := by decide +kernel
theorem dL_law_813 : decode cL_law 813 = .ok (.iconst 0, 1) := by decide +kernel
theorem dL_law_814 : decode cL_law 814 = .ok (.invokevirtual 113, 3) := by decide +kernel
theorem dL_law_817 : decode cL_law 817 = .ok (.aload_n 2, 1) := by decide +kernel
theorem dL_law_818 : decode cL_law 818 = .ok (.aload_n 0, 1) := by decide +kernel
theorem dL_law_819 : decode cL_law 819 = .ok (.iload_n 3, 1) := by decide +kernel
theorem dL_law_820 : decode cL_law 820 = .ok (.iconst 1, 1) := by decide +kernel
theorem dL_law_821 : decode cL_law 821 = .ok (.iadd, 1) := by decide +kernel
theorem dL_law_822 : decode cL_law 822 = .ok (.iaload, 1) := by decide +kernel
theorem dL_law_823 : decode cL_law 823 = .ok (.aload_n 0, 1) := by decide +kernel
theorem dL_law_824 : decode cL_law 824 = .ok (.iload_n 3, 1) := by decide +kernel
theorem dL_law_825 : decode cL_law 825 = .ok (.iconst 2, 1) := by decide +kernel
theorem dL_law_826 : decode cL_law 826 = .ok (.iadd, 1) := by decide +kernel
theorem dL_law_827 : decode cL_law 827 = .ok (.iaload, 1) := by decide +kernel
theorem dL_law_828 : decode cL_law 828 = .ok (.aload_n 0, 1) := by decide +kernel
theorem dL_law_829 : decode cL_law 829 = .ok (.iload_n 3, 1) := by decide +kernel
theorem dL_law_830 : decode cL_law 830 = .ok (.iconst 3, 1) := by decide +kernel
theorem dL_law_831 : decode cL_law 831 = .ok (.iadd, 1) := by decide +kernel
theorem dL_law_832 : decode cL_law 832 = .ok (.iaload, 1) := by decide +kernel
theorem dL_law_833 : decode cL_law 833 = .ok (.aload_n 0, 1) := by decide +kernel
theorem dL_law_834 : decode cL_law 834 = .ok (.iload_n 3, 1) := by decide +kernel
theorem dL_law_835 : decode cL_law 835 = .ok (.iconst 4, 1) := by decide +kernel
theorem dL_law_836 : decode cL_law 836 = .ok (.iadd, 1) := by decide +kernel
theorem dL_law_837 : decode cL_law 837 = .ok (.iaload, 1) := by decide +kernel
theorem dL_law_838 : decode cL_law 838 = .ok (.ifCond .eq 7, 3) := by decide +kernel
theorem dL_law_841 : decode cL_law 841 = .ok (.iconst 1, 1) := by decide +kernel
theorem dL_law_842 : decode cL_law 842 = .ok (.goto 4, 3) := by decide +kernel
theorem dL_law_845 : decode cL_law 845 = .ok (.iconst 0, 1) := by decide +kernel
theorem dL_law_846 : decode cL_law 846 = .ok (.invokevirtual 117, 3) := by decide +kernel
theorem dL_law_849 : decode cL_law 849 = .ok (.if_icmp .eq 151, 3) := by decide +kernel
theorem dL_law_852 : decode cL_law 852 = .ok (.iconst 0, 1) := by decide +kernel
theorem dL_law_853 : decode cL_law 853 = .ok (.ireturn, 1) := by decide +kernel
theorem dL_law_854 : decode cL_law 854 = .ok (.aload_n 1, 1) := by decide +kernel
theorem dL_law_855 : decode cL_law 855 = .ok (.aload_n 0, 1) := by decide +kernel
theorem dL_law_856 : decode cL_law 856 = .ok (.iload_n 3, 1) := by decide +kernel
theorem dL_law_857 : decode cL_law 857 = .ok (.iconst 1, 1) := by decide +kernel
theorem dL_law_858 : decode cL_law 858 = .ok (.iadd, 1) := by decide +kernel
theorem dL_law_859 : decode cL_law 859 = .ok (.iaload, 1) := by decide +kernel
theorem dL_law_860 : decode cL_law 860 = .ok (.i2l, 1) := by decide +kernel
theorem dL_law_861 : decode cL_law 861 = .ok (.bipush 32, 2) := by decide +kernel
theorem dL_law_863 : decode cL_law 863 = .ok (.lshl, 1) := by decide +kernel
theorem dL_law_864 : decode cL_law 864 = .ok (.aload_n 0, 1) := by decide +kernel
theorem dL_law_865 : decode cL_law 865 = .ok (.iload_n 3, 1) := by decide +kernel
theorem dL_law_866 : decode cL_law 866 = .ok (.iconst 2, 1) := by decide +kernel
theorem dL_law_867 : decode cL_law 867 = .ok (.iadd, 1) := by decide +kernel
theorem dL_law_868 : decode cL_law 868 = .ok (.iaload, 1) := by decide +kernel
theorem dL_law_869 : decode cL_law 869 = .ok (.i2l, 1) := by decide +kernel
theorem dL_law_870 : decode cL_law 870 = .ok (.ldc2_w 85, 3) := by decide +kernel
theorem dL_law_873 : decode cL_law 873 = .ok (.land, 1) := by decide +kernel
theorem dL_law_874 : decode cL_law 874 = .ok (.lor, 1) := by decide +kernel
theorem dL_law_875 : decode cL_law 875 = .ok (.invokevirtual 118, 3) := by decide +kernel
theorem dL_law_878 : decode cL_law 878 = .ok (.aload_n 2, 1) := by decide +kernel
theorem dL_law_879 : decode cL_law 879 = .ok (.aload_n 0, 1) := by decide +kernel
theorem dL_law_880 : decode cL_law 880 = .ok (.iload_n 3, 1) := by decide +kernel
theorem dL_law_881 : decode cL_law 881 = .ok (.iconst 1, 1) := by decide +kernel
theorem dL_law_882 : decode cL_law 882 = .ok (.iadd, 1) := by decide +kernel
theorem dL_law_883 : decode cL_law 883 = .ok (.iaload, 1) := by decide +kernel
theorem dL_law_884 : decode cL_law 884 = .ok (.i2l, 1) := by decide +kernel
theorem dL_law_885 : decode cL_law 885 = .ok (.bipush 32, 2) := by decide +kernel
theorem dL_law_887 : decode cL_law 887 = .ok (.lshl, 1) := by decide +kernel
theorem dL_law_888 : decode cL_law 888 = .ok (.aload_n 0, 1) := by decide +kernel
theorem dL_law_889 : decode cL_law 889 = .ok (.iload_n 3, 1) := by decide +kernel
theorem dL_law_890 : decode cL_law 890 = .ok (.iconst 2, 1) := by decide +kernel
theorem dL_law_891 : decode cL_law 891 = .ok (.iadd, 1) := by decide +kernel
theorem dL_law_892 : decode cL_law 892 = .ok (.iaload, 1) := by decide +kernel
theorem dL_law_893 : decode cL_law 893 = .ok (.i2l, 1) := by decide +kernel
theorem dL_law_894 : decode cL_law 894 = .ok (.ldc2_w 85, 3) := by decide +kernel
theorem dL_law_897 : decode cL_law 897 = .ok (.land, 1) := by decide +kernel
theorem dL_law_898 : decode cL_law 898 = .ok (.lor, 1) := by decide +kernel
theorem dL_law_899 : decode cL_law 899 = .ok (.invokevirtual 122, 3) := by decide +kernel
theorem dL_law_902 : decode cL_law 902 = .ok (.lcmp, 1) := by decide +kernel
theorem dL_law_903 : decode cL_law 903 = .ok (.ifCond .eq 97, 3) := by decide +kernel
theorem dL_law_906 : decode cL_law 906 = .ok (.iconst 0, 1) := by decide +kernel
theorem dL_law_907 : decode cL_law 907 = .ok (.ireturn, 1) := by decide +kernel
theorem dL_law_908 : decode cL_law 908 = .ok (.aload_n 1, 1) := by decide +kernel
theorem dL_law_909 : decode cL_law 909 = .ok (.aload_n 0, 1) := by decide +kernel
theorem dL_law_910 : decode cL_law 910 = .ok (.iload_n 3, 1) := by decide +kernel
theorem dL_law_911 : decode cL_law 911 = .ok (.iconst 1, 1) := by decide +kernel
theorem dL_law_912 : decode cL_law 912 = .ok (.iadd, 1) := by decide +kernel
theorem dL_law_913 : decode cL_law 913 = .ok (.iaload, 1) := by decide +kernel
theorem dL_law_914 : decode cL_law 914 = .ok (.invokevirtual 123, 3) := by decide +kernel
theorem dL_law_917 : decode cL_law 917 = .ok (.aload_n 2, 1) := by decide +kernel
theorem dL_law_918 : decode cL_law 918 = .ok (.aload_n 0, 1) := by decide +kernel
theorem dL_law_919 : decode cL_law 919 = .ok (.iload_n 3, 1) := by decide +kernel
theorem dL_law_920 : decode cL_law 920 = .ok (.iconst 1, 1) := by decide +kernel
theorem dL_law_921 : decode cL_law 921 = .ok (.iadd, 1) := by decide +kernel
theorem dL_law_922 : decode cL_law 922 = .ok (.iaload, 1) := by decide +kernel
theorem dL_law_923 : decode cL_law 923 = .ok (.invokevirtual 126, 3) := by decide +kernel
theorem dL_law_926 : decode cL_law 926 = .ok (.if_icmp .eq 74, 3) := by decide +kernel
theorem dL_law_929 : decode cL_law 929 = .ok (.iconst 0, 1) := by decide +kernel
theorem dL_law_930 : decode cL_law 930 = .ok (.ireturn, 1) := by decide +kernel
theorem dL_law_931 : decode cL_law 931 = .ok (.aload_n 1, 1) := by decide +kernel
theorem dL_law_932 : decode cL_law 932 = .ok (.aload_n 0, 1) := by decide +kernel
theorem dL_law_933 : decode cL_law 933 = .ok (.iload_n 3, 1) := by decide +kernel
theorem dL_law_934 : decode cL_law 934 = .ok (.iconst 1, 1) := by decide +kernel
theorem dL_law_935 : decode cL_law 935 = .ok (.iadd, 1) := by decide +kernel
theorem dL_law_936 : decode cL_law 936 = .ok (.iaload, 1) := by decide +kernel
theorem dL_law_937 : decode cL_law 937 = .ok (.invokevirtual 127, 3) := by decide +kernel
theorem dL_law_940 : decode cL_law 940 = .ok (.aload_n 2, 1) := by decide +kernel
theorem dL_law_941 : decode cL_law 941 = .ok (.aload_n 0, 1) := by decide +kernel
theorem dL_law_942 : decode cL_law 942 = .ok (.iload_n 3, 1) := by decide +kernel
theorem dL_law_943 : decode cL_law 943 = .ok (.iconst 1, 1) := by decide +kernel
theorem dL_law_944 : decode cL_law 944 = .ok (.iadd, 1) := by decide +kernel
theorem dL_law_945 : decode cL_law 945 = .ok (.iaload, 1) := by decide +kernel
theorem dL_law_946 : decode cL_law 946 = .ok (.invokevirtual 130, 3) := by decide +kernel
theorem dL_law_949 : decode cL_law 949 = .ok (.if_icmp .eq 51, 3) := by decide +kernel
theorem dL_law_952 : decode cL_law 952 = .ok (.iconst 0, 1) := by decide +kernel
theorem dL_law_953 : decode cL_law 953 = .ok (.ireturn, 1) := by decide +kernel
theorem dL_law_954 : decode cL_law 954 = .ok (.aload_n 1, 1) := by decide +kernel
theorem dL_law_955 : decode cL_law 955 = .ok (.aload_n 0, 1) := by decide +kernel
theorem dL_law_956 : decode cL_law 956 = .ok (.iload_n 3, 1) := by decide +kernel
theorem dL_law_957 : decode cL_law 957 = .ok (.iconst 1, 1) := by decide +kernel
theorem dL_law_958 : decode cL_law 958 = .ok (.iadd, 1) := by decide +kernel
theorem dL_law_959 : decode cL_law 959 = .ok (.iaload, 1) := by decide +kernel
theorem dL_law_960 : decode cL_law 960 = .ok (.invokevirtual 131, 3) := by decide +kernel
theorem dL_law_963 : decode cL_law 963 = .ok (.aload_n 2, 1) := by decide +kernel
theorem dL_law_964 : decode cL_law 964 = .ok (.aload_n 0, 1) := by decide +kernel
theorem dL_law_965 : decode cL_law 965 = .ok (.iload_n 3, 1) := by decide +kernel
theorem dL_law_966 : decode cL_law 966 = .ok (.iconst 1, 1) := by decide +kernel
theorem dL_law_967 : decode cL_law 967 = .ok (.iadd, 1) := by decide +kernel
theorem dL_law_968 : decode cL_law 968 = .ok (.iaload, 1) := by decide +kernel
theorem dL_law_969 : decode cL_law 969 = .ok (.invokevirtual 134, 3) := by decide +kernel
theorem dL_law_972 : decode cL_law 972 = .ok (.if_icmp .eq 28, 3) := by decide +kernel
theorem dL_law_975 : decode cL_law 975 = .ok (.iconst 0, 1) := by decide +kernel
theorem dL_law_976 : decode cL_law 976 = .ok (.ireturn, 1) := by decide +kernel
theorem dL_law_977 : decode cL_law 977 = .ok (.aload_n 1, 1) := by decide +kernel
theorem dL_law_978 : decode cL_law 978 = .ok (.aload_n 0, 1) := by decide +kernel
theorem dL_law_979 : decode cL_law 979 = .ok (.iload_n 3, 1) := by decide +kernel
theorem dL_law_980 : decode cL_law 980 = .ok (.iconst 1, 1) := by decide +kernel
theorem dL_law_981 : decode cL_law 981 = .ok (.iadd, 1) := by decide +kernel
theorem dL_law_982 : decode cL_law 982 = .ok (.iaload, 1) := by decide +kernel
theorem dL_law_983 : decode cL_law 983 = .ok (.invokevirtual 135, 3) := by decide +kernel
theorem dL_law_986 : decode cL_law 986 = .ok (.aload_n 2, 1) := by decide +kernel
theorem dL_law_987 : decode cL_law 987 = .ok (.aload_n 0, 1) := by decide +kernel
theorem dL_law_988 : decode cL_law 988 = .ok (.iload_n 3, 1) := by decide +kernel
theorem dL_law_989 : decode cL_law 989 = .ok (.iconst 1, 1) := by decide +kernel
theorem dL_law_990 : decode cL_law 990 = .ok (.iadd, 1) := by decide +kernel
theorem dL_law_991 : decode cL_law 991 = .ok (.iaload, 1) := by decide +kernel
theorem dL_law_992 : decode cL_law 992 = .ok (.invokevirtual 138, 3) := by decide +kernel
theorem dL_law_995 : decode cL_law 995 = .ok (.if_icmp .eq 5, 3) := by decide +kernel
theorem dL_law_998 : decode cL_law 998 = .ok (.iconst 0, 1) := by decide +kernel
theorem dL_law_999 : decode cL_law 999 = .ok (.ireturn, 1) := by decide +kernel
theorem dL_law_1000 : decode cL_law 1000 = .ok (.iinc 3 5, 3) := by decide +kernel
theorem dL_law_1003 : decode cL_law 1003 = .ok (.goto (-985), 3) := by decide +kernel
theorem dL_law_1006 : decode cL_law 1006 = .ok (.iconst 1, 1) := by decide +kernel
theorem dL_law_1007 : decode cL_law 1007 = .ok (.ireturn, 1) := by decide +kernel
