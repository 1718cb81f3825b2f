/-! ===== the law's words are the tables' ===== -/
theorem qw_in {big ws : List Cond} (ps : List Nat) (hp : ws = ps.filterMap (fun i => big[i]?)) : ∀ w ∈ ws, w ∈ big := by
  intro w hw
  rw [hp] at hw
  obtain ⟨i, -, hi⟩ := List.mem_filterMap.mp hw
  exact List.mem_of_getElem? hi
theorem qw_app {big a b : List Cond} (h1 : ∀ w ∈ a, w ∈ big) (h2 : ∀ w ∈ b, w ∈ big) : ∀ w ∈ a ++ b, w ∈ big := fun w h => (List.mem_append.mp h).elim (h1 w) (h2 w)
set_option maxRecDepth 20000 in
theorem qw_wsL_law_r1 : ∀ w ∈ wsL_law_r1, w ∈ lw_tbl := qw_in [70, 71, 58, 722, 723, 65, 1094, 72, 73, 74, 75, 76, 77, 78, 79, 59, 256, 93, 94, 60, 257, 258, 140, 141] (by decide +kernel)
set_option maxRecDepth 20000 in
theorem qw_wsL_law_r2 : ∀ w ∈ wsL_law_r2, w ∈ lw_tbl := qw_in [61, 259, 260, 178, 179, 62, 261, 262, 235, 263, 198, 199, 63, 264, 236, 237, 64, 265, 92, 266, 267, 81, 82, 83] (by decide +kernel)
set_option maxRecDepth 20000 in
theorem qw_wsL_law_r3 : ∀ w ∈ wsL_law_r3, w ∈ lw_tbl := qw_in [84, 96, 97, 98, 99, 101, 106, 108, 112, 142, 143, 144, 145, 147, 150, 146, 180, 181, 182, 183, 184, 187, 186, 200] (by decide +kernel)
set_option maxRecDepth 20000 in
theorem qw_wsL_law_r4 : ∀ w ∈ wsL_law_r4, w ∈ lw_tbl := qw_in [201, 202, 203, 205, 206, 207, 208, 209, 204, 238, 239, 240, 241, 243, 244, 242, 724, 725, 726, 727, 730, 731, 732, 733] (by decide +kernel)
set_option maxRecDepth 20000 in
theorem qw_wsL_law_r5 : ∀ w ∈ wsL_law_r5, w ∈ lw_tbl := qw_in [734, 735, 736, 739, 746, 747, 748, 752, 753, 754, 756, 757, 296, 297, 298, 299, 300, 301, 302, 303, 85, 819, 820, 821] (by decide +kernel)
set_option maxRecDepth 20000 in
theorem qw_wsL_law_r6 : ∀ w ∈ wsL_law_r6, w ∈ lw_tbl := qw_in [822, 823, 740, 824, 825, 826, 304, 305, 306, 307, 86, 827, 828, 829, 830, 308, 309, 310, 311, 312, 313, 314, 315, 316] (by decide +kernel)
set_option maxRecDepth 20000 in
theorem qw_wsL_law_r7 : ∀ w ∈ wsL_law_r7, w ∈ lw_tbl := qw_in [317, 318, 319, 116, 122, 320, 322, 0, 323, 118, 123, 324, 326, 1, 327, 328, 330, 2, 331, 332, 334, 3, 335, 336] (by decide +kernel)
set_option maxRecDepth 20000 in
theorem qw_wsL_law_r8 : ∀ w ∈ wsL_law_r8, w ∈ lw_tbl := qw_in [337, 338, 339, 340, 342, 4, 343, 344, 345, 66, 346, 347, 348, 349, 350, 831, 832, 833, 834, 835, 837, 26, 838, 741] (by decide +kernel)
set_option maxRecDepth 20000 in
theorem qw_wsL_law_r9 : ∀ w ∈ wsL_law_r9, w ∈ lw_tbl := qw_in [742, 737, 738, 839, 841, 27, 842, 843, 845, 28, 846, 351, 352, 353, 354, 190, 119, 124, 355, 356, 357, 358, 121, 107] (by decide +kernel)
set_option maxRecDepth 20000 in
theorem qw_wsL_law_r10 : ∀ w ∈ wsL_law_r10, w ∈ lw_tbl := qw_in [109, 153, 155, 159, 161, 359, 360, 361, 362, 847, 848, 849, 850, 728, 729, 744, 851, 853, 29, 854, 363, 364, 365, 366] (by decide +kernel)
set_option maxRecDepth 20000 in
theorem qw_wsL_law_r11 : ∀ w ∈ wsL_law_r11, w ∈ lw_tbl := qw_in [100, 104, 154, 157, 367, 368, 369, 370, 371, 372, 373, 374, 375, 376, 377, 378, 855, 856, 857, 858, 859, 861, 30, 862] (by decide +kernel)
set_option maxRecDepth 20000 in
theorem qw_wsL_law_r12 : ∀ w ∈ wsL_law_r12, w ∈ lw_tbl := qw_in [863, 865, 31, 866, 743, 867, 868, 869, 870, 871, 872, 379, 380, 381, 382, 149, 111, 115, 152, 383, 384, 385, 386, 387] (by decide +kernel)
set_option maxRecDepth 20000 in
theorem qw_wsL_law_r13 : ∀ w ∈ wsL_law_r13, w ∈ lw_tbl := qw_in [388, 389, 390, 114, 391, 393, 5, 394, 395, 396, 397, 398, 399, 873, 874, 875, 876, 877, 879, 32, 880, 881, 883, 33] (by decide +kernel)
set_option maxRecDepth 20000 in
theorem qw_wsL_law_r14 : ∀ w ∈ wsL_law_r14, w ∈ lw_tbl := qw_in [884, 885, 887, 34, 888, 889, 891, 35, 892, 893, 894, 895, 400, 401, 402, 403, 404, 405, 406, 407, 408, 409, 410, 411] (by decide +kernel)
set_option maxRecDepth 20000 in
theorem qw_wsL_law_r15 : ∀ w ∈ wsL_law_r15, w ∈ lw_tbl := qw_in [412, 413, 188, 189, 418, 414, 415, 416, 417, 419, 420, 421, 422, 105, 896, 897, 898, 899, 900, 902, 36, 903, 904, 906] (by decide +kernel)
set_option maxRecDepth 20000 in
theorem qw_wsL_law_r16 : ∀ w ∈ wsL_law_r16, w ∈ lw_tbl := qw_in [37, 907, 745, 908, 910, 38, 911, 423, 424, 425, 426, 427, 428, 429, 430, 431, 432, 433, 434, 435, 436, 437, 912, 913] (by decide +kernel)
set_option maxRecDepth 20000 in
theorem qw_wsL_law_r17 : ∀ w ∈ wsL_law_r17, w ∈ lw_tbl := qw_in [914, 915, 916, 918, 39, 919, 920, 922, 40, 923, 438, 439, 440, 441, 442, 443, 444, 445, 446, 447, 448, 449, 924, 925] (by decide +kernel)
set_option maxRecDepth 20000 in
theorem qw_wsL_law_r18 : ∀ w ∈ wsL_law_r18, w ∈ lw_tbl := qw_in [926, 927, 450, 451, 452, 453, 160, 454, 455, 456, 457, 928, 929, 930, 931, 458, 459, 460, 461, 932, 933, 934, 935, 462] (by decide +kernel)
set_option maxRecDepth 20000 in
theorem qw_wsL_law_r19 : ∀ w ∈ wsL_law_r19, w ∈ lw_tbl := qw_in [463, 464, 465, 466, 467, 468, 469, 936, 937, 938, 939, 470, 471, 472, 473, 474, 476, 6, 477, 478, 479, 480, 481, 113] (by decide +kernel)
set_option maxRecDepth 20000 in
theorem qw_wsL_law_r20 : ∀ w ∈ wsL_law_r20, w ∈ lw_tbl := qw_in [117, 158, 110, 210, 211, 151, 213, 148, 156, 212, 482, 483, 484, 485, 486, 487, 488, 489, 490, 491, 493, 7, 494, 495] (by decide +kernel)
set_option maxRecDepth 20000 in
theorem qw_wsL_law_r21 : ∀ w ∈ wsL_law_r21, w ∈ lw_tbl := qw_in [496, 67, 497, 498, 500, 8, 501, 502, 504, 9, 505, 102, 506, 508, 10, 509, 940, 941, 942, 943, 944, 946, 41, 947] (by decide +kernel)
set_option maxRecDepth 20000 in
theorem qw_wsL_law_r22 : ∀ w ∈ wsL_law_r22, w ∈ lw_tbl := qw_in [948, 950, 42, 951, 749, 952, 954, 43, 955, 750, 956, 958, 44, 959, 960, 962, 45, 963, 510, 511, 512, 513, 514, 515] (by decide +kernel)
set_option maxRecDepth 20000 in
theorem qw_wsL_law_r23 : ∀ w ∈ wsL_law_r23, w ∈ lw_tbl := qw_in [516, 517, 518, 519, 520, 521, 522, 524, 11, 525, 536, 538, 537, 68, 526, 528, 12, 529, 530, 532, 13, 533, 534, 535] (by decide +kernel)
set_option maxRecDepth 20000 in
theorem qw_wsL_law_r24 : ∀ w ∈ wsL_law_r24, w ∈ lw_tbl := qw_in [964, 965, 966, 967, 968, 970, 46, 971, 539, 540, 541, 542, 543, 545, 14, 546, 547, 548, 69, 549, 550, 551, 552, 972] (by decide +kernel)
set_option maxRecDepth 20000 in
theorem qw_wsL_law_r25 : ∀ w ∈ wsL_law_r25, w ∈ lw_tbl := qw_in [973, 974, 975, 976, 977, 978, 553, 554, 555, 556, 979, 980, 981, 982, 557, 558, 559, 560, 983, 984, 985, 986, 561, 562] (by decide +kernel)
set_option maxRecDepth 20000 in
theorem qw_wsL_law_r26 : ∀ w ∈ wsL_law_r26, w ∈ lw_tbl := qw_in [563, 564, 565, 568, 567, 569, 570, 571, 572, 573, 574, 575, 576, 577, 578, 579, 581, 15, 582, 583, 584, 586, 16, 587] (by decide +kernel)
set_option maxRecDepth 20000 in
theorem qw_wsL_law_r27 : ∀ w ∈ wsL_law_r27, w ∈ lw_tbl := qw_in [588, 589, 590, 592, 17, 593, 594, 987, 988, 989, 990, 991, 995, 992, 993, 994, 996, 998, 47, 999, 1000, 1002, 48, 1003] (by decide +kernel)
set_option maxRecDepth 20000 in
theorem qw_wsL_law_r28 : ∀ w ∈ wsL_law_r28, w ∈ lw_tbl := qw_in [595, 596, 597, 598, 599, 600, 601, 602, 245, 1004, 1005, 1006, 1007, 1008, 751, 603, 604, 605, 606, 246, 1009, 1010, 1011, 1012] (by decide +kernel)
set_option maxRecDepth 20000 in
theorem qw_wsL_law_r29 : ∀ w ∈ wsL_law_r29, w ∈ lw_tbl := qw_in [607, 608, 609, 610, 611, 612, 613, 614, 615, 617, 18, 618, 619, 621, 19, 622, 120, 103, 623, 624, 625, 626, 627, 628] (by decide +kernel)
set_option maxRecDepth 20000 in
theorem qw_wsL_law_r30 : ∀ w ∈ wsL_law_r30, w ∈ lw_tbl := qw_in [629, 1013, 1014, 1015, 1016, 1017, 1019, 49, 1020, 630, 631, 632, 633, 634, 636, 20, 637, 638, 639, 640, 641, 642, 643, 644] (by decide +kernel)
set_option maxRecDepth 20000 in
theorem qw_wsL_law_r31 : ∀ w ∈ wsL_law_r31, w ∈ lw_tbl := qw_in [645, 646, 1021, 1022, 1023, 1024, 1025, 1026, 1027, 1028, 1030, 50, 1031, 1032, 1033, 1034, 647, 648, 649, 650, 651, 653, 21, 654] (by decide +kernel)
set_option maxRecDepth 20000 in
theorem qw_wsL_law_r32 : ∀ w ∈ wsL_law_r32, w ∈ lw_tbl := qw_in [655, 656, 658, 22, 659, 660, 662, 23, 663, 664, 666, 24, 667, 668, 670, 25, 671, 1035, 1036, 1037, 1038, 1039, 1041, 51] (by decide +kernel)
set_option maxRecDepth 20000 in
theorem qw_wsL_law_r33 : ∀ w ∈ wsL_law_r33, w ∈ lw_tbl := qw_in [1042, 1043, 1045, 52, 1046, 1047, 1049, 53, 1050, 672, 673, 674, 675, 676, 677, 678, 679, 680, 681, 682, 1051, 1052, 1053, 1054] (by decide +kernel)
set_option maxRecDepth 20000 in
theorem qw_wsL_law_r34 : ∀ w ∈ wsL_law_r34, w ∈ lw_tbl := qw_in [1055, 1057, 54, 1058, 1059, 1060, 1061, 683, 684, 685, 686, 268, 1062, 1063, 1064, 1065, 755, 687, 688, 689, 690, 691, 692, 693] (by decide +kernel)
set_option maxRecDepth 20000 in
theorem qw_wsL_law_r35 : ∀ w ∈ wsL_law_r35, w ∈ lw_tbl := qw_in [694, 695, 696, 697, 698, 699, 700, 701, 1066, 1067, 1068, 1069, 1070, 1071, 1072, 1073, 702, 703, 704, 705, 162, 1074, 1075, 1076] (by decide +kernel)
set_option maxRecDepth 20000 in
theorem qw_wsL_law_r36 : ∀ w ∈ wsL_law_r36, w ∈ lw_tbl := qw_in [1077, 706, 707, 708, 709, 1078, 1079, 1080, 1081, 710, 711, 712, 713, 714, 715, 716, 717, 718, 719, 720, 721, 1082, 1083, 1084] (by decide +kernel)
set_option maxRecDepth 20000 in
theorem qw_wsL_law_r37 : ∀ w ∈ wsL_law_r37, w ∈ lw_tbl := qw_in [1085, 1086, 1088, 55, 1089, 1090, 1092, 56, 1093] (by decide +kernel)
set_option maxRecDepth 20000 in
theorem qw_wsX6 : ∀ w ∈ wsX60, w ∈ lw_tbl := qw_in [269, 271, 273, 275, 277, 279, 281, 283, 285, 287, 289, 291, 293] (by decide +kernel)
set_option maxRecDepth 20000 in
theorem qw_wsX7 : ∀ w ∈ wsX70, w ∈ lw_tbl := qw_in [758, 760, 762, 764, 766, 768, 770, 772, 774, 776, 778, 780, 782, 784, 786, 788, 790, 792, 794, 796, 798, 800, 802, 804, 806, 808, 810, 812, 814, 816] (by decide +kernel)
set_option maxRecDepth 20000 in
theorem qw_wsX3 : ∀ w ∈ wsX30, w ∈ lw_tbl := qw_in [87, 89] (by decide +kernel)
set_option maxRecDepth 20000 in
theorem qw_wsX2 : ∀ w ∈ wsX20, w ∈ lw_tbl := qw_in [125, 127, 129, 131, 133, 135, 137] (by decide +kernel)
set_option maxRecDepth 20000 in
theorem qw_wsX4 : ∀ w ∈ wsX40, w ∈ lw_tbl := qw_in [163, 165, 167, 169, 171, 173, 175] (by decide +kernel)
set_option maxRecDepth 20000 in
theorem qw_wsX0 : ∀ w ∈ wsX00, w ∈ lw_tbl := qw_in [191, 193, 195] (by decide +kernel)
set_option maxRecDepth 20000 in
theorem qw_wsX5 : ∀ w ∈ wsX50, w ∈ lw_tbl := qw_in [214, 216, 218, 220, 222, 224, 226, 228, 230, 232] (by decide +kernel)
set_option maxRecDepth 20000 in
theorem qw_wsX1 : ∀ w ∈ wsX10, w ∈ lw_tbl := qw_in [247, 249, 251, 253] (by decide +kernel)
set_option maxRecDepth 20000 in
theorem wsL_law_in : ∀ w ∈ wsL_law, w ∈ lw_tbl := (qw_app (qw_app (qw_app (qw_app (qw_app (qw_app (qw_app (qw_app (qw_app (qw_app qw_wsL_law_r1 (qw_app qw_wsL_law_r2 (qw_app qw_wsL_law_r3 (qw_app qw_wsL_law_r4 (qw_app qw_wsL_law_r5 (qw_app qw_wsL_law_r6 (qw_app qw_wsL_law_r7 (qw_app qw_wsL_law_r8 (qw_app qw_wsL_law_r9 (qw_app qw_wsL_law_r10 (qw_app qw_wsL_law_r11 (qw_app qw_wsL_law_r12 (qw_app qw_wsL_law_r13 (qw_app qw_wsL_law_r14 (qw_app qw_wsL_law_r15 (qw_app qw_wsL_law_r16 (qw_app qw_wsL_law_r17 (qw_app qw_wsL_law_r18 (qw_app qw_wsL_law_r19 (qw_app qw_wsL_law_r20 (qw_app qw_wsL_law_r21 (qw_app qw_wsL_law_r22 (qw_app qw_wsL_law_r23 (qw_app qw_wsL_law_r24 (qw_app qw_wsL_law_r25 (qw_app qw_wsL_law_r26 (qw_app qw_wsL_law_r27 (qw_app qw_wsL_law_r28 (qw_app qw_wsL_law_r29 (qw_app qw_wsL_law_r30 (qw_app qw_wsL_law_r31 (qw_app qw_wsL_law_r32 (qw_app qw_wsL_law_r33 (qw_app qw_wsL_law_r34 (qw_app qw_wsL_law_r35 (qw_app qw_wsL_law_r36 qw_wsL_law_r37)))))))))))))))))))))))))))))))))))) qw_wsX6) qw_wsX7) qw_wsX3) qw_wsX2) qw_wsX4) qw_wsX0) qw_wsX5) qw_wsX1) (fun _ h => absurd h List.not_mem_nil))
theorem inX0 : ∀ w ∈ wsX00, w ∈ lw_tbl := qw_wsX0
theorem inX1 : ∀ w ∈ wsX10, w ∈ lw_tbl := qw_wsX1
theorem inX2 : ∀ w ∈ wsX20, w ∈ lw_tbl := qw_wsX2
theorem inX3 : ∀ w ∈ wsX30, w ∈ lw_tbl := qw_wsX3
theorem inX4 : ∀ w ∈ wsX40, w ∈ lw_tbl := qw_wsX4
theorem inX5 : ∀ w ∈ wsX50, w ∈ lw_tbl := qw_wsX5
theorem inX6 : ∀ w ∈ wsX60, w ∈ lw_tbl := qw_wsX6
theorem inX7 : ∀ w ∈ wsX70, w ∈ lw_tbl := qw_wsX7
