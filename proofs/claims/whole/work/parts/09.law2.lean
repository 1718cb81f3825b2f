set_option maxRecDepth 20000 in
theorem ggL_law_X6_init : GoodIn wsL_law wsX6_init := goodIn_r _ [9, 10, 11, 12, 13, 14, 15, 16, 17, 18, 19, 20, 21, 22, 23, 24, 25, 26, 27, 28, 29, 30, 31, 32, 33, 34, 35, 36, 37, 38, 39, 40, 41, 42, 43, 44, 45, 46, 47, 48, 49, 50, 51, 52, 53, 54, 55, 56, 57, 58, 59, 60, 61, 62, 63, 64, 65, 66, 67, 68, 69, 70, 71, 72, 73, 74, 75, 76, 77, 78, 79, 80, 81, 82, 83, 84, 85, 86, 87, 916, 917, 873, 874, 875, 876, 877, 878, 879, 880, 881, 882, 883, 884, 885, 918, 919, 920, 921, 922, 923, 924, 925, 926, 927, 928, 929, 930, 931, 932, 933, 934, 935, 936, 937, 938, 939, 940, 941, 942, 943, 944, 945, 946, 947, 948] (by decide +kernel) (by decide +kernel)
set_option maxRecDepth 20000 in
theorem gL_law_X6_init : GoodIn wsL_law (wsX6_init) := ggL_law_X6_init
set_option maxRecDepth 20000 in
theorem ggL_law_X7_init : GoodIn wsL_law wsX7_init := goodIn_r _ [90, 91, 11, 12, 42, 92, 93, 94, 95, 96, 97, 98, 99, 100, 101, 102, 103, 104, 105, 32, 106, 107, 886, 887, 888, 889, 890, 891, 892, 893, 894, 895, 896, 897, 898, 899, 900, 901, 902, 903, 904, 905, 906, 907, 908, 909, 910, 911, 912, 913, 914, 915] (by decide +kernel) (by decide +kernel)
set_option maxRecDepth 20000 in
theorem gL_law_X7_init : GoodIn wsL_law (wsX7_init) := ggL_law_X7_init
set_option maxRecDepth 20000 in
theorem ggL_law_X6_write : GoodIn wsL_law wsX6_write := goodIn_r _ [111, 16, 112, 113, 114, 15, 115, 116, 48, 873, 874, 875, 876, 877, 878, 879, 880, 881, 882, 883, 884, 885, 916, 917] (by decide +kernel) (by decide +kernel)
set_option maxRecDepth 20000 in
theorem gL_law_X6_write : GoodIn wsL_law (wsV RL 13 RX6 yX6_write wsX6_write) := goodIn_app (goodIn_of _ (by decide +kernel)) ggL_law_X6_write
set_option maxRecDepth 20000 in
theorem ggL_law_X7_write : GoodIn wsL_law wsX7_write := goodIn_r _ [120, 121, 122, 99, 123, 124, 5, 125, 886, 887, 888, 889, 890, 891, 892, 893, 894, 895, 896, 897, 898, 899, 900, 901, 902, 903, 904, 905, 906, 907, 908, 909, 910, 911, 912, 913, 914, 915] (by decide +kernel) (by decide +kernel)
set_option maxRecDepth 20000 in
theorem gL_law_X7_write : GoodIn wsL_law (wsV RL 17 RX7 yX7_write wsX7_write) := goodIn_app (goodIn_of _ (by decide +kernel)) ggL_law_X7_write
set_option maxRecDepth 20000 in
theorem ggL_law_X6_wipe : GoodIn wsL_law wsX6_wipe := goodIn_r _ [129, 16, 130, 873, 874, 875, 876, 877, 878, 879, 880, 881, 882, 883, 884, 885, 916, 917] (by decide +kernel) (by decide +kernel)
set_option maxRecDepth 20000 in
theorem gL_law_X6_wipe : GoodIn wsL_law (wsV RL 18 RX6 yX6_wipe wsX6_wipe) := goodIn_app (goodIn_of _ (by decide +kernel)) ggL_law_X6_wipe
set_option maxRecDepth 20000 in
theorem ggL_law_X7_wipe : GoodIn wsL_law wsX7_wipe := goodIn_r _ [134, 122, 886, 887, 888, 889, 890, 891, 892, 893, 894, 895, 896, 897, 898, 899, 900, 901, 902, 903, 904, 905, 906, 907, 908, 909, 910, 911, 912, 913, 914, 915] (by decide +kernel) (by decide +kernel)
set_option maxRecDepth 20000 in
theorem gL_law_X7_wipe : GoodIn wsL_law (wsV RL 22 RX7 yX7_wipe wsX7_wipe) := goodIn_app (goodIn_of _ (by decide +kernel)) ggL_law_X7_wipe
set_option maxRecDepth 20000 in
theorem ggL_law_X6_fault : GoodIn wsL_law wsX6_fault := goodIn_r _ [138, 16, 20, 139, 140, 141, 15, 142, 116, 48, 143, 144, 145, 19, 146, 147, 148, 149, 150, 151, 152, 153, 154, 155, 156, 157, 158, 159, 160, 161, 162, 163, 164, 165, 166, 167, 168, 169, 170, 52, 53, 171, 172, 173, 174, 175, 176, 177, 178, 179, 180, 181, 182, 54, 55, 56, 873, 874, 875, 876, 877, 878, 879, 880, 881, 882, 883, 884, 885, 916, 917, 918, 919, 920, 921, 922, 923, 924] (by decide +kernel) (by decide +kernel)
set_option maxRecDepth 20000 in
theorem gL_law_X6_fault : GoodIn wsL_law (wsV RL 23 RX6 yX6_fault wsX6_fault) := goodIn_app (goodIn_of _ (by decide +kernel)) ggL_law_X6_fault
set_option maxRecDepth 20000 in
theorem ggL_law_X7_fault : GoodIn wsL_law wsX7_fault := goodIn_r _ [186, 187, 188, 189, 5, 190, 191, 192, 193, 194, 122, 99, 195, 196, 197, 198, 97, 98, 199, 200, 201, 202, 123, 124, 125, 886, 887, 888, 889, 890, 891, 892, 893, 894, 895, 896, 897, 898, 899, 900, 901, 902, 903, 904, 905, 906, 907, 908, 909, 910, 911, 912, 913, 914, 915] (by decide +kernel) (by decide +kernel)
set_option maxRecDepth 20000 in
theorem gL_law_X7_fault : GoodIn wsL_law (wsV RL 26 RX7 yX7_fault wsX7_fault) := goodIn_app (goodIn_of _ (by decide +kernel)) ggL_law_X7_fault
set_option maxRecDepth 20000 in
theorem ggL_law_X6_road : GoodIn wsL_law wsX6_road := goodIn_r _ [206, 16, 20, 21, 25, 30, 207, 33, 208, 209, 139, 140, 141, 15, 142, 116, 48, 143, 144, 145, 19, 146, 147, 148, 149, 150, 151, 152, 153, 154, 155, 156, 157, 158, 159, 160, 161, 162, 163, 164, 165, 166, 167, 168, 169, 170, 52, 53, 171, 172, 173, 174, 175, 176, 177, 178, 179, 180, 181, 182, 54, 55, 56, 210, 211, 212, 24, 213, 63, 214, 61, 215, 62, 216, 217, 218, 219, 220, 221, 222, 223, 224, 873, 874, 875, 876, 877, 878, 879, 880, 881, 882, 883, 884, 885, 932, 933, 934, 918, 919, 920, 921, 922, 923, 924, 916, 917, 925, 926, 927, 928, 929, 930, 931] (by decide +kernel) (by decide +kernel)
set_option maxRecDepth 20000 in
theorem gL_law_X6_road : GoodIn wsL_law (wsV RL 27 RX6 yX6_road wsX6_road) := goodIn_app (goodIn_of _ (by decide +kernel)) ggL_law_X6_road
set_option maxRecDepth 20000 in
theorem ggL_law_X7_road : GoodIn wsL_law wsX7_road := goodIn_r _ [228, 193, 229, 194, 230, 96, 92, 97, 93, 98, 94, 95, 231, 106, 187, 188, 189, 5, 190, 191, 192, 122, 99, 195, 196, 197, 198, 199, 200, 201, 202, 123, 124, 125, 232, 233, 234, 235, 886, 887, 888, 889, 890, 891, 892, 893, 894, 895, 896, 897, 898, 899, 900, 901, 902, 903, 904, 905, 906, 907, 908, 909, 910, 911, 912, 913, 914, 915] (by decide +kernel) (by decide +kernel)
set_option maxRecDepth 20000 in
theorem gL_law_X7_road : GoodIn wsL_law (wsV RL 30 RX7 yX7_road wsX7_road) := goodIn_app (goodIn_of _ (by decide +kernel)) ggL_law_X7_road
set_option maxRecDepth 20000 in
theorem ggL_law_X6_pleat : GoodIn wsL_law wsX6_pleat := goodIn_r _ [239, 21, 240, 241, 25, 242, 243, 244, 245, 246, 19, 247, 147, 248, 249, 250, 24, 251, 218, 63, 219, 217, 252, 253, 254, 255, 53, 52, 873, 874, 875, 876, 877, 878, 879, 880, 881, 882, 883, 884, 885, 918, 919, 920, 921, 922, 923, 924, 925, 926, 927, 928, 929, 930, 931] (by decide +kernel) (by decide +kernel)
set_option maxRecDepth 20000 in
theorem gL_law_X6_pleat : GoodIn wsL_law (wsV RL 31 RX6 yX6_pleat wsX6_pleat) := goodIn_app (goodIn_of _ (by decide +kernel)) ggL_law_X6_pleat
set_option maxRecDepth 20000 in
theorem ggL_law_X7_pleat : GoodIn wsL_law wsX7_pleat := goodIn_r _ [259, 92, 93, 96, 260, 261, 262, 5, 263, 229, 123, 124, 125, 264, 265, 266, 267, 268, 269, 270, 271, 272, 273, 274, 886, 887, 888, 889, 890, 891, 892, 893, 894, 895, 896, 897, 898, 899, 900, 901, 902, 903, 904, 905, 906, 907, 908, 909, 910, 911, 912, 913, 914, 915] (by decide +kernel) (by decide +kernel)
set_option maxRecDepth 20000 in
theorem gL_law_X7_pleat : GoodIn wsL_law (wsV RL 35 RX7 yX7_pleat wsX7_pleat) := goodIn_app (goodIn_of _ (by decide +kernel)) ggL_law_X7_pleat
set_option maxRecDepth 20000 in
theorem ggL_law_X6_traveller : GoodIn wsL_law wsX6_traveller := goodIn_r _ [278, 21, 25, 279, 280, 281, 282, 283, 284, 285, 19, 286, 148, 287, 288, 289, 24, 290, 63, 291, 292, 293, 294, 295, 61, 296, 245, 246, 247, 147, 297, 249, 250, 251, 218, 219, 217, 252, 253, 254, 255, 53, 52, 298, 299, 300, 873, 874, 875, 876, 877, 878, 879, 880, 881, 882, 883, 884, 885, 925, 926, 927, 928, 929, 930, 931, 918, 919, 920, 921, 922, 923, 924] (by decide +kernel) (by decide +kernel)
set_option maxRecDepth 20000 in
theorem gL_law_X6_traveller : GoodIn wsL_law (wsV RL 36 RX6 yX6_traveller wsX6_traveller) := goodIn_app (goodIn_of _ (by decide +kernel)) ggL_law_X6_traveller
set_option maxRecDepth 20000 in
theorem ggL_law_X7_traveller : GoodIn wsL_law wsX7_traveller := goodIn_r _ [304, 96, 94, 95, 305, 306, 307, 5, 308, 230, 123, 124, 125, 309, 310, 311, 312, 313, 314, 315, 316, 260, 261, 262, 263, 229, 317, 318, 319, 320, 264, 265, 266, 267, 268, 93, 92, 269, 270, 271, 272, 273, 274, 321, 322, 323, 886, 887, 888, 889, 890, 891, 892, 893, 894, 895, 896, 897, 898, 899, 900, 901, 902, 903, 904, 905, 906, 907, 908, 909, 910, 911, 912, 913, 914, 915] (by decide +kernel) (by decide +kernel)
set_option maxRecDepth 20000 in
theorem gL_law_X7_traveller : GoodIn wsL_law (wsV RL 39 RX7 yX7_traveller wsX7_traveller) := goodIn_app (goodIn_of _ (by decide +kernel)) ggL_law_X7_traveller
set_option maxRecDepth 20000 in
theorem ggL_law_X6_step : GoodIn wsL_law wsX6_step := goodIn_r _ [327, 21, 25, 30, 279, 283, 284, 285, 19, 286, 148, 328, 329, 330, 24, 331, 63, 62, 332, 333, 288, 289, 290, 291, 292, 293, 294, 295, 61, 296, 245, 246, 247, 147, 297, 249, 250, 251, 218, 219, 217, 252, 253, 254, 255, 53, 52, 298, 299, 300, 334, 335, 336, 29, 337, 69, 338, 339, 340, 176, 177, 178, 341, 342, 343, 344, 220, 345, 346, 347, 348, 349, 216, 873, 874, 875, 876, 877, 878, 879, 880, 881, 882, 883, 884, 885, 925, 926, 927, 928, 929, 930, 931, 918, 919, 920, 921, 922, 923, 924, 932, 933, 934] (by decide +kernel) (by decide +kernel)
set_option maxRecDepth 20000 in
theorem gL_law_X6_step : GoodIn wsL_law (wsV RL 40 RX6 yX6_step wsX6_step) := goodIn_app (goodIn_of _ (by decide +kernel)) ggL_law_X6_step
set_option maxRecDepth 20000 in
theorem ggL_law_X7_step : GoodIn wsL_law wsX7_step := goodIn_r _ [353, 96, 305, 306, 307, 5, 308, 230, 123, 124, 125, 354, 355, 356, 357, 313, 314, 315, 316, 260, 261, 262, 263, 229, 317, 318, 319, 320, 95, 264, 265, 266, 267, 268, 93, 92, 269, 270, 271, 272, 273, 274, 321, 322, 323, 358, 359, 360, 361, 100, 362, 231, 363, 364, 365, 366, 94, 886, 887, 888, 889, 890, 891, 892, 893, 894, 895, 896, 897, 898, 899, 900, 901, 902, 903, 904, 905, 906, 907, 908, 909, 910, 911, 912, 913, 914, 915] (by decide +kernel) (by decide +kernel)
set_option maxRecDepth 20000 in
theorem gL_law_X7_step : GoodIn wsL_law (wsV RL 44 RX7 yX7_step wsX7_step) := goodIn_app (goodIn_of _ (by decide +kernel)) ggL_law_X7_step
set_option maxRecDepth 20000 in
theorem ggL_law_X6_rest : GoodIn wsL_law wsX6_rest := goodIn_r _ [370, 21, 30, 25, 282, 283, 284, 285, 19, 286, 148, 334, 335, 336, 29, 337, 69, 338, 339, 340, 176, 177, 178, 341, 342, 343, 24, 344, 61, 62, 217, 218, 219, 220, 371, 372, 373, 374, 63, 216, 375, 376, 377, 378, 379, 380, 381, 873, 874, 875, 876, 877, 878, 879, 880, 881, 882, 883, 884, 885, 925, 926, 927, 928, 929, 930, 931, 918, 919, 920, 921, 922, 923, 924, 932, 933, 934] (by decide +kernel) (by decide +kernel)
set_option maxRecDepth 20000 in
theorem gL_law_X6_rest : GoodIn wsL_law (wsV RL 45 RX6 yX6_rest wsX6_rest) := goodIn_app (goodIn_of _ (by decide +kernel)) ggL_law_X6_rest
set_option maxRecDepth 20000 in
theorem ggL_law_X7_rest : GoodIn wsL_law wsX7_rest := goodIn_r _ [385, 96, 305, 306, 307, 5, 308, 230, 123, 124, 125, 358, 359, 360, 361, 100, 362, 231, 386, 387, 388, 389, 390, 391, 392, 393, 94, 272, 273, 274, 886, 887, 888, 889, 890, 891, 892, 893, 894, 895, 896, 897, 898, 899, 900, 901, 902, 903, 904, 905, 906, 907, 908, 909, 910, 911, 912, 913, 914, 915] (by decide +kernel) (by decide +kernel)
set_option maxRecDepth 20000 in
theorem gL_law_X7_rest : GoodIn wsL_law (wsV RL 48 RX7 yX7_rest wsX7_rest) := goodIn_app (goodIn_of _ (by decide +kernel)) ggL_law_X7_rest
set_option maxRecDepth 20000 in
theorem ggL_law_X6_grease : GoodIn wsL_law wsX6_grease := goodIn_r _ [397, 21, 25, 30, 244, 245, 246, 19, 247, 147, 398, 399, 400, 24, 401, 63, 217, 296, 334, 335, 336, 29, 337, 69, 338, 339, 340, 176, 177, 178, 341, 342, 343, 344, 61, 62, 218, 219, 220, 402, 403, 404, 405, 248, 249, 250, 251, 252, 253, 254, 255, 53, 52, 873, 874, 875, 876, 877, 878, 879, 880, 881, 882, 883, 884, 885, 918, 919, 920, 921, 922, 923, 924, 925, 926, 927, 928, 929, 930, 931, 932, 933, 934] (by decide +kernel) (by decide +kernel)
set_option maxRecDepth 20000 in
theorem gL_law_X6_grease : GoodIn wsL_law (wsV RL 49 RX6 yX6_grease wsX6_grease) := goodIn_app (goodIn_of _ (by decide +kernel)) ggL_law_X6_grease
set_option maxRecDepth 20000 in
theorem ggL_law_X7_grease : GoodIn wsL_law wsX7_grease := goodIn_r _ [409, 96, 260, 261, 262, 5, 263, 229, 123, 124, 125, 269, 270, 271, 358, 359, 360, 361, 100, 362, 231, 264, 265, 266, 267, 268, 93, 92, 272, 273, 274, 886, 887, 888, 889, 890, 891, 892, 893, 894, 895, 896, 897, 898, 899, 900, 901, 902, 903, 904, 905, 906, 907, 908, 909, 910, 911, 912, 913, 914, 915] (by decide +kernel) (by decide +kernel)
set_option maxRecDepth 20000 in
theorem gL_law_X7_grease : GoodIn wsL_law (wsV RL 52 RX7 yX7_grease wsX7_grease) := goodIn_app (goodIn_of _ (by decide +kernel)) ggL_law_X7_grease
