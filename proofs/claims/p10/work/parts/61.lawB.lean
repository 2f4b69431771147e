set_option maxRecDepth 20000 in
theorem ggL_row_X8_row : GoodIn wsL_rowN wsX8_rowN := goodIn_ca (goodIn_r _ [6, 7, 8, 9, 10, 11, 12, 13, 14, 15, 16, 17, 18, 19, 20, 21, 22] (by decide +kernel) (by decide +kernel)) (goodIn_sub (fun _ h => List.mem_cons_of_mem _ (List.mem_append_right _ h)) (by decide +kernel))
set_option maxRecDepth 20000 in
theorem gL_row_X8_row : GoodIn wsL_rowN (wsV RL 7 RX8 yX8_row wsX8_rowN) := goodIn_app (goodIn_of _ (by decide +kernel)) ggL_row_X8_row
set_option maxRecDepth 20000 in
theorem ggL_law_X8_init : GoodIn wsL_law wsX8_init := goodIn_r _ [9, 10, 11, 12, 13, 14, 15, 16, 17, 18, 19, 20, 21, 22, 23, 24, 25, 26, 27, 28, 29, 30, 31, 32, 33, 34, 35, 36, 37, 38, 39, 40, 41, 42, 43, 44, 45, 46, 47, 48, 49, 50, 51, 6, 52, 53, 54, 55, 56, 57, 58, 59, 60, 61, 62, 63, 64, 65, 66, 67, 68, 69, 70, 71, 72, 73, 74, 75, 76, 77, 78, 79, 80, 81, 82, 83, 84, 85, 86, 87, 88, 89, 90, 91, 92, 93, 94, 95, 96, 97, 98, 99, 100, 101, 882, 883, 884, 885, 886, 887, 888, 889, 890, 891, 892, 917, 918, 919, 920, 921, 922, 923, 924, 925, 926, 927, 928, 929, 930, 931, 932, 933, 934, 935, 936, 937, 938, 939, 940, 941, 942, 943, 944] (by decide +kernel) (by decide +kernel)
set_option maxRecDepth 20000 in
theorem gL_law_X8_init : GoodIn wsL_law (wsX8_init) := ggL_law_X8_init
set_option maxRecDepth 20000 in
theorem ggL_law_X9_init : GoodIn wsL_law wsX9_init := goodIn_r _ [104, 105, 11, 12, 6, 106, 13, 107, 108, 109, 110, 111, 112, 113, 114, 115, 116, 117, 118, 119, 120, 121, 893, 894, 895, 896, 897, 898, 899, 900, 901, 902, 903, 904, 905, 906, 907, 908, 909, 910, 911, 912, 913, 914, 915, 916] (by decide +kernel) (by decide +kernel)
set_option maxRecDepth 20000 in
theorem gL_law_X9_init : GoodIn wsL_law (wsX9_init) := ggL_law_X9_init
set_option maxRecDepth 20000 in
theorem ggL_law_X8_column : GoodIn wsL_law wsX8_column := goodIn_r _ [125, 36, 23, 15, 14, 126, 127, 128, 129, 130, 131, 132, 35, 133, 76, 77, 134, 135, 136, 137, 75, 138, 139, 140, 141, 142, 143, 144, 22, 145, 60, 59, 146, 147, 148, 149, 150, 151, 152, 153, 154, 155, 2, 156, 44, 19, 157, 158, 159, 43, 160, 95, 161, 162, 163, 18, 164, 55, 52, 165, 166, 167, 168, 53, 169, 170, 171, 172, 173, 174, 175, 176, 177, 178, 179, 180, 181, 182, 183, 54, 184, 185, 186, 882, 883, 884, 885, 886, 887, 888, 889, 890, 891, 892, 928, 929, 930, 921, 922, 933, 934, 935, 936, 937, 938, 939, 940, 941, 917, 918, 919, 920] (by decide +kernel) (by decide +kernel)
set_option maxRecDepth 20000 in
theorem gL_law_X8_column : GoodIn wsL_law (wsV RL 19 RX8 yX8_column wsX8_column) := goodIn_app (goodIn_of _ (by decide +kernel)) ggL_law_X8_column
set_option maxRecDepth 20000 in
theorem ggL_law_X9_column : GoodIn wsL_law wsX9_column := goodIn_r _ [190, 191, 192, 193, 194, 121, 195, 196, 197, 5, 198, 199, 200, 201, 202, 203, 107, 109, 204, 205, 206, 207, 208, 209, 210, 211, 212, 213, 214, 215, 216, 217, 218, 219, 220, 221, 222, 223, 224, 225, 226, 227, 108, 893, 894, 895, 896, 897, 898, 899, 900, 901, 902, 903, 904, 905, 906, 907, 908, 909, 910, 911, 912, 913, 914, 915, 916] (by decide +kernel) (by decide +kernel)
set_option maxRecDepth 20000 in
theorem gL_law_X9_column : GoodIn wsL_law (wsV RL 23 RX9 yX9_column wsX9_column) := goodIn_app (goodIn_of _ (by decide +kernel)) ggL_law_X9_column
set_option maxRecDepth 20000 in
theorem ggL_law_X8_planes : GoodIn wsL_law wsX8_planes := goodIn_r _ [231, 40, 23, 15, 14, 232, 233, 234, 39, 235, 82, 236, 237, 238, 239, 81, 240, 143, 144, 22, 145, 60, 59, 241, 242, 243, 149, 150, 151, 152, 244, 245, 2, 246, 247, 185, 186, 248, 249, 250, 251, 252, 253, 254, 255, 174, 175, 176, 177, 178, 179, 153, 154, 155, 156, 44, 19, 157, 158, 159, 43, 160, 95, 161, 162, 163, 18, 164, 55, 52, 165, 166, 167, 168, 53, 169, 170, 171, 172, 173, 180, 181, 182, 183, 54, 184, 127, 128, 129, 882, 883, 884, 885, 886, 887, 888, 889, 890, 891, 892, 931, 932, 921, 922, 933, 934, 935, 936, 937, 938, 939, 940, 941, 917, 918, 919, 920] (by decide +kernel) (by decide +kernel)
set_option maxRecDepth 20000 in
theorem gL_law_X8_planes : GoodIn wsL_law (wsV RL 24 RX8 yX8_planes wsX8_planes) := goodIn_app (goodIn_of _ (by decide +kernel)) ggL_law_X8_planes
set_option maxRecDepth 20000 in
theorem ggL_law_X9_planes : GoodIn wsL_law wsX9_planes := goodIn_r _ [259, 191, 192, 194, 110, 109, 121, 195, 196, 197, 5, 198, 199, 193, 260, 261, 262, 263, 107, 217, 218, 219, 220, 221, 222, 223, 224, 225, 226, 227, 108, 893, 894, 895, 896, 897, 898, 899, 900, 901, 902, 903, 904, 905, 906, 907, 908, 909, 910, 911, 912, 913, 914, 915, 916] (by decide +kernel) (by decide +kernel)
set_option maxRecDepth 20000 in
theorem gL_law_X9_planes : GoodIn wsL_law (wsV RL 27 RX9 yX9_planes wsX9_planes) := goodIn_app (goodIn_of _ (by decide +kernel)) ggL_law_X9_planes
set_option maxRecDepth 20000 in
theorem ggL_law_X8_adds : GoodIn wsL_law wsX8_adds := goodIn_r _ [267, 15, 14, 268, 269, 2, 270, 153, 154, 155, 156, 44, 19, 157, 158, 159, 43, 160, 95, 161, 162, 163, 18, 164, 55, 52, 165, 166, 167, 168, 53, 169, 170, 171, 172, 173, 174, 175, 176, 177, 178, 179, 180, 181, 182, 183, 54, 184, 127, 128, 129, 185, 186, 882, 883, 884, 885, 886, 887, 888, 889, 890, 891, 892, 933, 934, 935, 936, 937, 938, 939, 940, 941, 917, 918, 919, 920] (by decide +kernel) (by decide +kernel)
set_option maxRecDepth 20000 in
theorem gL_law_X8_adds : GoodIn wsL_law (wsV RL 28 RX8 yX8_adds wsX8_adds) := goodIn_app (goodIn_of _ (by decide +kernel)) ggL_law_X8_adds
set_option maxRecDepth 20000 in
theorem ggL_law_X9_adds : GoodIn wsL_law wsX9_adds := goodIn_r _ [274, 191, 121, 108, 275, 276, 5, 277, 278, 214, 215, 216, 893, 894, 895, 896, 897, 898, 899, 900, 901, 902, 903, 904, 905, 906, 907, 908, 909, 910, 911, 912, 913, 914, 915, 916] (by decide +kernel) (by decide +kernel)
set_option maxRecDepth 20000 in
theorem gL_law_X9_adds : GoodIn wsL_law (wsV RL 32 RX9 yX9_adds wsX9_adds) := goodIn_app (goodIn_of _ (by decide +kernel)) ggL_law_X9_adds
set_option maxRecDepth 20000 in
theorem ggL_law_X8_puts : GoodIn wsL_law wsX8_puts := goodIn_r _ [282, 14, 268, 269, 2, 270, 283, 284, 285, 286, 15, 153, 154, 155, 156, 44, 19, 157, 158, 159, 43, 160, 95, 161, 162, 163, 18, 164, 55, 52, 165, 166, 167, 168, 53, 169, 170, 171, 172, 173, 174, 175, 176, 177, 178, 179, 180, 181, 182, 183, 54, 184, 127, 128, 129, 185, 186, 287, 288, 289, 290, 27, 291, 292, 293, 26, 294, 65, 295, 296, 297, 298, 64, 882, 883, 884, 885, 886, 887, 888, 889, 890, 891, 892, 933, 934, 935, 936, 937, 938, 939, 940, 941, 917, 918, 919, 920, 923, 924] (by decide +kernel) (by decide +kernel)
set_option maxRecDepth 20000 in
theorem gL_law_X8_puts : GoodIn wsL_law (wsV RL 33 RX8 yX8_puts wsX8_puts) := goodIn_app (goodIn_of _ (by decide +kernel)) ggL_law_X8_puts
set_option maxRecDepth 20000 in
theorem ggL_law_X9_puts : GoodIn wsL_law wsX9_puts := goodIn_r _ [302, 191, 108, 303, 275, 276, 5, 277, 278, 214, 215, 216, 304, 305, 306, 307, 121, 308, 309, 310, 311, 113, 111, 312, 313, 314, 315, 316, 317, 318, 319, 320, 321, 322, 323, 112, 324, 325, 326, 327, 328, 329, 330, 221, 222, 223, 331, 332, 333, 334, 106, 893, 894, 895, 896, 897, 898, 899, 900, 901, 902, 903, 904, 905, 906, 907, 908, 909, 910, 911, 912, 913, 914, 915, 916] (by decide +kernel) (by decide +kernel)
set_option maxRecDepth 20000 in
theorem gL_law_X9_puts : GoodIn wsL_law (wsV RL 37 RX9 yX9_puts wsX9_puts) := goodIn_app (goodIn_of _ (by decide +kernel)) ggL_law_X9_puts
set_option maxRecDepth 20000 in
theorem ggL_law_X8_cuts : GoodIn wsL_law wsX8_cuts := goodIn_r _ [338, 14, 15, 283, 284, 285, 2, 286, 153, 154, 155, 156, 44, 19, 157, 158, 159, 43, 160, 95, 161, 162, 163, 18, 164, 55, 52, 165, 166, 167, 168, 53, 169, 170, 171, 172, 173, 174, 175, 176, 177, 178, 179, 180, 181, 182, 183, 54, 184, 127, 128, 129, 185, 186, 882, 883, 884, 885, 886, 887, 888, 889, 890, 891, 892, 933, 934, 935, 936, 937, 938, 939, 940, 941, 917, 918, 919, 920] (by decide +kernel) (by decide +kernel)
set_option maxRecDepth 20000 in
theorem gL_law_X8_cuts : GoodIn wsL_law (wsV RL 38 RX8 yX8_cuts wsX8_cuts) := goodIn_app (goodIn_of _ (by decide +kernel)) ggL_law_X8_cuts
set_option maxRecDepth 20000 in
theorem ggL_law_X9_cuts : GoodIn wsL_law wsX9_cuts := goodIn_r _ [342, 191, 108, 121, 304, 305, 306, 5, 307, 214, 215, 216, 893, 894, 895, 896, 897, 898, 899, 900, 901, 902, 903, 904, 905, 906, 907, 908, 909, 910, 911, 912, 913, 914, 915, 916] (by decide +kernel) (by decide +kernel)
set_option maxRecDepth 20000 in
theorem gL_law_X9_cuts : GoodIn wsL_law (wsV RL 41 RX9 yX9_cuts wsX9_cuts) := goodIn_app (goodIn_of _ (by decide +kernel)) ggL_law_X9_cuts
set_option maxRecDepth 20000 in
theorem ggL_law_X8_swaps : GoodIn wsL_law wsX8_swaps := goodIn_r _ [346, 283, 284, 285, 2, 286, 15, 347, 348, 349, 350, 14, 153, 154, 155, 156, 44, 19, 157, 158, 159, 43, 160, 95, 161, 162, 163, 18, 164, 55, 52, 165, 166, 167, 168, 53, 169, 170, 171, 172, 173, 174, 175, 176, 177, 178, 179, 180, 181, 182, 183, 54, 184, 127, 128, 129, 185, 186, 882, 883, 884, 885, 886, 887, 888, 889, 890, 891, 892, 933, 934, 935, 936, 937, 938, 939, 940, 941, 917, 918, 919, 920] (by decide +kernel) (by decide +kernel)
set_option maxRecDepth 20000 in
theorem gL_law_X8_swaps : GoodIn wsL_law (wsV RL 42 RX8 yX8_swaps wsX8_swaps) := goodIn_app (goodIn_of _ (by decide +kernel)) ggL_law_X8_swaps
set_option maxRecDepth 20000 in
theorem ggL_law_X9_swaps : GoodIn wsL_law wsX9_swaps := goodIn_r _ [354, 191, 304, 305, 306, 5, 307, 121, 214, 215, 216, 308, 309, 310, 311, 113, 108, 111, 312, 313, 314, 315, 316, 317, 318, 319, 320, 321, 322, 323, 112, 324, 325, 326, 355, 356, 357, 358, 327, 328, 329, 330, 221, 222, 223, 893, 894, 895, 896, 897, 898, 899, 900, 901, 902, 903, 904, 905, 906, 907, 908, 909, 910, 911, 912, 913, 914, 915, 916] (by decide +kernel) (by decide +kernel)
set_option maxRecDepth 20000 in
theorem gL_law_X9_swaps : GoodIn wsL_law (wsV RL 45 RX9 yX9_swaps wsX9_swaps) := goodIn_app (goodIn_of _ (by decide +kernel)) ggL_law_X9_swaps
set_option maxRecDepth 20000 in
theorem ggL_law_X8_reverses : GoodIn wsL_law wsX8_reverses := goodIn_r _ [362, 363, 364, 365, 2, 366, 15, 347, 348, 349, 350, 14, 153, 154, 155, 156, 44, 19, 157, 158, 159, 43, 160, 95, 161, 162, 163, 18, 164, 55, 52, 165, 166, 167, 168, 53, 169, 170, 171, 172, 173, 174, 175, 176, 177, 178, 179, 180, 181, 182, 183, 54, 184, 127, 128, 129, 185, 186, 882, 883, 884, 885, 886, 887, 888, 889, 890, 891, 892, 933, 934, 935, 936, 937, 938, 939, 940, 941, 917, 918, 919, 920] (by decide +kernel) (by decide +kernel)
set_option maxRecDepth 20000 in
theorem gL_law_X8_reverses : GoodIn wsL_law (wsV RL 46 RX8 yX8_reverses wsX8_reverses) := goodIn_app (goodIn_of _ (by decide +kernel)) ggL_law_X8_reverses
set_option maxRecDepth 20000 in
theorem ggL_law_X9_reverses : GoodIn wsL_law wsX9_reverses := goodIn_r _ [370, 191, 371, 372, 373, 5, 374, 121, 308, 309, 310, 311, 113, 108, 111, 312, 313, 314, 315, 316, 317, 318, 319, 320, 321, 322, 323, 112, 324, 325, 326, 355, 356, 357, 358, 327, 328, 329, 330, 221, 222, 223, 893, 894, 895, 896, 897, 898, 899, 900, 901, 902, 903, 904, 905, 906, 907, 908, 909, 910, 911, 912, 913, 914, 915, 916] (by decide +kernel) (by decide +kernel)
set_option maxRecDepth 20000 in
theorem gL_law_X9_reverses : GoodIn wsL_law (wsV RL 49 RX9 yX9_reverses wsX9_reverses) := goodIn_app (goodIn_of _ (by decide +kernel)) ggL_law_X9_reverses
set_option maxRecDepth 20000 in
theorem ggL_law_X8_sign : GoodIn wsL_law wsX8_sign := goodIn_r _ [378, 23, 379, 380, 381, 22, 382, 60, 59, 882, 883, 884, 885, 886, 887, 888, 889, 890, 891, 892, 921, 922] (by decide +kernel) (by decide +kernel)
set_option maxRecDepth 20000 in
theorem gL_law_X8_sign : GoodIn wsL_law (wsV RL 50 RX8 yX8_sign wsX8_sign) := goodIn_app (goodIn_of _ (by decide +kernel)) ggL_law_X8_sign
set_option maxRecDepth 20000 in
theorem ggL_law_X9_sign : GoodIn wsL_law wsX9_sign := goodIn_r _ [386, 191, 199, 107, 893, 894, 895, 896, 897, 898, 899, 900, 901, 902, 903, 904, 905, 906, 907, 908, 909, 910, 911, 912, 913, 914, 915, 916] (by decide +kernel) (by decide +kernel)
set_option maxRecDepth 20000 in
theorem gL_law_X9_sign : GoodIn wsL_law (wsV RL 53 RX9 yX9_sign wsX9_sign) := goodIn_app (goodIn_of _ (by decide +kernel)) ggL_law_X9_sign
set_option maxRecDepth 20000 in
theorem ggL_law_X8_end : GoodIn wsL_law wsX8_end := goodIn_r _ [390, 23, 149, 150, 151, 22, 152, 60, 882, 883, 884, 885, 886, 887, 888, 889, 890, 891, 892, 921, 922] (by decide +kernel) (by decide +kernel)
set_option maxRecDepth 20000 in
theorem gL_law_X8_end : GoodIn wsL_law (wsV RL 54 RX8 yX8_end wsX8_end) := goodIn_app (goodIn_of _ (by decide +kernel)) ggL_law_X8_end
set_option maxRecDepth 20000 in
theorem ggL_law_X9_end : GoodIn wsL_law wsX9_end := goodIn_r _ [394, 191, 199, 214, 215, 5, 216, 893, 894, 895, 896, 897, 898, 899, 900, 901, 902, 903, 904, 905, 906, 907, 908, 909, 910, 911, 912, 913, 914, 915, 916] (by decide +kernel) (by decide +kernel)
set_option maxRecDepth 20000 in
theorem gL_law_X9_end : GoodIn wsL_law (wsV RL 58 RX9 yX9_end wsX9_end) := goodIn_app (goodIn_of _ (by decide +kernel)) ggL_law_X9_end
set_option maxRecDepth 20000 in
theorem ggL_law_X8_level : GoodIn wsL_law wsX8_level := goodIn_r _ [398, 19, 15, 399, 400, 2, 401, 251, 252, 253, 254, 255, 174, 175, 176, 177, 178, 179, 402, 403, 404, 405, 27, 291, 292, 293, 26, 294, 65, 295, 296, 297, 298, 64, 882, 883, 884, 885, 886, 887, 888, 889, 890, 891, 892, 917, 918, 919, 920, 923, 924] (by decide +kernel) (by decide +kernel)
set_option maxRecDepth 20000 in
theorem gL_law_X8_level : GoodIn wsL_law (wsV RL 59 RX8 yX8_level wsX8_level) := goodIn_app (goodIn_of _ (by decide +kernel)) ggL_law_X8_level
set_option maxRecDepth 20000 in
theorem ggL_law_X9_level : GoodIn wsL_law wsX9_level := goodIn_r _ [409, 191, 410, 121, 108, 111, 303, 214, 215, 5, 216, 312, 313, 314, 315, 316, 317, 318, 319, 320, 321, 322, 323, 112, 324, 325, 326, 221, 222, 223, 331, 332, 333, 334, 106, 411, 412, 413, 414, 893, 894, 895, 896, 897, 898, 899, 900, 901, 902, 903, 904, 905, 906, 907, 908, 909, 910, 911, 912, 913, 914, 915, 916] (by decide +kernel) (by decide +kernel)
set_option maxRecDepth 20000 in
theorem gL_law_X9_level : GoodIn wsL_law (wsV RL 62 RX9 yX9_level wsX9_level) := goodIn_app (goodIn_of _ (by decide +kernel)) ggL_law_X9_level
set_option maxRecDepth 20000 in
theorem ggL_law_X8_spot : GoodIn wsL_law wsX8_spot := goodIn_r _ [418, 14, 19, 15, 283, 284, 285, 2, 286, 287, 288, 289, 290, 27, 291, 292, 293, 26, 294, 65, 295, 296, 297, 298, 64, 419, 420, 421, 248, 249, 250, 251, 252, 253, 254, 255, 174, 175, 176, 177, 178, 179, 247, 185, 186, 882, 883, 884, 885, 886, 887, 888, 889, 890, 891, 892, 917, 918, 919, 920, 923, 924] (by decide +kernel) (by decide +kernel)
set_option maxRecDepth 20000 in
theorem gL_law_X8_spot : GoodIn wsL_law (wsV RL 63 RX8 yX8_spot wsX8_spot) := goodIn_app (goodIn_of _ (by decide +kernel)) ggL_law_X8_spot
set_option maxRecDepth 20000 in
theorem ggL_law_X9_spot : GoodIn wsL_law wsX9_spot := goodIn_r _ [425, 191, 426, 111, 303, 108, 214, 215, 5, 216, 304, 305, 306, 307, 121, 312, 313, 314, 315, 316, 317, 318, 319, 320, 321, 322, 323, 112, 331, 332, 333, 334, 106, 893, 894, 895, 896, 897, 898, 899, 900, 901, 902, 903, 904, 905, 906, 907, 908, 909, 910, 911, 912, 913, 914, 915, 916] (by decide +kernel) (by decide +kernel)
set_option maxRecDepth 20000 in
theorem gL_law_X9_spot : GoodIn wsL_law (wsV RL 66 RX9 yX9_spot wsX9_spot) := goodIn_app (goodIn_of _ (by decide +kernel)) ggL_law_X9_spot
set_option maxRecDepth 20000 in
theorem ggL_law_X8_from : GoodIn wsL_law wsX8_from := goodIn_r _ [430, 19, 14, 283, 284, 285, 2, 286, 15, 431, 432, 433, 18, 434, 52, 53, 165, 166, 167, 168, 55, 180, 181, 182, 183, 54, 184, 127, 128, 129, 185, 186, 287, 288, 289, 290, 27, 291, 292, 293, 26, 294, 65, 295, 296, 297, 298, 64, 882, 883, 884, 885, 886, 887, 888, 889, 890, 891, 892, 917, 918, 919, 920, 923, 924] (by decide +kernel) (by decide +kernel)
set_option maxRecDepth 20000 in
theorem gL_law_X8_from : GoodIn wsL_law (wsV RL 67 RX8 yX8_from wsX8_from) := goodIn_app (goodIn_of _ (by decide +kernel)) ggL_law_X8_from
set_option maxRecDepth 20000 in
theorem ggL_law_X9_from : GoodIn wsL_law wsX9_from := goodIn_r _ [438, 191, 426, 303, 108, 111, 214, 215, 5, 216, 304, 305, 306, 307, 121, 312, 313, 314, 315, 316, 317, 318, 319, 320, 321, 322, 323, 112, 331, 332, 333, 334, 106, 893, 894, 895, 896, 897, 898, 899, 900, 901, 902, 903, 904, 905, 906, 907, 908, 909, 910, 911, 912, 913, 914, 915, 916] (by decide +kernel) (by decide +kernel)
set_option maxRecDepth 20000 in
theorem gL_law_X9_from : GoodIn wsL_law (wsV RL 70 RX9 yX9_from wsX9_from) := goodIn_app (goodIn_of _ (by decide +kernel)) ggL_law_X9_from
set_option maxRecDepth 20000 in
theorem ggL_law_X8_runs : GoodIn wsL_law wsX8_runs := goodIn_r _ [442, 27, 19, 15, 291, 292, 293, 26, 294, 65, 399, 400, 2, 401, 251, 252, 253, 254, 255, 174, 175, 176, 177, 178, 179, 295, 296, 297, 298, 64, 882, 883, 884, 885, 886, 887, 888, 889, 890, 891, 892, 917, 918, 919, 920, 923, 924] (by decide +kernel) (by decide +kernel)
set_option maxRecDepth 20000 in
theorem gL_law_X8_runs : GoodIn wsL_law (wsV RL 71 RX8 yX8_runs wsX8_runs) := goodIn_app (goodIn_of _ (by decide +kernel)) ggL_law_X8_runs
set_option maxRecDepth 20000 in
theorem ggL_law_X9_runs : GoodIn wsL_law wsX9_runs := goodIn_r _ [446, 191, 303, 316, 317, 318, 5, 319, 121, 111, 411, 412, 413, 414, 108, 221, 222, 223, 331, 332, 333, 334, 106, 320, 321, 322, 323, 112, 893, 894, 895, 896, 897, 898, 899, 900, 901, 902, 903, 904, 905, 906, 907, 908, 909, 910, 911, 912, 913, 914, 915, 916] (by decide +kernel) (by decide +kernel)
set_option maxRecDepth 20000 in
theorem gL_law_X9_runs : GoodIn wsL_law (wsV RL 74 RX9 yX9_runs wsX9_runs) := goodIn_app (goodIn_of _ (by decide +kernel)) ggL_law_X9_runs
set_option maxRecDepth 20000 in
theorem ggL_law_X8_thrift : GoodIn wsL_law wsX8_thrift := goodIn_r _ [450, 44, 14, 15, 27, 451, 452, 453, 43, 454, 95, 92, 93, 94, 455, 456, 457, 458, 87, 459, 460, 461, 462, 463, 464, 465, 466, 467, 468, 469, 470, 471, 472, 473, 89, 474, 475, 476, 477, 478, 479, 480, 481, 90, 482, 127, 128, 129, 483, 484, 485, 486, 88, 487, 488, 489, 490, 91, 291, 292, 293, 26, 294, 65, 295, 296, 297, 298, 64, 882, 883, 884, 885, 886, 887, 888, 889, 890, 891, 892, 933, 934, 935, 936, 937, 938, 939, 940, 941, 923, 924] (by decide +kernel) (by decide +kernel)
set_option maxRecDepth 20000 in
theorem gL_law_X8_thrift : GoodIn wsL_law (wsV RL 75 RX8 yX8_thrift wsX8_thrift) := goodIn_app (goodIn_of _ (by decide +kernel)) ggL_law_X8_thrift
set_option maxRecDepth 20000 in
theorem ggL_law_X9_thrift : GoodIn wsL_law wsX9_thrift := goodIn_r _ [494, 191, 495, 303, 116, 316, 317, 318, 5, 319, 121, 111, 496, 497, 498, 499, 115, 114, 411, 412, 413, 414, 108, 221, 222, 223, 320, 321, 322, 323, 112, 331, 332, 333, 334, 106, 893, 894, 895, 896, 897, 898, 899, 900, 901, 902, 903, 904, 905, 906, 907, 908, 909, 910, 911, 912, 913, 914, 915, 916] (by decide +kernel) (by decide +kernel)
set_option maxRecDepth 20000 in
theorem gL_law_X9_thrift : GoodIn wsL_law (wsV RL 78 RX9 yX9_thrift wsX9_thrift) := goodIn_app (goodIn_of _ (by decide +kernel)) ggL_law_X9_thrift
set_option maxRecDepth 20000 in
theorem ggL_law_X8_kth : GoodIn wsL_law wsX8_kth := goodIn_r _ [503, 31, 14, 363, 364, 365, 2, 366, 15, 504, 505, 506, 30, 507, 69, 508, 509, 510, 511, 512, 513, 514, 515, 71, 70, 516, 517, 518, 519, 520, 521, 522, 523, 524, 525, 526, 527, 528, 529, 530, 531, 532, 402, 403, 404, 405, 27, 291, 292, 293, 26, 294, 65, 295, 296, 297, 298, 64, 882, 883, 884, 885, 886, 887, 888, 889, 890, 891, 892, 925, 926, 927, 923, 924] (by decide +kernel) (by decide +kernel)
set_option maxRecDepth 20000 in
theorem gL_law_X8_kth : GoodIn wsL_law (wsV RL 79 RX8 yX8_kth wsX8_kth) := goodIn_app (goodIn_of _ (by decide +kernel)) ggL_law_X8_kth
set_option maxRecDepth 20000 in
theorem ggL_law_X9_kth : GoodIn wsL_law wsX9_kth := goodIn_r _ [536, 191, 118, 108, 303, 371, 372, 373, 5, 374, 121, 537, 538, 539, 540, 541, 542, 543, 544, 545, 117, 546, 547, 548, 549, 331, 332, 333, 334, 106, 893, 894, 895, 896, 897, 898, 899, 900, 901, 902, 903, 904, 905, 906, 907, 908, 909, 910, 911, 912, 913, 914, 915, 916] (by decide +kernel) (by decide +kernel)
set_option maxRecDepth 20000 in
theorem gL_law_X9_kth : GoodIn wsL_law (wsV RL 83 RX9 yX9_kth wsX9_kth) := goodIn_app (goodIn_of _ (by decide +kernel)) ggL_law_X9_kth
set_option maxRecDepth 20000 in
theorem ggL_law_X8_rank : GoodIn wsL_law wsX8_rank := goodIn_r _ [553, 15, 268, 269, 2, 270, 554, 555, 556, 557, 14, 882, 883, 884, 885, 886, 887, 888, 889, 890, 891, 892] (by decide +kernel) (by decide +kernel)
set_option maxRecDepth 20000 in
theorem gL_law_X8_rank : GoodIn wsL_law (wsV RL 84 RX8 yX8_rank wsX8_rank) := goodIn_app (goodIn_of _ (by decide +kernel)) ggL_law_X8_rank
set_option maxRecDepth 20000 in
theorem ggL_law_X9_rank : GoodIn wsL_law wsX9_rank := goodIn_r _ [561, 191, 121, 275, 276, 5, 277, 278, 214, 215, 216, 542, 543, 544, 545, 117, 108, 546, 547, 548, 549, 893, 894, 895, 896, 897, 898, 899, 900, 901, 902, 903, 904, 905, 906, 907, 908, 909, 910, 911, 912, 913, 914, 915, 916] (by decide +kernel) (by decide +kernel)
set_option maxRecDepth 20000 in
theorem gL_law_X9_rank : GoodIn wsL_law (wsV RL 87 RX9 yX9_rank wsX9_rank) := goodIn_app (goodIn_of _ (by decide +kernel)) ggL_law_X9_rank
set_option maxRecDepth 20000 in
theorem ggL_law_X8_select : GoodIn wsL_law wsX8_select := goodIn_r _ [565, 15, 14, 268, 269, 2, 270, 882, 883, 884, 885, 886, 887, 888, 889, 890, 891, 892] (by decide +kernel) (by decide +kernel)
set_option maxRecDepth 20000 in
theorem gL_law_X8_select : GoodIn wsL_law (wsV RL 88 RX8 yX8_select wsX8_select) := goodIn_app (goodIn_of _ (by decide +kernel)) ggL_law_X8_select
set_option maxRecDepth 20000 in
theorem ggL_law_X9_select : GoodIn wsL_law wsX9_select := goodIn_r _ [569, 191, 121, 108, 275, 276, 5, 277, 278, 214, 215, 216, 893, 894, 895, 896, 897, 898, 899, 900, 901, 902, 903, 904, 905, 906, 907, 908, 909, 910, 911, 912, 913, 914, 915, 916] (by decide +kernel) (by decide +kernel)
set_option maxRecDepth 20000 in
theorem gL_law_X9_select : GoodIn wsL_law (wsV RL 91 RX9 yX9_select wsX9_select) := goodIn_app (goodIn_of _ (by decide +kernel)) ggL_law_X9_select
set_option maxRecDepth 20000 in
theorem ggL_law_X8_band : GoodIn wsL_law wsX8_band := goodIn_r _ [573, 31, 14, 363, 364, 365, 2, 366, 15, 268, 269, 270, 504, 505, 506, 30, 507, 69, 508, 509, 510, 511, 512, 513, 514, 515, 71, 70, 516, 517, 518, 519, 520, 521, 522, 523, 528, 574, 575, 576, 577, 578, 579, 580, 287, 288, 289, 290, 27, 291, 292, 293, 26, 294, 65, 295, 296, 297, 298, 64, 882, 883, 884, 885, 886, 887, 888, 889, 890, 891, 892, 925, 926, 927, 923, 924] (by decide +kernel) (by decide +kernel)
set_option maxRecDepth 20000 in
theorem gL_law_X8_band : GoodIn wsL_law (wsV RL 92 RX8 yX8_band wsX8_band) := goodIn_app (goodIn_of _ (by decide +kernel)) ggL_law_X8_band
set_option maxRecDepth 20000 in
theorem ggL_law_X9_band : GoodIn wsL_law wsX9_band := goodIn_r _ [584, 191, 303, 371, 372, 373, 5, 374, 121, 275, 276, 277, 278, 214, 215, 216, 542, 543, 544, 545, 117, 108, 585, 586, 587, 588, 589, 590, 591, 592, 593, 594, 595, 596, 597, 598, 599, 546, 547, 548, 549, 331, 332, 333, 334, 106, 893, 894, 895, 896, 897, 898, 899, 900, 901, 902, 903, 904, 905, 906, 907, 908, 909, 910, 911, 912, 913, 914, 915, 916] (by decide +kernel) (by decide +kernel)
set_option maxRecDepth 20000 in
theorem gL_law_X9_band : GoodIn wsL_law (wsV RL 96 RX9 yX9_band wsX9_band) := goodIn_app (goodIn_of _ (by decide +kernel)) ggL_law_X9_band
set_option maxRecDepth 20000 in
theorem ggL_law_X8_below : GoodIn wsL_law wsX8_below := goodIn_r _ [603, 31, 14, 363, 364, 365, 2, 366, 15, 504, 505, 506, 30, 507, 69, 508, 509, 510, 511, 512, 513, 514, 515, 71, 70, 516, 517, 518, 519, 520, 521, 522, 523, 528, 287, 288, 289, 290, 27, 291, 292, 293, 26, 294, 65, 295, 296, 297, 298, 64, 882, 883, 884, 885, 886, 887, 888, 889, 890, 891, 892, 925, 926, 927, 923, 924] (by decide +kernel) (by decide +kernel)
set_option maxRecDepth 20000 in
theorem gL_law_X8_below : GoodIn wsL_law (wsV RL 97 RX8 yX8_below wsX8_below) := goodIn_app (goodIn_of _ (by decide +kernel)) ggL_law_X8_below
set_option maxRecDepth 20000 in
theorem ggL_law_X9_below : GoodIn wsL_law wsX9_below := goodIn_r _ [607, 191, 608, 303, 371, 372, 373, 5, 374, 121, 214, 215, 216, 542, 543, 544, 545, 117, 108, 546, 547, 548, 549, 331, 332, 333, 334, 106, 893, 894, 895, 896, 897, 898, 899, 900, 901, 902, 903, 904, 905, 906, 907, 908, 909, 910, 911, 912, 913, 914, 915, 916] (by decide +kernel) (by decide +kernel)
set_option maxRecDepth 20000 in
theorem gL_law_X9_below : GoodIn wsL_law (wsV RL 100 RX9 yX9_below wsX9_below) := goodIn_app (goodIn_of _ (by decide +kernel)) ggL_law_X9_below
set_option maxRecDepth 20000 in
theorem ggL_law_X8_above : GoodIn wsL_law wsX8_above := goodIn_r _ [612, 31, 14, 363, 364, 365, 2, 366, 15, 504, 505, 506, 30, 507, 69, 508, 509, 510, 511, 512, 513, 514, 515, 71, 70, 516, 517, 518, 519, 520, 521, 522, 523, 528, 287, 288, 289, 290, 27, 291, 292, 293, 26, 294, 65, 295, 296, 297, 298, 64, 882, 883, 884, 885, 886, 887, 888, 889, 890, 891, 892, 925, 926, 927, 923, 924] (by decide +kernel) (by decide +kernel)
set_option maxRecDepth 20000 in
theorem gL_law_X8_above : GoodIn wsL_law (wsV RL 101 RX8 yX8_above wsX8_above) := goodIn_app (goodIn_of _ (by decide +kernel)) ggL_law_X8_above
set_option maxRecDepth 20000 in
theorem ggL_law_X9_above : GoodIn wsL_law wsX9_above := goodIn_r _ [616, 191, 617, 618, 303, 371, 372, 373, 5, 374, 121, 214, 215, 216, 542, 543, 544, 545, 117, 108, 546, 547, 548, 549, 331, 332, 333, 334, 106, 893, 894, 895, 896, 897, 898, 899, 900, 901, 902, 903, 904, 905, 906, 907, 908, 909, 910, 911, 912, 913, 914, 915, 916] (by decide +kernel) (by decide +kernel)
set_option maxRecDepth 20000 in
theorem gL_law_X9_above : GoodIn wsL_law (wsV RL 104 RX9 yX9_above wsX9_above) := goodIn_app (goodIn_of _ (by decide +kernel)) ggL_law_X9_above
set_option maxRecDepth 20000 in
theorem ggL_law_X8_sums : GoodIn wsL_law wsX8_sums := goodIn_r _ [622, 31, 14, 363, 364, 365, 2, 366, 15, 504, 505, 506, 30, 507, 69, 508, 509, 510, 511, 512, 513, 514, 515, 71, 70, 516, 517, 518, 519, 520, 521, 522, 523, 524, 525, 526, 527, 287, 288, 289, 290, 27, 291, 292, 293, 26, 294, 65, 295, 296, 297, 298, 64, 882, 883, 884, 885, 886, 887, 888, 889, 890, 891, 892, 925, 926, 927, 923, 924] (by decide +kernel) (by decide +kernel)
set_option maxRecDepth 20000 in
theorem gL_law_X8_sums : GoodIn wsL_law (wsV RL 105 RX8 yX8_sums wsX8_sums) := goodIn_app (goodIn_of _ (by decide +kernel)) ggL_law_X8_sums
set_option maxRecDepth 20000 in
theorem ggL_law_X9_sums : GoodIn wsL_law wsX9_sums := goodIn_r _ [626, 191, 118, 541, 303, 371, 372, 373, 5, 374, 121, 537, 538, 539, 540, 542, 543, 544, 545, 117, 108, 546, 547, 548, 549, 331, 332, 333, 334, 106, 893, 894, 895, 896, 897, 898, 899, 900, 901, 902, 903, 904, 905, 906, 907, 908, 909, 910, 911, 912, 913, 914, 915, 916] (by decide +kernel) (by decide +kernel)
set_option maxRecDepth 20000 in
theorem gL_law_X9_sums : GoodIn wsL_law (wsV RL 108 RX9 yX9_sums wsX9_sums) := goodIn_app (goodIn_of _ (by decide +kernel)) ggL_law_X9_sums
set_option maxRecDepth 20000 in
theorem ggL_law_X8_often : GoodIn wsL_law wsX8_often := goodIn_r _ [630, 31, 14, 27, 363, 364, 365, 2, 366, 15, 631, 632, 633, 504, 505, 506, 30, 507, 69, 508, 509, 510, 511, 512, 513, 514, 515, 71, 70, 516, 517, 518, 519, 520, 521, 522, 523, 634, 635, 636, 637, 287, 288, 289, 290, 291, 292, 293, 26, 294, 65, 295, 296, 297, 298, 64, 528, 882, 883, 884, 885, 886, 887, 888, 889, 890, 891, 892, 925, 926, 927, 923, 924] (by decide +kernel) (by decide +kernel)
set_option maxRecDepth 20000 in
theorem gL_law_X8_often : GoodIn wsL_law (wsV RL 109 RX8 yX8_often wsX8_often) := goodIn_app (goodIn_of _ (by decide +kernel)) ggL_law_X8_often
set_option maxRecDepth 20000 in
theorem ggL_law_X9_often : GoodIn wsL_law wsX9_often := goodIn_r _ [641, 191, 642, 303, 371, 372, 373, 5, 374, 121, 214, 215, 216, 542, 543, 544, 545, 117, 108, 643, 644, 645, 646, 589, 590, 591, 592, 593, 594, 595, 596, 597, 598, 599, 546, 547, 548, 549, 221, 222, 223, 331, 332, 333, 334, 106, 893, 894, 895, 896, 897, 898, 899, 900, 901, 902, 903, 904, 905, 906, 907, 908, 909, 910, 911, 912, 913, 914, 915, 916] (by decide +kernel) (by decide +kernel)
set_option maxRecDepth 20000 in
theorem gL_law_X9_often : GoodIn wsL_law (wsV RL 112 RX9 yX9_often wsX9_often) := goodIn_app (goodIn_of _ (by decide +kernel)) ggL_law_X9_often
set_option maxRecDepth 20000 in
theorem ggL_law_X8_mode : GoodIn wsL_law wsX8_mode := goodIn_r _ [650, 31, 14, 363, 364, 365, 2, 366, 15, 504, 505, 506, 30, 507, 69, 508, 509, 510, 511, 512, 513, 514, 515, 71, 70, 516, 517, 518, 519, 520, 521, 522, 523, 528, 287, 288, 289, 290, 27, 291, 292, 293, 26, 294, 65, 295, 296, 297, 298, 64, 882, 883, 884, 885, 886, 887, 888, 889, 890, 891, 892, 925, 926, 927, 923, 924] (by decide +kernel) (by decide +kernel)
set_option maxRecDepth 20000 in
theorem gL_law_X8_mode : GoodIn wsL_law (wsV RL 113 RX8 yX8_mode wsX8_mode) := goodIn_app (goodIn_of _ (by decide +kernel)) ggL_law_X8_mode
set_option maxRecDepth 20000 in
theorem ggL_law_X9_mode : GoodIn wsL_law wsX9_mode := goodIn_r _ [654, 191, 303, 371, 372, 373, 5, 374, 121, 542, 543, 544, 545, 117, 108, 546, 547, 548, 549, 331, 332, 333, 334, 106, 893, 894, 895, 896, 897, 898, 899, 900, 901, 902, 903, 904, 905, 906, 907, 908, 909, 910, 911, 912, 913, 914, 915, 916] (by decide +kernel) (by decide +kernel)
set_option maxRecDepth 20000 in
theorem gL_law_X9_mode : GoodIn wsL_law (wsV RL 116 RX9 yX9_mode wsX9_mode) := goodIn_app (goodIn_of _ (by decide +kernel)) ggL_law_X9_mode
set_option maxRecDepth 20000 in
theorem ggL_law_X8_across : GoodIn wsL_law wsX8_across := goodIn_r _ [658, 31, 14, 363, 364, 365, 2, 366, 15, 268, 269, 270, 504, 505, 506, 30, 507, 69, 508, 509, 510, 511, 512, 513, 514, 515, 71, 70, 516, 517, 518, 519, 520, 521, 522, 523, 528, 287, 288, 289, 290, 27, 291, 292, 293, 26, 294, 65, 295, 296, 297, 298, 64, 882, 883, 884, 885, 886, 887, 888, 889, 890, 891, 892, 925, 926, 927, 923, 924] (by decide +kernel) (by decide +kernel)
set_option maxRecDepth 20000 in
theorem gL_law_X8_across : GoodIn wsL_law (wsV RL 117 RX8 yX8_across wsX8_across) := goodIn_app (goodIn_of _ (by decide +kernel)) ggL_law_X8_across
set_option maxRecDepth 20000 in
theorem ggL_law_X9_across : GoodIn wsL_law wsX9_across := goodIn_r _ [662, 191, 303, 371, 372, 373, 5, 374, 121, 275, 276, 277, 278, 214, 215, 216, 542, 543, 544, 545, 117, 108, 546, 547, 548, 549, 331, 332, 333, 334, 106, 893, 894, 895, 896, 897, 898, 899, 900, 901, 902, 903, 904, 905, 906, 907, 908, 909, 910, 911, 912, 913, 914, 915, 916] (by decide +kernel) (by decide +kernel)
set_option maxRecDepth 20000 in
theorem gL_law_X9_across : GoodIn wsL_law (wsV RL 120 RX9 yX9_across wsX9_across) := goodIn_app (goodIn_of _ (by decide +kernel)) ggL_law_X9_across
set_option maxRecDepth 20000 in
theorem ggL_law_X8_turned : GoodIn wsL_law wsX8_turned := goodIn_r _ [666, 14, 363, 364, 365, 2, 366, 15, 287, 288, 289, 290, 27, 291, 292, 293, 26, 294, 65, 295, 296, 297, 298, 64, 882, 883, 884, 885, 886, 887, 888, 889, 890, 891, 892, 923, 924] (by decide +kernel) (by decide +kernel)
set_option maxRecDepth 20000 in
theorem gL_law_X8_turned : GoodIn wsL_law (wsV RL 121 RX8 yX8_turned wsX8_turned) := goodIn_app (goodIn_of _ (by decide +kernel)) ggL_law_X8_turned
set_option maxRecDepth 20000 in
theorem ggL_law_X9_turned : GoodIn wsL_law wsX9_turned := goodIn_r _ [670, 191, 108, 303, 371, 372, 373, 5, 374, 121, 221, 222, 223, 331, 332, 333, 334, 106, 893, 894, 895, 896, 897, 898, 899, 900, 901, 902, 903, 904, 905, 906, 907, 908, 909, 910, 911, 912, 913, 914, 915, 916] (by decide +kernel) (by decide +kernel)
set_option maxRecDepth 20000 in
theorem gL_law_X9_turned : GoodIn wsL_law (wsV RL 124 RX9 yX9_turned wsX9_turned) := goodIn_app (goodIn_of _ (by decide +kernel)) ggL_law_X9_turned
set_option maxRecDepth 20000 in
theorem ggL_law_X8_spread : GoodIn wsL_law wsX8_spread := goodIn_r _ [674, 31, 14, 27, 363, 364, 365, 2, 366, 15, 504, 505, 506, 30, 507, 69, 508, 509, 510, 511, 512, 513, 514, 515, 71, 70, 516, 517, 518, 519, 520, 521, 522, 523, 291, 292, 293, 26, 294, 65, 675, 295, 296, 297, 298, 64, 882, 883, 884, 885, 886, 887, 888, 889, 890, 891, 892, 925, 926, 927, 923, 924] (by decide +kernel) (by decide +kernel)
set_option maxRecDepth 20000 in
theorem gL_law_X8_spread : GoodIn wsL_law (wsV RL 125 RX8 yX8_spread wsX8_spread) := goodIn_app (goodIn_of _ (by decide +kernel)) ggL_law_X8_spread
set_option maxRecDepth 20000 in
theorem ggL_law_X9_spread : GoodIn wsL_law wsX9_spread := goodIn_r _ [679, 191, 680, 303, 371, 372, 373, 5, 374, 121, 214, 215, 216, 542, 543, 544, 545, 117, 108, 589, 590, 591, 592, 593, 594, 595, 596, 597, 598, 599, 546, 547, 548, 549, 221, 222, 223, 331, 332, 333, 334, 106, 893, 894, 895, 896, 897, 898, 899, 900, 901, 902, 903, 904, 905, 906, 907, 908, 909, 910, 911, 912, 913, 914, 915, 916] (by decide +kernel) (by decide +kernel)
set_option maxRecDepth 20000 in
theorem gL_law_X9_spread : GoodIn wsL_law (wsV RL 128 RX9 yX9_spread wsX9_spread) := goodIn_app (goodIn_of _ (by decide +kernel)) ggL_law_X9_spread
set_option maxRecDepth 20000 in
theorem ggL_law_X8_nearest : GoodIn wsL_law wsX8_nearest := goodIn_r _ [684, 31, 14, 363, 364, 365, 2, 366, 15, 504, 505, 506, 30, 507, 69, 508, 509, 510, 511, 512, 513, 514, 515, 71, 70, 516, 517, 518, 519, 520, 521, 522, 523, 685, 686, 687, 688, 524, 525, 526, 527, 402, 403, 404, 405, 27, 291, 292, 293, 26, 294, 65, 295, 296, 297, 298, 64, 882, 883, 884, 885, 886, 887, 888, 889, 890, 891, 892, 925, 926, 927, 923, 924] (by decide +kernel) (by decide +kernel)
set_option maxRecDepth 20000 in
theorem gL_law_X8_nearest : GoodIn wsL_law (wsV RL 129 RX8 yX8_nearest wsX8_nearest) := goodIn_app (goodIn_of _ (by decide +kernel)) ggL_law_X8_nearest
set_option maxRecDepth 20000 in
theorem ggL_law_X9_nearest : GoodIn wsL_law wsX9_nearest := goodIn_r _ [692, 191, 541, 118, 303, 371, 372, 373, 5, 374, 121, 537, 538, 539, 540, 542, 543, 544, 545, 117, 108, 546, 547, 548, 549, 331, 332, 333, 334, 106, 893, 894, 895, 896, 897, 898, 899, 900, 901, 902, 903, 904, 905, 906, 907, 908, 909, 910, 911, 912, 913, 914, 915, 916] (by decide +kernel) (by decide +kernel)
set_option maxRecDepth 20000 in
theorem gL_law_X9_nearest : GoodIn wsL_law (wsV RL 132 RX9 yX9_nearest wsX9_nearest) := goodIn_app (goodIn_of _ (by decide +kernel)) ggL_law_X9_nearest
set_option maxRecDepth 20000 in
theorem ggL_law_X8_dense : GoodIn wsL_law wsX8_dense := goodIn_r _ [696, 31, 14, 363, 364, 365, 2, 366, 15, 268, 269, 270, 504, 505, 506, 30, 507, 69, 508, 509, 510, 511, 512, 513, 514, 515, 71, 70, 516, 517, 518, 519, 520, 521, 522, 523, 697, 698, 699, 700, 524, 525, 526, 527, 287, 288, 289, 290, 27, 291, 292, 293, 26, 294, 65, 295, 296, 297, 298, 64, 882, 883, 884, 885, 886, 887, 888, 889, 890, 891, 892, 925, 926, 927, 923, 924] (by decide +kernel) (by decide +kernel)
set_option maxRecDepth 20000 in
theorem gL_law_X8_dense : GoodIn wsL_law (wsV RL 133 RX8 yX8_dense wsX8_dense) := goodIn_app (goodIn_of _ (by decide +kernel)) ggL_law_X8_dense
set_option maxRecDepth 20000 in
theorem ggL_law_X9_dense : GoodIn wsL_law wsX9_dense := goodIn_r _ [704, 191, 541, 118, 593, 594, 595, 596, 303, 371, 372, 373, 5, 374, 121, 275, 276, 277, 278, 214, 215, 216, 537, 538, 539, 540, 542, 543, 544, 545, 117, 108, 546, 547, 548, 549, 589, 590, 591, 592, 597, 598, 599, 331, 332, 333, 334, 106, 893, 894, 895, 896, 897, 898, 899, 900, 901, 902, 903, 904, 905, 906, 907, 908, 909, 910, 911, 912, 913, 914, 915, 916] (by decide +kernel) (by decide +kernel)
set_option maxRecDepth 20000 in
theorem gL_law_X9_dense : GoodIn wsL_law (wsV RL 136 RX9 yX9_dense wsX9_dense) := goodIn_app (goodIn_of _ (by decide +kernel)) ggL_law_X9_dense
set_option maxRecDepth 20000 in
theorem ggL_law_X8_farthest : GoodIn wsL_law wsX8_farthest := goodIn_r _ [708, 31, 14, 363, 364, 365, 2, 366, 15, 268, 269, 270, 504, 505, 506, 30, 507, 69, 508, 509, 510, 511, 512, 513, 514, 515, 71, 70, 516, 517, 518, 519, 520, 521, 522, 523, 528, 402, 403, 404, 405, 27, 291, 292, 293, 26, 294, 65, 295, 296, 297, 298, 64, 882, 883, 884, 885, 886, 887, 888, 889, 890, 891, 892, 925, 926, 927, 923, 924] (by decide +kernel) (by decide +kernel)
set_option maxRecDepth 20000 in
theorem gL_law_X8_farthest : GoodIn wsL_law (wsV RL 137 RX8 yX8_farthest wsX8_farthest) := goodIn_app (goodIn_of _ (by decide +kernel)) ggL_law_X8_farthest
set_option maxRecDepth 20000 in
theorem ggL_law_X9_farthest : GoodIn wsL_law wsX9_farthest := goodIn_r _ [712, 191, 303, 371, 372, 373, 5, 374, 121, 275, 276, 277, 278, 214, 215, 216, 542, 543, 544, 545, 117, 108, 546, 547, 548, 549, 331, 332, 333, 334, 106, 893, 894, 895, 896, 897, 898, 899, 900, 901, 902, 903, 904, 905, 906, 907, 908, 909, 910, 911, 912, 913, 914, 915, 916] (by decide +kernel) (by decide +kernel)
set_option maxRecDepth 20000 in
theorem gL_law_X9_farthest : GoodIn wsL_law (wsV RL 140 RX9 yX9_farthest wsX9_farthest) := goodIn_app (goodIn_of _ (by decide +kernel)) ggL_law_X9_farthest
set_option maxRecDepth 20000 in
theorem ggL_law_X8_fit : GoodIn wsL_law wsX8_fit := goodIn_r _ [716, 31, 14, 363, 364, 365, 2, 366, 15, 504, 505, 506, 30, 507, 69, 508, 509, 510, 511, 512, 513, 514, 515, 71, 70, 516, 517, 518, 519, 520, 521, 522, 523, 524, 525, 526, 527, 287, 288, 289, 290, 27, 291, 292, 293, 26, 294, 65, 295, 296, 297, 298, 64, 882, 883, 884, 885, 886, 887, 888, 889, 890, 891, 892, 925, 926, 927, 923, 924] (by decide +kernel) (by decide +kernel)
set_option maxRecDepth 20000 in
theorem gL_law_X8_fit : GoodIn wsL_law (wsV RL 141 RX8 yX8_fit wsX8_fit) := goodIn_app (goodIn_of _ (by decide +kernel)) ggL_law_X8_fit
set_option maxRecDepth 20000 in
theorem ggL_law_X9_fit : GoodIn wsL_law wsX9_fit := goodIn_r _ [720, 191, 541, 118, 303, 371, 372, 373, 5, 374, 121, 537, 538, 539, 540, 542, 543, 544, 545, 117, 108, 546, 547, 548, 549, 331, 332, 333, 334, 106, 893, 894, 895, 896, 897, 898, 899, 900, 901, 902, 903, 904, 905, 906, 907, 908, 909, 910, 911, 912, 913, 914, 915, 916] (by decide +kernel) (by decide +kernel)
set_option maxRecDepth 20000 in
theorem gL_law_X9_fit : GoodIn wsL_law (wsV RL 144 RX9 yX9_fit wsX9_fit) := goodIn_app (goodIn_of _ (by decide +kernel)) ggL_law_X9_fit
set_option maxRecDepth 20000 in
theorem ggL_law_X8_gap : GoodIn wsL_law wsX8_gap := goodIn_r _ [724, 31, 14, 363, 364, 365, 2, 366, 15, 504, 505, 506, 30, 507, 69, 508, 509, 510, 511, 512, 513, 514, 515, 71, 70, 516, 517, 518, 519, 520, 521, 522, 523, 725, 726, 727, 728, 524, 525, 526, 527, 402, 403, 404, 405, 27, 291, 292, 293, 26, 294, 65, 295, 296, 297, 298, 64, 882, 883, 884, 885, 886, 887, 888, 889, 890, 891, 892, 925, 926, 927, 923, 924] (by decide +kernel) (by decide +kernel)
set_option maxRecDepth 20000 in
theorem gL_law_X8_gap : GoodIn wsL_law (wsV RL 145 RX8 yX8_gap wsX8_gap) := goodIn_app (goodIn_of _ (by decide +kernel)) ggL_law_X8_gap
set_option maxRecDepth 20000 in
theorem ggL_law_X9_gap : GoodIn wsL_law wsX9_gap := goodIn_r _ [732, 191, 541, 118, 303, 371, 372, 373, 5, 374, 121, 537, 538, 539, 540, 542, 543, 544, 545, 117, 108, 546, 547, 548, 549, 331, 332, 333, 334, 106, 893, 894, 895, 896, 897, 898, 899, 900, 901, 902, 903, 904, 905, 906, 907, 908, 909, 910, 911, 912, 913, 914, 915, 916] (by decide +kernel) (by decide +kernel)
set_option maxRecDepth 20000 in
theorem gL_law_X9_gap : GoodIn wsL_law (wsV RL 148 RX9 yX9_gap wsX9_gap) := goodIn_app (goodIn_of _ (by decide +kernel)) ggL_law_X9_gap
set_option maxRecDepth 20000 in
theorem ggL_law_X8_narrow : GoodIn wsL_law wsX8_narrow := goodIn_r _ [736, 15, 27, 268, 269, 2, 270, 631, 632, 633, 737, 738, 739, 740, 14, 402, 403, 404, 405, 291, 292, 293, 26, 294, 65, 295, 296, 297, 298, 64, 882, 883, 884, 885, 886, 887, 888, 889, 890, 891, 892, 923, 924] (by decide +kernel) (by decide +kernel)
set_option maxRecDepth 20000 in
theorem gL_law_X8_narrow : GoodIn wsL_law (wsV RL 149 RX8 yX8_narrow wsX8_narrow) := goodIn_app (goodIn_of _ (by decide +kernel)) ggL_law_X8_narrow
set_option maxRecDepth 20000 in
theorem ggL_law_X9_narrow : GoodIn wsL_law wsX9_narrow := goodIn_r _ [744, 191, 642, 121, 108, 303, 275, 276, 5, 277, 278, 214, 215, 216, 221, 222, 223, 331, 332, 333, 334, 106, 893, 894, 895, 896, 897, 898, 899, 900, 901, 902, 903, 904, 905, 906, 907, 908, 909, 910, 911, 912, 913, 914, 915, 916] (by decide +kernel) (by decide +kernel)
set_option maxRecDepth 20000 in
theorem gL_law_X9_narrow : GoodIn wsL_law (wsV RL 152 RX9 yX9_narrow wsX9_narrow) := goodIn_app (goodIn_of _ (by decide +kernel)) ggL_law_X9_narrow
set_option maxRecDepth 20000 in
theorem ggL_law_X8_lone : GoodIn wsL_law wsX8_lone := goodIn_r _ [748, 31, 14, 363, 364, 365, 2, 366, 15, 504, 505, 506, 30, 507, 69, 508, 509, 510, 511, 512, 513, 514, 515, 71, 70, 516, 517, 518, 519, 520, 521, 522, 523, 528, 402, 403, 404, 405, 27, 291, 292, 293, 26, 294, 65, 295, 296, 297, 298, 64, 882, 883, 884, 885, 886, 887, 888, 889, 890, 891, 892, 925, 926, 927, 923, 924] (by decide +kernel) (by decide +kernel)
set_option maxRecDepth 20000 in
theorem gL_law_X8_lone : GoodIn wsL_law (wsV RL 153 RX8 yX8_lone wsX8_lone) := goodIn_app (goodIn_of _ (by decide +kernel)) ggL_law_X8_lone
set_option maxRecDepth 20000 in
theorem ggL_law_X9_lone : GoodIn wsL_law wsX9_lone := goodIn_r _ [752, 191, 303, 371, 372, 373, 5, 374, 121, 542, 543, 544, 545, 117, 108, 546, 547, 548, 549, 331, 332, 333, 334, 106, 893, 894, 895, 896, 897, 898, 899, 900, 901, 902, 903, 904, 905, 906, 907, 908, 909, 910, 911, 912, 913, 914, 915, 916] (by decide +kernel) (by decide +kernel)
set_option maxRecDepth 20000 in
theorem gL_law_X9_lone : GoodIn wsL_law (wsV RL 156 RX9 yX9_lone wsX9_lone) := goodIn_app (goodIn_of _ (by decide +kernel)) ggL_law_X9_lone
set_option maxRecDepth 20000 in
theorem ggL_law_X8_rises : GoodIn wsL_law wsX8_rises := goodIn_r _ [756, 48, 14, 757, 758, 759, 595, 760, 363, 364, 365, 2, 366, 15, 761, 762, 763, 47, 764, 101, 99, 100, 765, 594, 596, 766, 767, 768, 769, 770, 771, 772, 773, 774, 775, 776, 777, 402, 403, 404, 405, 27, 291, 292, 293, 26, 294, 65, 295, 296, 297, 298, 64, 882, 883, 884, 885, 886, 887, 888, 889, 890, 891, 892, 942, 943, 944, 923, 924] (by decide +kernel) (by decide +kernel)
set_option maxRecDepth 20000 in
theorem gL_law_X8_rises : GoodIn wsL_law (wsV RL 157 RX8 yX8_rises wsX8_rises) := goodIn_app (goodIn_of _ (by decide +kernel)) ggL_law_X8_rises
set_option maxRecDepth 20000 in
theorem ggL_law_X9_rises : GoodIn wsL_law wsX9_rises := goodIn_r _ [781, 191, 119, 120, 108, 782, 783, 759, 595, 760, 593, 594, 596, 303, 371, 372, 373, 5, 374, 121, 331, 332, 333, 334, 106, 893, 894, 895, 896, 897, 898, 899, 900, 901, 902, 903, 904, 905, 906, 907, 908, 909, 910, 911, 912, 913, 914, 915, 916] (by decide +kernel) (by decide +kernel)
set_option maxRecDepth 20000 in
theorem gL_law_X9_rises : GoodIn wsL_law (wsV RL 160 RX9 yX9_rises wsX9_rises) := goodIn_app (goodIn_of _ (by decide +kernel)) ggL_law_X9_rises
set_option maxRecDepth 20000 in
theorem ggL_law_X8_marks : GoodIn wsL_law wsX8_marks := goodIn_r _ [787, 27, 14, 363, 364, 365, 2, 366, 15, 268, 269, 270, 291, 292, 293, 26, 294, 65, 295, 296, 297, 298, 64, 882, 883, 884, 885, 886, 887, 888, 889, 890, 891, 892, 923, 924] (by decide +kernel) (by decide +kernel)
set_option maxRecDepth 20000 in
theorem gL_law_X8_marks : GoodIn wsL_law (wsV RL 161 RX8 yX8_marks wsX8_marks) := goodIn_app (goodIn_of _ (by decide +kernel)) ggL_law_X8_marks
set_option maxRecDepth 20000 in
theorem ggL_law_X9_marks : GoodIn wsL_law wsX9_marks := goodIn_r _ [791, 191, 303, 108, 371, 372, 373, 5, 374, 121, 275, 276, 277, 278, 214, 215, 216, 331, 332, 333, 334, 106, 893, 894, 895, 896, 897, 898, 899, 900, 901, 902, 903, 904, 905, 906, 907, 908, 909, 910, 911, 912, 913, 914, 915, 916] (by decide +kernel) (by decide +kernel)
set_option maxRecDepth 20000 in
theorem gL_law_X9_marks : GoodIn wsL_law (wsV RL 164 RX9 yX9_marks wsX9_marks) := goodIn_app (goodIn_of _ (by decide +kernel)) ggL_law_X9_marks
set_option maxRecDepth 20000 in
theorem ggL_law_X8_common : GoodIn wsL_law wsX8_common := goodIn_r _ [795, 31, 32, 27, 796, 797, 798, 2, 799, 14, 363, 364, 365, 366, 15, 504, 505, 506, 30, 507, 69, 508, 509, 510, 511, 512, 513, 514, 515, 71, 70, 516, 517, 518, 519, 520, 521, 522, 523, 800, 801, 802, 803, 287, 288, 289, 290, 291, 292, 293, 26, 294, 65, 295, 296, 297, 298, 64, 528, 882, 883, 884, 885, 886, 887, 888, 889, 890, 891, 892, 925, 926, 927, 923, 924] (by decide +kernel) (by decide +kernel)
set_option maxRecDepth 20000 in
theorem gL_law_X8_common : GoodIn wsL_law (wsV RL 165 RX8 yX8_common wsX8_common) := goodIn_app (goodIn_of _ (by decide +kernel)) ggL_law_X8_common
set_option maxRecDepth 20000 in
theorem ggL_law_X9_common : GoodIn wsL_law wsX9_common := goodIn_r _ [807, 191, 303, 808, 809, 810, 5, 811, 371, 372, 373, 374, 121, 542, 543, 544, 545, 117, 108, 643, 644, 645, 646, 589, 590, 591, 592, 593, 594, 595, 596, 597, 598, 599, 546, 547, 548, 549, 221, 222, 223, 331, 332, 333, 334, 106, 893, 894, 895, 896, 897, 898, 899, 900, 901, 902, 903, 904, 905, 906, 907, 908, 909, 910, 911, 912, 913, 914, 915, 916] (by decide +kernel) (by decide +kernel)
set_option maxRecDepth 20000 in
theorem gL_law_X9_common : GoodIn wsL_law (wsV RL 168 RX9 yX9_common wsX9_common) := goodIn_app (goodIn_of _ (by decide +kernel)) ggL_law_X9_common
set_option maxRecDepth 20000 in
theorem ggL_law_X8_lacking : GoodIn wsL_law wsX8_lacking := goodIn_r _ [815, 27, 31, 32, 796, 797, 798, 2, 799, 14, 363, 364, 365, 366, 15, 504, 505, 506, 30, 507, 69, 508, 509, 510, 511, 512, 513, 514, 515, 71, 70, 516, 517, 518, 519, 520, 521, 522, 523, 291, 292, 293, 26, 294, 65, 528, 295, 296, 297, 298, 64, 882, 883, 884, 885, 886, 887, 888, 889, 890, 891, 892, 925, 926, 927, 923, 924] (by decide +kernel) (by decide +kernel)
set_option maxRecDepth 20000 in
theorem gL_law_X8_lacking : GoodIn wsL_law (wsV RL 169 RX8 yX8_lacking wsX8_lacking) := goodIn_app (goodIn_of _ (by decide +kernel)) ggL_law_X8_lacking
set_option maxRecDepth 20000 in
theorem ggL_law_X9_lacking : GoodIn wsL_law wsX9_lacking := goodIn_r _ [819, 191, 303, 808, 809, 810, 5, 811, 371, 372, 373, 374, 121, 542, 543, 544, 545, 117, 108, 546, 547, 548, 549, 331, 332, 333, 334, 106, 893, 894, 895, 896, 897, 898, 899, 900, 901, 902, 903, 904, 905, 906, 907, 908, 909, 910, 911, 912, 913, 914, 915, 916] (by decide +kernel) (by decide +kernel)
set_option maxRecDepth 20000 in
theorem gL_law_X9_lacking : GoodIn wsL_law (wsV RL 172 RX9 yX9_lacking wsX9_lacking) := goodIn_app (goodIn_of _ (by decide +kernel)) ggL_law_X9_lacking
set_option maxRecDepth 20000 in
theorem ggL_law_X8_both : GoodIn wsL_law wsX8_both := goodIn_r _ [823, 31, 32, 796, 797, 798, 2, 799, 14, 363, 364, 365, 366, 15, 504, 505, 506, 30, 507, 69, 508, 509, 510, 511, 512, 513, 514, 515, 71, 70, 516, 517, 518, 519, 520, 521, 522, 523, 528, 402, 403, 404, 405, 27, 291, 292, 293, 26, 294, 65, 295, 296, 297, 298, 64, 882, 883, 884, 885, 886, 887, 888, 889, 890, 891, 892, 925, 926, 927, 923, 924] (by decide +kernel) (by decide +kernel)
set_option maxRecDepth 20000 in
theorem gL_law_X8_both : GoodIn wsL_law (wsV RL 173 RX8 yX8_both wsX8_both) := goodIn_app (goodIn_of _ (by decide +kernel)) ggL_law_X8_both
set_option maxRecDepth 20000 in
theorem ggL_law_X9_both : GoodIn wsL_law wsX9_both := goodIn_r _ [827, 191, 303, 371, 372, 373, 5, 374, 121, 808, 809, 810, 811, 542, 543, 544, 545, 117, 108, 546, 547, 548, 549, 331, 332, 333, 334, 106, 893, 894, 895, 896, 897, 898, 899, 900, 901, 902, 903, 904, 905, 906, 907, 908, 909, 910, 911, 912, 913, 914, 915, 916] (by decide +kernel) (by decide +kernel)
set_option maxRecDepth 20000 in
theorem gL_law_X9_both : GoodIn wsL_law (wsV RL 177 RX9 yX9_both wsX9_both) := goodIn_app (goodIn_of _ (by decide +kernel)) ggL_law_X9_both
set_option maxRecDepth 20000 in
theorem ggL_law_X8_same : GoodIn wsL_law wsX8_same := goodIn_r _ [831, 31, 32, 832, 594, 595, 596, 27, 796, 797, 798, 2, 799, 14, 363, 364, 365, 366, 15, 504, 505, 506, 30, 507, 69, 508, 509, 510, 511, 512, 513, 514, 515, 71, 70, 516, 517, 518, 519, 520, 521, 522, 523, 528, 402, 403, 404, 405, 291, 292, 293, 26, 294, 65, 295, 296, 297, 298, 64, 882, 883, 884, 885, 886, 887, 888, 889, 890, 891, 892, 925, 926, 927, 923, 924] (by decide +kernel) (by decide +kernel)
set_option maxRecDepth 20000 in
theorem gL_law_X8_same : GoodIn wsL_law (wsV RL 178 RX8 yX8_same wsX8_same) := goodIn_app (goodIn_of _ (by decide +kernel)) ggL_law_X8_same
set_option maxRecDepth 20000 in
theorem ggL_law_X9_same : GoodIn wsL_law wsX9_same := goodIn_r _ [836, 191, 593, 594, 595, 596, 303, 808, 809, 810, 5, 811, 371, 372, 373, 374, 121, 542, 543, 544, 545, 117, 108, 546, 547, 548, 549, 331, 332, 333, 334, 106, 221, 222, 223, 893, 894, 895, 896, 897, 898, 899, 900, 901, 902, 903, 904, 905, 906, 907, 908, 909, 910, 911, 912, 913, 914, 915, 916] (by decide +kernel) (by decide +kernel)
set_option maxRecDepth 20000 in
theorem gL_law_X9_same : GoodIn wsL_law (wsV RL 181 RX9 yX9_same wsX9_same) := goodIn_app (goodIn_of _ (by decide +kernel)) ggL_law_X9_same
set_option maxRecDepth 20000 in
theorem ggL_law_X8_count : GoodIn wsL_law wsX8_count := goodIn_r _ [840, 15, 23, 27, 841, 842, 843, 2, 844, 14, 554, 555, 556, 557, 845, 846, 847, 848, 849, 850, 851, 852, 853, 463, 464, 465, 466, 467, 468, 882, 883, 884, 885, 886, 887, 888, 889, 890, 891, 892, 921, 922, 923, 924] (by decide +kernel) (by decide +kernel)
set_option maxRecDepth 20000 in
theorem gL_law_X8_count : GoodIn wsL_law (wsV RL 182 RX8 yX8_count wsX8_count) := goodIn_app (goodIn_of _ (by decide +kernel)) ggL_law_X8_count
set_option maxRecDepth 20000 in
theorem ggL_law_X9_count : GoodIn wsL_law wsX9_count := goodIn_r _ [857, 191, 121, 199, 303, 858, 859, 860, 5, 861, 542, 543, 544, 545, 117, 108, 546, 547, 548, 549, 221, 222, 223, 862, 863, 864, 865, 866, 463, 464, 465, 466, 467, 468, 893, 894, 895, 896, 897, 898, 899, 900, 901, 902, 903, 904, 905, 906, 907, 908, 909, 910, 911, 912, 913, 914, 915, 916] (by decide +kernel) (by decide +kernel)
set_option maxRecDepth 20000 in
theorem gL_law_X9_count : GoodIn wsL_law (wsV RL 185 RX9 yX9_count wsX9_count) := goodIn_app (goodIn_of _ (by decide +kernel)) ggL_law_X9_count
set_option maxRecDepth 20000 in
theorem ggL_law_L_row : GoodIn wsL_law wsL_rowN := goodIn_ca (goodIn_r _ [870, 871, 872, 873, 874, 2, 875, 876, 877, 27, 882, 883, 884, 885, 886, 887, 888, 889, 890, 891, 892, 923, 924] (by decide +kernel) (by decide +kernel)) (goodIn_sub (fun _ h => List.mem_append_right _ h) (by decide +kernel))
set_option maxRecDepth 20000 in
theorem gL_law_L_row : GoodIn wsL_law (va_wsS RL 186 yL_row wsL_rowN) := goodIn_app (goodIn_of _ (by decide +kernel)) ggL_law_L_row
set_option maxRecDepth 20000 in
theorem ggL_law_X9_row : GoodIn wsL_law wsX9_row := goodIn_r _ [881, 303, 191, 106, 214, 215, 5, 216, 221, 222, 223, 893, 894, 895, 896, 897, 898, 899, 900, 901, 902, 903, 904, 905, 906, 907, 908, 909, 910, 911, 912, 913, 914, 915, 916] (by decide +kernel) (by decide +kernel)
set_option maxRecDepth 20000 in
theorem gL_law_X9_row : GoodIn wsL_law (wsV RL 191 RX9 yX9_row wsX9_row) := goodIn_app (goodIn_of _ (by decide +kernel)) ggL_law_X9_row
