set_option maxRecDepth 20000 in
theorem gL_law_X7_fault : GoodIn wsL_law (wsV RL 23 RX7 yX7_fault wsX7_fault) := goodIn_app (goodIn_of _ (by decide +kernel)) ggL_law_X7_fault
set_option maxRecDepth 20000 in
theorem ggL_law_X8_fault : GoodIn wsL_law wsX8_fault := goodIn_r _ [176, 124, 177, 178, 179, 5, 180, 181, 182, 183, 126, 93, 184, 185, 186, 187, 188, 96, 127, 128, 129, 189, 190, 191, 192, 193, 194, 195, 919, 920, 921, 922, 923, 924, 925, 926, 927, 928, 929, 930, 931, 932, 933, 934, 935, 936, 937, 938, 939, 940, 941, 942, 943, 944, 945, 946, 947, 948, 949, 950, 951] (by decide +kernel) (by decide +kernel)
set_option maxRecDepth 20000 in
theorem gL_law_X8_fault : GoodIn wsL_law (wsV RL 26 RX8 yX8_fault wsX8_fault) := goodIn_app (goodIn_of _ (by decide +kernel)) ggL_law_X8_fault
set_option maxRecDepth 20000 in
theorem ggL_law_X7_sale : GoodIn wsL_law wsX7_sale := goodIn_r _ [199, 16, 20, 25, 29, 146, 147, 148, 15, 149, 48, 150, 151, 152, 153, 154, 155, 156, 157, 158, 159, 160, 161, 47, 162, 163, 164, 165, 2, 166, 167, 168, 169, 170, 171, 172, 200, 201, 202, 203, 204, 205, 206, 19, 207, 54, 55, 208, 209, 210, 211, 212, 213, 214, 215, 52, 216, 217, 218, 24, 219, 61, 220, 221, 222, 28, 223, 69, 224, 225, 226, 227, 910, 911, 912, 913, 914, 915, 916, 917, 918, 952, 953, 954, 955, 956, 957, 958, 959, 960, 961, 962] (by decide +kernel) (by decide +kernel)
set_option maxRecDepth 20000 in
theorem gL_law_X7_sale : GoodIn wsL_law (wsV RL 27 RX7 yX7_sale wsX7_sale) := goodIn_app (goodIn_of _ (by decide +kernel)) ggL_law_X7_sale
set_option maxRecDepth 20000 in
theorem ggL_law_X8_sale : GoodIn wsL_law wsX8_sale := goodIn_r _ [231, 124, 183, 232, 97, 96, 94, 95, 233, 101, 177, 178, 179, 5, 180, 181, 182, 126, 93, 184, 185, 186, 187, 188, 127, 128, 129, 189, 190, 191, 192, 193, 194, 195, 919, 920, 921, 922, 923, 924, 925, 926, 927, 928, 929, 930, 931, 932, 933, 934, 935, 936, 937, 938, 939, 940, 941, 942, 943, 944, 945, 946, 947, 948, 949, 950, 951] (by decide +kernel) (by decide +kernel)
set_option maxRecDepth 20000 in
theorem gL_law_X8_sale : GoodIn wsL_law (wsV RL 30 RX8 yX8_sale wsX8_sale) := goodIn_app (goodIn_of _ (by decide +kernel)) ggL_law_X8_sale
set_option maxRecDepth 20000 in
theorem ggL_law_X7_about : GoodIn wsL_law wsX7_about := goodIn_r _ [237, 20, 25, 33, 16, 224, 225, 226, 19, 227, 54, 238, 239, 240, 241, 55, 242, 243, 244, 245, 246, 247, 248, 249, 52, 250, 251, 252, 253, 254, 255, 256, 257, 53, 258, 259, 260, 261, 165, 2, 166, 262, 263, 264, 265, 266, 267, 268, 269, 270, 271, 272, 273, 274, 275, 276, 277, 278, 279, 280, 281, 282, 283, 284, 24, 285, 61, 286, 287, 288, 32, 289, 75, 116, 117, 118, 15, 119, 48, 910, 911, 912, 913, 914, 915, 916, 917, 918, 954, 955, 956, 957, 958, 959, 960, 963, 964, 965, 952, 953] (by decide +kernel) (by decide +kernel)
set_option maxRecDepth 20000 in
theorem gL_law_X7_about : GoodIn wsL_law (wsV RL 31 RX7 yX7_about wsX7_about) := goodIn_app (goodIn_of _ (by decide +kernel)) ggL_law_X7_about
set_option maxRecDepth 20000 in
theorem ggL_law_X8_about : GoodIn wsL_law wsX8_about := goodIn_r _ [293, 124, 294, 232, 97, 233, 295, 126, 296, 297, 298, 5, 299, 300, 301, 302, 303, 304, 305, 306, 307, 308, 309, 310, 311, 188, 94, 189, 190, 191, 312, 313, 314, 127, 128, 129, 315, 316, 317, 318, 319, 320, 321, 322, 323, 324, 325, 919, 920, 921, 922, 923, 924, 925, 926, 927, 928, 929, 930, 931, 932, 933, 934, 935, 936, 937, 938, 939, 940, 941, 942, 943, 944, 945, 946, 947, 948, 949, 950, 951] (by decide +kernel) (by decide +kernel)
set_option maxRecDepth 20000 in
theorem gL_law_X8_about : GoodIn wsL_law (wsV RL 34 RX8 yX8_about wsX8_about) := goodIn_app (goodIn_of _ (by decide +kernel)) ggL_law_X8_about
set_option maxRecDepth 20000 in
theorem ggL_law_X7_jar : GoodIn wsL_law wsX7_jar := goodIn_r _ [329, 20, 330, 271, 272, 19, 273, 54, 331, 332, 333, 334, 246, 247, 248, 249, 52, 266, 267, 268, 269, 270, 335, 336, 337, 338, 274, 275, 276, 277, 278, 279, 280, 281, 339, 910, 911, 912, 913, 914, 915, 916, 917, 918, 954, 955, 956, 957] (by decide +kernel) (by decide +kernel)
set_option maxRecDepth 20000 in
theorem gL_law_X7_jar : GoodIn wsL_law (wsV RL 35 RX7 yX7_jar wsX7_jar) := goodIn_app (goodIn_of _ (by decide +kernel)) ggL_law_X7_jar
set_option maxRecDepth 20000 in
theorem ggL_law_X8_jar : GoodIn wsL_law wsX8_jar := goodIn_r _ [343, 124, 294, 97, 94, 95, 344, 345, 346, 5, 347, 232, 127, 128, 129, 308, 309, 310, 311, 188, 189, 190, 191, 312, 313, 314, 315, 316, 317, 318, 319, 320, 321, 322, 323, 324, 325, 919, 920, 921, 922, 923, 924, 925, 926, 927, 928, 929, 930, 931, 932, 933, 934, 935, 936, 937, 938, 939, 940, 941, 942, 943, 944, 945, 946, 947, 948, 949, 950, 951] (by decide +kernel) (by decide +kernel)
set_option maxRecDepth 20000 in
theorem gL_law_X8_jar : GoodIn wsL_law (wsV RL 39 RX8 yX8_jar wsX8_jar) := goodIn_app (goodIn_of _ (by decide +kernel)) ggL_law_X8_jar
set_option maxRecDepth 20000 in
theorem ggL_law_X7_at : GoodIn wsL_law wsX7_at := goodIn_r _ [351, 20, 352, 165, 2, 166, 353, 354, 355, 19, 356, 54, 246, 247, 248, 249, 52, 910, 911, 912, 913, 914, 915, 916, 917, 918, 954, 955, 956, 957] (by decide +kernel) (by decide +kernel)
set_option maxRecDepth 20000 in
theorem gL_law_X7_at : GoodIn wsL_law (wsV RL 40 RX7 yX7_at wsX7_at) := goodIn_app (goodIn_of _ (by decide +kernel)) ggL_law_X7_at
set_option maxRecDepth 20000 in
theorem ggL_law_X8_at : GoodIn wsL_law wsX8_at := goodIn_r _ [360, 124, 294, 188, 97, 127, 128, 5, 129, 315, 316, 317, 318, 232, 319, 320, 321, 322, 189, 190, 191, 919, 920, 921, 922, 923, 924, 925, 926, 927, 928, 929, 930, 931, 932, 933, 934, 935, 936, 937, 938, 939, 940, 941, 942, 943, 944, 945, 946, 947, 948, 949, 950, 951] (by decide +kernel) (by decide +kernel)
set_option maxRecDepth 20000 in
theorem gL_law_X8_at : GoodIn wsL_law (wsV RL 43 RX8 yX8_at wsX8_at) := goodIn_app (goodIn_of _ (by decide +kernel)) ggL_law_X8_at
set_option maxRecDepth 20000 in
theorem ggL_law_X7_week : GoodIn wsL_law wsX7_week := goodIn_r _ [364, 25, 20, 365, 366, 367, 24, 368, 60, 62, 61, 369, 370, 280, 371, 372, 373, 374, 19, 375, 52, 376, 377, 378, 379, 55, 380, 381, 382, 383, 54, 266, 267, 268, 269, 270, 271, 272, 273, 246, 247, 248, 249, 384, 385, 386, 387, 388, 389, 2, 390, 391, 392, 393, 394, 395, 396, 397, 398, 212, 213, 214, 215, 399, 400, 401, 402, 403, 404, 405, 406, 910, 911, 912, 913, 914, 915, 916, 917, 918, 958, 959, 960, 954, 955, 956, 957] (by decide +kernel) (by decide +kernel)
set_option maxRecDepth 20000 in
theorem gL_law_X7_week : GoodIn wsL_law (wsV RL 44 RX7 yX7_week wsX7_week) := goodIn_app (goodIn_of _ (by decide +kernel)) ggL_law_X7_week
set_option maxRecDepth 20000 in
theorem ggL_law_X8_week : GoodIn wsL_law wsX8_week := goodIn_r _ [410, 124, 97, 411, 412, 413, 5, 414, 233, 99, 415, 416, 417, 418, 232, 94, 312, 313, 314, 419, 420, 421, 422, 423, 424, 425, 919, 920, 921, 922, 923, 924, 925, 926, 927, 928, 929, 930, 931, 932, 933, 934, 935, 936, 937, 938, 939, 940, 941, 942, 943, 944, 945, 946, 947, 948, 949, 950, 951] (by decide +kernel) (by decide +kernel)
set_option maxRecDepth 20000 in
theorem gL_law_X8_week : GoodIn wsL_law (wsV RL 47 RX8 yX8_week wsX8_week) := goodIn_app (goodIn_of _ (by decide +kernel)) ggL_law_X8_week
set_option maxRecDepth 20000 in
theorem ggL_law_X7_shake : GoodIn wsL_law wsX7_shake := goodIn_r _ [429, 25, 20, 365, 366, 367, 24, 368, 60, 62, 61, 369, 370, 280, 371, 372, 373, 374, 19, 375, 52, 376, 377, 378, 379, 55, 430, 431, 432, 433, 54, 434, 435, 436, 437, 266, 267, 268, 269, 270, 271, 272, 273, 246, 247, 248, 249, 212, 213, 214, 215, 399, 400, 401, 402, 910, 911, 912, 913, 914, 915, 916, 917, 918, 958, 959, 960, 954, 955, 956, 957] (by decide +kernel) (by decide +kernel)
set_option maxRecDepth 20000 in
theorem gL_law_X7_shake : GoodIn wsL_law (wsV RL 48 RX7 yX7_shake wsX7_shake) := goodIn_app (goodIn_of _ (by decide +kernel)) ggL_law_X7_shake
set_option maxRecDepth 20000 in
theorem ggL_law_X8_shake : GoodIn wsL_law wsX8_shake := goodIn_r _ [441, 124, 97, 411, 412, 413, 5, 414, 233, 99, 442, 443, 444, 445, 232, 95, 94, 312, 313, 314, 919, 920, 921, 922, 923, 924, 925, 926, 927, 928, 929, 930, 931, 932, 933, 934, 935, 936, 937, 938, 939, 940, 941, 942, 943, 944, 945, 946, 947, 948, 949, 950, 951] (by decide +kernel) (by decide +kernel)
set_option maxRecDepth 20000 in
theorem gL_law_X8_shake : GoodIn wsL_law (wsV RL 51 RX8 yX8_shake wsX8_shake) := goodIn_app (goodIn_of _ (by decide +kernel)) ggL_law_X8_shake
set_option maxRecDepth 20000 in
theorem ggL_law_X7_set : GoodIn wsL_law wsX7_set := goodIn_r _ [449, 20, 25, 330, 271, 272, 19, 273, 54, 352, 165, 2, 166, 450, 451, 452, 453, 266, 267, 268, 269, 270, 246, 247, 248, 249, 52, 454, 354, 355, 356, 365, 366, 367, 24, 368, 60, 62, 61, 369, 370, 280, 371, 372, 373, 374, 375, 376, 377, 378, 379, 55, 339, 455, 456, 457, 458, 212, 213, 214, 215, 910, 911, 912, 913, 914, 915, 916, 917, 918, 954, 955, 956, 957, 958, 959, 960] (by decide +kernel) (by decide +kernel)
set_option maxRecDepth 20000 in
theorem gL_law_X7_set : GoodIn wsL_law (wsV RL 52 RX7 yX7_set wsX7_set) := goodIn_app (goodIn_of _ (by decide +kernel)) ggL_law_X7_set
set_option maxRecDepth 20000 in
theorem ggL_law_X8_set : GoodIn wsL_law wsX8_set := goodIn_r _ [462, 124, 294, 188, 97, 344, 345, 346, 5, 347, 232, 127, 128, 129, 463, 464, 465, 466, 312, 313, 314, 315, 316, 317, 318, 319, 320, 321, 322, 189, 190, 191, 411, 412, 413, 414, 233, 99, 919, 920, 921, 922, 923, 924, 925, 926, 927, 928, 929, 930, 931, 932, 933, 934, 935, 936, 937, 938, 939, 940, 941, 942, 943, 944, 945, 946, 947, 948, 949, 950, 951] (by decide +kernel) (by decide +kernel)
set_option maxRecDepth 20000 in
theorem gL_law_X8_set : GoodIn wsL_law (wsV RL 55 RX8 yX8_set wsX8_set) := goodIn_app (goodIn_of _ (by decide +kernel)) ggL_law_X8_set
set_option maxRecDepth 20000 in
theorem ggL_law_X7_pour : GoodIn wsL_law wsX7_pour := goodIn_r _ [470, 20, 25, 330, 271, 272, 19, 273, 54, 471, 171, 2, 172, 472, 473, 474, 475, 266, 267, 268, 269, 270, 246, 247, 248, 249, 52, 365, 366, 367, 24, 368, 60, 62, 61, 369, 370, 280, 371, 372, 373, 374, 375, 376, 377, 378, 379, 55, 339, 476, 477, 478, 479, 212, 213, 214, 215, 910, 911, 912, 913, 914, 915, 916, 917, 918, 954, 955, 956, 957, 958, 959, 960] (by decide +kernel) (by decide +kernel)
set_option maxRecDepth 20000 in
theorem gL_law_X7_pour : GoodIn wsL_law (wsV RL 56 RX7 yX7_pour wsX7_pour) := goodIn_app (goodIn_of _ (by decide +kernel)) ggL_law_X7_pour
set_option maxRecDepth 20000 in
theorem ggL_law_X8_pour : GoodIn wsL_law wsX8_pour := goodIn_r _ [483, 124, 484, 97, 344, 345, 346, 5, 347, 232, 127, 128, 129, 485, 486, 487, 312, 313, 314, 411, 412, 413, 414, 233, 99, 488, 489, 490, 919, 920, 921, 922, 923, 924, 925, 926, 927, 928, 929, 930, 931, 932, 933, 934, 935, 936, 937, 938, 939, 940, 941, 942, 943, 944, 945, 946, 947, 948, 949, 950, 951] (by decide +kernel) (by decide +kernel)
