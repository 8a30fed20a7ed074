set_option maxRecDepth 20000 in
theorem gL_law_X8_pour : GoodIn wsL_law (wsV RL 59 RX8 yX8_pour wsX8_pour) := goodIn_app (goodIn_of _ (by decide +kernel)) ggL_law_X8_pour
set_option maxRecDepth 20000 in
theorem ggL_law_X7_open : GoodIn wsL_law wsX7_open := goodIn_r _ [494, 20, 25, 330, 271, 272, 19, 273, 54, 495, 267, 268, 269, 270, 246, 247, 248, 249, 52, 365, 366, 367, 24, 368, 60, 62, 61, 369, 370, 280, 371, 372, 373, 374, 375, 376, 377, 378, 379, 55, 496, 497, 498, 499, 212, 213, 214, 215, 339, 910, 911, 912, 913, 914, 915, 916, 917, 918, 954, 955, 956, 957, 958, 959, 960] (by decide +kernel) (by decide +kernel)
set_option maxRecDepth 20000 in
theorem gL_law_X7_open : GoodIn wsL_law (wsV RL 60 RX7 yX7_open wsX7_open) := goodIn_app (goodIn_of _ (by decide +kernel)) ggL_law_X7_open
set_option maxRecDepth 20000 in
theorem ggL_law_X8_open : GoodIn wsL_law wsX8_open := goodIn_r _ [503, 124, 97, 344, 345, 346, 5, 347, 232, 127, 128, 129, 312, 313, 314, 411, 412, 413, 414, 233, 99, 919, 920, 921, 922, 923, 924, 925, 926, 927, 928, 929, 930, 931, 932, 933, 934, 935, 936, 937, 938, 939, 940, 941, 942, 943, 944, 945, 946, 947, 948, 949, 950, 951] (by decide +kernel) (by decide +kernel)
set_option maxRecDepth 20000 in
theorem gL_law_X8_open : GoodIn wsL_law (wsV RL 63 RX8 yX8_open wsX8_open) := goodIn_app (goodIn_of _ (by decide +kernel)) ggL_law_X8_open
set_option maxRecDepth 20000 in
theorem ggL_law_X7_undo : GoodIn wsL_law wsX7_undo := goodIn_r _ [507, 25, 20, 508, 509, 510, 24, 511, 61, 62, 60, 512, 513, 514, 19, 515, 52, 376, 377, 378, 379, 55, 282, 283, 284, 285, 910, 911, 912, 913, 914, 915, 916, 917, 918, 958, 959, 960, 954, 955, 956, 957] (by decide +kernel) (by decide +kernel)
set_option maxRecDepth 20000 in
theorem gL_law_X7_undo : GoodIn wsL_law (wsV RL 64 RX7 yX7_undo wsX7_undo) := goodIn_app (goodIn_of _ (by decide +kernel)) ggL_law_X7_undo
set_option maxRecDepth 20000 in
theorem ggL_law_X8_undo : GoodIn wsL_law wsX8_undo := goodIn_r _ [519, 124, 233, 97, 99, 919, 920, 921, 922, 923, 924, 925, 926, 927, 928, 929, 930, 931, 932, 933, 934, 935, 936, 937, 938, 939, 940, 941, 942, 943, 944, 945, 946, 947, 948, 949, 950, 951] (by decide +kernel) (by decide +kernel)
set_option maxRecDepth 20000 in
theorem gL_law_X8_undo : GoodIn wsL_law (wsV RL 67 RX8 yX8_undo wsX8_undo) := goodIn_app (goodIn_of _ (by decide +kernel)) ggL_law_X8_undo
set_option maxRecDepth 20000 in
theorem ggL_law_X7_later : GoodIn wsL_law wsX7_later := goodIn_r _ [523, 20, 21, 330, 271, 272, 19, 273, 54, 524, 525, 526, 527, 52, 376, 377, 378, 379, 55, 528, 529, 530, 531, 532, 381, 382, 383, 266, 267, 268, 269, 270, 246, 247, 248, 249, 384, 385, 386, 387, 388, 370, 280, 371, 389, 2, 390, 391, 392, 393, 394, 395, 396, 397, 398, 212, 213, 214, 215, 399, 400, 401, 402, 339, 331, 332, 333, 334, 335, 336, 337, 338, 274, 275, 276, 277, 278, 279, 281, 910, 911, 912, 913, 914, 915, 916, 917, 918, 954, 955, 956, 957] (by decide +kernel) (by decide +kernel)
set_option maxRecDepth 20000 in
theorem gL_law_X7_later : GoodIn wsL_law (wsV RL 68 RX7 yX7_later wsX7_later) := goodIn_app (goodIn_of _ (by decide +kernel)) ggL_law_X7_later
set_option maxRecDepth 20000 in
theorem ggL_law_X8_later : GoodIn wsL_law wsX8_later := goodIn_r _ [536, 124, 537, 98, 344, 345, 346, 5, 347, 232, 127, 128, 129, 538, 539, 540, 541, 294, 97, 542, 543, 544, 545, 415, 416, 417, 418, 94, 312, 313, 314, 419, 420, 421, 308, 309, 310, 311, 188, 189, 190, 191, 315, 316, 317, 318, 319, 320, 321, 322, 323, 324, 325, 919, 920, 921, 922, 923, 924, 925, 926, 927, 928, 929, 930, 931, 932, 933, 934, 935, 936, 937, 938, 939, 940, 941, 942, 943, 944, 945, 946, 947, 948, 949, 950, 951] (by decide +kernel) (by decide +kernel)
set_option maxRecDepth 20000 in
theorem gL_law_X8_later : GoodIn wsL_law (wsV RL 72 RX8 yX8_later wsX8_later) := goodIn_app (goodIn_of _ (by decide +kernel)) ggL_law_X8_later
set_option maxRecDepth 20000 in
theorem ggL_law_X7_becomes : GoodIn wsL_law wsX7_becomes := goodIn_r _ [549, 20, 21, 330, 271, 272, 19, 273, 54, 550, 169, 2, 170, 495, 267, 268, 269, 270, 246, 247, 248, 249, 52, 524, 525, 526, 527, 376, 377, 378, 379, 55, 339, 380, 381, 382, 383, 266, 384, 385, 386, 387, 388, 370, 280, 371, 389, 390, 391, 392, 393, 394, 395, 396, 397, 398, 212, 213, 214, 215, 399, 400, 401, 402, 910, 911, 912, 913, 914, 915, 916, 917, 918, 954, 955, 956, 957] (by decide +kernel) (by decide +kernel)
set_option maxRecDepth 20000 in
theorem gL_law_X7_becomes : GoodIn wsL_law (wsV RL 73 RX7 yX7_becomes wsX7_becomes) := goodIn_app (goodIn_of _ (by decide +kernel)) ggL_law_X7_becomes
set_option maxRecDepth 20000 in
theorem ggL_law_X8_becomes : GoodIn wsL_law wsX8_becomes := goodIn_r _ [554, 124, 555, 97, 98, 344, 345, 346, 5, 347, 232, 127, 128, 129, 312, 313, 314, 538, 539, 540, 541, 294, 415, 416, 417, 418, 94, 419, 420, 421, 919, 920, 921, 922, 923, 924, 925, 926, 927, 928, 929, 930, 931, 932, 933, 934, 935, 936, 937, 938, 939, 940, 941, 942, 943, 944, 945, 946, 947, 948, 949, 950, 951] (by decide +kernel) (by decide +kernel)
set_option maxRecDepth 20000 in
theorem gL_law_X8_becomes : GoodIn wsL_law (wsV RL 76 RX8 yX8_becomes wsX8_becomes) := goodIn_app (goodIn_of _ (by decide +kernel)) ggL_law_X8_becomes
set_option maxRecDepth 20000 in
theorem ggL_law_X7_fails : GoodIn wsL_law wsX7_fails := goodIn_r _ [559, 20, 21, 330, 271, 272, 19, 273, 54, 495, 267, 268, 269, 270, 246, 247, 248, 249, 52, 524, 525, 526, 527, 376, 377, 378, 379, 55, 560, 435, 436, 437, 266, 380, 381, 382, 383, 384, 385, 386, 387, 388, 370, 280, 371, 389, 2, 390, 391, 392, 393, 394, 395, 396, 397, 398, 212, 213, 214, 215, 399, 400, 401, 402, 910, 911, 912, 913, 914, 915, 916, 917, 918, 954, 955, 956, 957] (by decide +kernel) (by decide +kernel)
set_option maxRecDepth 20000 in
theorem gL_law_X7_fails : GoodIn wsL_law (wsV RL 77 RX7 yX7_fails wsX7_fails) := goodIn_app (goodIn_of _ (by decide +kernel)) ggL_law_X7_fails
set_option maxRecDepth 20000 in
theorem ggL_law_X8_fails : GoodIn wsL_law wsX8_fails := goodIn_r _ [564, 124, 97, 95, 98, 344, 345, 346, 5, 347, 232, 127, 128, 129, 312, 313, 314, 538, 539, 540, 541, 294, 415, 416, 417, 418, 94, 419, 420, 421, 919, 920, 921, 922, 923, 924, 925, 926, 927, 928, 929, 930, 931, 932, 933, 934, 935, 936, 937, 938, 939, 940, 941, 942, 943, 944, 945, 946, 947, 948, 949, 950, 951] (by decide +kernel) (by decide +kernel)
set_option maxRecDepth 20000 in
theorem gL_law_X8_fails : GoodIn wsL_law (wsV RL 80 RX8 yX8_fails wsX8_fails) := goodIn_app (goodIn_of _ (by decide +kernel)) ggL_law_X8_fails
set_option maxRecDepth 20000 in
theorem ggL_law_X7_stuff : GoodIn wsL_law wsX7_stuff := goodIn_r _ [568, 20, 330, 271, 272, 19, 273, 54, 550, 169, 2, 170, 495, 267, 268, 269, 270, 246, 247, 248, 249, 52, 569, 570, 571, 572, 21, 573, 279, 280, 281, 524, 525, 526, 527, 376, 377, 378, 379, 55, 476, 477, 478, 479, 212, 213, 214, 215, 528, 529, 530, 531, 532, 381, 382, 383, 266, 384, 385, 386, 387, 388, 370, 371, 389, 390, 391, 392, 393, 394, 395, 396, 397, 398, 399, 400, 401, 402, 339, 910, 911, 912, 913, 914, 915, 916, 917, 918, 954, 955, 956, 957] (by decide +kernel) (by decide +kernel)
set_option maxRecDepth 20000 in
theorem gL_law_X7_stuff : GoodIn wsL_law (wsV RL 81 RX7 yX7_stuff wsX7_stuff) := goodIn_app (goodIn_of _ (by decide +kernel)) ggL_law_X7_stuff
set_option maxRecDepth 20000 in
theorem ggL_law_X8_stuff : GoodIn wsL_law wsX8_stuff := goodIn_r _ [577, 124, 578, 555, 97, 579, 580, 98, 344, 345, 346, 5, 347, 232, 127, 128, 129, 312, 313, 314, 538, 539, 540, 541, 294, 542, 543, 544, 545, 415, 416, 417, 418, 94, 419, 420, 421, 919, 920, 921, 922, 923, 924, 925, 926, 927, 928, 929, 930, 931, 932, 933, 934, 935, 936, 937, 938, 939, 940, 941, 942, 943, 944, 945, 946, 947, 948, 949, 950, 951] (by decide +kernel) (by decide +kernel)
set_option maxRecDepth 20000 in
theorem gL_law_X8_stuff : GoodIn wsL_law (wsV RL 85 RX8 yX8_stuff wsX8_stuff) := goodIn_app (goodIn_of _ (by decide +kernel)) ggL_law_X8_stuff
set_option maxRecDepth 20000 in
theorem ggL_law_X7_row : GoodIn wsL_law wsX7_row := goodIn_r _ [584, 21, 20, 37, 524, 525, 526, 19, 527, 52, 376, 377, 378, 379, 54, 55, 585, 586, 587, 36, 588, 589, 370, 280, 371, 82, 590, 591, 592, 593, 81, 79, 80, 594, 225, 226, 227, 595, 267, 268, 269, 270, 271, 272, 273, 246, 247, 248, 249, 596, 354, 355, 356, 597, 598, 599, 600, 266, 601, 602, 603, 604, 83, 605, 456, 457, 458, 212, 213, 214, 215, 606, 255, 256, 257, 53, 258, 259, 260, 261, 165, 2, 166, 262, 263, 264, 265, 274, 275, 276, 277, 278, 279, 281, 607, 608, 609, 610, 611, 612, 613, 614, 615, 616, 617, 618, 619, 620, 621, 622, 910, 911, 912, 913, 914, 915, 916, 917, 918, 954, 955, 956, 957, 966, 967, 968, 969, 970] (by decide +kernel) (by decide +kernel)
set_option maxRecDepth 20000 in
theorem gL_law_X7_row : GoodIn wsL_law (wsV RL 86 RX7 yX7_row wsX7_row) := goodIn_app (goodIn_of _ (by decide +kernel)) ggL_law_X7_row
set_option maxRecDepth 20000 in
theorem ggL_law_X8_row : GoodIn wsL_law wsX8_row := goodIn_r _ [626, 124, 627, 628, 629, 630, 631, 5, 632, 98, 105, 104, 633, 634, 635, 636, 232, 97, 312, 313, 314, 538, 539, 540, 541, 294, 304, 305, 306, 307, 308, 309, 310, 311, 188, 94, 189, 190, 191, 127, 128, 129, 315, 316, 317, 318, 319, 320, 321, 322, 323, 324, 325, 637, 638, 639, 640, 919, 920, 921, 922, 923, 924, 925, 926, 927, 928, 929, 930, 931, 932, 933, 934, 935, 936, 937, 938, 939, 940, 941, 942, 943, 944, 945, 946, 947, 948, 949, 950, 951] (by decide +kernel) (by decide +kernel)
set_option maxRecDepth 20000 in
theorem gL_law_X8_row : GoodIn wsL_law (wsV RL 90 RX8 yX8_row wsX8_row) := goodIn_app (goodIn_of _ (by decide +kernel)) ggL_law_X8_row
set_option maxRecDepth 20000 in
theorem ggL_law_X7_judge : GoodIn wsL_law wsX7_judge := goodIn_r _ [644, 21, 20, 645, 646, 647, 2, 648, 524, 525, 526, 19, 527, 52, 376, 377, 378, 379, 54, 55, 649, 650, 651, 652, 653, 654, 655, 656, 532, 381, 382, 383, 266, 267, 268, 269, 270, 271, 272, 273, 246, 247, 248, 249, 384, 385, 386, 387, 388, 370, 280, 371, 389, 390, 391, 392, 393, 394, 395, 396, 397, 398, 212, 213, 214, 215, 399, 400, 401, 402, 657, 658, 659, 660, 661, 431, 432, 433, 434, 435, 436, 437, 662, 663, 664, 665, 666, 451, 452, 453, 165, 166, 454, 354, 355, 356, 667, 456, 457, 458, 668, 669, 670, 671, 672, 473, 474, 475, 171, 172, 673, 477, 478, 479, 674, 675, 676, 677, 678, 497, 498, 499, 330, 331, 332, 333, 334, 335, 336, 337, 338, 274, 275, 276, 277, 278, 279, 281, 495, 339, 910, 911, 912, 913, 914, 915, 916, 917, 918, 954, 955, 956, 957] (by decide +kernel) (by decide +kernel)
set_option maxRecDepth 20000 in
theorem gL_law_X7_judge : GoodIn wsL_law (wsV RL 93 RX7 yX7_judge wsX7_judge) := goodIn_app (goodIn_of _ (by decide +kernel)) ggL_law_X7_judge
set_option maxRecDepth 20000 in
theorem ggL_law_X8_judge : GoodIn wsL_law wsX8_judge := goodIn_r _ [682, 124, 683, 684, 127, 128, 5, 129, 685, 686, 687, 538, 539, 540, 541, 294, 98, 97, 688, 689, 690, 691, 415, 416, 417, 418, 232, 94, 312, 313, 314, 419, 420, 421, 442, 443, 444, 445, 95, 344, 345, 346, 347, 692, 693, 694, 695, 463, 464, 465, 466, 315, 316, 317, 318, 319, 320, 321, 322, 189, 190, 191, 485, 486, 487, 488, 489, 490, 308, 309, 310, 311, 188, 323, 324, 325, 919, 920, 921, 922, 923, 924, 925, 926, 927, 928, 929, 930, 931, 932, 933, 934, 935, 936, 937, 938, 939, 940, 941, 942, 943, 944, 945, 946, 947, 948, 949, 950, 951] (by decide +kernel) (by decide +kernel)
set_option maxRecDepth 20000 in
theorem gL_law_X8_judge : GoodIn wsL_law (wsV RL 97 RX8 yX8_judge wsX8_judge) := goodIn_app (goodIn_of _ (by decide +kernel)) ggL_law_X8_judge
set_option maxRecDepth 20000 in
theorem ggL_law_X7_share : GoodIn wsL_law wsX7_share := goodIn_r _ [699, 20, 41, 330, 271, 272, 19, 273, 54, 224, 225, 226, 227, 700, 701, 397, 702, 703, 704, 705, 706, 707, 708, 2, 709, 21, 710, 711, 712, 713, 714, 525, 526, 527, 52, 376, 377, 378, 379, 55, 167, 168, 212, 213, 214, 215, 715, 716, 717, 718, 719, 332, 333, 334, 246, 247, 248, 249, 266, 267, 268, 269, 270, 335, 336, 337, 338, 274, 275, 276, 277, 278, 279, 280, 281, 720, 721, 722, 723, 724, 725, 726, 727, 40, 728, 729, 87, 88, 730, 731, 732, 733, 734, 735, 736, 910, 911, 912, 913, 914, 915, 916, 917, 918, 954, 955, 956, 957, 971, 972] (by decide +kernel) (by decide +kernel)
