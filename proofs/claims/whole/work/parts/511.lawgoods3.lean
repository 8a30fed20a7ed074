set_option maxRecDepth 20000 in
theorem gL_law_X7_share : GoodIn wsL_law (wsV RL 98 RX7 yX7_share wsX7_share) := goodIn_app (goodIn_of _ (by decide +kernel)) ggL_law_X7_share
set_option maxRecDepth 20000 in
theorem ggL_law_X8_share : GoodIn wsL_law wsX8_share := goodIn_r _ [740, 124, 232, 107, 344, 345, 346, 5, 347, 127, 128, 129, 741, 742, 743, 744, 294, 97, 308, 309, 310, 311, 188, 94, 189, 190, 191, 312, 313, 314, 315, 316, 317, 318, 319, 320, 321, 322, 323, 324, 325, 745, 746, 747, 748, 749, 750, 751, 752, 753, 754, 755, 756, 919, 920, 921, 922, 923, 924, 925, 926, 927, 928, 929, 930, 931, 932, 933, 934, 935, 936, 937, 938, 939, 940, 941, 942, 943, 944, 945, 946, 947, 948, 949, 950, 951] (by decide +kernel) (by decide +kernel)
set_option maxRecDepth 20000 in
theorem gL_law_X8_share : GoodIn wsL_law (wsV RL 102 RX8 yX8_share wsX8_share) := goodIn_app (goodIn_of _ (by decide +kernel)) ggL_law_X8_share
set_option maxRecDepth 20000 in
theorem ggL_law_X7_taste : GoodIn wsL_law wsX7_taste := goodIn_r _ [760, 33, 550, 169, 2, 170, 761, 762, 763, 32, 764, 75, 73, 74, 286, 287, 288, 289, 910, 911, 912, 913, 914, 915, 916, 917, 918, 963, 964, 965] (by decide +kernel) (by decide +kernel)
set_option maxRecDepth 20000 in
theorem gL_law_X7_taste : GoodIn wsL_law (wsV RL 103 RX7 yX7_taste wsX7_taste) := goodIn_app (goodIn_of _ (by decide +kernel)) ggL_law_X7_taste
set_option maxRecDepth 20000 in
theorem ggL_law_X8_taste : GoodIn wsL_law wsX8_taste := goodIn_r _ [768, 124, 555, 295, 102, 103, 127, 128, 5, 129, 919, 920, 921, 922, 923, 924, 925, 926, 927, 928, 929, 930, 931, 932, 933, 934, 935, 936, 937, 938, 939, 940, 941, 942, 943, 944, 945, 946, 947, 948, 949, 950, 951] (by decide +kernel) (by decide +kernel)
set_option maxRecDepth 20000 in
theorem gL_law_X8_taste : GoodIn wsL_law (wsV RL 106 RX8 yX8_taste wsX8_taste) := goodIn_app (goodIn_of _ (by decide +kernel)) ggL_law_X8_taste
set_option maxRecDepth 20000 in
theorem ggL_law_X7_untaste : GoodIn wsL_law wsX7_untaste := goodIn_r _ [772, 33, 286, 287, 288, 32, 289, 75, 773, 774, 775, 776, 910, 911, 912, 913, 914, 915, 916, 917, 918, 963, 964, 965] (by decide +kernel) (by decide +kernel)
set_option maxRecDepth 20000 in
theorem gL_law_X7_untaste : GoodIn wsL_law (wsV RL 107 RX7 yX7_untaste wsX7_untaste) := goodIn_app (goodIn_of _ (by decide +kernel)) ggL_law_X7_untaste
set_option maxRecDepth 20000 in
theorem ggL_law_X8_untaste : GoodIn wsL_law wsX8_untaste := goodIn_r _ [780, 124, 295, 919, 920, 921, 922, 923, 924, 925, 926, 927, 928, 929, 930, 931, 932, 933, 934, 935, 936, 937, 938, 939, 940, 941, 942, 943, 944, 945, 946, 947, 948, 949, 950, 951] (by decide +kernel) (by decide +kernel)
set_option maxRecDepth 20000 in
theorem gL_law_X8_untaste : GoodIn wsL_law (wsV RL 110 RX8 yX8_untaste wsX8_untaste) := goodIn_app (goodIn_of _ (by decide +kernel)) ggL_law_X8_untaste
set_option maxRecDepth 20000 in
theorem ggL_law_X7_kept : GoodIn wsL_law wsX7_kept := goodIn_r _ [784, 33, 785, 786, 787, 32, 788, 789, 790, 791, 792, 75, 73, 74, 793, 794, 795, 389, 2, 390, 391, 370, 280, 371, 392, 393, 394, 395, 396, 397, 398, 796, 797, 798, 799, 910, 911, 912, 913, 914, 915, 916, 917, 918, 963, 964, 965] (by decide +kernel) (by decide +kernel)
set_option maxRecDepth 20000 in
theorem gL_law_X7_kept : GoodIn wsL_law (wsV RL 111 RX7 yX7_kept wsX7_kept) := goodIn_app (goodIn_of _ (by decide +kernel)) ggL_law_X7_kept
set_option maxRecDepth 20000 in
theorem ggL_law_X8_kept : GoodIn wsL_law wsX8_kept := goodIn_r _ [803, 124, 804, 805, 295, 102, 103, 127, 128, 5, 129, 806, 807, 808, 419, 420, 421, 919, 920, 921, 922, 923, 924, 925, 926, 927, 928, 929, 930, 931, 932, 933, 934, 935, 936, 937, 938, 939, 940, 941, 942, 943, 944, 945, 946, 947, 948, 949, 950, 951] (by decide +kernel) (by decide +kernel)
set_option maxRecDepth 20000 in
theorem gL_law_X8_kept : GoodIn wsL_law (wsV RL 114 RX8 yX8_kept wsX8_kept) := goodIn_app (goodIn_of _ (by decide +kernel)) ggL_law_X8_kept
set_option maxRecDepth 20000 in
theorem ggL_law_X7_rests : GoodIn wsL_law wsX7_rests := goodIn_r _ [812, 20, 330, 271, 272, 19, 273, 54, 495, 267, 268, 269, 270, 246, 247, 248, 249, 52, 813, 814, 815, 2, 816, 21, 524, 525, 526, 527, 376, 377, 378, 379, 55, 817, 818, 819, 820, 212, 213, 214, 215, 331, 332, 333, 334, 266, 335, 336, 337, 338, 274, 275, 276, 277, 278, 279, 280, 281, 821, 167, 168, 822, 823, 824, 825, 826, 827, 910, 911, 912, 913, 914, 915, 916, 917, 918, 954, 955, 956, 957] (by decide +kernel) (by decide +kernel)
set_option maxRecDepth 20000 in
theorem gL_law_X7_rests : GoodIn wsL_law (wsV RL 115 RX7 yX7_rests wsX7_rests) := goodIn_app (goodIn_of _ (by decide +kernel)) ggL_law_X7_rests
set_option maxRecDepth 20000 in
theorem ggL_law_X8_rests : GoodIn wsL_law wsX8_rests := goodIn_r _ [831, 124, 97, 98, 106, 832, 833, 344, 345, 346, 5, 347, 232, 127, 128, 129, 312, 313, 314, 538, 539, 540, 541, 294, 308, 309, 310, 311, 188, 94, 189, 190, 191, 315, 316, 317, 318, 319, 320, 321, 322, 323, 324, 325, 834, 835, 836, 919, 920, 921, 922, 923, 924, 925, 926, 927, 928, 929, 930, 931, 932, 933, 934, 935, 936, 937, 938, 939, 940, 941, 942, 943, 944, 945, 946, 947, 948, 949, 950, 951] (by decide +kernel) (by decide +kernel)
set_option maxRecDepth 20000 in
theorem gL_law_X8_rests : GoodIn wsL_law (wsV RL 118 RX8 yX8_rests wsX8_rests) := goodIn_app (goodIn_of _ (by decide +kernel)) ggL_law_X8_rests
set_option maxRecDepth 20000 in
theorem ggL_law_X7_papers : GoodIn wsL_law wsX7_papers := goodIn_r _ [840, 20, 41, 242, 243, 244, 19, 245, 54, 246, 247, 248, 249, 52, 700, 701, 397, 702, 703, 704, 705, 841, 842, 843, 2, 844, 21, 710, 711, 712, 713, 714, 525, 526, 527, 376, 377, 378, 379, 55, 167, 168, 212, 213, 214, 215, 254, 255, 256, 257, 53, 258, 259, 260, 261, 165, 166, 262, 263, 264, 265, 266, 267, 268, 269, 270, 271, 272, 273, 274, 275, 276, 277, 278, 279, 280, 281, 845, 846, 847, 725, 726, 727, 40, 728, 729, 87, 88, 730, 731, 732, 733, 734, 735, 736, 910, 911, 912, 913, 914, 915, 916, 917, 918, 954, 955, 956, 957, 971, 972] (by decide +kernel) (by decide +kernel)
set_option maxRecDepth 20000 in
theorem gL_law_X7_papers : GoodIn wsL_law (wsV RL 119 RX7 yX7_papers wsX7_papers) := goodIn_app (goodIn_of _ (by decide +kernel)) ggL_law_X7_papers
set_option maxRecDepth 20000 in
theorem ggL_law_X8_papers : GoodIn wsL_law wsX8_papers := goodIn_r _ [851, 124, 484, 852, 97, 232, 98, 127, 128, 5, 129, 296, 297, 298, 299, 745, 746, 747, 538, 539, 540, 541, 294, 189, 190, 191, 304, 305, 306, 307, 308, 309, 310, 311, 188, 94, 312, 313, 314, 315, 316, 317, 318, 319, 320, 321, 322, 323, 324, 325, 853, 854, 855, 751, 752, 753, 754, 755, 756, 919, 920, 921, 922, 923, 924, 925, 926, 927, 928, 929, 930, 931, 932, 933, 934, 935, 936, 937, 938, 939, 940, 941, 942, 943, 944, 945, 946, 947, 948, 949, 950, 951] (by decide +kernel) (by decide +kernel)
set_option maxRecDepth 20000 in
theorem gL_law_X8_papers : GoodIn wsL_law (wsV RL 123 RX8 yX8_papers wsX8_papers) := goodIn_app (goodIn_of _ (by decide +kernel)) ggL_law_X8_papers
set_option maxRecDepth 20000 in
theorem ggL_law_X7_seed : GoodIn wsL_law wsX7_seed := goodIn_r _ [859, 42, 910, 911, 912, 913, 914, 915, 916, 917, 918] (by decide +kernel) (by decide +kernel)
set_option maxRecDepth 20000 in
theorem gL_law_X7_seed : GoodIn wsL_law (wsV RL 124 RX7 yX7_seed wsX7_seed) := goodIn_app (goodIn_of _ (by decide +kernel)) ggL_law_X7_seed
set_option maxRecDepth 20000 in
theorem ggL_law_X8_seed : GoodIn wsL_law wsX8_seed := goodIn_r _ [863, 124, 864, 919, 920, 921, 922, 923, 924, 925, 926, 927, 928, 929, 930, 931, 932, 933, 934, 935, 936, 937, 938, 939, 940, 941, 942, 943, 944, 945, 946, 947, 948, 949, 950, 951] (by decide +kernel) (by decide +kernel)
set_option maxRecDepth 20000 in
theorem gL_law_X8_seed : GoodIn wsL_law (wsV RL 128 RX8 yX8_seed wsX8_seed) := goodIn_app (goodIn_of _ (by decide +kernel)) ggL_law_X8_seed
set_option maxRecDepth 20000 in
theorem ggL_law_X7_years : GoodIn wsL_law wsX7_years := goodIn_r _ [868, 21, 20, 42, 869, 870, 871, 524, 525, 526, 19, 527, 52, 376, 377, 378, 379, 54, 55, 872, 873, 874, 2, 875, 668, 669, 670, 671, 672, 473, 474, 475, 266, 267, 268, 269, 270, 271, 272, 273, 246, 247, 248, 249, 171, 172, 673, 477, 478, 479, 212, 213, 214, 215, 430, 431, 432, 433, 434, 435, 436, 437, 399, 400, 401, 402, 380, 381, 382, 383, 384, 385, 386, 387, 388, 370, 280, 371, 389, 390, 391, 392, 393, 394, 395, 396, 397, 398, 403, 404, 405, 406, 910, 911, 912, 913, 914, 915, 916, 917, 918, 954, 955, 956, 957] (by decide +kernel) (by decide +kernel)
set_option maxRecDepth 20000 in
theorem gL_law_X7_years : GoodIn wsL_law (wsV RL 129 RX7 yX7_years wsX7_years) := goodIn_app (goodIn_of _ (by decide +kernel)) ggL_law_X7_years
set_option maxRecDepth 20000 in
theorem ggL_law_X8_years : GoodIn wsL_law wsX8_years := goodIn_r _ [879, 124, 880, 864, 881, 882, 883, 98, 127, 128, 5, 129, 538, 539, 540, 541, 294, 97, 688, 689, 690, 691, 415, 416, 417, 418, 232, 94, 312, 313, 314, 419, 420, 421, 442, 443, 444, 445, 95, 344, 345, 346, 347, 692, 693, 694, 695, 463, 464, 465, 466, 315, 316, 317, 318, 319, 320, 321, 322, 189, 190, 191, 485, 486, 487, 488, 489, 490, 308, 309, 310, 311, 188, 323, 324, 325, 422, 423, 424, 425, 919, 920, 921, 922, 923, 924, 925, 926, 927, 928, 929, 930, 931, 932, 933, 934, 935, 936, 937, 938, 939, 940, 941, 942, 943, 944, 945, 946, 947, 948, 949, 950, 951] (by decide +kernel) (by decide +kernel)
set_option maxRecDepth 20000 in
theorem gL_law_X8_years : GoodIn wsL_law (wsV RL 132 RX8 yX8_years wsX8_years) := goodIn_app (goodIn_of _ (by decide +kernel)) ggL_law_X8_years
set_option maxRecDepth 20000 in
theorem ggL_law_X7_keep : GoodIn wsL_law wsX7_keep := goodIn_r _ [887, 29, 20, 888, 889, 890, 28, 891, 67, 69, 892, 373, 374, 19, 375, 52, 376, 377, 378, 379, 55, 238, 239, 240, 241, 910, 911, 912, 913, 914, 915, 916, 917, 918, 961, 962, 954, 955, 956, 957] (by decide +kernel) (by decide +kernel)
set_option maxRecDepth 20000 in
theorem gL_law_X7_keep : GoodIn wsL_law (wsV RL 133 RX7 yX7_keep wsX7_keep) := goodIn_app (goodIn_of _ (by decide +kernel)) ggL_law_X7_keep
set_option maxRecDepth 20000 in
theorem ggL_law_X8_keep : GoodIn wsL_law wsX8_keep := goodIn_r _ [896, 124, 101, 100, 97, 127, 128, 5, 129, 919, 920, 921, 922, 923, 924, 925, 926, 927, 928, 929, 930, 931, 932, 933, 934, 935, 936, 937, 938, 939, 940, 941, 942, 943, 944, 945, 946, 947, 948, 949, 950, 951] (by decide +kernel) (by decide +kernel)
