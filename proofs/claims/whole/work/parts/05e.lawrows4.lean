set_option maxRecDepth 20000 in
theorem ggL_law_X7_drop : GoodIn wsL_law wsX7_drop := goodIn_r _ [854, 34, 855, 856, 831, 832, 2, 833, 1020, 1021, 1022, 1023, 1024, 1025, 1026, 1027, 1082, 1083, 1084, 1085] (by decide +kernel) (by decide +kernel)
set_option maxRecDepth 20000 in
theorem gL_law_X7_drop : GoodIn wsL_law (wsV RL 122 RX7 yX7_drop wsX7_drop) := goodIn_app (goodIn_of _ (by decide +kernel)) ggL_law_X7_drop
set_option maxRecDepth 20000 in
theorem ggL_law_X8_drop : GoodIn wsL_law wsX8_drop := goodIn_r _ [860, 112, 113, 848, 849, 5, 850, 143, 144, 145, 1028, 1029, 1030, 1031, 1032, 1033, 1034, 1035, 1036, 1037, 1038, 1039, 1040, 1041, 1042, 1043, 1044, 1045, 1046, 1047, 1048, 1049] (by decide +kernel) (by decide +kernel)
set_option maxRecDepth 20000 in
theorem gL_law_X8_drop : GoodIn wsL_law (wsV RL 125 RX8 yX8_drop wsX8_drop) := goodIn_app (goodIn_of _ (by decide +kernel)) ggL_law_X8_drop
set_option maxRecDepth 20000 in
theorem ggL_law_X7_item : GoodIn wsL_law wsX7_item := goodIn_r _ [864, 865, 34, 831, 832, 2, 833, 834, 835, 836, 866, 867, 868, 36, 869, 105, 106, 870, 871, 872, 873, 107, 874, 875, 876, 877, 104, 878, 879, 880, 881, 1020, 1021, 1022, 1023, 1024, 1025, 1026, 1027, 1082, 1083, 1084, 1085] (by decide +kernel) (by decide +kernel)
set_option maxRecDepth 20000 in
theorem gL_law_X7_item : GoodIn wsL_law (wsV RL 128 RX7 yX7_item wsX7_item) := goodIn_app (goodIn_of _ (by decide +kernel)) ggL_law_X7_item
set_option maxRecDepth 20000 in
theorem ggL_law_X8_item : GoodIn wsL_law wsX8_item := goodIn_r _ [885, 886, 114, 848, 849, 5, 850, 143, 144, 145, 887, 888, 889, 890, 112, 113, 891, 892, 893, 1028, 1029, 1030, 1031, 1032, 1033, 1034, 1035, 1036, 1037, 1038, 1039, 1040, 1041, 1042, 1043, 1044, 1045, 1046, 1047, 1048, 1049] (by decide +kernel) (by decide +kernel)
set_option maxRecDepth 20000 in
theorem gL_law_X8_item : GoodIn wsL_law (wsV RL 132 RX8 yX8_item wsX8_item) := goodIn_app (goodIn_of _ (by decide +kernel)) ggL_law_X8_item
set_option maxRecDepth 20000 in
theorem ggL_law_X7_copy : GoodIn wsL_law wsX7_copy := goodIn_r _ [897, 34, 855, 898, 899, 900, 525, 526, 527, 831, 832, 2, 833, 901, 871, 872, 36, 873, 107, 1020, 1021, 1022, 1023, 1024, 1025, 1026, 1027, 1082, 1083, 1084, 1085] (by decide +kernel) (by decide +kernel)
set_option maxRecDepth 20000 in
theorem gL_law_X7_copy : GoodIn wsL_law (wsV RL 133 RX7 yX7_copy wsX7_copy) := goodIn_app (goodIn_of _ (by decide +kernel)) ggL_law_X7_copy
set_option maxRecDepth 20000 in
theorem ggL_law_X8_copy : GoodIn wsL_law wsX8_copy := goodIn_r _ [905, 112, 113, 114, 848, 849, 5, 850, 143, 144, 145, 891, 892, 893, 1028, 1029, 1030, 1031, 1032, 1033, 1034, 1035, 1036, 1037, 1038, 1039, 1040, 1041, 1042, 1043, 1044, 1045, 1046, 1047, 1048, 1049] (by decide +kernel) (by decide +kernel)
set_option maxRecDepth 20000 in
theorem gL_law_X8_copy : GoodIn wsL_law (wsV RL 137 RX8 yX8_copy wsX8_copy) := goodIn_app (goodIn_of _ (by decide +kernel)) ggL_law_X8_copy
set_option maxRecDepth 20000 in
theorem ggL_law_X7_log : GoodIn wsL_law wsX7_log := goodIn_r _ [909, 34, 37, 38, 329, 373, 831, 832, 2, 833, 834, 835, 836, 866, 867, 868, 36, 869, 105, 106, 870, 871, 872, 873, 107, 377, 378, 379, 32, 380, 97, 98, 551, 552, 553, 554, 520, 521, 522, 523, 86, 524, 525, 526, 527, 87, 88, 89, 90, 91, 92, 93, 94, 95, 96, 99, 392, 393, 394, 395, 396, 397, 387, 398, 399, 386, 388, 400, 347, 348, 349, 350, 351, 352, 353, 401, 402, 403, 404, 405, 406, 407, 408, 266, 267, 268, 269, 270, 271, 272, 273, 274, 275, 276, 277, 874, 875, 876, 877, 104, 878, 879, 880, 881, 1020, 1021, 1022, 1023, 1024, 1025, 1026, 1027, 1068, 1069, 1070, 1071, 1072, 1073, 1074, 1075, 1076, 1077, 1078, 1079, 1080, 1081, 1082, 1083, 1084, 1085] (by decide +kernel) (by decide +kernel)
set_option maxRecDepth 20000 in
theorem gL_law_X7_log : GoodIn wsL_law (wsV RL 138 RX7 yX7_log wsX7_log) := goodIn_app (goodIn_of _ (by decide +kernel)) ggL_law_X7_log
set_option maxRecDepth 20000 in
theorem ggL_law_X8_log : GoodIn wsL_law wsX8_log := goodIn_r _ [913, 114, 118, 848, 849, 5, 850, 143, 144, 145, 887, 888, 889, 890, 112, 113, 891, 892, 893, 413, 414, 415, 416, 116, 559, 560, 561, 562, 247, 248, 249, 421, 422, 423, 424, 425, 426, 358, 359, 360, 427, 428, 429, 430, 431, 432, 286, 287, 288, 289, 290, 291, 914, 915, 916, 1028, 1029, 1030, 1031, 1032, 1033, 1034, 1035, 1036, 1037, 1038, 1039, 1040, 1041, 1042, 1043, 1044, 1045, 1046, 1047, 1048, 1049] (by decide +kernel) (by decide +kernel)
set_option maxRecDepth 20000 in
theorem gL_law_X8_log : GoodIn wsL_law (wsV RL 141 RX8 yX8_log wsX8_log) := goodIn_app (goodIn_of _ (by decide +kernel)) ggL_law_X8_log
set_option maxRecDepth 20000 in
theorem ggL_law_X7_leans : GoodIn wsL_law wsX7_leans := goodIn_r _ [920, 37, 34, 28, 152, 310, 311, 312, 32, 313, 96, 921, 922, 2, 923, 831, 832, 833, 834, 835, 836, 548, 549, 550, 866, 867, 868, 36, 869, 105, 106, 870, 871, 872, 873, 107, 924, 925, 926, 27, 927, 82, 928, 79, 80, 929, 930, 931, 932, 933, 351, 352, 353, 93, 90, 91, 92, 934, 935, 936, 937, 938, 939, 940, 941, 942, 397, 387, 398, 943, 944, 945, 946, 947, 948, 949, 1020, 1021, 1022, 1023, 1024, 1025, 1026, 1027, 1068, 1069, 1070, 1071, 1072, 1073, 1074, 1075, 1076, 1077, 1078, 1079, 1080, 1081, 1082, 1083, 1084, 1085, 1064, 1065, 1066, 1067] (by decide +kernel) (by decide +kernel)
set_option maxRecDepth 20000 in
theorem gL_law_X7_leans : GoodIn wsL_law (wsV RL 142 RX7 yX7_leans wsX7_leans) := goodIn_app (goodIn_of _ (by decide +kernel)) ggL_law_X7_leans
set_option maxRecDepth 20000 in
theorem ggL_law_X8_leans : GoodIn wsL_law wsX8_leans := goodIn_r _ [953, 116, 318, 319, 320, 5, 321, 143, 144, 145, 848, 849, 850, 887, 888, 889, 890, 112, 113, 891, 892, 893, 954, 955, 956, 957, 114, 958, 959, 960, 961, 962, 963, 964, 965, 358, 359, 360, 966, 967, 968, 969, 619, 620, 621, 612, 613, 614, 1028, 1029, 1030, 1031, 1032, 1033, 1034, 1035, 1036, 1037, 1038, 1039, 1040, 1041, 1042, 1043, 1044, 1045, 1046, 1047, 1048, 1049] (by decide +kernel) (by decide +kernel)
set_option maxRecDepth 20000 in
theorem gL_law_X8_leans : GoodIn wsL_law (wsV RL 146 RX8 yX8_leans wsX8_leans) := goodIn_app (goodIn_of _ (by decide +kernel)) ggL_law_X8_leans
set_option maxRecDepth 20000 in
theorem ggL_law_X7_kinds : GoodIn wsL_law wsX7_kinds := goodIn_r _ [973, 37, 34, 28, 974, 258, 259, 260, 32, 261, 95, 921, 922, 2, 923, 831, 832, 833, 834, 835, 836, 548, 549, 550, 866, 867, 868, 36, 869, 105, 106, 870, 871, 872, 873, 107, 924, 925, 926, 27, 927, 82, 928, 79, 80, 975, 976, 977, 978, 979, 267, 268, 269, 96, 270, 271, 272, 273, 274, 275, 276, 277, 89, 90, 980, 981, 982, 983, 984, 985, 986, 987, 988, 81, 942, 397, 387, 398, 989, 581, 582, 583, 1020, 1021, 1022, 1023, 1024, 1025, 1026, 1027, 1068, 1069, 1070, 1071, 1072, 1073, 1074, 1075, 1076, 1077, 1078, 1079, 1080, 1081, 1082, 1083, 1084, 1085, 1064, 1065, 1066, 1067] (by decide +kernel) (by decide +kernel)
set_option maxRecDepth 20000 in
theorem gL_law_X7_kinds : GoodIn wsL_law (wsV RL 147 RX7 yX7_kinds wsX7_kinds) := goodIn_app (goodIn_of _ (by decide +kernel)) ggL_law_X7_kinds
set_option maxRecDepth 20000 in
theorem ggL_law_X8_kinds : GoodIn wsL_law wsX8_kinds := goodIn_r _ [993, 116, 282, 283, 284, 5, 285, 143, 144, 145, 848, 849, 850, 887, 888, 889, 890, 112, 113, 891, 892, 893, 954, 955, 956, 957, 114, 994, 995, 996, 997, 286, 287, 288, 289, 290, 291, 998, 999, 1000, 1001, 619, 620, 621, 1028, 1029, 1030, 1031, 1032, 1033, 1034, 1035, 1036, 1037, 1038, 1039, 1040, 1041, 1042, 1043, 1044, 1045, 1046, 1047, 1048, 1049] (by decide +kernel) (by decide +kernel)
set_option maxRecDepth 20000 in
theorem gL_law_X8_kinds : GoodIn wsL_law (wsV RL 150 RX8 yX8_kinds wsX8_kinds) := goodIn_app (goodIn_of _ (by decide +kernel)) ggL_law_X8_kinds
set_option maxRecDepth 20000 in
theorem ggL_law_X7_count : GoodIn wsL_law wsX7_count := goodIn_r _ [1005, 37, 1006, 974, 152, 373, 257, 20, 151, 16, 133, 811, 812, 813, 32, 814, 95, 87, 1007, 1008, 1009, 1010, 98, 94, 1011, 662, 663, 664, 93, 91, 92, 1020, 1021, 1022, 1023, 1024, 1025, 1026, 1027, 1068, 1069, 1070, 1071, 1072, 1073, 1074, 1075, 1076, 1077, 1078, 1079, 1080, 1081, 1053, 1054, 1055, 1050, 1051, 1052] (by decide +kernel) (by decide +kernel)
set_option maxRecDepth 20000 in
theorem gL_law_X7_count : GoodIn wsL_law (wsV RL 151 RX7 yX7_count wsX7_count) := goodIn_app (goodIn_of _ (by decide +kernel)) ggL_law_X7_count
set_option maxRecDepth 20000 in
theorem ggL_law_X8_count : GoodIn wsL_law wsX8_count := goodIn_r _ [1015, 116, 215, 142, 824, 825, 5, 826, 1016, 1017, 1018, 1019, 698, 699, 700, 1028, 1029, 1030, 1031, 1032, 1033, 1034, 1035, 1036, 1037, 1038, 1039, 1040, 1041, 1042, 1043, 1044, 1045, 1046, 1047, 1048, 1049] (by decide +kernel) (by decide +kernel)
set_option maxRecDepth 20000 in
theorem gL_law_X8_count : GoodIn wsL_law (wsV RL 154 RX8 yX8_count wsX8_count) := goodIn_app (goodIn_of _ (by decide +kernel)) ggL_law_X8_count
