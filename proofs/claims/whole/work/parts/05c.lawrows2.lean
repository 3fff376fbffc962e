set_option maxRecDepth 20000 in
theorem ggL_law_X7_hear : GoodIn wsL_law wsX7_hear := goodIn_r _ [372, 37, 373, 20, 255, 326, 374, 327, 375, 257, 376, 329, 377, 378, 379, 32, 380, 97, 98, 381, 382, 383, 19, 384, 53, 52, 385, 386, 387, 388, 51, 389, 390, 391, 392, 393, 394, 395, 99, 92, 91, 94, 88, 87, 396, 397, 398, 93, 399, 86, 400, 347, 348, 349, 89, 350, 351, 352, 353, 90, 401, 402, 403, 404, 405, 406, 407, 408, 266, 267, 268, 269, 96, 270, 271, 272, 273, 274, 275, 276, 277, 1020, 1021, 1022, 1023, 1024, 1025, 1026, 1027, 1068, 1069, 1070, 1071, 1072, 1073, 1074, 1075, 1076, 1077, 1078, 1079, 1080, 1081, 1086, 1087, 1088, 1089, 1090, 1091, 1053, 1054, 1055] (by decide +kernel) (by decide +kernel)
set_option maxRecDepth 20000 in
theorem gL_law_X7_hear : GoodIn wsL_law (wsV RL 48 RX7 yX7_hear wsX7_hear) := goodIn_app (goodIn_of _ (by decide +kernel)) ggL_law_X7_hear
set_option maxRecDepth 20000 in
theorem ggL_law_X8_hear : GoodIn wsL_law wsX8_hear := goodIn_r _ [412, 116, 143, 144, 5, 145, 413, 414, 415, 416, 417, 418, 419, 420, 215, 122, 247, 248, 249, 421, 422, 423, 424, 425, 426, 358, 359, 360, 427, 428, 429, 430, 431, 432, 286, 287, 288, 289, 290, 291, 1028, 1029, 1030, 1031, 1032, 1033, 1034, 1035, 1036, 1037, 1038, 1039, 1040, 1041, 1042, 1043, 1044, 1045, 1046, 1047, 1048, 1049] (by decide +kernel) (by decide +kernel)
set_option maxRecDepth 20000 in
theorem gL_law_X8_hear : GoodIn wsL_law (wsV RL 51 RX8 yX8_hear wsX8_hear) := goodIn_app (goodIn_of _ (by decide +kernel)) ggL_law_X8_hear
set_option maxRecDepth 20000 in
theorem ggL_law_X7_swap : GoodIn wsL_law wsX7_swap := goodIn_r _ [436, 37, 373, 20, 330, 331, 332, 32, 333, 97, 381, 382, 383, 19, 384, 53, 52, 385, 386, 387, 388, 51, 389, 390, 391, 437, 438, 439, 440, 91, 92, 93, 441, 442, 443, 1020, 1021, 1022, 1023, 1024, 1025, 1026, 1027, 1068, 1069, 1070, 1071, 1072, 1073, 1074, 1075, 1076, 1077, 1078, 1079, 1080, 1081, 1053, 1054, 1055, 1086, 1087, 1088, 1089, 1090, 1091] (by decide +kernel) (by decide +kernel)
set_option maxRecDepth 20000 in
theorem gL_law_X7_swap : GoodIn wsL_law (wsV RL 52 RX7 yX7_swap wsX7_swap) := goodIn_app (goodIn_of _ (by decide +kernel)) ggL_law_X7_swap
set_option maxRecDepth 20000 in
theorem ggL_law_X8_swap : GoodIn wsL_law wsX8_swap := goodIn_r _ [447, 116, 338, 339, 340, 5, 341, 143, 144, 145, 417, 418, 419, 420, 215, 122, 247, 248, 249, 448, 449, 450, 451, 452, 453, 1028, 1029, 1030, 1031, 1032, 1033, 1034, 1035, 1036, 1037, 1038, 1039, 1040, 1041, 1042, 1043, 1044, 1045, 1046, 1047, 1048, 1049] (by decide +kernel) (by decide +kernel)
set_option maxRecDepth 20000 in
theorem gL_law_X8_swap : GoodIn wsL_law (wsV RL 55 RX8 yX8_swap wsX8_swap) := goodIn_app (goodIn_of _ (by decide +kernel)) ggL_law_X8_swap
set_option maxRecDepth 20000 in
theorem ggL_law_X7_soothe : GoodIn wsL_law wsX7_soothe := goodIn_r _ [457, 37, 255, 20, 374, 458, 397, 387, 398, 258, 259, 260, 32, 261, 95, 381, 382, 383, 19, 384, 53, 52, 385, 386, 388, 51, 389, 390, 391, 1020, 1021, 1022, 1023, 1024, 1025, 1026, 1027, 1068, 1069, 1070, 1071, 1072, 1073, 1074, 1075, 1076, 1077, 1078, 1079, 1080, 1081, 1086, 1087, 1088, 1089, 1090, 1091, 1053, 1054, 1055] (by decide +kernel) (by decide +kernel)
set_option maxRecDepth 20000 in
theorem gL_law_X7_soothe : GoodIn wsL_law (wsV RL 56 RX7 yX7_soothe wsX7_soothe) := goodIn_app (goodIn_of _ (by decide +kernel)) ggL_law_X7_soothe
set_option maxRecDepth 20000 in
theorem ggL_law_X8_soothe : GoodIn wsL_law wsX8_soothe := goodIn_r _ [462, 116, 282, 283, 284, 5, 285, 143, 144, 145, 417, 418, 419, 420, 215, 122, 247, 248, 249, 1028, 1029, 1030, 1031, 1032, 1033, 1034, 1035, 1036, 1037, 1038, 1039, 1040, 1041, 1042, 1043, 1044, 1045, 1046, 1047, 1048, 1049] (by decide +kernel) (by decide +kernel)
set_option maxRecDepth 20000 in
theorem gL_law_X8_soothe : GoodIn wsL_law (wsV RL 59 RX8 yX8_soothe wsX8_soothe) := goodIn_app (goodIn_of _ (by decide +kernel)) ggL_law_X8_soothe
set_option maxRecDepth 20000 in
theorem ggL_law_X7_seat : GoodIn wsL_law wsX7_seat := goodIn_r _ [466, 37, 257, 20, 376, 310, 311, 312, 32, 313, 96, 381, 382, 383, 19, 384, 53, 52, 385, 386, 387, 388, 51, 389, 390, 391, 1020, 1021, 1022, 1023, 1024, 1025, 1026, 1027, 1068, 1069, 1070, 1071, 1072, 1073, 1074, 1075, 1076, 1077, 1078, 1079, 1080, 1081, 1086, 1087, 1088, 1089, 1090, 1091, 1053, 1054, 1055] (by decide +kernel) (by decide +kernel)
set_option maxRecDepth 20000 in
theorem gL_law_X7_seat : GoodIn wsL_law (wsV RL 60 RX7 yX7_seat wsX7_seat) := goodIn_app (goodIn_of _ (by decide +kernel)) ggL_law_X7_seat
set_option maxRecDepth 20000 in
theorem ggL_law_X8_seat : GoodIn wsL_law wsX8_seat := goodIn_r _ [470, 116, 318, 319, 320, 5, 321, 143, 144, 145, 417, 418, 419, 420, 215, 122, 247, 248, 249, 1028, 1029, 1030, 1031, 1032, 1033, 1034, 1035, 1036, 1037, 1038, 1039, 1040, 1041, 1042, 1043, 1044, 1045, 1046, 1047, 1048, 1049] (by decide +kernel) (by decide +kernel)
set_option maxRecDepth 20000 in
theorem gL_law_X8_seat : GoodIn wsL_law (wsV RL 63 RX8 yX8_seat wsX8_seat) := goodIn_app (goodIn_of _ (by decide +kernel)) ggL_law_X8_seat
set_option maxRecDepth 20000 in
theorem ggL_law_X7_lean : GoodIn wsL_law wsX7_lean := goodIn_r _ [474, 37, 308, 20, 374, 310, 311, 312, 32, 313, 96, 381, 382, 383, 19, 384, 53, 52, 385, 386, 387, 388, 51, 389, 390, 391, 1020, 1021, 1022, 1023, 1024, 1025, 1026, 1027, 1068, 1069, 1070, 1071, 1072, 1073, 1074, 1075, 1076, 1077, 1078, 1079, 1080, 1081, 1086, 1087, 1088, 1089, 1090, 1091, 1053, 1054, 1055] (by decide +kernel) (by decide +kernel)
set_option maxRecDepth 20000 in
theorem gL_law_X7_lean : GoodIn wsL_law (wsV RL 64 RX7 yX7_lean wsX7_lean) := goodIn_app (goodIn_of _ (by decide +kernel)) ggL_law_X7_lean
set_option maxRecDepth 20000 in
theorem ggL_law_X8_lean : GoodIn wsL_law wsX8_lean := goodIn_r _ [478, 116, 318, 319, 320, 5, 321, 143, 144, 145, 417, 418, 419, 420, 215, 122, 247, 248, 249, 1028, 1029, 1030, 1031, 1032, 1033, 1034, 1035, 1036, 1037, 1038, 1039, 1040, 1041, 1042, 1043, 1044, 1045, 1046, 1047, 1048, 1049] (by decide +kernel) (by decide +kernel)
set_option maxRecDepth 20000 in
theorem gL_law_X8_lean : GoodIn wsL_law (wsV RL 67 RX8 yX8_lean wsX8_lean) := goodIn_app (goodIn_of _ (by decide +kernel)) ggL_law_X8_lean
set_option maxRecDepth 20000 in
theorem ggL_law_X7_undo : GoodIn wsL_law wsX7_undo := goodIn_r _ [482, 20, 151, 37, 483, 484, 485, 19, 486, 51, 53, 487, 488, 489, 55, 490, 59, 60, 61, 491, 62, 64, 492, 493, 494, 495, 496, 497, 498, 499, 500, 501, 63, 502, 503, 438, 439, 32, 440, 91, 92, 93, 441, 442, 443, 504, 505, 506, 507, 52, 1020, 1021, 1022, 1023, 1024, 1025, 1026, 1027, 1053, 1054, 1055, 1086, 1087, 1088, 1089, 1090, 1091, 1068, 1069, 1070, 1071, 1072, 1073, 1074, 1075, 1076, 1077, 1078, 1079, 1080, 1081] (by decide +kernel) (by decide +kernel)
set_option maxRecDepth 20000 in
theorem gL_law_X7_undo : GoodIn wsL_law (wsV RL 68 RX7 yX7_undo wsX7_undo) := goodIn_app (goodIn_of _ (by decide +kernel)) ggL_law_X7_undo
set_option maxRecDepth 20000 in
theorem ggL_law_X8_undo : GoodIn wsL_law wsX8_undo := goodIn_r _ [511, 215, 122, 116, 247, 248, 5, 249, 1028, 1029, 1030, 1031, 1032, 1033, 1034, 1035, 1036, 1037, 1038, 1039, 1040, 1041, 1042, 1043, 1044, 1045, 1046, 1047, 1048, 1049] (by decide +kernel) (by decide +kernel)
set_option maxRecDepth 20000 in
theorem gL_law_X8_undo : GoodIn wsL_law (wsV RL 71 RX8 yX8_undo wsX8_undo) := goodIn_app (goodIn_of _ (by decide +kernel)) ggL_law_X8_undo
set_option maxRecDepth 20000 in
theorem ggL_law_X7_image : GoodIn wsL_law wsX7_image := goodIn_r _ [515, 37, 30, 373, 516, 517, 518, 32, 519, 97, 520, 521, 522, 523, 86, 524, 525, 526, 527, 87, 88, 89, 90, 91, 92, 93, 94, 95, 96, 98, 99, 1020, 1021, 1022, 1023, 1024, 1025, 1026, 1027, 1068, 1069, 1070, 1071, 1072, 1073, 1074, 1075, 1076, 1077, 1078, 1079, 1080, 1081] (by decide +kernel) (by decide +kernel)
set_option maxRecDepth 20000 in
theorem gL_law_X7_image : GoodIn wsL_law (wsV RL 72 RX7 yX7_image wsX7_image) := goodIn_app (goodIn_of _ (by decide +kernel)) ggL_law_X7_image
set_option maxRecDepth 20000 in
theorem ggL_law_X8_image : GoodIn wsL_law wsX8_image := goodIn_r _ [531, 116, 119, 121, 143, 144, 5, 145, 532, 533, 534, 535, 247, 248, 249, 1028, 1029, 1030, 1031, 1032, 1033, 1034, 1035, 1036, 1037, 1038, 1039, 1040, 1041, 1042, 1043, 1044, 1045, 1046, 1047, 1048, 1049] (by decide +kernel) (by decide +kernel)
set_option maxRecDepth 20000 in
theorem gL_law_X8_image : GoodIn wsL_law (wsV RL 75 RX8 yX8_image wsX8_image) := goodIn_app (goodIn_of _ (by decide +kernel)) ggL_law_X8_image
set_option maxRecDepth 20000 in
theorem ggL_law_X7_restore : GoodIn wsL_law wsX7_restore := goodIn_r _ [539, 30, 37, 20, 151, 373, 516, 517, 518, 32, 519, 97, 520, 521, 522, 523, 86, 524, 525, 526, 527, 87, 88, 89, 90, 91, 92, 93, 94, 95, 96, 98, 99, 1020, 1021, 1022, 1023, 1024, 1025, 1026, 1027, 1053, 1054, 1055, 1068, 1069, 1070, 1071, 1072, 1073, 1074, 1075, 1076, 1077, 1078, 1079, 1080, 1081] (by decide +kernel) (by decide +kernel)
set_option maxRecDepth 20000 in
theorem gL_law_X7_restore : GoodIn wsL_law (wsV RL 76 RX7 yX7_restore wsX7_restore) := goodIn_app (goodIn_of _ (by decide +kernel)) ggL_law_X7_restore
set_option maxRecDepth 20000 in
theorem ggL_law_X8_restore : GoodIn wsL_law wsX8_restore := goodIn_r _ [543, 121, 119, 116, 215, 143, 144, 5, 145, 247, 248, 249, 1028, 1029, 1030, 1031, 1032, 1033, 1034, 1035, 1036, 1037, 1038, 1039, 1040, 1041, 1042, 1043, 1044, 1045, 1046, 1047, 1048, 1049] (by decide +kernel) (by decide +kernel)
set_option maxRecDepth 20000 in
theorem gL_law_X8_restore : GoodIn wsL_law (wsV RL 79 RX8 yX8_restore wsX8_restore) := goodIn_app (goodIn_of _ (by decide +kernel)) ggL_law_X8_restore
set_option maxRecDepth 20000 in
theorem ggL_law_X7_ahead : GoodIn wsL_law wsX7_ahead := goodIn_r _ [547, 37, 38, 257, 329, 373, 548, 549, 2, 550, 516, 517, 518, 32, 519, 97, 377, 378, 379, 380, 98, 551, 552, 553, 554, 520, 521, 522, 523, 86, 524, 525, 526, 527, 87, 88, 89, 90, 91, 92, 93, 94, 95, 96, 99, 392, 393, 394, 395, 396, 397, 387, 398, 399, 386, 388, 400, 347, 348, 349, 350, 351, 352, 353, 401, 402, 403, 404, 405, 406, 407, 408, 266, 267, 268, 269, 270, 271, 272, 273, 274, 275, 276, 277, 1020, 1021, 1022, 1023, 1024, 1025, 1026, 1027, 1068, 1069, 1070, 1071, 1072, 1073, 1074, 1075, 1076, 1077, 1078, 1079, 1080, 1081] (by decide +kernel) (by decide +kernel)
set_option maxRecDepth 20000 in
theorem gL_law_X7_ahead : GoodIn wsL_law (wsV RL 80 RX7 yX7_ahead wsX7_ahead) := goodIn_app (goodIn_of _ (by decide +kernel)) ggL_law_X7_ahead
set_option maxRecDepth 20000 in
theorem ggL_law_X8_ahead : GoodIn wsL_law wsX8_ahead := goodIn_r _ [558, 118, 143, 144, 5, 145, 532, 533, 534, 535, 116, 413, 414, 415, 416, 559, 560, 561, 562, 247, 248, 249, 421, 422, 423, 424, 425, 426, 358, 359, 360, 427, 428, 429, 430, 431, 432, 286, 287, 288, 289, 290, 291, 1028, 1029, 1030, 1031, 1032, 1033, 1034, 1035, 1036, 1037, 1038, 1039, 1040, 1041, 1042, 1043, 1044, 1045, 1046, 1047, 1048, 1049] (by decide +kernel) (by decide +kernel)
set_option maxRecDepth 20000 in
theorem gL_law_X8_ahead : GoodIn wsL_law (wsV RL 83 RX8 yX8_ahead wsX8_ahead) := goodIn_app (goodIn_of _ (by decide +kernel)) ggL_law_X8_ahead
