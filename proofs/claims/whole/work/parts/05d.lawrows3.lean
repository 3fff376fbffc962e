set_option maxRecDepth 20000 in
theorem ggL_law_X7_throwing : GoodIn wsL_law wsX7_throwing := goodIn_r _ [566, 37, 373, 24, 258, 259, 260, 32, 261, 95, 330, 331, 332, 333, 97, 567, 568, 569, 570, 91, 92, 571, 572, 573, 23, 574, 68, 575, 576, 577, 69, 578, 579, 386, 387, 388, 580, 581, 582, 583, 584, 585, 586, 587, 588, 347, 348, 349, 89, 350, 351, 352, 353, 93, 90, 589, 590, 591, 592, 86, 401, 402, 403, 404, 266, 267, 268, 269, 96, 270, 271, 272, 273, 274, 275, 276, 277, 593, 594, 263, 264, 265, 595, 596, 597, 598, 599, 525, 526, 527, 1020, 1021, 1022, 1023, 1024, 1025, 1026, 1027, 1068, 1069, 1070, 1071, 1072, 1073, 1074, 1075, 1076, 1077, 1078, 1079, 1080, 1081, 1056, 1057, 1058, 1059, 1060, 1061, 1062, 1063] (by decide +kernel) (by decide +kernel)
set_option maxRecDepth 20000 in
theorem gL_law_X7_throwing : GoodIn wsL_law (wsV RL 84 RX7 yX7_throwing wsX7_throwing) := goodIn_app (goodIn_of _ (by decide +kernel)) ggL_law_X7_throwing
set_option maxRecDepth 20000 in
theorem ggL_law_X8_throwing : GoodIn wsL_law wsX8_throwing := goodIn_r _ [603, 116, 118, 282, 283, 284, 5, 285, 143, 144, 145, 338, 339, 340, 341, 604, 605, 606, 607, 608, 609, 610, 611, 612, 613, 614, 615, 616, 617, 618, 559, 560, 561, 562, 247, 248, 249, 619, 620, 621, 421, 422, 423, 424, 425, 426, 358, 359, 360, 427, 428, 429, 430, 431, 432, 286, 287, 288, 289, 290, 291, 1028, 1029, 1030, 1031, 1032, 1033, 1034, 1035, 1036, 1037, 1038, 1039, 1040, 1041, 1042, 1043, 1044, 1045, 1046, 1047, 1048, 1049] (by decide +kernel) (by decide +kernel)
set_option maxRecDepth 20000 in
theorem gL_law_X8_throwing : GoodIn wsL_law (wsV RL 87 RX8 yX8_throwing wsX8_throwing) := goodIn_app (goodIn_of _ (by decide +kernel)) ggL_law_X8_throwing
set_option maxRecDepth 20000 in
theorem ggL_law_X7_worth : GoodIn wsL_law wsX7_worth := goodIn_r _ [625, 37, 24, 258, 259, 260, 32, 261, 95, 377, 378, 379, 380, 97, 98, 626, 627, 628, 23, 629, 68, 577, 578, 579, 386, 387, 388, 630, 397, 398, 69, 576, 580, 581, 582, 583, 588, 347, 348, 349, 89, 91, 92, 350, 351, 352, 353, 93, 90, 631, 632, 633, 634, 589, 590, 591, 592, 86, 401, 402, 403, 404, 266, 267, 268, 269, 96, 270, 271, 272, 273, 274, 275, 276, 277, 593, 568, 569, 570, 635, 595, 596, 597, 598, 599, 525, 526, 527, 1020, 1021, 1022, 1023, 1024, 1025, 1026, 1027, 1068, 1069, 1070, 1071, 1072, 1073, 1074, 1075, 1076, 1077, 1078, 1079, 1080, 1081, 1056, 1057, 1058, 1059, 1060, 1061, 1062, 1063] (by decide +kernel) (by decide +kernel)
set_option maxRecDepth 20000 in
theorem gL_law_X7_worth : GoodIn wsL_law (wsV RL 88 RX7 yX7_worth wsX7_worth) := goodIn_app (goodIn_of _ (by decide +kernel)) ggL_law_X7_worth
set_option maxRecDepth 20000 in
theorem ggL_law_X8_worth : GoodIn wsL_law wsX8_worth := goodIn_r _ [639, 116, 282, 283, 284, 5, 285, 143, 144, 145, 608, 609, 610, 611, 604, 605, 606, 607, 615, 616, 617, 618, 118, 559, 560, 561, 562, 247, 248, 249, 619, 620, 621, 421, 422, 423, 424, 425, 426, 358, 359, 360, 427, 428, 429, 430, 431, 432, 286, 287, 288, 289, 290, 291, 1028, 1029, 1030, 1031, 1032, 1033, 1034, 1035, 1036, 1037, 1038, 1039, 1040, 1041, 1042, 1043, 1044, 1045, 1046, 1047, 1048, 1049] (by decide +kernel) (by decide +kernel)
set_option maxRecDepth 20000 in
theorem gL_law_X8_worth : GoodIn wsL_law (wsV RL 91 RX8 yX8_worth wsX8_worth) := goodIn_app (goodIn_of _ (by decide +kernel)) ggL_law_X8_worth
set_option maxRecDepth 20000 in
theorem ggL_law_X7_duel : GoodIn wsL_law wsX7_duel := goodIn_r _ [643, 37, 24, 644, 386, 387, 388, 258, 259, 260, 32, 261, 95, 377, 378, 379, 380, 97, 98, 626, 627, 628, 23, 629, 68, 577, 578, 579, 630, 397, 398, 69, 576, 580, 581, 582, 583, 588, 347, 348, 349, 89, 91, 92, 350, 351, 352, 353, 93, 90, 631, 632, 633, 634, 589, 590, 591, 592, 86, 401, 402, 403, 404, 266, 267, 268, 269, 96, 270, 271, 272, 273, 274, 275, 276, 277, 593, 568, 569, 570, 635, 595, 596, 597, 598, 599, 525, 526, 527, 1020, 1021, 1022, 1023, 1024, 1025, 1026, 1027, 1068, 1069, 1070, 1071, 1072, 1073, 1074, 1075, 1076, 1077, 1078, 1079, 1080, 1081, 1056, 1057, 1058, 1059, 1060, 1061, 1062, 1063] (by decide +kernel) (by decide +kernel)
set_option maxRecDepth 20000 in
theorem gL_law_X7_duel : GoodIn wsL_law (wsV RL 92 RX7 yX7_duel wsX7_duel) := goodIn_app (goodIn_of _ (by decide +kernel)) ggL_law_X7_duel
set_option maxRecDepth 20000 in
theorem ggL_law_X8_duel : GoodIn wsL_law wsX8_duel := goodIn_r _ [648, 123, 116, 282, 283, 284, 5, 285, 143, 144, 145, 413, 414, 415, 416, 649, 650, 651, 652, 118, 559, 560, 561, 562, 247, 248, 249, 421, 422, 423, 424, 425, 426, 358, 359, 360, 427, 428, 429, 430, 431, 432, 286, 287, 288, 289, 290, 291, 604, 605, 606, 607, 1028, 1029, 1030, 1031, 1032, 1033, 1034, 1035, 1036, 1037, 1038, 1039, 1040, 1041, 1042, 1043, 1044, 1045, 1046, 1047, 1048, 1049] (by decide +kernel) (by decide +kernel)
set_option maxRecDepth 20000 in
theorem gL_law_X8_duel : GoodIn wsL_law (wsV RL 96 RX8 yX8_duel wsX8_duel) := goodIn_app (goodIn_of _ (by decide +kernel)) ggL_law_X8_duel
set_option maxRecDepth 20000 in
theorem ggL_law_X7_order : GoodIn wsL_law wsX7_order := goodIn_r _ [656, 37, 24, 257, 373, 516, 517, 518, 32, 519, 97, 377, 378, 379, 380, 98, 657, 658, 659, 23, 660, 578, 577, 71, 70, 72, 588, 347, 348, 349, 89, 91, 92, 350, 351, 352, 353, 93, 90, 661, 662, 663, 664, 589, 590, 591, 592, 86, 401, 402, 403, 404, 266, 267, 268, 269, 96, 270, 271, 272, 273, 274, 275, 276, 277, 580, 581, 582, 583, 665, 666, 667, 668, 630, 397, 387, 398, 669, 670, 671, 672, 673, 674, 675, 676, 677, 678, 679, 680, 576, 681, 682, 683, 684, 1020, 1021, 1022, 1023, 1024, 1025, 1026, 1027, 1068, 1069, 1070, 1071, 1072, 1073, 1074, 1075, 1076, 1077, 1078, 1079, 1080, 1081, 1056, 1057, 1058, 1059, 1060, 1061, 1062, 1063] (by decide +kernel) (by decide +kernel)
set_option maxRecDepth 20000 in
theorem gL_law_X7_order : GoodIn wsL_law (wsV RL 97 RX7 yX7_order wsX7_order) := goodIn_app (goodIn_of _ (by decide +kernel)) ggL_law_X7_order
set_option maxRecDepth 20000 in
theorem ggL_law_X8_order : GoodIn wsL_law wsX8_order := goodIn_r _ [688, 689, 125, 143, 144, 5, 145, 532, 533, 534, 535, 116, 413, 414, 415, 416, 690, 691, 692, 693, 124, 694, 695, 696, 697, 118, 559, 560, 561, 562, 247, 248, 249, 421, 422, 423, 424, 425, 426, 358, 359, 360, 427, 428, 429, 430, 431, 432, 286, 287, 288, 289, 290, 291, 698, 699, 700, 701, 702, 703, 704, 451, 452, 453, 1028, 1029, 1030, 1031, 1032, 1033, 1034, 1035, 1036, 1037, 1038, 1039, 1040, 1041, 1042, 1043, 1044, 1045, 1046, 1047, 1048, 1049] (by decide +kernel) (by decide +kernel)
set_option maxRecDepth 20000 in
theorem gL_law_X8_order : GoodIn wsL_law (wsV RL 100 RX8 yX8_order wsX8_order) := goodIn_app (goodIn_of _ (by decide +kernel)) ggL_law_X8_order
set_option maxRecDepth 20000 in
theorem ggL_law_X7_round : GoodIn wsL_law wsX7_round := goodIn_r _ [708, 37, 38, 24, 330, 331, 332, 32, 333, 97, 548, 549, 2, 550, 520, 521, 522, 523, 86, 524, 525, 526, 527, 87, 88, 89, 90, 91, 92, 93, 94, 95, 96, 98, 99, 709, 710, 711, 712, 713, 714, 715, 23, 716, 717, 718, 719, 720, 721, 393, 394, 395, 396, 397, 387, 398, 399, 386, 388, 400, 347, 348, 349, 350, 351, 352, 353, 401, 402, 403, 404, 405, 406, 407, 408, 266, 267, 268, 269, 270, 271, 272, 273, 274, 275, 276, 277, 722, 723, 724, 725, 726, 1020, 1021, 1022, 1023, 1024, 1025, 1026, 1027, 1068, 1069, 1070, 1071, 1072, 1073, 1074, 1075, 1076, 1077, 1078, 1079, 1080, 1081] (by decide +kernel) (by decide +kernel)
set_option maxRecDepth 20000 in
theorem gL_law_X7_round : GoodIn wsL_law (wsV RL 101 RX7 yX7_round wsX7_round) := goodIn_app (goodIn_of _ (by decide +kernel)) ggL_law_X7_round
set_option maxRecDepth 20000 in
theorem ggL_law_X8_round : GoodIn wsL_law wsX8_round := goodIn_r _ [730, 731, 732, 338, 339, 340, 5, 341, 116, 143, 144, 145, 733, 734, 735, 736, 126, 118, 559, 560, 561, 562, 247, 248, 249, 737, 738, 739, 740, 358, 359, 360, 427, 428, 429, 430, 431, 432, 286, 287, 288, 289, 290, 291, 1028, 1029, 1030, 1031, 1032, 1033, 1034, 1035, 1036, 1037, 1038, 1039, 1040, 1041, 1042, 1043, 1044, 1045, 1046, 1047, 1048, 1049] (by decide +kernel) (by decide +kernel)
set_option maxRecDepth 20000 in
theorem gL_law_X8_round : GoodIn wsL_law (wsV RL 104 RX8 yX8_round wsX8_round) := goodIn_app (goodIn_of _ (by decide +kernel)) ggL_law_X8_round
set_option maxRecDepth 20000 in
theorem ggL_law_X7_bench : GoodIn wsL_law wsX7_bench := goodIn_r _ [744, 37, 24, 258, 259, 260, 32, 261, 95, 745, 746, 747, 23, 748, 73, 75, 74, 580, 581, 582, 583, 749, 750, 751, 752, 578, 753, 754, 755, 756, 757, 758, 759, 271, 272, 273, 96, 274, 275, 276, 277, 89, 90, 760, 761, 762, 763, 1020, 1021, 1022, 1023, 1024, 1025, 1026, 1027, 1068, 1069, 1070, 1071, 1072, 1073, 1074, 1075, 1076, 1077, 1078, 1079, 1080, 1081, 1056, 1057, 1058, 1059, 1060, 1061, 1062, 1063] (by decide +kernel) (by decide +kernel)
set_option maxRecDepth 20000 in
theorem gL_law_X7_bench : GoodIn wsL_law (wsV RL 105 RX7 yX7_bench wsX7_bench) := goodIn_app (goodIn_of _ (by decide +kernel)) ggL_law_X7_bench
set_option maxRecDepth 20000 in
theorem ggL_law_X8_bench : GoodIn wsL_law wsX8_bench := goodIn_r _ [767, 127, 128, 116, 282, 283, 284, 5, 285, 143, 144, 145, 768, 769, 770, 771, 772, 773, 774, 775, 289, 290, 291, 619, 620, 621, 776, 777, 778, 779, 1028, 1029, 1030, 1031, 1032, 1033, 1034, 1035, 1036, 1037, 1038, 1039, 1040, 1041, 1042, 1043, 1044, 1045, 1046, 1047, 1048, 1049] (by decide +kernel) (by decide +kernel)
set_option maxRecDepth 20000 in
theorem gL_law_X8_bench : GoodIn wsL_law (wsV RL 108 RX8 yX8_bench wsX8_bench) := goodIn_app (goodIn_of _ (by decide +kernel)) ggL_law_X8_bench
set_option maxRecDepth 20000 in
theorem ggL_law_X7_errors : GoodIn wsL_law wsX7_errors := goodIn_r _ [783, 37, 24, 258, 259, 260, 32, 261, 95, 548, 549, 2, 550, 377, 378, 379, 380, 97, 98, 784, 785, 786, 23, 787, 68, 576, 577, 69, 578, 580, 581, 582, 583, 588, 347, 348, 349, 89, 91, 92, 350, 351, 352, 353, 93, 90, 589, 590, 591, 592, 86, 401, 402, 403, 404, 266, 267, 268, 269, 96, 270, 271, 272, 273, 274, 275, 276, 277, 594, 263, 264, 265, 595, 596, 597, 598, 599, 525, 526, 527, 593, 568, 569, 570, 788, 789, 790, 1020, 1021, 1022, 1023, 1024, 1025, 1026, 1027, 1068, 1069, 1070, 1071, 1072, 1073, 1074, 1075, 1076, 1077, 1078, 1079, 1080, 1081, 1056, 1057, 1058, 1059, 1060, 1061, 1062, 1063] (by decide +kernel) (by decide +kernel)
set_option maxRecDepth 20000 in
theorem gL_law_X7_errors : GoodIn wsL_law (wsV RL 109 RX7 yX7_errors wsX7_errors) := goodIn_app (goodIn_of _ (by decide +kernel)) ggL_law_X7_errors
set_option maxRecDepth 20000 in
theorem ggL_law_X8_errors : GoodIn wsL_law wsX8_errors := goodIn_r _ [794, 118, 282, 283, 284, 5, 285, 116, 143, 144, 145, 413, 414, 415, 416, 559, 560, 561, 562, 247, 248, 249, 358, 359, 360, 619, 620, 621, 421, 422, 423, 424, 425, 426, 427, 428, 429, 430, 431, 432, 286, 287, 288, 289, 290, 291, 795, 796, 797, 1028, 1029, 1030, 1031, 1032, 1033, 1034, 1035, 1036, 1037, 1038, 1039, 1040, 1041, 1042, 1043, 1044, 1045, 1046, 1047, 1048, 1049] (by decide +kernel) (by decide +kernel)
set_option maxRecDepth 20000 in
theorem gL_law_X8_errors : GoodIn wsL_law (wsV RL 113 RX8 yX8_errors wsX8_errors) := goodIn_app (goodIn_of _ (by decide +kernel)) ggL_law_X8_errors
set_option maxRecDepth 20000 in
theorem ggL_law_X7_decades : GoodIn wsL_law wsX7_decades := goodIn_r _ [801, 802, 37, 38, 257, 548, 549, 2, 550, 516, 517, 518, 32, 519, 97, 520, 521, 522, 523, 86, 524, 525, 526, 527, 87, 88, 89, 90, 91, 92, 93, 94, 95, 96, 98, 99, 803, 804, 805, 806, 807, 808, 809, 810, 721, 393, 394, 395, 396, 397, 387, 398, 399, 386, 388, 400, 347, 348, 349, 350, 351, 352, 353, 401, 402, 403, 404, 405, 406, 407, 408, 266, 267, 268, 269, 270, 271, 272, 273, 274, 275, 276, 277, 811, 812, 813, 814, 1020, 1021, 1022, 1023, 1024, 1025, 1026, 1027, 1068, 1069, 1070, 1071, 1072, 1073, 1074, 1075, 1076, 1077, 1078, 1079, 1080, 1081] (by decide +kernel) (by decide +kernel)
set_option maxRecDepth 20000 in
theorem gL_law_X7_decades : GoodIn wsL_law (wsV RL 114 RX7 yX7_decades wsX7_decades) := goodIn_app (goodIn_of _ (by decide +kernel)) ggL_law_X7_decades
set_option maxRecDepth 20000 in
theorem ggL_law_X8_decades : GoodIn wsL_law wsX8_decades := goodIn_r _ [818, 819, 820, 821, 118, 822, 823, 143, 144, 5, 145, 532, 533, 534, 535, 116, 559, 560, 561, 562, 247, 248, 249, 421, 422, 423, 424, 425, 426, 358, 359, 360, 427, 428, 429, 430, 431, 432, 286, 287, 288, 289, 290, 291, 824, 825, 826, 1028, 1029, 1030, 1031, 1032, 1033, 1034, 1035, 1036, 1037, 1038, 1039, 1040, 1041, 1042, 1043, 1044, 1045, 1046, 1047, 1048, 1049] (by decide +kernel) (by decide +kernel)
set_option maxRecDepth 20000 in
theorem gL_law_X8_decades : GoodIn wsL_law (wsV RL 117 RX8 yX8_decades wsX8_decades) := goodIn_app (goodIn_of _ (by decide +kernel)) ggL_law_X8_decades
set_option maxRecDepth 20000 in
theorem ggL_law_X7_sheet : GoodIn wsL_law wsX7_sheet := goodIn_r _ [830, 34, 831, 832, 2, 833, 834, 835, 836, 837, 838, 839, 36, 840, 104, 105, 106, 107, 841, 842, 582, 843, 1020, 1021, 1022, 1023, 1024, 1025, 1026, 1027, 1082, 1083, 1084, 1085] (by decide +kernel) (by decide +kernel)
set_option maxRecDepth 20000 in
theorem gL_law_X7_sheet : GoodIn wsL_law (wsV RL 118 RX7 yX7_sheet wsX7_sheet) := goodIn_app (goodIn_of _ (by decide +kernel)) ggL_law_X7_sheet
set_option maxRecDepth 20000 in
theorem ggL_law_X8_sheet : GoodIn wsL_law wsX8_sheet := goodIn_r _ [847, 112, 113, 114, 848, 849, 5, 850, 143, 144, 145, 1028, 1029, 1030, 1031, 1032, 1033, 1034, 1035, 1036, 1037, 1038, 1039, 1040, 1041, 1042, 1043, 1044, 1045, 1046, 1047, 1048, 1049] (by decide +kernel) (by decide +kernel)
set_option maxRecDepth 20000 in
theorem gL_law_X8_sheet : GoodIn wsL_law (wsV RL 121 RX8 yX8_sheet wsX8_sheet) := goodIn_app (goodIn_of _ (by decide +kernel)) ggL_law_X8_sheet
