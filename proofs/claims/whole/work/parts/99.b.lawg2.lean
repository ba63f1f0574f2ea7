set_option maxRecDepth 20000 in
theorem ggL_law_X7_until : GoodIn wsL_law wsX7_until := goodIn_r _ [739, 23, 27, 361, 362, 363, 22, 364, 230, 740, 202, 2, 203, 741, 742, 743, 26, 744, 669, 670, 671, 672, 425, 370, 371, 372, 66, 193, 194, 673, 674, 675, 676, 70, 161, 677, 366, 367, 368, 59, 678, 679, 680, 681, 682, 683, 684, 989, 990, 991, 992, 993, 994, 995, 996, 997, 1022, 1023, 1024, 1025, 1026, 1027, 1028, 1029, 1030, 1031, 1032, 1033, 1034, 1035, 1036, 1037] (by decide +kernel) (by decide +kernel)
set_option maxRecDepth 20000 in
theorem gL_law_X7_until : GoodIn wsL_law (wsV RL 72 RX7 yX7_until wsX7_until) := goodIn_app (goodIn_of _ (by decide +kernel)) ggL_law_X7_until
set_option maxRecDepth 20000 in
theorem ggL_law_X8_until : GoodIn wsL_law wsX8_until := goodIn_r _ [748, 398, 399, 400, 5, 401, 261, 292, 293, 294, 749, 750, 751, 752, 753, 754, 755, 262, 756, 757, 758, 759, 711, 712, 713, 714, 998, 999, 1000, 1001, 1002, 1003, 1004, 1005, 1006, 1007, 1008, 1009, 1010, 1011, 1012, 1013, 1014, 1015, 1016] (by decide +kernel) (by decide +kernel)
set_option maxRecDepth 20000 in
theorem gL_law_X8_until : GoodIn wsL_law (wsV RL 75 RX8 yX8_until wsX8_until) := goodIn_app (goodIn_of _ (by decide +kernel)) ggL_law_X8_until
set_option maxRecDepth 20000 in
theorem ggL_law_X7_agree : GoodIn wsL_law wsX7_agree := goodIn_r _ [763, 23, 27, 361, 362, 363, 22, 364, 230, 764, 670, 671, 26, 672, 425, 370, 371, 372, 66, 193, 2, 194, 673, 674, 675, 676, 70, 161, 677, 366, 367, 368, 59, 678, 679, 680, 681, 682, 683, 684, 989, 990, 991, 992, 993, 994, 995, 996, 997, 1022, 1023, 1024, 1025, 1026, 1027, 1028, 1029, 1030, 1031, 1032, 1033, 1034, 1035, 1036, 1037] (by decide +kernel) (by decide +kernel)
set_option maxRecDepth 20000 in
theorem gL_law_X7_agree : GoodIn wsL_law (wsV RL 76 RX7 yX7_agree wsX7_agree) := goodIn_app (goodIn_of _ (by decide +kernel)) ggL_law_X7_agree
set_option maxRecDepth 20000 in
theorem ggL_law_X8_agree : GoodIn wsL_law wsX8_agree := goodIn_r _ [768, 262, 398, 399, 400, 5, 401, 261, 292, 293, 294, 756, 757, 758, 759, 711, 712, 713, 714, 998, 999, 1000, 1001, 1002, 1003, 1004, 1005, 1006, 1007, 1008, 1009, 1010, 1011, 1012, 1013, 1014, 1015, 1016] (by decide +kernel) (by decide +kernel)
set_option maxRecDepth 20000 in
theorem gL_law_X8_agree : GoodIn wsL_law (wsV RL 79 RX8 yX8_agree wsX8_agree) := goodIn_app (goodIn_of _ (by decide +kernel)) ggL_law_X8_agree
set_option maxRecDepth 20000 in
theorem ggL_law_X7_deal : GoodIn wsL_law wsX7_deal := goodIn_r _ [772, 23, 41, 27, 773, 414, 415, 416, 22, 417, 231, 774, 775, 776, 40, 777, 778, 89, 779, 780, 183, 2, 184, 193, 194, 781, 782, 783, 784, 785, 427, 428, 26, 429, 163, 430, 431, 786, 646, 647, 648, 70, 649, 650, 421, 422, 423, 390, 391, 392, 393, 68, 424, 374, 375, 376, 67, 425, 370, 371, 372, 66, 651, 462, 463, 464, 60, 652, 466, 467, 468, 61, 653, 470, 471, 472, 164, 787, 788, 789, 87, 88, 790, 549, 550, 551, 552, 553, 554, 233, 234, 791, 792, 793, 794, 989, 990, 991, 992, 993, 994, 995, 996, 997, 1043, 1044, 1045, 1046, 1022, 1023, 1024, 1025, 1026, 1027, 1028, 1029, 1030, 1031, 1032, 1033, 1034, 1035, 1036, 1037] (by decide +kernel) (by decide +kernel)
set_option maxRecDepth 20000 in
theorem gL_law_X7_deal : GoodIn wsL_law (wsV RL 80 RX7 yX7_deal wsX7_deal) := goodIn_app (goodIn_of _ (by decide +kernel)) ggL_law_X7_deal
set_option maxRecDepth 20000 in
theorem ggL_law_X8_deal : GoodIn wsL_law wsX8_deal := goodIn_r _ [798, 261, 292, 293, 5, 294, 799, 800, 801, 802, 262, 803, 804, 805, 806, 528, 529, 530, 447, 448, 449, 998, 999, 1000, 1001, 1002, 1003, 1004, 1005, 1006, 1007, 1008, 1009, 1010, 1011, 1012, 1013, 1014, 1015, 1016] (by decide +kernel) (by decide +kernel)
set_option maxRecDepth 20000 in
theorem gL_law_X8_deal : GoodIn wsL_law (wsV RL 83 RX8 yX8_deal wsX8_deal) := goodIn_app (goodIn_of _ (by decide +kernel)) ggL_law_X8_deal
set_option maxRecDepth 20000 in
theorem ggL_law_X7_make : GoodIn wsL_law wsX7_make := goodIn_r _ [810, 23, 347, 27, 740, 202, 2, 203, 811, 549, 550, 551, 552, 553, 554, 812, 813, 814, 26, 815, 70, 658, 430, 431, 425, 370, 371, 372, 66, 193, 194, 989, 990, 991, 992, 993, 994, 995, 996, 997, 1022, 1023, 1024, 1025, 1026, 1027, 1028, 1029, 1030, 1031, 1032, 1033, 1034, 1035, 1036, 1037] (by decide +kernel) (by decide +kernel)
set_option maxRecDepth 20000 in
theorem gL_law_X7_make : GoodIn wsL_law (wsV RL 84 RX7 yX7_make wsX7_make) := goodIn_app (goodIn_of _ (by decide +kernel)) ggL_law_X7_make
set_option maxRecDepth 20000 in
theorem ggL_law_X8_make : GoodIn wsL_law wsX8_make := goodIn_r _ [819, 261, 262, 749, 750, 5, 751, 292, 293, 294, 528, 529, 530, 567, 568, 569, 998, 999, 1000, 1001, 1002, 1003, 1004, 1005, 1006, 1007, 1008, 1009, 1010, 1011, 1012, 1013, 1014, 1015, 1016] (by decide +kernel) (by decide +kernel)
set_option maxRecDepth 20000 in
theorem gL_law_X8_make : GoodIn wsL_law (wsV RL 87 RX8 yX8_make wsX8_make) := goodIn_app (goodIn_of _ (by decide +kernel)) ggL_law_X8_make
set_option maxRecDepth 20000 in
theorem ggL_law_X7_still : GoodIn wsL_law wsX7_still := goodIn_r _ [823, 28, 27, 824, 235, 236, 237, 26, 238, 161, 162, 163, 164, 66, 67, 68, 69, 233, 2, 234, 637, 638, 639, 640, 641, 642, 643, 644, 70, 381, 489, 427, 428, 429, 430, 431, 382, 383, 384, 385, 193, 194, 645, 646, 647, 648, 649, 650, 421, 422, 423, 390, 391, 392, 393, 424, 374, 375, 376, 425, 370, 371, 372, 651, 462, 463, 22, 464, 60, 652, 466, 467, 468, 61, 653, 470, 471, 472, 654, 655, 656, 657, 658, 659, 387, 388, 389, 490, 491, 492, 493, 494, 378, 379, 380, 660, 661, 662, 663, 664, 433, 434, 435, 665, 666, 667, 668, 669, 670, 671, 672, 673, 674, 675, 676, 677, 366, 367, 368, 59, 678, 679, 680, 681, 682, 683, 684, 183, 184, 685, 686, 687, 688, 689, 690, 691, 692, 693, 694, 989, 990, 991, 992, 993, 994, 995, 996, 997, 1029, 1030, 1031, 1032, 1033, 1034, 1035, 1036, 1037, 1022, 1023, 1024, 1025, 1026, 1027, 1028] (by decide +kernel) (by decide +kernel)
set_option maxRecDepth 20000 in
theorem gL_law_X7_still : GoodIn wsL_law (wsV RL 88 RX7 yX7_still wsX7_still) := goodIn_app (goodIn_of _ (by decide +kernel)) ggL_law_X7_still
set_option maxRecDepth 20000 in
theorem ggL_law_X8_still : GoodIn wsL_law wsX8_still := goodIn_r _ [828, 263, 292, 293, 5, 294, 520, 521, 522, 523, 262, 699, 700, 701, 702, 261, 703, 704, 705, 706, 528, 529, 530, 444, 445, 446, 447, 448, 449, 707, 708, 709, 710, 402, 403, 404, 405, 406, 407, 408, 409, 450, 451, 452, 711, 712, 713, 714, 715, 716, 717, 718, 998, 999, 1000, 1001, 1002, 1003, 1004, 1005, 1006, 1007, 1008, 1009, 1010, 1011, 1012, 1013, 1014, 1015, 1016] (by decide +kernel) (by decide +kernel)
set_option maxRecDepth 20000 in
theorem gL_law_X8_still : GoodIn wsL_law (wsV RL 91 RX8 yX8_still wsX8_still) := goodIn_app (goodIn_of _ (by decide +kernel)) ggL_law_X8_still
set_option maxRecDepth 20000 in
theorem ggL_law_X7_soonest : GoodIn wsL_law wsX7_soonest := goodIn_r _ [832, 23, 27, 348, 457, 458, 459, 22, 460, 232, 469, 470, 471, 26, 472, 164, 430, 2, 431, 465, 466, 467, 468, 61, 193, 194, 833, 834, 835, 836, 382, 383, 384, 385, 69, 489, 427, 428, 429, 163, 837, 742, 743, 744, 669, 670, 671, 672, 425, 370, 371, 372, 66, 673, 674, 675, 676, 70, 161, 677, 366, 367, 368, 59, 678, 679, 680, 681, 682, 683, 684, 685, 686, 687, 688, 689, 690, 691, 692, 424, 374, 375, 376, 67, 693, 694, 989, 990, 991, 992, 993, 994, 995, 996, 997, 1022, 1023, 1024, 1025, 1026, 1027, 1028, 1029, 1030, 1031, 1032, 1033, 1034, 1035, 1036, 1037] (by decide +kernel) (by decide +kernel)
set_option maxRecDepth 20000 in
theorem gL_law_X7_soonest : GoodIn wsL_law (wsV RL 92 RX7 yX7_soonest wsX7_soonest) := goodIn_app (goodIn_of _ (by decide +kernel)) ggL_law_X7_soonest
set_option maxRecDepth 20000 in
theorem ggL_law_X8_soonest : GoodIn wsL_law wsX8_soonest := goodIn_r _ [841, 262, 261, 477, 478, 479, 5, 480, 292, 293, 294, 528, 529, 530, 752, 753, 754, 755, 756, 757, 758, 759, 711, 712, 713, 714, 842, 843, 844, 845, 715, 716, 717, 718, 998, 999, 1000, 1001, 1002, 1003, 1004, 1005, 1006, 1007, 1008, 1009, 1010, 1011, 1012, 1013, 1014, 1015, 1016] (by decide +kernel) (by decide +kernel)
set_option maxRecDepth 20000 in
theorem gL_law_X8_soonest : GoodIn wsL_law (wsV RL 95 RX8 yX8_soonest wsX8_soonest) := goodIn_app (goodIn_of _ (by decide +kernel)) ggL_law_X8_soonest
set_option maxRecDepth 20000 in
theorem ggL_law_X7_see : GoodIn wsL_law wsX7_see := goodIn_r _ [849, 37, 850, 740, 202, 2, 203, 851, 852, 853, 36, 854, 248, 855, 856, 857, 858, 82, 83, 183, 184, 989, 990, 991, 992, 993, 994, 995, 996, 997, 1040, 1041, 1042] (by decide +kernel) (by decide +kernel)
set_option maxRecDepth 20000 in
theorem gL_law_X7_see : GoodIn wsL_law (wsV RL 96 RX7 yX7_see wsX7_see) := goodIn_app (goodIn_of _ (by decide +kernel)) ggL_law_X7_see
set_option maxRecDepth 20000 in
theorem ggL_law_X8_see : GoodIn wsL_law wsX8_see := goodIn_r _ [862, 355, 265, 266, 749, 750, 5, 751, 292, 293, 294, 998, 999, 1000, 1001, 1002, 1003, 1004, 1005, 1006, 1007, 1008, 1009, 1010, 1011, 1012, 1013, 1014, 1015, 1016] (by decide +kernel) (by decide +kernel)
set_option maxRecDepth 20000 in
theorem gL_law_X8_see : GoodIn wsL_law (wsV RL 99 RX8 yX8_see wsX8_see) := goodIn_app (goodIn_of _ (by decide +kernel)) ggL_law_X8_see
set_option maxRecDepth 20000 in
theorem ggL_law_X7_forget : GoodIn wsL_law wsX7_forget := goodIn_r _ [866, 37, 850, 244, 245, 246, 36, 247, 248, 989, 990, 991, 992, 993, 994, 995, 996, 997, 1040, 1041, 1042] (by decide +kernel) (by decide +kernel)
set_option maxRecDepth 20000 in
theorem gL_law_X7_forget : GoodIn wsL_law (wsV RL 100 RX7 yX7_forget wsX7_forget) := goodIn_app (goodIn_of _ (by decide +kernel)) ggL_law_X7_forget
set_option maxRecDepth 20000 in
theorem ggL_law_X8_forget : GoodIn wsL_law wsX8_forget := goodIn_r _ [870, 355, 998, 999, 1000, 1001, 1002, 1003, 1004, 1005, 1006, 1007, 1008, 1009, 1010, 1011, 1012, 1013, 1014, 1015, 1016] (by decide +kernel) (by decide +kernel)
set_option maxRecDepth 20000 in
theorem gL_law_X8_forget : GoodIn wsL_law (wsV RL 103 RX8 yX8_forget wsX8_forget) := goodIn_app (goodIn_of _ (by decide +kernel)) ggL_law_X8_forget
set_option maxRecDepth 20000 in
theorem ggL_law_X7_which : GoodIn wsL_law wsX7_which := goodIn_r _ [874, 23, 347, 37, 27, 369, 370, 371, 26, 372, 66, 193, 2, 194, 875, 876, 877, 36, 878, 248, 83, 82, 879, 674, 675, 676, 70, 161, 677, 366, 367, 22, 368, 59, 678, 679, 680, 681, 682, 683, 684, 989, 990, 991, 992, 993, 994, 995, 996, 997, 1022, 1023, 1024, 1025, 1026, 1027, 1028, 1029, 1030, 1031, 1032, 1033, 1034, 1035, 1036, 1037, 1040, 1041, 1042] (by decide +kernel) (by decide +kernel)
set_option maxRecDepth 20000 in
theorem gL_law_X7_which : GoodIn wsL_law (wsV RL 104 RX7 yX7_which wsX7_which) := goodIn_app (goodIn_of _ (by decide +kernel)) ggL_law_X7_which
set_option maxRecDepth 20000 in
theorem ggL_law_X8_which : GoodIn wsL_law wsX8_which := goodIn_r _ [883, 261, 262, 884, 885, 886, 5, 887, 355, 266, 265, 756, 757, 758, 759, 711, 712, 713, 714, 998, 999, 1000, 1001, 1002, 1003, 1004, 1005, 1006, 1007, 1008, 1009, 1010, 1011, 1012, 1013, 1014, 1015, 1016] (by decide +kernel) (by decide +kernel)
set_option maxRecDepth 20000 in
theorem gL_law_X8_which : GoodIn wsL_law (wsV RL 107 RX8 yX8_which wsX8_which) := goodIn_app (goodIn_of _ (by decide +kernel)) ggL_law_X8_which
set_option maxRecDepth 20000 in
theorem ggL_law_X7_set : GoodIn wsL_law wsX7_set := goodIn_r _ [891, 23, 37, 27, 361, 362, 363, 22, 364, 230, 875, 876, 877, 36, 878, 248, 83, 82, 193, 2, 194, 879, 674, 675, 26, 676, 70, 161, 677, 366, 367, 368, 59, 678, 679, 680, 681, 682, 683, 684, 989, 990, 991, 992, 993, 994, 995, 996, 997, 1022, 1023, 1024, 1025, 1026, 1027, 1028, 1040, 1041, 1042, 1029, 1030, 1031, 1032, 1033, 1034, 1035, 1036, 1037] (by decide +kernel) (by decide +kernel)
set_option maxRecDepth 20000 in
theorem gL_law_X7_set : GoodIn wsL_law (wsV RL 108 RX7 yX7_set wsX7_set) := goodIn_app (goodIn_of _ (by decide +kernel)) ggL_law_X7_set
set_option maxRecDepth 20000 in
theorem ggL_law_X8_set : GoodIn wsL_law wsX8_set := goodIn_r _ [895, 398, 399, 400, 5, 401, 261, 292, 293, 294, 884, 885, 886, 887, 355, 266, 265, 756, 757, 758, 759, 262, 711, 712, 713, 714, 998, 999, 1000, 1001, 1002, 1003, 1004, 1005, 1006, 1007, 1008, 1009, 1010, 1011, 1012, 1013, 1014, 1015, 1016] (by decide +kernel) (by decide +kernel)
set_option maxRecDepth 20000 in
theorem gL_law_X8_set : GoodIn wsL_law (wsV RL 111 RX8 yX8_set wsX8_set) := goodIn_app (goodIn_of _ (by decide +kernel)) ggL_law_X8_set
set_option maxRecDepth 20000 in
theorem ggL_law_X7_flecks : GoodIn wsL_law wsX7_flecks := goodIn_r _ [899, 23, 27, 361, 362, 363, 22, 364, 230, 740, 202, 2, 203, 900, 901, 902, 26, 903, 70, 161, 677, 366, 367, 368, 59, 193, 194, 678, 679, 680, 681, 682, 425, 370, 371, 372, 66, 683, 684, 904, 905, 906, 907, 908, 989, 990, 991, 992, 993, 994, 995, 996, 997, 1022, 1023, 1024, 1025, 1026, 1027, 1028, 1029, 1030, 1031, 1032, 1033, 1034, 1035, 1036, 1037] (by decide +kernel) (by decide +kernel)
set_option maxRecDepth 20000 in
theorem gL_law_X7_flecks : GoodIn wsL_law (wsV RL 112 RX7 yX7_flecks wsX7_flecks) := goodIn_app (goodIn_of _ (by decide +kernel)) ggL_law_X7_flecks
set_option maxRecDepth 20000 in
theorem ggL_law_X8_flecks : GoodIn wsL_law wsX8_flecks := goodIn_r _ [912, 267, 262, 268, 398, 399, 400, 5, 401, 261, 292, 293, 294, 749, 750, 751, 711, 712, 713, 714, 913, 914, 915, 998, 999, 1000, 1001, 1002, 1003, 1004, 1005, 1006, 1007, 1008, 1009, 1010, 1011, 1012, 1013, 1014, 1015, 1016] (by decide +kernel) (by decide +kernel)
set_option maxRecDepth 20000 in
theorem gL_law_X8_flecks : GoodIn wsL_law (wsV RL 116 RX8 yX8_flecks wsX8_flecks) := goodIn_app (goodIn_of _ (by decide +kernel)) ggL_law_X8_flecks
set_option maxRecDepth 20000 in
theorem ggL_law_X7_day : GoodIn wsL_law wsX7_day := goodIn_r _ [919, 28, 27, 920, 921, 235, 236, 237, 26, 238, 161, 162, 163, 164, 66, 67, 68, 69, 233, 2, 234, 922, 923, 924, 925, 926, 927, 928, 929, 930, 931, 70, 381, 658, 932, 933, 934, 486, 487, 488, 489, 427, 428, 429, 430, 431, 390, 391, 392, 393, 193, 194, 382, 383, 384, 385, 490, 491, 492, 493, 494, 378, 379, 380, 935, 513, 514, 515, 183, 184, 936, 545, 546, 547, 548, 549, 550, 551, 552, 553, 554, 937, 556, 557, 558, 938, 575, 576, 577, 939, 579, 580, 581, 940, 595, 596, 597, 598, 599, 600, 601, 602, 210, 211, 22, 212, 213, 941, 604, 605, 606, 942, 621, 622, 623, 637, 638, 639, 640, 641, 642, 643, 644, 645, 646, 647, 648, 649, 650, 421, 422, 423, 424, 374, 375, 376, 425, 370, 371, 372, 651, 462, 463, 464, 60, 652, 466, 467, 468, 61, 653, 470, 471, 472, 654, 655, 656, 657, 659, 387, 388, 389, 660, 661, 662, 663, 664, 433, 434, 435, 665, 666, 667, 668, 669, 670, 671, 672, 673, 674, 675, 676, 677, 366, 367, 368, 59, 678, 679, 680, 681, 682, 683, 684, 685, 686, 687, 688, 689, 690, 691, 692, 693, 694, 811, 989, 990, 991, 992, 993, 994, 995, 996, 997, 1029, 1030, 1031, 1032, 1033, 1034, 1035, 1036, 1037, 1022, 1023, 1024, 1025, 1026, 1027, 1028] (by decide +kernel) (by decide +kernel)
set_option maxRecDepth 20000 in
theorem gL_law_X7_day : GoodIn wsL_law (wsV RL 117 RX7 yX7_day wsX7_day) := goodIn_app (goodIn_of _ (by decide +kernel)) ggL_law_X7_day
set_option maxRecDepth 20000 in
theorem ggL_law_X8_day : GoodIn wsL_law wsX8_day := goodIn_r _ [946, 947, 948, 263, 949, 262, 292, 293, 5, 294, 520, 521, 522, 523, 950, 951, 952, 953, 261, 524, 525, 526, 527, 528, 529, 530, 402, 403, 404, 405, 563, 564, 565, 566, 567, 568, 569, 586, 587, 588, 589, 628, 629, 630, 631, 611, 612, 613, 614, 699, 700, 701, 702, 703, 704, 705, 706, 444, 445, 446, 447, 448, 449, 707, 708, 709, 710, 406, 407, 408, 409, 450, 451, 452, 711, 712, 713, 714, 715, 716, 717, 718, 998, 999, 1000, 1001, 1002, 1003, 1004, 1005, 1006, 1007, 1008, 1009, 1010, 1011, 1012, 1013, 1014, 1015, 1016] (by decide +kernel) (by decide +kernel)
set_option maxRecDepth 20000 in
theorem gL_law_X8_day : GoodIn wsL_law (wsV RL 121 RX8 yX8_day wsX8_day) := goodIn_app (goodIn_of _ (by decide +kernel)) ggL_law_X8_day
set_option maxRecDepth 20000 in
theorem ggL_law_X7_keep : GoodIn wsL_law wsX7_keep := goodIn_r _ [957, 33, 27, 723, 958, 500, 501, 31, 502, 243, 77, 495, 496, 497, 498, 499, 503, 504, 505, 506, 507, 508, 509, 510, 511, 236, 237, 26, 238, 161, 162, 163, 164, 66, 67, 68, 69, 233, 2, 234, 989, 990, 991, 992, 993, 994, 995, 996, 997, 1038, 1039, 1029, 1030, 1031, 1032, 1033, 1034, 1035, 1036, 1037] (by decide +kernel) (by decide +kernel)
set_option maxRecDepth 20000 in
theorem gL_law_X7_keep : GoodIn wsL_law (wsV RL 122 RX7 yX7_keep wsX7_keep) := goodIn_app (goodIn_of _ (by decide +kernel)) ggL_law_X7_keep
set_option maxRecDepth 20000 in
theorem ggL_law_X8_keep : GoodIn wsL_law wsX8_keep := goodIn_r _ [962, 354, 269, 262, 998, 999, 1000, 1001, 1002, 1003, 1004, 1005, 1006, 1007, 1008, 1009, 1010, 1011, 1012, 1013, 1014, 1015, 1016] (by decide +kernel) (by decide +kernel)
set_option maxRecDepth 20000 in
theorem gL_law_X8_keep : GoodIn wsL_law (wsV RL 125 RX8 yX8_keep wsX8_keep) := goodIn_app (goodIn_of _ (by decide +kernel)) ggL_law_X8_keep
set_option maxRecDepth 20000 in
theorem ggL_law_X7_back : GoodIn wsL_law wsX7_back := goodIn_r _ [966, 33, 27, 32, 723, 724, 725, 726, 31, 727, 243, 728, 729, 730, 731, 507, 508, 509, 510, 77, 511, 236, 237, 26, 238, 161, 162, 163, 164, 66, 67, 68, 69, 233, 2, 234, 239, 240, 241, 242, 989, 990, 991, 992, 993, 994, 995, 996, 997, 1038, 1039, 1029, 1030, 1031, 1032, 1033, 1034, 1035, 1036, 1037] (by decide +kernel) (by decide +kernel)
set_option maxRecDepth 20000 in
theorem gL_law_X7_back : GoodIn wsL_law (wsV RL 126 RX7 yX7_back wsX7_back) := goodIn_app (goodIn_of _ (by decide +kernel)) ggL_law_X7_back
set_option maxRecDepth 20000 in
theorem ggL_law_X8_back : GoodIn wsL_law wsX8_back := goodIn_r _ [970, 354, 353, 262, 269, 998, 999, 1000, 1001, 1002, 1003, 1004, 1005, 1006, 1007, 1008, 1009, 1010, 1011, 1012, 1013, 1014, 1015, 1016] (by decide +kernel) (by decide +kernel)
set_option maxRecDepth 20000 in
theorem gL_law_X8_back : GoodIn wsL_law (wsV RL 129 RX8 yX8_back wsX8_back) := goodIn_app (goodIn_of _ (by decide +kernel)) ggL_law_X8_back
set_option maxRecDepth 20000 in
theorem ggL_law_X7_count : GoodIn wsL_law wsX7_count := goodIn_r _ [974, 23, 975, 347, 348, 976, 27, 636, 920, 921, 824, 37, 850, 32, 723, 33, 15, 282, 811, 549, 550, 551, 552, 553, 554, 977, 978, 979, 26, 980, 70, 658, 490, 491, 492, 493, 494, 378, 379, 380, 381, 382, 383, 384, 385, 69, 193, 2, 194, 989, 990, 991, 992, 993, 994, 995, 996, 997, 1022, 1023, 1024, 1025, 1026, 1027, 1028, 1029, 1030, 1031, 1032, 1033, 1034, 1035, 1036, 1037, 1040, 1041, 1042, 1038, 1039, 1017, 1018] (by decide +kernel) (by decide +kernel)
set_option maxRecDepth 20000 in
theorem gL_law_X7_count : GoodIn wsL_law (wsV RL 130 RX7 yX7_count wsX7_count) := goodIn_app (goodIn_of _ (by decide +kernel)) ggL_law_X7_count
set_option maxRecDepth 20000 in
theorem ggL_law_X8_count : GoodIn wsL_law wsX8_count := goodIn_r _ [984, 261, 262, 355, 353, 354, 291, 567, 568, 5, 569, 985, 986, 987, 988, 402, 403, 404, 405, 998, 999, 1000, 1001, 1002, 1003, 1004, 1005, 1006, 1007, 1008, 1009, 1010, 1011, 1012, 1013, 1014, 1015, 1016] (by decide +kernel) (by decide +kernel)
set_option maxRecDepth 20000 in
theorem gL_law_X8_count : GoodIn wsL_law (wsV RL 133 RX8 yX8_count wsX8_count) := goodIn_app (goodIn_of _ (by decide +kernel)) ggL_law_X8_count
