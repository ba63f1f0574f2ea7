set_option maxRecDepth 20000 in
theorem ggL_law_X7_init : GoodIn wsL_law wsX7_init := goodIn_r _ [8, 9, 10, 11, 12, 13, 14, 15, 16, 17, 18, 19, 20, 21, 22, 23, 24, 25, 26, 27, 28, 29, 30, 31, 32, 33, 34, 35, 36, 37, 38, 39, 40, 41, 42, 43, 44, 45, 46, 47, 48, 49, 50, 51, 52, 53, 54, 55, 56, 57, 58, 59, 60, 61, 62, 63, 64, 65, 66, 67, 68, 69, 70, 71, 72, 73, 74, 75, 76, 77, 78, 79, 80, 81, 82, 83, 84, 85, 86, 87, 88, 89, 90, 91, 92, 93, 94, 95, 96, 97, 98, 99, 100, 101, 102, 103, 104, 105, 106, 107, 108, 109, 110, 111, 112, 113, 114, 115, 116, 117, 118, 119, 120, 121, 122, 123, 124, 125, 126, 127, 128, 129, 130, 131, 132, 133, 134, 135, 136, 137, 138, 139, 140, 141, 142, 143, 144, 145, 146, 147, 148, 149, 150, 151, 152, 153, 154, 155, 156, 157, 158, 159, 160, 161, 162, 163, 164, 165, 166, 167, 168, 169, 170, 171, 172, 173, 174, 175, 176, 177, 178, 179, 180, 181, 182, 183, 2, 184, 185, 186, 187, 188, 189, 190, 191, 192, 193, 194, 195, 196, 197, 198, 199, 200, 201, 202, 203, 204, 205, 206, 207, 208, 209, 210, 211, 212, 213, 214, 215, 216, 217, 218, 219, 220, 221, 222, 223, 224, 225, 226, 227, 228, 229, 230, 231, 232, 233, 234, 235, 236, 237, 238, 239, 240, 241, 242, 243, 244, 245, 246, 247, 248, 249, 250, 251, 252, 1017, 1018, 989, 990, 991, 992, 993, 994, 995, 996, 997, 1019, 1020, 1021, 1022, 1023, 1024, 1025, 1026, 1027, 1028, 1029, 1030, 1031, 1032, 1033, 1034, 1035, 1036, 1037, 1038, 1039, 1040, 1041, 1042, 1043, 1044, 1045, 1046] (by decide +kernel) (by decide +kernel)
set_option maxRecDepth 20000 in
theorem gL_law_X7_init : GoodIn wsL_law (wsX7_init) := ggL_law_X7_init
set_option maxRecDepth 20000 in
theorem ggL_law_X8_init : GoodIn wsL_law wsX8_init := goodIn_r _ [255, 256, 10, 11, 54, 257, 258, 259, 260, 261, 262, 263, 264, 265, 266, 267, 268, 269, 270, 271, 272, 5, 273, 274, 275, 276, 277, 998, 999, 1000, 1001, 1002, 1003, 1004, 1005, 1006, 1007, 1008, 1009, 1010, 1011, 1012, 1013, 1014, 1015, 1016] (by decide +kernel) (by decide +kernel)
set_option maxRecDepth 20000 in
theorem gL_law_X8_init : GoodIn wsL_law (wsX8_init) := ggL_law_X8_init
set_option maxRecDepth 20000 in
theorem ggL_law_X7_write : GoodIn wsL_law wsX7_write := goodIn_r _ [281, 15, 282, 283, 284, 285, 14, 286, 143, 139, 140, 141, 142, 46, 989, 990, 991, 992, 993, 994, 995, 996, 997, 1017, 1018] (by decide +kernel) (by decide +kernel)
set_option maxRecDepth 20000 in
theorem gL_law_X7_write : GoodIn wsL_law (wsV RL 13 RX7 yX7_write wsX7_write) := goodIn_app (goodIn_of _ (by decide +kernel)) ggL_law_X7_write
set_option maxRecDepth 20000 in
theorem ggL_law_X8_write : GoodIn wsL_law wsX8_write := goodIn_r _ [290, 291, 257, 292, 293, 5, 294, 998, 999, 1000, 1001, 1002, 1003, 1004, 1005, 1006, 1007, 1008, 1009, 1010, 1011, 1012, 1013, 1014, 1015, 1016] (by decide +kernel) (by decide +kernel)
set_option maxRecDepth 20000 in
theorem gL_law_X8_write : GoodIn wsL_law (wsV RL 17 RX8 yX8_write wsX8_write) := goodIn_app (goodIn_of _ (by decide +kernel)) ggL_law_X8_write
set_option maxRecDepth 20000 in
theorem ggL_law_X7_wipe : GoodIn wsL_law wsX7_wipe := goodIn_r _ [298, 15, 282, 249, 250, 251, 14, 252, 143, 989, 990, 991, 992, 993, 994, 995, 996, 997, 1017, 1018] (by decide +kernel) (by decide +kernel)
set_option maxRecDepth 20000 in
theorem gL_law_X7_wipe : GoodIn wsL_law (wsV RL 18 RX7 yX7_wipe wsX7_wipe) := goodIn_app (goodIn_of _ (by decide +kernel)) ggL_law_X7_wipe
set_option maxRecDepth 20000 in
theorem ggL_law_X8_wipe : GoodIn wsL_law wsX8_wipe := goodIn_r _ [302, 291, 998, 999, 1000, 1001, 1002, 1003, 1004, 1005, 1006, 1007, 1008, 1009, 1010, 1011, 1012, 1013, 1014, 1015, 1016] (by decide +kernel) (by decide +kernel)
set_option maxRecDepth 20000 in
theorem gL_law_X8_wipe : GoodIn wsL_law (wsV RL 22 RX8 yX8_wipe wsX8_wipe) := goodIn_app (goodIn_of _ (by decide +kernel)) ggL_law_X8_wipe
set_option maxRecDepth 20000 in
theorem ggL_law_X7_fault : GoodIn wsL_law wsX7_fault := goodIn_r _ [306, 19, 15, 144, 145, 146, 18, 147, 148, 149, 150, 151, 152, 51, 153, 154, 155, 156, 53, 157, 158, 159, 26, 160, 161, 162, 163, 164, 69, 165, 166, 167, 168, 169, 170, 171, 14, 172, 143, 46, 173, 174, 175, 176, 177, 178, 179, 55, 180, 181, 182, 183, 2, 184, 185, 186, 187, 188, 189, 190, 191, 192, 193, 194, 195, 196, 197, 198, 199, 200, 201, 202, 203, 204, 205, 206, 207, 208, 209, 210, 211, 22, 212, 213, 214, 215, 216, 217, 218, 219, 989, 990, 991, 992, 993, 994, 995, 996, 997, 1017, 1018, 1019, 1020, 1021, 1022, 1023, 1024, 1025, 1026, 1027, 1028, 1029, 1030, 1031, 1032, 1033, 1034, 1035, 1036, 1037] (by decide +kernel) (by decide +kernel)
set_option maxRecDepth 20000 in
theorem gL_law_X7_fault : GoodIn wsL_law (wsV RL 23 RX7 yX7_fault wsX7_fault) := goodIn_app (goodIn_of _ (by decide +kernel)) ggL_law_X7_fault
set_option maxRecDepth 20000 in
theorem ggL_law_X8_fault : GoodIn wsL_law wsX8_fault := goodIn_r _ [310, 311, 259, 260, 291, 312, 313, 314, 5, 315, 316, 317, 318, 319, 257, 320, 321, 322, 323, 258, 324, 325, 326, 327, 328, 329, 330, 292, 293, 294, 331, 332, 333, 334, 335, 336, 337, 338, 339, 340, 341, 342, 998, 999, 1000, 1001, 1002, 1003, 1004, 1005, 1006, 1007, 1008, 1009, 1010, 1011, 1012, 1013, 1014, 1015, 1016] (by decide +kernel) (by decide +kernel)
set_option maxRecDepth 20000 in
theorem gL_law_X8_fault : GoodIn wsL_law (wsV RL 26 RX8 yX8_fault wsX8_fault) := goodIn_app (goodIn_of _ (by decide +kernel)) ggL_law_X8_fault
set_option maxRecDepth 20000 in
theorem ggL_law_X7_lay : GoodIn wsL_law wsX7_lay := goodIn_r _ [346, 19, 15, 224, 347, 348, 23, 144, 145, 146, 18, 147, 148, 149, 150, 151, 152, 51, 153, 154, 155, 156, 53, 157, 158, 159, 26, 160, 161, 162, 163, 164, 69, 165, 166, 167, 168, 169, 170, 171, 14, 172, 143, 46, 173, 174, 175, 176, 177, 178, 179, 55, 180, 181, 182, 183, 2, 184, 185, 186, 187, 188, 189, 190, 191, 192, 193, 194, 195, 196, 197, 198, 199, 200, 201, 202, 203, 204, 205, 206, 207, 208, 209, 210, 211, 22, 212, 213, 214, 215, 216, 217, 218, 219, 220, 221, 222, 223, 27, 225, 32, 33, 37, 226, 227, 228, 229, 230, 231, 232, 59, 60, 61, 233, 234, 235, 236, 237, 238, 66, 67, 68, 239, 240, 241, 31, 242, 243, 244, 245, 246, 36, 247, 248, 989, 990, 991, 992, 993, 994, 995, 996, 997, 1019, 1020, 1021, 1022, 1023, 1024, 1025, 1026, 1027, 1028, 1017, 1018, 1029, 1030, 1031, 1032, 1033, 1034, 1035, 1036, 1037, 1038, 1039, 1040, 1041, 1042] (by decide +kernel) (by decide +kernel)
set_option maxRecDepth 20000 in
theorem gL_law_X7_lay : GoodIn wsL_law (wsV RL 27 RX7 yX7_lay wsX7_lay) := goodIn_app (goodIn_of _ (by decide +kernel)) ggL_law_X7_lay
set_option maxRecDepth 20000 in
theorem ggL_law_X8_lay : GoodIn wsL_law wsX8_lay := goodIn_r _ [352, 259, 261, 262, 260, 353, 354, 355, 356, 308, 309, 5, 310, 311, 291, 312, 313, 314, 315, 316, 317, 318, 319, 257, 320, 321, 322, 323, 258, 324, 325, 326, 327, 328, 329, 330, 292, 293, 294, 331, 332, 333, 334, 335, 336, 337, 338, 339, 340, 341, 342, 998, 999, 1000, 1001, 1002, 1003, 1004, 1005, 1006, 1007, 1008, 1009, 1010, 1011, 1012, 1013, 1014, 1015, 1016] (by decide +kernel) (by decide +kernel)
set_option maxRecDepth 20000 in
theorem gL_law_X8_lay : GoodIn wsL_law (wsV RL 30 RX8 yX8_lay wsX8_lay) := goodIn_app (goodIn_of _ (by decide +kernel)) ggL_law_X8_lay
set_option maxRecDepth 20000 in
theorem ggL_law_X7_parasol : GoodIn wsL_law wsX7_parasol := goodIn_r _ [360, 23, 27, 361, 362, 363, 22, 364, 230, 365, 366, 367, 368, 59, 193, 2, 194, 369, 370, 371, 26, 372, 66, 373, 374, 375, 376, 67, 377, 378, 379, 380, 70, 381, 382, 383, 384, 385, 69, 386, 387, 388, 389, 390, 391, 392, 393, 68, 989, 990, 991, 992, 993, 994, 995, 996, 997, 1022, 1023, 1024, 1025, 1026, 1027, 1028, 1029, 1030, 1031, 1032, 1033, 1034, 1035, 1036, 1037] (by decide +kernel) (by decide +kernel)
set_option maxRecDepth 20000 in
theorem gL_law_X7_parasol : GoodIn wsL_law (wsV RL 31 RX7 yX7_parasol wsX7_parasol) := goodIn_app (goodIn_of _ (by decide +kernel)) ggL_law_X7_parasol
set_option maxRecDepth 20000 in
theorem ggL_law_X8_parasol : GoodIn wsL_law wsX8_parasol := goodIn_r _ [397, 261, 262, 398, 399, 400, 5, 401, 292, 293, 294, 402, 403, 404, 405, 406, 407, 408, 409, 998, 999, 1000, 1001, 1002, 1003, 1004, 1005, 1006, 1007, 1008, 1009, 1010, 1011, 1012, 1013, 1014, 1015, 1016] (by decide +kernel) (by decide +kernel)
set_option maxRecDepth 20000 in
theorem gL_law_X8_parasol : GoodIn wsL_law (wsV RL 35 RX8 yX8_parasol wsX8_parasol) := goodIn_app (goodIn_of _ (by decide +kernel)) ggL_law_X8_parasol
set_option maxRecDepth 20000 in
theorem ggL_law_X7_person : GoodIn wsL_law wsX7_person := goodIn_r _ [413, 23, 27, 414, 415, 416, 22, 417, 231, 418, 391, 392, 26, 393, 68, 193, 2, 194, 419, 383, 384, 385, 69, 420, 421, 422, 423, 390, 424, 374, 375, 376, 67, 425, 370, 371, 372, 66, 426, 427, 428, 429, 163, 430, 431, 432, 433, 434, 435, 382, 989, 990, 991, 992, 993, 994, 995, 996, 997, 1022, 1023, 1024, 1025, 1026, 1027, 1028, 1029, 1030, 1031, 1032, 1033, 1034, 1035, 1036, 1037] (by decide +kernel) (by decide +kernel)
set_option maxRecDepth 20000 in
theorem gL_law_X7_person : GoodIn wsL_law (wsV RL 36 RX7 yX7_person wsX7_person) := goodIn_app (goodIn_of _ (by decide +kernel)) ggL_law_X7_person
set_option maxRecDepth 20000 in
theorem ggL_law_X8_person : GoodIn wsL_law wsX8_person := goodIn_r _ [439, 262, 440, 441, 442, 5, 443, 261, 292, 293, 294, 444, 445, 446, 447, 448, 449, 450, 451, 452, 998, 999, 1000, 1001, 1002, 1003, 1004, 1005, 1006, 1007, 1008, 1009, 1010, 1011, 1012, 1013, 1014, 1015, 1016] (by decide +kernel) (by decide +kernel)
set_option maxRecDepth 20000 in
theorem gL_law_X8_person : GoodIn wsL_law (wsV RL 39 RX8 yX8_person wsX8_person) := goodIn_app (goodIn_of _ (by decide +kernel)) ggL_law_X8_person
set_option maxRecDepth 20000 in
theorem ggL_law_X7_work : GoodIn wsL_law wsX7_work := goodIn_r _ [456, 23, 27, 457, 458, 459, 22, 460, 232, 461, 462, 463, 464, 60, 193, 2, 194, 465, 466, 467, 468, 61, 469, 470, 471, 26, 472, 164, 430, 431, 989, 990, 991, 992, 993, 994, 995, 996, 997, 1022, 1023, 1024, 1025, 1026, 1027, 1028, 1029, 1030, 1031, 1032, 1033, 1034, 1035, 1036, 1037] (by decide +kernel) (by decide +kernel)
set_option maxRecDepth 20000 in
theorem gL_law_X7_work : GoodIn wsL_law (wsV RL 40 RX7 yX7_work wsX7_work) := goodIn_app (goodIn_of _ (by decide +kernel)) ggL_law_X7_work
set_option maxRecDepth 20000 in
theorem ggL_law_X8_work : GoodIn wsL_law wsX8_work := goodIn_r _ [476, 261, 262, 477, 478, 479, 5, 480, 292, 293, 294, 998, 999, 1000, 1001, 1002, 1003, 1004, 1005, 1006, 1007, 1008, 1009, 1010, 1011, 1012, 1013, 1014, 1015, 1016] (by decide +kernel) (by decide +kernel)
set_option maxRecDepth 20000 in
theorem gL_law_X8_work : GoodIn wsL_law (wsV RL 43 RX8 yX8_work wsX8_work) := goodIn_app (goodIn_of _ (by decide +kernel)) ggL_law_X8_work
set_option maxRecDepth 20000 in
theorem ggL_law_X7_take : GoodIn wsL_law wsX7_take := goodIn_r _ [484, 23, 27, 32, 414, 415, 416, 22, 417, 231, 361, 362, 363, 364, 230, 485, 486, 487, 26, 488, 489, 427, 428, 429, 163, 430, 2, 431, 390, 391, 392, 393, 68, 193, 194, 382, 383, 384, 385, 69, 490, 491, 492, 493, 494, 378, 379, 380, 70, 381, 495, 496, 497, 31, 498, 243, 499, 500, 501, 502, 77, 503, 504, 505, 506, 507, 508, 509, 510, 511, 236, 237, 238, 161, 162, 164, 66, 67, 233, 234, 512, 513, 514, 515, 183, 184, 369, 370, 371, 372, 989, 990, 991, 992, 993, 994, 995, 996, 997, 1022, 1023, 1024, 1025, 1026, 1027, 1028, 1029, 1030, 1031, 1032, 1033, 1034, 1035, 1036, 1037, 1038, 1039] (by decide +kernel) (by decide +kernel)
set_option maxRecDepth 20000 in
theorem gL_law_X7_take : GoodIn wsL_law (wsV RL 44 RX7 yX7_take wsX7_take) := goodIn_app (goodIn_of _ (by decide +kernel)) ggL_law_X7_take
set_option maxRecDepth 20000 in
theorem ggL_law_X8_take : GoodIn wsL_law wsX8_take := goodIn_r _ [519, 262, 440, 441, 442, 5, 443, 261, 292, 293, 294, 398, 399, 400, 401, 520, 521, 522, 523, 263, 524, 525, 526, 527, 528, 529, 530, 402, 403, 404, 405, 531, 532, 533, 534, 535, 536, 537, 538, 264, 539, 353, 998, 999, 1000, 1001, 1002, 1003, 1004, 1005, 1006, 1007, 1008, 1009, 1010, 1011, 1012, 1013, 1014, 1015, 1016] (by decide +kernel) (by decide +kernel)
set_option maxRecDepth 20000 in
theorem gL_law_X8_take : GoodIn wsL_law (wsV RL 47 RX8 yX8_take wsX8_take) := goodIn_app (goodIn_of _ (by decide +kernel)) ggL_law_X8_take
set_option maxRecDepth 20000 in
theorem ggL_law_X7_share : GoodIn wsL_law wsX7_share := goodIn_r _ [543, 23, 27, 32, 414, 415, 416, 22, 417, 231, 544, 545, 546, 26, 547, 382, 383, 384, 385, 69, 193, 2, 194, 390, 391, 392, 393, 68, 494, 378, 379, 380, 70, 381, 548, 549, 550, 551, 552, 553, 554, 495, 496, 497, 31, 498, 243, 499, 500, 501, 502, 77, 503, 504, 505, 506, 507, 508, 509, 510, 511, 236, 237, 238, 161, 162, 163, 164, 66, 67, 233, 234, 555, 556, 557, 558, 183, 184, 419, 989, 990, 991, 992, 993, 994, 995, 996, 997, 1022, 1023, 1024, 1025, 1026, 1027, 1028, 1029, 1030, 1031, 1032, 1033, 1034, 1035, 1036, 1037, 1038, 1039] (by decide +kernel) (by decide +kernel)
set_option maxRecDepth 20000 in
theorem gL_law_X7_share : GoodIn wsL_law (wsV RL 48 RX7 yX7_share wsX7_share) := goodIn_app (goodIn_of _ (by decide +kernel)) ggL_law_X7_share
set_option maxRecDepth 20000 in
theorem ggL_law_X8_share : GoodIn wsL_law wsX8_share := goodIn_r _ [562, 262, 440, 441, 442, 5, 443, 261, 292, 293, 294, 520, 521, 522, 523, 263, 563, 564, 565, 566, 402, 403, 404, 405, 567, 568, 569, 531, 532, 533, 534, 535, 536, 537, 538, 264, 539, 353, 998, 999, 1000, 1001, 1002, 1003, 1004, 1005, 1006, 1007, 1008, 1009, 1010, 1011, 1012, 1013, 1014, 1015, 1016] (by decide +kernel) (by decide +kernel)
set_option maxRecDepth 20000 in
theorem gL_law_X8_share : GoodIn wsL_law (wsV RL 51 RX8 yX8_share wsX8_share) := goodIn_app (goodIn_of _ (by decide +kernel)) ggL_law_X8_share
set_option maxRecDepth 20000 in
theorem ggL_law_X7_give : GoodIn wsL_law wsX7_give := goodIn_r _ [573, 23, 27, 32, 414, 415, 416, 22, 417, 231, 574, 575, 576, 26, 577, 382, 383, 384, 385, 69, 193, 2, 194, 390, 391, 392, 393, 68, 494, 378, 379, 380, 70, 381, 548, 549, 550, 551, 552, 553, 554, 419, 495, 496, 497, 31, 498, 243, 499, 500, 501, 502, 77, 503, 504, 505, 506, 507, 508, 509, 510, 511, 236, 237, 238, 161, 162, 163, 164, 66, 67, 233, 234, 578, 579, 580, 581, 183, 184, 989, 990, 991, 992, 993, 994, 995, 996, 997, 1022, 1023, 1024, 1025, 1026, 1027, 1028, 1029, 1030, 1031, 1032, 1033, 1034, 1035, 1036, 1037, 1038, 1039] (by decide +kernel) (by decide +kernel)
set_option maxRecDepth 20000 in
theorem gL_law_X7_give : GoodIn wsL_law (wsV RL 52 RX7 yX7_give wsX7_give) := goodIn_app (goodIn_of _ (by decide +kernel)) ggL_law_X7_give
set_option maxRecDepth 20000 in
theorem ggL_law_X8_give : GoodIn wsL_law wsX8_give := goodIn_r _ [585, 262, 263, 440, 441, 442, 5, 443, 261, 292, 293, 294, 520, 521, 522, 523, 586, 587, 588, 589, 402, 403, 404, 405, 567, 568, 569, 531, 532, 533, 534, 535, 536, 537, 538, 264, 539, 353, 998, 999, 1000, 1001, 1002, 1003, 1004, 1005, 1006, 1007, 1008, 1009, 1010, 1011, 1012, 1013, 1014, 1015, 1016] (by decide +kernel) (by decide +kernel)
set_option maxRecDepth 20000 in
theorem gL_law_X8_give : GoodIn wsL_law (wsV RL 55 RX8 yX8_give wsX8_give) := goodIn_app (goodIn_of _ (by decide +kernel)) ggL_law_X8_give
set_option maxRecDepth 20000 in
theorem ggL_law_X7_walk : GoodIn wsL_law wsX7_walk := goodIn_r _ [593, 23, 27, 32, 414, 415, 416, 22, 417, 231, 594, 595, 596, 26, 597, 70, 489, 427, 428, 429, 163, 430, 2, 431, 598, 599, 600, 601, 390, 391, 392, 393, 68, 193, 194, 602, 210, 211, 212, 213, 495, 496, 497, 31, 498, 243, 499, 500, 501, 502, 77, 503, 504, 505, 506, 507, 508, 509, 510, 511, 236, 237, 238, 161, 162, 164, 66, 67, 69, 233, 234, 603, 604, 605, 606, 381, 382, 383, 384, 385, 494, 378, 379, 380, 183, 184, 418, 989, 990, 991, 992, 993, 994, 995, 996, 997, 1022, 1023, 1024, 1025, 1026, 1027, 1028, 1029, 1030, 1031, 1032, 1033, 1034, 1035, 1036, 1037, 1038, 1039] (by decide +kernel) (by decide +kernel)
set_option maxRecDepth 20000 in
theorem gL_law_X7_walk : GoodIn wsL_law (wsV RL 56 RX7 yX7_walk wsX7_walk) := goodIn_app (goodIn_of _ (by decide +kernel)) ggL_law_X7_walk
set_option maxRecDepth 20000 in
theorem ggL_law_X8_walk : GoodIn wsL_law wsX8_walk := goodIn_r _ [610, 262, 440, 441, 442, 5, 443, 261, 292, 293, 294, 520, 521, 522, 523, 263, 611, 612, 613, 614, 528, 529, 530, 531, 532, 533, 534, 535, 536, 537, 538, 264, 539, 353, 998, 999, 1000, 1001, 1002, 1003, 1004, 1005, 1006, 1007, 1008, 1009, 1010, 1011, 1012, 1013, 1014, 1015, 1016] (by decide +kernel) (by decide +kernel)
set_option maxRecDepth 20000 in
theorem gL_law_X8_walk : GoodIn wsL_law (wsV RL 59 RX8 yX8_walk wsX8_walk) := goodIn_app (goodIn_of _ (by decide +kernel)) ggL_law_X8_walk
set_option maxRecDepth 20000 in
theorem ggL_law_X7_mend : GoodIn wsL_law wsX7_mend := goodIn_r _ [618, 23, 27, 32, 361, 362, 363, 22, 364, 230, 619, 491, 492, 26, 493, 494, 378, 379, 380, 70, 381, 382, 383, 384, 385, 69, 193, 2, 194, 373, 374, 375, 376, 67, 495, 496, 497, 31, 498, 243, 499, 500, 501, 502, 77, 503, 504, 505, 506, 507, 508, 509, 510, 511, 236, 237, 238, 161, 162, 163, 164, 66, 68, 233, 234, 620, 621, 622, 623, 183, 184, 989, 990, 991, 992, 993, 994, 995, 996, 997, 1022, 1023, 1024, 1025, 1026, 1027, 1028, 1029, 1030, 1031, 1032, 1033, 1034, 1035, 1036, 1037, 1038, 1039] (by decide +kernel) (by decide +kernel)
set_option maxRecDepth 20000 in
theorem gL_law_X7_mend : GoodIn wsL_law (wsV RL 60 RX7 yX7_mend wsX7_mend) := goodIn_app (goodIn_of _ (by decide +kernel)) ggL_law_X7_mend
set_option maxRecDepth 20000 in
theorem ggL_law_X8_mend : GoodIn wsL_law wsX8_mend := goodIn_r _ [627, 262, 263, 398, 399, 400, 5, 401, 261, 292, 293, 294, 520, 521, 522, 523, 628, 629, 630, 631, 402, 403, 404, 405, 531, 532, 533, 534, 535, 536, 537, 538, 264, 539, 353, 998, 999, 1000, 1001, 1002, 1003, 1004, 1005, 1006, 1007, 1008, 1009, 1010, 1011, 1012, 1013, 1014, 1015, 1016] (by decide +kernel) (by decide +kernel)
set_option maxRecDepth 20000 in
theorem gL_law_X8_mend : GoodIn wsL_law (wsV RL 63 RX8 yX8_mend wsX8_mend) := goodIn_app (goodIn_of _ (by decide +kernel)) ggL_law_X8_mend
set_option maxRecDepth 20000 in
theorem ggL_law_X7_pass : GoodIn wsL_law wsX7_pass := goodIn_r _ [635, 32, 27, 636, 495, 496, 497, 31, 498, 243, 499, 500, 501, 502, 77, 503, 504, 505, 506, 507, 508, 509, 510, 511, 236, 237, 26, 238, 161, 162, 163, 164, 66, 67, 68, 69, 233, 2, 234, 637, 638, 639, 640, 641, 642, 643, 644, 70, 381, 489, 427, 428, 429, 430, 431, 382, 383, 384, 385, 193, 194, 645, 646, 647, 648, 649, 650, 421, 422, 423, 390, 391, 392, 393, 424, 374, 375, 376, 425, 370, 371, 372, 651, 462, 463, 22, 464, 60, 652, 466, 467, 468, 61, 653, 470, 471, 472, 654, 655, 656, 657, 658, 659, 387, 388, 389, 490, 491, 492, 493, 494, 378, 379, 380, 660, 661, 662, 663, 664, 433, 434, 435, 665, 666, 667, 668, 669, 670, 671, 672, 673, 674, 675, 676, 677, 366, 367, 368, 59, 678, 679, 680, 681, 682, 683, 684, 183, 184, 685, 686, 687, 688, 689, 690, 691, 692, 693, 694, 989, 990, 991, 992, 993, 994, 995, 996, 997, 1029, 1030, 1031, 1032, 1033, 1034, 1035, 1036, 1037, 1038, 1039, 1022, 1023, 1024, 1025, 1026, 1027, 1028] (by decide +kernel) (by decide +kernel)
set_option maxRecDepth 20000 in
theorem gL_law_X7_pass : GoodIn wsL_law (wsV RL 64 RX7 yX7_pass wsX7_pass) := goodIn_app (goodIn_of _ (by decide +kernel)) ggL_law_X7_pass
set_option maxRecDepth 20000 in
theorem ggL_law_X8_pass : GoodIn wsL_law wsX8_pass := goodIn_r _ [698, 262, 292, 293, 5, 294, 520, 521, 522, 523, 263, 535, 536, 537, 538, 264, 539, 353, 699, 700, 701, 702, 261, 703, 704, 705, 706, 528, 529, 530, 444, 445, 446, 447, 448, 449, 707, 708, 709, 710, 402, 403, 404, 405, 406, 407, 408, 409, 450, 451, 452, 711, 712, 713, 714, 715, 716, 717, 718, 998, 999, 1000, 1001, 1002, 1003, 1004, 1005, 1006, 1007, 1008, 1009, 1010, 1011, 1012, 1013, 1014, 1015, 1016] (by decide +kernel) (by decide +kernel)
set_option maxRecDepth 20000 in
theorem gL_law_X8_pass : GoodIn wsL_law (wsV RL 67 RX8 yX8_pass wsX8_pass) := goodIn_app (goodIn_of _ (by decide +kernel)) ggL_law_X8_pass
set_option maxRecDepth 20000 in
theorem ggL_law_X7_undo : GoodIn wsL_law wsX7_undo := goodIn_r _ [722, 32, 27, 723, 724, 725, 726, 31, 727, 243, 728, 729, 730, 731, 507, 508, 509, 510, 77, 511, 236, 237, 26, 238, 161, 162, 163, 164, 66, 67, 68, 69, 233, 2, 234, 989, 990, 991, 992, 993, 994, 995, 996, 997, 1038, 1039, 1029, 1030, 1031, 1032, 1033, 1034, 1035, 1036, 1037] (by decide +kernel) (by decide +kernel)
set_option maxRecDepth 20000 in
theorem gL_law_X7_undo : GoodIn wsL_law (wsV RL 68 RX7 yX7_undo wsX7_undo) := goodIn_app (goodIn_of _ (by decide +kernel)) ggL_law_X7_undo
set_option maxRecDepth 20000 in
theorem ggL_law_X8_undo : GoodIn wsL_law wsX8_undo := goodIn_r _ [735, 353, 539, 262, 264, 998, 999, 1000, 1001, 1002, 1003, 1004, 1005, 1006, 1007, 1008, 1009, 1010, 1011, 1012, 1013, 1014, 1015, 1016] (by decide +kernel) (by decide +kernel)
set_option maxRecDepth 20000 in
theorem gL_law_X8_undo : GoodIn wsL_law (wsV RL 71 RX8 yX8_undo wsX8_undo) := goodIn_app (goodIn_of _ (by decide +kernel)) ggL_law_X8_undo
