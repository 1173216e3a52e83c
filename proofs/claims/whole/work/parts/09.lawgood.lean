set_option maxRecDepth 20000 in
theorem ggL_law_X8_init : GoodIn wsL_law wsX8_init := goodIn_r _ [8, 9, 10, 11, 12, 13, 14, 15, 16, 17, 18, 19, 20, 21, 22, 23, 24, 25, 26, 27, 28, 29, 30, 31, 32, 33, 34, 35, 36, 37, 38, 39, 40, 41, 42, 43, 44, 45, 46, 47, 48, 49, 50, 51, 52, 53, 54, 55, 56, 57, 58, 59, 60, 61, 62, 63, 64, 65, 66, 67, 68, 69, 70, 71, 72, 73, 74, 75, 76, 77, 78, 79, 80, 81, 82, 83, 84, 85, 86, 87, 88, 89, 90, 91, 92, 1019, 1020, 1021, 1022, 1023, 1024, 1025, 1026, 1027, 992, 993, 994, 995, 996, 997, 998, 999, 1000, 1028, 1029, 1030, 1031, 1032, 1033, 1034, 1035, 1036, 1037, 1038, 1039, 1040, 1041, 1042, 1043, 1044, 1045, 1046] (by decide +kernel) (by decide +kernel)
set_option maxRecDepth 20000 in
theorem gL_law_X8_init : GoodIn wsL_law (wsX8_init) := ggL_law_X8_init
set_option maxRecDepth 20000 in
theorem ggL_law_X9_init : GoodIn wsL_law wsX9_init := goodIn_r _ [95, 96, 10, 11, 28, 97, 98, 18, 99, 100, 101, 102, 103, 104, 105, 106, 107, 108, 109, 110, 5, 111, 1001, 1002, 1003, 1004, 1005, 1006, 1007, 1008, 1009, 1010, 1011, 1012, 1013, 1014, 1015, 1016, 1017, 1018] (by decide +kernel) (by decide +kernel)
set_option maxRecDepth 20000 in
theorem gL_law_X9_init : GoodIn wsL_law (wsX9_init) := ggL_law_X9_init
set_option maxRecDepth 20000 in
theorem ggL_law_X8_road : GoodIn wsL_law wsX8_road := goodIn_r _ [115, 15, 116, 117, 118, 119, 2, 120, 121, 122, 123, 124, 125, 126, 127, 29, 128, 129, 130, 14, 131, 38, 132, 42, 133, 46, 134, 50, 135, 51, 52, 53, 54, 55, 992, 993, 994, 995, 996, 997, 998, 999, 1000, 1019, 1020, 1021, 1022, 1023, 1024, 1025, 1026, 1027, 1035, 1036, 1037, 1038, 1039, 1040, 1041, 1042, 1043, 1044, 1045, 1046] (by decide +kernel) (by decide +kernel)
set_option maxRecDepth 20000 in
theorem gL_law_X8_road : GoodIn wsL_law (wsV RL 13 RX8 yX8_road wsX8_road) := goodIn_app (goodIn_of _ (by decide +kernel)) ggL_law_X8_road
set_option maxRecDepth 20000 in
theorem ggL_law_X9_road : GoodIn wsL_law wsX9_road := goodIn_r _ [139, 97, 140, 141, 5, 142, 143, 144, 145, 146, 147, 148, 149, 150, 151, 152, 153, 154, 100, 155, 156, 157, 158, 109, 110, 111, 1001, 1002, 1003, 1004, 1005, 1006, 1007, 1008, 1009, 1010, 1011, 1012, 1013, 1014, 1015, 1016, 1017, 1018] (by decide +kernel) (by decide +kernel)
set_option maxRecDepth 20000 in
theorem gL_law_X9_road : GoodIn wsL_law (wsV RL 17 RX9 yX9_road wsX9_road) := goodIn_app (goodIn_of _ (by decide +kernel)) ggL_law_X9_road
set_option maxRecDepth 20000 in
theorem ggL_law_X8_bend : GoodIn wsL_law wsX8_bend := goodIn_r _ [162, 15, 116, 163, 164, 121, 122, 2, 123, 124, 125, 126, 127, 29, 165, 166, 167, 37, 168, 64, 169, 170, 171, 172, 59, 60, 61, 62, 63, 173, 992, 993, 994, 995, 996, 997, 998, 999, 1000, 1019, 1020, 1021, 1022, 1023, 1024, 1025, 1026, 1027, 1045, 1046, 1035, 1036, 1037, 1038, 1039, 1040] (by decide +kernel) (by decide +kernel)
set_option maxRecDepth 20000 in
theorem gL_law_X8_bend : GoodIn wsL_law (wsV RL 18 RX8 yX8_bend wsX8_bend) := goodIn_app (goodIn_of _ (by decide +kernel)) ggL_law_X8_bend
set_option maxRecDepth 20000 in
theorem ggL_law_X9_bend : GoodIn wsL_law wsX9_bend := goodIn_r _ [177, 150, 178, 97, 144, 145, 5, 146, 179, 180, 181, 151, 152, 153, 154, 100, 155, 156, 157, 158, 182, 183, 184, 185, 186, 187, 188, 1001, 1002, 1003, 1004, 1005, 1006, 1007, 1008, 1009, 1010, 1011, 1012, 1013, 1014, 1015, 1016, 1017, 1018] (by decide +kernel) (by decide +kernel)
set_option maxRecDepth 20000 in
theorem gL_law_X9_bend : GoodIn wsL_law (wsV RL 22 RX9 yX9_bend wsX9_bend) := goodIn_app (goodIn_of _ (by decide +kernel)) ggL_law_X9_bend
set_option maxRecDepth 20000 in
theorem ggL_law_X8_mud : GoodIn wsL_law wsX8_mud := goodIn_r _ [192, 15, 116, 193, 163, 164, 194, 195, 196, 37, 197, 64, 121, 122, 2, 123, 124, 125, 126, 127, 29, 992, 993, 994, 995, 996, 997, 998, 999, 1000, 1019, 1020, 1021, 1022, 1023, 1024, 1025, 1026, 1027, 1035, 1036, 1037, 1038, 1039, 1040, 1045, 1046] (by decide +kernel) (by decide +kernel)
set_option maxRecDepth 20000 in
theorem gL_law_X8_mud : GoodIn wsL_law (wsV RL 23 RX8 yX8_mud wsX8_mud) := goodIn_app (goodIn_of _ (by decide +kernel)) ggL_law_X8_mud
set_option maxRecDepth 20000 in
theorem ggL_law_X9_mud : GoodIn wsL_law wsX9_mud := goodIn_r _ [201, 97, 202, 203, 204, 5, 205, 155, 156, 157, 158, 144, 145, 146, 151, 152, 153, 154, 100, 1001, 1002, 1003, 1004, 1005, 1006, 1007, 1008, 1009, 1010, 1011, 1012, 1013, 1014, 1015, 1016, 1017, 1018] (by decide +kernel) (by decide +kernel)
set_option maxRecDepth 20000 in
theorem gL_law_X9_mud : GoodIn wsL_law (wsV RL 26 RX9 yX9_mud wsX9_mud) := goodIn_app (goodIn_of _ (by decide +kernel)) ggL_law_X9_mud
set_option maxRecDepth 20000 in
theorem ggL_law_X8_driver : GoodIn wsL_law wsX8_driver := goodIn_r _ [209, 15, 210, 211, 163, 164, 118, 119, 2, 120, 121, 122, 123, 124, 125, 126, 127, 29, 992, 993, 994, 995, 996, 997, 998, 999, 1000, 1019, 1020, 1021, 1022, 1023, 1024, 1025, 1026, 1027, 1045, 1046] (by decide +kernel) (by decide +kernel)
set_option maxRecDepth 20000 in
theorem gL_law_X8_driver : GoodIn wsL_law (wsV RL 27 RX8 yX8_driver wsX8_driver) := goodIn_app (goodIn_of _ (by decide +kernel)) ggL_law_X8_driver
set_option maxRecDepth 20000 in
theorem ggL_law_X9_driver : GoodIn wsL_law wsX9_driver := goodIn_r _ [215, 97, 140, 141, 5, 142, 143, 144, 145, 146, 147, 148, 149, 150, 151, 152, 153, 154, 100, 1001, 1002, 1003, 1004, 1005, 1006, 1007, 1008, 1009, 1010, 1011, 1012, 1013, 1014, 1015, 1016, 1017, 1018] (by decide +kernel) (by decide +kernel)
set_option maxRecDepth 20000 in
theorem gL_law_X9_driver : GoodIn wsL_law (wsV RL 30 RX9 yX9_driver wsX9_driver) := goodIn_app (goodIn_of _ (by decide +kernel)) ggL_law_X9_driver
set_option maxRecDepth 20000 in
theorem ggL_law_X8_type : GoodIn wsL_law wsX8_type := goodIn_r _ [219, 27, 121, 122, 2, 123, 124, 125, 126, 127, 29, 220, 221, 222, 26, 223, 89, 224, 225, 226, 227, 88, 228, 992, 993, 994, 995, 996, 997, 998, 999, 1000, 1030, 1031, 1032, 1033, 1034] (by decide +kernel) (by decide +kernel)
set_option maxRecDepth 20000 in
theorem gL_law_X8_type : GoodIn wsL_law (wsV RL 31 RX8 yX8_type wsX8_type) := goodIn_app (goodIn_of _ (by decide +kernel)) ggL_law_X8_type
set_option maxRecDepth 20000 in
theorem ggL_law_X9_type : GoodIn wsL_law wsX9_type := goodIn_r _ [232, 233, 234, 106, 144, 145, 5, 146, 151, 152, 153, 154, 100, 182, 183, 184, 185, 1001, 1002, 1003, 1004, 1005, 1006, 1007, 1008, 1009, 1010, 1011, 1012, 1013, 1014, 1015, 1016, 1017, 1018] (by decide +kernel) (by decide +kernel)
set_option maxRecDepth 20000 in
theorem gL_law_X9_type : GoodIn wsL_law (wsV RL 35 RX9 yX9_type wsX9_type) := goodIn_app (goodIn_of _ (by decide +kernel)) ggL_law_X9_type
set_option maxRecDepth 20000 in
theorem ggL_law_X8_clear : GoodIn wsL_law wsX8_clear := goodIn_r _ [238, 27, 239, 992, 993, 994, 995, 996, 997, 998, 999, 1000, 1030, 1031, 1032, 1033, 1034] (by decide +kernel) (by decide +kernel)
set_option maxRecDepth 20000 in
theorem gL_law_X8_clear : GoodIn wsL_law (wsV RL 36 RX8 yX8_clear wsX8_clear) := goodIn_app (goodIn_of _ (by decide +kernel)) ggL_law_X8_clear
set_option maxRecDepth 20000 in
theorem ggL_law_X9_clear : GoodIn wsL_law wsX9_clear := goodIn_r _ [243, 234, 1001, 1002, 1003, 1004, 1005, 1006, 1007, 1008, 1009, 1010, 1011, 1012, 1013, 1014, 1015, 1016, 1017, 1018] (by decide +kernel) (by decide +kernel)
set_option maxRecDepth 20000 in
theorem gL_law_X9_clear : GoodIn wsL_law (wsV RL 40 RX9 yX9_clear wsX9_clear) := goodIn_app (goodIn_of _ (by decide +kernel)) ggL_law_X9_clear
set_option maxRecDepth 20000 in
theorem ggL_law_X8_read : GoodIn wsL_law wsX8_read := goodIn_r _ [247, 27, 16, 15, 248, 249, 250, 26, 251, 92, 91, 90, 252, 253, 254, 255, 89, 88, 256, 257, 258, 259, 122, 2, 123, 260, 261, 262, 263, 264, 265, 266, 267, 268, 269, 270, 271, 272, 273, 274, 275, 276, 277, 278, 279, 280, 281, 282, 283, 284, 285, 286, 287, 288, 289, 290, 291, 292, 293, 294, 295, 296, 297, 298, 299, 300, 301, 302, 303, 304, 305, 306, 307, 308, 309, 310, 311, 312, 313, 314, 315, 316, 317, 318, 319, 320, 321, 129, 130, 14, 131, 38, 132, 42, 133, 46, 134, 50, 135, 51, 52, 53, 54, 55, 322, 323, 324, 325, 326, 327, 328, 329, 330, 331, 332, 333, 334, 335, 166, 167, 37, 168, 64, 336, 170, 171, 172, 59, 60, 61, 62, 63, 173, 337, 338, 339, 340, 341, 342, 343, 195, 196, 197, 344, 345, 346, 347, 348, 349, 350, 351, 352, 353, 354, 355, 356, 357, 358, 359, 360, 361, 362, 363, 364, 365, 366, 367, 368, 369, 370, 371, 372, 373, 374, 375, 376, 377, 378, 379, 380, 381, 382, 383, 384, 385, 386, 387, 388, 41, 389, 68, 390, 69, 391, 392, 393, 45, 394, 73, 395, 74, 396, 397, 398, 49, 399, 78, 400, 79, 992, 993, 994, 995, 996, 997, 998, 999, 1000, 1030, 1031, 1032, 1033, 1034, 1019, 1020, 1021, 1022, 1023, 1024, 1025, 1026, 1027, 1035, 1036, 1037, 1038, 1039, 1040, 1041, 1042, 1043, 1044, 1045, 1046] (by decide +kernel) (by decide +kernel)
set_option maxRecDepth 20000 in
theorem gL_law_X8_read : GoodIn wsL_law (wsV RL 41 RX8 yX8_read wsX8_read) := goodIn_app (goodIn_of _ (by decide +kernel)) ggL_law_X8_read
set_option maxRecDepth 20000 in
theorem ggL_law_X9_read : GoodIn wsL_law wsX9_read := goodIn_r _ [404, 405, 406, 97, 107, 407, 408, 409, 5, 410, 234, 106, 411, 412, 413, 414, 415, 416, 417, 144, 145, 146, 418, 419, 420, 421, 422, 423, 424, 425, 426, 108, 427, 428, 429, 430, 431, 432, 433, 434, 435, 436, 437, 438, 109, 110, 111, 439, 440, 441, 442, 443, 444, 445, 446, 186, 187, 188, 447, 448, 449, 450, 451, 452, 453, 454, 455, 456, 457, 458, 459, 460, 461, 462, 463, 464, 465, 466, 467, 468, 469, 470, 471, 472, 473, 474, 475, 1001, 1002, 1003, 1004, 1005, 1006, 1007, 1008, 1009, 1010, 1011, 1012, 1013, 1014, 1015, 1016, 1017, 1018] (by decide +kernel) (by decide +kernel)
set_option maxRecDepth 20000 in
theorem gL_law_X9_read : GoodIn wsL_law (wsV RL 44 RX9 yX9_read wsX9_read) := goodIn_app (goodIn_of _ (by decide +kernel)) ggL_law_X9_read
set_option maxRecDepth 20000 in
theorem ggL_law_X8_drive : GoodIn wsL_law wsX8_drive := goodIn_r _ [479, 15, 163, 121, 122, 2, 123, 124, 125, 126, 127, 29, 480, 349, 350, 14, 351, 38, 132, 53, 481, 482, 483, 49, 484, 79, 78, 400, 383, 384, 385, 485, 486, 487, 488, 489, 490, 353, 354, 355, 356, 55, 357, 54, 358, 359, 360, 361, 51, 52, 362, 363, 364, 365, 37, 366, 60, 63, 367, 368, 369, 370, 371, 372, 373, 992, 993, 994, 995, 996, 997, 998, 999, 1000, 1019, 1020, 1021, 1022, 1023, 1024, 1025, 1026, 1027, 1035, 1036, 1037, 1038, 1039, 1040, 1045, 1046] (by decide +kernel) (by decide +kernel)
set_option maxRecDepth 20000 in
theorem gL_law_X8_drive : GoodIn wsL_law (wsV RL 45 RX8 yX8_drive wsX8_drive) := goodIn_app (goodIn_of _ (by decide +kernel)) ggL_law_X8_drive
set_option maxRecDepth 20000 in
theorem ggL_law_X9_drive : GoodIn wsL_law wsX9_drive := goodIn_r _ [494, 495, 97, 144, 145, 5, 146, 151, 152, 153, 154, 100, 155, 156, 157, 158, 496, 497, 498, 499, 500, 501, 502, 503, 455, 456, 457, 458, 459, 460, 461, 462, 463, 464, 465, 466, 467, 468, 469, 470, 471, 472, 473, 474, 475, 1001, 1002, 1003, 1004, 1005, 1006, 1007, 1008, 1009, 1010, 1011, 1012, 1013, 1014, 1015, 1016, 1017, 1018] (by decide +kernel) (by decide +kernel)
set_option maxRecDepth 20000 in
theorem gL_law_X9_drive : GoodIn wsL_law (wsV RL 48 RX9 yX9_drive wsX9_drive) := goodIn_app (goodIn_of _ (by decide +kernel)) ggL_law_X9_drive
set_option maxRecDepth 20000 in
theorem ggL_law_X8_write : GoodIn wsL_law wsX8_write := goodIn_r _ [507, 15, 116, 163, 508, 194, 195, 196, 37, 197, 64, 121, 122, 2, 123, 124, 125, 126, 127, 29, 481, 482, 483, 49, 484, 79, 78, 400, 383, 384, 385, 485, 486, 487, 488, 489, 992, 993, 994, 995, 996, 997, 998, 999, 1000, 1019, 1020, 1021, 1022, 1023, 1024, 1025, 1026, 1027, 1035, 1036, 1037, 1038, 1039, 1040, 1045, 1046] (by decide +kernel) (by decide +kernel)
set_option maxRecDepth 20000 in
theorem gL_law_X8_write : GoodIn wsL_law (wsV RL 49 RX8 yX8_write wsX8_write) := goodIn_app (goodIn_of _ (by decide +kernel)) ggL_law_X8_write
set_option maxRecDepth 20000 in
theorem ggL_law_X9_write : GoodIn wsL_law wsX9_write := goodIn_r _ [512, 97, 202, 203, 204, 5, 205, 155, 156, 157, 158, 144, 145, 146, 179, 180, 181, 178, 151, 152, 153, 154, 100, 513, 514, 515, 516, 500, 501, 502, 503, 1001, 1002, 1003, 1004, 1005, 1006, 1007, 1008, 1009, 1010, 1011, 1012, 1013, 1014, 1015, 1016, 1017, 1018] (by decide +kernel) (by decide +kernel)
set_option maxRecDepth 20000 in
theorem gL_law_X9_write : GoodIn wsL_law (wsV RL 52 RX9 yX9_write wsX9_write) := goodIn_app (goodIn_of _ (by decide +kernel)) ggL_law_X9_write
set_option maxRecDepth 20000 in
theorem ggL_law_X8_undo : GoodIn wsL_law wsX8_undo := goodIn_r _ [520, 15, 163, 164, 521, 124, 125, 126, 2, 127, 29, 522, 523, 524, 49, 525, 79, 78, 485, 486, 487, 488, 489, 400, 383, 384, 385, 992, 993, 994, 995, 996, 997, 998, 999, 1000, 1019, 1020, 1021, 1022, 1023, 1024, 1025, 1026, 1027, 1045, 1046, 1035, 1036, 1037, 1038, 1039, 1040] (by decide +kernel) (by decide +kernel)
set_option maxRecDepth 20000 in
theorem gL_law_X8_undo : GoodIn wsL_law (wsV RL 53 RX8 yX8_undo wsX8_undo) := goodIn_app (goodIn_of _ (by decide +kernel)) ggL_law_X8_undo
set_option maxRecDepth 20000 in
theorem ggL_law_X9_undo : GoodIn wsL_law wsX9_undo := goodIn_r _ [529, 97, 496, 497, 498, 5, 499, 100, 1001, 1002, 1003, 1004, 1005, 1006, 1007, 1008, 1009, 1010, 1011, 1012, 1013, 1014, 1015, 1016, 1017, 1018] (by decide +kernel) (by decide +kernel)
set_option maxRecDepth 20000 in
theorem gL_law_X9_undo : GoodIn wsL_law (wsV RL 56 RX9 yX9_undo wsX9_undo) := goodIn_app (goodIn_of _ (by decide +kernel)) ggL_law_X9_undo
set_option maxRecDepth 20000 in
theorem ggL_law_X8_of : GoodIn wsL_law wsX8_of := goodIn_r _ [533, 15, 116, 194, 195, 196, 37, 197, 64, 121, 122, 2, 123, 124, 125, 126, 127, 29, 534, 535, 536, 537, 59, 60, 61, 62, 63, 538, 364, 365, 366, 992, 993, 994, 995, 996, 997, 998, 999, 1000, 1019, 1020, 1021, 1022, 1023, 1024, 1025, 1026, 1027, 1035, 1036, 1037, 1038, 1039, 1040] (by decide +kernel) (by decide +kernel)
set_option maxRecDepth 20000 in
theorem gL_law_X8_of : GoodIn wsL_law (wsV RL 57 RX8 yX8_of wsX8_of) := goodIn_app (goodIn_of _ (by decide +kernel)) ggL_law_X8_of
set_option maxRecDepth 20000 in
theorem ggL_law_X9_of : GoodIn wsL_law wsX9_of := goodIn_r _ [542, 143, 97, 202, 203, 204, 5, 205, 155, 156, 157, 158, 144, 145, 146, 151, 152, 153, 154, 100, 513, 514, 515, 516, 464, 465, 466, 1001, 1002, 1003, 1004, 1005, 1006, 1007, 1008, 1009, 1010, 1011, 1012, 1013, 1014, 1015, 1016, 1017, 1018] (by decide +kernel) (by decide +kernel)
set_option maxRecDepth 20000 in
theorem gL_law_X9_of : GoodIn wsL_law (wsV RL 60 RX9 yX9_of wsX9_of) := goodIn_app (goodIn_of _ (by decide +kernel)) ggL_law_X9_of
set_option maxRecDepth 20000 in
theorem ggL_law_X8_now : GoodIn wsL_law wsX8_now := goodIn_r _ [546, 15, 121, 122, 2, 123, 124, 125, 126, 127, 29, 547, 548, 549, 14, 550, 53, 54, 55, 51, 52, 992, 993, 994, 995, 996, 997, 998, 999, 1000, 1019, 1020, 1021, 1022, 1023, 1024, 1025, 1026, 1027] (by decide +kernel) (by decide +kernel)
set_option maxRecDepth 20000 in
theorem gL_law_X8_now : GoodIn wsL_law (wsV RL 61 RX8 yX8_now wsX8_now) := goodIn_app (goodIn_of _ (by decide +kernel)) ggL_law_X8_now
set_option maxRecDepth 20000 in
theorem ggL_law_X9_now : GoodIn wsL_law wsX9_now := goodIn_r _ [554, 555, 144, 145, 5, 146, 556, 557, 558, 559, 97, 151, 152, 153, 154, 100, 1001, 1002, 1003, 1004, 1005, 1006, 1007, 1008, 1009, 1010, 1011, 1012, 1013, 1014, 1015, 1016, 1017, 1018] (by decide +kernel) (by decide +kernel)
set_option maxRecDepth 20000 in
theorem gL_law_X9_now : GoodIn wsL_law (wsV RL 64 RX9 yX9_now wsX9_now) := goodIn_app (goodIn_of _ (by decide +kernel)) ggL_law_X9_now
set_option maxRecDepth 20000 in
theorem ggL_law_X8_pace : GoodIn wsL_law wsX8_pace := goodIn_r _ [563, 15, 116, 508, 194, 195, 196, 37, 197, 64, 121, 122, 2, 123, 124, 125, 126, 127, 29, 564, 565, 566, 14, 567, 51, 38, 52, 362, 363, 364, 365, 366, 60, 63, 367, 368, 369, 370, 568, 359, 360, 361, 371, 372, 373, 992, 993, 994, 995, 996, 997, 998, 999, 1000, 1019, 1020, 1021, 1022, 1023, 1024, 1025, 1026, 1027, 1035, 1036, 1037, 1038, 1039, 1040] (by decide +kernel) (by decide +kernel)
set_option maxRecDepth 20000 in
theorem gL_law_X8_pace : GoodIn wsL_law (wsV RL 65 RX8 yX8_pace wsX8_pace) := goodIn_app (goodIn_of _ (by decide +kernel)) ggL_law_X8_pace
set_option maxRecDepth 20000 in
theorem ggL_law_X9_pace : GoodIn wsL_law wsX9_pace := goodIn_r _ [572, 573, 178, 97, 202, 203, 204, 5, 205, 155, 156, 157, 158, 144, 145, 146, 151, 152, 153, 154, 100, 513, 514, 515, 516, 461, 462, 463, 464, 465, 466, 467, 468, 469, 470, 471, 472, 574, 575, 576, 577, 458, 459, 460, 473, 474, 475, 1001, 1002, 1003, 1004, 1005, 1006, 1007, 1008, 1009, 1010, 1011, 1012, 1013, 1014, 1015, 1016, 1017, 1018] (by decide +kernel) (by decide +kernel)
set_option maxRecDepth 20000 in
theorem gL_law_X9_pace : GoodIn wsL_law (wsV RL 69 RX9 yX9_pace wsX9_pace) := goodIn_app (goodIn_of _ (by decide +kernel)) ggL_law_X9_pace
set_option maxRecDepth 20000 in
theorem ggL_law_X8_left : GoodIn wsL_law wsX8_left := goodIn_r _ [581, 15, 521, 582, 583, 584, 14, 585, 38, 132, 357, 586, 587, 588, 589, 356, 358, 359, 360, 361, 51, 52, 362, 363, 364, 365, 37, 366, 60, 63, 367, 368, 369, 370, 371, 372, 373, 992, 993, 994, 995, 996, 997, 998, 999, 1000, 1019, 1020, 1021, 1022, 1023, 1024, 1025, 1026, 1027, 1035, 1036, 1037, 1038, 1039, 1040] (by decide +kernel) (by decide +kernel)
set_option maxRecDepth 20000 in
theorem gL_law_X8_left : GoodIn wsL_law (wsV RL 70 RX8 yX8_left wsX8_left) := goodIn_app (goodIn_of _ (by decide +kernel)) ggL_law_X8_left
set_option maxRecDepth 20000 in
theorem ggL_law_X9_left : GoodIn wsL_law wsX9_left := goodIn_r _ [593, 97, 155, 156, 157, 5, 158, 513, 514, 515, 516, 574, 575, 576, 577, 458, 459, 460, 461, 462, 463, 464, 465, 466, 467, 468, 469, 470, 471, 472, 473, 474, 475, 1001, 1002, 1003, 1004, 1005, 1006, 1007, 1008, 1009, 1010, 1011, 1012, 1013, 1014, 1015, 1016, 1017, 1018] (by decide +kernel) (by decide +kernel)
set_option maxRecDepth 20000 in
theorem gL_law_X9_left : GoodIn wsL_law (wsV RL 73 RX9 yX9_left wsX9_left) := goodIn_app (goodIn_of _ (by decide +kernel)) ggL_law_X9_left
set_option maxRecDepth 20000 in
theorem ggL_law_X8_mend : GoodIn wsL_law wsX8_mend := goodIn_r _ [597, 23, 15, 121, 122, 2, 123, 124, 125, 126, 127, 29, 598, 599, 600, 22, 601, 602, 603, 604, 83, 605, 606, 607, 608, 609, 359, 360, 14, 361, 38, 51, 52, 362, 363, 364, 365, 37, 366, 60, 63, 367, 368, 369, 370, 371, 372, 373, 610, 587, 588, 589, 356, 358, 611, 612, 613, 614, 615, 616, 992, 993, 994, 995, 996, 997, 998, 999, 1000, 1019, 1020, 1021, 1022, 1023, 1024, 1025, 1026, 1027, 1035, 1036, 1037, 1038, 1039, 1040, 1028, 1029] (by decide +kernel) (by decide +kernel)
set_option maxRecDepth 20000 in
theorem gL_law_X8_mend : GoodIn wsL_law (wsV RL 74 RX8 yX8_mend wsX8_mend) := goodIn_app (goodIn_of _ (by decide +kernel)) ggL_law_X8_mend
set_option maxRecDepth 20000 in
theorem ggL_law_X9_mend : GoodIn wsL_law wsX9_mend := goodIn_r _ [620, 495, 144, 145, 5, 146, 151, 152, 153, 154, 100, 155, 156, 157, 158, 97, 467, 468, 469, 621, 622, 623, 624, 625, 574, 575, 576, 577, 458, 459, 460, 461, 462, 463, 464, 465, 466, 470, 471, 472, 473, 474, 475, 513, 514, 515, 516, 626, 627, 628, 629, 630, 631, 632, 1001, 1002, 1003, 1004, 1005, 1006, 1007, 1008, 1009, 1010, 1011, 1012, 1013, 1014, 1015, 1016, 1017, 1018] (by decide +kernel) (by decide +kernel)
set_option maxRecDepth 20000 in
theorem gL_law_X9_mend : GoodIn wsL_law (wsV RL 77 RX9 yX9_mend wsX9_mend) := goodIn_app (goodIn_of _ (by decide +kernel)) ggL_law_X9_mend
set_option maxRecDepth 20000 in
theorem ggL_law_X8_reads : GoodIn wsL_law wsX8_reads := goodIn_r _ [636, 23, 15, 121, 122, 2, 123, 124, 125, 126, 127, 29, 637, 638, 639, 22, 640, 604, 602, 603, 83, 641, 609, 359, 360, 14, 361, 38, 51, 52, 362, 363, 364, 365, 37, 366, 60, 63, 367, 368, 369, 370, 371, 372, 373, 610, 587, 588, 589, 356, 358, 642, 643, 644, 645, 611, 612, 646, 647, 648, 649, 650, 651, 652, 653, 654, 655, 992, 993, 994, 995, 996, 997, 998, 999, 1000, 1019, 1020, 1021, 1022, 1023, 1024, 1025, 1026, 1027, 1035, 1036, 1037, 1038, 1039, 1040, 1028, 1029] (by decide +kernel) (by decide +kernel)
set_option maxRecDepth 20000 in
theorem gL_law_X8_reads : GoodIn wsL_law (wsV RL 78 RX8 yX8_reads wsX8_reads) := goodIn_app (goodIn_of _ (by decide +kernel)) ggL_law_X8_reads
set_option maxRecDepth 20000 in
theorem ggL_law_X9_reads : GoodIn wsL_law wsX9_reads := goodIn_r _ [659, 150, 625, 97, 144, 145, 5, 146, 151, 152, 153, 154, 100, 155, 156, 157, 158, 660, 661, 662, 663, 629, 630, 631, 632, 467, 468, 469, 513, 514, 515, 516, 574, 575, 576, 577, 458, 459, 460, 461, 462, 463, 464, 465, 466, 470, 471, 472, 473, 474, 475, 1001, 1002, 1003, 1004, 1005, 1006, 1007, 1008, 1009, 1010, 1011, 1012, 1013, 1014, 1015, 1016, 1017, 1018] (by decide +kernel) (by decide +kernel)
set_option maxRecDepth 20000 in
theorem gL_law_X9_reads : GoodIn wsL_law (wsV RL 81 RX9 yX9_reads wsX9_reads) := goodIn_app (goodIn_of _ (by decide +kernel)) ggL_law_X9_reads
set_option maxRecDepth 20000 in
theorem ggL_law_X8_wrong : GoodIn wsL_law wsX8_wrong := goodIn_r _ [667, 15, 116, 194, 195, 196, 37, 197, 64, 124, 125, 126, 2, 127, 29, 668, 587, 588, 14, 589, 38, 356, 358, 359, 360, 361, 51, 52, 362, 363, 364, 365, 366, 60, 63, 367, 368, 369, 370, 371, 372, 373, 568, 992, 993, 994, 995, 996, 997, 998, 999, 1000, 1019, 1020, 1021, 1022, 1023, 1024, 1025, 1026, 1027, 1035, 1036, 1037, 1038, 1039, 1040] (by decide +kernel) (by decide +kernel)
set_option maxRecDepth 20000 in
theorem gL_law_X8_wrong : GoodIn wsL_law (wsV RL 82 RX8 yX8_wrong wsX8_wrong) := goodIn_app (goodIn_of _ (by decide +kernel)) ggL_law_X8_wrong
set_option maxRecDepth 20000 in
theorem ggL_law_X9_wrong : GoodIn wsL_law wsX9_wrong := goodIn_r _ [672, 202, 203, 204, 5, 205, 155, 156, 157, 158, 97, 144, 145, 146, 513, 514, 515, 516, 574, 575, 576, 577, 458, 459, 460, 461, 462, 463, 464, 465, 466, 467, 468, 469, 470, 471, 472, 473, 474, 475, 151, 152, 153, 154, 100, 1001, 1002, 1003, 1004, 1005, 1006, 1007, 1008, 1009, 1010, 1011, 1012, 1013, 1014, 1015, 1016, 1017, 1018] (by decide +kernel) (by decide +kernel)
set_option maxRecDepth 20000 in
theorem gL_law_X9_wrong : GoodIn wsL_law (wsV RL 85 RX9 yX9_wrong wsX9_wrong) := goodIn_app (goodIn_of _ (by decide +kernel)) ggL_law_X9_wrong
set_option maxRecDepth 20000 in
theorem ggL_law_X8_turned : GoodIn wsL_law wsX8_turned := goodIn_r _ [676, 23, 15, 677, 678, 679, 22, 680, 602, 641, 603, 610, 587, 588, 14, 589, 38, 356, 358, 359, 360, 361, 51, 52, 362, 363, 364, 365, 37, 366, 60, 63, 367, 368, 369, 370, 371, 372, 373, 609, 992, 993, 994, 995, 996, 997, 998, 999, 1000, 1019, 1020, 1021, 1022, 1023, 1024, 1025, 1026, 1027, 1035, 1036, 1037, 1038, 1039, 1040] (by decide +kernel) (by decide +kernel)
set_option maxRecDepth 20000 in
theorem gL_law_X8_turned : GoodIn wsL_law (wsV RL 86 RX8 yX8_turned wsX8_turned) := goodIn_app (goodIn_of _ (by decide +kernel)) ggL_law_X8_turned
set_option maxRecDepth 20000 in
theorem ggL_law_X9_turned : GoodIn wsL_law wsX9_turned := goodIn_r _ [684, 155, 156, 157, 5, 158, 97, 513, 514, 515, 516, 574, 575, 576, 577, 458, 459, 460, 461, 462, 463, 464, 465, 466, 467, 468, 469, 470, 471, 472, 473, 474, 475, 1001, 1002, 1003, 1004, 1005, 1006, 1007, 1008, 1009, 1010, 1011, 1012, 1013, 1014, 1015, 1016, 1017, 1018] (by decide +kernel) (by decide +kernel)
set_option maxRecDepth 20000 in
theorem gL_law_X9_turned : GoodIn wsL_law (wsV RL 89 RX9 yX9_turned wsX9_turned) := goodIn_app (goodIn_of _ (by decide +kernel)) ggL_law_X9_turned
set_option maxRecDepth 20000 in
theorem ggL_law_X8_felt : GoodIn wsL_law wsX8_felt := goodIn_r _ [688, 15, 689, 121, 122, 2, 123, 124, 125, 126, 127, 29, 690, 691, 692, 41, 693, 69, 694, 695, 696, 697, 68, 698, 992, 993, 994, 995, 996, 997, 998, 999, 1000, 1019, 1020, 1021, 1022, 1023, 1024, 1025, 1026, 1027, 1041, 1042] (by decide +kernel) (by decide +kernel)
set_option maxRecDepth 20000 in
theorem gL_law_X8_felt : GoodIn wsL_law (wsV RL 90 RX8 yX8_felt wsX8_felt) := goodIn_app (goodIn_of _ (by decide +kernel)) ggL_law_X8_felt
set_option maxRecDepth 20000 in
theorem ggL_law_X9_felt : GoodIn wsL_law wsX9_felt := goodIn_r _ [702, 178, 97, 144, 145, 5, 146, 151, 152, 153, 154, 100, 182, 183, 184, 185, 1001, 1002, 1003, 1004, 1005, 1006, 1007, 1008, 1009, 1010, 1011, 1012, 1013, 1014, 1015, 1016, 1017, 1018] (by decide +kernel) (by decide +kernel)
set_option maxRecDepth 20000 in
theorem gL_law_X9_felt : GoodIn wsL_law (wsV RL 93 RX9 yX9_felt wsX9_felt) := goodIn_app (goodIn_of _ (by decide +kernel)) ggL_law_X9_felt
set_option maxRecDepth 20000 in
theorem ggL_law_X8_where : GoodIn wsL_law wsX8_where := goodIn_r _ [706, 15, 689, 116, 707, 708, 709, 41, 710, 711, 712, 713, 714, 715, 69, 68, 716, 364, 365, 37, 366, 60, 63, 992, 993, 994, 995, 996, 997, 998, 999, 1000, 1019, 1020, 1021, 1022, 1023, 1024, 1025, 1026, 1027, 1035, 1036, 1037, 1038, 1039, 1040, 1041, 1042] (by decide +kernel) (by decide +kernel)
set_option maxRecDepth 20000 in
theorem gL_law_X8_where : GoodIn wsL_law (wsV RL 94 RX8 yX8_where wsX8_where) := goodIn_app (goodIn_of _ (by decide +kernel)) ggL_law_X8_where
set_option maxRecDepth 20000 in
theorem ggL_law_X9_where : GoodIn wsL_law wsX9_where := goodIn_r _ [720, 721, 722, 723, 5, 724, 97, 155, 156, 157, 158, 464, 465, 466, 1001, 1002, 1003, 1004, 1005, 1006, 1007, 1008, 1009, 1010, 1011, 1012, 1013, 1014, 1015, 1016, 1017, 1018] (by decide +kernel) (by decide +kernel)
set_option maxRecDepth 20000 in
theorem gL_law_X9_where : GoodIn wsL_law (wsV RL 97 RX9 yX9_where wsX9_where) := goodIn_app (goodIn_of _ (by decide +kernel)) ggL_law_X9_where
set_option maxRecDepth 20000 in
theorem ggL_law_X8_next : GoodIn wsL_law wsX8_next := goodIn_r _ [728, 15, 689, 116, 729, 730, 731, 41, 732, 711, 712, 713, 714, 715, 69, 68, 716, 364, 365, 37, 366, 60, 63, 733, 734, 735, 736, 737, 738, 739, 992, 993, 994, 995, 996, 997, 998, 999, 1000, 1019, 1020, 1021, 1022, 1023, 1024, 1025, 1026, 1027, 1035, 1036, 1037, 1038, 1039, 1040, 1041, 1042] (by decide +kernel) (by decide +kernel)
set_option maxRecDepth 20000 in
theorem gL_law_X8_next : GoodIn wsL_law (wsV RL 98 RX8 yX8_next wsX8_next) := goodIn_app (goodIn_of _ (by decide +kernel)) ggL_law_X8_next
set_option maxRecDepth 20000 in
theorem ggL_law_X9_next : GoodIn wsL_law wsX9_next := goodIn_r _ [743, 97, 721, 722, 723, 5, 724, 155, 156, 157, 158, 464, 465, 466, 467, 468, 469, 626, 627, 628, 1001, 1002, 1003, 1004, 1005, 1006, 1007, 1008, 1009, 1010, 1011, 1012, 1013, 1014, 1015, 1016, 1017, 1018] (by decide +kernel) (by decide +kernel)
set_option maxRecDepth 20000 in
theorem gL_law_X9_next : GoodIn wsL_law (wsV RL 101 RX9 yX9_next wsX9_next) := goodIn_app (goodIn_of _ (by decide +kernel)) ggL_law_X9_next
set_option maxRecDepth 20000 in
theorem ggL_law_X8_seen : GoodIn wsL_law wsX8_seen := goodIn_r _ [747, 15, 748, 121, 122, 2, 123, 124, 125, 126, 127, 29, 749, 750, 751, 45, 752, 74, 753, 754, 755, 756, 73, 757, 992, 993, 994, 995, 996, 997, 998, 999, 1000, 1019, 1020, 1021, 1022, 1023, 1024, 1025, 1026, 1027, 1043, 1044] (by decide +kernel) (by decide +kernel)
set_option maxRecDepth 20000 in
theorem gL_law_X8_seen : GoodIn wsL_law (wsV RL 102 RX8 yX8_seen wsX8_seen) := goodIn_app (goodIn_of _ (by decide +kernel)) ggL_law_X8_seen
set_option maxRecDepth 20000 in
theorem ggL_law_X9_seen : GoodIn wsL_law wsX9_seen := goodIn_r _ [761, 178, 762, 97, 179, 180, 5, 181, 144, 145, 146, 147, 148, 149, 150, 151, 152, 153, 154, 100, 182, 183, 184, 185, 1001, 1002, 1003, 1004, 1005, 1006, 1007, 1008, 1009, 1010, 1011, 1012, 1013, 1014, 1015, 1016, 1017, 1018] (by decide +kernel) (by decide +kernel)
set_option maxRecDepth 20000 in
theorem gL_law_X9_seen : GoodIn wsL_law (wsV RL 106 RX9 yX9_seen wsX9_seen) := goodIn_app (goodIn_of _ (by decide +kernel)) ggL_law_X9_seen
set_option maxRecDepth 20000 in
theorem ggL_law_X8_forget : GoodIn wsL_law wsX8_forget := goodIn_r _ [766, 15, 689, 767, 748, 768, 121, 122, 2, 123, 124, 125, 126, 127, 29, 992, 993, 994, 995, 996, 997, 998, 999, 1000, 1019, 1020, 1021, 1022, 1023, 1024, 1025, 1026, 1027, 1041, 1042, 1043, 1044] (by decide +kernel) (by decide +kernel)
set_option maxRecDepth 20000 in
theorem gL_law_X8_forget : GoodIn wsL_law (wsV RL 107 RX8 yX8_forget wsX8_forget) := goodIn_app (goodIn_of _ (by decide +kernel)) ggL_law_X8_forget
set_option maxRecDepth 20000 in
theorem ggL_law_X9_forget : GoodIn wsL_law wsX9_forget := goodIn_r _ [772, 97, 144, 145, 5, 146, 151, 152, 153, 154, 100, 1001, 1002, 1003, 1004, 1005, 1006, 1007, 1008, 1009, 1010, 1011, 1012, 1013, 1014, 1015, 1016, 1017, 1018] (by decide +kernel) (by decide +kernel)
set_option maxRecDepth 20000 in
theorem gL_law_X9_forget : GoodIn wsL_law (wsV RL 110 RX9 yX9_forget wsX9_forget) := goodIn_app (goodIn_of _ (by decide +kernel)) ggL_law_X9_forget
set_option maxRecDepth 20000 in
theorem ggL_law_X8_is : GoodIn wsL_law wsX8_is := goodIn_r _ [776, 15, 748, 777, 778, 779, 45, 780, 781, 782, 783, 784, 74, 73, 785, 368, 369, 370, 992, 993, 994, 995, 996, 997, 998, 999, 1000, 1019, 1020, 1021, 1022, 1023, 1024, 1025, 1026, 1027, 1043, 1044] (by decide +kernel) (by decide +kernel)
set_option maxRecDepth 20000 in
theorem gL_law_X8_is : GoodIn wsL_law (wsV RL 111 RX8 yX8_is wsX8_is) := goodIn_app (goodIn_of _ (by decide +kernel)) ggL_law_X8_is
set_option maxRecDepth 20000 in
theorem ggL_law_X9_is : GoodIn wsL_law wsX9_is := goodIn_r _ [789, 790, 791, 792, 5, 793, 97, 470, 471, 472, 1001, 1002, 1003, 1004, 1005, 1006, 1007, 1008, 1009, 1010, 1011, 1012, 1013, 1014, 1015, 1016, 1017, 1018] (by decide +kernel) (by decide +kernel)
set_option maxRecDepth 20000 in
theorem gL_law_X9_is : GoodIn wsL_law (wsV RL 114 RX9 yX9_is wsX9_is) := goodIn_app (goodIn_of _ (by decide +kernel)) ggL_law_X9_is
set_option maxRecDepth 20000 in
theorem ggL_law_X8_look : GoodIn wsL_law wsX8_look := goodIn_r _ [797, 23, 15, 748, 777, 778, 779, 45, 780, 781, 782, 783, 784, 74, 73, 785, 368, 369, 370, 798, 799, 800, 22, 801, 602, 603, 802, 803, 804, 805, 84, 641, 806, 611, 2, 612, 807, 364, 365, 37, 366, 60, 63, 808, 122, 123, 992, 993, 994, 995, 996, 997, 998, 999, 1000, 1019, 1020, 1021, 1022, 1023, 1024, 1025, 1026, 1027, 1043, 1044, 1035, 1036, 1037, 1038, 1039, 1040, 1028, 1029] (by decide +kernel) (by decide +kernel)
set_option maxRecDepth 20000 in
theorem gL_law_X8_look : GoodIn wsL_law (wsV RL 115 RX8 yX8_look wsX8_look) := goodIn_app (goodIn_of _ (by decide +kernel)) ggL_law_X8_look
set_option maxRecDepth 20000 in
theorem ggL_law_X9_look : GoodIn wsL_law wsX9_look := goodIn_r _ [812, 625, 102, 97, 790, 791, 792, 5, 793, 470, 471, 472, 202, 203, 204, 205, 155, 156, 157, 158, 144, 145, 146, 467, 468, 469, 513, 514, 515, 516, 464, 465, 466, 1001, 1002, 1003, 1004, 1005, 1006, 1007, 1008, 1009, 1010, 1011, 1012, 1013, 1014, 1015, 1016, 1017, 1018] (by decide +kernel) (by decide +kernel)
set_option maxRecDepth 20000 in
theorem gL_law_X9_look : GoodIn wsL_law (wsV RL 118 RX9 yX9_look wsX9_look) := goodIn_app (goodIn_of _ (by decide +kernel)) ggL_law_X9_look
set_option maxRecDepth 20000 in
theorem ggL_law_X8_writes : GoodIn wsL_law wsX8_writes := goodIn_r _ [816, 15, 116, 23, 194, 195, 196, 37, 197, 64, 124, 125, 126, 2, 127, 29, 817, 818, 819, 22, 820, 821, 822, 823, 824, 825, 826, 827, 828, 602, 641, 829, 830, 831, 832, 833, 834, 835, 836, 565, 566, 14, 567, 51, 38, 52, 362, 363, 364, 365, 366, 60, 63, 367, 368, 369, 370, 807, 837, 372, 373, 838, 839, 840, 841, 992, 993, 994, 995, 996, 997, 998, 999, 1000, 1019, 1020, 1021, 1022, 1023, 1024, 1025, 1026, 1027, 1035, 1036, 1037, 1038, 1039, 1040] (by decide +kernel) (by decide +kernel)
set_option maxRecDepth 20000 in
theorem gL_law_X8_writes : GoodIn wsL_law (wsV RL 119 RX8 yX8_writes wsX8_writes) := goodIn_app (goodIn_of _ (by decide +kernel)) ggL_law_X8_writes
set_option maxRecDepth 20000 in
theorem ggL_law_X9_writes : GoodIn wsL_law wsX9_writes := goodIn_r _ [845, 97, 103, 104, 202, 203, 204, 5, 205, 155, 156, 157, 158, 144, 145, 146, 151, 152, 153, 154, 100, 513, 514, 515, 516, 461, 462, 463, 464, 465, 466, 467, 468, 469, 470, 471, 472, 473, 474, 475, 1001, 1002, 1003, 1004, 1005, 1006, 1007, 1008, 1009, 1010, 1011, 1012, 1013, 1014, 1015, 1016, 1017, 1018] (by decide +kernel) (by decide +kernel)
set_option maxRecDepth 20000 in
theorem gL_law_X9_writes : GoodIn wsL_law (wsV RL 122 RX9 yX9_writes wsX9_writes) := goodIn_app (goodIn_of _ (by decide +kernel)) ggL_law_X9_writes
set_option maxRecDepth 20000 in
theorem ggL_law_X8_heard : GoodIn wsL_law wsX8_heard := goodIn_r _ [849, 23, 15, 121, 122, 2, 123, 124, 125, 126, 127, 29, 850, 851, 852, 22, 853, 604, 602, 603, 610, 587, 588, 14, 589, 38, 356, 358, 359, 360, 361, 51, 52, 362, 363, 364, 365, 37, 366, 60, 63, 367, 368, 369, 370, 371, 372, 373, 609, 854, 855, 856, 857, 30, 31, 992, 993, 994, 995, 996, 997, 998, 999, 1000, 1019, 1020, 1021, 1022, 1023, 1024, 1025, 1026, 1027, 1035, 1036, 1037, 1038, 1039, 1040] (by decide +kernel) (by decide +kernel)
set_option maxRecDepth 20000 in
theorem gL_law_X8_heard : GoodIn wsL_law (wsV RL 123 RX8 yX8_heard wsX8_heard) := goodIn_app (goodIn_of _ (by decide +kernel)) ggL_law_X8_heard
set_option maxRecDepth 20000 in
theorem ggL_law_X9_heard : GoodIn wsL_law wsX9_heard := goodIn_r _ [861, 862, 97, 144, 145, 5, 146, 151, 152, 153, 154, 100, 155, 156, 157, 158, 513, 514, 515, 516, 574, 575, 576, 577, 458, 459, 460, 461, 462, 463, 464, 465, 466, 467, 468, 469, 470, 471, 472, 473, 474, 475, 863, 864, 865, 866, 867, 101, 1001, 1002, 1003, 1004, 1005, 1006, 1007, 1008, 1009, 1010, 1011, 1012, 1013, 1014, 1015, 1016, 1017, 1018] (by decide +kernel) (by decide +kernel)
set_option maxRecDepth 20000 in
theorem gL_law_X9_heard : GoodIn wsL_law (wsV RL 126 RX9 yX9_heard wsX9_heard) := goodIn_app (goodIn_of _ (by decide +kernel)) ggL_law_X9_heard
set_option maxRecDepth 20000 in
theorem ggL_law_X8_rallies : GoodIn wsL_law wsX8_rallies := goodIn_r _ [871, 872, 23, 15, 116, 121, 122, 2, 123, 124, 125, 126, 127, 29, 873, 874, 875, 22, 876, 877, 878, 879, 880, 881, 882, 883, 884, 885, 886, 887, 603, 641, 806, 650, 807, 364, 365, 37, 366, 60, 63, 808, 368, 369, 370, 837, 372, 373, 992, 993, 994, 995, 996, 997, 998, 999, 1000, 1019, 1020, 1021, 1022, 1023, 1024, 1025, 1026, 1027, 1035, 1036, 1037, 1038, 1039, 1040] (by decide +kernel) (by decide +kernel)
set_option maxRecDepth 20000 in
theorem gL_law_X8_rallies : GoodIn wsL_law (wsV RL 127 RX8 yX8_rallies wsX8_rallies) := goodIn_app (goodIn_of _ (by decide +kernel)) ggL_law_X8_rallies
set_option maxRecDepth 20000 in
theorem ggL_law_X9_rallies : GoodIn wsL_law wsX9_rallies := goodIn_r _ [891, 892, 893, 105, 97, 894, 895, 896, 897, 178, 898, 862, 144, 145, 5, 146, 151, 152, 153, 154, 100, 155, 156, 157, 158, 455, 456, 457, 458, 459, 460, 461, 462, 463, 464, 465, 466, 467, 468, 469, 470, 471, 472, 473, 474, 475, 1001, 1002, 1003, 1004, 1005, 1006, 1007, 1008, 1009, 1010, 1011, 1012, 1013, 1014, 1015, 1016, 1017, 1018] (by decide +kernel) (by decide +kernel)
set_option maxRecDepth 20000 in
theorem gL_law_X9_rallies : GoodIn wsL_law (wsV RL 130 RX9 yX9_rallies wsX9_rallies) := goodIn_app (goodIn_of _ (by decide +kernel)) ggL_law_X9_rallies
set_option maxRecDepth 20000 in
theorem ggL_law_X8_part : GoodIn wsL_law wsX8_part := goodIn_r _ [902, 30, 31, 121, 122, 2, 123, 124, 125, 126, 127, 29, 992, 993, 994, 995, 996, 997, 998, 999, 1000] (by decide +kernel) (by decide +kernel)
set_option maxRecDepth 20000 in
theorem gL_law_X8_part : GoodIn wsL_law (wsV RL 131 RX8 yX8_part wsX8_part) := goodIn_app (goodIn_of _ (by decide +kernel)) ggL_law_X8_part
set_option maxRecDepth 20000 in
theorem ggL_law_X9_part : GoodIn wsL_law wsX9_part := goodIn_r _ [906, 867, 101, 151, 152, 153, 5, 154, 100, 1001, 1002, 1003, 1004, 1005, 1006, 1007, 1008, 1009, 1010, 1011, 1012, 1013, 1014, 1015, 1016, 1017, 1018] (by decide +kernel) (by decide +kernel)
set_option maxRecDepth 20000 in
theorem gL_law_X9_part : GoodIn wsL_law (wsV RL 135 RX9 yX9_part wsX9_part) := goodIn_app (goodIn_of _ (by decide +kernel)) ggL_law_X9_part
set_option maxRecDepth 20000 in
theorem ggL_law_X8_image : GoodIn wsL_law wsX8_image := goodIn_r _ [910, 17, 15, 19, 121, 122, 2, 123, 124, 125, 126, 127, 29, 374, 375, 376, 14, 377, 38, 42, 46, 50, 51, 52, 53, 54, 55, 378, 379, 380, 37, 381, 59, 382, 383, 384, 385, 60, 61, 62, 63, 64, 386, 387, 388, 41, 389, 68, 390, 69, 391, 392, 393, 45, 394, 73, 395, 74, 396, 397, 398, 49, 399, 78, 400, 79, 992, 993, 994, 995, 996, 997, 998, 999, 1000, 1019, 1020, 1021, 1022, 1023, 1024, 1025, 1026, 1027, 1035, 1036, 1037, 1038, 1039, 1040, 1041, 1042, 1043, 1044, 1045, 1046] (by decide +kernel) (by decide +kernel)
set_option maxRecDepth 20000 in
theorem gL_law_X8_image : GoodIn wsL_law (wsV RL 136 RX8 yX8_image wsX8_image) := goodIn_app (goodIn_of _ (by decide +kernel)) ggL_law_X8_image
set_option maxRecDepth 20000 in
theorem ggL_law_X9_image : GoodIn wsL_law wsX9_image := goodIn_r _ [914, 98, 97, 99, 144, 145, 5, 146, 151, 152, 153, 154, 100, 1001, 1002, 1003, 1004, 1005, 1006, 1007, 1008, 1009, 1010, 1011, 1012, 1013, 1014, 1015, 1016, 1017, 1018] (by decide +kernel) (by decide +kernel)
set_option maxRecDepth 20000 in
theorem gL_law_X9_image : GoodIn wsL_law (wsV RL 139 RX9 yX9_image wsX9_image) := goodIn_app (goodIn_of _ (by decide +kernel)) ggL_law_X9_image
set_option maxRecDepth 20000 in
theorem ggL_law_X8_from : GoodIn wsL_law wsX8_from := goodIn_r _ [918, 19, 15, 17, 121, 122, 2, 123, 124, 125, 126, 127, 29, 374, 375, 376, 14, 377, 38, 42, 46, 50, 51, 52, 53, 54, 55, 378, 379, 380, 37, 381, 59, 382, 383, 384, 385, 60, 61, 62, 63, 64, 386, 387, 388, 41, 389, 68, 390, 69, 391, 392, 393, 45, 394, 73, 395, 74, 396, 397, 398, 49, 399, 78, 400, 79, 992, 993, 994, 995, 996, 997, 998, 999, 1000, 1019, 1020, 1021, 1022, 1023, 1024, 1025, 1026, 1027, 1035, 1036, 1037, 1038, 1039, 1040, 1041, 1042, 1043, 1044, 1045, 1046] (by decide +kernel) (by decide +kernel)
set_option maxRecDepth 20000 in
theorem gL_law_X8_from : GoodIn wsL_law (wsV RL 140 RX8 yX8_from wsX8_from) := goodIn_app (goodIn_of _ (by decide +kernel)) ggL_law_X8_from
set_option maxRecDepth 20000 in
theorem ggL_law_X9_from : GoodIn wsL_law wsX9_from := goodIn_r _ [922, 99, 97, 98, 144, 145, 5, 146, 151, 152, 153, 154, 100, 496, 497, 498, 499, 1001, 1002, 1003, 1004, 1005, 1006, 1007, 1008, 1009, 1010, 1011, 1012, 1013, 1014, 1015, 1016, 1017, 1018] (by decide +kernel) (by decide +kernel)
set_option maxRecDepth 20000 in
theorem gL_law_X9_from : GoodIn wsL_law (wsV RL 143 RX9 yX9_from wsX9_from) := goodIn_app (goodIn_of _ (by decide +kernel)) ggL_law_X9_from
set_option maxRecDepth 20000 in
theorem ggL_law_X8_status : GoodIn wsL_law wsX8_status := goodIn_r _ [926, 29, 121, 122, 2, 123, 124, 125, 126, 127, 992, 993, 994, 995, 996, 997, 998, 999, 1000] (by decide +kernel) (by decide +kernel)
set_option maxRecDepth 20000 in
theorem gL_law_X8_status : GoodIn wsL_law (wsV RL 144 RX8 yX8_status wsX8_status) := goodIn_app (goodIn_of _ (by decide +kernel)) ggL_law_X8_status
set_option maxRecDepth 20000 in
theorem ggL_law_X9_status : GoodIn wsL_law wsX9_status := goodIn_r _ [930, 931, 100, 144, 145, 5, 146, 151, 152, 153, 154, 1001, 1002, 1003, 1004, 1005, 1006, 1007, 1008, 1009, 1010, 1011, 1012, 1013, 1014, 1015, 1016, 1017, 1018] (by decide +kernel) (by decide +kernel)
set_option maxRecDepth 20000 in
theorem gL_law_X9_status : GoodIn wsL_law (wsV RL 147 RX9 yX9_status wsX9_status) := goodIn_app (goodIn_of _ (by decide +kernel)) ggL_law_X9_status
set_option maxRecDepth 20000 in
theorem ggL_law_X8_count : GoodIn wsL_law wsX8_count := goodIn_r _ [935, 121, 122, 2, 123, 124, 125, 126, 127, 29, 936, 937, 938, 939, 15, 116, 117, 689, 767, 748, 768, 163, 164, 27, 239, 940, 941, 942, 37, 943, 64, 61, 944, 945, 946, 947, 63, 992, 993, 994, 995, 996, 997, 998, 999, 1000, 1019, 1020, 1021, 1022, 1023, 1024, 1025, 1026, 1027, 1035, 1036, 1037, 1038, 1039, 1040, 1041, 1042, 1043, 1044, 1045, 1046, 1030, 1031, 1032, 1033, 1034] (by decide +kernel) (by decide +kernel)
set_option maxRecDepth 20000 in
theorem gL_law_X8_count : GoodIn wsL_law (wsV RL 148 RX8 yX8_count wsX8_count) := goodIn_app (goodIn_of _ (by decide +kernel)) ggL_law_X8_count
set_option maxRecDepth 20000 in
theorem ggL_law_X9_count : GoodIn wsL_law wsX9_count := goodIn_r _ [951, 178, 144, 145, 5, 146, 952, 953, 954, 955, 97, 234, 155, 156, 157, 158, 956, 957, 958, 959, 513, 514, 515, 516, 626, 627, 628, 151, 152, 153, 154, 100, 1001, 1002, 1003, 1004, 1005, 1006, 1007, 1008, 1009, 1010, 1011, 1012, 1013, 1014, 1015, 1016, 1017, 1018] (by decide +kernel) (by decide +kernel)
set_option maxRecDepth 20000 in
theorem gL_law_X9_count : GoodIn wsL_law (wsV RL 151 RX9 yX9_count wsX9_count) := goodIn_app (goodIn_of _ (by decide +kernel)) ggL_law_X9_count
set_option maxRecDepth 20000 in
theorem ggL_law_X8_digest : GoodIn wsL_law wsX8_digest := goodIn_r _ [963, 964, 965, 15, 116, 689, 748, 30, 31, 936, 937, 938, 2, 939, 117, 767, 768, 163, 164, 27, 239, 940, 941, 942, 37, 943, 64, 61, 944, 945, 946, 947, 63, 547, 548, 549, 14, 550, 53, 54, 55, 51, 52, 966, 967, 968, 969, 970, 971, 535, 536, 537, 59, 60, 62, 538, 364, 365, 366, 972, 973, 974, 41, 975, 69, 976, 68, 977, 978, 979, 45, 980, 74, 981, 73, 992, 993, 994, 995, 996, 997, 998, 999, 1000, 1019, 1020, 1021, 1022, 1023, 1024, 1025, 1026, 1027, 1035, 1036, 1037, 1038, 1039, 1040, 1041, 1042, 1043, 1044, 1045, 1046, 1030, 1031, 1032, 1033, 1034] (by decide +kernel) (by decide +kernel)
set_option maxRecDepth 20000 in
theorem gL_law_X8_digest : GoodIn wsL_law (wsV RL 152 RX8 yX8_digest wsX8_digest) := goodIn_app (goodIn_of _ (by decide +kernel)) ggL_law_X8_digest
set_option maxRecDepth 20000 in
theorem ggL_law_X9_digest : GoodIn wsL_law wsX9_digest := goodIn_r _ [985, 986, 987, 97, 867, 101, 952, 953, 954, 5, 955, 234, 155, 156, 157, 158, 956, 957, 958, 959, 513, 514, 515, 516, 626, 627, 628, 556, 557, 558, 559, 988, 989, 990, 991, 1001, 1002, 1003, 1004, 1005, 1006, 1007, 1008, 1009, 1010, 1011, 1012, 1013, 1014, 1015, 1016, 1017, 1018] (by decide +kernel) (by decide +kernel)
set_option maxRecDepth 20000 in
theorem gL_law_X9_digest : GoodIn wsL_law (wsV RL 156 RX9 yX9_digest wsX9_digest) := goodIn_app (goodIn_of _ (by decide +kernel)) ggL_law_X9_digest
