set_option maxRecDepth 20000 in
theorem ggL_law_X9_init_c : GoodIn wsL_law [.code yX9_init cX9_init 1 none] := goodIn_r _ [9] (by decide +kernel) (by decide +kernel)
set_option maxRecDepth 20000 in
theorem ggL_law_X9_init_0 : GoodIn wsL_law wsX9_init_r1 := goodIn_r _ [10, 11, 12, 13, 14, 15, 16, 17, 18, 19, 20, 21, 22, 23, 24, 25, 26, 27, 28, 29, 30, 31, 32, 33] (by decide +kernel) (by decide +kernel)
set_option maxRecDepth 20000 in
theorem ggL_law_X9_init_1 : GoodIn wsL_law wsX9_init_r2 := goodIn_r _ [34, 35, 36, 37, 38, 39, 40, 41, 42, 43, 44, 45, 46, 47, 48, 49, 50, 51, 52, 53, 54, 55, 56, 57] (by decide +kernel) (by decide +kernel)
set_option maxRecDepth 20000 in
theorem ggL_law_X9_init_2 : GoodIn wsL_law wsX9_init_r3 := goodIn_r _ [58, 59, 60, 61, 62, 63, 64, 65, 66, 67, 68, 69, 70, 71, 72, 73, 74, 75, 76, 77, 78, 79, 80, 81] (by decide +kernel) (by decide +kernel)
set_option maxRecDepth 20000 in
theorem ggL_law_X9_init_3 : GoodIn wsL_law wsX9_init_r4 := goodIn_r _ [82, 83, 84, 85, 86, 87, 88, 89, 90, 91, 92, 93, 94, 95, 96, 97, 98, 99, 100, 101, 102, 103, 104, 105] (by decide +kernel) (by decide +kernel)
set_option maxRecDepth 20000 in
theorem ggL_law_X9_init_4 : GoodIn wsL_law wsX9_init_r5 := goodIn_r _ [106, 107, 108, 109, 110, 111, 112, 113, 114, 115, 116, 117, 118, 119, 120, 121, 122, 123, 124, 125, 126, 127, 128, 129] (by decide +kernel) (by decide +kernel)
set_option maxRecDepth 20000 in
theorem ggL_law_X9_init_5 : GoodIn wsL_law wsX9_init_r6 := goodIn_r _ [130, 131, 132, 133, 134, 135, 136, 137, 138, 139, 140, 141, 142, 143, 144, 145, 146, 147, 148, 149, 150, 151, 152, 153] (by decide +kernel) (by decide +kernel)
set_option maxRecDepth 20000 in
theorem ggL_law_X9_init_6 : GoodIn wsL_law wsX9_init_r7 := goodIn_r _ [154, 155, 156, 157, 158, 159] (by decide +kernel) (by decide +kernel)
set_option maxRecDepth 20000 in
theorem ggL_law_X9_init_wsX70 : GoodIn wsL_law wsX70 := goodIn_r _ [961, 962, 963, 964, 965, 966] (by decide +kernel) (by decide +kernel)
set_option maxRecDepth 20000 in
theorem ggL_law_X9_init_wsX90 : GoodIn wsL_law wsX90 := goodIn_r _ [926, 927, 928, 929, 930, 931, 932, 933, 934, 935, 936] (by decide +kernel) (by decide +kernel)
set_option maxRecDepth 20000 in
theorem ggL_law_X9_init_wsX30 : GoodIn wsL_law wsX30 := goodIn_r _ [967, 968, 969, 970, 971] (by decide +kernel) (by decide +kernel)
set_option maxRecDepth 20000 in
theorem ggL_law_X9_init_wsX60 : GoodIn wsL_law wsX60 := goodIn_r _ [972, 973, 974, 975] (by decide +kernel) (by decide +kernel)
set_option maxRecDepth 20000 in
theorem ggL_law_X9_init_wsX20 : GoodIn wsL_law wsX20 := goodIn_r _ [976, 977, 978] (by decide +kernel) (by decide +kernel)
set_option maxRecDepth 20000 in
theorem ggL_law_X9_init_wsX50 : GoodIn wsL_law wsX50 := goodIn_r _ [979, 980, 981, 982, 983, 984, 985, 986, 987, 988, 989, 990] (by decide +kernel) (by decide +kernel)
set_option maxRecDepth 20000 in
theorem ggL_law_X9_init_wsX10 : GoodIn wsL_law wsX10 := goodIn_r _ [991, 992, 993, 994, 995] (by decide +kernel) (by decide +kernel)
set_option maxRecDepth 20000 in
theorem ggL_law_X9_init_wsX80 : GoodIn wsL_law wsX80 := goodIn_r _ [996, 997, 998, 999, 1000, 1001, 1002, 1003] (by decide +kernel) (by decide +kernel)
set_option maxRecDepth 20000 in
theorem ggL_law_X9_init_wsX40 : GoodIn wsL_law wsX40 := goodIn_r _ [1004, 1005, 1006, 1007, 1008] (by decide +kernel) (by decide +kernel)
set_option maxRecDepth 20000 in
theorem ggL_law_X9_init_wsX00 : GoodIn wsL_law wsX00 := goodIn_r _ [1009, 1010, 1011, 1012, 1013, 1014, 1015, 1016, 1017, 1018] (by decide +kernel) (by decide +kernel)
set_option maxRecDepth 20000 in
theorem ggL_law_X9_init : GoodIn wsL_law wsX9_init := goodIn_cons ggL_law_X9_init_c (goodIn_app (goodIn_app (goodIn_app (goodIn_app (goodIn_app (goodIn_app (goodIn_app (goodIn_app (goodIn_app (goodIn_app (goodIn_app ggL_law_X9_init_0 (goodIn_app ggL_law_X9_init_1 (goodIn_app ggL_law_X9_init_2 (goodIn_app ggL_law_X9_init_3 (goodIn_app ggL_law_X9_init_4 (goodIn_app ggL_law_X9_init_5 (ggL_law_X9_init_6))))))) ggL_law_X9_init_wsX70) ggL_law_X9_init_wsX90) ggL_law_X9_init_wsX30) ggL_law_X9_init_wsX60) ggL_law_X9_init_wsX20) ggL_law_X9_init_wsX50) ggL_law_X9_init_wsX10) ggL_law_X9_init_wsX80) ggL_law_X9_init_wsX40) ggL_law_X9_init_wsX00)
set_option maxRecDepth 20000 in
theorem gL_law_X9_init : GoodIn wsL_law (wsX9_init) := ggL_law_X9_init
set_option maxRecDepth 20000 in
theorem ggL_law_X10_init : GoodIn wsL_law wsX10_init := goodIn_r _ [162, 163, 11, 12, 57, 164, 52, 165, 166, 167, 168, 169, 170, 171, 172, 173, 174, 175, 176, 177, 178, 179, 180, 181, 182, 183, 184, 937, 938, 939, 940, 941, 942, 943, 944, 945, 946, 947, 948, 949, 950, 951, 952, 953, 954, 955, 956, 957, 958, 959, 960] (by decide +kernel) (by decide +kernel)
set_option maxRecDepth 20000 in
theorem gL_law_X10_init : GoodIn wsL_law (wsX10_init) := ggL_law_X10_init
set_option maxRecDepth 20000 in
theorem ggL_law_L_box : GoodIn wsL_law wsL_box := goodIn_ca (goodIn_r _ [188, 189, 190, 191, 192, 2, 193, 194, 195, 16, 47, 196, 197, 198, 199, 200, 201, 15, 202, 53, 926, 927, 928, 929, 930, 931, 932, 933, 934, 935, 936, 961, 962, 963, 964, 965, 966] (by decide +kernel) (by decide +kernel)) (goodIn_sub (fun _ h => List.mem_append_right _ h) (by decide +kernel))
set_option maxRecDepth 20000 in
theorem gL_law_L_box : GoodIn wsL_law (va_wsS RL 54 yL_box wsL_box) := goodIn_app (goodIn_of _ (by decide +kernel)) ggL_law_L_box
set_option maxRecDepth 20000 in
theorem ggL_law_X10_box : GoodIn wsL_law wsX10_box := goodIn_r _ [206, 207, 164, 166, 165, 208, 209, 210, 5, 211, 937, 938, 939, 940, 941, 942, 943, 944, 945, 946, 947, 948, 949, 950, 951, 952, 953, 954, 955, 956, 957, 958, 959, 960] (by decide +kernel) (by decide +kernel)
set_option maxRecDepth 20000 in
theorem gL_law_X10_box : GoodIn wsL_law (wsV RL 59 RX10 yX10_box wsX10_box) := goodIn_app (goodIn_of _ (by decide +kernel)) ggL_law_X10_box
set_option maxRecDepth 20000 in
theorem ggL_law_X10_thrown : GoodIn wsL_law wsX10_thrown := goodIn_r _ [215, 207, 937, 938, 939, 940, 941, 942, 943, 944, 945, 946, 947, 948, 949, 950, 951, 952, 953, 954, 955, 956, 957, 958, 959, 960] (by decide +kernel) (by decide +kernel)
set_option maxRecDepth 20000 in
theorem gL_law_X10_thrown : GoodIn wsL_law (wsV RL 60 RX10 yX10_thrown wsX10_thrown) := goodIn_app (goodIn_of _ (by decide +kernel)) ggL_law_X10_thrown
set_option maxRecDepth 20000 in
theorem ggL_law_L_remove_c : GoodIn wsL_law [.codeWith yL_remove cL_remove 4 (some .int) [(0, 16, 19, 13)]] := goodIn_r _ [218] (by decide +kernel) (by decide +kernel)
set_option maxRecDepth 20000 in
theorem ggL_law_L_remove_0 : GoodIn wsL_law wsL_remove_r1 := goodIn_r _ [189, 219, 220, 221, 2, 222, 16, 47, 196, 197, 198, 194, 195, 223, 224, 225, 15, 226, 53, 227, 228, 229, 230, 54] (by decide +kernel) (by decide +kernel)
set_option maxRecDepth 20000 in
theorem ggL_law_L_remove_1 : GoodIn wsL_law wsL_remove_r2 := goodIn_r _ [55, 56, 231, 232, 233, 234, 235, 59, 58, 60, 61, 62, 63, 236, 237, 238, 239, 240, 241, 242, 243, 244, 245, 246] (by decide +kernel) (by decide +kernel)
set_option maxRecDepth 20000 in
theorem ggL_law_L_remove_2 : GoodIn wsL_law wsL_remove_r3 := goodIn_r _ [247] (by decide +kernel) (by decide +kernel)
set_option maxRecDepth 20000 in
theorem ggL_law_L_remove_wsX90 : GoodIn wsL_law wsX90 := goodIn_r _ [926, 927, 928, 929, 930, 931, 932, 933, 934, 935, 936] (by decide +kernel) (by decide +kernel)
set_option maxRecDepth 20000 in
theorem ggL_law_L_remove_wsX70 : GoodIn wsL_law wsX70 := goodIn_r _ [961, 962, 963, 964, 965, 966] (by decide +kernel) (by decide +kernel)
set_option maxRecDepth 20000 in
theorem ggL_law_L_remove : GoodIn wsL_law wsL_remove := goodIn_cons ggL_law_L_remove_c (goodIn_app (goodIn_app (goodIn_app (goodIn_app ggL_law_L_remove_0 (goodIn_app ggL_law_L_remove_1 (ggL_law_L_remove_2))) ggL_law_L_remove_wsX90) ggL_law_L_remove_wsX70) (goodIn_sub (fun _ h => List.mem_append_right _ h) (by decide +kernel)))
set_option maxRecDepth 20000 in
theorem gL_law_L_remove : GoodIn wsL_law (va_wsS RL 64 yL_remove wsL_remove) := goodIn_app (goodIn_of _ (by decide +kernel)) ggL_law_L_remove
set_option maxRecDepth 20000 in
theorem ggL_law_X10_remove : GoodIn wsL_law wsX10_remove := goodIn_r _ [251, 207, 164, 168, 169, 167, 208, 209, 210, 5, 211, 937, 938, 939, 940, 941, 942, 943, 944, 945, 946, 947, 948, 949, 950, 951, 952, 953, 954, 955, 956, 957, 958, 959, 960] (by decide +kernel) (by decide +kernel)
set_option maxRecDepth 20000 in
theorem gL_law_X10_remove : GoodIn wsL_law (wsV RL 67 RX10 yX10_remove wsX10_remove) := goodIn_app (goodIn_of _ (by decide +kernel)) ggL_law_X10_remove
set_option maxRecDepth 20000 in
theorem ggL_law_L_arrow_c : GoodIn wsL_law [.codeWith yL_arrow cL_arrow 5 (some .int) [(0, 7, 10, 13)]] := goodIn_r _ [254] (by decide +kernel) (by decide +kernel)
set_option maxRecDepth 20000 in
theorem ggL_law_L_arrow_0 : GoodIn wsL_law wsL_arrow_r1 := goodIn_r _ [189, 255, 256, 257, 2, 258, 194, 195, 16, 47, 259, 260, 261, 262, 263, 264, 265, 223, 224, 225, 15, 226, 53, 266] (by decide +kernel) (by decide +kernel)
set_option maxRecDepth 20000 in
theorem ggL_law_L_arrow_1 : GoodIn wsL_law wsL_arrow_r2 := goodIn_r _ [267, 268, 269, 55, 56, 231, 232, 233, 234, 235, 59, 58, 60, 61, 62, 63, 236, 237, 238, 239, 240, 241, 242, 243] (by decide +kernel) (by decide +kernel)
set_option maxRecDepth 20000 in
theorem ggL_law_L_arrow_2 : GoodIn wsL_law wsL_arrow_r3 := goodIn_r _ [244, 245, 246, 247] (by decide +kernel) (by decide +kernel)
set_option maxRecDepth 20000 in
theorem ggL_law_L_arrow_wsX90 : GoodIn wsL_law wsX90 := goodIn_r _ [926, 927, 928, 929, 930, 931, 932, 933, 934, 935, 936] (by decide +kernel) (by decide +kernel)
set_option maxRecDepth 20000 in
theorem ggL_law_L_arrow_wsX70 : GoodIn wsL_law wsX70 := goodIn_r _ [961, 962, 963, 964, 965, 966] (by decide +kernel) (by decide +kernel)
set_option maxRecDepth 20000 in
theorem ggL_law_L_arrow : GoodIn wsL_law wsL_arrow := goodIn_cons ggL_law_L_arrow_c (goodIn_app (goodIn_app (goodIn_app (goodIn_app ggL_law_L_arrow_0 (goodIn_app ggL_law_L_arrow_1 (ggL_law_L_arrow_2))) ggL_law_L_arrow_wsX90) ggL_law_L_arrow_wsX70) (goodIn_sub (fun _ h => List.mem_append_right _ h) (by decide +kernel)))
set_option maxRecDepth 20000 in
theorem gL_law_L_arrow : GoodIn wsL_law (va_wsS RL 68 yL_arrow wsL_arrow) := goodIn_app (goodIn_of _ (by decide +kernel)) ggL_law_L_arrow
set_option maxRecDepth 20000 in
theorem ggL_law_X10_arrow : GoodIn wsL_law wsX10_arrow := goodIn_r _ [273, 207, 167, 168, 169, 208, 209, 210, 5, 211, 274, 275, 276, 277, 164, 937, 938, 939, 940, 941, 942, 943, 944, 945, 946, 947, 948, 949, 950, 951, 952, 953, 954, 955, 956, 957, 958, 959, 960] (by decide +kernel) (by decide +kernel)
set_option maxRecDepth 20000 in
theorem gL_law_X10_arrow : GoodIn wsL_law (wsV RL 71 RX10 yX10_arrow wsX10_arrow) := goodIn_app (goodIn_of _ (by decide +kernel)) ggL_law_X10_arrow
set_option maxRecDepth 20000 in
theorem ggL_law_L_drop_c : GoodIn wsL_law [.codeWith yL_drop cL_drop 4 (some .int) [(0, 16, 19, 13)]] := goodIn_r _ [280] (by decide +kernel) (by decide +kernel)
set_option maxRecDepth 20000 in
theorem ggL_law_L_drop_0 : GoodIn wsL_law wsL_drop_r1 := goodIn_r _ [189, 281, 282, 283, 2, 284, 16, 47, 259, 260, 261, 194, 195, 285, 237, 238, 15, 239, 55, 286, 287, 288, 289, 56] (by decide +kernel) (by decide +kernel)
set_option maxRecDepth 20000 in
theorem ggL_law_L_drop_1 : GoodIn wsL_law wsL_drop_r2 := goodIn_r _ [236, 232, 233, 234, 235, 59, 58, 60, 61, 62, 63, 240, 241, 242, 243, 231, 224, 225, 226, 53, 244, 245, 246, 247] (by decide +kernel) (by decide +kernel)
set_option maxRecDepth 20000 in
theorem ggL_law_L_drop_wsX90 : GoodIn wsL_law wsX90 := goodIn_r _ [926, 927, 928, 929, 930, 931, 932, 933, 934, 935, 936] (by decide +kernel) (by decide +kernel)
set_option maxRecDepth 20000 in
theorem ggL_law_L_drop_wsX70 : GoodIn wsL_law wsX70 := goodIn_r _ [961, 962, 963, 964, 965, 966] (by decide +kernel) (by decide +kernel)
set_option maxRecDepth 20000 in
theorem ggL_law_L_drop : GoodIn wsL_law wsL_drop := goodIn_cons ggL_law_L_drop_c (goodIn_app (goodIn_app (goodIn_app (goodIn_app ggL_law_L_drop_0 (ggL_law_L_drop_1)) ggL_law_L_drop_wsX90) ggL_law_L_drop_wsX70) (goodIn_sub (fun _ h => List.mem_append_right _ h) (by decide +kernel)))
set_option maxRecDepth 20000 in
theorem gL_law_L_drop : GoodIn wsL_law (va_wsS RL 72 yL_drop wsL_drop) := goodIn_app (goodIn_of _ (by decide +kernel)) ggL_law_L_drop
set_option maxRecDepth 20000 in
theorem ggL_law_X10_drop : GoodIn wsL_law wsX10_drop := goodIn_r _ [293, 207, 167, 208, 209, 210, 5, 211, 937, 938, 939, 940, 941, 942, 943, 944, 945, 946, 947, 948, 949, 950, 951, 952, 953, 954, 955, 956, 957, 958, 959, 960] (by decide +kernel) (by decide +kernel)
set_option maxRecDepth 20000 in
theorem gL_law_X10_drop : GoodIn wsL_law (wsV RL 74 RX10 yX10_drop wsX10_drop) := goodIn_app (goodIn_of _ (by decide +kernel)) ggL_law_X10_drop
set_option maxRecDepth 20000 in
theorem ggL_law_L_pin : GoodIn wsL_law wsL_pin := goodIn_ca (goodIn_r _ [296, 189, 297, 298, 299, 2, 300, 194, 195, 16, 47, 262, 263, 264, 265, 223, 224, 225, 15, 226, 53, 301, 302, 303, 304, 54, 231, 926, 927, 928, 929, 930, 931, 932, 933, 934, 935, 936, 961, 962, 963, 964, 965, 966] (by decide +kernel) (by decide +kernel)) (goodIn_sub (fun _ h => List.mem_append_right _ h) (by decide +kernel))
set_option maxRecDepth 20000 in
theorem gL_law_L_pin : GoodIn wsL_law (va_wsS RL 75 yL_pin wsL_pin) := goodIn_app (goodIn_of _ (by decide +kernel)) ggL_law_L_pin
set_option maxRecDepth 20000 in
theorem ggL_law_X10_pin : GoodIn wsL_law wsX10_pin := goodIn_r _ [308, 207, 166, 208, 274, 275, 276, 5, 277, 164, 209, 210, 211, 937, 938, 939, 940, 941, 942, 943, 944, 945, 946, 947, 948, 949, 950, 951, 952, 953, 954, 955, 956, 957, 958, 959, 960] (by decide +kernel) (by decide +kernel)
set_option maxRecDepth 20000 in
theorem gL_law_X10_pin : GoodIn wsL_law (wsV RL 77 RX10 yX10_pin wsX10_pin) := goodIn_app (goodIn_of _ (by decide +kernel)) ggL_law_X10_pin
set_option maxRecDepth 20000 in
theorem ggL_law_L_draw_c : GoodIn wsL_law [.codeWith yL_draw cL_draw 4 (some .int) [(0, 16, 19, 13)]] := goodIn_r _ [311] (by decide +kernel) (by decide +kernel)
set_option maxRecDepth 20000 in
theorem ggL_law_L_draw_0 : GoodIn wsL_law wsL_draw_r1 := goodIn_r _ [189, 312, 313, 314, 2, 315, 45, 20, 32, 316, 317, 318, 194, 195, 319, 320, 321, 322, 47, 24, 323, 324, 325, 19] (by decide +kernel) (by decide +kernel)
set_option maxRecDepth 20000 in
theorem ggL_law_L_draw_1 : GoodIn wsL_law wsL_draw_r2 := goodIn_r _ [326, 327, 328, 329, 330, 71, 68, 331, 224, 225, 15, 226, 53, 332, 333, 334, 335, 54, 231, 336, 337, 338, 339, 340] (by decide +kernel) (by decide +kernel)
set_option maxRecDepth 20000 in
theorem ggL_law_L_draw_2 : GoodIn wsL_law wsL_draw_r3 := goodIn_r _ [341, 342, 343, 344, 345, 346, 347, 58, 55, 56, 236, 237, 238, 239, 348, 349, 350, 351, 352, 353, 354, 355, 356, 357] (by decide +kernel) (by decide +kernel)
set_option maxRecDepth 20000 in
theorem ggL_law_L_draw_3 : GoodIn wsL_law wsL_draw_r4 := goodIn_r _ [358, 359, 72, 360, 361, 156, 362, 363, 364, 365, 366, 69, 70, 367, 368, 369, 370, 371, 372, 373, 374, 375, 376, 377] (by decide +kernel) (by decide +kernel)
set_option maxRecDepth 20000 in
theorem ggL_law_L_draw_4 : GoodIn wsL_law wsL_draw_r5 := goodIn_r _ [378, 379, 380, 381, 382, 23, 383, 77, 384, 61, 62, 63, 385, 386, 387, 388, 389, 390, 391, 392, 393, 394, 78, 79] (by decide +kernel) (by decide +kernel)
set_option maxRecDepth 20000 in
theorem ggL_law_L_draw_5 : GoodIn wsL_law wsL_draw_r6 := goodIn_r _ [80, 395, 396, 397, 43, 398, 399, 400, 401, 402, 150, 151, 152, 153, 154, 155, 157, 158, 146, 148, 149, 159, 403, 404] (by decide +kernel) (by decide +kernel)
set_option maxRecDepth 20000 in
theorem ggL_law_L_draw_6 : GoodIn wsL_law wsL_draw_r7 := goodIn_r _ [405, 406, 407, 408, 409, 410, 411, 412, 413, 414, 415, 416, 417, 418, 419, 420, 421, 422, 147, 423, 424, 425, 426, 427] (by decide +kernel) (by decide +kernel)
set_option maxRecDepth 20000 in
theorem ggL_law_L_draw_7 : GoodIn wsL_law wsL_draw_r8 := goodIn_r _ [428, 429, 31, 430, 105, 431, 432, 433, 434, 435, 436, 437, 438, 439, 440, 441, 442, 101, 98, 97, 443, 444, 445, 446] (by decide +kernel) (by decide +kernel)
set_option maxRecDepth 20000 in
theorem ggL_law_L_draw_8 : GoodIn wsL_law wsL_draw_r9 := goodIn_r _ [100, 447, 93, 92, 448, 449, 450, 451, 452, 453, 454, 455, 456, 457, 458, 459, 460, 94, 95, 96, 461, 462, 463, 464] (by decide +kernel) (by decide +kernel)
set_option maxRecDepth 20000 in
theorem ggL_law_L_draw_9 : GoodIn wsL_law wsL_draw_r10 := goodIn_r _ [465, 466, 467, 468, 106, 99, 469, 470, 471, 472, 473, 474, 475, 476, 477, 478, 479, 480, 27, 481, 482, 483, 484, 485] (by decide +kernel) (by decide +kernel)
set_option maxRecDepth 20000 in
theorem ggL_law_L_draw_10 : GoodIn wsL_law wsL_draw_r11 := goodIn_r _ [87, 486, 85, 86, 487, 488, 489, 490, 491, 492, 493, 494, 495, 496, 497, 498, 499, 500, 501, 104, 502, 120, 114, 115] (by decide +kernel) (by decide +kernel)
set_option maxRecDepth 20000 in
theorem ggL_law_L_draw_11 : GoodIn wsL_law wsL_draw_r12 := goodIn_r _ [503, 119, 117, 504, 505, 506, 507, 508, 111, 118, 509, 112, 113, 510, 511, 512, 513, 514, 515, 516, 517, 518, 519, 520] (by decide +kernel) (by decide +kernel)
set_option maxRecDepth 20000 in
theorem ggL_law_L_draw_12 : GoodIn wsL_law wsL_draw_r13 := goodIn_r _ [521, 522, 523, 524, 525, 116, 526, 527, 528, 529, 530, 531, 532, 533, 534, 535, 536, 537, 538, 539, 540, 541, 542, 44] (by decide +kernel) (by decide +kernel)
set_option maxRecDepth 20000 in
theorem ggL_law_L_draw_13 : GoodIn wsL_law wsL_draw_r14 := goodIn_r _ [543, 544, 545, 546, 36, 40, 547, 548, 549, 35, 550, 551, 552, 553, 554, 555, 556, 557, 558, 559, 560, 561, 125, 562] (by decide +kernel) (by decide +kernel)
set_option maxRecDepth 20000 in
theorem ggL_law_L_draw_14 : GoodIn wsL_law wsL_draw_r15 := goodIn_r _ [563, 564, 565, 566, 567, 568, 128, 569, 570, 571, 572, 573, 574, 575, 576, 577, 578, 579, 580, 126, 127, 129, 581, 582] (by decide +kernel) (by decide +kernel)
set_option maxRecDepth 20000 in
theorem ggL_law_L_draw_15 : GoodIn wsL_law wsL_draw_r16 := goodIn_r _ [583, 584, 585, 586, 587, 588, 589, 590, 591, 592, 593, 594, 595, 596, 597, 598, 599, 600, 601, 602, 603, 604, 605, 606] (by decide +kernel) (by decide +kernel)
set_option maxRecDepth 20000 in
theorem ggL_law_L_draw_16 : GoodIn wsL_law wsL_draw_r17 := goodIn_r _ [607, 608, 609, 610, 39, 611, 134, 135, 612, 613, 614, 615, 616, 617, 140, 618, 141, 136, 137, 619, 138, 620, 621, 622] (by decide +kernel) (by decide +kernel)
set_option maxRecDepth 20000 in
theorem ggL_law_L_draw_17 : GoodIn wsL_law wsL_draw_r18 := goodIn_r _ [623, 624, 625, 626, 627, 628, 629, 630, 631, 632, 633, 634, 139] (by decide +kernel) (by decide +kernel)
set_option maxRecDepth 20000 in
theorem ggL_law_L_draw_wsX90 : GoodIn wsL_law wsX90 := goodIn_r _ [926, 927, 928, 929, 930, 931, 932, 933, 934, 935, 936] (by decide +kernel) (by decide +kernel)
set_option maxRecDepth 20000 in
theorem ggL_law_L_draw_wsX30 : GoodIn wsL_law wsX30 := goodIn_r _ [967, 968, 969, 970, 971] (by decide +kernel) (by decide +kernel)
set_option maxRecDepth 20000 in
theorem ggL_law_L_draw_wsX70 : GoodIn wsL_law wsX70 := goodIn_r _ [961, 962, 963, 964, 965, 966] (by decide +kernel) (by decide +kernel)
set_option maxRecDepth 20000 in
theorem ggL_law_L_draw_wsX60 : GoodIn wsL_law wsX60 := goodIn_r _ [972, 973, 974, 975] (by decide +kernel) (by decide +kernel)
set_option maxRecDepth 20000 in
theorem ggL_law_L_draw_wsX40 : GoodIn wsL_law wsX40 := goodIn_r _ [1004, 1005, 1006, 1007, 1008] (by decide +kernel) (by decide +kernel)
set_option maxRecDepth 20000 in
theorem ggL_law_L_draw_wsX50 : GoodIn wsL_law wsX50 := goodIn_r _ [979, 980, 981, 982, 983, 984, 985, 986, 987, 988, 989, 990] (by decide +kernel) (by decide +kernel)
set_option maxRecDepth 20000 in
theorem ggL_law_L_draw_wsX20 : GoodIn wsL_law wsX20 := goodIn_r _ [976, 977, 978] (by decide +kernel) (by decide +kernel)
set_option maxRecDepth 20000 in
theorem ggL_law_L_draw_wsX00 : GoodIn wsL_law wsX00 := goodIn_r _ [1009, 1010, 1011, 1012, 1013, 1014, 1015, 1016, 1017, 1018] (by decide +kernel) (by decide +kernel)
set_option maxRecDepth 20000 in
theorem ggL_law_L_draw_wsX10 : GoodIn wsL_law wsX10 := goodIn_r _ [991, 992, 993, 994, 995] (by decide +kernel) (by decide +kernel)
set_option maxRecDepth 20000 in
theorem ggL_law_L_draw_wsX80 : GoodIn wsL_law wsX80 := goodIn_r _ [996, 997, 998, 999, 1000, 1001, 1002, 1003] (by decide +kernel) (by decide +kernel)
set_option maxRecDepth 20000 in
theorem ggL_law_L_draw : GoodIn wsL_law wsL_draw := goodIn_cons ggL_law_L_draw_c (goodIn_app (goodIn_app (goodIn_app (goodIn_app (goodIn_app (goodIn_app (goodIn_app (goodIn_app (goodIn_app (goodIn_app (goodIn_app (goodIn_app ggL_law_L_draw_0 (goodIn_app ggL_law_L_draw_1 (goodIn_app ggL_law_L_draw_2 (goodIn_app ggL_law_L_draw_3 (goodIn_app ggL_law_L_draw_4 (goodIn_app ggL_law_L_draw_5 (goodIn_app ggL_law_L_draw_6 (goodIn_app ggL_law_L_draw_7 (goodIn_app ggL_law_L_draw_8 (goodIn_app ggL_law_L_draw_9 (goodIn_app ggL_law_L_draw_10 (goodIn_app ggL_law_L_draw_11 (goodIn_app ggL_law_L_draw_12 (goodIn_app ggL_law_L_draw_13 (goodIn_app ggL_law_L_draw_14 (goodIn_app ggL_law_L_draw_15 (goodIn_app ggL_law_L_draw_16 (ggL_law_L_draw_17)))))))))))))))))) ggL_law_L_draw_wsX90) ggL_law_L_draw_wsX30) ggL_law_L_draw_wsX70) ggL_law_L_draw_wsX60) ggL_law_L_draw_wsX40) ggL_law_L_draw_wsX50) ggL_law_L_draw_wsX20) ggL_law_L_draw_wsX00) ggL_law_L_draw_wsX10) ggL_law_L_draw_wsX80) (goodIn_sub (fun _ h => List.mem_append_right _ h) (by decide +kernel)))
set_option maxRecDepth 20000 in
theorem gL_law_L_draw : GoodIn wsL_law (va_wsS RL 78 yL_draw wsL_draw) := goodIn_app (goodIn_of _ (by decide +kernel)) ggL_law_L_draw
set_option maxRecDepth 20000 in
theorem ggL_law_X10_draw_c : GoodIn wsL_law [.code yX10_draw cX10_draw 2 (some .boolean)] := goodIn_r _ [638] (by decide +kernel) (by decide +kernel)
set_option maxRecDepth 20000 in
theorem ggL_law_X10_draw_0 : GoodIn wsL_law wsX10_draw_r1 := goodIn_r _ [207, 208, 209, 210, 5, 211, 639, 640, 641, 642, 171, 166, 167, 643, 164, 644, 645, 646, 647, 170, 169, 168, 648, 649] (by decide +kernel) (by decide +kernel)
set_option maxRecDepth 20000 in
theorem ggL_law_X10_draw_1 : GoodIn wsL_law wsX10_draw_r2 := goodIn_r _ [650, 651, 184, 652, 653, 654, 655, 656, 657, 658, 659, 660, 661, 662, 663, 664, 665, 666, 667, 172, 668, 669, 670, 671] (by decide +kernel) (by decide +kernel)
set_option maxRecDepth 20000 in
theorem ggL_law_X10_draw_2 : GoodIn wsL_law wsX10_draw_r3 := goodIn_r _ [173, 672, 673, 674, 675, 676, 677, 678, 679, 174, 175, 680, 681, 682, 683, 684, 685, 686, 687, 182, 181, 688, 689, 690] (by decide +kernel) (by decide +kernel)
set_option maxRecDepth 20000 in
theorem ggL_law_X10_draw_3 : GoodIn wsL_law wsX10_draw_r4 := goodIn_r _ [691, 692, 693, 694, 695, 696, 697, 698, 699, 700, 701, 702, 703, 704, 705, 706, 707, 183, 708, 709, 710, 711, 712, 713] (by decide +kernel) (by decide +kernel)
set_option maxRecDepth 20000 in
theorem ggL_law_X10_draw_4 : GoodIn wsL_law wsX10_draw_r5 := goodIn_r _ [714, 715, 716, 717, 718, 719, 177, 178, 179, 720, 721, 722, 723, 176, 724, 725, 726, 727, 165, 728, 729, 730, 731, 732] (by decide +kernel) (by decide +kernel)
set_option maxRecDepth 20000 in
theorem ggL_law_X10_draw_5 : GoodIn wsL_law wsX10_draw_r6 := goodIn_r _ [733, 734, 735, 736, 737, 738] (by decide +kernel) (by decide +kernel)
set_option maxRecDepth 20000 in
theorem ggL_law_X10_draw_wsX100 : GoodIn wsL_law wsX100 := goodIn_r _ [937, 938, 939, 940, 941, 942, 943, 944, 945, 946, 947, 948, 949, 950, 951, 952, 953, 954, 955, 956, 957, 958, 959, 960] (by decide +kernel) (by decide +kernel)
set_option maxRecDepth 20000 in
theorem ggL_law_X10_draw : GoodIn wsL_law wsX10_draw := goodIn_cons ggL_law_X10_draw_c (goodIn_app (goodIn_app ggL_law_X10_draw_0 (goodIn_app ggL_law_X10_draw_1 (goodIn_app ggL_law_X10_draw_2 (goodIn_app ggL_law_X10_draw_3 (goodIn_app ggL_law_X10_draw_4 (ggL_law_X10_draw_5)))))) ggL_law_X10_draw_wsX100)
set_option maxRecDepth 20000 in
theorem gL_law_X10_draw : GoodIn wsL_law (wsV RL 80 RX10 yX10_draw wsX10_draw) := goodIn_app (goodIn_of _ (by decide +kernel)) ggL_law_X10_draw
set_option maxRecDepth 20000 in
theorem ggL_law_L_redraw_c : GoodIn wsL_law [.codeWith yL_redraw cL_redraw 5 (some .int) [(0, 10, 13, 13)]] := goodIn_r _ [741] (by decide +kernel) (by decide +kernel)
set_option maxRecDepth 20000 in
theorem ggL_law_L_redraw_0 : GoodIn wsL_law wsL_redraw_r1 := goodIn_r _ [189, 742, 743, 744, 2, 745, 194, 195, 746, 45, 20, 32, 46, 44, 28, 316, 317, 318, 319, 320, 321, 322, 47, 24] (by decide +kernel) (by decide +kernel)
set_option maxRecDepth 20000 in
theorem ggL_law_L_redraw_1 : GoodIn wsL_law wsL_redraw_r2 := goodIn_r _ [323, 324, 325, 19, 326, 327, 328, 329, 330, 71, 68, 331, 224, 225, 15, 226, 53, 332, 333, 334, 335, 54, 231, 336] (by decide +kernel) (by decide +kernel)
set_option maxRecDepth 20000 in
theorem ggL_law_L_redraw_2 : GoodIn wsL_law wsL_redraw_r3 := goodIn_r _ [337, 338, 339, 340, 341, 342, 343, 344, 345, 346, 347, 58, 55, 56, 236, 237, 238, 239, 348, 349, 350, 351, 352, 353] (by decide +kernel) (by decide +kernel)
set_option maxRecDepth 20000 in
theorem ggL_law_L_redraw_3 : GoodIn wsL_law wsL_redraw_r4 := goodIn_r _ [354, 355, 356, 357, 358, 359, 72, 360, 361, 156, 362, 363, 364, 365, 366, 69, 70, 367, 368, 369, 370, 371, 372, 373] (by decide +kernel) (by decide +kernel)
set_option maxRecDepth 20000 in
theorem ggL_law_L_redraw_4 : GoodIn wsL_law wsL_redraw_r5 := goodIn_r _ [374, 375, 376, 377, 378, 379, 380, 381, 382, 23, 383, 77, 384, 61, 62, 63, 385, 386, 387, 388, 389, 390, 391, 392] (by decide +kernel) (by decide +kernel)
set_option maxRecDepth 20000 in
theorem ggL_law_L_redraw_5 : GoodIn wsL_law wsL_redraw_r6 := goodIn_r _ [393, 394, 78, 79, 80, 395, 396, 397, 43, 398, 399, 400, 401, 402, 150, 151, 152, 153, 154, 155, 157, 158, 146, 148] (by decide +kernel) (by decide +kernel)
set_option maxRecDepth 20000 in
theorem ggL_law_L_redraw_6 : GoodIn wsL_law wsL_redraw_r7 := goodIn_r _ [149, 159, 403, 404, 405, 406, 407, 408, 409, 410, 411, 412, 413, 414, 415, 416, 417, 418, 419, 420, 421, 422, 147, 423] (by decide +kernel) (by decide +kernel)
set_option maxRecDepth 20000 in
theorem ggL_law_L_redraw_7 : GoodIn wsL_law wsL_redraw_r8 := goodIn_r _ [424, 425, 426, 427, 428, 429, 31, 430, 105, 431, 432, 433, 434, 435, 436, 437, 438, 439, 440, 441, 442, 101, 98, 97] (by decide +kernel) (by decide +kernel)
set_option maxRecDepth 20000 in
theorem ggL_law_L_redraw_8 : GoodIn wsL_law wsL_redraw_r9 := goodIn_r _ [443, 444, 445, 446, 100, 447, 93, 92, 448, 449, 450, 451, 452, 453, 454, 455, 456, 457, 458, 459, 460, 94, 95, 96] (by decide +kernel) (by decide +kernel)
set_option maxRecDepth 20000 in
theorem ggL_law_L_redraw_9 : GoodIn wsL_law wsL_redraw_r10 := goodIn_r _ [461, 462, 463, 464, 465, 466, 467, 468, 106, 99, 469, 470, 471, 472, 473, 474, 475, 476, 477, 478, 479, 480, 27, 481] (by decide +kernel) (by decide +kernel)
set_option maxRecDepth 20000 in
theorem ggL_law_L_redraw_10 : GoodIn wsL_law wsL_redraw_r11 := goodIn_r _ [482, 483, 484, 485, 87, 486, 85, 86, 487, 488, 489, 490, 491, 492, 493, 494, 495, 496, 497, 498, 499, 500, 501, 104] (by decide +kernel) (by decide +kernel)
set_option maxRecDepth 20000 in
theorem ggL_law_L_redraw_11 : GoodIn wsL_law wsL_redraw_r12 := goodIn_r _ [502, 120, 114, 115, 503, 119, 117, 504, 505, 506, 507, 508, 111, 118, 509, 112, 113, 510, 511, 512, 513, 514, 515, 516] (by decide +kernel) (by decide +kernel)
set_option maxRecDepth 20000 in
theorem ggL_law_L_redraw_12 : GoodIn wsL_law wsL_redraw_r13 := goodIn_r _ [517, 518, 519, 520, 521, 522, 523, 524, 525, 116, 526, 527, 528, 529, 530, 531, 532, 533, 534, 535, 536, 537, 538, 747] (by decide +kernel) (by decide +kernel)
set_option maxRecDepth 20000 in
theorem ggL_law_L_redraw_13 : GoodIn wsL_law wsL_redraw_r14 := goodIn_r _ [748, 749, 750, 751, 752, 753, 754, 755, 756, 757, 758, 759, 760, 16, 223, 761, 762, 763, 764, 765, 766, 767, 768, 769] (by decide +kernel) (by decide +kernel)
set_option maxRecDepth 20000 in
theorem ggL_law_L_redraw_14 : GoodIn wsL_law wsL_redraw_r15 := goodIn_r _ [770, 771, 772, 539, 540, 541, 542, 773, 774, 775, 776, 543, 544, 545, 546, 36, 40, 547, 548, 549, 35, 550, 551, 552] (by decide +kernel) (by decide +kernel)
set_option maxRecDepth 20000 in
theorem ggL_law_L_redraw_15 : GoodIn wsL_law wsL_redraw_r16 := goodIn_r _ [553, 554, 555, 556, 557, 558, 559, 560, 561, 125, 562, 563, 564, 565, 566, 567, 568, 128, 569, 570, 571, 572, 573, 574] (by decide +kernel) (by decide +kernel)
set_option maxRecDepth 20000 in
theorem ggL_law_L_redraw_16 : GoodIn wsL_law wsL_redraw_r17 := goodIn_r _ [575, 576, 577, 578, 579, 580, 126, 127, 129, 581, 582, 583, 584, 585, 586, 587, 588, 589, 590, 591, 592, 593, 594, 595] (by decide +kernel) (by decide +kernel)
