set_option maxRecDepth 20000 in
theorem ggL_law_L_redraw_17 : GoodIn wsL_law wsL_redraw_r18 := goodIn_r _ [596, 597, 598, 599, 600, 601, 602, 603, 604, 605, 606, 39, 607, 134, 135, 608, 609, 610, 611, 612, 613, 140, 614, 141] (by decide +kernel) (by decide +kernel)
set_option maxRecDepth 20000 in
theorem ggL_law_L_redraw_18 : GoodIn wsL_law wsL_redraw_r19 := goodIn_r _ [136, 137, 615, 138, 616, 617, 618, 619, 620, 621, 622, 623, 624, 625, 626, 627, 628, 629, 630, 139] (by decide +kernel) (by decide +kernel)
set_option maxRecDepth 20000 in
theorem ggL_law_L_redraw_wsX90 : GoodIn wsL_law wsX90 := goodIn_r _ [922, 923, 924, 925, 926, 927, 928, 929, 930, 931, 932] (by decide +kernel) (by decide +kernel)
set_option maxRecDepth 20000 in
theorem ggL_law_L_redraw_wsX30 : GoodIn wsL_law wsX30 := goodIn_r _ [963, 964, 965, 966, 967] (by decide +kernel) (by decide +kernel)
set_option maxRecDepth 20000 in
theorem ggL_law_L_redraw_wsX70 : GoodIn wsL_law wsX70 := goodIn_r _ [957, 958, 959, 960, 961, 962] (by decide +kernel) (by decide +kernel)
set_option maxRecDepth 20000 in
theorem ggL_law_L_redraw_wsX60 : GoodIn wsL_law wsX60 := goodIn_r _ [968, 969, 970, 971] (by decide +kernel) (by decide +kernel)
set_option maxRecDepth 20000 in
theorem ggL_law_L_redraw_wsX40 : GoodIn wsL_law wsX40 := goodIn_r _ [1000, 1001, 1002, 1003, 1004] (by decide +kernel) (by decide +kernel)
set_option maxRecDepth 20000 in
theorem ggL_law_L_redraw_wsX50 : GoodIn wsL_law wsX50 := goodIn_r _ [975, 976, 977, 978, 979, 980, 981, 982, 983, 984, 985, 986] (by decide +kernel) (by decide +kernel)
set_option maxRecDepth 20000 in
theorem ggL_law_L_redraw_wsX20 : GoodIn wsL_law wsX20 := goodIn_r _ [972, 973, 974] (by decide +kernel) (by decide +kernel)
set_option maxRecDepth 20000 in
theorem ggL_law_L_redraw_wsX00 : GoodIn wsL_law wsX00 := goodIn_r _ [1005, 1006, 1007, 1008, 1009, 1010, 1011, 1012, 1013, 1014] (by decide +kernel) (by decide +kernel)
set_option maxRecDepth 20000 in
theorem ggL_law_L_redraw_wsX10 : GoodIn wsL_law wsX10 := goodIn_r _ [987, 988, 989, 990, 991] (by decide +kernel) (by decide +kernel)
set_option maxRecDepth 20000 in
theorem ggL_law_L_redraw_wsX80 : GoodIn wsL_law wsX80 := goodIn_r _ [992, 993, 994, 995, 996, 997, 998, 999] (by decide +kernel) (by decide +kernel)
set_option maxRecDepth 20000 in
theorem ggL_law_L_redraw : GoodIn wsL_law wsL_redraw := goodIn_cons ggL_law_L_redraw_c (goodIn_app (goodIn_app (goodIn_app (goodIn_app (goodIn_app (goodIn_app (goodIn_app (goodIn_app (goodIn_app (goodIn_app (goodIn_app (goodIn_app ggL_law_L_redraw_0 (goodIn_app ggL_law_L_redraw_1 (goodIn_app ggL_law_L_redraw_2 (goodIn_app ggL_law_L_redraw_3 (goodIn_app ggL_law_L_redraw_4 (goodIn_app ggL_law_L_redraw_5 (goodIn_app ggL_law_L_redraw_6 (goodIn_app ggL_law_L_redraw_7 (goodIn_app ggL_law_L_redraw_8 (goodIn_app ggL_law_L_redraw_9 (goodIn_app ggL_law_L_redraw_10 (goodIn_app ggL_law_L_redraw_11 (goodIn_app ggL_law_L_redraw_12 (goodIn_app ggL_law_L_redraw_13 (goodIn_app ggL_law_L_redraw_14 (goodIn_app ggL_law_L_redraw_15 (goodIn_app ggL_law_L_redraw_16 (goodIn_app ggL_law_L_redraw_17 (ggL_law_L_redraw_18))))))))))))))))))) ggL_law_L_redraw_wsX90) ggL_law_L_redraw_wsX30) ggL_law_L_redraw_wsX70) ggL_law_L_redraw_wsX60) ggL_law_L_redraw_wsX40) ggL_law_L_redraw_wsX50) ggL_law_L_redraw_wsX20) ggL_law_L_redraw_wsX00) ggL_law_L_redraw_wsX10) ggL_law_L_redraw_wsX80) (goodIn_sub (fun _ h => List.mem_append_right _ h) (by decide +kernel)))
set_option maxRecDepth 20000 in
theorem gL_law_L_redraw : GoodIn wsL_law (va_wsS RL 81 yL_redraw wsL_redraw) := goodIn_app (goodIn_of _ (by decide +kernel)) ggL_law_L_redraw
set_option maxRecDepth 20000 in
theorem ggL_law_X10_redraw_c : GoodIn wsL_law [.code yX10_redraw cX10_redraw 6 (some .int)] := goodIn_r _ [776] (by decide +kernel) (by decide +kernel)
set_option maxRecDepth 20000 in
theorem ggL_law_X10_redraw_0 : GoodIn wsL_law wsX10_redraw_r1 := goodIn_r _ [777, 207, 208, 180, 173, 639, 164, 177, 171, 178, 174, 209, 210, 5, 211, 635, 636, 637, 638, 166, 167, 640, 641, 642] (by decide +kernel) (by decide +kernel)
set_option maxRecDepth 20000 in
theorem ggL_law_X10_redraw_1 : GoodIn wsL_law wsX10_redraw_r2 := goodIn_r _ [643, 170, 169, 168, 644, 645, 646, 647, 184, 648, 649, 650, 651, 652, 653, 654, 655, 778, 779, 780, 781, 172, 181, 660] (by decide +kernel) (by decide +kernel)
set_option maxRecDepth 20000 in
theorem ggL_law_X10_redraw_2 : GoodIn wsL_law wsX10_redraw_r3 := goodIn_r _ [661, 662, 663, 664, 665, 666, 667, 668, 669, 670, 671, 672, 673, 674, 675, 175, 676, 677, 678, 679, 782, 783, 784, 785] (by decide +kernel) (by decide +kernel)
set_option maxRecDepth 20000 in
theorem ggL_law_X10_redraw_3 : GoodIn wsL_law wsX10_redraw_r4 := goodIn_r _ [179, 786, 787, 788, 789, 684, 685, 686, 687, 688, 689, 690, 691, 692, 693, 694, 695, 696, 697, 698, 699, 656, 657, 658] (by decide +kernel) (by decide +kernel)
set_option maxRecDepth 20000 in
theorem ggL_law_X10_redraw_4 : GoodIn wsL_law wsX10_redraw_r5 := goodIn_r _ [659, 680, 681, 682, 683, 182, 700, 701, 702, 703, 183, 704, 705, 706, 707, 708, 709, 710, 711, 712, 713, 714, 715, 716] (by decide +kernel) (by decide +kernel)
set_option maxRecDepth 20000 in
theorem ggL_law_X10_redraw_5 : GoodIn wsL_law wsX10_redraw_r6 := goodIn_r _ [717, 718, 719, 176, 720, 721, 722, 723, 165, 724, 725, 726, 727, 728, 729, 730, 731, 732, 733, 734] (by decide +kernel) (by decide +kernel)
set_option maxRecDepth 20000 in
theorem ggL_law_X10_redraw_wsX100 : GoodIn wsL_law wsX100 := goodIn_r _ [933, 934, 935, 936, 937, 938, 939, 940, 941, 942, 943, 944, 945, 946, 947, 948, 949, 950, 951, 952, 953, 954, 955, 956] (by decide +kernel) (by decide +kernel)
set_option maxRecDepth 20000 in
theorem ggL_law_X10_redraw : GoodIn wsL_law wsX10_redraw := goodIn_cons ggL_law_X10_redraw_c (goodIn_app (goodIn_app ggL_law_X10_redraw_0 (goodIn_app ggL_law_X10_redraw_1 (goodIn_app ggL_law_X10_redraw_2 (goodIn_app ggL_law_X10_redraw_3 (goodIn_app ggL_law_X10_redraw_4 (ggL_law_X10_redraw_5)))))) ggL_law_X10_redraw_wsX100)
set_option maxRecDepth 20000 in
theorem gL_law_X10_redraw : GoodIn wsL_law (wsV RL 84 RX10 yX10_redraw wsX10_redraw) := goodIn_app (goodIn_of _ (by decide +kernel)) ggL_law_X10_redraw
set_option maxRecDepth 20000 in
theorem ggL_law_L_at_c : GoodIn wsL_law [.codeWith yL_at cL_at 5 (some .int) [(0, 10, 13, 13)]] := goodIn_r _ [792] (by decide +kernel) (by decide +kernel)
set_option maxRecDepth 20000 in
theorem ggL_law_L_at_0 : GoodIn wsL_law wsL_at_r1 := goodIn_r _ [189, 793, 794, 795, 2, 796, 47, 16, 20, 44, 36, 196, 197, 198, 194, 195, 797, 798, 799, 223, 224, 225, 15, 226] (by decide +kernel) (by decide +kernel)
set_option maxRecDepth 20000 in
theorem ggL_law_L_at_1 : GoodIn wsL_law wsL_at_r2 := goodIn_r _ [53, 800, 353, 354, 19, 355, 68, 801, 412, 413, 43, 414, 148, 802, 566, 567, 35, 568, 125, 558, 559, 560] (by decide +kernel) (by decide +kernel)
set_option maxRecDepth 20000 in
theorem ggL_law_L_at_wsX90 : GoodIn wsL_law wsX90 := goodIn_r _ [922, 923, 924, 925, 926, 927, 928, 929, 930, 931, 932] (by decide +kernel) (by decide +kernel)
set_option maxRecDepth 20000 in
theorem ggL_law_L_at_wsX70 : GoodIn wsL_law wsX70 := goodIn_r _ [957, 958, 959, 960, 961, 962] (by decide +kernel) (by decide +kernel)
set_option maxRecDepth 20000 in
theorem ggL_law_L_at_wsX30 : GoodIn wsL_law wsX30 := goodIn_r _ [963, 964, 965, 966, 967] (by decide +kernel) (by decide +kernel)
set_option maxRecDepth 20000 in
theorem ggL_law_L_at_wsX40 : GoodIn wsL_law wsX40 := goodIn_r _ [1000, 1001, 1002, 1003, 1004] (by decide +kernel) (by decide +kernel)
set_option maxRecDepth 20000 in
theorem ggL_law_L_at_wsX10 : GoodIn wsL_law wsX10 := goodIn_r _ [987, 988, 989, 990, 991] (by decide +kernel) (by decide +kernel)
set_option maxRecDepth 20000 in
theorem ggL_law_L_at : GoodIn wsL_law wsL_at := goodIn_cons ggL_law_L_at_c (goodIn_app (goodIn_app (goodIn_app (goodIn_app (goodIn_app (goodIn_app (goodIn_app ggL_law_L_at_0 (ggL_law_L_at_1)) ggL_law_L_at_wsX90) ggL_law_L_at_wsX70) ggL_law_L_at_wsX30) ggL_law_L_at_wsX40) ggL_law_L_at_wsX10) (goodIn_sub (fun _ h => List.mem_append_right _ h) (by decide +kernel)))
set_option maxRecDepth 20000 in
theorem gL_law_L_at : GoodIn wsL_law (va_wsS RL 85 yL_at wsL_at) := goodIn_app (goodIn_of _ (by decide +kernel)) ggL_law_L_at
set_option maxRecDepth 20000 in
theorem ggL_law_X10_at : GoodIn wsL_law wsX10_at := goodIn_r _ [806, 207, 208, 164, 171, 174, 176, 209, 210, 5, 211, 933, 934, 935, 936, 937, 938, 939, 940, 941, 942, 943, 944, 945, 946, 947, 948, 949, 950, 951, 952, 953, 954, 955, 956] (by decide +kernel) (by decide +kernel)
set_option maxRecDepth 20000 in
theorem gL_law_X10_at : GoodIn wsL_law (wsV RL 87 RX10 yX10_at wsX10_at) := goodIn_app (goodIn_of _ (by decide +kernel)) ggL_law_X10_at
set_option maxRecDepth 20000 in
theorem ggL_law_L_reversed : GoodIn wsL_law wsL_reversed := goodIn_ca (goodIn_r _ [809, 189, 810, 811, 812, 2, 813, 16, 259, 260, 261, 194, 195, 285, 237, 238, 15, 239, 55, 814, 815, 816, 817, 58, 236, 922, 923, 924, 925, 926, 927, 928, 929, 930, 931, 932, 957, 958, 959, 960, 961, 962] (by decide +kernel) (by decide +kernel)) (goodIn_sub (fun _ h => List.mem_append_right _ h) (by decide +kernel))
set_option maxRecDepth 20000 in
theorem gL_law_L_reversed : GoodIn wsL_law (va_wsS RL 88 yL_reversed wsL_reversed) := goodIn_app (goodIn_of _ (by decide +kernel)) ggL_law_L_reversed
set_option maxRecDepth 20000 in
theorem ggL_law_X10_reversed : GoodIn wsL_law wsX10_reversed := goodIn_r _ [821, 207, 167, 170, 209, 210, 5, 211, 640, 641, 642, 643, 169, 168, 644, 645, 646, 647, 184, 933, 934, 935, 936, 937, 938, 939, 940, 941, 942, 943, 944, 945, 946, 947, 948, 949, 950, 951, 952, 953, 954, 955, 956] (by decide +kernel) (by decide +kernel)
set_option maxRecDepth 20000 in
theorem gL_law_X10_reversed : GoodIn wsL_law (wsV RL 90 RX10 yX10_reversed wsX10_reversed) := goodIn_app (goodIn_of _ (by decide +kernel)) ggL_law_X10_reversed
set_option maxRecDepth 20000 in
theorem ggL_law_X9_item : GoodIn wsL_law wsX9_item := goodIn_r _ [825, 47, 44, 826, 471, 472, 43, 473, 147, 423, 424, 425, 426, 158, 146, 922, 923, 924, 925, 926, 927, 928, 929, 930, 931, 932, 1000, 1001, 1002, 1003, 1004] (by decide +kernel) (by decide +kernel)
set_option maxRecDepth 20000 in
theorem gL_law_X9_item : GoodIn wsL_law (wsV RL 91 RX9 yX9_item wsX9_item) := goodIn_app (goodIn_of _ (by decide +kernel)) ggL_law_X9_item
set_option maxRecDepth 20000 in
theorem ggL_law_X10_item : GoodIn wsL_law wsX10_item := goodIn_r _ [830, 207, 208, 639, 172, 209, 210, 5, 211, 676, 677, 678, 679, 173, 933, 934, 935, 936, 937, 938, 939, 940, 941, 942, 943, 944, 945, 946, 947, 948, 949, 950, 951, 952, 953, 954, 955, 956] (by decide +kernel) (by decide +kernel)
set_option maxRecDepth 20000 in
theorem gL_law_X10_item : GoodIn wsL_law (wsV RL 94 RX10 yX10_item wsX10_item) := goodIn_app (goodIn_of _ (by decide +kernel)) ggL_law_X10_item
set_option maxRecDepth 20000 in
theorem ggL_law_L_piece_c : GoodIn wsL_law [.codeWith yL_piece cL_piece 6 (some .int) [(0, 12, 15, 13)]] := goodIn_r _ [833] (by decide +kernel) (by decide +kernel)
set_option maxRecDepth 20000 in
theorem ggL_law_L_piece_0 : GoodIn wsL_law wsL_piece_r1 := goodIn_r _ [189, 834, 835, 836, 2, 837, 47, 20, 36, 40, 259, 260, 261, 194, 195, 797, 798, 799, 838, 839, 840, 19, 841, 376] (by decide +kernel) (by decide +kernel)
set_option maxRecDepth 20000 in
theorem ggL_law_L_piece_1 : GoodIn wsL_law wsL_piece_r2 := goodIn_r _ [377, 378, 379, 69, 372, 373, 374, 375, 70, 842, 388, 389, 390, 71, 348, 349, 350, 15, 351, 58, 56, 55, 236, 237] (by decide +kernel) (by decide +kernel)
set_option maxRecDepth 20000 in
theorem ggL_law_L_piece_2 : GoodIn wsL_law wsL_piece_r3 := goodIn_r _ [238, 239, 344, 345, 346, 347, 843, 581, 582, 35, 583, 128, 565, 566, 567, 568, 125, 558, 559, 560, 569, 570, 571, 572] (by decide +kernel) (by decide +kernel)
set_option maxRecDepth 20000 in
theorem ggL_law_L_piece_3 : GoodIn wsL_law wsL_piece_r4 := goodIn_r _ [53, 231, 224, 225, 226, 844, 845, 846, 39, 847, 134] (by decide +kernel) (by decide +kernel)
set_option maxRecDepth 20000 in
theorem ggL_law_L_piece_wsX90 : GoodIn wsL_law wsX90 := goodIn_r _ [922, 923, 924, 925, 926, 927, 928, 929, 930, 931, 932] (by decide +kernel) (by decide +kernel)
set_option maxRecDepth 20000 in
theorem ggL_law_L_piece_wsX30 : GoodIn wsL_law wsX30 := goodIn_r _ [963, 964, 965, 966, 967] (by decide +kernel) (by decide +kernel)
set_option maxRecDepth 20000 in
theorem ggL_law_L_piece_wsX70 : GoodIn wsL_law wsX70 := goodIn_r _ [957, 958, 959, 960, 961, 962] (by decide +kernel) (by decide +kernel)
set_option maxRecDepth 20000 in
theorem ggL_law_L_piece_wsX10 : GoodIn wsL_law wsX10 := goodIn_r _ [987, 988, 989, 990, 991] (by decide +kernel) (by decide +kernel)
set_option maxRecDepth 20000 in
theorem ggL_law_L_piece_wsX80 : GoodIn wsL_law wsX80 := goodIn_r _ [992, 993, 994, 995, 996, 997, 998, 999] (by decide +kernel) (by decide +kernel)
set_option maxRecDepth 20000 in
theorem ggL_law_L_piece : GoodIn wsL_law wsL_piece := goodIn_cons ggL_law_L_piece_c (goodIn_app (goodIn_app (goodIn_app (goodIn_app (goodIn_app (goodIn_app (goodIn_app ggL_law_L_piece_0 (goodIn_app ggL_law_L_piece_1 (goodIn_app ggL_law_L_piece_2 (ggL_law_L_piece_3)))) ggL_law_L_piece_wsX90) ggL_law_L_piece_wsX30) ggL_law_L_piece_wsX70) ggL_law_L_piece_wsX10) ggL_law_L_piece_wsX80) (goodIn_sub (fun _ h => List.mem_append_right _ h) (by decide +kernel)))
set_option maxRecDepth 20000 in
theorem gL_law_L_piece : GoodIn wsL_law (va_wsS RL 95 yL_piece wsL_piece) := goodIn_app (goodIn_of _ (by decide +kernel)) ggL_law_L_piece
set_option maxRecDepth 20000 in
theorem ggL_law_X10_piece_c : GoodIn wsL_law [.code yX10_piece cX10_piece 4 (some .int)] := goodIn_r _ [851] (by decide +kernel) (by decide +kernel)
set_option maxRecDepth 20000 in
theorem ggL_law_X10_piece_0 : GoodIn wsL_law wsX10_piece_r1 := goodIn_r _ [207, 208, 209, 210, 5, 211, 688, 689, 690, 691, 167, 171, 652, 653, 654, 655, 170, 169, 168, 648, 649, 650, 651, 852] (by decide +kernel) (by decide +kernel)
set_option maxRecDepth 20000 in
theorem ggL_law_X10_piece_1 : GoodIn wsL_law wsX10_piece_r2 := goodIn_r _ [853, 854, 855, 182, 856, 857, 858, 859, 692, 693, 694, 695, 174, 175, 728, 729, 730, 731, 176, 676, 677, 678, 679, 173] (by decide +kernel) (by decide +kernel)
set_option maxRecDepth 20000 in
theorem ggL_law_X10_piece_2 : GoodIn wsL_law wsX10_piece_r3 := goodIn_r _ [720, 721, 722, 723, 165, 696, 697, 698, 699, 860, 861, 862, 863] (by decide +kernel) (by decide +kernel)
set_option maxRecDepth 20000 in
theorem ggL_law_X10_piece_wsX100 : GoodIn wsL_law wsX100 := goodIn_r _ [933, 934, 935, 936, 937, 938, 939, 940, 941, 942, 943, 944, 945, 946, 947, 948, 949, 950, 951, 952, 953, 954, 955, 956] (by decide +kernel) (by decide +kernel)
set_option maxRecDepth 20000 in
theorem ggL_law_X10_piece : GoodIn wsL_law wsX10_piece := goodIn_cons ggL_law_X10_piece_c (goodIn_app (goodIn_app ggL_law_X10_piece_0 (goodIn_app ggL_law_X10_piece_1 (ggL_law_X10_piece_2))) ggL_law_X10_piece_wsX100)
set_option maxRecDepth 20000 in
theorem gL_law_X10_piece : GoodIn wsL_law (wsV RL 98 RX10 yX10_piece wsX10_piece) := goodIn_app (goodIn_of _ (by decide +kernel)) ggL_law_X10_piece
set_option maxRecDepth 20000 in
theorem ggL_law_L_between_c : GoodIn wsL_law [.codeWith yL_between cL_between 5 (some .int) [(0, 10, 13, 13)]] := goodIn_r _ [866] (by decide +kernel) (by decide +kernel)
set_option maxRecDepth 20000 in
theorem ggL_law_L_between_0 : GoodIn wsL_law wsL_between_r1 := goodIn_r _ [189, 867, 868, 869, 2, 870, 47, 20, 28, 44, 40, 797, 798, 799, 194, 195, 871, 400, 401, 19, 402, 72, 872, 483] (by decide +kernel) (by decide +kernel)
set_option maxRecDepth 20000 in
theorem ggL_law_L_between_1 : GoodIn wsL_law wsL_between_r2 := goodIn_r _ [484, 27, 485, 87, 486, 155, 156, 157, 85, 86, 487, 449, 450, 23, 451, 77, 488, 453, 454, 455, 79, 80, 489, 412] (by decide +kernel) (by decide +kernel)
set_option maxRecDepth 20000 in
theorem ggL_law_L_between_2 : GoodIn wsL_law wsL_between_r3 := goodIn_r _ [413, 43, 414, 148, 490, 491, 492, 493, 873, 874, 875, 39, 876, 135] (by decide +kernel) (by decide +kernel)
set_option maxRecDepth 20000 in
theorem ggL_law_L_between_wsX90 : GoodIn wsL_law wsX90 := goodIn_r _ [922, 923, 924, 925, 926, 927, 928, 929, 930, 931, 932] (by decide +kernel) (by decide +kernel)
set_option maxRecDepth 20000 in
theorem ggL_law_L_between_wsX30 : GoodIn wsL_law wsX30 := goodIn_r _ [963, 964, 965, 966, 967] (by decide +kernel) (by decide +kernel)
set_option maxRecDepth 20000 in
theorem ggL_law_L_between_wsX20 : GoodIn wsL_law wsX20 := goodIn_r _ [972, 973, 974] (by decide +kernel) (by decide +kernel)
set_option maxRecDepth 20000 in
theorem ggL_law_L_between_wsX60 : GoodIn wsL_law wsX60 := goodIn_r _ [968, 969, 970, 971] (by decide +kernel) (by decide +kernel)
set_option maxRecDepth 20000 in
theorem ggL_law_L_between_wsX40 : GoodIn wsL_law wsX40 := goodIn_r _ [1000, 1001, 1002, 1003, 1004] (by decide +kernel) (by decide +kernel)
set_option maxRecDepth 20000 in
theorem ggL_law_L_between_wsX80 : GoodIn wsL_law wsX80 := goodIn_r _ [992, 993, 994, 995, 996, 997, 998, 999] (by decide +kernel) (by decide +kernel)
set_option maxRecDepth 20000 in
theorem ggL_law_L_between : GoodIn wsL_law wsL_between := goodIn_cons ggL_law_L_between_c (goodIn_app (goodIn_app (goodIn_app (goodIn_app (goodIn_app (goodIn_app (goodIn_app (goodIn_app ggL_law_L_between_0 (goodIn_app ggL_law_L_between_1 (ggL_law_L_between_2))) ggL_law_L_between_wsX90) ggL_law_L_between_wsX30) ggL_law_L_between_wsX20) ggL_law_L_between_wsX60) ggL_law_L_between_wsX40) ggL_law_L_between_wsX80) (goodIn_sub (fun _ h => List.mem_append_right _ h) (by decide +kernel)))
set_option maxRecDepth 20000 in
theorem gL_law_L_between : GoodIn wsL_law (va_wsS RL 99 yL_between wsL_between) := goodIn_app (goodIn_of _ (by decide +kernel)) ggL_law_L_between
set_option maxRecDepth 20000 in
theorem ggL_law_X10_between_c : GoodIn wsL_law [.code yX10_between cX10_between 3 (some .int)] := goodIn_r _ [880] (by decide +kernel) (by decide +kernel)
set_option maxRecDepth 20000 in
theorem ggL_law_X10_between_0 : GoodIn wsL_law wsX10_between_r1 := goodIn_r _ [207, 208, 639, 209, 210, 5, 211, 684, 685, 686, 687, 688, 689, 690, 691, 167, 171, 652, 653, 654, 655, 170, 169, 168] (by decide +kernel) (by decide +kernel)
set_option maxRecDepth 20000 in
theorem ggL_law_X10_between_1 : GoodIn wsL_law wsX10_between_r2 := goodIn_r _ [648, 649, 650, 651, 692, 693, 694, 695, 174, 175, 696, 697, 698, 699, 852, 853, 854, 855, 182, 856, 857, 858, 859, 728] (by decide +kernel) (by decide +kernel)
set_option maxRecDepth 20000 in
theorem ggL_law_X10_between_2 : GoodIn wsL_law wsX10_between_r3 := goodIn_r _ [729, 730, 731, 176, 676, 677, 678, 679, 173, 720, 721, 722, 723, 165, 860, 861, 862, 863] (by decide +kernel) (by decide +kernel)
set_option maxRecDepth 20000 in
theorem ggL_law_X10_between_wsX100 : GoodIn wsL_law wsX100 := goodIn_r _ [933, 934, 935, 936, 937, 938, 939, 940, 941, 942, 943, 944, 945, 946, 947, 948, 949, 950, 951, 952, 953, 954, 955, 956] (by decide +kernel) (by decide +kernel)
set_option maxRecDepth 20000 in
theorem ggL_law_X10_between : GoodIn wsL_law wsX10_between := goodIn_cons ggL_law_X10_between_c (goodIn_app (goodIn_app ggL_law_X10_between_0 (goodIn_app ggL_law_X10_between_1 (ggL_law_X10_between_2))) ggL_law_X10_between_wsX100)
set_option maxRecDepth 20000 in
theorem gL_law_X10_between : GoodIn wsL_law (wsV RL 101 RX10 yX10_between wsX10_between) := goodIn_app (goodIn_of _ (by decide +kernel)) ggL_law_X10_between
set_option maxRecDepth 20000 in
theorem ggL_law_X9_count_c : GoodIn wsL_law [.code yX9_count cX9_count 2 (some .int)] := goodIn_r _ [884] (by decide +kernel) (by decide +kernel)
set_option maxRecDepth 20000 in
theorem ggL_law_X9_count_0 : GoodIn wsL_law wsX9_count_r1 := goodIn_r _ [16, 47, 885, 886, 887, 15, 888, 231, 224, 225, 226, 53, 889, 890, 891, 892, 236, 237, 238, 239, 55, 893, 894, 895] (by decide +kernel) (by decide +kernel)
set_option maxRecDepth 20000 in
theorem ggL_law_X9_count_1 : GoodIn wsL_law wsX9_count_r2 := goodIn_r _ [896, 897, 815, 816, 817, 58, 898, 899, 900, 2, 901, 20, 44, 28, 36, 40, 871, 400, 401, 19, 402, 72, 902, 903] (by decide +kernel) (by decide +kernel)
set_option maxRecDepth 20000 in
theorem ggL_law_X9_count_2 : GoodIn wsL_law wsX9_count_r3 := goodIn_r _ [904, 43, 905, 158, 423, 424, 425, 426, 146, 748, 749, 750, 27, 751, 752, 436, 437, 438, 482, 483, 484, 485, 87, 486] (by decide +kernel) (by decide +kernel)
set_option maxRecDepth 20000 in
theorem ggL_law_X9_count_3 : GoodIn wsL_law wsX9_count_r4 := goodIn_r _ [155, 156, 157, 85, 86, 487, 449, 450, 23, 451, 77, 488, 453, 454, 455, 79, 80, 489, 412, 413, 414, 148, 490, 491] (by decide +kernel) (by decide +kernel)
set_option maxRecDepth 20000 in
theorem ggL_law_X9_count_4 : GoodIn wsL_law wsX9_count_r5 := goodIn_r _ [492, 493, 906, 907, 908, 35, 909, 589, 361, 362, 547, 552, 553, 471, 472, 473, 147, 561, 562, 563, 564, 128, 565, 566] (by decide +kernel) (by decide +kernel)
set_option maxRecDepth 20000 in
theorem ggL_law_X9_count_5 : GoodIn wsL_law wsX9_count_r6 := goodIn_r _ [567, 568, 125, 558, 559, 560, 569, 570, 571, 572, 910, 911, 912, 39, 913, 135, 615] (by decide +kernel) (by decide +kernel)
set_option maxRecDepth 20000 in
theorem ggL_law_X9_count_wsX90 : GoodIn wsL_law wsX90 := goodIn_r _ [922, 923, 924, 925, 926, 927, 928, 929, 930, 931, 932] (by decide +kernel) (by decide +kernel)
set_option maxRecDepth 20000 in
theorem ggL_law_X9_count_wsX70 : GoodIn wsL_law wsX70 := goodIn_r _ [957, 958, 959, 960, 961, 962] (by decide +kernel) (by decide +kernel)
set_option maxRecDepth 20000 in
theorem ggL_law_X9_count_wsX30 : GoodIn wsL_law wsX30 := goodIn_r _ [963, 964, 965, 966, 967] (by decide +kernel) (by decide +kernel)
set_option maxRecDepth 20000 in
theorem ggL_law_X9_count_wsX40 : GoodIn wsL_law wsX40 := goodIn_r _ [1000, 1001, 1002, 1003, 1004] (by decide +kernel) (by decide +kernel)
set_option maxRecDepth 20000 in
theorem ggL_law_X9_count_wsX20 : GoodIn wsL_law wsX20 := goodIn_r _ [972, 973, 974] (by decide +kernel) (by decide +kernel)
set_option maxRecDepth 20000 in
theorem ggL_law_X9_count_wsX60 : GoodIn wsL_law wsX60 := goodIn_r _ [968, 969, 970, 971] (by decide +kernel) (by decide +kernel)
set_option maxRecDepth 20000 in
theorem ggL_law_X9_count_wsX10 : GoodIn wsL_law wsX10 := goodIn_r _ [987, 988, 989, 990, 991] (by decide +kernel) (by decide +kernel)
set_option maxRecDepth 20000 in
theorem ggL_law_X9_count_wsX80 : GoodIn wsL_law wsX80 := goodIn_r _ [992, 993, 994, 995, 996, 997, 998, 999] (by decide +kernel) (by decide +kernel)
set_option maxRecDepth 20000 in
theorem ggL_law_X9_count : GoodIn wsL_law wsX9_count := goodIn_cons ggL_law_X9_count_c (goodIn_app (goodIn_app (goodIn_app (goodIn_app (goodIn_app (goodIn_app (goodIn_app (goodIn_app (goodIn_app ggL_law_X9_count_0 (goodIn_app ggL_law_X9_count_1 (goodIn_app ggL_law_X9_count_2 (goodIn_app ggL_law_X9_count_3 (goodIn_app ggL_law_X9_count_4 (ggL_law_X9_count_5)))))) ggL_law_X9_count_wsX90) ggL_law_X9_count_wsX70) ggL_law_X9_count_wsX30) ggL_law_X9_count_wsX40) ggL_law_X9_count_wsX20) ggL_law_X9_count_wsX60) ggL_law_X9_count_wsX10) ggL_law_X9_count_wsX80)
set_option maxRecDepth 20000 in
theorem gL_law_X9_count : GoodIn wsL_law (wsV RL 102 RX9 yX9_count wsX9_count) := goodIn_app (goodIn_of _ (by decide +kernel)) ggL_law_X9_count
set_option maxRecDepth 20000 in
theorem ggL_law_X10_count_c : GoodIn wsL_law [.code yX10_count cX10_count 4 (some .int)] := goodIn_r _ [917] (by decide +kernel) (by decide +kernel)
set_option maxRecDepth 20000 in
theorem ggL_law_X10_count_0 : GoodIn wsL_law wsX10_count_r1 := goodIn_r _ [207, 164, 167, 170, 208, 640, 641, 642, 5, 643, 169, 168, 644, 645, 646, 647, 184, 209, 210, 211, 918, 919, 920, 921] (by decide +kernel) (by decide +kernel)
set_option maxRecDepth 20000 in
theorem ggL_law_X10_count_1 : GoodIn wsL_law wsX10_count_r2 := goodIn_r _ [639, 172, 176, 684, 685, 686, 687, 688, 689, 690, 691, 171, 652, 653, 654, 655, 648, 649, 650, 651, 692, 693, 694, 695] (by decide +kernel) (by decide +kernel)
set_option maxRecDepth 20000 in
theorem ggL_law_X10_count_2 : GoodIn wsL_law wsX10_count_r3 := goodIn_r _ [174, 175, 696, 697, 698, 699, 676, 677, 678, 679, 173, 720, 721, 722, 723, 165, 852, 853, 854, 855, 182, 856, 857, 858] (by decide +kernel) (by decide +kernel)
set_option maxRecDepth 20000 in
theorem ggL_law_X10_count_3 : GoodIn wsL_law wsX10_count_r4 := goodIn_r _ [859, 728, 729, 730, 731, 860, 861, 862, 863] (by decide +kernel) (by decide +kernel)
set_option maxRecDepth 20000 in
theorem ggL_law_X10_count_wsX100 : GoodIn wsL_law wsX100 := goodIn_r _ [933, 934, 935, 936, 937, 938, 939, 940, 941, 942, 943, 944, 945, 946, 947, 948, 949, 950, 951, 952, 953, 954, 955, 956] (by decide +kernel) (by decide +kernel)
set_option maxRecDepth 20000 in
theorem ggL_law_X10_count : GoodIn wsL_law wsX10_count := goodIn_cons ggL_law_X10_count_c (goodIn_app (goodIn_app ggL_law_X10_count_0 (goodIn_app ggL_law_X10_count_1 (goodIn_app ggL_law_X10_count_2 (ggL_law_X10_count_3)))) ggL_law_X10_count_wsX100)
set_option maxRecDepth 20000 in
theorem gL_law_X10_count : GoodIn wsL_law (wsV RL 105 RX10 yX10_count wsX10_count) := goodIn_app (goodIn_of _ (by decide +kernel)) ggL_law_X10_count
