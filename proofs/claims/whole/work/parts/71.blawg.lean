set_option maxRecDepth 20000 in
theorem ggL_law_L_redraw_17 : GoodIn wsL_law wsL_redraw_r18 := goodIn_r _ [596, 597, 598, 599, 600, 601, 602, 603, 604, 605, 606, 607, 608, 609, 610, 39, 611, 134, 135, 612, 613, 614, 615, 616] (by decide +kernel) (by decide +kernel)
set_option maxRecDepth 20000 in
theorem ggL_law_L_redraw_18 : GoodIn wsL_law wsL_redraw_r19 := goodIn_r _ [617, 140, 618, 141, 136, 137, 619, 138, 620, 621, 622, 623, 624, 625, 626, 627, 628, 629, 630, 631, 632, 633, 634, 139] (by decide +kernel) (by decide +kernel)
set_option maxRecDepth 20000 in
theorem ggL_law_L_redraw_wsX90 : GoodIn wsL_law wsX90 := goodIn_r _ [926, 927, 928, 929, 930, 931, 932, 933, 934, 935, 936] (by decide +kernel) (by decide +kernel)
set_option maxRecDepth 20000 in
theorem ggL_law_L_redraw_wsX30 : GoodIn wsL_law wsX30 := goodIn_r _ [967, 968, 969, 970, 971] (by decide +kernel) (by decide +kernel)
set_option maxRecDepth 20000 in
theorem ggL_law_L_redraw_wsX70 : GoodIn wsL_law wsX70 := goodIn_r _ [961, 962, 963, 964, 965, 966] (by decide +kernel) (by decide +kernel)
set_option maxRecDepth 20000 in
theorem ggL_law_L_redraw_wsX60 : GoodIn wsL_law wsX60 := goodIn_r _ [972, 973, 974, 975] (by decide +kernel) (by decide +kernel)
set_option maxRecDepth 20000 in
theorem ggL_law_L_redraw_wsX40 : GoodIn wsL_law wsX40 := goodIn_r _ [1004, 1005, 1006, 1007, 1008] (by decide +kernel) (by decide +kernel)
set_option maxRecDepth 20000 in
theorem ggL_law_L_redraw_wsX50 : GoodIn wsL_law wsX50 := goodIn_r _ [979, 980, 981, 982, 983, 984, 985, 986, 987, 988, 989, 990] (by decide +kernel) (by decide +kernel)
set_option maxRecDepth 20000 in
theorem ggL_law_L_redraw_wsX20 : GoodIn wsL_law wsX20 := goodIn_r _ [976, 977, 978] (by decide +kernel) (by decide +kernel)
set_option maxRecDepth 20000 in
theorem ggL_law_L_redraw_wsX00 : GoodIn wsL_law wsX00 := goodIn_r _ [1009, 1010, 1011, 1012, 1013, 1014, 1015, 1016, 1017, 1018] (by decide +kernel) (by decide +kernel)
set_option maxRecDepth 20000 in
theorem ggL_law_L_redraw_wsX10 : GoodIn wsL_law wsX10 := goodIn_r _ [991, 992, 993, 994, 995] (by decide +kernel) (by decide +kernel)
set_option maxRecDepth 20000 in
theorem ggL_law_L_redraw_wsX80 : GoodIn wsL_law wsX80 := goodIn_r _ [996, 997, 998, 999, 1000, 1001, 1002, 1003] (by decide +kernel) (by decide +kernel)
set_option maxRecDepth 20000 in
theorem ggL_law_L_redraw : GoodIn wsL_law wsL_redraw := goodIn_cons ggL_law_L_redraw_c (goodIn_app (goodIn_app (goodIn_app (goodIn_app (goodIn_app (goodIn_app (goodIn_app (goodIn_app (goodIn_app (goodIn_app (goodIn_app (goodIn_app ggL_law_L_redraw_0 (goodIn_app ggL_law_L_redraw_1 (goodIn_app ggL_law_L_redraw_2 (goodIn_app ggL_law_L_redraw_3 (goodIn_app ggL_law_L_redraw_4 (goodIn_app ggL_law_L_redraw_5 (goodIn_app ggL_law_L_redraw_6 (goodIn_app ggL_law_L_redraw_7 (goodIn_app ggL_law_L_redraw_8 (goodIn_app ggL_law_L_redraw_9 (goodIn_app ggL_law_L_redraw_10 (goodIn_app ggL_law_L_redraw_11 (goodIn_app ggL_law_L_redraw_12 (goodIn_app ggL_law_L_redraw_13 (goodIn_app ggL_law_L_redraw_14 (goodIn_app ggL_law_L_redraw_15 (goodIn_app ggL_law_L_redraw_16 (goodIn_app ggL_law_L_redraw_17 (ggL_law_L_redraw_18))))))))))))))))))) ggL_law_L_redraw_wsX90) ggL_law_L_redraw_wsX30) ggL_law_L_redraw_wsX70) ggL_law_L_redraw_wsX60) ggL_law_L_redraw_wsX40) ggL_law_L_redraw_wsX50) ggL_law_L_redraw_wsX20) ggL_law_L_redraw_wsX00) ggL_law_L_redraw_wsX10) ggL_law_L_redraw_wsX80) (goodIn_sub (fun _ h => List.mem_append_right _ h) (by decide +kernel)))
set_option maxRecDepth 20000 in
theorem gL_law_L_redraw : GoodIn wsL_law (va_wsS RL 81 yL_redraw wsL_redraw) := goodIn_app (goodIn_of _ (by decide +kernel)) ggL_law_L_redraw
set_option maxRecDepth 20000 in
theorem ggL_law_X10_redraw_c : GoodIn wsL_law [.code yX10_redraw cX10_redraw 6 (some .int)] := goodIn_r _ [780] (by decide +kernel) (by decide +kernel)
set_option maxRecDepth 20000 in
theorem ggL_law_X10_redraw_0 : GoodIn wsL_law wsX10_redraw_r1 := goodIn_r _ [781, 207, 208, 180, 173, 643, 164, 177, 171, 178, 174, 209, 210, 5, 211, 639, 640, 641, 642, 166, 167, 644, 645, 646] (by decide +kernel) (by decide +kernel)
set_option maxRecDepth 20000 in
theorem ggL_law_X10_redraw_1 : GoodIn wsL_law wsX10_redraw_r2 := goodIn_r _ [647, 170, 169, 168, 648, 649, 650, 651, 184, 652, 653, 654, 655, 656, 657, 658, 659, 782, 783, 784, 785, 172, 181, 664] (by decide +kernel) (by decide +kernel)
set_option maxRecDepth 20000 in
theorem ggL_law_X10_redraw_2 : GoodIn wsL_law wsX10_redraw_r3 := goodIn_r _ [665, 666, 667, 668, 669, 670, 671, 672, 673, 674, 675, 676, 677, 678, 679, 175, 680, 681, 682, 683, 786, 787, 788, 789] (by decide +kernel) (by decide +kernel)
set_option maxRecDepth 20000 in
theorem ggL_law_X10_redraw_3 : GoodIn wsL_law wsX10_redraw_r4 := goodIn_r _ [179, 790, 791, 792, 793, 688, 689, 690, 691, 692, 693, 694, 695, 696, 697, 698, 699, 700, 701, 702, 703, 660, 661, 662] (by decide +kernel) (by decide +kernel)
set_option maxRecDepth 20000 in
theorem ggL_law_X10_redraw_4 : GoodIn wsL_law wsX10_redraw_r5 := goodIn_r _ [663, 684, 685, 686, 687, 182, 704, 705, 706, 707, 183, 708, 709, 710, 711, 712, 713, 714, 715, 716, 717, 718, 719, 720] (by decide +kernel) (by decide +kernel)
set_option maxRecDepth 20000 in
theorem ggL_law_X10_redraw_5 : GoodIn wsL_law wsX10_redraw_r6 := goodIn_r _ [721, 722, 723, 176, 724, 725, 726, 727, 165, 728, 729, 730, 731, 732, 733, 734, 735, 736, 737, 738] (by decide +kernel) (by decide +kernel)
set_option maxRecDepth 20000 in
theorem ggL_law_X10_redraw_wsX100 : GoodIn wsL_law wsX100 := goodIn_r _ [937, 938, 939, 940, 941, 942, 943, 944, 945, 946, 947, 948, 949, 950, 951, 952, 953, 954, 955, 956, 957, 958, 959, 960] (by decide +kernel) (by decide +kernel)
set_option maxRecDepth 20000 in
theorem ggL_law_X10_redraw : GoodIn wsL_law wsX10_redraw := goodIn_cons ggL_law_X10_redraw_c (goodIn_app (goodIn_app ggL_law_X10_redraw_0 (goodIn_app ggL_law_X10_redraw_1 (goodIn_app ggL_law_X10_redraw_2 (goodIn_app ggL_law_X10_redraw_3 (goodIn_app ggL_law_X10_redraw_4 (ggL_law_X10_redraw_5)))))) ggL_law_X10_redraw_wsX100)
set_option maxRecDepth 20000 in
theorem gL_law_X10_redraw : GoodIn wsL_law (wsV RL 84 RX10 yX10_redraw wsX10_redraw) := goodIn_app (goodIn_of _ (by decide +kernel)) ggL_law_X10_redraw
set_option maxRecDepth 20000 in
theorem ggL_law_L_at_c : GoodIn wsL_law [.codeWith yL_at cL_at 5 (some .int) [(0, 10, 13, 13)]] := goodIn_r _ [796] (by decide +kernel) (by decide +kernel)
set_option maxRecDepth 20000 in
theorem ggL_law_L_at_0 : GoodIn wsL_law wsL_at_r1 := goodIn_r _ [189, 797, 798, 799, 2, 800, 47, 16, 20, 44, 36, 196, 197, 198, 194, 195, 801, 802, 803, 223, 224, 225, 15, 226] (by decide +kernel) (by decide +kernel)
set_option maxRecDepth 20000 in
theorem ggL_law_L_at_1 : GoodIn wsL_law wsL_at_r2 := goodIn_r _ [53, 804, 353, 354, 19, 355, 68, 805, 412, 413, 43, 414, 148, 806, 570, 571, 35, 572, 125, 562, 563, 564] (by decide +kernel) (by decide +kernel)
set_option maxRecDepth 20000 in
theorem ggL_law_L_at_wsX90 : GoodIn wsL_law wsX90 := goodIn_r _ [926, 927, 928, 929, 930, 931, 932, 933, 934, 935, 936] (by decide +kernel) (by decide +kernel)
set_option maxRecDepth 20000 in
theorem ggL_law_L_at_wsX70 : GoodIn wsL_law wsX70 := goodIn_r _ [961, 962, 963, 964, 965, 966] (by decide +kernel) (by decide +kernel)
set_option maxRecDepth 20000 in
theorem ggL_law_L_at_wsX30 : GoodIn wsL_law wsX30 := goodIn_r _ [967, 968, 969, 970, 971] (by decide +kernel) (by decide +kernel)
set_option maxRecDepth 20000 in
theorem ggL_law_L_at_wsX40 : GoodIn wsL_law wsX40 := goodIn_r _ [1004, 1005, 1006, 1007, 1008] (by decide +kernel) (by decide +kernel)
set_option maxRecDepth 20000 in
theorem ggL_law_L_at_wsX10 : GoodIn wsL_law wsX10 := goodIn_r _ [991, 992, 993, 994, 995] (by decide +kernel) (by decide +kernel)
set_option maxRecDepth 20000 in
theorem ggL_law_L_at : GoodIn wsL_law wsL_at := goodIn_cons ggL_law_L_at_c (goodIn_app (goodIn_app (goodIn_app (goodIn_app (goodIn_app (goodIn_app (goodIn_app ggL_law_L_at_0 (ggL_law_L_at_1)) ggL_law_L_at_wsX90) ggL_law_L_at_wsX70) ggL_law_L_at_wsX30) ggL_law_L_at_wsX40) ggL_law_L_at_wsX10) (goodIn_sub (fun _ h => List.mem_append_right _ h) (by decide +kernel)))
set_option maxRecDepth 20000 in
theorem gL_law_L_at : GoodIn wsL_law (va_wsS RL 85 yL_at wsL_at) := goodIn_app (goodIn_of _ (by decide +kernel)) ggL_law_L_at
set_option maxRecDepth 20000 in
theorem ggL_law_X10_at : GoodIn wsL_law wsX10_at := goodIn_r _ [810, 207, 208, 164, 171, 174, 176, 209, 210, 5, 211, 937, 938, 939, 940, 941, 942, 943, 944, 945, 946, 947, 948, 949, 950, 951, 952, 953, 954, 955, 956, 957, 958, 959, 960] (by decide +kernel) (by decide +kernel)
set_option maxRecDepth 20000 in
theorem gL_law_X10_at : GoodIn wsL_law (wsV RL 87 RX10 yX10_at wsX10_at) := goodIn_app (goodIn_of _ (by decide +kernel)) ggL_law_X10_at
set_option maxRecDepth 20000 in
theorem ggL_law_L_reversed : GoodIn wsL_law wsL_reversed := goodIn_ca (goodIn_r _ [813, 189, 814, 815, 816, 2, 817, 16, 259, 260, 261, 194, 195, 285, 237, 238, 15, 239, 55, 818, 819, 820, 821, 58, 236, 926, 927, 928, 929, 930, 931, 932, 933, 934, 935, 936, 961, 962, 963, 964, 965, 966] (by decide +kernel) (by decide +kernel)) (goodIn_sub (fun _ h => List.mem_append_right _ h) (by decide +kernel))
set_option maxRecDepth 20000 in
theorem gL_law_L_reversed : GoodIn wsL_law (va_wsS RL 88 yL_reversed wsL_reversed) := goodIn_app (goodIn_of _ (by decide +kernel)) ggL_law_L_reversed
set_option maxRecDepth 20000 in
theorem ggL_law_X10_reversed : GoodIn wsL_law wsX10_reversed := goodIn_r _ [825, 207, 167, 170, 209, 210, 5, 211, 644, 645, 646, 647, 169, 168, 648, 649, 650, 651, 184, 937, 938, 939, 940, 941, 942, 943, 944, 945, 946, 947, 948, 949, 950, 951, 952, 953, 954, 955, 956, 957, 958, 959, 960] (by decide +kernel) (by decide +kernel)
set_option maxRecDepth 20000 in
theorem gL_law_X10_reversed : GoodIn wsL_law (wsV RL 90 RX10 yX10_reversed wsX10_reversed) := goodIn_app (goodIn_of _ (by decide +kernel)) ggL_law_X10_reversed
set_option maxRecDepth 20000 in
theorem ggL_law_X9_item : GoodIn wsL_law wsX9_item := goodIn_r _ [829, 47, 44, 830, 471, 472, 43, 473, 147, 423, 424, 425, 426, 158, 146, 926, 927, 928, 929, 930, 931, 932, 933, 934, 935, 936, 1004, 1005, 1006, 1007, 1008] (by decide +kernel) (by decide +kernel)
set_option maxRecDepth 20000 in
theorem gL_law_X9_item : GoodIn wsL_law (wsV RL 91 RX9 yX9_item wsX9_item) := goodIn_app (goodIn_of _ (by decide +kernel)) ggL_law_X9_item
set_option maxRecDepth 20000 in
theorem ggL_law_X10_item : GoodIn wsL_law wsX10_item := goodIn_r _ [834, 207, 208, 643, 172, 209, 210, 5, 211, 680, 681, 682, 683, 173, 937, 938, 939, 940, 941, 942, 943, 944, 945, 946, 947, 948, 949, 950, 951, 952, 953, 954, 955, 956, 957, 958, 959, 960] (by decide +kernel) (by decide +kernel)
set_option maxRecDepth 20000 in
theorem gL_law_X10_item : GoodIn wsL_law (wsV RL 94 RX10 yX10_item wsX10_item) := goodIn_app (goodIn_of _ (by decide +kernel)) ggL_law_X10_item
set_option maxRecDepth 20000 in
theorem ggL_law_L_piece_c : GoodIn wsL_law [.codeWith yL_piece cL_piece 6 (some .int) [(0, 12, 15, 13)]] := goodIn_r _ [837] (by decide +kernel) (by decide +kernel)
set_option maxRecDepth 20000 in
theorem ggL_law_L_piece_0 : GoodIn wsL_law wsL_piece_r1 := goodIn_r _ [189, 838, 839, 840, 2, 841, 47, 20, 36, 40, 259, 260, 261, 194, 195, 801, 802, 803, 842, 843, 844, 19, 845, 376] (by decide +kernel) (by decide +kernel)
set_option maxRecDepth 20000 in
theorem ggL_law_L_piece_1 : GoodIn wsL_law wsL_piece_r2 := goodIn_r _ [377, 378, 379, 69, 372, 373, 374, 375, 70, 846, 388, 389, 390, 71, 348, 349, 350, 15, 351, 58, 56, 55, 236, 237] (by decide +kernel) (by decide +kernel)
set_option maxRecDepth 20000 in
theorem ggL_law_L_piece_2 : GoodIn wsL_law wsL_piece_r3 := goodIn_r _ [238, 239, 344, 345, 346, 347, 847, 585, 586, 35, 587, 128, 569, 570, 571, 572, 125, 562, 563, 564, 573, 574, 575, 576] (by decide +kernel) (by decide +kernel)
set_option maxRecDepth 20000 in
theorem ggL_law_L_piece_3 : GoodIn wsL_law wsL_piece_r4 := goodIn_r _ [53, 231, 224, 225, 226, 848, 849, 850, 39, 851, 134] (by decide +kernel) (by decide +kernel)
set_option maxRecDepth 20000 in
theorem ggL_law_L_piece_wsX90 : GoodIn wsL_law wsX90 := goodIn_r _ [926, 927, 928, 929, 930, 931, 932, 933, 934, 935, 936] (by decide +kernel) (by decide +kernel)
set_option maxRecDepth 20000 in
theorem ggL_law_L_piece_wsX30 : GoodIn wsL_law wsX30 := goodIn_r _ [967, 968, 969, 970, 971] (by decide +kernel) (by decide +kernel)
set_option maxRecDepth 20000 in
theorem ggL_law_L_piece_wsX70 : GoodIn wsL_law wsX70 := goodIn_r _ [961, 962, 963, 964, 965, 966] (by decide +kernel) (by decide +kernel)
set_option maxRecDepth 20000 in
theorem ggL_law_L_piece_wsX10 : GoodIn wsL_law wsX10 := goodIn_r _ [991, 992, 993, 994, 995] (by decide +kernel) (by decide +kernel)
set_option maxRecDepth 20000 in
theorem ggL_law_L_piece_wsX80 : GoodIn wsL_law wsX80 := goodIn_r _ [996, 997, 998, 999, 1000, 1001, 1002, 1003] (by decide +kernel) (by decide +kernel)
set_option maxRecDepth 20000 in
theorem ggL_law_L_piece : GoodIn wsL_law wsL_piece := goodIn_cons ggL_law_L_piece_c (goodIn_app (goodIn_app (goodIn_app (goodIn_app (goodIn_app (goodIn_app (goodIn_app ggL_law_L_piece_0 (goodIn_app ggL_law_L_piece_1 (goodIn_app ggL_law_L_piece_2 (ggL_law_L_piece_3)))) ggL_law_L_piece_wsX90) ggL_law_L_piece_wsX30) ggL_law_L_piece_wsX70) ggL_law_L_piece_wsX10) ggL_law_L_piece_wsX80) (goodIn_sub (fun _ h => List.mem_append_right _ h) (by decide +kernel)))
set_option maxRecDepth 20000 in
theorem gL_law_L_piece : GoodIn wsL_law (va_wsS RL 95 yL_piece wsL_piece) := goodIn_app (goodIn_of _ (by decide +kernel)) ggL_law_L_piece
set_option maxRecDepth 20000 in
theorem ggL_law_X10_piece_c : GoodIn wsL_law [.code yX10_piece cX10_piece 4 (some .int)] := goodIn_r _ [855] (by decide +kernel) (by decide +kernel)
set_option maxRecDepth 20000 in
theorem ggL_law_X10_piece_0 : GoodIn wsL_law wsX10_piece_r1 := goodIn_r _ [207, 208, 209, 210, 5, 211, 692, 693, 694, 695, 167, 171, 656, 657, 658, 659, 170, 169, 168, 652, 653, 654, 655, 856] (by decide +kernel) (by decide +kernel)
set_option maxRecDepth 20000 in
theorem ggL_law_X10_piece_1 : GoodIn wsL_law wsX10_piece_r2 := goodIn_r _ [857, 858, 859, 182, 860, 861, 862, 863, 696, 697, 698, 699, 174, 175, 732, 733, 734, 735, 176, 680, 681, 682, 683, 173] (by decide +kernel) (by decide +kernel)
set_option maxRecDepth 20000 in
theorem ggL_law_X10_piece_2 : GoodIn wsL_law wsX10_piece_r3 := goodIn_r _ [724, 725, 726, 727, 165, 700, 701, 702, 703, 864, 865, 866, 867] (by decide +kernel) (by decide +kernel)
set_option maxRecDepth 20000 in
theorem ggL_law_X10_piece_wsX100 : GoodIn wsL_law wsX100 := goodIn_r _ [937, 938, 939, 940, 941, 942, 943, 944, 945, 946, 947, 948, 949, 950, 951, 952, 953, 954, 955, 956, 957, 958, 959, 960] (by decide +kernel) (by decide +kernel)
set_option maxRecDepth 20000 in
theorem ggL_law_X10_piece : GoodIn wsL_law wsX10_piece := goodIn_cons ggL_law_X10_piece_c (goodIn_app (goodIn_app ggL_law_X10_piece_0 (goodIn_app ggL_law_X10_piece_1 (ggL_law_X10_piece_2))) ggL_law_X10_piece_wsX100)
set_option maxRecDepth 20000 in
theorem gL_law_X10_piece : GoodIn wsL_law (wsV RL 98 RX10 yX10_piece wsX10_piece) := goodIn_app (goodIn_of _ (by decide +kernel)) ggL_law_X10_piece
set_option maxRecDepth 20000 in
theorem ggL_law_L_between_c : GoodIn wsL_law [.codeWith yL_between cL_between 5 (some .int) [(0, 10, 13, 13)]] := goodIn_r _ [870] (by decide +kernel) (by decide +kernel)
set_option maxRecDepth 20000 in
theorem ggL_law_L_between_0 : GoodIn wsL_law wsL_between_r1 := goodIn_r _ [189, 871, 872, 873, 2, 874, 47, 20, 28, 44, 40, 801, 802, 803, 194, 195, 875, 400, 401, 19, 402, 72, 876, 483] (by decide +kernel) (by decide +kernel)
set_option maxRecDepth 20000 in
theorem ggL_law_L_between_1 : GoodIn wsL_law wsL_between_r2 := goodIn_r _ [484, 27, 485, 87, 486, 155, 156, 157, 85, 86, 487, 449, 450, 23, 451, 77, 488, 453, 454, 455, 79, 80, 489, 412] (by decide +kernel) (by decide +kernel)
set_option maxRecDepth 20000 in
theorem ggL_law_L_between_2 : GoodIn wsL_law wsL_between_r3 := goodIn_r _ [413, 43, 414, 148, 490, 491, 492, 493, 877, 878, 879, 39, 880, 135] (by decide +kernel) (by decide +kernel)
set_option maxRecDepth 20000 in
theorem ggL_law_L_between_wsX90 : GoodIn wsL_law wsX90 := goodIn_r _ [926, 927, 928, 929, 930, 931, 932, 933, 934, 935, 936] (by decide +kernel) (by decide +kernel)
set_option maxRecDepth 20000 in
theorem ggL_law_L_between_wsX30 : GoodIn wsL_law wsX30 := goodIn_r _ [967, 968, 969, 970, 971] (by decide +kernel) (by decide +kernel)
set_option maxRecDepth 20000 in
theorem ggL_law_L_between_wsX20 : GoodIn wsL_law wsX20 := goodIn_r _ [976, 977, 978] (by decide +kernel) (by decide +kernel)
set_option maxRecDepth 20000 in
theorem ggL_law_L_between_wsX60 : GoodIn wsL_law wsX60 := goodIn_r _ [972, 973, 974, 975] (by decide +kernel) (by decide +kernel)
set_option maxRecDepth 20000 in
theorem ggL_law_L_between_wsX40 : GoodIn wsL_law wsX40 := goodIn_r _ [1004, 1005, 1006, 1007, 1008] (by decide +kernel) (by decide +kernel)
set_option maxRecDepth 20000 in
theorem ggL_law_L_between_wsX80 : GoodIn wsL_law wsX80 := goodIn_r _ [996, 997, 998, 999, 1000, 1001, 1002, 1003] (by decide +kernel) (by decide +kernel)
set_option maxRecDepth 20000 in
theorem ggL_law_L_between : GoodIn wsL_law wsL_between := goodIn_cons ggL_law_L_between_c (goodIn_app (goodIn_app (goodIn_app (goodIn_app (goodIn_app (goodIn_app (goodIn_app (goodIn_app ggL_law_L_between_0 (goodIn_app ggL_law_L_between_1 (ggL_law_L_between_2))) ggL_law_L_between_wsX90) ggL_law_L_between_wsX30) ggL_law_L_between_wsX20) ggL_law_L_between_wsX60) ggL_law_L_between_wsX40) ggL_law_L_between_wsX80) (goodIn_sub (fun _ h => List.mem_append_right _ h) (by decide +kernel)))
set_option maxRecDepth 20000 in
theorem gL_law_L_between : GoodIn wsL_law (va_wsS RL 99 yL_between wsL_between) := goodIn_app (goodIn_of _ (by decide +kernel)) ggL_law_L_between
set_option maxRecDepth 20000 in
theorem ggL_law_X10_between_c : GoodIn wsL_law [.code yX10_between cX10_between 3 (some .int)] := goodIn_r _ [884] (by decide +kernel) (by decide +kernel)
set_option maxRecDepth 20000 in
theorem ggL_law_X10_between_0 : GoodIn wsL_law wsX10_between_r1 := goodIn_r _ [207, 208, 643, 209, 210, 5, 211, 688, 689, 690, 691, 692, 693, 694, 695, 167, 171, 656, 657, 658, 659, 170, 169, 168] (by decide +kernel) (by decide +kernel)
set_option maxRecDepth 20000 in
theorem ggL_law_X10_between_1 : GoodIn wsL_law wsX10_between_r2 := goodIn_r _ [652, 653, 654, 655, 696, 697, 698, 699, 174, 175, 700, 701, 702, 703, 856, 857, 858, 859, 182, 860, 861, 862, 863, 732] (by decide +kernel) (by decide +kernel)
set_option maxRecDepth 20000 in
theorem ggL_law_X10_between_2 : GoodIn wsL_law wsX10_between_r3 := goodIn_r _ [733, 734, 735, 176, 680, 681, 682, 683, 173, 724, 725, 726, 727, 165, 864, 865, 866, 867] (by decide +kernel) (by decide +kernel)
set_option maxRecDepth 20000 in
theorem ggL_law_X10_between_wsX100 : GoodIn wsL_law wsX100 := goodIn_r _ [937, 938, 939, 940, 941, 942, 943, 944, 945, 946, 947, 948, 949, 950, 951, 952, 953, 954, 955, 956, 957, 958, 959, 960] (by decide +kernel) (by decide +kernel)
set_option maxRecDepth 20000 in
theorem ggL_law_X10_between : GoodIn wsL_law wsX10_between := goodIn_cons ggL_law_X10_between_c (goodIn_app (goodIn_app ggL_law_X10_between_0 (goodIn_app ggL_law_X10_between_1 (ggL_law_X10_between_2))) ggL_law_X10_between_wsX100)
set_option maxRecDepth 20000 in
theorem gL_law_X10_between : GoodIn wsL_law (wsV RL 101 RX10 yX10_between wsX10_between) := goodIn_app (goodIn_of _ (by decide +kernel)) ggL_law_X10_between
set_option maxRecDepth 20000 in
theorem ggL_law_X9_count_c : GoodIn wsL_law [.code yX9_count cX9_count 2 (some .int)] := goodIn_r _ [888] (by decide +kernel) (by decide +kernel)
set_option maxRecDepth 20000 in
theorem ggL_law_X9_count_0 : GoodIn wsL_law wsX9_count_r1 := goodIn_r _ [16, 47, 889, 890, 891, 15, 892, 231, 224, 225, 226, 53, 893, 894, 895, 896, 236, 237, 238, 239, 55, 897, 898, 899] (by decide +kernel) (by decide +kernel)
set_option maxRecDepth 20000 in
theorem ggL_law_X9_count_1 : GoodIn wsL_law wsX9_count_r2 := goodIn_r _ [900, 901, 819, 820, 821, 58, 902, 903, 904, 2, 905, 20, 44, 28, 36, 40, 875, 400, 401, 19, 402, 72, 906, 907] (by decide +kernel) (by decide +kernel)
set_option maxRecDepth 20000 in
theorem ggL_law_X9_count_2 : GoodIn wsL_law wsX9_count_r3 := goodIn_r _ [908, 43, 909, 158, 423, 424, 425, 426, 146, 752, 753, 754, 27, 755, 756, 436, 437, 438, 482, 483, 484, 485, 87, 486] (by decide +kernel) (by decide +kernel)
set_option maxRecDepth 20000 in
theorem ggL_law_X9_count_3 : GoodIn wsL_law wsX9_count_r4 := goodIn_r _ [155, 156, 157, 85, 86, 487, 449, 450, 23, 451, 77, 488, 453, 454, 455, 79, 80, 489, 412, 413, 414, 148, 490, 491] (by decide +kernel) (by decide +kernel)
set_option maxRecDepth 20000 in
theorem ggL_law_X9_count_4 : GoodIn wsL_law wsX9_count_r5 := goodIn_r _ [492, 493, 910, 911, 912, 35, 913, 593, 361, 362, 551, 556, 557, 471, 472, 473, 147, 565, 566, 567, 568, 128, 569, 570] (by decide +kernel) (by decide +kernel)
set_option maxRecDepth 20000 in
theorem ggL_law_X9_count_5 : GoodIn wsL_law wsX9_count_r6 := goodIn_r _ [571, 572, 125, 562, 563, 564, 573, 574, 575, 576, 914, 915, 916, 39, 917, 135, 619] (by decide +kernel) (by decide +kernel)
set_option maxRecDepth 20000 in
theorem ggL_law_X9_count_wsX90 : GoodIn wsL_law wsX90 := goodIn_r _ [926, 927, 928, 929, 930, 931, 932, 933, 934, 935, 936] (by decide +kernel) (by decide +kernel)
set_option maxRecDepth 20000 in
theorem ggL_law_X9_count_wsX70 : GoodIn wsL_law wsX70 := goodIn_r _ [961, 962, 963, 964, 965, 966] (by decide +kernel) (by decide +kernel)
set_option maxRecDepth 20000 in
theorem ggL_law_X9_count_wsX30 : GoodIn wsL_law wsX30 := goodIn_r _ [967, 968, 969, 970, 971] (by decide +kernel) (by decide +kernel)
set_option maxRecDepth 20000 in
theorem ggL_law_X9_count_wsX40 : GoodIn wsL_law wsX40 := goodIn_r _ [1004, 1005, 1006, 1007, 1008] (by decide +kernel) (by decide +kernel)
set_option maxRecDepth 20000 in
theorem ggL_law_X9_count_wsX20 : GoodIn wsL_law wsX20 := goodIn_r _ [976, 977, 978] (by decide +kernel) (by decide +kernel)
set_option maxRecDepth 20000 in
theorem ggL_law_X9_count_wsX60 : GoodIn wsL_law wsX60 := goodIn_r _ [972, 973, 974, 975] (by decide +kernel) (by decide +kernel)
set_option maxRecDepth 20000 in
theorem ggL_law_X9_count_wsX10 : GoodIn wsL_law wsX10 := goodIn_r _ [991, 992, 993, 994, 995] (by decide +kernel) (by decide +kernel)
set_option maxRecDepth 20000 in
theorem ggL_law_X9_count_wsX80 : GoodIn wsL_law wsX80 := goodIn_r _ [996, 997, 998, 999, 1000, 1001, 1002, 1003] (by decide +kernel) (by decide +kernel)
set_option maxRecDepth 20000 in
theorem ggL_law_X9_count : GoodIn wsL_law wsX9_count := goodIn_cons ggL_law_X9_count_c (goodIn_app (goodIn_app (goodIn_app (goodIn_app (goodIn_app (goodIn_app (goodIn_app (goodIn_app (goodIn_app ggL_law_X9_count_0 (goodIn_app ggL_law_X9_count_1 (goodIn_app ggL_law_X9_count_2 (goodIn_app ggL_law_X9_count_3 (goodIn_app ggL_law_X9_count_4 (ggL_law_X9_count_5)))))) ggL_law_X9_count_wsX90) ggL_law_X9_count_wsX70) ggL_law_X9_count_wsX30) ggL_law_X9_count_wsX40) ggL_law_X9_count_wsX20) ggL_law_X9_count_wsX60) ggL_law_X9_count_wsX10) ggL_law_X9_count_wsX80)
set_option maxRecDepth 20000 in
theorem gL_law_X9_count : GoodIn wsL_law (wsV RL 102 RX9 yX9_count wsX9_count) := goodIn_app (goodIn_of _ (by decide +kernel)) ggL_law_X9_count
set_option maxRecDepth 20000 in
theorem ggL_law_X10_count_c : GoodIn wsL_law [.code yX10_count cX10_count 4 (some .int)] := goodIn_r _ [921] (by decide +kernel) (by decide +kernel)
set_option maxRecDepth 20000 in
theorem ggL_law_X10_count_0 : GoodIn wsL_law wsX10_count_r1 := goodIn_r _ [207, 164, 167, 170, 208, 644, 645, 646, 5, 647, 169, 168, 648, 649, 650, 651, 184, 209, 210, 211, 922, 923, 924, 925] (by decide +kernel) (by decide +kernel)
set_option maxRecDepth 20000 in
theorem ggL_law_X10_count_1 : GoodIn wsL_law wsX10_count_r2 := goodIn_r _ [643, 172, 176, 688, 689, 690, 691, 692, 693, 694, 695, 171, 656, 657, 658, 659, 652, 653, 654, 655, 696, 697, 698, 699] (by decide +kernel) (by decide +kernel)
set_option maxRecDepth 20000 in
theorem ggL_law_X10_count_2 : GoodIn wsL_law wsX10_count_r3 := goodIn_r _ [174, 175, 700, 701, 702, 703, 680, 681, 682, 683, 173, 724, 725, 726, 727, 165, 856, 857, 858, 859, 182, 860, 861, 862] (by decide +kernel) (by decide +kernel)
set_option maxRecDepth 20000 in
theorem ggL_law_X10_count_3 : GoodIn wsL_law wsX10_count_r4 := goodIn_r _ [863, 732, 733, 734, 735, 864, 865, 866, 867] (by decide +kernel) (by decide +kernel)
set_option maxRecDepth 20000 in
theorem ggL_law_X10_count_wsX100 : GoodIn wsL_law wsX100 := goodIn_r _ [937, 938, 939, 940, 941, 942, 943, 944, 945, 946, 947, 948, 949, 950, 951, 952, 953, 954, 955, 956, 957, 958, 959, 960] (by decide +kernel) (by decide +kernel)
set_option maxRecDepth 20000 in
theorem ggL_law_X10_count : GoodIn wsL_law wsX10_count := goodIn_cons ggL_law_X10_count_c (goodIn_app (goodIn_app ggL_law_X10_count_0 (goodIn_app ggL_law_X10_count_1 (goodIn_app ggL_law_X10_count_2 (ggL_law_X10_count_3)))) ggL_law_X10_count_wsX100)
set_option maxRecDepth 20000 in
theorem gL_law_X10_count : GoodIn wsL_law (wsV RL 105 RX10 yX10_count wsX10_count) := goodIn_app (goodIn_of _ (by decide +kernel)) ggL_law_X10_count
