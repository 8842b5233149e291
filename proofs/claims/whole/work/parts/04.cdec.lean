theorem dX9_toldSum_40 : decode cX9_toldSum 40 = .ok (.invokevirtual 201, 3) := by decide +kernel
theorem dX9_toldSum_43 : decode cX9_toldSum 43 = .ok (.ireturn, 1) := by decide +kernel
theorem dX9_toldSum_44 : decode cX9_toldSum 44 = .ok (.aload_n 0, 1) := by decide +kernel
theorem dX9_toldSum_45 : decode cX9_toldSum 45 = .ok (.getfield 71, 3) := by decide +kernel
theorem dX9_toldSum_48 : decode cX9_toldSum 48 = .ok (.invokevirtual 224, 3) := by decide +kernel
theorem dX9_toldSum_51 : decode cX9_toldSum 51 = .ok (.ireturn, 1) := by decide +kernel
theorem dX9_toldSum_52 : decode cX9_toldSum 52 = .ok (.aload_n 0, 1) := by decide +kernel
theorem dX9_toldSum_53 : decode cX9_toldSum 53 = .ok (.getfield 37, 3) := by decide +kernel
theorem dX9_toldSum_56 : decode cX9_toldSum 56 = .ok (.aload_n 0, 1) := by decide +kernel
theorem dX9_toldSum_57 : decode cX9_toldSum 57 = .ok (.getfield 71, 3) := by decide +kernel
theorem dX9_toldSum_60 : decode cX9_toldSum 60 = .ok (.invokevirtual 158, 3) := by decide +kernel
theorem dX9_toldSum_63 : decode cX9_toldSum 63 = .ok (.ireturn, 1) := by decide +kernel
theorem dX9_toldSum_64 : decode cX9_toldSum 64 = .ok (.aload_n 0, 1) := by decide +kernel
theorem dX9_toldSum_65 : decode cX9_toldSum 65 = .ok (.getfield 55, 3) := by decide +kernel
theorem dX9_toldSum_68 : decode cX9_toldSum 68 = .ok (.aload_n 0, 1) := by decide +kernel
theorem dX9_toldSum_69 : decode cX9_toldSum 69 = .ok (.getfield 71, 3) := by decide +kernel
theorem dX9_toldSum_72 : decode cX9_toldSum 72 = .ok (.invokevirtual 227, 3) := by decide +kernel
theorem dX9_toldSum_75 : decode cX9_toldSum 75 = .ok (.ireturn, 1) := by decide +kernel
theorem dX9_toldSum_76 : decode cX9_toldSum 76 = .ok (.aload_n 0, 1) := by decide +kernel
theorem dX9_toldSum_77 : decode cX9_toldSum 77 = .ok (.getfield 64, 3) := by decide +kernel
theorem dX9_toldSum_80 : decode cX9_toldSum 80 = .ok (.invokevirtual 230, 3) := by decide +kernel
theorem dX9_toldSum_83 : decode cX9_toldSum 83 = .ok (.ireturn, 1) := by decide +kernel
theorem dX9_toldSum_84 : decode cX9_toldSum 84 = .ok (.iconst (-1), 1) := by decide +kernel
theorem dX9_toldSum_85 : decode cX9_toldSum 85 = .ok (.ireturn, 1) := by decide +kernel
theorem dX9_needBoxNumber_0 : decode cX9_needBoxNumber 0 = .ok (.iload_n 0, 1) := by decide +kernel
theorem dX9_needBoxNumber_1 : decode cX9_needBoxNumber 1 = .ok (.ifCond .lt 9, 3) := by decide +kernel
theorem dX9_needBoxNumber_4 : decode cX9_needBoxNumber 4 = .ok (.iload_n 0, 1) := by decide +kernel
theorem dX9_needBoxNumber_5 : decode cX9_needBoxNumber 5 = .ok (.bipush 16, 2) := by decide +kernel
theorem dX9_needBoxNumber_7 : decode cX9_needBoxNumber 7 = .ok (.if_icmp .lt 13, 3) := by decide +kernel
theorem dX9_needBoxNumber_10 : decode cX9_needBoxNumber 10 = .ok (.new 89, 3) := by decide +kernel
theorem dX9_needBoxNumber_13 : decode cX9_needBoxNumber 13 = .ok (.dup, 1) := by decide +kernel
theorem dX9_needBoxNumber_14 : decode cX9_needBoxNumber 14 = .ok (.ldc 233, 2) := by decide +kernel
theorem dX9_needBoxNumber_16 : decode cX9_needBoxNumber 16 = .ok (.invokespecial 93, 3) := by decide +kernel
theorem dX9_needBoxNumber_19 : decode cX9_needBoxNumber 19 = .ok (.athrow, 1) := by decide +kernel
theorem dX9_needBoxNumber_20 : decode cX9_needBoxNumber 20 = .ok (.return_, 1) := by decide +kernel
theorem dX9_needArrowNumber_0 : decode cX9_needArrowNumber 0 = .ok (.iload_n 0, 1) := by decide +kernel
theorem dX9_needArrowNumber_1 : decode cX9_needArrowNumber 1 = .ok (.ifCond .lt 9, 3) := by decide +kernel
theorem dX9_needArrowNumber_4 : decode cX9_needArrowNumber 4 = .ok (.iload_n 0, 1) := by decide +kernel
theorem dX9_needArrowNumber_5 : decode cX9_needArrowNumber 5 = .ok (.bipush 24, 2) := by decide +kernel
theorem dX9_needArrowNumber_7 : decode cX9_needArrowNumber 7 = .ok (.if_icmp .lt 13, 3) := by decide +kernel
theorem dX9_needArrowNumber_10 : decode cX9_needArrowNumber 10 = .ok (.new 89, 3) := by decide +kernel
theorem dX9_needArrowNumber_13 : decode cX9_needArrowNumber 13 = .ok (.dup, 1) := by decide +kernel
theorem dX9_needArrowNumber_14 : decode cX9_needArrowNumber 14 = .ok (.ldc 235, 2) := by decide +kernel
theorem dX9_needArrowNumber_16 : decode cX9_needArrowNumber 16 = .ok (.invokespecial 93, 3) := by decide +kernel
theorem dX9_needArrowNumber_19 : decode cX9_needArrowNumber 19 = .ok (.athrow, 1) := by decide +kernel
theorem dX9_needArrowNumber_20 : decode cX9_needArrowNumber 20 = .ok (.return_, 1) := by decide +kernel
set_option maxRecDepth 20000 in
theorem ggX9_needBox_X7_hasBox : GoodIn wsX9_needBox wsX7_hasBox := goodIn_r _ [8, 9, 21, 22, 23, 24, 25, 26] (by decide +kernel) (by decide +kernel)
set_option maxRecDepth 20000 in
theorem gX9_needBox_X7_hasBox : GoodIn wsX9_needBox (wsV RX9 100 RX7 yX7_hasBox wsX7_hasBox) := goodIn_app (goodIn_of _ (by decide +kernel)) ggX9_needBox_X7_hasBox
theorem dX9_needBox_0 : decode cX9_needBox 0 = .ok (.aload_n 0, 1) := by decide +kernel
theorem dX9_needBox_1 : decode cX9_needBox 1 = .ok (.getfield 12, 3) := by decide +kernel
theorem dX9_needBox_4 : decode cX9_needBox 4 = .ok (.iload_n 1, 1) := by decide +kernel
theorem dX9_needBox_5 : decode cX9_needBox 5 = .ok (.invokevirtual 100, 3) := by decide +kernel
theorem dX9_needBox_8 : decode cX9_needBox 8 = .ok (.ifCond .ne 13, 3) := by decide +kernel
theorem dX9_needBox_11 : decode cX9_needBox 11 = .ok (.new 89, 3) := by decide +kernel
theorem dX9_needBox_14 : decode cX9_needBox 14 = .ok (.dup, 1) := by decide +kernel
theorem dX9_needBox_15 : decode cX9_needBox 15 = .ok (.ldc 237, 2) := by decide +kernel
theorem dX9_needBox_17 : decode cX9_needBox 17 = .ok (.invokespecial 93, 3) := by decide +kernel
theorem dX9_needBox_20 : decode cX9_needBox 20 = .ok (.athrow, 1) := by decide +kernel
theorem dX9_needBox_21 : decode cX9_needBox 21 = .ok (.return_, 1) := by decide +kernel
theorem dX9_needRounds_0 : decode cX9_needRounds 0 = .ok (.iload_n 0, 1) := by decide +kernel
theorem dX9_needRounds_1 : decode cX9_needRounds 1 = .ok (.ifCond .lt 8, 3) := by decide +kernel
theorem dX9_needRounds_4 : decode cX9_needRounds 4 = .ok (.iload_n 0, 1) := by decide +kernel
theorem dX9_needRounds_5 : decode cX9_needRounds 5 = .ok (.iconst 4, 1) := by decide +kernel
theorem dX9_needRounds_6 : decode cX9_needRounds 6 = .ok (.if_icmp .le 13, 3) := by decide +kernel
theorem dX9_needRounds_9 : decode cX9_needRounds 9 = .ok (.new 89, 3) := by decide +kernel
theorem dX9_needRounds_12 : decode cX9_needRounds 12 = .ok (.dup, 1) := by decide +kernel
theorem dX9_needRounds_13 : decode cX9_needRounds 13 = .ok (.ldc 239, 2) := by decide +kernel
theorem dX9_needRounds_15 : decode cX9_needRounds 15 = .ok (.invokespecial 93, 3) := by decide +kernel
theorem dX9_needRounds_18 : decode cX9_needRounds 18 = .ok (.athrow, 1) := by decide +kernel
theorem dX9_needRounds_19 : decode cX9_needRounds 19 = .ok (.return_, 1) := by decide +kernel
theorem dX9_needWhat_0 : decode cX9_needWhat 0 = .ok (.iload_n 0, 1) := by decide +kernel
theorem dX9_needWhat_1 : decode cX9_needWhat 1 = .ok (.ifCond .lt 8, 3) := by decide +kernel
theorem dX9_needWhat_4 : decode cX9_needWhat 4 = .ok (.iload_n 0, 1) := by decide +kernel
theorem dX9_needWhat_5 : decode cX9_needWhat 5 = .ok (.iload_n 1, 1) := by decide +kernel
theorem dX9_needWhat_6 : decode cX9_needWhat 6 = .ok (.if_icmp .le 13, 3) := by decide +kernel
theorem dX9_needWhat_9 : decode cX9_needWhat 9 = .ok (.new 89, 3) := by decide +kernel
theorem dX9_needWhat_12 : decode cX9_needWhat 12 = .ok (.dup, 1) := by decide +kernel
theorem dX9_needWhat_13 : decode cX9_needWhat 13 = .ok (.ldc 241, 2) := by decide +kernel
theorem dX9_needWhat_15 : decode cX9_needWhat 15 = .ok (.invokespecial 93, 3) := by decide +kernel
theorem dX9_needWhat_18 : decode cX9_needWhat 18 = .ok (.athrow, 1) := by decide +kernel
theorem dX9_needWhat_19 : decode cX9_needWhat 19 = .ok (.return_, 1) := by decide +kernel
set_option maxRecDepth 20000 in
theorem ggX9_prepare_X3_settle : GoodIn wsX9_prepare wsX3_settle := goodIn_r _ [8, 9, 10, 11, 7, 12, 13, 14, 15, 16, 17, 18, 19, 20, 21, 22, 23, 24, 25, 26, 27, 28, 29, 30, 31, 32, 33, 34, 35, 36, 37, 38, 39, 40, 41, 42, 43, 44, 45, 46, 47, 48, 49, 50, 51, 52, 53, 54, 55, 56, 57, 58, 59, 60, 61, 62, 63, 64, 65, 66, 67, 68, 69, 70, 71, 72, 73, 74, 75, 76, 77, 78, 79, 80, 81, 116, 117, 118, 119, 120, 121, 122, 123, 124, 125, 126] (by decide +kernel) (by decide +kernel)
set_option maxRecDepth 20000 in
theorem gX9_prepare_X3_settle : GoodIn wsX9_prepare (wsV RX9 243 RX3 yX3_settle wsX3_settle) := goodIn_app (goodIn_of _ (by decide +kernel)) ggX9_prepare_X3_settle
set_option maxRecDepth 20000 in
theorem ggX9_prepare_X6_collect : GoodIn wsX9_prepare wsX6_collect := goodIn_r _ [86, 87, 88, 89, 90, 91, 92, 79, 80, 7, 81, 67, 93, 75, 76, 77, 68, 94, 95, 96, 97, 13, 78, 46, 47, 48, 18, 49, 39, 41, 40, 42, 43, 44, 45, 74, 35, 36, 37, 38, 98, 99, 100, 85, 101, 102, 103, 104, 127, 128, 129, 130, 116, 117, 118, 119, 120, 121, 122, 123, 124, 125, 126] (by decide +kernel) (by decide +kernel)
set_option maxRecDepth 20000 in
theorem gX9_prepare_X6_collect : GoodIn wsX9_prepare (wsV RX9 246 RX6 yX6_collect wsX6_collect) := goodIn_app (goodIn_of _ (by decide +kernel)) ggX9_prepare_X6_collect
theorem dX9_prepare_0 : decode cX9_prepare 0 = .ok (.aload_n 0, 1) := by decide +kernel
theorem dX9_prepare_1 : decode cX9_prepare 1 = .ok (.iconst 0, 1) := by decide +kernel
theorem dX9_prepare_2 : decode cX9_prepare 2 = .ok (.putfield 81, 3) := by decide +kernel
theorem dX9_prepare_5 : decode cX9_prepare 5 = .ok (.aload_n 0, 1) := by decide +kernel
theorem dX9_prepare_6 : decode cX9_prepare 6 = .ok (.getfield 21, 3) := by decide +kernel
theorem dX9_prepare_9 : decode cX9_prepare 9 = .ok (.invokevirtual 243, 3) := by decide +kernel
theorem dX9_prepare_12 : decode cX9_prepare 12 = .ok (.ifCond .ne 5, 3) := by decide +kernel
theorem dX9_prepare_15 : decode cX9_prepare 15 = .ok (.iconst 0, 1) := by decide +kernel
theorem dX9_prepare_16 : decode cX9_prepare 16 = .ok (.ireturn, 1) := by decide +kernel
theorem dX9_prepare_17 : decode cX9_prepare 17 = .ok (.aload_n 0, 1) := by decide +kernel
theorem dX9_prepare_18 : decode cX9_prepare 18 = .ok (.getfield 28, 3) := by decide +kernel
theorem dX9_prepare_21 : decode cX9_prepare 21 = .ok (.aload_n 0, 1) := by decide +kernel
theorem dX9_prepare_22 : decode cX9_prepare 22 = .ok (.getfield 21, 3) := by decide +kernel
theorem dX9_prepare_25 : decode cX9_prepare 25 = .ok (.invokevirtual 246, 3) := by decide +kernel
theorem dX9_prepare_28 : decode cX9_prepare 28 = .ok (.iconst 1, 1) := by decide +kernel
theorem dX9_prepare_29 : decode cX9_prepare 29 = .ok (.ireturn, 1) := by decide +kernel
theorem dX9_takeFresh_0 : decode cX9_takeFresh 0 = .ok (.aload_n 0, 1) := by decide +kernel
theorem dX9_takeFresh_1 : decode cX9_takeFresh 1 = .ok (.getfield 71, 3) := by decide +kernel
theorem dX9_takeFresh_4 : decode cX9_takeFresh 4 = .ok (.astore_n 1, 1) := by decide +kernel
theorem dX9_takeFresh_5 : decode cX9_takeFresh 5 = .ok (.aload_n 0, 1) := by decide +kernel
theorem dX9_takeFresh_6 : decode cX9_takeFresh 6 = .ok (.aload_n 0, 1) := by decide +kernel
theorem dX9_takeFresh_7 : decode cX9_takeFresh 7 = .ok (.getfield 75, 3) := by decide +kernel
theorem dX9_takeFresh_10 : decode cX9_takeFresh 10 = .ok (.putfield 71, 3) := by decide +kernel
theorem dX9_takeFresh_13 : decode cX9_takeFresh 13 = .ok (.aload_n 0, 1) := by decide +kernel
theorem dX9_takeFresh_14 : decode cX9_takeFresh 14 = .ok (.aload_n 1, 1) := by decide +kernel
theorem dX9_takeFresh_15 : decode cX9_takeFresh 15 = .ok (.putfield 75, 3) := by decide +kernel
theorem dX9_takeFresh_18 : decode cX9_takeFresh 18 = .ok (.return_, 1) := by decide +kernel
theorem dX9_takeKept_0 : decode cX9_takeKept 0 = .ok (.aload_n 0, 1) := by decide +kernel
theorem dX9_takeKept_1 : decode cX9_takeKept 1 = .ok (.getfield 71, 3) := by decide +kernel
theorem dX9_takeKept_4 : decode cX9_takeKept 4 = .ok (.astore_n 1, 1) := by decide +kernel
theorem dX9_takeKept_5 : decode cX9_takeKept 5 = .ok (.aload_n 0, 1) := by decide +kernel
theorem dX9_takeKept_6 : decode cX9_takeKept 6 = .ok (.aload_n 0, 1) := by decide +kernel
theorem dX9_takeKept_7 : decode cX9_takeKept 7 = .ok (.getfield 78, 3) := by decide +kernel
theorem dX9_takeKept_10 : decode cX9_takeKept 10 = .ok (.putfield 71, 3) := by decide +kernel
theorem dX9_takeKept_13 : decode cX9_takeKept 13 = .ok (.aload_n 0, 1) := by decide +kernel
theorem dX9_takeKept_14 : decode cX9_takeKept 14 = .ok (.aload_n 1, 1) := by decide +kernel
theorem dX9_takeKept_15 : decode cX9_takeKept 15 = .ok (.putfield 78, 3) := by decide +kernel
theorem dX9_takeKept_18 : decode cX9_takeKept 18 = .ok (.return_, 1) := by decide +kernel
set_option maxRecDepth 20000 in
theorem ggX9_finish_X1_lay : GoodIn wsX9_finish wsX1_lay := goodIn_r _ [9, 10, 11, 12, 13, 14, 15, 16, 17, 18, 8, 19, 20, 21, 22, 23, 24, 25, 26, 27, 28, 29, 30, 31, 32, 33, 34, 35, 36, 37, 38, 39, 40, 41, 42, 43, 44, 45, 46, 47, 48, 49, 50, 51, 52, 53, 54, 55, 56, 57, 58, 59, 60, 61, 62, 63, 64, 65, 66, 67, 68, 69, 70, 71, 72, 73, 74, 75, 76, 77, 78, 79, 80, 81, 82, 83, 84, 85, 86, 87, 88, 89, 90, 91, 92, 93, 94, 95, 96, 97, 98, 99, 100, 101, 102, 103, 104, 105, 106, 107, 108, 109, 158, 159, 160, 161, 162, 163, 164, 165, 166, 167, 168, 169, 170, 171, 172, 173, 174, 175, 176, 177] (by decide +kernel) (by decide +kernel)
set_option maxRecDepth 20000 in
theorem gX9_finish_X1_lay : GoodIn wsX9_finish (wsV RX9 249 RX1 yX1_lay wsX1_lay) := goodIn_app (goodIn_of _ (by decide +kernel)) ggX9_finish_X1_lay
set_option maxRecDepth 20000 in
theorem ggX9_finish_X8_share : GoodIn wsX9_finish wsX8_share := goodIn_r _ [114, 115, 116, 117, 66, 67, 68, 118, 11, 12, 13, 14, 15, 119, 120, 121, 113, 122, 123, 124, 104, 92, 105, 125, 126, 127, 128, 91, 93, 129, 130, 70, 71, 72, 73, 74, 131, 76, 77, 78, 79, 80, 132, 82, 83, 8, 84, 43, 44, 45, 46, 47, 35, 36, 37, 38, 48, 49, 50, 51, 52, 53, 54, 55, 56, 57, 133, 134, 135, 136, 137, 138, 139, 140, 141, 142, 143, 144, 145, 146, 178, 179, 180, 181, 182, 183, 184, 185, 158, 159, 160, 161, 162, 174, 175, 176, 177, 163, 164, 165, 166, 167, 168, 169, 170, 171, 172, 173] (by decide +kernel) (by decide +kernel)
set_option maxRecDepth 20000 in
theorem gX9_finish_X8_share : GoodIn wsX9_finish (wsV RX9 253 RX8 yX8_share wsX8_share) := goodIn_app (goodIn_of _ (by decide +kernel)) ggX9_finish_X8_share
theorem dX9_finish_0 : decode cX9_finish 0 = .ok (.aload_n 0, 1) := by decide +kernel
theorem dX9_finish_1 : decode cX9_finish 1 = .ok (.getfield 55, 3) := by decide +kernel
theorem dX9_finish_4 : decode cX9_finish 4 = .ok (.aload_n 0, 1) := by decide +kernel
theorem dX9_finish_5 : decode cX9_finish 5 = .ok (.getfield 71, 3) := by decide +kernel
theorem dX9_finish_8 : decode cX9_finish 8 = .ok (.invokevirtual 249, 3) := by decide +kernel
theorem dX9_finish_11 : decode cX9_finish 11 = .ok (.aload_n 0, 1) := by decide +kernel
theorem dX9_finish_12 : decode cX9_finish 12 = .ok (.getfield 64, 3) := by decide +kernel
theorem dX9_finish_15 : decode cX9_finish 15 = .ok (.aload_n 0, 1) := by decide +kernel
theorem dX9_finish_16 : decode cX9_finish 16 = .ok (.getfield 71, 3) := by decide +kernel
theorem dX9_finish_19 : decode cX9_finish 19 = .ok (.invokevirtual 253, 3) := by decide +kernel
theorem dX9_finish_22 : decode cX9_finish 22 = .ok (.aload_n 0, 1) := by decide +kernel
theorem dX9_finish_23 : decode cX9_finish 23 = .ok (.iconst 1, 1) := by decide +kernel
theorem dX9_finish_24 : decode cX9_finish 24 = .ok (.putfield 81, 3) := by decide +kernel
theorem dX9_finish_27 : decode cX9_finish 27 = .ok (.return_, 1) := by decide +kernel
set_option maxRecDepth 20000 in
theorem ggX9_movedBoxes_X7_hasBox : GoodIn wsX9_movedBoxes wsX7_hasBox := goodIn_r _ [7, 8, 39, 40, 41, 42, 43, 44] (by decide +kernel) (by decide +kernel)
set_option maxRecDepth 20000 in
theorem gX9_movedBoxes_X7_hasBox : GoodIn wsX9_movedBoxes (wsV RX9 100 RX7 yX7_hasBox wsX7_hasBox) := goodIn_app (goodIn_of _ (by decide +kernel)) ggX9_movedBoxes_X7_hasBox
set_option maxRecDepth 20000 in
theorem ggX9_movedBoxes_X4_holdsBox : GoodIn wsX9_movedBoxes wsX4_holdsBox := goodIn_r _ [13, 14, 15, 16, 12, 17, 18, 45, 46, 47, 48, 49] (by decide +kernel) (by decide +kernel)
set_option maxRecDepth 20000 in
theorem gX9_movedBoxes_X4_holdsBox : GoodIn wsX9_movedBoxes (wsV RX9 256 RX4 yX4_holdsBox wsX4_holdsBox) := goodIn_app (goodIn_of _ (by decide +kernel)) ggX9_movedBoxes_X4_holdsBox
set_option maxRecDepth 20000 in
theorem ggX9_movedBoxes_X4_sameSpot : GoodIn wsX9_movedBoxes wsX4_sameSpot := goodIn_r _ [22, 14, 15, 16, 12, 17, 18, 23, 24, 25, 26, 27, 45, 46, 47, 48, 49] (by decide +kernel) (by decide +kernel)
set_option maxRecDepth 20000 in
theorem gX9_movedBoxes_X4_sameSpot : GoodIn wsX9_movedBoxes (wsV RX9 259 RX4 yX4_sameSpot wsX4_sameSpot) := goodIn_app (goodIn_of _ (by decide +kernel)) ggX9_movedBoxes_X4_sameSpot
theorem dX9_movedBoxes_0 : decode cX9_movedBoxes 0 = .ok (.iconst 0, 1) := by decide +kernel
theorem dX9_movedBoxes_1 : decode cX9_movedBoxes 1 = .ok (.istore_n 2, 1) := by decide +kernel
theorem dX9_movedBoxes_2 : decode cX9_movedBoxes 2 = .ok (.iconst 0, 1) := by decide +kernel
theorem dX9_movedBoxes_3 : decode cX9_movedBoxes 3 = .ok (.istore_n 3, 1) := by decide +kernel
theorem dX9_movedBoxes_4 : decode cX9_movedBoxes 4 = .ok (.iload_n 3, 1) := by decide +kernel
theorem dX9_movedBoxes_5 : decode cX9_movedBoxes 5 = .ok (.bipush 16, 2) := by decide +kernel
theorem dX9_movedBoxes_7 : decode cX9_movedBoxes 7 = .ok (.if_icmp .ge 46, 3) := by decide +kernel
theorem dX9_movedBoxes_10 : decode cX9_movedBoxes 10 = .ok (.aload_n 0, 1) := by decide +kernel
theorem dX9_movedBoxes_11 : decode cX9_movedBoxes 11 = .ok (.getfield 12, 3) := by decide +kernel
theorem dX9_movedBoxes_14 : decode cX9_movedBoxes 14 = .ok (.iload_n 3, 1) := by decide +kernel
theorem dX9_movedBoxes_15 : decode cX9_movedBoxes 15 = .ok (.invokevirtual 100, 3) := by decide +kernel
theorem dX9_movedBoxes_18 : decode cX9_movedBoxes 18 = .ok (.ifCond .eq 29, 3) := by decide +kernel
theorem dX9_movedBoxes_21 : decode cX9_movedBoxes 21 = .ok (.aload_n 0, 1) := by decide +kernel
theorem dX9_movedBoxes_22 : decode cX9_movedBoxes 22 = .ok (.getfield 71, 3) := by decide +kernel
theorem dX9_movedBoxes_25 : decode cX9_movedBoxes 25 = .ok (.iload_n 3, 1) := by decide +kernel
theorem dX9_movedBoxes_26 : decode cX9_movedBoxes 26 = .ok (.invokevirtual 256, 3) := by decide +kernel
theorem dX9_movedBoxes_29 : decode cX9_movedBoxes 29 = .ok (.ifCond .eq 18, 3) := by decide +kernel
theorem dX9_movedBoxes_32 : decode cX9_movedBoxes 32 = .ok (.aload_n 1, 1) := by decide +kernel
theorem dX9_movedBoxes_33 : decode cX9_movedBoxes 33 = .ok (.aload_n 0, 1) := by decide +kernel
theorem dX9_movedBoxes_34 : decode cX9_movedBoxes 34 = .ok (.getfield 71, 3) := by decide +kernel
theorem dX9_movedBoxes_37 : decode cX9_movedBoxes 37 = .ok (.iload_n 3, 1) := by decide +kernel
theorem dX9_movedBoxes_38 : decode cX9_movedBoxes 38 = .ok (.invokevirtual 259, 3) := by decide +kernel
theorem dX9_movedBoxes_41 : decode cX9_movedBoxes 41 = .ok (.ifCond .ne 6, 3) := by decide +kernel
theorem dX9_movedBoxes_44 : decode cX9_movedBoxes 44 = .ok (.iinc 2 1, 3) := by decide +kernel
theorem dX9_movedBoxes_47 : decode cX9_movedBoxes 47 = .ok (.iinc 3 1, 3) := by decide +kernel
theorem dX9_movedBoxes_50 : decode cX9_movedBoxes 50 = .ok (.goto (-46), 3) := by decide +kernel
theorem dX9_movedBoxes_53 : decode cX9_movedBoxes 53 = .ok (.iload_n 2, 1) := by decide +kernel
theorem dX9_movedBoxes_54 : decode cX9_movedBoxes 54 = .ok (.ireturn, 1) := by decide +kernel
theorem dX10_init_0 : decode cX10_init 0 = .ok (.aload_n 0, 1) := by decide +kernel
theorem dX10_init_1 : decode cX10_init 1 = .ok (.invokespecial 1, 3) := by decide +kernel
theorem dX10_init_4 : decode cX10_init 4 = .ok (.aload_n 0, 1) := by decide +kernel
theorem dX10_init_5 : decode cX10_init 5 = .ok (.bipush 16, 2) := by decide +kernel
theorem dX10_init_7 : decode cX10_init 7 = .ok (.newarray .boolean, 2) := by decide +kernel
theorem dX10_init_9 : decode cX10_init 9 = .ok (.putfield 7, 3) := by decide +kernel
theorem dX10_init_12 : decode cX10_init 12 = .ok (.aload_n 0, 1) := by decide +kernel
theorem dX10_init_13 : decode cX10_init 13 = .ok (.bipush 16, 2) := by decide +kernel
theorem dX10_init_15 : decode cX10_init 15 = .ok (.newarray .int, 2) := by decide +kernel
theorem dX10_init_17 : decode cX10_init 17 = .ok (.putfield 13, 3) := by decide +kernel
theorem dX10_init_20 : decode cX10_init 20 = .ok (.aload_n 0, 1) := by decide +kernel
theorem dX10_init_21 : decode cX10_init 21 = .ok (.bipush 16, 2) := by decide +kernel
theorem dX10_init_23 : decode cX10_init 23 = .ok (.newarray .int, 2) := by decide +kernel
theorem dX10_init_25 : decode cX10_init 25 = .ok (.putfield 17, 3) := by decide +kernel
theorem dX10_init_28 : decode cX10_init 28 = .ok (.aload_n 0, 1) := by decide +kernel
theorem dX10_init_29 : decode cX10_init 29 = .ok (.bipush 24, 2) := by decide +kernel
theorem dX10_init_31 : decode cX10_init 31 = .ok (.newarray .boolean, 2) := by decide +kernel
theorem dX10_init_33 : decode cX10_init 33 = .ok (.putfield 20, 3) := by decide +kernel
theorem dX10_init_36 : decode cX10_init 36 = .ok (.aload_n 0, 1) := by decide +kernel
theorem dX10_init_37 : decode cX10_init 37 = .ok (.bipush 24, 2) := by decide +kernel
theorem dX10_init_39 : decode cX10_init 39 = .ok (.newarray .int, 2) := by decide +kernel
theorem dX10_init_41 : decode cX10_init 41 = .ok (.putfield 23, 3) := by decide +kernel
theorem dX10_init_44 : decode cX10_init 44 = .ok (.aload_n 0, 1) := by decide +kernel
theorem dX10_init_45 : decode cX10_init 45 = .ok (.bipush 24, 2) := by decide +kernel
theorem dX10_init_47 : decode cX10_init 47 = .ok (.newarray .int, 2) := by decide +kernel
theorem dX10_init_49 : decode cX10_init 49 = .ok (.putfield 26, 3) := by decide +kernel
theorem dX10_init_52 : decode cX10_init 52 = .ok (.aload_n 0, 1) := by decide +kernel
theorem dX10_init_53 : decode cX10_init 53 = .ok (.bipush 24, 2) := by decide +kernel
theorem dX10_init_55 : decode cX10_init 55 = .ok (.newarray .boolean, 2) := by decide +kernel
theorem dX10_init_57 : decode cX10_init 57 = .ok (.putfield 29, 3) := by decide +kernel
theorem dX10_init_60 : decode cX10_init 60 = .ok (.aload_n 0, 1) := by decide +kernel
theorem dX10_init_61 : decode cX10_init 61 = .ok (.bipush 16, 2) := by decide +kernel
theorem dX10_init_63 : decode cX10_init 63 = .ok (.newarray .int, 2) := by decide +kernel
theorem dX10_init_65 : decode cX10_init 65 = .ok (.putfield 32, 3) := by decide +kernel
theorem dX10_init_68 : decode cX10_init 68 = .ok (.aload_n 0, 1) := by decide +kernel
theorem dX10_init_69 : decode cX10_init 69 = .ok (.bipush 24, 2) := by decide +kernel
theorem dX10_init_71 : decode cX10_init 71 = .ok (.newarray .int, 2) := by decide +kernel
theorem dX10_init_73 : decode cX10_init 73 = .ok (.putfield 35, 3) := by decide +kernel
theorem dX10_init_76 : decode cX10_init 76 = .ok (.aload_n 0, 1) := by decide +kernel
theorem dX10_init_77 : decode cX10_init 77 = .ok (.sipush 960, 3) := by decide +kernel
theorem dX10_init_80 : decode cX10_init 80 = .ok (.newarray .int, 2) := by decide +kernel
theorem dX10_init_82 : decode cX10_init 82 = .ok (.putfield 38, 3) := by decide +kernel
theorem dX10_init_85 : decode cX10_init 85 = .ok (.aload_n 0, 1) := by decide +kernel
theorem dX10_init_86 : decode cX10_init 86 = .ok (.bipush 16, 2) := by decide +kernel
theorem dX10_init_88 : decode cX10_init 88 = .ok (.newarray .int, 2) := by decide +kernel
theorem dX10_init_90 : decode cX10_init 90 = .ok (.putfield 41, 3) := by decide +kernel
theorem dX10_init_93 : decode cX10_init 93 = .ok (.aload_n 0, 1) := by decide +kernel
theorem dX10_init_94 : decode cX10_init 94 = .ok (.sipush 576, 3) := by decide +kernel
theorem dX10_init_97 : decode cX10_init 97 = .ok (.newarray .int, 2) := by decide +kernel
theorem dX10_init_99 : decode cX10_init 99 = .ok (.putfield 44, 3) := by decide +kernel
theorem dX10_init_102 : decode cX10_init 102 = .ok (.aload_n 0, 1) := by decide +kernel
theorem dX10_init_103 : decode cX10_init 103 = .ok (.sipush 960, 3) := by decide +kernel
theorem dX10_init_106 : decode cX10_init 106 = .ok (.newarray .int, 2) := by decide +kernel
theorem dX10_init_108 : decode cX10_init 108 = .ok (.putfield 47, 3) := by decide +kernel
theorem dX10_init_111 : decode cX10_init 111 = .ok (.aload_n 0, 1) := by decide +kernel
theorem dX10_init_112 : decode cX10_init 112 = .ok (.bipush 16, 2) := by decide +kernel
theorem dX10_init_114 : decode cX10_init 114 = .ok (.newarray .int, 2) := by decide +kernel
theorem dX10_init_116 : decode cX10_init 116 = .ok (.putfield 50, 3) := by decide +kernel
theorem dX10_init_119 : decode cX10_init 119 = .ok (.aload_n 0, 1) := by decide +kernel
theorem dX10_init_120 : decode cX10_init 120 = .ok (.bipush 16, 2) := by decide +kernel
theorem dX10_init_122 : decode cX10_init 122 = .ok (.newarray .int, 2) := by decide +kernel
theorem dX10_init_124 : decode cX10_init 124 = .ok (.putfield 53, 3) := by decide +kernel
theorem dX10_init_127 : decode cX10_init 127 = .ok (.aload_n 0, 1) := by decide +kernel
theorem dX10_init_128 : decode cX10_init 128 = .ok (.sipush 576, 3) := by decide +kernel
theorem dX10_init_131 : decode cX10_init 131 = .ok (.newarray .int, 2) := by decide +kernel
theorem dX10_init_133 : decode cX10_init 133 = .ok (.putfield 56, 3) := by decide +kernel
theorem dX10_init_136 : decode cX10_init 136 = .ok (.aload_n 0, 1) := by decide +kernel
theorem dX10_init_137 : decode cX10_init 137 = .ok (.sipush 960, 3) := by decide +kernel
theorem dX10_init_140 : decode cX10_init 140 = .ok (.newarray .int, 2) := by decide +kernel
theorem dX10_init_142 : decode cX10_init 142 = .ok (.putfield 59, 3) := by decide +kernel
theorem dX10_init_145 : decode cX10_init 145 = .ok (.aload_n 0, 1) := by decide +kernel
theorem dX10_init_146 : decode cX10_init 146 = .ok (.bipush 40, 2) := by decide +kernel
theorem dX10_init_148 : decode cX10_init 148 = .ok (.newarray .int, 2) := by decide +kernel
theorem dX10_init_150 : decode cX10_init 150 = .ok (.putfield 62, 3) := by decide +kernel
theorem dX10_init_153 : decode cX10_init 153 = .ok (.aload_n 0, 1) := by decide +kernel
theorem dX10_init_154 : decode cX10_init 154 = .ok (.bipush 40, 2) := by decide +kernel
theorem dX10_init_156 : decode cX10_init 156 = .ok (.newarray .int, 2) := by decide +kernel
theorem dX10_init_158 : decode cX10_init 158 = .ok (.putfield 65, 3) := by decide +kernel
theorem dX10_init_161 : decode cX10_init 161 = .ok (.aload_n 0, 1) := by decide +kernel
theorem dX10_init_162 : decode cX10_init 162 = .ok (.bipush 40, 2) := by decide +kernel
theorem dX10_init_164 : decode cX10_init 164 = .ok (.newarray .int, 2) := by decide +kernel
theorem dX10_init_166 : decode cX10_init 166 = .ok (.putfield 68, 3) := by decide +kernel
theorem dX10_init_169 : decode cX10_init 169 = .ok (.aload_n 0, 1) := by decide +kernel
theorem dX10_init_170 : decode cX10_init 170 = .ok (.bipush 16, 2) := by decide +kernel
theorem dX10_init_172 : decode cX10_init 172 = .ok (.newarray .boolean, 2) := by decide +kernel
theorem dX10_init_174 : decode cX10_init 174 = .ok (.putfield 71, 3) := by decide +kernel
theorem dX10_init_177 : decode cX10_init 177 = .ok (.iconst 0, 1) := by decide +kernel
theorem dX10_init_178 : decode cX10_init 178 = .ok (.istore_n 1, 1) := by decide +kernel
theorem dX10_init_179 : decode cX10_init 179 = .ok (.iload_n 1, 1) := by decide +kernel
theorem dX10_init_180 : decode cX10_init 180 = .ok (.bipush 16, 2) := by decide +kernel
theorem dX10_init_182 : decode cX10_init 182 = .ok (.if_icmp .ge 23, 3) := by decide +kernel
theorem dX10_init_185 : decode cX10_init 185 = .ok (.aload_n 0, 1) := by decide +kernel
theorem dX10_init_186 : decode cX10_init 186 = .ok (.getfield 17, 3) := by decide +kernel
theorem dX10_init_189 : decode cX10_init 189 = .ok (.iload_n 1, 1) := by decide +kernel
theorem dX10_init_190 : decode cX10_init 190 = .ok (.iconst (-1), 1) := by decide +kernel
theorem dX10_init_191 : decode cX10_init 191 = .ok (.iastore, 1) := by decide +kernel
theorem dX10_init_192 : decode cX10_init 192 = .ok (.aload_n 0, 1) := by decide +kernel
theorem dX10_init_193 : decode cX10_init 193 = .ok (.getfield 50, 3) := by decide +kernel
theorem dX10_init_196 : decode cX10_init 196 = .ok (.iload_n 1, 1) := by decide +kernel
theorem dX10_init_197 : decode cX10_init 197 = .ok (.iconst (-1), 1) := by decide +kernel
theorem dX10_init_198 : decode cX10_init 198 = .ok (.iastore, 1) := by decide +kernel
theorem dX10_init_199 : decode cX10_init 199 = .ok (.iinc 1 1, 3) := by decide +kernel
theorem dX10_init_202 : decode cX10_init 202 = .ok (.goto (-23), 3) := by decide +kernel
theorem dX10_init_205 : decode cX10_init 205 = .ok (.iconst 0, 1) := by decide +kernel
theorem dX10_init_206 : decode cX10_init 206 = .ok (.istore_n 1, 1) := by decide +kernel
theorem dX10_init_207 : decode cX10_init 207 = .ok (.iload_n 1, 1) := by decide +kernel
theorem dX10_init_208 : decode cX10_init 208 = .ok (.sipush 576, 3) := by decide +kernel
theorem dX10_init_211 : decode cX10_init 211 = .ok (.if_icmp .ge 16, 3) := by decide +kernel
theorem dX10_init_214 : decode cX10_init 214 = .ok (.aload_n 0, 1) := by decide +kernel
theorem dX10_init_215 : decode cX10_init 215 = .ok (.getfield 56, 3) := by decide +kernel
theorem dX10_init_218 : decode cX10_init 218 = .ok (.iload_n 1, 1) := by decide +kernel
theorem dX10_init_219 : decode cX10_init 219 = .ok (.iconst (-1), 1) := by decide +kernel
theorem dX10_init_220 : decode cX10_init 220 = .ok (.iastore, 1) := by decide +kernel
theorem dX10_init_221 : decode cX10_init 221 = .ok (.iinc 1 1, 3) := by decide +kernel
theorem dX10_init_224 : decode cX10_init 224 = .ok (.goto (-17), 3) := by decide +kernel
theorem dX10_init_227 : decode cX10_init 227 = .ok (.return_, 1) := by decide +kernel
theorem dX10_thrown_0 : decode cX10_thrown 0 = .ok (.aload_n 0, 1) := by decide +kernel
theorem dX10_thrown_1 : decode cX10_thrown 1 = .ok (.getfield 74, 3) := by decide +kernel
theorem dX10_thrown_4 : decode cX10_thrown 4 = .ok (.ireturn, 1) := by decide +kernel
theorem dX10_in_0 : decode cX10_in 0 = .ok (.iload_n 0, 1) := by decide +kernel
theorem dX10_in_1 : decode cX10_in 1 = .ok (.iload_n 1, 1) := by decide +kernel
theorem dX10_in_2 : decode cX10_in 2 = .ok (.if_icmp .lt 12, 3) := by decide +kernel
theorem dX10_in_5 : decode cX10_in 5 = .ok (.iload_n 0, 1) := by decide +kernel
theorem dX10_in_6 : decode cX10_in 6 = .ok (.iload_n 2, 1) := by decide +kernel
theorem dX10_in_7 : decode cX10_in 7 = .ok (.if_icmp .gt 7, 3) := by decide +kernel
theorem dX10_in_10 : decode cX10_in 10 = .ok (.iconst 1, 1) := by decide +kernel
theorem dX10_in_11 : decode cX10_in 11 = .ok (.goto 4, 3) := by decide +kernel
theorem dX10_in_14 : decode cX10_in 14 = .ok (.iconst 0, 1) := by decide +kernel
theorem dX10_in_15 : decode cX10_in 15 = .ok (.ireturn, 1) := by decide +kernel
set_option maxRecDepth 20000 in
theorem ggX10_hasBox_X10_in : GoodIn wsX10_hasBox wsX10_in := goodIn_r _ [5] (by decide +kernel) (by decide +kernel)
set_option maxRecDepth 20000 in
theorem gX10_hasBox_X10_in : GoodIn wsX10_hasBox (va_wsS RX10 78 yX10_in wsX10_in) := goodIn_app (goodIn_of _ (by decide +kernel)) ggX10_hasBox_X10_in
theorem dX10_hasBox_0 : decode cX10_hasBox 0 = .ok (.iload_n 1, 1) := by decide +kernel
theorem dX10_hasBox_1 : decode cX10_hasBox 1 = .ok (.iconst 0, 1) := by decide +kernel
theorem dX10_hasBox_2 : decode cX10_hasBox 2 = .ok (.bipush 15, 2) := by decide +kernel
theorem dX10_hasBox_4 : decode cX10_hasBox 4 = .ok (.invokestatic 78, 3) := by decide +kernel
theorem dX10_hasBox_7 : decode cX10_hasBox 7 = .ok (.ifCond .eq 16, 3) := by decide +kernel
theorem dX10_hasBox_10 : decode cX10_hasBox 10 = .ok (.aload_n 0, 1) := by decide +kernel
theorem dX10_hasBox_11 : decode cX10_hasBox 11 = .ok (.getfield 7, 3) := by decide +kernel
theorem dX10_hasBox_14 : decode cX10_hasBox 14 = .ok (.iload_n 1, 1) := by decide +kernel
theorem dX10_hasBox_15 : decode cX10_hasBox 15 = .ok (.baload, 1) := by decide +kernel
theorem dX10_hasBox_16 : decode cX10_hasBox 16 = .ok (.ifCond .eq 7, 3) := by decide +kernel
theorem dX10_hasBox_19 : decode cX10_hasBox 19 = .ok (.iconst 1, 1) := by decide +kernel
theorem dX10_hasBox_20 : decode cX10_hasBox 20 = .ok (.goto 4, 3) := by decide +kernel
theorem dX10_hasBox_23 : decode cX10_hasBox 23 = .ok (.iconst 0, 1) := by decide +kernel
theorem dX10_hasBox_24 : decode cX10_hasBox 24 = .ok (.ireturn, 1) := by decide +kernel
set_option maxRecDepth 20000 in
theorem ggX10_box_X10_in : GoodIn wsX10_box wsX10_in := goodIn_r _ [9] (by decide +kernel) (by decide +kernel)
set_option maxRecDepth 20000 in
theorem gX10_box_X10_in : GoodIn wsX10_box (va_wsS RX10 78 yX10_in wsX10_in) := goodIn_app (goodIn_of _ (by decide +kernel)) ggX10_box_X10_in
theorem dX10_box_0 : decode cX10_box 0 = .ok (.aload_n 0, 1) := by decide +kernel
theorem dX10_box_1 : decode cX10_box 1 = .ok (.iload_n 1, 1) := by decide +kernel
theorem dX10_box_2 : decode cX10_box 2 = .ok (.iconst 0, 1) := by decide +kernel
theorem dX10_box_3 : decode cX10_box 3 = .ok (.bipush 15, 2) := by decide +kernel
theorem dX10_box_5 : decode cX10_box 5 = .ok (.invokestatic 78, 3) := by decide +kernel
theorem dX10_box_8 : decode cX10_box 8 = .ok (.ifCond .eq 17, 3) := by decide +kernel
theorem dX10_box_11 : decode cX10_box 11 = .ok (.iload_n 2, 1) := by decide +kernel
theorem dX10_box_12 : decode cX10_box 12 = .ok (.iconst 1, 1) := by decide +kernel
theorem dX10_box_13 : decode cX10_box 13 = .ok (.bipush 50, 2) := by decide +kernel
theorem dX10_box_15 : decode cX10_box 15 = .ok (.invokestatic 78, 3) := by decide +kernel
theorem dX10_box_18 : decode cX10_box 18 = .ok (.ifCond .eq 7, 3) := by decide +kernel
theorem dX10_box_21 : decode cX10_box 21 = .ok (.iconst 0, 1) := by decide +kernel
theorem dX10_box_22 : decode cX10_box 22 = .ok (.goto 4, 3) := by decide +kernel
theorem dX10_box_25 : decode cX10_box 25 = .ok (.iconst 1, 1) := by decide +kernel
theorem dX10_box_26 : decode cX10_box 26 = .ok (.putfield 74, 3) := by decide +kernel
theorem dX10_box_29 : decode cX10_box 29 = .ok (.aload_n 0, 1) := by decide +kernel
theorem dX10_box_30 : decode cX10_box 30 = .ok (.getfield 74, 3) := by decide +kernel
theorem dX10_box_33 : decode cX10_box 33 = .ok (.ifCond .le 4, 3) := by decide +kernel
theorem dX10_box_36 : decode cX10_box 36 = .ok (.return_, 1) := by decide +kernel
theorem dX10_box_37 : decode cX10_box 37 = .ok (.aload_n 0, 1) := by decide +kernel
theorem dX10_box_38 : decode cX10_box 38 = .ok (.getfield 7, 3) := by decide +kernel
theorem dX10_box_41 : decode cX10_box 41 = .ok (.iload_n 1, 1) := by decide +kernel
theorem dX10_box_42 : decode cX10_box 42 = .ok (.baload, 1) := by decide +kernel
theorem dX10_box_43 : decode cX10_box 43 = .ok (.ifCond .ne 10, 3) := by decide +kernel
theorem dX10_box_46 : decode cX10_box 46 = .ok (.aload_n 0, 1) := by decide +kernel
theorem dX10_box_47 : decode cX10_box 47 = .ok (.getfield 17, 3) := by decide +kernel
theorem dX10_box_50 : decode cX10_box 50 = .ok (.iload_n 1, 1) := by decide +kernel
theorem dX10_box_51 : decode cX10_box 51 = .ok (.iconst (-1), 1) := by decide +kernel
theorem dX10_box_52 : decode cX10_box 52 = .ok (.iastore, 1) := by decide +kernel
theorem dX10_box_53 : decode cX10_box 53 = .ok (.aload_n 0, 1) := by decide +kernel
theorem dX10_box_54 : decode cX10_box 54 = .ok (.getfield 7, 3) := by decide +kernel
theorem dX10_box_57 : decode cX10_box 57 = .ok (.iload_n 1, 1) := by decide +kernel
theorem dX10_box_58 : decode cX10_box 58 = .ok (.iconst 1, 1) := by decide +kernel
theorem dX10_box_59 : decode cX10_box 59 = .ok (.bastore, 1) := by decide +kernel
theorem dX10_box_60 : decode cX10_box 60 = .ok (.aload_n 0, 1) := by decide +kernel
theorem dX10_box_61 : decode cX10_box 61 = .ok (.getfield 13, 3) := by decide +kernel
theorem dX10_box_64 : decode cX10_box 64 = .ok (.iload_n 1, 1) := by decide +kernel
theorem dX10_box_65 : decode cX10_box 65 = .ok (.iload_n 2, 1) := by decide +kernel
theorem dX10_box_66 : decode cX10_box 66 = .ok (.iastore, 1) := by decide +kernel
theorem dX10_box_67 : decode cX10_box 67 = .ok (.aload_n 0, 1) := by decide +kernel
theorem dX10_box_68 : decode cX10_box 68 = .ok (.iconst 0, 1) := by decide +kernel
theorem dX10_box_69 : decode cX10_box 69 = .ok (.putfield 82, 3) := by decide +kernel
theorem dX10_box_72 : decode cX10_box 72 = .ok (.return_, 1) := by decide +kernel
set_option maxRecDepth 20000 in
theorem ggX10_remove_X10_in : GoodIn wsX10_remove wsX10_in := goodIn_r _ [10] (by decide +kernel) (by decide +kernel)
set_option maxRecDepth 20000 in
theorem gX10_remove_X10_in : GoodIn wsX10_remove (va_wsS RX10 78 yX10_in wsX10_in) := goodIn_app (goodIn_of _ (by decide +kernel)) ggX10_remove_X10_in
theorem dX10_remove_0 : decode cX10_remove 0 = .ok (.aload_n 0, 1) := by decide +kernel
theorem dX10_remove_1 : decode cX10_remove 1 = .ok (.iload_n 1, 1) := by decide +kernel
theorem dX10_remove_2 : decode cX10_remove 2 = .ok (.iconst 0, 1) := by decide +kernel
theorem dX10_remove_3 : decode cX10_remove 3 = .ok (.bipush 15, 2) := by decide +kernel
theorem dX10_remove_5 : decode cX10_remove 5 = .ok (.invokestatic 78, 3) := by decide +kernel
theorem dX10_remove_8 : decode cX10_remove 8 = .ok (.ifCond .eq 7, 3) := by decide +kernel
theorem dX10_remove_11 : decode cX10_remove 11 = .ok (.iconst 0, 1) := by decide +kernel
theorem dX10_remove_12 : decode cX10_remove 12 = .ok (.goto 4, 3) := by decide +kernel
theorem dX10_remove_15 : decode cX10_remove 15 = .ok (.iconst 1, 1) := by decide +kernel
theorem dX10_remove_16 : decode cX10_remove 16 = .ok (.putfield 74, 3) := by decide +kernel
theorem dX10_remove_19 : decode cX10_remove 19 = .ok (.aload_n 0, 1) := by decide +kernel
theorem dX10_remove_20 : decode cX10_remove 20 = .ok (.getfield 74, 3) := by decide +kernel
theorem dX10_remove_23 : decode cX10_remove 23 = .ok (.ifCond .gt 12, 3) := by decide +kernel
theorem dX10_remove_26 : decode cX10_remove 26 = .ok (.aload_n 0, 1) := by decide +kernel
theorem dX10_remove_27 : decode cX10_remove 27 = .ok (.getfield 7, 3) := by decide +kernel
theorem dX10_remove_30 : decode cX10_remove 30 = .ok (.iload_n 1, 1) := by decide +kernel
theorem dX10_remove_31 : decode cX10_remove 31 = .ok (.baload, 1) := by decide +kernel
theorem dX10_remove_32 : decode cX10_remove 32 = .ok (.ifCond .ne 5, 3) := by decide +kernel
theorem dX10_remove_35 : decode cX10_remove 35 = .ok (.iconst 0, 1) := by decide +kernel
theorem dX10_remove_36 : decode cX10_remove 36 = .ok (.ireturn, 1) := by decide +kernel
theorem dX10_remove_37 : decode cX10_remove 37 = .ok (.aload_n 0, 1) := by decide +kernel
theorem dX10_remove_38 : decode cX10_remove 38 = .ok (.getfield 7, 3) := by decide +kernel
theorem dX10_remove_41 : decode cX10_remove 41 = .ok (.iload_n 1, 1) := by decide +kernel
theorem dX10_remove_42 : decode cX10_remove 42 = .ok (.iconst 0, 1) := by decide +kernel
theorem dX10_remove_43 : decode cX10_remove 43 = .ok (.bastore, 1) := by decide +kernel
theorem dX10_remove_44 : decode cX10_remove 44 = .ok (.iconst 0, 1) := by decide +kernel
theorem dX10_remove_45 : decode cX10_remove 45 = .ok (.istore_n 2, 1) := by decide +kernel
theorem dX10_remove_46 : decode cX10_remove 46 = .ok (.iload_n 2, 1) := by decide +kernel
theorem dX10_remove_47 : decode cX10_remove 47 = .ok (.bipush 24, 2) := by decide +kernel
theorem dX10_remove_49 : decode cX10_remove 49 = .ok (.if_icmp .ge 36, 3) := by decide +kernel
theorem dX10_remove_52 : decode cX10_remove 52 = .ok (.aload_n 0, 1) := by decide +kernel
theorem dX10_remove_53 : decode cX10_remove 53 = .ok (.getfield 23, 3) := by decide +kernel
theorem dX10_remove_56 : decode cX10_remove 56 = .ok (.iload_n 2, 1) := by decide +kernel
theorem dX10_remove_57 : decode cX10_remove 57 = .ok (.iaload, 1) := by decide +kernel
theorem dX10_remove_58 : decode cX10_remove 58 = .ok (.iload_n 1, 1) := by decide +kernel
theorem dX10_remove_59 : decode cX10_remove 59 = .ok (.if_icmp .eq 13, 3) := by decide +kernel
theorem dX10_remove_62 : decode cX10_remove 62 = .ok (.aload_n 0, 1) := by decide +kernel
theorem dX10_remove_63 : decode cX10_remove 63 = .ok (.getfield 26, 3) := by decide +kernel
theorem dX10_remove_66 : decode cX10_remove 66 = .ok (.iload_n 2, 1) := by decide +kernel
theorem dX10_remove_67 : decode cX10_remove 67 = .ok (.iaload, 1) := by decide +kernel
theorem dX10_remove_68 : decode cX10_remove 68 = .ok (.iload_n 1, 1) := by decide +kernel
theorem dX10_remove_69 : decode cX10_remove 69 = .ok (.if_icmp .ne 10, 3) := by decide +kernel
theorem dX10_remove_72 : decode cX10_remove 72 = .ok (.aload_n 0, 1) := by decide +kernel
theorem dX10_remove_73 : decode cX10_remove 73 = .ok (.getfield 20, 3) := by decide +kernel
theorem dX10_remove_76 : decode cX10_remove 76 = .ok (.iload_n 2, 1) := by decide +kernel
theorem dX10_remove_77 : decode cX10_remove 77 = .ok (.iconst 0, 1) := by decide +kernel
theorem dX10_remove_78 : decode cX10_remove 78 = .ok (.bastore, 1) := by decide +kernel
theorem dX10_remove_79 : decode cX10_remove 79 = .ok (.iinc 2 1, 3) := by decide +kernel
theorem dX10_remove_82 : decode cX10_remove 82 = .ok (.goto (-36), 3) := by decide +kernel
theorem dX10_remove_85 : decode cX10_remove 85 = .ok (.aload_n 0, 1) := by decide +kernel
theorem dX10_remove_86 : decode cX10_remove 86 = .ok (.iconst 0, 1) := by decide +kernel
theorem dX10_remove_87 : decode cX10_remove 87 = .ok (.putfield 82, 3) := by decide +kernel
theorem dX10_remove_90 : decode cX10_remove 90 = .ok (.iconst 1, 1) := by decide +kernel
theorem dX10_remove_91 : decode cX10_remove 91 = .ok (.ireturn, 1) := by decide +kernel
set_option maxRecDepth 20000 in
theorem ggX10_arrow_X10_in : GoodIn wsX10_arrow wsX10_in := goodIn_r _ [9] (by decide +kernel) (by decide +kernel)
set_option maxRecDepth 20000 in
theorem gX10_arrow_X10_in : GoodIn wsX10_arrow (va_wsS RX10 78 yX10_in wsX10_in) := goodIn_app (goodIn_of _ (by decide +kernel)) ggX10_arrow_X10_in
set_option maxRecDepth 20000 in
theorem ggX10_arrow_X10_hasBox : GoodIn wsX10_arrow wsX10_hasBox := goodIn_r _ [13, 14, 6, 7, 8, 9, 15, 16, 17, 18, 19, 20, 21, 22, 23, 24, 25, 26, 27, 28, 29, 30, 31, 32, 33, 34, 35, 36, 37, 38] (by decide +kernel) (by decide +kernel)
set_option maxRecDepth 20000 in
theorem gX10_arrow_X10_hasBox : GoodIn wsX10_arrow (wsV RX10 86 RX10 yX10_hasBox wsX10_hasBox) := goodIn_app (goodIn_of _ (by decide +kernel)) ggX10_arrow_X10_hasBox
theorem dX10_arrow_0 : decode cX10_arrow 0 = .ok (.aload_n 0, 1) := by decide +kernel
theorem dX10_arrow_1 : decode cX10_arrow 1 = .ok (.iload_n 1, 1) := by decide +kernel
theorem dX10_arrow_2 : decode cX10_arrow 2 = .ok (.iconst 0, 1) := by decide +kernel
theorem dX10_arrow_3 : decode cX10_arrow 3 = .ok (.bipush 23, 2) := by decide +kernel
theorem dX10_arrow_5 : decode cX10_arrow 5 = .ok (.invokestatic 78, 3) := by decide +kernel
theorem dX10_arrow_8 : decode cX10_arrow 8 = .ok (.ifCond .eq 28, 3) := by decide +kernel
theorem dX10_arrow_11 : decode cX10_arrow 11 = .ok (.aload_n 0, 1) := by decide +kernel
theorem dX10_arrow_12 : decode cX10_arrow 12 = .ok (.iload_n 2, 1) := by decide +kernel
theorem dX10_arrow_13 : decode cX10_arrow 13 = .ok (.invokevirtual 86, 3) := by decide +kernel
theorem dX10_arrow_16 : decode cX10_arrow 16 = .ok (.ifCond .eq 20, 3) := by decide +kernel
theorem dX10_arrow_19 : decode cX10_arrow 19 = .ok (.aload_n 0, 1) := by decide +kernel
theorem dX10_arrow_20 : decode cX10_arrow 20 = .ok (.iload_n 3, 1) := by decide +kernel
theorem dX10_arrow_21 : decode cX10_arrow 21 = .ok (.invokevirtual 86, 3) := by decide +kernel
theorem dX10_arrow_24 : decode cX10_arrow 24 = .ok (.ifCond .eq 12, 3) := by decide +kernel
theorem dX10_arrow_27 : decode cX10_arrow 27 = .ok (.iload_n 2, 1) := by decide +kernel
theorem dX10_arrow_28 : decode cX10_arrow 28 = .ok (.iload_n 3, 1) := by decide +kernel
theorem dX10_arrow_29 : decode cX10_arrow 29 = .ok (.if_icmp .eq 7, 3) := by decide +kernel
theorem dX10_arrow_32 : decode cX10_arrow 32 = .ok (.iconst 0, 1) := by decide +kernel
theorem dX10_arrow_33 : decode cX10_arrow 33 = .ok (.goto 4, 3) := by decide +kernel
theorem dX10_arrow_36 : decode cX10_arrow 36 = .ok (.iconst 1, 1) := by decide +kernel
theorem dX10_arrow_37 : decode cX10_arrow 37 = .ok (.putfield 74, 3) := by decide +kernel
theorem dX10_arrow_40 : decode cX10_arrow 40 = .ok (.aload_n 0, 1) := by decide +kernel
theorem dX10_arrow_41 : decode cX10_arrow 41 = .ok (.getfield 74, 3) := by decide +kernel
theorem dX10_arrow_44 : decode cX10_arrow 44 = .ok (.ifCond .le 4, 3) := by decide +kernel
theorem dX10_arrow_47 : decode cX10_arrow 47 = .ok (.return_, 1) := by decide +kernel
theorem dX10_arrow_48 : decode cX10_arrow 48 = .ok (.aload_n 0, 1) := by decide +kernel
theorem dX10_arrow_49 : decode cX10_arrow 49 = .ok (.getfield 20, 3) := by decide +kernel
theorem dX10_arrow_52 : decode cX10_arrow 52 = .ok (.iload_n 1, 1) := by decide +kernel
theorem dX10_arrow_53 : decode cX10_arrow 53 = .ok (.iconst 1, 1) := by decide +kernel
theorem dX10_arrow_54 : decode cX10_arrow 54 = .ok (.bastore, 1) := by decide +kernel
theorem dX10_arrow_55 : decode cX10_arrow 55 = .ok (.aload_n 0, 1) := by decide +kernel
theorem dX10_arrow_56 : decode cX10_arrow 56 = .ok (.getfield 23, 3) := by decide +kernel
theorem dX10_arrow_59 : decode cX10_arrow 59 = .ok (.iload_n 1, 1) := by decide +kernel
theorem dX10_arrow_60 : decode cX10_arrow 60 = .ok (.iload_n 2, 1) := by decide +kernel
theorem dX10_arrow_61 : decode cX10_arrow 61 = .ok (.iastore, 1) := by decide +kernel
theorem dX10_arrow_62 : decode cX10_arrow 62 = .ok (.aload_n 0, 1) := by decide +kernel
theorem dX10_arrow_63 : decode cX10_arrow 63 = .ok (.getfield 26, 3) := by decide +kernel
theorem dX10_arrow_66 : decode cX10_arrow 66 = .ok (.iload_n 1, 1) := by decide +kernel
theorem dX10_arrow_67 : decode cX10_arrow 67 = .ok (.iload_n 3, 1) := by decide +kernel
theorem dX10_arrow_68 : decode cX10_arrow 68 = .ok (.iastore, 1) := by decide +kernel
theorem dX10_arrow_69 : decode cX10_arrow 69 = .ok (.aload_n 0, 1) := by decide +kernel
theorem dX10_arrow_70 : decode cX10_arrow 70 = .ok (.iconst 0, 1) := by decide +kernel
theorem dX10_arrow_71 : decode cX10_arrow 71 = .ok (.putfield 82, 3) := by decide +kernel
theorem dX10_arrow_74 : decode cX10_arrow 74 = .ok (.return_, 1) := by decide +kernel
set_option maxRecDepth 20000 in
theorem ggX10_drop_X10_in : GoodIn wsX10_drop wsX10_in := goodIn_r _ [7] (by decide +kernel) (by decide +kernel)
set_option maxRecDepth 20000 in
theorem gX10_drop_X10_in : GoodIn wsX10_drop (va_wsS RX10 78 yX10_in wsX10_in) := goodIn_app (goodIn_of _ (by decide +kernel)) ggX10_drop_X10_in
theorem dX10_drop_0 : decode cX10_drop 0 = .ok (.aload_n 0, 1) := by decide +kernel
theorem dX10_drop_1 : decode cX10_drop 1 = .ok (.iload_n 1, 1) := by decide +kernel
theorem dX10_drop_2 : decode cX10_drop 2 = .ok (.iconst 0, 1) := by decide +kernel
theorem dX10_drop_3 : decode cX10_drop 3 = .ok (.bipush 23, 2) := by decide +kernel
theorem dX10_drop_5 : decode cX10_drop 5 = .ok (.invokestatic 78, 3) := by decide +kernel
theorem dX10_drop_8 : decode cX10_drop 8 = .ok (.ifCond .eq 7, 3) := by decide +kernel
theorem dX10_drop_11 : decode cX10_drop 11 = .ok (.iconst 0, 1) := by decide +kernel
theorem dX10_drop_12 : decode cX10_drop 12 = .ok (.goto 4, 3) := by decide +kernel
theorem dX10_drop_15 : decode cX10_drop 15 = .ok (.iconst 1, 1) := by decide +kernel
theorem dX10_drop_16 : decode cX10_drop 16 = .ok (.putfield 74, 3) := by decide +kernel
theorem dX10_drop_19 : decode cX10_drop 19 = .ok (.aload_n 0, 1) := by decide +kernel
theorem dX10_drop_20 : decode cX10_drop 20 = .ok (.getfield 74, 3) := by decide +kernel
theorem dX10_drop_23 : decode cX10_drop 23 = .ok (.ifCond .gt 12, 3) := by decide +kernel
theorem dX10_drop_26 : decode cX10_drop 26 = .ok (.aload_n 0, 1) := by decide +kernel
theorem dX10_drop_27 : decode cX10_drop 27 = .ok (.getfield 20, 3) := by decide +kernel
theorem dX10_drop_30 : decode cX10_drop 30 = .ok (.iload_n 1, 1) := by decide +kernel
theorem dX10_drop_31 : decode cX10_drop 31 = .ok (.baload, 1) := by decide +kernel
theorem dX10_drop_32 : decode cX10_drop 32 = .ok (.ifCond .ne 5, 3) := by decide +kernel
theorem dX10_drop_35 : decode cX10_drop 35 = .ok (.iconst 0, 1) := by decide +kernel
theorem dX10_drop_36 : decode cX10_drop 36 = .ok (.ireturn, 1) := by decide +kernel
theorem dX10_drop_37 : decode cX10_drop 37 = .ok (.aload_n 0, 1) := by decide +kernel
theorem dX10_drop_38 : decode cX10_drop 38 = .ok (.getfield 20, 3) := by decide +kernel
theorem dX10_drop_41 : decode cX10_drop 41 = .ok (.iload_n 1, 1) := by decide +kernel
theorem dX10_drop_42 : decode cX10_drop 42 = .ok (.iconst 0, 1) := by decide +kernel
theorem dX10_drop_43 : decode cX10_drop 43 = .ok (.bastore, 1) := by decide +kernel
theorem dX10_drop_44 : decode cX10_drop 44 = .ok (.aload_n 0, 1) := by decide +kernel
theorem dX10_drop_45 : decode cX10_drop 45 = .ok (.iconst 0, 1) := by decide +kernel
theorem dX10_drop_46 : decode cX10_drop 46 = .ok (.putfield 82, 3) := by decide +kernel
theorem dX10_drop_49 : decode cX10_drop 49 = .ok (.iconst 1, 1) := by decide +kernel
theorem dX10_drop_50 : decode cX10_drop 50 = .ok (.ireturn, 1) := by decide +kernel
set_option maxRecDepth 20000 in
theorem ggX10_pin_X10_hasBox : GoodIn wsX10_pin wsX10_hasBox := goodIn_r _ [8, 9, 10, 11, 7, 12, 13, 14, 15, 16, 17, 18, 19, 20, 21, 22, 23, 24, 25, 26, 27, 28, 29, 30, 31, 32, 33, 34, 35, 36] (by decide +kernel) (by decide +kernel)
set_option maxRecDepth 20000 in
theorem gX10_pin_X10_hasBox : GoodIn wsX10_pin (wsV RX10 86 RX10 yX10_hasBox wsX10_hasBox) := goodIn_app (goodIn_of _ (by decide +kernel)) ggX10_pin_X10_hasBox
set_option maxRecDepth 20000 in
theorem ggX10_pin_X10_in : GoodIn wsX10_pin wsX10_in := goodIn_r _ [12] (by decide +kernel) (by decide +kernel)
set_option maxRecDepth 20000 in
theorem gX10_pin_X10_in : GoodIn wsX10_pin (va_wsS RX10 78 yX10_in wsX10_in) := goodIn_app (goodIn_of _ (by decide +kernel)) ggX10_pin_X10_in
theorem dX10_pin_0 : decode cX10_pin 0 = .ok (.aload_n 0, 1) := by decide +kernel
theorem dX10_pin_1 : decode cX10_pin 1 = .ok (.aload_n 0, 1) := by decide +kernel
theorem dX10_pin_2 : decode cX10_pin 2 = .ok (.iload_n 1, 1) := by decide +kernel
theorem dX10_pin_3 : decode cX10_pin 3 = .ok (.invokevirtual 86, 3) := by decide +kernel
theorem dX10_pin_6 : decode cX10_pin 6 = .ok (.ifCond .eq 17, 3) := by decide +kernel
theorem dX10_pin_9 : decode cX10_pin 9 = .ok (.iload_n 2, 1) := by decide +kernel
theorem dX10_pin_10 : decode cX10_pin 10 = .ok (.iconst (-1), 1) := by decide +kernel
theorem dX10_pin_11 : decode cX10_pin 11 = .ok (.bipush 8, 2) := by decide +kernel
theorem dX10_pin_13 : decode cX10_pin 13 = .ok (.invokestatic 78, 3) := by decide +kernel
theorem dX10_pin_16 : decode cX10_pin 16 = .ok (.ifCond .eq 7, 3) := by decide +kernel
theorem dX10_pin_19 : decode cX10_pin 19 = .ok (.iconst 0, 1) := by decide +kernel
theorem dX10_pin_20 : decode cX10_pin 20 = .ok (.goto 4, 3) := by decide +kernel
theorem dX10_pin_23 : decode cX10_pin 23 = .ok (.iconst 1, 1) := by decide +kernel
theorem dX10_pin_24 : decode cX10_pin 24 = .ok (.putfield 74, 3) := by decide +kernel
theorem dX10_pin_27 : decode cX10_pin 27 = .ok (.aload_n 0, 1) := by decide +kernel
theorem dX10_pin_28 : decode cX10_pin 28 = .ok (.getfield 74, 3) := by decide +kernel
theorem dX10_pin_31 : decode cX10_pin 31 = .ok (.ifCond .le 4, 3) := by decide +kernel
theorem dX10_pin_34 : decode cX10_pin 34 = .ok (.return_, 1) := by decide +kernel
theorem dX10_pin_35 : decode cX10_pin 35 = .ok (.aload_n 0, 1) := by decide +kernel
theorem dX10_pin_36 : decode cX10_pin 36 = .ok (.getfield 17, 3) := by decide +kernel
theorem dX10_pin_39 : decode cX10_pin 39 = .ok (.iload_n 1, 1) := by decide +kernel
theorem dX10_pin_40 : decode cX10_pin 40 = .ok (.iload_n 2, 1) := by decide +kernel
theorem dX10_pin_41 : decode cX10_pin 41 = .ok (.iastore, 1) := by decide +kernel
theorem dX10_pin_42 : decode cX10_pin 42 = .ok (.aload_n 0, 1) := by decide +kernel
theorem dX10_pin_43 : decode cX10_pin 43 = .ok (.iconst 0, 1) := by decide +kernel
theorem dX10_pin_44 : decode cX10_pin 44 = .ok (.putfield 82, 3) := by decide +kernel
theorem dX10_pin_47 : decode cX10_pin 47 = .ok (.return_, 1) := by decide +kernel
theorem dX10_leads_0 : decode cX10_leads 0 = .ok (.iconst 0, 1) := by decide +kernel
theorem dX10_leads_1 : decode cX10_leads 1 = .ok (.istore 4, 2) := by decide +kernel
theorem dX10_leads_3 : decode cX10_leads 3 = .ok (.iload 4, 2) := by decide +kernel
theorem dX10_leads_5 : decode cX10_leads 5 = .ok (.bipush 16, 2) := by decide +kernel
theorem dX10_leads_7 : decode cX10_leads 7 = .ok (.if_icmp .ge 27, 3) := by decide +kernel
theorem dX10_leads_10 : decode cX10_leads 10 = .ok (.aload_n 0, 1) := by decide +kernel
theorem dX10_leads_11 : decode cX10_leads 11 = .ok (.getfield 71, 3) := by decide +kernel
theorem dX10_leads_14 : decode cX10_leads 14 = .ok (.iload 4, 2) := by decide +kernel
theorem dX10_leads_16 : decode cX10_leads 16 = .ok (.iload 4, 2) := by decide +kernel
theorem dX10_leads_18 : decode cX10_leads 18 = .ok (.iload_n 1, 1) := by decide +kernel
theorem dX10_leads_19 : decode cX10_leads 19 = .ok (.if_icmp .ne 7, 3) := by decide +kernel
theorem dX10_leads_22 : decode cX10_leads 22 = .ok (.iconst 1, 1) := by decide +kernel
theorem dX10_leads_23 : decode cX10_leads 23 = .ok (.goto 4, 3) := by decide +kernel
theorem dX10_leads_26 : decode cX10_leads 26 = .ok (.iconst 0, 1) := by decide +kernel
theorem dX10_leads_27 : decode cX10_leads 27 = .ok (.bastore, 1) := by decide +kernel
theorem dX10_leads_28 : decode cX10_leads 28 = .ok (.iinc 4 1, 3) := by decide +kernel
theorem dX10_leads_31 : decode cX10_leads 31 = .ok (.goto (-28), 3) := by decide +kernel
theorem dX10_leads_34 : decode cX10_leads 34 = .ok (.iconst 0, 1) := by decide +kernel
theorem dX10_leads_35 : decode cX10_leads 35 = .ok (.istore 4, 2) := by decide +kernel
theorem dX10_leads_37 : decode cX10_leads 37 = .ok (.iload 4, 2) := by decide +kernel
theorem dX10_leads_39 : decode cX10_leads 39 = .ok (.bipush 16, 2) := by decide +kernel
theorem dX10_leads_41 : decode cX10_leads 41 = .ok (.if_icmp .ge 72, 3) := by decide +kernel
theorem dX10_leads_44 : decode cX10_leads 44 = .ok (.iconst 0, 1) := by decide +kernel
theorem dX10_leads_45 : decode cX10_leads 45 = .ok (.istore 5, 2) := by decide +kernel
theorem dX10_leads_47 : decode cX10_leads 47 = .ok (.iload 5, 2) := by decide +kernel
theorem dX10_leads_49 : decode cX10_leads 49 = .ok (.iload_n 3, 1) := by decide +kernel
theorem dX10_leads_50 : decode cX10_leads 50 = .ok (.if_icmp .ge 57, 3) := by decide +kernel
theorem dX10_leads_53 : decode cX10_leads 53 = .ok (.aload_n 0, 1) := by decide +kernel
theorem dX10_leads_54 : decode cX10_leads 54 = .ok (.getfield 20, 3) := by decide +kernel
theorem dX10_leads_57 : decode cX10_leads 57 = .ok (.iload 5, 2) := by decide +kernel
theorem dX10_leads_59 : decode cX10_leads 59 = .ok (.baload, 1) := by decide +kernel
theorem dX10_leads_60 : decode cX10_leads 60 = .ok (.ifCond .eq 41, 3) := by decide +kernel
theorem dX10_leads_63 : decode cX10_leads 63 = .ok (.aload_n 0, 1) := by decide +kernel
theorem dX10_leads_64 : decode cX10_leads 64 = .ok (.getfield 29, 3) := by decide +kernel
theorem dX10_leads_67 : decode cX10_leads 67 = .ok (.iload 5, 2) := by decide +kernel
theorem dX10_leads_69 : decode cX10_leads 69 = .ok (.baload, 1) := by decide +kernel
theorem dX10_leads_70 : decode cX10_leads 70 = .ok (.ifCond .ne 31, 3) := by decide +kernel
theorem dX10_leads_73 : decode cX10_leads 73 = .ok (.aload_n 0, 1) := by decide +kernel
theorem dX10_leads_74 : decode cX10_leads 74 = .ok (.getfield 71, 3) := by decide +kernel
theorem dX10_leads_77 : decode cX10_leads 77 = .ok (.aload_n 0, 1) := by decide +kernel
theorem dX10_leads_78 : decode cX10_leads 78 = .ok (.getfield 23, 3) := by decide +kernel
theorem dX10_leads_81 : decode cX10_leads 81 = .ok (.iload 5, 2) := by decide +kernel
theorem dX10_leads_83 : decode cX10_leads 83 = .ok (.iaload, 1) := by decide +kernel
theorem dX10_leads_84 : decode cX10_leads 84 = .ok (.baload, 1) := by decide +kernel
theorem dX10_leads_85 : decode cX10_leads 85 = .ok (.ifCond .eq 16, 3) := by decide +kernel
theorem dX10_leads_88 : decode cX10_leads 88 = .ok (.aload_n 0, 1) := by decide +kernel
theorem dX10_leads_89 : decode cX10_leads 89 = .ok (.getfield 71, 3) := by decide +kernel
theorem dX10_leads_92 : decode cX10_leads 92 = .ok (.aload_n 0, 1) := by decide +kernel
theorem dX10_leads_93 : decode cX10_leads 93 = .ok (.getfield 26, 3) := by decide +kernel
theorem dX10_leads_96 : decode cX10_leads 96 = .ok (.iload 5, 2) := by decide +kernel
theorem dX10_leads_98 : decode cX10_leads 98 = .ok (.iaload, 1) := by decide +kernel
theorem dX10_leads_99 : decode cX10_leads 99 = .ok (.iconst 1, 1) := by decide +kernel
theorem dX10_leads_100 : decode cX10_leads 100 = .ok (.bastore, 1) := by decide +kernel
theorem dX10_leads_101 : decode cX10_leads 101 = .ok (.iinc 5 1, 3) := by decide +kernel
theorem dX10_leads_104 : decode cX10_leads 104 = .ok (.goto (-57), 3) := by decide +kernel
theorem dX10_leads_107 : decode cX10_leads 107 = .ok (.iinc 4 1, 3) := by decide +kernel
theorem dX10_leads_110 : decode cX10_leads 110 = .ok (.goto (-73), 3) := by decide +kernel
theorem dX10_leads_113 : decode cX10_leads 113 = .ok (.aload_n 0, 1) := by decide +kernel
theorem dX10_leads_114 : decode cX10_leads 114 = .ok (.getfield 71, 3) := by decide +kernel
theorem dX10_leads_117 : decode cX10_leads 117 = .ok (.iload_n 2, 1) := by decide +kernel
theorem dX10_leads_118 : decode cX10_leads 118 = .ok (.baload, 1) := by decide +kernel
theorem dX10_leads_119 : decode cX10_leads 119 = .ok (.ireturn, 1) := by decide +kernel
set_option maxRecDepth 20000 in
theorem ggX10_turn_X10_leads : GoodIn wsX10_turn wsX10_leads := goodIn_r _ [9, 10, 2, 1, 4, 3, 11, 12, 13, 14, 15, 16, 17, 18, 19, 20, 21, 22, 23, 24, 25, 26, 27, 28, 29, 30, 31, 32, 33, 34] (by decide +kernel) (by decide +kernel)
set_option maxRecDepth 20000 in
theorem gX10_turn_X10_leads : GoodIn wsX10_turn (wsV RX10 90 RX10 yX10_leads wsX10_leads) := goodIn_app (goodIn_of _ (by decide +kernel)) ggX10_turn_X10_leads
theorem dX10_turn_0 : decode cX10_turn 0 = .ok (.iconst 0, 1) := by decide +kernel
theorem dX10_turn_1 : decode cX10_turn 1 = .ok (.istore_n 1, 1) := by decide +kernel
theorem dX10_turn_2 : decode cX10_turn 2 = .ok (.iload_n 1, 1) := by decide +kernel
theorem dX10_turn_3 : decode cX10_turn 3 = .ok (.bipush 24, 2) := by decide +kernel
theorem dX10_turn_5 : decode cX10_turn 5 = .ok (.if_icmp .ge 49, 3) := by decide +kernel
theorem dX10_turn_8 : decode cX10_turn 8 = .ok (.aload_n 0, 1) := by decide +kernel
theorem dX10_turn_9 : decode cX10_turn 9 = .ok (.getfield 29, 3) := by decide +kernel
theorem dX10_turn_12 : decode cX10_turn 12 = .ok (.iload_n 1, 1) := by decide +kernel
theorem dX10_turn_13 : decode cX10_turn 13 = .ok (.aload_n 0, 1) := by decide +kernel
theorem dX10_turn_14 : decode cX10_turn 14 = .ok (.getfield 20, 3) := by decide +kernel
theorem dX10_turn_17 : decode cX10_turn 17 = .ok (.iload_n 1, 1) := by decide +kernel
theorem dX10_turn_18 : decode cX10_turn 18 = .ok (.baload, 1) := by decide +kernel
theorem dX10_turn_19 : decode cX10_turn 19 = .ok (.ifCond .eq 27, 3) := by decide +kernel
theorem dX10_turn_22 : decode cX10_turn 22 = .ok (.aload_n 0, 1) := by decide +kernel
theorem dX10_turn_23 : decode cX10_turn 23 = .ok (.aload_n 0, 1) := by decide +kernel
theorem dX10_turn_24 : decode cX10_turn 24 = .ok (.getfield 26, 3) := by decide +kernel
theorem dX10_turn_27 : decode cX10_turn 27 = .ok (.iload_n 1, 1) := by decide +kernel
theorem dX10_turn_28 : decode cX10_turn 28 = .ok (.iaload, 1) := by decide +kernel
theorem dX10_turn_29 : decode cX10_turn 29 = .ok (.aload_n 0, 1) := by decide +kernel
theorem dX10_turn_30 : decode cX10_turn 30 = .ok (.getfield 23, 3) := by decide +kernel
theorem dX10_turn_33 : decode cX10_turn 33 = .ok (.iload_n 1, 1) := by decide +kernel
theorem dX10_turn_34 : decode cX10_turn 34 = .ok (.iaload, 1) := by decide +kernel
theorem dX10_turn_35 : decode cX10_turn 35 = .ok (.iload_n 1, 1) := by decide +kernel
theorem dX10_turn_36 : decode cX10_turn 36 = .ok (.invokevirtual 90, 3) := by decide +kernel
theorem dX10_turn_39 : decode cX10_turn 39 = .ok (.ifCond .eq 7, 3) := by decide +kernel
theorem dX10_turn_42 : decode cX10_turn 42 = .ok (.iconst 1, 1) := by decide +kernel
theorem dX10_turn_43 : decode cX10_turn 43 = .ok (.goto 4, 3) := by decide +kernel
theorem dX10_turn_46 : decode cX10_turn 46 = .ok (.iconst 0, 1) := by decide +kernel
theorem dX10_turn_47 : decode cX10_turn 47 = .ok (.bastore, 1) := by decide +kernel
theorem dX10_turn_48 : decode cX10_turn 48 = .ok (.iinc 1 1, 3) := by decide +kernel
theorem dX10_turn_51 : decode cX10_turn 51 = .ok (.goto (-49), 3) := by decide +kernel
theorem dX10_turn_54 : decode cX10_turn 54 = .ok (.return_, 1) := by decide +kernel
theorem dX10_upper_0 : decode cX10_upper 0 = .ok (.aload_n 0, 1) := by decide +kernel
theorem dX10_upper_1 : decode cX10_upper 1 = .ok (.getfield 29, 3) := by decide +kernel
theorem dX10_upper_4 : decode cX10_upper 4 = .ok (.iload_n 1, 1) := by decide +kernel
theorem dX10_upper_5 : decode cX10_upper 5 = .ok (.baload, 1) := by decide +kernel
theorem dX10_upper_6 : decode cX10_upper 6 = .ok (.ifCond .eq 12, 3) := by decide +kernel
theorem dX10_upper_9 : decode cX10_upper 9 = .ok (.aload_n 0, 1) := by decide +kernel
theorem dX10_upper_10 : decode cX10_upper 10 = .ok (.getfield 26, 3) := by decide +kernel
theorem dX10_upper_13 : decode cX10_upper 13 = .ok (.iload_n 1, 1) := by decide +kernel
theorem dX10_upper_14 : decode cX10_upper 14 = .ok (.iaload, 1) := by decide +kernel
theorem dX10_upper_15 : decode cX10_upper 15 = .ok (.goto 9, 3) := by decide +kernel
theorem dX10_upper_18 : decode cX10_upper 18 = .ok (.aload_n 0, 1) := by decide +kernel
theorem dX10_upper_19 : decode cX10_upper 19 = .ok (.getfield 23, 3) := by decide +kernel
theorem dX10_upper_22 : decode cX10_upper 22 = .ok (.iload_n 1, 1) := by decide +kernel
theorem dX10_upper_23 : decode cX10_upper 23 = .ok (.iaload, 1) := by decide +kernel
theorem dX10_upper_24 : decode cX10_upper 24 = .ok (.ireturn, 1) := by decide +kernel
theorem dX10_lower_0 : decode cX10_lower 0 = .ok (.aload_n 0, 1) := by decide +kernel
theorem dX10_lower_1 : decode cX10_lower 1 = .ok (.getfield 29, 3) := by decide +kernel
theorem dX10_lower_4 : decode cX10_lower 4 = .ok (.iload_n 1, 1) := by decide +kernel
theorem dX10_lower_5 : decode cX10_lower 5 = .ok (.baload, 1) := by decide +kernel
theorem dX10_lower_6 : decode cX10_lower 6 = .ok (.ifCond .eq 12, 3) := by decide +kernel
theorem dX10_lower_9 : decode cX10_lower 9 = .ok (.aload_n 0, 1) := by decide +kernel
theorem dX10_lower_10 : decode cX10_lower 10 = .ok (.getfield 23, 3) := by decide +kernel
theorem dX10_lower_13 : decode cX10_lower 13 = .ok (.iload_n 1, 1) := by decide +kernel
theorem dX10_lower_14 : decode cX10_lower 14 = .ok (.iaload, 1) := by decide +kernel
theorem dX10_lower_15 : decode cX10_lower 15 = .ok (.goto 9, 3) := by decide +kernel
theorem dX10_lower_18 : decode cX10_lower 18 = .ok (.aload_n 0, 1) := by decide +kernel
theorem dX10_lower_19 : decode cX10_lower 19 = .ok (.getfield 26, 3) := by decide +kernel
theorem dX10_lower_22 : decode cX10_lower 22 = .ok (.iload_n 1, 1) := by decide +kernel
theorem dX10_lower_23 : decode cX10_lower 23 = .ok (.iaload, 1) := by decide +kernel
theorem dX10_lower_24 : decode cX10_lower 24 = .ok (.ireturn, 1) := by decide +kernel
set_option maxRecDepth 20000 in
theorem ggX10_layOut_X10_turn : GoodIn wsX10_layOut wsX10_turn := goodIn_r _ [10, 11, 3, 12, 13, 14, 15, 16, 9, 17, 18, 27, 28, 29, 30, 31, 32, 33, 34, 35, 36, 37, 38, 39, 40, 41, 42, 43, 44, 45, 46, 47, 48, 49, 50] (by decide +kernel) (by decide +kernel)
set_option maxRecDepth 20000 in
theorem gX10_layOut_X10_turn : GoodIn wsX10_layOut (wsV RX10 93 RX10 yX10_turn wsX10_turn) := goodIn_app (goodIn_of _ (by decide +kernel)) ggX10_layOut_X10_turn
set_option maxRecDepth 20000 in
theorem ggX10_layOut_X10_lower : GoodIn wsX10_layOut wsX10_lower := goodIn_r _ [22, 11, 13, 12, 27, 28, 29, 30, 31, 32, 33, 34, 35, 36, 37, 38, 39, 40, 41, 42, 43, 44, 45, 46, 47, 48, 49, 50] (by decide +kernel) (by decide +kernel)
set_option maxRecDepth 20000 in
theorem gX10_layOut_X10_lower : GoodIn wsX10_layOut (wsV RX10 96 RX10 yX10_lower wsX10_lower) := goodIn_app (goodIn_of _ (by decide +kernel)) ggX10_layOut_X10_lower
set_option maxRecDepth 20000 in
theorem ggX10_layOut_X10_upper : GoodIn wsX10_layOut wsX10_upper := goodIn_r _ [26, 11, 12, 13, 27, 28, 29, 30, 31, 32, 33, 34, 35, 36, 37, 38, 39, 40, 41, 42, 43, 44, 45, 46, 47, 48, 49, 50] (by decide +kernel) (by decide +kernel)
set_option maxRecDepth 20000 in
theorem gX10_layOut_X10_upper : GoodIn wsX10_layOut (wsV RX10 100 RX10 yX10_upper wsX10_upper) := goodIn_app (goodIn_of _ (by decide +kernel)) ggX10_layOut_X10_upper
theorem dX10_layOut_0 : decode cX10_layOut 0 = .ok (.aload_n 0, 1) := by decide +kernel
theorem dX10_layOut_1 : decode cX10_layOut 1 = .ok (.invokevirtual 93, 3) := by decide +kernel
theorem dX10_layOut_4 : decode cX10_layOut 4 = .ok (.iconst 0, 1) := by decide +kernel
theorem dX10_layOut_5 : decode cX10_layOut 5 = .ok (.istore_n 1, 1) := by decide +kernel
theorem dX10_layOut_6 : decode cX10_layOut 6 = .ok (.iload_n 1, 1) := by decide +kernel
theorem dX10_layOut_7 : decode cX10_layOut 7 = .ok (.bipush 16, 2) := by decide +kernel
theorem dX10_layOut_9 : decode cX10_layOut 9 = .ok (.if_icmp .ge 34, 3) := by decide +kernel
theorem dX10_layOut_12 : decode cX10_layOut 12 = .ok (.aload_n 0, 1) := by decide +kernel
theorem dX10_layOut_13 : decode cX10_layOut 13 = .ok (.getfield 32, 3) := by decide +kernel
theorem dX10_layOut_16 : decode cX10_layOut 16 = .ok (.iload_n 1, 1) := by decide +kernel
theorem dX10_layOut_17 : decode cX10_layOut 17 = .ok (.aload_n 0, 1) := by decide +kernel
theorem dX10_layOut_18 : decode cX10_layOut 18 = .ok (.getfield 17, 3) := by decide +kernel
theorem dX10_layOut_21 : decode cX10_layOut 21 = .ok (.iload_n 1, 1) := by decide +kernel
theorem dX10_layOut_22 : decode cX10_layOut 22 = .ok (.iaload, 1) := by decide +kernel
theorem dX10_layOut_23 : decode cX10_layOut 23 = .ok (.ifCond .ge 7, 3) := by decide +kernel
theorem dX10_layOut_26 : decode cX10_layOut 26 = .ok (.iconst 0, 1) := by decide +kernel
theorem dX10_layOut_27 : decode cX10_layOut 27 = .ok (.goto 9, 3) := by decide +kernel
theorem dX10_layOut_30 : decode cX10_layOut 30 = .ok (.aload_n 0, 1) := by decide +kernel
theorem dX10_layOut_31 : decode cX10_layOut 31 = .ok (.getfield 17, 3) := by decide +kernel
theorem dX10_layOut_34 : decode cX10_layOut 34 = .ok (.iload_n 1, 1) := by decide +kernel
theorem dX10_layOut_35 : decode cX10_layOut 35 = .ok (.iaload, 1) := by decide +kernel
theorem dX10_layOut_36 : decode cX10_layOut 36 = .ok (.iastore, 1) := by decide +kernel
theorem dX10_layOut_37 : decode cX10_layOut 37 = .ok (.iinc 1 1, 3) := by decide +kernel
theorem dX10_layOut_40 : decode cX10_layOut 40 = .ok (.goto (-34), 3) := by decide +kernel
theorem dX10_layOut_43 : decode cX10_layOut 43 = .ok (.iconst 0, 1) := by decide +kernel
theorem dX10_layOut_44 : decode cX10_layOut 44 = .ok (.istore_n 1, 1) := by decide +kernel
theorem dX10_layOut_45 : decode cX10_layOut 45 = .ok (.iload_n 1, 1) := by decide +kernel
theorem dX10_layOut_46 : decode cX10_layOut 46 = .ok (.bipush 16, 2) := by decide +kernel
theorem dX10_layOut_48 : decode cX10_layOut 48 = .ok (.if_icmp .ge 86, 3) := by decide +kernel
theorem dX10_layOut_51 : decode cX10_layOut 51 = .ok (.iconst 0, 1) := by decide +kernel
theorem dX10_layOut_52 : decode cX10_layOut 52 = .ok (.istore_n 2, 1) := by decide +kernel
theorem dX10_layOut_53 : decode cX10_layOut 53 = .ok (.iload_n 2, 1) := by decide +kernel
theorem dX10_layOut_54 : decode cX10_layOut 54 = .ok (.bipush 24, 2) := by decide +kernel
theorem dX10_layOut_56 : decode cX10_layOut 56 = .ok (.if_icmp .ge 72, 3) := by decide +kernel
theorem dX10_layOut_59 : decode cX10_layOut 59 = .ok (.aload_n 0, 1) := by decide +kernel
theorem dX10_layOut_60 : decode cX10_layOut 60 = .ok (.getfield 20, 3) := by decide +kernel
theorem dX10_layOut_63 : decode cX10_layOut 63 = .ok (.iload_n 2, 1) := by decide +kernel
theorem dX10_layOut_64 : decode cX10_layOut 64 = .ok (.baload, 1) := by decide +kernel
theorem dX10_layOut_65 : decode cX10_layOut 65 = .ok (.ifCond .eq 57, 3) := by decide +kernel
theorem dX10_layOut_68 : decode cX10_layOut 68 = .ok (.aload_n 0, 1) := by decide +kernel
theorem dX10_layOut_69 : decode cX10_layOut 69 = .ok (.getfield 17, 3) := by decide +kernel
theorem dX10_layOut_72 : decode cX10_layOut 72 = .ok (.aload_n 0, 1) := by decide +kernel
theorem dX10_layOut_73 : decode cX10_layOut 73 = .ok (.iload_n 2, 1) := by decide +kernel
theorem dX10_layOut_74 : decode cX10_layOut 74 = .ok (.invokevirtual 96, 3) := by decide +kernel
theorem dX10_layOut_77 : decode cX10_layOut 77 = .ok (.iaload, 1) := by decide +kernel
theorem dX10_layOut_78 : decode cX10_layOut 78 = .ok (.ifCond .lt 6, 3) := by decide +kernel
theorem dX10_layOut_81 : decode cX10_layOut 81 = .ok (.goto 41, 3) := by decide +kernel
theorem dX10_layOut_84 : decode cX10_layOut 84 = .ok (.aload_n 0, 1) := by decide +kernel
theorem dX10_layOut_85 : decode cX10_layOut 85 = .ok (.getfield 32, 3) := by decide +kernel
theorem dX10_layOut_88 : decode cX10_layOut 88 = .ok (.aload_n 0, 1) := by decide +kernel
theorem dX10_layOut_89 : decode cX10_layOut 89 = .ok (.iload_n 2, 1) := by decide +kernel
theorem dX10_layOut_90 : decode cX10_layOut 90 = .ok (.invokevirtual 100, 3) := by decide +kernel
theorem dX10_layOut_93 : decode cX10_layOut 93 = .ok (.iaload, 1) := by decide +kernel
theorem dX10_layOut_94 : decode cX10_layOut 94 = .ok (.iconst 1, 1) := by decide +kernel
theorem dX10_layOut_95 : decode cX10_layOut 95 = .ok (.iadd, 1) := by decide +kernel
theorem dX10_layOut_96 : decode cX10_layOut 96 = .ok (.istore_n 3, 1) := by decide +kernel
theorem dX10_layOut_97 : decode cX10_layOut 97 = .ok (.aload_n 0, 1) := by decide +kernel
theorem dX10_layOut_98 : decode cX10_layOut 98 = .ok (.getfield 32, 3) := by decide +kernel
theorem dX10_layOut_101 : decode cX10_layOut 101 = .ok (.aload_n 0, 1) := by decide +kernel
theorem dX10_layOut_102 : decode cX10_layOut 102 = .ok (.iload_n 2, 1) := by decide +kernel
theorem dX10_layOut_103 : decode cX10_layOut 103 = .ok (.invokevirtual 96, 3) := by decide +kernel
theorem dX10_layOut_106 : decode cX10_layOut 106 = .ok (.iaload, 1) := by decide +kernel
theorem dX10_layOut_107 : decode cX10_layOut 107 = .ok (.iload_n 3, 1) := by decide +kernel
theorem dX10_layOut_108 : decode cX10_layOut 108 = .ok (.if_icmp .ge 14, 3) := by decide +kernel
theorem dX10_layOut_111 : decode cX10_layOut 111 = .ok (.aload_n 0, 1) := by decide +kernel
theorem dX10_layOut_112 : decode cX10_layOut 112 = .ok (.getfield 32, 3) := by decide +kernel
theorem dX10_layOut_115 : decode cX10_layOut 115 = .ok (.aload_n 0, 1) := by decide +kernel
theorem dX10_layOut_116 : decode cX10_layOut 116 = .ok (.iload_n 2, 1) := by decide +kernel
theorem dX10_layOut_117 : decode cX10_layOut 117 = .ok (.invokevirtual 96, 3) := by decide +kernel
theorem dX10_layOut_120 : decode cX10_layOut 120 = .ok (.iload_n 3, 1) := by decide +kernel
theorem dX10_layOut_121 : decode cX10_layOut 121 = .ok (.iastore, 1) := by decide +kernel
theorem dX10_layOut_122 : decode cX10_layOut 122 = .ok (.iinc 2 1, 3) := by decide +kernel
theorem dX10_layOut_125 : decode cX10_layOut 125 = .ok (.goto (-72), 3) := by decide +kernel
theorem dX10_layOut_128 : decode cX10_layOut 128 = .ok (.iinc 1 1, 3) := by decide +kernel
theorem dX10_layOut_131 : decode cX10_layOut 131 = .ok (.goto (-86), 3) := by decide +kernel
theorem dX10_layOut_134 : decode cX10_layOut 134 = .ok (.aload_n 0, 1) := by decide +kernel
theorem dX10_layOut_135 : decode cX10_layOut 135 = .ok (.iconst 0, 1) := by decide +kernel
theorem dX10_layOut_136 : decode cX10_layOut 136 = .ok (.putfield 103, 3) := by decide +kernel
theorem dX10_layOut_139 : decode cX10_layOut 139 = .ok (.iconst 0, 1) := by decide +kernel
theorem dX10_layOut_140 : decode cX10_layOut 140 = .ok (.istore_n 1, 1) := by decide +kernel
theorem dX10_layOut_141 : decode cX10_layOut 141 = .ok (.iload_n 1, 1) := by decide +kernel
theorem dX10_layOut_142 : decode cX10_layOut 142 = .ok (.bipush 16, 2) := by decide +kernel
theorem dX10_layOut_144 : decode cX10_layOut 144 = .ok (.if_icmp .ge 43, 3) := by decide +kernel
theorem dX10_layOut_147 : decode cX10_layOut 147 = .ok (.aload_n 0, 1) := by decide +kernel
theorem dX10_layOut_148 : decode cX10_layOut 148 = .ok (.getfield 7, 3) := by decide +kernel
theorem dX10_layOut_151 : decode cX10_layOut 151 = .ok (.iload_n 1, 1) := by decide +kernel
theorem dX10_layOut_152 : decode cX10_layOut 152 = .ok (.baload, 1) := by decide +kernel
theorem dX10_layOut_153 : decode cX10_layOut 153 = .ok (.ifCond .eq 28, 3) := by decide +kernel
theorem dX10_layOut_156 : decode cX10_layOut 156 = .ok (.aload_n 0, 1) := by decide +kernel
theorem dX10_layOut_157 : decode cX10_layOut 157 = .ok (.getfield 32, 3) := by decide +kernel
theorem dX10_layOut_160 : decode cX10_layOut 160 = .ok (.iload_n 1, 1) := by decide +kernel
theorem dX10_layOut_161 : decode cX10_layOut 161 = .ok (.iaload, 1) := by decide +kernel
theorem dX10_layOut_162 : decode cX10_layOut 162 = .ok (.aload_n 0, 1) := by decide +kernel
theorem dX10_layOut_163 : decode cX10_layOut 163 = .ok (.getfield 103, 3) := by decide +kernel
theorem dX10_layOut_166 : decode cX10_layOut 166 = .ok (.if_icmp .lt 15, 3) := by decide +kernel
theorem dX10_layOut_169 : decode cX10_layOut 169 = .ok (.aload_n 0, 1) := by decide +kernel
theorem dX10_layOut_170 : decode cX10_layOut 170 = .ok (.aload_n 0, 1) := by decide +kernel
theorem dX10_layOut_171 : decode cX10_layOut 171 = .ok (.getfield 32, 3) := by decide +kernel
theorem dX10_layOut_174 : decode cX10_layOut 174 = .ok (.iload_n 1, 1) := by decide +kernel
theorem dX10_layOut_175 : decode cX10_layOut 175 = .ok (.iaload, 1) := by decide +kernel
theorem dX10_layOut_176 : decode cX10_layOut 176 = .ok (.iconst 1, 1) := by decide +kernel
theorem dX10_layOut_177 : decode cX10_layOut 177 = .ok (.iadd, 1) := by decide +kernel
theorem dX10_layOut_178 : decode cX10_layOut 178 = .ok (.putfield 103, 3) := by decide +kernel
theorem dX10_layOut_181 : decode cX10_layOut 181 = .ok (.iinc 1 1, 3) := by decide +kernel
theorem dX10_layOut_184 : decode cX10_layOut 184 = .ok (.goto (-43), 3) := by decide +kernel
theorem dX10_layOut_187 : decode cX10_layOut 187 = .ok (.iconst 0, 1) := by decide +kernel
theorem dX10_layOut_188 : decode cX10_layOut 188 = .ok (.istore_n 1, 1) := by decide +kernel
theorem dX10_layOut_189 : decode cX10_layOut 189 = .ok (.iload_n 1, 1) := by decide +kernel
theorem dX10_layOut_190 : decode cX10_layOut 190 = .ok (.bipush 24, 2) := by decide +kernel
theorem dX10_layOut_192 : decode cX10_layOut 192 = .ok (.if_icmp .ge 43, 3) := by decide +kernel
theorem dX10_layOut_195 : decode cX10_layOut 195 = .ok (.aload_n 0, 1) := by decide +kernel
theorem dX10_layOut_196 : decode cX10_layOut 196 = .ok (.getfield 20, 3) := by decide +kernel
theorem dX10_layOut_199 : decode cX10_layOut 199 = .ok (.iload_n 1, 1) := by decide +kernel
theorem dX10_layOut_200 : decode cX10_layOut 200 = .ok (.baload, 1) := by decide +kernel
theorem dX10_layOut_201 : decode cX10_layOut 201 = .ok (.ifCond .eq 28, 3) := by decide +kernel
theorem dX10_layOut_204 : decode cX10_layOut 204 = .ok (.aload_n 0, 1) := by decide +kernel
theorem dX10_layOut_205 : decode cX10_layOut 205 = .ok (.getfield 32, 3) := by decide +kernel
theorem dX10_layOut_208 : decode cX10_layOut 208 = .ok (.aload_n 0, 1) := by decide +kernel
theorem dX10_layOut_209 : decode cX10_layOut 209 = .ok (.iload_n 1, 1) := by decide +kernel
theorem dX10_layOut_210 : decode cX10_layOut 210 = .ok (.invokevirtual 100, 3) := by decide +kernel
theorem dX10_layOut_213 : decode cX10_layOut 213 = .ok (.iaload, 1) := by decide +kernel
theorem dX10_layOut_214 : decode cX10_layOut 214 = .ok (.aload_n 0, 1) := by decide +kernel
theorem dX10_layOut_215 : decode cX10_layOut 215 = .ok (.getfield 32, 3) := by decide +kernel
theorem dX10_layOut_218 : decode cX10_layOut 218 = .ok (.aload_n 0, 1) := by decide +kernel
theorem dX10_layOut_219 : decode cX10_layOut 219 = .ok (.iload_n 1, 1) := by decide +kernel
theorem dX10_layOut_220 : decode cX10_layOut 220 = .ok (.invokevirtual 96, 3) := by decide +kernel
theorem dX10_layOut_223 : decode cX10_layOut 223 = .ok (.iaload, 1) := by decide +kernel
theorem dX10_layOut_224 : decode cX10_layOut 224 = .ok (.if_icmp .lt 5, 3) := by decide +kernel
theorem dX10_layOut_227 : decode cX10_layOut 227 = .ok (.iconst 0, 1) := by decide +kernel
theorem dX10_layOut_228 : decode cX10_layOut 228 = .ok (.ireturn, 1) := by decide +kernel
theorem dX10_layOut_229 : decode cX10_layOut 229 = .ok (.iinc 1 1, 3) := by decide +kernel
theorem dX10_layOut_232 : decode cX10_layOut 232 = .ok (.goto (-43), 3) := by decide +kernel
theorem dX10_layOut_235 : decode cX10_layOut 235 = .ok (.iconst 1, 1) := by decide +kernel
theorem dX10_layOut_236 : decode cX10_layOut 236 = .ok (.ireturn, 1) := by decide +kernel
set_option maxRecDepth 20000 in
theorem ggX10_hasPiece_X10_upper : GoodIn wsX10_hasPiece wsX10_upper := goodIn_r _ [7, 8, 9, 10, 15, 16, 17, 18, 19, 20, 21, 22, 23, 24, 25, 26, 27, 28, 29, 30, 31, 32, 33, 34, 35, 36, 37, 38] (by decide +kernel) (by decide +kernel)
set_option maxRecDepth 20000 in
theorem gX10_hasPiece_X10_upper : GoodIn wsX10_hasPiece (wsV RX10 100 RX10 yX10_upper wsX10_upper) := goodIn_app (goodIn_of _ (by decide +kernel)) ggX10_hasPiece_X10_upper
set_option maxRecDepth 20000 in
theorem ggX10_hasPiece_X10_lower : GoodIn wsX10_hasPiece wsX10_lower := goodIn_r _ [14, 8, 10, 9, 15, 16, 17, 18, 19, 20, 21, 22, 23, 24, 25, 26, 27, 28, 29, 30, 31, 32, 33, 34, 35, 36, 37, 38] (by decide +kernel) (by decide +kernel)
set_option maxRecDepth 20000 in
theorem gX10_hasPiece_X10_lower : GoodIn wsX10_hasPiece (wsV RX10 96 RX10 yX10_lower wsX10_lower) := goodIn_app (goodIn_of _ (by decide +kernel)) ggX10_hasPiece_X10_lower
theorem dX10_hasPiece_0 : decode cX10_hasPiece 0 = .ok (.aload_n 0, 1) := by decide +kernel
theorem dX10_hasPiece_1 : decode cX10_hasPiece 1 = .ok (.getfield 20, 3) := by decide +kernel
theorem dX10_hasPiece_4 : decode cX10_hasPiece 4 = .ok (.iload_n 1, 1) := by decide +kernel
theorem dX10_hasPiece_5 : decode cX10_hasPiece 5 = .ok (.baload, 1) := by decide +kernel
theorem dX10_hasPiece_6 : decode cX10_hasPiece 6 = .ok (.ifCond .eq 35, 3) := by decide +kernel
theorem dX10_hasPiece_9 : decode cX10_hasPiece 9 = .ok (.aload_n 0, 1) := by decide +kernel
theorem dX10_hasPiece_10 : decode cX10_hasPiece 10 = .ok (.getfield 32, 3) := by decide +kernel
theorem dX10_hasPiece_13 : decode cX10_hasPiece 13 = .ok (.aload_n 0, 1) := by decide +kernel
theorem dX10_hasPiece_14 : decode cX10_hasPiece 14 = .ok (.iload_n 1, 1) := by decide +kernel
theorem dX10_hasPiece_15 : decode cX10_hasPiece 15 = .ok (.invokevirtual 100, 3) := by decide +kernel
theorem dX10_hasPiece_18 : decode cX10_hasPiece 18 = .ok (.iaload, 1) := by decide +kernel
theorem dX10_hasPiece_19 : decode cX10_hasPiece 19 = .ok (.iload_n 2, 1) := by decide +kernel
theorem dX10_hasPiece_20 : decode cX10_hasPiece 20 = .ok (.if_icmp .gt 21, 3) := by decide +kernel
theorem dX10_hasPiece_23 : decode cX10_hasPiece 23 = .ok (.iload_n 2, 1) := by decide +kernel
theorem dX10_hasPiece_24 : decode cX10_hasPiece 24 = .ok (.aload_n 0, 1) := by decide +kernel
theorem dX10_hasPiece_25 : decode cX10_hasPiece 25 = .ok (.getfield 32, 3) := by decide +kernel
theorem dX10_hasPiece_28 : decode cX10_hasPiece 28 = .ok (.aload_n 0, 1) := by decide +kernel
theorem dX10_hasPiece_29 : decode cX10_hasPiece 29 = .ok (.iload_n 1, 1) := by decide +kernel
theorem dX10_hasPiece_30 : decode cX10_hasPiece 30 = .ok (.invokevirtual 96, 3) := by decide +kernel
theorem dX10_hasPiece_33 : decode cX10_hasPiece 33 = .ok (.iaload, 1) := by decide +kernel
theorem dX10_hasPiece_34 : decode cX10_hasPiece 34 = .ok (.if_icmp .ge 7, 3) := by decide +kernel
theorem dX10_hasPiece_37 : decode cX10_hasPiece 37 = .ok (.iconst 1, 1) := by decide +kernel
theorem dX10_hasPiece_38 : decode cX10_hasPiece 38 = .ok (.goto 4, 3) := by decide +kernel
theorem dX10_hasPiece_41 : decode cX10_hasPiece 41 = .ok (.iconst 0, 1) := by decide +kernel
theorem dX10_hasPiece_42 : decode cX10_hasPiece 42 = .ok (.ireturn, 1) := by decide +kernel
set_option maxRecDepth 20000 in
theorem ggX10_hasDummy_X10_upper : GoodIn wsX10_hasDummy wsX10_upper := goodIn_r _ [7, 8, 9, 10, 15, 16, 17, 18, 19, 20, 21, 22, 23, 24, 25, 26, 27, 28, 29, 30, 31, 32, 33, 34, 35, 36, 37, 38] (by decide +kernel) (by decide +kernel)
set_option maxRecDepth 20000 in
theorem gX10_hasDummy_X10_upper : GoodIn wsX10_hasDummy (wsV RX10 100 RX10 yX10_upper wsX10_upper) := goodIn_app (goodIn_of _ (by decide +kernel)) ggX10_hasDummy_X10_upper
set_option maxRecDepth 20000 in
theorem ggX10_hasDummy_X10_lower : GoodIn wsX10_hasDummy wsX10_lower := goodIn_r _ [14, 8, 10, 9, 15, 16, 17, 18, 19, 20, 21, 22, 23, 24, 25, 26, 27, 28, 29, 30, 31, 32, 33, 34, 35, 36, 37, 38] (by decide +kernel) (by decide +kernel)
set_option maxRecDepth 20000 in
theorem gX10_hasDummy_X10_lower : GoodIn wsX10_hasDummy (wsV RX10 96 RX10 yX10_lower wsX10_lower) := goodIn_app (goodIn_of _ (by decide +kernel)) ggX10_hasDummy_X10_lower
theorem dX10_hasDummy_0 : decode cX10_hasDummy 0 = .ok (.aload_n 0, 1) := by decide +kernel
theorem dX10_hasDummy_1 : decode cX10_hasDummy 1 = .ok (.getfield 20, 3) := by decide +kernel
theorem dX10_hasDummy_4 : decode cX10_hasDummy 4 = .ok (.iload_n 1, 1) := by decide +kernel
theorem dX10_hasDummy_5 : decode cX10_hasDummy 5 = .ok (.baload, 1) := by decide +kernel
theorem dX10_hasDummy_6 : decode cX10_hasDummy 6 = .ok (.ifCond .eq 35, 3) := by decide +kernel
theorem dX10_hasDummy_9 : decode cX10_hasDummy 9 = .ok (.aload_n 0, 1) := by decide +kernel
theorem dX10_hasDummy_10 : decode cX10_hasDummy 10 = .ok (.getfield 32, 3) := by decide +kernel
theorem dX10_hasDummy_13 : decode cX10_hasDummy 13 = .ok (.aload_n 0, 1) := by decide +kernel
theorem dX10_hasDummy_14 : decode cX10_hasDummy 14 = .ok (.iload_n 1, 1) := by decide +kernel
theorem dX10_hasDummy_15 : decode cX10_hasDummy 15 = .ok (.invokevirtual 100, 3) := by decide +kernel
theorem dX10_hasDummy_18 : decode cX10_hasDummy 18 = .ok (.iaload, 1) := by decide +kernel
theorem dX10_hasDummy_19 : decode cX10_hasDummy 19 = .ok (.iload_n 2, 1) := by decide +kernel
theorem dX10_hasDummy_20 : decode cX10_hasDummy 20 = .ok (.if_icmp .ge 21, 3) := by decide +kernel
theorem dX10_hasDummy_23 : decode cX10_hasDummy 23 = .ok (.iload_n 2, 1) := by decide +kernel
theorem dX10_hasDummy_24 : decode cX10_hasDummy 24 = .ok (.aload_n 0, 1) := by decide +kernel
theorem dX10_hasDummy_25 : decode cX10_hasDummy 25 = .ok (.getfield 32, 3) := by decide +kernel
theorem dX10_hasDummy_28 : decode cX10_hasDummy 28 = .ok (.aload_n 0, 1) := by decide +kernel
theorem dX10_hasDummy_29 : decode cX10_hasDummy 29 = .ok (.iload_n 1, 1) := by decide +kernel
theorem dX10_hasDummy_30 : decode cX10_hasDummy 30 = .ok (.invokevirtual 96, 3) := by decide +kernel
theorem dX10_hasDummy_33 : decode cX10_hasDummy 33 = .ok (.iaload, 1) := by decide +kernel
theorem dX10_hasDummy_34 : decode cX10_hasDummy 34 = .ok (.if_icmp .ge 7, 3) := by decide +kernel
theorem dX10_hasDummy_37 : decode cX10_hasDummy 37 = .ok (.iconst 1, 1) := by decide +kernel
theorem dX10_hasDummy_38 : decode cX10_hasDummy 38 = .ok (.goto 4, 3) := by decide +kernel
theorem dX10_hasDummy_41 : decode cX10_hasDummy 41 = .ok (.iconst 0, 1) := by decide +kernel
theorem dX10_hasDummy_42 : decode cX10_hasDummy 42 = .ok (.ireturn, 1) := by decide +kernel
theorem dX10_item0_0 : decode cX10_item0 0 = .ok (.aload_n 0, 1) := by decide +kernel
theorem dX10_item0_1 : decode cX10_item0 1 = .ok (.getfield 38, 3) := by decide +kernel
theorem dX10_item0_4 : decode cX10_item0 4 = .ok (.bipush 40, 2) := by decide +kernel
theorem dX10_item0_6 : decode cX10_item0 6 = .ok (.iload_n 1, 1) := by decide +kernel
theorem dX10_item0_7 : decode cX10_item0 7 = .ok (.imul, 1) := by decide +kernel
theorem dX10_item0_8 : decode cX10_item0 8 = .ok (.iload_n 2, 1) := by decide +kernel
theorem dX10_item0_9 : decode cX10_item0 9 = .ok (.iadd, 1) := by decide +kernel
theorem dX10_item0_10 : decode cX10_item0 10 = .ok (.iaload, 1) := by decide +kernel
theorem dX10_item0_11 : decode cX10_item0 11 = .ok (.ireturn, 1) := by decide +kernel
set_option maxRecDepth 20000 in
theorem ggX10_note_X10_item0 : GoodIn wsX10_note wsX10_item0 := goodIn_r _ [8, 9, 10, 11, 12, 13, 14, 15, 16, 17, 18, 19, 20, 21, 22, 23, 24, 25, 26, 27, 28, 29, 30, 31, 32, 33] (by decide +kernel) (by decide +kernel)
set_option maxRecDepth 20000 in
theorem gX10_note_X10_item0 : GoodIn wsX10_note (wsV RX10 106 RX10 yX10_item0 wsX10_item0) := goodIn_app (goodIn_of _ (by decide +kernel)) ggX10_note_X10_item0
theorem dX10_note_0 : decode cX10_note 0 = .ok (.iconst 0, 1) := by decide +kernel
theorem dX10_note_1 : decode cX10_note 1 = .ok (.istore_n 2, 1) := by decide +kernel
theorem dX10_note_2 : decode cX10_note 2 = .ok (.iload_n 2, 1) := by decide +kernel
theorem dX10_note_3 : decode cX10_note 3 = .ok (.aload_n 0, 1) := by decide +kernel
theorem dX10_note_4 : decode cX10_note 4 = .ok (.getfield 35, 3) := by decide +kernel
theorem dX10_note_7 : decode cX10_note 7 = .ok (.iload_n 1, 1) := by decide +kernel
theorem dX10_note_8 : decode cX10_note 8 = .ok (.iaload, 1) := by decide +kernel
theorem dX10_note_9 : decode cX10_note 9 = .ok (.if_icmp .ge 47, 3) := by decide +kernel
theorem dX10_note_12 : decode cX10_note 12 = .ok (.aload_n 0, 1) := by decide +kernel
theorem dX10_note_13 : decode cX10_note 13 = .ok (.iload_n 1, 1) := by decide +kernel
theorem dX10_note_14 : decode cX10_note 14 = .ok (.iload_n 2, 1) := by decide +kernel
theorem dX10_note_15 : decode cX10_note 15 = .ok (.invokevirtual 106, 3) := by decide +kernel
theorem dX10_note_18 : decode cX10_note 18 = .ok (.istore_n 3, 1) := by decide +kernel
theorem dX10_note_19 : decode cX10_note 19 = .ok (.iload_n 3, 1) := by decide +kernel
theorem dX10_note_20 : decode cX10_note 20 = .ok (.bipush 100, 2) := by decide +kernel
theorem dX10_note_22 : decode cX10_note 22 = .ok (.if_icmp .ge 13, 3) := by decide +kernel
theorem dX10_note_25 : decode cX10_note 25 = .ok (.aload_n 0, 1) := by decide +kernel
theorem dX10_note_26 : decode cX10_note 26 = .ok (.getfield 41, 3) := by decide +kernel
theorem dX10_note_29 : decode cX10_note 29 = .ok (.iload_n 3, 1) := by decide +kernel
theorem dX10_note_30 : decode cX10_note 30 = .ok (.iload_n 2, 1) := by decide +kernel
theorem dX10_note_31 : decode cX10_note 31 = .ok (.iastore, 1) := by decide +kernel
theorem dX10_note_32 : decode cX10_note 32 = .ok (.goto 18, 3) := by decide +kernel
theorem dX10_note_35 : decode cX10_note 35 = .ok (.aload_n 0, 1) := by decide +kernel
theorem dX10_note_36 : decode cX10_note 36 = .ok (.getfield 44, 3) := by decide +kernel
theorem dX10_note_39 : decode cX10_note 39 = .ok (.bipush 24, 2) := by decide +kernel
theorem dX10_note_41 : decode cX10_note 41 = .ok (.iload_n 3, 1) := by decide +kernel
theorem dX10_note_42 : decode cX10_note 42 = .ok (.bipush 100, 2) := by decide +kernel
theorem dX10_note_44 : decode cX10_note 44 = .ok (.isub, 1) := by decide +kernel
theorem dX10_note_45 : decode cX10_note 45 = .ok (.imul, 1) := by decide +kernel
theorem dX10_note_46 : decode cX10_note 46 = .ok (.iload_n 1, 1) := by decide +kernel
theorem dX10_note_47 : decode cX10_note 47 = .ok (.iadd, 1) := by decide +kernel
theorem dX10_note_48 : decode cX10_note 48 = .ok (.iload_n 2, 1) := by decide +kernel
theorem dX10_note_49 : decode cX10_note 49 = .ok (.iastore, 1) := by decide +kernel
theorem dX10_note_50 : decode cX10_note 50 = .ok (.iinc 2 1, 3) := by decide +kernel
theorem dX10_note_53 : decode cX10_note 53 = .ok (.goto (-51), 3) := by decide +kernel
theorem dX10_note_56 : decode cX10_note 56 = .ok (.return_, 1) := by decide +kernel
theorem dX10_add_0 : decode cX10_add 0 = .ok (.aload_n 0, 1) := by decide +kernel
theorem dX10_add_1 : decode cX10_add 1 = .ok (.getfield 38, 3) := by decide +kernel
theorem dX10_add_4 : decode cX10_add 4 = .ok (.bipush 40, 2) := by decide +kernel
theorem dX10_add_6 : decode cX10_add 6 = .ok (.iload_n 1, 1) := by decide +kernel
theorem dX10_add_7 : decode cX10_add 7 = .ok (.imul, 1) := by decide +kernel
theorem dX10_add_8 : decode cX10_add 8 = .ok (.aload_n 0, 1) := by decide +kernel
theorem dX10_add_9 : decode cX10_add 9 = .ok (.getfield 35, 3) := by decide +kernel
theorem dX10_add_12 : decode cX10_add 12 = .ok (.iload_n 1, 1) := by decide +kernel
theorem dX10_add_13 : decode cX10_add 13 = .ok (.iaload, 1) := by decide +kernel
theorem dX10_add_14 : decode cX10_add 14 = .ok (.iadd, 1) := by decide +kernel
theorem dX10_add_15 : decode cX10_add 15 = .ok (.iload_n 2, 1) := by decide +kernel
theorem dX10_add_16 : decode cX10_add 16 = .ok (.iastore, 1) := by decide +kernel
theorem dX10_add_17 : decode cX10_add 17 = .ok (.aload_n 0, 1) := by decide +kernel
theorem dX10_add_18 : decode cX10_add 18 = .ok (.getfield 35, 3) := by decide +kernel
theorem dX10_add_21 : decode cX10_add 21 = .ok (.iload_n 1, 1) := by decide +kernel
theorem dX10_add_22 : decode cX10_add 22 = .ok (.dup2, 1) := by decide +kernel
theorem dX10_add_23 : decode cX10_add 23 = .ok (.iaload, 1) := by decide +kernel
theorem dX10_add_24 : decode cX10_add 24 = .ok (.iconst 1, 1) := by decide +kernel
theorem dX10_add_25 : decode cX10_add 25 = .ok (.iadd, 1) := by decide +kernel
theorem dX10_add_26 : decode cX10_add 26 = .ok (.iastore, 1) := by decide +kernel
theorem dX10_add_27 : decode cX10_add 27 = .ok (.return_, 1) := by decide +kernel
set_option maxRecDepth 20000 in
theorem ggX10_firstOrders_X10_add : GoodIn wsX10_firstOrders wsX10_add := goodIn_r _ [9, 10, 2, 37, 38, 39, 40, 41, 42, 43, 44, 45, 46, 47, 48, 49, 50, 51, 52, 53, 54, 55, 56, 57, 58, 59, 60] (by decide +kernel) (by decide +kernel)
set_option maxRecDepth 20000 in
theorem gX10_firstOrders_X10_add : GoodIn wsX10_firstOrders (wsV RX10 110 RX10 yX10_add wsX10_add) := goodIn_app (goodIn_of _ (by decide +kernel)) ggX10_firstOrders_X10_add
set_option maxRecDepth 20000 in
theorem ggX10_firstOrders_X10_hasDummy : GoodIn wsX10_firstOrders wsX10_hasDummy := goodIn_r _ [14, 15, 4, 16, 17, 18, 8, 19, 20, 21, 22, 23, 24, 25, 26, 37, 38, 39, 40, 41, 42, 43, 44, 45, 46, 47, 48, 49, 50, 51, 52, 53, 54, 55, 56, 57, 58, 59, 60] (by decide +kernel) (by decide +kernel)
set_option maxRecDepth 20000 in
theorem gX10_firstOrders_X10_hasDummy : GoodIn wsX10_firstOrders (wsV RX10 114 RX10 yX10_hasDummy wsX10_hasDummy) := goodIn_app (goodIn_of _ (by decide +kernel)) ggX10_firstOrders_X10_hasDummy
set_option maxRecDepth 20000 in
theorem ggX10_firstOrders_X10_note : GoodIn wsX10_firstOrders wsX10_note := goodIn_r _ [30, 2, 31, 32, 33, 34, 35, 8, 36, 10, 37, 38, 39, 40, 41, 42, 43, 44, 45, 46, 47, 48, 49, 50, 51, 52, 53, 54, 55, 56, 57, 58, 59, 60] (by decide +kernel) (by decide +kernel)
set_option maxRecDepth 20000 in
theorem gX10_firstOrders_X10_note : GoodIn wsX10_firstOrders (wsV RX10 118 RX10 yX10_note wsX10_note) := goodIn_app (goodIn_of _ (by decide +kernel)) ggX10_firstOrders_X10_note
theorem dX10_firstOrders_0 : decode cX10_firstOrders 0 = .ok (.iconst 0, 1) := by decide +kernel
theorem dX10_firstOrders_1 : decode cX10_firstOrders 1 = .ok (.istore_n 1, 1) := by decide +kernel
theorem dX10_firstOrders_2 : decode cX10_firstOrders 2 = .ok (.iload_n 1, 1) := by decide +kernel
theorem dX10_firstOrders_3 : decode cX10_firstOrders 3 = .ok (.aload_n 0, 1) := by decide +kernel
theorem dX10_firstOrders_4 : decode cX10_firstOrders 4 = .ok (.getfield 103, 3) := by decide +kernel
theorem dX10_firstOrders_7 : decode cX10_firstOrders 7 = .ok (.if_icmp .ge 92, 3) := by decide +kernel
theorem dX10_firstOrders_10 : decode cX10_firstOrders 10 = .ok (.aload_n 0, 1) := by decide +kernel
theorem dX10_firstOrders_11 : decode cX10_firstOrders 11 = .ok (.getfield 35, 3) := by decide +kernel
theorem dX10_firstOrders_14 : decode cX10_firstOrders 14 = .ok (.iload_n 1, 1) := by decide +kernel
theorem dX10_firstOrders_15 : decode cX10_firstOrders 15 = .ok (.iconst 0, 1) := by decide +kernel
theorem dX10_firstOrders_16 : decode cX10_firstOrders 16 = .ok (.iastore, 1) := by decide +kernel
theorem dX10_firstOrders_17 : decode cX10_firstOrders 17 = .ok (.iconst 0, 1) := by decide +kernel
theorem dX10_firstOrders_18 : decode cX10_firstOrders 18 = .ok (.istore_n 2, 1) := by decide +kernel
theorem dX10_firstOrders_19 : decode cX10_firstOrders 19 = .ok (.iload_n 2, 1) := by decide +kernel
theorem dX10_firstOrders_20 : decode cX10_firstOrders 20 = .ok (.bipush 16, 2) := by decide +kernel
theorem dX10_firstOrders_22 : decode cX10_firstOrders 22 = .ok (.if_icmp .ge 34, 3) := by decide +kernel
theorem dX10_firstOrders_25 : decode cX10_firstOrders 25 = .ok (.aload_n 0, 1) := by decide +kernel
theorem dX10_firstOrders_26 : decode cX10_firstOrders 26 = .ok (.getfield 7, 3) := by decide +kernel
theorem dX10_firstOrders_29 : decode cX10_firstOrders 29 = .ok (.iload_n 2, 1) := by decide +kernel
theorem dX10_firstOrders_30 : decode cX10_firstOrders 30 = .ok (.baload, 1) := by decide +kernel
theorem dX10_firstOrders_31 : decode cX10_firstOrders 31 = .ok (.ifCond .eq 19, 3) := by decide +kernel
theorem dX10_firstOrders_34 : decode cX10_firstOrders 34 = .ok (.aload_n 0, 1) := by decide +kernel
theorem dX10_firstOrders_35 : decode cX10_firstOrders 35 = .ok (.getfield 32, 3) := by decide +kernel
theorem dX10_firstOrders_38 : decode cX10_firstOrders 38 = .ok (.iload_n 2, 1) := by decide +kernel
theorem dX10_firstOrders_39 : decode cX10_firstOrders 39 = .ok (.iaload, 1) := by decide +kernel
theorem dX10_firstOrders_40 : decode cX10_firstOrders 40 = .ok (.iload_n 1, 1) := by decide +kernel
theorem dX10_firstOrders_41 : decode cX10_firstOrders 41 = .ok (.if_icmp .ne 9, 3) := by decide +kernel
theorem dX10_firstOrders_44 : decode cX10_firstOrders 44 = .ok (.aload_n 0, 1) := by decide +kernel
theorem dX10_firstOrders_45 : decode cX10_firstOrders 45 = .ok (.iload_n 1, 1) := by decide +kernel
theorem dX10_firstOrders_46 : decode cX10_firstOrders 46 = .ok (.iload_n 2, 1) := by decide +kernel
theorem dX10_firstOrders_47 : decode cX10_firstOrders 47 = .ok (.invokevirtual 110, 3) := by decide +kernel
theorem dX10_firstOrders_50 : decode cX10_firstOrders 50 = .ok (.iinc 2 1, 3) := by decide +kernel
theorem dX10_firstOrders_53 : decode cX10_firstOrders 53 = .ok (.goto (-34), 3) := by decide +kernel
theorem dX10_firstOrders_56 : decode cX10_firstOrders 56 = .ok (.iconst 0, 1) := by decide +kernel
theorem dX10_firstOrders_57 : decode cX10_firstOrders 57 = .ok (.istore_n 2, 1) := by decide +kernel
theorem dX10_firstOrders_58 : decode cX10_firstOrders 58 = .ok (.iload_n 2, 1) := by decide +kernel
theorem dX10_firstOrders_59 : decode cX10_firstOrders 59 = .ok (.bipush 24, 2) := by decide +kernel
theorem dX10_firstOrders_61 : decode cX10_firstOrders 61 = .ok (.if_icmp .ge 27, 3) := by decide +kernel
theorem dX10_firstOrders_64 : decode cX10_firstOrders 64 = .ok (.aload_n 0, 1) := by decide +kernel
theorem dX10_firstOrders_65 : decode cX10_firstOrders 65 = .ok (.iload_n 2, 1) := by decide +kernel
theorem dX10_firstOrders_66 : decode cX10_firstOrders 66 = .ok (.iload_n 1, 1) := by decide +kernel
theorem dX10_firstOrders_67 : decode cX10_firstOrders 67 = .ok (.invokevirtual 114, 3) := by decide +kernel
theorem dX10_firstOrders_70 : decode cX10_firstOrders 70 = .ok (.ifCond .eq 12, 3) := by decide +kernel
theorem dX10_firstOrders_73 : decode cX10_firstOrders 73 = .ok (.aload_n 0, 1) := by decide +kernel
theorem dX10_firstOrders_74 : decode cX10_firstOrders 74 = .ok (.iload_n 1, 1) := by decide +kernel
theorem dX10_firstOrders_75 : decode cX10_firstOrders 75 = .ok (.bipush 100, 2) := by decide +kernel
theorem dX10_firstOrders_77 : decode cX10_firstOrders 77 = .ok (.iload_n 2, 1) := by decide +kernel
theorem dX10_firstOrders_78 : decode cX10_firstOrders 78 = .ok (.iadd, 1) := by decide +kernel
theorem dX10_firstOrders_79 : decode cX10_firstOrders 79 = .ok (.invokevirtual 110, 3) := by decide +kernel
theorem dX10_firstOrders_82 : decode cX10_firstOrders 82 = .ok (.iinc 2 1, 3) := by decide +kernel
theorem dX10_firstOrders_85 : decode cX10_firstOrders 85 = .ok (.goto (-27), 3) := by decide +kernel
theorem dX10_firstOrders_88 : decode cX10_firstOrders 88 = .ok (.aload_n 0, 1) := by decide +kernel
theorem dX10_firstOrders_89 : decode cX10_firstOrders 89 = .ok (.iload_n 1, 1) := by decide +kernel
theorem dX10_firstOrders_90 : decode cX10_firstOrders 90 = .ok (.invokevirtual 118, 3) := by decide +kernel
theorem dX10_firstOrders_93 : decode cX10_firstOrders 93 = .ok (.iinc 1 1, 3) := by decide +kernel
theorem dX10_firstOrders_96 : decode cX10_firstOrders 96 = .ok (.goto (-94), 3) := by decide +kernel
theorem dX10_firstOrders_99 : decode cX10_firstOrders 99 = .ok (.return_, 1) := by decide +kernel
theorem dX10_oldPlaceOf_0 : decode cX10_oldPlaceOf 0 = .ok (.iload_n 1, 1) := by decide +kernel
theorem dX10_oldPlaceOf_1 : decode cX10_oldPlaceOf 1 = .ok (.bipush 100, 2) := by decide +kernel
theorem dX10_oldPlaceOf_3 : decode cX10_oldPlaceOf 3 = .ok (.if_icmp .lt 18, 3) := by decide +kernel
theorem dX10_oldPlaceOf_6 : decode cX10_oldPlaceOf 6 = .ok (.aload_n 0, 1) := by decide +kernel
theorem dX10_oldPlaceOf_7 : decode cX10_oldPlaceOf 7 = .ok (.getfield 56, 3) := by decide +kernel
theorem dX10_oldPlaceOf_10 : decode cX10_oldPlaceOf 10 = .ok (.bipush 24, 2) := by decide +kernel
theorem dX10_oldPlaceOf_12 : decode cX10_oldPlaceOf 12 = .ok (.iload_n 1, 1) := by decide +kernel
theorem dX10_oldPlaceOf_13 : decode cX10_oldPlaceOf 13 = .ok (.bipush 100, 2) := by decide +kernel
theorem dX10_oldPlaceOf_15 : decode cX10_oldPlaceOf 15 = .ok (.isub, 1) := by decide +kernel
theorem dX10_oldPlaceOf_16 : decode cX10_oldPlaceOf 16 = .ok (.imul, 1) := by decide +kernel
theorem dX10_oldPlaceOf_17 : decode cX10_oldPlaceOf 17 = .ok (.iload_n 2, 1) := by decide +kernel
theorem dX10_oldPlaceOf_18 : decode cX10_oldPlaceOf 18 = .ok (.iadd, 1) := by decide +kernel
theorem dX10_oldPlaceOf_19 : decode cX10_oldPlaceOf 19 = .ok (.iaload, 1) := by decide +kernel
theorem dX10_oldPlaceOf_20 : decode cX10_oldPlaceOf 20 = .ok (.ireturn, 1) := by decide +kernel
theorem dX10_oldPlaceOf_21 : decode cX10_oldPlaceOf 21 = .ok (.aload_n 0, 1) := by decide +kernel
theorem dX10_oldPlaceOf_22 : decode cX10_oldPlaceOf 22 = .ok (.getfield 50, 3) := by decide +kernel
theorem dX10_oldPlaceOf_25 : decode cX10_oldPlaceOf 25 = .ok (.iload_n 1, 1) := by decide +kernel
theorem dX10_oldPlaceOf_26 : decode cX10_oldPlaceOf 26 = .ok (.iaload, 1) := by decide +kernel
theorem dX10_oldPlaceOf_27 : decode cX10_oldPlaceOf 27 = .ok (.iload_n 2, 1) := by decide +kernel
theorem dX10_oldPlaceOf_28 : decode cX10_oldPlaceOf 28 = .ok (.if_icmp .ne 12, 3) := by decide +kernel
theorem dX10_oldPlaceOf_31 : decode cX10_oldPlaceOf 31 = .ok (.aload_n 0, 1) := by decide +kernel
theorem dX10_oldPlaceOf_32 : decode cX10_oldPlaceOf 32 = .ok (.getfield 53, 3) := by decide +kernel
theorem dX10_oldPlaceOf_35 : decode cX10_oldPlaceOf 35 = .ok (.iload_n 1, 1) := by decide +kernel
theorem dX10_oldPlaceOf_36 : decode cX10_oldPlaceOf 36 = .ok (.iaload, 1) := by decide +kernel
theorem dX10_oldPlaceOf_37 : decode cX10_oldPlaceOf 37 = .ok (.goto 4, 3) := by decide +kernel
theorem dX10_oldPlaceOf_40 : decode cX10_oldPlaceOf 40 = .ok (.iconst (-1), 1) := by decide +kernel
theorem dX10_oldPlaceOf_41 : decode cX10_oldPlaceOf 41 = .ok (.ireturn, 1) := by decide +kernel
set_option maxRecDepth 20000 in
theorem ggX10_oldOrders_X10_firstOrders : GoodIn wsX10_oldOrders wsX10_firstOrders := goodIn_r _ [9, 1, 2, 10, 11, 12, 13, 14, 8, 15, 4, 16, 17, 18, 19, 20, 21, 22, 23, 24, 25, 26, 27, 28, 29, 30, 31, 32, 33, 34, 35, 36, 37, 38, 39, 40, 41, 49, 50, 51, 52, 53, 54, 55, 56, 57, 58, 59, 60, 61, 62, 63, 64, 65, 66, 67, 68, 69, 70, 71, 72] (by decide +kernel) (by decide +kernel)
set_option maxRecDepth 20000 in
theorem gX10_oldOrders_X10_firstOrders : GoodIn wsX10_oldOrders (wsV RX10 122 RX10 yX10_firstOrders wsX10_firstOrders) := goodIn_app (goodIn_of _ (by decide +kernel)) ggX10_oldOrders_X10_firstOrders
set_option maxRecDepth 20000 in
theorem ggX10_oldOrders_X10_item0 : GoodIn wsX10_oldOrders wsX10_item0 := goodIn_r _ [41, 4, 49, 50, 51, 52, 53, 54, 55, 56, 57, 58, 59, 60, 61, 62, 63, 64, 65, 66, 67, 68, 69, 70, 71, 72] (by decide +kernel) (by decide +kernel)
set_option maxRecDepth 20000 in
theorem gX10_oldOrders_X10_item0 : GoodIn wsX10_oldOrders (wsV RX10 106 RX10 yX10_item0 wsX10_item0) := goodIn_app (goodIn_of _ (by decide +kernel)) ggX10_oldOrders_X10_item0
set_option maxRecDepth 20000 in
theorem ggX10_oldOrders_X10_oldPlaceOf : GoodIn wsX10_oldOrders wsX10_oldPlaceOf := goodIn_r _ [45, 46, 47, 48, 49, 50, 51, 52, 53, 54, 55, 56, 57, 58, 59, 60, 61, 62, 63, 64, 65, 66, 67, 68, 69, 70, 71, 72] (by decide +kernel) (by decide +kernel)
set_option maxRecDepth 20000 in
theorem gX10_oldOrders_X10_oldPlaceOf : GoodIn wsX10_oldOrders (wsV RX10 125 RX10 yX10_oldPlaceOf wsX10_oldPlaceOf) := goodIn_app (goodIn_of _ (by decide +kernel)) ggX10_oldOrders_X10_oldPlaceOf
set_option maxRecDepth 20000 in
theorem ggX10_oldOrders_X10_note : GoodIn wsX10_oldOrders wsX10_note := goodIn_r _ [35, 2, 36, 37, 38, 39, 40, 8, 41, 4, 49, 50, 51, 52, 53, 54, 55, 56, 57, 58, 59, 60, 61, 62, 63, 64, 65, 66, 67, 68, 69, 70, 71, 72] (by decide +kernel) (by decide +kernel)
set_option maxRecDepth 20000 in
theorem gX10_oldOrders_X10_note : GoodIn wsX10_oldOrders (wsV RX10 118 RX10 yX10_note wsX10_note) := goodIn_app (goodIn_of _ (by decide +kernel)) ggX10_oldOrders_X10_note
theorem dX10_oldOrders_0 : decode cX10_oldOrders 0 = .ok (.aload_n 0, 1) := by decide +kernel
theorem dX10_oldOrders_1 : decode cX10_oldOrders 1 = .ok (.invokevirtual 122, 3) := by decide +kernel
theorem dX10_oldOrders_4 : decode cX10_oldOrders 4 = .ok (.iconst 0, 1) := by decide +kernel
theorem dX10_oldOrders_5 : decode cX10_oldOrders 5 = .ok (.istore_n 1, 1) := by decide +kernel
theorem dX10_oldOrders_6 : decode cX10_oldOrders 6 = .ok (.iload_n 1, 1) := by decide +kernel
theorem dX10_oldOrders_7 : decode cX10_oldOrders 7 = .ok (.aload_n 0, 1) := by decide +kernel
theorem dX10_oldOrders_8 : decode cX10_oldOrders 8 = .ok (.getfield 103, 3) := by decide +kernel
theorem dX10_oldOrders_11 : decode cX10_oldOrders 11 = .ok (.if_icmp .ge 165, 3) := by decide +kernel
theorem dX10_oldOrders_14 : decode cX10_oldOrders 14 = .ok (.iconst 0, 1) := by decide +kernel
theorem dX10_oldOrders_15 : decode cX10_oldOrders 15 = .ok (.istore_n 2, 1) := by decide +kernel
theorem dX10_oldOrders_16 : decode cX10_oldOrders 16 = .ok (.iconst 0, 1) := by decide +kernel
theorem dX10_oldOrders_17 : decode cX10_oldOrders 17 = .ok (.istore_n 3, 1) := by decide +kernel
theorem dX10_oldOrders_18 : decode cX10_oldOrders 18 = .ok (.iload_n 3, 1) := by decide +kernel
theorem dX10_oldOrders_19 : decode cX10_oldOrders 19 = .ok (.bipush 40, 2) := by decide +kernel
theorem dX10_oldOrders_21 : decode cX10_oldOrders 21 = .ok (.if_icmp .ge 64, 3) := by decide +kernel
theorem dX10_oldOrders_24 : decode cX10_oldOrders 24 = .ok (.iconst 0, 1) := by decide +kernel
theorem dX10_oldOrders_25 : decode cX10_oldOrders 25 = .ok (.istore 4, 2) := by decide +kernel
theorem dX10_oldOrders_27 : decode cX10_oldOrders 27 = .ok (.iload 4, 2) := by decide +kernel
theorem dX10_oldOrders_29 : decode cX10_oldOrders 29 = .ok (.aload_n 0, 1) := by decide +kernel
theorem dX10_oldOrders_30 : decode cX10_oldOrders 30 = .ok (.getfield 35, 3) := by decide +kernel
theorem dX10_oldOrders_33 : decode cX10_oldOrders 33 = .ok (.iload_n 1, 1) := by decide +kernel
theorem dX10_oldOrders_34 : decode cX10_oldOrders 34 = .ok (.iaload, 1) := by decide +kernel
theorem dX10_oldOrders_35 : decode cX10_oldOrders 35 = .ok (.if_icmp .ge 44, 3) := by decide +kernel
theorem dX10_oldOrders_38 : decode cX10_oldOrders 38 = .ok (.aload_n 0, 1) := by decide +kernel
theorem dX10_oldOrders_39 : decode cX10_oldOrders 39 = .ok (.aload_n 0, 1) := by decide +kernel
theorem dX10_oldOrders_40 : decode cX10_oldOrders 40 = .ok (.iload_n 1, 1) := by decide +kernel
theorem dX10_oldOrders_41 : decode cX10_oldOrders 41 = .ok (.iload 4, 2) := by decide +kernel
theorem dX10_oldOrders_43 : decode cX10_oldOrders 43 = .ok (.invokevirtual 106, 3) := by decide +kernel
theorem dX10_oldOrders_46 : decode cX10_oldOrders 46 = .ok (.iload_n 1, 1) := by decide +kernel
theorem dX10_oldOrders_47 : decode cX10_oldOrders 47 = .ok (.invokevirtual 125, 3) := by decide +kernel
theorem dX10_oldOrders_50 : decode cX10_oldOrders 50 = .ok (.iload_n 3, 1) := by decide +kernel
theorem dX10_oldOrders_51 : decode cX10_oldOrders 51 = .ok (.if_icmp .eq 6, 3) := by decide +kernel
theorem dX10_oldOrders_54 : decode cX10_oldOrders 54 = .ok (.goto 19, 3) := by decide +kernel
theorem dX10_oldOrders_57 : decode cX10_oldOrders 57 = .ok (.aload_n 0, 1) := by decide +kernel
theorem dX10_oldOrders_58 : decode cX10_oldOrders 58 = .ok (.getfield 62, 3) := by decide +kernel
theorem dX10_oldOrders_61 : decode cX10_oldOrders 61 = .ok (.iload_n 2, 1) := by decide +kernel
theorem dX10_oldOrders_62 : decode cX10_oldOrders 62 = .ok (.aload_n 0, 1) := by decide +kernel
theorem dX10_oldOrders_63 : decode cX10_oldOrders 63 = .ok (.iload_n 1, 1) := by decide +kernel
theorem dX10_oldOrders_64 : decode cX10_oldOrders 64 = .ok (.iload 4, 2) := by decide +kernel
theorem dX10_oldOrders_66 : decode cX10_oldOrders 66 = .ok (.invokevirtual 106, 3) := by decide +kernel
theorem dX10_oldOrders_69 : decode cX10_oldOrders 69 = .ok (.iastore, 1) := by decide +kernel
theorem dX10_oldOrders_70 : decode cX10_oldOrders 70 = .ok (.iinc 2 1, 3) := by decide +kernel
theorem dX10_oldOrders_73 : decode cX10_oldOrders 73 = .ok (.iinc 4 1, 3) := by decide +kernel
theorem dX10_oldOrders_76 : decode cX10_oldOrders 76 = .ok (.goto (-49), 3) := by decide +kernel
theorem dX10_oldOrders_79 : decode cX10_oldOrders 79 = .ok (.iinc 3 1, 3) := by decide +kernel
theorem dX10_oldOrders_82 : decode cX10_oldOrders 82 = .ok (.goto (-64), 3) := by decide +kernel
theorem dX10_oldOrders_85 : decode cX10_oldOrders 85 = .ok (.iconst 0, 1) := by decide +kernel
theorem dX10_oldOrders_86 : decode cX10_oldOrders 86 = .ok (.istore_n 3, 1) := by decide +kernel
theorem dX10_oldOrders_87 : decode cX10_oldOrders 87 = .ok (.iload_n 3, 1) := by decide +kernel
theorem dX10_oldOrders_88 : decode cX10_oldOrders 88 = .ok (.aload_n 0, 1) := by decide +kernel
theorem dX10_oldOrders_89 : decode cX10_oldOrders 89 = .ok (.getfield 35, 3) := by decide +kernel
theorem dX10_oldOrders_92 : decode cX10_oldOrders 92 = .ok (.iload_n 1, 1) := by decide +kernel
theorem dX10_oldOrders_93 : decode cX10_oldOrders 93 = .ok (.iaload, 1) := by decide +kernel
theorem dX10_oldOrders_94 : decode cX10_oldOrders 94 = .ok (.if_icmp .ge 41, 3) := by decide +kernel
theorem dX10_oldOrders_97 : decode cX10_oldOrders 97 = .ok (.aload_n 0, 1) := by decide +kernel
theorem dX10_oldOrders_98 : decode cX10_oldOrders 98 = .ok (.aload_n 0, 1) := by decide +kernel
theorem dX10_oldOrders_99 : decode cX10_oldOrders 99 = .ok (.iload_n 1, 1) := by decide +kernel
theorem dX10_oldOrders_100 : decode cX10_oldOrders 100 = .ok (.iload_n 3, 1) := by decide +kernel
theorem dX10_oldOrders_101 : decode cX10_oldOrders 101 = .ok (.invokevirtual 106, 3) := by decide +kernel
theorem dX10_oldOrders_104 : decode cX10_oldOrders 104 = .ok (.iload_n 1, 1) := by decide +kernel
theorem dX10_oldOrders_105 : decode cX10_oldOrders 105 = .ok (.invokevirtual 125, 3) := by decide +kernel
theorem dX10_oldOrders_108 : decode cX10_oldOrders 108 = .ok (.ifCond .lt 6, 3) := by decide +kernel
theorem dX10_oldOrders_111 : decode cX10_oldOrders 111 = .ok (.goto 18, 3) := by decide +kernel
theorem dX10_oldOrders_114 : decode cX10_oldOrders 114 = .ok (.aload_n 0, 1) := by decide +kernel
theorem dX10_oldOrders_115 : decode cX10_oldOrders 115 = .ok (.getfield 62, 3) := by decide +kernel
theorem dX10_oldOrders_118 : decode cX10_oldOrders 118 = .ok (.iload_n 2, 1) := by decide +kernel
theorem dX10_oldOrders_119 : decode cX10_oldOrders 119 = .ok (.aload_n 0, 1) := by decide +kernel
theorem dX10_oldOrders_120 : decode cX10_oldOrders 120 = .ok (.iload_n 1, 1) := by decide +kernel
theorem dX10_oldOrders_121 : decode cX10_oldOrders 121 = .ok (.iload_n 3, 1) := by decide +kernel
theorem dX10_oldOrders_122 : decode cX10_oldOrders 122 = .ok (.invokevirtual 106, 3) := by decide +kernel
theorem dX10_oldOrders_125 : decode cX10_oldOrders 125 = .ok (.iastore, 1) := by decide +kernel
theorem dX10_oldOrders_126 : decode cX10_oldOrders 126 = .ok (.iinc 2 1, 3) := by decide +kernel
theorem dX10_oldOrders_129 : decode cX10_oldOrders 129 = .ok (.iinc 3 1, 3) := by decide +kernel
theorem dX10_oldOrders_132 : decode cX10_oldOrders 132 = .ok (.goto (-45), 3) := by decide +kernel
theorem dX10_oldOrders_135 : decode cX10_oldOrders 135 = .ok (.iconst 0, 1) := by decide +kernel
theorem dX10_oldOrders_136 : decode cX10_oldOrders 136 = .ok (.istore_n 3, 1) := by decide +kernel
theorem dX10_oldOrders_137 : decode cX10_oldOrders 137 = .ok (.iload_n 3, 1) := by decide +kernel
theorem dX10_oldOrders_138 : decode cX10_oldOrders 138 = .ok (.iload_n 2, 1) := by decide +kernel
theorem dX10_oldOrders_139 : decode cX10_oldOrders 139 = .ok (.if_icmp .ge 26, 3) := by decide +kernel
theorem dX10_oldOrders_142 : decode cX10_oldOrders 142 = .ok (.aload_n 0, 1) := by decide +kernel
theorem dX10_oldOrders_143 : decode cX10_oldOrders 143 = .ok (.getfield 38, 3) := by decide +kernel
theorem dX10_oldOrders_146 : decode cX10_oldOrders 146 = .ok (.bipush 40, 2) := by decide +kernel
theorem dX10_oldOrders_148 : decode cX10_oldOrders 148 = .ok (.iload_n 1, 1) := by decide +kernel
theorem dX10_oldOrders_149 : decode cX10_oldOrders 149 = .ok (.imul, 1) := by decide +kernel
theorem dX10_oldOrders_150 : decode cX10_oldOrders 150 = .ok (.iload_n 3, 1) := by decide +kernel
theorem dX10_oldOrders_151 : decode cX10_oldOrders 151 = .ok (.iadd, 1) := by decide +kernel
theorem dX10_oldOrders_152 : decode cX10_oldOrders 152 = .ok (.aload_n 0, 1) := by decide +kernel
theorem dX10_oldOrders_153 : decode cX10_oldOrders 153 = .ok (.getfield 62, 3) := by decide +kernel
theorem dX10_oldOrders_156 : decode cX10_oldOrders 156 = .ok (.iload_n 3, 1) := by decide +kernel
theorem dX10_oldOrders_157 : decode cX10_oldOrders 157 = .ok (.iaload, 1) := by decide +kernel
theorem dX10_oldOrders_158 : decode cX10_oldOrders 158 = .ok (.iastore, 1) := by decide +kernel
theorem dX10_oldOrders_159 : decode cX10_oldOrders 159 = .ok (.iinc 3 1, 3) := by decide +kernel
theorem dX10_oldOrders_162 : decode cX10_oldOrders 162 = .ok (.goto (-25), 3) := by decide +kernel
theorem dX10_oldOrders_165 : decode cX10_oldOrders 165 = .ok (.aload_n 0, 1) := by decide +kernel
theorem dX10_oldOrders_166 : decode cX10_oldOrders 166 = .ok (.iload_n 1, 1) := by decide +kernel
theorem dX10_oldOrders_167 : decode cX10_oldOrders 167 = .ok (.invokevirtual 118, 3) := by decide +kernel
theorem dX10_oldOrders_170 : decode cX10_oldOrders 170 = .ok (.iinc 1 1, 3) := by decide +kernel
theorem dX10_oldOrders_173 : decode cX10_oldOrders 173 = .ok (.goto (-167), 3) := by decide +kernel
theorem dX10_oldOrders_176 : decode cX10_oldOrders 176 = .ok (.return_, 1) := by decide +kernel
set_option maxRecDepth 20000 in
theorem ggX10_upperPlace_X10_upper : GoodIn wsX10_upperPlace wsX10_upper := goodIn_r _ [8, 9, 10, 11, 12, 13, 14, 15, 16, 17, 18, 19, 20, 21, 22, 23, 24, 25, 26, 27, 28, 29, 30, 31, 32, 33, 34, 35] (by decide +kernel) (by decide +kernel)
set_option maxRecDepth 20000 in
theorem gX10_upperPlace_X10_upper : GoodIn wsX10_upperPlace (wsV RX10 100 RX10 yX10_upper wsX10_upper) := goodIn_app (goodIn_of _ (by decide +kernel)) ggX10_upperPlace_X10_upper
theorem dX10_upperPlace_0 : decode cX10_upperPlace 0 = .ok (.aload_n 0, 1) := by decide +kernel
theorem dX10_upperPlace_1 : decode cX10_upperPlace 1 = .ok (.getfield 32, 3) := by decide +kernel
theorem dX10_upperPlace_4 : decode cX10_upperPlace 4 = .ok (.aload_n 0, 1) := by decide +kernel
theorem dX10_upperPlace_5 : decode cX10_upperPlace 5 = .ok (.iload_n 1, 1) := by decide +kernel
theorem dX10_upperPlace_6 : decode cX10_upperPlace 6 = .ok (.invokevirtual 100, 3) := by decide +kernel
theorem dX10_upperPlace_9 : decode cX10_upperPlace 9 = .ok (.iaload, 1) := by decide +kernel
theorem dX10_upperPlace_10 : decode cX10_upperPlace 10 = .ok (.iload_n 2, 1) := by decide +kernel
theorem dX10_upperPlace_11 : decode cX10_upperPlace 11 = .ok (.if_icmp .ne 16, 3) := by decide +kernel
theorem dX10_upperPlace_14 : decode cX10_upperPlace 14 = .ok (.aload_n 0, 1) := by decide +kernel
theorem dX10_upperPlace_15 : decode cX10_upperPlace 15 = .ok (.getfield 41, 3) := by decide +kernel
theorem dX10_upperPlace_18 : decode cX10_upperPlace 18 = .ok (.aload_n 0, 1) := by decide +kernel
theorem dX10_upperPlace_19 : decode cX10_upperPlace 19 = .ok (.iload_n 1, 1) := by decide +kernel
theorem dX10_upperPlace_20 : decode cX10_upperPlace 20 = .ok (.invokevirtual 100, 3) := by decide +kernel
theorem dX10_upperPlace_23 : decode cX10_upperPlace 23 = .ok (.iaload, 1) := by decide +kernel
theorem dX10_upperPlace_24 : decode cX10_upperPlace 24 = .ok (.goto 14, 3) := by decide +kernel
theorem dX10_upperPlace_27 : decode cX10_upperPlace 27 = .ok (.aload_n 0, 1) := by decide +kernel
theorem dX10_upperPlace_28 : decode cX10_upperPlace 28 = .ok (.getfield 44, 3) := by decide +kernel
theorem dX10_upperPlace_31 : decode cX10_upperPlace 31 = .ok (.bipush 24, 2) := by decide +kernel
theorem dX10_upperPlace_33 : decode cX10_upperPlace 33 = .ok (.iload_n 1, 1) := by decide +kernel
theorem dX10_upperPlace_34 : decode cX10_upperPlace 34 = .ok (.imul, 1) := by decide +kernel
theorem dX10_upperPlace_35 : decode cX10_upperPlace 35 = .ok (.iload_n 2, 1) := by decide +kernel
theorem dX10_upperPlace_36 : decode cX10_upperPlace 36 = .ok (.iadd, 1) := by decide +kernel
theorem dX10_upperPlace_37 : decode cX10_upperPlace 37 = .ok (.iaload, 1) := by decide +kernel
theorem dX10_upperPlace_38 : decode cX10_upperPlace 38 = .ok (.ireturn, 1) := by decide +kernel
set_option maxRecDepth 20000 in
theorem ggX10_lowerPlace_X10_lower : GoodIn wsX10_lowerPlace wsX10_lower := goodIn_r _ [8, 9, 10, 11, 12, 13, 14, 15, 16, 17, 18, 19, 20, 21, 22, 23, 24, 25, 26, 27, 28, 29, 30, 31, 32, 33, 34, 35] (by decide +kernel) (by decide +kernel)
set_option maxRecDepth 20000 in
theorem gX10_lowerPlace_X10_lower : GoodIn wsX10_lowerPlace (wsV RX10 96 RX10 yX10_lower wsX10_lower) := goodIn_app (goodIn_of _ (by decide +kernel)) ggX10_lowerPlace_X10_lower
theorem dX10_lowerPlace_0 : decode cX10_lowerPlace 0 = .ok (.aload_n 0, 1) := by decide +kernel
theorem dX10_lowerPlace_1 : decode cX10_lowerPlace 1 = .ok (.getfield 32, 3) := by decide +kernel
theorem dX10_lowerPlace_4 : decode cX10_lowerPlace 4 = .ok (.aload_n 0, 1) := by decide +kernel
theorem dX10_lowerPlace_5 : decode cX10_lowerPlace 5 = .ok (.iload_n 1, 1) := by decide +kernel
theorem dX10_lowerPlace_6 : decode cX10_lowerPlace 6 = .ok (.invokevirtual 96, 3) := by decide +kernel
theorem dX10_lowerPlace_9 : decode cX10_lowerPlace 9 = .ok (.iaload, 1) := by decide +kernel
theorem dX10_lowerPlace_10 : decode cX10_lowerPlace 10 = .ok (.iload_n 2, 1) := by decide +kernel
theorem dX10_lowerPlace_11 : decode cX10_lowerPlace 11 = .ok (.iconst 1, 1) := by decide +kernel
theorem dX10_lowerPlace_12 : decode cX10_lowerPlace 12 = .ok (.iadd, 1) := by decide +kernel
theorem dX10_lowerPlace_13 : decode cX10_lowerPlace 13 = .ok (.if_icmp .ne 16, 3) := by decide +kernel
theorem dX10_lowerPlace_16 : decode cX10_lowerPlace 16 = .ok (.aload_n 0, 1) := by decide +kernel
theorem dX10_lowerPlace_17 : decode cX10_lowerPlace 17 = .ok (.getfield 41, 3) := by decide +kernel
theorem dX10_lowerPlace_20 : decode cX10_lowerPlace 20 = .ok (.aload_n 0, 1) := by decide +kernel
theorem dX10_lowerPlace_21 : decode cX10_lowerPlace 21 = .ok (.iload_n 1, 1) := by decide +kernel
theorem dX10_lowerPlace_22 : decode cX10_lowerPlace 22 = .ok (.invokevirtual 96, 3) := by decide +kernel
theorem dX10_lowerPlace_25 : decode cX10_lowerPlace 25 = .ok (.iaload, 1) := by decide +kernel
theorem dX10_lowerPlace_26 : decode cX10_lowerPlace 26 = .ok (.goto 16, 3) := by decide +kernel
theorem dX10_lowerPlace_29 : decode cX10_lowerPlace 29 = .ok (.aload_n 0, 1) := by decide +kernel
theorem dX10_lowerPlace_30 : decode cX10_lowerPlace 30 = .ok (.getfield 44, 3) := by decide +kernel
theorem dX10_lowerPlace_33 : decode cX10_lowerPlace 33 = .ok (.bipush 24, 2) := by decide +kernel
theorem dX10_lowerPlace_35 : decode cX10_lowerPlace 35 = .ok (.iload_n 1, 1) := by decide +kernel
theorem dX10_lowerPlace_36 : decode cX10_lowerPlace 36 = .ok (.imul, 1) := by decide +kernel
theorem dX10_lowerPlace_37 : decode cX10_lowerPlace 37 = .ok (.iload_n 2, 1) := by decide +kernel
theorem dX10_lowerPlace_38 : decode cX10_lowerPlace 38 = .ok (.iadd, 1) := by decide +kernel
theorem dX10_lowerPlace_39 : decode cX10_lowerPlace 39 = .ok (.iconst 1, 1) := by decide +kernel
theorem dX10_lowerPlace_40 : decode cX10_lowerPlace 40 = .ok (.iadd, 1) := by decide +kernel
theorem dX10_lowerPlace_41 : decode cX10_lowerPlace 41 = .ok (.iaload, 1) := by decide +kernel
theorem dX10_lowerPlace_42 : decode cX10_lowerPlace 42 = .ok (.ireturn, 1) := by decide +kernel
set_option maxRecDepth 20000 in
theorem ggX10_crossings_X10_hasPiece : GoodIn wsX10_crossings wsX10_hasPiece := goodIn_r _ [6, 7, 8, 9, 10, 11, 5, 12, 13, 14, 15, 16, 17, 18, 19, 30, 31, 32, 33, 34, 35, 36, 37, 38, 39, 40, 41, 42, 43, 44, 45, 46, 47, 48, 49, 50, 51, 52, 53] (by decide +kernel) (by decide +kernel)
set_option maxRecDepth 20000 in
theorem gX10_crossings_X10_hasPiece : GoodIn wsX10_crossings (wsV RX10 128 RX10 yX10_hasPiece wsX10_hasPiece) := goodIn_app (goodIn_of _ (by decide +kernel)) ggX10_crossings_X10_hasPiece
set_option maxRecDepth 20000 in
theorem ggX10_crossings_X10_upperPlace : GoodIn wsX10_crossings wsX10_upperPlace := goodIn_r _ [23, 8, 24, 25, 9, 10, 11, 5, 12, 13, 14, 15, 30, 31, 32, 33, 34, 35, 36, 37, 38, 39, 40, 41, 42, 43, 44, 45, 46, 47, 48, 49, 50, 51, 52, 53] (by decide +kernel) (by decide +kernel)
set_option maxRecDepth 20000 in
theorem gX10_crossings_X10_upperPlace : GoodIn wsX10_crossings (wsV RX10 131 RX10 yX10_upperPlace wsX10_upperPlace) := goodIn_app (goodIn_of _ (by decide +kernel)) ggX10_crossings_X10_upperPlace
set_option maxRecDepth 20000 in
theorem ggX10_crossings_X10_lowerPlace : GoodIn wsX10_crossings wsX10_lowerPlace := goodIn_r _ [29, 8, 24, 25, 16, 17, 18, 5, 19, 13, 15, 14, 30, 31, 32, 33, 34, 35, 36, 37, 38, 39, 40, 41, 42, 43, 44, 45, 46, 47, 48, 49, 50, 51, 52, 53] (by decide +kernel) (by decide +kernel)
set_option maxRecDepth 20000 in
theorem gX10_crossings_X10_lowerPlace : GoodIn wsX10_crossings (wsV RX10 134 RX10 yX10_lowerPlace wsX10_lowerPlace) := goodIn_app (goodIn_of _ (by decide +kernel)) ggX10_crossings_X10_lowerPlace
theorem dX10_crossings_0 : decode cX10_crossings 0 = .ok (.iconst 0, 1) := by decide +kernel
theorem dX10_crossings_1 : decode cX10_crossings 1 = .ok (.istore_n 2, 1) := by decide +kernel
theorem dX10_crossings_2 : decode cX10_crossings 2 = .ok (.iload_n 1, 1) := by decide +kernel
theorem dX10_crossings_3 : decode cX10_crossings 3 = .ok (.ifCond .lt 13, 3) := by decide +kernel
theorem dX10_crossings_6 : decode cX10_crossings 6 = .ok (.iload_n 1, 1) := by decide +kernel
theorem dX10_crossings_7 : decode cX10_crossings 7 = .ok (.iconst 1, 1) := by decide +kernel
theorem dX10_crossings_8 : decode cX10_crossings 8 = .ok (.iadd, 1) := by decide +kernel
theorem dX10_crossings_9 : decode cX10_crossings 9 = .ok (.aload_n 0, 1) := by decide +kernel
theorem dX10_crossings_10 : decode cX10_crossings 10 = .ok (.getfield 103, 3) := by decide +kernel
theorem dX10_crossings_13 : decode cX10_crossings 13 = .ok (.if_icmp .lt 5, 3) := by decide +kernel
theorem dX10_crossings_16 : decode cX10_crossings 16 = .ok (.iconst 0, 1) := by decide +kernel
theorem dX10_crossings_17 : decode cX10_crossings 17 = .ok (.ireturn, 1) := by decide +kernel
theorem dX10_crossings_18 : decode cX10_crossings 18 = .ok (.iconst 0, 1) := by decide +kernel
theorem dX10_crossings_19 : decode cX10_crossings 19 = .ok (.istore_n 3, 1) := by decide +kernel
theorem dX10_crossings_20 : decode cX10_crossings 20 = .ok (.iload_n 3, 1) := by decide +kernel
theorem dX10_crossings_21 : decode cX10_crossings 21 = .ok (.bipush 24, 2) := by decide +kernel
theorem dX10_crossings_23 : decode cX10_crossings 23 = .ok (.if_icmp .ge 101, 3) := by decide +kernel
theorem dX10_crossings_26 : decode cX10_crossings 26 = .ok (.iconst 0, 1) := by decide +kernel
theorem dX10_crossings_27 : decode cX10_crossings 27 = .ok (.istore 4, 2) := by decide +kernel
theorem dX10_crossings_29 : decode cX10_crossings 29 = .ok (.iload 4, 2) := by decide +kernel
theorem dX10_crossings_31 : decode cX10_crossings 31 = .ok (.iload_n 3, 1) := by decide +kernel
theorem dX10_crossings_32 : decode cX10_crossings 32 = .ok (.if_icmp .ge 86, 3) := by decide +kernel
theorem dX10_crossings_35 : decode cX10_crossings 35 = .ok (.aload_n 0, 1) := by decide +kernel
theorem dX10_crossings_36 : decode cX10_crossings 36 = .ok (.iload_n 3, 1) := by decide +kernel
theorem dX10_crossings_37 : decode cX10_crossings 37 = .ok (.iload_n 1, 1) := by decide +kernel
theorem dX10_crossings_38 : decode cX10_crossings 38 = .ok (.invokevirtual 128, 3) := by decide +kernel
theorem dX10_crossings_41 : decode cX10_crossings 41 = .ok (.ifCond .eq 71, 3) := by decide +kernel
theorem dX10_crossings_44 : decode cX10_crossings 44 = .ok (.aload_n 0, 1) := by decide +kernel
theorem dX10_crossings_45 : decode cX10_crossings 45 = .ok (.iload 4, 2) := by decide +kernel
theorem dX10_crossings_47 : decode cX10_crossings 47 = .ok (.iload_n 1, 1) := by decide +kernel
theorem dX10_crossings_48 : decode cX10_crossings 48 = .ok (.invokevirtual 128, 3) := by decide +kernel
theorem dX10_crossings_51 : decode cX10_crossings 51 = .ok (.ifCond .ne 6, 3) := by decide +kernel
theorem dX10_crossings_54 : decode cX10_crossings 54 = .ok (.goto 58, 3) := by decide +kernel
theorem dX10_crossings_57 : decode cX10_crossings 57 = .ok (.aload_n 0, 1) := by decide +kernel
theorem dX10_crossings_58 : decode cX10_crossings 58 = .ok (.iload_n 3, 1) := by decide +kernel
theorem dX10_crossings_59 : decode cX10_crossings 59 = .ok (.iload_n 1, 1) := by decide +kernel
theorem dX10_crossings_60 : decode cX10_crossings 60 = .ok (.invokevirtual 131, 3) := by decide +kernel
theorem dX10_crossings_63 : decode cX10_crossings 63 = .ok (.aload_n 0, 1) := by decide +kernel
theorem dX10_crossings_64 : decode cX10_crossings 64 = .ok (.iload 4, 2) := by decide +kernel
theorem dX10_crossings_66 : decode cX10_crossings 66 = .ok (.iload_n 1, 1) := by decide +kernel
theorem dX10_crossings_67 : decode cX10_crossings 67 = .ok (.invokevirtual 131, 3) := by decide +kernel
theorem dX10_crossings_70 : decode cX10_crossings 70 = .ok (.isub, 1) := by decide +kernel
theorem dX10_crossings_71 : decode cX10_crossings 71 = .ok (.istore 5, 2) := by decide +kernel
theorem dX10_crossings_73 : decode cX10_crossings 73 = .ok (.aload_n 0, 1) := by decide +kernel
theorem dX10_crossings_74 : decode cX10_crossings 74 = .ok (.iload_n 3, 1) := by decide +kernel
theorem dX10_crossings_75 : decode cX10_crossings 75 = .ok (.iload_n 1, 1) := by decide +kernel
theorem dX10_crossings_76 : decode cX10_crossings 76 = .ok (.invokevirtual 134, 3) := by decide +kernel
theorem dX10_crossings_79 : decode cX10_crossings 79 = .ok (.aload_n 0, 1) := by decide +kernel
theorem dX10_crossings_80 : decode cX10_crossings 80 = .ok (.iload 4, 2) := by decide +kernel
theorem dX10_crossings_82 : decode cX10_crossings 82 = .ok (.iload_n 1, 1) := by decide +kernel
theorem dX10_crossings_83 : decode cX10_crossings 83 = .ok (.invokevirtual 134, 3) := by decide +kernel
theorem dX10_crossings_86 : decode cX10_crossings 86 = .ok (.isub, 1) := by decide +kernel
theorem dX10_crossings_87 : decode cX10_crossings 87 = .ok (.istore 6, 2) := by decide +kernel
theorem dX10_crossings_89 : decode cX10_crossings 89 = .ok (.iload 5, 2) := by decide +kernel
theorem dX10_crossings_91 : decode cX10_crossings 91 = .ok (.ifCond .ge 8, 3) := by decide +kernel
theorem dX10_crossings_94 : decode cX10_crossings 94 = .ok (.iload 6, 2) := by decide +kernel
theorem dX10_crossings_96 : decode cX10_crossings 96 = .ok (.ifCond .gt 13, 3) := by decide +kernel
theorem dX10_crossings_99 : decode cX10_crossings 99 = .ok (.iload 5, 2) := by decide +kernel
theorem dX10_crossings_101 : decode cX10_crossings 101 = .ok (.ifCond .le 11, 3) := by decide +kernel
theorem dX10_crossings_104 : decode cX10_crossings 104 = .ok (.iload 6, 2) := by decide +kernel
theorem dX10_crossings_106 : decode cX10_crossings 106 = .ok (.ifCond .ge 6, 3) := by decide +kernel
theorem dX10_crossings_109 : decode cX10_crossings 109 = .ok (.iinc 2 1, 3) := by decide +kernel
theorem dX10_crossings_112 : decode cX10_crossings 112 = .ok (.iinc 4 1, 3) := by decide +kernel
theorem dX10_crossings_115 : decode cX10_crossings 115 = .ok (.goto (-86), 3) := by decide +kernel
theorem dX10_crossings_118 : decode cX10_crossings 118 = .ok (.iinc 3 1, 3) := by decide +kernel
theorem dX10_crossings_121 : decode cX10_crossings 121 = .ok (.goto (-101), 3) := by decide +kernel
theorem dX10_crossings_124 : decode cX10_crossings 124 = .ok (.iload_n 2, 1) := by decide +kernel
theorem dX10_crossings_125 : decode cX10_crossings 125 = .ok (.ireturn, 1) := by decide +kernel
set_option maxRecDepth 20000 in
theorem ggX10_allCrossings_X10_crossings : GoodIn wsX10_allCrossings wsX10_crossings := goodIn_r _ [6, 1, 7, 8, 9, 5, 10, 11, 12, 13, 14, 15, 16, 17, 18, 19, 20, 21, 22, 23, 24, 25, 26, 27, 28, 29, 30, 31, 32, 33, 34, 35, 36, 37, 38, 39, 40, 41, 42, 43, 44, 45, 46, 47, 48, 49, 50, 51, 52, 53, 54, 55, 56, 57] (by decide +kernel) (by decide +kernel)
set_option maxRecDepth 20000 in
theorem gX10_allCrossings_X10_crossings : GoodIn wsX10_allCrossings (wsV RX10 137 RX10 yX10_crossings wsX10_crossings) := goodIn_app (goodIn_of _ (by decide +kernel)) ggX10_allCrossings_X10_crossings
theorem dX10_allCrossings_0 : decode cX10_allCrossings 0 = .ok (.iconst 0, 1) := by decide +kernel
theorem dX10_allCrossings_1 : decode cX10_allCrossings 1 = .ok (.istore_n 1, 1) := by decide +kernel
theorem dX10_allCrossings_2 : decode cX10_allCrossings 2 = .ok (.iconst 0, 1) := by decide +kernel
theorem dX10_allCrossings_3 : decode cX10_allCrossings 3 = .ok (.istore_n 2, 1) := by decide +kernel
theorem dX10_allCrossings_4 : decode cX10_allCrossings 4 = .ok (.iload_n 2, 1) := by decide +kernel
theorem dX10_allCrossings_5 : decode cX10_allCrossings 5 = .ok (.aload_n 0, 1) := by decide +kernel
theorem dX10_allCrossings_6 : decode cX10_allCrossings 6 = .ok (.getfield 103, 3) := by decide +kernel
theorem dX10_allCrossings_9 : decode cX10_allCrossings 9 = .ok (.if_icmp .ge 17, 3) := by decide +kernel
theorem dX10_allCrossings_12 : decode cX10_allCrossings 12 = .ok (.iload_n 1, 1) := by decide +kernel
theorem dX10_allCrossings_13 : decode cX10_allCrossings 13 = .ok (.aload_n 0, 1) := by decide +kernel
theorem dX10_allCrossings_14 : decode cX10_allCrossings 14 = .ok (.iload_n 2, 1) := by decide +kernel
theorem dX10_allCrossings_15 : decode cX10_allCrossings 15 = .ok (.invokevirtual 137, 3) := by decide +kernel
theorem dX10_allCrossings_18 : decode cX10_allCrossings 18 = .ok (.iadd, 1) := by decide +kernel
theorem dX10_allCrossings_19 : decode cX10_allCrossings 19 = .ok (.istore_n 1, 1) := by decide +kernel
theorem dX10_allCrossings_20 : decode cX10_allCrossings 20 = .ok (.iinc 2 1, 3) := by decide +kernel
theorem dX10_allCrossings_23 : decode cX10_allCrossings 23 = .ok (.goto (-19), 3) := by decide +kernel
theorem dX10_allCrossings_26 : decode cX10_allCrossings 26 = .ok (.iload_n 1, 1) := by decide +kernel
theorem dX10_allCrossings_27 : decode cX10_allCrossings 27 = .ok (.ireturn, 1) := by decide +kernel
set_option maxRecDepth 20000 in
theorem ggX10_median_X10_hasPiece : GoodIn wsX10_median wsX10_hasPiece := goodIn_r _ [6, 7, 8, 9, 10, 11, 5, 12, 13, 14, 15, 16, 17, 18, 19, 30, 31, 32, 33, 34, 35, 36, 37, 38, 39, 40, 41, 42, 43, 44, 45, 46, 47, 48, 49, 50, 51, 52, 53] (by decide +kernel) (by decide +kernel)
set_option maxRecDepth 20000 in
theorem gX10_median_X10_hasPiece : GoodIn wsX10_median (wsV RX10 128 RX10 yX10_hasPiece wsX10_hasPiece) := goodIn_app (goodIn_of _ (by decide +kernel)) ggX10_median_X10_hasPiece
set_option maxRecDepth 20000 in
theorem ggX10_median_X10_lowerPlace : GoodIn wsX10_median wsX10_lowerPlace := goodIn_r _ [23, 8, 24, 25, 16, 17, 18, 5, 19, 13, 15, 14, 30, 31, 32, 33, 34, 35, 36, 37, 38, 39, 40, 41, 42, 43, 44, 45, 46, 47, 48, 49, 50, 51, 52, 53] (by decide +kernel) (by decide +kernel)
set_option maxRecDepth 20000 in
theorem gX10_median_X10_lowerPlace : GoodIn wsX10_median (wsV RX10 134 RX10 yX10_lowerPlace wsX10_lowerPlace) := goodIn_app (goodIn_of _ (by decide +kernel)) ggX10_median_X10_lowerPlace
set_option maxRecDepth 20000 in
theorem ggX10_median_X10_upperPlace : GoodIn wsX10_median wsX10_upperPlace := goodIn_r _ [29, 8, 24, 25, 9, 10, 11, 5, 12, 13, 14, 15, 30, 31, 32, 33, 34, 35, 36, 37, 38, 39, 40, 41, 42, 43, 44, 45, 46, 47, 48, 49, 50, 51, 52, 53] (by decide +kernel) (by decide +kernel)
set_option maxRecDepth 20000 in
theorem gX10_median_X10_upperPlace : GoodIn wsX10_median (wsV RX10 131 RX10 yX10_upperPlace wsX10_upperPlace) := goodIn_app (goodIn_of _ (by decide +kernel)) ggX10_median_X10_upperPlace
theorem dX10_median_0 : decode cX10_median 0 = .ok (.iconst 0, 1) := by decide +kernel
theorem dX10_median_1 : decode cX10_median 1 = .ok (.istore 4, 2) := by decide +kernel
theorem dX10_median_3 : decode cX10_median 3 = .ok (.iconst 0, 1) := by decide +kernel
theorem dX10_median_4 : decode cX10_median 4 = .ok (.istore 5, 2) := by decide +kernel
theorem dX10_median_6 : decode cX10_median 6 = .ok (.iload 5, 2) := by decide +kernel
theorem dX10_median_8 : decode cX10_median 8 = .ok (.bipush 24, 2) := by decide +kernel
theorem dX10_median_10 : decode cX10_median 10 = .ok (.if_icmp .ge 103, 3) := by decide +kernel
theorem dX10_median_13 : decode cX10_median 13 = .ok (.iload_n 3, 1) := by decide +kernel
theorem dX10_median_14 : decode cX10_median 14 = .ok (.ifCond .eq 9, 3) := by decide +kernel
theorem dX10_median_17 : decode cX10_median 17 = .ok (.iload_n 1, 1) := by decide +kernel
theorem dX10_median_18 : decode cX10_median 18 = .ok (.iconst 1, 1) := by decide +kernel
theorem dX10_median_19 : decode cX10_median 19 = .ok (.isub, 1) := by decide +kernel
theorem dX10_median_20 : decode cX10_median 20 = .ok (.goto 4, 3) := by decide +kernel
theorem dX10_median_23 : decode cX10_median 23 = .ok (.iload_n 1, 1) := by decide +kernel
theorem dX10_median_24 : decode cX10_median 24 = .ok (.istore 6, 2) := by decide +kernel
theorem dX10_median_26 : decode cX10_median 26 = .ok (.aload_n 0, 1) := by decide +kernel
theorem dX10_median_27 : decode cX10_median 27 = .ok (.iload 5, 2) := by decide +kernel
theorem dX10_median_29 : decode cX10_median 29 = .ok (.iload 6, 2) := by decide +kernel
theorem dX10_median_31 : decode cX10_median 31 = .ok (.invokevirtual 128, 3) := by decide +kernel
theorem dX10_median_34 : decode cX10_median 34 = .ok (.ifCond .ne 6, 3) := by decide +kernel
theorem dX10_median_37 : decode cX10_median 37 = .ok (.goto 70, 3) := by decide +kernel
theorem dX10_median_40 : decode cX10_median 40 = .ok (.iload_n 3, 1) := by decide +kernel
theorem dX10_median_41 : decode cX10_median 41 = .ok (.ifCond .eq 14, 3) := by decide +kernel
theorem dX10_median_44 : decode cX10_median 44 = .ok (.aload_n 0, 1) := by decide +kernel
theorem dX10_median_45 : decode cX10_median 45 = .ok (.iload 5, 2) := by decide +kernel
theorem dX10_median_47 : decode cX10_median 47 = .ok (.iload 6, 2) := by decide +kernel
theorem dX10_median_49 : decode cX10_median 49 = .ok (.invokevirtual 134, 3) := by decide +kernel
theorem dX10_median_52 : decode cX10_median 52 = .ok (.goto 11, 3) := by decide +kernel
theorem dX10_median_55 : decode cX10_median 55 = .ok (.aload_n 0, 1) := by decide +kernel
theorem dX10_median_56 : decode cX10_median 56 = .ok (.iload 5, 2) := by decide +kernel
theorem dX10_median_58 : decode cX10_median 58 = .ok (.iload 6, 2) := by decide +kernel
theorem dX10_median_60 : decode cX10_median 60 = .ok (.invokevirtual 131, 3) := by decide +kernel
theorem dX10_median_63 : decode cX10_median 63 = .ok (.istore 7, 2) := by decide +kernel
theorem dX10_median_65 : decode cX10_median 65 = .ok (.iload 7, 2) := by decide +kernel
theorem dX10_median_67 : decode cX10_median 67 = .ok (.iload_n 2, 1) := by decide +kernel
theorem dX10_median_68 : decode cX10_median 68 = .ok (.if_icmp .eq 6, 3) := by decide +kernel
theorem dX10_median_71 : decode cX10_median 71 = .ok (.goto 36, 3) := by decide +kernel
theorem dX10_median_74 : decode cX10_median 74 = .ok (.aload_n 0, 1) := by decide +kernel
theorem dX10_median_75 : decode cX10_median 75 = .ok (.getfield 68, 3) := by decide +kernel
theorem dX10_median_78 : decode cX10_median 78 = .ok (.iload 4, 2) := by decide +kernel
theorem dX10_median_80 : decode cX10_median 80 = .ok (.iload_n 3, 1) := by decide +kernel
theorem dX10_median_81 : decode cX10_median 81 = .ok (.ifCond .eq 14, 3) := by decide +kernel
theorem dX10_median_84 : decode cX10_median 84 = .ok (.aload_n 0, 1) := by decide +kernel
theorem dX10_median_85 : decode cX10_median 85 = .ok (.iload 5, 2) := by decide +kernel
theorem dX10_median_87 : decode cX10_median 87 = .ok (.iload 6, 2) := by decide +kernel
theorem dX10_median_89 : decode cX10_median 89 = .ok (.invokevirtual 131, 3) := by decide +kernel
theorem dX10_median_92 : decode cX10_median 92 = .ok (.goto 11, 3) := by decide +kernel
theorem dX10_median_95 : decode cX10_median 95 = .ok (.aload_n 0, 1) := by decide +kernel
theorem dX10_median_96 : decode cX10_median 96 = .ok (.iload 5, 2) := by decide +kernel
theorem dX10_median_98 : decode cX10_median 98 = .ok (.iload 6, 2) := by decide +kernel
theorem dX10_median_100 : decode cX10_median 100 = .ok (.invokevirtual 134, 3) := by decide +kernel
theorem dX10_median_103 : decode cX10_median 103 = .ok (.iastore, 1) := by decide +kernel
theorem dX10_median_104 : decode cX10_median 104 = .ok (.iinc 4 1, 3) := by decide +kernel
theorem dX10_median_107 : decode cX10_median 107 = .ok (.iinc 5 1, 3) := by decide +kernel
theorem dX10_median_110 : decode cX10_median 110 = .ok (.goto (-104), 3) := by decide +kernel
theorem dX10_median_113 : decode cX10_median 113 = .ok (.iload 4, 2) := by decide +kernel
theorem dX10_median_115 : decode cX10_median 115 = .ok (.ifCond .ne 5, 3) := by decide +kernel
theorem dX10_median_118 : decode cX10_median 118 = .ok (.iconst (-1), 1) := by decide +kernel
theorem dX10_median_119 : decode cX10_median 119 = .ok (.ireturn, 1) := by decide +kernel
theorem dX10_median_120 : decode cX10_median 120 = .ok (.iconst 0, 1) := by decide +kernel
theorem dX10_median_121 : decode cX10_median 121 = .ok (.istore 5, 2) := by decide +kernel
theorem dX10_median_123 : decode cX10_median 123 = .ok (.iload 5, 2) := by decide +kernel
theorem dX10_median_125 : decode cX10_median 125 = .ok (.iload 4, 2) := by decide +kernel
theorem dX10_median_127 : decode cX10_median 127 = .ok (.if_icmp .ge 118, 3) := by decide +kernel
theorem dX10_median_130 : decode cX10_median 130 = .ok (.iconst 0, 1) := by decide +kernel
theorem dX10_median_131 : decode cX10_median 131 = .ok (.istore 6, 2) := by decide +kernel
theorem dX10_median_133 : decode cX10_median 133 = .ok (.iconst 0, 1) := by decide +kernel
theorem dX10_median_134 : decode cX10_median 134 = .ok (.istore 7, 2) := by decide +kernel
theorem dX10_median_136 : decode cX10_median 136 = .ok (.iconst 0, 1) := by decide +kernel
theorem dX10_median_137 : decode cX10_median 137 = .ok (.istore 8, 2) := by decide +kernel
theorem dX10_median_139 : decode cX10_median 139 = .ok (.iload 8, 2) := by decide +kernel
theorem dX10_median_141 : decode cX10_median 141 = .ok (.iload 4, 2) := by decide +kernel
theorem dX10_median_143 : decode cX10_median 143 = .ok (.if_icmp .ge 63, 3) := by decide +kernel
theorem dX10_median_146 : decode cX10_median 146 = .ok (.iload 6, 2) := by decide +kernel
theorem dX10_median_148 : decode cX10_median 148 = .ok (.aload_n 0, 1) := by decide +kernel
theorem dX10_median_149 : decode cX10_median 149 = .ok (.getfield 68, 3) := by decide +kernel
theorem dX10_median_152 : decode cX10_median 152 = .ok (.iload 8, 2) := by decide +kernel
theorem dX10_median_154 : decode cX10_median 154 = .ok (.iaload, 1) := by decide +kernel
theorem dX10_median_155 : decode cX10_median 155 = .ok (.aload_n 0, 1) := by decide +kernel
theorem dX10_median_156 : decode cX10_median 156 = .ok (.getfield 68, 3) := by decide +kernel
theorem dX10_median_159 : decode cX10_median 159 = .ok (.iload 5, 2) := by decide +kernel
theorem dX10_median_161 : decode cX10_median 161 = .ok (.iaload, 1) := by decide +kernel
theorem dX10_median_162 : decode cX10_median 162 = .ok (.if_icmp .ge 7, 3) := by decide +kernel
theorem dX10_median_165 : decode cX10_median 165 = .ok (.iconst 1, 1) := by decide +kernel
theorem dX10_median_166 : decode cX10_median 166 = .ok (.goto 4, 3) := by decide +kernel
theorem dX10_median_169 : decode cX10_median 169 = .ok (.iconst 0, 1) := by decide +kernel
theorem dX10_median_170 : decode cX10_median 170 = .ok (.iadd, 1) := by decide +kernel
theorem dX10_median_171 : decode cX10_median 171 = .ok (.istore 6, 2) := by decide +kernel
theorem dX10_median_173 : decode cX10_median 173 = .ok (.iload 7, 2) := by decide +kernel
theorem dX10_median_175 : decode cX10_median 175 = .ok (.aload_n 0, 1) := by decide +kernel
theorem dX10_median_176 : decode cX10_median 176 = .ok (.getfield 68, 3) := by decide +kernel
theorem dX10_median_179 : decode cX10_median 179 = .ok (.iload 8, 2) := by decide +kernel
theorem dX10_median_181 : decode cX10_median 181 = .ok (.iaload, 1) := by decide +kernel
theorem dX10_median_182 : decode cX10_median 182 = .ok (.aload_n 0, 1) := by decide +kernel
theorem dX10_median_183 : decode cX10_median 183 = .ok (.getfield 68, 3) := by decide +kernel
theorem dX10_median_186 : decode cX10_median 186 = .ok (.iload 5, 2) := by decide +kernel
theorem dX10_median_188 : decode cX10_median 188 = .ok (.iaload, 1) := by decide +kernel
theorem dX10_median_189 : decode cX10_median 189 = .ok (.if_icmp .ne 7, 3) := by decide +kernel
theorem dX10_median_192 : decode cX10_median 192 = .ok (.iconst 1, 1) := by decide +kernel
theorem dX10_median_193 : decode cX10_median 193 = .ok (.goto 4, 3) := by decide +kernel
theorem dX10_median_196 : decode cX10_median 196 = .ok (.iconst 0, 1) := by decide +kernel
theorem dX10_median_197 : decode cX10_median 197 = .ok (.iadd, 1) := by decide +kernel
theorem dX10_median_198 : decode cX10_median 198 = .ok (.istore 7, 2) := by decide +kernel
theorem dX10_median_200 : decode cX10_median 200 = .ok (.iinc 8 1, 3) := by decide +kernel
theorem dX10_median_203 : decode cX10_median 203 = .ok (.goto (-64), 3) := by decide +kernel
theorem dX10_median_206 : decode cX10_median 206 = .ok (.iload 6, 2) := by decide +kernel
theorem dX10_median_208 : decode cX10_median 208 = .ok (.iload 4, 2) := by decide +kernel
theorem dX10_median_210 : decode cX10_median 210 = .ok (.iconst 1, 1) := by decide +kernel
theorem dX10_median_211 : decode cX10_median 211 = .ok (.isub, 1) := by decide +kernel
theorem dX10_median_212 : decode cX10_median 212 = .ok (.iconst 2, 1) := by decide +kernel
theorem dX10_median_213 : decode cX10_median 213 = .ok (.idiv, 1) := by decide +kernel
theorem dX10_median_214 : decode cX10_median 214 = .ok (.if_icmp .gt 25, 3) := by decide +kernel
theorem dX10_median_217 : decode cX10_median 217 = .ok (.iload 4, 2) := by decide +kernel
theorem dX10_median_219 : decode cX10_median 219 = .ok (.iconst 1, 1) := by decide +kernel
theorem dX10_median_220 : decode cX10_median 220 = .ok (.isub, 1) := by decide +kernel
theorem dX10_median_221 : decode cX10_median 221 = .ok (.iconst 2, 1) := by decide +kernel
theorem dX10_median_222 : decode cX10_median 222 = .ok (.idiv, 1) := by decide +kernel
theorem dX10_median_223 : decode cX10_median 223 = .ok (.iload 6, 2) := by decide +kernel
theorem dX10_median_225 : decode cX10_median 225 = .ok (.iload 7, 2) := by decide +kernel
theorem dX10_median_227 : decode cX10_median 227 = .ok (.iadd, 1) := by decide +kernel
theorem dX10_median_228 : decode cX10_median 228 = .ok (.if_icmp .ge 11, 3) := by decide +kernel
theorem dX10_median_231 : decode cX10_median 231 = .ok (.aload_n 0, 1) := by decide +kernel
theorem dX10_median_232 : decode cX10_median 232 = .ok (.getfield 68, 3) := by decide +kernel
theorem dX10_median_235 : decode cX10_median 235 = .ok (.iload 5, 2) := by decide +kernel
theorem dX10_median_237 : decode cX10_median 237 = .ok (.iaload, 1) := by decide +kernel
theorem dX10_median_238 : decode cX10_median 238 = .ok (.ireturn, 1) := by decide +kernel
theorem dX10_median_239 : decode cX10_median 239 = .ok (.iinc 5 1, 3) := by decide +kernel
theorem dX10_median_242 : decode cX10_median 242 = .ok (.goto (-119), 3) := by decide +kernel
theorem dX10_median_245 : decode cX10_median 245 = .ok (.iconst (-1), 1) := by decide +kernel
theorem dX10_median_246 : decode cX10_median 246 = .ok (.ireturn, 1) := by decide +kernel
set_option maxRecDepth 20000 in
theorem ggX10_step_X10_crossings : GoodIn wsX10_step wsX10_crossings := goodIn_r _ [9, 10, 11, 12, 13, 8, 14, 15, 16, 17, 18, 19, 20, 21, 22, 23, 24, 25, 26, 27, 28, 29, 30, 31, 32, 33, 34, 35, 36, 37, 51, 52, 53, 54, 55, 56, 57, 58, 59, 60, 61, 62, 63, 64, 65, 66, 67, 68, 69, 70, 71, 72, 73, 74] (by decide +kernel) (by decide +kernel)
set_option maxRecDepth 20000 in
theorem gX10_step_X10_crossings : GoodIn wsX10_step (wsV RX10 137 RX10 yX10_crossings wsX10_crossings) := goodIn_app (goodIn_of _ (by decide +kernel)) ggX10_step_X10_crossings
set_option maxRecDepth 20000 in
theorem ggX10_step_X10_median : GoodIn wsX10_step wsX10_median := goodIn_r _ [41, 42, 11, 12, 13, 8, 14, 15, 16, 17, 18, 19, 20, 21, 22, 23, 24, 25, 26, 27, 34, 35, 36, 37, 32, 33, 28, 29, 30, 31, 51, 52, 53, 54, 55, 56, 57, 58, 59, 60, 61, 62, 63, 64, 65, 66, 67, 68, 69, 70, 71, 72, 73, 74] (by decide +kernel) (by decide +kernel)
set_option maxRecDepth 20000 in
theorem gX10_step_X10_median : GoodIn wsX10_step (wsV RX10 140 RX10 yX10_median wsX10_median) := goodIn_app (goodIn_of _ (by decide +kernel)) ggX10_step_X10_median
set_option maxRecDepth 20000 in
theorem ggX10_step_X10_item0 : GoodIn wsX10_step wsX10_item0 := goodIn_r _ [46, 4, 51, 52, 53, 54, 55, 56, 57, 58, 59, 60, 61, 62, 63, 64, 65, 66, 67, 68, 69, 70, 71, 72, 73, 74] (by decide +kernel) (by decide +kernel)
set_option maxRecDepth 20000 in
theorem gX10_step_X10_item0 : GoodIn wsX10_step (wsV RX10 106 RX10 yX10_item0 wsX10_item0) := goodIn_app (goodIn_of _ (by decide +kernel)) ggX10_step_X10_item0
set_option maxRecDepth 20000 in
theorem ggX10_step_X10_note : GoodIn wsX10_step wsX10_note := goodIn_r _ [50, 1, 32, 33, 43, 44, 45, 8, 46, 4, 51, 52, 53, 54, 55, 56, 57, 58, 59, 60, 61, 62, 63, 64, 65, 66, 67, 68, 69, 70, 71, 72, 73, 74] (by decide +kernel) (by decide +kernel)
set_option maxRecDepth 20000 in
theorem gX10_step_X10_note : GoodIn wsX10_step (wsV RX10 118 RX10 yX10_note wsX10_note) := goodIn_app (goodIn_of _ (by decide +kernel)) ggX10_step_X10_note
theorem dX10_step_0 : decode cX10_step 0 = .ok (.aload_n 0, 1) := by decide +kernel
theorem dX10_step_1 : decode cX10_step 1 = .ok (.iload_n 1, 1) := by decide +kernel
theorem dX10_step_2 : decode cX10_step 2 = .ok (.iconst 1, 1) := by decide +kernel
theorem dX10_step_3 : decode cX10_step 3 = .ok (.isub, 1) := by decide +kernel
theorem dX10_step_4 : decode cX10_step 4 = .ok (.invokevirtual 137, 3) := by decide +kernel
theorem dX10_step_7 : decode cX10_step 7 = .ok (.aload_n 0, 1) := by decide +kernel
theorem dX10_step_8 : decode cX10_step 8 = .ok (.iload_n 1, 1) := by decide +kernel
theorem dX10_step_9 : decode cX10_step 9 = .ok (.invokevirtual 137, 3) := by decide +kernel
theorem dX10_step_12 : decode cX10_step 12 = .ok (.iadd, 1) := by decide +kernel
theorem dX10_step_13 : decode cX10_step 13 = .ok (.istore_n 3, 1) := by decide +kernel
theorem dX10_step_14 : decode cX10_step 14 = .ok (.aload_n 0, 1) := by decide +kernel
theorem dX10_step_15 : decode cX10_step 15 = .ok (.getfield 35, 3) := by decide +kernel
theorem dX10_step_18 : decode cX10_step 18 = .ok (.iload_n 1, 1) := by decide +kernel
theorem dX10_step_19 : decode cX10_step 19 = .ok (.iaload, 1) := by decide +kernel
theorem dX10_step_20 : decode cX10_step 20 = .ok (.istore 4, 2) := by decide +kernel
theorem dX10_step_22 : decode cX10_step 22 = .ok (.iconst 0, 1) := by decide +kernel
theorem dX10_step_23 : decode cX10_step 23 = .ok (.istore 5, 2) := by decide +kernel
theorem dX10_step_25 : decode cX10_step 25 = .ok (.iload 5, 2) := by decide +kernel
theorem dX10_step_27 : decode cX10_step 27 = .ok (.iload 4, 2) := by decide +kernel
theorem dX10_step_29 : decode cX10_step 29 = .ok (.if_icmp .ge 38, 3) := by decide +kernel
theorem dX10_step_32 : decode cX10_step 32 = .ok (.aload_n 0, 1) := by decide +kernel
theorem dX10_step_33 : decode cX10_step 33 = .ok (.getfield 65, 3) := by decide +kernel
theorem dX10_step_36 : decode cX10_step 36 = .ok (.iload 5, 2) := by decide +kernel
theorem dX10_step_38 : decode cX10_step 38 = .ok (.aload_n 0, 1) := by decide +kernel
theorem dX10_step_39 : decode cX10_step 39 = .ok (.iload_n 1, 1) := by decide +kernel
theorem dX10_step_40 : decode cX10_step 40 = .ok (.iload 5, 2) := by decide +kernel
theorem dX10_step_42 : decode cX10_step 42 = .ok (.iload_n 2, 1) := by decide +kernel
theorem dX10_step_43 : decode cX10_step 43 = .ok (.invokevirtual 140, 3) := by decide +kernel
theorem dX10_step_46 : decode cX10_step 46 = .ok (.iastore, 1) := by decide +kernel
theorem dX10_step_47 : decode cX10_step 47 = .ok (.aload_n 0, 1) := by decide +kernel
theorem dX10_step_48 : decode cX10_step 48 = .ok (.getfield 62, 3) := by decide +kernel
theorem dX10_step_51 : decode cX10_step 51 = .ok (.iload 5, 2) := by decide +kernel
theorem dX10_step_53 : decode cX10_step 53 = .ok (.aload_n 0, 1) := by decide +kernel
theorem dX10_step_54 : decode cX10_step 54 = .ok (.iload_n 1, 1) := by decide +kernel
theorem dX10_step_55 : decode cX10_step 55 = .ok (.iload 5, 2) := by decide +kernel
theorem dX10_step_57 : decode cX10_step 57 = .ok (.invokevirtual 106, 3) := by decide +kernel
theorem dX10_step_60 : decode cX10_step 60 = .ok (.iastore, 1) := by decide +kernel
theorem dX10_step_61 : decode cX10_step 61 = .ok (.iinc 5 1, 3) := by decide +kernel
theorem dX10_step_64 : decode cX10_step 64 = .ok (.goto (-39), 3) := by decide +kernel
theorem dX10_step_67 : decode cX10_step 67 = .ok (.iconst 0, 1) := by decide +kernel
theorem dX10_step_68 : decode cX10_step 68 = .ok (.istore 5, 2) := by decide +kernel
theorem dX10_step_70 : decode cX10_step 70 = .ok (.iconst 0, 1) := by decide +kernel
theorem dX10_step_71 : decode cX10_step 71 = .ok (.istore 6, 2) := by decide +kernel
theorem dX10_step_73 : decode cX10_step 73 = .ok (.iload 6, 2) := by decide +kernel
theorem dX10_step_75 : decode cX10_step 75 = .ok (.bipush 40, 2) := by decide +kernel
theorem dX10_step_77 : decode cX10_step 77 = .ok (.if_icmp .ge 78, 3) := by decide +kernel
theorem dX10_step_80 : decode cX10_step 80 = .ok (.iconst 0, 1) := by decide +kernel
theorem dX10_step_81 : decode cX10_step 81 = .ok (.istore 7, 2) := by decide +kernel
theorem dX10_step_83 : decode cX10_step 83 = .ok (.iload 7, 2) := by decide +kernel
theorem dX10_step_85 : decode cX10_step 85 = .ok (.iload 4, 2) := by decide +kernel
theorem dX10_step_87 : decode cX10_step 87 = .ok (.if_icmp .ge 62, 3) := by decide +kernel
theorem dX10_step_90 : decode cX10_step 90 = .ok (.aload_n 0, 1) := by decide +kernel
theorem dX10_step_91 : decode cX10_step 91 = .ok (.getfield 65, 3) := by decide +kernel
theorem dX10_step_94 : decode cX10_step 94 = .ok (.iload 7, 2) := by decide +kernel
theorem dX10_step_96 : decode cX10_step 96 = .ok (.iaload, 1) := by decide +kernel
theorem dX10_step_97 : decode cX10_step 97 = .ok (.iload 6, 2) := by decide +kernel
theorem dX10_step_99 : decode cX10_step 99 = .ok (.if_icmp .eq 6, 3) := by decide +kernel
theorem dX10_step_102 : decode cX10_step 102 = .ok (.goto 41, 3) := by decide +kernel
theorem dX10_step_105 : decode cX10_step 105 = .ok (.aload_n 0, 1) := by decide +kernel
theorem dX10_step_106 : decode cX10_step 106 = .ok (.getfield 65, 3) := by decide +kernel
theorem dX10_step_109 : decode cX10_step 109 = .ok (.iload 5, 2) := by decide +kernel
theorem dX10_step_111 : decode cX10_step 111 = .ok (.iaload, 1) := by decide +kernel
theorem dX10_step_112 : decode cX10_step 112 = .ok (.ifCond .ge 9, 3) := by decide +kernel
theorem dX10_step_115 : decode cX10_step 115 = .ok (.iinc 5 1, 3) := by decide +kernel
theorem dX10_step_118 : decode cX10_step 118 = .ok (.goto (-13), 3) := by decide +kernel
theorem dX10_step_121 : decode cX10_step 121 = .ok (.aload_n 0, 1) := by decide +kernel
theorem dX10_step_122 : decode cX10_step 122 = .ok (.getfield 38, 3) := by decide +kernel
theorem dX10_step_125 : decode cX10_step 125 = .ok (.bipush 40, 2) := by decide +kernel
theorem dX10_step_127 : decode cX10_step 127 = .ok (.iload_n 1, 1) := by decide +kernel
theorem dX10_step_128 : decode cX10_step 128 = .ok (.imul, 1) := by decide +kernel
theorem dX10_step_129 : decode cX10_step 129 = .ok (.iload 5, 2) := by decide +kernel
theorem dX10_step_131 : decode cX10_step 131 = .ok (.iadd, 1) := by decide +kernel
theorem dX10_step_132 : decode cX10_step 132 = .ok (.aload_n 0, 1) := by decide +kernel
theorem dX10_step_133 : decode cX10_step 133 = .ok (.getfield 62, 3) := by decide +kernel
theorem dX10_step_136 : decode cX10_step 136 = .ok (.iload 7, 2) := by decide +kernel
theorem dX10_step_138 : decode cX10_step 138 = .ok (.iaload, 1) := by decide +kernel
theorem dX10_step_139 : decode cX10_step 139 = .ok (.iastore, 1) := by decide +kernel
theorem dX10_step_140 : decode cX10_step 140 = .ok (.iinc 5 1, 3) := by decide +kernel
theorem dX10_step_143 : decode cX10_step 143 = .ok (.iinc 7 1, 3) := by decide +kernel
theorem dX10_step_146 : decode cX10_step 146 = .ok (.goto (-63), 3) := by decide +kernel
theorem dX10_step_149 : decode cX10_step 149 = .ok (.iinc 6 1, 3) := by decide +kernel
theorem dX10_step_152 : decode cX10_step 152 = .ok (.goto (-79), 3) := by decide +kernel
theorem dX10_step_155 : decode cX10_step 155 = .ok (.aload_n 0, 1) := by decide +kernel
theorem dX10_step_156 : decode cX10_step 156 = .ok (.iload_n 1, 1) := by decide +kernel
theorem dX10_step_157 : decode cX10_step 157 = .ok (.invokevirtual 118, 3) := by decide +kernel
theorem dX10_step_160 : decode cX10_step 160 = .ok (.aload_n 0, 1) := by decide +kernel
theorem dX10_step_161 : decode cX10_step 161 = .ok (.iload_n 1, 1) := by decide +kernel
theorem dX10_step_162 : decode cX10_step 162 = .ok (.iconst 1, 1) := by decide +kernel
theorem dX10_step_163 : decode cX10_step 163 = .ok (.isub, 1) := by decide +kernel
theorem dX10_step_164 : decode cX10_step 164 = .ok (.invokevirtual 137, 3) := by decide +kernel
theorem dX10_step_167 : decode cX10_step 167 = .ok (.aload_n 0, 1) := by decide +kernel
theorem dX10_step_168 : decode cX10_step 168 = .ok (.iload_n 1, 1) := by decide +kernel
theorem dX10_step_169 : decode cX10_step 169 = .ok (.invokevirtual 137, 3) := by decide +kernel
theorem dX10_step_172 : decode cX10_step 172 = .ok (.iadd, 1) := by decide +kernel
theorem dX10_step_173 : decode cX10_step 173 = .ok (.iload_n 3, 1) := by decide +kernel
theorem dX10_step_174 : decode cX10_step 174 = .ok (.if_icmp .gt 4, 3) := by decide +kernel
theorem dX10_step_177 : decode cX10_step 177 = .ok (.return_, 1) := by decide +kernel
theorem dX10_step_178 : decode cX10_step 178 = .ok (.iconst 0, 1) := by decide +kernel
theorem dX10_step_179 : decode cX10_step 179 = .ok (.istore 6, 2) := by decide +kernel
theorem dX10_step_181 : decode cX10_step 181 = .ok (.iload 6, 2) := by decide +kernel
theorem dX10_step_183 : decode cX10_step 183 = .ok (.iload 4, 2) := by decide +kernel
theorem dX10_step_185 : decode cX10_step 185 = .ok (.if_icmp .ge 28, 3) := by decide +kernel
theorem dX10_step_188 : decode cX10_step 188 = .ok (.aload_n 0, 1) := by decide +kernel
theorem dX10_step_189 : decode cX10_step 189 = .ok (.getfield 38, 3) := by decide +kernel
theorem dX10_step_192 : decode cX10_step 192 = .ok (.bipush 40, 2) := by decide +kernel
theorem dX10_step_194 : decode cX10_step 194 = .ok (.iload_n 1, 1) := by decide +kernel
theorem dX10_step_195 : decode cX10_step 195 = .ok (.imul, 1) := by decide +kernel
theorem dX10_step_196 : decode cX10_step 196 = .ok (.iload 6, 2) := by decide +kernel
theorem dX10_step_198 : decode cX10_step 198 = .ok (.iadd, 1) := by decide +kernel
theorem dX10_step_199 : decode cX10_step 199 = .ok (.aload_n 0, 1) := by decide +kernel
theorem dX10_step_200 : decode cX10_step 200 = .ok (.getfield 62, 3) := by decide +kernel
theorem dX10_step_203 : decode cX10_step 203 = .ok (.iload 6, 2) := by decide +kernel
theorem dX10_step_205 : decode cX10_step 205 = .ok (.iaload, 1) := by decide +kernel
theorem dX10_step_206 : decode cX10_step 206 = .ok (.iastore, 1) := by decide +kernel
theorem dX10_step_207 : decode cX10_step 207 = .ok (.iinc 6 1, 3) := by decide +kernel
theorem dX10_step_210 : decode cX10_step 210 = .ok (.goto (-29), 3) := by decide +kernel
theorem dX10_step_213 : decode cX10_step 213 = .ok (.aload_n 0, 1) := by decide +kernel
theorem dX10_step_214 : decode cX10_step 214 = .ok (.iload_n 1, 1) := by decide +kernel
theorem dX10_step_215 : decode cX10_step 215 = .ok (.invokevirtual 118, 3) := by decide +kernel
theorem dX10_step_218 : decode cX10_step 218 = .ok (.return_, 1) := by decide +kernel
set_option maxRecDepth 20000 in
theorem ggX10_exact_X10_item0 : GoodIn wsX10_exact wsX10_item0 := goodIn_r _ [7, 8, 50, 51, 52, 53, 54, 55, 56, 57, 58, 59, 60, 61, 62, 63, 64, 65, 66, 67, 68, 69, 70, 71, 72, 73] (by decide +kernel) (by decide +kernel)
set_option maxRecDepth 20000 in
theorem gX10_exact_X10_item0 : GoodIn wsX10_exact (wsV RX10 106 RX10 yX10_item0 wsX10_item0) := goodIn_app (goodIn_of _ (by decide +kernel)) ggX10_exact_X10_item0
set_option maxRecDepth 20000 in
theorem ggX10_exact_X10_arrange : GoodIn wsX10_exact wsX10_arrange := goodIn_r _ [12, 13, 8, 2, 14, 15, 16, 6, 17, 1, 18, 19, 3, 4, 5, 7, 50, 51, 52, 53, 54, 55, 56, 57, 58, 59, 60, 61, 62, 63, 64, 65, 66, 67, 68, 69, 70, 71, 72, 73] (by decide +kernel) (by decide +kernel)
set_option maxRecDepth 20000 in
theorem gX10_exact_X10_arrange : GoodIn wsX10_exact (wsV RX10 144 RX10 yX10_arrange wsX10_arrange) := goodIn_app (goodIn_of _ (by decide +kernel)) ggX10_exact_X10_arrange
set_option maxRecDepth 20000 in
theorem ggX10_exact_X10_crossings : GoodIn wsX10_exact wsX10_crossings := goodIn_r _ [23, 24, 25, 26, 27, 6, 28, 29, 30, 31, 32, 33, 34, 35, 36, 37, 38, 39, 40, 41, 42, 43, 44, 45, 18, 19, 46, 47, 48, 49, 50, 51, 52, 53, 54, 55, 56, 57, 58, 59, 60, 61, 62, 63, 64, 65, 66, 67, 68, 69, 70, 71, 72, 73] (by decide +kernel) (by decide +kernel)
set_option maxRecDepth 20000 in
theorem gX10_exact_X10_crossings : GoodIn wsX10_exact (wsV RX10 137 RX10 yX10_crossings wsX10_crossings) := goodIn_app (goodIn_of _ (by decide +kernel)) ggX10_exact_X10_crossings
theorem dX10_exact_0 : decode cX10_exact 0 = .ok (.aload_n 0, 1) := by decide +kernel
theorem dX10_exact_1 : decode cX10_exact 1 = .ok (.getfield 35, 3) := by decide +kernel
theorem dX10_exact_4 : decode cX10_exact 4 = .ok (.iload_n 1, 1) := by decide +kernel
theorem dX10_exact_5 : decode cX10_exact 5 = .ok (.iaload, 1) := by decide +kernel
theorem dX10_exact_6 : decode cX10_exact 6 = .ok (.istore_n 2, 1) := by decide +kernel
theorem dX10_exact_7 : decode cX10_exact 7 = .ok (.iload_n 2, 1) := by decide +kernel
theorem dX10_exact_8 : decode cX10_exact 8 = .ok (.bipush 6, 2) := by decide +kernel
theorem dX10_exact_10 : decode cX10_exact 10 = .ok (.if_icmp .le 4, 3) := by decide +kernel
theorem dX10_exact_13 : decode cX10_exact 13 = .ok (.return_, 1) := by decide +kernel
theorem dX10_exact_14 : decode cX10_exact 14 = .ok (.iconst 0, 1) := by decide +kernel
theorem dX10_exact_15 : decode cX10_exact 15 = .ok (.istore_n 3, 1) := by decide +kernel
theorem dX10_exact_16 : decode cX10_exact 16 = .ok (.iload_n 3, 1) := by decide +kernel
theorem dX10_exact_17 : decode cX10_exact 17 = .ok (.iload_n 2, 1) := by decide +kernel
theorem dX10_exact_18 : decode cX10_exact 18 = .ok (.if_icmp .ge 21, 3) := by decide +kernel
theorem dX10_exact_21 : decode cX10_exact 21 = .ok (.aload_n 0, 1) := by decide +kernel
theorem dX10_exact_22 : decode cX10_exact 22 = .ok (.getfield 62, 3) := by decide +kernel
theorem dX10_exact_25 : decode cX10_exact 25 = .ok (.iload_n 3, 1) := by decide +kernel
theorem dX10_exact_26 : decode cX10_exact 26 = .ok (.aload_n 0, 1) := by decide +kernel
theorem dX10_exact_27 : decode cX10_exact 27 = .ok (.iload_n 1, 1) := by decide +kernel
theorem dX10_exact_28 : decode cX10_exact 28 = .ok (.iload_n 3, 1) := by decide +kernel
theorem dX10_exact_29 : decode cX10_exact 29 = .ok (.invokevirtual 106, 3) := by decide +kernel
theorem dX10_exact_32 : decode cX10_exact 32 = .ok (.iastore, 1) := by decide +kernel
theorem dX10_exact_33 : decode cX10_exact 33 = .ok (.iinc 3 1, 3) := by decide +kernel
theorem dX10_exact_36 : decode cX10_exact 36 = .ok (.goto (-20), 3) := by decide +kernel
theorem dX10_exact_39 : decode cX10_exact 39 = .ok (.iconst 1, 1) := by decide +kernel
theorem dX10_exact_40 : decode cX10_exact 40 = .ok (.istore_n 3, 1) := by decide +kernel
theorem dX10_exact_41 : decode cX10_exact 41 = .ok (.iconst 2, 1) := by decide +kernel
theorem dX10_exact_42 : decode cX10_exact 42 = .ok (.istore 4, 2) := by decide +kernel
theorem dX10_exact_44 : decode cX10_exact 44 = .ok (.iload 4, 2) := by decide +kernel
theorem dX10_exact_46 : decode cX10_exact 46 = .ok (.iload_n 2, 1) := by decide +kernel
theorem dX10_exact_47 : decode cX10_exact 47 = .ok (.if_icmp .gt 14, 3) := by decide +kernel
theorem dX10_exact_50 : decode cX10_exact 50 = .ok (.iload_n 3, 1) := by decide +kernel
theorem dX10_exact_51 : decode cX10_exact 51 = .ok (.iload 4, 2) := by decide +kernel
theorem dX10_exact_53 : decode cX10_exact 53 = .ok (.imul, 1) := by decide +kernel
theorem dX10_exact_54 : decode cX10_exact 54 = .ok (.istore_n 3, 1) := by decide +kernel
theorem dX10_exact_55 : decode cX10_exact 55 = .ok (.iinc 4 1, 3) := by decide +kernel
theorem dX10_exact_58 : decode cX10_exact 58 = .ok (.goto (-14), 3) := by decide +kernel
theorem dX10_exact_61 : decode cX10_exact 61 = .ok (.iconst 0, 1) := by decide +kernel
theorem dX10_exact_62 : decode cX10_exact 62 = .ok (.istore 4, 2) := by decide +kernel
theorem dX10_exact_64 : decode cX10_exact 64 = .ok (.iconst (-1), 1) := by decide +kernel
theorem dX10_exact_65 : decode cX10_exact 65 = .ok (.istore 5, 2) := by decide +kernel
theorem dX10_exact_67 : decode cX10_exact 67 = .ok (.iconst 0, 1) := by decide +kernel
theorem dX10_exact_68 : decode cX10_exact 68 = .ok (.istore 6, 2) := by decide +kernel
theorem dX10_exact_70 : decode cX10_exact 70 = .ok (.iload 6, 2) := by decide +kernel
theorem dX10_exact_72 : decode cX10_exact 72 = .ok (.iload_n 3, 1) := by decide +kernel
theorem dX10_exact_73 : decode cX10_exact 73 = .ok (.if_icmp .ge 50, 3) := by decide +kernel
theorem dX10_exact_76 : decode cX10_exact 76 = .ok (.aload_n 0, 1) := by decide +kernel
theorem dX10_exact_77 : decode cX10_exact 77 = .ok (.iload_n 1, 1) := by decide +kernel
theorem dX10_exact_78 : decode cX10_exact 78 = .ok (.iload_n 2, 1) := by decide +kernel
theorem dX10_exact_79 : decode cX10_exact 79 = .ok (.iload 6, 2) := by decide +kernel
theorem dX10_exact_81 : decode cX10_exact 81 = .ok (.iload_n 3, 1) := by decide +kernel
theorem dX10_exact_82 : decode cX10_exact 82 = .ok (.invokevirtual 144, 3) := by decide +kernel
theorem dX10_exact_85 : decode cX10_exact 85 = .ok (.aload_n 0, 1) := by decide +kernel
theorem dX10_exact_86 : decode cX10_exact 86 = .ok (.iload_n 1, 1) := by decide +kernel
theorem dX10_exact_87 : decode cX10_exact 87 = .ok (.iconst 1, 1) := by decide +kernel
theorem dX10_exact_88 : decode cX10_exact 88 = .ok (.isub, 1) := by decide +kernel
theorem dX10_exact_89 : decode cX10_exact 89 = .ok (.invokevirtual 137, 3) := by decide +kernel
theorem dX10_exact_92 : decode cX10_exact 92 = .ok (.istore 7, 2) := by decide +kernel
theorem dX10_exact_94 : decode cX10_exact 94 = .ok (.iload 5, 2) := by decide +kernel
theorem dX10_exact_96 : decode cX10_exact 96 = .ok (.ifCond .lt 13, 3) := by decide +kernel
theorem dX10_exact_99 : decode cX10_exact 99 = .ok (.iload 7, 2) := by decide +kernel
theorem dX10_exact_101 : decode cX10_exact 101 = .ok (.iload 5, 2) := by decide +kernel
theorem dX10_exact_103 : decode cX10_exact 103 = .ok (.if_icmp .lt 6, 3) := by decide +kernel
theorem dX10_exact_106 : decode cX10_exact 106 = .ok (.goto 11, 3) := by decide +kernel
theorem dX10_exact_109 : decode cX10_exact 109 = .ok (.iload 7, 2) := by decide +kernel
theorem dX10_exact_111 : decode cX10_exact 111 = .ok (.istore 5, 2) := by decide +kernel
theorem dX10_exact_113 : decode cX10_exact 113 = .ok (.iload 6, 2) := by decide +kernel
theorem dX10_exact_115 : decode cX10_exact 115 = .ok (.istore 4, 2) := by decide +kernel
theorem dX10_exact_117 : decode cX10_exact 117 = .ok (.iinc 6 1, 3) := by decide +kernel
theorem dX10_exact_120 : decode cX10_exact 120 = .ok (.goto (-50), 3) := by decide +kernel
theorem dX10_exact_123 : decode cX10_exact 123 = .ok (.aload_n 0, 1) := by decide +kernel
theorem dX10_exact_124 : decode cX10_exact 124 = .ok (.iload_n 1, 1) := by decide +kernel
theorem dX10_exact_125 : decode cX10_exact 125 = .ok (.iload_n 2, 1) := by decide +kernel
theorem dX10_exact_126 : decode cX10_exact 126 = .ok (.iload 4, 2) := by decide +kernel
theorem dX10_exact_128 : decode cX10_exact 128 = .ok (.iload_n 3, 1) := by decide +kernel
theorem dX10_exact_129 : decode cX10_exact 129 = .ok (.invokevirtual 144, 3) := by decide +kernel
theorem dX10_exact_132 : decode cX10_exact 132 = .ok (.return_, 1) := by decide +kernel
set_option maxRecDepth 20000 in
theorem ggX10_arrange_X10_note : GoodIn wsX10_arrange wsX10_note := goodIn_r _ [8, 9, 10, 11, 12, 13, 14, 7, 15, 2, 16, 17, 18, 19, 20, 21, 22, 23, 24, 25, 26, 27, 28, 29, 30, 31, 32, 33, 34, 35, 36, 37, 38, 39] (by decide +kernel) (by decide +kernel)
set_option maxRecDepth 20000 in
theorem gX10_arrange_X10_note : GoodIn wsX10_arrange (wsV RX10 118 RX10 yX10_note wsX10_note) := goodIn_app (goodIn_of _ (by decide +kernel)) ggX10_arrange_X10_note
theorem dX10_arrange_0 : decode cX10_arrange 0 = .ok (.iload_n 3, 1) := by decide +kernel
theorem dX10_arrange_1 : decode cX10_arrange 1 = .ok (.istore 5, 2) := by decide +kernel
theorem dX10_arrange_3 : decode cX10_arrange 3 = .ok (.iload 4, 2) := by decide +kernel
theorem dX10_arrange_5 : decode cX10_arrange 5 = .ok (.istore 6, 2) := by decide +kernel
theorem dX10_arrange_7 : decode cX10_arrange 7 = .ok (.iconst 0, 1) := by decide +kernel
theorem dX10_arrange_8 : decode cX10_arrange 8 = .ok (.istore 7, 2) := by decide +kernel
theorem dX10_arrange_10 : decode cX10_arrange 10 = .ok (.iload 7, 2) := by decide +kernel
theorem dX10_arrange_12 : decode cX10_arrange 12 = .ok (.iload_n 2, 1) := by decide +kernel
theorem dX10_arrange_13 : decode cX10_arrange 13 = .ok (.if_icmp .ge 18, 3) := by decide +kernel
theorem dX10_arrange_16 : decode cX10_arrange 16 = .ok (.aload_n 0, 1) := by decide +kernel
theorem dX10_arrange_17 : decode cX10_arrange 17 = .ok (.getfield 68, 3) := by decide +kernel
theorem dX10_arrange_20 : decode cX10_arrange 20 = .ok (.iload 7, 2) := by decide +kernel
theorem dX10_arrange_22 : decode cX10_arrange 22 = .ok (.iload 7, 2) := by decide +kernel
theorem dX10_arrange_24 : decode cX10_arrange 24 = .ok (.iastore, 1) := by decide +kernel
theorem dX10_arrange_25 : decode cX10_arrange 25 = .ok (.iinc 7 1, 3) := by decide +kernel
theorem dX10_arrange_28 : decode cX10_arrange 28 = .ok (.goto (-18), 3) := by decide +kernel
theorem dX10_arrange_31 : decode cX10_arrange 31 = .ok (.iconst 0, 1) := by decide +kernel
theorem dX10_arrange_32 : decode cX10_arrange 32 = .ok (.istore 7, 2) := by decide +kernel
theorem dX10_arrange_34 : decode cX10_arrange 34 = .ok (.iload 7, 2) := by decide +kernel
theorem dX10_arrange_36 : decode cX10_arrange 36 = .ok (.iload_n 2, 1) := by decide +kernel
theorem dX10_arrange_37 : decode cX10_arrange 37 = .ok (.if_icmp .ge 93, 3) := by decide +kernel
theorem dX10_arrange_40 : decode cX10_arrange 40 = .ok (.iload 6, 2) := by decide +kernel
theorem dX10_arrange_42 : decode cX10_arrange 42 = .ok (.iload_n 2, 1) := by decide +kernel
theorem dX10_arrange_43 : decode cX10_arrange 43 = .ok (.iload 7, 2) := by decide +kernel
theorem dX10_arrange_45 : decode cX10_arrange 45 = .ok (.isub, 1) := by decide +kernel
theorem dX10_arrange_46 : decode cX10_arrange 46 = .ok (.idiv, 1) := by decide +kernel
theorem dX10_arrange_47 : decode cX10_arrange 47 = .ok (.istore 6, 2) := by decide +kernel
theorem dX10_arrange_49 : decode cX10_arrange 49 = .ok (.iload 5, 2) := by decide +kernel
theorem dX10_arrange_51 : decode cX10_arrange 51 = .ok (.iload 6, 2) := by decide +kernel
theorem dX10_arrange_53 : decode cX10_arrange 53 = .ok (.idiv, 1) := by decide +kernel
theorem dX10_arrange_54 : decode cX10_arrange 54 = .ok (.istore 8, 2) := by decide +kernel
theorem dX10_arrange_56 : decode cX10_arrange 56 = .ok (.iload 5, 2) := by decide +kernel
theorem dX10_arrange_58 : decode cX10_arrange 58 = .ok (.iload 6, 2) := by decide +kernel
theorem dX10_arrange_60 : decode cX10_arrange 60 = .ok (.irem, 1) := by decide +kernel
theorem dX10_arrange_61 : decode cX10_arrange 61 = .ok (.istore 5, 2) := by decide +kernel
theorem dX10_arrange_63 : decode cX10_arrange 63 = .ok (.aload_n 0, 1) := by decide +kernel
theorem dX10_arrange_64 : decode cX10_arrange 64 = .ok (.getfield 38, 3) := by decide +kernel
theorem dX10_arrange_67 : decode cX10_arrange 67 = .ok (.bipush 40, 2) := by decide +kernel
theorem dX10_arrange_69 : decode cX10_arrange 69 = .ok (.iload_n 1, 1) := by decide +kernel
theorem dX10_arrange_70 : decode cX10_arrange 70 = .ok (.imul, 1) := by decide +kernel
theorem dX10_arrange_71 : decode cX10_arrange 71 = .ok (.iload 7, 2) := by decide +kernel
theorem dX10_arrange_73 : decode cX10_arrange 73 = .ok (.iadd, 1) := by decide +kernel
theorem dX10_arrange_74 : decode cX10_arrange 74 = .ok (.aload_n 0, 1) := by decide +kernel
theorem dX10_arrange_75 : decode cX10_arrange 75 = .ok (.getfield 62, 3) := by decide +kernel
theorem dX10_arrange_78 : decode cX10_arrange 78 = .ok (.aload_n 0, 1) := by decide +kernel
theorem dX10_arrange_79 : decode cX10_arrange 79 = .ok (.getfield 68, 3) := by decide +kernel
theorem dX10_arrange_82 : decode cX10_arrange 82 = .ok (.iload 8, 2) := by decide +kernel
theorem dX10_arrange_84 : decode cX10_arrange 84 = .ok (.iaload, 1) := by decide +kernel
theorem dX10_arrange_85 : decode cX10_arrange 85 = .ok (.iaload, 1) := by decide +kernel
theorem dX10_arrange_86 : decode cX10_arrange 86 = .ok (.iastore, 1) := by decide +kernel
theorem dX10_arrange_87 : decode cX10_arrange 87 = .ok (.iload 8, 2) := by decide +kernel
theorem dX10_arrange_89 : decode cX10_arrange 89 = .ok (.istore 9, 2) := by decide +kernel
theorem dX10_arrange_91 : decode cX10_arrange 91 = .ok (.iload 9, 2) := by decide +kernel
theorem dX10_arrange_93 : decode cX10_arrange 93 = .ok (.iconst 1, 1) := by decide +kernel
theorem dX10_arrange_94 : decode cX10_arrange 94 = .ok (.iadd, 1) := by decide +kernel
theorem dX10_arrange_95 : decode cX10_arrange 95 = .ok (.iload_n 2, 1) := by decide +kernel
theorem dX10_arrange_96 : decode cX10_arrange 96 = .ok (.iload 7, 2) := by decide +kernel
theorem dX10_arrange_98 : decode cX10_arrange 98 = .ok (.isub, 1) := by decide +kernel
theorem dX10_arrange_99 : decode cX10_arrange 99 = .ok (.if_icmp .ge 25, 3) := by decide +kernel
theorem dX10_arrange_102 : decode cX10_arrange 102 = .ok (.aload_n 0, 1) := by decide +kernel
theorem dX10_arrange_103 : decode cX10_arrange 103 = .ok (.getfield 68, 3) := by decide +kernel
theorem dX10_arrange_106 : decode cX10_arrange 106 = .ok (.iload 9, 2) := by decide +kernel
theorem dX10_arrange_108 : decode cX10_arrange 108 = .ok (.aload_n 0, 1) := by decide +kernel
theorem dX10_arrange_109 : decode cX10_arrange 109 = .ok (.getfield 68, 3) := by decide +kernel
theorem dX10_arrange_112 : decode cX10_arrange 112 = .ok (.iload 9, 2) := by decide +kernel
theorem dX10_arrange_114 : decode cX10_arrange 114 = .ok (.iconst 1, 1) := by decide +kernel
theorem dX10_arrange_115 : decode cX10_arrange 115 = .ok (.iadd, 1) := by decide +kernel
theorem dX10_arrange_116 : decode cX10_arrange 116 = .ok (.iaload, 1) := by decide +kernel
theorem dX10_arrange_117 : decode cX10_arrange 117 = .ok (.iastore, 1) := by decide +kernel
theorem dX10_arrange_118 : decode cX10_arrange 118 = .ok (.iinc 9 1, 3) := by decide +kernel
theorem dX10_arrange_121 : decode cX10_arrange 121 = .ok (.goto (-30), 3) := by decide +kernel
theorem dX10_arrange_124 : decode cX10_arrange 124 = .ok (.iinc 7 1, 3) := by decide +kernel
theorem dX10_arrange_127 : decode cX10_arrange 127 = .ok (.goto (-93), 3) := by decide +kernel
theorem dX10_arrange_130 : decode cX10_arrange 130 = .ok (.aload_n 0, 1) := by decide +kernel
theorem dX10_arrange_131 : decode cX10_arrange 131 = .ok (.iload_n 1, 1) := by decide +kernel
theorem dX10_arrange_132 : decode cX10_arrange 132 = .ok (.invokevirtual 118, 3) := by decide +kernel
theorem dX10_arrange_135 : decode cX10_arrange 135 = .ok (.return_, 1) := by decide +kernel
set_option maxRecDepth 20000 in
theorem ggX10_drawOrders_X10_firstOrders : GoodIn wsX10_drawOrders wsX10_firstOrders := goodIn_r _ [6, 1, 7, 8, 9, 10, 11, 12, 5, 13, 14, 15, 16, 17, 18, 19, 20, 21, 22, 23, 24, 25, 26, 27, 28, 29, 30, 31, 32, 33, 34, 35, 36, 37, 38, 39, 40, 76, 77, 78, 79, 80, 81, 82, 83, 84, 85, 86, 87, 88, 89, 90, 91, 92, 93, 94, 95, 96, 97, 98, 99] (by decide +kernel) (by decide +kernel)
set_option maxRecDepth 20000 in
theorem gX10_drawOrders_X10_firstOrders : GoodIn wsX10_drawOrders (wsV RX10 122 RX10 yX10_firstOrders wsX10_firstOrders) := goodIn_app (goodIn_of _ (by decide +kernel)) ggX10_drawOrders_X10_firstOrders
set_option maxRecDepth 20000 in
theorem ggX10_drawOrders_X10_step : GoodIn wsX10_drawOrders wsX10_step := goodIn_r _ [44, 7, 45, 46, 14, 47, 48, 49, 5, 50, 1, 51, 52, 53, 54, 19, 9, 20, 21, 22, 23, 24, 25, 26, 27, 28, 29, 30, 55, 56, 57, 58, 35, 36, 59, 60, 61, 62, 63, 64, 65, 66, 67, 37, 38, 39, 40, 31, 32, 33, 34, 76, 77, 78, 79, 80, 81, 82, 83, 84, 85, 86, 87, 88, 89, 90, 91, 92, 93, 94, 95, 96, 97, 98, 99] (by decide +kernel) (by decide +kernel)
set_option maxRecDepth 20000 in
theorem gX10_drawOrders_X10_step : GoodIn wsX10_drawOrders (wsV RX10 148 RX10 yX10_step wsX10_step) := goodIn_app (goodIn_of _ (by decide +kernel)) ggX10_drawOrders_X10_step
set_option maxRecDepth 20000 in
theorem ggX10_drawOrders_X10_exact : GoodIn wsX10_drawOrders wsX10_exact := goodIn_r _ [71, 7, 46, 37, 38, 39, 5, 40, 14, 72, 73, 74, 75, 67, 31, 32, 33, 34, 35, 36, 47, 48, 49, 50, 1, 51, 52, 53, 54, 19, 9, 20, 21, 22, 23, 24, 25, 26, 27, 28, 29, 30, 55, 56, 57, 58, 59, 60, 61, 62, 76, 77, 78, 79, 80, 81, 82, 83, 84, 85, 86, 87, 88, 89, 90, 91, 92, 93, 94, 95, 96, 97, 98, 99] (by decide +kernel) (by decide +kernel)
set_option maxRecDepth 20000 in
theorem gX10_drawOrders_X10_exact : GoodIn wsX10_drawOrders (wsV RX10 152 RX10 yX10_exact wsX10_exact) := goodIn_app (goodIn_of _ (by decide +kernel)) ggX10_drawOrders_X10_exact
theorem dX10_drawOrders_0 : decode cX10_drawOrders 0 = .ok (.aload_n 0, 1) := by decide +kernel
theorem dX10_drawOrders_1 : decode cX10_drawOrders 1 = .ok (.invokevirtual 122, 3) := by decide +kernel
theorem dX10_drawOrders_4 : decode cX10_drawOrders 4 = .ok (.iconst 0, 1) := by decide +kernel
theorem dX10_drawOrders_5 : decode cX10_drawOrders 5 = .ok (.istore_n 2, 1) := by decide +kernel
theorem dX10_drawOrders_6 : decode cX10_drawOrders 6 = .ok (.iload_n 2, 1) := by decide +kernel
theorem dX10_drawOrders_7 : decode cX10_drawOrders 7 = .ok (.iload_n 1, 1) := by decide +kernel
theorem dX10_drawOrders_8 : decode cX10_drawOrders 8 = .ok (.if_icmp .ge 54, 3) := by decide +kernel
theorem dX10_drawOrders_11 : decode cX10_drawOrders 11 = .ok (.iconst 1, 1) := by decide +kernel
theorem dX10_drawOrders_12 : decode cX10_drawOrders 12 = .ok (.istore_n 3, 1) := by decide +kernel
theorem dX10_drawOrders_13 : decode cX10_drawOrders 13 = .ok (.iload_n 3, 1) := by decide +kernel
theorem dX10_drawOrders_14 : decode cX10_drawOrders 14 = .ok (.aload_n 0, 1) := by decide +kernel
theorem dX10_drawOrders_15 : decode cX10_drawOrders 15 = .ok (.getfield 103, 3) := by decide +kernel
theorem dX10_drawOrders_18 : decode cX10_drawOrders 18 = .ok (.if_icmp .ge 15, 3) := by decide +kernel
theorem dX10_drawOrders_21 : decode cX10_drawOrders 21 = .ok (.aload_n 0, 1) := by decide +kernel
theorem dX10_drawOrders_22 : decode cX10_drawOrders 22 = .ok (.iload_n 3, 1) := by decide +kernel
theorem dX10_drawOrders_23 : decode cX10_drawOrders 23 = .ok (.iconst 1, 1) := by decide +kernel
theorem dX10_drawOrders_24 : decode cX10_drawOrders 24 = .ok (.invokevirtual 148, 3) := by decide +kernel
theorem dX10_drawOrders_27 : decode cX10_drawOrders 27 = .ok (.iinc 3 1, 3) := by decide +kernel
theorem dX10_drawOrders_30 : decode cX10_drawOrders 30 = .ok (.goto (-17), 3) := by decide +kernel
theorem dX10_drawOrders_33 : decode cX10_drawOrders 33 = .ok (.aload_n 0, 1) := by decide +kernel
theorem dX10_drawOrders_34 : decode cX10_drawOrders 34 = .ok (.getfield 103, 3) := by decide +kernel
theorem dX10_drawOrders_37 : decode cX10_drawOrders 37 = .ok (.iconst 2, 1) := by decide +kernel
theorem dX10_drawOrders_38 : decode cX10_drawOrders 38 = .ok (.isub, 1) := by decide +kernel
theorem dX10_drawOrders_39 : decode cX10_drawOrders 39 = .ok (.istore_n 3, 1) := by decide +kernel
theorem dX10_drawOrders_40 : decode cX10_drawOrders 40 = .ok (.iload_n 3, 1) := by decide +kernel
theorem dX10_drawOrders_41 : decode cX10_drawOrders 41 = .ok (.ifCond .lt 15, 3) := by decide +kernel
theorem dX10_drawOrders_44 : decode cX10_drawOrders 44 = .ok (.aload_n 0, 1) := by decide +kernel
theorem dX10_drawOrders_45 : decode cX10_drawOrders 45 = .ok (.iload_n 3, 1) := by decide +kernel
theorem dX10_drawOrders_46 : decode cX10_drawOrders 46 = .ok (.iconst 0, 1) := by decide +kernel
theorem dX10_drawOrders_47 : decode cX10_drawOrders 47 = .ok (.invokevirtual 148, 3) := by decide +kernel
theorem dX10_drawOrders_50 : decode cX10_drawOrders 50 = .ok (.iinc 3 (-1), 3) := by decide +kernel
theorem dX10_drawOrders_53 : decode cX10_drawOrders 53 = .ok (.goto (-13), 3) := by decide +kernel
theorem dX10_drawOrders_56 : decode cX10_drawOrders 56 = .ok (.iinc 2 1, 3) := by decide +kernel
theorem dX10_drawOrders_59 : decode cX10_drawOrders 59 = .ok (.goto (-53), 3) := by decide +kernel
theorem dX10_drawOrders_62 : decode cX10_drawOrders 62 = .ok (.iconst 1, 1) := by decide +kernel
theorem dX10_drawOrders_63 : decode cX10_drawOrders 63 = .ok (.istore_n 2, 1) := by decide +kernel
theorem dX10_drawOrders_64 : decode cX10_drawOrders 64 = .ok (.iload_n 2, 1) := by decide +kernel
theorem dX10_drawOrders_65 : decode cX10_drawOrders 65 = .ok (.aload_n 0, 1) := by decide +kernel
theorem dX10_drawOrders_66 : decode cX10_drawOrders 66 = .ok (.getfield 103, 3) := by decide +kernel
theorem dX10_drawOrders_69 : decode cX10_drawOrders 69 = .ok (.if_icmp .ge 14, 3) := by decide +kernel
theorem dX10_drawOrders_72 : decode cX10_drawOrders 72 = .ok (.aload_n 0, 1) := by decide +kernel
theorem dX10_drawOrders_73 : decode cX10_drawOrders 73 = .ok (.iload_n 2, 1) := by decide +kernel
theorem dX10_drawOrders_74 : decode cX10_drawOrders 74 = .ok (.invokevirtual 152, 3) := by decide +kernel
theorem dX10_drawOrders_77 : decode cX10_drawOrders 77 = .ok (.iinc 2 1, 3) := by decide +kernel
theorem dX10_drawOrders_80 : decode cX10_drawOrders 80 = .ok (.goto (-16), 3) := by decide +kernel
theorem dX10_drawOrders_83 : decode cX10_drawOrders 83 = .ok (.return_, 1) := by decide +kernel
theorem dX10_widthOf_0 : decode cX10_widthOf 0 = .ok (.iload_n 1, 1) := by decide +kernel
theorem dX10_widthOf_1 : decode cX10_widthOf 1 = .ok (.bipush 100, 2) := by decide +kernel
theorem dX10_widthOf_3 : decode cX10_widthOf 3 = .ok (.if_icmp .ge 12, 3) := by decide +kernel
theorem dX10_widthOf_6 : decode cX10_widthOf 6 = .ok (.aload_n 0, 1) := by decide +kernel
theorem dX10_widthOf_7 : decode cX10_widthOf 7 = .ok (.getfield 13, 3) := by decide +kernel
theorem dX10_widthOf_10 : decode cX10_widthOf 10 = .ok (.iload_n 1, 1) := by decide +kernel
theorem dX10_widthOf_11 : decode cX10_widthOf 11 = .ok (.iaload, 1) := by decide +kernel
theorem dX10_widthOf_12 : decode cX10_widthOf 12 = .ok (.goto 4, 3) := by decide +kernel
theorem dX10_widthOf_15 : decode cX10_widthOf 15 = .ok (.iconst 1, 1) := by decide +kernel
theorem dX10_widthOf_16 : decode cX10_widthOf 16 = .ok (.ireturn, 1) := by decide +kernel
set_option maxRecDepth 20000 in
theorem ggX10_middle_X10_item0 : GoodIn wsX10_middle wsX10_item0 := goodIn_r _ [6, 7, 13, 14, 15, 16, 17, 18, 19, 20, 21, 22, 23, 24, 25, 26, 27, 28, 29, 30, 31, 32, 33, 34, 35, 36] (by decide +kernel) (by decide +kernel)
set_option maxRecDepth 20000 in
theorem gX10_middle_X10_item0 : GoodIn wsX10_middle (wsV RX10 106 RX10 yX10_item0 wsX10_item0) := goodIn_app (goodIn_of _ (by decide +kernel)) ggX10_middle_X10_item0
set_option maxRecDepth 20000 in
theorem ggX10_middle_X10_widthOf : GoodIn wsX10_middle wsX10_widthOf := goodIn_r _ [11, 12, 13, 14, 15, 16, 17, 18, 19, 20, 21, 22, 23, 24, 25, 26, 27, 28, 29, 30, 31, 32, 33, 34, 35, 36] (by decide +kernel) (by decide +kernel)
set_option maxRecDepth 20000 in
theorem gX10_middle_X10_widthOf : GoodIn wsX10_middle (wsV RX10 155 RX10 yX10_widthOf wsX10_widthOf) := goodIn_app (goodIn_of _ (by decide +kernel)) ggX10_middle_X10_widthOf
theorem dX10_middle_0 : decode cX10_middle 0 = .ok (.aload_n 0, 1) := by decide +kernel
theorem dX10_middle_1 : decode cX10_middle 1 = .ok (.getfield 47, 3) := by decide +kernel
theorem dX10_middle_4 : decode cX10_middle 4 = .ok (.bipush 40, 2) := by decide +kernel
theorem dX10_middle_6 : decode cX10_middle 6 = .ok (.iload_n 1, 1) := by decide +kernel
theorem dX10_middle_7 : decode cX10_middle 7 = .ok (.imul, 1) := by decide +kernel
theorem dX10_middle_8 : decode cX10_middle 8 = .ok (.iload_n 2, 1) := by decide +kernel
theorem dX10_middle_9 : decode cX10_middle 9 = .ok (.iadd, 1) := by decide +kernel
theorem dX10_middle_10 : decode cX10_middle 10 = .ok (.iaload, 1) := by decide +kernel
theorem dX10_middle_11 : decode cX10_middle 11 = .ok (.aload_n 0, 1) := by decide +kernel
theorem dX10_middle_12 : decode cX10_middle 12 = .ok (.aload_n 0, 1) := by decide +kernel
theorem dX10_middle_13 : decode cX10_middle 13 = .ok (.iload_n 1, 1) := by decide +kernel
theorem dX10_middle_14 : decode cX10_middle 14 = .ok (.iload_n 2, 1) := by decide +kernel
theorem dX10_middle_15 : decode cX10_middle 15 = .ok (.invokevirtual 106, 3) := by decide +kernel
theorem dX10_middle_18 : decode cX10_middle 18 = .ok (.invokevirtual 155, 3) := by decide +kernel
theorem dX10_middle_21 : decode cX10_middle 21 = .ok (.iconst 2, 1) := by decide +kernel
theorem dX10_middle_22 : decode cX10_middle 22 = .ok (.idiv, 1) := by decide +kernel
theorem dX10_middle_23 : decode cX10_middle 23 = .ok (.iadd, 1) := by decide +kernel
theorem dX10_middle_24 : decode cX10_middle 24 = .ok (.ireturn, 1) := by decide +kernel
theorem dX10_down_0 : decode cX10_down 0 = .ok (.iload_n 0, 1) := by decide +kernel
theorem dX10_down_1 : decode cX10_down 1 = .ok (.iload_n 1, 1) := by decide +kernel
theorem dX10_down_2 : decode cX10_down 2 = .ok (.idiv, 1) := by decide +kernel
theorem dX10_down_3 : decode cX10_down 3 = .ok (.istore_n 2, 1) := by decide +kernel
theorem dX10_down_4 : decode cX10_down 4 = .ok (.iload_n 2, 1) := by decide +kernel
theorem dX10_down_5 : decode cX10_down 5 = .ok (.iload_n 1, 1) := by decide +kernel
theorem dX10_down_6 : decode cX10_down 6 = .ok (.imul, 1) := by decide +kernel
theorem dX10_down_7 : decode cX10_down 7 = .ok (.iload_n 0, 1) := by decide +kernel
theorem dX10_down_8 : decode cX10_down 8 = .ok (.if_icmp .le 9, 3) := by decide +kernel
theorem dX10_down_11 : decode cX10_down 11 = .ok (.iload_n 2, 1) := by decide +kernel
theorem dX10_down_12 : decode cX10_down 12 = .ok (.iconst 1, 1) := by decide +kernel
theorem dX10_down_13 : decode cX10_down 13 = .ok (.isub, 1) := by decide +kernel
theorem dX10_down_14 : decode cX10_down 14 = .ok (.goto 4, 3) := by decide +kernel
theorem dX10_down_17 : decode cX10_down 17 = .ok (.iload_n 2, 1) := by decide +kernel
theorem dX10_down_18 : decode cX10_down 18 = .ok (.ireturn, 1) := by decide +kernel
set_option maxRecDepth 20000 in
theorem ggX10_pass_X10_hasPiece : GoodIn wsX10_pass wsX10_hasPiece := goodIn_r _ [7, 8, 9, 10, 11, 12, 6, 13, 14, 15, 16, 17, 18, 19, 20, 48, 49, 50, 51, 52, 53, 54, 55, 56, 57, 58, 59, 60, 61, 62, 63, 64, 65, 66, 67, 68, 69, 70, 71] (by decide +kernel) (by decide +kernel)
set_option maxRecDepth 20000 in
theorem gX10_pass_X10_hasPiece : GoodIn wsX10_pass (wsV RX10 128 RX10 yX10_hasPiece wsX10_hasPiece) := goodIn_app (goodIn_of _ (by decide +kernel)) ggX10_pass_X10_hasPiece
set_option maxRecDepth 20000 in
theorem ggX10_pass_X10_lowerPlace : GoodIn wsX10_pass wsX10_lowerPlace := goodIn_r _ [24, 9, 25, 26, 17, 18, 19, 6, 20, 14, 16, 15, 48, 49, 50, 51, 52, 53, 54, 55, 56, 57, 58, 59, 60, 61, 62, 63, 64, 65, 66, 67, 68, 69, 70, 71] (by decide +kernel) (by decide +kernel)
set_option maxRecDepth 20000 in
theorem gX10_pass_X10_lowerPlace : GoodIn wsX10_pass (wsV RX10 134 RX10 yX10_lowerPlace wsX10_lowerPlace) := goodIn_app (goodIn_of _ (by decide +kernel)) ggX10_pass_X10_lowerPlace
set_option maxRecDepth 20000 in
theorem ggX10_pass_X10_upperPlace : GoodIn wsX10_pass wsX10_upperPlace := goodIn_r _ [30, 9, 25, 26, 10, 11, 12, 6, 13, 14, 15, 16, 48, 49, 50, 51, 52, 53, 54, 55, 56, 57, 58, 59, 60, 61, 62, 63, 64, 65, 66, 67, 68, 69, 70, 71] (by decide +kernel) (by decide +kernel)
set_option maxRecDepth 20000 in
theorem gX10_pass_X10_upperPlace : GoodIn wsX10_pass (wsV RX10 131 RX10 yX10_upperPlace wsX10_upperPlace) := goodIn_app (goodIn_of _ (by decide +kernel)) ggX10_pass_X10_upperPlace
set_option maxRecDepth 20000 in
theorem ggX10_pass_X10_middle : GoodIn wsX10_pass wsX10_middle := goodIn_r _ [34, 2, 35, 36, 37, 6, 38, 39, 40, 41, 42, 43, 44, 48, 49, 50, 51, 52, 53, 54, 55, 56, 57, 58, 59, 60, 61, 62, 63, 64, 65, 66, 67, 68, 69, 70, 71] (by decide +kernel) (by decide +kernel)
set_option maxRecDepth 20000 in
theorem gX10_pass_X10_middle : GoodIn wsX10_pass (wsV RX10 158 RX10 yX10_middle wsX10_middle) := goodIn_app (goodIn_of _ (by decide +kernel)) ggX10_pass_X10_middle
set_option maxRecDepth 20000 in
theorem ggX10_pass_X10_item0 : GoodIn wsX10_pass wsX10_item0 := goodIn_r _ [38, 39, 48, 49, 50, 51, 52, 53, 54, 55, 56, 57, 58, 59, 60, 61, 62, 63, 64, 65, 66, 67, 68, 69, 70, 71] (by decide +kernel) (by decide +kernel)
set_option maxRecDepth 20000 in
theorem gX10_pass_X10_item0 : GoodIn wsX10_pass (wsV RX10 106 RX10 yX10_item0 wsX10_item0) := goodIn_app (goodIn_of _ (by decide +kernel)) ggX10_pass_X10_item0
set_option maxRecDepth 20000 in
theorem ggX10_pass_X10_widthOf : GoodIn wsX10_pass wsX10_widthOf := goodIn_r _ [43, 44, 48, 49, 50, 51, 52, 53, 54, 55, 56, 57, 58, 59, 60, 61, 62, 63, 64, 65, 66, 67, 68, 69, 70, 71] (by decide +kernel) (by decide +kernel)
set_option maxRecDepth 20000 in
theorem gX10_pass_X10_widthOf : GoodIn wsX10_pass (wsV RX10 155 RX10 yX10_widthOf wsX10_widthOf) := goodIn_app (goodIn_of _ (by decide +kernel)) ggX10_pass_X10_widthOf
set_option maxRecDepth 20000 in
theorem ggX10_pass_X10_down : GoodIn wsX10_pass wsX10_down := goodIn_r _ [47] (by decide +kernel) (by decide +kernel)
set_option maxRecDepth 20000 in
theorem gX10_pass_X10_down : GoodIn wsX10_pass (va_wsS RX10 161 yX10_down wsX10_down) := goodIn_app (goodIn_of _ (by decide +kernel)) ggX10_pass_X10_down
theorem dX10_pass_0 : decode cX10_pass 0 = .ok (.iconst 0, 1) := by decide +kernel
theorem dX10_pass_1 : decode cX10_pass 1 = .ok (.istore_n 3, 1) := by decide +kernel
theorem dX10_pass_2 : decode cX10_pass 2 = .ok (.iconst 0, 1) := by decide +kernel
theorem dX10_pass_3 : decode cX10_pass 3 = .ok (.istore 4, 2) := by decide +kernel
theorem dX10_pass_5 : decode cX10_pass 5 = .ok (.iload 4, 2) := by decide +kernel
theorem dX10_pass_7 : decode cX10_pass 7 = .ok (.aload_n 0, 1) := by decide +kernel
theorem dX10_pass_8 : decode cX10_pass 8 = .ok (.getfield 35, 3) := by decide +kernel
theorem dX10_pass_11 : decode cX10_pass 11 = .ok (.iload_n 1, 1) := by decide +kernel
theorem dX10_pass_12 : decode cX10_pass 12 = .ok (.iaload, 1) := by decide +kernel
theorem dX10_pass_13 : decode cX10_pass 13 = .ok (.if_icmp .ge 224, 3) := by decide +kernel
theorem dX10_pass_16 : decode cX10_pass 16 = .ok (.iconst 0, 1) := by decide +kernel
theorem dX10_pass_17 : decode cX10_pass 17 = .ok (.istore 5, 2) := by decide +kernel
theorem dX10_pass_19 : decode cX10_pass 19 = .ok (.iconst 0, 1) := by decide +kernel
theorem dX10_pass_20 : decode cX10_pass 20 = .ok (.istore 6, 2) := by decide +kernel
theorem dX10_pass_22 : decode cX10_pass 22 = .ok (.iconst 0, 1) := by decide +kernel
theorem dX10_pass_23 : decode cX10_pass 23 = .ok (.istore 7, 2) := by decide +kernel
theorem dX10_pass_25 : decode cX10_pass 25 = .ok (.iload 7, 2) := by decide +kernel
theorem dX10_pass_27 : decode cX10_pass 27 = .ok (.bipush 24, 2) := by decide +kernel
theorem dX10_pass_29 : decode cX10_pass 29 = .ok (.if_icmp .ge 117, 3) := by decide +kernel
theorem dX10_pass_32 : decode cX10_pass 32 = .ok (.iload_n 2, 1) := by decide +kernel
theorem dX10_pass_33 : decode cX10_pass 33 = .ok (.ifCond .eq 9, 3) := by decide +kernel
theorem dX10_pass_36 : decode cX10_pass 36 = .ok (.iload_n 1, 1) := by decide +kernel
theorem dX10_pass_37 : decode cX10_pass 37 = .ok (.iconst 1, 1) := by decide +kernel
theorem dX10_pass_38 : decode cX10_pass 38 = .ok (.isub, 1) := by decide +kernel
theorem dX10_pass_39 : decode cX10_pass 39 = .ok (.goto 4, 3) := by decide +kernel
theorem dX10_pass_42 : decode cX10_pass 42 = .ok (.iload_n 1, 1) := by decide +kernel
theorem dX10_pass_43 : decode cX10_pass 43 = .ok (.istore 8, 2) := by decide +kernel
theorem dX10_pass_45 : decode cX10_pass 45 = .ok (.iload 8, 2) := by decide +kernel
theorem dX10_pass_47 : decode cX10_pass 47 = .ok (.ifCond .lt 93, 3) := by decide +kernel
theorem dX10_pass_50 : decode cX10_pass 50 = .ok (.aload_n 0, 1) := by decide +kernel
theorem dX10_pass_51 : decode cX10_pass 51 = .ok (.iload 7, 2) := by decide +kernel
theorem dX10_pass_53 : decode cX10_pass 53 = .ok (.iload 8, 2) := by decide +kernel
theorem dX10_pass_55 : decode cX10_pass 55 = .ok (.invokevirtual 128, 3) := by decide +kernel
theorem dX10_pass_58 : decode cX10_pass 58 = .ok (.ifCond .ne 6, 3) := by decide +kernel
theorem dX10_pass_61 : decode cX10_pass 61 = .ok (.goto 79, 3) := by decide +kernel
theorem dX10_pass_64 : decode cX10_pass 64 = .ok (.iload_n 2, 1) := by decide +kernel
theorem dX10_pass_65 : decode cX10_pass 65 = .ok (.ifCond .eq 14, 3) := by decide +kernel
theorem dX10_pass_68 : decode cX10_pass 68 = .ok (.aload_n 0, 1) := by decide +kernel
theorem dX10_pass_69 : decode cX10_pass 69 = .ok (.iload 7, 2) := by decide +kernel
theorem dX10_pass_71 : decode cX10_pass 71 = .ok (.iload 8, 2) := by decide +kernel
theorem dX10_pass_73 : decode cX10_pass 73 = .ok (.invokevirtual 134, 3) := by decide +kernel
theorem dX10_pass_76 : decode cX10_pass 76 = .ok (.goto 11, 3) := by decide +kernel
theorem dX10_pass_79 : decode cX10_pass 79 = .ok (.aload_n 0, 1) := by decide +kernel
theorem dX10_pass_80 : decode cX10_pass 80 = .ok (.iload 7, 2) := by decide +kernel
theorem dX10_pass_82 : decode cX10_pass 82 = .ok (.iload 8, 2) := by decide +kernel
theorem dX10_pass_84 : decode cX10_pass 84 = .ok (.invokevirtual 131, 3) := by decide +kernel
theorem dX10_pass_87 : decode cX10_pass 87 = .ok (.iload 4, 2) := by decide +kernel
theorem dX10_pass_89 : decode cX10_pass 89 = .ok (.if_icmp .eq 6, 3) := by decide +kernel
theorem dX10_pass_92 : decode cX10_pass 92 = .ok (.goto 48, 3) := by decide +kernel
theorem dX10_pass_95 : decode cX10_pass 95 = .ok (.iload 6, 2) := by decide +kernel
theorem dX10_pass_97 : decode cX10_pass 97 = .ok (.iload_n 2, 1) := by decide +kernel
theorem dX10_pass_98 : decode cX10_pass 98 = .ok (.ifCond .eq 21, 3) := by decide +kernel
theorem dX10_pass_101 : decode cX10_pass 101 = .ok (.aload_n 0, 1) := by decide +kernel
theorem dX10_pass_102 : decode cX10_pass 102 = .ok (.iload_n 1, 1) := by decide +kernel
theorem dX10_pass_103 : decode cX10_pass 103 = .ok (.iconst 1, 1) := by decide +kernel
theorem dX10_pass_104 : decode cX10_pass 104 = .ok (.isub, 1) := by decide +kernel
theorem dX10_pass_105 : decode cX10_pass 105 = .ok (.aload_n 0, 1) := by decide +kernel
theorem dX10_pass_106 : decode cX10_pass 106 = .ok (.iload 7, 2) := by decide +kernel
theorem dX10_pass_108 : decode cX10_pass 108 = .ok (.iload 8, 2) := by decide +kernel
theorem dX10_pass_110 : decode cX10_pass 110 = .ok (.invokevirtual 131, 3) := by decide +kernel
theorem dX10_pass_113 : decode cX10_pass 113 = .ok (.invokevirtual 158, 3) := by decide +kernel
theorem dX10_pass_116 : decode cX10_pass 116 = .ok (.goto 18, 3) := by decide +kernel
theorem dX10_pass_119 : decode cX10_pass 119 = .ok (.aload_n 0, 1) := by decide +kernel
theorem dX10_pass_120 : decode cX10_pass 120 = .ok (.iload_n 1, 1) := by decide +kernel
theorem dX10_pass_121 : decode cX10_pass 121 = .ok (.iconst 1, 1) := by decide +kernel
theorem dX10_pass_122 : decode cX10_pass 122 = .ok (.iadd, 1) := by decide +kernel
theorem dX10_pass_123 : decode cX10_pass 123 = .ok (.aload_n 0, 1) := by decide +kernel
theorem dX10_pass_124 : decode cX10_pass 124 = .ok (.iload 7, 2) := by decide +kernel
theorem dX10_pass_126 : decode cX10_pass 126 = .ok (.iload 8, 2) := by decide +kernel
theorem dX10_pass_128 : decode cX10_pass 128 = .ok (.invokevirtual 134, 3) := by decide +kernel
theorem dX10_pass_131 : decode cX10_pass 131 = .ok (.invokevirtual 158, 3) := by decide +kernel
theorem dX10_pass_134 : decode cX10_pass 134 = .ok (.iadd, 1) := by decide +kernel
theorem dX10_pass_135 : decode cX10_pass 135 = .ok (.istore 6, 2) := by decide +kernel
theorem dX10_pass_137 : decode cX10_pass 137 = .ok (.iinc 5 1, 3) := by decide +kernel
theorem dX10_pass_140 : decode cX10_pass 140 = .ok (.iinc 7 1, 3) := by decide +kernel
theorem dX10_pass_143 : decode cX10_pass 143 = .ok (.goto (-118), 3) := by decide +kernel
theorem dX10_pass_146 : decode cX10_pass 146 = .ok (.aload_n 0, 1) := by decide +kernel
theorem dX10_pass_147 : decode cX10_pass 147 = .ok (.aload_n 0, 1) := by decide +kernel
theorem dX10_pass_148 : decode cX10_pass 148 = .ok (.iload_n 1, 1) := by decide +kernel
theorem dX10_pass_149 : decode cX10_pass 149 = .ok (.iload 4, 2) := by decide +kernel
theorem dX10_pass_151 : decode cX10_pass 151 = .ok (.invokevirtual 106, 3) := by decide +kernel
theorem dX10_pass_154 : decode cX10_pass 154 = .ok (.invokevirtual 155, 3) := by decide +kernel
theorem dX10_pass_157 : decode cX10_pass 157 = .ok (.istore 7, 2) := by decide +kernel
theorem dX10_pass_159 : decode cX10_pass 159 = .ok (.iload 5, 2) := by decide +kernel
theorem dX10_pass_161 : decode cX10_pass 161 = .ok (.ifCond .ne 18, 3) := by decide +kernel
theorem dX10_pass_164 : decode cX10_pass 164 = .ok (.aload_n 0, 1) := by decide +kernel
theorem dX10_pass_165 : decode cX10_pass 165 = .ok (.getfield 47, 3) := by decide +kernel
theorem dX10_pass_168 : decode cX10_pass 168 = .ok (.bipush 40, 2) := by decide +kernel
theorem dX10_pass_170 : decode cX10_pass 170 = .ok (.iload_n 1, 1) := by decide +kernel
theorem dX10_pass_171 : decode cX10_pass 171 = .ok (.imul, 1) := by decide +kernel
