theorem dX0_init_0 : decode cX0_init 0 = .ok (.aload_n 0, 1) := by decide +kernel
theorem dX0_init_1 : decode cX0_init 1 = .ok (.invokespecial 3, 3) := by decide +kernel
theorem dX0_init_4 : decode cX0_init 4 = .ok (.aload_n 0, 1) := by decide +kernel
theorem dX0_init_5 : decode cX0_init 5 = .ok (.bipush 36, 2) := by decide +kernel
theorem dX0_init_7 : decode cX0_init 7 = .ok (.newarray .int, 2) := by decide +kernel
theorem dX0_init_9 : decode cX0_init 9 = .ok (.putfield 11, 3) := by decide +kernel
theorem dX0_init_12 : decode cX0_init 12 = .ok (.aload_n 0, 1) := by decide +kernel
theorem dX0_init_13 : decode cX0_init 13 = .ok (.bipush 24, 2) := by decide +kernel
theorem dX0_init_15 : decode cX0_init 15 = .ok (.newarray .int, 2) := by decide +kernel
theorem dX0_init_17 : decode cX0_init 17 = .ok (.putfield 15, 3) := by decide +kernel
theorem dX0_init_20 : decode cX0_init 20 = .ok (.aload_n 0, 1) := by decide +kernel
theorem dX0_init_21 : decode cX0_init 21 = .ok (.bipush 24, 2) := by decide +kernel
theorem dX0_init_23 : decode cX0_init 23 = .ok (.newarray .int, 2) := by decide +kernel
theorem dX0_init_25 : decode cX0_init 25 = .ok (.putfield 18, 3) := by decide +kernel
theorem dX0_init_28 : decode cX0_init 28 = .ok (.aload_n 0, 1) := by decide +kernel
theorem dX0_init_29 : decode cX0_init 29 = .ok (.bipush 6, 2) := by decide +kernel
theorem dX0_init_31 : decode cX0_init 31 = .ok (.newarray .int, 2) := by decide +kernel
theorem dX0_init_33 : decode cX0_init 33 = .ok (.putfield 21, 3) := by decide +kernel
theorem dX0_init_36 : decode cX0_init 36 = .ok (.aload_n 0, 1) := by decide +kernel
theorem dX0_init_37 : decode cX0_init 37 = .ok (.bipush 6, 2) := by decide +kernel
theorem dX0_init_39 : decode cX0_init 39 = .ok (.newarray .boolean, 2) := by decide +kernel
theorem dX0_init_41 : decode cX0_init 41 = .ok (.putfield 24, 3) := by decide +kernel
theorem dX0_init_44 : decode cX0_init 44 = .ok (.aload_n 0, 1) := by decide +kernel
theorem dX0_init_45 : decode cX0_init 45 = .ok (.bipush 6, 2) := by decide +kernel
theorem dX0_init_47 : decode cX0_init 47 = .ok (.newarray .int, 2) := by decide +kernel
theorem dX0_init_49 : decode cX0_init 49 = .ok (.putfield 28, 3) := by decide +kernel
theorem dX0_init_52 : decode cX0_init 52 = .ok (.aload_n 0, 1) := by decide +kernel
theorem dX0_init_53 : decode cX0_init 53 = .ok (.bipush 6, 2) := by decide +kernel
theorem dX0_init_55 : decode cX0_init 55 = .ok (.newarray .int, 2) := by decide +kernel
theorem dX0_init_57 : decode cX0_init 57 = .ok (.putfield 31, 3) := by decide +kernel
theorem dX0_init_60 : decode cX0_init 60 = .ok (.aload_n 0, 1) := by decide +kernel
theorem dX0_init_61 : decode cX0_init 61 = .ok (.aload_n 1, 1) := by decide +kernel
theorem dX0_init_62 : decode cX0_init 62 = .ok (.putfield 34, 3) := by decide +kernel
theorem dX0_init_65 : decode cX0_init 65 = .ok (.aload_n 0, 1) := by decide +kernel
theorem dX0_init_66 : decode cX0_init 66 = .ok (.iconst 0, 1) := by decide +kernel
theorem dX0_init_67 : decode cX0_init 67 = .ok (.putfield 38, 3) := by decide +kernel
theorem dX0_init_70 : decode cX0_init 70 = .ok (.aload_n 0, 1) := by decide +kernel
theorem dX0_init_71 : decode cX0_init 71 = .ok (.iconst 0, 1) := by decide +kernel
theorem dX0_init_72 : decode cX0_init 72 = .ok (.putfield 42, 3) := by decide +kernel
theorem dX0_init_75 : decode cX0_init 75 = .ok (.return_, 1) := by decide +kernel
set_option maxRecDepth 20000 in
theorem ggX0_arrange_X4_sizeOf : GoodIn wsX0_arrange wsX4_sizeOf := goodIn_r _ [11, 12, 13, 93, 94, 95, 96, 97] (by decide +kernel) (by decide +kernel)
set_option maxRecDepth 20000 in
theorem gX0_arrange_X4_sizeOf : GoodIn wsX0_arrange (wsV RX0 45 RX4 yX4_sizeOf wsX4_sizeOf) := goodIn_app (goodIn_of _ (by decide +kernel)) ggX0_arrange_X4_sizeOf
set_option maxRecDepth 20000 in
theorem ggX0_arrange_X0_findCosts : GoodIn wsX0_arrange wsX0_findCosts := goodIn_r _ [18, 19, 20, 21, 22, 23, 24, 25, 26, 27, 28, 29, 30, 31, 32, 33, 34, 35, 36, 37, 38, 39, 40, 41, 42, 43, 44, 45, 10, 46, 47, 48, 49, 50, 17, 51, 52, 53, 54, 83, 84, 85, 86, 87, 88, 89, 90, 91, 92, 98, 99, 100, 101, 93, 94, 95, 96, 97] (by decide +kernel) (by decide +kernel)
set_option maxRecDepth 20000 in
theorem gX0_arrange_X0_findCosts : GoodIn wsX0_arrange (wsV RX0 51 RX0 yX0_findCosts wsX0_findCosts) := goodIn_app (goodIn_of _ (by decide +kernel)) ggX0_arrange_X0_findCosts
set_option maxRecDepth 20000 in
theorem ggX0_arrange_X4_itemIn : GoodIn wsX0_arrange wsX4_itemIn := goodIn_r _ [58, 59, 60, 8, 9, 10, 11, 12, 13, 93, 94, 95, 96, 97] (by decide +kernel) (by decide +kernel)
set_option maxRecDepth 20000 in
theorem gX0_arrange_X4_itemIn : GoodIn wsX0_arrange (wsV RX0 55 RX4 yX4_itemIn wsX4_itemIn) := goodIn_app (goodIn_of _ (by decide +kernel)) ggX0_arrange_X4_itemIn
set_option maxRecDepth 20000 in
theorem ggX0_arrange_X0_choose : GoodIn wsX0_arrange wsX0_choose := goodIn_r _ [64, 5, 1, 65, 6, 66, 67, 68, 69, 3, 70, 71, 72, 17, 73, 74, 75, 76, 77, 19, 61, 62, 63, 83, 84, 85, 86, 87, 88, 89, 90, 91, 92] (by decide +kernel) (by decide +kernel)
set_option maxRecDepth 20000 in
theorem gX0_arrange_X0_choose : GoodIn wsX0_arrange (wsV RX0 60 RX0 yX0_choose wsX0_choose) := goodIn_app (goodIn_of _ (by decide +kernel)) ggX0_arrange_X0_choose
set_option maxRecDepth 20000 in
theorem ggX0_arrange_X4_put : GoodIn wsX0_arrange wsX4_put := goodIn_r _ [81, 59, 47, 82, 60, 8, 9, 10, 11, 12, 13, 93, 94, 95, 96, 97] (by decide +kernel) (by decide +kernel)
set_option maxRecDepth 20000 in
theorem gX0_arrange_X4_put : GoodIn wsX0_arrange (wsV RX0 64 RX4 yX4_put wsX4_put) := goodIn_app (goodIn_of _ (by decide +kernel)) ggX0_arrange_X4_put
theorem dX0_arrange_0 : decode cX0_arrange 0 = .ok (.aload_n 0, 1) := by decide +kernel
theorem dX0_arrange_1 : decode cX0_arrange 1 = .ok (.aload_n 1, 1) := by decide +kernel
theorem dX0_arrange_2 : decode cX0_arrange 2 = .ok (.iload_n 2, 1) := by decide +kernel
theorem dX0_arrange_3 : decode cX0_arrange 3 = .ok (.invokevirtual 45, 3) := by decide +kernel
theorem dX0_arrange_6 : decode cX0_arrange 6 = .ok (.putfield 42, 3) := by decide +kernel
theorem dX0_arrange_9 : decode cX0_arrange 9 = .ok (.aload_n 0, 1) := by decide +kernel
theorem dX0_arrange_10 : decode cX0_arrange 10 = .ok (.getfield 42, 3) := by decide +kernel
theorem dX0_arrange_13 : decode cX0_arrange 13 = .ok (.bipush 6, 2) := by decide +kernel
theorem dX0_arrange_15 : decode cX0_arrange 15 = .ok (.if_icmp .le 4, 3) := by decide +kernel
theorem dX0_arrange_18 : decode cX0_arrange 18 = .ok (.return_, 1) := by decide +kernel
theorem dX0_arrange_19 : decode cX0_arrange 19 = .ok (.aload_n 0, 1) := by decide +kernel
theorem dX0_arrange_20 : decode cX0_arrange 20 = .ok (.aload_n 1, 1) := by decide +kernel
theorem dX0_arrange_21 : decode cX0_arrange 21 = .ok (.iload_n 2, 1) := by decide +kernel
theorem dX0_arrange_22 : decode cX0_arrange 22 = .ok (.invokevirtual 51, 3) := by decide +kernel
theorem dX0_arrange_25 : decode cX0_arrange 25 = .ok (.iconst 0, 1) := by decide +kernel
theorem dX0_arrange_26 : decode cX0_arrange 26 = .ok (.istore_n 3, 1) := by decide +kernel
theorem dX0_arrange_27 : decode cX0_arrange 27 = .ok (.iload_n 3, 1) := by decide +kernel
theorem dX0_arrange_28 : decode cX0_arrange 28 = .ok (.aload_n 0, 1) := by decide +kernel
theorem dX0_arrange_29 : decode cX0_arrange 29 = .ok (.getfield 42, 3) := by decide +kernel
theorem dX0_arrange_32 : decode cX0_arrange 32 = .ok (.if_icmp .ge 28, 3) := by decide +kernel
theorem dX0_arrange_35 : decode cX0_arrange 35 = .ok (.aload_n 0, 1) := by decide +kernel
theorem dX0_arrange_36 : decode cX0_arrange 36 = .ok (.getfield 21, 3) := by decide +kernel
theorem dX0_arrange_39 : decode cX0_arrange 39 = .ok (.iload_n 3, 1) := by decide +kernel
theorem dX0_arrange_40 : decode cX0_arrange 40 = .ok (.aload_n 1, 1) := by decide +kernel
theorem dX0_arrange_41 : decode cX0_arrange 41 = .ok (.iload_n 2, 1) := by decide +kernel
theorem dX0_arrange_42 : decode cX0_arrange 42 = .ok (.iload_n 3, 1) := by decide +kernel
theorem dX0_arrange_43 : decode cX0_arrange 43 = .ok (.invokevirtual 55, 3) := by decide +kernel
theorem dX0_arrange_46 : decode cX0_arrange 46 = .ok (.iastore, 1) := by decide +kernel
theorem dX0_arrange_47 : decode cX0_arrange 47 = .ok (.aload_n 0, 1) := by decide +kernel
theorem dX0_arrange_48 : decode cX0_arrange 48 = .ok (.getfield 24, 3) := by decide +kernel
theorem dX0_arrange_51 : decode cX0_arrange 51 = .ok (.iload_n 3, 1) := by decide +kernel
theorem dX0_arrange_52 : decode cX0_arrange 52 = .ok (.iconst 0, 1) := by decide +kernel
theorem dX0_arrange_53 : decode cX0_arrange 53 = .ok (.bastore, 1) := by decide +kernel
theorem dX0_arrange_54 : decode cX0_arrange 54 = .ok (.iinc 3 1, 3) := by decide +kernel
theorem dX0_arrange_57 : decode cX0_arrange 57 = .ok (.goto (-30), 3) := by decide +kernel
theorem dX0_arrange_60 : decode cX0_arrange 60 = .ok (.aload_n 0, 1) := by decide +kernel
theorem dX0_arrange_61 : decode cX0_arrange 61 = .ok (.ldc 59, 2) := by decide +kernel
theorem dX0_arrange_63 : decode cX0_arrange 63 = .ok (.putfield 38, 3) := by decide +kernel
theorem dX0_arrange_66 : decode cX0_arrange 66 = .ok (.aload_n 0, 1) := by decide +kernel
theorem dX0_arrange_67 : decode cX0_arrange 67 = .ok (.iconst 0, 1) := by decide +kernel
theorem dX0_arrange_68 : decode cX0_arrange 68 = .ok (.iconst 0, 1) := by decide +kernel
theorem dX0_arrange_69 : decode cX0_arrange 69 = .ok (.invokevirtual 60, 3) := by decide +kernel
theorem dX0_arrange_72 : decode cX0_arrange 72 = .ok (.iconst 0, 1) := by decide +kernel
theorem dX0_arrange_73 : decode cX0_arrange 73 = .ok (.istore_n 3, 1) := by decide +kernel
theorem dX0_arrange_74 : decode cX0_arrange 74 = .ok (.iload_n 3, 1) := by decide +kernel
theorem dX0_arrange_75 : decode cX0_arrange 75 = .ok (.aload_n 0, 1) := by decide +kernel
theorem dX0_arrange_76 : decode cX0_arrange 76 = .ok (.getfield 42, 3) := by decide +kernel
theorem dX0_arrange_79 : decode cX0_arrange 79 = .ok (.if_icmp .ge 26, 3) := by decide +kernel
theorem dX0_arrange_82 : decode cX0_arrange 82 = .ok (.aload_n 1, 1) := by decide +kernel
theorem dX0_arrange_83 : decode cX0_arrange 83 = .ok (.iload_n 2, 1) := by decide +kernel
theorem dX0_arrange_84 : decode cX0_arrange 84 = .ok (.iload_n 3, 1) := by decide +kernel
theorem dX0_arrange_85 : decode cX0_arrange 85 = .ok (.aload_n 0, 1) := by decide +kernel
theorem dX0_arrange_86 : decode cX0_arrange 86 = .ok (.getfield 21, 3) := by decide +kernel
theorem dX0_arrange_89 : decode cX0_arrange 89 = .ok (.aload_n 0, 1) := by decide +kernel
theorem dX0_arrange_90 : decode cX0_arrange 90 = .ok (.getfield 31, 3) := by decide +kernel
theorem dX0_arrange_93 : decode cX0_arrange 93 = .ok (.iload_n 3, 1) := by decide +kernel
theorem dX0_arrange_94 : decode cX0_arrange 94 = .ok (.iaload, 1) := by decide +kernel
theorem dX0_arrange_95 : decode cX0_arrange 95 = .ok (.iaload, 1) := by decide +kernel
theorem dX0_arrange_96 : decode cX0_arrange 96 = .ok (.invokevirtual 64, 3) := by decide +kernel
theorem dX0_arrange_99 : decode cX0_arrange 99 = .ok (.iinc 3 1, 3) := by decide +kernel
theorem dX0_arrange_102 : decode cX0_arrange 102 = .ok (.goto (-28), 3) := by decide +kernel
theorem dX0_arrange_105 : decode cX0_arrange 105 = .ok (.return_, 1) := by decide +kernel
set_option maxRecDepth 20000 in
theorem ggX0_findCosts_J7_fill_53178 : GoodIn wsX0_findCosts wsJ7_fill_53178 := goodIn_r _ [12] (by decide +kernel) (by decide +kernel)
set_option maxRecDepth 20000 in
theorem gX0_findCosts_J7_fill_53178 : GoodIn wsX0_findCosts (va_wsS RX0 68 yJ7_fill_53178 wsJ7_fill_53178) := goodIn_app (goodIn_of _ (by decide +kernel)) ggX0_findCosts_J7_fill_53178
set_option maxRecDepth 20000 in
theorem ggX0_findCosts_X6_sizeOf : GoodIn wsX0_findCosts wsX6_sizeOf := goodIn_r _ [17, 18, 49, 50, 51, 52] (by decide +kernel) (by decide +kernel)
set_option maxRecDepth 20000 in
theorem gX0_findCosts_X6_sizeOf : GoodIn wsX0_findCosts (wsV RX0 74 RX6 yX6_sizeOf wsX6_sizeOf) := goodIn_app (goodIn_of _ (by decide +kernel)) ggX0_findCosts_X6_sizeOf
set_option maxRecDepth 20000 in
theorem ggX0_findCosts_X6_endOf : GoodIn wsX0_findCosts wsX6_endOf := goodIn_r _ [22, 18, 23, 24, 49, 50, 51, 52] (by decide +kernel) (by decide +kernel)
set_option maxRecDepth 20000 in
theorem gX0_findCosts_X6_endOf : GoodIn wsX0_findCosts (wsV RX0 82 RX6 yX6_endOf wsX6_endOf) := goodIn_app (goodIn_of _ (by decide +kernel)) ggX0_findCosts_X6_endOf
set_option maxRecDepth 20000 in
theorem ggX0_findCosts_X4_placeIn : GoodIn wsX0_findCosts wsX4_placeIn := goodIn_r _ [29, 30, 53, 54, 55, 56, 57] (by decide +kernel) (by decide +kernel)
set_option maxRecDepth 20000 in
theorem gX0_findCosts_X4_placeIn : GoodIn wsX0_findCosts (wsV RX0 86 RX4 yX4_placeIn wsX4_placeIn) := goodIn_app (goodIn_of _ (by decide +kernel)) ggX0_findCosts_X4_placeIn
set_option maxRecDepth 20000 in
theorem ggX0_findCosts_X0_addCost : GoodIn wsX0_findCosts wsX0_addCost := goodIn_r _ [35, 8, 7, 1, 36, 37, 34, 38, 39, 40, 41, 42, 43, 44, 45, 46, 47, 48] (by decide +kernel) (by decide +kernel)
set_option maxRecDepth 20000 in
theorem gX0_findCosts_X0_addCost : GoodIn wsX0_findCosts (wsV RX0 89 RX0 yX0_addCost wsX0_addCost) := goodIn_app (goodIn_of _ (by decide +kernel)) ggX0_findCosts_X0_addCost
theorem dX0_findCosts_0 : decode cX0_findCosts 0 = .ok (.aload_n 0, 1) := by decide +kernel
theorem dX0_findCosts_1 : decode cX0_findCosts 1 = .ok (.getfield 11, 3) := by decide +kernel
theorem dX0_findCosts_4 : decode cX0_findCosts 4 = .ok (.iconst 0, 1) := by decide +kernel
theorem dX0_findCosts_5 : decode cX0_findCosts 5 = .ok (.invokestatic 68, 3) := by decide +kernel
theorem dX0_findCosts_8 : decode cX0_findCosts 8 = .ok (.iload_n 2, 1) := by decide +kernel
theorem dX0_findCosts_9 : decode cX0_findCosts 9 = .ok (.iconst 1, 1) := by decide +kernel
theorem dX0_findCosts_10 : decode cX0_findCosts 10 = .ok (.isub, 1) := by decide +kernel
theorem dX0_findCosts_11 : decode cX0_findCosts 11 = .ok (.istore_n 3, 1) := by decide +kernel
theorem dX0_findCosts_12 : decode cX0_findCosts 12 = .ok (.aload_n 0, 1) := by decide +kernel
theorem dX0_findCosts_13 : decode cX0_findCosts 13 = .ok (.getfield 34, 3) := by decide +kernel
theorem dX0_findCosts_16 : decode cX0_findCosts 16 = .ok (.iload_n 3, 1) := by decide +kernel
theorem dX0_findCosts_17 : decode cX0_findCosts 17 = .ok (.invokevirtual 74, 3) := by decide +kernel
theorem dX0_findCosts_20 : decode cX0_findCosts 20 = .ok (.bipush 24, 2) := by decide +kernel
theorem dX0_findCosts_22 : decode cX0_findCosts 22 = .ok (.invokestatic 77, 3) := by decide +kernel
theorem dX0_findCosts_25 : decode cX0_findCosts 25 = .ok (.istore 4, 2) := by decide +kernel
theorem dX0_findCosts_27 : decode cX0_findCosts 27 = .ok (.iconst 0, 1) := by decide +kernel
theorem dX0_findCosts_28 : decode cX0_findCosts 28 = .ok (.istore 5, 2) := by decide +kernel
theorem dX0_findCosts_30 : decode cX0_findCosts 30 = .ok (.iload 5, 2) := by decide +kernel
theorem dX0_findCosts_32 : decode cX0_findCosts 32 = .ok (.iload 4, 2) := by decide +kernel
theorem dX0_findCosts_34 : decode cX0_findCosts 34 = .ok (.if_icmp .ge 87, 3) := by decide +kernel
theorem dX0_findCosts_37 : decode cX0_findCosts 37 = .ok (.aload_n 0, 1) := by decide +kernel
theorem dX0_findCosts_38 : decode cX0_findCosts 38 = .ok (.getfield 15, 3) := by decide +kernel
theorem dX0_findCosts_41 : decode cX0_findCosts 41 = .ok (.iload 5, 2) := by decide +kernel
theorem dX0_findCosts_43 : decode cX0_findCosts 43 = .ok (.aload_n 1, 1) := by decide +kernel
theorem dX0_findCosts_44 : decode cX0_findCosts 44 = .ok (.iload_n 3, 1) := by decide +kernel
theorem dX0_findCosts_45 : decode cX0_findCosts 45 = .ok (.aload_n 0, 1) := by decide +kernel
theorem dX0_findCosts_46 : decode cX0_findCosts 46 = .ok (.getfield 34, 3) := by decide +kernel
theorem dX0_findCosts_49 : decode cX0_findCosts 49 = .ok (.iload_n 3, 1) := by decide +kernel
theorem dX0_findCosts_50 : decode cX0_findCosts 50 = .ok (.iload 5, 2) := by decide +kernel
theorem dX0_findCosts_52 : decode cX0_findCosts 52 = .ok (.iconst 1, 1) := by decide +kernel
theorem dX0_findCosts_53 : decode cX0_findCosts 53 = .ok (.invokevirtual 82, 3) := by decide +kernel
theorem dX0_findCosts_56 : decode cX0_findCosts 56 = .ok (.invokevirtual 86, 3) := by decide +kernel
theorem dX0_findCosts_59 : decode cX0_findCosts 59 = .ok (.iastore, 1) := by decide +kernel
theorem dX0_findCosts_60 : decode cX0_findCosts 60 = .ok (.aload_n 0, 1) := by decide +kernel
theorem dX0_findCosts_61 : decode cX0_findCosts 61 = .ok (.getfield 18, 3) := by decide +kernel
theorem dX0_findCosts_64 : decode cX0_findCosts 64 = .ok (.iload 5, 2) := by decide +kernel
theorem dX0_findCosts_66 : decode cX0_findCosts 66 = .ok (.aload_n 1, 1) := by decide +kernel
theorem dX0_findCosts_67 : decode cX0_findCosts 67 = .ok (.iload_n 2, 1) := by decide +kernel
theorem dX0_findCosts_68 : decode cX0_findCosts 68 = .ok (.aload_n 0, 1) := by decide +kernel
theorem dX0_findCosts_69 : decode cX0_findCosts 69 = .ok (.getfield 34, 3) := by decide +kernel
theorem dX0_findCosts_72 : decode cX0_findCosts 72 = .ok (.iload_n 3, 1) := by decide +kernel
theorem dX0_findCosts_73 : decode cX0_findCosts 73 = .ok (.iload 5, 2) := by decide +kernel
theorem dX0_findCosts_75 : decode cX0_findCosts 75 = .ok (.iconst 0, 1) := by decide +kernel
theorem dX0_findCosts_76 : decode cX0_findCosts 76 = .ok (.invokevirtual 82, 3) := by decide +kernel
theorem dX0_findCosts_79 : decode cX0_findCosts 79 = .ok (.invokevirtual 86, 3) := by decide +kernel
theorem dX0_findCosts_82 : decode cX0_findCosts 82 = .ok (.iastore, 1) := by decide +kernel
theorem dX0_findCosts_83 : decode cX0_findCosts 83 = .ok (.iconst 0, 1) := by decide +kernel
theorem dX0_findCosts_84 : decode cX0_findCosts 84 = .ok (.istore 6, 2) := by decide +kernel
theorem dX0_findCosts_86 : decode cX0_findCosts 86 = .ok (.iload 6, 2) := by decide +kernel
theorem dX0_findCosts_88 : decode cX0_findCosts 88 = .ok (.iload 5, 2) := by decide +kernel
theorem dX0_findCosts_90 : decode cX0_findCosts 90 = .ok (.if_icmp .ge 25, 3) := by decide +kernel
theorem dX0_findCosts_93 : decode cX0_findCosts 93 = .ok (.aload_n 0, 1) := by decide +kernel
theorem dX0_findCosts_94 : decode cX0_findCosts 94 = .ok (.iload 5, 2) := by decide +kernel
theorem dX0_findCosts_96 : decode cX0_findCosts 96 = .ok (.iload 6, 2) := by decide +kernel
theorem dX0_findCosts_98 : decode cX0_findCosts 98 = .ok (.invokevirtual 89, 3) := by decide +kernel
theorem dX0_findCosts_101 : decode cX0_findCosts 101 = .ok (.aload_n 0, 1) := by decide +kernel
theorem dX0_findCosts_102 : decode cX0_findCosts 102 = .ok (.iload 6, 2) := by decide +kernel
theorem dX0_findCosts_104 : decode cX0_findCosts 104 = .ok (.iload 5, 2) := by decide +kernel
theorem dX0_findCosts_106 : decode cX0_findCosts 106 = .ok (.invokevirtual 89, 3) := by decide +kernel
theorem dX0_findCosts_109 : decode cX0_findCosts 109 = .ok (.iinc 6 1, 3) := by decide +kernel
theorem dX0_findCosts_112 : decode cX0_findCosts 112 = .ok (.goto (-26), 3) := by decide +kernel
theorem dX0_findCosts_115 : decode cX0_findCosts 115 = .ok (.iinc 5 1, 3) := by decide +kernel
theorem dX0_findCosts_118 : decode cX0_findCosts 118 = .ok (.goto (-88), 3) := by decide +kernel
theorem dX0_findCosts_121 : decode cX0_findCosts 121 = .ok (.return_, 1) := by decide +kernel
set_option maxRecDepth 20000 in
theorem ggX0_addCost_X0_isPlace : GoodIn wsX0_addCost wsX0_isPlace := goodIn_r _ [7] (by decide +kernel) (by decide +kernel)
set_option maxRecDepth 20000 in
theorem gX0_addCost_X0_isPlace : GoodIn wsX0_addCost (va_wsS RX0 92 yX0_isPlace wsX0_isPlace) := goodIn_app (goodIn_of _ (by decide +kernel)) ggX0_addCost_X0_isPlace
theorem dX0_addCost_0 : decode cX0_addCost 0 = .ok (.aload_n 0, 1) := by decide +kernel
theorem dX0_addCost_1 : decode cX0_addCost 1 = .ok (.getfield 18, 3) := by decide +kernel
theorem dX0_addCost_4 : decode cX0_addCost 4 = .ok (.iload_n 1, 1) := by decide +kernel
theorem dX0_addCost_5 : decode cX0_addCost 5 = .ok (.iaload, 1) := by decide +kernel
theorem dX0_addCost_6 : decode cX0_addCost 6 = .ok (.invokestatic 92, 3) := by decide +kernel
theorem dX0_addCost_9 : decode cX0_addCost 9 = .ok (.ifCond .eq 19, 3) := by decide +kernel
theorem dX0_addCost_12 : decode cX0_addCost 12 = .ok (.aload_n 0, 1) := by decide +kernel
theorem dX0_addCost_13 : decode cX0_addCost 13 = .ok (.getfield 18, 3) := by decide +kernel
theorem dX0_addCost_16 : decode cX0_addCost 16 = .ok (.iload_n 2, 1) := by decide +kernel
theorem dX0_addCost_17 : decode cX0_addCost 17 = .ok (.iaload, 1) := by decide +kernel
theorem dX0_addCost_18 : decode cX0_addCost 18 = .ok (.invokestatic 92, 3) := by decide +kernel
theorem dX0_addCost_21 : decode cX0_addCost 21 = .ok (.ifCond .eq 7, 3) := by decide +kernel
theorem dX0_addCost_24 : decode cX0_addCost 24 = .ok (.iconst 1, 1) := by decide +kernel
theorem dX0_addCost_25 : decode cX0_addCost 25 = .ok (.goto 4, 3) := by decide +kernel
theorem dX0_addCost_28 : decode cX0_addCost 28 = .ok (.iconst 0, 1) := by decide +kernel
theorem dX0_addCost_29 : decode cX0_addCost 29 = .ok (.istore_n 3, 1) := by decide +kernel
theorem dX0_addCost_30 : decode cX0_addCost 30 = .ok (.iload_n 3, 1) := by decide +kernel
theorem dX0_addCost_31 : decode cX0_addCost 31 = .ok (.ifCond .eq 43, 3) := by decide +kernel
theorem dX0_addCost_34 : decode cX0_addCost 34 = .ok (.aload_n 0, 1) := by decide +kernel
theorem dX0_addCost_35 : decode cX0_addCost 35 = .ok (.getfield 15, 3) := by decide +kernel
theorem dX0_addCost_38 : decode cX0_addCost 38 = .ok (.iload_n 1, 1) := by decide +kernel
theorem dX0_addCost_39 : decode cX0_addCost 39 = .ok (.iaload, 1) := by decide +kernel
theorem dX0_addCost_40 : decode cX0_addCost 40 = .ok (.aload_n 0, 1) := by decide +kernel
theorem dX0_addCost_41 : decode cX0_addCost 41 = .ok (.getfield 15, 3) := by decide +kernel
theorem dX0_addCost_44 : decode cX0_addCost 44 = .ok (.iload_n 2, 1) := by decide +kernel
theorem dX0_addCost_45 : decode cX0_addCost 45 = .ok (.iaload, 1) := by decide +kernel
theorem dX0_addCost_46 : decode cX0_addCost 46 = .ok (.if_icmp .le 28, 3) := by decide +kernel
theorem dX0_addCost_49 : decode cX0_addCost 49 = .ok (.aload_n 0, 1) := by decide +kernel
theorem dX0_addCost_50 : decode cX0_addCost 50 = .ok (.getfield 11, 3) := by decide +kernel
theorem dX0_addCost_53 : decode cX0_addCost 53 = .ok (.aload_n 0, 1) := by decide +kernel
theorem dX0_addCost_54 : decode cX0_addCost 54 = .ok (.getfield 18, 3) := by decide +kernel
theorem dX0_addCost_57 : decode cX0_addCost 57 = .ok (.iload_n 1, 1) := by decide +kernel
theorem dX0_addCost_58 : decode cX0_addCost 58 = .ok (.iaload, 1) := by decide +kernel
theorem dX0_addCost_59 : decode cX0_addCost 59 = .ok (.bipush 6, 2) := by decide +kernel
theorem dX0_addCost_61 : decode cX0_addCost 61 = .ok (.imul, 1) := by decide +kernel
theorem dX0_addCost_62 : decode cX0_addCost 62 = .ok (.aload_n 0, 1) := by decide +kernel
theorem dX0_addCost_63 : decode cX0_addCost 63 = .ok (.getfield 18, 3) := by decide +kernel
theorem dX0_addCost_66 : decode cX0_addCost 66 = .ok (.iload_n 2, 1) := by decide +kernel
theorem dX0_addCost_67 : decode cX0_addCost 67 = .ok (.iaload, 1) := by decide +kernel
theorem dX0_addCost_68 : decode cX0_addCost 68 = .ok (.iadd, 1) := by decide +kernel
theorem dX0_addCost_69 : decode cX0_addCost 69 = .ok (.dup2, 1) := by decide +kernel
theorem dX0_addCost_70 : decode cX0_addCost 70 = .ok (.iaload, 1) := by decide +kernel
theorem dX0_addCost_71 : decode cX0_addCost 71 = .ok (.iconst 1, 1) := by decide +kernel
theorem dX0_addCost_72 : decode cX0_addCost 72 = .ok (.iadd, 1) := by decide +kernel
theorem dX0_addCost_73 : decode cX0_addCost 73 = .ok (.iastore, 1) := by decide +kernel
theorem dX0_addCost_74 : decode cX0_addCost 74 = .ok (.return_, 1) := by decide +kernel
set_option maxRecDepth 20000 in
theorem ggX0_choose_X0_chooseBehind : GoodIn wsX0_choose wsX0_chooseBehind := goodIn_r _ [14, 9, 15, 16, 17, 13, 18, 2, 19, 20, 21, 22, 0, 1, 3, 4, 5, 6, 7, 8, 10, 11, 12, 23, 24, 25, 26, 27, 28, 29, 30, 31, 32] (by decide +kernel) (by decide +kernel)
set_option maxRecDepth 20000 in
theorem gX0_choose_X0_chooseBehind : GoodIn wsX0_choose (wsV RX0 102 RX0 yX0_chooseBehind wsX0_chooseBehind) := goodIn_app (goodIn_of _ (by decide +kernel)) ggX0_choose_X0_chooseBehind
theorem dX0_choose_0 : decode cX0_choose 0 = .ok (.iload_n 2, 1) := by decide +kernel
theorem dX0_choose_1 : decode cX0_choose 1 = .ok (.aload_n 0, 1) := by decide +kernel
theorem dX0_choose_2 : decode cX0_choose 2 = .ok (.getfield 38, 3) := by decide +kernel
theorem dX0_choose_5 : decode cX0_choose 5 = .ok (.if_icmp .lt 4, 3) := by decide +kernel
theorem dX0_choose_8 : decode cX0_choose 8 = .ok (.return_, 1) := by decide +kernel
theorem dX0_choose_9 : decode cX0_choose 9 = .ok (.iload_n 1, 1) := by decide +kernel
theorem dX0_choose_10 : decode cX0_choose 10 = .ok (.aload_n 0, 1) := by decide +kernel
theorem dX0_choose_11 : decode cX0_choose 11 = .ok (.getfield 42, 3) := by decide +kernel
theorem dX0_choose_14 : decode cX0_choose 14 = .ok (.if_icmp .ge 9, 3) := by decide +kernel
theorem dX0_choose_17 : decode cX0_choose 17 = .ok (.iload_n 1, 1) := by decide +kernel
theorem dX0_choose_18 : decode cX0_choose 18 = .ok (.bipush 6, 2) := by decide +kernel
theorem dX0_choose_20 : decode cX0_choose 20 = .ok (.if_icmp .lt 24, 3) := by decide +kernel
theorem dX0_choose_23 : decode cX0_choose 23 = .ok (.aload_n 0, 1) := by decide +kernel
theorem dX0_choose_24 : decode cX0_choose 24 = .ok (.iload_n 2, 1) := by decide +kernel
theorem dX0_choose_25 : decode cX0_choose 25 = .ok (.putfield 38, 3) := by decide +kernel
theorem dX0_choose_28 : decode cX0_choose 28 = .ok (.aload_n 0, 1) := by decide +kernel
theorem dX0_choose_29 : decode cX0_choose 29 = .ok (.getfield 28, 3) := by decide +kernel
theorem dX0_choose_32 : decode cX0_choose 32 = .ok (.iconst 0, 1) := by decide +kernel
theorem dX0_choose_33 : decode cX0_choose 33 = .ok (.aload_n 0, 1) := by decide +kernel
theorem dX0_choose_34 : decode cX0_choose 34 = .ok (.getfield 31, 3) := by decide +kernel
theorem dX0_choose_37 : decode cX0_choose 37 = .ok (.iconst 0, 1) := by decide +kernel
theorem dX0_choose_38 : decode cX0_choose 38 = .ok (.bipush 6, 2) := by decide +kernel
theorem dX0_choose_40 : decode cX0_choose 40 = .ok (.invokestatic 96, 3) := by decide +kernel
theorem dX0_choose_43 : decode cX0_choose 43 = .ok (.return_, 1) := by decide +kernel
theorem dX0_choose_44 : decode cX0_choose 44 = .ok (.iconst 0, 1) := by decide +kernel
theorem dX0_choose_45 : decode cX0_choose 45 = .ok (.istore_n 3, 1) := by decide +kernel
theorem dX0_choose_46 : decode cX0_choose 46 = .ok (.iload_n 3, 1) := by decide +kernel
theorem dX0_choose_47 : decode cX0_choose 47 = .ok (.aload_n 0, 1) := by decide +kernel
theorem dX0_choose_48 : decode cX0_choose 48 = .ok (.getfield 42, 3) := by decide +kernel
theorem dX0_choose_51 : decode cX0_choose 51 = .ok (.if_icmp .ge 32, 3) := by decide +kernel
theorem dX0_choose_54 : decode cX0_choose 54 = .ok (.aload_n 0, 1) := by decide +kernel
theorem dX0_choose_55 : decode cX0_choose 55 = .ok (.getfield 24, 3) := by decide +kernel
theorem dX0_choose_58 : decode cX0_choose 58 = .ok (.iload_n 3, 1) := by decide +kernel
theorem dX0_choose_59 : decode cX0_choose 59 = .ok (.baload, 1) := by decide +kernel
theorem dX0_choose_60 : decode cX0_choose 60 = .ok (.ifCond .ne 17, 3) := by decide +kernel
theorem dX0_choose_63 : decode cX0_choose 63 = .ok (.aload_n 0, 1) := by decide +kernel
theorem dX0_choose_64 : decode cX0_choose 64 = .ok (.getfield 28, 3) := by decide +kernel
theorem dX0_choose_67 : decode cX0_choose 67 = .ok (.iload_n 1, 1) := by decide +kernel
theorem dX0_choose_68 : decode cX0_choose 68 = .ok (.iload_n 3, 1) := by decide +kernel
theorem dX0_choose_69 : decode cX0_choose 69 = .ok (.iastore, 1) := by decide +kernel
theorem dX0_choose_70 : decode cX0_choose 70 = .ok (.aload_n 0, 1) := by decide +kernel
theorem dX0_choose_71 : decode cX0_choose 71 = .ok (.iload_n 3, 1) := by decide +kernel
theorem dX0_choose_72 : decode cX0_choose 72 = .ok (.iload_n 1, 1) := by decide +kernel
theorem dX0_choose_73 : decode cX0_choose 73 = .ok (.iload_n 2, 1) := by decide +kernel
theorem dX0_choose_74 : decode cX0_choose 74 = .ok (.invokevirtual 102, 3) := by decide +kernel
theorem dX0_choose_77 : decode cX0_choose 77 = .ok (.iinc 3 1, 3) := by decide +kernel
theorem dX0_choose_80 : decode cX0_choose 80 = .ok (.goto (-34), 3) := by decide +kernel
theorem dX0_choose_83 : decode cX0_choose 83 = .ok (.return_, 1) := by decide +kernel
set_option maxRecDepth 20000 in
theorem ggX0_chooseBehind_X0_costAhead : GoodIn wsX0_chooseBehind wsX0_costAhead := goodIn_r _ [6, 7, 1, 8, 23, 24, 25, 26, 27, 28, 29, 30, 31, 32] (by decide +kernel) (by decide +kernel)
set_option maxRecDepth 20000 in
theorem gX0_chooseBehind_X0_costAhead : GoodIn wsX0_chooseBehind (wsV RX0 105 RX0 yX0_costAhead wsX0_costAhead) := goodIn_app (goodIn_of _ (by decide +kernel)) ggX0_chooseBehind_X0_costAhead
set_option maxRecDepth 20000 in
theorem ggX0_chooseBehind_X0_choose : GoodIn wsX0_chooseBehind wsX0_choose := goodIn_r _ [12, 13, 7, 14, 15, 16, 17, 18, 19, 1, 20, 21, 22, 5, 0, 2, 3, 4, 6, 8, 9, 10, 11, 23, 24, 25, 26, 27, 28, 29, 30, 31, 32] (by decide +kernel) (by decide +kernel)
set_option maxRecDepth 20000 in
theorem gX0_chooseBehind_X0_choose : GoodIn wsX0_chooseBehind (wsV RX0 60 RX0 yX0_choose wsX0_choose) := goodIn_app (goodIn_of _ (by decide +kernel)) ggX0_chooseBehind_X0_choose
theorem dX0_chooseBehind_0 : decode cX0_chooseBehind 0 = .ok (.aload_n 0, 1) := by decide +kernel
theorem dX0_chooseBehind_1 : decode cX0_chooseBehind 1 = .ok (.getfield 24, 3) := by decide +kernel
theorem dX0_chooseBehind_4 : decode cX0_chooseBehind 4 = .ok (.iload_n 1, 1) := by decide +kernel
theorem dX0_chooseBehind_5 : decode cX0_chooseBehind 5 = .ok (.iconst 1, 1) := by decide +kernel
theorem dX0_chooseBehind_6 : decode cX0_chooseBehind 6 = .ok (.bastore, 1) := by decide +kernel
theorem dX0_chooseBehind_7 : decode cX0_chooseBehind 7 = .ok (.aload_n 0, 1) := by decide +kernel
theorem dX0_chooseBehind_8 : decode cX0_chooseBehind 8 = .ok (.iload_n 2, 1) := by decide +kernel
theorem dX0_chooseBehind_9 : decode cX0_chooseBehind 9 = .ok (.iconst 1, 1) := by decide +kernel
theorem dX0_chooseBehind_10 : decode cX0_chooseBehind 10 = .ok (.iadd, 1) := by decide +kernel
theorem dX0_chooseBehind_11 : decode cX0_chooseBehind 11 = .ok (.iload_n 3, 1) := by decide +kernel
theorem dX0_chooseBehind_12 : decode cX0_chooseBehind 12 = .ok (.aload_n 0, 1) := by decide +kernel
theorem dX0_chooseBehind_13 : decode cX0_chooseBehind 13 = .ok (.iload_n 1, 1) := by decide +kernel
theorem dX0_chooseBehind_14 : decode cX0_chooseBehind 14 = .ok (.invokevirtual 105, 3) := by decide +kernel
theorem dX0_chooseBehind_17 : decode cX0_chooseBehind 17 = .ok (.iadd, 1) := by decide +kernel
theorem dX0_chooseBehind_18 : decode cX0_chooseBehind 18 = .ok (.invokevirtual 60, 3) := by decide +kernel
theorem dX0_chooseBehind_21 : decode cX0_chooseBehind 21 = .ok (.aload_n 0, 1) := by decide +kernel
theorem dX0_chooseBehind_22 : decode cX0_chooseBehind 22 = .ok (.getfield 24, 3) := by decide +kernel
theorem dX0_chooseBehind_25 : decode cX0_chooseBehind 25 = .ok (.iload_n 1, 1) := by decide +kernel
theorem dX0_chooseBehind_26 : decode cX0_chooseBehind 26 = .ok (.iconst 0, 1) := by decide +kernel
theorem dX0_chooseBehind_27 : decode cX0_chooseBehind 27 = .ok (.bastore, 1) := by decide +kernel
theorem dX0_chooseBehind_28 : decode cX0_chooseBehind 28 = .ok (.return_, 1) := by decide +kernel
theorem dX0_costAhead_0 : decode cX0_costAhead 0 = .ok (.iconst 0, 1) := by decide +kernel
theorem dX0_costAhead_1 : decode cX0_costAhead 1 = .ok (.istore_n 2, 1) := by decide +kernel
theorem dX0_costAhead_2 : decode cX0_costAhead 2 = .ok (.iconst 0, 1) := by decide +kernel
theorem dX0_costAhead_3 : decode cX0_costAhead 3 = .ok (.istore_n 3, 1) := by decide +kernel
theorem dX0_costAhead_4 : decode cX0_costAhead 4 = .ok (.iload_n 3, 1) := by decide +kernel
theorem dX0_costAhead_5 : decode cX0_costAhead 5 = .ok (.aload_n 0, 1) := by decide +kernel
theorem dX0_costAhead_6 : decode cX0_costAhead 6 = .ok (.getfield 42, 3) := by decide +kernel
theorem dX0_costAhead_9 : decode cX0_costAhead 9 = .ok (.if_icmp .ge 32, 3) := by decide +kernel
theorem dX0_costAhead_12 : decode cX0_costAhead 12 = .ok (.aload_n 0, 1) := by decide +kernel
theorem dX0_costAhead_13 : decode cX0_costAhead 13 = .ok (.getfield 24, 3) := by decide +kernel
theorem dX0_costAhead_16 : decode cX0_costAhead 16 = .ok (.iload_n 3, 1) := by decide +kernel
theorem dX0_costAhead_17 : decode cX0_costAhead 17 = .ok (.baload, 1) := by decide +kernel
theorem dX0_costAhead_18 : decode cX0_costAhead 18 = .ok (.ifCond .ne 17, 3) := by decide +kernel
theorem dX0_costAhead_21 : decode cX0_costAhead 21 = .ok (.iload_n 2, 1) := by decide +kernel
theorem dX0_costAhead_22 : decode cX0_costAhead 22 = .ok (.aload_n 0, 1) := by decide +kernel
theorem dX0_costAhead_23 : decode cX0_costAhead 23 = .ok (.getfield 11, 3) := by decide +kernel
theorem dX0_costAhead_26 : decode cX0_costAhead 26 = .ok (.iload_n 1, 1) := by decide +kernel
theorem dX0_costAhead_27 : decode cX0_costAhead 27 = .ok (.bipush 6, 2) := by decide +kernel
theorem dX0_costAhead_29 : decode cX0_costAhead 29 = .ok (.imul, 1) := by decide +kernel
theorem dX0_costAhead_30 : decode cX0_costAhead 30 = .ok (.iload_n 3, 1) := by decide +kernel
theorem dX0_costAhead_31 : decode cX0_costAhead 31 = .ok (.iadd, 1) := by decide +kernel
theorem dX0_costAhead_32 : decode cX0_costAhead 32 = .ok (.iaload, 1) := by decide +kernel
theorem dX0_costAhead_33 : decode cX0_costAhead 33 = .ok (.iadd, 1) := by decide +kernel
theorem dX0_costAhead_34 : decode cX0_costAhead 34 = .ok (.istore_n 2, 1) := by decide +kernel
theorem dX0_costAhead_35 : decode cX0_costAhead 35 = .ok (.iinc 3 1, 3) := by decide +kernel
theorem dX0_costAhead_38 : decode cX0_costAhead 38 = .ok (.goto (-34), 3) := by decide +kernel
theorem dX0_costAhead_41 : decode cX0_costAhead 41 = .ok (.iload_n 2, 1) := by decide +kernel
theorem dX0_costAhead_42 : decode cX0_costAhead 42 = .ok (.ireturn, 1) := by decide +kernel
theorem dX0_isPlace_0 : decode cX0_isPlace 0 = .ok (.iload_n 0, 1) := by decide +kernel
theorem dX0_isPlace_1 : decode cX0_isPlace 1 = .ok (.ifCond .lt 13, 3) := by decide +kernel
theorem dX0_isPlace_4 : decode cX0_isPlace 4 = .ok (.iload_n 0, 1) := by decide +kernel
theorem dX0_isPlace_5 : decode cX0_isPlace 5 = .ok (.bipush 6, 2) := by decide +kernel
theorem dX0_isPlace_7 : decode cX0_isPlace 7 = .ok (.if_icmp .ge 7, 3) := by decide +kernel
theorem dX0_isPlace_10 : decode cX0_isPlace 10 = .ok (.iconst 1, 1) := by decide +kernel
theorem dX0_isPlace_11 : decode cX0_isPlace 11 = .ok (.goto 4, 3) := by decide +kernel
theorem dX0_isPlace_14 : decode cX0_isPlace 14 = .ok (.iconst 0, 1) := by decide +kernel
theorem dX0_isPlace_15 : decode cX0_isPlace 15 = .ok (.ireturn, 1) := by decide +kernel
theorem dX1_init_0 : decode cX1_init 0 = .ok (.aload_n 0, 1) := by decide +kernel
theorem dX1_init_1 : decode cX1_init 1 = .ok (.invokespecial 3, 3) := by decide +kernel
theorem dX1_init_4 : decode cX1_init 4 = .ok (.aload_n 0, 1) := by decide +kernel
theorem dX1_init_5 : decode cX1_init 5 = .ok (.sipush 960, 3) := by decide +kernel
theorem dX1_init_8 : decode cX1_init 8 = .ok (.newarray .int, 2) := by decide +kernel
theorem dX1_init_10 : decode cX1_init 10 = .ok (.putfield 9, 3) := by decide +kernel
theorem dX1_init_13 : decode cX1_init 13 = .ok (.aload_n 0, 1) := by decide +kernel
theorem dX1_init_14 : decode cX1_init 14 = .ok (.bipush 40, 2) := by decide +kernel
theorem dX1_init_16 : decode cX1_init 16 = .ok (.newarray .int, 2) := by decide +kernel
theorem dX1_init_18 : decode cX1_init 18 = .ok (.putfield 15, 3) := by decide +kernel
theorem dX1_init_21 : decode cX1_init 21 = .ok (.aload_n 0, 1) := by decide +kernel
theorem dX1_init_22 : decode cX1_init 22 = .ok (.bipush 40, 2) := by decide +kernel
theorem dX1_init_24 : decode cX1_init 24 = .ok (.newarray .int, 2) := by decide +kernel
theorem dX1_init_26 : decode cX1_init 26 = .ok (.putfield 18, 3) := by decide +kernel
theorem dX1_init_29 : decode cX1_init 29 = .ok (.aload_n 0, 1) := by decide +kernel
theorem dX1_init_30 : decode cX1_init 30 = .ok (.aload_n 1, 1) := by decide +kernel
theorem dX1_init_31 : decode cX1_init 31 = .ok (.putfield 21, 3) := by decide +kernel
theorem dX1_init_34 : decode cX1_init 34 = .ok (.aload_n 0, 1) := by decide +kernel
theorem dX1_init_35 : decode cX1_init 35 = .ok (.aload_n 2, 1) := by decide +kernel
theorem dX1_init_36 : decode cX1_init 36 = .ok (.putfield 25, 3) := by decide +kernel
theorem dX1_init_39 : decode cX1_init 39 = .ok (.return_, 1) := by decide +kernel
set_option maxRecDepth 20000 in
theorem ggX1_lay_X4_layers : GoodIn wsX1_lay wsX4_layers := goodIn_r _ [5, 6, 102, 103, 104, 105, 106] (by decide +kernel) (by decide +kernel)
set_option maxRecDepth 20000 in
theorem gX1_lay_X4_layers : GoodIn wsX1_lay (wsV RX1 29 RX4 yX4_layers wsX4_layers) := goodIn_app (goodIn_of _ (by decide +kernel)) ggX1_lay_X4_layers
set_option maxRecDepth 20000 in
theorem ggX1_lay_X1_pack : GoodIn wsX1_lay wsX1_pack := goodIn_r _ [11, 12, 13, 14, 4, 15, 6, 16, 17, 18, 19, 20, 21, 22, 23, 24, 25, 10, 26, 27, 28, 29, 30, 31, 32, 33, 34, 35, 36, 37, 38, 39, 40, 41, 42, 43, 44, 45, 46, 47, 48, 49, 102, 103, 104, 105, 106, 107, 108, 109, 110, 111, 112, 113, 114, 115, 116, 117] (by decide +kernel) (by decide +kernel)
set_option maxRecDepth 20000 in
theorem gX1_lay_X1_pack : GoodIn wsX1_lay (wsV RX1 35 RX1 yX1_pack wsX1_pack) := goodIn_app (goodIn_of _ (by decide +kernel)) ggX1_lay_X1_pack
set_option maxRecDepth 20000 in
theorem ggX1_lay_X1_addMiddles : GoodIn wsX1_lay wsX1_addMiddles := goodIn_r _ [53, 54, 55, 56, 57, 58, 59, 60, 61, 62, 63, 64, 65, 66, 67, 68, 69, 70, 71, 72, 73, 74, 75, 10, 76, 35, 36, 37, 38, 39, 27, 28, 29, 30, 40, 41, 42, 43, 44, 45, 46, 47, 48, 49, 107, 108, 109, 110, 111, 118, 119, 120, 121, 112, 113, 114, 115, 116, 117] (by decide +kernel) (by decide +kernel)
set_option maxRecDepth 20000 in
theorem gX1_lay_X1_addMiddles : GoodIn wsX1_lay (wsV RX1 39 RX1 yX1_addMiddles wsX1_addMiddles) := goodIn_app (goodIn_of _ (by decide +kernel)) ggX1_lay_X1_addMiddles
set_option maxRecDepth 20000 in
theorem ggX1_lay_X1_straighten : GoodIn wsX1_lay wsX1_straighten := goodIn_r _ [80, 81, 82, 83, 84, 85, 12, 13, 14, 4, 15, 6, 16, 17, 18, 19, 20, 21, 22, 86, 87, 88, 10, 89, 55, 54, 35, 36, 37, 38, 39, 27, 28, 29, 30, 40, 41, 42, 43, 44, 45, 46, 47, 48, 49, 23, 24, 25, 26, 31, 32, 33, 34, 102, 103, 104, 105, 106, 107, 108, 109, 110, 111, 112, 113, 114, 115, 116, 117] (by decide +kernel) (by decide +kernel)
set_option maxRecDepth 20000 in
theorem gX1_lay_X1_straighten : GoodIn wsX1_lay (wsV RX1 43 RX1 yX1_straighten wsX1_straighten) := goodIn_app (goodIn_of _ (by decide +kernel)) ggX1_lay_X1_straighten
set_option maxRecDepth 20000 in
theorem ggX1_lay_X1_leastX : GoodIn wsX1_lay wsX1_leastX := goodIn_r _ [93, 94, 95, 96, 84, 97, 1, 2, 3, 4, 5, 6, 12, 13, 14, 15, 16, 17, 18, 19, 20, 21, 22, 36, 37, 38, 10, 39, 27, 28, 29, 30, 102, 103, 104, 105, 106, 107, 108, 109, 110, 111] (by decide +kernel) (by decide +kernel)
set_option maxRecDepth 20000 in
theorem gX1_lay_X1_leastX : GoodIn wsX1_lay (wsV RX1 46 RX1 yX1_leastX wsX1_leastX) := goodIn_app (goodIn_of _ (by decide +kernel)) ggX1_lay_X1_leastX
set_option maxRecDepth 20000 in
theorem ggX1_lay_X1_shift : GoodIn wsX1_lay wsX1_shift := goodIn_r _ [101, 1, 2, 3, 4, 5, 6, 12, 13, 14, 15, 16, 17, 18, 19, 20, 21, 22, 36, 37, 38, 10, 39, 27, 28, 29, 30, 23, 24, 25, 26, 102, 103, 104, 105, 106, 107, 108, 109, 110, 111] (by decide +kernel) (by decide +kernel)
set_option maxRecDepth 20000 in
theorem gX1_lay_X1_shift : GoodIn wsX1_lay (wsV RX1 50 RX1 yX1_shift wsX1_shift) := goodIn_app (goodIn_of _ (by decide +kernel)) ggX1_lay_X1_shift
theorem dX1_lay_0 : decode cX1_lay 0 = .ok (.iconst 0, 1) := by decide +kernel
theorem dX1_lay_1 : decode cX1_lay 1 = .ok (.istore_n 2, 1) := by decide +kernel
theorem dX1_lay_2 : decode cX1_lay 2 = .ok (.iload_n 2, 1) := by decide +kernel
theorem dX1_lay_3 : decode cX1_lay 3 = .ok (.aload_n 1, 1) := by decide +kernel
theorem dX1_lay_4 : decode cX1_lay 4 = .ok (.invokevirtual 29, 3) := by decide +kernel
theorem dX1_lay_7 : decode cX1_lay 7 = .ok (.if_icmp .ge 15, 3) := by decide +kernel
theorem dX1_lay_10 : decode cX1_lay 10 = .ok (.aload_n 0, 1) := by decide +kernel
theorem dX1_lay_11 : decode cX1_lay 11 = .ok (.aload_n 1, 1) := by decide +kernel
theorem dX1_lay_12 : decode cX1_lay 12 = .ok (.iload_n 2, 1) := by decide +kernel
theorem dX1_lay_13 : decode cX1_lay 13 = .ok (.invokevirtual 35, 3) := by decide +kernel
theorem dX1_lay_16 : decode cX1_lay 16 = .ok (.iinc 2 1, 3) := by decide +kernel
theorem dX1_lay_19 : decode cX1_lay 19 = .ok (.goto (-17), 3) := by decide +kernel
theorem dX1_lay_22 : decode cX1_lay 22 = .ok (.iconst 0, 1) := by decide +kernel
theorem dX1_lay_23 : decode cX1_lay 23 = .ok (.istore_n 2, 1) := by decide +kernel
theorem dX1_lay_24 : decode cX1_lay 24 = .ok (.iload_n 2, 1) := by decide +kernel
theorem dX1_lay_25 : decode cX1_lay 25 = .ok (.iconst 4, 1) := by decide +kernel
theorem dX1_lay_26 : decode cX1_lay 26 = .ok (.if_icmp .ge 73, 3) := by decide +kernel
theorem dX1_lay_29 : decode cX1_lay 29 = .ok (.iload_n 2, 1) := by decide +kernel
theorem dX1_lay_30 : decode cX1_lay 30 = .ok (.iconst 2, 1) := by decide +kernel
theorem dX1_lay_31 : decode cX1_lay 31 = .ok (.irem, 1) := by decide +kernel
theorem dX1_lay_32 : decode cX1_lay 32 = .ok (.ifCond .ne 7, 3) := by decide +kernel
theorem dX1_lay_35 : decode cX1_lay 35 = .ok (.iconst 1, 1) := by decide +kernel
theorem dX1_lay_36 : decode cX1_lay 36 = .ok (.goto 4, 3) := by decide +kernel
theorem dX1_lay_39 : decode cX1_lay 39 = .ok (.iconst 0, 1) := by decide +kernel
theorem dX1_lay_40 : decode cX1_lay 40 = .ok (.istore_n 3, 1) := by decide +kernel
theorem dX1_lay_41 : decode cX1_lay 41 = .ok (.iconst 0, 1) := by decide +kernel
theorem dX1_lay_42 : decode cX1_lay 42 = .ok (.istore 4, 2) := by decide +kernel
theorem dX1_lay_44 : decode cX1_lay 44 = .ok (.iload 4, 2) := by decide +kernel
theorem dX1_lay_46 : decode cX1_lay 46 = .ok (.aload_n 1, 1) := by decide +kernel
theorem dX1_lay_47 : decode cX1_lay 47 = .ok (.invokevirtual 29, 3) := by decide +kernel
theorem dX1_lay_50 : decode cX1_lay 50 = .ok (.if_icmp .ge 43, 3) := by decide +kernel
theorem dX1_lay_53 : decode cX1_lay 53 = .ok (.iload_n 3, 1) := by decide +kernel
theorem dX1_lay_54 : decode cX1_lay 54 = .ok (.ifCond .eq 8, 3) := by decide +kernel
theorem dX1_lay_57 : decode cX1_lay 57 = .ok (.iload 4, 2) := by decide +kernel
theorem dX1_lay_59 : decode cX1_lay 59 = .ok (.goto 12, 3) := by decide +kernel
theorem dX1_lay_62 : decode cX1_lay 62 = .ok (.aload_n 1, 1) := by decide +kernel
theorem dX1_lay_63 : decode cX1_lay 63 = .ok (.invokevirtual 29, 3) := by decide +kernel
theorem dX1_lay_66 : decode cX1_lay 66 = .ok (.iconst 1, 1) := by decide +kernel
theorem dX1_lay_67 : decode cX1_lay 67 = .ok (.isub, 1) := by decide +kernel
theorem dX1_lay_68 : decode cX1_lay 68 = .ok (.iload 4, 2) := by decide +kernel
theorem dX1_lay_70 : decode cX1_lay 70 = .ok (.isub, 1) := by decide +kernel
theorem dX1_lay_71 : decode cX1_lay 71 = .ok (.istore 5, 2) := by decide +kernel
theorem dX1_lay_73 : decode cX1_lay 73 = .ok (.aload_n 0, 1) := by decide +kernel
theorem dX1_lay_74 : decode cX1_lay 74 = .ok (.iload 5, 2) := by decide +kernel
theorem dX1_lay_76 : decode cX1_lay 76 = .ok (.iload_n 3, 1) := by decide +kernel
theorem dX1_lay_77 : decode cX1_lay 77 = .ok (.invokevirtual 39, 3) := by decide +kernel
theorem dX1_lay_80 : decode cX1_lay 80 = .ok (.aload_n 0, 1) := by decide +kernel
theorem dX1_lay_81 : decode cX1_lay 81 = .ok (.aload_n 1, 1) := by decide +kernel
theorem dX1_lay_82 : decode cX1_lay 82 = .ok (.iload 5, 2) := by decide +kernel
theorem dX1_lay_84 : decode cX1_lay 84 = .ok (.invokevirtual 43, 3) := by decide +kernel
theorem dX1_lay_87 : decode cX1_lay 87 = .ok (.iinc 4 1, 3) := by decide +kernel
theorem dX1_lay_90 : decode cX1_lay 90 = .ok (.goto (-46), 3) := by decide +kernel
theorem dX1_lay_93 : decode cX1_lay 93 = .ok (.iinc 2 1, 3) := by decide +kernel
theorem dX1_lay_96 : decode cX1_lay 96 = .ok (.goto (-72), 3) := by decide +kernel
theorem dX1_lay_99 : decode cX1_lay 99 = .ok (.aload_n 0, 1) := by decide +kernel
theorem dX1_lay_100 : decode cX1_lay 100 = .ok (.aload_n 1, 1) := by decide +kernel
theorem dX1_lay_101 : decode cX1_lay 101 = .ok (.aload_n 0, 1) := by decide +kernel
theorem dX1_lay_102 : decode cX1_lay 102 = .ok (.aload_n 1, 1) := by decide +kernel
theorem dX1_lay_103 : decode cX1_lay 103 = .ok (.invokevirtual 46, 3) := by decide +kernel
theorem dX1_lay_106 : decode cX1_lay 106 = .ok (.invokevirtual 50, 3) := by decide +kernel
theorem dX1_lay_109 : decode cX1_lay 109 = .ok (.return_, 1) := by decide +kernel
set_option maxRecDepth 20000 in
theorem ggX1_leftOf_X1_isSpot : GoodIn wsX1_leftOf wsX1_isSpot := goodIn_r _ [5] (by decide +kernel) (by decide +kernel)
set_option maxRecDepth 20000 in
theorem gX1_leftOf_X1_isSpot : GoodIn wsX1_leftOf (va_wsS RX1 53 yX1_isSpot wsX1_isSpot) := goodIn_app (goodIn_of _ (by decide +kernel)) ggX1_leftOf_X1_isSpot
theorem dX1_leftOf_0 : decode cX1_leftOf 0 = .ok (.iload_n 1, 1) := by decide +kernel
theorem dX1_leftOf_1 : decode cX1_leftOf 1 = .ok (.iload_n 2, 1) := by decide +kernel
theorem dX1_leftOf_2 : decode cX1_leftOf 2 = .ok (.invokestatic 53, 3) := by decide +kernel
theorem dX1_leftOf_5 : decode cX1_leftOf 5 = .ok (.ifCond .eq 17, 3) := by decide +kernel
theorem dX1_leftOf_8 : decode cX1_leftOf 8 = .ok (.aload_n 0, 1) := by decide +kernel
theorem dX1_leftOf_9 : decode cX1_leftOf 9 = .ok (.getfield 9, 3) := by decide +kernel
theorem dX1_leftOf_12 : decode cX1_leftOf 12 = .ok (.iload_n 1, 1) := by decide +kernel
theorem dX1_leftOf_13 : decode cX1_leftOf 13 = .ok (.bipush 40, 2) := by decide +kernel
theorem dX1_leftOf_15 : decode cX1_leftOf 15 = .ok (.imul, 1) := by decide +kernel
theorem dX1_leftOf_16 : decode cX1_leftOf 16 = .ok (.iload_n 2, 1) := by decide +kernel
theorem dX1_leftOf_17 : decode cX1_leftOf 17 = .ok (.iadd, 1) := by decide +kernel
theorem dX1_leftOf_18 : decode cX1_leftOf 18 = .ok (.iaload, 1) := by decide +kernel
theorem dX1_leftOf_19 : decode cX1_leftOf 19 = .ok (.goto 4, 3) := by decide +kernel
theorem dX1_leftOf_22 : decode cX1_leftOf 22 = .ok (.iconst 0, 1) := by decide +kernel
theorem dX1_leftOf_23 : decode cX1_leftOf 23 = .ok (.ireturn, 1) := by decide +kernel
set_option maxRecDepth 20000 in
theorem ggX1_middleOf_X1_leftOf : GoodIn wsX1_middleOf wsX1_leftOf := goodIn_r _ [6, 7, 8, 9, 5, 10, 21, 22, 23, 24, 25] (by decide +kernel) (by decide +kernel)
set_option maxRecDepth 20000 in
theorem gX1_middleOf_X1_leftOf : GoodIn wsX1_middleOf (wsV RX1 57 RX1 yX1_leftOf wsX1_leftOf) := goodIn_app (goodIn_of _ (by decide +kernel)) ggX1_middleOf_X1_leftOf
set_option maxRecDepth 20000 in
theorem ggX1_middleOf_X7_widthOf : GoodIn wsX1_middleOf wsX7_widthOf := goodIn_r _ [15, 16, 17, 18, 19, 14, 20, 26, 27, 28, 29, 30, 31] (by decide +kernel) (by decide +kernel)
set_option maxRecDepth 20000 in
theorem gX1_middleOf_X7_widthOf : GoodIn wsX1_middleOf (wsV RX1 61 RX7 yX7_widthOf wsX7_widthOf) := goodIn_app (goodIn_of _ (by decide +kernel)) ggX1_middleOf_X7_widthOf
theorem dX1_middleOf_0 : decode cX1_middleOf 0 = .ok (.aload_n 0, 1) := by decide +kernel
theorem dX1_middleOf_1 : decode cX1_middleOf 1 = .ok (.iload_n 1, 1) := by decide +kernel
theorem dX1_middleOf_2 : decode cX1_middleOf 2 = .ok (.iload_n 2, 1) := by decide +kernel
theorem dX1_middleOf_3 : decode cX1_middleOf 3 = .ok (.invokevirtual 57, 3) := by decide +kernel
theorem dX1_middleOf_6 : decode cX1_middleOf 6 = .ok (.aload_n 0, 1) := by decide +kernel
theorem dX1_middleOf_7 : decode cX1_middleOf 7 = .ok (.getfield 21, 3) := by decide +kernel
theorem dX1_middleOf_10 : decode cX1_middleOf 10 = .ok (.iload_n 2, 1) := by decide +kernel
theorem dX1_middleOf_11 : decode cX1_middleOf 11 = .ok (.invokevirtual 61, 3) := by decide +kernel
theorem dX1_middleOf_14 : decode cX1_middleOf 14 = .ok (.iconst 2, 1) := by decide +kernel
theorem dX1_middleOf_15 : decode cX1_middleOf 15 = .ok (.idiv, 1) := by decide +kernel
theorem dX1_middleOf_16 : decode cX1_middleOf 16 = .ok (.iadd, 1) := by decide +kernel
theorem dX1_middleOf_17 : decode cX1_middleOf 17 = .ok (.ireturn, 1) := by decide +kernel
set_option maxRecDepth 20000 in
theorem ggX1_greatestEnd_X4_layers : GoodIn wsX1_greatestEnd wsX4_layers := goodIn_r _ [9, 10, 46, 47, 48, 49, 50] (by decide +kernel) (by decide +kernel)
set_option maxRecDepth 20000 in
theorem gX1_greatestEnd_X4_layers : GoodIn wsX1_greatestEnd (wsV RX1 29 RX4 yX4_layers wsX4_layers) := goodIn_app (goodIn_of _ (by decide +kernel)) ggX1_greatestEnd_X4_layers
set_option maxRecDepth 20000 in
theorem ggX1_greatestEnd_X4_sizeOf : GoodIn wsX1_greatestEnd wsX4_sizeOf := goodIn_r _ [14, 10, 15, 46, 47, 48, 49, 50] (by decide +kernel) (by decide +kernel)
set_option maxRecDepth 20000 in
theorem gX1_greatestEnd_X4_sizeOf : GoodIn wsX1_greatestEnd (wsV RX1 67 RX4 yX4_sizeOf wsX4_sizeOf) := goodIn_app (goodIn_of _ (by decide +kernel)) ggX1_greatestEnd_X4_sizeOf
set_option maxRecDepth 20000 in
theorem ggX1_greatestEnd_X4_itemIn : GoodIn wsX1_greatestEnd wsX4_itemIn := goodIn_r _ [19, 20, 21, 12, 13, 8, 14, 10, 15, 46, 47, 48, 49, 50] (by decide +kernel) (by decide +kernel)
set_option maxRecDepth 20000 in
theorem gX1_greatestEnd_X4_itemIn : GoodIn wsX1_greatestEnd (wsV RX1 70 RX4 yX4_itemIn wsX4_itemIn) := goodIn_app (goodIn_of _ (by decide +kernel)) ggX1_greatestEnd_X4_itemIn
set_option maxRecDepth 20000 in
theorem ggX1_greatestEnd_X1_endOf : GoodIn wsX1_greatestEnd wsX1_endOf := goodIn_r _ [26, 27, 28, 29, 30, 25, 31, 32, 33, 34, 35, 36, 37, 38, 39, 40, 41, 42, 43, 44, 45, 51, 52, 53, 54, 55, 56, 57, 58, 59, 60, 61] (by decide +kernel) (by decide +kernel)
set_option maxRecDepth 20000 in
theorem gX1_greatestEnd_X1_endOf : GoodIn wsX1_greatestEnd (wsV RX1 73 RX1 yX1_endOf wsX1_endOf) := goodIn_app (goodIn_of _ (by decide +kernel)) ggX1_greatestEnd_X1_endOf
theorem dX1_greatestEnd_0 : decode cX1_greatestEnd 0 = .ok (.iconst 0, 1) := by decide +kernel
theorem dX1_greatestEnd_1 : decode cX1_greatestEnd 1 = .ok (.istore_n 2, 1) := by decide +kernel
theorem dX1_greatestEnd_2 : decode cX1_greatestEnd 2 = .ok (.iconst 0, 1) := by decide +kernel
theorem dX1_greatestEnd_3 : decode cX1_greatestEnd 3 = .ok (.istore_n 3, 1) := by decide +kernel
theorem dX1_greatestEnd_4 : decode cX1_greatestEnd 4 = .ok (.iload_n 3, 1) := by decide +kernel
theorem dX1_greatestEnd_5 : decode cX1_greatestEnd 5 = .ok (.aload_n 1, 1) := by decide +kernel
theorem dX1_greatestEnd_6 : decode cX1_greatestEnd 6 = .ok (.invokevirtual 29, 3) := by decide +kernel
theorem dX1_greatestEnd_9 : decode cX1_greatestEnd 9 = .ok (.if_icmp .ge 45, 3) := by decide +kernel
theorem dX1_greatestEnd_12 : decode cX1_greatestEnd 12 = .ok (.iconst 0, 1) := by decide +kernel
theorem dX1_greatestEnd_13 : decode cX1_greatestEnd 13 = .ok (.istore 4, 2) := by decide +kernel
theorem dX1_greatestEnd_15 : decode cX1_greatestEnd 15 = .ok (.iload 4, 2) := by decide +kernel
theorem dX1_greatestEnd_17 : decode cX1_greatestEnd 17 = .ok (.aload_n 1, 1) := by decide +kernel
theorem dX1_greatestEnd_18 : decode cX1_greatestEnd 18 = .ok (.iload_n 3, 1) := by decide +kernel
theorem dX1_greatestEnd_19 : decode cX1_greatestEnd 19 = .ok (.invokevirtual 67, 3) := by decide +kernel
theorem dX1_greatestEnd_22 : decode cX1_greatestEnd 22 = .ok (.if_icmp .ge 26, 3) := by decide +kernel
theorem dX1_greatestEnd_25 : decode cX1_greatestEnd 25 = .ok (.iload_n 2, 1) := by decide +kernel
theorem dX1_greatestEnd_26 : decode cX1_greatestEnd 26 = .ok (.aload_n 0, 1) := by decide +kernel
theorem dX1_greatestEnd_27 : decode cX1_greatestEnd 27 = .ok (.iload_n 3, 1) := by decide +kernel
theorem dX1_greatestEnd_28 : decode cX1_greatestEnd 28 = .ok (.aload_n 1, 1) := by decide +kernel
theorem dX1_greatestEnd_29 : decode cX1_greatestEnd 29 = .ok (.iload_n 3, 1) := by decide +kernel
theorem dX1_greatestEnd_30 : decode cX1_greatestEnd 30 = .ok (.iload 4, 2) := by decide +kernel
theorem dX1_greatestEnd_32 : decode cX1_greatestEnd 32 = .ok (.invokevirtual 70, 3) := by decide +kernel
theorem dX1_greatestEnd_35 : decode cX1_greatestEnd 35 = .ok (.invokevirtual 73, 3) := by decide +kernel
theorem dX1_greatestEnd_38 : decode cX1_greatestEnd 38 = .ok (.invokestatic 76, 3) := by decide +kernel
theorem dX1_greatestEnd_41 : decode cX1_greatestEnd 41 = .ok (.istore_n 2, 1) := by decide +kernel
theorem dX1_greatestEnd_42 : decode cX1_greatestEnd 42 = .ok (.iinc 4 1, 3) := by decide +kernel
theorem dX1_greatestEnd_45 : decode cX1_greatestEnd 45 = .ok (.goto (-30), 3) := by decide +kernel
theorem dX1_greatestEnd_48 : decode cX1_greatestEnd 48 = .ok (.iinc 3 1, 3) := by decide +kernel
theorem dX1_greatestEnd_51 : decode cX1_greatestEnd 51 = .ok (.goto (-47), 3) := by decide +kernel
theorem dX1_greatestEnd_54 : decode cX1_greatestEnd 54 = .ok (.iload_n 2, 1) := by decide +kernel
theorem dX1_greatestEnd_55 : decode cX1_greatestEnd 55 = .ok (.ireturn, 1) := by decide +kernel
set_option maxRecDepth 20000 in
theorem ggX1_endOf_X1_leftOf : GoodIn wsX1_endOf wsX1_leftOf := goodIn_r _ [6, 7, 8, 9, 5, 10, 21, 22, 23, 24, 25] (by decide +kernel) (by decide +kernel)
set_option maxRecDepth 20000 in
theorem gX1_endOf_X1_leftOf : GoodIn wsX1_endOf (wsV RX1 57 RX1 yX1_leftOf wsX1_leftOf) := goodIn_app (goodIn_of _ (by decide +kernel)) ggX1_endOf_X1_leftOf
set_option maxRecDepth 20000 in
theorem ggX1_endOf_X7_widthOf : GoodIn wsX1_endOf wsX7_widthOf := goodIn_r _ [15, 16, 17, 18, 19, 14, 20, 26, 27, 28, 29, 30, 31] (by decide +kernel) (by decide +kernel)
set_option maxRecDepth 20000 in
theorem gX1_endOf_X7_widthOf : GoodIn wsX1_endOf (wsV RX1 61 RX7 yX7_widthOf wsX7_widthOf) := goodIn_app (goodIn_of _ (by decide +kernel)) ggX1_endOf_X7_widthOf
theorem dX1_endOf_0 : decode cX1_endOf 0 = .ok (.aload_n 0, 1) := by decide +kernel
theorem dX1_endOf_1 : decode cX1_endOf 1 = .ok (.iload_n 1, 1) := by decide +kernel
theorem dX1_endOf_2 : decode cX1_endOf 2 = .ok (.iload_n 2, 1) := by decide +kernel
theorem dX1_endOf_3 : decode cX1_endOf 3 = .ok (.invokevirtual 57, 3) := by decide +kernel
theorem dX1_endOf_6 : decode cX1_endOf 6 = .ok (.aload_n 0, 1) := by decide +kernel
theorem dX1_endOf_7 : decode cX1_endOf 7 = .ok (.getfield 21, 3) := by decide +kernel
theorem dX1_endOf_10 : decode cX1_endOf 10 = .ok (.iload_n 2, 1) := by decide +kernel
theorem dX1_endOf_11 : decode cX1_endOf 11 = .ok (.invokevirtual 61, 3) := by decide +kernel
theorem dX1_endOf_14 : decode cX1_endOf 14 = .ok (.iadd, 1) := by decide +kernel
theorem dX1_endOf_15 : decode cX1_endOf 15 = .ok (.ireturn, 1) := by decide +kernel
set_option maxRecDepth 20000 in
theorem ggX1_pack_X4_sizeOf : GoodIn wsX1_pack wsX4_sizeOf := goodIn_r _ [5, 6, 7, 42, 43, 44, 45, 46] (by decide +kernel) (by decide +kernel)
set_option maxRecDepth 20000 in
theorem gX1_pack_X4_sizeOf : GoodIn wsX1_pack (wsV RX1 67 RX4 yX4_sizeOf wsX4_sizeOf) := goodIn_app (goodIn_of _ (by decide +kernel)) ggX1_pack_X4_sizeOf
set_option maxRecDepth 20000 in
theorem ggX1_pack_X4_itemIn : GoodIn wsX1_pack wsX4_itemIn := goodIn_r _ [11, 12, 13, 2, 3, 4, 5, 6, 7, 42, 43, 44, 45, 46] (by decide +kernel) (by decide +kernel)
set_option maxRecDepth 20000 in
theorem gX1_pack_X4_itemIn : GoodIn wsX1_pack (wsV RX1 70 RX4 yX4_itemIn wsX4_itemIn) := goodIn_app (goodIn_of _ (by decide +kernel)) ggX1_pack_X4_itemIn
set_option maxRecDepth 20000 in
theorem ggX1_pack_X1_move : GoodIn wsX1_pack wsX1_move := goodIn_r _ [18, 19, 20, 21, 17, 22, 47, 48, 49, 50, 51] (by decide +kernel) (by decide +kernel)
set_option maxRecDepth 20000 in
theorem gX1_pack_X1_move : GoodIn wsX1_pack (wsV RX1 81 RX1 yX1_move wsX1_move) := goodIn_app (goodIn_of _ (by decide +kernel)) ggX1_pack_X1_move
set_option maxRecDepth 20000 in
theorem ggX1_pack_X1_endOf : GoodIn wsX1_pack wsX1_endOf := goodIn_r _ [26, 27, 28, 29, 30, 17, 31, 19, 20, 21, 22, 32, 33, 34, 35, 36, 37, 38, 39, 40, 41, 47, 48, 49, 50, 51, 52, 53, 54, 55, 56, 57] (by decide +kernel) (by decide +kernel)
set_option maxRecDepth 20000 in
theorem gX1_pack_X1_endOf : GoodIn wsX1_pack (wsV RX1 73 RX1 yX1_endOf wsX1_endOf) := goodIn_app (goodIn_of _ (by decide +kernel)) ggX1_pack_X1_endOf
theorem dX1_pack_0 : decode cX1_pack 0 = .ok (.iconst 0, 1) := by decide +kernel
theorem dX1_pack_1 : decode cX1_pack 1 = .ok (.istore_n 3, 1) := by decide +kernel
theorem dX1_pack_2 : decode cX1_pack 2 = .ok (.iconst 0, 1) := by decide +kernel
theorem dX1_pack_3 : decode cX1_pack 3 = .ok (.istore 4, 2) := by decide +kernel
theorem dX1_pack_5 : decode cX1_pack 5 = .ok (.iload 4, 2) := by decide +kernel
theorem dX1_pack_7 : decode cX1_pack 7 = .ok (.aload_n 1, 1) := by decide +kernel
theorem dX1_pack_8 : decode cX1_pack 8 = .ok (.iload_n 2, 1) := by decide +kernel
theorem dX1_pack_9 : decode cX1_pack 9 = .ok (.invokevirtual 67, 3) := by decide +kernel
theorem dX1_pack_12 : decode cX1_pack 12 = .ok (.if_icmp .ge 36, 3) := by decide +kernel
theorem dX1_pack_15 : decode cX1_pack 15 = .ok (.aload_n 1, 1) := by decide +kernel
theorem dX1_pack_16 : decode cX1_pack 16 = .ok (.iload_n 2, 1) := by decide +kernel
theorem dX1_pack_17 : decode cX1_pack 17 = .ok (.iload 4, 2) := by decide +kernel
theorem dX1_pack_19 : decode cX1_pack 19 = .ok (.invokevirtual 70, 3) := by decide +kernel
theorem dX1_pack_22 : decode cX1_pack 22 = .ok (.istore 5, 2) := by decide +kernel
theorem dX1_pack_24 : decode cX1_pack 24 = .ok (.aload_n 0, 1) := by decide +kernel
theorem dX1_pack_25 : decode cX1_pack 25 = .ok (.iload_n 2, 1) := by decide +kernel
theorem dX1_pack_26 : decode cX1_pack 26 = .ok (.iload 5, 2) := by decide +kernel
theorem dX1_pack_28 : decode cX1_pack 28 = .ok (.iload_n 3, 1) := by decide +kernel
theorem dX1_pack_29 : decode cX1_pack 29 = .ok (.invokevirtual 81, 3) := by decide +kernel
theorem dX1_pack_32 : decode cX1_pack 32 = .ok (.aload_n 0, 1) := by decide +kernel
theorem dX1_pack_33 : decode cX1_pack 33 = .ok (.iload_n 2, 1) := by decide +kernel
theorem dX1_pack_34 : decode cX1_pack 34 = .ok (.iload 5, 2) := by decide +kernel
theorem dX1_pack_36 : decode cX1_pack 36 = .ok (.invokevirtual 73, 3) := by decide +kernel
theorem dX1_pack_39 : decode cX1_pack 39 = .ok (.iconst 4, 1) := by decide +kernel
theorem dX1_pack_40 : decode cX1_pack 40 = .ok (.iadd, 1) := by decide +kernel
theorem dX1_pack_41 : decode cX1_pack 41 = .ok (.istore_n 3, 1) := by decide +kernel
theorem dX1_pack_42 : decode cX1_pack 42 = .ok (.iinc 4 1, 3) := by decide +kernel
theorem dX1_pack_45 : decode cX1_pack 45 = .ok (.goto (-40), 3) := by decide +kernel
theorem dX1_pack_48 : decode cX1_pack 48 = .ok (.return_, 1) := by decide +kernel
set_option maxRecDepth 20000 in
theorem ggX1_addMiddles_J7_fill_53178 : GoodIn wsX1_addMiddles wsJ7_fill_53178 := goodIn_r _ [7] (by decide +kernel) (by decide +kernel)
set_option maxRecDepth 20000 in
theorem gX1_addMiddles_J7_fill_53178 : GoodIn wsX1_addMiddles (va_wsS RX1 85 yJ7_fill_53178 wsJ7_fill_53178) := goodIn_app (goodIn_of _ (by decide +kernel)) ggX1_addMiddles_J7_fill_53178
set_option maxRecDepth 20000 in
theorem ggX1_addMiddles_X6_sizeOf : GoodIn wsX1_addMiddles wsX6_sizeOf := goodIn_r _ [12, 13, 49, 50, 51, 52] (by decide +kernel) (by decide +kernel)
set_option maxRecDepth 20000 in
theorem gX1_addMiddles_X6_sizeOf : GoodIn wsX1_addMiddles (wsV RX1 91 RX6 yX6_sizeOf wsX6_sizeOf) := goodIn_app (goodIn_of _ (by decide +kernel)) ggX1_addMiddles_X6_sizeOf
set_option maxRecDepth 20000 in
theorem ggX1_addMiddles_X6_endOf : GoodIn wsX1_addMiddles wsX6_endOf := goodIn_r _ [17, 13, 18, 19, 49, 50, 51, 52] (by decide +kernel) (by decide +kernel)
set_option maxRecDepth 20000 in
theorem gX1_addMiddles_X6_endOf : GoodIn wsX1_addMiddles (wsV RX1 94 RX6 yX6_endOf wsX6_endOf) := goodIn_app (goodIn_of _ (by decide +kernel)) ggX1_addMiddles_X6_endOf
set_option maxRecDepth 20000 in
theorem ggX1_addMiddles_X1_middleOf : GoodIn wsX1_addMiddles wsX1_middleOf := goodIn_r _ [24, 25, 26, 27, 28, 23, 29, 30, 31, 32, 33, 34, 35, 36, 37, 38, 39, 40, 41, 42, 43, 44, 45, 46, 47, 48, 53, 54, 55, 56, 57, 58] (by decide +kernel) (by decide +kernel)
set_option maxRecDepth 20000 in
theorem gX1_addMiddles_X1_middleOf : GoodIn wsX1_addMiddles (wsV RX1 97 RX1 yX1_middleOf wsX1_middleOf) := goodIn_app (goodIn_of _ (by decide +kernel)) ggX1_addMiddles_X1_middleOf
theorem dX1_addMiddles_0 : decode cX1_addMiddles 0 = .ok (.aload_n 0, 1) := by decide +kernel
theorem dX1_addMiddles_1 : decode cX1_addMiddles 1 = .ok (.getfield 15, 3) := by decide +kernel
theorem dX1_addMiddles_4 : decode cX1_addMiddles 4 = .ok (.iconst 0, 1) := by decide +kernel
theorem dX1_addMiddles_5 : decode cX1_addMiddles 5 = .ok (.invokestatic 85, 3) := by decide +kernel
theorem dX1_addMiddles_8 : decode cX1_addMiddles 8 = .ok (.aload_n 0, 1) := by decide +kernel
theorem dX1_addMiddles_9 : decode cX1_addMiddles 9 = .ok (.getfield 18, 3) := by decide +kernel
theorem dX1_addMiddles_12 : decode cX1_addMiddles 12 = .ok (.iconst 0, 1) := by decide +kernel
theorem dX1_addMiddles_13 : decode cX1_addMiddles 13 = .ok (.invokestatic 85, 3) := by decide +kernel
theorem dX1_addMiddles_16 : decode cX1_addMiddles 16 = .ok (.iload_n 2, 1) := by decide +kernel
theorem dX1_addMiddles_17 : decode cX1_addMiddles 17 = .ok (.ifCond .eq 9, 3) := by decide +kernel
theorem dX1_addMiddles_20 : decode cX1_addMiddles 20 = .ok (.iload_n 1, 1) := by decide +kernel
theorem dX1_addMiddles_21 : decode cX1_addMiddles 21 = .ok (.iconst 1, 1) := by decide +kernel
theorem dX1_addMiddles_22 : decode cX1_addMiddles 22 = .ok (.isub, 1) := by decide +kernel
theorem dX1_addMiddles_23 : decode cX1_addMiddles 23 = .ok (.goto 4, 3) := by decide +kernel
theorem dX1_addMiddles_26 : decode cX1_addMiddles 26 = .ok (.iload_n 1, 1) := by decide +kernel
theorem dX1_addMiddles_27 : decode cX1_addMiddles 27 = .ok (.istore_n 3, 1) := by decide +kernel
theorem dX1_addMiddles_28 : decode cX1_addMiddles 28 = .ok (.iload_n 2, 1) := by decide +kernel
theorem dX1_addMiddles_29 : decode cX1_addMiddles 29 = .ok (.ifCond .eq 9, 3) := by decide +kernel
theorem dX1_addMiddles_32 : decode cX1_addMiddles 32 = .ok (.iload_n 1, 1) := by decide +kernel
theorem dX1_addMiddles_33 : decode cX1_addMiddles 33 = .ok (.iconst 1, 1) := by decide +kernel
theorem dX1_addMiddles_34 : decode cX1_addMiddles 34 = .ok (.isub, 1) := by decide +kernel
theorem dX1_addMiddles_35 : decode cX1_addMiddles 35 = .ok (.goto 6, 3) := by decide +kernel
theorem dX1_addMiddles_38 : decode cX1_addMiddles 38 = .ok (.iload_n 1, 1) := by decide +kernel
theorem dX1_addMiddles_39 : decode cX1_addMiddles 39 = .ok (.iconst 1, 1) := by decide +kernel
theorem dX1_addMiddles_40 : decode cX1_addMiddles 40 = .ok (.iadd, 1) := by decide +kernel
theorem dX1_addMiddles_41 : decode cX1_addMiddles 41 = .ok (.istore 4, 2) := by decide +kernel
theorem dX1_addMiddles_43 : decode cX1_addMiddles 43 = .ok (.iconst 0, 1) := by decide +kernel
theorem dX1_addMiddles_44 : decode cX1_addMiddles 44 = .ok (.istore 5, 2) := by decide +kernel
theorem dX1_addMiddles_46 : decode cX1_addMiddles 46 = .ok (.iload 5, 2) := by decide +kernel
theorem dX1_addMiddles_48 : decode cX1_addMiddles 48 = .ok (.aload_n 0, 1) := by decide +kernel
theorem dX1_addMiddles_49 : decode cX1_addMiddles 49 = .ok (.getfield 25, 3) := by decide +kernel
theorem dX1_addMiddles_52 : decode cX1_addMiddles 52 = .ok (.iload_n 3, 1) := by decide +kernel
theorem dX1_addMiddles_53 : decode cX1_addMiddles 53 = .ok (.invokevirtual 91, 3) := by decide +kernel
theorem dX1_addMiddles_56 : decode cX1_addMiddles 56 = .ok (.if_icmp .ge 80, 3) := by decide +kernel
theorem dX1_addMiddles_59 : decode cX1_addMiddles 59 = .ok (.aload_n 0, 1) := by decide +kernel
theorem dX1_addMiddles_60 : decode cX1_addMiddles 60 = .ok (.getfield 25, 3) := by decide +kernel
theorem dX1_addMiddles_63 : decode cX1_addMiddles 63 = .ok (.iload_n 3, 1) := by decide +kernel
theorem dX1_addMiddles_64 : decode cX1_addMiddles 64 = .ok (.iload 5, 2) := by decide +kernel
theorem dX1_addMiddles_66 : decode cX1_addMiddles 66 = .ok (.iload_n 2, 1) := by decide +kernel
theorem dX1_addMiddles_67 : decode cX1_addMiddles 67 = .ok (.ifCond .ne 7, 3) := by decide +kernel
theorem dX1_addMiddles_70 : decode cX1_addMiddles 70 = .ok (.iconst 1, 1) := by decide +kernel
theorem dX1_addMiddles_71 : decode cX1_addMiddles 71 = .ok (.goto 4, 3) := by decide +kernel
theorem dX1_addMiddles_74 : decode cX1_addMiddles 74 = .ok (.iconst 0, 1) := by decide +kernel
theorem dX1_addMiddles_75 : decode cX1_addMiddles 75 = .ok (.invokevirtual 94, 3) := by decide +kernel
theorem dX1_addMiddles_78 : decode cX1_addMiddles 78 = .ok (.istore 6, 2) := by decide +kernel
theorem dX1_addMiddles_80 : decode cX1_addMiddles 80 = .ok (.iload 6, 2) := by decide +kernel
theorem dX1_addMiddles_82 : decode cX1_addMiddles 82 = .ok (.ifCond .lt 48, 3) := by decide +kernel
theorem dX1_addMiddles_85 : decode cX1_addMiddles 85 = .ok (.iload 6, 2) := by decide +kernel
theorem dX1_addMiddles_87 : decode cX1_addMiddles 87 = .ok (.bipush 40, 2) := by decide +kernel
theorem dX1_addMiddles_89 : decode cX1_addMiddles 89 = .ok (.if_icmp .ge 41, 3) := by decide +kernel
theorem dX1_addMiddles_92 : decode cX1_addMiddles 92 = .ok (.aload_n 0, 1) := by decide +kernel
theorem dX1_addMiddles_93 : decode cX1_addMiddles 93 = .ok (.getfield 15, 3) := by decide +kernel
theorem dX1_addMiddles_96 : decode cX1_addMiddles 96 = .ok (.iload 6, 2) := by decide +kernel
theorem dX1_addMiddles_98 : decode cX1_addMiddles 98 = .ok (.dup2, 1) := by decide +kernel
theorem dX1_addMiddles_99 : decode cX1_addMiddles 99 = .ok (.iaload, 1) := by decide +kernel
theorem dX1_addMiddles_100 : decode cX1_addMiddles 100 = .ok (.aload_n 0, 1) := by decide +kernel
theorem dX1_addMiddles_101 : decode cX1_addMiddles 101 = .ok (.iload 4, 2) := by decide +kernel
theorem dX1_addMiddles_103 : decode cX1_addMiddles 103 = .ok (.aload_n 0, 1) := by decide +kernel
theorem dX1_addMiddles_104 : decode cX1_addMiddles 104 = .ok (.getfield 25, 3) := by decide +kernel
theorem dX1_addMiddles_107 : decode cX1_addMiddles 107 = .ok (.iload_n 3, 1) := by decide +kernel
theorem dX1_addMiddles_108 : decode cX1_addMiddles 108 = .ok (.iload 5, 2) := by decide +kernel
theorem dX1_addMiddles_110 : decode cX1_addMiddles 110 = .ok (.iload_n 2, 1) := by decide +kernel
theorem dX1_addMiddles_111 : decode cX1_addMiddles 111 = .ok (.invokevirtual 94, 3) := by decide +kernel
theorem dX1_addMiddles_114 : decode cX1_addMiddles 114 = .ok (.invokevirtual 97, 3) := by decide +kernel
theorem dX1_addMiddles_117 : decode cX1_addMiddles 117 = .ok (.iadd, 1) := by decide +kernel
theorem dX1_addMiddles_118 : decode cX1_addMiddles 118 = .ok (.iastore, 1) := by decide +kernel
theorem dX1_addMiddles_119 : decode cX1_addMiddles 119 = .ok (.aload_n 0, 1) := by decide +kernel
theorem dX1_addMiddles_120 : decode cX1_addMiddles 120 = .ok (.getfield 18, 3) := by decide +kernel
theorem dX1_addMiddles_123 : decode cX1_addMiddles 123 = .ok (.iload 6, 2) := by decide +kernel
theorem dX1_addMiddles_125 : decode cX1_addMiddles 125 = .ok (.dup2, 1) := by decide +kernel
theorem dX1_addMiddles_126 : decode cX1_addMiddles 126 = .ok (.iaload, 1) := by decide +kernel
theorem dX1_addMiddles_127 : decode cX1_addMiddles 127 = .ok (.iconst 1, 1) := by decide +kernel
theorem dX1_addMiddles_128 : decode cX1_addMiddles 128 = .ok (.iadd, 1) := by decide +kernel
theorem dX1_addMiddles_129 : decode cX1_addMiddles 129 = .ok (.iastore, 1) := by decide +kernel
theorem dX1_addMiddles_130 : decode cX1_addMiddles 130 = .ok (.iinc 5 1, 3) := by decide +kernel
theorem dX1_addMiddles_133 : decode cX1_addMiddles 133 = .ok (.goto (-87), 3) := by decide +kernel
theorem dX1_addMiddles_136 : decode cX1_addMiddles 136 = .ok (.return_, 1) := by decide +kernel
set_option maxRecDepth 20000 in
theorem ggX1_straighten_X4_sizeOf : GoodIn wsX1_straighten wsX4_sizeOf := goodIn_r _ [10, 11, 12, 53, 54, 55, 56, 57] (by decide +kernel) (by decide +kernel)
set_option maxRecDepth 20000 in
theorem gX1_straighten_X4_sizeOf : GoodIn wsX1_straighten (wsV RX1 67 RX4 yX4_sizeOf wsX4_sizeOf) := goodIn_app (goodIn_of _ (by decide +kernel)) ggX1_straighten_X4_sizeOf
set_option maxRecDepth 20000 in
theorem ggX1_straighten_X4_itemIn : GoodIn wsX1_straighten wsX4_itemIn := goodIn_r _ [16, 17, 18, 7, 8, 9, 10, 11, 12, 53, 54, 55, 56, 57] (by decide +kernel) (by decide +kernel)
set_option maxRecDepth 20000 in
theorem gX1_straighten_X4_itemIn : GoodIn wsX1_straighten (wsV RX1 70 RX4 yX4_itemIn wsX4_itemIn) := goodIn_app (goodIn_of _ (by decide +kernel)) ggX1_straighten_X4_itemIn
set_option maxRecDepth 20000 in
theorem ggX1_straighten_X1_wanted : GoodIn wsX1_straighten wsX1_wanted := goodIn_r _ [23, 24, 25, 26, 27, 28, 29, 22, 30, 31, 32, 33, 34, 35, 36, 37, 38, 39, 40, 41, 42, 43, 44, 58, 59, 60, 61, 62, 63, 64, 65, 66, 67, 68] (by decide +kernel) (by decide +kernel)
set_option maxRecDepth 20000 in
theorem gX1_straighten_X1_wanted : GoodIn wsX1_straighten (wsV RX1 101 RX1 yX1_wanted wsX1_wanted) := goodIn_app (goodIn_of _ (by decide +kernel)) ggX1_straighten_X1_wanted
set_option maxRecDepth 20000 in
theorem ggX1_straighten_X1_move : GoodIn wsX1_straighten wsX1_move := goodIn_r _ [48, 31, 32, 33, 22, 34, 58, 59, 60, 61, 62] (by decide +kernel) (by decide +kernel)
set_option maxRecDepth 20000 in
theorem gX1_straighten_X1_move : GoodIn wsX1_straighten (wsV RX1 81 RX1 yX1_move wsX1_move) := goodIn_app (goodIn_of _ (by decide +kernel)) ggX1_straighten_X1_move
set_option maxRecDepth 20000 in
theorem ggX1_straighten_X1_endOf : GoodIn wsX1_straighten wsX1_endOf := goodIn_r _ [52, 26, 27, 28, 29, 22, 30, 31, 32, 33, 34, 35, 36, 37, 38, 39, 40, 41, 42, 43, 44, 58, 59, 60, 61, 62, 63, 64, 65, 66, 67, 68] (by decide +kernel) (by decide +kernel)
set_option maxRecDepth 20000 in
theorem gX1_straighten_X1_endOf : GoodIn wsX1_straighten (wsV RX1 73 RX1 yX1_endOf wsX1_endOf) := goodIn_app (goodIn_of _ (by decide +kernel)) ggX1_straighten_X1_endOf
theorem dX1_straighten_0 : decode cX1_straighten 0 = .ok (.ldc 100, 2) := by decide +kernel
theorem dX1_straighten_2 : decode cX1_straighten 2 = .ok (.istore_n 3, 1) := by decide +kernel
theorem dX1_straighten_3 : decode cX1_straighten 3 = .ok (.iconst 0, 1) := by decide +kernel
theorem dX1_straighten_4 : decode cX1_straighten 4 = .ok (.istore 4, 2) := by decide +kernel
theorem dX1_straighten_6 : decode cX1_straighten 6 = .ok (.iload 4, 2) := by decide +kernel
theorem dX1_straighten_8 : decode cX1_straighten 8 = .ok (.aload_n 1, 1) := by decide +kernel
theorem dX1_straighten_9 : decode cX1_straighten 9 = .ok (.iload_n 2, 1) := by decide +kernel
theorem dX1_straighten_10 : decode cX1_straighten 10 = .ok (.invokevirtual 67, 3) := by decide +kernel
theorem dX1_straighten_13 : decode cX1_straighten 13 = .ok (.if_icmp .ge 46, 3) := by decide +kernel
theorem dX1_straighten_16 : decode cX1_straighten 16 = .ok (.aload_n 1, 1) := by decide +kernel
theorem dX1_straighten_17 : decode cX1_straighten 17 = .ok (.iload_n 2, 1) := by decide +kernel
theorem dX1_straighten_18 : decode cX1_straighten 18 = .ok (.iload 4, 2) := by decide +kernel
theorem dX1_straighten_20 : decode cX1_straighten 20 = .ok (.invokevirtual 70, 3) := by decide +kernel
theorem dX1_straighten_23 : decode cX1_straighten 23 = .ok (.istore 5, 2) := by decide +kernel
theorem dX1_straighten_25 : decode cX1_straighten 25 = .ok (.aload_n 0, 1) := by decide +kernel
theorem dX1_straighten_26 : decode cX1_straighten 26 = .ok (.iload_n 2, 1) := by decide +kernel
theorem dX1_straighten_27 : decode cX1_straighten 27 = .ok (.iload 5, 2) := by decide +kernel
theorem dX1_straighten_29 : decode cX1_straighten 29 = .ok (.aload_n 0, 1) := by decide +kernel
theorem dX1_straighten_30 : decode cX1_straighten 30 = .ok (.iload_n 2, 1) := by decide +kernel
theorem dX1_straighten_31 : decode cX1_straighten 31 = .ok (.iload 5, 2) := by decide +kernel
theorem dX1_straighten_33 : decode cX1_straighten 33 = .ok (.invokevirtual 101, 3) := by decide +kernel
theorem dX1_straighten_36 : decode cX1_straighten 36 = .ok (.iload_n 3, 1) := by decide +kernel
theorem dX1_straighten_37 : decode cX1_straighten 37 = .ok (.invokestatic 76, 3) := by decide +kernel
theorem dX1_straighten_40 : decode cX1_straighten 40 = .ok (.invokevirtual 81, 3) := by decide +kernel
theorem dX1_straighten_43 : decode cX1_straighten 43 = .ok (.aload_n 0, 1) := by decide +kernel
theorem dX1_straighten_44 : decode cX1_straighten 44 = .ok (.iload_n 2, 1) := by decide +kernel
theorem dX1_straighten_45 : decode cX1_straighten 45 = .ok (.iload 5, 2) := by decide +kernel
theorem dX1_straighten_47 : decode cX1_straighten 47 = .ok (.invokevirtual 73, 3) := by decide +kernel
theorem dX1_straighten_50 : decode cX1_straighten 50 = .ok (.iconst 4, 1) := by decide +kernel
theorem dX1_straighten_51 : decode cX1_straighten 51 = .ok (.iadd, 1) := by decide +kernel
theorem dX1_straighten_52 : decode cX1_straighten 52 = .ok (.istore_n 3, 1) := by decide +kernel
theorem dX1_straighten_53 : decode cX1_straighten 53 = .ok (.iinc 4 1, 3) := by decide +kernel
theorem dX1_straighten_56 : decode cX1_straighten 56 = .ok (.goto (-50), 3) := by decide +kernel
theorem dX1_straighten_59 : decode cX1_straighten 59 = .ok (.return_, 1) := by decide +kernel
set_option maxRecDepth 20000 in
theorem ggX1_wanted_X1_leftOf : GoodIn wsX1_wanted wsX1_leftOf := goodIn_r _ [8, 9, 10, 11, 7, 12, 23, 24, 25, 26, 27] (by decide +kernel) (by decide +kernel)
set_option maxRecDepth 20000 in
theorem gX1_wanted_X1_leftOf : GoodIn wsX1_wanted (wsV RX1 57 RX1 yX1_leftOf wsX1_leftOf) := goodIn_app (goodIn_of _ (by decide +kernel)) ggX1_wanted_X1_leftOf
set_option maxRecDepth 20000 in
theorem ggX1_wanted_X7_widthOf : GoodIn wsX1_wanted wsX7_widthOf := goodIn_r _ [17, 18, 19, 20, 21, 16, 22, 28, 29, 30, 31, 32, 33] (by decide +kernel) (by decide +kernel)
set_option maxRecDepth 20000 in
theorem gX1_wanted_X7_widthOf : GoodIn wsX1_wanted (wsV RX1 61 RX7 yX7_widthOf wsX7_widthOf) := goodIn_app (goodIn_of _ (by decide +kernel)) ggX1_wanted_X7_widthOf
theorem dX1_wanted_0 : decode cX1_wanted 0 = .ok (.iload_n 2, 1) := by decide +kernel
theorem dX1_wanted_1 : decode cX1_wanted 1 = .ok (.ifCond .lt 18, 3) := by decide +kernel
theorem dX1_wanted_4 : decode cX1_wanted 4 = .ok (.iload_n 2, 1) := by decide +kernel
theorem dX1_wanted_5 : decode cX1_wanted 5 = .ok (.bipush 40, 2) := by decide +kernel
theorem dX1_wanted_7 : decode cX1_wanted 7 = .ok (.if_icmp .ge 12, 3) := by decide +kernel
theorem dX1_wanted_10 : decode cX1_wanted 10 = .ok (.aload_n 0, 1) := by decide +kernel
theorem dX1_wanted_11 : decode cX1_wanted 11 = .ok (.getfield 18, 3) := by decide +kernel
theorem dX1_wanted_14 : decode cX1_wanted 14 = .ok (.iload_n 2, 1) := by decide +kernel
theorem dX1_wanted_15 : decode cX1_wanted 15 = .ok (.iaload, 1) := by decide +kernel
theorem dX1_wanted_16 : decode cX1_wanted 16 = .ok (.ifCond .gt 10, 3) := by decide +kernel
theorem dX1_wanted_19 : decode cX1_wanted 19 = .ok (.aload_n 0, 1) := by decide +kernel
theorem dX1_wanted_20 : decode cX1_wanted 20 = .ok (.iload_n 1, 1) := by decide +kernel
theorem dX1_wanted_21 : decode cX1_wanted 21 = .ok (.iload_n 2, 1) := by decide +kernel
theorem dX1_wanted_22 : decode cX1_wanted 22 = .ok (.invokevirtual 57, 3) := by decide +kernel
theorem dX1_wanted_25 : decode cX1_wanted 25 = .ok (.ireturn, 1) := by decide +kernel
theorem dX1_wanted_26 : decode cX1_wanted 26 = .ok (.aload_n 0, 1) := by decide +kernel
theorem dX1_wanted_27 : decode cX1_wanted 27 = .ok (.getfield 15, 3) := by decide +kernel
theorem dX1_wanted_30 : decode cX1_wanted 30 = .ok (.iload_n 2, 1) := by decide +kernel
theorem dX1_wanted_31 : decode cX1_wanted 31 = .ok (.iaload, 1) := by decide +kernel
theorem dX1_wanted_32 : decode cX1_wanted 32 = .ok (.aload_n 0, 1) := by decide +kernel
theorem dX1_wanted_33 : decode cX1_wanted 33 = .ok (.getfield 18, 3) := by decide +kernel
theorem dX1_wanted_36 : decode cX1_wanted 36 = .ok (.iload_n 2, 1) := by decide +kernel
theorem dX1_wanted_37 : decode cX1_wanted 37 = .ok (.iaload, 1) := by decide +kernel
theorem dX1_wanted_38 : decode cX1_wanted 38 = .ok (.idiv, 1) := by decide +kernel
theorem dX1_wanted_39 : decode cX1_wanted 39 = .ok (.aload_n 0, 1) := by decide +kernel
theorem dX1_wanted_40 : decode cX1_wanted 40 = .ok (.getfield 21, 3) := by decide +kernel
theorem dX1_wanted_43 : decode cX1_wanted 43 = .ok (.iload_n 2, 1) := by decide +kernel
theorem dX1_wanted_44 : decode cX1_wanted 44 = .ok (.invokevirtual 61, 3) := by decide +kernel
theorem dX1_wanted_47 : decode cX1_wanted 47 = .ok (.iconst 2, 1) := by decide +kernel
theorem dX1_wanted_48 : decode cX1_wanted 48 = .ok (.idiv, 1) := by decide +kernel
theorem dX1_wanted_49 : decode cX1_wanted 49 = .ok (.isub, 1) := by decide +kernel
theorem dX1_wanted_50 : decode cX1_wanted 50 = .ok (.ireturn, 1) := by decide +kernel
set_option maxRecDepth 20000 in
theorem ggX1_leastX_X4_layers : GoodIn wsX1_leastX wsX4_layers := goodIn_r _ [10, 11, 32, 33, 34, 35, 36] (by decide +kernel) (by decide +kernel)
set_option maxRecDepth 20000 in
theorem gX1_leastX_X4_layers : GoodIn wsX1_leastX (wsV RX1 29 RX4 yX4_layers wsX4_layers) := goodIn_app (goodIn_of _ (by decide +kernel)) ggX1_leastX_X4_layers
set_option maxRecDepth 20000 in
theorem ggX1_leastX_X4_sizeOf : GoodIn wsX1_leastX wsX4_sizeOf := goodIn_r _ [15, 11, 16, 32, 33, 34, 35, 36] (by decide +kernel) (by decide +kernel)
set_option maxRecDepth 20000 in
theorem gX1_leastX_X4_sizeOf : GoodIn wsX1_leastX (wsV RX1 67 RX4 yX4_sizeOf wsX4_sizeOf) := goodIn_app (goodIn_of _ (by decide +kernel)) ggX1_leastX_X4_sizeOf
set_option maxRecDepth 20000 in
theorem ggX1_leastX_X4_itemIn : GoodIn wsX1_leastX wsX4_itemIn := goodIn_r _ [20, 21, 22, 13, 14, 9, 15, 11, 16, 32, 33, 34, 35, 36] (by decide +kernel) (by decide +kernel)
set_option maxRecDepth 20000 in
theorem gX1_leastX_X4_itemIn : GoodIn wsX1_leastX (wsV RX1 70 RX4 yX4_itemIn wsX4_itemIn) := goodIn_app (goodIn_of _ (by decide +kernel)) ggX1_leastX_X4_itemIn
set_option maxRecDepth 20000 in
theorem ggX1_leastX_X1_leftOf : GoodIn wsX1_leastX wsX1_leftOf := goodIn_r _ [27, 28, 29, 30, 26, 31, 37, 38, 39, 40, 41] (by decide +kernel) (by decide +kernel)
set_option maxRecDepth 20000 in
theorem gX1_leastX_X1_leftOf : GoodIn wsX1_leastX (wsV RX1 57 RX1 yX1_leftOf wsX1_leftOf) := goodIn_app (goodIn_of _ (by decide +kernel)) ggX1_leastX_X1_leftOf
theorem dX1_leastX_0 : decode cX1_leastX 0 = .ok (.ldc 104, 2) := by decide +kernel
theorem dX1_leastX_2 : decode cX1_leastX 2 = .ok (.istore_n 2, 1) := by decide +kernel
theorem dX1_leastX_3 : decode cX1_leastX 3 = .ok (.iconst 0, 1) := by decide +kernel
theorem dX1_leastX_4 : decode cX1_leastX 4 = .ok (.istore_n 3, 1) := by decide +kernel
theorem dX1_leastX_5 : decode cX1_leastX 5 = .ok (.iload_n 3, 1) := by decide +kernel
theorem dX1_leastX_6 : decode cX1_leastX 6 = .ok (.aload_n 1, 1) := by decide +kernel
theorem dX1_leastX_7 : decode cX1_leastX 7 = .ok (.invokevirtual 29, 3) := by decide +kernel
theorem dX1_leastX_10 : decode cX1_leastX 10 = .ok (.if_icmp .ge 45, 3) := by decide +kernel
theorem dX1_leastX_13 : decode cX1_leastX 13 = .ok (.iconst 0, 1) := by decide +kernel
theorem dX1_leastX_14 : decode cX1_leastX 14 = .ok (.istore 4, 2) := by decide +kernel
theorem dX1_leastX_16 : decode cX1_leastX 16 = .ok (.iload 4, 2) := by decide +kernel
theorem dX1_leastX_18 : decode cX1_leastX 18 = .ok (.aload_n 1, 1) := by decide +kernel
theorem dX1_leastX_19 : decode cX1_leastX 19 = .ok (.iload_n 3, 1) := by decide +kernel
theorem dX1_leastX_20 : decode cX1_leastX 20 = .ok (.invokevirtual 67, 3) := by decide +kernel
theorem dX1_leastX_23 : decode cX1_leastX 23 = .ok (.if_icmp .ge 26, 3) := by decide +kernel
theorem dX1_leastX_26 : decode cX1_leastX 26 = .ok (.iload_n 2, 1) := by decide +kernel
theorem dX1_leastX_27 : decode cX1_leastX 27 = .ok (.aload_n 0, 1) := by decide +kernel
theorem dX1_leastX_28 : decode cX1_leastX 28 = .ok (.iload_n 3, 1) := by decide +kernel
theorem dX1_leastX_29 : decode cX1_leastX 29 = .ok (.aload_n 1, 1) := by decide +kernel
theorem dX1_leastX_30 : decode cX1_leastX 30 = .ok (.iload_n 3, 1) := by decide +kernel
theorem dX1_leastX_31 : decode cX1_leastX 31 = .ok (.iload 4, 2) := by decide +kernel
theorem dX1_leastX_33 : decode cX1_leastX 33 = .ok (.invokevirtual 70, 3) := by decide +kernel
theorem dX1_leastX_36 : decode cX1_leastX 36 = .ok (.invokevirtual 57, 3) := by decide +kernel
theorem dX1_leastX_39 : decode cX1_leastX 39 = .ok (.invokestatic 105, 3) := by decide +kernel
theorem dX1_leastX_42 : decode cX1_leastX 42 = .ok (.istore_n 2, 1) := by decide +kernel
theorem dX1_leastX_43 : decode cX1_leastX 43 = .ok (.iinc 4 1, 3) := by decide +kernel
theorem dX1_leastX_46 : decode cX1_leastX 46 = .ok (.goto (-30), 3) := by decide +kernel
theorem dX1_leastX_49 : decode cX1_leastX 49 = .ok (.iinc 3 1, 3) := by decide +kernel
theorem dX1_leastX_52 : decode cX1_leastX 52 = .ok (.goto (-47), 3) := by decide +kernel
theorem dX1_leastX_55 : decode cX1_leastX 55 = .ok (.iload_n 2, 1) := by decide +kernel
theorem dX1_leastX_56 : decode cX1_leastX 56 = .ok (.ireturn, 1) := by decide +kernel
set_option maxRecDepth 20000 in
theorem ggX1_shift_X4_layers : GoodIn wsX1_shift wsX4_layers := goodIn_r _ [5, 6, 31, 32, 33, 34, 35] (by decide +kernel) (by decide +kernel)
set_option maxRecDepth 20000 in
theorem gX1_shift_X4_layers : GoodIn wsX1_shift (wsV RX1 29 RX4 yX4_layers wsX4_layers) := goodIn_app (goodIn_of _ (by decide +kernel)) ggX1_shift_X4_layers
set_option maxRecDepth 20000 in
theorem ggX1_shift_X4_sizeOf : GoodIn wsX1_shift wsX4_sizeOf := goodIn_r _ [10, 6, 11, 31, 32, 33, 34, 35] (by decide +kernel) (by decide +kernel)
set_option maxRecDepth 20000 in
theorem gX1_shift_X4_sizeOf : GoodIn wsX1_shift (wsV RX1 67 RX4 yX4_sizeOf wsX4_sizeOf) := goodIn_app (goodIn_of _ (by decide +kernel)) ggX1_shift_X4_sizeOf
set_option maxRecDepth 20000 in
theorem ggX1_shift_X4_itemIn : GoodIn wsX1_shift wsX4_itemIn := goodIn_r _ [15, 16, 17, 8, 9, 4, 10, 6, 11, 31, 32, 33, 34, 35] (by decide +kernel) (by decide +kernel)
set_option maxRecDepth 20000 in
theorem gX1_shift_X4_itemIn : GoodIn wsX1_shift (wsV RX1 70 RX4 yX4_itemIn wsX4_itemIn) := goodIn_app (goodIn_of _ (by decide +kernel)) ggX1_shift_X4_itemIn
set_option maxRecDepth 20000 in
theorem ggX1_shift_X1_leftOf : GoodIn wsX1_shift wsX1_leftOf := goodIn_r _ [22, 23, 24, 25, 21, 26, 36, 37, 38, 39, 40] (by decide +kernel) (by decide +kernel)
set_option maxRecDepth 20000 in
theorem gX1_shift_X1_leftOf : GoodIn wsX1_shift (wsV RX1 57 RX1 yX1_leftOf wsX1_leftOf) := goodIn_app (goodIn_of _ (by decide +kernel)) ggX1_shift_X1_leftOf
set_option maxRecDepth 20000 in
theorem ggX1_shift_X1_move : GoodIn wsX1_shift wsX1_move := goodIn_r _ [30, 23, 24, 25, 21, 26, 36, 37, 38, 39, 40] (by decide +kernel) (by decide +kernel)
set_option maxRecDepth 20000 in
theorem gX1_shift_X1_move : GoodIn wsX1_shift (wsV RX1 81 RX1 yX1_move wsX1_move) := goodIn_app (goodIn_of _ (by decide +kernel)) ggX1_shift_X1_move
theorem dX1_shift_0 : decode cX1_shift 0 = .ok (.iconst 0, 1) := by decide +kernel
theorem dX1_shift_1 : decode cX1_shift 1 = .ok (.istore_n 3, 1) := by decide +kernel
theorem dX1_shift_2 : decode cX1_shift 2 = .ok (.iload_n 3, 1) := by decide +kernel
theorem dX1_shift_3 : decode cX1_shift 3 = .ok (.aload_n 1, 1) := by decide +kernel
theorem dX1_shift_4 : decode cX1_shift 4 = .ok (.invokevirtual 29, 3) := by decide +kernel
theorem dX1_shift_7 : decode cX1_shift 7 = .ok (.if_icmp .ge 53, 3) := by decide +kernel
theorem dX1_shift_10 : decode cX1_shift 10 = .ok (.iconst 0, 1) := by decide +kernel
theorem dX1_shift_11 : decode cX1_shift 11 = .ok (.istore 4, 2) := by decide +kernel
theorem dX1_shift_13 : decode cX1_shift 13 = .ok (.iload 4, 2) := by decide +kernel
theorem dX1_shift_15 : decode cX1_shift 15 = .ok (.aload_n 1, 1) := by decide +kernel
theorem dX1_shift_16 : decode cX1_shift 16 = .ok (.iload_n 3, 1) := by decide +kernel
theorem dX1_shift_17 : decode cX1_shift 17 = .ok (.invokevirtual 67, 3) := by decide +kernel
theorem dX1_shift_20 : decode cX1_shift 20 = .ok (.if_icmp .ge 34, 3) := by decide +kernel
theorem dX1_shift_23 : decode cX1_shift 23 = .ok (.aload_n 1, 1) := by decide +kernel
theorem dX1_shift_24 : decode cX1_shift 24 = .ok (.iload_n 3, 1) := by decide +kernel
theorem dX1_shift_25 : decode cX1_shift 25 = .ok (.iload 4, 2) := by decide +kernel
theorem dX1_shift_27 : decode cX1_shift 27 = .ok (.invokevirtual 70, 3) := by decide +kernel
theorem dX1_shift_30 : decode cX1_shift 30 = .ok (.istore 5, 2) := by decide +kernel
theorem dX1_shift_32 : decode cX1_shift 32 = .ok (.aload_n 0, 1) := by decide +kernel
theorem dX1_shift_33 : decode cX1_shift 33 = .ok (.iload_n 3, 1) := by decide +kernel
theorem dX1_shift_34 : decode cX1_shift 34 = .ok (.iload 5, 2) := by decide +kernel
theorem dX1_shift_36 : decode cX1_shift 36 = .ok (.aload_n 0, 1) := by decide +kernel
theorem dX1_shift_37 : decode cX1_shift 37 = .ok (.iload_n 3, 1) := by decide +kernel
theorem dX1_shift_38 : decode cX1_shift 38 = .ok (.iload 5, 2) := by decide +kernel
theorem dX1_shift_40 : decode cX1_shift 40 = .ok (.invokevirtual 57, 3) := by decide +kernel
theorem dX1_shift_43 : decode cX1_shift 43 = .ok (.iload_n 2, 1) := by decide +kernel
theorem dX1_shift_44 : decode cX1_shift 44 = .ok (.isub, 1) := by decide +kernel
theorem dX1_shift_45 : decode cX1_shift 45 = .ok (.invokevirtual 81, 3) := by decide +kernel
theorem dX1_shift_48 : decode cX1_shift 48 = .ok (.iinc 4 1, 3) := by decide +kernel
theorem dX1_shift_51 : decode cX1_shift 51 = .ok (.goto (-38), 3) := by decide +kernel
theorem dX1_shift_54 : decode cX1_shift 54 = .ok (.iinc 3 1, 3) := by decide +kernel
theorem dX1_shift_57 : decode cX1_shift 57 = .ok (.goto (-55), 3) := by decide +kernel
theorem dX1_shift_60 : decode cX1_shift 60 = .ok (.return_, 1) := by decide +kernel
set_option maxRecDepth 20000 in
theorem ggX1_move_X1_isSpot : GoodIn wsX1_move wsX1_isSpot := goodIn_r _ [5] (by decide +kernel) (by decide +kernel)
set_option maxRecDepth 20000 in
theorem gX1_move_X1_isSpot : GoodIn wsX1_move (va_wsS RX1 53 yX1_isSpot wsX1_isSpot) := goodIn_app (goodIn_of _ (by decide +kernel)) ggX1_move_X1_isSpot
theorem dX1_move_0 : decode cX1_move 0 = .ok (.iload_n 1, 1) := by decide +kernel
theorem dX1_move_1 : decode cX1_move 1 = .ok (.iload_n 2, 1) := by decide +kernel
theorem dX1_move_2 : decode cX1_move 2 = .ok (.invokestatic 53, 3) := by decide +kernel
theorem dX1_move_5 : decode cX1_move 5 = .ok (.ifCond .eq 15, 3) := by decide +kernel
theorem dX1_move_8 : decode cX1_move 8 = .ok (.aload_n 0, 1) := by decide +kernel
theorem dX1_move_9 : decode cX1_move 9 = .ok (.getfield 9, 3) := by decide +kernel
theorem dX1_move_12 : decode cX1_move 12 = .ok (.iload_n 1, 1) := by decide +kernel
theorem dX1_move_13 : decode cX1_move 13 = .ok (.bipush 40, 2) := by decide +kernel
theorem dX1_move_15 : decode cX1_move 15 = .ok (.imul, 1) := by decide +kernel
theorem dX1_move_16 : decode cX1_move 16 = .ok (.iload_n 2, 1) := by decide +kernel
theorem dX1_move_17 : decode cX1_move 17 = .ok (.iadd, 1) := by decide +kernel
theorem dX1_move_18 : decode cX1_move 18 = .ok (.iload_n 3, 1) := by decide +kernel
theorem dX1_move_19 : decode cX1_move 19 = .ok (.iastore, 1) := by decide +kernel
theorem dX1_move_20 : decode cX1_move 20 = .ok (.return_, 1) := by decide +kernel
theorem dX1_isSpot_0 : decode cX1_isSpot 0 = .ok (.iload_n 0, 1) := by decide +kernel
theorem dX1_isSpot_1 : decode cX1_isSpot 1 = .ok (.ifCond .lt 23, 3) := by decide +kernel
theorem dX1_isSpot_4 : decode cX1_isSpot 4 = .ok (.iload_n 0, 1) := by decide +kernel
theorem dX1_isSpot_5 : decode cX1_isSpot 5 = .ok (.bipush 24, 2) := by decide +kernel
theorem dX1_isSpot_7 : decode cX1_isSpot 7 = .ok (.if_icmp .ge 17, 3) := by decide +kernel
theorem dX1_isSpot_10 : decode cX1_isSpot 10 = .ok (.iload_n 1, 1) := by decide +kernel
theorem dX1_isSpot_11 : decode cX1_isSpot 11 = .ok (.ifCond .lt 13, 3) := by decide +kernel
theorem dX1_isSpot_14 : decode cX1_isSpot 14 = .ok (.iload_n 1, 1) := by decide +kernel
theorem dX1_isSpot_15 : decode cX1_isSpot 15 = .ok (.bipush 40, 2) := by decide +kernel
theorem dX1_isSpot_17 : decode cX1_isSpot 17 = .ok (.if_icmp .ge 7, 3) := by decide +kernel
theorem dX1_isSpot_20 : decode cX1_isSpot 20 = .ok (.iconst 1, 1) := by decide +kernel
theorem dX1_isSpot_21 : decode cX1_isSpot 21 = .ok (.goto 4, 3) := by decide +kernel
theorem dX1_isSpot_24 : decode cX1_isSpot 24 = .ok (.iconst 0, 1) := by decide +kernel
theorem dX1_isSpot_25 : decode cX1_isSpot 25 = .ok (.ireturn, 1) := by decide +kernel
theorem dX2_init_0 : decode cX2_init 0 = .ok (.aload_n 0, 1) := by decide +kernel
theorem dX2_init_1 : decode cX2_init 1 = .ok (.invokespecial 3, 3) := by decide +kernel
theorem dX2_init_4 : decode cX2_init 4 = .ok (.aload_n 0, 1) := by decide +kernel
theorem dX2_init_5 : decode cX2_init 5 = .ok (.bipush 24, 2) := by decide +kernel
theorem dX2_init_7 : decode cX2_init 7 = .ok (.newarray .int, 2) := by decide +kernel
theorem dX2_init_9 : decode cX2_init 9 = .ok (.putfield 9, 3) := by decide +kernel
theorem dX2_init_12 : decode cX2_init 12 = .ok (.aload_n 0, 1) := by decide +kernel
theorem dX2_init_13 : decode cX2_init 13 = .ok (.bipush 24, 2) := by decide +kernel
theorem dX2_init_15 : decode cX2_init 15 = .ok (.newarray .int, 2) := by decide +kernel
theorem dX2_init_17 : decode cX2_init 17 = .ok (.putfield 15, 3) := by decide +kernel
theorem dX2_init_20 : decode cX2_init 20 = .ok (.aload_n 0, 1) := by decide +kernel
theorem dX2_init_21 : decode cX2_init 21 = .ok (.aload_n 1, 1) := by decide +kernel
theorem dX2_init_22 : decode cX2_init 22 = .ok (.putfield 18, 3) := by decide +kernel
theorem dX2_init_25 : decode cX2_init 25 = .ok (.return_, 1) := by decide +kernel
set_option maxRecDepth 20000 in
theorem ggX2_inAll_X4_layers : GoodIn wsX2_inAll wsX4_layers := goodIn_r _ [5, 6, 40, 41, 42, 43, 44] (by decide +kernel) (by decide +kernel)
set_option maxRecDepth 20000 in
theorem gX2_inAll_X4_layers : GoodIn wsX2_inAll (wsV RX2 22 RX4 yX4_layers wsX4_layers) := goodIn_app (goodIn_of _ (by decide +kernel)) ggX2_inAll_X4_layers
set_option maxRecDepth 20000 in
theorem ggX2_inAll_X2_inGap : GoodIn wsX2_inAll wsX2_inGap := goodIn_r _ [11, 12, 13, 14, 15, 16, 17, 18, 19, 20, 21, 22, 23, 24, 25, 26, 27, 28, 29, 30, 31, 32, 33, 4, 34, 35, 36, 37, 38, 39, 45, 46, 47, 48, 49, 50, 51, 40, 41, 42, 43, 44] (by decide +kernel) (by decide +kernel)
set_option maxRecDepth 20000 in
theorem gX2_inAll_X2_inGap : GoodIn wsX2_inAll (wsV RX2 28 RX2 yX2_inGap wsX2_inGap) := goodIn_app (goodIn_of _ (by decide +kernel)) ggX2_inAll_X2_inGap
theorem dX2_inAll_0 : decode cX2_inAll 0 = .ok (.iconst 0, 1) := by decide +kernel
theorem dX2_inAll_1 : decode cX2_inAll 1 = .ok (.istore_n 2, 1) := by decide +kernel
theorem dX2_inAll_2 : decode cX2_inAll 2 = .ok (.iconst 0, 1) := by decide +kernel
theorem dX2_inAll_3 : decode cX2_inAll 3 = .ok (.istore_n 3, 1) := by decide +kernel
theorem dX2_inAll_4 : decode cX2_inAll 4 = .ok (.iload_n 3, 1) := by decide +kernel
theorem dX2_inAll_5 : decode cX2_inAll 5 = .ok (.aload_n 1, 1) := by decide +kernel
theorem dX2_inAll_6 : decode cX2_inAll 6 = .ok (.invokevirtual 22, 3) := by decide +kernel
theorem dX2_inAll_9 : decode cX2_inAll 9 = .ok (.iconst 1, 1) := by decide +kernel
theorem dX2_inAll_10 : decode cX2_inAll 10 = .ok (.isub, 1) := by decide +kernel
theorem dX2_inAll_11 : decode cX2_inAll 11 = .ok (.if_icmp .ge 18, 3) := by decide +kernel
theorem dX2_inAll_14 : decode cX2_inAll 14 = .ok (.iload_n 2, 1) := by decide +kernel
theorem dX2_inAll_15 : decode cX2_inAll 15 = .ok (.aload_n 0, 1) := by decide +kernel
theorem dX2_inAll_16 : decode cX2_inAll 16 = .ok (.aload_n 1, 1) := by decide +kernel
theorem dX2_inAll_17 : decode cX2_inAll 17 = .ok (.iload_n 3, 1) := by decide +kernel
theorem dX2_inAll_18 : decode cX2_inAll 18 = .ok (.invokevirtual 28, 3) := by decide +kernel
theorem dX2_inAll_21 : decode cX2_inAll 21 = .ok (.iadd, 1) := by decide +kernel
theorem dX2_inAll_22 : decode cX2_inAll 22 = .ok (.istore_n 2, 1) := by decide +kernel
theorem dX2_inAll_23 : decode cX2_inAll 23 = .ok (.iinc 3 1, 3) := by decide +kernel
theorem dX2_inAll_26 : decode cX2_inAll 26 = .ok (.goto (-22), 3) := by decide +kernel
theorem dX2_inAll_29 : decode cX2_inAll 29 = .ok (.iload_n 2, 1) := by decide +kernel
theorem dX2_inAll_30 : decode cX2_inAll 30 = .ok (.ireturn, 1) := by decide +kernel
set_option maxRecDepth 20000 in
theorem ggX2_around_X2_inGap : GoodIn wsX2_around wsX2_inGap := goodIn_r _ [5, 6, 7, 8, 9, 10, 11, 12, 13, 14, 15, 16, 17, 18, 19, 20, 21, 22, 23, 24, 25, 26, 27, 28, 29, 30, 31, 32, 33, 34, 35, 36, 37, 38, 39, 40, 41, 42, 43, 44, 45, 46] (by decide +kernel) (by decide +kernel)
set_option maxRecDepth 20000 in
theorem gX2_around_X2_inGap : GoodIn wsX2_around (wsV RX2 28 RX2 yX2_inGap wsX2_inGap) := goodIn_app (goodIn_of _ (by decide +kernel)) ggX2_around_X2_inGap
theorem dX2_around_0 : decode cX2_around 0 = .ok (.aload_n 0, 1) := by decide +kernel
theorem dX2_around_1 : decode cX2_around 1 = .ok (.aload_n 1, 1) := by decide +kernel
theorem dX2_around_2 : decode cX2_around 2 = .ok (.iload_n 2, 1) := by decide +kernel
theorem dX2_around_3 : decode cX2_around 3 = .ok (.iconst 1, 1) := by decide +kernel
theorem dX2_around_4 : decode cX2_around 4 = .ok (.isub, 1) := by decide +kernel
theorem dX2_around_5 : decode cX2_around 5 = .ok (.invokevirtual 28, 3) := by decide +kernel
theorem dX2_around_8 : decode cX2_around 8 = .ok (.aload_n 0, 1) := by decide +kernel
theorem dX2_around_9 : decode cX2_around 9 = .ok (.aload_n 1, 1) := by decide +kernel
theorem dX2_around_10 : decode cX2_around 10 = .ok (.iload_n 2, 1) := by decide +kernel
theorem dX2_around_11 : decode cX2_around 11 = .ok (.invokevirtual 28, 3) := by decide +kernel
theorem dX2_around_14 : decode cX2_around 14 = .ok (.iadd, 1) := by decide +kernel
theorem dX2_around_15 : decode cX2_around 15 = .ok (.ireturn, 1) := by decide +kernel
set_option maxRecDepth 20000 in
theorem ggX2_inGap_X6_sizeOf : GoodIn wsX2_inGap wsX6_sizeOf := goodIn_r _ [12, 13, 33, 34, 35, 36] (by decide +kernel) (by decide +kernel)
set_option maxRecDepth 20000 in
theorem gX2_inGap_X6_sizeOf : GoodIn wsX2_inGap (wsV RX2 32 RX6 yX6_sizeOf wsX6_sizeOf) := goodIn_app (goodIn_of _ (by decide +kernel)) ggX2_inGap_X6_sizeOf
set_option maxRecDepth 20000 in
theorem ggX2_inGap_X6_endOf : GoodIn wsX2_inGap wsX6_endOf := goodIn_r _ [17, 13, 18, 19, 33, 34, 35, 36] (by decide +kernel) (by decide +kernel)
set_option maxRecDepth 20000 in
theorem gX2_inGap_X6_endOf : GoodIn wsX2_inGap (wsV RX2 44 RX6 yX6_endOf wsX6_endOf) := goodIn_app (goodIn_of _ (by decide +kernel)) ggX2_inGap_X6_endOf
set_option maxRecDepth 20000 in
theorem ggX2_inGap_X4_placeIn : GoodIn wsX2_inGap wsX4_placeIn := goodIn_r _ [24, 25, 37, 38, 39, 40, 41] (by decide +kernel) (by decide +kernel)
set_option maxRecDepth 20000 in
theorem gX2_inGap_X4_placeIn : GoodIn wsX2_inGap (wsV RX2 48 RX4 yX4_placeIn wsX4_placeIn) := goodIn_app (goodIn_of _ (by decide +kernel)) ggX2_inGap_X4_placeIn
set_option maxRecDepth 20000 in
theorem ggX2_inGap_J6_compare_7cf53 : GoodIn wsX2_inGap wsJ6_compare_7cf53 := goodIn_r _ [29] (by decide +kernel) (by decide +kernel)
set_option maxRecDepth 20000 in
theorem gX2_inGap_J6_compare_7cf53 : GoodIn wsX2_inGap (va_wsS RX2 51 yJ6_compare_7cf53 wsJ6_compare_7cf53) := goodIn_app (goodIn_of _ (by decide +kernel)) ggX2_inGap_J6_compare_7cf53
theorem dX2_inGap_0 : decode cX2_inGap 0 = .ok (.aload_n 0, 1) := by decide +kernel
theorem dX2_inGap_1 : decode cX2_inGap 1 = .ok (.getfield 18, 3) := by decide +kernel
theorem dX2_inGap_4 : decode cX2_inGap 4 = .ok (.iload_n 2, 1) := by decide +kernel
theorem dX2_inGap_5 : decode cX2_inGap 5 = .ok (.invokevirtual 32, 3) := by decide +kernel
theorem dX2_inGap_8 : decode cX2_inGap 8 = .ok (.bipush 24, 2) := by decide +kernel
theorem dX2_inGap_10 : decode cX2_inGap 10 = .ok (.invokestatic 38, 3) := by decide +kernel
theorem dX2_inGap_13 : decode cX2_inGap 13 = .ok (.istore_n 3, 1) := by decide +kernel
theorem dX2_inGap_14 : decode cX2_inGap 14 = .ok (.iconst 0, 1) := by decide +kernel
theorem dX2_inGap_15 : decode cX2_inGap 15 = .ok (.istore 4, 2) := by decide +kernel
theorem dX2_inGap_17 : decode cX2_inGap 17 = .ok (.iconst 0, 1) := by decide +kernel
theorem dX2_inGap_18 : decode cX2_inGap 18 = .ok (.istore 5, 2) := by decide +kernel
theorem dX2_inGap_20 : decode cX2_inGap 20 = .ok (.iload 5, 2) := by decide +kernel
theorem dX2_inGap_22 : decode cX2_inGap 22 = .ok (.iload_n 3, 1) := by decide +kernel
theorem dX2_inGap_23 : decode cX2_inGap 23 = .ok (.if_icmp .ge 118, 3) := by decide +kernel
theorem dX2_inGap_26 : decode cX2_inGap 26 = .ok (.aload_n 0, 1) := by decide +kernel
theorem dX2_inGap_27 : decode cX2_inGap 27 = .ok (.getfield 9, 3) := by decide +kernel
theorem dX2_inGap_30 : decode cX2_inGap 30 = .ok (.iload 5, 2) := by decide +kernel
theorem dX2_inGap_32 : decode cX2_inGap 32 = .ok (.aload_n 1, 1) := by decide +kernel
theorem dX2_inGap_33 : decode cX2_inGap 33 = .ok (.iload_n 2, 1) := by decide +kernel
theorem dX2_inGap_34 : decode cX2_inGap 34 = .ok (.aload_n 0, 1) := by decide +kernel
theorem dX2_inGap_35 : decode cX2_inGap 35 = .ok (.getfield 18, 3) := by decide +kernel
theorem dX2_inGap_38 : decode cX2_inGap 38 = .ok (.iload_n 2, 1) := by decide +kernel
theorem dX2_inGap_39 : decode cX2_inGap 39 = .ok (.iload 5, 2) := by decide +kernel
theorem dX2_inGap_41 : decode cX2_inGap 41 = .ok (.iconst 1, 1) := by decide +kernel
theorem dX2_inGap_42 : decode cX2_inGap 42 = .ok (.invokevirtual 44, 3) := by decide +kernel
theorem dX2_inGap_45 : decode cX2_inGap 45 = .ok (.invokevirtual 48, 3) := by decide +kernel
theorem dX2_inGap_48 : decode cX2_inGap 48 = .ok (.iastore, 1) := by decide +kernel
theorem dX2_inGap_49 : decode cX2_inGap 49 = .ok (.aload_n 0, 1) := by decide +kernel
theorem dX2_inGap_50 : decode cX2_inGap 50 = .ok (.getfield 15, 3) := by decide +kernel
theorem dX2_inGap_53 : decode cX2_inGap 53 = .ok (.iload 5, 2) := by decide +kernel
theorem dX2_inGap_55 : decode cX2_inGap 55 = .ok (.aload_n 1, 1) := by decide +kernel
theorem dX2_inGap_56 : decode cX2_inGap 56 = .ok (.iload_n 2, 1) := by decide +kernel
theorem dX2_inGap_57 : decode cX2_inGap 57 = .ok (.iconst 1, 1) := by decide +kernel
theorem dX2_inGap_58 : decode cX2_inGap 58 = .ok (.iadd, 1) := by decide +kernel
theorem dX2_inGap_59 : decode cX2_inGap 59 = .ok (.aload_n 0, 1) := by decide +kernel
theorem dX2_inGap_60 : decode cX2_inGap 60 = .ok (.getfield 18, 3) := by decide +kernel
theorem dX2_inGap_63 : decode cX2_inGap 63 = .ok (.iload_n 2, 1) := by decide +kernel
theorem dX2_inGap_64 : decode cX2_inGap 64 = .ok (.iload 5, 2) := by decide +kernel
theorem dX2_inGap_66 : decode cX2_inGap 66 = .ok (.iconst 0, 1) := by decide +kernel
theorem dX2_inGap_67 : decode cX2_inGap 67 = .ok (.invokevirtual 44, 3) := by decide +kernel
theorem dX2_inGap_70 : decode cX2_inGap 70 = .ok (.invokevirtual 48, 3) := by decide +kernel
theorem dX2_inGap_73 : decode cX2_inGap 73 = .ok (.iastore, 1) := by decide +kernel
theorem dX2_inGap_74 : decode cX2_inGap 74 = .ok (.iconst 0, 1) := by decide +kernel
theorem dX2_inGap_75 : decode cX2_inGap 75 = .ok (.istore 6, 2) := by decide +kernel
theorem dX2_inGap_77 : decode cX2_inGap 77 = .ok (.iload 6, 2) := by decide +kernel
theorem dX2_inGap_79 : decode cX2_inGap 79 = .ok (.iload 5, 2) := by decide +kernel
theorem dX2_inGap_81 : decode cX2_inGap 81 = .ok (.if_icmp .ge 54, 3) := by decide +kernel
theorem dX2_inGap_84 : decode cX2_inGap 84 = .ok (.aload_n 0, 1) := by decide +kernel
theorem dX2_inGap_85 : decode cX2_inGap 85 = .ok (.getfield 9, 3) := by decide +kernel
theorem dX2_inGap_88 : decode cX2_inGap 88 = .ok (.iload 5, 2) := by decide +kernel
theorem dX2_inGap_90 : decode cX2_inGap 90 = .ok (.iaload, 1) := by decide +kernel
theorem dX2_inGap_91 : decode cX2_inGap 91 = .ok (.aload_n 0, 1) := by decide +kernel
theorem dX2_inGap_92 : decode cX2_inGap 92 = .ok (.getfield 9, 3) := by decide +kernel
theorem dX2_inGap_95 : decode cX2_inGap 95 = .ok (.iload 6, 2) := by decide +kernel
theorem dX2_inGap_97 : decode cX2_inGap 97 = .ok (.iaload, 1) := by decide +kernel
theorem dX2_inGap_98 : decode cX2_inGap 98 = .ok (.invokestatic 51, 3) := by decide +kernel
theorem dX2_inGap_101 : decode cX2_inGap 101 = .ok (.istore 7, 2) := by decide +kernel
theorem dX2_inGap_103 : decode cX2_inGap 103 = .ok (.iload 7, 2) := by decide +kernel
theorem dX2_inGap_105 : decode cX2_inGap 105 = .ok (.aload_n 0, 1) := by decide +kernel
theorem dX2_inGap_106 : decode cX2_inGap 106 = .ok (.getfield 15, 3) := by decide +kernel
theorem dX2_inGap_109 : decode cX2_inGap 109 = .ok (.iload 5, 2) := by decide +kernel
theorem dX2_inGap_111 : decode cX2_inGap 111 = .ok (.iaload, 1) := by decide +kernel
theorem dX2_inGap_112 : decode cX2_inGap 112 = .ok (.aload_n 0, 1) := by decide +kernel
theorem dX2_inGap_113 : decode cX2_inGap 113 = .ok (.getfield 15, 3) := by decide +kernel
theorem dX2_inGap_116 : decode cX2_inGap 116 = .ok (.iload 6, 2) := by decide +kernel
theorem dX2_inGap_118 : decode cX2_inGap 118 = .ok (.iaload, 1) := by decide +kernel
theorem dX2_inGap_119 : decode cX2_inGap 119 = .ok (.invokestatic 51, 3) := by decide +kernel
theorem dX2_inGap_122 : decode cX2_inGap 122 = .ok (.imul, 1) := by decide +kernel
theorem dX2_inGap_123 : decode cX2_inGap 123 = .ok (.ifCond .ge 6, 3) := by decide +kernel
theorem dX2_inGap_126 : decode cX2_inGap 126 = .ok (.iinc 4 1, 3) := by decide +kernel
theorem dX2_inGap_129 : decode cX2_inGap 129 = .ok (.iinc 6 1, 3) := by decide +kernel
theorem dX2_inGap_132 : decode cX2_inGap 132 = .ok (.goto (-55), 3) := by decide +kernel
theorem dX2_inGap_135 : decode cX2_inGap 135 = .ok (.iinc 5 1, 3) := by decide +kernel
theorem dX2_inGap_138 : decode cX2_inGap 138 = .ok (.goto (-118), 3) := by decide +kernel
theorem dX2_inGap_141 : decode cX2_inGap 141 = .ok (.iload 4, 2) := by decide +kernel
theorem dX2_inGap_143 : decode cX2_inGap 143 = .ok (.ireturn, 1) := by decide +kernel
set_option maxRecDepth 20000 in
theorem ggX3_init_J7_fill_53178 : GoodIn wsX3_init wsJ7_fill_53178 := goodIn_r _ [13] (by decide +kernel) (by decide +kernel)
set_option maxRecDepth 20000 in
theorem gX3_init_J7_fill_53178 : GoodIn wsX3_init (va_wsS RX3 25 yJ7_fill_53178 wsJ7_fill_53178) := goodIn_app (goodIn_of _ (by decide +kernel)) ggX3_init_J7_fill_53178
theorem dX3_init_0 : decode cX3_init 0 = .ok (.aload_n 0, 1) := by decide +kernel
theorem dX3_init_1 : decode cX3_init 1 = .ok (.invokespecial 3, 3) := by decide +kernel
theorem dX3_init_4 : decode cX3_init 4 = .ok (.aload_n 0, 1) := by decide +kernel
theorem dX3_init_5 : decode cX3_init 5 = .ok (.bipush 16, 2) := by decide +kernel
theorem dX3_init_7 : decode cX3_init 7 = .ok (.newarray .int, 2) := by decide +kernel
theorem dX3_init_9 : decode cX3_init 9 = .ok (.putfield 9, 3) := by decide +kernel
theorem dX3_init_12 : decode cX3_init 12 = .ok (.aload_n 0, 1) := by decide +kernel
theorem dX3_init_13 : decode cX3_init 13 = .ok (.bipush 24, 2) := by decide +kernel
theorem dX3_init_15 : decode cX3_init 15 = .ok (.newarray .int, 2) := by decide +kernel
theorem dX3_init_17 : decode cX3_init 17 = .ok (.putfield 15, 3) := by decide +kernel
theorem dX3_init_20 : decode cX3_init 20 = .ok (.aload_n 0, 1) := by decide +kernel
theorem dX3_init_21 : decode cX3_init 21 = .ok (.bipush 24, 2) := by decide +kernel
theorem dX3_init_23 : decode cX3_init 23 = .ok (.newarray .int, 2) := by decide +kernel
theorem dX3_init_25 : decode cX3_init 25 = .ok (.putfield 18, 3) := by decide +kernel
theorem dX3_init_28 : decode cX3_init 28 = .ok (.aload_n 0, 1) := by decide +kernel
theorem dX3_init_29 : decode cX3_init 29 = .ok (.aload_n 1, 1) := by decide +kernel
theorem dX3_init_30 : decode cX3_init 30 = .ok (.putfield 21, 3) := by decide +kernel
theorem dX3_init_33 : decode cX3_init 33 = .ok (.aload_n 0, 1) := by decide +kernel
theorem dX3_init_34 : decode cX3_init 34 = .ok (.getfield 9, 3) := by decide +kernel
theorem dX3_init_37 : decode cX3_init 37 = .ok (.iconst (-1), 1) := by decide +kernel
theorem dX3_init_38 : decode cX3_init 38 = .ok (.invokestatic 25, 3) := by decide +kernel
theorem dX3_init_41 : decode cX3_init 41 = .ok (.aload_n 0, 1) := by decide +kernel
theorem dX3_init_42 : decode cX3_init 42 = .ok (.getfield 15, 3) := by decide +kernel
theorem dX3_init_45 : decode cX3_init 45 = .ok (.iconst (-1), 1) := by decide +kernel
theorem dX3_init_46 : decode cX3_init 46 = .ok (.invokestatic 25, 3) := by decide +kernel
theorem dX3_init_49 : decode cX3_init 49 = .ok (.aload_n 0, 1) := by decide +kernel
theorem dX3_init_50 : decode cX3_init 50 = .ok (.getfield 18, 3) := by decide +kernel
theorem dX3_init_53 : decode cX3_init 53 = .ok (.iconst (-1), 1) := by decide +kernel
theorem dX3_init_54 : decode cX3_init 54 = .ok (.invokestatic 25, 3) := by decide +kernel
theorem dX3_init_57 : decode cX3_init 57 = .ok (.aload_n 0, 1) := by decide +kernel
theorem dX3_init_58 : decode cX3_init 58 = .ok (.iconst 0, 1) := by decide +kernel
theorem dX3_init_59 : decode cX3_init 59 = .ok (.putfield 31, 3) := by decide +kernel
theorem dX3_init_62 : decode cX3_init 62 = .ok (.return_, 1) := by decide +kernel
set_option maxRecDepth 20000 in
theorem ggX3_settle_X3_lift : GoodIn wsX3_settle wsX3_lift := goodIn_r _ [5, 6, 7, 8, 9, 10, 11, 12, 13, 14, 15, 16, 17, 18, 19, 20, 21, 22, 23, 75, 76, 77, 78, 79, 80, 81, 82, 83, 84, 85] (by decide +kernel) (by decide +kernel)
set_option maxRecDepth 20000 in
theorem gX3_settle_X3_lift : GoodIn wsX3_settle (wsV RX3 35 RX3 yX3_lift wsX3_lift) := goodIn_app (goodIn_of _ (by decide +kernel)) ggX3_settle_X3_lift
set_option maxRecDepth 20000 in
theorem ggX3_settle_X3_sink : GoodIn wsX3_settle wsX3_sink := goodIn_r _ [27, 6, 7, 28, 29, 30, 11, 31, 32, 33, 34, 35, 36, 37, 38, 39, 40, 41, 42, 43, 44, 45, 4, 46, 8, 9, 10, 12, 13, 14, 15, 16, 17, 18, 19, 75, 76, 77, 78, 79, 80, 81, 82, 83, 84, 85] (by decide +kernel) (by decide +kernel)
set_option maxRecDepth 20000 in
theorem gX3_settle_X3_sink : GoodIn wsX3_settle (wsV RX3 38 RX3 yX3_sink wsX3_sink) := goodIn_app (goodIn_of _ (by decide +kernel)) ggX3_settle_X3_sink
set_option maxRecDepth 20000 in
theorem ggX3_settle_X3_countLayers : GoodIn wsX3_settle wsX3_countLayers := goodIn_r _ [50, 51, 7, 52, 53, 54, 55, 75, 76, 77, 78, 79] (by decide +kernel) (by decide +kernel)
set_option maxRecDepth 20000 in
theorem gX3_settle_X3_countLayers : GoodIn wsX3_settle (wsV RX3 41 RX3 yX3_countLayers wsX3_countLayers) := goodIn_app (goodIn_of _ (by decide +kernel)) ggX3_settle_X3_countLayers
set_option maxRecDepth 20000 in
theorem ggX3_settle_X3_markEnds : GoodIn wsX3_settle wsX3_markEnds := goodIn_r _ [59, 60, 6, 61, 39, 40, 41, 11, 42, 32, 34, 33, 35, 36, 37, 38, 43, 44, 45, 4, 46, 7, 28, 29, 30, 31, 75, 76, 77, 78, 79, 80, 81, 82, 83, 84, 85] (by decide +kernel) (by decide +kernel)
set_option maxRecDepth 20000 in
theorem gX3_settle_X3_markEnds : GoodIn wsX3_settle (wsV RX3 44 RX3 yX3_markEnds wsX3_markEnds) := goodIn_app (goodIn_of _ (by decide +kernel)) ggX3_settle_X3_markEnds
set_option maxRecDepth 20000 in
theorem ggX3_settle_X3_pinsAgree : GoodIn wsX3_settle wsX3_pinsAgree := goodIn_r _ [65, 6, 66, 36, 37, 11, 38, 33, 67, 68, 69, 4, 70, 61, 71, 72, 73, 74, 60, 75, 76, 77, 78, 79, 80, 81, 82, 83, 84, 85] (by decide +kernel) (by decide +kernel)
set_option maxRecDepth 20000 in
theorem gX3_settle_X3_pinsAgree : GoodIn wsX3_settle (wsV RX3 47 RX3 yX3_pinsAgree wsX3_pinsAgree) := goodIn_app (goodIn_of _ (by decide +kernel)) ggX3_settle_X3_pinsAgree
theorem dX3_settle_0 : decode cX3_settle 0 = .ok (.aload_n 0, 1) := by decide +kernel
theorem dX3_settle_1 : decode cX3_settle 1 = .ok (.invokevirtual 35, 3) := by decide +kernel
theorem dX3_settle_4 : decode cX3_settle 4 = .ok (.iconst 0, 1) := by decide +kernel
theorem dX3_settle_5 : decode cX3_settle 5 = .ok (.istore_n 1, 1) := by decide +kernel
theorem dX3_settle_6 : decode cX3_settle 6 = .ok (.iload_n 1, 1) := by decide +kernel
theorem dX3_settle_7 : decode cX3_settle 7 = .ok (.bipush 16, 2) := by decide +kernel
theorem dX3_settle_9 : decode cX3_settle 9 = .ok (.if_icmp .ge 13, 3) := by decide +kernel
theorem dX3_settle_12 : decode cX3_settle 12 = .ok (.aload_n 0, 1) := by decide +kernel
theorem dX3_settle_13 : decode cX3_settle 13 = .ok (.invokevirtual 38, 3) := by decide +kernel
theorem dX3_settle_16 : decode cX3_settle 16 = .ok (.iinc 1 1, 3) := by decide +kernel
theorem dX3_settle_19 : decode cX3_settle 19 = .ok (.goto (-13), 3) := by decide +kernel
theorem dX3_settle_22 : decode cX3_settle 22 = .ok (.aload_n 0, 1) := by decide +kernel
theorem dX3_settle_23 : decode cX3_settle 23 = .ok (.invokevirtual 41, 3) := by decide +kernel
theorem dX3_settle_26 : decode cX3_settle 26 = .ok (.aload_n 0, 1) := by decide +kernel
theorem dX3_settle_27 : decode cX3_settle 27 = .ok (.invokevirtual 44, 3) := by decide +kernel
theorem dX3_settle_30 : decode cX3_settle 30 = .ok (.aload_n 0, 1) := by decide +kernel
theorem dX3_settle_31 : decode cX3_settle 31 = .ok (.invokevirtual 47, 3) := by decide +kernel
theorem dX3_settle_34 : decode cX3_settle 34 = .ok (.ireturn, 1) := by decide +kernel
theorem dX3_layers_0 : decode cX3_layers 0 = .ok (.aload_n 0, 1) := by decide +kernel
theorem dX3_layers_1 : decode cX3_layers 1 = .ok (.getfield 31, 3) := by decide +kernel
theorem dX3_layers_4 : decode cX3_layers 4 = .ok (.ireturn, 1) := by decide +kernel
theorem dX3_layerOf_0 : decode cX3_layerOf 0 = .ok (.iload_n 1, 1) := by decide +kernel
theorem dX3_layerOf_1 : decode cX3_layerOf 1 = .ok (.ifCond .lt 18, 3) := by decide +kernel
theorem dX3_layerOf_4 : decode cX3_layerOf 4 = .ok (.iload_n 1, 1) := by decide +kernel
theorem dX3_layerOf_5 : decode cX3_layerOf 5 = .ok (.bipush 16, 2) := by decide +kernel
theorem dX3_layerOf_7 : decode cX3_layerOf 7 = .ok (.if_icmp .ge 12, 3) := by decide +kernel
theorem dX3_layerOf_10 : decode cX3_layerOf 10 = .ok (.aload_n 0, 1) := by decide +kernel
theorem dX3_layerOf_11 : decode cX3_layerOf 11 = .ok (.getfield 9, 3) := by decide +kernel
theorem dX3_layerOf_14 : decode cX3_layerOf 14 = .ok (.iload_n 1, 1) := by decide +kernel
theorem dX3_layerOf_15 : decode cX3_layerOf 15 = .ok (.iaload, 1) := by decide +kernel
theorem dX3_layerOf_16 : decode cX3_layerOf 16 = .ok (.goto 4, 3) := by decide +kernel
theorem dX3_layerOf_19 : decode cX3_layerOf 19 = .ok (.iconst (-1), 1) := by decide +kernel
theorem dX3_layerOf_20 : decode cX3_layerOf 20 = .ok (.ireturn, 1) := by decide +kernel
theorem dX3_top_0 : decode cX3_top 0 = .ok (.iload_n 1, 1) := by decide +kernel
theorem dX3_top_1 : decode cX3_top 1 = .ok (.ifCond .lt 18, 3) := by decide +kernel
theorem dX3_top_4 : decode cX3_top 4 = .ok (.iload_n 1, 1) := by decide +kernel
theorem dX3_top_5 : decode cX3_top 5 = .ok (.bipush 24, 2) := by decide +kernel
theorem dX3_top_7 : decode cX3_top 7 = .ok (.if_icmp .ge 12, 3) := by decide +kernel
theorem dX3_top_10 : decode cX3_top 10 = .ok (.aload_n 0, 1) := by decide +kernel
theorem dX3_top_11 : decode cX3_top 11 = .ok (.getfield 15, 3) := by decide +kernel
theorem dX3_top_14 : decode cX3_top 14 = .ok (.iload_n 1, 1) := by decide +kernel
theorem dX3_top_15 : decode cX3_top 15 = .ok (.iaload, 1) := by decide +kernel
theorem dX3_top_16 : decode cX3_top 16 = .ok (.goto 4, 3) := by decide +kernel
theorem dX3_top_19 : decode cX3_top 19 = .ok (.iconst (-1), 1) := by decide +kernel
theorem dX3_top_20 : decode cX3_top 20 = .ok (.ireturn, 1) := by decide +kernel
theorem dX3_bottom_0 : decode cX3_bottom 0 = .ok (.iload_n 1, 1) := by decide +kernel
theorem dX3_bottom_1 : decode cX3_bottom 1 = .ok (.ifCond .lt 18, 3) := by decide +kernel
theorem dX3_bottom_4 : decode cX3_bottom 4 = .ok (.iload_n 1, 1) := by decide +kernel
theorem dX3_bottom_5 : decode cX3_bottom 5 = .ok (.bipush 24, 2) := by decide +kernel
theorem dX3_bottom_7 : decode cX3_bottom 7 = .ok (.if_icmp .ge 12, 3) := by decide +kernel
theorem dX3_bottom_10 : decode cX3_bottom 10 = .ok (.aload_n 0, 1) := by decide +kernel
theorem dX3_bottom_11 : decode cX3_bottom 11 = .ok (.getfield 18, 3) := by decide +kernel
theorem dX3_bottom_14 : decode cX3_bottom 14 = .ok (.iload_n 1, 1) := by decide +kernel
theorem dX3_bottom_15 : decode cX3_bottom 15 = .ok (.iaload, 1) := by decide +kernel
theorem dX3_bottom_16 : decode cX3_bottom 16 = .ok (.goto 4, 3) := by decide +kernel
theorem dX3_bottom_19 : decode cX3_bottom 19 = .ok (.iconst (-1), 1) := by decide +kernel
theorem dX3_bottom_20 : decode cX3_bottom 20 = .ok (.ireturn, 1) := by decide +kernel
set_option maxRecDepth 20000 in
theorem ggX3_hasPiece_X3_top : GoodIn wsX3_hasPiece wsX3_top := goodIn_r _ [5, 6, 12, 13, 14, 15, 16] (by decide +kernel) (by decide +kernel)
set_option maxRecDepth 20000 in
theorem gX3_hasPiece_X3_top : GoodIn wsX3_hasPiece (wsV RX3 51 RX3 yX3_top wsX3_top) := goodIn_app (goodIn_of _ (by decide +kernel)) ggX3_hasPiece_X3_top
set_option maxRecDepth 20000 in
theorem ggX3_hasPiece_X3_bottom : GoodIn wsX3_hasPiece wsX3_bottom := goodIn_r _ [10, 11, 12, 13, 14, 15, 16] (by decide +kernel) (by decide +kernel)
set_option maxRecDepth 20000 in
theorem gX3_hasPiece_X3_bottom : GoodIn wsX3_hasPiece (wsV RX3 55 RX3 yX3_bottom wsX3_bottom) := goodIn_app (goodIn_of _ (by decide +kernel)) ggX3_hasPiece_X3_bottom
theorem dX3_hasPiece_0 : decode cX3_hasPiece 0 = .ok (.iload_n 2, 1) := by decide +kernel
theorem dX3_hasPiece_1 : decode cX3_hasPiece 1 = .ok (.aload_n 0, 1) := by decide +kernel
theorem dX3_hasPiece_2 : decode cX3_hasPiece 2 = .ok (.iload_n 1, 1) := by decide +kernel
theorem dX3_hasPiece_3 : decode cX3_hasPiece 3 = .ok (.invokevirtual 51, 3) := by decide +kernel
theorem dX3_hasPiece_6 : decode cX3_hasPiece 6 = .ok (.if_icmp .lt 16, 3) := by decide +kernel
theorem dX3_hasPiece_9 : decode cX3_hasPiece 9 = .ok (.iload_n 2, 1) := by decide +kernel
theorem dX3_hasPiece_10 : decode cX3_hasPiece 10 = .ok (.aload_n 0, 1) := by decide +kernel
theorem dX3_hasPiece_11 : decode cX3_hasPiece 11 = .ok (.iload_n 1, 1) := by decide +kernel
theorem dX3_hasPiece_12 : decode cX3_hasPiece 12 = .ok (.invokevirtual 55, 3) := by decide +kernel
theorem dX3_hasPiece_15 : decode cX3_hasPiece 15 = .ok (.if_icmp .ge 7, 3) := by decide +kernel
theorem dX3_hasPiece_18 : decode cX3_hasPiece 18 = .ok (.iconst 1, 1) := by decide +kernel
theorem dX3_hasPiece_19 : decode cX3_hasPiece 19 = .ok (.goto 4, 3) := by decide +kernel
theorem dX3_hasPiece_22 : decode cX3_hasPiece 22 = .ok (.iconst 0, 1) := by decide +kernel
theorem dX3_hasPiece_23 : decode cX3_hasPiece 23 = .ok (.ireturn, 1) := by decide +kernel
set_option maxRecDepth 20000 in
theorem ggX3_itemOf_X3_top : GoodIn wsX3_itemOf wsX3_top := goodIn_r _ [6, 7, 29, 30, 31, 32, 33] (by decide +kernel) (by decide +kernel)
set_option maxRecDepth 20000 in
theorem gX3_itemOf_X3_top : GoodIn wsX3_itemOf (wsV RX3 51 RX3 yX3_top wsX3_top) := goodIn_app (goodIn_of _ (by decide +kernel)) ggX3_itemOf_X3_top
set_option maxRecDepth 20000 in
theorem ggX3_itemOf_X7_upperBox : GoodIn wsX3_itemOf wsX7_upperBox := goodIn_r _ [12, 13, 14, 15, 16, 17, 18, 11, 19, 34, 35, 36, 37, 38, 39] (by decide +kernel) (by decide +kernel)
set_option maxRecDepth 20000 in
theorem gX3_itemOf_X7_upperBox : GoodIn wsX3_itemOf (wsV RX3 58 RX7 yX7_upperBox wsX7_upperBox) := goodIn_app (goodIn_of _ (by decide +kernel)) ggX3_itemOf_X7_upperBox
set_option maxRecDepth 20000 in
theorem ggX3_itemOf_X3_bottom : GoodIn wsX3_itemOf wsX3_bottom := goodIn_r _ [23, 24, 29, 30, 31, 32, 33] (by decide +kernel) (by decide +kernel)
set_option maxRecDepth 20000 in
theorem gX3_itemOf_X3_bottom : GoodIn wsX3_itemOf (wsV RX3 55 RX3 yX3_bottom wsX3_bottom) := goodIn_app (goodIn_of _ (by decide +kernel)) ggX3_itemOf_X3_bottom
set_option maxRecDepth 20000 in
theorem ggX3_itemOf_X7_lowerBox : GoodIn wsX3_itemOf wsX7_lowerBox := goodIn_r _ [28, 13, 15, 14, 16, 17, 18, 11, 19, 34, 35, 36, 37, 38, 39] (by decide +kernel) (by decide +kernel)
set_option maxRecDepth 20000 in
theorem gX3_itemOf_X7_lowerBox : GoodIn wsX3_itemOf (wsV RX3 63 RX7 yX7_lowerBox wsX7_lowerBox) := goodIn_app (goodIn_of _ (by decide +kernel)) ggX3_itemOf_X7_lowerBox
theorem dX3_itemOf_0 : decode cX3_itemOf 0 = .ok (.iload_n 2, 1) := by decide +kernel
theorem dX3_itemOf_1 : decode cX3_itemOf 1 = .ok (.aload_n 0, 1) := by decide +kernel
theorem dX3_itemOf_2 : decode cX3_itemOf 2 = .ok (.iload_n 1, 1) := by decide +kernel
theorem dX3_itemOf_3 : decode cX3_itemOf 3 = .ok (.invokevirtual 51, 3) := by decide +kernel
theorem dX3_itemOf_6 : decode cX3_itemOf 6 = .ok (.if_icmp .ne 12, 3) := by decide +kernel
theorem dX3_itemOf_9 : decode cX3_itemOf 9 = .ok (.aload_n 0, 1) := by decide +kernel
theorem dX3_itemOf_10 : decode cX3_itemOf 10 = .ok (.getfield 21, 3) := by decide +kernel
theorem dX3_itemOf_13 : decode cX3_itemOf 13 = .ok (.iload_n 1, 1) := by decide +kernel
theorem dX3_itemOf_14 : decode cX3_itemOf 14 = .ok (.invokevirtual 58, 3) := by decide +kernel
theorem dX3_itemOf_17 : decode cX3_itemOf 17 = .ok (.ireturn, 1) := by decide +kernel
theorem dX3_itemOf_18 : decode cX3_itemOf 18 = .ok (.iload_n 2, 1) := by decide +kernel
theorem dX3_itemOf_19 : decode cX3_itemOf 19 = .ok (.aload_n 0, 1) := by decide +kernel
theorem dX3_itemOf_20 : decode cX3_itemOf 20 = .ok (.iload_n 1, 1) := by decide +kernel
theorem dX3_itemOf_21 : decode cX3_itemOf 21 = .ok (.invokevirtual 55, 3) := by decide +kernel
theorem dX3_itemOf_24 : decode cX3_itemOf 24 = .ok (.if_icmp .ne 14, 3) := by decide +kernel
theorem dX3_itemOf_27 : decode cX3_itemOf 27 = .ok (.aload_n 0, 1) := by decide +kernel
theorem dX3_itemOf_28 : decode cX3_itemOf 28 = .ok (.getfield 21, 3) := by decide +kernel
theorem dX3_itemOf_31 : decode cX3_itemOf 31 = .ok (.iload_n 1, 1) := by decide +kernel
theorem dX3_itemOf_32 : decode cX3_itemOf 32 = .ok (.invokevirtual 63, 3) := by decide +kernel
theorem dX3_itemOf_35 : decode cX3_itemOf 35 = .ok (.goto 7, 3) := by decide +kernel
theorem dX3_itemOf_38 : decode cX3_itemOf 38 = .ok (.bipush 16, 2) := by decide +kernel
theorem dX3_itemOf_40 : decode cX3_itemOf 40 = .ok (.iload_n 1, 1) := by decide +kernel
theorem dX3_itemOf_41 : decode cX3_itemOf 41 = .ok (.iadd, 1) := by decide +kernel
theorem dX3_itemOf_42 : decode cX3_itemOf 42 = .ok (.ireturn, 1) := by decide +kernel
set_option maxRecDepth 20000 in
theorem ggX3_holds_X7_hasBox : GoodIn wsX3_holds wsX7_hasBox := goodIn_r _ [6, 7, 29, 30, 31, 32, 33, 34] (by decide +kernel) (by decide +kernel)
set_option maxRecDepth 20000 in
theorem gX3_holds_X7_hasBox : GoodIn wsX3_holds (wsV RX3 66 RX7 yX7_hasBox wsX7_hasBox) := goodIn_app (goodIn_of _ (by decide +kernel)) ggX3_holds_X7_hasBox
set_option maxRecDepth 20000 in
theorem ggX3_holds_X3_layerOf : GoodIn wsX3_holds wsX3_layerOf := goodIn_r _ [12, 13, 24, 25, 26, 27, 28] (by decide +kernel) (by decide +kernel)
set_option maxRecDepth 20000 in
theorem gX3_holds_X3_layerOf : GoodIn wsX3_holds (wsV RX3 70 RX3 yX3_layerOf wsX3_layerOf) := goodIn_app (goodIn_of _ (by decide +kernel)) ggX3_holds_X3_layerOf
set_option maxRecDepth 20000 in
theorem ggX3_holds_X3_top : GoodIn wsX3_holds wsX3_top := goodIn_r _ [17, 18, 24, 25, 26, 27, 28] (by decide +kernel) (by decide +kernel)
set_option maxRecDepth 20000 in
theorem gX3_holds_X3_top : GoodIn wsX3_holds (wsV RX3 51 RX3 yX3_top wsX3_top) := goodIn_app (goodIn_of _ (by decide +kernel)) ggX3_holds_X3_top
set_option maxRecDepth 20000 in
theorem ggX3_holds_X3_bottom : GoodIn wsX3_holds wsX3_bottom := goodIn_r _ [22, 23, 24, 25, 26, 27, 28] (by decide +kernel) (by decide +kernel)
set_option maxRecDepth 20000 in
theorem gX3_holds_X3_bottom : GoodIn wsX3_holds (wsV RX3 55 RX3 yX3_bottom wsX3_bottom) := goodIn_app (goodIn_of _ (by decide +kernel)) ggX3_holds_X3_bottom
theorem dX3_holds_0 : decode cX3_holds 0 = .ok (.iload_n 2, 1) := by decide +kernel
theorem dX3_holds_1 : decode cX3_holds 1 = .ok (.bipush 16, 2) := by decide +kernel
theorem dX3_holds_3 : decode cX3_holds 3 = .ok (.if_icmp .ge 29, 3) := by decide +kernel
theorem dX3_holds_6 : decode cX3_holds 6 = .ok (.aload_n 0, 1) := by decide +kernel
theorem dX3_holds_7 : decode cX3_holds 7 = .ok (.getfield 21, 3) := by decide +kernel
theorem dX3_holds_10 : decode cX3_holds 10 = .ok (.iload_n 2, 1) := by decide +kernel
theorem dX3_holds_11 : decode cX3_holds 11 = .ok (.invokevirtual 66, 3) := by decide +kernel
theorem dX3_holds_14 : decode cX3_holds 14 = .ok (.ifCond .eq 16, 3) := by decide +kernel
theorem dX3_holds_17 : decode cX3_holds 17 = .ok (.aload_n 0, 1) := by decide +kernel
theorem dX3_holds_18 : decode cX3_holds 18 = .ok (.iload_n 2, 1) := by decide +kernel
theorem dX3_holds_19 : decode cX3_holds 19 = .ok (.invokevirtual 70, 3) := by decide +kernel
theorem dX3_holds_22 : decode cX3_holds 22 = .ok (.iload_n 1, 1) := by decide +kernel
theorem dX3_holds_23 : decode cX3_holds 23 = .ok (.if_icmp .ne 7, 3) := by decide +kernel
theorem dX3_holds_26 : decode cX3_holds 26 = .ok (.iconst 1, 1) := by decide +kernel
theorem dX3_holds_27 : decode cX3_holds 27 = .ok (.goto 4, 3) := by decide +kernel
theorem dX3_holds_30 : decode cX3_holds 30 = .ok (.iconst 0, 1) := by decide +kernel
theorem dX3_holds_31 : decode cX3_holds 31 = .ok (.ireturn, 1) := by decide +kernel
theorem dX3_holds_32 : decode cX3_holds 32 = .ok (.iload_n 2, 1) := by decide +kernel
theorem dX3_holds_33 : decode cX3_holds 33 = .ok (.bipush 16, 2) := by decide +kernel
theorem dX3_holds_35 : decode cX3_holds 35 = .ok (.isub, 1) := by decide +kernel
theorem dX3_holds_36 : decode cX3_holds 36 = .ok (.istore_n 3, 1) := by decide +kernel
theorem dX3_holds_37 : decode cX3_holds 37 = .ok (.iload_n 1, 1) := by decide +kernel
theorem dX3_holds_38 : decode cX3_holds 38 = .ok (.aload_n 0, 1) := by decide +kernel
theorem dX3_holds_39 : decode cX3_holds 39 = .ok (.iload_n 3, 1) := by decide +kernel
theorem dX3_holds_40 : decode cX3_holds 40 = .ok (.invokevirtual 51, 3) := by decide +kernel
theorem dX3_holds_43 : decode cX3_holds 43 = .ok (.if_icmp .le 16, 3) := by decide +kernel
theorem dX3_holds_46 : decode cX3_holds 46 = .ok (.iload_n 1, 1) := by decide +kernel
theorem dX3_holds_47 : decode cX3_holds 47 = .ok (.aload_n 0, 1) := by decide +kernel
theorem dX3_holds_48 : decode cX3_holds 48 = .ok (.iload_n 3, 1) := by decide +kernel
theorem dX3_holds_49 : decode cX3_holds 49 = .ok (.invokevirtual 55, 3) := by decide +kernel
theorem dX3_holds_52 : decode cX3_holds 52 = .ok (.if_icmp .ge 7, 3) := by decide +kernel
theorem dX3_holds_55 : decode cX3_holds 55 = .ok (.iconst 1, 1) := by decide +kernel
theorem dX3_holds_56 : decode cX3_holds 56 = .ok (.goto 4, 3) := by decide +kernel
theorem dX3_holds_59 : decode cX3_holds 59 = .ok (.iconst 0, 1) := by decide +kernel
theorem dX3_holds_60 : decode cX3_holds 60 = .ok (.ireturn, 1) := by decide +kernel
set_option maxRecDepth 20000 in
theorem ggX3_lift_X7_hasBox : GoodIn wsX3_lift wsX7_hasBox := goodIn_r _ [7, 8, 24, 25, 26, 27, 28, 29] (by decide +kernel) (by decide +kernel)
set_option maxRecDepth 20000 in
theorem gX3_lift_X7_hasBox : GoodIn wsX3_lift (wsV RX3 66 RX7 yX7_hasBox wsX7_hasBox) := goodIn_app (goodIn_of _ (by decide +kernel)) ggX3_lift_X7_hasBox
set_option maxRecDepth 20000 in
theorem ggX3_lift_X7_isPinned : GoodIn wsX3_lift wsX7_isPinned := goodIn_r _ [12, 13, 14, 4, 5, 6, 7, 8, 24, 25, 26, 27, 28, 29] (by decide +kernel) (by decide +kernel)
set_option maxRecDepth 20000 in
theorem gX3_lift_X7_isPinned : GoodIn wsX3_lift (wsV RX3 73 RX7 yX7_isPinned wsX7_isPinned) := goodIn_app (goodIn_of _ (by decide +kernel)) ggX3_lift_X7_isPinned
set_option maxRecDepth 20000 in
theorem ggX3_lift_X7_pinOf : GoodIn wsX3_lift wsX7_pinOf := goodIn_r _ [18, 13, 14, 4, 5, 6, 7, 8, 24, 25, 26, 27, 28, 29] (by decide +kernel) (by decide +kernel)
set_option maxRecDepth 20000 in
theorem gX3_lift_X7_pinOf : GoodIn wsX3_lift (wsV RX3 76 RX7 yX7_pinOf wsX7_pinOf) := goodIn_app (goodIn_of _ (by decide +kernel)) ggX3_lift_X7_pinOf
theorem dX3_lift_0 : decode cX3_lift 0 = .ok (.iconst 0, 1) := by decide +kernel
theorem dX3_lift_1 : decode cX3_lift 1 = .ok (.istore_n 1, 1) := by decide +kernel
theorem dX3_lift_2 : decode cX3_lift 2 = .ok (.iload_n 1, 1) := by decide +kernel
theorem dX3_lift_3 : decode cX3_lift 3 = .ok (.bipush 16, 2) := by decide +kernel
theorem dX3_lift_5 : decode cX3_lift 5 = .ok (.if_icmp .ge 55, 3) := by decide +kernel
theorem dX3_lift_8 : decode cX3_lift 8 = .ok (.aload_n 0, 1) := by decide +kernel
theorem dX3_lift_9 : decode cX3_lift 9 = .ok (.getfield 21, 3) := by decide +kernel
theorem dX3_lift_12 : decode cX3_lift 12 = .ok (.iload_n 1, 1) := by decide +kernel
theorem dX3_lift_13 : decode cX3_lift 13 = .ok (.invokevirtual 66, 3) := by decide +kernel
theorem dX3_lift_16 : decode cX3_lift 16 = .ok (.ifCond .eq 7, 3) := by decide +kernel
theorem dX3_lift_19 : decode cX3_lift 19 = .ok (.iconst 0, 1) := by decide +kernel
theorem dX3_lift_20 : decode cX3_lift 20 = .ok (.goto 4, 3) := by decide +kernel
theorem dX3_lift_23 : decode cX3_lift 23 = .ok (.iconst (-1), 1) := by decide +kernel
theorem dX3_lift_24 : decode cX3_lift 24 = .ok (.istore_n 2, 1) := by decide +kernel
theorem dX3_lift_25 : decode cX3_lift 25 = .ok (.aload_n 0, 1) := by decide +kernel
theorem dX3_lift_26 : decode cX3_lift 26 = .ok (.getfield 9, 3) := by decide +kernel
theorem dX3_lift_29 : decode cX3_lift 29 = .ok (.iload_n 1, 1) := by decide +kernel
theorem dX3_lift_30 : decode cX3_lift 30 = .ok (.aload_n 0, 1) := by decide +kernel
theorem dX3_lift_31 : decode cX3_lift 31 = .ok (.getfield 21, 3) := by decide +kernel
theorem dX3_lift_34 : decode cX3_lift 34 = .ok (.iload_n 1, 1) := by decide +kernel
theorem dX3_lift_35 : decode cX3_lift 35 = .ok (.invokevirtual 73, 3) := by decide +kernel
theorem dX3_lift_38 : decode cX3_lift 38 = .ok (.ifCond .eq 14, 3) := by decide +kernel
theorem dX3_lift_41 : decode cX3_lift 41 = .ok (.aload_n 0, 1) := by decide +kernel
theorem dX3_lift_42 : decode cX3_lift 42 = .ok (.getfield 21, 3) := by decide +kernel
theorem dX3_lift_45 : decode cX3_lift 45 = .ok (.iload_n 1, 1) := by decide +kernel
theorem dX3_lift_46 : decode cX3_lift 46 = .ok (.invokevirtual 76, 3) := by decide +kernel
theorem dX3_lift_49 : decode cX3_lift 49 = .ok (.goto 4, 3) := by decide +kernel
theorem dX3_lift_52 : decode cX3_lift 52 = .ok (.iload_n 2, 1) := by decide +kernel
theorem dX3_lift_53 : decode cX3_lift 53 = .ok (.iastore, 1) := by decide +kernel
theorem dX3_lift_54 : decode cX3_lift 54 = .ok (.iinc 1 1, 3) := by decide +kernel
theorem dX3_lift_57 : decode cX3_lift 57 = .ok (.goto (-55), 3) := by decide +kernel
theorem dX3_lift_60 : decode cX3_lift 60 = .ok (.return_, 1) := by decide +kernel
set_option maxRecDepth 20000 in
theorem ggX3_sink_X7_lowerBox : GoodIn wsX3_sink wsX7_lowerBox := goodIn_r _ [7, 8, 9, 10, 11, 12, 13, 6, 14, 40, 41, 42, 43, 44, 45] (by decide +kernel) (by decide +kernel)
set_option maxRecDepth 20000 in
theorem gX3_sink_X7_lowerBox : GoodIn wsX3_sink (wsV RX3 63 RX7 yX7_lowerBox wsX7_lowerBox) := goodIn_app (goodIn_of _ (by decide +kernel)) ggX3_sink_X7_lowerBox
set_option maxRecDepth 20000 in
theorem ggX3_sink_X7_upperBox : GoodIn wsX3_sink wsX7_upperBox := goodIn_r _ [18, 8, 10, 9, 11, 12, 13, 6, 14, 40, 41, 42, 43, 44, 45] (by decide +kernel) (by decide +kernel)
set_option maxRecDepth 20000 in
theorem gX3_sink_X7_upperBox : GoodIn wsX3_sink (wsV RX3 58 RX7 yX7_upperBox wsX7_upperBox) := goodIn_app (goodIn_of _ (by decide +kernel)) ggX3_sink_X7_upperBox
set_option maxRecDepth 20000 in
theorem ggX3_sink_X3_layerOf : GoodIn wsX3_sink wsX3_layerOf := goodIn_r _ [23, 2, 35, 36, 37, 38, 39] (by decide +kernel) (by decide +kernel)
set_option maxRecDepth 20000 in
theorem gX3_sink_X3_layerOf : GoodIn wsX3_sink (wsV RX3 70 RX3 yX3_layerOf wsX3_layerOf) := goodIn_app (goodIn_of _ (by decide +kernel)) ggX3_sink_X3_layerOf
set_option maxRecDepth 20000 in
theorem ggX3_sink_X7_hasBox : GoodIn wsX3_sink wsX7_hasBox := goodIn_r _ [27, 28, 40, 41, 42, 43, 44, 45] (by decide +kernel) (by decide +kernel)
set_option maxRecDepth 20000 in
theorem gX3_sink_X7_hasBox : GoodIn wsX3_sink (wsV RX3 66 RX7 yX7_hasBox wsX7_hasBox) := goodIn_app (goodIn_of _ (by decide +kernel)) ggX3_sink_X7_hasBox
set_option maxRecDepth 20000 in
theorem ggX3_sink_X7_isPinned : GoodIn wsX3_sink wsX7_isPinned := goodIn_r _ [32, 33, 34, 25, 26, 6, 27, 28, 40, 41, 42, 43, 44, 45] (by decide +kernel) (by decide +kernel)
set_option maxRecDepth 20000 in
theorem gX3_sink_X7_isPinned : GoodIn wsX3_sink (wsV RX3 73 RX7 yX7_isPinned wsX7_isPinned) := goodIn_app (goodIn_of _ (by decide +kernel)) ggX3_sink_X7_isPinned
theorem dX3_sink_0 : decode cX3_sink 0 = .ok (.iconst 0, 1) := by decide +kernel
theorem dX3_sink_1 : decode cX3_sink 1 = .ok (.istore_n 1, 1) := by decide +kernel
theorem dX3_sink_2 : decode cX3_sink 2 = .ok (.iload_n 1, 1) := by decide +kernel
theorem dX3_sink_3 : decode cX3_sink 3 = .ok (.bipush 24, 2) := by decide +kernel
theorem dX3_sink_5 : decode cX3_sink 5 = .ok (.if_icmp .ge 90, 3) := by decide +kernel
theorem dX3_sink_8 : decode cX3_sink 8 = .ok (.aload_n 0, 1) := by decide +kernel
theorem dX3_sink_9 : decode cX3_sink 9 = .ok (.getfield 21, 3) := by decide +kernel
theorem dX3_sink_12 : decode cX3_sink 12 = .ok (.iload_n 1, 1) := by decide +kernel
theorem dX3_sink_13 : decode cX3_sink 13 = .ok (.invokevirtual 63, 3) := by decide +kernel
theorem dX3_sink_16 : decode cX3_sink 16 = .ok (.istore_n 2, 1) := by decide +kernel
theorem dX3_sink_17 : decode cX3_sink 17 = .ok (.aload_n 0, 1) := by decide +kernel
theorem dX3_sink_18 : decode cX3_sink 18 = .ok (.aload_n 0, 1) := by decide +kernel
theorem dX3_sink_19 : decode cX3_sink 19 = .ok (.getfield 21, 3) := by decide +kernel
theorem dX3_sink_22 : decode cX3_sink 22 = .ok (.iload_n 1, 1) := by decide +kernel
theorem dX3_sink_23 : decode cX3_sink 23 = .ok (.invokevirtual 58, 3) := by decide +kernel
theorem dX3_sink_26 : decode cX3_sink 26 = .ok (.invokevirtual 70, 3) := by decide +kernel
theorem dX3_sink_29 : decode cX3_sink 29 = .ok (.iconst 1, 1) := by decide +kernel
theorem dX3_sink_30 : decode cX3_sink 30 = .ok (.iadd, 1) := by decide +kernel
theorem dX3_sink_31 : decode cX3_sink 31 = .ok (.istore_n 3, 1) := by decide +kernel
theorem dX3_sink_32 : decode cX3_sink 32 = .ok (.aload_n 0, 1) := by decide +kernel
theorem dX3_sink_33 : decode cX3_sink 33 = .ok (.getfield 21, 3) := by decide +kernel
theorem dX3_sink_36 : decode cX3_sink 36 = .ok (.iload_n 2, 1) := by decide +kernel
theorem dX3_sink_37 : decode cX3_sink 37 = .ok (.invokevirtual 66, 3) := by decide +kernel
theorem dX3_sink_40 : decode cX3_sink 40 = .ok (.ifCond .eq 18, 3) := by decide +kernel
theorem dX3_sink_43 : decode cX3_sink 43 = .ok (.aload_n 0, 1) := by decide +kernel
theorem dX3_sink_44 : decode cX3_sink 44 = .ok (.getfield 21, 3) := by decide +kernel
theorem dX3_sink_47 : decode cX3_sink 47 = .ok (.iload_n 2, 1) := by decide +kernel
theorem dX3_sink_48 : decode cX3_sink 48 = .ok (.invokevirtual 73, 3) := by decide +kernel
theorem dX3_sink_51 : decode cX3_sink 51 = .ok (.ifCond .ne 7, 3) := by decide +kernel
theorem dX3_sink_54 : decode cX3_sink 54 = .ok (.iconst 1, 1) := by decide +kernel
theorem dX3_sink_55 : decode cX3_sink 55 = .ok (.goto 4, 3) := by decide +kernel
theorem dX3_sink_58 : decode cX3_sink 58 = .ok (.iconst 0, 1) := by decide +kernel
theorem dX3_sink_59 : decode cX3_sink 59 = .ok (.istore 4, 2) := by decide +kernel
theorem dX3_sink_61 : decode cX3_sink 61 = .ok (.iload 4, 2) := by decide +kernel
theorem dX3_sink_63 : decode cX3_sink 63 = .ok (.ifCond .eq 26, 3) := by decide +kernel
theorem dX3_sink_66 : decode cX3_sink 66 = .ok (.aload_n 0, 1) := by decide +kernel
theorem dX3_sink_67 : decode cX3_sink 67 = .ok (.getfield 9, 3) := by decide +kernel
theorem dX3_sink_70 : decode cX3_sink 70 = .ok (.iload_n 2, 1) := by decide +kernel
theorem dX3_sink_71 : decode cX3_sink 71 = .ok (.iaload, 1) := by decide +kernel
theorem dX3_sink_72 : decode cX3_sink 72 = .ok (.iload_n 3, 1) := by decide +kernel
theorem dX3_sink_73 : decode cX3_sink 73 = .ok (.if_icmp .ge 16, 3) := by decide +kernel
theorem dX3_sink_76 : decode cX3_sink 76 = .ok (.iload_n 3, 1) := by decide +kernel
theorem dX3_sink_77 : decode cX3_sink 77 = .ok (.bipush 24, 2) := by decide +kernel
theorem dX3_sink_79 : decode cX3_sink 79 = .ok (.if_icmp .ge 10, 3) := by decide +kernel
theorem dX3_sink_82 : decode cX3_sink 82 = .ok (.aload_n 0, 1) := by decide +kernel
theorem dX3_sink_83 : decode cX3_sink 83 = .ok (.getfield 9, 3) := by decide +kernel
theorem dX3_sink_86 : decode cX3_sink 86 = .ok (.iload_n 2, 1) := by decide +kernel
theorem dX3_sink_87 : decode cX3_sink 87 = .ok (.iload_n 3, 1) := by decide +kernel
theorem dX3_sink_88 : decode cX3_sink 88 = .ok (.iastore, 1) := by decide +kernel
theorem dX3_sink_89 : decode cX3_sink 89 = .ok (.iinc 1 1, 3) := by decide +kernel
theorem dX3_sink_92 : decode cX3_sink 92 = .ok (.goto (-90), 3) := by decide +kernel
theorem dX3_sink_95 : decode cX3_sink 95 = .ok (.return_, 1) := by decide +kernel
theorem dX3_countLayers_0 : decode cX3_countLayers 0 = .ok (.aload_n 0, 1) := by decide +kernel
theorem dX3_countLayers_1 : decode cX3_countLayers 1 = .ok (.iconst 0, 1) := by decide +kernel
theorem dX3_countLayers_2 : decode cX3_countLayers 2 = .ok (.putfield 31, 3) := by decide +kernel
theorem dX3_countLayers_5 : decode cX3_countLayers 5 = .ok (.iconst 0, 1) := by decide +kernel
theorem dX3_countLayers_6 : decode cX3_countLayers 6 = .ok (.istore_n 1, 1) := by decide +kernel
theorem dX3_countLayers_7 : decode cX3_countLayers 7 = .ok (.iload_n 1, 1) := by decide +kernel
theorem dX3_countLayers_8 : decode cX3_countLayers 8 = .ok (.bipush 16, 2) := by decide +kernel
theorem dX3_countLayers_10 : decode cX3_countLayers 10 = .ok (.if_icmp .ge 28, 3) := by decide +kernel
theorem dX3_countLayers_13 : decode cX3_countLayers 13 = .ok (.aload_n 0, 1) := by decide +kernel
theorem dX3_countLayers_14 : decode cX3_countLayers 14 = .ok (.aload_n 0, 1) := by decide +kernel
theorem dX3_countLayers_15 : decode cX3_countLayers 15 = .ok (.getfield 31, 3) := by decide +kernel
theorem dX3_countLayers_18 : decode cX3_countLayers 18 = .ok (.aload_n 0, 1) := by decide +kernel
theorem dX3_countLayers_19 : decode cX3_countLayers 19 = .ok (.getfield 9, 3) := by decide +kernel
theorem dX3_countLayers_22 : decode cX3_countLayers 22 = .ok (.iload_n 1, 1) := by decide +kernel
theorem dX3_countLayers_23 : decode cX3_countLayers 23 = .ok (.iaload, 1) := by decide +kernel
theorem dX3_countLayers_24 : decode cX3_countLayers 24 = .ok (.iconst 1, 1) := by decide +kernel
theorem dX3_countLayers_25 : decode cX3_countLayers 25 = .ok (.iadd, 1) := by decide +kernel
theorem dX3_countLayers_26 : decode cX3_countLayers 26 = .ok (.invokestatic 79, 3) := by decide +kernel
theorem dX3_countLayers_29 : decode cX3_countLayers 29 = .ok (.putfield 31, 3) := by decide +kernel
theorem dX3_countLayers_32 : decode cX3_countLayers 32 = .ok (.iinc 1 1, 3) := by decide +kernel
theorem dX3_countLayers_35 : decode cX3_countLayers 35 = .ok (.goto (-28), 3) := by decide +kernel
theorem dX3_countLayers_38 : decode cX3_countLayers 38 = .ok (.return_, 1) := by decide +kernel
set_option maxRecDepth 20000 in
theorem ggX3_markEnds_X7_upperBox : GoodIn wsX3_markEnds wsX7_upperBox := goodIn_r _ [8, 9, 10, 11, 12, 13, 14, 7, 15, 31, 32, 33, 34, 35, 36] (by decide +kernel) (by decide +kernel)
set_option maxRecDepth 20000 in
theorem gX3_markEnds_X7_upperBox : GoodIn wsX3_markEnds (wsV RX3 58 RX7 yX7_upperBox wsX7_upperBox) := goodIn_app (goodIn_of _ (by decide +kernel)) ggX3_markEnds_X7_upperBox
set_option maxRecDepth 20000 in
theorem ggX3_markEnds_X3_layerOf : GoodIn wsX3_markEnds wsX3_layerOf := goodIn_r _ [20, 21, 26, 27, 28, 29, 30] (by decide +kernel) (by decide +kernel)
set_option maxRecDepth 20000 in
theorem gX3_markEnds_X3_layerOf : GoodIn wsX3_markEnds (wsV RX3 70 RX3 yX3_layerOf wsX3_layerOf) := goodIn_app (goodIn_of _ (by decide +kernel)) ggX3_markEnds_X3_layerOf
set_option maxRecDepth 20000 in
theorem ggX3_markEnds_X7_lowerBox : GoodIn wsX3_markEnds wsX7_lowerBox := goodIn_r _ [25, 9, 11, 10, 12, 13, 14, 7, 15, 31, 32, 33, 34, 35, 36] (by decide +kernel) (by decide +kernel)
set_option maxRecDepth 20000 in
theorem gX3_markEnds_X7_lowerBox : GoodIn wsX3_markEnds (wsV RX3 63 RX7 yX7_lowerBox wsX7_lowerBox) := goodIn_app (goodIn_of _ (by decide +kernel)) ggX3_markEnds_X7_lowerBox
theorem dX3_markEnds_0 : decode cX3_markEnds 0 = .ok (.iconst 0, 1) := by decide +kernel
theorem dX3_markEnds_1 : decode cX3_markEnds 1 = .ok (.istore_n 1, 1) := by decide +kernel
theorem dX3_markEnds_2 : decode cX3_markEnds 2 = .ok (.iload_n 1, 1) := by decide +kernel
theorem dX3_markEnds_3 : decode cX3_markEnds 3 = .ok (.bipush 24, 2) := by decide +kernel
theorem dX3_markEnds_5 : decode cX3_markEnds 5 = .ok (.if_icmp .ge 45, 3) := by decide +kernel
theorem dX3_markEnds_8 : decode cX3_markEnds 8 = .ok (.aload_n 0, 1) := by decide +kernel
theorem dX3_markEnds_9 : decode cX3_markEnds 9 = .ok (.getfield 15, 3) := by decide +kernel
theorem dX3_markEnds_12 : decode cX3_markEnds 12 = .ok (.iload_n 1, 1) := by decide +kernel
theorem dX3_markEnds_13 : decode cX3_markEnds 13 = .ok (.aload_n 0, 1) := by decide +kernel
theorem dX3_markEnds_14 : decode cX3_markEnds 14 = .ok (.aload_n 0, 1) := by decide +kernel
theorem dX3_markEnds_15 : decode cX3_markEnds 15 = .ok (.getfield 21, 3) := by decide +kernel
theorem dX3_markEnds_18 : decode cX3_markEnds 18 = .ok (.iload_n 1, 1) := by decide +kernel
theorem dX3_markEnds_19 : decode cX3_markEnds 19 = .ok (.invokevirtual 58, 3) := by decide +kernel
theorem dX3_markEnds_22 : decode cX3_markEnds 22 = .ok (.invokevirtual 70, 3) := by decide +kernel
theorem dX3_markEnds_25 : decode cX3_markEnds 25 = .ok (.iastore, 1) := by decide +kernel
theorem dX3_markEnds_26 : decode cX3_markEnds 26 = .ok (.aload_n 0, 1) := by decide +kernel
theorem dX3_markEnds_27 : decode cX3_markEnds 27 = .ok (.getfield 18, 3) := by decide +kernel
theorem dX3_markEnds_30 : decode cX3_markEnds 30 = .ok (.iload_n 1, 1) := by decide +kernel
theorem dX3_markEnds_31 : decode cX3_markEnds 31 = .ok (.aload_n 0, 1) := by decide +kernel
theorem dX3_markEnds_32 : decode cX3_markEnds 32 = .ok (.aload_n 0, 1) := by decide +kernel
theorem dX3_markEnds_33 : decode cX3_markEnds 33 = .ok (.getfield 21, 3) := by decide +kernel
theorem dX3_markEnds_36 : decode cX3_markEnds 36 = .ok (.iload_n 1, 1) := by decide +kernel
theorem dX3_markEnds_37 : decode cX3_markEnds 37 = .ok (.invokevirtual 63, 3) := by decide +kernel
theorem dX3_markEnds_40 : decode cX3_markEnds 40 = .ok (.invokevirtual 70, 3) := by decide +kernel
theorem dX3_markEnds_43 : decode cX3_markEnds 43 = .ok (.iastore, 1) := by decide +kernel
theorem dX3_markEnds_44 : decode cX3_markEnds 44 = .ok (.iinc 1 1, 3) := by decide +kernel
theorem dX3_markEnds_47 : decode cX3_markEnds 47 = .ok (.goto (-45), 3) := by decide +kernel
theorem dX3_markEnds_50 : decode cX3_markEnds 50 = .ok (.return_, 1) := by decide +kernel
set_option maxRecDepth 20000 in
theorem ggX3_pinsAgree_X7_hasArrow : GoodIn wsX3_pinsAgree wsX7_hasArrow := goodIn_r _ [6, 7, 24, 25, 26, 27, 28, 29] (by decide +kernel) (by decide +kernel)
set_option maxRecDepth 20000 in
theorem gX3_pinsAgree_X7_hasArrow : GoodIn wsX3_pinsAgree (wsV RX3 85 RX7 yX7_hasArrow wsX7_hasArrow) := goodIn_app (goodIn_of _ (by decide +kernel)) ggX3_pinsAgree_X7_hasArrow
set_option maxRecDepth 20000 in
theorem ggX3_pinsAgree_X3_bottom : GoodIn wsX3_pinsAgree wsX3_bottom := goodIn_r _ [12, 13, 19, 20, 21, 22, 23] (by decide +kernel) (by decide +kernel)
set_option maxRecDepth 20000 in
theorem gX3_pinsAgree_X3_bottom : GoodIn wsX3_pinsAgree (wsV RX3 55 RX3 yX3_bottom wsX3_bottom) := goodIn_app (goodIn_of _ (by decide +kernel)) ggX3_pinsAgree_X3_bottom
set_option maxRecDepth 20000 in
theorem ggX3_pinsAgree_X3_top : GoodIn wsX3_pinsAgree wsX3_top := goodIn_r _ [17, 18, 19, 20, 21, 22, 23] (by decide +kernel) (by decide +kernel)
set_option maxRecDepth 20000 in
theorem gX3_pinsAgree_X3_top : GoodIn wsX3_pinsAgree (wsV RX3 51 RX3 yX3_top wsX3_top) := goodIn_app (goodIn_of _ (by decide +kernel)) ggX3_pinsAgree_X3_top
theorem dX3_pinsAgree_0 : decode cX3_pinsAgree 0 = .ok (.iconst 0, 1) := by decide +kernel
theorem dX3_pinsAgree_1 : decode cX3_pinsAgree 1 = .ok (.istore_n 1, 1) := by decide +kernel
theorem dX3_pinsAgree_2 : decode cX3_pinsAgree 2 = .ok (.iload_n 1, 1) := by decide +kernel
theorem dX3_pinsAgree_3 : decode cX3_pinsAgree 3 = .ok (.bipush 24, 2) := by decide +kernel
theorem dX3_pinsAgree_5 : decode cX3_pinsAgree 5 = .ok (.if_icmp .ge 35, 3) := by decide +kernel
theorem dX3_pinsAgree_8 : decode cX3_pinsAgree 8 = .ok (.aload_n 0, 1) := by decide +kernel
theorem dX3_pinsAgree_9 : decode cX3_pinsAgree 9 = .ok (.getfield 21, 3) := by decide +kernel
theorem dX3_pinsAgree_12 : decode cX3_pinsAgree 12 = .ok (.iload_n 1, 1) := by decide +kernel
theorem dX3_pinsAgree_13 : decode cX3_pinsAgree 13 = .ok (.invokevirtual 85, 3) := by decide +kernel
theorem dX3_pinsAgree_16 : decode cX3_pinsAgree 16 = .ok (.ifCond .eq 18, 3) := by decide +kernel
theorem dX3_pinsAgree_19 : decode cX3_pinsAgree 19 = .ok (.aload_n 0, 1) := by decide +kernel
theorem dX3_pinsAgree_20 : decode cX3_pinsAgree 20 = .ok (.iload_n 1, 1) := by decide +kernel
theorem dX3_pinsAgree_21 : decode cX3_pinsAgree 21 = .ok (.invokevirtual 55, 3) := by decide +kernel
theorem dX3_pinsAgree_24 : decode cX3_pinsAgree 24 = .ok (.aload_n 0, 1) := by decide +kernel
theorem dX3_pinsAgree_25 : decode cX3_pinsAgree 25 = .ok (.iload_n 1, 1) := by decide +kernel
theorem dX3_pinsAgree_26 : decode cX3_pinsAgree 26 = .ok (.invokevirtual 51, 3) := by decide +kernel
theorem dX3_pinsAgree_29 : decode cX3_pinsAgree 29 = .ok (.if_icmp .gt 5, 3) := by decide +kernel
theorem dX3_pinsAgree_32 : decode cX3_pinsAgree 32 = .ok (.iconst 0, 1) := by decide +kernel
theorem dX3_pinsAgree_33 : decode cX3_pinsAgree 33 = .ok (.ireturn, 1) := by decide +kernel
theorem dX3_pinsAgree_34 : decode cX3_pinsAgree 34 = .ok (.iinc 1 1, 3) := by decide +kernel
theorem dX3_pinsAgree_37 : decode cX3_pinsAgree 37 = .ok (.goto (-35), 3) := by decide +kernel
theorem dX3_pinsAgree_40 : decode cX3_pinsAgree 40 = .ok (.iconst 1, 1) := by decide +kernel
theorem dX3_pinsAgree_41 : decode cX3_pinsAgree 41 = .ok (.ireturn, 1) := by decide +kernel
set_option maxRecDepth 20000 in
theorem ggX4_init_X4_empty : GoodIn wsX4_init wsX4_empty := goodIn_r _ [13, 14, 15, 16, 17, 18, 5, 7, 8, 19, 20, 21, 22, 23, 24, 25, 26, 27] (by decide +kernel) (by decide +kernel)
set_option maxRecDepth 20000 in
theorem gX4_init_X4_empty : GoodIn wsX4_init (wsV RX4 24 RX4 yX4_empty wsX4_empty) := goodIn_app (goodIn_of _ (by decide +kernel)) ggX4_init_X4_empty
theorem dX4_init_0 : decode cX4_init 0 = .ok (.aload_n 0, 1) := by decide +kernel
theorem dX4_init_1 : decode cX4_init 1 = .ok (.invokespecial 3, 3) := by decide +kernel
theorem dX4_init_4 : decode cX4_init 4 = .ok (.aload_n 0, 1) := by decide +kernel
theorem dX4_init_5 : decode cX4_init 5 = .ok (.bipush 24, 2) := by decide +kernel
theorem dX4_init_7 : decode cX4_init 7 = .ok (.newarray .int, 2) := by decide +kernel
theorem dX4_init_9 : decode cX4_init 9 = .ok (.putfield 9, 3) := by decide +kernel
theorem dX4_init_12 : decode cX4_init 12 = .ok (.aload_n 0, 1) := by decide +kernel
theorem dX4_init_13 : decode cX4_init 13 = .ok (.sipush 960, 3) := by decide +kernel
theorem dX4_init_16 : decode cX4_init 16 = .ok (.newarray .int, 2) := by decide +kernel
theorem dX4_init_18 : decode cX4_init 18 = .ok (.putfield 15, 3) := by decide +kernel
theorem dX4_init_21 : decode cX4_init 21 = .ok (.aload_n 0, 1) := by decide +kernel
theorem dX4_init_22 : decode cX4_init 22 = .ok (.sipush 960, 3) := by decide +kernel
theorem dX4_init_25 : decode cX4_init 25 = .ok (.newarray .int, 2) := by decide +kernel
theorem dX4_init_27 : decode cX4_init 27 = .ok (.putfield 18, 3) := by decide +kernel
theorem dX4_init_30 : decode cX4_init 30 = .ok (.aload_n 0, 1) := by decide +kernel
theorem dX4_init_31 : decode cX4_init 31 = .ok (.bipush 16, 2) := by decide +kernel
theorem dX4_init_33 : decode cX4_init 33 = .ok (.newarray .int, 2) := by decide +kernel
theorem dX4_init_35 : decode cX4_init 35 = .ok (.putfield 21, 3) := by decide +kernel
theorem dX4_init_38 : decode cX4_init 38 = .ok (.aload_n 0, 1) := by decide +kernel
theorem dX4_init_39 : decode cX4_init 39 = .ok (.iconst 0, 1) := by decide +kernel
theorem dX4_init_40 : decode cX4_init 40 = .ok (.invokevirtual 24, 3) := by decide +kernel
theorem dX4_init_43 : decode cX4_init 43 = .ok (.return_, 1) := by decide +kernel
set_option maxRecDepth 20000 in
theorem ggX4_startFirst_X3_layers : GoodIn wsX4_startFirst wsX3_layers := goodIn_r _ [5, 6, 71, 72, 73, 74, 75] (by decide +kernel) (by decide +kernel)
set_option maxRecDepth 20000 in
theorem gX4_startFirst_X3_layers : GoodIn wsX4_startFirst (wsV RX4 28 RX3 yX3_layers wsX3_layers) := goodIn_app (goodIn_of _ (by decide +kernel)) ggX4_startFirst_X3_layers
set_option maxRecDepth 20000 in
theorem ggX4_startFirst_X4_empty : GoodIn wsX4_startFirst wsX4_empty := goodIn_r _ [11, 12, 13, 14, 15, 16, 17, 18, 19, 20, 21, 22, 23, 76, 77, 78, 79, 80] (by decide +kernel) (by decide +kernel)
set_option maxRecDepth 20000 in
theorem gX4_startFirst_X4_empty : GoodIn wsX4_startFirst (wsV RX4 24 RX4 yX4_empty wsX4_empty) := goodIn_app (goodIn_of _ (by decide +kernel)) ggX4_startFirst_X4_empty
set_option maxRecDepth 20000 in
theorem ggX4_startFirst_X4_appendMissing : GoodIn wsX4_startFirst wsX4_appendMissing := goodIn_r _ [27, 16, 28, 29, 30, 4, 31, 32, 33, 34, 35, 36, 37, 38, 39, 40, 41, 42, 43, 44, 45, 46, 47, 48, 49, 50, 51, 52, 53, 54, 55, 56, 10, 57, 18, 58, 59, 60, 61, 17, 62, 63, 64, 65, 66, 19, 67, 68, 69, 70, 76, 77, 78, 79, 80, 71, 72, 73, 74, 75, 81, 82, 83, 84, 85, 86] (by decide +kernel) (by decide +kernel)
set_option maxRecDepth 20000 in
theorem gX4_startFirst_X4_appendMissing : GoodIn wsX4_startFirst (wsV RX4 34 RX4 yX4_appendMissing wsX4_appendMissing) := goodIn_app (goodIn_of _ (by decide +kernel)) ggX4_startFirst_X4_appendMissing
theorem dX4_startFirst_0 : decode cX4_startFirst 0 = .ok (.aload_n 0, 1) := by decide +kernel
theorem dX4_startFirst_1 : decode cX4_startFirst 1 = .ok (.aload_n 1, 1) := by decide +kernel
theorem dX4_startFirst_2 : decode cX4_startFirst 2 = .ok (.invokevirtual 28, 3) := by decide +kernel
theorem dX4_startFirst_5 : decode cX4_startFirst 5 = .ok (.invokevirtual 24, 3) := by decide +kernel
theorem dX4_startFirst_8 : decode cX4_startFirst 8 = .ok (.aload_n 0, 1) := by decide +kernel
theorem dX4_startFirst_9 : decode cX4_startFirst 9 = .ok (.aload_n 1, 1) := by decide +kernel
theorem dX4_startFirst_10 : decode cX4_startFirst 10 = .ok (.invokevirtual 34, 3) := by decide +kernel
theorem dX4_startFirst_13 : decode cX4_startFirst 13 = .ok (.return_, 1) := by decide +kernel
set_option maxRecDepth 20000 in
theorem ggX4_startLike_X3_layers : GoodIn wsX4_startLike wsX3_layers := goodIn_r _ [6, 7, 80, 81, 82, 83, 84] (by decide +kernel) (by decide +kernel)
set_option maxRecDepth 20000 in
theorem gX4_startLike_X3_layers : GoodIn wsX4_startLike (wsV RX4 28 RX3 yX3_layers wsX3_layers) := goodIn_app (goodIn_of _ (by decide +kernel)) ggX4_startLike_X3_layers
set_option maxRecDepth 20000 in
theorem ggX4_startLike_X4_empty : GoodIn wsX4_startLike wsX4_empty := goodIn_r _ [12, 13, 14, 15, 16, 1, 17, 18, 19, 20, 21, 22, 23, 75, 76, 77, 78, 79] (by decide +kernel) (by decide +kernel)
set_option maxRecDepth 20000 in
theorem gX4_startLike_X4_empty : GoodIn wsX4_startLike (wsV RX4 24 RX4 yX4_empty wsX4_empty) := goodIn_app (goodIn_of _ (by decide +kernel)) ggX4_startLike_X4_empty
set_option maxRecDepth 20000 in
theorem ggX4_startLike_X4_sizeOf : GoodIn wsX4_startLike wsX4_sizeOf := goodIn_r _ [27, 1, 17, 75, 76, 77, 78, 79] (by decide +kernel) (by decide +kernel)
set_option maxRecDepth 20000 in
theorem gX4_startLike_X4_sizeOf : GoodIn wsX4_startLike (wsV RX4 41 RX4 yX4_sizeOf wsX4_sizeOf) := goodIn_app (goodIn_of _ (by decide +kernel)) ggX4_startLike_X4_sizeOf
set_option maxRecDepth 20000 in
theorem ggX4_startLike_X4_itemIn : GoodIn wsX4_startLike wsX4_itemIn := goodIn_r _ [31, 32, 24, 25, 26, 11, 27, 1, 17, 75, 76, 77, 78, 79] (by decide +kernel) (by decide +kernel)
set_option maxRecDepth 20000 in
theorem gX4_startLike_X4_itemIn : GoodIn wsX4_startLike (wsV RX4 45 RX4 yX4_itemIn wsX4_itemIn) := goodIn_app (goodIn_of _ (by decide +kernel)) ggX4_startLike_X4_itemIn
set_option maxRecDepth 20000 in
theorem ggX4_startLike_X3_holds : GoodIn wsX4_startLike wsX3_holds := goodIn_r _ [36, 37, 38, 39, 40, 41, 42, 43, 44, 45, 46, 5, 47, 48, 49, 50, 51, 52, 53, 54, 55, 56, 57, 58, 80, 81, 82, 83, 84, 85, 86, 87, 88, 89, 90] (by decide +kernel) (by decide +kernel)
set_option maxRecDepth 20000 in
theorem gX4_startLike_X3_holds : GoodIn wsX4_startLike (wsV RX4 49 RX3 yX3_holds wsX3_holds) := goodIn_app (goodIn_of _ (by decide +kernel)) ggX4_startLike_X3_holds
set_option maxRecDepth 20000 in
theorem ggX4_startLike_X4_append : GoodIn wsX4_startLike wsX4_append := goodIn_r _ [62, 17, 63, 64, 65, 11, 66, 32, 18, 19, 24, 25, 26, 27, 1, 75, 76, 77, 78, 79] (by decide +kernel) (by decide +kernel)
set_option maxRecDepth 20000 in
theorem gX4_startLike_X4_append : GoodIn wsX4_startLike (wsV RX4 53 RX4 yX4_append wsX4_append) := goodIn_app (goodIn_of _ (by decide +kernel)) ggX4_startLike_X4_append
set_option maxRecDepth 20000 in
theorem ggX4_startLike_X4_appendMissing : GoodIn wsX4_startLike wsX4_appendMissing := goodIn_r _ [70, 1, 33, 34, 35, 5, 36, 37, 38, 39, 40, 41, 42, 43, 44, 45, 46, 47, 48, 49, 50, 51, 52, 53, 54, 55, 56, 57, 58, 71, 72, 73, 11, 74, 18, 59, 60, 61, 62, 17, 63, 64, 65, 66, 32, 19, 24, 25, 26, 27, 75, 76, 77, 78, 79, 80, 81, 82, 83, 84, 85, 86, 87, 88, 89, 90] (by decide +kernel) (by decide +kernel)
set_option maxRecDepth 20000 in
theorem gX4_startLike_X4_appendMissing : GoodIn wsX4_startLike (wsV RX4 34 RX4 yX4_appendMissing wsX4_appendMissing) := goodIn_app (goodIn_of _ (by decide +kernel)) ggX4_startLike_X4_appendMissing
theorem dX4_startLike_0 : decode cX4_startLike 0 = .ok (.aload_n 0, 1) := by decide +kernel
theorem dX4_startLike_1 : decode cX4_startLike 1 = .ok (.aload_n 2, 1) := by decide +kernel
theorem dX4_startLike_2 : decode cX4_startLike 2 = .ok (.invokevirtual 28, 3) := by decide +kernel
theorem dX4_startLike_5 : decode cX4_startLike 5 = .ok (.invokevirtual 24, 3) := by decide +kernel
theorem dX4_startLike_8 : decode cX4_startLike 8 = .ok (.iconst 0, 1) := by decide +kernel
theorem dX4_startLike_9 : decode cX4_startLike 9 = .ok (.istore_n 3, 1) := by decide +kernel
theorem dX4_startLike_10 : decode cX4_startLike 10 = .ok (.iload_n 3, 1) := by decide +kernel
theorem dX4_startLike_11 : decode cX4_startLike 11 = .ok (.aload_n 0, 1) := by decide +kernel
theorem dX4_startLike_12 : decode cX4_startLike 12 = .ok (.getfield 38, 3) := by decide +kernel
theorem dX4_startLike_15 : decode cX4_startLike 15 = .ok (.if_icmp .ge 54, 3) := by decide +kernel
theorem dX4_startLike_18 : decode cX4_startLike 18 = .ok (.iconst 0, 1) := by decide +kernel
theorem dX4_startLike_19 : decode cX4_startLike 19 = .ok (.istore 4, 2) := by decide +kernel
theorem dX4_startLike_21 : decode cX4_startLike 21 = .ok (.iload 4, 2) := by decide +kernel
theorem dX4_startLike_23 : decode cX4_startLike 23 = .ok (.aload_n 1, 1) := by decide +kernel
theorem dX4_startLike_24 : decode cX4_startLike 24 = .ok (.iload_n 3, 1) := by decide +kernel
theorem dX4_startLike_25 : decode cX4_startLike 25 = .ok (.invokevirtual 41, 3) := by decide +kernel
theorem dX4_startLike_28 : decode cX4_startLike 28 = .ok (.if_icmp .ge 35, 3) := by decide +kernel
theorem dX4_startLike_31 : decode cX4_startLike 31 = .ok (.aload_n 1, 1) := by decide +kernel
theorem dX4_startLike_32 : decode cX4_startLike 32 = .ok (.iload_n 3, 1) := by decide +kernel
theorem dX4_startLike_33 : decode cX4_startLike 33 = .ok (.iload 4, 2) := by decide +kernel
theorem dX4_startLike_35 : decode cX4_startLike 35 = .ok (.invokevirtual 45, 3) := by decide +kernel
theorem dX4_startLike_38 : decode cX4_startLike 38 = .ok (.istore 5, 2) := by decide +kernel
theorem dX4_startLike_40 : decode cX4_startLike 40 = .ok (.aload_n 2, 1) := by decide +kernel
theorem dX4_startLike_41 : decode cX4_startLike 41 = .ok (.iload_n 3, 1) := by decide +kernel
theorem dX4_startLike_42 : decode cX4_startLike 42 = .ok (.iload 5, 2) := by decide +kernel
theorem dX4_startLike_44 : decode cX4_startLike 44 = .ok (.invokevirtual 49, 3) := by decide +kernel
theorem dX4_startLike_47 : decode cX4_startLike 47 = .ok (.ifCond .eq 10, 3) := by decide +kernel
theorem dX4_startLike_50 : decode cX4_startLike 50 = .ok (.aload_n 0, 1) := by decide +kernel
theorem dX4_startLike_51 : decode cX4_startLike 51 = .ok (.iload_n 3, 1) := by decide +kernel
theorem dX4_startLike_52 : decode cX4_startLike 52 = .ok (.iload 5, 2) := by decide +kernel
theorem dX4_startLike_54 : decode cX4_startLike 54 = .ok (.invokevirtual 53, 3) := by decide +kernel
theorem dX4_startLike_57 : decode cX4_startLike 57 = .ok (.iinc 4 1, 3) := by decide +kernel
theorem dX4_startLike_60 : decode cX4_startLike 60 = .ok (.goto (-39), 3) := by decide +kernel
theorem dX4_startLike_63 : decode cX4_startLike 63 = .ok (.iinc 3 1, 3) := by decide +kernel
theorem dX4_startLike_66 : decode cX4_startLike 66 = .ok (.goto (-56), 3) := by decide +kernel
theorem dX4_startLike_69 : decode cX4_startLike 69 = .ok (.aload_n 0, 1) := by decide +kernel
theorem dX4_startLike_70 : decode cX4_startLike 70 = .ok (.aload_n 2, 1) := by decide +kernel
theorem dX4_startLike_71 : decode cX4_startLike 71 = .ok (.invokevirtual 34, 3) := by decide +kernel
theorem dX4_startLike_74 : decode cX4_startLike 74 = .ok (.return_, 1) := by decide +kernel
theorem dX4_layers_0 : decode cX4_layers 0 = .ok (.aload_n 0, 1) := by decide +kernel
theorem dX4_layers_1 : decode cX4_layers 1 = .ok (.getfield 38, 3) := by decide +kernel
theorem dX4_layers_4 : decode cX4_layers 4 = .ok (.ireturn, 1) := by decide +kernel
theorem dX4_sizeOf_0 : decode cX4_sizeOf 0 = .ok (.iload_n 1, 1) := by decide +kernel
theorem dX4_sizeOf_1 : decode cX4_sizeOf 1 = .ok (.ifCond .lt 26, 3) := by decide +kernel
theorem dX4_sizeOf_4 : decode cX4_sizeOf 4 = .ok (.iload_n 1, 1) := by decide +kernel
theorem dX4_sizeOf_5 : decode cX4_sizeOf 5 = .ok (.aload_n 0, 1) := by decide +kernel
theorem dX4_sizeOf_6 : decode cX4_sizeOf 6 = .ok (.getfield 38, 3) := by decide +kernel
theorem dX4_sizeOf_9 : decode cX4_sizeOf 9 = .ok (.if_icmp .ge 18, 3) := by decide +kernel
theorem dX4_sizeOf_12 : decode cX4_sizeOf 12 = .ok (.iload_n 1, 1) := by decide +kernel
theorem dX4_sizeOf_13 : decode cX4_sizeOf 13 = .ok (.bipush 24, 2) := by decide +kernel
theorem dX4_sizeOf_15 : decode cX4_sizeOf 15 = .ok (.if_icmp .ge 12, 3) := by decide +kernel
theorem dX4_sizeOf_18 : decode cX4_sizeOf 18 = .ok (.aload_n 0, 1) := by decide +kernel
theorem dX4_sizeOf_19 : decode cX4_sizeOf 19 = .ok (.getfield 9, 3) := by decide +kernel
theorem dX4_sizeOf_22 : decode cX4_sizeOf 22 = .ok (.iload_n 1, 1) := by decide +kernel
theorem dX4_sizeOf_23 : decode cX4_sizeOf 23 = .ok (.iaload, 1) := by decide +kernel
theorem dX4_sizeOf_24 : decode cX4_sizeOf 24 = .ok (.goto 4, 3) := by decide +kernel
theorem dX4_sizeOf_27 : decode cX4_sizeOf 27 = .ok (.iconst 0, 1) := by decide +kernel
theorem dX4_sizeOf_28 : decode cX4_sizeOf 28 = .ok (.ireturn, 1) := by decide +kernel
set_option maxRecDepth 20000 in
theorem ggX4_items_X4_sizeOf : GoodIn wsX4_items wsX4_sizeOf := goodIn_r _ [6, 1, 7, 8, 9, 10, 11, 12] (by decide +kernel) (by decide +kernel)
set_option maxRecDepth 20000 in
theorem gX4_items_X4_sizeOf : GoodIn wsX4_items (wsV RX4 41 RX4 yX4_sizeOf wsX4_sizeOf) := goodIn_app (goodIn_of _ (by decide +kernel)) ggX4_items_X4_sizeOf
theorem dX4_items_0 : decode cX4_items 0 = .ok (.iconst 0, 1) := by decide +kernel
theorem dX4_items_1 : decode cX4_items 1 = .ok (.istore_n 1, 1) := by decide +kernel
theorem dX4_items_2 : decode cX4_items 2 = .ok (.iconst 0, 1) := by decide +kernel
theorem dX4_items_3 : decode cX4_items 3 = .ok (.istore_n 2, 1) := by decide +kernel
theorem dX4_items_4 : decode cX4_items 4 = .ok (.iload_n 2, 1) := by decide +kernel
theorem dX4_items_5 : decode cX4_items 5 = .ok (.aload_n 0, 1) := by decide +kernel
theorem dX4_items_6 : decode cX4_items 6 = .ok (.getfield 38, 3) := by decide +kernel
theorem dX4_items_9 : decode cX4_items 9 = .ok (.if_icmp .ge 17, 3) := by decide +kernel
theorem dX4_items_12 : decode cX4_items 12 = .ok (.iload_n 1, 1) := by decide +kernel
theorem dX4_items_13 : decode cX4_items 13 = .ok (.aload_n 0, 1) := by decide +kernel
theorem dX4_items_14 : decode cX4_items 14 = .ok (.iload_n 2, 1) := by decide +kernel
theorem dX4_items_15 : decode cX4_items 15 = .ok (.invokevirtual 41, 3) := by decide +kernel
theorem dX4_items_18 : decode cX4_items 18 = .ok (.iadd, 1) := by decide +kernel
theorem dX4_items_19 : decode cX4_items 19 = .ok (.istore_n 1, 1) := by decide +kernel
theorem dX4_items_20 : decode cX4_items 20 = .ok (.iinc 2 1, 3) := by decide +kernel
theorem dX4_items_23 : decode cX4_items 23 = .ok (.goto (-19), 3) := by decide +kernel
theorem dX4_items_26 : decode cX4_items 26 = .ok (.iload_n 1, 1) := by decide +kernel
theorem dX4_items_27 : decode cX4_items 27 = .ok (.ireturn, 1) := by decide +kernel
set_option maxRecDepth 20000 in
theorem ggX4_itemIn_X4_sizeOf : GoodIn wsX4_itemIn wsX4_sizeOf := goodIn_r _ [6, 7, 8, 9, 10, 11, 12, 13] (by decide +kernel) (by decide +kernel)
set_option maxRecDepth 20000 in
theorem gX4_itemIn_X4_sizeOf : GoodIn wsX4_itemIn (wsV RX4 41 RX4 yX4_sizeOf wsX4_sizeOf) := goodIn_app (goodIn_of _ (by decide +kernel)) ggX4_itemIn_X4_sizeOf
theorem dX4_itemIn_0 : decode cX4_itemIn 0 = .ok (.iload_n 2, 1) := by decide +kernel
theorem dX4_itemIn_1 : decode cX4_itemIn 1 = .ok (.ifCond .lt 16, 3) := by decide +kernel
theorem dX4_itemIn_4 : decode cX4_itemIn 4 = .ok (.iload_n 2, 1) := by decide +kernel
theorem dX4_itemIn_5 : decode cX4_itemIn 5 = .ok (.aload_n 0, 1) := by decide +kernel
theorem dX4_itemIn_6 : decode cX4_itemIn 6 = .ok (.iload_n 1, 1) := by decide +kernel
theorem dX4_itemIn_7 : decode cX4_itemIn 7 = .ok (.invokevirtual 41, 3) := by decide +kernel
theorem dX4_itemIn_10 : decode cX4_itemIn 10 = .ok (.if_icmp .ge 7, 3) := by decide +kernel
theorem dX4_itemIn_13 : decode cX4_itemIn 13 = .ok (.iconst 1, 1) := by decide +kernel
theorem dX4_itemIn_14 : decode cX4_itemIn 14 = .ok (.goto 4, 3) := by decide +kernel
theorem dX4_itemIn_17 : decode cX4_itemIn 17 = .ok (.iconst 0, 1) := by decide +kernel
theorem dX4_itemIn_18 : decode cX4_itemIn 18 = .ok (.istore_n 3, 1) := by decide +kernel
theorem dX4_itemIn_19 : decode cX4_itemIn 19 = .ok (.iload_n 3, 1) := by decide +kernel
theorem dX4_itemIn_20 : decode cX4_itemIn 20 = .ok (.ifCond .eq 17, 3) := by decide +kernel
theorem dX4_itemIn_23 : decode cX4_itemIn 23 = .ok (.aload_n 0, 1) := by decide +kernel
theorem dX4_itemIn_24 : decode cX4_itemIn 24 = .ok (.getfield 15, 3) := by decide +kernel
theorem dX4_itemIn_27 : decode cX4_itemIn 27 = .ok (.iload_n 1, 1) := by decide +kernel
theorem dX4_itemIn_28 : decode cX4_itemIn 28 = .ok (.bipush 40, 2) := by decide +kernel
theorem dX4_itemIn_30 : decode cX4_itemIn 30 = .ok (.imul, 1) := by decide +kernel
theorem dX4_itemIn_31 : decode cX4_itemIn 31 = .ok (.iload_n 2, 1) := by decide +kernel
theorem dX4_itemIn_32 : decode cX4_itemIn 32 = .ok (.iadd, 1) := by decide +kernel
theorem dX4_itemIn_33 : decode cX4_itemIn 33 = .ok (.iaload, 1) := by decide +kernel
theorem dX4_itemIn_34 : decode cX4_itemIn 34 = .ok (.goto 4, 3) := by decide +kernel
theorem dX4_itemIn_37 : decode cX4_itemIn 37 = .ok (.iconst (-1), 1) := by decide +kernel
theorem dX4_itemIn_38 : decode cX4_itemIn 38 = .ok (.ireturn, 1) := by decide +kernel
theorem dX4_placeIn_0 : decode cX4_placeIn 0 = .ok (.iload_n 1, 1) := by decide +kernel
theorem dX4_placeIn_1 : decode cX4_placeIn 1 = .ok (.ifCond .lt 23, 3) := by decide +kernel
theorem dX4_placeIn_4 : decode cX4_placeIn 4 = .ok (.iload_n 1, 1) := by decide +kernel
theorem dX4_placeIn_5 : decode cX4_placeIn 5 = .ok (.bipush 24, 2) := by decide +kernel
theorem dX4_placeIn_7 : decode cX4_placeIn 7 = .ok (.if_icmp .ge 17, 3) := by decide +kernel
theorem dX4_placeIn_10 : decode cX4_placeIn 10 = .ok (.iload_n 2, 1) := by decide +kernel
theorem dX4_placeIn_11 : decode cX4_placeIn 11 = .ok (.ifCond .lt 13, 3) := by decide +kernel
theorem dX4_placeIn_14 : decode cX4_placeIn 14 = .ok (.iload_n 2, 1) := by decide +kernel
theorem dX4_placeIn_15 : decode cX4_placeIn 15 = .ok (.bipush 40, 2) := by decide +kernel
theorem dX4_placeIn_17 : decode cX4_placeIn 17 = .ok (.if_icmp .ge 7, 3) := by decide +kernel
theorem dX4_placeIn_20 : decode cX4_placeIn 20 = .ok (.iconst 1, 1) := by decide +kernel
theorem dX4_placeIn_21 : decode cX4_placeIn 21 = .ok (.goto 4, 3) := by decide +kernel
theorem dX4_placeIn_24 : decode cX4_placeIn 24 = .ok (.iconst 0, 1) := by decide +kernel
theorem dX4_placeIn_25 : decode cX4_placeIn 25 = .ok (.istore_n 3, 1) := by decide +kernel
theorem dX4_placeIn_26 : decode cX4_placeIn 26 = .ok (.iload_n 3, 1) := by decide +kernel
theorem dX4_placeIn_27 : decode cX4_placeIn 27 = .ok (.ifCond .eq 17, 3) := by decide +kernel
theorem dX4_placeIn_30 : decode cX4_placeIn 30 = .ok (.aload_n 0, 1) := by decide +kernel
theorem dX4_placeIn_31 : decode cX4_placeIn 31 = .ok (.getfield 18, 3) := by decide +kernel
theorem dX4_placeIn_34 : decode cX4_placeIn 34 = .ok (.iload_n 1, 1) := by decide +kernel
theorem dX4_placeIn_35 : decode cX4_placeIn 35 = .ok (.bipush 40, 2) := by decide +kernel
theorem dX4_placeIn_37 : decode cX4_placeIn 37 = .ok (.imul, 1) := by decide +kernel
theorem dX4_placeIn_38 : decode cX4_placeIn 38 = .ok (.iload_n 2, 1) := by decide +kernel
theorem dX4_placeIn_39 : decode cX4_placeIn 39 = .ok (.iadd, 1) := by decide +kernel
theorem dX4_placeIn_40 : decode cX4_placeIn 40 = .ok (.iaload, 1) := by decide +kernel
theorem dX4_placeIn_41 : decode cX4_placeIn 41 = .ok (.goto 4, 3) := by decide +kernel
theorem dX4_placeIn_44 : decode cX4_placeIn 44 = .ok (.iconst (-1), 1) := by decide +kernel
theorem dX4_placeIn_45 : decode cX4_placeIn 45 = .ok (.ireturn, 1) := by decide +kernel
set_option maxRecDepth 20000 in
theorem ggX4_put_X4_sizeOf : GoodIn wsX4_put wsX4_sizeOf := goodIn_r _ [8, 9, 10, 11, 12, 13, 14, 15] (by decide +kernel) (by decide +kernel)
set_option maxRecDepth 20000 in
theorem gX4_put_X4_sizeOf : GoodIn wsX4_put (wsV RX4 41 RX4 yX4_sizeOf wsX4_sizeOf) := goodIn_app (goodIn_of _ (by decide +kernel)) ggX4_put_X4_sizeOf
theorem dX4_put_0 : decode cX4_put 0 = .ok (.iload_n 2, 1) := by decide +kernel
theorem dX4_put_1 : decode cX4_put 1 = .ok (.ifCond .lt 22, 3) := by decide +kernel
theorem dX4_put_4 : decode cX4_put 4 = .ok (.iload_n 2, 1) := by decide +kernel
theorem dX4_put_5 : decode cX4_put 5 = .ok (.aload_n 0, 1) := by decide +kernel
theorem dX4_put_6 : decode cX4_put 6 = .ok (.iload_n 1, 1) := by decide +kernel
theorem dX4_put_7 : decode cX4_put 7 = .ok (.invokevirtual 41, 3) := by decide +kernel
theorem dX4_put_10 : decode cX4_put 10 = .ok (.if_icmp .ge 13, 3) := by decide +kernel
theorem dX4_put_13 : decode cX4_put 13 = .ok (.iload_n 3, 1) := by decide +kernel
theorem dX4_put_14 : decode cX4_put 14 = .ok (.ifCond .lt 9, 3) := by decide +kernel
theorem dX4_put_17 : decode cX4_put 17 = .ok (.iload_n 3, 1) := by decide +kernel
theorem dX4_put_18 : decode cX4_put 18 = .ok (.bipush 40, 2) := by decide +kernel
theorem dX4_put_20 : decode cX4_put 20 = .ok (.if_icmp .lt 4, 3) := by decide +kernel
theorem dX4_put_23 : decode cX4_put 23 = .ok (.return_, 1) := by decide +kernel
theorem dX4_put_24 : decode cX4_put 24 = .ok (.aload_n 0, 1) := by decide +kernel
theorem dX4_put_25 : decode cX4_put 25 = .ok (.getfield 15, 3) := by decide +kernel
theorem dX4_put_28 : decode cX4_put 28 = .ok (.iload_n 1, 1) := by decide +kernel
theorem dX4_put_29 : decode cX4_put 29 = .ok (.bipush 40, 2) := by decide +kernel
theorem dX4_put_31 : decode cX4_put 31 = .ok (.imul, 1) := by decide +kernel
theorem dX4_put_32 : decode cX4_put 32 = .ok (.iload_n 2, 1) := by decide +kernel
theorem dX4_put_33 : decode cX4_put 33 = .ok (.iadd, 1) := by decide +kernel
theorem dX4_put_34 : decode cX4_put 34 = .ok (.iload_n 3, 1) := by decide +kernel
theorem dX4_put_35 : decode cX4_put 35 = .ok (.iastore, 1) := by decide +kernel
theorem dX4_put_36 : decode cX4_put 36 = .ok (.aload_n 0, 1) := by decide +kernel
theorem dX4_put_37 : decode cX4_put 37 = .ok (.getfield 18, 3) := by decide +kernel
theorem dX4_put_40 : decode cX4_put 40 = .ok (.iload_n 1, 1) := by decide +kernel
theorem dX4_put_41 : decode cX4_put 41 = .ok (.bipush 40, 2) := by decide +kernel
theorem dX4_put_43 : decode cX4_put 43 = .ok (.imul, 1) := by decide +kernel
theorem dX4_put_44 : decode cX4_put 44 = .ok (.iload_n 3, 1) := by decide +kernel
theorem dX4_put_45 : decode cX4_put 45 = .ok (.iadd, 1) := by decide +kernel
theorem dX4_put_46 : decode cX4_put 46 = .ok (.iload_n 2, 1) := by decide +kernel
theorem dX4_put_47 : decode cX4_put 47 = .ok (.iastore, 1) := by decide +kernel
theorem dX4_put_48 : decode cX4_put 48 = .ok (.iload_n 3, 1) := by decide +kernel
theorem dX4_put_49 : decode cX4_put 49 = .ok (.bipush 16, 2) := by decide +kernel
theorem dX4_put_51 : decode cX4_put 51 = .ok (.if_icmp .ge 10, 3) := by decide +kernel
theorem dX4_put_54 : decode cX4_put 54 = .ok (.aload_n 0, 1) := by decide +kernel
theorem dX4_put_55 : decode cX4_put 55 = .ok (.getfield 21, 3) := by decide +kernel
theorem dX4_put_58 : decode cX4_put 58 = .ok (.iload_n 3, 1) := by decide +kernel
theorem dX4_put_59 : decode cX4_put 59 = .ok (.iload_n 1, 1) := by decide +kernel
theorem dX4_put_60 : decode cX4_put 60 = .ok (.iastore, 1) := by decide +kernel
theorem dX4_put_61 : decode cX4_put 61 = .ok (.return_, 1) := by decide +kernel
set_option maxRecDepth 20000 in
theorem ggX4_holdsBox_X4_homeOf : GoodIn wsX4_holdsBox wsX4_homeOf := goodIn_r _ [5, 6, 7, 8, 9, 10, 11] (by decide +kernel) (by decide +kernel)
set_option maxRecDepth 20000 in
theorem gX4_holdsBox_X4_homeOf : GoodIn wsX4_holdsBox (wsV RX4 57 RX4 yX4_homeOf wsX4_homeOf) := goodIn_app (goodIn_of _ (by decide +kernel)) ggX4_holdsBox_X4_homeOf
theorem dX4_holdsBox_0 : decode cX4_holdsBox 0 = .ok (.aload_n 0, 1) := by decide +kernel
theorem dX4_holdsBox_1 : decode cX4_holdsBox 1 = .ok (.iload_n 1, 1) := by decide +kernel
theorem dX4_holdsBox_2 : decode cX4_holdsBox 2 = .ok (.invokevirtual 57, 3) := by decide +kernel
theorem dX4_holdsBox_5 : decode cX4_holdsBox 5 = .ok (.iconst (-1), 1) := by decide +kernel
theorem dX4_holdsBox_6 : decode cX4_holdsBox 6 = .ok (.if_icmp .eq 7, 3) := by decide +kernel
theorem dX4_holdsBox_9 : decode cX4_holdsBox 9 = .ok (.iconst 1, 1) := by decide +kernel
theorem dX4_holdsBox_10 : decode cX4_holdsBox 10 = .ok (.goto 4, 3) := by decide +kernel
theorem dX4_holdsBox_13 : decode cX4_holdsBox 13 = .ok (.iconst 0, 1) := by decide +kernel
theorem dX4_holdsBox_14 : decode cX4_holdsBox 14 = .ok (.ireturn, 1) := by decide +kernel
set_option maxRecDepth 20000 in
theorem ggX4_sameSpot_X4_homeOf : GoodIn wsX4_sameSpot wsX4_homeOf := goodIn_r _ [5, 6, 12, 13, 14, 15, 16] (by decide +kernel) (by decide +kernel)
set_option maxRecDepth 20000 in
theorem gX4_sameSpot_X4_homeOf : GoodIn wsX4_sameSpot (wsV RX4 57 RX4 yX4_homeOf wsX4_homeOf) := goodIn_app (goodIn_of _ (by decide +kernel)) ggX4_sameSpot_X4_homeOf
set_option maxRecDepth 20000 in
theorem ggX4_sameSpot_X4_placeIn : GoodIn wsX4_sameSpot wsX4_placeIn := goodIn_r _ [10, 11, 12, 13, 14, 15, 16] (by decide +kernel) (by decide +kernel)
set_option maxRecDepth 20000 in
theorem gX4_sameSpot_X4_placeIn : GoodIn wsX4_sameSpot (wsV RX4 60 RX4 yX4_placeIn wsX4_placeIn) := goodIn_app (goodIn_of _ (by decide +kernel)) ggX4_sameSpot_X4_placeIn
theorem dX4_sameSpot_0 : decode cX4_sameSpot 0 = .ok (.aload_n 0, 1) := by decide +kernel
theorem dX4_sameSpot_1 : decode cX4_sameSpot 1 = .ok (.iload_n 2, 1) := by decide +kernel
theorem dX4_sameSpot_2 : decode cX4_sameSpot 2 = .ok (.invokevirtual 57, 3) := by decide +kernel
theorem dX4_sameSpot_5 : decode cX4_sameSpot 5 = .ok (.istore_n 3, 1) := by decide +kernel
theorem dX4_sameSpot_6 : decode cX4_sameSpot 6 = .ok (.iload_n 3, 1) := by decide +kernel
theorem dX4_sameSpot_7 : decode cX4_sameSpot 7 = .ok (.aload_n 1, 1) := by decide +kernel
theorem dX4_sameSpot_8 : decode cX4_sameSpot 8 = .ok (.iload_n 2, 1) := by decide +kernel
theorem dX4_sameSpot_9 : decode cX4_sameSpot 9 = .ok (.invokevirtual 57, 3) := by decide +kernel
theorem dX4_sameSpot_12 : decode cX4_sameSpot 12 = .ok (.if_icmp .ne 22, 3) := by decide +kernel
theorem dX4_sameSpot_15 : decode cX4_sameSpot 15 = .ok (.aload_n 0, 1) := by decide +kernel
theorem dX4_sameSpot_16 : decode cX4_sameSpot 16 = .ok (.iload_n 3, 1) := by decide +kernel
theorem dX4_sameSpot_17 : decode cX4_sameSpot 17 = .ok (.iload_n 2, 1) := by decide +kernel
theorem dX4_sameSpot_18 : decode cX4_sameSpot 18 = .ok (.invokevirtual 60, 3) := by decide +kernel
theorem dX4_sameSpot_21 : decode cX4_sameSpot 21 = .ok (.aload_n 1, 1) := by decide +kernel
theorem dX4_sameSpot_22 : decode cX4_sameSpot 22 = .ok (.iload_n 3, 1) := by decide +kernel
theorem dX4_sameSpot_23 : decode cX4_sameSpot 23 = .ok (.iload_n 2, 1) := by decide +kernel
theorem dX4_sameSpot_24 : decode cX4_sameSpot 24 = .ok (.invokevirtual 60, 3) := by decide +kernel
theorem dX4_sameSpot_27 : decode cX4_sameSpot 27 = .ok (.if_icmp .ne 7, 3) := by decide +kernel
theorem dX4_sameSpot_30 : decode cX4_sameSpot 30 = .ok (.iconst 1, 1) := by decide +kernel
theorem dX4_sameSpot_31 : decode cX4_sameSpot 31 = .ok (.goto 4, 3) := by decide +kernel
theorem dX4_sameSpot_34 : decode cX4_sameSpot 34 = .ok (.iconst 0, 1) := by decide +kernel
theorem dX4_sameSpot_35 : decode cX4_sameSpot 35 = .ok (.ireturn, 1) := by decide +kernel
theorem dX4_homeOf_0 : decode cX4_homeOf 0 = .ok (.iload_n 1, 1) := by decide +kernel
theorem dX4_homeOf_1 : decode cX4_homeOf 1 = .ok (.ifCond .lt 18, 3) := by decide +kernel
theorem dX4_homeOf_4 : decode cX4_homeOf 4 = .ok (.iload_n 1, 1) := by decide +kernel
theorem dX4_homeOf_5 : decode cX4_homeOf 5 = .ok (.bipush 16, 2) := by decide +kernel
theorem dX4_homeOf_7 : decode cX4_homeOf 7 = .ok (.if_icmp .ge 12, 3) := by decide +kernel
theorem dX4_homeOf_10 : decode cX4_homeOf 10 = .ok (.aload_n 0, 1) := by decide +kernel
theorem dX4_homeOf_11 : decode cX4_homeOf 11 = .ok (.getfield 21, 3) := by decide +kernel
theorem dX4_homeOf_14 : decode cX4_homeOf 14 = .ok (.iload_n 1, 1) := by decide +kernel
theorem dX4_homeOf_15 : decode cX4_homeOf 15 = .ok (.iaload, 1) := by decide +kernel
theorem dX4_homeOf_16 : decode cX4_homeOf 16 = .ok (.goto 4, 3) := by decide +kernel
theorem dX4_homeOf_19 : decode cX4_homeOf 19 = .ok (.iconst (-1), 1) := by decide +kernel
theorem dX4_homeOf_20 : decode cX4_homeOf 20 = .ok (.ireturn, 1) := by decide +kernel
set_option maxRecDepth 20000 in
theorem ggX4_empty_J7_fill_53178 : GoodIn wsX4_empty wsJ7_fill_53178 := goodIn_r _ [12] (by decide +kernel) (by decide +kernel)
set_option maxRecDepth 20000 in
theorem gX4_empty_J7_fill_53178 : GoodIn wsX4_empty (va_wsS RX4 68 yJ7_fill_53178 wsJ7_fill_53178) := goodIn_app (goodIn_of _ (by decide +kernel)) ggX4_empty_J7_fill_53178
theorem dX4_empty_0 : decode cX4_empty 0 = .ok (.aload_n 0, 1) := by decide +kernel
theorem dX4_empty_1 : decode cX4_empty 1 = .ok (.iload_n 1, 1) := by decide +kernel
theorem dX4_empty_2 : decode cX4_empty 2 = .ok (.bipush 24, 2) := by decide +kernel
theorem dX4_empty_4 : decode cX4_empty 4 = .ok (.invokestatic 63, 3) := by decide +kernel
theorem dX4_empty_7 : decode cX4_empty 7 = .ok (.putfield 38, 3) := by decide +kernel
theorem dX4_empty_10 : decode cX4_empty 10 = .ok (.aload_n 0, 1) := by decide +kernel
theorem dX4_empty_11 : decode cX4_empty 11 = .ok (.getfield 9, 3) := by decide +kernel
theorem dX4_empty_14 : decode cX4_empty 14 = .ok (.iconst 0, 1) := by decide +kernel
theorem dX4_empty_15 : decode cX4_empty 15 = .ok (.invokestatic 68, 3) := by decide +kernel
theorem dX4_empty_18 : decode cX4_empty 18 = .ok (.aload_n 0, 1) := by decide +kernel
theorem dX4_empty_19 : decode cX4_empty 19 = .ok (.getfield 18, 3) := by decide +kernel
theorem dX4_empty_22 : decode cX4_empty 22 = .ok (.iconst (-1), 1) := by decide +kernel
theorem dX4_empty_23 : decode cX4_empty 23 = .ok (.invokestatic 68, 3) := by decide +kernel
theorem dX4_empty_26 : decode cX4_empty 26 = .ok (.aload_n 0, 1) := by decide +kernel
theorem dX4_empty_27 : decode cX4_empty 27 = .ok (.getfield 21, 3) := by decide +kernel
theorem dX4_empty_30 : decode cX4_empty 30 = .ok (.iconst (-1), 1) := by decide +kernel
theorem dX4_empty_31 : decode cX4_empty 31 = .ok (.invokestatic 68, 3) := by decide +kernel
theorem dX4_empty_34 : decode cX4_empty 34 = .ok (.return_, 1) := by decide +kernel
set_option maxRecDepth 20000 in
theorem ggX4_append_X4_put : GoodIn wsX4_append wsX4_put := goodIn_r _ [6, 7, 8, 9, 10, 11, 12, 5, 13, 14, 1, 15, 16, 17, 18, 19] (by decide +kernel) (by decide +kernel)
set_option maxRecDepth 20000 in
theorem gX4_append_X4_put : GoodIn wsX4_append (wsV RX4 74 RX4 yX4_put wsX4_put) := goodIn_app (goodIn_of _ (by decide +kernel)) ggX4_append_X4_put
theorem dX4_append_0 : decode cX4_append 0 = .ok (.iload_n 1, 1) := by decide +kernel
theorem dX4_append_1 : decode cX4_append 1 = .ok (.ifCond .lt 44, 3) := by decide +kernel
theorem dX4_append_4 : decode cX4_append 4 = .ok (.iload_n 1, 1) := by decide +kernel
theorem dX4_append_5 : decode cX4_append 5 = .ok (.bipush 24, 2) := by decide +kernel
theorem dX4_append_7 : decode cX4_append 7 = .ok (.if_icmp .ge 38, 3) := by decide +kernel
theorem dX4_append_10 : decode cX4_append 10 = .ok (.aload_n 0, 1) := by decide +kernel
theorem dX4_append_11 : decode cX4_append 11 = .ok (.getfield 9, 3) := by decide +kernel
theorem dX4_append_14 : decode cX4_append 14 = .ok (.iload_n 1, 1) := by decide +kernel
theorem dX4_append_15 : decode cX4_append 15 = .ok (.iaload, 1) := by decide +kernel
theorem dX4_append_16 : decode cX4_append 16 = .ok (.bipush 40, 2) := by decide +kernel
theorem dX4_append_18 : decode cX4_append 18 = .ok (.if_icmp .ge 27, 3) := by decide +kernel
theorem dX4_append_21 : decode cX4_append 21 = .ok (.aload_n 0, 1) := by decide +kernel
theorem dX4_append_22 : decode cX4_append 22 = .ok (.getfield 9, 3) := by decide +kernel
theorem dX4_append_25 : decode cX4_append 25 = .ok (.iload_n 1, 1) := by decide +kernel
theorem dX4_append_26 : decode cX4_append 26 = .ok (.dup2, 1) := by decide +kernel
theorem dX4_append_27 : decode cX4_append 27 = .ok (.iaload, 1) := by decide +kernel
theorem dX4_append_28 : decode cX4_append 28 = .ok (.iconst 1, 1) := by decide +kernel
theorem dX4_append_29 : decode cX4_append 29 = .ok (.iadd, 1) := by decide +kernel
theorem dX4_append_30 : decode cX4_append 30 = .ok (.iastore, 1) := by decide +kernel
theorem dX4_append_31 : decode cX4_append 31 = .ok (.aload_n 0, 1) := by decide +kernel
theorem dX4_append_32 : decode cX4_append 32 = .ok (.iload_n 1, 1) := by decide +kernel
theorem dX4_append_33 : decode cX4_append 33 = .ok (.aload_n 0, 1) := by decide +kernel
theorem dX4_append_34 : decode cX4_append 34 = .ok (.getfield 9, 3) := by decide +kernel
theorem dX4_append_37 : decode cX4_append 37 = .ok (.iload_n 1, 1) := by decide +kernel
theorem dX4_append_38 : decode cX4_append 38 = .ok (.iaload, 1) := by decide +kernel
theorem dX4_append_39 : decode cX4_append 39 = .ok (.iconst 1, 1) := by decide +kernel
theorem dX4_append_40 : decode cX4_append 40 = .ok (.isub, 1) := by decide +kernel
theorem dX4_append_41 : decode cX4_append 41 = .ok (.iload_n 2, 1) := by decide +kernel
theorem dX4_append_42 : decode cX4_append 42 = .ok (.invokevirtual 74, 3) := by decide +kernel
theorem dX4_append_45 : decode cX4_append 45 = .ok (.return_, 1) := by decide +kernel
set_option maxRecDepth 20000 in
theorem ggX4_appendMissing_X3_holds : GoodIn wsX4_appendMissing wsX3_holds := goodIn_r _ [6, 7, 8, 9, 10, 11, 12, 13, 14, 15, 16, 5, 17, 18, 19, 20, 21, 22, 23, 24, 25, 26, 27, 28, 55, 56, 57, 58, 59, 60, 61, 62, 63, 64, 65] (by decide +kernel) (by decide +kernel)
set_option maxRecDepth 20000 in
theorem gX4_appendMissing_X3_holds : GoodIn wsX4_appendMissing (wsV RX4 49 RX3 yX3_holds wsX3_holds) := goodIn_app (goodIn_of _ (by decide +kernel)) ggX4_appendMissing_X3_holds
set_option maxRecDepth 20000 in
theorem ggX4_appendMissing_X4_placeIn : GoodIn wsX4_appendMissing wsX4_placeIn := goodIn_r _ [33, 34, 50, 51, 52, 53, 54] (by decide +kernel) (by decide +kernel)
set_option maxRecDepth 20000 in
theorem gX4_appendMissing_X4_placeIn : GoodIn wsX4_appendMissing (wsV RX4 60 RX4 yX4_placeIn wsX4_placeIn) := goodIn_app (goodIn_of _ (by decide +kernel)) ggX4_appendMissing_X4_placeIn
set_option maxRecDepth 20000 in
theorem ggX4_appendMissing_X4_append : GoodIn wsX4_appendMissing wsX4_append := goodIn_r _ [38, 39, 40, 41, 42, 32, 43, 44, 34, 45, 46, 47, 48, 49, 1, 50, 51, 52, 53, 54] (by decide +kernel) (by decide +kernel)
set_option maxRecDepth 20000 in
theorem gX4_appendMissing_X4_append : GoodIn wsX4_appendMissing (wsV RX4 53 RX4 yX4_append wsX4_append) := goodIn_app (goodIn_of _ (by decide +kernel)) ggX4_appendMissing_X4_append
theorem dX4_appendMissing_0 : decode cX4_appendMissing 0 = .ok (.iconst 0, 1) := by decide +kernel
theorem dX4_appendMissing_1 : decode cX4_appendMissing 1 = .ok (.istore_n 2, 1) := by decide +kernel
theorem dX4_appendMissing_2 : decode cX4_appendMissing 2 = .ok (.iload_n 2, 1) := by decide +kernel
theorem dX4_appendMissing_3 : decode cX4_appendMissing 3 = .ok (.aload_n 0, 1) := by decide +kernel
theorem dX4_appendMissing_4 : decode cX4_appendMissing 4 = .ok (.getfield 38, 3) := by decide +kernel
theorem dX4_appendMissing_7 : decode cX4_appendMissing 7 = .ok (.if_icmp .ge 48, 3) := by decide +kernel
theorem dX4_appendMissing_10 : decode cX4_appendMissing 10 = .ok (.iconst 0, 1) := by decide +kernel
theorem dX4_appendMissing_11 : decode cX4_appendMissing 11 = .ok (.istore_n 3, 1) := by decide +kernel
theorem dX4_appendMissing_12 : decode cX4_appendMissing 12 = .ok (.iload_n 3, 1) := by decide +kernel
theorem dX4_appendMissing_13 : decode cX4_appendMissing 13 = .ok (.bipush 40, 2) := by decide +kernel
theorem dX4_appendMissing_15 : decode cX4_appendMissing 15 = .ok (.if_icmp .ge 34, 3) := by decide +kernel
theorem dX4_appendMissing_18 : decode cX4_appendMissing 18 = .ok (.aload_n 1, 1) := by decide +kernel
theorem dX4_appendMissing_19 : decode cX4_appendMissing 19 = .ok (.iload_n 2, 1) := by decide +kernel
theorem dX4_appendMissing_20 : decode cX4_appendMissing 20 = .ok (.iload_n 3, 1) := by decide +kernel
theorem dX4_appendMissing_21 : decode cX4_appendMissing 21 = .ok (.invokevirtual 49, 3) := by decide +kernel
theorem dX4_appendMissing_24 : decode cX4_appendMissing 24 = .ok (.ifCond .eq 19, 3) := by decide +kernel
theorem dX4_appendMissing_27 : decode cX4_appendMissing 27 = .ok (.aload_n 0, 1) := by decide +kernel
theorem dX4_appendMissing_28 : decode cX4_appendMissing 28 = .ok (.iload_n 2, 1) := by decide +kernel
theorem dX4_appendMissing_29 : decode cX4_appendMissing 29 = .ok (.iload_n 3, 1) := by decide +kernel
theorem dX4_appendMissing_30 : decode cX4_appendMissing 30 = .ok (.invokevirtual 60, 3) := by decide +kernel
theorem dX4_appendMissing_33 : decode cX4_appendMissing 33 = .ok (.iconst (-1), 1) := by decide +kernel
theorem dX4_appendMissing_34 : decode cX4_appendMissing 34 = .ok (.if_icmp .ne 9, 3) := by decide +kernel
theorem dX4_appendMissing_37 : decode cX4_appendMissing 37 = .ok (.aload_n 0, 1) := by decide +kernel
theorem dX4_appendMissing_38 : decode cX4_appendMissing 38 = .ok (.iload_n 2, 1) := by decide +kernel
theorem dX4_appendMissing_39 : decode cX4_appendMissing 39 = .ok (.iload_n 3, 1) := by decide +kernel
theorem dX4_appendMissing_40 : decode cX4_appendMissing 40 = .ok (.invokevirtual 53, 3) := by decide +kernel
theorem dX4_appendMissing_43 : decode cX4_appendMissing 43 = .ok (.iinc 3 1, 3) := by decide +kernel
theorem dX4_appendMissing_46 : decode cX4_appendMissing 46 = .ok (.goto (-34), 3) := by decide +kernel
theorem dX4_appendMissing_49 : decode cX4_appendMissing 49 = .ok (.iinc 2 1, 3) := by decide +kernel
theorem dX4_appendMissing_52 : decode cX4_appendMissing 52 = .ok (.goto (-50), 3) := by decide +kernel
theorem dX4_appendMissing_55 : decode cX4_appendMissing 55 = .ok (.return_, 1) := by decide +kernel
set_option maxRecDepth 20000 in
theorem ggX5_init_X0_init : GoodIn wsX5_init wsX0_init := goodIn_r _ [22, 23, 2, 3, 4, 24, 25, 26, 27, 28, 29, 30, 31, 32, 33, 34, 47, 48, 49, 50, 51, 52, 53, 54, 55, 56] (by decide +kernel) (by decide +kernel)
set_option maxRecDepth 20000 in
theorem gX5_init_X0_init : GoodIn wsX5_init (wsX0_init) := ggX5_init_X0_init
theorem dX5_init_0 : decode cX5_init 0 = .ok (.aload_n 0, 1) := by decide +kernel
theorem dX5_init_1 : decode cX5_init 1 = .ok (.invokespecial 3, 3) := by decide +kernel
theorem dX5_init_4 : decode cX5_init 4 = .ok (.aload_n 0, 1) := by decide +kernel
theorem dX5_init_5 : decode cX5_init 5 = .ok (.bipush 24, 2) := by decide +kernel
theorem dX5_init_7 : decode cX5_init 7 = .ok (.newarray .int, 2) := by decide +kernel
theorem dX5_init_9 : decode cX5_init 9 = .ok (.putfield 9, 3) := by decide +kernel
theorem dX5_init_12 : decode cX5_init 12 = .ok (.aload_n 0, 1) := by decide +kernel
theorem dX5_init_13 : decode cX5_init 13 = .ok (.bipush 24, 2) := by decide +kernel
theorem dX5_init_15 : decode cX5_init 15 = .ok (.newarray .int, 2) := by decide +kernel
theorem dX5_init_17 : decode cX5_init 17 = .ok (.putfield 15, 3) := by decide +kernel
theorem dX5_init_20 : decode cX5_init 20 = .ok (.aload_n 0, 1) := by decide +kernel
theorem dX5_init_21 : decode cX5_init 21 = .ok (.bipush 40, 2) := by decide +kernel
theorem dX5_init_23 : decode cX5_init 23 = .ok (.newarray .int, 2) := by decide +kernel
theorem dX5_init_25 : decode cX5_init 25 = .ok (.putfield 18, 3) := by decide +kernel
theorem dX5_init_28 : decode cX5_init 28 = .ok (.aload_n 0, 1) := by decide +kernel
theorem dX5_init_29 : decode cX5_init 29 = .ok (.bipush 40, 2) := by decide +kernel
theorem dX5_init_31 : decode cX5_init 31 = .ok (.newarray .int, 2) := by decide +kernel
theorem dX5_init_33 : decode cX5_init 33 = .ok (.putfield 21, 3) := by decide +kernel
theorem dX5_init_36 : decode cX5_init 36 = .ok (.aload_n 0, 1) := by decide +kernel
theorem dX5_init_37 : decode cX5_init 37 = .ok (.bipush 40, 2) := by decide +kernel
theorem dX5_init_39 : decode cX5_init 39 = .ok (.newarray .int, 2) := by decide +kernel
theorem dX5_init_41 : decode cX5_init 41 = .ok (.putfield 24, 3) := by decide +kernel
theorem dX5_init_44 : decode cX5_init 44 = .ok (.aload_n 0, 1) := by decide +kernel
theorem dX5_init_45 : decode cX5_init 45 = .ok (.bipush 40, 2) := by decide +kernel
theorem dX5_init_47 : decode cX5_init 47 = .ok (.newarray .int, 2) := by decide +kernel
theorem dX5_init_49 : decode cX5_init 49 = .ok (.putfield 27, 3) := by decide +kernel
theorem dX5_init_52 : decode cX5_init 52 = .ok (.aload_n 0, 1) := by decide +kernel
theorem dX5_init_53 : decode cX5_init 53 = .ok (.bipush 40, 2) := by decide +kernel
theorem dX5_init_55 : decode cX5_init 55 = .ok (.newarray .int, 2) := by decide +kernel
theorem dX5_init_57 : decode cX5_init 57 = .ok (.putfield 30, 3) := by decide +kernel
theorem dX5_init_60 : decode cX5_init 60 = .ok (.aload_n 0, 1) := by decide +kernel
theorem dX5_init_61 : decode cX5_init 61 = .ok (.bipush 40, 2) := by decide +kernel
theorem dX5_init_63 : decode cX5_init 63 = .ok (.newarray .int, 2) := by decide +kernel
theorem dX5_init_65 : decode cX5_init 65 = .ok (.putfield 33, 3) := by decide +kernel
theorem dX5_init_68 : decode cX5_init 68 = .ok (.aload_n 0, 1) := by decide +kernel
theorem dX5_init_69 : decode cX5_init 69 = .ok (.aload_n 1, 1) := by decide +kernel
theorem dX5_init_70 : decode cX5_init 70 = .ok (.putfield 36, 3) := by decide +kernel
theorem dX5_init_73 : decode cX5_init 73 = .ok (.aload_n 0, 1) := by decide +kernel
theorem dX5_init_74 : decode cX5_init 74 = .ok (.aload_n 2, 1) := by decide +kernel
theorem dX5_init_75 : decode cX5_init 75 = .ok (.putfield 40, 3) := by decide +kernel
theorem dX5_init_78 : decode cX5_init 78 = .ok (.aload_n 0, 1) := by decide +kernel
theorem dX5_init_79 : decode cX5_init 79 = .ok (.new 44, 3) := by decide +kernel
theorem dX5_init_82 : decode cX5_init 82 = .ok (.dup, 1) := by decide +kernel
theorem dX5_init_83 : decode cX5_init 83 = .ok (.aload_n 1, 1) := by decide +kernel
theorem dX5_init_84 : decode cX5_init 84 = .ok (.invokespecial 46, 3) := by decide +kernel
theorem dX5_init_87 : decode cX5_init 87 = .ok (.putfield 49, 3) := by decide +kernel
theorem dX5_init_90 : decode cX5_init 90 = .ok (.aload_n 0, 1) := by decide +kernel
theorem dX5_init_91 : decode cX5_init 91 = .ok (.iconst 0, 1) := by decide +kernel
theorem dX5_init_92 : decode cX5_init 92 = .ok (.putfield 53, 3) := by decide +kernel
theorem dX5_init_95 : decode cX5_init 95 = .ok (.return_, 1) := by decide +kernel
set_option maxRecDepth 20000 in
theorem ggX5_improve_X5_sweep : GoodIn wsX5_improve wsX5_sweep := goodIn_r _ [6, 7, 8, 9, 10, 11, 12, 13, 14, 15, 5, 16, 17, 18, 19, 20, 21, 22, 23, 24, 25, 26, 27, 28, 29, 30, 31, 32, 33, 34, 35, 36, 37, 38, 39, 40, 41, 42, 43, 44, 45, 46, 47, 48, 49, 50, 51, 52, 53, 54, 55, 56, 57, 58, 59, 60, 61, 62, 63, 64, 65, 66, 67, 68, 69, 70, 71, 72, 73, 74, 75, 76, 77, 78, 79, 80, 81, 82, 83, 84, 85, 86, 87, 88, 89, 90, 91, 92, 93, 94, 95, 96, 97, 98, 99, 100, 101, 102, 103, 104, 105, 106, 107, 108, 109, 110, 111, 175, 176, 177, 178, 179, 163, 164, 165, 166, 167, 168, 169, 170, 171, 172, 173, 174, 180, 181, 182, 183, 184, 185, 186] (by decide +kernel) (by decide +kernel)
set_option maxRecDepth 20000 in
theorem gX5_improve_X5_sweep : GoodIn wsX5_improve (wsV RX5 57 RX5 yX5_sweep wsX5_sweep) := goodIn_app (goodIn_of _ (by decide +kernel)) ggX5_improve_X5_sweep
set_option maxRecDepth 20000 in
theorem ggX5_improve_X4_layers : GoodIn wsX5_improve wsX4_layers := goodIn_r _ [11, 12, 175, 176, 177, 178, 179] (by decide +kernel) (by decide +kernel)
set_option maxRecDepth 20000 in
theorem gX5_improve_X4_layers : GoodIn wsX5_improve (wsV RX5 61 RX4 yX4_layers wsX4_layers) := goodIn_app (goodIn_of _ (by decide +kernel)) ggX5_improve_X4_layers
set_option maxRecDepth 20000 in
theorem ggX5_improve_X0_arrange : GoodIn wsX5_improve wsX0_arrange := goodIn_r _ [116, 117, 118, 119, 120, 121, 122, 123, 69, 70, 10, 71, 12, 72, 124, 125, 126, 115, 127, 128, 129, 130, 26, 27, 28, 131, 132, 133, 56, 57, 58, 134, 32, 33, 34, 35, 36, 135, 38, 39, 40, 41, 42, 136, 44, 45, 46, 47, 137, 138, 139, 140, 141, 142, 143, 144, 74, 75, 76, 77, 78, 145, 146, 147, 148, 149, 150, 151, 152, 153, 154, 155, 156, 157, 158, 159, 160, 161, 162, 108, 109, 110, 111, 187, 188, 189, 190, 191, 192, 193, 194, 195, 196, 175, 176, 177, 178, 179, 180, 181, 182, 183] (by decide +kernel) (by decide +kernel)
set_option maxRecDepth 20000 in
theorem gX5_improve_X0_arrange : GoodIn wsX5_improve (wsV RX5 67 RX0 yX0_arrange wsX0_arrange) := goodIn_app (goodIn_of _ (by decide +kernel)) ggX5_improve_X0_arrange
theorem dX5_improve_0 : decode cX5_improve 0 = .ok (.iconst 0, 1) := by decide +kernel
theorem dX5_improve_1 : decode cX5_improve 1 = .ok (.istore_n 3, 1) := by decide +kernel
theorem dX5_improve_2 : decode cX5_improve 2 = .ok (.iload_n 3, 1) := by decide +kernel
theorem dX5_improve_3 : decode cX5_improve 3 = .ok (.iload_n 2, 1) := by decide +kernel
theorem dX5_improve_4 : decode cX5_improve 4 = .ok (.if_icmp .ge 14, 3) := by decide +kernel
theorem dX5_improve_7 : decode cX5_improve 7 = .ok (.aload_n 0, 1) := by decide +kernel
theorem dX5_improve_8 : decode cX5_improve 8 = .ok (.aload_n 1, 1) := by decide +kernel
theorem dX5_improve_9 : decode cX5_improve 9 = .ok (.invokevirtual 57, 3) := by decide +kernel
theorem dX5_improve_12 : decode cX5_improve 12 = .ok (.iinc 3 1, 3) := by decide +kernel
theorem dX5_improve_15 : decode cX5_improve 15 = .ok (.goto (-13), 3) := by decide +kernel
theorem dX5_improve_18 : decode cX5_improve 18 = .ok (.iconst 1, 1) := by decide +kernel
theorem dX5_improve_19 : decode cX5_improve 19 = .ok (.istore_n 3, 1) := by decide +kernel
theorem dX5_improve_20 : decode cX5_improve 20 = .ok (.iload_n 3, 1) := by decide +kernel
theorem dX5_improve_21 : decode cX5_improve 21 = .ok (.aload_n 1, 1) := by decide +kernel
theorem dX5_improve_22 : decode cX5_improve 22 = .ok (.invokevirtual 61, 3) := by decide +kernel
theorem dX5_improve_25 : decode cX5_improve 25 = .ok (.if_icmp .ge 18, 3) := by decide +kernel
theorem dX5_improve_28 : decode cX5_improve 28 = .ok (.aload_n 0, 1) := by decide +kernel
theorem dX5_improve_29 : decode cX5_improve 29 = .ok (.getfield 49, 3) := by decide +kernel
theorem dX5_improve_32 : decode cX5_improve 32 = .ok (.aload_n 1, 1) := by decide +kernel
theorem dX5_improve_33 : decode cX5_improve 33 = .ok (.iload_n 3, 1) := by decide +kernel
theorem dX5_improve_34 : decode cX5_improve 34 = .ok (.invokevirtual 67, 3) := by decide +kernel
theorem dX5_improve_37 : decode cX5_improve 37 = .ok (.iinc 3 1, 3) := by decide +kernel
theorem dX5_improve_40 : decode cX5_improve 40 = .ok (.goto (-20), 3) := by decide +kernel
theorem dX5_improve_43 : decode cX5_improve 43 = .ok (.return_, 1) := by decide +kernel
set_option maxRecDepth 20000 in
theorem ggX5_sweep_X4_layers : GoodIn wsX5_sweep wsX4_layers := goodIn_r _ [5, 6, 107, 108, 109, 110, 111] (by decide +kernel) (by decide +kernel)
set_option maxRecDepth 20000 in
theorem gX5_sweep_X4_layers : GoodIn wsX5_sweep (wsV RX5 61 RX4 yX4_layers wsX4_layers) := goodIn_app (goodIn_of _ (by decide +kernel)) ggX5_sweep_X4_layers
set_option maxRecDepth 20000 in
theorem ggX5_sweep_X5_step : GoodIn wsX5_sweep wsX5_step := goodIn_r _ [11, 12, 13, 14, 15, 16, 17, 10, 18, 19, 20, 21, 22, 23, 24, 25, 26, 27, 28, 29, 30, 31, 32, 33, 34, 35, 36, 37, 38, 39, 40, 4, 41, 42, 43, 44, 45, 46, 47, 48, 49, 50, 51, 52, 53, 54, 55, 56, 57, 58, 59, 60, 61, 62, 63, 64, 65, 66, 6, 67, 68, 69, 70, 71, 72, 73, 74, 75, 76, 77, 78, 79, 80, 81, 82, 83, 84, 85, 86, 87, 88, 89, 90, 91, 92, 93, 94, 95, 96, 97, 98, 99, 100, 101, 102, 103, 104, 105, 106, 112, 113, 114, 115, 116, 117, 118, 119, 120, 121, 122, 123, 124, 125, 126, 127, 107, 108, 109, 110, 111, 128, 129, 130] (by decide +kernel) (by decide +kernel)
set_option maxRecDepth 20000 in
theorem gX5_sweep_X5_step : GoodIn wsX5_sweep (wsV RX5 71 RX5 yX5_step wsX5_step) := goodIn_app (goodIn_of _ (by decide +kernel)) ggX5_sweep_X5_step
theorem dX5_sweep_0 : decode cX5_sweep 0 = .ok (.iconst 1, 1) := by decide +kernel
theorem dX5_sweep_1 : decode cX5_sweep 1 = .ok (.istore_n 2, 1) := by decide +kernel
theorem dX5_sweep_2 : decode cX5_sweep 2 = .ok (.iload_n 2, 1) := by decide +kernel
theorem dX5_sweep_3 : decode cX5_sweep 3 = .ok (.aload_n 1, 1) := by decide +kernel
theorem dX5_sweep_4 : decode cX5_sweep 4 = .ok (.invokevirtual 61, 3) := by decide +kernel
theorem dX5_sweep_7 : decode cX5_sweep 7 = .ok (.if_icmp .ge 16, 3) := by decide +kernel
theorem dX5_sweep_10 : decode cX5_sweep 10 = .ok (.aload_n 0, 1) := by decide +kernel
theorem dX5_sweep_11 : decode cX5_sweep 11 = .ok (.aload_n 1, 1) := by decide +kernel
theorem dX5_sweep_12 : decode cX5_sweep 12 = .ok (.iload_n 2, 1) := by decide +kernel
theorem dX5_sweep_13 : decode cX5_sweep 13 = .ok (.iconst 1, 1) := by decide +kernel
theorem dX5_sweep_14 : decode cX5_sweep 14 = .ok (.invokevirtual 71, 3) := by decide +kernel
theorem dX5_sweep_17 : decode cX5_sweep 17 = .ok (.iinc 2 1, 3) := by decide +kernel
theorem dX5_sweep_20 : decode cX5_sweep 20 = .ok (.goto (-18), 3) := by decide +kernel
theorem dX5_sweep_23 : decode cX5_sweep 23 = .ok (.aload_n 1, 1) := by decide +kernel
theorem dX5_sweep_24 : decode cX5_sweep 24 = .ok (.invokevirtual 61, 3) := by decide +kernel
theorem dX5_sweep_27 : decode cX5_sweep 27 = .ok (.iconst 2, 1) := by decide +kernel
theorem dX5_sweep_28 : decode cX5_sweep 28 = .ok (.isub, 1) := by decide +kernel
theorem dX5_sweep_29 : decode cX5_sweep 29 = .ok (.istore_n 2, 1) := by decide +kernel
theorem dX5_sweep_30 : decode cX5_sweep 30 = .ok (.iload_n 2, 1) := by decide +kernel
theorem dX5_sweep_31 : decode cX5_sweep 31 = .ok (.ifCond .lt 16, 3) := by decide +kernel
theorem dX5_sweep_34 : decode cX5_sweep 34 = .ok (.aload_n 0, 1) := by decide +kernel
theorem dX5_sweep_35 : decode cX5_sweep 35 = .ok (.aload_n 1, 1) := by decide +kernel
theorem dX5_sweep_36 : decode cX5_sweep 36 = .ok (.iload_n 2, 1) := by decide +kernel
theorem dX5_sweep_37 : decode cX5_sweep 37 = .ok (.iconst 0, 1) := by decide +kernel
theorem dX5_sweep_38 : decode cX5_sweep 38 = .ok (.invokevirtual 71, 3) := by decide +kernel
theorem dX5_sweep_41 : decode cX5_sweep 41 = .ok (.iinc 2 (-1), 3) := by decide +kernel
theorem dX5_sweep_44 : decode cX5_sweep 44 = .ok (.goto (-14), 3) := by decide +kernel
theorem dX5_sweep_47 : decode cX5_sweep 47 = .ok (.return_, 1) := by decide +kernel
set_option maxRecDepth 20000 in
theorem ggX5_step_X5_loadEnds : GoodIn wsX5_step wsX5_loadEnds := goodIn_r _ [8, 9, 10, 11, 12, 13, 14, 15, 16, 17, 18, 19, 20, 21, 22, 23, 24, 25, 26, 27, 28, 29, 30, 31, 32, 33, 99, 100, 101, 102, 103, 104, 105, 106, 107, 108, 109, 110, 111, 112, 113, 114, 115, 116, 117, 118, 119] (by decide +kernel) (by decide +kernel)
set_option maxRecDepth 20000 in
theorem gX5_step_X5_loadEnds : GoodIn wsX5_step (wsV RX5 75 RX5 yX5_loadEnds wsX5_loadEnds) := goodIn_app (goodIn_of _ (by decide +kernel)) ggX5_step_X5_loadEnds
set_option maxRecDepth 20000 in
theorem ggX5_step_X5_findMedians : GoodIn wsX5_step wsX5_findMedians := goodIn_r _ [37, 38, 39, 40, 15, 14, 41, 42, 43, 44, 45, 46, 7, 47, 99, 100, 101, 102, 103, 104, 105, 106, 107, 108, 109, 110] (by decide +kernel) (by decide +kernel)
set_option maxRecDepth 20000 in
theorem gX5_step_X5_findMedians : GoodIn wsX5_step (wsV RX5 79 RX5 yX5_findMedians wsX5_findMedians) := goodIn_app (goodIn_of _ (by decide +kernel)) ggX5_step_X5_findMedians
set_option maxRecDepth 20000 in
theorem ggX5_step_X5_gatherMovers : GoodIn wsX5_step wsX5_gatherMovers := goodIn_r _ [51, 52, 10, 11, 12, 13, 40, 3, 53, 54, 55, 56, 31, 57, 58, 59, 60, 61, 62, 63, 64, 65, 45, 46, 7, 47, 99, 100, 101, 102, 103, 104, 105, 106, 107, 108, 109, 110, 115, 116, 117, 118, 119] (by decide +kernel) (by decide +kernel)
set_option maxRecDepth 20000 in
theorem gX5_step_X5_gatherMovers : GoodIn wsX5_step (wsV RX5 83 RX5 yX5_gatherMovers wsX5_gatherMovers) := goodIn_app (goodIn_of _ (by decide +kernel)) ggX5_step_X5_gatherMovers
set_option maxRecDepth 20000 in
theorem ggX5_step_X5_sortMovers : GoodIn wsX5_step wsX5_sortMovers := goodIn_r _ [69, 52, 3, 40, 2, 99, 100, 101, 102, 103, 104, 105, 106, 107, 108, 109, 110] (by decide +kernel) (by decide +kernel)
set_option maxRecDepth 20000 in
theorem gX5_step_X5_sortMovers : GoodIn wsX5_step (wsV RX5 86 RX5 yX5_sortMovers wsX5_sortMovers) := goodIn_app (goodIn_of _ (by decide +kernel)) ggX5_step_X5_sortMovers
set_option maxRecDepth 20000 in
theorem ggX5_step_X2_around : GoodIn wsX5_step wsX2_around := goodIn_r _ [74, 75, 76, 77, 73, 78, 79, 80, 11, 12, 13, 81, 82, 83, 17, 18, 19, 20, 21, 84, 23, 24, 25, 26, 27, 85, 29, 30, 31, 32, 33, 86, 87, 88, 89, 120, 121, 122, 111, 112, 113, 114, 115, 116, 117, 118, 119] (by decide +kernel) (by decide +kernel)
set_option maxRecDepth 20000 in
theorem gX5_step_X2_around : GoodIn wsX5_step (wsV RX5 90 RX2 yX2_around wsX2_around) := goodIn_app (goodIn_of _ (by decide +kernel)) ggX5_step_X2_around
set_option maxRecDepth 20000 in
theorem ggX5_step_X5_putMovers : GoodIn wsX5_step wsX5_putMovers := goodIn_r _ [93, 52, 53, 94, 95, 96, 31, 97, 64, 33, 98, 65, 55, 56, 57, 58, 59, 99, 100, 101, 102, 103, 104, 105, 106, 107, 108, 109, 110, 115, 116, 117, 118, 119] (by decide +kernel) (by decide +kernel)
set_option maxRecDepth 20000 in
theorem gX5_step_X5_putMovers : GoodIn wsX5_step (wsV RX5 96 RX5 yX5_putMovers wsX5_putMovers) := goodIn_app (goodIn_of _ (by decide +kernel)) ggX5_step_X5_putMovers
theorem dX5_step_0 : decode cX5_step 0 = .ok (.aload_n 0, 1) := by decide +kernel
theorem dX5_step_1 : decode cX5_step 1 = .ok (.aload_n 0, 1) := by decide +kernel
theorem dX5_step_2 : decode cX5_step 2 = .ok (.aload_n 1, 1) := by decide +kernel
theorem dX5_step_3 : decode cX5_step 3 = .ok (.iload_n 2, 1) := by decide +kernel
theorem dX5_step_4 : decode cX5_step 4 = .ok (.iload_n 3, 1) := by decide +kernel
theorem dX5_step_5 : decode cX5_step 5 = .ok (.invokevirtual 75, 3) := by decide +kernel
theorem dX5_step_8 : decode cX5_step 8 = .ok (.invokevirtual 79, 3) := by decide +kernel
theorem dX5_step_11 : decode cX5_step 11 = .ok (.aload_n 0, 1) := by decide +kernel
theorem dX5_step_12 : decode cX5_step 12 = .ok (.aload_n 1, 1) := by decide +kernel
theorem dX5_step_13 : decode cX5_step 13 = .ok (.iload_n 2, 1) := by decide +kernel
theorem dX5_step_14 : decode cX5_step 14 = .ok (.invokevirtual 83, 3) := by decide +kernel
theorem dX5_step_17 : decode cX5_step 17 = .ok (.aload_n 0, 1) := by decide +kernel
theorem dX5_step_18 : decode cX5_step 18 = .ok (.invokevirtual 86, 3) := by decide +kernel
theorem dX5_step_21 : decode cX5_step 21 = .ok (.ifCond .ne 4, 3) := by decide +kernel
theorem dX5_step_24 : decode cX5_step 24 = .ok (.return_, 1) := by decide +kernel
theorem dX5_step_25 : decode cX5_step 25 = .ok (.aload_n 0, 1) := by decide +kernel
theorem dX5_step_26 : decode cX5_step 26 = .ok (.getfield 40, 3) := by decide +kernel
theorem dX5_step_29 : decode cX5_step 29 = .ok (.aload_n 1, 1) := by decide +kernel
theorem dX5_step_30 : decode cX5_step 30 = .ok (.iload_n 2, 1) := by decide +kernel
theorem dX5_step_31 : decode cX5_step 31 = .ok (.invokevirtual 90, 3) := by decide +kernel
theorem dX5_step_34 : decode cX5_step 34 = .ok (.istore 4, 2) := by decide +kernel
theorem dX5_step_36 : decode cX5_step 36 = .ok (.aload_n 0, 1) := by decide +kernel
theorem dX5_step_37 : decode cX5_step 37 = .ok (.aload_n 1, 1) := by decide +kernel
theorem dX5_step_38 : decode cX5_step 38 = .ok (.iload_n 2, 1) := by decide +kernel
theorem dX5_step_39 : decode cX5_step 39 = .ok (.aload_n 0, 1) := by decide +kernel
theorem dX5_step_40 : decode cX5_step 40 = .ok (.getfield 30, 3) := by decide +kernel
theorem dX5_step_43 : decode cX5_step 43 = .ok (.invokevirtual 96, 3) := by decide +kernel
theorem dX5_step_46 : decode cX5_step 46 = .ok (.aload_n 0, 1) := by decide +kernel
theorem dX5_step_47 : decode cX5_step 47 = .ok (.getfield 40, 3) := by decide +kernel
theorem dX5_step_50 : decode cX5_step 50 = .ok (.aload_n 1, 1) := by decide +kernel
theorem dX5_step_51 : decode cX5_step 51 = .ok (.iload_n 2, 1) := by decide +kernel
theorem dX5_step_52 : decode cX5_step 52 = .ok (.invokevirtual 90, 3) := by decide +kernel
theorem dX5_step_55 : decode cX5_step 55 = .ok (.iload 4, 2) := by decide +kernel
theorem dX5_step_57 : decode cX5_step 57 = .ok (.if_icmp .le 13, 3) := by decide +kernel
theorem dX5_step_60 : decode cX5_step 60 = .ok (.aload_n 0, 1) := by decide +kernel
theorem dX5_step_61 : decode cX5_step 61 = .ok (.aload_n 1, 1) := by decide +kernel
theorem dX5_step_62 : decode cX5_step 62 = .ok (.iload_n 2, 1) := by decide +kernel
theorem dX5_step_63 : decode cX5_step 63 = .ok (.aload_n 0, 1) := by decide +kernel
theorem dX5_step_64 : decode cX5_step 64 = .ok (.getfield 27, 3) := by decide +kernel
theorem dX5_step_67 : decode cX5_step 67 = .ok (.invokevirtual 96, 3) := by decide +kernel
theorem dX5_step_70 : decode cX5_step 70 = .ok (.return_, 1) := by decide +kernel
set_option maxRecDepth 20000 in
theorem ggX5_loadEnds_X6_sizeOf : GoodIn wsX5_loadEnds wsX6_sizeOf := goodIn_r _ [12, 13, 38, 39, 40, 41] (by decide +kernel) (by decide +kernel)
set_option maxRecDepth 20000 in
theorem gX5_loadEnds_X6_sizeOf : GoodIn wsX5_loadEnds (wsV RX5 100 RX6 yX6_sizeOf wsX6_sizeOf) := goodIn_app (goodIn_of _ (by decide +kernel)) ggX5_loadEnds_X6_sizeOf
set_option maxRecDepth 20000 in
theorem ggX5_loadEnds_X6_endOf : GoodIn wsX5_loadEnds wsX6_endOf := goodIn_r _ [17, 13, 18, 19, 38, 39, 40, 41] (by decide +kernel) (by decide +kernel)
set_option maxRecDepth 20000 in
theorem gX5_loadEnds_X6_endOf : GoodIn wsX5_loadEnds (wsV RX5 112 RX6 yX6_endOf wsX6_endOf) := goodIn_app (goodIn_of _ (by decide +kernel)) ggX5_loadEnds_X6_endOf
set_option maxRecDepth 20000 in
theorem ggX5_loadEnds_X4_placeIn : GoodIn wsX5_loadEnds wsX4_placeIn := goodIn_r _ [24, 25, 42, 43, 44, 45, 46] (by decide +kernel) (by decide +kernel)
set_option maxRecDepth 20000 in
theorem gX5_loadEnds_X4_placeIn : GoodIn wsX5_loadEnds (wsV RX5 116 RX4 yX4_placeIn wsX4_placeIn) := goodIn_app (goodIn_of _ (by decide +kernel)) ggX5_loadEnds_X4_placeIn
theorem dX5_loadEnds_0 : decode cX5_loadEnds 0 = .ok (.iload_n 3, 1) := by decide +kernel
theorem dX5_loadEnds_1 : decode cX5_loadEnds 1 = .ok (.ifCond .eq 9, 3) := by decide +kernel
theorem dX5_loadEnds_4 : decode cX5_loadEnds 4 = .ok (.iload_n 2, 1) := by decide +kernel
theorem dX5_loadEnds_5 : decode cX5_loadEnds 5 = .ok (.iconst 1, 1) := by decide +kernel
theorem dX5_loadEnds_6 : decode cX5_loadEnds 6 = .ok (.isub, 1) := by decide +kernel
theorem dX5_loadEnds_7 : decode cX5_loadEnds 7 = .ok (.goto 4, 3) := by decide +kernel
theorem dX5_loadEnds_10 : decode cX5_loadEnds 10 = .ok (.iload_n 2, 1) := by decide +kernel
