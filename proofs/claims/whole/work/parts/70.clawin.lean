set_option maxRecDepth 20000 in
theorem lwin_26 : ∀ w ∈ wsL_law0_r27, w ∈ lw_tbl := fun w h => (goodIn_p wsL_law0_r27 [911, 915, 919, 1118, 1122, 1126] (by decide +kernel) (by decide +kernel) w h).1
set_option maxRecDepth 20000 in
theorem lwin_27 : ∀ w ∈ wsL_law0_r28, w ∈ lw_tbl := fun w h => (goodIn_p wsL_law0_r28 [1130, 1134, 1138, 1142, 1146, 1150] (by decide +kernel) (by decide +kernel) w h).1
set_option maxRecDepth 20000 in
theorem lwin_28 : ∀ w ∈ wsL_law0_r29, w ∈ lw_tbl := fun w h => (goodIn_p wsL_law0_r29 [1154, 1158, 1162, 1166, 1170, 1174] (by decide +kernel) (by decide +kernel) w h).1
set_option maxRecDepth 20000 in
theorem lwin_29 : ∀ w ∈ wsL_law0_r30, w ∈ lw_tbl := fun w h => (goodIn_p wsL_law0_r30 [1178, 1182, 1186, 1190, 1194, 1198] (by decide +kernel) (by decide +kernel) w h).1
set_option maxRecDepth 20000 in
theorem lwin_30 : ∀ w ∈ wsL_law0_r31, w ∈ lw_tbl := fun w h => (goodIn_p wsL_law0_r31 [1202, 1206, 1210, 1214, 1217] (by decide +kernel) (by decide +kernel) w h).1
set_option maxRecDepth 20000 in
theorem lwin_31 : ∀ w ∈ wsL_law0_r32, w ∈ lw_tbl := fun w h => (goodIn_p wsL_law0_r32 [926, 932, 444, 937, 941] (by decide +kernel) (by decide +kernel) w h).1
set_option maxRecDepth 20000 in
theorem lwin_32 : ∀ w ∈ wsL_law0_r33, w ∈ lw_tbl := fun w h => (goodIn_p wsL_law0_r33 [945, 949, 953, 1221, 1226, 1230] (by decide +kernel) (by decide +kernel) w h).1
set_option maxRecDepth 20000 in
theorem lwin_33 : ∀ w ∈ wsL_law0_r34, w ∈ lw_tbl := fun w h => (goodIn_p wsL_law0_r34 [1234, 960, 963, 1238] (by decide +kernel) (by decide +kernel) w h).1
set_option maxRecDepth 20000 in
theorem lwin_34 : ∀ w ∈ wsL_law0_r35, w ∈ lw_tbl := fun w h => (goodIn_p wsL_law0_r35 [974, 428, 1242, 392, 1246] (by decide +kernel) (by decide +kernel) w h).1
set_option maxRecDepth 20000 in
theorem lwin_35 : ∀ w ∈ wsL_law0_r36, w ∈ lw_tbl := fun w h => (goodIn_p wsL_law0_r36 [982, 986, 992, 1250, 1254, 1258] (by decide +kernel) (by decide +kernel) w h).1
set_option maxRecDepth 20000 in
theorem lwin_36 : ∀ w ∈ wsL_law0_r37, w ∈ lw_tbl := fun w h => (goodIn_p wsL_law0_r37 [1262, 999, 1004, 1266] (by decide +kernel) (by decide +kernel) w h).1
set_option maxRecDepth 20000 in
theorem lwin_37 : ∀ w ∈ wsL_law0_r38, w ∈ lw_tbl := fun w h => (goodIn_p wsL_law0_r38 [404, 408, 416, 424, 432, 440] (by decide +kernel) (by decide +kernel) w h).1
set_option maxRecDepth 20000 in
theorem lwin_38 : ∀ w ∈ wsL_law0_r39, w ∈ lw_tbl := fun w h => (goodIn_p wsL_law0_r39 [472, 497, 1270, 1274] (by decide +kernel) (by decide +kernel) w h).1
theorem inX9 : ∀ w ∈ wsX90, w ∈ lw_tbl := by decide +kernel
theorem inX10 : ∀ w ∈ wsX100, w ∈ lw_tbl := by decide +kernel
theorem inX7 : ∀ w ∈ wsX70, w ∈ lw_tbl := by decide +kernel
theorem inX3 : ∀ w ∈ wsX30, w ∈ lw_tbl := by decide +kernel
theorem inX6 : ∀ w ∈ wsX60, w ∈ lw_tbl := by decide +kernel
theorem inX2 : ∀ w ∈ wsX20, w ∈ lw_tbl := by decide +kernel
theorem inX5 : ∀ w ∈ wsX50, w ∈ lw_tbl := by decide +kernel
theorem inX1 : ∀ w ∈ wsX10, w ∈ lw_tbl := by decide +kernel
theorem inX8 : ∀ w ∈ wsX80, w ∈ lw_tbl := by decide +kernel
theorem inX4 : ∀ w ∈ wsX40, w ∈ lw_tbl := by decide +kernel
theorem inX0 : ∀ w ∈ wsX00, w ∈ lw_tbl := by decide +kernel
theorem mem_app {a b c : List Cond} (ha : ∀ w ∈ a, w ∈ c) (hb : ∀ w ∈ b, w ∈ c) : ∀ w ∈ a ++ b, w ∈ c := fun w h => (List.mem_append.mp h).elim (ha w) (hb w)
