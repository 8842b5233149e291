set_option maxRecDepth 20000 in
theorem lwin_0 : ∀ w ∈ wsL_law0_r1, w ∈ lw_tbl := fun w h => (goodIn_p wsL_law0_r1 [100, 103] (by decide +kernel) (by decide +kernel) w h).1
set_option maxRecDepth 20000 in
theorem lwin_1 : ∀ w ∈ wsL_law0_r2, w ∈ lw_tbl := fun w h => (goodIn_p wsL_law0_r2 [] (by decide +kernel) (by decide +kernel) w h).1
set_option maxRecDepth 20000 in
theorem lwin_2 : ∀ w ∈ wsL_law0_r3, w ∈ lw_tbl := fun w h => (goodIn_p wsL_law0_r3 [108, 112, 138] (by decide +kernel) (by decide +kernel) w h).1
set_option maxRecDepth 20000 in
theorem lwin_3 : ∀ w ∈ wsL_law0_r4, w ∈ lw_tbl := fun w h => (goodIn_p wsL_law0_r4 [161, 180, 196] (by decide +kernel) (by decide +kernel) w h).1
set_option maxRecDepth 20000 in
theorem lwin_4 : ∀ w ∈ wsL_law0_r5, w ∈ lw_tbl := fun w h => (goodIn_p wsL_law0_r5 [202] (by decide +kernel) (by decide +kernel) w h).1
set_option maxRecDepth 20000 in
theorem lwin_5 : ∀ w ∈ wsL_law0_r6, w ∈ lw_tbl := fun w h => (goodIn_p wsL_law0_r6 [276, 298] (by decide +kernel) (by decide +kernel) w h).1
set_option maxRecDepth 20000 in
theorem lwin_6 : ∀ w ∈ wsL_law0_r7, w ∈ lw_tbl := fun w h => (goodIn_p wsL_law0_r7 [329, 334, 337, 1009] (by decide +kernel) (by decide +kernel) w h).1
set_option maxRecDepth 20000 in
theorem lwin_7 : ∀ w ∈ wsL_law0_r8, w ∈ lw_tbl := fun w h => (goodIn_p wsL_law0_r8 [] (by decide +kernel) (by decide +kernel) w h).1
set_option maxRecDepth 20000 in
theorem lwin_8 : ∀ w ∈ wsL_law0_r9, w ∈ lw_tbl := fun w h => (goodIn_p wsL_law0_r9 [506, 509, 580, 1091, 1094, 1087] (by decide +kernel) (by decide +kernel) w h).1
set_option maxRecDepth 20000 in
theorem lwin_9 : ∀ w ∈ wsL_law0_r10, w ∈ lw_tbl := fun w h => (goodIn_p wsL_law0_r10 [587, 412, 592, 596, 420] (by decide +kernel) (by decide +kernel) w h).1
set_option maxRecDepth 20000 in
theorem lwin_10 : ∀ w ∈ wsL_law0_r11, w ∈ lw_tbl := fun w h => (goodIn_p wsL_law0_r11 [600, 604, 1098, 611, 614] (by decide +kernel) (by decide +kernel) w h).1
set_option maxRecDepth 20000 in
theorem lwin_11 : ∀ w ∈ wsL_law0_r12, w ∈ lw_tbl := fun w h => (goodIn_p wsL_law0_r12 [619, 625, 1102, 1106, 632] (by decide +kernel) (by decide +kernel) w h).1
set_option maxRecDepth 20000 in
theorem lwin_12 : ∀ w ∈ wsL_law0_r13, w ∈ lw_tbl := fun w h => (goodIn_p wsL_law0_r13 [637, 1110, 644, 649, 1114] (by decide +kernel) (by decide +kernel) w h).1
