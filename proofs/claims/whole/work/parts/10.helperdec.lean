theorem goodIn_cons {big a : List Cond} {c : Cond} (hc : GoodIn big [c]) (ha : GoodIn big a) : GoodIn big (c :: a) := fun w h => (List.mem_cons.mp h).elim (fun e => hc w (by rw [e]; exact List.mem_singleton_self _)) (ha w)
set_option maxRecDepth 20000 in
theorem ggL_box_X9_box : GoodIn wsL_box wsX9_box := goodIn_ca (goodIn_r _ [6, 7, 8, 9, 10, 11, 12, 5, 13, 14, 15, 16, 17, 18, 19, 20, 21, 22, 23, 24, 25, 26, 27, 28, 29, 30, 31, 32, 33, 34, 35, 36] (by decide +kernel) (by decide +kernel)) (goodIn_sub (fun _ h => List.mem_cons_of_mem _ (List.mem_append_right _ h)) (by decide +kernel))
set_option maxRecDepth 20000 in
theorem gL_box_X9_box : GoodIn wsL_box (wsV RL 7 RX9 yX9_box wsX9_box) := goodIn_app (goodIn_of _ (by decide +kernel)) ggL_box_X9_box
theorem dL_box_0 : decode cL_box 0 = .ok (.aload_n 0, 1) := by decide +kernel
theorem dL_box_1 : decode cL_box 1 = .ok (.iload_n 1, 1) := by decide +kernel
theorem dL_box_2 : decode cL_box 2 = .ok (.iload_n 2, 1) := by decide +kernel
theorem dL_box_3 : decode cL_box 3 = .ok (.invokevirtual 7, 3) := by decide +kernel
theorem dL_box_6 : decode cL_box 6 = .ok (.goto 6, 3) := by decide +kernel
theorem dL_box_9 : decode cL_box 9 = .ok (.astore_n 3, 1) := by decide +kernel
theorem dL_box_10 : decode cL_box 10 = .ok (.iconst 1, 1) := by decide +kernel
theorem dL_box_11 : decode cL_box 11 = .ok (.ireturn, 1) := by decide +kernel
theorem dL_box_12 : decode cL_box 12 = .ok (.iconst 0, 1) := by decide +kernel
theorem dL_box_13 : decode cL_box 13 = .ok (.ireturn, 1) := by decide +kernel
set_option maxRecDepth 20000 in
theorem ggL_remove_X9_remove : GoodIn wsL_remove wsX9_remove := goodIn_ca (goodIn_r _ [6, 7, 8, 9, 10, 5, 11, 12, 13, 14, 15, 16, 17, 18, 19, 20, 21, 22, 23, 24, 25, 26, 27, 28, 29, 30, 31, 32, 33, 34, 35, 36, 37, 38, 39, 40, 41, 42, 43, 44, 45, 46, 47, 48, 49, 50, 51, 52, 53, 54, 55, 56, 57, 58, 59, 60, 61, 62, 63, 64, 65, 66] (by decide +kernel) (by decide +kernel)) (goodIn_sub (fun _ h => List.mem_cons_of_mem _ (List.mem_append_right _ h)) (by decide +kernel))
set_option maxRecDepth 20000 in
theorem gL_remove_X9_remove : GoodIn wsL_remove (wsV RL 15 RX9 yX9_remove wsX9_remove) := goodIn_app (goodIn_of _ (by decide +kernel)) ggL_remove_X9_remove
theorem dL_remove_0 : decode cL_remove 0 = .ok (.aload_n 2, 1) := by decide +kernel
theorem dL_remove_1 : decode cL_remove 1 = .ok (.iconst 0, 1) := by decide +kernel
theorem dL_remove_2 : decode cL_remove 2 = .ok (.aload_n 0, 1) := by decide +kernel
theorem dL_remove_3 : decode cL_remove 3 = .ok (.iload_n 1, 1) := by decide +kernel
theorem dL_remove_4 : decode cL_remove 4 = .ok (.invokevirtual 15, 3) := by decide +kernel
theorem dL_remove_7 : decode cL_remove 7 = .ok (.ifCond .eq 7, 3) := by decide +kernel
theorem dL_remove_10 : decode cL_remove 10 = .ok (.lconst 1, 1) := by decide +kernel
theorem dL_remove_11 : decode cL_remove 11 = .ok (.goto 4, 3) := by decide +kernel
theorem dL_remove_14 : decode cL_remove 14 = .ok (.lconst 0, 1) := by decide +kernel
theorem dL_remove_15 : decode cL_remove 15 = .ok (.lastore, 1) := by decide +kernel
theorem dL_remove_16 : decode cL_remove 16 = .ok (.goto 6, 3) := by decide +kernel
theorem dL_remove_19 : decode cL_remove 19 = .ok (.astore_n 3, 1) := by decide +kernel
theorem dL_remove_20 : decode cL_remove 20 = .ok (.iconst 1, 1) := by decide +kernel
theorem dL_remove_21 : decode cL_remove 21 = .ok (.ireturn, 1) := by decide +kernel
theorem dL_remove_22 : decode cL_remove 22 = .ok (.iconst 0, 1) := by decide +kernel
theorem dL_remove_23 : decode cL_remove 23 = .ok (.ireturn, 1) := by decide +kernel
set_option maxRecDepth 20000 in
theorem ggL_arrow_X9_arrow : GoodIn wsL_arrow wsX9_arrow := goodIn_ca (goodIn_r _ [6, 7, 8, 9, 10, 11, 12, 5, 13, 14, 15, 16, 17, 18, 19, 20, 21, 22, 23, 24, 25, 26, 27, 28, 29, 30, 31, 32, 33, 34, 35, 36, 37, 38, 39, 40, 41, 42, 43, 44, 45, 46, 47, 48, 49, 50, 51, 52, 53, 54, 55, 56, 57, 58, 59, 60, 61, 62, 63, 64, 65, 66, 67, 68, 69] (by decide +kernel) (by decide +kernel)) (goodIn_sub (fun _ h => List.mem_cons_of_mem _ (List.mem_append_right _ h)) (by decide +kernel))
set_option maxRecDepth 20000 in
theorem gL_arrow_X9_arrow : GoodIn wsL_arrow (wsV RL 19 RX9 yX9_arrow wsX9_arrow) := goodIn_app (goodIn_of _ (by decide +kernel)) ggL_arrow_X9_arrow
theorem dL_arrow_0 : decode cL_arrow 0 = .ok (.aload_n 0, 1) := by decide +kernel
theorem dL_arrow_1 : decode cL_arrow 1 = .ok (.iload_n 1, 1) := by decide +kernel
theorem dL_arrow_2 : decode cL_arrow 2 = .ok (.iload_n 2, 1) := by decide +kernel
theorem dL_arrow_3 : decode cL_arrow 3 = .ok (.iload_n 3, 1) := by decide +kernel
theorem dL_arrow_4 : decode cL_arrow 4 = .ok (.invokevirtual 19, 3) := by decide +kernel
theorem dL_arrow_7 : decode cL_arrow 7 = .ok (.goto 7, 3) := by decide +kernel
theorem dL_arrow_10 : decode cL_arrow 10 = .ok (.astore 4, 2) := by decide +kernel
theorem dL_arrow_12 : decode cL_arrow 12 = .ok (.iconst 1, 1) := by decide +kernel
theorem dL_arrow_13 : decode cL_arrow 13 = .ok (.ireturn, 1) := by decide +kernel
theorem dL_arrow_14 : decode cL_arrow 14 = .ok (.iconst 0, 1) := by decide +kernel
theorem dL_arrow_15 : decode cL_arrow 15 = .ok (.ireturn, 1) := by decide +kernel
set_option maxRecDepth 20000 in
theorem ggL_drop_X9_drop : GoodIn wsL_drop wsX9_drop := goodIn_ca (goodIn_r _ [6, 7, 8, 9, 10, 5, 11, 12, 13, 14, 15, 16, 17, 18, 19, 20, 21, 22, 23, 24, 25, 26, 27, 28, 29, 30, 31, 32, 33, 34, 35, 36, 37, 38, 39, 40, 41, 42, 43, 44, 45, 46, 47, 48, 49, 50, 51, 52, 53, 54, 55, 56, 57, 58, 59, 60, 61, 62, 63, 64, 65] (by decide +kernel) (by decide +kernel)) (goodIn_sub (fun _ h => List.mem_cons_of_mem _ (List.mem_append_right _ h)) (by decide +kernel))
set_option maxRecDepth 20000 in
theorem gL_drop_X9_drop : GoodIn wsL_drop (wsV RL 23 RX9 yX9_drop wsX9_drop) := goodIn_app (goodIn_of _ (by decide +kernel)) ggL_drop_X9_drop
theorem dL_drop_0 : decode cL_drop 0 = .ok (.aload_n 2, 1) := by decide +kernel
theorem dL_drop_1 : decode cL_drop 1 = .ok (.iconst 0, 1) := by decide +kernel
theorem dL_drop_2 : decode cL_drop 2 = .ok (.aload_n 0, 1) := by decide +kernel
theorem dL_drop_3 : decode cL_drop 3 = .ok (.iload_n 1, 1) := by decide +kernel
theorem dL_drop_4 : decode cL_drop 4 = .ok (.invokevirtual 23, 3) := by decide +kernel
theorem dL_drop_7 : decode cL_drop 7 = .ok (.ifCond .eq 7, 3) := by decide +kernel
theorem dL_drop_10 : decode cL_drop 10 = .ok (.lconst 1, 1) := by decide +kernel
theorem dL_drop_11 : decode cL_drop 11 = .ok (.goto 4, 3) := by decide +kernel
theorem dL_drop_14 : decode cL_drop 14 = .ok (.lconst 0, 1) := by decide +kernel
theorem dL_drop_15 : decode cL_drop 15 = .ok (.lastore, 1) := by decide +kernel
theorem dL_drop_16 : decode cL_drop 16 = .ok (.goto 6, 3) := by decide +kernel
theorem dL_drop_19 : decode cL_drop 19 = .ok (.astore_n 3, 1) := by decide +kernel
theorem dL_drop_20 : decode cL_drop 20 = .ok (.iconst 1, 1) := by decide +kernel
theorem dL_drop_21 : decode cL_drop 21 = .ok (.ireturn, 1) := by decide +kernel
theorem dL_drop_22 : decode cL_drop 22 = .ok (.iconst 0, 1) := by decide +kernel
theorem dL_drop_23 : decode cL_drop 23 = .ok (.ireturn, 1) := by decide +kernel
set_option maxRecDepth 20000 in
theorem ggL_pin_X9_pin : GoodIn wsL_pin wsX9_pin := goodIn_ca (goodIn_r _ [6, 7, 8, 9, 10, 11, 12, 13, 5, 14, 15, 16, 17, 18, 19, 20, 21, 22, 23, 24, 25, 26, 27, 28, 29, 30, 31, 32, 33, 34, 35, 36, 37, 38, 39, 40, 41, 42, 43] (by decide +kernel) (by decide +kernel)) (goodIn_sub (fun _ h => List.mem_cons_of_mem _ (List.mem_append_right _ h)) (by decide +kernel))
set_option maxRecDepth 20000 in
theorem gL_pin_X9_pin : GoodIn wsL_pin (wsV RL 26 RX9 yX9_pin wsX9_pin) := goodIn_app (goodIn_of _ (by decide +kernel)) ggL_pin_X9_pin
theorem dL_pin_0 : decode cL_pin 0 = .ok (.aload_n 0, 1) := by decide +kernel
theorem dL_pin_1 : decode cL_pin 1 = .ok (.iload_n 1, 1) := by decide +kernel
theorem dL_pin_2 : decode cL_pin 2 = .ok (.iload_n 2, 1) := by decide +kernel
theorem dL_pin_3 : decode cL_pin 3 = .ok (.invokevirtual 26, 3) := by decide +kernel
theorem dL_pin_6 : decode cL_pin 6 = .ok (.goto 6, 3) := by decide +kernel
theorem dL_pin_9 : decode cL_pin 9 = .ok (.astore_n 3, 1) := by decide +kernel
theorem dL_pin_10 : decode cL_pin 10 = .ok (.iconst 1, 1) := by decide +kernel
theorem dL_pin_11 : decode cL_pin 11 = .ok (.ireturn, 1) := by decide +kernel
theorem dL_pin_12 : decode cL_pin 12 = .ok (.iconst 0, 1) := by decide +kernel
theorem dL_pin_13 : decode cL_pin 13 = .ok (.ireturn, 1) := by decide +kernel
set_option maxRecDepth 20000 in
theorem ggL_draw_X9_draw_c : GoodIn wsL_draw [.code yX9_draw cX9_draw 2 (some .boolean)] := goodIn_r _ [6] (by decide +kernel) (by decide +kernel)
set_option maxRecDepth 20000 in
theorem ggL_draw_X9_draw_0 : GoodIn wsL_draw wsX9_draw_r1 := goodIn_r _ [7, 8, 9, 10, 11, 5, 12, 13, 14, 15, 16, 17, 18, 19, 20, 21, 22, 23, 24, 25, 26, 27, 28, 29] (by decide +kernel) (by decide +kernel)
set_option maxRecDepth 20000 in
theorem ggL_draw_X9_draw_1 : GoodIn wsL_draw wsX9_draw_r2 := goodIn_r _ [30, 31, 32, 33, 34, 35, 36, 37, 38, 39, 40, 41, 42, 43, 44, 45, 46, 47, 48, 49, 50, 51, 52, 53] (by decide +kernel) (by decide +kernel)
set_option maxRecDepth 20000 in
theorem ggL_draw_X9_draw_2 : GoodIn wsL_draw wsX9_draw_r3 := goodIn_r _ [54, 55, 56, 57, 58, 59, 60, 61, 62, 63, 64, 65, 66, 67, 68, 69, 70, 71, 72, 73, 74, 75, 76, 77] (by decide +kernel) (by decide +kernel)
set_option maxRecDepth 20000 in
theorem ggL_draw_X9_draw_3 : GoodIn wsL_draw wsX9_draw_r4 := goodIn_r _ [78, 79, 80, 81, 82, 83, 84, 85, 86, 87, 88, 89, 90, 91, 92, 93, 94, 95, 96, 97, 98, 99, 100, 101] (by decide +kernel) (by decide +kernel)
set_option maxRecDepth 20000 in
theorem ggL_draw_X9_draw_4 : GoodIn wsL_draw wsX9_draw_r5 := goodIn_r _ [102, 103, 104, 105, 106, 107, 108, 109, 110, 111, 112, 113, 114, 115, 116, 117, 118, 119, 120, 121, 122, 123, 124, 125] (by decide +kernel) (by decide +kernel)
set_option maxRecDepth 20000 in
theorem ggL_draw_X9_draw_5 : GoodIn wsL_draw wsX9_draw_r6 := goodIn_r _ [126, 127, 128, 129, 130, 131, 132, 133, 134, 135, 136, 137, 138, 139, 140, 141, 142, 143, 144, 145, 146, 147, 148, 149] (by decide +kernel) (by decide +kernel)
set_option maxRecDepth 20000 in
theorem ggL_draw_X9_draw_6 : GoodIn wsL_draw wsX9_draw_r7 := goodIn_r _ [150, 151, 152, 153, 154, 155, 156, 157, 158, 159, 160, 161, 162, 163, 164, 165, 166, 167, 168, 169, 170, 171, 172, 173] (by decide +kernel) (by decide +kernel)
set_option maxRecDepth 20000 in
theorem ggL_draw_X9_draw_7 : GoodIn wsL_draw wsX9_draw_r8 := goodIn_r _ [174, 175, 176, 177, 178, 179, 180, 181, 182, 183, 184, 185, 186, 187, 188, 189, 190, 191, 192, 193, 194, 195, 196, 197] (by decide +kernel) (by decide +kernel)
set_option maxRecDepth 20000 in
theorem ggL_draw_X9_draw_8 : GoodIn wsL_draw wsX9_draw_r9 := goodIn_r _ [198, 199, 200, 201, 202, 203, 204, 205, 206, 207, 208, 209, 210, 211, 212, 213, 214, 215, 216, 217, 218, 219, 220, 221] (by decide +kernel) (by decide +kernel)
set_option maxRecDepth 20000 in
theorem ggL_draw_X9_draw_9 : GoodIn wsL_draw wsX9_draw_r10 := goodIn_r _ [222, 223, 224, 225, 226, 227, 228, 229, 230, 231, 232, 233, 234, 235, 236, 237, 238, 239, 240, 241, 242, 243, 244, 245] (by decide +kernel) (by decide +kernel)
set_option maxRecDepth 20000 in
theorem ggL_draw_X9_draw_10 : GoodIn wsL_draw wsX9_draw_r11 := goodIn_r _ [246, 247, 248, 249, 250, 251, 252, 253, 254, 255, 256, 257, 258, 259, 260, 261, 262, 263, 264, 265, 266, 267, 268, 269] (by decide +kernel) (by decide +kernel)
set_option maxRecDepth 20000 in
theorem ggL_draw_X9_draw_11 : GoodIn wsL_draw wsX9_draw_r12 := goodIn_r _ [270, 271, 272, 273, 274, 275, 276, 277, 278, 279, 280, 281, 282, 283, 284, 285, 286, 287, 288, 289, 290, 291, 292, 293] (by decide +kernel) (by decide +kernel)
set_option maxRecDepth 20000 in
theorem ggL_draw_X9_draw_12 : GoodIn wsL_draw wsX9_draw_r13 := goodIn_r _ [294, 295, 296, 297, 298, 299, 300, 301, 302, 303, 304, 305, 306, 307, 308, 309, 310, 311, 312, 313, 314, 315, 316, 317] (by decide +kernel) (by decide +kernel)
set_option maxRecDepth 20000 in
theorem ggL_draw_X9_draw_13 : GoodIn wsL_draw wsX9_draw_r14 := goodIn_r _ [318, 319, 320, 321, 322, 323, 324, 325, 326, 327, 328, 329, 330, 331, 332, 333, 334, 335, 336, 337, 338, 339, 340, 341] (by decide +kernel) (by decide +kernel)
set_option maxRecDepth 20000 in
theorem ggL_draw_X9_draw_14 : GoodIn wsL_draw wsX9_draw_r15 := goodIn_r _ [342, 343, 344, 345, 346, 347, 348, 349, 350, 351, 352, 353, 354, 355, 356, 357, 358, 359, 360, 361, 362, 363, 364, 365] (by decide +kernel) (by decide +kernel)
set_option maxRecDepth 20000 in
theorem ggL_draw_X9_draw_15 : GoodIn wsL_draw wsX9_draw_r16 := goodIn_r _ [366, 367, 368, 369, 370, 371, 372, 373, 374, 375, 376, 377, 378, 379, 380, 381, 382, 383, 384, 385, 386, 387, 388, 389] (by decide +kernel) (by decide +kernel)
set_option maxRecDepth 20000 in
theorem ggL_draw_X9_draw_16 : GoodIn wsL_draw wsX9_draw_r17 := goodIn_r _ [390, 391, 392, 393, 394, 395, 396, 397, 398, 399, 400, 401, 402, 403, 404, 405, 406, 407, 408, 409, 410, 411, 412, 413] (by decide +kernel) (by decide +kernel)
set_option maxRecDepth 20000 in
theorem ggL_draw_X9_draw_17 : GoodIn wsL_draw wsX9_draw_r18 := goodIn_r _ [414, 415, 416, 417, 418, 419, 420, 421] (by decide +kernel) (by decide +kernel)
set_option maxRecDepth 20000 in
theorem ggL_draw_X9_draw_wsX90 : GoodIn wsL_draw wsX90 := goodIn_r _ [422, 423, 424, 425, 426, 427, 428, 429, 430, 431, 432] (by decide +kernel) (by decide +kernel)
set_option maxRecDepth 20000 in
theorem ggL_draw_X9_draw_wsX30 : GoodIn wsL_draw wsX30 := goodIn_r _ [433, 434, 435, 436, 437] (by decide +kernel) (by decide +kernel)
set_option maxRecDepth 20000 in
theorem ggL_draw_X9_draw_wsX70 : GoodIn wsL_draw wsX70 := goodIn_r _ [438, 439, 440, 441, 442, 443] (by decide +kernel) (by decide +kernel)
set_option maxRecDepth 20000 in
theorem ggL_draw_X9_draw_wsX60 : GoodIn wsL_draw wsX60 := goodIn_r _ [444, 445, 446, 447] (by decide +kernel) (by decide +kernel)
set_option maxRecDepth 20000 in
theorem ggL_draw_X9_draw_wsX40 : GoodIn wsL_draw wsX40 := goodIn_r _ [448, 449, 450, 451, 452] (by decide +kernel) (by decide +kernel)
set_option maxRecDepth 20000 in
theorem ggL_draw_X9_draw_wsX50 : GoodIn wsL_draw wsX50 := goodIn_r _ [453, 454, 455, 456, 457, 458, 459, 460, 461, 462, 463, 464] (by decide +kernel) (by decide +kernel)
set_option maxRecDepth 20000 in
theorem ggL_draw_X9_draw_wsX20 : GoodIn wsL_draw wsX20 := goodIn_r _ [465, 466, 467] (by decide +kernel) (by decide +kernel)
set_option maxRecDepth 20000 in
theorem ggL_draw_X9_draw_wsX00 : GoodIn wsL_draw wsX00 := goodIn_r _ [468, 469, 470, 471, 472, 473, 474, 475, 476, 477] (by decide +kernel) (by decide +kernel)
set_option maxRecDepth 20000 in
theorem ggL_draw_X9_draw_wsX10 : GoodIn wsL_draw wsX10 := goodIn_r _ [478, 479, 480, 481, 482] (by decide +kernel) (by decide +kernel)
set_option maxRecDepth 20000 in
theorem ggL_draw_X9_draw_wsX80 : GoodIn wsL_draw wsX80 := goodIn_r _ [483, 484, 485, 486, 487, 488, 489, 490] (by decide +kernel) (by decide +kernel)
set_option maxRecDepth 20000 in
theorem ggL_draw_X9_draw : GoodIn wsL_draw wsX9_draw := goodIn_cons ggL_draw_X9_draw_c (goodIn_app (goodIn_app (goodIn_app (goodIn_app (goodIn_app (goodIn_app (goodIn_app (goodIn_app (goodIn_app (goodIn_app (goodIn_app (goodIn_app ggL_draw_X9_draw_0 (goodIn_app ggL_draw_X9_draw_1 (goodIn_app ggL_draw_X9_draw_2 (goodIn_app ggL_draw_X9_draw_3 (goodIn_app ggL_draw_X9_draw_4 (goodIn_app ggL_draw_X9_draw_5 (goodIn_app ggL_draw_X9_draw_6 (goodIn_app ggL_draw_X9_draw_7 (goodIn_app ggL_draw_X9_draw_8 (goodIn_app ggL_draw_X9_draw_9 (goodIn_app ggL_draw_X9_draw_10 (goodIn_app ggL_draw_X9_draw_11 (goodIn_app ggL_draw_X9_draw_12 (goodIn_app ggL_draw_X9_draw_13 (goodIn_app ggL_draw_X9_draw_14 (goodIn_app ggL_draw_X9_draw_15 (goodIn_app ggL_draw_X9_draw_16 (ggL_draw_X9_draw_17)))))))))))))))))) ggL_draw_X9_draw_wsX90) ggL_draw_X9_draw_wsX30) ggL_draw_X9_draw_wsX70) ggL_draw_X9_draw_wsX60) ggL_draw_X9_draw_wsX40) ggL_draw_X9_draw_wsX50) ggL_draw_X9_draw_wsX20) ggL_draw_X9_draw_wsX00) ggL_draw_X9_draw_wsX10) ggL_draw_X9_draw_wsX80) (goodIn_sub (fun _ h => List.mem_cons_of_mem _ (List.mem_append_right _ h)) (by decide +kernel)))
set_option maxRecDepth 20000 in
theorem gL_draw_X9_draw : GoodIn wsL_draw (wsV RL 29 RX9 yX9_draw wsX9_draw) := goodIn_app (goodIn_of _ (by decide +kernel)) ggL_draw_X9_draw
theorem dL_draw_0 : decode cL_draw 0 = .ok (.aload_n 2, 1) := by decide +kernel
theorem dL_draw_1 : decode cL_draw 1 = .ok (.iconst 0, 1) := by decide +kernel
theorem dL_draw_2 : decode cL_draw 2 = .ok (.aload_n 0, 1) := by decide +kernel
theorem dL_draw_3 : decode cL_draw 3 = .ok (.iload_n 1, 1) := by decide +kernel
theorem dL_draw_4 : decode cL_draw 4 = .ok (.invokevirtual 29, 3) := by decide +kernel
theorem dL_draw_7 : decode cL_draw 7 = .ok (.ifCond .eq 7, 3) := by decide +kernel
theorem dL_draw_10 : decode cL_draw 10 = .ok (.lconst 1, 1) := by decide +kernel
theorem dL_draw_11 : decode cL_draw 11 = .ok (.goto 4, 3) := by decide +kernel
theorem dL_draw_14 : decode cL_draw 14 = .ok (.lconst 0, 1) := by decide +kernel
theorem dL_draw_15 : decode cL_draw 15 = .ok (.lastore, 1) := by decide +kernel
theorem dL_draw_16 : decode cL_draw 16 = .ok (.goto 6, 3) := by decide +kernel
theorem dL_draw_19 : decode cL_draw 19 = .ok (.astore_n 3, 1) := by decide +kernel
theorem dL_draw_20 : decode cL_draw 20 = .ok (.iconst 1, 1) := by decide +kernel
theorem dL_draw_21 : decode cL_draw 21 = .ok (.ireturn, 1) := by decide +kernel
theorem dL_draw_22 : decode cL_draw 22 = .ok (.iconst 0, 1) := by decide +kernel
theorem dL_draw_23 : decode cL_draw 23 = .ok (.ireturn, 1) := by decide +kernel
set_option maxRecDepth 20000 in
theorem ggL_redraw_X9_redraw_c : GoodIn wsL_redraw [.code yX9_redraw cX9_redraw 5 (some .int)] := goodIn_r _ [6] (by decide +kernel) (by decide +kernel)
set_option maxRecDepth 20000 in
theorem ggL_redraw_X9_redraw_0 : GoodIn wsL_redraw wsX9_redraw_r1 := goodIn_r _ [7, 8, 9, 10, 11, 12, 13, 14, 15, 16, 17, 5, 18, 19, 20, 21, 22, 23, 24, 25, 26, 27, 28, 29] (by decide +kernel) (by decide +kernel)
set_option maxRecDepth 20000 in
theorem ggL_redraw_X9_redraw_1 : GoodIn wsL_redraw wsX9_redraw_r2 := goodIn_r _ [30, 31, 32, 33, 34, 35, 36, 37, 38, 39, 40, 41, 42, 43, 44, 45, 46, 47, 48, 49, 50, 51, 52, 53] (by decide +kernel) (by decide +kernel)
set_option maxRecDepth 20000 in
theorem ggL_redraw_X9_redraw_2 : GoodIn wsL_redraw wsX9_redraw_r3 := goodIn_r _ [54, 55, 56, 57, 58, 59, 60, 61, 62, 63, 64, 65, 66, 67, 68, 69, 70, 71, 72, 73, 74, 75, 76, 77] (by decide +kernel) (by decide +kernel)
set_option maxRecDepth 20000 in
theorem ggL_redraw_X9_redraw_3 : GoodIn wsL_redraw wsX9_redraw_r4 := goodIn_r _ [78, 79, 80, 81, 82, 83, 84, 85, 86, 87, 88, 89, 90, 91, 92, 93, 94, 95, 96, 97, 98, 99, 100, 101] (by decide +kernel) (by decide +kernel)
set_option maxRecDepth 20000 in
theorem ggL_redraw_X9_redraw_4 : GoodIn wsL_redraw wsX9_redraw_r5 := goodIn_r _ [102, 103, 104, 105, 106, 107, 108, 109, 110, 111, 112, 113, 114, 115, 116, 117, 118, 119, 120, 121, 122, 123, 124, 125] (by decide +kernel) (by decide +kernel)
set_option maxRecDepth 20000 in
theorem ggL_redraw_X9_redraw_5 : GoodIn wsL_redraw wsX9_redraw_r6 := goodIn_r _ [126, 127, 128, 129, 130, 131, 132, 133, 134, 135, 136, 137, 138, 139, 140, 141, 142, 143, 144, 145, 146, 147, 148, 149] (by decide +kernel) (by decide +kernel)
set_option maxRecDepth 20000 in
theorem ggL_redraw_X9_redraw_6 : GoodIn wsL_redraw wsX9_redraw_r7 := goodIn_r _ [150, 151, 152, 153, 154, 155, 156, 157, 158, 159, 160, 161, 162, 163, 164, 165, 166, 167, 168, 169, 170, 171, 172, 173] (by decide +kernel) (by decide +kernel)
set_option maxRecDepth 20000 in
theorem ggL_redraw_X9_redraw_7 : GoodIn wsL_redraw wsX9_redraw_r8 := goodIn_r _ [174, 175, 176, 177, 178, 179, 180, 181, 182, 183, 184, 185, 186, 187, 188, 189, 190, 191, 192, 193, 194, 195, 196, 197] (by decide +kernel) (by decide +kernel)
set_option maxRecDepth 20000 in
theorem ggL_redraw_X9_redraw_8 : GoodIn wsL_redraw wsX9_redraw_r9 := goodIn_r _ [198, 199, 200, 201, 202, 203, 204, 205, 206, 207, 208, 209, 210, 211, 212, 213, 214, 215, 216, 217, 218, 219, 220, 221] (by decide +kernel) (by decide +kernel)
set_option maxRecDepth 20000 in
theorem ggL_redraw_X9_redraw_9 : GoodIn wsL_redraw wsX9_redraw_r10 := goodIn_r _ [222, 223, 224, 225, 226, 227, 228, 229, 230, 231, 232, 233, 234, 235, 236, 237, 238, 239, 240, 241, 242, 243, 244, 245] (by decide +kernel) (by decide +kernel)
set_option maxRecDepth 20000 in
theorem ggL_redraw_X9_redraw_10 : GoodIn wsL_redraw wsX9_redraw_r11 := goodIn_r _ [246, 247, 248, 249, 250, 251, 252, 253, 254, 255, 256, 257, 258, 259, 260, 261, 262, 263, 264, 265, 266, 267, 268, 269] (by decide +kernel) (by decide +kernel)
set_option maxRecDepth 20000 in
theorem ggL_redraw_X9_redraw_11 : GoodIn wsL_redraw wsX9_redraw_r12 := goodIn_r _ [270, 271, 272, 273, 274, 275, 276, 277, 278, 279, 280, 281, 282, 283, 284, 285, 286, 287, 288, 289, 290, 291, 292, 293] (by decide +kernel) (by decide +kernel)
set_option maxRecDepth 20000 in
theorem ggL_redraw_X9_redraw_12 : GoodIn wsL_redraw wsX9_redraw_r13 := goodIn_r _ [294, 295, 296, 297, 298, 299, 300, 301, 302, 303, 304, 305, 306, 307, 308, 309, 310, 311, 312, 313, 314, 315, 316, 317] (by decide +kernel) (by decide +kernel)
set_option maxRecDepth 20000 in
theorem ggL_redraw_X9_redraw_13 : GoodIn wsL_redraw wsX9_redraw_r14 := goodIn_r _ [318, 319, 320, 321, 322, 323, 324, 325, 326, 327, 328, 329, 330, 331, 332, 333, 334, 335, 336, 337, 338, 339, 340, 341] (by decide +kernel) (by decide +kernel)
set_option maxRecDepth 20000 in
theorem ggL_redraw_X9_redraw_14 : GoodIn wsL_redraw wsX9_redraw_r15 := goodIn_r _ [342, 343, 344, 345, 346, 347, 348, 349, 350, 351, 352, 353, 354, 355, 356, 357, 358, 359, 360, 361, 362, 363, 364, 365] (by decide +kernel) (by decide +kernel)
set_option maxRecDepth 20000 in
theorem ggL_redraw_X9_redraw_15 : GoodIn wsL_redraw wsX9_redraw_r16 := goodIn_r _ [366, 367, 368, 369, 370, 371, 372, 373, 374, 375, 376, 377, 378, 379, 380, 381, 382, 383, 384, 385, 386, 387, 388, 389] (by decide +kernel) (by decide +kernel)
set_option maxRecDepth 20000 in
theorem ggL_redraw_X9_redraw_16 : GoodIn wsL_redraw wsX9_redraw_r17 := goodIn_r _ [390, 391, 392, 393, 394, 395, 396, 397, 398, 399, 400, 401, 402, 403, 404, 405, 406, 407, 408, 409, 410, 411, 412, 413] (by decide +kernel) (by decide +kernel)
set_option maxRecDepth 20000 in
theorem ggL_redraw_X9_redraw_17 : GoodIn wsL_redraw wsX9_redraw_r18 := goodIn_r _ [414, 415, 416, 417, 418, 419, 420, 421, 422, 423, 424, 425, 426, 427, 428, 429, 430, 431, 432, 433, 434, 435, 436, 437] (by decide +kernel) (by decide +kernel)
set_option maxRecDepth 20000 in
theorem ggL_redraw_X9_redraw_18 : GoodIn wsL_redraw wsX9_redraw_r19 := goodIn_r _ [438, 439, 440, 441, 442, 443, 444, 445, 446, 447, 448, 449, 450, 451, 452, 453, 454, 455, 456] (by decide +kernel) (by decide +kernel)
set_option maxRecDepth 20000 in
theorem ggL_redraw_X9_redraw_wsX90 : GoodIn wsL_redraw wsX90 := goodIn_r _ [457, 458, 459, 460, 461, 462, 463, 464, 465, 466, 467] (by decide +kernel) (by decide +kernel)
set_option maxRecDepth 20000 in
theorem ggL_redraw_X9_redraw_wsX30 : GoodIn wsL_redraw wsX30 := goodIn_r _ [468, 469, 470, 471, 472] (by decide +kernel) (by decide +kernel)
set_option maxRecDepth 20000 in
theorem ggL_redraw_X9_redraw_wsX70 : GoodIn wsL_redraw wsX70 := goodIn_r _ [473, 474, 475, 476, 477, 478] (by decide +kernel) (by decide +kernel)
set_option maxRecDepth 20000 in
theorem ggL_redraw_X9_redraw_wsX60 : GoodIn wsL_redraw wsX60 := goodIn_r _ [479, 480, 481, 482] (by decide +kernel) (by decide +kernel)
set_option maxRecDepth 20000 in
theorem ggL_redraw_X9_redraw_wsX40 : GoodIn wsL_redraw wsX40 := goodIn_r _ [483, 484, 485, 486, 487] (by decide +kernel) (by decide +kernel)
set_option maxRecDepth 20000 in
theorem ggL_redraw_X9_redraw_wsX50 : GoodIn wsL_redraw wsX50 := goodIn_r _ [488, 489, 490, 491, 492, 493, 494, 495, 496, 497, 498, 499] (by decide +kernel) (by decide +kernel)
set_option maxRecDepth 20000 in
theorem ggL_redraw_X9_redraw_wsX20 : GoodIn wsL_redraw wsX20 := goodIn_r _ [500, 501, 502] (by decide +kernel) (by decide +kernel)
set_option maxRecDepth 20000 in
theorem ggL_redraw_X9_redraw_wsX00 : GoodIn wsL_redraw wsX00 := goodIn_r _ [503, 504, 505, 506, 507, 508, 509, 510, 511, 512] (by decide +kernel) (by decide +kernel)
set_option maxRecDepth 20000 in
theorem ggL_redraw_X9_redraw_wsX10 : GoodIn wsL_redraw wsX10 := goodIn_r _ [513, 514, 515, 516, 517] (by decide +kernel) (by decide +kernel)
set_option maxRecDepth 20000 in
theorem ggL_redraw_X9_redraw_wsX80 : GoodIn wsL_redraw wsX80 := goodIn_r _ [518, 519, 520, 521, 522, 523, 524, 525] (by decide +kernel) (by decide +kernel)
set_option maxRecDepth 20000 in
theorem ggL_redraw_X9_redraw : GoodIn wsL_redraw wsX9_redraw := goodIn_cons ggL_redraw_X9_redraw_c (goodIn_app (goodIn_app (goodIn_app (goodIn_app (goodIn_app (goodIn_app (goodIn_app (goodIn_app (goodIn_app (goodIn_app (goodIn_app (goodIn_app ggL_redraw_X9_redraw_0 (goodIn_app ggL_redraw_X9_redraw_1 (goodIn_app ggL_redraw_X9_redraw_2 (goodIn_app ggL_redraw_X9_redraw_3 (goodIn_app ggL_redraw_X9_redraw_4 (goodIn_app ggL_redraw_X9_redraw_5 (goodIn_app ggL_redraw_X9_redraw_6 (goodIn_app ggL_redraw_X9_redraw_7 (goodIn_app ggL_redraw_X9_redraw_8 (goodIn_app ggL_redraw_X9_redraw_9 (goodIn_app ggL_redraw_X9_redraw_10 (goodIn_app ggL_redraw_X9_redraw_11 (goodIn_app ggL_redraw_X9_redraw_12 (goodIn_app ggL_redraw_X9_redraw_13 (goodIn_app ggL_redraw_X9_redraw_14 (goodIn_app ggL_redraw_X9_redraw_15 (goodIn_app ggL_redraw_X9_redraw_16 (goodIn_app ggL_redraw_X9_redraw_17 (ggL_redraw_X9_redraw_18))))))))))))))))))) ggL_redraw_X9_redraw_wsX90) ggL_redraw_X9_redraw_wsX30) ggL_redraw_X9_redraw_wsX70) ggL_redraw_X9_redraw_wsX60) ggL_redraw_X9_redraw_wsX40) ggL_redraw_X9_redraw_wsX50) ggL_redraw_X9_redraw_wsX20) ggL_redraw_X9_redraw_wsX00) ggL_redraw_X9_redraw_wsX10) ggL_redraw_X9_redraw_wsX80) (goodIn_sub (fun _ h => List.mem_cons_of_mem _ (List.mem_append_right _ h)) (by decide +kernel)))
set_option maxRecDepth 20000 in
theorem gL_redraw_X9_redraw : GoodIn wsL_redraw (wsV RL 32 RX9 yX9_redraw wsX9_redraw) := goodIn_app (goodIn_of _ (by decide +kernel)) ggL_redraw_X9_redraw
theorem dL_redraw_0 : decode cL_redraw 0 = .ok (.aload_n 3, 1) := by decide +kernel
theorem dL_redraw_1 : decode cL_redraw 1 = .ok (.iconst 0, 1) := by decide +kernel
theorem dL_redraw_2 : decode cL_redraw 2 = .ok (.aload_n 0, 1) := by decide +kernel
theorem dL_redraw_3 : decode cL_redraw 3 = .ok (.iload_n 1, 1) := by decide +kernel
theorem dL_redraw_4 : decode cL_redraw 4 = .ok (.iload_n 2, 1) := by decide +kernel
theorem dL_redraw_5 : decode cL_redraw 5 = .ok (.invokevirtual 32, 3) := by decide +kernel
theorem dL_redraw_8 : decode cL_redraw 8 = .ok (.i2l, 1) := by decide +kernel
theorem dL_redraw_9 : decode cL_redraw 9 = .ok (.lastore, 1) := by decide +kernel
theorem dL_redraw_10 : decode cL_redraw 10 = .ok (.goto 7, 3) := by decide +kernel
theorem dL_redraw_13 : decode cL_redraw 13 = .ok (.astore 4, 2) := by decide +kernel
theorem dL_redraw_15 : decode cL_redraw 15 = .ok (.iconst 1, 1) := by decide +kernel
theorem dL_redraw_16 : decode cL_redraw 16 = .ok (.ireturn, 1) := by decide +kernel
theorem dL_redraw_17 : decode cL_redraw 17 = .ok (.iconst 0, 1) := by decide +kernel
theorem dL_redraw_18 : decode cL_redraw 18 = .ok (.ireturn, 1) := by decide +kernel
set_option maxRecDepth 20000 in
theorem ggL_at_X9_at : GoodIn wsL_at wsX9_at := goodIn_ca (goodIn_r _ [6, 7, 8, 9, 10, 11, 12, 13, 5, 14, 15, 16, 17, 18, 19, 20, 21, 22, 23, 24, 25, 26, 27, 28, 29, 30, 31, 32, 33, 34, 35, 36, 37, 38, 39, 40, 41, 42, 43, 44, 45, 46, 47, 48, 49, 50, 51, 52, 53, 54, 55, 56, 57, 58, 59, 60, 61, 62, 63, 64, 65, 66, 67, 68, 69, 70, 71, 72, 73, 74, 75, 76, 77, 78] (by decide +kernel) (by decide +kernel)) (goodIn_sub (fun _ h => List.mem_cons_of_mem _ (List.mem_append_right _ h)) (by decide +kernel))
set_option maxRecDepth 20000 in
theorem gL_at_X9_at : GoodIn wsL_at (wsV RL 36 RX9 yX9_at wsX9_at) := goodIn_app (goodIn_of _ (by decide +kernel)) ggL_at_X9_at
theorem dL_at_0 : decode cL_at 0 = .ok (.aload_n 3, 1) := by decide +kernel
theorem dL_at_1 : decode cL_at 1 = .ok (.iconst 0, 1) := by decide +kernel
theorem dL_at_2 : decode cL_at 2 = .ok (.aload_n 0, 1) := by decide +kernel
theorem dL_at_3 : decode cL_at 3 = .ok (.iload_n 1, 1) := by decide +kernel
theorem dL_at_4 : decode cL_at 4 = .ok (.iload_n 2, 1) := by decide +kernel
theorem dL_at_5 : decode cL_at 5 = .ok (.invokevirtual 36, 3) := by decide +kernel
theorem dL_at_8 : decode cL_at 8 = .ok (.i2l, 1) := by decide +kernel
theorem dL_at_9 : decode cL_at 9 = .ok (.lastore, 1) := by decide +kernel
theorem dL_at_10 : decode cL_at 10 = .ok (.goto 7, 3) := by decide +kernel
theorem dL_at_13 : decode cL_at 13 = .ok (.astore 4, 2) := by decide +kernel
theorem dL_at_15 : decode cL_at 15 = .ok (.iconst 1, 1) := by decide +kernel
theorem dL_at_16 : decode cL_at 16 = .ok (.ireturn, 1) := by decide +kernel
theorem dL_at_17 : decode cL_at 17 = .ok (.iconst 0, 1) := by decide +kernel
theorem dL_at_18 : decode cL_at 18 = .ok (.ireturn, 1) := by decide +kernel
set_option maxRecDepth 20000 in
theorem ggL_reversed_X9_reversed : GoodIn wsL_reversed wsX9_reversed := goodIn_ca (goodIn_r _ [6, 7, 8, 9, 5, 10, 11, 12, 13, 14, 15, 16, 17, 18, 19, 20, 21, 22, 23, 24, 25, 26, 27, 28, 29, 30, 31, 32, 33, 34, 35, 36, 37, 38, 39, 40, 41] (by decide +kernel) (by decide +kernel)) (goodIn_sub (fun _ h => List.mem_cons_of_mem _ (List.mem_append_right _ h)) (by decide +kernel))
set_option maxRecDepth 20000 in
theorem gL_reversed_X9_reversed : GoodIn wsL_reversed (wsV RL 39 RX9 yX9_reversed wsX9_reversed) := goodIn_app (goodIn_of _ (by decide +kernel)) ggL_reversed_X9_reversed
theorem dL_reversed_0 : decode cL_reversed 0 = .ok (.aload_n 2, 1) := by decide +kernel
theorem dL_reversed_1 : decode cL_reversed 1 = .ok (.iconst 0, 1) := by decide +kernel
theorem dL_reversed_2 : decode cL_reversed 2 = .ok (.aload_n 0, 1) := by decide +kernel
theorem dL_reversed_3 : decode cL_reversed 3 = .ok (.iload_n 1, 1) := by decide +kernel
theorem dL_reversed_4 : decode cL_reversed 4 = .ok (.invokevirtual 39, 3) := by decide +kernel
theorem dL_reversed_7 : decode cL_reversed 7 = .ok (.i2l, 1) := by decide +kernel
theorem dL_reversed_8 : decode cL_reversed 8 = .ok (.lastore, 1) := by decide +kernel
theorem dL_reversed_9 : decode cL_reversed 9 = .ok (.goto 6, 3) := by decide +kernel
theorem dL_reversed_12 : decode cL_reversed 12 = .ok (.astore_n 3, 1) := by decide +kernel
theorem dL_reversed_13 : decode cL_reversed 13 = .ok (.iconst 1, 1) := by decide +kernel
theorem dL_reversed_14 : decode cL_reversed 14 = .ok (.ireturn, 1) := by decide +kernel
theorem dL_reversed_15 : decode cL_reversed 15 = .ok (.iconst 0, 1) := by decide +kernel
theorem dL_reversed_16 : decode cL_reversed 16 = .ok (.ireturn, 1) := by decide +kernel
set_option maxRecDepth 20000 in
theorem ggL_piece_X9_piece : GoodIn wsL_piece wsX9_piece := goodIn_ca (goodIn_r _ [6, 7, 8, 9, 10, 11, 12, 5, 13, 14, 15, 16, 17, 18, 19, 20, 21, 22, 23, 24, 25, 26, 27, 28, 29, 30, 31, 32, 33, 34, 35, 36, 37, 38, 39, 40, 41, 42, 43, 44, 45, 46, 47, 48, 49, 50, 51, 52, 53, 54, 55, 56, 57, 58, 59, 60, 61, 62, 63, 64, 65, 66, 67, 68, 69, 70, 71, 72, 73, 74, 75, 76, 77, 78, 79, 80, 81, 82, 83, 84, 85, 86, 87, 88, 89, 90, 91, 92, 93, 94, 95, 96, 97, 98, 99, 100, 101, 102, 103, 104, 105, 106, 107, 108, 109, 110, 111, 112, 113, 114, 115, 116, 117, 118] (by decide +kernel) (by decide +kernel)) (goodIn_sub (fun _ h => List.mem_cons_of_mem _ (List.mem_append_right _ h)) (by decide +kernel))
set_option maxRecDepth 20000 in
theorem gL_piece_X9_piece : GoodIn wsL_piece (wsV RL 43 RX9 yX9_piece wsX9_piece) := goodIn_app (goodIn_of _ (by decide +kernel)) ggL_piece_X9_piece
theorem dL_piece_0 : decode cL_piece 0 = .ok (.aload 4, 2) := by decide +kernel
theorem dL_piece_2 : decode cL_piece 2 = .ok (.iconst 0, 1) := by decide +kernel
theorem dL_piece_3 : decode cL_piece 3 = .ok (.aload_n 0, 1) := by decide +kernel
theorem dL_piece_4 : decode cL_piece 4 = .ok (.iload_n 1, 1) := by decide +kernel
theorem dL_piece_5 : decode cL_piece 5 = .ok (.iload_n 2, 1) := by decide +kernel
theorem dL_piece_6 : decode cL_piece 6 = .ok (.iload_n 3, 1) := by decide +kernel
theorem dL_piece_7 : decode cL_piece 7 = .ok (.invokevirtual 43, 3) := by decide +kernel
theorem dL_piece_10 : decode cL_piece 10 = .ok (.i2l, 1) := by decide +kernel
theorem dL_piece_11 : decode cL_piece 11 = .ok (.lastore, 1) := by decide +kernel
theorem dL_piece_12 : decode cL_piece 12 = .ok (.goto 7, 3) := by decide +kernel
theorem dL_piece_15 : decode cL_piece 15 = .ok (.astore 5, 2) := by decide +kernel
theorem dL_piece_17 : decode cL_piece 17 = .ok (.iconst 1, 1) := by decide +kernel
theorem dL_piece_18 : decode cL_piece 18 = .ok (.ireturn, 1) := by decide +kernel
theorem dL_piece_19 : decode cL_piece 19 = .ok (.iconst 0, 1) := by decide +kernel
theorem dL_piece_20 : decode cL_piece 20 = .ok (.ireturn, 1) := by decide +kernel
set_option maxRecDepth 20000 in
theorem ggL_between_X9_between : GoodIn wsL_between wsX9_between := goodIn_ca (goodIn_r _ [6, 7, 8, 9, 10, 11, 12, 13, 5, 14, 15, 16, 17, 18, 19, 20, 21, 22, 23, 24, 25, 26, 27, 28, 29, 30, 31, 32, 33, 34, 35, 36, 37, 38, 39, 40, 41, 42, 43, 44, 45, 46, 47, 48, 49, 50, 51, 52, 53, 54, 55, 56, 57, 58, 59, 60, 61, 62, 63, 64, 65, 66, 67, 68, 69, 70, 71, 72, 73, 74, 75, 76, 77, 78, 79, 80, 81, 82, 83, 84, 85, 86, 87, 88, 89, 90, 91, 92, 93, 94, 95, 96, 97, 98] (by decide +kernel) (by decide +kernel)) (goodIn_sub (fun _ h => List.mem_cons_of_mem _ (List.mem_append_right _ h)) (by decide +kernel))
set_option maxRecDepth 20000 in
theorem gL_between_X9_between : GoodIn wsL_between (wsV RL 47 RX9 yX9_between wsX9_between) := goodIn_app (goodIn_of _ (by decide +kernel)) ggL_between_X9_between
theorem dL_between_0 : decode cL_between 0 = .ok (.aload_n 3, 1) := by decide +kernel
theorem dL_between_1 : decode cL_between 1 = .ok (.iconst 0, 1) := by decide +kernel
theorem dL_between_2 : decode cL_between 2 = .ok (.aload_n 0, 1) := by decide +kernel
theorem dL_between_3 : decode cL_between 3 = .ok (.iload_n 1, 1) := by decide +kernel
theorem dL_between_4 : decode cL_between 4 = .ok (.iload_n 2, 1) := by decide +kernel
theorem dL_between_5 : decode cL_between 5 = .ok (.invokevirtual 47, 3) := by decide +kernel
theorem dL_between_8 : decode cL_between 8 = .ok (.i2l, 1) := by decide +kernel
theorem dL_between_9 : decode cL_between 9 = .ok (.lastore, 1) := by decide +kernel
theorem dL_between_10 : decode cL_between 10 = .ok (.goto 7, 3) := by decide +kernel
theorem dL_between_13 : decode cL_between 13 = .ok (.astore 4, 2) := by decide +kernel
theorem dL_between_15 : decode cL_between 15 = .ok (.iconst 1, 1) := by decide +kernel
theorem dL_between_16 : decode cL_between 16 = .ok (.ireturn, 1) := by decide +kernel
theorem dL_between_17 : decode cL_between 17 = .ok (.iconst 0, 1) := by decide +kernel
theorem dL_between_18 : decode cL_between 18 = .ok (.ireturn, 1) := by decide +kernel

