/-! Written by wip/whole/gen.py: walks of X10_widthOf, X10_middle, X10_left, X10_right, X10_track, X10_between, X10_box, X10_leads. -/
abbrev rX10_widthOf : Room := { frames := 0, cells := 0, slots := 0, locals := 0 }
theorem eX10_widthOf_X10 : ∀ w ∈ u_ws RX10 TX10 24, w ∈ wsX10_widthOf := by decide +kernel
theorem uX10_widthOf : yX10_widthOf.cls = RX10 ∧ yX10_widthOf.cls ≠ "java/lang/invoke/MethodHandle" ∧ yX10_widthOf.cls ≠ "java/lang/invoke/VarHandle" ∧ (parseMethodDescriptor yX10_widthOf.desc).map (fun d => d.parameters.length) = some 1 := by decide +kernel
set_option maxHeartbeats 4000000 in
set_option maxRecDepth 100000 in
theorem tX10_widthOf (l : Launch) (dC : Nat → ClassId) (dI : Nat → Nat → Nat) (cI cZ : ClassId) (aZ : Nat → Nat) (sz : Nat) (Z_code : Int32) (Z_width : Nat → Int32) (Z_told : Int32) (Z_layers : Int32) (p0 : Int32) (res : Int32) (hF : fX10_widthOf Z_width p0 = some res) : q_Mi l yX10_widthOf wsX10_widthOf rX10_widthOf (dC, dI) (q_ty cI cZ) [.ref (aZ 0), .int p0] (iX10_widthOf aZ cI cZ Z_code Z_width Z_told Z_layers) (iX10_widthOf aZ cI cZ Z_code Z_width Z_told Z_layers) sz res := by
  refine q_meti (cc := cX10_widthOf) (maxL := 2) (by decide) rfl (Nat.le_of_ble_eq_true rfl) ?_
  intro p e s m args below meth c Q A H locs ls C hP hD hS hl hret
  obtain ⟨hx, hb, hml, hown, hts, hA, hK⟩ := C
  replace hl : lv_has ls 2 [(0, .ref (aZ 0)), (1, .int p0)] := hl
  have k0 := hts (.fieldLink RX10 13 "RouteLayoutModel" "width" "[I") (by decide +kernel)
  unfold fX10_widthOf at hF
  refine lv_iload_n hx hb dX10_widthOf_0 rfl (lv_at hl 1 rfl) ?_
  refine lv_bipush (v := 100) hx hb dX10_widthOf_1 (by decide) ?_
  refine lv_icmp_ge (tgt := 15) hx hb dX10_widthOf_3 (by decide) (fun hc => ?_) (fun hc => ?_)
  · replace hF := q_t hc hF
    refine lv_iconst (v := 1) hx hb dX10_widthOf_15 (by decide) ?_
    exact hret H locs ls 16 _ _ dX10_widthOf_16 (Option.some.inj hF) rfl hP hD hS
  · replace hF := q_f hc hF
    refine lv_aload_n hx hb dX10_widthOf_6 rfl (lv_at hl 0 rfl) ?_
    refine q_get (ci := 10) (C := RX10) (T := TX10) (N := 24) hx hb hts eX10_widthOf_X10 hown hK hP 0 rfl rfl 2 (Nat.le_of_ble_eq_true rfl) k0 rfl rfl dX10_widthOf_7 ?_
    refine lv_iload_n hx hb dX10_widthOf_10 rfl (lv_at hl 1 rfl) ?_
    obtain ⟨hn1, hF⟩ := q_ck hF
    refine va_iald hx hb hK hP 1 0 rfl rfl hn1 dX10_widthOf_11 ?_
    refine lv_goto (tgt := 16) hx hb dX10_widthOf_12 (by decide) ?_
    exact hret H locs ls 16 _ _ dX10_widthOf_16 (Option.some.inj hF) rfl hP hD hS
abbrev rX10_middle : Room := { frames := 1, cells := 0, slots := 0, locals := 22 }
theorem eX10_middle_X10 : ∀ w ∈ u_ws RX10 TX10 24, w ∈ wsX10_middle := by decide +kernel
theorem uX10_middle : yX10_middle.cls = RX10 ∧ yX10_middle.cls ≠ "java/lang/invoke/MethodHandle" ∧ yX10_middle.cls ≠ "java/lang/invoke/VarHandle" ∧ (parseMethodDescriptor yX10_middle.desc).map (fun d => d.parameters.length) = some 2 := by decide +kernel
set_option maxHeartbeats 4000000 in
set_option maxRecDepth 100000 in
theorem tX10_middle (l : Launch) (dC : Nat → ClassId) (dI : Nat → Nat → Nat) (cI cZ : ClassId) (aZ : Nat → Nat) (sz : Nat) (Z_code : Int32) (Z_width : Nat → Int32) (Z_told : Int32) (Z_layers : Int32) (Z_items : Nat → Int32) (Z_xs : Nat → Int32) (p0 : Int32) (p1 : Int32) (res : Int32) (hF : fX10_middle Z_width Z_items Z_xs p0 p1 = some res) : q_Mi l yX10_middle wsX10_middle rX10_middle (dC, dI) (q_ty cI cZ) [.ref (aZ 0), .int p0, .int p1] (iX10_middle aZ cI cZ Z_code Z_width Z_told Z_layers Z_items Z_xs) (iX10_middle aZ cI cZ Z_code Z_width Z_told Z_layers Z_items Z_xs) sz res := by
  refine q_meti (cc := cX10_middle) (maxL := 3) (by decide) rfl (Nat.le_of_ble_eq_true rfl) ?_
  intro p e s m args below meth c Q A H locs ls C hP hD hS hl hret
  obtain ⟨hx, hb, hml, hown, hts, hA, hK⟩ := C
  replace hl : lv_has ls 3 [(0, .ref (aZ 0)), (1, .int p0), (2, .int p1)] := hl
  have k0 := hts (.fieldLink RX10 47 "RouteLayoutModel" "xs" "[I") (by decide +kernel)
  unfold fX10_middle at hF
  refine lv_aload_n hx hb dX10_middle_0 rfl (lv_at hl 0 rfl) ?_
  refine q_get (ci := 10) (C := RX10) (T := TX10) (N := 24) hx hb hts eX10_middle_X10 hown hK hP 0 rfl rfl 15 (Nat.le_of_ble_eq_true rfl) k0 rfl rfl dX10_middle_1 ?_
  refine lv_bipush (v := 40) hx hb dX10_middle_4 (by decide) ?_
  refine lv_iload_n hx hb dX10_middle_6 rfl (lv_at hl 1 rfl) ?_
  refine lv_imul hx hb dX10_middle_7 ?_
  refine lv_iload_n hx hb dX10_middle_8 rfl (lv_at hl 2 rfl) ?_
  refine lv_iadd hx hb dX10_middle_9 ?_
  obtain ⟨hn1, hF⟩ := q_ck hF
  refine va_iald hx hb hK hP 3 0 rfl rfl hn1 dX10_middle_10 ?_
  refine lv_aload_n hx hb dX10_middle_11 rfl (lv_at hl 0 rfl) ?_
  refine lv_aload_n hx hb dX10_middle_12 rfl (lv_at hl 0 rfl) ?_
  refine lv_iload_n hx hb dX10_middle_13 rfl (lv_at hl 1 rfl) ?_
  refine lv_iload_n hx hb dX10_middle_14 rfl (lv_at hl 2 rfl) ?_
  obtain ⟨q2, hcq2, hF⟩ := q_bd hF
  refine q_Vi (As := [.int p0, .int p1]) (rest := [.ref (aZ 0), .int (Z_xs ((40 * p0) + p1).toNatClampNeg)]) ⟨hx, hb, hml, hown, hts⟩ hA hK hP hD hS (tX10_item0 l dC dI cI cZ aZ H.size Z_code Z_told Z_layers Z_items p0 p1 q2 hcq2) (cwV 2 hts gX10_middle_X10_item0 rfl rfl rfl uX10_item0 ⟨Nat.le_of_ble_eq_true rfl, Nat.le_of_ble_eq_true rfl⟩) [0, 2] [(true, 0), (false, 1), (true, 1), (false, 3)] (iX10_middle aZ cI cZ Z_code Z_width Z_told Z_layers Z_items Z_xs) rfl rfl rfl rfl rfl 10 0 rfl rfl rfl rfl hl.1 rfl (Nat.le_of_ble_eq_true rfl) dX10_middle_15 ⟨Nat.zero_le _, Nat.zero_le _⟩ (fun H locs hP hD hS => ?_)
  obtain ⟨q3, hcq3, hF⟩ := q_bd hF
  refine q_Vi (As := [.int q2]) (rest := [.int (Z_xs ((40 * p0) + p1).toNatClampNeg)]) ⟨hx, hb, hml, hown, hts⟩ hA hK hP hD hS (tX10_widthOf l dC dI cI cZ aZ H.size Z_code Z_width Z_told Z_layers q2 q3 hcq3) (cwV 1 hts gX10_middle_X10_widthOf rfl rfl rfl uX10_widthOf ⟨Nat.le_of_ble_eq_true rfl, Nat.le_of_ble_eq_true rfl⟩) [0, 1] [(true, 0), (true, 1), (false, 2), (false, 3)] (iX10_middle aZ cI cZ Z_code Z_width Z_told Z_layers Z_items Z_xs) rfl rfl rfl rfl rfl 10 0 rfl rfl rfl rfl hl.1 rfl (Nat.le_of_ble_eq_true rfl) dX10_middle_18 ⟨Nat.zero_le _, Nat.zero_le _⟩ (fun H locs hP hD hS => ?_)
  refine lv_iconst (v := 2) hx hb dX10_middle_21 (by decide) ?_
  refine lv_idiv hx hb dX10_middle_22 (by decide) ?_
  refine lv_iadd hx hb dX10_middle_23 ?_
  exact hret H locs ls 24 _ _ dX10_middle_24 (Option.some.inj hF) rfl hP hD hS
abbrev rX10_left : Room := { frames := 2, cells := 0, slots := 0, locals := 44 }
theorem uX10_left : yX10_left.cls = RX10 ∧ yX10_left.cls ≠ "java/lang/invoke/MethodHandle" ∧ yX10_left.cls ≠ "java/lang/invoke/VarHandle" ∧ (parseMethodDescriptor yX10_left.desc).map (fun d => d.parameters.length) = some 2 := by decide +kernel
set_option maxHeartbeats 4000000 in
set_option maxRecDepth 100000 in
theorem tX10_left (l : Launch) (dC : Nat → ClassId) (dI : Nat → Nat → Nat) (cI cZ : ClassId) (aZ : Nat → Nat) (sz : Nat) (Z_code : Int32) (Z_width : Nat → Int32) (Z_from : Nat → Int32) (Z_to : Nat → Int32) (Z_turned : Nat → Int32) (Z_told : Int32) (Z_layers : Int32) (Z_layer : Nat → Int32) (Z_items : Nat → Int32) (Z_place : Nat → Int32) (Z_dummyPlace : Nat → Int32) (Z_xs : Nat → Int32) (p0 : Int32) (p1 : Int32) (res : Int32) (hF : fX10_left Z_width Z_from Z_to Z_turned Z_layer Z_items Z_place Z_dummyPlace Z_xs p0 p1 = some res) : q_Mi l yX10_left wsX10_left rX10_left (dC, dI) (q_ty cI cZ) [.ref (aZ 0), .int p0, .int p1] (iX10_left aZ cI cZ Z_code Z_width Z_from Z_to Z_turned Z_told Z_layers Z_layer Z_items Z_place Z_dummyPlace Z_xs) (iX10_left aZ cI cZ Z_code Z_width Z_from Z_to Z_turned Z_told Z_layers Z_layer Z_items Z_place Z_dummyPlace Z_xs) sz res := by
  refine q_meti (cc := cX10_left) (maxL := 5) (by decide) rfl (Nat.le_of_ble_eq_true rfl) ?_
  intro p e s m args below meth c Q A H locs ls C hP hD hS hl hret
  obtain ⟨hx, hb, hml, hown, hts, hA, hK⟩ := C
  replace hl : lv_has ls 5 [(0, .ref (aZ 0)), (1, .int p0), (2, .int p1)] := hl
  unfold fX10_left at hF
  refine lv_aload_n hx hb dX10_left_0 rfl (lv_at hl 0 rfl) ?_
  refine lv_iload_n hx hb dX10_left_1 rfl (lv_at hl 2 rfl) ?_
  refine lv_aload_n hx hb dX10_left_2 rfl (lv_at hl 0 rfl) ?_
  refine lv_iload_n hx hb dX10_left_3 rfl (lv_at hl 1 rfl) ?_
  refine lv_iload_n hx hb dX10_left_4 rfl (lv_at hl 2 rfl) ?_
  obtain ⟨q1, hcq1, hF⟩ := q_bd hF
  refine q_Vi (As := [.int p0, .int p1]) (rest := [.int p1, .ref (aZ 0)]) ⟨hx, hb, hml, hown, hts⟩ hA hK hP hD hS (tX10_upperPlace l dC dI cI cZ aZ H.size Z_code Z_from Z_to Z_turned Z_told Z_layers Z_layer Z_place Z_dummyPlace p0 p1 q1 hcq1) (cwV 2 hts gX10_left_X10_upperPlace rfl rfl rfl uX10_upperPlace ⟨Nat.le_of_ble_eq_true rfl, Nat.le_of_ble_eq_true rfl⟩) [0, 2, 3, 4, 5, 7, 8] [(true, 0), (false, 1), (true, 1), (true, 2), (true, 3), (true, 4), (false, 6), (true, 5), (true, 6), (false, 9)] (iX10_left aZ cI cZ Z_code Z_width Z_from Z_to Z_turned Z_told Z_layers Z_layer Z_items Z_place Z_dummyPlace Z_xs) rfl rfl rfl rfl rfl 10 0 rfl rfl rfl rfl hl.1 rfl (Nat.le_of_ble_eq_true rfl) dX10_left_5 ⟨Nat.zero_le _, Nat.zero_le _⟩ (fun H locs hP hD hS => ?_)
  obtain ⟨q2, hcq2, hF⟩ := q_bd hF
  refine q_Vi (As := [.int p1, .int q1]) (rest := []) ⟨hx, hb, hml, hown, hts⟩ hA hK hP hD hS (tX10_middle l dC dI cI cZ aZ H.size Z_code Z_width Z_told Z_layers Z_items Z_xs p1 q1 q2 hcq2) (cwV 2 hts gX10_left_X10_middle rfl rfl rfl uX10_middle ⟨Nat.le_of_ble_eq_true rfl, Nat.le_of_ble_eq_true rfl⟩) [0, 1, 6, 9] [(true, 0), (true, 1), (false, 2), (false, 3), (false, 4), (false, 5), (true, 2), (false, 7), (false, 8), (true, 3)] (iX10_left aZ cI cZ Z_code Z_width Z_from Z_to Z_turned Z_told Z_layers Z_layer Z_items Z_place Z_dummyPlace Z_xs) rfl rfl rfl rfl rfl 10 0 rfl rfl rfl rfl hl.1 rfl (Nat.le_of_ble_eq_true rfl) dX10_left_8 ⟨Nat.zero_le _, Nat.zero_le _⟩ (fun H locs hP hD hS => ?_)
  refine lv_istore_n (lv' := [(3, .int q2), (0, .ref (aZ 0)), (1, .int p0), (2, .int p1)]) hx hb dX10_left_11 rfl hl (by decide) rfl (fun ls hl => ?_)
  refine lv_aload_n hx hb dX10_left_12 rfl (lv_at hl 1 rfl) ?_
  refine lv_iload_n hx hb dX10_left_13 rfl (lv_at hl 3 rfl) ?_
  refine lv_iconst (v := 1) hx hb dX10_left_14 (by decide) ?_
  refine lv_iadd hx hb dX10_left_15 ?_
  refine lv_aload_n hx hb dX10_left_16 rfl (lv_at hl 1 rfl) ?_
  refine lv_iload_n hx hb dX10_left_17 rfl (lv_at hl 2 rfl) ?_
  refine lv_iload_n hx hb dX10_left_18 rfl (lv_at hl 3 rfl) ?_
  obtain ⟨q3, hcq3, hF⟩ := q_bd hF
  refine q_Vi (As := [.int p0, .int p1]) (rest := [.int (p1 + 1), .ref (aZ 0)]) ⟨hx, hb, hml, hown, hts⟩ hA hK hP hD hS (tX10_lowerPlace l dC dI cI cZ aZ H.size Z_code Z_from Z_to Z_turned Z_told Z_layers Z_layer Z_place Z_dummyPlace p0 p1 q3 hcq3) (cwV 2 hts gX10_left_X10_lowerPlace rfl rfl rfl uX10_lowerPlace ⟨Nat.le_of_ble_eq_true rfl, Nat.le_of_ble_eq_true rfl⟩) [0, 2, 3, 4, 5, 7, 8] [(true, 0), (false, 1), (true, 1), (true, 2), (true, 3), (true, 4), (false, 6), (true, 5), (true, 6), (false, 9)] (iX10_left aZ cI cZ Z_code Z_width Z_from Z_to Z_turned Z_told Z_layers Z_layer Z_items Z_place Z_dummyPlace Z_xs) rfl rfl rfl rfl rfl 10 0 rfl rfl rfl rfl hl.1 rfl (Nat.le_of_ble_eq_true rfl) dX10_left_19 ⟨Nat.zero_le _, Nat.zero_le _⟩ (fun H locs hP hD hS => ?_)
  obtain ⟨q4, hcq4, hF⟩ := q_bd hF
  refine q_Vi (As := [.int (p1 + 1), .int q3]) (rest := []) ⟨hx, hb, hml, hown, hts⟩ hA hK hP hD hS (tX10_middle l dC dI cI cZ aZ H.size Z_code Z_width Z_told Z_layers Z_items Z_xs (p1 + 1) q3 q4 hcq4) (cwV 2 hts gX10_left_X10_middle rfl rfl rfl uX10_middle ⟨Nat.le_of_ble_eq_true rfl, Nat.le_of_ble_eq_true rfl⟩) [0, 1, 6, 9] [(true, 0), (true, 1), (false, 2), (false, 3), (false, 4), (false, 5), (true, 2), (false, 7), (false, 8), (true, 3)] (iX10_left aZ cI cZ Z_code Z_width Z_from Z_to Z_turned Z_told Z_layers Z_layer Z_items Z_place Z_dummyPlace Z_xs) rfl rfl rfl rfl rfl 10 0 rfl rfl rfl rfl hl.1 rfl (Nat.le_of_ble_eq_true rfl) dX10_left_22 ⟨Nat.zero_le _, Nat.zero_le _⟩ (fun H locs hP hD hS => ?_)
  refine lv_istore (lv' := [(4, .int q4), (3, .int q2), (0, .ref (aZ 0)), (1, .int p0), (2, .int p1)]) hx hb dX10_left_25 hl (by decide) rfl (fun ls hl => ?_)
  refine lv_iload_n hx hb dX10_left_27 rfl (lv_at hl 1 rfl) ?_
  refine lv_iload hx hb dX10_left_28 (lv_at hl 0 rfl) ?_
  refine lv_icmp_ge (tgt := 37) hx hb dX10_left_30 (by decide) (fun hc => ?_) (fun hc => ?_)
  · replace hF := q_t hc hF
    refine lv_iload hx hb dX10_left_37 (lv_at hl 0 rfl) ?_
    exact hret H locs ls 39 _ _ dX10_left_39 (Option.some.inj hF) rfl hP hD hS
  · replace hF := q_f hc hF
    refine lv_iload_n hx hb dX10_left_33 rfl (lv_at hl 1 rfl) ?_
    refine lv_goto (tgt := 39) hx hb dX10_left_34 (by decide) ?_
    exact hret H locs ls 39 _ _ dX10_left_39 (Option.some.inj hF) rfl hP hD hS
abbrev rX10_right : Room := { frames := 2, cells := 0, slots := 0, locals := 44 }
theorem uX10_right : yX10_right.cls = RX10 ∧ yX10_right.cls ≠ "java/lang/invoke/MethodHandle" ∧ yX10_right.cls ≠ "java/lang/invoke/VarHandle" ∧ (parseMethodDescriptor yX10_right.desc).map (fun d => d.parameters.length) = some 2 := by decide +kernel
set_option maxHeartbeats 4000000 in
set_option maxRecDepth 100000 in
theorem tX10_right (l : Launch) (dC : Nat → ClassId) (dI : Nat → Nat → Nat) (cI cZ : ClassId) (aZ : Nat → Nat) (sz : Nat) (Z_code : Int32) (Z_width : Nat → Int32) (Z_from : Nat → Int32) (Z_to : Nat → Int32) (Z_turned : Nat → Int32) (Z_told : Int32) (Z_layers : Int32) (Z_layer : Nat → Int32) (Z_items : Nat → Int32) (Z_place : Nat → Int32) (Z_dummyPlace : Nat → Int32) (Z_xs : Nat → Int32) (p0 : Int32) (p1 : Int32) (res : Int32) (hF : fX10_right Z_width Z_from Z_to Z_turned Z_layer Z_items Z_place Z_dummyPlace Z_xs p0 p1 = some res) : q_Mi l yX10_right wsX10_right rX10_right (dC, dI) (q_ty cI cZ) [.ref (aZ 0), .int p0, .int p1] (iX10_right aZ cI cZ Z_code Z_width Z_from Z_to Z_turned Z_told Z_layers Z_layer Z_items Z_place Z_dummyPlace Z_xs) (iX10_right aZ cI cZ Z_code Z_width Z_from Z_to Z_turned Z_told Z_layers Z_layer Z_items Z_place Z_dummyPlace Z_xs) sz res := by
  refine q_meti (cc := cX10_right) (maxL := 5) (by decide) rfl (Nat.le_of_ble_eq_true rfl) ?_
  intro p e s m args below meth c Q A H locs ls C hP hD hS hl hret
  obtain ⟨hx, hb, hml, hown, hts, hA, hK⟩ := C
  replace hl : lv_has ls 5 [(0, .ref (aZ 0)), (1, .int p0), (2, .int p1)] := hl
  unfold fX10_right at hF
  refine lv_aload_n hx hb dX10_right_0 rfl (lv_at hl 0 rfl) ?_
  refine lv_iload_n hx hb dX10_right_1 rfl (lv_at hl 2 rfl) ?_
  refine lv_aload_n hx hb dX10_right_2 rfl (lv_at hl 0 rfl) ?_
  refine lv_iload_n hx hb dX10_right_3 rfl (lv_at hl 1 rfl) ?_
  refine lv_iload_n hx hb dX10_right_4 rfl (lv_at hl 2 rfl) ?_
  obtain ⟨q1, hcq1, hF⟩ := q_bd hF
  refine q_Vi (As := [.int p0, .int p1]) (rest := [.int p1, .ref (aZ 0)]) ⟨hx, hb, hml, hown, hts⟩ hA hK hP hD hS (tX10_upperPlace l dC dI cI cZ aZ H.size Z_code Z_from Z_to Z_turned Z_told Z_layers Z_layer Z_place Z_dummyPlace p0 p1 q1 hcq1) (cwV 2 hts gX10_right_X10_upperPlace rfl rfl rfl uX10_upperPlace ⟨Nat.le_of_ble_eq_true rfl, Nat.le_of_ble_eq_true rfl⟩) [0, 2, 3, 4, 5, 7, 8] [(true, 0), (false, 1), (true, 1), (true, 2), (true, 3), (true, 4), (false, 6), (true, 5), (true, 6), (false, 9)] (iX10_right aZ cI cZ Z_code Z_width Z_from Z_to Z_turned Z_told Z_layers Z_layer Z_items Z_place Z_dummyPlace Z_xs) rfl rfl rfl rfl rfl 10 0 rfl rfl rfl rfl hl.1 rfl (Nat.le_of_ble_eq_true rfl) dX10_right_5 ⟨Nat.zero_le _, Nat.zero_le _⟩ (fun H locs hP hD hS => ?_)
  obtain ⟨q2, hcq2, hF⟩ := q_bd hF
  refine q_Vi (As := [.int p1, .int q1]) (rest := []) ⟨hx, hb, hml, hown, hts⟩ hA hK hP hD hS (tX10_middle l dC dI cI cZ aZ H.size Z_code Z_width Z_told Z_layers Z_items Z_xs p1 q1 q2 hcq2) (cwV 2 hts gX10_right_X10_middle rfl rfl rfl uX10_middle ⟨Nat.le_of_ble_eq_true rfl, Nat.le_of_ble_eq_true rfl⟩) [0, 1, 6, 9] [(true, 0), (true, 1), (false, 2), (false, 3), (false, 4), (false, 5), (true, 2), (false, 7), (false, 8), (true, 3)] (iX10_right aZ cI cZ Z_code Z_width Z_from Z_to Z_turned Z_told Z_layers Z_layer Z_items Z_place Z_dummyPlace Z_xs) rfl rfl rfl rfl rfl 10 0 rfl rfl rfl rfl hl.1 rfl (Nat.le_of_ble_eq_true rfl) dX10_right_8 ⟨Nat.zero_le _, Nat.zero_le _⟩ (fun H locs hP hD hS => ?_)
  refine lv_istore_n (lv' := [(3, .int q2), (0, .ref (aZ 0)), (1, .int p0), (2, .int p1)]) hx hb dX10_right_11 rfl hl (by decide) rfl (fun ls hl => ?_)
  refine lv_aload_n hx hb dX10_right_12 rfl (lv_at hl 1 rfl) ?_
  refine lv_iload_n hx hb dX10_right_13 rfl (lv_at hl 3 rfl) ?_
  refine lv_iconst (v := 1) hx hb dX10_right_14 (by decide) ?_
  refine lv_iadd hx hb dX10_right_15 ?_
  refine lv_aload_n hx hb dX10_right_16 rfl (lv_at hl 1 rfl) ?_
  refine lv_iload_n hx hb dX10_right_17 rfl (lv_at hl 2 rfl) ?_
  refine lv_iload_n hx hb dX10_right_18 rfl (lv_at hl 3 rfl) ?_
  obtain ⟨q3, hcq3, hF⟩ := q_bd hF
  refine q_Vi (As := [.int p0, .int p1]) (rest := [.int (p1 + 1), .ref (aZ 0)]) ⟨hx, hb, hml, hown, hts⟩ hA hK hP hD hS (tX10_lowerPlace l dC dI cI cZ aZ H.size Z_code Z_from Z_to Z_turned Z_told Z_layers Z_layer Z_place Z_dummyPlace p0 p1 q3 hcq3) (cwV 2 hts gX10_right_X10_lowerPlace rfl rfl rfl uX10_lowerPlace ⟨Nat.le_of_ble_eq_true rfl, Nat.le_of_ble_eq_true rfl⟩) [0, 2, 3, 4, 5, 7, 8] [(true, 0), (false, 1), (true, 1), (true, 2), (true, 3), (true, 4), (false, 6), (true, 5), (true, 6), (false, 9)] (iX10_right aZ cI cZ Z_code Z_width Z_from Z_to Z_turned Z_told Z_layers Z_layer Z_items Z_place Z_dummyPlace Z_xs) rfl rfl rfl rfl rfl 10 0 rfl rfl rfl rfl hl.1 rfl (Nat.le_of_ble_eq_true rfl) dX10_right_19 ⟨Nat.zero_le _, Nat.zero_le _⟩ (fun H locs hP hD hS => ?_)
  obtain ⟨q4, hcq4, hF⟩ := q_bd hF
  refine q_Vi (As := [.int (p1 + 1), .int q3]) (rest := []) ⟨hx, hb, hml, hown, hts⟩ hA hK hP hD hS (tX10_middle l dC dI cI cZ aZ H.size Z_code Z_width Z_told Z_layers Z_items Z_xs (p1 + 1) q3 q4 hcq4) (cwV 2 hts gX10_right_X10_middle rfl rfl rfl uX10_middle ⟨Nat.le_of_ble_eq_true rfl, Nat.le_of_ble_eq_true rfl⟩) [0, 1, 6, 9] [(true, 0), (true, 1), (false, 2), (false, 3), (false, 4), (false, 5), (true, 2), (false, 7), (false, 8), (true, 3)] (iX10_right aZ cI cZ Z_code Z_width Z_from Z_to Z_turned Z_told Z_layers Z_layer Z_items Z_place Z_dummyPlace Z_xs) rfl rfl rfl rfl rfl 10 0 rfl rfl rfl rfl hl.1 rfl (Nat.le_of_ble_eq_true rfl) dX10_right_22 ⟨Nat.zero_le _, Nat.zero_le _⟩ (fun H locs hP hD hS => ?_)
  refine lv_istore (lv' := [(4, .int q4), (3, .int q2), (0, .ref (aZ 0)), (1, .int p0), (2, .int p1)]) hx hb dX10_right_25 hl (by decide) rfl (fun ls hl => ?_)
  refine lv_iload_n hx hb dX10_right_27 rfl (lv_at hl 1 rfl) ?_
  refine lv_iload hx hb dX10_right_28 (lv_at hl 0 rfl) ?_
  refine lv_icmp_ge (tgt := 38) hx hb dX10_right_30 (by decide) (fun hc => ?_) (fun hc => ?_)
  · replace hF := q_t hc hF
    refine lv_iload_n hx hb dX10_right_38 rfl (lv_at hl 1 rfl) ?_
    exact hret H locs ls 39 _ _ dX10_right_39 (Option.some.inj hF) rfl hP hD hS
  · replace hF := q_f hc hF
    refine lv_iload hx hb dX10_right_33 (lv_at hl 0 rfl) ?_
    refine lv_goto (tgt := 39) hx hb dX10_right_35 (by decide) ?_
    exact hret H locs ls 39 _ _ dX10_right_39 (Option.some.inj hF) rfl hP hD hS
abbrev rX10_track : Room := { frames := 3, cells := 0, slots := 0, locals := 68 }
theorem eX10_track_X10 : ∀ w ∈ u_ws RX10 TX10 24, w ∈ wsX10_track := by decide +kernel
theorem uX10_track : yX10_track.cls = RX10 ∧ yX10_track.cls ≠ "java/lang/invoke/MethodHandle" ∧ yX10_track.cls ≠ "java/lang/invoke/VarHandle" ∧ (parseMethodDescriptor yX10_track.desc).map (fun d => d.parameters.length) = some 2 := by decide +kernel
set_option maxHeartbeats 4000000 in
set_option maxRecDepth 100000 in
theorem tX10_track (l : Launch) (dC : Nat → ClassId) (dI : Nat → Nat → Nat) (cI cZ : ClassId) (aZ : Nat → Nat) (sz : Nat) (Z_code : Int32) (Z_width : Nat → Int32) (Z_isArrow : Nat → Int32) (Z_from : Nat → Int32) (Z_to : Nat → Int32) (Z_turned : Nat → Int32) (Z_told : Int32) (Z_layers : Int32) (Z_layer : Nat → Int32) (Z_items : Nat → Int32) (Z_place : Nat → Int32) (Z_dummyPlace : Nat → Int32) (Z_xs : Nat → Int32) (Z_ends : Nat → Int32) (p0 : Int32) (p1 : Int32) (res : Int32 × (Nat → Int32)) (hF : fX10_track Z_width Z_isArrow Z_from Z_to Z_turned Z_layer Z_items Z_place Z_dummyPlace Z_xs Z_ends p0 p1 = some res) : q_Mi l yX10_track wsX10_track rX10_track (dC, dI) (q_ty cI cZ) [.ref (aZ 0), .int p0, .int p1] (iX10_track aZ cI cZ Z_code Z_width Z_isArrow Z_from Z_to Z_turned Z_told Z_layers Z_layer Z_items Z_place Z_dummyPlace Z_xs Z_ends) (iX10_track aZ cI cZ Z_code Z_width Z_isArrow Z_from Z_to Z_turned Z_told Z_layers Z_layer Z_items Z_place Z_dummyPlace Z_xs res.2) sz res.1 := by
  refine q_meti (cc := cX10_track) (maxL := 12) (by decide) rfl (Nat.le_of_ble_eq_true rfl) ?_
  intro p e s m args below meth c Q A H locs ls C hP hD hS hl hret
  obtain ⟨hx, hb, hml, hown, hts, hA, hK⟩ := C
  replace hl : lv_has ls 12 [(0, .ref (aZ 0)), (1, .int p0), (2, .int p1)] := hl
  have k0 := hts (.fieldLink RX10 65 "RouteLayoutModel" "ends" "[I") (by decide +kernel)
  unfold fX10_track at hF
  refine lv_iconst (v := 0) hx hb dX10_track_0 (by decide) ?_
  refine lv_istore_n (lv' := [(3, .int 0), (0, .ref (aZ 0)), (1, .int p0), (2, .int p1)]) hx hb dX10_track_1 rfl hl (by decide) rfl (fun ls hl => ?_)
  refine lv_iconst (v := (-1)) hx hb dX10_track_2 (by decide) ?_
  refine lv_istore (lv' := [(4, .int (-1)), (3, .int 0), (0, .ref (aZ 0)), (1, .int p0), (2, .int p1)]) hx hb dX10_track_3 hl (by decide) rfl (fun ls hl => ?_)
  refine lv_iconst (v := (-1)) hx hb dX10_track_5 (by decide) ?_
  refine lv_istore (lv' := [(5, .int (-1)), (4, .int (-1)), (3, .int 0), (0, .ref (aZ 0)), (1, .int p0), (2, .int p1)]) hx hb dX10_track_6 hl (by decide) rfl (fun ls hl => ?_)
  refine lv_iconst (v := (-1)) hx hb dX10_track_8 (by decide) ?_
  refine lv_istore (lv' := [(6, .int (-1)), (5, .int (-1)), (4, .int (-1)), (3, .int 0), (0, .ref (aZ 0)), (1, .int p0), (2, .int p1)]) hx hb dX10_track_9 hl (by decide) rfl (fun ls hl => ?_)
  refine lv_iconst (v := 1) hx hb dX10_track_11 (by decide) ?_
  refine lv_istore (lv' := [(7, .int 1), (6, .int (-1)), (5, .int (-1)), (4, .int (-1)), (3, .int 0), (0, .ref (aZ 0)), (1, .int p0), (2, .int p1)]) hx hb dX10_track_12 hl (by decide) rfl (fun ls hl => ?_)
  obtain ⟨q1_0, q1_1, q1_2, hc1, hF⟩ := q_bd3 hF
  have X1 : ∀ (u1_0 : Int32) (u1_1 : Int32) (u1_2 : Nat → Int32), (u1_0, u1_1, u1_2) = (q1_0, q1_1, q1_2) → ∀ (H : Heap) (locs : List Loc) (ls : Array Slot), va_P (dC, dI) vwCl (iX10_track aZ cI cZ Z_code Z_width Z_isArrow Z_from Z_to Z_turned Z_told Z_layers Z_layer Z_items Z_place Z_dummyPlace Z_xs u1_2) H → va_D A (iX10_track aZ cI cZ Z_code Z_width Z_isArrow Z_from Z_to Z_turned Z_told Z_layers Z_layer Z_items Z_place Z_dummyPlace Z_xs u1_2) → va_S A s.heap H locs → lv_has ls 12 [(1, .int p0), (3, .int u1_0), (4, .int u1_1)] → W p l e (headSpec wsX10_track (rX10_track)).room s m args below meth c H locs 0 0 Q (F0 m 232 ls []) := by
    intro u1_0 u1_1 u1_2 hu H locs ls hP hD hS hl
    obtain ⟨e0, e1, e2⟩ := q_inj3 hu
    subst e0 e1 e2
    refine lv_iload_n hx hb dX10_track_232 rfl (lv_at hl 0 rfl) ?_
    refine lv_if_ge (tgt := 240) hx hb dX10_track_233 (by decide) (fun hc => ?_) (fun hc => ?_)
    · replace hF := q_t hc hF
      refine lv_iload hx hb dX10_track_240 (lv_at hl 2 rfl) ?_
      exact hret H locs ls 242 _ _ dX10_track_242 (congrArg Prod.fst (Option.some.inj hF)) (congrArg (fun z : Int32 × (Nat → Int32) => (iX10_track aZ cI cZ Z_code Z_width Z_isArrow Z_from Z_to Z_turned Z_told Z_layers Z_layer Z_items Z_place Z_dummyPlace Z_xs z.2)) (Option.some.inj hF)) hP hD hS
    · replace hF := q_f hc hF
      refine lv_iload_n hx hb dX10_track_236 rfl (lv_at hl 1 rfl) ?_
      refine lv_goto (tgt := 242) hx hb dX10_track_237 (by decide) ?_
      exact hret H locs ls 242 _ _ dX10_track_242 (congrArg Prod.fst (Option.some.inj hF)) (congrArg (fun z : Int32 × (Nat → Int32) => (iX10_track aZ cI cZ Z_code Z_width Z_isArrow Z_from Z_to Z_turned Z_told Z_layers Z_layer Z_items Z_place Z_dummyPlace Z_xs z.2)) (Option.some.inj hF)) hP hD hS
  have L1 : ∀ st : Int32 × Int32 × Int32 × Int32 × Int32 × (Nat → Int32), q_lo (fun (st : Int32 × Int32 × Int32 × Int32 × Int32 × (Nat → Int32)) => bX10_track_14 Z_width Z_isArrow Z_from Z_to Z_turned Z_layer Z_items Z_place Z_dummyPlace Z_xs p0 p1 st.1 st.2.1 st.2.2.1 st.2.2.2.1 st.2.2.2.2.1 st.2.2.2.2.2) st = some (q1_0, q1_1, q1_2) → ∀ (H : Heap) (locs : List Loc) (ls : Array Slot), va_P (dC, dI) vwCl (iX10_track aZ cI cZ Z_code Z_width Z_isArrow Z_from Z_to Z_turned Z_told Z_layers Z_layer Z_items Z_place Z_dummyPlace Z_xs st.2.2.2.2.2) H → va_D A (iX10_track aZ cI cZ Z_code Z_width Z_isArrow Z_from Z_to Z_turned Z_told Z_layers Z_layer Z_items Z_place Z_dummyPlace Z_xs st.2.2.2.2.2) → va_S A s.heap H locs → lv_has ls 12 [(0, .ref (aZ 0)), (1, .int p0), (2, .int p1), (3, .int st.1), (4, .int st.2.1), (5, .int st.2.2.1), (6, .int st.2.2.2.1), (7, .int st.2.2.2.2.1)] → W p l e (headSpec wsX10_track (rX10_track)).room s m args below meth c H locs 0 0 Q (F0 m 14 ls []) := by
    intro st hst
    refine q_walk (Wh := fun st : Int32 × Int32 × Int32 × Int32 × Int32 × (Nat → Int32) => ∀ (H : Heap) (locs : List Loc) (ls : Array Slot), va_P (dC, dI) vwCl (iX10_track aZ cI cZ Z_code Z_width Z_isArrow Z_from Z_to Z_turned Z_told Z_layers Z_layer Z_items Z_place Z_dummyPlace Z_xs st.2.2.2.2.2) H → va_D A (iX10_track aZ cI cZ Z_code Z_width Z_isArrow Z_from Z_to Z_turned Z_told Z_layers Z_layer Z_items Z_place Z_dummyPlace Z_xs st.2.2.2.2.2) → va_S A s.heap H locs → lv_has ls 12 [(0, .ref (aZ 0)), (1, .int p0), (2, .int p1), (3, .int st.1), (4, .int st.2.1), (5, .int st.2.2.1), (6, .int st.2.2.2.1), (7, .int st.2.2.2.2.1)] → W p l e (headSpec wsX10_track (rX10_track)).room s m args below meth c H locs 0 0 Q (F0 m 14 ls [])) ?_ st hst
    clear hst st hF
    intro st o hF hin hex H locs ls hP hD hS hl
    obtain ⟨x3_1, x4_1, x5_1, x6_1, x7_1, Z_ends_1⟩ := st
    replace hF : bX10_track_14 Z_width Z_isArrow Z_from Z_to Z_turned Z_layer Z_items Z_place Z_dummyPlace Z_xs p0 p1 x3_1 x4_1 x5_1 x6_1 x7_1 Z_ends_1 = some o := hF
    replace hP : va_P (dC, dI) vwCl (iX10_track aZ cI cZ Z_code Z_width Z_isArrow Z_from Z_to Z_turned Z_told Z_layers Z_layer Z_items Z_place Z_dummyPlace Z_xs Z_ends_1) H := hP
    replace hD : va_D A (iX10_track aZ cI cZ Z_code Z_width Z_isArrow Z_from Z_to Z_turned Z_told Z_layers Z_layer Z_items Z_place Z_dummyPlace Z_xs Z_ends_1) := hD
    replace hl : lv_has ls 12 [(0, .ref (aZ 0)), (1, .int p0), (2, .int p1), (3, .int x3_1), (4, .int x4_1), (5, .int x5_1), (6, .int x6_1), (7, .int x7_1)] := hl
    unfold bX10_track_14 at hF
    have JX10_TRACK_216 : ∀ (Z_ends_2 : Nat → Int32) (x3_2 : Int32) (x4_2 : Int32) (x7_2 : Int32) (x8_2 : Int32), jX10_track_216 Z_width Z_from Z_to Z_turned Z_layer Z_items Z_place Z_dummyPlace Z_xs Z_ends_2 p0 p1 x3_2 x4_2 x7_2 x8_2 = some o → ∀ (H : Heap) (locs : List Loc) (ls : Array Slot), va_P (dC, dI) vwCl (iX10_track aZ cI cZ Z_code Z_width Z_isArrow Z_from Z_to Z_turned Z_told Z_layers Z_layer Z_items Z_place Z_dummyPlace Z_xs Z_ends_2) H → va_D A (iX10_track aZ cI cZ Z_code Z_width Z_isArrow Z_from Z_to Z_turned Z_told Z_layers Z_layer Z_items Z_place Z_dummyPlace Z_xs Z_ends_2) → va_S A s.heap H locs → lv_has ls 12 [(0, .ref (aZ 0)), (1, .int p0), (2, .int p1), (3, .int x3_2), (4, .int x4_2), (7, .int x7_2), (8, .int x8_2)] → W p l e (headSpec wsX10_track (rX10_track)).room s m args below meth c H locs 0 0 Q (F0 m 216 ls []) := by
      intro Z_ends_2 x3_2 x4_2 x7_2 x8_2 hF H locs ls hP hD hS hl
      unfold jX10_track_216 at hF
      refine lv_aload_n hx hb dX10_track_216 rfl (lv_at hl 0 rfl) ?_
      refine lv_iload hx hb dX10_track_217 (lv_at hl 6 rfl) ?_
      refine lv_iload_n hx hb dX10_track_219 rfl (lv_at hl 2 rfl) ?_
      obtain ⟨q3, hcq3, hF⟩ := q_bd hF
      refine q_Vi (As := [.int x8_2, .int p1]) (rest := []) ⟨hx, hb, hml, hown, hts⟩ hA hK hP hD hS (tX10_left l dC dI cI cZ aZ H.size Z_code Z_width Z_from Z_to Z_turned Z_told Z_layers Z_layer Z_items Z_place Z_dummyPlace Z_xs x8_2 p1 q3 hcq3) (cwV 2 hts gX10_track_X10_left rfl rfl rfl uX10_left ⟨Nat.le_of_ble_eq_true rfl, Nat.le_of_ble_eq_true rfl⟩) [0, 1, 3, 4, 5, 6, 7, 8, 9, 10] [(true, 0), (true, 1), (false, 2), (true, 2), (true, 3), (true, 4), (true, 5), (true, 6), (true, 7), (true, 8), (true, 9), (false, 11)] (iX10_track aZ cI cZ Z_code Z_width Z_isArrow Z_from Z_to Z_turned Z_told Z_layers Z_layer Z_items Z_place Z_dummyPlace Z_xs Z_ends_2) rfl rfl rfl rfl rfl 10 0 rfl rfl rfl rfl hl.1 rfl (Nat.le_of_ble_eq_true rfl) dX10_track_220 ⟨Nat.zero_le _, Nat.zero_le _⟩ (fun H locs hP hD hS => ?_)
      refine lv_istore (lv' := [(5, .int q3), (0, .ref (aZ 0)), (1, .int p0), (2, .int p1), (3, .int x3_2), (4, .int x4_2), (7, .int x7_2), (8, .int x8_2)]) hx hb dX10_track_223 hl (by decide) rfl (fun ls hl => ?_)
      refine lv_iload hx hb dX10_track_225 (lv_at hl 7 rfl) ?_
      refine lv_istore (lv' := [(6, .int x8_2), (5, .int q3), (0, .ref (aZ 0)), (1, .int p0), (2, .int p1), (3, .int x3_2), (4, .int x4_2), (7, .int x7_2), (8, .int x8_2)]) hx hb dX10_track_227 hl (by decide) rfl (fun ls hl => ?_)
      refine lv_goto (tgt := 14) hx hb dX10_track_229 (by decide) ?_
      exact hin _ (Option.some.inj hF).symm H locs ls hP hD hS (lv_sub hl [2, 3, 4, 5, 6, 1, 0, 7] rfl)
    have JX10_TRACK_192 : ∀ (Z_ends_4 : Nat → Int32) (x3_4 : Int32) (x4_4 : Int32) (x7_4 : Int32) (x8_4 : Int32) (x9_4 : Int32), jX10_track_192 Z_width Z_from Z_to Z_turned Z_layer Z_items Z_place Z_dummyPlace Z_xs Z_ends_4 p0 p1 x3_4 x4_4 x7_4 x8_4 x9_4 = some o → ∀ (H : Heap) (locs : List Loc) (ls : Array Slot), va_P (dC, dI) vwCl (iX10_track aZ cI cZ Z_code Z_width Z_isArrow Z_from Z_to Z_turned Z_told Z_layers Z_layer Z_items Z_place Z_dummyPlace Z_xs Z_ends_4) H → va_D A (iX10_track aZ cI cZ Z_code Z_width Z_isArrow Z_from Z_to Z_turned Z_told Z_layers Z_layer Z_items Z_place Z_dummyPlace Z_xs Z_ends_4) → va_S A s.heap H locs → lv_has ls 12 [(0, .ref (aZ 0)), (1, .int p0), (2, .int p1), (3, .int x3_4), (4, .int x4_4), (7, .int x7_4), (8, .int x8_4), (9, .int x9_4)] → W p l e (headSpec wsX10_track (rX10_track)).room s m args below meth c H locs 0 0 Q (F0 m 192 ls []) := by
      intro Z_ends_4 x3_4 x4_4 x7_4 x8_4 x9_4 hF H locs ls hP hD hS hl
      unfold jX10_track_192 at hF
      refine lv_aload_n hx hb dX10_track_192 rfl (lv_at hl 0 rfl) ?_
      refine q_get (ci := 10) (C := RX10) (T := TX10) (N := 24) hx hb hts eX10_track_X10 hown hK hP 0 rfl rfl 21 (Nat.le_of_ble_eq_true rfl) k0 rfl rfl dX10_track_193 ?_
      refine lv_iload hx hb dX10_track_196 (lv_at hl 7 rfl) ?_
      refine lv_aload_n hx hb dX10_track_198 rfl (lv_at hl 0 rfl) ?_
      refine lv_iload hx hb dX10_track_199 (lv_at hl 6 rfl) ?_
      refine lv_iload_n hx hb dX10_track_201 rfl (lv_at hl 2 rfl) ?_
      obtain ⟨q5, hcq5, hF⟩ := q_bd hF
      refine q_Vi (As := [.int x8_4, .int p1]) (rest := [.int x9_4, .ref (aZ 19)]) ⟨hx, hb, hml, hown, hts⟩ hA hK hP hD hS (tX10_right l dC dI cI cZ aZ H.size Z_code Z_width Z_from Z_to Z_turned Z_told Z_layers Z_layer Z_items Z_place Z_dummyPlace Z_xs x8_4 p1 q5 hcq5) (cwV 2 hts gX10_track_X10_right rfl rfl rfl uX10_right ⟨Nat.le_of_ble_eq_true rfl, Nat.le_of_ble_eq_true rfl⟩) [0, 1, 3, 4, 5, 6, 7, 8, 9, 10] [(true, 0), (true, 1), (false, 2), (true, 2), (true, 3), (true, 4), (true, 5), (true, 6), (true, 7), (true, 8), (true, 9), (false, 11)] (iX10_track aZ cI cZ Z_code Z_width Z_isArrow Z_from Z_to Z_turned Z_told Z_layers Z_layer Z_items Z_place Z_dummyPlace Z_xs Z_ends_4) rfl rfl rfl rfl rfl 10 0 rfl rfl rfl rfl hl.1 rfl (Nat.le_of_ble_eq_true rfl) dX10_track_202 ⟨Nat.zero_le _, Nat.zero_le _⟩ (fun H locs hP hD hS => ?_)
      obtain ⟨hn6, hF⟩ := q_ck hF
      refine q_iast hx hb hK hP hD hS 11 0 (iX10_track aZ cI cZ Z_code Z_width Z_isArrow Z_from Z_to Z_turned Z_told Z_layers Z_layer Z_items Z_place Z_dummyPlace Z_xs (upd Z_ends_4 x9_4.toNatClampNeg q5)) rfl rfl hn6 rfl dX10_track_205 (fun H locs hP hD hS => ?_)
      refine lv_iload hx hb dX10_track_206 (lv_at hl 6 rfl) ?_
      refine lv_iload_n hx hb dX10_track_208 rfl (lv_at hl 1 rfl) ?_
      refine lv_icmp_ne (tgt := 216) hx hb dX10_track_209 (by decide) (fun hc => ?_) (fun hc => ?_)
      · replace hF := q_f hc hF
        exact JX10_TRACK_216 (upd Z_ends_4 x9_4.toNatClampNeg q5) x3_4 x4_4 x7_4 x8_4 hF H locs ls hP hD hS (lv_sub hl [0, 1, 2, 3, 4, 5, 6] rfl)
      · replace hF := q_t hc hF
        refine lv_iload hx hb dX10_track_212 (lv_at hl 7 rfl) ?_
        refine lv_istore (lv' := [(4, .int x9_4), (0, .ref (aZ 0)), (1, .int p0), (2, .int p1), (3, .int x3_4), (7, .int x7_4), (8, .int x8_4), (9, .int x9_4)]) hx hb dX10_track_214 hl (by decide) rfl (fun ls hl => ?_)
        exact JX10_TRACK_216 (upd Z_ends_4 x9_4.toNatClampNeg q5) x3_4 x9_4 x7_4 x8_4 hF H locs ls hP hD hS (lv_sub hl [1, 2, 3, 4, 0, 5, 6] rfl)
    have JX10_TRACK_141 : ∀ (Z_ends_7 : Nat → Int32) (x3_7 : Int32) (x4_7 : Int32) (x5_7 : Int32) (x6_7 : Int32) (x8_7 : Int32) (s0_7 : Int32), jX10_track_141 Z_width Z_from Z_to Z_turned Z_layer Z_items Z_place Z_dummyPlace Z_xs Z_ends_7 p0 p1 x3_7 x4_7 x5_7 x6_7 x8_7 s0_7 = some o → ∀ (H : Heap) (locs : List Loc) (ls : Array Slot), va_P (dC, dI) vwCl (iX10_track aZ cI cZ Z_code Z_width Z_isArrow Z_from Z_to Z_turned Z_told Z_layers Z_layer Z_items Z_place Z_dummyPlace Z_xs Z_ends_7) H → va_D A (iX10_track aZ cI cZ Z_code Z_width Z_isArrow Z_from Z_to Z_turned Z_told Z_layers Z_layer Z_items Z_place Z_dummyPlace Z_xs Z_ends_7) → va_S A s.heap H locs → lv_has ls 12 [(0, .ref (aZ 0)), (1, .int p0), (2, .int p1), (3, .int x3_7), (4, .int x4_7), (5, .int x5_7), (6, .int x6_7), (8, .int x8_7)] → W p l e (headSpec wsX10_track (rX10_track)).room s m args below meth c H locs 0 0 Q (F0 m 141 ls [.int s0_7]) := by
      intro Z_ends_7 x3_7 x4_7 x5_7 x6_7 x8_7 s0_7 hF H locs ls hP hD hS hl
      unfold jX10_track_141 at hF
      refine lv_istore (lv' := [(7, .int s0_7), (0, .ref (aZ 0)), (1, .int p0), (2, .int p1), (3, .int x3_7), (4, .int x4_7), (5, .int x5_7), (6, .int x6_7), (8, .int x8_7)]) hx hb dX10_track_141 hl (by decide) rfl (fun ls hl => ?_)
      refine lv_iload hx hb dX10_track_143 (lv_at hl 0 rfl) ?_
      refine lv_if_ne (tgt := 151) hx hb dX10_track_145 (by decide) (fun hc => ?_) (fun hc => ?_)
      · replace hF := q_f hc hF
        refine lv_iconst (v := 0) hx hb dX10_track_151 (by decide) ?_
        refine lv_istore (lv' := [(9, .int 0), (7, .int s0_7), (0, .ref (aZ 0)), (1, .int p0), (2, .int p1), (3, .int x3_7), (4, .int x4_7), (5, .int x5_7), (6, .int x6_7), (8, .int x8_7)]) hx hb dX10_track_152 hl (by decide) rfl (fun ls hl => ?_)
        obtain ⟨q8, hc8, hF⟩ := q_bd hF
        have X8 : ∀ (u8 : Int32), u8 = q8 → ∀ (H : Heap) (locs : List Loc) (ls : Array Slot), va_P (dC, dI) vwCl (iX10_track aZ cI cZ Z_code Z_width Z_isArrow Z_from Z_to Z_turned Z_told Z_layers Z_layer Z_items Z_place Z_dummyPlace Z_xs Z_ends_7) H → va_D A (iX10_track aZ cI cZ Z_code Z_width Z_isArrow Z_from Z_to Z_turned Z_told Z_layers Z_layer Z_items Z_place Z_dummyPlace Z_xs Z_ends_7) → va_S A s.heap H locs → lv_has ls 12 [(0, .ref (aZ 0)), (1, .int p0), (2, .int p1), (3, .int x3_7), (4, .int x4_7), (7, .int s0_7), (8, .int x8_7), (9, .int u8)] → W p l e (headSpec wsX10_track (rX10_track)).room s m args below meth c H locs 0 0 Q (F0 m 183 ls []) := by
          intro u8 hu H locs ls hP hD hS hl
          subst hu
          refine lv_iload hx hb dX10_track_183 (lv_at hl 7 rfl) ?_
          refine lv_iload_n hx hb dX10_track_185 rfl (lv_at hl 3 rfl) ?_
          refine lv_icmp_ne (tgt := 192) hx hb dX10_track_186 (by decide) (fun hc => ?_) (fun hc => ?_)
          · replace hF := q_f hc hF
            exact JX10_TRACK_192 Z_ends_7 x3_7 x4_7 s0_7 x8_7 u8 hF H locs ls hP hD hS (lv_sub hl [0, 1, 2, 3, 4, 5, 6, 7] rfl)
          · replace hF := q_t hc hF
            refine lv_iinc (v := (x3_7 + 1)) (lv' := [(3, .int (x3_7 + 1)), (0, .ref (aZ 0)), (1, .int p0), (2, .int p1), (4, .int x4_7), (7, .int s0_7), (8, .int x8_7), (9, .int u8)]) hx hb dX10_track_189 hl (k := 3) rfl rfl (by decide) rfl (fun ls hl => ?_)
            exact JX10_TRACK_192 Z_ends_7 (x3_7 + 1) x4_7 s0_7 x8_7 u8 hF H locs ls hP hD hS (lv_sub hl [1, 2, 3, 0, 4, 5, 6, 7] rfl)
        have L8 : ∀ st : Int32, q_lo (fun (st : Int32) => bX10_track_154 Z_width Z_from Z_to Z_turned Z_layer Z_items Z_place Z_dummyPlace Z_xs Z_ends_7 p1 x3_7 x8_7 st) st = some q8 → ∀ (H : Heap) (locs : List Loc) (ls : Array Slot), va_P (dC, dI) vwCl (iX10_track aZ cI cZ Z_code Z_width Z_isArrow Z_from Z_to Z_turned Z_told Z_layers Z_layer Z_items Z_place Z_dummyPlace Z_xs Z_ends_7) H → va_D A (iX10_track aZ cI cZ Z_code Z_width Z_isArrow Z_from Z_to Z_turned Z_told Z_layers Z_layer Z_items Z_place Z_dummyPlace Z_xs Z_ends_7) → va_S A s.heap H locs → lv_has ls 12 [(0, .ref (aZ 0)), (1, .int p0), (2, .int p1), (3, .int x3_7), (4, .int x4_7), (7, .int s0_7), (8, .int x8_7), (9, .int st)] → W p l e (headSpec wsX10_track (rX10_track)).room s m args below meth c H locs 0 0 Q (F0 m 154 ls []) := by
          intro st hst
          refine q_walk (Wh := fun st : Int32 => ∀ (H : Heap) (locs : List Loc) (ls : Array Slot), va_P (dC, dI) vwCl (iX10_track aZ cI cZ Z_code Z_width Z_isArrow Z_from Z_to Z_turned Z_told Z_layers Z_layer Z_items Z_place Z_dummyPlace Z_xs Z_ends_7) H → va_D A (iX10_track aZ cI cZ Z_code Z_width Z_isArrow Z_from Z_to Z_turned Z_told Z_layers Z_layer Z_items Z_place Z_dummyPlace Z_xs Z_ends_7) → va_S A s.heap H locs → lv_has ls 12 [(0, .ref (aZ 0)), (1, .int p0), (2, .int p1), (3, .int x3_7), (4, .int x4_7), (7, .int s0_7), (8, .int x8_7), (9, .int st)] → W p l e (headSpec wsX10_track (rX10_track)).room s m args below meth c H locs 0 0 Q (F0 m 154 ls [])) ?_ st hst
          clear hst st hF
          intro x9_8 o hF hin hex H locs ls hP hD hS hl
          replace hF : bX10_track_154 Z_width Z_from Z_to Z_turned Z_layer Z_items Z_place Z_dummyPlace Z_xs Z_ends_7 p1 x3_7 x8_7 x9_8 = some o := hF
          replace hP : va_P (dC, dI) vwCl (iX10_track aZ cI cZ Z_code Z_width Z_isArrow Z_from Z_to Z_turned Z_told Z_layers Z_layer Z_items Z_place Z_dummyPlace Z_xs Z_ends_7) H := hP
          replace hD : va_D A (iX10_track aZ cI cZ Z_code Z_width Z_isArrow Z_from Z_to Z_turned Z_told Z_layers Z_layer Z_items Z_place Z_dummyPlace Z_xs Z_ends_7) := hD
          replace hl : lv_has ls 12 [(0, .ref (aZ 0)), (1, .int p0), (2, .int p1), (3, .int x3_7), (4, .int x4_7), (7, .int s0_7), (8, .int x8_7), (9, .int x9_8)] := hl
          unfold bX10_track_154 at hF
          refine lv_iload hx hb dX10_track_154 (lv_at hl 7 rfl) ?_
          refine lv_iload_n hx hb dX10_track_156 rfl (lv_at hl 3 rfl) ?_
          refine lv_icmp_ge (tgt := 183) hx hb dX10_track_157 (by decide) (fun hc => ?_) (fun hc => ?_)
          · replace hF := q_t hc hF
            exact X8 _ (hex _ (Option.some.inj hF).symm) H locs ls hP hD hS (lv_sub hl [0, 1, 2, 3, 4, 5, 6, 7] rfl)
          · replace hF := q_f hc hF
            refine lv_aload_n hx hb dX10_track_160 rfl (lv_at hl 0 rfl) ?_
            refine q_get (ci := 10) (C := RX10) (T := TX10) (N := 24) hx hb hts eX10_track_X10 hown hK hP 0 rfl rfl 21 (Nat.le_of_ble_eq_true rfl) k0 rfl rfl dX10_track_161 ?_
            refine lv_iload hx hb dX10_track_164 (lv_at hl 7 rfl) ?_
            obtain ⟨hn9, hF⟩ := q_ck hF
            refine va_iald hx hb hK hP 11 0 rfl rfl hn9 dX10_track_166 ?_
            refine lv_aload_n hx hb dX10_track_167 rfl (lv_at hl 0 rfl) ?_
            refine lv_iload hx hb dX10_track_168 (lv_at hl 6 rfl) ?_
            refine lv_iload_n hx hb dX10_track_170 rfl (lv_at hl 2 rfl) ?_
            obtain ⟨q10, hcq10, hF⟩ := q_bd hF
            refine q_Vi (As := [.int x8_7, .int p1]) (rest := [.int (Z_ends_7 x9_8.toNatClampNeg)]) ⟨hx, hb, hml, hown, hts⟩ hA hK hP hD hS (tX10_left l dC dI cI cZ aZ H.size Z_code Z_width Z_from Z_to Z_turned Z_told Z_layers Z_layer Z_items Z_place Z_dummyPlace Z_xs x8_7 p1 q10 hcq10) (cwV 2 hts gX10_track_X10_left rfl rfl rfl uX10_left ⟨Nat.le_of_ble_eq_true rfl, Nat.le_of_ble_eq_true rfl⟩) [0, 1, 3, 4, 5, 6, 7, 8, 9, 10] [(true, 0), (true, 1), (false, 2), (true, 2), (true, 3), (true, 4), (true, 5), (true, 6), (true, 7), (true, 8), (true, 9), (false, 11)] (iX10_track aZ cI cZ Z_code Z_width Z_isArrow Z_from Z_to Z_turned Z_told Z_layers Z_layer Z_items Z_place Z_dummyPlace Z_xs Z_ends_7) rfl rfl rfl rfl rfl 10 0 rfl rfl rfl rfl hl.1 rfl (Nat.le_of_ble_eq_true rfl) dX10_track_171 ⟨Nat.zero_le _, Nat.zero_le _⟩ (fun H locs hP hD hS => ?_)
            refine lv_icmp_lt (tgt := 183) hx hb dX10_track_174 (by decide) (fun hc => ?_) (fun hc => ?_)
            · replace hF := q_t hc hF
              exact X8 _ (hex _ (Option.some.inj hF).symm) H locs ls hP hD hS (lv_sub hl [0, 1, 2, 3, 4, 5, 6, 7] rfl)
            · replace hF := q_f hc hF
              refine lv_iinc (v := (x9_8 + 1)) (lv' := [(9, .int (x9_8 + 1)), (0, .ref (aZ 0)), (1, .int p0), (2, .int p1), (3, .int x3_7), (4, .int x4_7), (7, .int s0_7), (8, .int x8_7)]) hx hb dX10_track_177 hl (k := 7) rfl rfl (by decide) rfl (fun ls hl => ?_)
              refine lv_goto (tgt := 154) hx hb dX10_track_180 (by decide) ?_
              exact hin _ (Option.some.inj hF).symm H locs ls hP hD hS (lv_sub hl [1, 2, 3, 4, 5, 6, 7, 0] rfl)
        exact L8 0 hc8 H locs ls hP hD hS (lv_sub hl [2, 3, 4, 5, 6, 1, 9, 0] rfl)
      · replace hF := q_t hc hF
        refine lv_goto (tgt := 14) hx hb dX10_track_148 (by decide) ?_
        exact hin _ (Option.some.inj hF).symm H locs ls hP hD hS (lv_sub hl [1, 2, 3, 4, 5, 6, 7, 0] rfl)
    refine lv_iload hx hb dX10_track_14 (lv_at hl 7 rfl) ?_
    refine lv_if_eq (tgt := 232) hx hb dX10_track_16 (by decide) (fun hc => ?_) (fun hc => ?_)
    · replace hF := q_t hc hF
      exact X1 _ _ _ (hex _ (Option.some.inj hF).symm) H locs ls hP hD hS (lv_sub hl [1, 3, 4] rfl)
    · replace hF := q_f hc hF
      refine lv_iconst (v := (-1)) hx hb dX10_track_19 (by decide) ?_
      refine lv_istore (lv' := [(8, .int (-1)), (0, .ref (aZ 0)), (1, .int p0), (2, .int p1), (3, .int x3_1), (4, .int x4_1), (5, .int x5_1), (6, .int x6_1), (7, .int x7_1)]) hx hb dX10_track_20 hl (by decide) rfl (fun ls hl => ?_)
      refine lv_iconst (v := 0) hx hb dX10_track_22 (by decide) ?_
      refine lv_istore (lv' := [(9, .int 0), (8, .int (-1)), (0, .ref (aZ 0)), (1, .int p0), (2, .int p1), (3, .int x3_1), (4, .int x4_1), (5, .int x5_1), (6, .int x6_1), (7, .int x7_1)]) hx hb dX10_track_23 hl (by decide) rfl (fun ls hl => ?_)
      obtain ⟨q11, hc11, hF⟩ := q_bd hF
      have X11 : ∀ (u11 : Int32), u11 = q11 → ∀ (H : Heap) (locs : List Loc) (ls : Array Slot), va_P (dC, dI) vwCl (iX10_track aZ cI cZ Z_code Z_width Z_isArrow Z_from Z_to Z_turned Z_told Z_layers Z_layer Z_items Z_place Z_dummyPlace Z_xs Z_ends_1) H → va_D A (iX10_track aZ cI cZ Z_code Z_width Z_isArrow Z_from Z_to Z_turned Z_told Z_layers Z_layer Z_items Z_place Z_dummyPlace Z_xs Z_ends_1) → va_S A s.heap H locs → lv_has ls 12 [(0, .ref (aZ 0)), (1, .int p0), (2, .int p1), (3, .int x3_1), (4, .int x4_1), (5, .int x5_1), (6, .int x6_1), (8, .int u11)] → W p l e (headSpec wsX10_track (rX10_track)).room s m args below meth c H locs 0 0 Q (F0 m 131 ls []) := by
        intro u11 hu H locs ls hP hD hS hl
        subst hu
        refine lv_iload hx hb dX10_track_131 (lv_at hl 7 rfl) ?_
        refine lv_if_lt (tgt := 140) hx hb dX10_track_133 (by decide) (fun hc => ?_) (fun hc => ?_)
        · replace hF := q_t hc hF
          refine lv_iconst (v := 0) hx hb dX10_track_140 (by decide) ?_
          exact JX10_TRACK_141 Z_ends_1 x3_1 x4_1 x5_1 x6_1 u11 0 hF H locs ls hP hD hS (lv_sub hl [0, 1, 2, 3, 4, 5, 6, 7] rfl)
        · replace hF := q_f hc hF
          refine lv_iconst (v := 1) hx hb dX10_track_136 (by decide) ?_
          refine lv_goto (tgt := 141) hx hb dX10_track_137 (by decide) ?_
          exact JX10_TRACK_141 Z_ends_1 x3_1 x4_1 x5_1 x6_1 u11 1 hF H locs ls hP hD hS (lv_sub hl [0, 1, 2, 3, 4, 5, 6, 7] rfl)
      have L11 : ∀ st : Int32 × Int32, q_lo (fun (st : Int32 × Int32) => bX10_track_25 Z_width Z_isArrow Z_from Z_to Z_turned Z_layer Z_items Z_place Z_dummyPlace Z_xs p0 p1 x3_1 x4_1 x5_1 x6_1 st.1 st.2) st = some q11 → ∀ (H : Heap) (locs : List Loc) (ls : Array Slot), va_P (dC, dI) vwCl (iX10_track aZ cI cZ Z_code Z_width Z_isArrow Z_from Z_to Z_turned Z_told Z_layers Z_layer Z_items Z_place Z_dummyPlace Z_xs Z_ends_1) H → va_D A (iX10_track aZ cI cZ Z_code Z_width Z_isArrow Z_from Z_to Z_turned Z_told Z_layers Z_layer Z_items Z_place Z_dummyPlace Z_xs Z_ends_1) → va_S A s.heap H locs → lv_has ls 12 [(0, .ref (aZ 0)), (1, .int p0), (2, .int p1), (3, .int x3_1), (4, .int x4_1), (5, .int x5_1), (6, .int x6_1), (8, .int st.1), (9, .int st.2)] → W p l e (headSpec wsX10_track (rX10_track)).room s m args below meth c H locs 0 0 Q (F0 m 25 ls []) := by
        intro st hst
        refine q_walk (Wh := fun st : Int32 × Int32 => ∀ (H : Heap) (locs : List Loc) (ls : Array Slot), va_P (dC, dI) vwCl (iX10_track aZ cI cZ Z_code Z_width Z_isArrow Z_from Z_to Z_turned Z_told Z_layers Z_layer Z_items Z_place Z_dummyPlace Z_xs Z_ends_1) H → va_D A (iX10_track aZ cI cZ Z_code Z_width Z_isArrow Z_from Z_to Z_turned Z_told Z_layers Z_layer Z_items Z_place Z_dummyPlace Z_xs Z_ends_1) → va_S A s.heap H locs → lv_has ls 12 [(0, .ref (aZ 0)), (1, .int p0), (2, .int p1), (3, .int x3_1), (4, .int x4_1), (5, .int x5_1), (6, .int x6_1), (8, .int st.1), (9, .int st.2)] → W p l e (headSpec wsX10_track (rX10_track)).room s m args below meth c H locs 0 0 Q (F0 m 25 ls [])) ?_ st hst
        clear hst st hF
        intro st o hF hin hex H locs ls hP hD hS hl
        obtain ⟨x8_11, x9_11⟩ := st
        replace hF : bX10_track_25 Z_width Z_isArrow Z_from Z_to Z_turned Z_layer Z_items Z_place Z_dummyPlace Z_xs p0 p1 x3_1 x4_1 x5_1 x6_1 x8_11 x9_11 = some o := hF
        replace hP : va_P (dC, dI) vwCl (iX10_track aZ cI cZ Z_code Z_width Z_isArrow Z_from Z_to Z_turned Z_told Z_layers Z_layer Z_items Z_place Z_dummyPlace Z_xs Z_ends_1) H := hP
        replace hD : va_D A (iX10_track aZ cI cZ Z_code Z_width Z_isArrow Z_from Z_to Z_turned Z_told Z_layers Z_layer Z_items Z_place Z_dummyPlace Z_xs Z_ends_1) := hD
        replace hl : lv_has ls 12 [(0, .ref (aZ 0)), (1, .int p0), (2, .int p1), (3, .int x3_1), (4, .int x4_1), (5, .int x5_1), (6, .int x6_1), (8, .int x8_11), (9, .int x9_11)] := hl
        unfold bX10_track_25 at hF
        have JX10_TRACK_125 : ∀ (x8_12 : Int32) (x9_12 : Int32), jX10_track_125 p0 p1 x3_1 x4_1 x5_1 x6_1 x8_12 x9_12 = some o → ∀ (H : Heap) (locs : List Loc) (ls : Array Slot), va_P (dC, dI) vwCl (iX10_track aZ cI cZ Z_code Z_width Z_isArrow Z_from Z_to Z_turned Z_told Z_layers Z_layer Z_items Z_place Z_dummyPlace Z_xs Z_ends_1) H → va_D A (iX10_track aZ cI cZ Z_code Z_width Z_isArrow Z_from Z_to Z_turned Z_told Z_layers Z_layer Z_items Z_place Z_dummyPlace Z_xs Z_ends_1) → va_S A s.heap H locs → lv_has ls 12 [(0, .ref (aZ 0)), (1, .int p0), (2, .int p1), (3, .int x3_1), (4, .int x4_1), (5, .int x5_1), (6, .int x6_1), (8, .int x8_12), (9, .int x9_12)] → W p l e (headSpec wsX10_track (rX10_track)).room s m args below meth c H locs 0 0 Q (F0 m 125 ls []) := by
          intro x8_12 x9_12 hF H locs ls hP hD hS hl
          unfold jX10_track_125 at hF
          refine lv_iinc (v := (x9_12 + 1)) (lv' := [(9, .int (x9_12 + 1)), (0, .ref (aZ 0)), (1, .int p0), (2, .int p1), (3, .int x3_1), (4, .int x4_1), (5, .int x5_1), (6, .int x6_1), (8, .int x8_12)]) hx hb dX10_track_125 hl (k := 8) rfl rfl (by decide) rfl (fun ls hl => ?_)
          refine lv_goto (tgt := 25) hx hb dX10_track_128 (by decide) ?_
          exact hin _ (Option.some.inj hF).symm H locs ls hP hD hS (lv_sub hl [1, 2, 3, 4, 5, 6, 7, 8, 0] rfl)
        have JX10_TRACK_121 : ∀ (x9_13 : Int32), jX10_track_121 p0 p1 x3_1 x4_1 x5_1 x6_1 x9_13 = some o → ∀ (H : Heap) (locs : List Loc) (ls : Array Slot), va_P (dC, dI) vwCl (iX10_track aZ cI cZ Z_code Z_width Z_isArrow Z_from Z_to Z_turned Z_told Z_layers Z_layer Z_items Z_place Z_dummyPlace Z_xs Z_ends_1) H → va_D A (iX10_track aZ cI cZ Z_code Z_width Z_isArrow Z_from Z_to Z_turned Z_told Z_layers Z_layer Z_items Z_place Z_dummyPlace Z_xs Z_ends_1) → va_S A s.heap H locs → lv_has ls 12 [(0, .ref (aZ 0)), (1, .int p0), (2, .int p1), (3, .int x3_1), (4, .int x4_1), (5, .int x5_1), (6, .int x6_1), (9, .int x9_13)] → W p l e (headSpec wsX10_track (rX10_track)).room s m args below meth c H locs 0 0 Q (F0 m 121 ls []) := by
          intro x9_13 hF H locs ls hP hD hS hl
          unfold jX10_track_121 at hF
          refine lv_iload hx hb dX10_track_121 (lv_at hl 7 rfl) ?_
          refine lv_istore (lv' := [(8, .int x9_13), (0, .ref (aZ 0)), (1, .int p0), (2, .int p1), (3, .int x3_1), (4, .int x4_1), (5, .int x5_1), (6, .int x6_1), (9, .int x9_13)]) hx hb dX10_track_123 hl (by decide) rfl (fun ls hl => ?_)
          exact JX10_TRACK_125 x9_13 x9_13 hF H locs ls hP hD hS (lv_sub hl [1, 2, 3, 4, 5, 6, 7, 0, 8] rfl)
        have JX10_TRACK_97 : ∀ (x8_14 : Int32) (x9_14 : Int32) (x10_14 : Int32) (s0_14 : Int32), jX10_track_97 Z_width Z_from Z_to Z_turned Z_layer Z_items Z_place Z_dummyPlace Z_xs p0 p1 x3_1 x4_1 x5_1 x6_1 x8_14 x9_14 x10_14 s0_14 = some o → ∀ (H : Heap) (locs : List Loc) (ls : Array Slot), va_P (dC, dI) vwCl (iX10_track aZ cI cZ Z_code Z_width Z_isArrow Z_from Z_to Z_turned Z_told Z_layers Z_layer Z_items Z_place Z_dummyPlace Z_xs Z_ends_1) H → va_D A (iX10_track aZ cI cZ Z_code Z_width Z_isArrow Z_from Z_to Z_turned Z_told Z_layers Z_layer Z_items Z_place Z_dummyPlace Z_xs Z_ends_1) → va_S A s.heap H locs → lv_has ls 12 [(0, .ref (aZ 0)), (1, .int p0), (2, .int p1), (3, .int x3_1), (4, .int x4_1), (5, .int x5_1), (6, .int x6_1), (8, .int x8_14), (9, .int x9_14), (10, .int x10_14)] → W p l e (headSpec wsX10_track (rX10_track)).room s m args below meth c H locs 0 0 Q (F0 m 97 ls [.int s0_14]) := by
          intro x8_14 x9_14 x10_14 s0_14 hF H locs ls hP hD hS hl
          unfold jX10_track_97 at hF
          refine lv_istore (lv' := [(11, .int s0_14), (0, .ref (aZ 0)), (1, .int p0), (2, .int p1), (3, .int x3_1), (4, .int x4_1), (5, .int x5_1), (6, .int x6_1), (8, .int x8_14), (9, .int x9_14), (10, .int x10_14)]) hx hb dX10_track_97 hl (by decide) rfl (fun ls hl => ?_)
          refine lv_iload hx hb dX10_track_99 (lv_at hl 0 rfl) ?_
          refine lv_if_eq (tgt := 125) hx hb dX10_track_101 (by decide) (fun hc => ?_) (fun hc => ?_)
          · replace hF := q_t hc hF
            exact JX10_TRACK_125 x8_14 x9_14 hF H locs ls hP hD hS (lv_sub hl [1, 2, 3, 4, 5, 6, 7, 8, 9] rfl)
          · replace hF := q_f hc hF
            refine lv_iload hx hb dX10_track_104 (lv_at hl 8 rfl) ?_
            refine lv_if_lt (tgt := 121) hx hb dX10_track_106 (by decide) (fun hc => ?_) (fun hc => ?_)
            · replace hF := q_t hc hF
              exact JX10_TRACK_121 x9_14 hF H locs ls hP hD hS (lv_sub hl [1, 2, 3, 4, 5, 6, 7, 9] rfl)
            · replace hF := q_f hc hF
              refine lv_iload hx hb dX10_track_109 (lv_at hl 10 rfl) ?_
              refine lv_aload_n hx hb dX10_track_111 rfl (lv_at hl 1 rfl) ?_
              refine lv_iload hx hb dX10_track_112 (lv_at hl 8 rfl) ?_
              refine lv_iload_n hx hb dX10_track_114 rfl (lv_at hl 3 rfl) ?_
              obtain ⟨q15, hcq15, hF⟩ := q_bd hF
              refine q_Vi (As := [.int x8_14, .int p1]) (rest := [.int x10_14]) ⟨hx, hb, hml, hown, hts⟩ hA hK hP hD hS (tX10_left l dC dI cI cZ aZ H.size Z_code Z_width Z_from Z_to Z_turned Z_told Z_layers Z_layer Z_items Z_place Z_dummyPlace Z_xs x8_14 p1 q15 hcq15) (cwV 2 hts gX10_track_X10_left rfl rfl rfl uX10_left ⟨Nat.le_of_ble_eq_true rfl, Nat.le_of_ble_eq_true rfl⟩) [0, 1, 3, 4, 5, 6, 7, 8, 9, 10] [(true, 0), (true, 1), (false, 2), (true, 2), (true, 3), (true, 4), (true, 5), (true, 6), (true, 7), (true, 8), (true, 9), (false, 11)] (iX10_track aZ cI cZ Z_code Z_width Z_isArrow Z_from Z_to Z_turned Z_told Z_layers Z_layer Z_items Z_place Z_dummyPlace Z_xs Z_ends_1) rfl rfl rfl rfl rfl 10 0 rfl rfl rfl rfl hl.1 rfl (Nat.le_of_ble_eq_true rfl) dX10_track_115 ⟨Nat.zero_le _, Nat.zero_le _⟩ (fun H locs hP hD hS => ?_)
              refine lv_icmp_ge (tgt := 125) hx hb dX10_track_118 (by decide) (fun hc => ?_) (fun hc => ?_)
              · replace hF := q_t hc hF
                exact JX10_TRACK_125 x8_14 x9_14 hF H locs ls hP hD hS (lv_sub hl [1, 2, 3, 4, 5, 6, 7, 8, 9] rfl)
              · replace hF := q_f hc hF
                exact JX10_TRACK_121 x9_14 hF H locs ls hP hD hS (lv_sub hl [1, 2, 3, 4, 5, 6, 7, 9] rfl)
        have JX10_TRACK_92 : ∀ (x8_16 : Int32) (x9_16 : Int32) (x10_16 : Int32), jX10_track_92 Z_width Z_from Z_to Z_turned Z_layer Z_items Z_place Z_dummyPlace Z_xs p0 p1 x3_1 x4_1 x5_1 x6_1 x8_16 x9_16 x10_16 = some o → ∀ (H : Heap) (locs : List Loc) (ls : Array Slot), va_P (dC, dI) vwCl (iX10_track aZ cI cZ Z_code Z_width Z_isArrow Z_from Z_to Z_turned Z_told Z_layers Z_layer Z_items Z_place Z_dummyPlace Z_xs Z_ends_1) H → va_D A (iX10_track aZ cI cZ Z_code Z_width Z_isArrow Z_from Z_to Z_turned Z_told Z_layers Z_layer Z_items Z_place Z_dummyPlace Z_xs Z_ends_1) → va_S A s.heap H locs → lv_has ls 12 [(0, .ref (aZ 0)), (1, .int p0), (2, .int p1), (3, .int x3_1), (4, .int x4_1), (5, .int x5_1), (6, .int x6_1), (8, .int x8_16), (9, .int x9_16), (10, .int x10_16)] → W p l e (headSpec wsX10_track (rX10_track)).room s m args below meth c H locs 0 0 Q (F0 m 92 ls []) := by
          intro x8_16 x9_16 x10_16 hF H locs ls hP hD hS hl
          unfold jX10_track_92 at hF
          refine lv_iconst (v := 1) hx hb dX10_track_92 (by decide) ?_
          refine lv_goto (tgt := 97) hx hb dX10_track_93 (by decide) ?_
          exact JX10_TRACK_97 x8_16 x9_16 x10_16 1 hF H locs ls hP hD hS (lv_sub hl [0, 1, 2, 3, 4, 5, 6, 7, 8, 9] rfl)
        have JX10_TRACK_96 : ∀ (x8_17 : Int32) (x9_17 : Int32) (x10_17 : Int32), jX10_track_96 Z_width Z_from Z_to Z_turned Z_layer Z_items Z_place Z_dummyPlace Z_xs p0 p1 x3_1 x4_1 x5_1 x6_1 x8_17 x9_17 x10_17 = some o → ∀ (H : Heap) (locs : List Loc) (ls : Array Slot), va_P (dC, dI) vwCl (iX10_track aZ cI cZ Z_code Z_width Z_isArrow Z_from Z_to Z_turned Z_told Z_layers Z_layer Z_items Z_place Z_dummyPlace Z_xs Z_ends_1) H → va_D A (iX10_track aZ cI cZ Z_code Z_width Z_isArrow Z_from Z_to Z_turned Z_told Z_layers Z_layer Z_items Z_place Z_dummyPlace Z_xs Z_ends_1) → va_S A s.heap H locs → lv_has ls 12 [(0, .ref (aZ 0)), (1, .int p0), (2, .int p1), (3, .int x3_1), (4, .int x4_1), (5, .int x5_1), (6, .int x6_1), (8, .int x8_17), (9, .int x9_17), (10, .int x10_17)] → W p l e (headSpec wsX10_track (rX10_track)).room s m args below meth c H locs 0 0 Q (F0 m 96 ls []) := by
          intro x8_17 x9_17 x10_17 hF H locs ls hP hD hS hl
          unfold jX10_track_96 at hF
          refine lv_iconst (v := 0) hx hb dX10_track_96 (by decide) ?_
          exact JX10_TRACK_97 x8_17 x9_17 x10_17 0 hF H locs ls hP hD hS (lv_sub hl [0, 1, 2, 3, 4, 5, 6, 7, 8, 9] rfl)
        refine lv_iload hx hb dX10_track_25 (lv_at hl 8 rfl) ?_
        refine lv_bipush (v := 24) hx hb dX10_track_27 (by decide) ?_
        refine lv_icmp_ge (tgt := 131) hx hb dX10_track_29 (by decide) (fun hc => ?_) (fun hc => ?_)
        · replace hF := q_t hc hF
          exact X11 _ (hex _ (Option.some.inj hF).symm) H locs ls hP hD hS (lv_sub hl [0, 1, 2, 3, 4, 5, 6, 7] rfl)
        · replace hF := q_f hc hF
          refine lv_aload_n hx hb dX10_track_32 rfl (lv_at hl 0 rfl) ?_
          refine lv_iload hx hb dX10_track_33 (lv_at hl 8 rfl) ?_
          refine lv_iload_n hx hb dX10_track_35 rfl (lv_at hl 2 rfl) ?_
          obtain ⟨q18, hcq18, hF⟩ := q_bd hF
          refine q_Vi (As := [.int x9_11, .int p1]) (rest := []) ⟨hx, hb, hml, hown, hts⟩ hA hK hP hD hS (tX10_hasPiece l dC dI cI cZ aZ H.size Z_code Z_isArrow Z_from Z_to Z_turned Z_told Z_layers Z_layer x9_11 p1 q18 hcq18) (cwV 2 hts gX10_track_X10_hasPiece rfl rfl rfl uX10_hasPiece ⟨Nat.le_of_ble_eq_true rfl, Nat.le_of_ble_eq_true rfl⟩) [0, 2, 3, 4, 5, 6] [(true, 0), (false, 1), (true, 1), (true, 2), (true, 3), (true, 4), (true, 5), (false, 7), (false, 8), (false, 9), (false, 10), (false, 11)] (iX10_track aZ cI cZ Z_code Z_width Z_isArrow Z_from Z_to Z_turned Z_told Z_layers Z_layer Z_items Z_place Z_dummyPlace Z_xs Z_ends_1) rfl rfl rfl rfl rfl 10 0 rfl rfl rfl rfl hl.1 rfl (Nat.le_of_ble_eq_true rfl) dX10_track_36 ⟨Nat.zero_le _, Nat.zero_le _⟩ (fun H locs hP hD hS => ?_)
          refine lv_if_eq (tgt := 125) hx hb dX10_track_39 (by decide) (fun hc => ?_) (fun hc => ?_)
          · replace hF := q_t hc hF
            exact JX10_TRACK_125 x8_11 x9_11 hF H locs ls hP hD hS (lv_sub hl [0, 1, 2, 3, 4, 5, 6, 7, 8] rfl)
          · replace hF := q_f hc hF
            refine lv_aload_n hx hb dX10_track_42 rfl (lv_at hl 0 rfl) ?_
            refine lv_iload hx hb dX10_track_43 (lv_at hl 8 rfl) ?_
            refine lv_iload_n hx hb dX10_track_45 rfl (lv_at hl 2 rfl) ?_
            obtain ⟨q19, hcq19, hF⟩ := q_bd hF
            refine q_Vi (As := [.int x9_11, .int p1]) (rest := []) ⟨hx, hb, hml, hown, hts⟩ hA hK hP hD hS (tX10_left l dC dI cI cZ aZ H.size Z_code Z_width Z_from Z_to Z_turned Z_told Z_layers Z_layer Z_items Z_place Z_dummyPlace Z_xs x9_11 p1 q19 hcq19) (cwV 2 hts gX10_track_X10_left rfl rfl rfl uX10_left ⟨Nat.le_of_ble_eq_true rfl, Nat.le_of_ble_eq_true rfl⟩) [0, 1, 3, 4, 5, 6, 7, 8, 9, 10] [(true, 0), (true, 1), (false, 2), (true, 2), (true, 3), (true, 4), (true, 5), (true, 6), (true, 7), (true, 8), (true, 9), (false, 11)] (iX10_track aZ cI cZ Z_code Z_width Z_isArrow Z_from Z_to Z_turned Z_told Z_layers Z_layer Z_items Z_place Z_dummyPlace Z_xs Z_ends_1) rfl rfl rfl rfl rfl 10 0 rfl rfl rfl rfl hl.1 rfl (Nat.le_of_ble_eq_true rfl) dX10_track_46 ⟨Nat.zero_le _, Nat.zero_le _⟩ (fun H locs hP hD hS => ?_)
            refine lv_aload_n hx hb dX10_track_49 rfl (lv_at hl 0 rfl) ?_
            refine lv_iload hx hb dX10_track_50 (lv_at hl 8 rfl) ?_
            refine lv_iload_n hx hb dX10_track_52 rfl (lv_at hl 2 rfl) ?_
            obtain ⟨q20, hcq20, hF⟩ := q_bd hF
            refine q_Vi (As := [.int x9_11, .int p1]) (rest := [.int q19]) ⟨hx, hb, hml, hown, hts⟩ hA hK hP hD hS (tX10_right l dC dI cI cZ aZ H.size Z_code Z_width Z_from Z_to Z_turned Z_told Z_layers Z_layer Z_items Z_place Z_dummyPlace Z_xs x9_11 p1 q20 hcq20) (cwV 2 hts gX10_track_X10_right rfl rfl rfl uX10_right ⟨Nat.le_of_ble_eq_true rfl, Nat.le_of_ble_eq_true rfl⟩) [0, 1, 3, 4, 5, 6, 7, 8, 9, 10] [(true, 0), (true, 1), (false, 2), (true, 2), (true, 3), (true, 4), (true, 5), (true, 6), (true, 7), (true, 8), (true, 9), (false, 11)] (iX10_track aZ cI cZ Z_code Z_width Z_isArrow Z_from Z_to Z_turned Z_told Z_layers Z_layer Z_items Z_place Z_dummyPlace Z_xs Z_ends_1) rfl rfl rfl rfl rfl 10 0 rfl rfl rfl rfl hl.1 rfl (Nat.le_of_ble_eq_true rfl) dX10_track_53 ⟨Nat.zero_le _, Nat.zero_le _⟩ (fun H locs hP hD hS => ?_)
            refine lv_icmp_ne (tgt := 62) hx hb dX10_track_56 (by decide) (fun hc => ?_) (fun hc => ?_)
            · replace hF := q_f hc hF
              refine lv_aload_n hx hb dX10_track_62 rfl (lv_at hl 0 rfl) ?_
              refine lv_iload hx hb dX10_track_63 (lv_at hl 8 rfl) ?_
              refine lv_iload_n hx hb dX10_track_65 rfl (lv_at hl 2 rfl) ?_
              obtain ⟨q21, hcq21, hF⟩ := q_bd hF
              refine q_Vi (As := [.int x9_11, .int p1]) (rest := []) ⟨hx, hb, hml, hown, hts⟩ hA hK hP hD hS (tX10_left l dC dI cI cZ aZ H.size Z_code Z_width Z_from Z_to Z_turned Z_told Z_layers Z_layer Z_items Z_place Z_dummyPlace Z_xs x9_11 p1 q21 hcq21) (cwV 2 hts gX10_track_X10_left rfl rfl rfl uX10_left ⟨Nat.le_of_ble_eq_true rfl, Nat.le_of_ble_eq_true rfl⟩) [0, 1, 3, 4, 5, 6, 7, 8, 9, 10] [(true, 0), (true, 1), (false, 2), (true, 2), (true, 3), (true, 4), (true, 5), (true, 6), (true, 7), (true, 8), (true, 9), (false, 11)] (iX10_track aZ cI cZ Z_code Z_width Z_isArrow Z_from Z_to Z_turned Z_told Z_layers Z_layer Z_items Z_place Z_dummyPlace Z_xs Z_ends_1) rfl rfl rfl rfl rfl 10 0 rfl rfl rfl rfl hl.1 rfl (Nat.le_of_ble_eq_true rfl) dX10_track_66 ⟨Nat.zero_le _, Nat.zero_le _⟩ (fun H locs hP hD hS => ?_)
              refine lv_istore (lv' := [(10, .int q21), (0, .ref (aZ 0)), (1, .int p0), (2, .int p1), (3, .int x3_1), (4, .int x4_1), (5, .int x5_1), (6, .int x6_1), (8, .int x8_11), (9, .int x9_11)]) hx hb dX10_track_69 hl (by decide) rfl (fun ls hl => ?_)
              refine lv_iload hx hb dX10_track_71 (lv_at hl 0 rfl) ?_
              refine lv_iload hx hb dX10_track_73 (lv_at hl 6 rfl) ?_
              refine lv_icmp_gt (tgt := 92) hx hb dX10_track_75 (by decide) (fun hc => ?_) (fun hc => ?_)
              · replace hF := q_t hc hF
                exact JX10_TRACK_92 x8_11 x9_11 q21 hF H locs ls hP hD hS (lv_sub hl [1, 2, 3, 4, 5, 6, 7, 8, 9, 0] rfl)
              · replace hF := q_f hc hF
                refine lv_iload hx hb dX10_track_78 (lv_at hl 0 rfl) ?_
                refine lv_iload hx hb dX10_track_80 (lv_at hl 6 rfl) ?_
                refine lv_icmp_ne (tgt := 96) hx hb dX10_track_82 (by decide) (fun hc => ?_) (fun hc => ?_)
                · replace hF := q_f hc hF
                  exact JX10_TRACK_96 x8_11 x9_11 q21 hF H locs ls hP hD hS (lv_sub hl [1, 2, 3, 4, 5, 6, 7, 8, 9, 0] rfl)
                · replace hF := q_t hc hF
                  refine lv_iload hx hb dX10_track_85 (lv_at hl 9 rfl) ?_
                  refine lv_iload hx hb dX10_track_87 (lv_at hl 7 rfl) ?_
                  refine lv_icmp_le (tgt := 96) hx hb dX10_track_89 (by decide) (fun hc => ?_) (fun hc => ?_)
                  · replace hF := q_t hc hF
                    exact JX10_TRACK_96 x8_11 x9_11 q21 hF H locs ls hP hD hS (lv_sub hl [1, 2, 3, 4, 5, 6, 7, 8, 9, 0] rfl)
                  · replace hF := q_f hc hF
                    exact JX10_TRACK_92 x8_11 x9_11 q21 hF H locs ls hP hD hS (lv_sub hl [1, 2, 3, 4, 5, 6, 7, 8, 9, 0] rfl)
            · replace hF := q_t hc hF
              refine lv_goto (tgt := 125) hx hb dX10_track_59 (by decide) ?_
              exact JX10_TRACK_125 x8_11 x9_11 hF H locs ls hP hD hS (lv_sub hl [0, 1, 2, 3, 4, 5, 6, 7, 8] rfl)
      exact L11 ((-1), 0) hc11 H locs ls hP hD hS (lv_sub hl [2, 3, 4, 5, 6, 7, 8, 1, 0] rfl)
  exact L1 (0, (-1), (-1), (-1), 1, Z_ends) hc1 H locs ls hP hD hS (lv_sub hl [5, 6, 7, 4, 3, 2, 1, 0] rfl)
abbrev rX10_between : Room := { frames := 4, cells := 0, slots := 0, locals := 99 }
theorem eX10_between_X10 : ∀ w ∈ u_ws RX10 TX10 24, w ∈ wsX10_between := by decide +kernel
theorem uX10_between : yX10_between.cls = RX10 ∧ yX10_between.cls ≠ "java/lang/invoke/MethodHandle" ∧ yX10_between.cls ≠ "java/lang/invoke/VarHandle" ∧ (parseMethodDescriptor yX10_between.desc).map (fun d => d.parameters.length) = some 2 := by decide +kernel
set_option maxHeartbeats 4000000 in
set_option maxRecDepth 100000 in
theorem tX10_between (l : Launch) (dC : Nat → ClassId) (dI : Nat → Nat → Nat) (cI cZ : ClassId) (aZ : Nat → Nat) (sz : Nat) (Z_code : Int32) (Z_width : Nat → Int32) (Z_isArrow : Nat → Int32) (Z_from : Nat → Int32) (Z_to : Nat → Int32) (Z_turned : Nat → Int32) (Z_told : Int32) (Z_layers : Int32) (Z_layer : Nat → Int32) (Z_items : Nat → Int32) (Z_place : Nat → Int32) (Z_dummyPlace : Nat → Int32) (Z_xs : Nat → Int32) (Z_ends : Nat → Int32) (p0 : Int32) (p1 : Int32) (res : Int32 × Int32 × (Nat → Int32)) (hF : fX10_between Z_width Z_isArrow Z_from Z_to Z_turned Z_told Z_layers Z_layer Z_items Z_place Z_dummyPlace Z_xs Z_ends p0 p1 = some res) : q_Mi l yX10_between wsX10_between rX10_between (dC, dI) (q_ty cI cZ) [.ref (aZ 0), .int p0, .int p1] (iX10_between aZ cI cZ Z_code Z_width Z_isArrow Z_from Z_to Z_turned Z_told Z_layers Z_layer Z_items Z_place Z_dummyPlace Z_xs Z_ends) (iX10_between aZ cI cZ res.2.1 Z_width Z_isArrow Z_from Z_to Z_turned Z_told Z_layers Z_layer Z_items Z_place Z_dummyPlace Z_xs res.2.2) sz res.1 := by
  refine q_meti (cc := cX10_between) (maxL := 3) (by decide) rfl (Nat.le_of_ble_eq_true rfl) ?_
  intro p e s m args below meth c Q A H locs ls C hP hD hS hl hret
  obtain ⟨hx, hb, hml, hown, hts, hA, hK⟩ := C
  replace hl : lv_has ls 3 [(0, .ref (aZ 0)), (1, .int p0), (2, .int p1)] := hl
  have k0 := hts (.fieldLink RX10 74 "RouteLayoutModel" "code" "I") (by decide +kernel)
  have k1 := hts (.fieldLink RX10 82 "RouteLayoutModel" "told" "Z") (by decide +kernel)
  have k2 := hts (.fieldLink RX10 103 "RouteLayoutModel" "layers" "I") (by decide +kernel)
  unfold fX10_between at hF
  have JX10_BETWEEN_15 : ∀ (Z_code_1 : Int32) (Z_ends_1 : Nat → Int32) (x1_1 : Int32) (x2_1 : Int32) (s0_1 : Int32), jX10_between_15 Z_width Z_isArrow Z_from Z_to Z_turned Z_told Z_layers Z_layer Z_items Z_place Z_dummyPlace Z_xs Z_ends_1 x1_1 x2_1 s0_1 = some res → ∀ (H : Heap) (locs : List Loc) (ls : Array Slot), va_P (dC, dI) vwCl (iX10_between aZ cI cZ Z_code_1 Z_width Z_isArrow Z_from Z_to Z_turned Z_told Z_layers Z_layer Z_items Z_place Z_dummyPlace Z_xs Z_ends_1) H → va_D A (iX10_between aZ cI cZ Z_code_1 Z_width Z_isArrow Z_from Z_to Z_turned Z_told Z_layers Z_layer Z_items Z_place Z_dummyPlace Z_xs Z_ends_1) → va_S A s.heap H locs → lv_has ls 3 [(0, .ref (aZ 0)), (1, .int x1_1), (2, .int x2_1)] → W p l e (headSpec wsX10_between (rX10_between)).room s m args below meth c H locs 0 0 Q (F0 m 15 ls [.int s0_1, .ref (aZ 0)]) := by
    intro Z_code_1 Z_ends_1 x1_1 x2_1 s0_1 hF H locs ls hP hD hS hl
    unfold jX10_between_15 at hF
    refine q_put (ci := 10) (C := RX10) (T := TX10) (N := 24) (ty := .int) hx hb hts eX10_between_X10 tyX10 tyX10_ok nmX10 hown hK hP hD hS 0 (iX10_between aZ cI cZ s0_1 Z_width Z_isArrow Z_from Z_to Z_turned Z_told Z_layers Z_layer Z_items Z_place Z_dummyPlace Z_xs Z_ends_1) rfl rfl 0 (Nat.le_of_ble_eq_true rfl) k0 rfl rfl (by decide +kernel) rfl rfl (Nat.le_of_ble_eq_true rfl) rfl dX10_between_15 (fun H locs hP hD hS => ?_)
    refine lv_aload_n hx hb dX10_between_18 rfl (lv_at hl 0 rfl) ?_
    refine q_get (ci := 10) (C := RX10) (T := TX10) (N := 24) hx hb hts eX10_between_X10 hown hK hP 0 rfl rfl 0 (Nat.le_of_ble_eq_true rfl) k0 rfl rfl dX10_between_19 ?_
    refine lv_if_le (tgt := 27) hx hb dX10_between_22 (by decide) (fun hc => ?_) (fun hc => ?_)
    · replace hF := q_t hc hF
      refine lv_aload_n hx hb dX10_between_27 rfl (lv_at hl 0 rfl) ?_
      refine q_get (ci := 10) (C := RX10) (T := TX10) (N := 24) hx hb hts eX10_between_X10 hown hK hP 0 rfl rfl 8 (Nat.le_of_ble_eq_true rfl) k1 rfl rfl dX10_between_28 ?_
      refine lv_if_eq (tgt := 48) hx hb dX10_between_31 (by decide) (fun hc => ?_) (fun hc => ?_)
      · replace hF := q_t hc hF
        refine lv_iconst (v := (-1)) hx hb dX10_between_48 (by decide) ?_
        exact hret H locs ls 49 _ _ dX10_between_49 (congrArg Prod.fst (Option.some.inj hF)) (congrArg (fun z : Int32 × Int32 × (Nat → Int32) => (iX10_between aZ cI cZ z.2.1 Z_width Z_isArrow Z_from Z_to Z_turned Z_told Z_layers Z_layer Z_items Z_place Z_dummyPlace Z_xs z.2.2)) (Option.some.inj hF)) hP hD hS
      · replace hF := q_f hc hF
        refine lv_iload_n hx hb dX10_between_34 rfl (lv_at hl 1 rfl) ?_
        refine lv_iconst (v := 0) hx hb dX10_between_35 (by decide) ?_
        refine lv_aload_n hx hb dX10_between_36 rfl (lv_at hl 0 rfl) ?_
        refine q_get (ci := 10) (C := RX10) (T := TX10) (N := 24) hx hb hts eX10_between_X10 hown hK hP 0 rfl rfl 9 (Nat.le_of_ble_eq_true rfl) k2 rfl rfl dX10_between_37 ?_
        refine lv_iconst (v := 2) hx hb dX10_between_40 (by decide) ?_
        refine lv_isub hx hb dX10_between_41 ?_
        obtain ⟨q2, hcq2, hF⟩ := q_bd hF
        refine q_Si (As := [.int x1_1, .int 0, .int (Z_layers - 2)]) (rest := []) ⟨hx, hb, hml, hown, hts⟩ hA hK hP hD hS (tX10_in l dC dI cI cZ H.size x1_1 0 (Z_layers - 2) q2 hcq2) (va_cwS 3 hts gX10_between_X10_in rfl rfl rfl uX10_in ⟨Nat.le_of_ble_eq_true rfl, Nat.le_of_ble_eq_true rfl⟩) [] [(false, 0), (false, 1), (false, 2), (false, 3), (false, 4), (false, 5), (false, 6), (false, 7), (false, 8), (false, 9), (false, 10), (false, 11)] (iX10_between aZ cI cZ s0_1 Z_width Z_isArrow Z_from Z_to Z_turned Z_told Z_layers Z_layer Z_items Z_place Z_dummyPlace Z_xs Z_ends_1) rfl rfl rfl rfl rfl rfl hl.1 rfl (Nat.le_of_ble_eq_true rfl) dX10_between_42 ⟨Nat.zero_le _, Nat.zero_le _⟩ (fun H locs hP hD hS => ?_)
        refine lv_if_ne (tgt := 50) hx hb dX10_between_45 (by decide) (fun hc => ?_) (fun hc => ?_)
        · replace hF := q_f hc hF
          refine lv_iload_n hx hb dX10_between_50 rfl (lv_at hl 2 rfl) ?_
          refine lv_if_ne (tgt := 62) hx hb dX10_between_51 (by decide) (fun hc => ?_) (fun hc => ?_)
          · replace hF := q_f hc hF
            refine lv_aload_n hx hb dX10_between_62 rfl (lv_at hl 0 rfl) ?_
            refine lv_iconst (v := (-1)) hx hb dX10_between_63 (by decide) ?_
            refine lv_iload_n hx hb dX10_between_64 rfl (lv_at hl 1 rfl) ?_
            obtain ⟨q3_0, q3_1, hcq3, hF⟩ := q_bd2 hF
            refine q_Vi (As := [.int (-1), .int x1_1]) (rest := []) ⟨hx, hb, hml, hown, hts⟩ hA hK hP hD hS (tX10_track l dC dI cI cZ aZ H.size s0_1 Z_width Z_isArrow Z_from Z_to Z_turned Z_told Z_layers Z_layer Z_items Z_place Z_dummyPlace Z_xs Z_ends_1 (-1) x1_1 (q3_0, q3_1) hcq3) (cwV 2 hts gX10_between_X10_track rfl rfl rfl uX10_track ⟨Nat.le_of_ble_eq_true rfl, Nat.le_of_ble_eq_true rfl⟩) [0, 1, 2, 3, 4, 5, 6, 7, 8, 9, 10, 11] [(true, 0), (true, 1), (true, 2), (true, 3), (true, 4), (true, 5), (true, 6), (true, 7), (true, 8), (true, 9), (true, 10), (true, 11)] (iX10_between aZ cI cZ s0_1 Z_width Z_isArrow Z_from Z_to Z_turned Z_told Z_layers Z_layer Z_items Z_place Z_dummyPlace Z_xs q3_1) rfl rfl rfl rfl rfl 10 0 rfl rfl rfl rfl hl.1 rfl (Nat.le_of_ble_eq_true rfl) dX10_between_65 ⟨Nat.zero_le _, Nat.zero_le _⟩ (fun H locs hP hD hS => ?_)
            exact hret H locs ls 68 _ _ dX10_between_68 (congrArg Prod.fst (Option.some.inj hF)) (congrArg (fun z : Int32 × Int32 × (Nat → Int32) => (iX10_between aZ cI cZ z.2.1 Z_width Z_isArrow Z_from Z_to Z_turned Z_told Z_layers Z_layer Z_items Z_place Z_dummyPlace Z_xs z.2.2)) (Option.some.inj hF)) hP hD hS
          · replace hF := q_t hc hF
            refine lv_aload_n hx hb dX10_between_54 rfl (lv_at hl 0 rfl) ?_
            refine lv_iload_n hx hb dX10_between_55 rfl (lv_at hl 1 rfl) ?_
            obtain ⟨q4, hcq4, hF⟩ := q_bd hF
            refine q_Vi (As := [.int x1_1]) (rest := []) ⟨hx, hb, hml, hown, hts⟩ hA hK hP hD hS (tX10_crossings l dC dI cI cZ aZ H.size s0_1 Z_isArrow Z_from Z_to Z_turned Z_told Z_layers Z_layer Z_place Z_dummyPlace x1_1 q4 hcq4) (cwV 1 hts gX10_between_X10_crossings rfl rfl rfl uX10_crossings ⟨Nat.le_of_ble_eq_true rfl, Nat.le_of_ble_eq_true rfl⟩) [0, 2, 3, 4, 5, 6, 8, 9] [(true, 0), (false, 1), (true, 1), (true, 2), (true, 3), (true, 4), (true, 5), (false, 7), (true, 6), (true, 7), (false, 10), (false, 11)] (iX10_between aZ cI cZ s0_1 Z_width Z_isArrow Z_from Z_to Z_turned Z_told Z_layers Z_layer Z_items Z_place Z_dummyPlace Z_xs Z_ends_1) rfl rfl rfl rfl rfl 10 0 rfl rfl rfl rfl hl.1 rfl (Nat.le_of_ble_eq_true rfl) dX10_between_56 ⟨Nat.zero_le _, Nat.zero_le _⟩ (fun H locs hP hD hS => ?_)
            refine lv_goto (tgt := 68) hx hb dX10_between_59 (by decide) ?_
            exact hret H locs ls 68 _ _ dX10_between_68 (congrArg Prod.fst (Option.some.inj hF)) (congrArg (fun z : Int32 × Int32 × (Nat → Int32) => (iX10_between aZ cI cZ z.2.1 Z_width Z_isArrow Z_from Z_to Z_turned Z_told Z_layers Z_layer Z_items Z_place Z_dummyPlace Z_xs z.2.2)) (Option.some.inj hF)) hP hD hS
        · replace hF := q_t hc hF
          refine lv_iconst (v := (-1)) hx hb dX10_between_48 (by decide) ?_
          exact hret H locs ls 49 _ _ dX10_between_49 (congrArg Prod.fst (Option.some.inj hF)) (congrArg (fun z : Int32 × Int32 × (Nat → Int32) => (iX10_between aZ cI cZ z.2.1 Z_width Z_isArrow Z_from Z_to Z_turned Z_told Z_layers Z_layer Z_items Z_place Z_dummyPlace Z_xs z.2.2)) (Option.some.inj hF)) hP hD hS
    · replace hF := q_f hc hF
      refine lv_iconst (v := 0) hx hb dX10_between_25 (by decide) ?_
      exact hret H locs ls 26 _ _ dX10_between_26 (congrArg Prod.fst (Option.some.inj hF)) (congrArg (fun z : Int32 × Int32 × (Nat → Int32) => (iX10_between aZ cI cZ z.2.1 Z_width Z_isArrow Z_from Z_to Z_turned Z_told Z_layers Z_layer Z_items Z_place Z_dummyPlace Z_xs z.2.2)) (Option.some.inj hF)) hP hD hS
  refine lv_aload_n hx hb dX10_between_0 rfl (lv_at hl 0 rfl) ?_
  refine lv_iload_n hx hb dX10_between_1 rfl (lv_at hl 2 rfl) ?_
  refine lv_iconst (v := 0) hx hb dX10_between_2 (by decide) ?_
  refine lv_iconst (v := 1) hx hb dX10_between_3 (by decide) ?_
  obtain ⟨q5, hcq5, hF⟩ := q_bd hF
  refine q_Si (As := [.int p1, .int 0, .int 1]) (rest := [.ref (aZ 0)]) ⟨hx, hb, hml, hown, hts⟩ hA hK hP hD hS (tX10_in l dC dI cI cZ H.size p1 0 1 q5 hcq5) (va_cwS 3 hts gX10_between_X10_in rfl rfl rfl uX10_in ⟨Nat.le_of_ble_eq_true rfl, Nat.le_of_ble_eq_true rfl⟩) [] [(false, 0), (false, 1), (false, 2), (false, 3), (false, 4), (false, 5), (false, 6), (false, 7), (false, 8), (false, 9), (false, 10), (false, 11)] (iX10_between aZ cI cZ Z_code Z_width Z_isArrow Z_from Z_to Z_turned Z_told Z_layers Z_layer Z_items Z_place Z_dummyPlace Z_xs Z_ends) rfl rfl rfl rfl rfl rfl hl.1 rfl (Nat.le_of_ble_eq_true rfl) dX10_between_4 ⟨Nat.zero_le _, Nat.zero_le _⟩ (fun H locs hP hD hS => ?_)
  refine lv_if_eq (tgt := 14) hx hb dX10_between_7 (by decide) (fun hc => ?_) (fun hc => ?_)
  · replace hF := q_t hc hF
    refine lv_iconst (v := 1) hx hb dX10_between_14 (by decide) ?_
    exact JX10_BETWEEN_15 Z_code Z_ends p0 p1 1 hF H locs ls hP hD hS (lv_sub hl [0, 1, 2] rfl)
  · replace hF := q_f hc hF
    refine lv_iconst (v := 0) hx hb dX10_between_10 (by decide) ?_
    refine lv_goto (tgt := 15) hx hb dX10_between_11 (by decide) ?_
    exact JX10_BETWEEN_15 Z_code Z_ends p0 p1 0 hF H locs ls hP hD hS (lv_sub hl [0, 1, 2] rfl)
abbrev rX10_box : Room := { frames := 1, cells := 0, slots := 0, locals := 22 }
theorem eX10_box_X10 : ∀ w ∈ u_ws RX10 TX10 24, w ∈ wsX10_box := by decide +kernel
theorem uX10_box : yX10_box.cls = RX10 ∧ yX10_box.cls ≠ "java/lang/invoke/MethodHandle" ∧ yX10_box.cls ≠ "java/lang/invoke/VarHandle" ∧ (parseMethodDescriptor yX10_box.desc).map (fun d => d.parameters.length) = some 2 := by decide +kernel
set_option maxHeartbeats 4000000 in
set_option maxRecDepth 100000 in
theorem tX10_box (l : Launch) (dC : Nat → ClassId) (dI : Nat → Nat → Nat) (cI cZ : ClassId) (aZ : Nat → Nat) (sz : Nat) (Z_code : Int32) (Z_isBox : Nat → Int32) (Z_width : Nat → Int32) (Z_pinned : Nat → Int32) (Z_told : Int32) (Z_layers : Int32) (p0 : Int32) (p1 : Int32) (res : Int32 × (Nat → Int32) × (Nat → Int32) × (Nat → Int32) × Int32) (hF : fX10_box Z_isBox Z_width Z_pinned Z_told p0 p1 = some res) : q_Mv l yX10_box wsX10_box rX10_box (dC, dI) (q_ty cI cZ) [.ref (aZ 0), .int p0, .int p1] (iX10_box aZ cI cZ Z_code Z_isBox Z_width Z_pinned Z_told Z_layers) (iX10_box aZ cI cZ res.1 res.2.1 res.2.2.1 res.2.2.2.1 res.2.2.2.2 Z_layers) sz := by
  refine q_metv (cc := cX10_box) (maxL := 3) (by decide) rfl (Nat.le_of_ble_eq_true rfl) ?_
  intro p e s m args below meth c Q A H locs ls C hP hD hS hl hret
  obtain ⟨hx, hb, hml, hown, hts, hA, hK⟩ := C
  replace hl : lv_has ls 3 [(0, .ref (aZ 0)), (1, .int p0), (2, .int p1)] := hl
  have k0 := hts (.fieldLink RX10 7 "RouteLayoutModel" "isBox" "[Z") (by decide +kernel)
  have k1 := hts (.fieldLink RX10 13 "RouteLayoutModel" "width" "[I") (by decide +kernel)
  have k2 := hts (.fieldLink RX10 82 "RouteLayoutModel" "told" "Z") (by decide +kernel)
  have k3 := hts (.fieldLink RX10 74 "RouteLayoutModel" "code" "I") (by decide +kernel)
  have k4 := hts (.fieldLink RX10 17 "RouteLayoutModel" "pinned" "[I") (by decide +kernel)
  unfold fX10_box at hF
  have JX10_BOX_53 : ∀ (Z_code_1 : Int32) (Z_isBox_1 : Nat → Int32) (Z_width_1 : Nat → Int32) (Z_pinned_1 : Nat → Int32) (Z_told_1 : Int32) (x1_1 : Int32) (x2_1 : Int32), jX10_box_53 Z_code_1 Z_isBox_1 Z_width_1 Z_pinned_1 x1_1 x2_1 = some res → ∀ (H : Heap) (locs : List Loc) (ls : Array Slot), va_P (dC, dI) vwCl (iX10_box aZ cI cZ Z_code_1 Z_isBox_1 Z_width_1 Z_pinned_1 Z_told_1 Z_layers) H → va_D A (iX10_box aZ cI cZ Z_code_1 Z_isBox_1 Z_width_1 Z_pinned_1 Z_told_1 Z_layers) → va_S A s.heap H locs → lv_has ls 3 [(0, .ref (aZ 0)), (1, .int x1_1), (2, .int x2_1)] → W p l e (headSpec wsX10_box (rX10_box)).room s m args below meth c H locs 0 0 Q (F0 m 53 ls []) := by
    intro Z_code_1 Z_isBox_1 Z_width_1 Z_pinned_1 Z_told_1 x1_1 x2_1 hF H locs ls hP hD hS hl
    unfold jX10_box_53 at hF
    refine lv_aload_n hx hb dX10_box_53 rfl (lv_at hl 0 rfl) ?_
    refine q_get (ci := 10) (C := RX10) (T := TX10) (N := 24) hx hb hts eX10_box_X10 hown hK hP 0 rfl rfl 1 (Nat.le_of_ble_eq_true rfl) k0 rfl rfl dX10_box_54 ?_
    refine lv_iload_n hx hb dX10_box_57 rfl (lv_at hl 1 rfl) ?_
    refine lv_iconst (v := 1) hx hb dX10_box_58 (by decide) ?_
    obtain ⟨hn2, hF⟩ := q_ck hF
    refine q_zast hx hb hK hP hD hS 1 1 (iX10_box aZ cI cZ Z_code_1 (upd Z_isBox_1 x1_1.toNatClampNeg 1) Z_width_1 Z_pinned_1 Z_told_1 Z_layers) rfl rfl hn2 (Or.inr rfl) rfl dX10_box_59 (fun H locs hP hD hS => ?_)
    refine lv_aload_n hx hb dX10_box_60 rfl (lv_at hl 0 rfl) ?_
    refine q_get (ci := 10) (C := RX10) (T := TX10) (N := 24) hx hb hts eX10_box_X10 hown hK hP 0 rfl rfl 2 (Nat.le_of_ble_eq_true rfl) k1 rfl rfl dX10_box_61 ?_
    refine lv_iload_n hx hb dX10_box_64 rfl (lv_at hl 1 rfl) ?_
    refine lv_iload_n hx hb dX10_box_65 rfl (lv_at hl 2 rfl) ?_
    obtain ⟨hn3, hF⟩ := q_ck hF
    refine q_iast hx hb hK hP hD hS 2 0 (iX10_box aZ cI cZ Z_code_1 (upd Z_isBox_1 x1_1.toNatClampNeg 1) (upd Z_width_1 x1_1.toNatClampNeg x2_1) Z_pinned_1 Z_told_1 Z_layers) rfl rfl hn3 rfl dX10_box_66 (fun H locs hP hD hS => ?_)
    refine lv_aload_n hx hb dX10_box_67 rfl (lv_at hl 0 rfl) ?_
    refine lv_iconst (v := 0) hx hb dX10_box_68 (by decide) ?_
    refine q_put (ci := 10) (C := RX10) (T := TX10) (N := 24) (ty := .boolean) hx hb hts eX10_box_X10 tyX10 tyX10_ok nmX10 hown hK hP hD hS 0 (iX10_box aZ cI cZ Z_code_1 (upd Z_isBox_1 x1_1.toNatClampNeg 1) (upd Z_width_1 x1_1.toNatClampNeg x2_1) Z_pinned_1 0 Z_layers) rfl rfl 8 (Nat.le_of_ble_eq_true rfl) k2 rfl rfl (by decide +kernel) (q_narz (Or.inl rfl)) rfl (Nat.le_of_ble_eq_true rfl) rfl dX10_box_69 (fun H locs hP hD hS => ?_)
    exact hret H locs ls 72 _ dX10_box_72 (congrArg (fun z : Int32 × (Nat → Int32) × (Nat → Int32) × (Nat → Int32) × Int32 => (iX10_box aZ cI cZ z.1 z.2.1 z.2.2.1 z.2.2.2.1 z.2.2.2.2 Z_layers)) (Option.some.inj hF)) hP hD hS
  have JX10_BOX_26 : ∀ (Z_code_4 : Int32) (Z_isBox_4 : Nat → Int32) (Z_width_4 : Nat → Int32) (Z_pinned_4 : Nat → Int32) (Z_told_4 : Int32) (x1_4 : Int32) (x2_4 : Int32) (s0_4 : Int32), jX10_box_26 Z_isBox_4 Z_width_4 Z_pinned_4 Z_told_4 x1_4 x2_4 s0_4 = some res → ∀ (H : Heap) (locs : List Loc) (ls : Array Slot), va_P (dC, dI) vwCl (iX10_box aZ cI cZ Z_code_4 Z_isBox_4 Z_width_4 Z_pinned_4 Z_told_4 Z_layers) H → va_D A (iX10_box aZ cI cZ Z_code_4 Z_isBox_4 Z_width_4 Z_pinned_4 Z_told_4 Z_layers) → va_S A s.heap H locs → lv_has ls 3 [(0, .ref (aZ 0)), (1, .int x1_4), (2, .int x2_4)] → W p l e (headSpec wsX10_box (rX10_box)).room s m args below meth c H locs 0 0 Q (F0 m 26 ls [.int s0_4, .ref (aZ 0)]) := by
    intro Z_code_4 Z_isBox_4 Z_width_4 Z_pinned_4 Z_told_4 x1_4 x2_4 s0_4 hF H locs ls hP hD hS hl
    unfold jX10_box_26 at hF
    refine q_put (ci := 10) (C := RX10) (T := TX10) (N := 24) (ty := .int) hx hb hts eX10_box_X10 tyX10 tyX10_ok nmX10 hown hK hP hD hS 0 (iX10_box aZ cI cZ s0_4 Z_isBox_4 Z_width_4 Z_pinned_4 Z_told_4 Z_layers) rfl rfl 0 (Nat.le_of_ble_eq_true rfl) k3 rfl rfl (by decide +kernel) rfl rfl (Nat.le_of_ble_eq_true rfl) rfl dX10_box_26 (fun H locs hP hD hS => ?_)
    refine lv_aload_n hx hb dX10_box_29 rfl (lv_at hl 0 rfl) ?_
    refine q_get (ci := 10) (C := RX10) (T := TX10) (N := 24) hx hb hts eX10_box_X10 hown hK hP 0 rfl rfl 0 (Nat.le_of_ble_eq_true rfl) k3 rfl rfl dX10_box_30 ?_
    refine lv_if_le (tgt := 37) hx hb dX10_box_33 (by decide) (fun hc => ?_) (fun hc => ?_)
    · replace hF := q_t hc hF
      refine lv_aload_n hx hb dX10_box_37 rfl (lv_at hl 0 rfl) ?_
      refine q_get (ci := 10) (C := RX10) (T := TX10) (N := 24) hx hb hts eX10_box_X10 hown hK hP 0 rfl rfl 1 (Nat.le_of_ble_eq_true rfl) k0 rfl rfl dX10_box_38 ?_
      refine lv_iload_n hx hb dX10_box_41 rfl (lv_at hl 1 rfl) ?_
      obtain ⟨hn5, hF⟩ := q_ck hF
      refine va_zald hx hb hK hP 1 1 rfl rfl hn5 dX10_box_42 ?_
      refine lv_if_ne (tgt := 53) hx hb dX10_box_43 (by decide) (fun hc => ?_) (fun hc => ?_)
      · replace hF := q_f hc hF
        exact JX10_BOX_53 s0_4 Z_isBox_4 Z_width_4 Z_pinned_4 Z_told_4 x1_4 x2_4 hF H locs ls hP hD hS (lv_sub hl [0, 1, 2] rfl)
      · replace hF := q_t hc hF
        refine lv_aload_n hx hb dX10_box_46 rfl (lv_at hl 0 rfl) ?_
        refine q_get (ci := 10) (C := RX10) (T := TX10) (N := 24) hx hb hts eX10_box_X10 hown hK hP 0 rfl rfl 3 (Nat.le_of_ble_eq_true rfl) k4 rfl rfl dX10_box_47 ?_
        refine lv_iload_n hx hb dX10_box_50 rfl (lv_at hl 1 rfl) ?_
        refine lv_iconst (v := (-1)) hx hb dX10_box_51 (by decide) ?_
        obtain ⟨hn6, hF⟩ := q_ck hF
        refine q_iast hx hb hK hP hD hS 3 0 (iX10_box aZ cI cZ s0_4 Z_isBox_4 Z_width_4 (upd Z_pinned_4 x1_4.toNatClampNeg (-1)) Z_told_4 Z_layers) rfl rfl hn6 rfl dX10_box_52 (fun H locs hP hD hS => ?_)
        exact JX10_BOX_53 s0_4 Z_isBox_4 Z_width_4 (upd Z_pinned_4 x1_4.toNatClampNeg (-1)) Z_told_4 x1_4 x2_4 hF H locs ls hP hD hS (lv_sub hl [0, 1, 2] rfl)
    · replace hF := q_f hc hF
      exact hret H locs ls 36 _ dX10_box_36 (congrArg (fun z : Int32 × (Nat → Int32) × (Nat → Int32) × (Nat → Int32) × Int32 => (iX10_box aZ cI cZ z.1 z.2.1 z.2.2.1 z.2.2.2.1 z.2.2.2.2 Z_layers)) (Option.some.inj hF)) hP hD hS
  have JX10_BOX_25 : ∀ (Z_code_7 : Int32) (Z_isBox_7 : Nat → Int32) (Z_width_7 : Nat → Int32) (Z_pinned_7 : Nat → Int32) (Z_told_7 : Int32) (x1_7 : Int32) (x2_7 : Int32), jX10_box_25 Z_isBox_7 Z_width_7 Z_pinned_7 Z_told_7 x1_7 x2_7 = some res → ∀ (H : Heap) (locs : List Loc) (ls : Array Slot), va_P (dC, dI) vwCl (iX10_box aZ cI cZ Z_code_7 Z_isBox_7 Z_width_7 Z_pinned_7 Z_told_7 Z_layers) H → va_D A (iX10_box aZ cI cZ Z_code_7 Z_isBox_7 Z_width_7 Z_pinned_7 Z_told_7 Z_layers) → va_S A s.heap H locs → lv_has ls 3 [(0, .ref (aZ 0)), (1, .int x1_7), (2, .int x2_7)] → W p l e (headSpec wsX10_box (rX10_box)).room s m args below meth c H locs 0 0 Q (F0 m 25 ls [.ref (aZ 0)]) := by
    intro Z_code_7 Z_isBox_7 Z_width_7 Z_pinned_7 Z_told_7 x1_7 x2_7 hF H locs ls hP hD hS hl
    unfold jX10_box_25 at hF
    refine lv_iconst (v := 1) hx hb dX10_box_25 (by decide) ?_
    exact JX10_BOX_26 Z_code_7 Z_isBox_7 Z_width_7 Z_pinned_7 Z_told_7 x1_7 x2_7 1 hF H locs ls hP hD hS (lv_sub hl [0, 1, 2] rfl)
  refine lv_aload_n hx hb dX10_box_0 rfl (lv_at hl 0 rfl) ?_
  refine lv_iload_n hx hb dX10_box_1 rfl (lv_at hl 1 rfl) ?_
  refine lv_iconst (v := 0) hx hb dX10_box_2 (by decide) ?_
  refine lv_bipush (v := 15) hx hb dX10_box_3 (by decide) ?_
  obtain ⟨q8, hcq8, hF⟩ := q_bd hF
  refine q_Si (As := [.int p0, .int 0, .int 15]) (rest := [.ref (aZ 0)]) ⟨hx, hb, hml, hown, hts⟩ hA hK hP hD hS (tX10_in l dC dI cI cZ H.size p0 0 15 q8 hcq8) (va_cwS 3 hts gX10_box_X10_in rfl rfl rfl uX10_in ⟨Nat.le_of_ble_eq_true rfl, Nat.le_of_ble_eq_true rfl⟩) [] [(false, 0), (false, 1), (false, 2), (false, 3)] (iX10_box aZ cI cZ Z_code Z_isBox Z_width Z_pinned Z_told Z_layers) rfl rfl rfl rfl rfl rfl hl.1 rfl (Nat.le_of_ble_eq_true rfl) dX10_box_5 ⟨Nat.zero_le _, Nat.zero_le _⟩ (fun H locs hP hD hS => ?_)
  refine lv_if_eq (tgt := 25) hx hb dX10_box_8 (by decide) (fun hc => ?_) (fun hc => ?_)
  · replace hF := q_t hc hF
    exact JX10_BOX_25 Z_code Z_isBox Z_width Z_pinned Z_told p0 p1 hF H locs ls hP hD hS (lv_sub hl [0, 1, 2] rfl)
  · replace hF := q_f hc hF
    refine lv_iload_n hx hb dX10_box_11 rfl (lv_at hl 2 rfl) ?_
    refine lv_iconst (v := 1) hx hb dX10_box_12 (by decide) ?_
    refine lv_bipush (v := 50) hx hb dX10_box_13 (by decide) ?_
    obtain ⟨q9, hcq9, hF⟩ := q_bd hF
    refine q_Si (As := [.int p1, .int 1, .int 50]) (rest := [.ref (aZ 0)]) ⟨hx, hb, hml, hown, hts⟩ hA hK hP hD hS (tX10_in l dC dI cI cZ H.size p1 1 50 q9 hcq9) (va_cwS 3 hts gX10_box_X10_in rfl rfl rfl uX10_in ⟨Nat.le_of_ble_eq_true rfl, Nat.le_of_ble_eq_true rfl⟩) [] [(false, 0), (false, 1), (false, 2), (false, 3)] (iX10_box aZ cI cZ Z_code Z_isBox Z_width Z_pinned Z_told Z_layers) rfl rfl rfl rfl rfl rfl hl.1 rfl (Nat.le_of_ble_eq_true rfl) dX10_box_15 ⟨Nat.zero_le _, Nat.zero_le _⟩ (fun H locs hP hD hS => ?_)
    refine lv_if_eq (tgt := 25) hx hb dX10_box_18 (by decide) (fun hc => ?_) (fun hc => ?_)
    · replace hF := q_t hc hF
      exact JX10_BOX_25 Z_code Z_isBox Z_width Z_pinned Z_told p0 p1 hF H locs ls hP hD hS (lv_sub hl [0, 1, 2] rfl)
    · replace hF := q_f hc hF
      refine lv_iconst (v := 0) hx hb dX10_box_21 (by decide) ?_
      refine lv_goto (tgt := 26) hx hb dX10_box_22 (by decide) ?_
      exact JX10_BOX_26 Z_code Z_isBox Z_width Z_pinned Z_told p0 p1 0 hF H locs ls hP hD hS (lv_sub hl [0, 1, 2] rfl)
abbrev rX10_leads : Room := { frames := 0, cells := 0, slots := 0, locals := 0 }
theorem eX10_leads_X10 : ∀ w ∈ u_ws RX10 TX10 24, w ∈ wsX10_leads := by decide +kernel
theorem uX10_leads : yX10_leads.cls = RX10 ∧ yX10_leads.cls ≠ "java/lang/invoke/MethodHandle" ∧ yX10_leads.cls ≠ "java/lang/invoke/VarHandle" ∧ (parseMethodDescriptor yX10_leads.desc).map (fun d => d.parameters.length) = some 3 := by decide +kernel
set_option maxHeartbeats 4000000 in
set_option maxRecDepth 100000 in
theorem tX10_leads (l : Launch) (dC : Nat → ClassId) (dI : Nat → Nat → Nat) (cI cZ : ClassId) (aZ : Nat → Nat) (sz : Nat) (Z_code : Int32) (Z_isArrow : Nat → Int32) (Z_from : Nat → Int32) (Z_to : Nat → Int32) (Z_turned : Nat → Int32) (Z_told : Int32) (Z_layers : Int32) (Z_come : Nat → Int32) (p0 : Int32) (p1 : Int32) (p2 : Int32) (res : Int32 × (Nat → Int32)) (hF : fX10_leads Z_isArrow Z_from Z_to Z_turned Z_come p0 p1 p2 = some res) : q_Mi l yX10_leads wsX10_leads rX10_leads (dC, dI) (q_ty cI cZ) [.ref (aZ 0), .int p0, .int p1, .int p2] (iX10_leads aZ cI cZ Z_code Z_isArrow Z_from Z_to Z_turned Z_told Z_layers Z_come) (iX10_leads aZ cI cZ Z_code Z_isArrow Z_from Z_to Z_turned Z_told Z_layers res.2) sz res.1 := by
  refine q_metz (cc := cX10_leads) (maxL := 6) (by decide) rfl (Nat.le_of_ble_eq_true rfl) ?_
  intro p e s m args below meth c Q A H locs ls C hP hD hS hl hret
  obtain ⟨hx, hb, hml, hown, hts, hA, hK⟩ := C
  replace hl : lv_has ls 6 [(0, .ref (aZ 0)), (1, .int p0), (2, .int p1), (3, .int p2)] := hl
  have k0 := hts (.fieldLink RX10 71 "RouteLayoutModel" "come" "[Z") (by decide +kernel)
  have k1 := hts (.fieldLink RX10 20 "RouteLayoutModel" "isArrow" "[Z") (by decide +kernel)
  have k2 := hts (.fieldLink RX10 29 "RouteLayoutModel" "turned" "[Z") (by decide +kernel)
  have k3 := hts (.fieldLink RX10 23 "RouteLayoutModel" "from" "[I") (by decide +kernel)
  have k4 := hts (.fieldLink RX10 26 "RouteLayoutModel" "to" "[I") (by decide +kernel)
  unfold fX10_leads at hF
  refine lv_iconst (v := 0) hx hb dX10_leads_0 (by decide) ?_
  refine lv_istore (lv' := [(4, .int 0), (0, .ref (aZ 0)), (1, .int p0), (2, .int p1), (3, .int p2)]) hx hb dX10_leads_1 hl (by decide) rfl (fun ls hl => ?_)
  obtain ⟨q1, hc1, hF⟩ := q_bd hF
  have X1 : ∀ (u1 : Nat → Int32), u1 = q1 → ∀ (H : Heap) (locs : List Loc) (ls : Array Slot), va_P (dC, dI) vwCl (iX10_leads aZ cI cZ Z_code Z_isArrow Z_from Z_to Z_turned Z_told Z_layers u1) H → va_D A (iX10_leads aZ cI cZ Z_code Z_isArrow Z_from Z_to Z_turned Z_told Z_layers u1) → va_S A s.heap H locs → lv_has ls 6 [(0, .ref (aZ 0)), (2, .int p1), (3, .int p2)] → W p l e (headSpec wsX10_leads (rX10_leads)).room s m args below meth c H locs 0 0 Q (F0 m 34 ls []) := by
    intro u1 hu H locs ls hP hD hS hl
    subst hu
    refine lv_iconst (v := 0) hx hb dX10_leads_34 (by decide) ?_
    refine lv_istore (lv' := [(4, .int 0), (0, .ref (aZ 0)), (2, .int p1), (3, .int p2)]) hx hb dX10_leads_35 hl (by decide) rfl (fun ls hl => ?_)
    obtain ⟨q5, hc5, hF⟩ := q_bd hF
    have X5 : ∀ (u5 : Nat → Int32), u5 = q5 → ∀ (H : Heap) (locs : List Loc) (ls : Array Slot), va_P (dC, dI) vwCl (iX10_leads aZ cI cZ Z_code Z_isArrow Z_from Z_to Z_turned Z_told Z_layers u5) H → va_D A (iX10_leads aZ cI cZ Z_code Z_isArrow Z_from Z_to Z_turned Z_told Z_layers u5) → va_S A s.heap H locs → lv_has ls 6 [(0, .ref (aZ 0)), (2, .int p1)] → W p l e (headSpec wsX10_leads (rX10_leads)).room s m args below meth c H locs 0 0 Q (F0 m 113 ls []) := by
      intro u5 hu H locs ls hP hD hS hl
      subst hu
      refine lv_aload_n hx hb dX10_leads_113 rfl (lv_at hl 0 rfl) ?_
      refine q_get (ci := 10) (C := RX10) (T := TX10) (N := 24) hx hb hts eX10_leads_X10 hown hK hP 0 rfl rfl 23 (Nat.le_of_ble_eq_true rfl) k0 rfl rfl dX10_leads_114 ?_
      refine lv_iload_n hx hb dX10_leads_117 rfl (lv_at hl 1 rfl) ?_
      obtain ⟨hn14, hF⟩ := q_ck hF
      refine va_zald hx hb hK hP 5 1 rfl rfl hn14 dX10_leads_118 ?_
      obtain ⟨hn15, hF⟩ := q_ck hF
      exact hret H locs ls 119 _ _ dX10_leads_119 hn15 (congrArg Prod.fst (Option.some.inj hF)) (congrArg (fun z : Int32 × (Nat → Int32) => (iX10_leads aZ cI cZ Z_code Z_isArrow Z_from Z_to Z_turned Z_told Z_layers z.2)) (Option.some.inj hF)) hP hD hS
    have L5 : ∀ st : Int32 × (Nat → Int32), q_lo (fun (st : Int32 × (Nat → Int32)) => bX10_leads_37 Z_isArrow Z_from Z_to Z_turned p1 p2 st.1 st.2) st = some q5 → ∀ (H : Heap) (locs : List Loc) (ls : Array Slot), va_P (dC, dI) vwCl (iX10_leads aZ cI cZ Z_code Z_isArrow Z_from Z_to Z_turned Z_told Z_layers st.2) H → va_D A (iX10_leads aZ cI cZ Z_code Z_isArrow Z_from Z_to Z_turned Z_told Z_layers st.2) → va_S A s.heap H locs → lv_has ls 6 [(0, .ref (aZ 0)), (2, .int p1), (3, .int p2), (4, .int st.1)] → W p l e (headSpec wsX10_leads (rX10_leads)).room s m args below meth c H locs 0 0 Q (F0 m 37 ls []) := by
      intro st hst
      refine q_walk (Wh := fun st : Int32 × (Nat → Int32) => ∀ (H : Heap) (locs : List Loc) (ls : Array Slot), va_P (dC, dI) vwCl (iX10_leads aZ cI cZ Z_code Z_isArrow Z_from Z_to Z_turned Z_told Z_layers st.2) H → va_D A (iX10_leads aZ cI cZ Z_code Z_isArrow Z_from Z_to Z_turned Z_told Z_layers st.2) → va_S A s.heap H locs → lv_has ls 6 [(0, .ref (aZ 0)), (2, .int p1), (3, .int p2), (4, .int st.1)] → W p l e (headSpec wsX10_leads (rX10_leads)).room s m args below meth c H locs 0 0 Q (F0 m 37 ls [])) ?_ st hst
      clear hst st hF
      intro st o hF hin hex H locs ls hP hD hS hl
      obtain ⟨x4_5, Z_come_5⟩ := st
      replace hF : bX10_leads_37 Z_isArrow Z_from Z_to Z_turned p1 p2 x4_5 Z_come_5 = some o := hF
      replace hP : va_P (dC, dI) vwCl (iX10_leads aZ cI cZ Z_code Z_isArrow Z_from Z_to Z_turned Z_told Z_layers Z_come_5) H := hP
      replace hD : va_D A (iX10_leads aZ cI cZ Z_code Z_isArrow Z_from Z_to Z_turned Z_told Z_layers Z_come_5) := hD
      replace hl : lv_has ls 6 [(0, .ref (aZ 0)), (2, .int p1), (3, .int p2), (4, .int x4_5)] := hl
      unfold bX10_leads_37 at hF
      refine lv_iload hx hb dX10_leads_37 (lv_at hl 3 rfl) ?_
      refine lv_bipush (v := 16) hx hb dX10_leads_39 (by decide) ?_
      refine lv_icmp_ge (tgt := 113) hx hb dX10_leads_41 (by decide) (fun hc => ?_) (fun hc => ?_)
      · replace hF := q_t hc hF
        exact X5 _ (hex _ (Option.some.inj hF).symm) H locs ls hP hD hS (lv_sub hl [0, 1] rfl)
      · replace hF := q_f hc hF
        refine lv_iconst (v := 0) hx hb dX10_leads_44 (by decide) ?_
        refine lv_istore (lv' := [(5, .int 0), (0, .ref (aZ 0)), (2, .int p1), (3, .int p2), (4, .int x4_5)]) hx hb dX10_leads_45 hl (by decide) rfl (fun ls hl => ?_)
        obtain ⟨q6, hc6, hF⟩ := q_bd hF
        have X6 : ∀ (u6 : Nat → Int32), u6 = q6 → ∀ (H : Heap) (locs : List Loc) (ls : Array Slot), va_P (dC, dI) vwCl (iX10_leads aZ cI cZ Z_code Z_isArrow Z_from Z_to Z_turned Z_told Z_layers u6) H → va_D A (iX10_leads aZ cI cZ Z_code Z_isArrow Z_from Z_to Z_turned Z_told Z_layers u6) → va_S A s.heap H locs → lv_has ls 6 [(0, .ref (aZ 0)), (2, .int p1), (3, .int p2), (4, .int x4_5)] → W p l e (headSpec wsX10_leads (rX10_leads)).room s m args below meth c H locs 0 0 Q (F0 m 107 ls []) := by
          intro u6 hu H locs ls hP hD hS hl
          subst hu
          refine lv_iinc (v := (x4_5 + 1)) (lv' := [(4, .int (x4_5 + 1)), (0, .ref (aZ 0)), (2, .int p1), (3, .int p2)]) hx hb dX10_leads_107 hl (k := 3) rfl rfl (by decide) rfl (fun ls hl => ?_)
          refine lv_goto (tgt := 37) hx hb dX10_leads_110 (by decide) ?_
          exact hin _ (Option.some.inj hF).symm H locs ls hP hD hS (lv_sub hl [1, 2, 3, 0] rfl)
        have L6 : ∀ st : Int32 × (Nat → Int32), q_lo (fun (st : Int32 × (Nat → Int32)) => bX10_leads_47 Z_isArrow Z_from Z_to Z_turned p1 p2 x4_5 st.1 st.2) st = some q6 → ∀ (H : Heap) (locs : List Loc) (ls : Array Slot), va_P (dC, dI) vwCl (iX10_leads aZ cI cZ Z_code Z_isArrow Z_from Z_to Z_turned Z_told Z_layers st.2) H → va_D A (iX10_leads aZ cI cZ Z_code Z_isArrow Z_from Z_to Z_turned Z_told Z_layers st.2) → va_S A s.heap H locs → lv_has ls 6 [(0, .ref (aZ 0)), (2, .int p1), (3, .int p2), (4, .int x4_5), (5, .int st.1)] → W p l e (headSpec wsX10_leads (rX10_leads)).room s m args below meth c H locs 0 0 Q (F0 m 47 ls []) := by
          intro st hst
          refine q_walk (Wh := fun st : Int32 × (Nat → Int32) => ∀ (H : Heap) (locs : List Loc) (ls : Array Slot), va_P (dC, dI) vwCl (iX10_leads aZ cI cZ Z_code Z_isArrow Z_from Z_to Z_turned Z_told Z_layers st.2) H → va_D A (iX10_leads aZ cI cZ Z_code Z_isArrow Z_from Z_to Z_turned Z_told Z_layers st.2) → va_S A s.heap H locs → lv_has ls 6 [(0, .ref (aZ 0)), (2, .int p1), (3, .int p2), (4, .int x4_5), (5, .int st.1)] → W p l e (headSpec wsX10_leads (rX10_leads)).room s m args below meth c H locs 0 0 Q (F0 m 47 ls [])) ?_ st hst
          clear hst st hF
          intro st o hF hin hex H locs ls hP hD hS hl
          obtain ⟨x5_6, Z_come_6⟩ := st
          replace hF : bX10_leads_47 Z_isArrow Z_from Z_to Z_turned p1 p2 x4_5 x5_6 Z_come_6 = some o := hF
          replace hP : va_P (dC, dI) vwCl (iX10_leads aZ cI cZ Z_code Z_isArrow Z_from Z_to Z_turned Z_told Z_layers Z_come_6) H := hP
          replace hD : va_D A (iX10_leads aZ cI cZ Z_code Z_isArrow Z_from Z_to Z_turned Z_told Z_layers Z_come_6) := hD
          replace hl : lv_has ls 6 [(0, .ref (aZ 0)), (2, .int p1), (3, .int p2), (4, .int x4_5), (5, .int x5_6)] := hl
          unfold bX10_leads_47 at hF
          have JX10_LEADS_101 : ∀ (Z_come_7 : Nat → Int32) (x5_7 : Int32), jX10_leads_101 Z_come_7 p1 p2 x4_5 x5_7 = some o → ∀ (H : Heap) (locs : List Loc) (ls : Array Slot), va_P (dC, dI) vwCl (iX10_leads aZ cI cZ Z_code Z_isArrow Z_from Z_to Z_turned Z_told Z_layers Z_come_7) H → va_D A (iX10_leads aZ cI cZ Z_code Z_isArrow Z_from Z_to Z_turned Z_told Z_layers Z_come_7) → va_S A s.heap H locs → lv_has ls 6 [(0, .ref (aZ 0)), (2, .int p1), (3, .int p2), (4, .int x4_5), (5, .int x5_7)] → W p l e (headSpec wsX10_leads (rX10_leads)).room s m args below meth c H locs 0 0 Q (F0 m 101 ls []) := by
            intro Z_come_7 x5_7 hF H locs ls hP hD hS hl
            unfold jX10_leads_101 at hF
            refine lv_iinc (v := (x5_7 + 1)) (lv' := [(5, .int (x5_7 + 1)), (0, .ref (aZ 0)), (2, .int p1), (3, .int p2), (4, .int x4_5)]) hx hb dX10_leads_101 hl (k := 4) rfl rfl (by decide) rfl (fun ls hl => ?_)
            refine lv_goto (tgt := 47) hx hb dX10_leads_104 (by decide) ?_
            exact hin _ (Option.some.inj hF).symm H locs ls hP hD hS (lv_sub hl [1, 2, 3, 4, 0] rfl)
          refine lv_iload hx hb dX10_leads_47 (lv_at hl 4 rfl) ?_
          refine lv_iload_n hx hb dX10_leads_49 rfl (lv_at hl 2 rfl) ?_
          refine lv_icmp_ge (tgt := 107) hx hb dX10_leads_50 (by decide) (fun hc => ?_) (fun hc => ?_)
          · replace hF := q_t hc hF
            exact X6 _ (hex _ (Option.some.inj hF).symm) H locs ls hP hD hS (lv_sub hl [0, 1, 2, 3] rfl)
          · replace hF := q_f hc hF
            refine lv_aload_n hx hb dX10_leads_53 rfl (lv_at hl 0 rfl) ?_
            refine q_get (ci := 10) (C := RX10) (T := TX10) (N := 24) hx hb hts eX10_leads_X10 hown hK hP 0 rfl rfl 4 (Nat.le_of_ble_eq_true rfl) k1 rfl rfl dX10_leads_54 ?_
            refine lv_iload hx hb dX10_leads_57 (lv_at hl 4 rfl) ?_
            obtain ⟨hn8, hF⟩ := q_ck hF
            refine va_zald hx hb hK hP 1 1 rfl rfl hn8 dX10_leads_59 ?_
            refine lv_if_eq (tgt := 101) hx hb dX10_leads_60 (by decide) (fun hc => ?_) (fun hc => ?_)
            · replace hF := q_t hc hF
              exact JX10_LEADS_101 Z_come_6 x5_6 hF H locs ls hP hD hS (lv_sub hl [0, 1, 2, 3, 4] rfl)
            · replace hF := q_f hc hF
              refine lv_aload_n hx hb dX10_leads_63 rfl (lv_at hl 0 rfl) ?_
              refine q_get (ci := 10) (C := RX10) (T := TX10) (N := 24) hx hb hts eX10_leads_X10 hown hK hP 0 rfl rfl 7 (Nat.le_of_ble_eq_true rfl) k2 rfl rfl dX10_leads_64 ?_
              refine lv_iload hx hb dX10_leads_67 (lv_at hl 4 rfl) ?_
              obtain ⟨hn9, hF⟩ := q_ck hF
              refine va_zald hx hb hK hP 4 1 rfl rfl hn9 dX10_leads_69 ?_
              refine lv_if_ne (tgt := 101) hx hb dX10_leads_70 (by decide) (fun hc => ?_) (fun hc => ?_)
              · replace hF := q_f hc hF
                exact JX10_LEADS_101 Z_come_6 x5_6 hF H locs ls hP hD hS (lv_sub hl [0, 1, 2, 3, 4] rfl)
              · replace hF := q_t hc hF
                refine lv_aload_n hx hb dX10_leads_73 rfl (lv_at hl 0 rfl) ?_
                refine q_get (ci := 10) (C := RX10) (T := TX10) (N := 24) hx hb hts eX10_leads_X10 hown hK hP 0 rfl rfl 23 (Nat.le_of_ble_eq_true rfl) k0 rfl rfl dX10_leads_74 ?_
                refine lv_aload_n hx hb dX10_leads_77 rfl (lv_at hl 0 rfl) ?_
                refine q_get (ci := 10) (C := RX10) (T := TX10) (N := 24) hx hb hts eX10_leads_X10 hown hK hP 0 rfl rfl 5 (Nat.le_of_ble_eq_true rfl) k3 rfl rfl dX10_leads_78 ?_
                refine lv_iload hx hb dX10_leads_81 (lv_at hl 4 rfl) ?_
                obtain ⟨hn10, hF⟩ := q_ck hF
                refine va_iald hx hb hK hP 2 0 rfl rfl hn10 dX10_leads_83 ?_
                obtain ⟨hn11, hF⟩ := q_ck hF
                refine va_zald hx hb hK hP 5 1 rfl rfl hn11 dX10_leads_84 ?_
                refine lv_if_eq (tgt := 101) hx hb dX10_leads_85 (by decide) (fun hc => ?_) (fun hc => ?_)
                · replace hF := q_t hc hF
                  exact JX10_LEADS_101 Z_come_6 x5_6 hF H locs ls hP hD hS (lv_sub hl [0, 1, 2, 3, 4] rfl)
                · replace hF := q_f hc hF
                  refine lv_aload_n hx hb dX10_leads_88 rfl (lv_at hl 0 rfl) ?_
                  refine q_get (ci := 10) (C := RX10) (T := TX10) (N := 24) hx hb hts eX10_leads_X10 hown hK hP 0 rfl rfl 23 (Nat.le_of_ble_eq_true rfl) k0 rfl rfl dX10_leads_89 ?_
                  refine lv_aload_n hx hb dX10_leads_92 rfl (lv_at hl 0 rfl) ?_
                  refine q_get (ci := 10) (C := RX10) (T := TX10) (N := 24) hx hb hts eX10_leads_X10 hown hK hP 0 rfl rfl 6 (Nat.le_of_ble_eq_true rfl) k4 rfl rfl dX10_leads_93 ?_
                  refine lv_iload hx hb dX10_leads_96 (lv_at hl 4 rfl) ?_
                  obtain ⟨hn12, hF⟩ := q_ck hF
                  refine va_iald hx hb hK hP 3 0 rfl rfl hn12 dX10_leads_98 ?_
                  refine lv_iconst (v := 1) hx hb dX10_leads_99 (by decide) ?_
                  obtain ⟨hn13, hF⟩ := q_ck hF
                  refine q_zast hx hb hK hP hD hS 5 1 (iX10_leads aZ cI cZ Z_code Z_isArrow Z_from Z_to Z_turned Z_told Z_layers (upd Z_come_6 (Z_to x5_6.toNatClampNeg).toNatClampNeg 1)) rfl rfl hn13 (Or.inr rfl) rfl dX10_leads_100 (fun H locs hP hD hS => ?_)
                  exact JX10_LEADS_101 (upd Z_come_6 (Z_to x5_6.toNatClampNeg).toNatClampNeg 1) x5_6 hF H locs ls hP hD hS (lv_sub hl [0, 1, 2, 3, 4] rfl)
        exact L6 (0, Z_come_5) hc6 H locs ls hP hD hS (lv_sub hl [1, 2, 3, 4, 0] rfl)
    exact L5 (0, u1) hc5 H locs ls hP hD hS (lv_sub hl [1, 2, 3, 0] rfl)
  have L1 : ∀ st : Int32 × (Nat → Int32), q_lo (fun (st : Int32 × (Nat → Int32)) => bX10_leads_3 p0 p1 p2 st.1 st.2) st = some q1 → ∀ (H : Heap) (locs : List Loc) (ls : Array Slot), va_P (dC, dI) vwCl (iX10_leads aZ cI cZ Z_code Z_isArrow Z_from Z_to Z_turned Z_told Z_layers st.2) H → va_D A (iX10_leads aZ cI cZ Z_code Z_isArrow Z_from Z_to Z_turned Z_told Z_layers st.2) → va_S A s.heap H locs → lv_has ls 6 [(0, .ref (aZ 0)), (1, .int p0), (2, .int p1), (3, .int p2), (4, .int st.1)] → W p l e (headSpec wsX10_leads (rX10_leads)).room s m args below meth c H locs 0 0 Q (F0 m 3 ls []) := by
    intro st hst
    refine q_walk (Wh := fun st : Int32 × (Nat → Int32) => ∀ (H : Heap) (locs : List Loc) (ls : Array Slot), va_P (dC, dI) vwCl (iX10_leads aZ cI cZ Z_code Z_isArrow Z_from Z_to Z_turned Z_told Z_layers st.2) H → va_D A (iX10_leads aZ cI cZ Z_code Z_isArrow Z_from Z_to Z_turned Z_told Z_layers st.2) → va_S A s.heap H locs → lv_has ls 6 [(0, .ref (aZ 0)), (1, .int p0), (2, .int p1), (3, .int p2), (4, .int st.1)] → W p l e (headSpec wsX10_leads (rX10_leads)).room s m args below meth c H locs 0 0 Q (F0 m 3 ls [])) ?_ st hst
    clear hst st hF
    intro st o hF hin hex H locs ls hP hD hS hl
    obtain ⟨x4_1, Z_come_1⟩ := st
    replace hF : bX10_leads_3 p0 p1 p2 x4_1 Z_come_1 = some o := hF
    replace hP : va_P (dC, dI) vwCl (iX10_leads aZ cI cZ Z_code Z_isArrow Z_from Z_to Z_turned Z_told Z_layers Z_come_1) H := hP
    replace hD : va_D A (iX10_leads aZ cI cZ Z_code Z_isArrow Z_from Z_to Z_turned Z_told Z_layers Z_come_1) := hD
    replace hl : lv_has ls 6 [(0, .ref (aZ 0)), (1, .int p0), (2, .int p1), (3, .int p2), (4, .int x4_1)] := hl
    unfold bX10_leads_3 at hF
    have JX10_LEADS_27 : ∀ (Z_come_2 : Nat → Int32) (x4_2 : Int32) (s0_2 : Int32) (s1_2 : Int32), jX10_leads_27 Z_come_2 p0 p1 p2 x4_2 s0_2 s1_2 = some o → ∀ (H : Heap) (locs : List Loc) (ls : Array Slot), va_P (dC, dI) vwCl (iX10_leads aZ cI cZ Z_code Z_isArrow Z_from Z_to Z_turned Z_told Z_layers Z_come_2) H → va_D A (iX10_leads aZ cI cZ Z_code Z_isArrow Z_from Z_to Z_turned Z_told Z_layers Z_come_2) → va_S A s.heap H locs → lv_has ls 6 [(0, .ref (aZ 0)), (1, .int p0), (2, .int p1), (3, .int p2), (4, .int x4_2)] → W p l e (headSpec wsX10_leads (rX10_leads)).room s m args below meth c H locs 0 0 Q (F0 m 27 ls [.int s0_2, .int s1_2, .ref (aZ 21)]) := by
      intro Z_come_2 x4_2 s0_2 s1_2 hF H locs ls hP hD hS hl
      unfold jX10_leads_27 at hF
      obtain ⟨hn3, hF⟩ := q_ck hF
      obtain ⟨hn4, hF⟩ := q_ck hF
      refine q_zast hx hb hK hP hD hS 5 1 (iX10_leads aZ cI cZ Z_code Z_isArrow Z_from Z_to Z_turned Z_told Z_layers (upd Z_come_2 s1_2.toNatClampNeg s0_2)) rfl rfl hn3 hn4 rfl dX10_leads_27 (fun H locs hP hD hS => ?_)
      refine lv_iinc (v := (x4_2 + 1)) (lv' := [(4, .int (x4_2 + 1)), (0, .ref (aZ 0)), (1, .int p0), (2, .int p1), (3, .int p2)]) hx hb dX10_leads_28 hl (k := 4) rfl rfl (by decide) rfl (fun ls hl => ?_)
      refine lv_goto (tgt := 3) hx hb dX10_leads_31 (by decide) ?_
      exact hin _ (Option.some.inj hF).symm H locs ls hP hD hS (lv_sub hl [1, 2, 3, 4, 0] rfl)
    refine lv_iload hx hb dX10_leads_3 (lv_at hl 4 rfl) ?_
    refine lv_bipush (v := 16) hx hb dX10_leads_5 (by decide) ?_
    refine lv_icmp_ge (tgt := 34) hx hb dX10_leads_7 (by decide) (fun hc => ?_) (fun hc => ?_)
    · replace hF := q_t hc hF
      exact X1 _ (hex _ (Option.some.inj hF).symm) H locs ls hP hD hS (lv_sub hl [0, 2, 3] rfl)
    · replace hF := q_f hc hF
      refine lv_aload_n hx hb dX10_leads_10 rfl (lv_at hl 0 rfl) ?_
      refine q_get (ci := 10) (C := RX10) (T := TX10) (N := 24) hx hb hts eX10_leads_X10 hown hK hP 0 rfl rfl 23 (Nat.le_of_ble_eq_true rfl) k0 rfl rfl dX10_leads_11 ?_
      refine lv_iload hx hb dX10_leads_14 (lv_at hl 4 rfl) ?_
      refine lv_iload hx hb dX10_leads_16 (lv_at hl 4 rfl) ?_
      refine lv_iload_n hx hb dX10_leads_18 rfl (lv_at hl 1 rfl) ?_
      refine lv_icmp_ne (tgt := 26) hx hb dX10_leads_19 (by decide) (fun hc => ?_) (fun hc => ?_)
      · replace hF := q_f hc hF
        refine lv_iconst (v := 0) hx hb dX10_leads_26 (by decide) ?_
        exact JX10_LEADS_27 Z_come_1 x4_1 0 x4_1 hF H locs ls hP hD hS (lv_sub hl [0, 1, 2, 3, 4] rfl)
      · replace hF := q_t hc hF
        refine lv_iconst (v := 1) hx hb dX10_leads_22 (by decide) ?_
        refine lv_goto (tgt := 27) hx hb dX10_leads_23 (by decide) ?_
        exact JX10_LEADS_27 Z_come_1 x4_1 1 x4_1 hF H locs ls hP hD hS (lv_sub hl [0, 1, 2, 3, 4] rfl)
  exact L1 (0, Z_come) hc1 H locs ls hP hD hS (lv_sub hl [1, 2, 3, 4, 0] rfl)
