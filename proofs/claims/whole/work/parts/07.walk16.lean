/-! Written by wip/whole/gen.py: walks of X10_pin, X10_redraw, X10_remove, X10_reversed, X10_thrown. -/
abbrev rX10_pin : Room := { frames := 2, cells := 0, slots := 0, locals := 43 }
theorem eX10_pin_X10 : ∀ w ∈ u_ws RX10 TX10 24, w ∈ wsX10_pin := by decide +kernel
theorem uX10_pin : yX10_pin.cls = RX10 ∧ yX10_pin.cls ≠ "java/lang/invoke/MethodHandle" ∧ yX10_pin.cls ≠ "java/lang/invoke/VarHandle" ∧ (parseMethodDescriptor yX10_pin.desc).map (fun d => d.parameters.length) = some 2 := by decide +kernel
set_option maxHeartbeats 4000000 in
set_option maxRecDepth 100000 in
theorem tX10_pin (l : Launch) (dC : Nat → ClassId) (dI : Nat → Nat → Nat) (cI cZ : ClassId) (aZ : Nat → Nat) (sz : Nat) (Z_code : Int32) (Z_isBox : Nat → Int32) (Z_pinned : Nat → Int32) (Z_told : Int32) (Z_layers : Int32) (p0 : Int32) (p1 : Int32) (res : Int32 × (Nat → Int32) × Int32) (hF : fX10_pin Z_isBox Z_pinned Z_told p0 p1 = some res) : q_Mv l yX10_pin wsX10_pin rX10_pin (dC, dI) (q_ty cI cZ) [.ref (aZ 0), .int p0, .int p1] (iX10_pin aZ cI cZ Z_code Z_isBox Z_pinned Z_told Z_layers) (iX10_pin aZ cI cZ res.1 Z_isBox res.2.1 res.2.2 Z_layers) sz := by
  refine q_metv (cc := cX10_pin) (maxL := 3) (by decide) rfl (Nat.le_of_ble_eq_true rfl) ?_
  intro p e s m args below meth c Q A H locs ls C hP hD hS hl hret
  obtain ⟨hx, hb, hml, hown, hts, hA, hK⟩ := C
  replace hl : lv_has ls 3 [(0, .ref (aZ 0)), (1, .int p0), (2, .int p1)] := hl
  have k0 := hts (.fieldLink RX10 74 "RouteLayoutModel" "code" "I") (by decide +kernel)
  have k1 := hts (.fieldLink RX10 17 "RouteLayoutModel" "pinned" "[I") (by decide +kernel)
  have k2 := hts (.fieldLink RX10 82 "RouteLayoutModel" "told" "Z") (by decide +kernel)
  unfold fX10_pin at hF
  have JX10_PIN_24 : ∀ (Z_code_1 : Int32) (Z_pinned_1 : Nat → Int32) (Z_told_1 : Int32) (x1_1 : Int32) (x2_1 : Int32) (s0_1 : Int32), jX10_pin_24 Z_pinned_1 Z_told_1 x1_1 x2_1 s0_1 = some res → ∀ (H : Heap) (locs : List Loc) (ls : Array Slot), va_P (dC, dI) vwCl (iX10_pin aZ cI cZ Z_code_1 Z_isBox Z_pinned_1 Z_told_1 Z_layers) H → va_D A (iX10_pin aZ cI cZ Z_code_1 Z_isBox Z_pinned_1 Z_told_1 Z_layers) → va_S A s.heap H locs → lv_has ls 3 [(0, .ref (aZ 0)), (1, .int x1_1), (2, .int x2_1)] → W p l e (headSpec wsX10_pin (rX10_pin)).room s m args below meth c H locs 0 0 Q (F0 m 24 ls [.int s0_1, .ref (aZ 0)]) := by
    intro Z_code_1 Z_pinned_1 Z_told_1 x1_1 x2_1 s0_1 hF H locs ls hP hD hS hl
    unfold jX10_pin_24 at hF
    refine q_put (ci := 10) (C := RX10) (T := TX10) (N := 24) (ty := .int) hx hb hts eX10_pin_X10 tyX10 tyX10_ok nmX10 hown hK hP hD hS 0 (iX10_pin aZ cI cZ s0_1 Z_isBox Z_pinned_1 Z_told_1 Z_layers) rfl rfl 0 (Nat.le_of_ble_eq_true rfl) k0 rfl rfl (by decide +kernel) rfl rfl (Nat.le_of_ble_eq_true rfl) rfl dX10_pin_24 (fun H locs hP hD hS => ?_)
    refine lv_aload_n hx hb dX10_pin_27 rfl (lv_at hl 0 rfl) ?_
    refine q_get (ci := 10) (C := RX10) (T := TX10) (N := 24) hx hb hts eX10_pin_X10 hown hK hP 0 rfl rfl 0 (Nat.le_of_ble_eq_true rfl) k0 rfl rfl dX10_pin_28 ?_
    refine lv_if_le (tgt := 35) hx hb dX10_pin_31 (by decide) (fun hc => ?_) (fun hc => ?_)
    · replace hF := q_t hc hF
      refine lv_aload_n hx hb dX10_pin_35 rfl (lv_at hl 0 rfl) ?_
      refine q_get (ci := 10) (C := RX10) (T := TX10) (N := 24) hx hb hts eX10_pin_X10 hown hK hP 0 rfl rfl 3 (Nat.le_of_ble_eq_true rfl) k1 rfl rfl dX10_pin_36 ?_
      refine lv_iload_n hx hb dX10_pin_39 rfl (lv_at hl 1 rfl) ?_
      refine lv_iload_n hx hb dX10_pin_40 rfl (lv_at hl 2 rfl) ?_
      obtain ⟨hn2, hF⟩ := q_ck hF
      refine q_iast hx hb hK hP hD hS 2 0 (iX10_pin aZ cI cZ s0_1 Z_isBox (upd Z_pinned_1 x1_1.toNatClampNeg x2_1) Z_told_1 Z_layers) rfl rfl hn2 rfl dX10_pin_41 (fun H locs hP hD hS => ?_)
      refine lv_aload_n hx hb dX10_pin_42 rfl (lv_at hl 0 rfl) ?_
      refine lv_iconst (v := 0) hx hb dX10_pin_43 (by decide) ?_
      refine q_put (ci := 10) (C := RX10) (T := TX10) (N := 24) (ty := .boolean) hx hb hts eX10_pin_X10 tyX10 tyX10_ok nmX10 hown hK hP hD hS 0 (iX10_pin aZ cI cZ s0_1 Z_isBox (upd Z_pinned_1 x1_1.toNatClampNeg x2_1) 0 Z_layers) rfl rfl 8 (Nat.le_of_ble_eq_true rfl) k2 rfl rfl (by decide +kernel) (q_narz (Or.inl rfl)) rfl (Nat.le_of_ble_eq_true rfl) rfl dX10_pin_44 (fun H locs hP hD hS => ?_)
      exact hret H locs ls 47 _ dX10_pin_47 (congrArg (fun z : Int32 × (Nat → Int32) × Int32 => (iX10_pin aZ cI cZ z.1 Z_isBox z.2.1 z.2.2 Z_layers)) (Option.some.inj hF)) hP hD hS
    · replace hF := q_f hc hF
      exact hret H locs ls 34 _ dX10_pin_34 (congrArg (fun z : Int32 × (Nat → Int32) × Int32 => (iX10_pin aZ cI cZ z.1 Z_isBox z.2.1 z.2.2 Z_layers)) (Option.some.inj hF)) hP hD hS
  have JX10_PIN_23 : ∀ (Z_code_3 : Int32) (Z_pinned_3 : Nat → Int32) (Z_told_3 : Int32) (x1_3 : Int32) (x2_3 : Int32), jX10_pin_23 Z_pinned_3 Z_told_3 x1_3 x2_3 = some res → ∀ (H : Heap) (locs : List Loc) (ls : Array Slot), va_P (dC, dI) vwCl (iX10_pin aZ cI cZ Z_code_3 Z_isBox Z_pinned_3 Z_told_3 Z_layers) H → va_D A (iX10_pin aZ cI cZ Z_code_3 Z_isBox Z_pinned_3 Z_told_3 Z_layers) → va_S A s.heap H locs → lv_has ls 3 [(0, .ref (aZ 0)), (1, .int x1_3), (2, .int x2_3)] → W p l e (headSpec wsX10_pin (rX10_pin)).room s m args below meth c H locs 0 0 Q (F0 m 23 ls [.ref (aZ 0)]) := by
    intro Z_code_3 Z_pinned_3 Z_told_3 x1_3 x2_3 hF H locs ls hP hD hS hl
    unfold jX10_pin_23 at hF
    refine lv_iconst (v := 1) hx hb dX10_pin_23 (by decide) ?_
    exact JX10_PIN_24 Z_code_3 Z_pinned_3 Z_told_3 x1_3 x2_3 1 hF H locs ls hP hD hS (lv_sub hl [0, 1, 2] rfl)
  refine lv_aload_n hx hb dX10_pin_0 rfl (lv_at hl 0 rfl) ?_
  refine lv_aload_n hx hb dX10_pin_1 rfl (lv_at hl 0 rfl) ?_
  refine lv_iload_n hx hb dX10_pin_2 rfl (lv_at hl 1 rfl) ?_
  obtain ⟨q4, hcq4, hF⟩ := q_bd hF
  refine q_Vi (As := [.int p0]) (rest := [.ref (aZ 0)]) ⟨hx, hb, hml, hown, hts⟩ hA hK hP hD hS (tX10_hasBox l dC dI cI cZ aZ H.size Z_code Z_isBox Z_told Z_layers p0 q4 hcq4) (cwV 1 hts gX10_pin_X10_hasBox rfl rfl rfl uX10_hasBox ⟨Nat.le_of_ble_eq_true rfl, Nat.le_of_ble_eq_true rfl⟩) [0, 1] [(true, 0), (true, 1), (false, 2)] (iX10_pin aZ cI cZ Z_code Z_isBox Z_pinned Z_told Z_layers) rfl rfl rfl rfl rfl 10 0 rfl rfl rfl rfl hl.1 rfl (Nat.le_of_ble_eq_true rfl) dX10_pin_3 ⟨Nat.zero_le _, Nat.zero_le _⟩ (fun H locs hP hD hS => ?_)
  refine lv_if_eq (tgt := 23) hx hb dX10_pin_6 (by decide) (fun hc => ?_) (fun hc => ?_)
  · replace hF := q_t hc hF
    exact JX10_PIN_23 Z_code Z_pinned Z_told p0 p1 hF H locs ls hP hD hS (lv_sub hl [0, 1, 2] rfl)
  · replace hF := q_f hc hF
    refine lv_iload_n hx hb dX10_pin_9 rfl (lv_at hl 2 rfl) ?_
    refine lv_iconst (v := (-1)) hx hb dX10_pin_10 (by decide) ?_
    refine lv_bipush (v := 8) hx hb dX10_pin_11 (by decide) ?_
    obtain ⟨q5, hcq5, hF⟩ := q_bd hF
    refine q_Si (As := [.int p1, .int (-1), .int 8]) (rest := [.ref (aZ 0)]) ⟨hx, hb, hml, hown, hts⟩ hA hK hP hD hS (tX10_in l dC dI cI cZ H.size p1 (-1) 8 q5 hcq5) (va_cwS 3 hts gX10_pin_X10_in rfl rfl rfl uX10_in ⟨Nat.le_of_ble_eq_true rfl, Nat.le_of_ble_eq_true rfl⟩) [] [(false, 0), (false, 1), (false, 2)] (iX10_pin aZ cI cZ Z_code Z_isBox Z_pinned Z_told Z_layers) rfl rfl rfl rfl rfl rfl hl.1 rfl (Nat.le_of_ble_eq_true rfl) dX10_pin_13 ⟨Nat.zero_le _, Nat.zero_le _⟩ (fun H locs hP hD hS => ?_)
    refine lv_if_eq (tgt := 23) hx hb dX10_pin_16 (by decide) (fun hc => ?_) (fun hc => ?_)
    · replace hF := q_t hc hF
      exact JX10_PIN_23 Z_code Z_pinned Z_told p0 p1 hF H locs ls hP hD hS (lv_sub hl [0, 1, 2] rfl)
    · replace hF := q_f hc hF
      refine lv_iconst (v := 0) hx hb dX10_pin_19 (by decide) ?_
      refine lv_goto (tgt := 24) hx hb dX10_pin_20 (by decide) ?_
      exact JX10_PIN_24 Z_code Z_pinned Z_told p0 p1 0 hF H locs ls hP hD hS (lv_sub hl [0, 1, 2] rfl)
abbrev rX10_redraw : Room := { frames := 5, cells := 0, slots := 0, locals := 124 }
theorem eX10_redraw_X10 : ∀ w ∈ u_ws RX10 TX10 24, w ∈ wsX10_redraw := by decide +kernel
theorem uX10_redraw : yX10_redraw.cls = RX10 ∧ yX10_redraw.cls ≠ "java/lang/invoke/MethodHandle" ∧ yX10_redraw.cls ≠ "java/lang/invoke/VarHandle" ∧ (parseMethodDescriptor yX10_redraw.desc).map (fun d => d.parameters.length) = some 2 := by decide +kernel
set_option maxHeartbeats 4000000 in
set_option maxRecDepth 100000 in
theorem tX10_redraw (l : Launch) (dC : Nat → ClassId) (dI : Nat → Nat → Nat) (cI cZ : ClassId) (aZ : Nat → Nat) (sz : Nat) (Z_code : Int32) (Z_isBox : Nat → Int32) (Z_width : Nat → Int32) (Z_pinned : Nat → Int32) (Z_isArrow : Nat → Int32) (Z_from : Nat → Int32) (Z_to : Nat → Int32) (Z_turned : Nat → Int32) (Z_told : Int32) (Z_layers : Int32) (Z_layer : Nat → Int32) (Z_sizes : Nat → Int32) (Z_items : Nat → Int32) (Z_place : Nat → Int32) (Z_dummyPlace : Nat → Int32) (Z_xs : Nat → Int32) (Z_oldLayer : Nat → Int32) (Z_oldPlace : Nat → Int32) (Z_oldDummy : Nat → Int32) (Z_spare : Nat → Int32) (Z_row : Nat → Int32) (Z_ends : Nat → Int32) (Z_near : Nat → Int32) (Z_come : Nat → Int32) (p0 : Int32) (p1 : Int32) (res : Int32 × Int32 × (Nat → Int32) × Int32 × Int32 × (Nat → Int32) × (Nat → Int32) × (Nat → Int32) × (Nat → Int32) × (Nat → Int32) × (Nat → Int32) × (Nat → Int32) × (Nat → Int32) × (Nat → Int32) × (Nat → Int32) × (Nat → Int32) × (Nat → Int32) × (Nat → Int32) × (Nat → Int32)) (hF : fX10_redraw Z_isBox Z_width Z_pinned Z_isArrow Z_from Z_to Z_turned Z_told Z_layers Z_layer Z_sizes Z_items Z_place Z_dummyPlace Z_xs Z_oldLayer Z_oldPlace Z_oldDummy Z_spare Z_row Z_ends Z_near Z_come p0 p1 = some res) : q_Mi l yX10_redraw wsX10_redraw rX10_redraw (dC, dI) (q_ty cI cZ) [.ref (aZ 0), .int p0, .int p1] (iX10_redraw aZ cI cZ Z_code Z_isBox Z_width Z_pinned Z_isArrow Z_from Z_to Z_turned Z_told Z_layers Z_layer Z_sizes Z_items Z_place Z_dummyPlace Z_xs Z_oldLayer Z_oldPlace Z_oldDummy Z_spare Z_row Z_ends Z_near Z_come) (iX10_redraw aZ cI cZ res.2.1 Z_isBox Z_width Z_pinned Z_isArrow Z_from Z_to res.2.2.1 res.2.2.2.1 res.2.2.2.2.1 res.2.2.2.2.2.1 res.2.2.2.2.2.2.1 res.2.2.2.2.2.2.2.1 res.2.2.2.2.2.2.2.2.1 res.2.2.2.2.2.2.2.2.2.1 res.2.2.2.2.2.2.2.2.2.2.1 res.2.2.2.2.2.2.2.2.2.2.2.1 res.2.2.2.2.2.2.2.2.2.2.2.2.1 res.2.2.2.2.2.2.2.2.2.2.2.2.2.1 res.2.2.2.2.2.2.2.2.2.2.2.2.2.2.1 res.2.2.2.2.2.2.2.2.2.2.2.2.2.2.2.1 res.2.2.2.2.2.2.2.2.2.2.2.2.2.2.2.2.1 res.2.2.2.2.2.2.2.2.2.2.2.2.2.2.2.2.2.1 res.2.2.2.2.2.2.2.2.2.2.2.2.2.2.2.2.2.2) sz res.1 := by
  refine q_meti (cc := cX10_redraw) (maxL := 6) (by decide) rfl (Nat.le_of_ble_eq_true rfl) ?_
  intro p e s m args below meth c Q A H locs ls C hP hD hS hl hret
  obtain ⟨hx, hb, hml, hown, hts, hA, hK⟩ := C
  replace hl : lv_has ls 6 [(0, .ref (aZ 0)), (1, .int p0), (2, .int p1)] := hl
  have k0 := hts (.fieldLink RX10 7 "RouteLayoutModel" "isBox" "[Z") (by decide +kernel)
  have k1 := hts (.fieldLink RX10 50 "RouteLayoutModel" "oldLayer" "[I") (by decide +kernel)
  have k2 := hts (.fieldLink RX10 32 "RouteLayoutModel" "layer" "[I") (by decide +kernel)
  have k3 := hts (.fieldLink RX10 53 "RouteLayoutModel" "oldPlace" "[I") (by decide +kernel)
  have k4 := hts (.fieldLink RX10 41 "RouteLayoutModel" "place" "[I") (by decide +kernel)
  have k5 := hts (.fieldLink RX10 74 "RouteLayoutModel" "code" "I") (by decide +kernel)
  have k6 := hts (.fieldLink RX10 82 "RouteLayoutModel" "told" "Z") (by decide +kernel)
  have k7 := hts (.fieldLink RX10 59 "RouteLayoutModel" "spare" "[I") (by decide +kernel)
  have k8 := hts (.fieldLink RX10 38 "RouteLayoutModel" "items" "[I") (by decide +kernel)
  have k9 := hts (.fieldLink RX10 103 "RouteLayoutModel" "layers" "I") (by decide +kernel)
  have k10 := hts (.constant RX10 180 (100000)) (by decide +kernel)
  unfold fX10_redraw at hF
  have JX10_REDRAW_161 : ∀ (Z_code_1 : Int32) (Z_turned_1 : Nat → Int32) (Z_told_1 : Int32) (Z_layers_1 : Int32) (Z_layer_1 : Nat → Int32) (Z_sizes_1 : Nat → Int32) (Z_items_1 : Nat → Int32) (Z_place_1 : Nat → Int32) (Z_dummyPlace_1 : Nat → Int32) (Z_xs_1 : Nat → Int32) (Z_oldLayer_1 : Nat → Int32) (Z_oldPlace_1 : Nat → Int32) (Z_oldDummy_1 : Nat → Int32) (Z_spare_1 : Nat → Int32) (Z_row_1 : Nat → Int32) (Z_ends_1 : Nat → Int32) (Z_near_1 : Nat → Int32) (Z_come_1 : Nat → Int32), jX10_redraw_161 Z_code_1 Z_isBox Z_width Z_isArrow Z_from Z_to Z_turned_1 Z_layers_1 Z_layer_1 Z_sizes_1 Z_items_1 Z_place_1 Z_dummyPlace_1 Z_xs_1 Z_oldLayer_1 Z_oldPlace_1 Z_oldDummy_1 Z_spare_1 Z_row_1 Z_ends_1 Z_near_1 Z_come_1 = some res → ∀ (H : Heap) (locs : List Loc) (ls : Array Slot), va_P (dC, dI) vwCl (iX10_redraw aZ cI cZ Z_code_1 Z_isBox Z_width Z_pinned Z_isArrow Z_from Z_to Z_turned_1 Z_told_1 Z_layers_1 Z_layer_1 Z_sizes_1 Z_items_1 Z_place_1 Z_dummyPlace_1 Z_xs_1 Z_oldLayer_1 Z_oldPlace_1 Z_oldDummy_1 Z_spare_1 Z_row_1 Z_ends_1 Z_near_1 Z_come_1) H → va_D A (iX10_redraw aZ cI cZ Z_code_1 Z_isBox Z_width Z_pinned Z_isArrow Z_from Z_to Z_turned_1 Z_told_1 Z_layers_1 Z_layer_1 Z_sizes_1 Z_items_1 Z_place_1 Z_dummyPlace_1 Z_xs_1 Z_oldLayer_1 Z_oldPlace_1 Z_oldDummy_1 Z_spare_1 Z_row_1 Z_ends_1 Z_near_1 Z_come_1) → va_S A s.heap H locs → lv_has ls 6 [(0, .ref (aZ 0))] → W p l e (headSpec wsX10_redraw (rX10_redraw)).room s m args below meth c H locs 0 0 Q (F0 m 161 ls []) := by
    intro Z_code_1 Z_turned_1 Z_told_1 Z_layers_1 Z_layer_1 Z_sizes_1 Z_items_1 Z_place_1 Z_dummyPlace_1 Z_xs_1 Z_oldLayer_1 Z_oldPlace_1 Z_oldDummy_1 Z_spare_1 Z_row_1 Z_ends_1 Z_near_1 Z_come_1 hF H locs ls hP hD hS hl
    unfold jX10_redraw_161 at hF
    refine lv_iconst (v := 0) hx hb dX10_redraw_161 (by decide) ?_
    refine lv_istore (lv' := [(4, .int 0), (0, .ref (aZ 0))]) hx hb dX10_redraw_162 hl (by decide) rfl (fun ls hl => ?_)
    refine lv_iconst (v := 0) hx hb dX10_redraw_164 (by decide) ?_
    refine lv_istore (lv' := [(5, .int 0), (4, .int 0), (0, .ref (aZ 0))]) hx hb dX10_redraw_165 hl (by decide) rfl (fun ls hl => ?_)
    obtain ⟨q2, hc2, hF⟩ := q_bd hF
    have X2 : ∀ (u2 : Int32), u2 = q2 → ∀ (H : Heap) (locs : List Loc) (ls : Array Slot), va_P (dC, dI) vwCl (iX10_redraw aZ cI cZ Z_code_1 Z_isBox Z_width Z_pinned Z_isArrow Z_from Z_to Z_turned_1 Z_told_1 Z_layers_1 Z_layer_1 Z_sizes_1 Z_items_1 Z_place_1 Z_dummyPlace_1 Z_xs_1 Z_oldLayer_1 Z_oldPlace_1 Z_oldDummy_1 Z_spare_1 Z_row_1 Z_ends_1 Z_near_1 Z_come_1) H → va_D A (iX10_redraw aZ cI cZ Z_code_1 Z_isBox Z_width Z_pinned Z_isArrow Z_from Z_to Z_turned_1 Z_told_1 Z_layers_1 Z_layer_1 Z_sizes_1 Z_items_1 Z_place_1 Z_dummyPlace_1 Z_xs_1 Z_oldLayer_1 Z_oldPlace_1 Z_oldDummy_1 Z_spare_1 Z_row_1 Z_ends_1 Z_near_1 Z_come_1) → va_S A s.heap H locs → lv_has ls 6 [(0, .ref (aZ 0)), (4, .int u2)] → W p l e (headSpec wsX10_redraw (rX10_redraw)).room s m args below meth c H locs 0 0 Q (F0 m 237 ls []) := by
      intro u2 hu H locs ls hP hD hS hl
      subst hu
      refine lv_aload_n hx hb dX10_redraw_237 rfl (lv_at hl 0 rfl) ?_
      obtain ⟨q11_0, q11_1, q11_2, q11_3, q11_4, hcq11, hF⟩ := q_bd5 hF
      refine q_Vv (As := []) (rest := []) ⟨hx, hb, hml, hown, hts⟩ hA hK hP hD hS (tX10_made l dC dI cI cZ aZ H.size Z_code_1 Z_isBox Z_width Z_isArrow Z_from Z_to Z_turned_1 Z_told_1 Z_layers_1 Z_layer_1 Z_sizes_1 Z_items_1 Z_place_1 Z_dummyPlace_1 Z_xs_1 Z_oldLayer_1 Z_oldPlace_1 Z_oldDummy_1 (q11_0, q11_1, q11_2, q11_3, q11_4) hcq11) (cwV 0 hts gX10_redraw_X10_made rfl rfl rfl uX10_made ⟨Nat.le_of_ble_eq_true rfl, Nat.le_of_ble_eq_true rfl⟩) [0, 1, 2, 4, 5, 6, 7, 8, 9, 10, 11, 12, 13, 14, 15, 16] [(true, 0), (true, 1), (true, 2), (false, 3), (true, 3), (true, 4), (true, 5), (true, 6), (true, 7), (true, 8), (true, 9), (true, 10), (true, 11), (true, 12), (true, 13), (true, 14), (true, 15), (false, 17), (false, 18), (false, 19), (false, 20), (false, 21)] (iX10_redraw aZ cI cZ Z_code_1 Z_isBox Z_width Z_pinned Z_isArrow Z_from Z_to Z_turned_1 q11_0 Z_layers_1 Z_layer_1 Z_sizes_1 Z_items_1 Z_place_1 Z_dummyPlace_1 q11_1 q11_2 q11_3 q11_4 Z_spare_1 Z_row_1 Z_ends_1 Z_near_1 Z_come_1) rfl rfl rfl rfl rfl 10 0 rfl rfl rfl rfl hl.1 rfl (Nat.le_of_ble_eq_true rfl) dX10_redraw_238 ⟨Nat.zero_le _, Nat.zero_le _⟩ (fun H locs hP hD hS => ?_)
      refine lv_iload hx hb dX10_redraw_241 (lv_at hl 1 rfl) ?_
      exact hret H locs ls 243 _ _ dX10_redraw_243 (congrArg Prod.fst (Option.some.inj hF)) (congrArg (fun z : Int32 × Int32 × (Nat → Int32) × Int32 × Int32 × (Nat → Int32) × (Nat → Int32) × (Nat → Int32) × (Nat → Int32) × (Nat → Int32) × (Nat → Int32) × (Nat → Int32) × (Nat → Int32) × (Nat → Int32) × (Nat → Int32) × (Nat → Int32) × (Nat → Int32) × (Nat → Int32) × (Nat → Int32) => (iX10_redraw aZ cI cZ z.2.1 Z_isBox Z_width Z_pinned Z_isArrow Z_from Z_to z.2.2.1 z.2.2.2.1 z.2.2.2.2.1 z.2.2.2.2.2.1 z.2.2.2.2.2.2.1 z.2.2.2.2.2.2.2.1 z.2.2.2.2.2.2.2.2.1 z.2.2.2.2.2.2.2.2.2.1 z.2.2.2.2.2.2.2.2.2.2.1 z.2.2.2.2.2.2.2.2.2.2.2.1 z.2.2.2.2.2.2.2.2.2.2.2.2.1 z.2.2.2.2.2.2.2.2.2.2.2.2.2.1 z.2.2.2.2.2.2.2.2.2.2.2.2.2.2.1 z.2.2.2.2.2.2.2.2.2.2.2.2.2.2.2.1 z.2.2.2.2.2.2.2.2.2.2.2.2.2.2.2.2.1 z.2.2.2.2.2.2.2.2.2.2.2.2.2.2.2.2.2.1 z.2.2.2.2.2.2.2.2.2.2.2.2.2.2.2.2.2.2)) (Option.some.inj hF)) hP hD hS
    have L2 : ∀ st : Int32 × Int32, q_lo (fun (st : Int32 × Int32) => bX10_redraw_167 Z_isBox Z_layer_1 Z_place_1 Z_oldLayer_1 Z_oldPlace_1 st.1 st.2) st = some q2 → ∀ (H : Heap) (locs : List Loc) (ls : Array Slot), va_P (dC, dI) vwCl (iX10_redraw aZ cI cZ Z_code_1 Z_isBox Z_width Z_pinned Z_isArrow Z_from Z_to Z_turned_1 Z_told_1 Z_layers_1 Z_layer_1 Z_sizes_1 Z_items_1 Z_place_1 Z_dummyPlace_1 Z_xs_1 Z_oldLayer_1 Z_oldPlace_1 Z_oldDummy_1 Z_spare_1 Z_row_1 Z_ends_1 Z_near_1 Z_come_1) H → va_D A (iX10_redraw aZ cI cZ Z_code_1 Z_isBox Z_width Z_pinned Z_isArrow Z_from Z_to Z_turned_1 Z_told_1 Z_layers_1 Z_layer_1 Z_sizes_1 Z_items_1 Z_place_1 Z_dummyPlace_1 Z_xs_1 Z_oldLayer_1 Z_oldPlace_1 Z_oldDummy_1 Z_spare_1 Z_row_1 Z_ends_1 Z_near_1 Z_come_1) → va_S A s.heap H locs → lv_has ls 6 [(0, .ref (aZ 0)), (4, .int st.1), (5, .int st.2)] → W p l e (headSpec wsX10_redraw (rX10_redraw)).room s m args below meth c H locs 0 0 Q (F0 m 167 ls []) := by
      intro st hst
      refine q_walk (Wh := fun st : Int32 × Int32 => ∀ (H : Heap) (locs : List Loc) (ls : Array Slot), va_P (dC, dI) vwCl (iX10_redraw aZ cI cZ Z_code_1 Z_isBox Z_width Z_pinned Z_isArrow Z_from Z_to Z_turned_1 Z_told_1 Z_layers_1 Z_layer_1 Z_sizes_1 Z_items_1 Z_place_1 Z_dummyPlace_1 Z_xs_1 Z_oldLayer_1 Z_oldPlace_1 Z_oldDummy_1 Z_spare_1 Z_row_1 Z_ends_1 Z_near_1 Z_come_1) H → va_D A (iX10_redraw aZ cI cZ Z_code_1 Z_isBox Z_width Z_pinned Z_isArrow Z_from Z_to Z_turned_1 Z_told_1 Z_layers_1 Z_layer_1 Z_sizes_1 Z_items_1 Z_place_1 Z_dummyPlace_1 Z_xs_1 Z_oldLayer_1 Z_oldPlace_1 Z_oldDummy_1 Z_spare_1 Z_row_1 Z_ends_1 Z_near_1 Z_come_1) → va_S A s.heap H locs → lv_has ls 6 [(0, .ref (aZ 0)), (4, .int st.1), (5, .int st.2)] → W p l e (headSpec wsX10_redraw (rX10_redraw)).room s m args below meth c H locs 0 0 Q (F0 m 167 ls [])) ?_ st hst
      clear hst st hF
      intro st o hF hin hex H locs ls hP hD hS hl
      obtain ⟨x4_2, x5_2⟩ := st
      replace hF : bX10_redraw_167 Z_isBox Z_layer_1 Z_place_1 Z_oldLayer_1 Z_oldPlace_1 x4_2 x5_2 = some o := hF
      replace hP : va_P (dC, dI) vwCl (iX10_redraw aZ cI cZ Z_code_1 Z_isBox Z_width Z_pinned Z_isArrow Z_from Z_to Z_turned_1 Z_told_1 Z_layers_1 Z_layer_1 Z_sizes_1 Z_items_1 Z_place_1 Z_dummyPlace_1 Z_xs_1 Z_oldLayer_1 Z_oldPlace_1 Z_oldDummy_1 Z_spare_1 Z_row_1 Z_ends_1 Z_near_1 Z_come_1) H := hP
      replace hD : va_D A (iX10_redraw aZ cI cZ Z_code_1 Z_isBox Z_width Z_pinned Z_isArrow Z_from Z_to Z_turned_1 Z_told_1 Z_layers_1 Z_layer_1 Z_sizes_1 Z_items_1 Z_place_1 Z_dummyPlace_1 Z_xs_1 Z_oldLayer_1 Z_oldPlace_1 Z_oldDummy_1 Z_spare_1 Z_row_1 Z_ends_1 Z_near_1 Z_come_1) := hD
      replace hl : lv_has ls 6 [(0, .ref (aZ 0)), (4, .int x4_2), (5, .int x5_2)] := hl
      unfold bX10_redraw_167 at hF
      have JX10_REDRAW_231 : ∀ (x4_3 : Int32) (x5_3 : Int32), jX10_redraw_231 x4_3 x5_3 = some o → ∀ (H : Heap) (locs : List Loc) (ls : Array Slot), va_P (dC, dI) vwCl (iX10_redraw aZ cI cZ Z_code_1 Z_isBox Z_width Z_pinned Z_isArrow Z_from Z_to Z_turned_1 Z_told_1 Z_layers_1 Z_layer_1 Z_sizes_1 Z_items_1 Z_place_1 Z_dummyPlace_1 Z_xs_1 Z_oldLayer_1 Z_oldPlace_1 Z_oldDummy_1 Z_spare_1 Z_row_1 Z_ends_1 Z_near_1 Z_come_1) H → va_D A (iX10_redraw aZ cI cZ Z_code_1 Z_isBox Z_width Z_pinned Z_isArrow Z_from Z_to Z_turned_1 Z_told_1 Z_layers_1 Z_layer_1 Z_sizes_1 Z_items_1 Z_place_1 Z_dummyPlace_1 Z_xs_1 Z_oldLayer_1 Z_oldPlace_1 Z_oldDummy_1 Z_spare_1 Z_row_1 Z_ends_1 Z_near_1 Z_come_1) → va_S A s.heap H locs → lv_has ls 6 [(0, .ref (aZ 0)), (4, .int x4_3), (5, .int x5_3)] → W p l e (headSpec wsX10_redraw (rX10_redraw)).room s m args below meth c H locs 0 0 Q (F0 m 231 ls []) := by
        intro x4_3 x5_3 hF H locs ls hP hD hS hl
        unfold jX10_redraw_231 at hF
        refine lv_iinc (v := (x5_3 + 1)) (lv' := [(5, .int (x5_3 + 1)), (0, .ref (aZ 0)), (4, .int x4_3)]) hx hb dX10_redraw_231 hl (k := 2) rfl rfl (by decide) rfl (fun ls hl => ?_)
        refine lv_goto (tgt := 167) hx hb dX10_redraw_234 (by decide) ?_
        exact hin _ (Option.some.inj hF).symm H locs ls hP hD hS (lv_sub hl [1, 2, 0] rfl)
      have JX10_REDRAW_228 : ∀ (x4_4 : Int32) (x5_4 : Int32), jX10_redraw_228 x4_4 x5_4 = some o → ∀ (H : Heap) (locs : List Loc) (ls : Array Slot), va_P (dC, dI) vwCl (iX10_redraw aZ cI cZ Z_code_1 Z_isBox Z_width Z_pinned Z_isArrow Z_from Z_to Z_turned_1 Z_told_1 Z_layers_1 Z_layer_1 Z_sizes_1 Z_items_1 Z_place_1 Z_dummyPlace_1 Z_xs_1 Z_oldLayer_1 Z_oldPlace_1 Z_oldDummy_1 Z_spare_1 Z_row_1 Z_ends_1 Z_near_1 Z_come_1) H → va_D A (iX10_redraw aZ cI cZ Z_code_1 Z_isBox Z_width Z_pinned Z_isArrow Z_from Z_to Z_turned_1 Z_told_1 Z_layers_1 Z_layer_1 Z_sizes_1 Z_items_1 Z_place_1 Z_dummyPlace_1 Z_xs_1 Z_oldLayer_1 Z_oldPlace_1 Z_oldDummy_1 Z_spare_1 Z_row_1 Z_ends_1 Z_near_1 Z_come_1) → va_S A s.heap H locs → lv_has ls 6 [(0, .ref (aZ 0)), (4, .int x4_4), (5, .int x5_4)] → W p l e (headSpec wsX10_redraw (rX10_redraw)).room s m args below meth c H locs 0 0 Q (F0 m 228 ls []) := by
        intro x4_4 x5_4 hF H locs ls hP hD hS hl
        unfold jX10_redraw_228 at hF
        refine lv_iinc (v := (x4_4 + 1)) (lv' := [(4, .int (x4_4 + 1)), (0, .ref (aZ 0)), (5, .int x5_4)]) hx hb dX10_redraw_228 hl (k := 1) rfl rfl (by decide) rfl (fun ls hl => ?_)
        exact JX10_REDRAW_231 (x4_4 + 1) x5_4 hF H locs ls hP hD hS (lv_sub hl [1, 0, 2] rfl)
      refine lv_iload hx hb dX10_redraw_167 (lv_at hl 2 rfl) ?_
      refine lv_bipush (v := 16) hx hb dX10_redraw_169 (by decide) ?_
      refine lv_icmp_ge (tgt := 237) hx hb dX10_redraw_171 (by decide) (fun hc => ?_) (fun hc => ?_)
      · replace hF := q_t hc hF
        exact X2 _ (hex _ (Option.some.inj hF).symm) H locs ls hP hD hS (lv_sub hl [0, 1] rfl)
      · replace hF := q_f hc hF
        refine lv_aload_n hx hb dX10_redraw_174 rfl (lv_at hl 0 rfl) ?_
        refine q_get (ci := 10) (C := RX10) (T := TX10) (N := 24) hx hb hts eX10_redraw_X10 hown hK hP 0 rfl rfl 1 (Nat.le_of_ble_eq_true rfl) k0 rfl rfl dX10_redraw_175 ?_
        refine lv_iload hx hb dX10_redraw_178 (lv_at hl 2 rfl) ?_
        obtain ⟨hn5, hF⟩ := q_ck hF
        refine va_zald hx hb hK hP 1 1 rfl rfl hn5 dX10_redraw_180 ?_
        refine lv_if_eq (tgt := 231) hx hb dX10_redraw_181 (by decide) (fun hc => ?_) (fun hc => ?_)
        · replace hF := q_t hc hF
          exact JX10_REDRAW_231 x4_2 x5_2 hF H locs ls hP hD hS (lv_sub hl [0, 1, 2] rfl)
        · replace hF := q_f hc hF
          refine lv_aload_n hx hb dX10_redraw_184 rfl (lv_at hl 0 rfl) ?_
          refine q_get (ci := 10) (C := RX10) (T := TX10) (N := 24) hx hb hts eX10_redraw_X10 hown hK hP 0 rfl rfl 16 (Nat.le_of_ble_eq_true rfl) k1 rfl rfl dX10_redraw_185 ?_
          refine lv_iload hx hb dX10_redraw_188 (lv_at hl 2 rfl) ?_
          obtain ⟨hn6, hF⟩ := q_ck hF
          refine va_iald hx hb hK hP 14 0 rfl rfl hn6 dX10_redraw_190 ?_
          refine lv_if_lt (tgt := 231) hx hb dX10_redraw_191 (by decide) (fun hc => ?_) (fun hc => ?_)
          · replace hF := q_t hc hF
            exact JX10_REDRAW_231 x4_2 x5_2 hF H locs ls hP hD hS (lv_sub hl [0, 1, 2] rfl)
          · replace hF := q_f hc hF
            refine lv_aload_n hx hb dX10_redraw_194 rfl (lv_at hl 0 rfl) ?_
            refine q_get (ci := 10) (C := RX10) (T := TX10) (N := 24) hx hb hts eX10_redraw_X10 hown hK hP 0 rfl rfl 16 (Nat.le_of_ble_eq_true rfl) k1 rfl rfl dX10_redraw_195 ?_
            refine lv_iload hx hb dX10_redraw_198 (lv_at hl 2 rfl) ?_
            obtain ⟨hn7, hF⟩ := q_ck hF
            refine va_iald hx hb hK hP 14 0 rfl rfl hn7 dX10_redraw_200 ?_
            refine lv_aload_n hx hb dX10_redraw_201 rfl (lv_at hl 0 rfl) ?_
            refine q_get (ci := 10) (C := RX10) (T := TX10) (N := 24) hx hb hts eX10_redraw_X10 hown hK hP 0 rfl rfl 10 (Nat.le_of_ble_eq_true rfl) k2 rfl rfl dX10_redraw_202 ?_
            refine lv_iload hx hb dX10_redraw_205 (lv_at hl 2 rfl) ?_
            obtain ⟨hn8, hF⟩ := q_ck hF
            refine va_iald hx hb hK hP 8 0 rfl rfl hn8 dX10_redraw_207 ?_
            refine lv_icmp_ne (tgt := 228) hx hb dX10_redraw_208 (by decide) (fun hc => ?_) (fun hc => ?_)
            · replace hF := q_f hc hF
              exact JX10_REDRAW_228 x4_2 x5_2 hF H locs ls hP hD hS (lv_sub hl [0, 1, 2] rfl)
            · replace hF := q_t hc hF
              refine lv_aload_n hx hb dX10_redraw_211 rfl (lv_at hl 0 rfl) ?_
              refine q_get (ci := 10) (C := RX10) (T := TX10) (N := 24) hx hb hts eX10_redraw_X10 hown hK hP 0 rfl rfl 17 (Nat.le_of_ble_eq_true rfl) k3 rfl rfl dX10_redraw_212 ?_
              refine lv_iload hx hb dX10_redraw_215 (lv_at hl 2 rfl) ?_
              obtain ⟨hn9, hF⟩ := q_ck hF
              refine va_iald hx hb hK hP 15 0 rfl rfl hn9 dX10_redraw_217 ?_
              refine lv_aload_n hx hb dX10_redraw_218 rfl (lv_at hl 0 rfl) ?_
              refine q_get (ci := 10) (C := RX10) (T := TX10) (N := 24) hx hb hts eX10_redraw_X10 hown hK hP 0 rfl rfl 13 (Nat.le_of_ble_eq_true rfl) k4 rfl rfl dX10_redraw_219 ?_
              refine lv_iload hx hb dX10_redraw_222 (lv_at hl 2 rfl) ?_
              obtain ⟨hn10, hF⟩ := q_ck hF
              refine va_iald hx hb hK hP 11 0 rfl rfl hn10 dX10_redraw_224 ?_
              refine lv_icmp_eq (tgt := 231) hx hb dX10_redraw_225 (by decide) (fun hc => ?_) (fun hc => ?_)
              · replace hF := q_t hc hF
                exact JX10_REDRAW_231 x4_2 x5_2 hF H locs ls hP hD hS (lv_sub hl [0, 1, 2] rfl)
              · replace hF := q_f hc hF
                exact JX10_REDRAW_228 x4_2 x5_2 hF H locs ls hP hD hS (lv_sub hl [0, 1, 2] rfl)
    exact L2 (0, 0) hc2 H locs ls hP hD hS (lv_sub hl [2, 1, 0] rfl)
  have JX10_REDRAW_25 : ∀ (Z_code_12 : Int32) (Z_turned_12 : Nat → Int32) (Z_told_12 : Int32) (Z_layers_12 : Int32) (Z_layer_12 : Nat → Int32) (Z_sizes_12 : Nat → Int32) (Z_items_12 : Nat → Int32) (Z_place_12 : Nat → Int32) (Z_dummyPlace_12 : Nat → Int32) (Z_xs_12 : Nat → Int32) (Z_oldLayer_12 : Nat → Int32) (Z_oldPlace_12 : Nat → Int32) (Z_oldDummy_12 : Nat → Int32) (Z_spare_12 : Nat → Int32) (Z_row_12 : Nat → Int32) (Z_ends_12 : Nat → Int32) (Z_near_12 : Nat → Int32) (Z_come_12 : Nat → Int32) (x1_12 : Int32) (x2_12 : Int32) (s0_12 : Int32), jX10_redraw_25 Z_isBox Z_width Z_pinned Z_isArrow Z_from Z_to Z_turned_12 Z_told_12 Z_layers_12 Z_layer_12 Z_sizes_12 Z_items_12 Z_place_12 Z_dummyPlace_12 Z_xs_12 Z_oldLayer_12 Z_oldPlace_12 Z_oldDummy_12 Z_spare_12 Z_row_12 Z_ends_12 Z_near_12 Z_come_12 x1_12 x2_12 s0_12 = some res → ∀ (H : Heap) (locs : List Loc) (ls : Array Slot), va_P (dC, dI) vwCl (iX10_redraw aZ cI cZ Z_code_12 Z_isBox Z_width Z_pinned Z_isArrow Z_from Z_to Z_turned_12 Z_told_12 Z_layers_12 Z_layer_12 Z_sizes_12 Z_items_12 Z_place_12 Z_dummyPlace_12 Z_xs_12 Z_oldLayer_12 Z_oldPlace_12 Z_oldDummy_12 Z_spare_12 Z_row_12 Z_ends_12 Z_near_12 Z_come_12) H → va_D A (iX10_redraw aZ cI cZ Z_code_12 Z_isBox Z_width Z_pinned Z_isArrow Z_from Z_to Z_turned_12 Z_told_12 Z_layers_12 Z_layer_12 Z_sizes_12 Z_items_12 Z_place_12 Z_dummyPlace_12 Z_xs_12 Z_oldLayer_12 Z_oldPlace_12 Z_oldDummy_12 Z_spare_12 Z_row_12 Z_ends_12 Z_near_12 Z_come_12) → va_S A s.heap H locs → lv_has ls 6 [(0, .ref (aZ 0)), (1, .int x1_12), (2, .int x2_12)] → W p l e (headSpec wsX10_redraw (rX10_redraw)).room s m args below meth c H locs 0 0 Q (F0 m 25 ls [.int s0_12, .ref (aZ 0)]) := by
    intro Z_code_12 Z_turned_12 Z_told_12 Z_layers_12 Z_layer_12 Z_sizes_12 Z_items_12 Z_place_12 Z_dummyPlace_12 Z_xs_12 Z_oldLayer_12 Z_oldPlace_12 Z_oldDummy_12 Z_spare_12 Z_row_12 Z_ends_12 Z_near_12 Z_come_12 x1_12 x2_12 s0_12 hF H locs ls hP hD hS hl
    unfold jX10_redraw_25 at hF
    refine q_put (ci := 10) (C := RX10) (T := TX10) (N := 24) (ty := .int) hx hb hts eX10_redraw_X10 tyX10 tyX10_ok nmX10 hown hK hP hD hS 0 (iX10_redraw aZ cI cZ s0_12 Z_isBox Z_width Z_pinned Z_isArrow Z_from Z_to Z_turned_12 Z_told_12 Z_layers_12 Z_layer_12 Z_sizes_12 Z_items_12 Z_place_12 Z_dummyPlace_12 Z_xs_12 Z_oldLayer_12 Z_oldPlace_12 Z_oldDummy_12 Z_spare_12 Z_row_12 Z_ends_12 Z_near_12 Z_come_12) rfl rfl 0 (Nat.le_of_ble_eq_true rfl) k5 rfl rfl (by decide +kernel) rfl rfl (Nat.le_of_ble_eq_true rfl) rfl dX10_redraw_25 (fun H locs hP hD hS => ?_)
    refine lv_aload_n hx hb dX10_redraw_28 rfl (lv_at hl 0 rfl) ?_
    refine q_get (ci := 10) (C := RX10) (T := TX10) (N := 24) hx hb hts eX10_redraw_X10 hown hK hP 0 rfl rfl 0 (Nat.le_of_ble_eq_true rfl) k5 rfl rfl dX10_redraw_29 ?_
    refine lv_if_le (tgt := 37) hx hb dX10_redraw_32 (by decide) (fun hc => ?_) (fun hc => ?_)
    · replace hF := q_t hc hF
      refine lv_aload_n hx hb dX10_redraw_37 rfl (lv_at hl 0 rfl) ?_
      refine lv_iconst (v := 0) hx hb dX10_redraw_38 (by decide) ?_
      refine q_put (ci := 10) (C := RX10) (T := TX10) (N := 24) (ty := .boolean) hx hb hts eX10_redraw_X10 tyX10 tyX10_ok nmX10 hown hK hP hD hS 0 (iX10_redraw aZ cI cZ s0_12 Z_isBox Z_width Z_pinned Z_isArrow Z_from Z_to Z_turned_12 0 Z_layers_12 Z_layer_12 Z_sizes_12 Z_items_12 Z_place_12 Z_dummyPlace_12 Z_xs_12 Z_oldLayer_12 Z_oldPlace_12 Z_oldDummy_12 Z_spare_12 Z_row_12 Z_ends_12 Z_near_12 Z_come_12) rfl rfl 8 (Nat.le_of_ble_eq_true rfl) k6 rfl rfl (by decide +kernel) (q_narz (Or.inl rfl)) rfl (Nat.le_of_ble_eq_true rfl) rfl dX10_redraw_39 (fun H locs hP hD hS => ?_)
      refine lv_aload_n hx hb dX10_redraw_42 rfl (lv_at hl 0 rfl) ?_
      obtain ⟨q13_0, q13_1, q13_2, q13_3, q13_4, hcq13, hF⟩ := q_bd5 hF
      refine q_Vi (As := []) (rest := []) ⟨hx, hb, hml, hown, hts⟩ hA hK hP hD hS (tX10_layOut l dC dI cI cZ aZ H.size s0_12 Z_isBox Z_pinned Z_isArrow Z_from Z_to Z_turned_12 0 Z_layers_12 Z_layer_12 Z_come_12 (q13_0, q13_1, q13_2, q13_3, q13_4) hcq13) (cwV 0 hts gX10_redraw_X10_layOut rfl rfl rfl uX10_layOut ⟨Nat.le_of_ble_eq_true rfl, Nat.le_of_ble_eq_true rfl⟩) [0, 1, 3, 4, 5, 6, 7, 8, 21] [(true, 0), (true, 1), (false, 2), (true, 2), (true, 3), (true, 4), (true, 5), (true, 6), (true, 7), (false, 9), (false, 10), (false, 11), (false, 12), (false, 13), (false, 14), (false, 15), (false, 16), (false, 17), (false, 18), (false, 19), (false, 20), (true, 8)] (iX10_redraw aZ cI cZ s0_12 Z_isBox Z_width Z_pinned Z_isArrow Z_from Z_to q13_1 0 q13_2 q13_3 Z_sizes_12 Z_items_12 Z_place_12 Z_dummyPlace_12 Z_xs_12 Z_oldLayer_12 Z_oldPlace_12 Z_oldDummy_12 Z_spare_12 Z_row_12 Z_ends_12 Z_near_12 q13_4) rfl rfl rfl rfl rfl 10 0 rfl rfl rfl rfl hl.1 rfl (Nat.le_of_ble_eq_true rfl) dX10_redraw_43 ⟨Nat.zero_le _, Nat.zero_le _⟩ (fun H locs hP hD hS => ?_)
      refine lv_if_ne (tgt := 51) hx hb dX10_redraw_46 (by decide) (fun hc => ?_) (fun hc => ?_)
      · replace hF := q_f hc hF
        refine lv_aload_n hx hb dX10_redraw_51 rfl (lv_at hl 0 rfl) ?_
        obtain ⟨q14_0, q14_1, q14_2, q14_3, q14_4, hcq14, hF⟩ := q_bd5 hF
        refine q_Vv (As := []) (rest := []) ⟨hx, hb, hml, hown, hts⟩ hA hK hP hD hS (tX10_oldOrders l dC dI cI cZ aZ H.size s0_12 Z_isBox Z_isArrow Z_from Z_to q13_1 0 q13_2 q13_3 Z_sizes_12 Z_items_12 Z_place_12 Z_dummyPlace_12 Z_oldLayer_12 Z_oldPlace_12 Z_oldDummy_12 Z_row_12 (q14_0, q14_1, q14_2, q14_3, q14_4) hcq14) (cwV 0 hts gX10_redraw_X10_oldOrders rfl rfl rfl uX10_oldOrders ⟨Nat.le_of_ble_eq_true rfl, Nat.le_of_ble_eq_true rfl⟩) [0, 1, 4, 5, 6, 7, 8, 9, 10, 11, 12, 14, 15, 16, 18] [(true, 0), (true, 1), (false, 2), (false, 3), (true, 2), (true, 3), (true, 4), (true, 5), (true, 6), (true, 7), (true, 8), (true, 9), (true, 10), (false, 13), (true, 11), (true, 12), (true, 13), (false, 17), (true, 14), (false, 19), (false, 20), (false, 21)] (iX10_redraw aZ cI cZ s0_12 Z_isBox Z_width Z_pinned Z_isArrow Z_from Z_to q13_1 0 q13_2 q13_3 q14_0 q14_1 q14_2 q14_3 Z_xs_12 Z_oldLayer_12 Z_oldPlace_12 Z_oldDummy_12 Z_spare_12 q14_4 Z_ends_12 Z_near_12 q13_4) rfl rfl rfl rfl rfl 10 0 rfl rfl rfl rfl hl.1 rfl (Nat.le_of_ble_eq_true rfl) dX10_redraw_52 ⟨Nat.zero_le _, Nat.zero_le _⟩ (fun H locs hP hD hS => ?_)
        refine lv_aload_n hx hb dX10_redraw_55 rfl (lv_at hl 0 rfl) ?_
        obtain ⟨q15, hcq15, hF⟩ := q_bd hF
        refine q_Vi (As := []) (rest := []) ⟨hx, hb, hml, hown, hts⟩ hA hK hP hD hS (tX10_allCrossings l dC dI cI cZ aZ H.size s0_12 Z_isArrow Z_from Z_to q13_1 0 q13_2 q13_3 q14_2 q14_3 q15 hcq15) (cwV 0 hts gX10_redraw_X10_allCrossings rfl rfl rfl uX10_allCrossings ⟨Nat.le_of_ble_eq_true rfl, Nat.le_of_ble_eq_true rfl⟩) [0, 4, 5, 6, 7, 8, 11, 12] [(true, 0), (false, 1), (false, 2), (false, 3), (true, 1), (true, 2), (true, 3), (true, 4), (true, 5), (false, 9), (false, 10), (true, 6), (true, 7), (false, 13), (false, 14), (false, 15), (false, 16), (false, 17), (false, 18), (false, 19), (false, 20), (false, 21)] (iX10_redraw aZ cI cZ s0_12 Z_isBox Z_width Z_pinned Z_isArrow Z_from Z_to q13_1 0 q13_2 q13_3 q14_0 q14_1 q14_2 q14_3 Z_xs_12 Z_oldLayer_12 Z_oldPlace_12 Z_oldDummy_12 Z_spare_12 q14_4 Z_ends_12 Z_near_12 q13_4) rfl rfl rfl rfl rfl 10 0 rfl rfl rfl rfl hl.1 rfl (Nat.le_of_ble_eq_true rfl) dX10_redraw_56 ⟨Nat.zero_le _, Nat.zero_le _⟩ (fun H locs hP hD hS => ?_)
        refine lv_istore_n (lv' := [(3, .int q15), (0, .ref (aZ 0)), (1, .int x1_12), (2, .int x2_12)]) hx hb dX10_redraw_59 rfl hl (by decide) rfl (fun ls hl => ?_)
        refine lv_iconst (v := 0) hx hb dX10_redraw_60 (by decide) ?_
        refine lv_istore (lv' := [(4, .int 0), (3, .int q15), (0, .ref (aZ 0)), (1, .int x1_12), (2, .int x2_12)]) hx hb dX10_redraw_61 hl (by decide) rfl (fun ls hl => ?_)
        obtain ⟨q16, hc16, hF⟩ := q_bd hF
        have X16 : ∀ (u16 : Nat → Int32), u16 = q16 → ∀ (H : Heap) (locs : List Loc) (ls : Array Slot), va_P (dC, dI) vwCl (iX10_redraw aZ cI cZ s0_12 Z_isBox Z_width Z_pinned Z_isArrow Z_from Z_to q13_1 0 q13_2 q13_3 q14_0 q14_1 q14_2 q14_3 Z_xs_12 Z_oldLayer_12 Z_oldPlace_12 Z_oldDummy_12 u16 q14_4 Z_ends_12 Z_near_12 q13_4) H → va_D A (iX10_redraw aZ cI cZ s0_12 Z_isBox Z_width Z_pinned Z_isArrow Z_from Z_to q13_1 0 q13_2 q13_3 q14_0 q14_1 q14_2 q14_3 Z_xs_12 Z_oldLayer_12 Z_oldPlace_12 Z_oldDummy_12 u16 q14_4 Z_ends_12 Z_near_12 q13_4) → va_S A s.heap H locs → lv_has ls 6 [(0, .ref (aZ 0)), (1, .int x1_12), (2, .int x2_12), (3, .int q15)] → W p l e (headSpec wsX10_redraw (rX10_redraw)).room s m args below meth c H locs 0 0 Q (F0 m 91 ls []) := by
          intro u16 hu H locs ls hP hD hS hl
          subst hu
          refine lv_aload_n hx hb dX10_redraw_91 rfl (lv_at hl 0 rfl) ?_
          refine lv_iload_n hx hb dX10_redraw_92 rfl (lv_at hl 1 rfl) ?_
          obtain ⟨q19_0, q19_1, q19_2, q19_3, q19_4, q19_5, q19_6, hcq19, hF⟩ := q_bd7 hF
          refine q_Vv (As := [.int x1_12]) (rest := []) ⟨hx, hb, hml, hown, hts⟩ hA hK hP hD hS (tX10_drawOrders l dC dI cI cZ aZ H.size s0_12 Z_isBox Z_isArrow Z_from Z_to q13_1 0 q13_2 q13_3 q14_0 q14_1 q14_2 q14_3 q14_4 Z_ends_12 Z_near_12 x1_12 (q19_0, q19_1, q19_2, q19_3, q19_4, q19_5, q19_6) hcq19) (cwV 1 hts gX10_redraw_X10_drawOrders rfl rfl rfl uX10_drawOrders ⟨Nat.le_of_ble_eq_true rfl, Nat.le_of_ble_eq_true rfl⟩) [0, 1, 4, 5, 6, 7, 8, 9, 10, 11, 12, 18, 19, 20] [(true, 0), (true, 1), (false, 2), (false, 3), (true, 2), (true, 3), (true, 4), (true, 5), (true, 6), (true, 7), (true, 8), (true, 9), (true, 10), (false, 13), (false, 14), (false, 15), (false, 16), (false, 17), (true, 11), (true, 12), (true, 13), (false, 21)] (iX10_redraw aZ cI cZ s0_12 Z_isBox Z_width Z_pinned Z_isArrow Z_from Z_to q13_1 0 q13_2 q13_3 q19_0 q19_1 q19_2 q19_3 Z_xs_12 Z_oldLayer_12 Z_oldPlace_12 Z_oldDummy_12 u16 q19_4 q19_5 q19_6 q13_4) rfl rfl rfl rfl rfl 10 0 rfl rfl rfl rfl hl.1 rfl (Nat.le_of_ble_eq_true rfl) dX10_redraw_93 ⟨Nat.zero_le _, Nat.zero_le _⟩ (fun H locs hP hD hS => ?_)
          refine lv_iload_n hx hb dX10_redraw_96 rfl (lv_at hl 3 rfl) ?_
          refine lv_aload_n hx hb dX10_redraw_97 rfl (lv_at hl 0 rfl) ?_
          obtain ⟨q20, hcq20, hF⟩ := q_bd hF
          refine q_Vi (As := []) (rest := [.int q15]) ⟨hx, hb, hml, hown, hts⟩ hA hK hP hD hS (tX10_allCrossings l dC dI cI cZ aZ H.size s0_12 Z_isArrow Z_from Z_to q13_1 0 q13_2 q13_3 q19_2 q19_3 q20 hcq20) (cwV 0 hts gX10_redraw_X10_allCrossings rfl rfl rfl uX10_allCrossings ⟨Nat.le_of_ble_eq_true rfl, Nat.le_of_ble_eq_true rfl⟩) [0, 4, 5, 6, 7, 8, 11, 12] [(true, 0), (false, 1), (false, 2), (false, 3), (true, 1), (true, 2), (true, 3), (true, 4), (true, 5), (false, 9), (false, 10), (true, 6), (true, 7), (false, 13), (false, 14), (false, 15), (false, 16), (false, 17), (false, 18), (false, 19), (false, 20), (false, 21)] (iX10_redraw aZ cI cZ s0_12 Z_isBox Z_width Z_pinned Z_isArrow Z_from Z_to q13_1 0 q13_2 q13_3 q19_0 q19_1 q19_2 q19_3 Z_xs_12 Z_oldLayer_12 Z_oldPlace_12 Z_oldDummy_12 u16 q19_4 q19_5 q19_6 q13_4) rfl rfl rfl rfl rfl 10 0 rfl rfl rfl rfl hl.1 rfl (Nat.le_of_ble_eq_true rfl) dX10_redraw_98 ⟨Nat.zero_le _, Nat.zero_le _⟩ (fun H locs hP hD hS => ?_)
          refine lv_iload_n hx hb dX10_redraw_101 rfl (lv_at hl 2 rfl) ?_
          refine lv_iadd hx hb dX10_redraw_102 ?_
          refine lv_icmp_gt (tgt := 161) hx hb dX10_redraw_103 (by decide) (fun hc => ?_) (fun hc => ?_)
          · replace hF := q_t hc hF
            exact JX10_REDRAW_161 s0_12 q13_1 0 q13_2 q13_3 q19_0 q19_1 q19_2 q19_3 Z_xs_12 Z_oldLayer_12 Z_oldPlace_12 Z_oldDummy_12 u16 q19_4 q19_5 q19_6 q13_4 hF H locs ls hP hD hS (lv_sub hl [0] rfl)
          · replace hF := q_f hc hF
            refine lv_iconst (v := 0) hx hb dX10_redraw_106 (by decide) ?_
            refine lv_istore (lv' := [(4, .int 0), (0, .ref (aZ 0)), (1, .int x1_12), (2, .int x2_12), (3, .int q15)]) hx hb dX10_redraw_107 hl (by decide) rfl (fun ls hl => ?_)
            obtain ⟨q21, hc21, hF⟩ := q_bd hF
            have X21 : ∀ (u21 : Nat → Int32), u21 = q21 → ∀ (H : Heap) (locs : List Loc) (ls : Array Slot), va_P (dC, dI) vwCl (iX10_redraw aZ cI cZ s0_12 Z_isBox Z_width Z_pinned Z_isArrow Z_from Z_to q13_1 0 q13_2 q13_3 q19_0 u21 q19_2 q19_3 Z_xs_12 Z_oldLayer_12 Z_oldPlace_12 Z_oldDummy_12 u16 q19_4 q19_5 q19_6 q13_4) H → va_D A (iX10_redraw aZ cI cZ s0_12 Z_isBox Z_width Z_pinned Z_isArrow Z_from Z_to q13_1 0 q13_2 q13_3 q19_0 u21 q19_2 q19_3 Z_xs_12 Z_oldLayer_12 Z_oldPlace_12 Z_oldDummy_12 u16 q19_4 q19_5 q19_6 q13_4) → va_S A s.heap H locs → lv_has ls 6 [(0, .ref (aZ 0))] → W p l e (headSpec wsX10_redraw (rX10_redraw)).room s m args below meth c H locs 0 0 Q (F0 m 137 ls []) := by
              intro u21 hu H locs ls hP hD hS hl
              subst hu
              refine lv_iconst (v := 0) hx hb dX10_redraw_137 (by decide) ?_
              refine lv_istore (lv' := [(4, .int 0), (0, .ref (aZ 0))]) hx hb dX10_redraw_138 hl (by decide) rfl (fun ls hl => ?_)
              obtain ⟨q24_0, q24_1, hc24, hF⟩ := q_bd2 hF
              have X24 : ∀ (u24_0 : Nat → Int32) (u24_1 : Nat → Int32), (u24_0, u24_1) = (q24_0, q24_1) → ∀ (H : Heap) (locs : List Loc) (ls : Array Slot), va_P (dC, dI) vwCl (iX10_redraw aZ cI cZ s0_12 Z_isBox Z_width Z_pinned Z_isArrow Z_from Z_to q13_1 0 q13_2 q13_3 q19_0 u21 u24_0 u24_1 Z_xs_12 Z_oldLayer_12 Z_oldPlace_12 Z_oldDummy_12 u16 q19_4 q19_5 q19_6 q13_4) H → va_D A (iX10_redraw aZ cI cZ s0_12 Z_isBox Z_width Z_pinned Z_isArrow Z_from Z_to q13_1 0 q13_2 q13_3 q19_0 u21 u24_0 u24_1 Z_xs_12 Z_oldLayer_12 Z_oldPlace_12 Z_oldDummy_12 u16 q19_4 q19_5 q19_6 q13_4) → va_S A s.heap H locs → lv_has ls 6 [(0, .ref (aZ 0))] → W p l e (headSpec wsX10_redraw (rX10_redraw)).room s m args below meth c H locs 0 0 Q (F0 m 161 ls []) := by
                intro u24_0 u24_1 hu H locs ls hP hD hS hl
                obtain ⟨e0, e1⟩ := q_inj2 hu
                subst e0 e1
                exact JX10_REDRAW_161 s0_12 q13_1 0 q13_2 q13_3 q19_0 u21 u24_0 u24_1 Z_xs_12 Z_oldLayer_12 Z_oldPlace_12 Z_oldDummy_12 u16 q19_4 q19_5 q19_6 q13_4 hF H locs ls hP hD hS (lv_sub hl [0] rfl)
              have L24 : ∀ st : Int32 × (Nat → Int32) × (Nat → Int32), q_lo (fun (st : Int32 × (Nat → Int32) × (Nat → Int32)) => bX10_redraw_140 q13_2 q19_0 u21 st.1 st.2.1 st.2.2) st = some (q24_0, q24_1) → ∀ (H : Heap) (locs : List Loc) (ls : Array Slot), va_P (dC, dI) vwCl (iX10_redraw aZ cI cZ s0_12 Z_isBox Z_width Z_pinned Z_isArrow Z_from Z_to q13_1 0 q13_2 q13_3 q19_0 u21 st.2.1 st.2.2 Z_xs_12 Z_oldLayer_12 Z_oldPlace_12 Z_oldDummy_12 u16 q19_4 q19_5 q19_6 q13_4) H → va_D A (iX10_redraw aZ cI cZ s0_12 Z_isBox Z_width Z_pinned Z_isArrow Z_from Z_to q13_1 0 q13_2 q13_3 q19_0 u21 st.2.1 st.2.2 Z_xs_12 Z_oldLayer_12 Z_oldPlace_12 Z_oldDummy_12 u16 q19_4 q19_5 q19_6 q13_4) → va_S A s.heap H locs → lv_has ls 6 [(0, .ref (aZ 0)), (4, .int st.1)] → W p l e (headSpec wsX10_redraw (rX10_redraw)).room s m args below meth c H locs 0 0 Q (F0 m 140 ls []) := by
                intro st hst
                refine q_walk (Wh := fun st : Int32 × (Nat → Int32) × (Nat → Int32) => ∀ (H : Heap) (locs : List Loc) (ls : Array Slot), va_P (dC, dI) vwCl (iX10_redraw aZ cI cZ s0_12 Z_isBox Z_width Z_pinned Z_isArrow Z_from Z_to q13_1 0 q13_2 q13_3 q19_0 u21 st.2.1 st.2.2 Z_xs_12 Z_oldLayer_12 Z_oldPlace_12 Z_oldDummy_12 u16 q19_4 q19_5 q19_6 q13_4) H → va_D A (iX10_redraw aZ cI cZ s0_12 Z_isBox Z_width Z_pinned Z_isArrow Z_from Z_to q13_1 0 q13_2 q13_3 q19_0 u21 st.2.1 st.2.2 Z_xs_12 Z_oldLayer_12 Z_oldPlace_12 Z_oldDummy_12 u16 q19_4 q19_5 q19_6 q13_4) → va_S A s.heap H locs → lv_has ls 6 [(0, .ref (aZ 0)), (4, .int st.1)] → W p l e (headSpec wsX10_redraw (rX10_redraw)).room s m args below meth c H locs 0 0 Q (F0 m 140 ls [])) ?_ st hst
                clear hst st hF
                intro st o hF hin hex H locs ls hP hD hS hl
                obtain ⟨x4_24, Z_place_24, Z_dummyPlace_24⟩ := st
                replace hF : bX10_redraw_140 q13_2 q19_0 u21 x4_24 Z_place_24 Z_dummyPlace_24 = some o := hF
                replace hP : va_P (dC, dI) vwCl (iX10_redraw aZ cI cZ s0_12 Z_isBox Z_width Z_pinned Z_isArrow Z_from Z_to q13_1 0 q13_2 q13_3 q19_0 u21 Z_place_24 Z_dummyPlace_24 Z_xs_12 Z_oldLayer_12 Z_oldPlace_12 Z_oldDummy_12 u16 q19_4 q19_5 q19_6 q13_4) H := hP
                replace hD : va_D A (iX10_redraw aZ cI cZ s0_12 Z_isBox Z_width Z_pinned Z_isArrow Z_from Z_to q13_1 0 q13_2 q13_3 q19_0 u21 Z_place_24 Z_dummyPlace_24 Z_xs_12 Z_oldLayer_12 Z_oldPlace_12 Z_oldDummy_12 u16 q19_4 q19_5 q19_6 q13_4) := hD
                replace hl : lv_has ls 6 [(0, .ref (aZ 0)), (4, .int x4_24)] := hl
                unfold bX10_redraw_140 at hF
                refine lv_iload hx hb dX10_redraw_140 (lv_at hl 1 rfl) ?_
                refine lv_aload_n hx hb dX10_redraw_142 rfl (lv_at hl 0 rfl) ?_
                refine q_get (ci := 10) (C := RX10) (T := TX10) (N := 24) hx hb hts eX10_redraw_X10 hown hK hP 0 rfl rfl 9 (Nat.le_of_ble_eq_true rfl) k9 rfl rfl dX10_redraw_143 ?_
                refine lv_icmp_ge (tgt := 161) hx hb dX10_redraw_146 (by decide) (fun hc => ?_) (fun hc => ?_)
                · replace hF := q_t hc hF
                  exact X24 _ _ (hex _ (Option.some.inj hF).symm) H locs ls hP hD hS (lv_sub hl [0] rfl)
                · replace hF := q_f hc hF
                  refine lv_aload_n hx hb dX10_redraw_149 rfl (lv_at hl 0 rfl) ?_
                  refine lv_iload hx hb dX10_redraw_150 (lv_at hl 1 rfl) ?_
                  obtain ⟨q25_0, q25_1, hcq25, hF⟩ := q_bd2 hF
                  refine q_Vv (As := [.int x4_24]) (rest := []) ⟨hx, hb, hml, hown, hts⟩ hA hK hP hD hS (tX10_note l dC dI cI cZ aZ H.size s0_12 0 q13_2 q19_0 u21 Z_place_24 Z_dummyPlace_24 x4_24 (q25_0, q25_1) hcq25) (cwV 1 hts gX10_redraw_X10_note rfl rfl rfl uX10_note ⟨Nat.le_of_ble_eq_true rfl, Nat.le_of_ble_eq_true rfl⟩) [0, 9, 10, 11, 12] [(true, 0), (false, 1), (false, 2), (false, 3), (false, 4), (false, 5), (false, 6), (false, 7), (false, 8), (true, 1), (true, 2), (true, 3), (true, 4), (false, 13), (false, 14), (false, 15), (false, 16), (false, 17), (false, 18), (false, 19), (false, 20), (false, 21)] (iX10_redraw aZ cI cZ s0_12 Z_isBox Z_width Z_pinned Z_isArrow Z_from Z_to q13_1 0 q13_2 q13_3 q19_0 u21 q25_0 q25_1 Z_xs_12 Z_oldLayer_12 Z_oldPlace_12 Z_oldDummy_12 u16 q19_4 q19_5 q19_6 q13_4) rfl rfl rfl rfl rfl 10 0 rfl rfl rfl rfl hl.1 rfl (Nat.le_of_ble_eq_true rfl) dX10_redraw_152 ⟨Nat.zero_le _, Nat.zero_le _⟩ (fun H locs hP hD hS => ?_)
                  refine lv_iinc (v := (x4_24 + 1)) (lv' := [(4, .int (x4_24 + 1)), (0, .ref (aZ 0))]) hx hb dX10_redraw_155 hl (k := 1) rfl rfl (by decide) rfl (fun ls hl => ?_)
                  refine lv_goto (tgt := 140) hx hb dX10_redraw_158 (by decide) ?_
                  exact hin _ (Option.some.inj hF).symm H locs ls hP hD hS (lv_sub hl [1, 0] rfl)
              exact L24 (0, q19_2, q19_3) hc24 H locs ls hP hD hS (lv_sub hl [1, 0] rfl)
            have L21 : ∀ st : Int32 × (Nat → Int32), q_lo (fun (st : Int32 × (Nat → Int32)) => bX10_redraw_109 u16 st.1 st.2) st = some q21 → ∀ (H : Heap) (locs : List Loc) (ls : Array Slot), va_P (dC, dI) vwCl (iX10_redraw aZ cI cZ s0_12 Z_isBox Z_width Z_pinned Z_isArrow Z_from Z_to q13_1 0 q13_2 q13_3 q19_0 st.2 q19_2 q19_3 Z_xs_12 Z_oldLayer_12 Z_oldPlace_12 Z_oldDummy_12 u16 q19_4 q19_5 q19_6 q13_4) H → va_D A (iX10_redraw aZ cI cZ s0_12 Z_isBox Z_width Z_pinned Z_isArrow Z_from Z_to q13_1 0 q13_2 q13_3 q19_0 st.2 q19_2 q19_3 Z_xs_12 Z_oldLayer_12 Z_oldPlace_12 Z_oldDummy_12 u16 q19_4 q19_5 q19_6 q13_4) → va_S A s.heap H locs → lv_has ls 6 [(0, .ref (aZ 0)), (4, .int st.1)] → W p l e (headSpec wsX10_redraw (rX10_redraw)).room s m args below meth c H locs 0 0 Q (F0 m 109 ls []) := by
              intro st hst
              refine q_walk (Wh := fun st : Int32 × (Nat → Int32) => ∀ (H : Heap) (locs : List Loc) (ls : Array Slot), va_P (dC, dI) vwCl (iX10_redraw aZ cI cZ s0_12 Z_isBox Z_width Z_pinned Z_isArrow Z_from Z_to q13_1 0 q13_2 q13_3 q19_0 st.2 q19_2 q19_3 Z_xs_12 Z_oldLayer_12 Z_oldPlace_12 Z_oldDummy_12 u16 q19_4 q19_5 q19_6 q13_4) H → va_D A (iX10_redraw aZ cI cZ s0_12 Z_isBox Z_width Z_pinned Z_isArrow Z_from Z_to q13_1 0 q13_2 q13_3 q19_0 st.2 q19_2 q19_3 Z_xs_12 Z_oldLayer_12 Z_oldPlace_12 Z_oldDummy_12 u16 q19_4 q19_5 q19_6 q13_4) → va_S A s.heap H locs → lv_has ls 6 [(0, .ref (aZ 0)), (4, .int st.1)] → W p l e (headSpec wsX10_redraw (rX10_redraw)).room s m args below meth c H locs 0 0 Q (F0 m 109 ls [])) ?_ st hst
              clear hst st hF
              intro st o hF hin hex H locs ls hP hD hS hl
              obtain ⟨x4_21, Z_items_21⟩ := st
              replace hF : bX10_redraw_109 u16 x4_21 Z_items_21 = some o := hF
              replace hP : va_P (dC, dI) vwCl (iX10_redraw aZ cI cZ s0_12 Z_isBox Z_width Z_pinned Z_isArrow Z_from Z_to q13_1 0 q13_2 q13_3 q19_0 Z_items_21 q19_2 q19_3 Z_xs_12 Z_oldLayer_12 Z_oldPlace_12 Z_oldDummy_12 u16 q19_4 q19_5 q19_6 q13_4) H := hP
              replace hD : va_D A (iX10_redraw aZ cI cZ s0_12 Z_isBox Z_width Z_pinned Z_isArrow Z_from Z_to q13_1 0 q13_2 q13_3 q19_0 Z_items_21 q19_2 q19_3 Z_xs_12 Z_oldLayer_12 Z_oldPlace_12 Z_oldDummy_12 u16 q19_4 q19_5 q19_6 q13_4) := hD
              replace hl : lv_has ls 6 [(0, .ref (aZ 0)), (4, .int x4_21)] := hl
              unfold bX10_redraw_109 at hF
              refine lv_iload hx hb dX10_redraw_109 (lv_at hl 1 rfl) ?_
              refine lv_sipush (v := 960) hx hb dX10_redraw_111 (by decide) ?_
              refine lv_icmp_ge (tgt := 137) hx hb dX10_redraw_114 (by decide) (fun hc => ?_) (fun hc => ?_)
              · replace hF := q_t hc hF
                exact X21 _ (hex _ (Option.some.inj hF).symm) H locs ls hP hD hS (lv_sub hl [0] rfl)
              · replace hF := q_f hc hF
                refine lv_aload_n hx hb dX10_redraw_117 rfl (lv_at hl 0 rfl) ?_
                refine q_get (ci := 10) (C := RX10) (T := TX10) (N := 24) hx hb hts eX10_redraw_X10 hown hK hP 0 rfl rfl 12 (Nat.le_of_ble_eq_true rfl) k8 rfl rfl dX10_redraw_118 ?_
                refine lv_iload hx hb dX10_redraw_121 (lv_at hl 1 rfl) ?_
                refine lv_aload_n hx hb dX10_redraw_123 rfl (lv_at hl 0 rfl) ?_
                refine q_get (ci := 10) (C := RX10) (T := TX10) (N := 24) hx hb hts eX10_redraw_X10 hown hK hP 0 rfl rfl 19 (Nat.le_of_ble_eq_true rfl) k7 rfl rfl dX10_redraw_124 ?_
                refine lv_iload hx hb dX10_redraw_127 (lv_at hl 1 rfl) ?_
                obtain ⟨hn22, hF⟩ := q_ck hF
                refine va_iald hx hb hK hP 17 0 rfl rfl hn22 dX10_redraw_129 ?_
                obtain ⟨hn23, hF⟩ := q_ck hF
                refine q_iast hx hb hK hP hD hS 10 0 (iX10_redraw aZ cI cZ s0_12 Z_isBox Z_width Z_pinned Z_isArrow Z_from Z_to q13_1 0 q13_2 q13_3 q19_0 (upd Z_items_21 x4_21.toNatClampNeg (u16 x4_21.toNatClampNeg)) q19_2 q19_3 Z_xs_12 Z_oldLayer_12 Z_oldPlace_12 Z_oldDummy_12 u16 q19_4 q19_5 q19_6 q13_4) rfl rfl hn23 rfl dX10_redraw_130 (fun H locs hP hD hS => ?_)
                refine lv_iinc (v := (x4_21 + 1)) (lv' := [(4, .int (x4_21 + 1)), (0, .ref (aZ 0))]) hx hb dX10_redraw_131 hl (k := 1) rfl rfl (by decide) rfl (fun ls hl => ?_)
                refine lv_goto (tgt := 109) hx hb dX10_redraw_134 (by decide) ?_
                exact hin _ (Option.some.inj hF).symm H locs ls hP hD hS (lv_sub hl [1, 0] rfl)
            exact L21 (0, q19_1) hc21 H locs ls hP hD hS (lv_sub hl [1, 0] rfl)
        have L16 : ∀ st : Int32 × (Nat → Int32), q_lo (fun (st : Int32 × (Nat → Int32)) => bX10_redraw_63 q14_1 st.1 st.2) st = some q16 → ∀ (H : Heap) (locs : List Loc) (ls : Array Slot), va_P (dC, dI) vwCl (iX10_redraw aZ cI cZ s0_12 Z_isBox Z_width Z_pinned Z_isArrow Z_from Z_to q13_1 0 q13_2 q13_3 q14_0 q14_1 q14_2 q14_3 Z_xs_12 Z_oldLayer_12 Z_oldPlace_12 Z_oldDummy_12 st.2 q14_4 Z_ends_12 Z_near_12 q13_4) H → va_D A (iX10_redraw aZ cI cZ s0_12 Z_isBox Z_width Z_pinned Z_isArrow Z_from Z_to q13_1 0 q13_2 q13_3 q14_0 q14_1 q14_2 q14_3 Z_xs_12 Z_oldLayer_12 Z_oldPlace_12 Z_oldDummy_12 st.2 q14_4 Z_ends_12 Z_near_12 q13_4) → va_S A s.heap H locs → lv_has ls 6 [(0, .ref (aZ 0)), (1, .int x1_12), (2, .int x2_12), (3, .int q15), (4, .int st.1)] → W p l e (headSpec wsX10_redraw (rX10_redraw)).room s m args below meth c H locs 0 0 Q (F0 m 63 ls []) := by
          intro st hst
          refine q_walk (Wh := fun st : Int32 × (Nat → Int32) => ∀ (H : Heap) (locs : List Loc) (ls : Array Slot), va_P (dC, dI) vwCl (iX10_redraw aZ cI cZ s0_12 Z_isBox Z_width Z_pinned Z_isArrow Z_from Z_to q13_1 0 q13_2 q13_3 q14_0 q14_1 q14_2 q14_3 Z_xs_12 Z_oldLayer_12 Z_oldPlace_12 Z_oldDummy_12 st.2 q14_4 Z_ends_12 Z_near_12 q13_4) H → va_D A (iX10_redraw aZ cI cZ s0_12 Z_isBox Z_width Z_pinned Z_isArrow Z_from Z_to q13_1 0 q13_2 q13_3 q14_0 q14_1 q14_2 q14_3 Z_xs_12 Z_oldLayer_12 Z_oldPlace_12 Z_oldDummy_12 st.2 q14_4 Z_ends_12 Z_near_12 q13_4) → va_S A s.heap H locs → lv_has ls 6 [(0, .ref (aZ 0)), (1, .int x1_12), (2, .int x2_12), (3, .int q15), (4, .int st.1)] → W p l e (headSpec wsX10_redraw (rX10_redraw)).room s m args below meth c H locs 0 0 Q (F0 m 63 ls [])) ?_ st hst
          clear hst st hF
          intro st o hF hin hex H locs ls hP hD hS hl
          obtain ⟨x4_16, Z_spare_16⟩ := st
          replace hF : bX10_redraw_63 q14_1 x4_16 Z_spare_16 = some o := hF
          replace hP : va_P (dC, dI) vwCl (iX10_redraw aZ cI cZ s0_12 Z_isBox Z_width Z_pinned Z_isArrow Z_from Z_to q13_1 0 q13_2 q13_3 q14_0 q14_1 q14_2 q14_3 Z_xs_12 Z_oldLayer_12 Z_oldPlace_12 Z_oldDummy_12 Z_spare_16 q14_4 Z_ends_12 Z_near_12 q13_4) H := hP
          replace hD : va_D A (iX10_redraw aZ cI cZ s0_12 Z_isBox Z_width Z_pinned Z_isArrow Z_from Z_to q13_1 0 q13_2 q13_3 q14_0 q14_1 q14_2 q14_3 Z_xs_12 Z_oldLayer_12 Z_oldPlace_12 Z_oldDummy_12 Z_spare_16 q14_4 Z_ends_12 Z_near_12 q13_4) := hD
          replace hl : lv_has ls 6 [(0, .ref (aZ 0)), (1, .int x1_12), (2, .int x2_12), (3, .int q15), (4, .int x4_16)] := hl
          unfold bX10_redraw_63 at hF
          refine lv_iload hx hb dX10_redraw_63 (lv_at hl 4 rfl) ?_
          refine lv_sipush (v := 960) hx hb dX10_redraw_65 (by decide) ?_
          refine lv_icmp_ge (tgt := 91) hx hb dX10_redraw_68 (by decide) (fun hc => ?_) (fun hc => ?_)
          · replace hF := q_t hc hF
            exact X16 _ (hex _ (Option.some.inj hF).symm) H locs ls hP hD hS (lv_sub hl [0, 1, 2, 3] rfl)
          · replace hF := q_f hc hF
            refine lv_aload_n hx hb dX10_redraw_71 rfl (lv_at hl 0 rfl) ?_
            refine q_get (ci := 10) (C := RX10) (T := TX10) (N := 24) hx hb hts eX10_redraw_X10 hown hK hP 0 rfl rfl 19 (Nat.le_of_ble_eq_true rfl) k7 rfl rfl dX10_redraw_72 ?_
            refine lv_iload hx hb dX10_redraw_75 (lv_at hl 4 rfl) ?_
            refine lv_aload_n hx hb dX10_redraw_77 rfl (lv_at hl 0 rfl) ?_
            refine q_get (ci := 10) (C := RX10) (T := TX10) (N := 24) hx hb hts eX10_redraw_X10 hown hK hP 0 rfl rfl 12 (Nat.le_of_ble_eq_true rfl) k8 rfl rfl dX10_redraw_78 ?_
            refine lv_iload hx hb dX10_redraw_81 (lv_at hl 4 rfl) ?_
            obtain ⟨hn17, hF⟩ := q_ck hF
            refine va_iald hx hb hK hP 10 0 rfl rfl hn17 dX10_redraw_83 ?_
            obtain ⟨hn18, hF⟩ := q_ck hF
            refine q_iast hx hb hK hP hD hS 17 0 (iX10_redraw aZ cI cZ s0_12 Z_isBox Z_width Z_pinned Z_isArrow Z_from Z_to q13_1 0 q13_2 q13_3 q14_0 q14_1 q14_2 q14_3 Z_xs_12 Z_oldLayer_12 Z_oldPlace_12 Z_oldDummy_12 (upd Z_spare_16 x4_16.toNatClampNeg (q14_1 x4_16.toNatClampNeg)) q14_4 Z_ends_12 Z_near_12 q13_4) rfl rfl hn18 rfl dX10_redraw_84 (fun H locs hP hD hS => ?_)
            refine lv_iinc (v := (x4_16 + 1)) (lv' := [(4, .int (x4_16 + 1)), (0, .ref (aZ 0)), (1, .int x1_12), (2, .int x2_12), (3, .int q15)]) hx hb dX10_redraw_85 hl (k := 4) rfl rfl (by decide) rfl (fun ls hl => ?_)
            refine lv_goto (tgt := 63) hx hb dX10_redraw_88 (by decide) ?_
            exact hin _ (Option.some.inj hF).symm H locs ls hP hD hS (lv_sub hl [1, 2, 3, 4, 0] rfl)
        exact L16 (0, Z_spare_12) hc16 H locs ls hP hD hS (lv_sub hl [2, 3, 4, 1, 0] rfl)
      · replace hF := q_t hc hF
        refine lv_iconst (v := (-1)) hx hb dX10_redraw_49 (by decide) ?_
        exact hret H locs ls 50 _ _ dX10_redraw_50 (congrArg Prod.fst (Option.some.inj hF)) (congrArg (fun z : Int32 × Int32 × (Nat → Int32) × Int32 × Int32 × (Nat → Int32) × (Nat → Int32) × (Nat → Int32) × (Nat → Int32) × (Nat → Int32) × (Nat → Int32) × (Nat → Int32) × (Nat → Int32) × (Nat → Int32) × (Nat → Int32) × (Nat → Int32) × (Nat → Int32) × (Nat → Int32) × (Nat → Int32) => (iX10_redraw aZ cI cZ z.2.1 Z_isBox Z_width Z_pinned Z_isArrow Z_from Z_to z.2.2.1 z.2.2.2.1 z.2.2.2.2.1 z.2.2.2.2.2.1 z.2.2.2.2.2.2.1 z.2.2.2.2.2.2.2.1 z.2.2.2.2.2.2.2.2.1 z.2.2.2.2.2.2.2.2.2.1 z.2.2.2.2.2.2.2.2.2.2.1 z.2.2.2.2.2.2.2.2.2.2.2.1 z.2.2.2.2.2.2.2.2.2.2.2.2.1 z.2.2.2.2.2.2.2.2.2.2.2.2.2.1 z.2.2.2.2.2.2.2.2.2.2.2.2.2.2.1 z.2.2.2.2.2.2.2.2.2.2.2.2.2.2.2.1 z.2.2.2.2.2.2.2.2.2.2.2.2.2.2.2.2.1 z.2.2.2.2.2.2.2.2.2.2.2.2.2.2.2.2.2.1 z.2.2.2.2.2.2.2.2.2.2.2.2.2.2.2.2.2.2)) (Option.some.inj hF)) hP hD hS
    · replace hF := q_f hc hF
      refine lv_iconst (v := 0) hx hb dX10_redraw_35 (by decide) ?_
      exact hret H locs ls 36 _ _ dX10_redraw_36 (congrArg Prod.fst (Option.some.inj hF)) (congrArg (fun z : Int32 × Int32 × (Nat → Int32) × Int32 × Int32 × (Nat → Int32) × (Nat → Int32) × (Nat → Int32) × (Nat → Int32) × (Nat → Int32) × (Nat → Int32) × (Nat → Int32) × (Nat → Int32) × (Nat → Int32) × (Nat → Int32) × (Nat → Int32) × (Nat → Int32) × (Nat → Int32) × (Nat → Int32) => (iX10_redraw aZ cI cZ z.2.1 Z_isBox Z_width Z_pinned Z_isArrow Z_from Z_to z.2.2.1 z.2.2.2.1 z.2.2.2.2.1 z.2.2.2.2.2.1 z.2.2.2.2.2.2.1 z.2.2.2.2.2.2.2.1 z.2.2.2.2.2.2.2.2.1 z.2.2.2.2.2.2.2.2.2.1 z.2.2.2.2.2.2.2.2.2.2.1 z.2.2.2.2.2.2.2.2.2.2.2.1 z.2.2.2.2.2.2.2.2.2.2.2.2.1 z.2.2.2.2.2.2.2.2.2.2.2.2.2.1 z.2.2.2.2.2.2.2.2.2.2.2.2.2.2.1 z.2.2.2.2.2.2.2.2.2.2.2.2.2.2.2.1 z.2.2.2.2.2.2.2.2.2.2.2.2.2.2.2.2.1 z.2.2.2.2.2.2.2.2.2.2.2.2.2.2.2.2.2.1 z.2.2.2.2.2.2.2.2.2.2.2.2.2.2.2.2.2.2)) (Option.some.inj hF)) hP hD hS
  have JX10_REDRAW_24 : ∀ (Z_code_26 : Int32) (Z_turned_26 : Nat → Int32) (Z_told_26 : Int32) (Z_layers_26 : Int32) (Z_layer_26 : Nat → Int32) (Z_sizes_26 : Nat → Int32) (Z_items_26 : Nat → Int32) (Z_place_26 : Nat → Int32) (Z_dummyPlace_26 : Nat → Int32) (Z_xs_26 : Nat → Int32) (Z_oldLayer_26 : Nat → Int32) (Z_oldPlace_26 : Nat → Int32) (Z_oldDummy_26 : Nat → Int32) (Z_spare_26 : Nat → Int32) (Z_row_26 : Nat → Int32) (Z_ends_26 : Nat → Int32) (Z_near_26 : Nat → Int32) (Z_come_26 : Nat → Int32) (x1_26 : Int32) (x2_26 : Int32), jX10_redraw_24 Z_isBox Z_width Z_pinned Z_isArrow Z_from Z_to Z_turned_26 Z_told_26 Z_layers_26 Z_layer_26 Z_sizes_26 Z_items_26 Z_place_26 Z_dummyPlace_26 Z_xs_26 Z_oldLayer_26 Z_oldPlace_26 Z_oldDummy_26 Z_spare_26 Z_row_26 Z_ends_26 Z_near_26 Z_come_26 x1_26 x2_26 = some res → ∀ (H : Heap) (locs : List Loc) (ls : Array Slot), va_P (dC, dI) vwCl (iX10_redraw aZ cI cZ Z_code_26 Z_isBox Z_width Z_pinned Z_isArrow Z_from Z_to Z_turned_26 Z_told_26 Z_layers_26 Z_layer_26 Z_sizes_26 Z_items_26 Z_place_26 Z_dummyPlace_26 Z_xs_26 Z_oldLayer_26 Z_oldPlace_26 Z_oldDummy_26 Z_spare_26 Z_row_26 Z_ends_26 Z_near_26 Z_come_26) H → va_D A (iX10_redraw aZ cI cZ Z_code_26 Z_isBox Z_width Z_pinned Z_isArrow Z_from Z_to Z_turned_26 Z_told_26 Z_layers_26 Z_layer_26 Z_sizes_26 Z_items_26 Z_place_26 Z_dummyPlace_26 Z_xs_26 Z_oldLayer_26 Z_oldPlace_26 Z_oldDummy_26 Z_spare_26 Z_row_26 Z_ends_26 Z_near_26 Z_come_26) → va_S A s.heap H locs → lv_has ls 6 [(0, .ref (aZ 0)), (1, .int x1_26), (2, .int x2_26)] → W p l e (headSpec wsX10_redraw (rX10_redraw)).room s m args below meth c H locs 0 0 Q (F0 m 24 ls [.ref (aZ 0)]) := by
    intro Z_code_26 Z_turned_26 Z_told_26 Z_layers_26 Z_layer_26 Z_sizes_26 Z_items_26 Z_place_26 Z_dummyPlace_26 Z_xs_26 Z_oldLayer_26 Z_oldPlace_26 Z_oldDummy_26 Z_spare_26 Z_row_26 Z_ends_26 Z_near_26 Z_come_26 x1_26 x2_26 hF H locs ls hP hD hS hl
    unfold jX10_redraw_24 at hF
    refine lv_iconst (v := 1) hx hb dX10_redraw_24 (by decide) ?_
    exact JX10_REDRAW_25 Z_code_26 Z_turned_26 Z_told_26 Z_layers_26 Z_layer_26 Z_sizes_26 Z_items_26 Z_place_26 Z_dummyPlace_26 Z_xs_26 Z_oldLayer_26 Z_oldPlace_26 Z_oldDummy_26 Z_spare_26 Z_row_26 Z_ends_26 Z_near_26 Z_come_26 x1_26 x2_26 1 hF H locs ls hP hD hS (lv_sub hl [0, 1, 2] rfl)
  refine lv_aload_n hx hb dX10_redraw_0 rfl (lv_at hl 0 rfl) ?_
  refine lv_iload_n hx hb dX10_redraw_1 rfl (lv_at hl 1 rfl) ?_
  refine lv_iconst (v := 0) hx hb dX10_redraw_2 (by decide) ?_
  refine lv_iconst (v := 4) hx hb dX10_redraw_3 (by decide) ?_
  obtain ⟨q27, hcq27, hF⟩ := q_bd hF
  refine q_Si (As := [.int p0, .int 0, .int 4]) (rest := [.ref (aZ 0)]) ⟨hx, hb, hml, hown, hts⟩ hA hK hP hD hS (tX10_in l dC dI cI cZ H.size p0 0 4 q27 hcq27) (va_cwS 3 hts gX10_redraw_X10_in rfl rfl rfl uX10_in ⟨Nat.le_of_ble_eq_true rfl, Nat.le_of_ble_eq_true rfl⟩) [] [(false, 0), (false, 1), (false, 2), (false, 3), (false, 4), (false, 5), (false, 6), (false, 7), (false, 8), (false, 9), (false, 10), (false, 11), (false, 12), (false, 13), (false, 14), (false, 15), (false, 16), (false, 17), (false, 18), (false, 19), (false, 20), (false, 21)] (iX10_redraw aZ cI cZ Z_code Z_isBox Z_width Z_pinned Z_isArrow Z_from Z_to Z_turned Z_told Z_layers Z_layer Z_sizes Z_items Z_place Z_dummyPlace Z_xs Z_oldLayer Z_oldPlace Z_oldDummy Z_spare Z_row Z_ends Z_near Z_come) rfl rfl rfl rfl rfl rfl hl.1 rfl (Nat.le_of_ble_eq_true rfl) dX10_redraw_4 ⟨Nat.zero_le _, Nat.zero_le _⟩ (fun H locs hP hD hS => ?_)
  refine lv_if_eq (tgt := 24) hx hb dX10_redraw_7 (by decide) (fun hc => ?_) (fun hc => ?_)
  · replace hF := q_t hc hF
    exact JX10_REDRAW_24 Z_code Z_turned Z_told Z_layers Z_layer Z_sizes Z_items Z_place Z_dummyPlace Z_xs Z_oldLayer Z_oldPlace Z_oldDummy Z_spare Z_row Z_ends Z_near Z_come p0 p1 hF H locs ls hP hD hS (lv_sub hl [0, 1, 2] rfl)
  · replace hF := q_f hc hF
    refine lv_iload_n hx hb dX10_redraw_10 rfl (lv_at hl 2 rfl) ?_
    refine lv_iconst (v := 0) hx hb dX10_redraw_11 (by decide) ?_
    refine lv_ldc (v := 100000) hx hb hown k10 dX10_redraw_12 ?_
    obtain ⟨q28, hcq28, hF⟩ := q_bd hF
    refine q_Si (As := [.int p1, .int 0, .int 100000]) (rest := [.ref (aZ 0)]) ⟨hx, hb, hml, hown, hts⟩ hA hK hP hD hS (tX10_in l dC dI cI cZ H.size p1 0 100000 q28 hcq28) (va_cwS 3 hts gX10_redraw_X10_in rfl rfl rfl uX10_in ⟨Nat.le_of_ble_eq_true rfl, Nat.le_of_ble_eq_true rfl⟩) [] [(false, 0), (false, 1), (false, 2), (false, 3), (false, 4), (false, 5), (false, 6), (false, 7), (false, 8), (false, 9), (false, 10), (false, 11), (false, 12), (false, 13), (false, 14), (false, 15), (false, 16), (false, 17), (false, 18), (false, 19), (false, 20), (false, 21)] (iX10_redraw aZ cI cZ Z_code Z_isBox Z_width Z_pinned Z_isArrow Z_from Z_to Z_turned Z_told Z_layers Z_layer Z_sizes Z_items Z_place Z_dummyPlace Z_xs Z_oldLayer Z_oldPlace Z_oldDummy Z_spare Z_row Z_ends Z_near Z_come) rfl rfl rfl rfl rfl rfl hl.1 rfl (Nat.le_of_ble_eq_true rfl) dX10_redraw_14 ⟨Nat.zero_le _, Nat.zero_le _⟩ (fun H locs hP hD hS => ?_)
    refine lv_if_eq (tgt := 24) hx hb dX10_redraw_17 (by decide) (fun hc => ?_) (fun hc => ?_)
    · replace hF := q_t hc hF
      exact JX10_REDRAW_24 Z_code Z_turned Z_told Z_layers Z_layer Z_sizes Z_items Z_place Z_dummyPlace Z_xs Z_oldLayer Z_oldPlace Z_oldDummy Z_spare Z_row Z_ends Z_near Z_come p0 p1 hF H locs ls hP hD hS (lv_sub hl [0, 1, 2] rfl)
    · replace hF := q_f hc hF
      refine lv_iconst (v := 0) hx hb dX10_redraw_20 (by decide) ?_
      refine lv_goto (tgt := 25) hx hb dX10_redraw_21 (by decide) ?_
      exact JX10_REDRAW_25 Z_code Z_turned Z_told Z_layers Z_layer Z_sizes Z_items Z_place Z_dummyPlace Z_xs Z_oldLayer Z_oldPlace Z_oldDummy Z_spare Z_row Z_ends Z_near Z_come p0 p1 0 hF H locs ls hP hD hS (lv_sub hl [0, 1, 2] rfl)
abbrev rX10_remove : Room := { frames := 1, cells := 0, slots := 0, locals := 22 }
theorem eX10_remove_X10 : ∀ w ∈ u_ws RX10 TX10 24, w ∈ wsX10_remove := by decide +kernel
theorem uX10_remove : yX10_remove.cls = RX10 ∧ yX10_remove.cls ≠ "java/lang/invoke/MethodHandle" ∧ yX10_remove.cls ≠ "java/lang/invoke/VarHandle" ∧ (parseMethodDescriptor yX10_remove.desc).map (fun d => d.parameters.length) = some 1 := by decide +kernel
set_option maxHeartbeats 4000000 in
set_option maxRecDepth 100000 in
theorem tX10_remove (l : Launch) (dC : Nat → ClassId) (dI : Nat → Nat → Nat) (cI cZ : ClassId) (aZ : Nat → Nat) (sz : Nat) (Z_code : Int32) (Z_isBox : Nat → Int32) (Z_isArrow : Nat → Int32) (Z_from : Nat → Int32) (Z_to : Nat → Int32) (Z_told : Int32) (Z_layers : Int32) (p0 : Int32) (res : Int32 × Int32 × (Nat → Int32) × (Nat → Int32) × Int32) (hF : fX10_remove Z_isBox Z_isArrow Z_from Z_to Z_told p0 = some res) : q_Mi l yX10_remove wsX10_remove rX10_remove (dC, dI) (q_ty cI cZ) [.ref (aZ 0), .int p0] (iX10_remove aZ cI cZ Z_code Z_isBox Z_isArrow Z_from Z_to Z_told Z_layers) (iX10_remove aZ cI cZ res.2.1 res.2.2.1 res.2.2.2.1 Z_from Z_to res.2.2.2.2 Z_layers) sz res.1 := by
  refine q_metz (cc := cX10_remove) (maxL := 3) (by decide) rfl (Nat.le_of_ble_eq_true rfl) ?_
  intro p e s m args below meth c Q A H locs ls C hP hD hS hl hret
  obtain ⟨hx, hb, hml, hown, hts, hA, hK⟩ := C
  replace hl : lv_has ls 3 [(0, .ref (aZ 0)), (1, .int p0)] := hl
  have k0 := hts (.fieldLink RX10 74 "RouteLayoutModel" "code" "I") (by decide +kernel)
  have k1 := hts (.fieldLink RX10 7 "RouteLayoutModel" "isBox" "[Z") (by decide +kernel)
  have k2 := hts (.fieldLink RX10 20 "RouteLayoutModel" "isArrow" "[Z") (by decide +kernel)
  have k3 := hts (.fieldLink RX10 23 "RouteLayoutModel" "from" "[I") (by decide +kernel)
  have k4 := hts (.fieldLink RX10 26 "RouteLayoutModel" "to" "[I") (by decide +kernel)
  have k5 := hts (.fieldLink RX10 82 "RouteLayoutModel" "told" "Z") (by decide +kernel)
  unfold fX10_remove at hF
  have JX10_REMOVE_16 : ∀ (Z_code_1 : Int32) (Z_isBox_1 : Nat → Int32) (Z_isArrow_1 : Nat → Int32) (Z_told_1 : Int32) (x1_1 : Int32) (s0_1 : Int32), jX10_remove_16 Z_isBox_1 Z_isArrow_1 Z_from Z_to Z_told_1 x1_1 s0_1 = some res → ∀ (H : Heap) (locs : List Loc) (ls : Array Slot), va_P (dC, dI) vwCl (iX10_remove aZ cI cZ Z_code_1 Z_isBox_1 Z_isArrow_1 Z_from Z_to Z_told_1 Z_layers) H → va_D A (iX10_remove aZ cI cZ Z_code_1 Z_isBox_1 Z_isArrow_1 Z_from Z_to Z_told_1 Z_layers) → va_S A s.heap H locs → lv_has ls 3 [(0, .ref (aZ 0)), (1, .int x1_1)] → W p l e (headSpec wsX10_remove (rX10_remove)).room s m args below meth c H locs 0 0 Q (F0 m 16 ls [.int s0_1, .ref (aZ 0)]) := by
    intro Z_code_1 Z_isBox_1 Z_isArrow_1 Z_told_1 x1_1 s0_1 hF H locs ls hP hD hS hl
    unfold jX10_remove_16 at hF
    refine q_put (ci := 10) (C := RX10) (T := TX10) (N := 24) (ty := .int) hx hb hts eX10_remove_X10 tyX10 tyX10_ok nmX10 hown hK hP hD hS 0 (iX10_remove aZ cI cZ s0_1 Z_isBox_1 Z_isArrow_1 Z_from Z_to Z_told_1 Z_layers) rfl rfl 0 (Nat.le_of_ble_eq_true rfl) k0 rfl rfl (by decide +kernel) rfl rfl (Nat.le_of_ble_eq_true rfl) rfl dX10_remove_16 (fun H locs hP hD hS => ?_)
    refine lv_aload_n hx hb dX10_remove_19 rfl (lv_at hl 0 rfl) ?_
    refine q_get (ci := 10) (C := RX10) (T := TX10) (N := 24) hx hb hts eX10_remove_X10 hown hK hP 0 rfl rfl 0 (Nat.le_of_ble_eq_true rfl) k0 rfl rfl dX10_remove_20 ?_
    refine lv_if_gt (tgt := 35) hx hb dX10_remove_23 (by decide) (fun hc => ?_) (fun hc => ?_)
    · replace hF := q_t hc hF
      refine lv_iconst (v := 0) hx hb dX10_remove_35 (by decide) ?_
      exact hret H locs ls 36 _ _ dX10_remove_36 (Or.inl rfl) (congrArg Prod.fst (Option.some.inj hF)) (congrArg (fun z : Int32 × Int32 × (Nat → Int32) × (Nat → Int32) × Int32 => (iX10_remove aZ cI cZ z.2.1 z.2.2.1 z.2.2.2.1 Z_from Z_to z.2.2.2.2 Z_layers)) (Option.some.inj hF)) hP hD hS
    · replace hF := q_f hc hF
      refine lv_aload_n hx hb dX10_remove_26 rfl (lv_at hl 0 rfl) ?_
      refine q_get (ci := 10) (C := RX10) (T := TX10) (N := 24) hx hb hts eX10_remove_X10 hown hK hP 0 rfl rfl 1 (Nat.le_of_ble_eq_true rfl) k1 rfl rfl dX10_remove_27 ?_
      refine lv_iload_n hx hb dX10_remove_30 rfl (lv_at hl 1 rfl) ?_
      obtain ⟨hn2, hF⟩ := q_ck hF
      refine va_zald hx hb hK hP 1 1 rfl rfl hn2 dX10_remove_31 ?_
      refine lv_if_ne (tgt := 37) hx hb dX10_remove_32 (by decide) (fun hc => ?_) (fun hc => ?_)
      · replace hF := q_f hc hF
        refine lv_aload_n hx hb dX10_remove_37 rfl (lv_at hl 0 rfl) ?_
        refine q_get (ci := 10) (C := RX10) (T := TX10) (N := 24) hx hb hts eX10_remove_X10 hown hK hP 0 rfl rfl 1 (Nat.le_of_ble_eq_true rfl) k1 rfl rfl dX10_remove_38 ?_
        refine lv_iload_n hx hb dX10_remove_41 rfl (lv_at hl 1 rfl) ?_
        refine lv_iconst (v := 0) hx hb dX10_remove_42 (by decide) ?_
        obtain ⟨hn3, hF⟩ := q_ck hF
        refine q_zast hx hb hK hP hD hS 1 1 (iX10_remove aZ cI cZ s0_1 (upd Z_isBox_1 x1_1.toNatClampNeg 0) Z_isArrow_1 Z_from Z_to Z_told_1 Z_layers) rfl rfl hn3 (Or.inl rfl) rfl dX10_remove_43 (fun H locs hP hD hS => ?_)
        refine lv_iconst (v := 0) hx hb dX10_remove_44 (by decide) ?_
        refine lv_istore_n (lv' := [(2, .int 0), (0, .ref (aZ 0)), (1, .int x1_1)]) hx hb dX10_remove_45 rfl hl (by decide) rfl (fun ls hl => ?_)
        obtain ⟨q4, hc4, hF⟩ := q_bd hF
        have X4 : ∀ (u4 : Nat → Int32), u4 = q4 → ∀ (H : Heap) (locs : List Loc) (ls : Array Slot), va_P (dC, dI) vwCl (iX10_remove aZ cI cZ s0_1 (upd Z_isBox_1 x1_1.toNatClampNeg 0) u4 Z_from Z_to Z_told_1 Z_layers) H → va_D A (iX10_remove aZ cI cZ s0_1 (upd Z_isBox_1 x1_1.toNatClampNeg 0) u4 Z_from Z_to Z_told_1 Z_layers) → va_S A s.heap H locs → lv_has ls 3 [(0, .ref (aZ 0))] → W p l e (headSpec wsX10_remove (rX10_remove)).room s m args below meth c H locs 0 0 Q (F0 m 85 ls []) := by
          intro u4 hu H locs ls hP hD hS hl
          subst hu
          refine lv_aload_n hx hb dX10_remove_85 rfl (lv_at hl 0 rfl) ?_
          refine lv_iconst (v := 0) hx hb dX10_remove_86 (by decide) ?_
          refine q_put (ci := 10) (C := RX10) (T := TX10) (N := 24) (ty := .boolean) hx hb hts eX10_remove_X10 tyX10 tyX10_ok nmX10 hown hK hP hD hS 0 (iX10_remove aZ cI cZ s0_1 (upd Z_isBox_1 x1_1.toNatClampNeg 0) u4 Z_from Z_to 0 Z_layers) rfl rfl 8 (Nat.le_of_ble_eq_true rfl) k5 rfl rfl (by decide +kernel) (q_narz (Or.inl rfl)) rfl (Nat.le_of_ble_eq_true rfl) rfl dX10_remove_87 (fun H locs hP hD hS => ?_)
          refine lv_iconst (v := 1) hx hb dX10_remove_90 (by decide) ?_
          exact hret H locs ls 91 _ _ dX10_remove_91 (Or.inr rfl) (congrArg Prod.fst (Option.some.inj hF)) (congrArg (fun z : Int32 × Int32 × (Nat → Int32) × (Nat → Int32) × Int32 => (iX10_remove aZ cI cZ z.2.1 z.2.2.1 z.2.2.2.1 Z_from Z_to z.2.2.2.2 Z_layers)) (Option.some.inj hF)) hP hD hS
        have L4 : ∀ st : Int32 × (Nat → Int32), q_lo (fun (st : Int32 × (Nat → Int32)) => bX10_remove_46 Z_from Z_to x1_1 st.1 st.2) st = some q4 → ∀ (H : Heap) (locs : List Loc) (ls : Array Slot), va_P (dC, dI) vwCl (iX10_remove aZ cI cZ s0_1 (upd Z_isBox_1 x1_1.toNatClampNeg 0) st.2 Z_from Z_to Z_told_1 Z_layers) H → va_D A (iX10_remove aZ cI cZ s0_1 (upd Z_isBox_1 x1_1.toNatClampNeg 0) st.2 Z_from Z_to Z_told_1 Z_layers) → va_S A s.heap H locs → lv_has ls 3 [(0, .ref (aZ 0)), (1, .int x1_1), (2, .int st.1)] → W p l e (headSpec wsX10_remove (rX10_remove)).room s m args below meth c H locs 0 0 Q (F0 m 46 ls []) := by
          intro st hst
          refine q_walk (Wh := fun st : Int32 × (Nat → Int32) => ∀ (H : Heap) (locs : List Loc) (ls : Array Slot), va_P (dC, dI) vwCl (iX10_remove aZ cI cZ s0_1 (upd Z_isBox_1 x1_1.toNatClampNeg 0) st.2 Z_from Z_to Z_told_1 Z_layers) H → va_D A (iX10_remove aZ cI cZ s0_1 (upd Z_isBox_1 x1_1.toNatClampNeg 0) st.2 Z_from Z_to Z_told_1 Z_layers) → va_S A s.heap H locs → lv_has ls 3 [(0, .ref (aZ 0)), (1, .int x1_1), (2, .int st.1)] → W p l e (headSpec wsX10_remove (rX10_remove)).room s m args below meth c H locs 0 0 Q (F0 m 46 ls [])) ?_ st hst
          clear hst st hF
          intro st o hF hin hex H locs ls hP hD hS hl
          obtain ⟨x2_4, Z_isArrow_4⟩ := st
          replace hF : bX10_remove_46 Z_from Z_to x1_1 x2_4 Z_isArrow_4 = some o := hF
          replace hP : va_P (dC, dI) vwCl (iX10_remove aZ cI cZ s0_1 (upd Z_isBox_1 x1_1.toNatClampNeg 0) Z_isArrow_4 Z_from Z_to Z_told_1 Z_layers) H := hP
          replace hD : va_D A (iX10_remove aZ cI cZ s0_1 (upd Z_isBox_1 x1_1.toNatClampNeg 0) Z_isArrow_4 Z_from Z_to Z_told_1 Z_layers) := hD
          replace hl : lv_has ls 3 [(0, .ref (aZ 0)), (1, .int x1_1), (2, .int x2_4)] := hl
          unfold bX10_remove_46 at hF
          have JX10_REMOVE_79 : ∀ (Z_isArrow_5 : Nat → Int32) (x2_5 : Int32), jX10_remove_79 Z_isArrow_5 x1_1 x2_5 = some o → ∀ (H : Heap) (locs : List Loc) (ls : Array Slot), va_P (dC, dI) vwCl (iX10_remove aZ cI cZ s0_1 (upd Z_isBox_1 x1_1.toNatClampNeg 0) Z_isArrow_5 Z_from Z_to Z_told_1 Z_layers) H → va_D A (iX10_remove aZ cI cZ s0_1 (upd Z_isBox_1 x1_1.toNatClampNeg 0) Z_isArrow_5 Z_from Z_to Z_told_1 Z_layers) → va_S A s.heap H locs → lv_has ls 3 [(0, .ref (aZ 0)), (1, .int x1_1), (2, .int x2_5)] → W p l e (headSpec wsX10_remove (rX10_remove)).room s m args below meth c H locs 0 0 Q (F0 m 79 ls []) := by
            intro Z_isArrow_5 x2_5 hF H locs ls hP hD hS hl
            unfold jX10_remove_79 at hF
            refine lv_iinc (v := (x2_5 + 1)) (lv' := [(2, .int (x2_5 + 1)), (0, .ref (aZ 0)), (1, .int x1_1)]) hx hb dX10_remove_79 hl (k := 2) rfl rfl (by decide) rfl (fun ls hl => ?_)
            refine lv_goto (tgt := 46) hx hb dX10_remove_82 (by decide) ?_
            exact hin _ (Option.some.inj hF).symm H locs ls hP hD hS (lv_sub hl [1, 2, 0] rfl)
          have JX10_REMOVE_72 : ∀ (Z_isArrow_6 : Nat → Int32) (x2_6 : Int32), jX10_remove_72 Z_isArrow_6 x1_1 x2_6 = some o → ∀ (H : Heap) (locs : List Loc) (ls : Array Slot), va_P (dC, dI) vwCl (iX10_remove aZ cI cZ s0_1 (upd Z_isBox_1 x1_1.toNatClampNeg 0) Z_isArrow_6 Z_from Z_to Z_told_1 Z_layers) H → va_D A (iX10_remove aZ cI cZ s0_1 (upd Z_isBox_1 x1_1.toNatClampNeg 0) Z_isArrow_6 Z_from Z_to Z_told_1 Z_layers) → va_S A s.heap H locs → lv_has ls 3 [(0, .ref (aZ 0)), (1, .int x1_1), (2, .int x2_6)] → W p l e (headSpec wsX10_remove (rX10_remove)).room s m args below meth c H locs 0 0 Q (F0 m 72 ls []) := by
            intro Z_isArrow_6 x2_6 hF H locs ls hP hD hS hl
            unfold jX10_remove_72 at hF
            refine lv_aload_n hx hb dX10_remove_72 rfl (lv_at hl 0 rfl) ?_
            refine q_get (ci := 10) (C := RX10) (T := TX10) (N := 24) hx hb hts eX10_remove_X10 hown hK hP 0 rfl rfl 4 (Nat.le_of_ble_eq_true rfl) k2 rfl rfl dX10_remove_73 ?_
            refine lv_iload_n hx hb dX10_remove_76 rfl (lv_at hl 2 rfl) ?_
            refine lv_iconst (v := 0) hx hb dX10_remove_77 (by decide) ?_
            obtain ⟨hn7, hF⟩ := q_ck hF
            refine q_zast hx hb hK hP hD hS 2 1 (iX10_remove aZ cI cZ s0_1 (upd Z_isBox_1 x1_1.toNatClampNeg 0) (upd Z_isArrow_6 x2_6.toNatClampNeg 0) Z_from Z_to Z_told_1 Z_layers) rfl rfl hn7 (Or.inl rfl) rfl dX10_remove_78 (fun H locs hP hD hS => ?_)
            exact JX10_REMOVE_79 (upd Z_isArrow_6 x2_6.toNatClampNeg 0) x2_6 hF H locs ls hP hD hS (lv_sub hl [0, 1, 2] rfl)
          refine lv_iload_n hx hb dX10_remove_46 rfl (lv_at hl 2 rfl) ?_
          refine lv_bipush (v := 24) hx hb dX10_remove_47 (by decide) ?_
          refine lv_icmp_ge (tgt := 85) hx hb dX10_remove_49 (by decide) (fun hc => ?_) (fun hc => ?_)
          · replace hF := q_t hc hF
            exact X4 _ (hex _ (Option.some.inj hF).symm) H locs ls hP hD hS (lv_sub hl [0] rfl)
          · replace hF := q_f hc hF
            refine lv_aload_n hx hb dX10_remove_52 rfl (lv_at hl 0 rfl) ?_
            refine q_get (ci := 10) (C := RX10) (T := TX10) (N := 24) hx hb hts eX10_remove_X10 hown hK hP 0 rfl rfl 5 (Nat.le_of_ble_eq_true rfl) k3 rfl rfl dX10_remove_53 ?_
            refine lv_iload_n hx hb dX10_remove_56 rfl (lv_at hl 2 rfl) ?_
            obtain ⟨hn8, hF⟩ := q_ck hF
            refine va_iald hx hb hK hP 3 0 rfl rfl hn8 dX10_remove_57 ?_
            refine lv_iload_n hx hb dX10_remove_58 rfl (lv_at hl 1 rfl) ?_
            refine lv_icmp_eq (tgt := 72) hx hb dX10_remove_59 (by decide) (fun hc => ?_) (fun hc => ?_)
            · replace hF := q_t hc hF
              exact JX10_REMOVE_72 Z_isArrow_4 x2_4 hF H locs ls hP hD hS (lv_sub hl [0, 1, 2] rfl)
            · replace hF := q_f hc hF
              refine lv_aload_n hx hb dX10_remove_62 rfl (lv_at hl 0 rfl) ?_
              refine q_get (ci := 10) (C := RX10) (T := TX10) (N := 24) hx hb hts eX10_remove_X10 hown hK hP 0 rfl rfl 6 (Nat.le_of_ble_eq_true rfl) k4 rfl rfl dX10_remove_63 ?_
              refine lv_iload_n hx hb dX10_remove_66 rfl (lv_at hl 2 rfl) ?_
              obtain ⟨hn9, hF⟩ := q_ck hF
              refine va_iald hx hb hK hP 4 0 rfl rfl hn9 dX10_remove_67 ?_
              refine lv_iload_n hx hb dX10_remove_68 rfl (lv_at hl 1 rfl) ?_
              refine lv_icmp_ne (tgt := 79) hx hb dX10_remove_69 (by decide) (fun hc => ?_) (fun hc => ?_)
              · replace hF := q_f hc hF
                exact JX10_REMOVE_79 Z_isArrow_4 x2_4 hF H locs ls hP hD hS (lv_sub hl [0, 1, 2] rfl)
              · replace hF := q_t hc hF
                exact JX10_REMOVE_72 Z_isArrow_4 x2_4 hF H locs ls hP hD hS (lv_sub hl [0, 1, 2] rfl)
        exact L4 (0, Z_isArrow_1) hc4 H locs ls hP hD hS (lv_sub hl [1, 2, 0] rfl)
      · replace hF := q_t hc hF
        refine lv_iconst (v := 0) hx hb dX10_remove_35 (by decide) ?_
        exact hret H locs ls 36 _ _ dX10_remove_36 (Or.inl rfl) (congrArg Prod.fst (Option.some.inj hF)) (congrArg (fun z : Int32 × Int32 × (Nat → Int32) × (Nat → Int32) × Int32 => (iX10_remove aZ cI cZ z.2.1 z.2.2.1 z.2.2.2.1 Z_from Z_to z.2.2.2.2 Z_layers)) (Option.some.inj hF)) hP hD hS
  refine lv_aload_n hx hb dX10_remove_0 rfl (lv_at hl 0 rfl) ?_
  refine lv_iload_n hx hb dX10_remove_1 rfl (lv_at hl 1 rfl) ?_
  refine lv_iconst (v := 0) hx hb dX10_remove_2 (by decide) ?_
  refine lv_bipush (v := 15) hx hb dX10_remove_3 (by decide) ?_
  obtain ⟨q10, hcq10, hF⟩ := q_bd hF
  refine q_Si (As := [.int p0, .int 0, .int 15]) (rest := [.ref (aZ 0)]) ⟨hx, hb, hml, hown, hts⟩ hA hK hP hD hS (tX10_in l dC dI cI cZ H.size p0 0 15 q10 hcq10) (va_cwS 3 hts gX10_remove_X10_in rfl rfl rfl uX10_in ⟨Nat.le_of_ble_eq_true rfl, Nat.le_of_ble_eq_true rfl⟩) [] [(false, 0), (false, 1), (false, 2), (false, 3), (false, 4)] (iX10_remove aZ cI cZ Z_code Z_isBox Z_isArrow Z_from Z_to Z_told Z_layers) rfl rfl rfl rfl rfl rfl hl.1 rfl (Nat.le_of_ble_eq_true rfl) dX10_remove_5 ⟨Nat.zero_le _, Nat.zero_le _⟩ (fun H locs hP hD hS => ?_)
  refine lv_if_eq (tgt := 15) hx hb dX10_remove_8 (by decide) (fun hc => ?_) (fun hc => ?_)
  · replace hF := q_t hc hF
    refine lv_iconst (v := 1) hx hb dX10_remove_15 (by decide) ?_
    exact JX10_REMOVE_16 Z_code Z_isBox Z_isArrow Z_told p0 1 hF H locs ls hP hD hS (lv_sub hl [0, 1] rfl)
  · replace hF := q_f hc hF
    refine lv_iconst (v := 0) hx hb dX10_remove_11 (by decide) ?_
    refine lv_goto (tgt := 16) hx hb dX10_remove_12 (by decide) ?_
    exact JX10_REMOVE_16 Z_code Z_isBox Z_isArrow Z_told p0 0 hF H locs ls hP hD hS (lv_sub hl [0, 1] rfl)
abbrev rX10_reversed : Room := { frames := 2, cells := 0, slots := 0, locals := 46 }
theorem eX10_reversed_X10 : ∀ w ∈ u_ws RX10 TX10 24, w ∈ wsX10_reversed := by decide +kernel
theorem uX10_reversed : yX10_reversed.cls = RX10 ∧ yX10_reversed.cls ≠ "java/lang/invoke/MethodHandle" ∧ yX10_reversed.cls ≠ "java/lang/invoke/VarHandle" ∧ (parseMethodDescriptor yX10_reversed.desc).map (fun d => d.parameters.length) = some 1 := by decide +kernel
set_option maxHeartbeats 4000000 in
set_option maxRecDepth 100000 in
theorem tX10_reversed (l : Launch) (dC : Nat → ClassId) (dI : Nat → Nat → Nat) (cI cZ : ClassId) (aZ : Nat → Nat) (sz : Nat) (Z_code : Int32) (Z_isArrow : Nat → Int32) (Z_from : Nat → Int32) (Z_to : Nat → Int32) (Z_turned : Nat → Int32) (Z_told : Int32) (Z_layers : Int32) (Z_come : Nat → Int32) (p0 : Int32) (res : Int32 × Int32 × (Nat → Int32) × (Nat → Int32)) (hF : fX10_reversed Z_isArrow Z_from Z_to Z_turned Z_come p0 = some res) : q_Mi l yX10_reversed wsX10_reversed rX10_reversed (dC, dI) (q_ty cI cZ) [.ref (aZ 0), .int p0] (iX10_reversed aZ cI cZ Z_code Z_isArrow Z_from Z_to Z_turned Z_told Z_layers Z_come) (iX10_reversed aZ cI cZ res.2.1 Z_isArrow Z_from Z_to res.2.2.1 Z_told Z_layers res.2.2.2) sz res.1 := by
  refine q_meti (cc := cX10_reversed) (maxL := 2) (by decide) rfl (Nat.le_of_ble_eq_true rfl) ?_
  intro p e s m args below meth c Q A H locs ls C hP hD hS hl hret
  obtain ⟨hx, hb, hml, hown, hts, hA, hK⟩ := C
  replace hl : lv_has ls 2 [(0, .ref (aZ 0)), (1, .int p0)] := hl
  have k0 := hts (.fieldLink RX10 74 "RouteLayoutModel" "code" "I") (by decide +kernel)
  have k1 := hts (.fieldLink RX10 20 "RouteLayoutModel" "isArrow" "[Z") (by decide +kernel)
  have k2 := hts (.fieldLink RX10 29 "RouteLayoutModel" "turned" "[Z") (by decide +kernel)
  unfold fX10_reversed at hF
  have JX10_REVERSED_16 : ∀ (Z_code_1 : Int32) (Z_turned_1 : Nat → Int32) (Z_come_1 : Nat → Int32) (x1_1 : Int32) (s0_1 : Int32), jX10_reversed_16 Z_isArrow Z_from Z_to Z_turned_1 Z_come_1 x1_1 s0_1 = some res → ∀ (H : Heap) (locs : List Loc) (ls : Array Slot), va_P (dC, dI) vwCl (iX10_reversed aZ cI cZ Z_code_1 Z_isArrow Z_from Z_to Z_turned_1 Z_told Z_layers Z_come_1) H → va_D A (iX10_reversed aZ cI cZ Z_code_1 Z_isArrow Z_from Z_to Z_turned_1 Z_told Z_layers Z_come_1) → va_S A s.heap H locs → lv_has ls 2 [(0, .ref (aZ 0)), (1, .int x1_1)] → W p l e (headSpec wsX10_reversed (rX10_reversed)).room s m args below meth c H locs 0 0 Q (F0 m 16 ls [.int s0_1, .ref (aZ 0)]) := by
    intro Z_code_1 Z_turned_1 Z_come_1 x1_1 s0_1 hF H locs ls hP hD hS hl
    unfold jX10_reversed_16 at hF
    refine q_put (ci := 10) (C := RX10) (T := TX10) (N := 24) (ty := .int) hx hb hts eX10_reversed_X10 tyX10 tyX10_ok nmX10 hown hK hP hD hS 0 (iX10_reversed aZ cI cZ s0_1 Z_isArrow Z_from Z_to Z_turned_1 Z_told Z_layers Z_come_1) rfl rfl 0 (Nat.le_of_ble_eq_true rfl) k0 rfl rfl (by decide +kernel) rfl rfl (Nat.le_of_ble_eq_true rfl) rfl dX10_reversed_16 (fun H locs hP hD hS => ?_)
    refine lv_aload_n hx hb dX10_reversed_19 rfl (lv_at hl 0 rfl) ?_
    refine q_get (ci := 10) (C := RX10) (T := TX10) (N := 24) hx hb hts eX10_reversed_X10 hown hK hP 0 rfl rfl 0 (Nat.le_of_ble_eq_true rfl) k0 rfl rfl dX10_reversed_20 ?_
    refine lv_if_le (tgt := 28) hx hb dX10_reversed_23 (by decide) (fun hc => ?_) (fun hc => ?_)
    · replace hF := q_t hc hF
      refine lv_aload_n hx hb dX10_reversed_28 rfl (lv_at hl 0 rfl) ?_
      obtain ⟨q2_0, q2_1, hcq2, hF⟩ := q_bd2 hF
      refine q_Vv (As := []) (rest := []) ⟨hx, hb, hml, hown, hts⟩ hA hK hP hD hS (tX10_turn l dC dI cI cZ aZ H.size s0_1 Z_isArrow Z_from Z_to Z_turned_1 Z_told Z_layers Z_come_1 (q2_0, q2_1) hcq2) (cwV 0 hts gX10_reversed_X10_turn rfl rfl rfl uX10_turn ⟨Nat.le_of_ble_eq_true rfl, Nat.le_of_ble_eq_true rfl⟩) [0, 1, 2, 3, 4, 5] [(true, 0), (true, 1), (true, 2), (true, 3), (true, 4), (true, 5)] (iX10_reversed aZ cI cZ s0_1 Z_isArrow Z_from Z_to q2_0 Z_told Z_layers q2_1) rfl rfl rfl rfl rfl 10 0 rfl rfl rfl rfl hl.1 rfl (Nat.le_of_ble_eq_true rfl) dX10_reversed_29 ⟨Nat.zero_le _, Nat.zero_le _⟩ (fun H locs hP hD hS => ?_)
      refine lv_aload_n hx hb dX10_reversed_32 rfl (lv_at hl 0 rfl) ?_
      refine q_get (ci := 10) (C := RX10) (T := TX10) (N := 24) hx hb hts eX10_reversed_X10 hown hK hP 0 rfl rfl 4 (Nat.le_of_ble_eq_true rfl) k1 rfl rfl dX10_reversed_33 ?_
      refine lv_iload_n hx hb dX10_reversed_36 rfl (lv_at hl 1 rfl) ?_
      obtain ⟨hn3, hF⟩ := q_ck hF
      refine va_zald hx hb hK hP 1 1 rfl rfl hn3 dX10_reversed_37 ?_
      refine lv_if_ne (tgt := 45) hx hb dX10_reversed_38 (by decide) (fun hc => ?_) (fun hc => ?_)
      · replace hF := q_f hc hF
        refine lv_aload_n hx hb dX10_reversed_45 rfl (lv_at hl 0 rfl) ?_
        refine q_get (ci := 10) (C := RX10) (T := TX10) (N := 24) hx hb hts eX10_reversed_X10 hown hK hP 0 rfl rfl 7 (Nat.le_of_ble_eq_true rfl) k2 rfl rfl dX10_reversed_46 ?_
        refine lv_iload_n hx hb dX10_reversed_49 rfl (lv_at hl 1 rfl) ?_
        obtain ⟨hn4, hF⟩ := q_ck hF
        refine va_zald hx hb hK hP 4 1 rfl rfl hn4 dX10_reversed_50 ?_
        refine lv_if_eq (tgt := 58) hx hb dX10_reversed_51 (by decide) (fun hc => ?_) (fun hc => ?_)
        · replace hF := q_t hc hF
          refine lv_iconst (v := 0) hx hb dX10_reversed_58 (by decide) ?_
          exact hret H locs ls 59 _ _ dX10_reversed_59 (congrArg Prod.fst (Option.some.inj hF)) (congrArg (fun z : Int32 × Int32 × (Nat → Int32) × (Nat → Int32) => (iX10_reversed aZ cI cZ z.2.1 Z_isArrow Z_from Z_to z.2.2.1 Z_told Z_layers z.2.2.2)) (Option.some.inj hF)) hP hD hS
        · replace hF := q_f hc hF
          refine lv_iconst (v := 1) hx hb dX10_reversed_54 (by decide) ?_
          refine lv_goto (tgt := 59) hx hb dX10_reversed_55 (by decide) ?_
          exact hret H locs ls 59 _ _ dX10_reversed_59 (congrArg Prod.fst (Option.some.inj hF)) (congrArg (fun z : Int32 × Int32 × (Nat → Int32) × (Nat → Int32) => (iX10_reversed aZ cI cZ z.2.1 Z_isArrow Z_from Z_to z.2.2.1 Z_told Z_layers z.2.2.2)) (Option.some.inj hF)) hP hD hS
      · replace hF := q_t hc hF
        refine lv_iconst (v := (-1)) hx hb dX10_reversed_41 (by decide) ?_
        refine lv_goto (tgt := 59) hx hb dX10_reversed_42 (by decide) ?_
        exact hret H locs ls 59 _ _ dX10_reversed_59 (congrArg Prod.fst (Option.some.inj hF)) (congrArg (fun z : Int32 × Int32 × (Nat → Int32) × (Nat → Int32) => (iX10_reversed aZ cI cZ z.2.1 Z_isArrow Z_from Z_to z.2.2.1 Z_told Z_layers z.2.2.2)) (Option.some.inj hF)) hP hD hS
    · replace hF := q_f hc hF
      refine lv_iconst (v := 0) hx hb dX10_reversed_26 (by decide) ?_
      exact hret H locs ls 27 _ _ dX10_reversed_27 (congrArg Prod.fst (Option.some.inj hF)) (congrArg (fun z : Int32 × Int32 × (Nat → Int32) × (Nat → Int32) => (iX10_reversed aZ cI cZ z.2.1 Z_isArrow Z_from Z_to z.2.2.1 Z_told Z_layers z.2.2.2)) (Option.some.inj hF)) hP hD hS
  refine lv_aload_n hx hb dX10_reversed_0 rfl (lv_at hl 0 rfl) ?_
  refine lv_iload_n hx hb dX10_reversed_1 rfl (lv_at hl 1 rfl) ?_
  refine lv_iconst (v := 0) hx hb dX10_reversed_2 (by decide) ?_
  refine lv_bipush (v := 23) hx hb dX10_reversed_3 (by decide) ?_
  obtain ⟨q5, hcq5, hF⟩ := q_bd hF
  refine q_Si (As := [.int p0, .int 0, .int 23]) (rest := [.ref (aZ 0)]) ⟨hx, hb, hml, hown, hts⟩ hA hK hP hD hS (tX10_in l dC dI cI cZ H.size p0 0 23 q5 hcq5) (va_cwS 3 hts gX10_reversed_X10_in rfl rfl rfl uX10_in ⟨Nat.le_of_ble_eq_true rfl, Nat.le_of_ble_eq_true rfl⟩) [] [(false, 0), (false, 1), (false, 2), (false, 3), (false, 4), (false, 5)] (iX10_reversed aZ cI cZ Z_code Z_isArrow Z_from Z_to Z_turned Z_told Z_layers Z_come) rfl rfl rfl rfl rfl rfl hl.1 rfl (Nat.le_of_ble_eq_true rfl) dX10_reversed_5 ⟨Nat.zero_le _, Nat.zero_le _⟩ (fun H locs hP hD hS => ?_)
  refine lv_if_eq (tgt := 15) hx hb dX10_reversed_8 (by decide) (fun hc => ?_) (fun hc => ?_)
  · replace hF := q_t hc hF
    refine lv_iconst (v := 1) hx hb dX10_reversed_15 (by decide) ?_
    exact JX10_REVERSED_16 Z_code Z_turned Z_come p0 1 hF H locs ls hP hD hS (lv_sub hl [0, 1] rfl)
  · replace hF := q_f hc hF
    refine lv_iconst (v := 0) hx hb dX10_reversed_11 (by decide) ?_
    refine lv_goto (tgt := 16) hx hb dX10_reversed_12 (by decide) ?_
    exact JX10_REVERSED_16 Z_code Z_turned Z_come p0 0 hF H locs ls hP hD hS (lv_sub hl [0, 1] rfl)
abbrev rX10_thrown : Room := { frames := 0, cells := 0, slots := 0, locals := 0 }
theorem eX10_thrown_X10 : ∀ w ∈ u_ws RX10 TX10 24, w ∈ wsX10_thrown := by decide +kernel
theorem uX10_thrown : yX10_thrown.cls = RX10 ∧ yX10_thrown.cls ≠ "java/lang/invoke/MethodHandle" ∧ yX10_thrown.cls ≠ "java/lang/invoke/VarHandle" ∧ (parseMethodDescriptor yX10_thrown.desc).map (fun d => d.parameters.length) = some 0 := by decide +kernel
set_option maxHeartbeats 4000000 in
set_option maxRecDepth 100000 in
theorem tX10_thrown (l : Launch) (dC : Nat → ClassId) (dI : Nat → Nat → Nat) (cI cZ : ClassId) (aZ : Nat → Nat) (sz : Nat) (Z_code : Int32) (Z_told : Int32) (Z_layers : Int32) (res : Int32) (hF : fX10_thrown Z_code = some res) : q_Mi l yX10_thrown wsX10_thrown rX10_thrown (dC, dI) (q_ty cI cZ) [.ref (aZ 0)] (iX10_thrown aZ cI cZ Z_code Z_told Z_layers) (iX10_thrown aZ cI cZ Z_code Z_told Z_layers) sz res := by
  refine q_meti (cc := cX10_thrown) (maxL := 1) (by decide) rfl (Nat.le_of_ble_eq_true rfl) ?_
  intro p e s m args below meth c Q A H locs ls C hP hD hS hl hret
  obtain ⟨hx, hb, hml, hown, hts, hA, hK⟩ := C
  replace hl : lv_has ls 1 [(0, .ref (aZ 0))] := hl
  have k0 := hts (.fieldLink RX10 74 "RouteLayoutModel" "code" "I") (by decide +kernel)
  unfold fX10_thrown at hF
  refine lv_aload_n hx hb dX10_thrown_0 rfl (lv_at hl 0 rfl) ?_
  refine q_get (ci := 10) (C := RX10) (T := TX10) (N := 24) hx hb hts eX10_thrown_X10 hown hK hP 0 rfl rfl 0 (Nat.le_of_ble_eq_true rfl) k0 rfl rfl dX10_thrown_1 ?_
  exact hret H locs ls 4 _ _ dX10_thrown_4 (Option.some.inj hF) rfl hP hD hS
