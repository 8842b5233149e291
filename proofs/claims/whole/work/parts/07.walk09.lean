/-! Written by wip/whole/gen.py: walks of X9_drop, X9_item, X9_movedBoxes, X9_piece, X9_pin, X9_redraw, X9_remove, X9_reversed, X10_add, X10_upper, X10_lower, X10_hasPiece, X10_upperPlace, X10_lowerPlace. -/
abbrev rX9_drop : Room := { frames := 5, cells := 0, slots := 0, locals := 109 }
theorem eX9_drop_X9 : ∀ w ∈ u_ws RX9 TX9 11, w ∈ wsX9_drop := by decide +kernel
theorem uX9_drop : yX9_drop.cls = RX9 ∧ yX9_drop.cls ≠ "java/lang/invoke/MethodHandle" ∧ yX9_drop.cls ≠ "java/lang/invoke/VarHandle" ∧ (parseMethodDescriptor yX9_drop.desc).map (fun d => d.parameters.length) = some 1 := by decide +kernel
set_option maxHeartbeats 4000000 in
set_option maxRecDepth 100000 in
theorem tX9_drop (l : Launch) (dC : Nat → ClassId) (dI : Nat → Nat → Nat) (cI cZ : ClassId) (aS : Nat → Nat) (aL : Nat → Nat) (aF : Nat → Nat) (aK : Nat → Nat) (sz : Nat) (M_told : Int32) (R_width : Nat → Int32) (R_from : Nat → Int32) (R_to : Nat → Int32) (R_turned : Nat → Int32) (R_reach : Nat → Int32) (p0 : Int32) (res : Int32 × Int32 × (Nat → Int32) × (Nat → Int32) × (Nat → Int32) × (Nat → Int32)) (hF : fX9_drop M_told R_width R_from R_to R_turned R_reach p0 = some res) : q_Mi l yX9_drop wsX9_drop rX9_drop (dC, dI) (q_ty cI cZ) [.ref (aS 47), .int p0] (iX9_drop aS aL aF aK cI cZ M_told R_width R_from R_to R_turned R_reach) (iX9_drop aS aL aF aK cI cZ res.2.1 R_width res.2.2.1 res.2.2.2.1 res.2.2.2.2.1 res.2.2.2.2.2) sz res.1 := by
  refine q_metz (cc := cX9_drop) (maxL := 2) (by decide) rfl (Nat.le_of_ble_eq_true rfl) ?_
  intro p e s m args below meth c Q A H locs ls C hP hD hS hl hret
  obtain ⟨hx, hb, hml, hown, hts, hA, hK⟩ := C
  replace hl : lv_has ls 2 [(0, .ref (aS 47)), (1, .int p0)] := hl
  have k0 := hts (.fieldLink RX9 12 "RouteLayout" "routes" "LRouteLayout$Routes;") (by decide +kernel)
  have k1 := hts (.fieldLink RX9 81 "RouteLayout" "told" "Z") (by decide +kernel)
  unfold fX9_drop at hF
  refine lv_iload_n hx hb dX9_drop_0 rfl (lv_at hl 1 rfl) ?_
  obtain ⟨⟨⟩, hcq1, hF⟩ := q_bd hF
  refine q_Sv (As := [.int p0]) (rest := []) ⟨hx, hb, hml, hown, hts⟩ hA hK hP hD hS (tX9_needArrowNumber l dC dI cI cZ H.size p0 () hcq1) (va_cwS 1 hts gX9_drop_X9_needArrowNumber rfl rfl rfl uX9_needArrowNumber ⟨Nat.le_of_ble_eq_true rfl, Nat.le_of_ble_eq_true rfl⟩) [] [(false, 0), (false, 1), (false, 2), (false, 3), (false, 4), (false, 5), (false, 6)] (iX9_drop aS aL aF aK cI cZ M_told R_width R_from R_to R_turned R_reach) rfl rfl rfl rfl rfl rfl hl.1 rfl (Nat.le_of_ble_eq_true rfl) dX9_drop_1 ⟨Nat.zero_le _, Nat.zero_le _⟩ (fun H locs hP hD hS => ?_)
  refine lv_aload_n hx hb dX9_drop_4 rfl (lv_at hl 0 rfl) ?_
  refine q_get (ci := 9) (C := RX9) (T := TX9) (N := 11) hx hb hts eX9_drop_X9 hown hK hP 0 rfl rfl 0 (Nat.le_of_ble_eq_true rfl) k0 rfl rfl dX9_drop_5 ?_
  refine lv_iload_n hx hb dX9_drop_8 rfl (lv_at hl 1 rfl) ?_
  obtain ⟨q2, hcq2, hF⟩ := q_bd hF
  refine q_Vi (As := [.int p0]) (rest := []) ⟨hx, hb, hml, hown, hts⟩ hA hK hP hD hS (tX7_hasArrow l dC dI cI cZ aS H.size R_from p0 q2 hcq2) (cwV 1 hts gX9_drop_X7_hasArrow rfl rfl rfl uX7_hasArrow ⟨Nat.le_of_ble_eq_true rfl, Nat.le_of_ble_eq_true rfl⟩) [1, 3] [(false, 0), (true, 0), (false, 2), (true, 1), (false, 4), (false, 5), (false, 6)] (iX9_drop aS aL aF aK cI cZ M_told R_width R_from R_to R_turned R_reach) rfl rfl rfl rfl rfl 7 0 rfl rfl rfl rfl hl.1 rfl (Nat.le_of_ble_eq_true rfl) dX9_drop_9 ⟨Nat.zero_le _, Nat.zero_le _⟩ (fun H locs hP hD hS => ?_)
  refine lv_if_ne (tgt := 17) hx hb dX9_drop_12 (by decide) (fun hc => ?_) (fun hc => ?_)
  · replace hF := q_f hc hF
    refine lv_aload_n hx hb dX9_drop_17 rfl (lv_at hl 0 rfl) ?_
    refine q_get (ci := 9) (C := RX9) (T := TX9) (N := 11) hx hb hts eX9_drop_X9 hown hK hP 0 rfl rfl 0 (Nat.le_of_ble_eq_true rfl) k0 rfl rfl dX9_drop_18 ?_
    refine lv_iload_n hx hb dX9_drop_21 rfl (lv_at hl 1 rfl) ?_
    obtain ⟨q3_0, q3_1, q3_2, q3_3, hcq3, hF⟩ := q_bd4 hF
    refine q_Vv (As := [.int p0]) (rest := []) ⟨hx, hb, hml, hown, hts⟩ hA hK hP hD hS (tX7_takeArrow l dC dI cI cZ aS H.size R_width R_from R_to R_turned R_reach p0 (q3_0, q3_1, q3_2, q3_3) hcq3) (cwV 1 hts gX9_drop_X7_takeArrow rfl rfl rfl uX7_takeArrow ⟨Nat.le_of_ble_eq_true rfl, Nat.le_of_ble_eq_true rfl⟩) [1, 2, 3, 4, 5, 6] [(false, 0), (true, 0), (true, 1), (true, 2), (true, 3), (true, 4), (true, 5)] (iX9_drop aS aL aF aK cI cZ M_told R_width q3_0 q3_1 q3_2 q3_3) rfl rfl rfl rfl rfl 7 0 rfl rfl rfl rfl hl.1 rfl (Nat.le_of_ble_eq_true rfl) dX9_drop_22 ⟨Nat.zero_le _, Nat.zero_le _⟩ (fun H locs hP hD hS => ?_)
    refine lv_aload_n hx hb dX9_drop_25 rfl (lv_at hl 0 rfl) ?_
    refine lv_iconst (v := 0) hx hb dX9_drop_26 (by decide) ?_
    refine q_put (ci := 9) (C := RX9) (T := TX9) (N := 11) (ty := .boolean) hx hb hts eX9_drop_X9 tyX9 tyX9_ok nmX9 hown hK hP hD hS 0 (iX9_drop aS aL aF aK cI cZ 0 R_width q3_0 q3_1 q3_2 q3_3) rfl rfl 10 (Nat.le_of_ble_eq_true rfl) k1 rfl rfl (by decide +kernel) (q_narz (Or.inl rfl)) rfl (Nat.le_of_ble_eq_true rfl) rfl dX9_drop_27 (fun H locs hP hD hS => ?_)
    refine lv_iconst (v := 1) hx hb dX9_drop_30 (by decide) ?_
    exact hret H locs ls 31 _ _ dX9_drop_31 (Or.inr rfl) (congrArg Prod.fst (Option.some.inj hF)) (congrArg (fun z : Int32 × Int32 × (Nat → Int32) × (Nat → Int32) × (Nat → Int32) × (Nat → Int32) => (iX9_drop aS aL aF aK cI cZ z.2.1 R_width z.2.2.1 z.2.2.2.1 z.2.2.2.2.1 z.2.2.2.2.2)) (Option.some.inj hF)) hP hD hS
  · replace hF := q_t hc hF
    refine lv_iconst (v := 0) hx hb dX9_drop_15 (by decide) ?_
    exact hret H locs ls 16 _ _ dX9_drop_16 (Or.inl rfl) (congrArg Prod.fst (Option.some.inj hF)) (congrArg (fun z : Int32 × Int32 × (Nat → Int32) × (Nat → Int32) × (Nat → Int32) × (Nat → Int32) => (iX9_drop aS aL aF aK cI cZ z.2.1 R_width z.2.2.1 z.2.2.2.1 z.2.2.2.2.1 z.2.2.2.2.2)) (Option.some.inj hF)) hP hD hS
abbrev rX9_item : Room := { frames := 2, cells := 0, slots := 0, locals := 44 }
theorem eX9_item_X9 : ∀ w ∈ u_ws RX9 TX9 11, w ∈ wsX9_item := by decide +kernel
theorem uX9_item : yX9_item.cls = RX9 ∧ yX9_item.cls ≠ "java/lang/invoke/MethodHandle" ∧ yX9_item.cls ≠ "java/lang/invoke/VarHandle" ∧ (parseMethodDescriptor yX9_item.desc).map (fun d => d.parameters.length) = some 2 := by decide +kernel
set_option maxHeartbeats 4000000 in
set_option maxRecDepth 100000 in
theorem tX9_item (l : Launch) (dC : Nat → ClassId) (dI : Nat → Nat → Nat) (cI cZ : ClassId) (aS : Nat → Nat) (aL : Nat → Nat) (aF : Nat → Nat) (aK : Nat → Nat) (sz : Nat) (M_told : Int32) (OL_layers : Int32) (OL_size : Nat → Int32) (OL_rows : Nat → Int32) (p0 : Int32) (p1 : Int32) (res : Int32) (hF : fX9_item M_told OL_layers OL_size OL_rows p0 p1 = some res) : q_Mi l yX9_item wsX9_item rX9_item (dC, dI) (q_ty cI cZ) [.ref (aS 47), .int p0, .int p1] (iX9_item aS aL aF aK cI cZ M_told OL_layers OL_size OL_rows) (iX9_item aS aL aF aK cI cZ M_told OL_layers OL_size OL_rows) sz res := by
  refine q_meti (cc := cX9_item) (maxL := 4) (by decide) rfl (Nat.le_of_ble_eq_true rfl) ?_
  intro p e s m args below meth c Q A H locs ls C hP hD hS hl hret
  obtain ⟨hx, hb, hml, hown, hts, hA, hK⟩ := C
  replace hl : lv_has ls 4 [(0, .ref (aS 47)), (1, .int p0), (2, .int p1)] := hl
  have k0 := hts (.fieldLink RX9 81 "RouteLayout" "told" "Z") (by decide +kernel)
  have k1 := hts (.fieldLink RX9 71 "RouteLayout" "latest" "LRouteLayout$Order;") (by decide +kernel)
  unfold fX9_item at hF
  refine lv_aload_n hx hb dX9_item_0 rfl (lv_at hl 0 rfl) ?_
  refine q_get (ci := 9) (C := RX9) (T := TX9) (N := 11) hx hb hts eX9_item_X9 hown hK hP 0 rfl rfl 10 (Nat.le_of_ble_eq_true rfl) k0 rfl rfl dX9_item_1 ?_
  refine lv_if_ne (tgt := 9) hx hb dX9_item_4 (by decide) (fun hc => ?_) (fun hc => ?_)
  · replace hF := q_f hc hF
    refine lv_aload_n hx hb dX9_item_9 rfl (lv_at hl 0 rfl) ?_
    refine q_get (ci := 9) (C := RX9) (T := TX9) (N := 11) hx hb hts eX9_item_X9 hown hK hP 0 rfl rfl 7 (Nat.le_of_ble_eq_true rfl) k1 rfl rfl dX9_item_10 ?_
    refine lv_iload_n hx hb dX9_item_13 rfl (lv_at hl 1 rfl) ?_
    refine lv_iload_n hx hb dX9_item_14 rfl (lv_at hl 2 rfl) ?_
    obtain ⟨q1, hcq1, hF⟩ := q_bd hF
    refine q_Vi (As := [.int p0, .int p1]) (rest := []) ⟨hx, hb, hml, hown, hts⟩ hA hK hP hD hS (tX4_itemIn l dC dI cI cZ aL H.size OL_layers OL_size OL_rows p0 p1 q1 hcq1) (cwV 2 hts gX9_item_X4_itemIn rfl rfl rfl uX4_itemIn ⟨Nat.le_of_ble_eq_true rfl, Nat.le_of_ble_eq_true rfl⟩) [1, 2, 3] [(false, 0), (true, 0), (true, 1), (true, 2)] (iX9_item aS aL aF aK cI cZ M_told OL_layers OL_size OL_rows) rfl rfl rfl rfl rfl 4 0 rfl rfl rfl rfl hl.1 rfl (Nat.le_of_ble_eq_true rfl) dX9_item_15 ⟨Nat.zero_le _, Nat.zero_le _⟩ (fun H locs hP hD hS => ?_)
    refine lv_istore_n (lv' := [(3, .int q1), (0, .ref (aS 47)), (1, .int p0), (2, .int p1)]) hx hb dX9_item_18 rfl hl (by decide) rfl (fun ls hl => ?_)
    refine lv_iload_n hx hb dX9_item_19 rfl (lv_at hl 0 rfl) ?_
    refine lv_bipush (v := 16) hx hb dX9_item_20 (by decide) ?_
    refine lv_icmp_ge (tgt := 29) hx hb dX9_item_22 (by decide) (fun hc => ?_) (fun hc => ?_)
    · replace hF := q_t hc hF
      refine lv_bipush (v := 100) hx hb dX9_item_29 (by decide) ?_
      refine lv_iload_n hx hb dX9_item_31 rfl (lv_at hl 0 rfl) ?_
      refine lv_iadd hx hb dX9_item_32 ?_
      refine lv_bipush (v := 16) hx hb dX9_item_33 (by decide) ?_
      refine lv_isub hx hb dX9_item_35 ?_
      exact hret H locs ls 36 _ _ dX9_item_36 (Option.some.inj hF) rfl hP hD hS
    · replace hF := q_f hc hF
      refine lv_iload_n hx hb dX9_item_25 rfl (lv_at hl 0 rfl) ?_
      refine lv_goto (tgt := 36) hx hb dX9_item_26 (by decide) ?_
      exact hret H locs ls 36 _ _ dX9_item_36 (Option.some.inj hF) rfl hP hD hS
  · replace hF := q_t hc hF
    refine lv_iconst (v := (-1)) hx hb dX9_item_7 (by decide) ?_
    exact hret H locs ls 8 _ _ dX9_item_8 (Option.some.inj hF) rfl hP hD hS
abbrev rX9_movedBoxes : Room := { frames := 2, cells := 0, slots := 0, locals := 46 }
theorem eX9_movedBoxes_X9 : ∀ w ∈ u_ws RX9 TX9 11, w ∈ wsX9_movedBoxes := by decide +kernel
theorem uX9_movedBoxes : yX9_movedBoxes.cls = RX9 ∧ yX9_movedBoxes.cls ≠ "java/lang/invoke/MethodHandle" ∧ yX9_movedBoxes.cls ≠ "java/lang/invoke/VarHandle" ∧ (parseMethodDescriptor yX9_movedBoxes.desc).map (fun d => d.parameters.length) = some 1 := by decide +kernel
set_option maxHeartbeats 4000000 in
set_option maxRecDepth 100000 in
theorem tX9_movedBoxes (l : Launch) (dC : Nat → ClassId) (dI : Nat → Nat → Nat) (cI cZ : ClassId) (aS : Nat → Nat) (aN : Nat → Nat) (aL : Nat → Nat) (aF : Nat → Nat) (aK : Nat → Nat) (sz : Nat) (M_told : Int32) (R_width : Nat → Int32) (N_layers : Int32) (N_places : Nat → Int32) (N_home : Nat → Int32) (OL_layers : Int32) (OL_places : Nat → Int32) (OL_home : Nat → Int32) (res : Int32) (hF : fX9_movedBoxes R_width N_places N_home OL_places OL_home = some res) : q_Mi l yX9_movedBoxes wsX9_movedBoxes rX9_movedBoxes (dC, dI) (q_ty cI cZ) [.ref (aS 47), .ref (aN 0)] (iX9_movedBoxes aS aN aL aF aK cI cZ M_told R_width N_layers N_places N_home OL_layers OL_places OL_home) (iX9_movedBoxes aS aN aL aF aK cI cZ M_told R_width N_layers N_places N_home OL_layers OL_places OL_home) sz res := by
  refine q_meti (cc := cX9_movedBoxes) (maxL := 4) (by decide) rfl (Nat.le_of_ble_eq_true rfl) ?_
  intro p e s m args below meth c Q A H locs ls C hP hD hS hl hret
  obtain ⟨hx, hb, hml, hown, hts, hA, hK⟩ := C
  replace hl : lv_has ls 4 [(0, .ref (aS 47)), (1, .ref (aN 0))] := hl
  have k0 := hts (.fieldLink RX9 12 "RouteLayout" "routes" "LRouteLayout$Routes;") (by decide +kernel)
  have k1 := hts (.fieldLink RX9 71 "RouteLayout" "latest" "LRouteLayout$Order;") (by decide +kernel)
  unfold fX9_movedBoxes at hF
  refine lv_iconst (v := 0) hx hb dX9_movedBoxes_0 (by decide) ?_
  refine lv_istore_n (lv' := [(2, .int 0), (0, .ref (aS 47)), (1, .ref (aN 0))]) hx hb dX9_movedBoxes_1 rfl hl (by decide) rfl (fun ls hl => ?_)
  refine lv_iconst (v := 0) hx hb dX9_movedBoxes_2 (by decide) ?_
  refine lv_istore_n (lv' := [(3, .int 0), (2, .int 0), (0, .ref (aS 47)), (1, .ref (aN 0))]) hx hb dX9_movedBoxes_3 rfl hl (by decide) rfl (fun ls hl => ?_)
  obtain ⟨q1, hc1, hF⟩ := q_bd hF
  have X1 : ∀ (u1 : Int32), u1 = q1 → ∀ (H : Heap) (locs : List Loc) (ls : Array Slot), va_P (dC, dI) vwCl (iX9_movedBoxes aS aN aL aF aK cI cZ M_told R_width N_layers N_places N_home OL_layers OL_places OL_home) H → va_D A (iX9_movedBoxes aS aN aL aF aK cI cZ M_told R_width N_layers N_places N_home OL_layers OL_places OL_home) → va_S A s.heap H locs → lv_has ls 4 [(2, .int u1)] → W p l e (headSpec wsX9_movedBoxes (rX9_movedBoxes)).room s m args below meth c H locs 0 0 Q (F0 m 53 ls []) := by
    intro u1 hu H locs ls hP hD hS hl
    subst hu
    refine lv_iload_n hx hb dX9_movedBoxes_53 rfl (lv_at hl 0 rfl) ?_
    exact hret H locs ls 54 _ _ dX9_movedBoxes_54 (Option.some.inj hF) rfl hP hD hS
  have L1 : ∀ st : Int32 × Int32, q_lo (fun (st : Int32 × Int32) => bX9_movedBoxes_4 R_width N_places N_home OL_places OL_home st.1 st.2) st = some q1 → ∀ (H : Heap) (locs : List Loc) (ls : Array Slot), va_P (dC, dI) vwCl (iX9_movedBoxes aS aN aL aF aK cI cZ M_told R_width N_layers N_places N_home OL_layers OL_places OL_home) H → va_D A (iX9_movedBoxes aS aN aL aF aK cI cZ M_told R_width N_layers N_places N_home OL_layers OL_places OL_home) → va_S A s.heap H locs → lv_has ls 4 [(0, .ref (aS 47)), (1, .ref (aN 0)), (2, .int st.1), (3, .int st.2)] → W p l e (headSpec wsX9_movedBoxes (rX9_movedBoxes)).room s m args below meth c H locs 0 0 Q (F0 m 4 ls []) := by
    intro st hst
    refine q_walk (Wh := fun st : Int32 × Int32 => ∀ (H : Heap) (locs : List Loc) (ls : Array Slot), va_P (dC, dI) vwCl (iX9_movedBoxes aS aN aL aF aK cI cZ M_told R_width N_layers N_places N_home OL_layers OL_places OL_home) H → va_D A (iX9_movedBoxes aS aN aL aF aK cI cZ M_told R_width N_layers N_places N_home OL_layers OL_places OL_home) → va_S A s.heap H locs → lv_has ls 4 [(0, .ref (aS 47)), (1, .ref (aN 0)), (2, .int st.1), (3, .int st.2)] → W p l e (headSpec wsX9_movedBoxes (rX9_movedBoxes)).room s m args below meth c H locs 0 0 Q (F0 m 4 ls [])) ?_ st hst
    clear hst st hF
    intro st o hF hin hex H locs ls hP hD hS hl
    obtain ⟨x2_1, x3_1⟩ := st
    replace hF : bX9_movedBoxes_4 R_width N_places N_home OL_places OL_home x2_1 x3_1 = some o := hF
    replace hP : va_P (dC, dI) vwCl (iX9_movedBoxes aS aN aL aF aK cI cZ M_told R_width N_layers N_places N_home OL_layers OL_places OL_home) H := hP
    replace hD : va_D A (iX9_movedBoxes aS aN aL aF aK cI cZ M_told R_width N_layers N_places N_home OL_layers OL_places OL_home) := hD
    replace hl : lv_has ls 4 [(0, .ref (aS 47)), (1, .ref (aN 0)), (2, .int x2_1), (3, .int x3_1)] := hl
    unfold bX9_movedBoxes_4 at hF
    have JX9_MOVEDBOXES_47 : ∀ (x2_2 : Int32) (x3_2 : Int32), jX9_movedBoxes_47 x2_2 x3_2 = some o → ∀ (H : Heap) (locs : List Loc) (ls : Array Slot), va_P (dC, dI) vwCl (iX9_movedBoxes aS aN aL aF aK cI cZ M_told R_width N_layers N_places N_home OL_layers OL_places OL_home) H → va_D A (iX9_movedBoxes aS aN aL aF aK cI cZ M_told R_width N_layers N_places N_home OL_layers OL_places OL_home) → va_S A s.heap H locs → lv_has ls 4 [(0, .ref (aS 47)), (1, .ref (aN 0)), (2, .int x2_2), (3, .int x3_2)] → W p l e (headSpec wsX9_movedBoxes (rX9_movedBoxes)).room s m args below meth c H locs 0 0 Q (F0 m 47 ls []) := by
      intro x2_2 x3_2 hF H locs ls hP hD hS hl
      unfold jX9_movedBoxes_47 at hF
      refine lv_iinc (v := (x3_2 + 1)) (lv' := [(3, .int (x3_2 + 1)), (0, .ref (aS 47)), (1, .ref (aN 0)), (2, .int x2_2)]) hx hb dX9_movedBoxes_47 hl (k := 3) rfl rfl (by decide) rfl (fun ls hl => ?_)
      refine lv_goto (tgt := 4) hx hb dX9_movedBoxes_50 (by decide) ?_
      exact hin _ (Option.some.inj hF).symm H locs ls hP hD hS (lv_sub hl [1, 2, 3, 0] rfl)
    refine lv_iload_n hx hb dX9_movedBoxes_4 rfl (lv_at hl 3 rfl) ?_
    refine lv_bipush (v := 16) hx hb dX9_movedBoxes_5 (by decide) ?_
    refine lv_icmp_ge (tgt := 53) hx hb dX9_movedBoxes_7 (by decide) (fun hc => ?_) (fun hc => ?_)
    · replace hF := q_t hc hF
      exact X1 _ (hex _ (Option.some.inj hF).symm) H locs ls hP hD hS (lv_sub hl [2] rfl)
    · replace hF := q_f hc hF
      refine lv_aload_n hx hb dX9_movedBoxes_10 rfl (lv_at hl 0 rfl) ?_
      refine q_get (ci := 9) (C := RX9) (T := TX9) (N := 11) hx hb hts eX9_movedBoxes_X9 hown hK hP 0 rfl rfl 0 (Nat.le_of_ble_eq_true rfl) k0 rfl rfl dX9_movedBoxes_11 ?_
      refine lv_iload_n hx hb dX9_movedBoxes_14 rfl (lv_at hl 3 rfl) ?_
      obtain ⟨q3, hcq3, hF⟩ := q_bd hF
      refine q_Vi (As := [.int x3_1]) (rest := []) ⟨hx, hb, hml, hown, hts⟩ hA hK hP hD hS (tX7_hasBox l dC dI cI cZ aS H.size R_width x3_1 q3 hcq3) (cwV 1 hts gX9_movedBoxes_X7_hasBox rfl rfl rfl uX7_hasBox ⟨Nat.le_of_ble_eq_true rfl, Nat.le_of_ble_eq_true rfl⟩) [1, 2] [(false, 0), (true, 0), (true, 1), (false, 3), (false, 4), (false, 5), (false, 6), (false, 7), (false, 8)] (iX9_movedBoxes aS aN aL aF aK cI cZ M_told R_width N_layers N_places N_home OL_layers OL_places OL_home) rfl rfl rfl rfl rfl 7 0 rfl rfl rfl rfl hl.1 rfl (Nat.le_of_ble_eq_true rfl) dX9_movedBoxes_15 ⟨Nat.zero_le _, Nat.zero_le _⟩ (fun H locs hP hD hS => ?_)
      refine lv_if_eq (tgt := 47) hx hb dX9_movedBoxes_18 (by decide) (fun hc => ?_) (fun hc => ?_)
      · replace hF := q_t hc hF
        exact JX9_MOVEDBOXES_47 x2_1 x3_1 hF H locs ls hP hD hS (lv_sub hl [0, 1, 2, 3] rfl)
      · replace hF := q_f hc hF
        refine lv_aload_n hx hb dX9_movedBoxes_21 rfl (lv_at hl 0 rfl) ?_
        refine q_get (ci := 9) (C := RX9) (T := TX9) (N := 11) hx hb hts eX9_movedBoxes_X9 hown hK hP 0 rfl rfl 7 (Nat.le_of_ble_eq_true rfl) k1 rfl rfl dX9_movedBoxes_22 ?_
        refine lv_iload_n hx hb dX9_movedBoxes_25 rfl (lv_at hl 3 rfl) ?_
        obtain ⟨q4, hcq4, hF⟩ := q_bd hF
        refine q_Vi (As := [.int x3_1]) (rest := []) ⟨hx, hb, hml, hown, hts⟩ hA hK hP hD hS (tX4_holdsBox l dC dI cI cZ aL H.size OL_layers OL_home x3_1 q4 hcq4) (cwV 1 hts gX9_movedBoxes_X4_holdsBox rfl rfl rfl uX4_holdsBox ⟨Nat.le_of_ble_eq_true rfl, Nat.le_of_ble_eq_true rfl⟩) [6, 8] [(false, 0), (false, 1), (false, 2), (false, 3), (false, 4), (false, 5), (true, 0), (false, 7), (true, 1)] (iX9_movedBoxes aS aN aL aF aK cI cZ M_told R_width N_layers N_places N_home OL_layers OL_places OL_home) rfl rfl rfl rfl rfl 4 0 rfl rfl rfl rfl hl.1 rfl (Nat.le_of_ble_eq_true rfl) dX9_movedBoxes_26 ⟨Nat.zero_le _, Nat.zero_le _⟩ (fun H locs hP hD hS => ?_)
        refine lv_if_eq (tgt := 47) hx hb dX9_movedBoxes_29 (by decide) (fun hc => ?_) (fun hc => ?_)
        · replace hF := q_t hc hF
          exact JX9_MOVEDBOXES_47 x2_1 x3_1 hF H locs ls hP hD hS (lv_sub hl [0, 1, 2, 3] rfl)
        · replace hF := q_f hc hF
          refine lv_aload_n hx hb dX9_movedBoxes_32 rfl (lv_at hl 1 rfl) ?_
          refine lv_aload_n hx hb dX9_movedBoxes_33 rfl (lv_at hl 0 rfl) ?_
          refine q_get (ci := 9) (C := RX9) (T := TX9) (N := 11) hx hb hts eX9_movedBoxes_X9 hown hK hP 0 rfl rfl 7 (Nat.le_of_ble_eq_true rfl) k1 rfl rfl dX9_movedBoxes_34 ?_
          refine lv_iload_n hx hb dX9_movedBoxes_37 rfl (lv_at hl 3 rfl) ?_
          obtain ⟨q5, hcq5, hF⟩ := q_bd hF
          refine q_Vi (As := [.ref (aL 0), .int x3_1]) (rest := []) ⟨hx, hb, hml, hown, hts⟩ hA hK hP hD hS (tX4_sameSpot l dC dI cI cZ aN aL H.size N_layers N_places N_home OL_layers OL_places OL_home x3_1 q5 hcq5) (cwV 2 hts gX9_movedBoxes_X4_sameSpot rfl rfl rfl uX4_sameSpot ⟨Nat.le_of_ble_eq_true rfl, Nat.le_of_ble_eq_true rfl⟩) [3, 4, 5, 6, 7, 8] [(false, 0), (false, 1), (false, 2), (true, 0), (true, 1), (true, 2), (true, 3), (true, 4), (true, 5)] (iX9_movedBoxes aS aN aL aF aK cI cZ M_told R_width N_layers N_places N_home OL_layers OL_places OL_home) rfl rfl rfl rfl rfl 4 0 rfl rfl rfl rfl hl.1 rfl (Nat.le_of_ble_eq_true rfl) dX9_movedBoxes_38 ⟨Nat.zero_le _, Nat.zero_le _⟩ (fun H locs hP hD hS => ?_)
          refine lv_if_ne (tgt := 47) hx hb dX9_movedBoxes_41 (by decide) (fun hc => ?_) (fun hc => ?_)
          · replace hF := q_f hc hF
            exact JX9_MOVEDBOXES_47 x2_1 x3_1 hF H locs ls hP hD hS (lv_sub hl [0, 1, 2, 3] rfl)
          · replace hF := q_t hc hF
            refine lv_iinc (v := (x2_1 + 1)) (lv' := [(2, .int (x2_1 + 1)), (0, .ref (aS 47)), (1, .ref (aN 0)), (3, .int x3_1)]) hx hb dX9_movedBoxes_44 hl (k := 2) rfl rfl (by decide) rfl (fun ls hl => ?_)
            exact JX9_MOVEDBOXES_47 (x2_1 + 1) x3_1 hF H locs ls hP hD hS (lv_sub hl [1, 2, 0, 3] rfl)
  exact L1 (0, 0) hc1 H locs ls hP hD hS (lv_sub hl [2, 3, 1, 0] rfl)
abbrev rX9_piece : Room := { frames := 3, cells := 0, slots := 0, locals := 65 }
theorem eX9_piece_X9 : ∀ w ∈ u_ws RX9 TX9 11, w ∈ wsX9_piece := by decide +kernel
theorem uX9_piece : yX9_piece.cls = RX9 ∧ yX9_piece.cls ≠ "java/lang/invoke/MethodHandle" ∧ yX9_piece.cls ≠ "java/lang/invoke/VarHandle" ∧ (parseMethodDescriptor yX9_piece.desc).map (fun d => d.parameters.length) = some 3 := by decide +kernel
set_option maxHeartbeats 4000000 in
set_option maxRecDepth 100000 in
theorem tX9_piece (l : Launch) (dC : Nat → ClassId) (dI : Nat → Nat → Nat) (cI cZ : ClassId) (aS : Nat → Nat) (aL : Nat → Nat) (aF : Nat → Nat) (aK : Nat → Nat) (sz : Nat) (M_told : Int32) (R_width : Nat → Int32) (R_from : Nat → Int32) (R_to : Nat → Int32) (R_turned : Nat → Int32) (L_tops : Nat → Int32) (L_bottoms : Nat → Int32) (L_layers : Int32) (C_x : Nat → Int32) (T_track : Nat → Int32) (p0 : Int32) (p1 : Int32) (p2 : Int32) (res : Int32) (hF : fX9_piece M_told R_width R_from R_to R_turned L_tops L_bottoms C_x T_track p0 p1 p2 = some res) : q_Mi l yX9_piece wsX9_piece rX9_piece (dC, dI) (q_ty cI cZ) [.ref (aS 47), .int p0, .int p1, .int p2] (iX9_piece aS aL aF aK cI cZ M_told R_width R_from R_to R_turned L_tops L_bottoms L_layers C_x T_track) (iX9_piece aS aL aF aK cI cZ M_told R_width R_from R_to R_turned L_tops L_bottoms L_layers C_x T_track) sz res := by
  refine q_meti (cc := cX9_piece) (maxL := 4) (by decide) rfl (Nat.le_of_ble_eq_true rfl) ?_
  intro p e s m args below meth c Q A H locs ls C hP hD hS hl hret
  obtain ⟨hx, hb, hml, hown, hts, hA, hK⟩ := C
  replace hl : lv_has ls 4 [(0, .ref (aS 47)), (1, .int p0), (2, .int p1), (3, .int p2)] := hl
  have k0 := hts (.fieldLink RX9 81 "RouteLayout" "told" "Z") (by decide +kernel)
  have k1 := hts (.fieldLink RX9 21 "RouteLayout" "levels" "LRouteLayout$Levels;") (by decide +kernel)
  have k2 := hts (.fieldLink RX9 55 "RouteLayout" "columns" "LRouteLayout$Columns;") (by decide +kernel)
  have k3 := hts (.fieldLink RX9 64 "RouteLayout" "tracks" "LRouteLayout$Tracks;") (by decide +kernel)
  unfold fX9_piece at hF
  refine lv_iload_n hx hb dX9_piece_0 rfl (lv_at hl 1 rfl) ?_
  obtain ⟨⟨⟩, hcq1, hF⟩ := q_bd hF
  refine q_Sv (As := [.int p0]) (rest := []) ⟨hx, hb, hml, hown, hts⟩ hA hK hP hD hS (tX9_needArrowNumber l dC dI cI cZ H.size p0 () hcq1) (va_cwS 1 hts gX9_piece_X9_needArrowNumber rfl rfl rfl uX9_needArrowNumber ⟨Nat.le_of_ble_eq_true rfl, Nat.le_of_ble_eq_true rfl⟩) [] [(false, 0), (false, 1), (false, 2), (false, 3), (false, 4), (false, 5), (false, 6), (false, 7), (false, 8), (false, 9), (false, 10), (false, 11), (false, 12)] (iX9_piece aS aL aF aK cI cZ M_told R_width R_from R_to R_turned L_tops L_bottoms L_layers C_x T_track) rfl rfl rfl rfl rfl rfl hl.1 rfl (Nat.le_of_ble_eq_true rfl) dX9_piece_1 ⟨Nat.zero_le _, Nat.zero_le _⟩ (fun H locs hP hD hS => ?_)
  refine lv_iload_n hx hb dX9_piece_4 rfl (lv_at hl 3 rfl) ?_
  refine lv_iconst (v := 2) hx hb dX9_piece_5 (by decide) ?_
  obtain ⟨⟨⟩, hcq2, hF⟩ := q_bd hF
  refine q_Sv (As := [.int p2, .int 2]) (rest := []) ⟨hx, hb, hml, hown, hts⟩ hA hK hP hD hS (tX9_needWhat l dC dI cI cZ H.size p2 2 () hcq2) (va_cwS 2 hts gX9_piece_X9_needWhat rfl rfl rfl uX9_needWhat ⟨Nat.le_of_ble_eq_true rfl, Nat.le_of_ble_eq_true rfl⟩) [] [(false, 0), (false, 1), (false, 2), (false, 3), (false, 4), (false, 5), (false, 6), (false, 7), (false, 8), (false, 9), (false, 10), (false, 11), (false, 12)] (iX9_piece aS aL aF aK cI cZ M_told R_width R_from R_to R_turned L_tops L_bottoms L_layers C_x T_track) rfl rfl rfl rfl rfl rfl hl.1 rfl (Nat.le_of_ble_eq_true rfl) dX9_piece_6 ⟨Nat.zero_le _, Nat.zero_le _⟩ (fun H locs hP hD hS => ?_)
  refine lv_aload_n hx hb dX9_piece_9 rfl (lv_at hl 0 rfl) ?_
  refine q_get (ci := 9) (C := RX9) (T := TX9) (N := 11) hx hb hts eX9_piece_X9 hown hK hP 0 rfl rfl 10 (Nat.le_of_ble_eq_true rfl) k0 rfl rfl dX9_piece_10 ?_
  refine lv_if_eq (tgt := 28) hx hb dX9_piece_13 (by decide) (fun hc => ?_) (fun hc => ?_)
  · replace hF := q_t hc hF
    refine lv_iconst (v := (-1)) hx hb dX9_piece_28 (by decide) ?_
    exact hret H locs ls 29 _ _ dX9_piece_29 (Option.some.inj hF) rfl hP hD hS
  · replace hF := q_f hc hF
    refine lv_aload_n hx hb dX9_piece_16 rfl (lv_at hl 0 rfl) ?_
    refine q_get (ci := 9) (C := RX9) (T := TX9) (N := 11) hx hb hts eX9_piece_X9 hown hK hP 0 rfl rfl 1 (Nat.le_of_ble_eq_true rfl) k1 rfl rfl dX9_piece_17 ?_
    refine lv_iload_n hx hb dX9_piece_20 rfl (lv_at hl 1 rfl) ?_
    refine lv_iload_n hx hb dX9_piece_21 rfl (lv_at hl 2 rfl) ?_
    obtain ⟨q3, hcq3, hF⟩ := q_bd hF
    refine q_Vi (As := [.int p0, .int p1]) (rest := []) ⟨hx, hb, hml, hown, hts⟩ hA hK hP hD hS (tX3_hasPiece l dC dI cI cZ aS H.size L_tops L_bottoms L_layers p0 p1 q3 hcq3) (cwV 2 hts gX9_piece_X3_hasPiece rfl rfl rfl uX3_hasPiece ⟨Nat.le_of_ble_eq_true rfl, Nat.le_of_ble_eq_true rfl⟩) [6, 7, 8] [(false, 0), (false, 1), (false, 2), (false, 3), (false, 4), (false, 5), (true, 0), (true, 1), (true, 2), (false, 9), (false, 10), (false, 11), (false, 12)] (iX9_piece aS aL aF aK cI cZ M_told R_width R_from R_to R_turned L_tops L_bottoms L_layers C_x T_track) rfl rfl rfl rfl rfl 3 0 rfl rfl rfl rfl hl.1 rfl (Nat.le_of_ble_eq_true rfl) dX9_piece_22 ⟨Nat.zero_le _, Nat.zero_le _⟩ (fun H locs hP hD hS => ?_)
    refine lv_if_ne (tgt := 30) hx hb dX9_piece_25 (by decide) (fun hc => ?_) (fun hc => ?_)
    · replace hF := q_f hc hF
      refine lv_iload_n hx hb dX9_piece_30 rfl (lv_at hl 3 rfl) ?_
      by_cases hc4 : p2 = 0
      · replace hF := q_t hc4 hF
        refine lv_lookup (off := 25) (tgt := 56) hx hb dX9_piece_31 (by decide) (by rw [hc4] <;> rfl) (by decide) ?_
        refine lv_aload_n hx hb dX9_piece_56 rfl (lv_at hl 0 rfl) ?_
        refine q_get (ci := 9) (C := RX9) (T := TX9) (N := 11) hx hb hts eX9_piece_X9 hown hK hP 0 rfl rfl 5 (Nat.le_of_ble_eq_true rfl) k2 rfl rfl dX9_piece_57 ?_
        refine lv_iload_n hx hb dX9_piece_60 rfl (lv_at hl 2 rfl) ?_
        refine lv_aload_n hx hb dX9_piece_61 rfl (lv_at hl 0 rfl) ?_
        refine q_get (ci := 9) (C := RX9) (T := TX9) (N := 11) hx hb hts eX9_piece_X9 hown hK hP 0 rfl rfl 1 (Nat.le_of_ble_eq_true rfl) k1 rfl rfl dX9_piece_62 ?_
        refine lv_iload_n hx hb dX9_piece_65 rfl (lv_at hl 1 rfl) ?_
        refine lv_iload_n hx hb dX9_piece_66 rfl (lv_at hl 2 rfl) ?_
        obtain ⟨q5, hcq5, hF⟩ := q_bd hF
        refine q_Vi (As := [.int p0, .int p1]) (rest := [.int p1, .ref (aS 36)]) ⟨hx, hb, hml, hown, hts⟩ hA hK hP hD hS (tX3_itemOf l dC dI cI cZ aS H.size R_from R_to R_turned L_tops L_bottoms L_layers p0 p1 q5 hcq5) (cwV 2 hts gX9_piece_X3_itemOf rfl rfl rfl uX3_itemOf ⟨Nat.le_of_ble_eq_true rfl, Nat.le_of_ble_eq_true rfl⟩) [6, 1, 3, 4, 5, 7, 8] [(false, 0), (true, 1), (false, 2), (true, 2), (true, 3), (true, 4), (true, 0), (true, 5), (true, 6), (false, 9), (false, 10), (false, 11), (false, 12)] (iX9_piece aS aL aF aK cI cZ M_told R_width R_from R_to R_turned L_tops L_bottoms L_layers C_x T_track) rfl rfl rfl rfl rfl 3 0 rfl rfl rfl rfl hl.1 rfl (Nat.le_of_ble_eq_true rfl) dX9_piece_67 ⟨Nat.zero_le _, Nat.zero_le _⟩ (fun H locs hP hD hS => ?_)
        obtain ⟨q6, hcq6, hF⟩ := q_bd hF
        refine q_Vi (As := [.int p1, .int q5]) (rest := []) ⟨hx, hb, hml, hown, hts⟩ hA hK hP hD hS (tX1_middleOf l dC dI cI cZ aS H.size R_width C_x p1 q5 q6 hcq6) (cwV 2 hts gX9_piece_X1_middleOf rfl rfl rfl uX1_middleOf ⟨Nat.le_of_ble_eq_true rfl, Nat.le_of_ble_eq_true rfl⟩) [9, 1, 2, 10] [(false, 0), (true, 1), (true, 2), (false, 3), (false, 4), (false, 5), (false, 6), (false, 7), (false, 8), (true, 0), (true, 3), (false, 11), (false, 12)] (iX9_piece aS aL aF aK cI cZ M_told R_width R_from R_to R_turned L_tops L_bottoms L_layers C_x T_track) rfl rfl rfl rfl rfl 1 0 rfl rfl rfl rfl hl.1 rfl (Nat.le_of_ble_eq_true rfl) dX9_piece_70 ⟨Nat.zero_le _, Nat.zero_le _⟩ (fun H locs hP hD hS => ?_)
        exact hret H locs ls 73 _ _ dX9_piece_73 (Option.some.inj hF) rfl hP hD hS
      · replace hF := q_f hc4 hF
        by_cases hc7 : p2 = 1
        · replace hF := q_t hc7 hF
          refine lv_lookup (off := 43) (tgt := 74) hx hb dX9_piece_31 (by decide) (by rw [hc7] <;> rfl) (by decide) ?_
          refine lv_aload_n hx hb dX9_piece_74 rfl (lv_at hl 0 rfl) ?_
          refine q_get (ci := 9) (C := RX9) (T := TX9) (N := 11) hx hb hts eX9_piece_X9 hown hK hP 0 rfl rfl 5 (Nat.le_of_ble_eq_true rfl) k2 rfl rfl dX9_piece_75 ?_
          refine lv_iload_n hx hb dX9_piece_78 rfl (lv_at hl 2 rfl) ?_
          refine lv_iconst (v := 1) hx hb dX9_piece_79 (by decide) ?_
          refine lv_iadd hx hb dX9_piece_80 ?_
          refine lv_aload_n hx hb dX9_piece_81 rfl (lv_at hl 0 rfl) ?_
          refine q_get (ci := 9) (C := RX9) (T := TX9) (N := 11) hx hb hts eX9_piece_X9 hown hK hP 0 rfl rfl 1 (Nat.le_of_ble_eq_true rfl) k1 rfl rfl dX9_piece_82 ?_
          refine lv_iload_n hx hb dX9_piece_85 rfl (lv_at hl 1 rfl) ?_
          refine lv_iload_n hx hb dX9_piece_86 rfl (lv_at hl 2 rfl) ?_
          refine lv_iconst (v := 1) hx hb dX9_piece_87 (by decide) ?_
          refine lv_iadd hx hb dX9_piece_88 ?_
          obtain ⟨q8, hcq8, hF⟩ := q_bd hF
          refine q_Vi (As := [.int p0, .int (p1 + 1)]) (rest := [.int (p1 + 1), .ref (aS 36)]) ⟨hx, hb, hml, hown, hts⟩ hA hK hP hD hS (tX3_itemOf l dC dI cI cZ aS H.size R_from R_to R_turned L_tops L_bottoms L_layers p0 (p1 + 1) q8 hcq8) (cwV 2 hts gX9_piece_X3_itemOf rfl rfl rfl uX3_itemOf ⟨Nat.le_of_ble_eq_true rfl, Nat.le_of_ble_eq_true rfl⟩) [6, 1, 3, 4, 5, 7, 8] [(false, 0), (true, 1), (false, 2), (true, 2), (true, 3), (true, 4), (true, 0), (true, 5), (true, 6), (false, 9), (false, 10), (false, 11), (false, 12)] (iX9_piece aS aL aF aK cI cZ M_told R_width R_from R_to R_turned L_tops L_bottoms L_layers C_x T_track) rfl rfl rfl rfl rfl 3 0 rfl rfl rfl rfl hl.1 rfl (Nat.le_of_ble_eq_true rfl) dX9_piece_89 ⟨Nat.zero_le _, Nat.zero_le _⟩ (fun H locs hP hD hS => ?_)
          obtain ⟨q9, hcq9, hF⟩ := q_bd hF
          refine q_Vi (As := [.int (p1 + 1), .int q8]) (rest := []) ⟨hx, hb, hml, hown, hts⟩ hA hK hP hD hS (tX1_middleOf l dC dI cI cZ aS H.size R_width C_x (p1 + 1) q8 q9 hcq9) (cwV 2 hts gX9_piece_X1_middleOf rfl rfl rfl uX1_middleOf ⟨Nat.le_of_ble_eq_true rfl, Nat.le_of_ble_eq_true rfl⟩) [9, 1, 2, 10] [(false, 0), (true, 1), (true, 2), (false, 3), (false, 4), (false, 5), (false, 6), (false, 7), (false, 8), (true, 0), (true, 3), (false, 11), (false, 12)] (iX9_piece aS aL aF aK cI cZ M_told R_width R_from R_to R_turned L_tops L_bottoms L_layers C_x T_track) rfl rfl rfl rfl rfl 1 0 rfl rfl rfl rfl hl.1 rfl (Nat.le_of_ble_eq_true rfl) dX9_piece_92 ⟨Nat.zero_le _, Nat.zero_le _⟩ (fun H locs hP hD hS => ?_)
          exact hret H locs ls 95 _ _ dX9_piece_95 (Option.some.inj hF) rfl hP hD hS
        · replace hF := q_f hc7 hF
          refine lv_lookup (off := 65) (tgt := 96) hx hb dX9_piece_31 (by decide) (by show Op.lookupswitch.offset [(0, 25), (1, 43)] _ _ = _; rw [lv_osw (a := 0) hc4 rfl, lv_osw (a := 1) hc7 rfl] <;> rfl) (by decide) ?_
          refine lv_aload_n hx hb dX9_piece_96 rfl (lv_at hl 0 rfl) ?_
          refine q_get (ci := 9) (C := RX9) (T := TX9) (N := 11) hx hb hts eX9_piece_X9 hown hK hP 0 rfl rfl 6 (Nat.le_of_ble_eq_true rfl) k3 rfl rfl dX9_piece_97 ?_
          refine lv_iload_n hx hb dX9_piece_100 rfl (lv_at hl 1 rfl) ?_
          refine lv_iload_n hx hb dX9_piece_101 rfl (lv_at hl 2 rfl) ?_
          obtain ⟨q10, hcq10, hF⟩ := q_bd hF
          refine q_Vi (As := [.int p0, .int p1]) (rest := []) ⟨hx, hb, hml, hown, hts⟩ hA hK hP hD hS (tX8_trackOf l dC dI cI cZ aS H.size T_track p0 p1 q10 hcq10) (cwV 2 hts gX9_piece_X8_trackOf rfl rfl rfl uX8_trackOf ⟨Nat.le_of_ble_eq_true rfl, Nat.le_of_ble_eq_true rfl⟩) [11, 12] [(false, 0), (false, 1), (false, 2), (false, 3), (false, 4), (false, 5), (false, 6), (false, 7), (false, 8), (false, 9), (false, 10), (true, 0), (true, 1)] (iX9_piece aS aL aF aK cI cZ M_told R_width R_from R_to R_turned L_tops L_bottoms L_layers C_x T_track) rfl rfl rfl rfl rfl 8 0 rfl rfl rfl rfl hl.1 rfl (Nat.le_of_ble_eq_true rfl) dX9_piece_102 ⟨Nat.zero_le _, Nat.zero_le _⟩ (fun H locs hP hD hS => ?_)
          exact hret H locs ls 105 _ _ dX9_piece_105 (Option.some.inj hF) rfl hP hD hS
    · replace hF := q_t hc hF
      refine lv_iconst (v := (-1)) hx hb dX9_piece_28 (by decide) ?_
      exact hret H locs ls 29 _ _ dX9_piece_29 (Option.some.inj hF) rfl hP hD hS
abbrev rX9_pin : Room := { frames := 2, cells := 0, slots := 0, locals := 43 }
theorem eX9_pin_X9 : ∀ w ∈ u_ws RX9 TX9 11, w ∈ wsX9_pin := by decide +kernel
theorem uX9_pin : yX9_pin.cls = RX9 ∧ yX9_pin.cls ≠ "java/lang/invoke/MethodHandle" ∧ yX9_pin.cls ≠ "java/lang/invoke/VarHandle" ∧ (parseMethodDescriptor yX9_pin.desc).map (fun d => d.parameters.length) = some 2 := by decide +kernel
set_option maxHeartbeats 4000000 in
set_option maxRecDepth 100000 in
theorem tX9_pin (l : Launch) (dC : Nat → ClassId) (dI : Nat → Nat → Nat) (cI cZ : ClassId) (aS : Nat → Nat) (aL : Nat → Nat) (aF : Nat → Nat) (aK : Nat → Nat) (sz : Nat) (M_told : Int32) (R_width : Nat → Int32) (R_pinned : Nat → Int32) (p0 : Int32) (p1 : Int32) (res : Int32 × (Nat → Int32)) (hF : fX9_pin R_width R_pinned p0 p1 = some res) : q_Mv l yX9_pin wsX9_pin rX9_pin (dC, dI) (q_ty cI cZ) [.ref (aS 47), .int p0, .int p1] (iX9_pin aS aL aF aK cI cZ M_told R_width R_pinned) (iX9_pin aS aL aF aK cI cZ res.1 R_width res.2) sz := by
  refine q_metv (cc := cX9_pin) (maxL := 3) (by decide) rfl (Nat.le_of_ble_eq_true rfl) ?_
  intro p e s m args below meth c Q A H locs ls C hP hD hS hl hret
  obtain ⟨hx, hb, hml, hown, hts, hA, hK⟩ := C
  replace hl : lv_has ls 3 [(0, .ref (aS 47)), (1, .int p0), (2, .int p1)] := hl
  have k0 := hts (.fieldLink RX9 12 "RouteLayout" "routes" "LRouteLayout$Routes;") (by decide +kernel)
  have k1 := hts (.fieldLink RX9 81 "RouteLayout" "told" "Z") (by decide +kernel)
  unfold fX9_pin at hF
  refine lv_aload_n hx hb dX9_pin_0 rfl (lv_at hl 0 rfl) ?_
  refine lv_iload_n hx hb dX9_pin_1 rfl (lv_at hl 1 rfl) ?_
  obtain ⟨⟨⟩, hcq1, hF⟩ := q_bd hF
  refine q_Vv (As := [.int p0]) (rest := []) ⟨hx, hb, hml, hown, hts⟩ hA hK hP hD hS (tX9_needBox l dC dI cI cZ aS aL aF aK H.size M_told R_width p0 () hcq1) (cwV 1 hts gX9_pin_X9_needBox rfl rfl rfl uX9_needBox ⟨Nat.le_of_ble_eq_true rfl, Nat.le_of_ble_eq_true rfl⟩) [0, 1, 2] [(true, 0), (true, 1), (true, 2), (false, 3)] (iX9_pin aS aL aF aK cI cZ M_told R_width R_pinned) rfl rfl rfl rfl rfl 9 0 rfl rfl rfl rfl hl.1 rfl (Nat.le_of_ble_eq_true rfl) dX9_pin_2 ⟨Nat.zero_le _, Nat.zero_le _⟩ (fun H locs hP hD hS => ?_)
  refine lv_iload_n hx hb dX9_pin_5 rfl (lv_at hl 2 rfl) ?_
  refine lv_iconst (v := (-1)) hx hb dX9_pin_6 (by decide) ?_
  refine lv_icmp_lt (tgt := 16) hx hb dX9_pin_7 (by decide) (fun hc => ?_) (fun hc => ?_)
  · replace hF := q_t hc hF
    cases hF
  · replace hF := q_f hc hF
    refine lv_iload_n hx hb dX9_pin_10 rfl (lv_at hl 2 rfl) ?_
    refine lv_bipush (v := 8) hx hb dX9_pin_11 (by decide) ?_
    refine lv_icmp_le (tgt := 26) hx hb dX9_pin_13 (by decide) (fun hc => ?_) (fun hc => ?_)
    · replace hF := q_t hc hF
      refine lv_aload_n hx hb dX9_pin_26 rfl (lv_at hl 0 rfl) ?_
      refine q_get (ci := 9) (C := RX9) (T := TX9) (N := 11) hx hb hts eX9_pin_X9 hown hK hP 0 rfl rfl 0 (Nat.le_of_ble_eq_true rfl) k0 rfl rfl dX9_pin_27 ?_
      refine lv_iload_n hx hb dX9_pin_30 rfl (lv_at hl 1 rfl) ?_
      refine lv_iload_n hx hb dX9_pin_31 rfl (lv_at hl 2 rfl) ?_
      obtain ⟨q2, hcq2, hF⟩ := q_bd hF
      refine q_Vv (As := [.int p0, .int p1]) (rest := []) ⟨hx, hb, hml, hown, hts⟩ hA hK hP hD hS (tX7_pinBox l dC dI cI cZ aS H.size R_width R_pinned p0 p1 q2 hcq2) (cwV 2 hts gX9_pin_X7_pinBox rfl rfl rfl uX7_pinBox ⟨Nat.le_of_ble_eq_true rfl, Nat.le_of_ble_eq_true rfl⟩) [1, 2, 3] [(false, 0), (true, 0), (true, 1), (true, 2)] (iX9_pin aS aL aF aK cI cZ M_told R_width q2) rfl rfl rfl rfl rfl 7 0 rfl rfl rfl rfl hl.1 rfl (Nat.le_of_ble_eq_true rfl) dX9_pin_32 ⟨Nat.zero_le _, Nat.zero_le _⟩ (fun H locs hP hD hS => ?_)
      refine lv_aload_n hx hb dX9_pin_35 rfl (lv_at hl 0 rfl) ?_
      refine lv_iconst (v := 0) hx hb dX9_pin_36 (by decide) ?_
      refine q_put (ci := 9) (C := RX9) (T := TX9) (N := 11) (ty := .boolean) hx hb hts eX9_pin_X9 tyX9 tyX9_ok nmX9 hown hK hP hD hS 0 (iX9_pin aS aL aF aK cI cZ 0 R_width q2) rfl rfl 10 (Nat.le_of_ble_eq_true rfl) k1 rfl rfl (by decide +kernel) (q_narz (Or.inl rfl)) rfl (Nat.le_of_ble_eq_true rfl) rfl dX9_pin_37 (fun H locs hP hD hS => ?_)
      exact hret H locs ls 40 _ dX9_pin_40 (congrArg (fun z : Int32 × (Nat → Int32) => (iX9_pin aS aL aF aK cI cZ z.1 R_width z.2)) (Option.some.inj hF)) hP hD hS
    · replace hF := q_f hc hF
      cases hF
abbrev rX9_redraw : Room := { frames := 20, cells := 0, slots := 0, locals := 589 }
theorem eX9_redraw_X9 : ∀ w ∈ u_ws RX9 TX9 11, w ∈ wsX9_redraw := by decide +kernel
theorem uX9_redraw : yX9_redraw.cls = RX9 ∧ yX9_redraw.cls ≠ "java/lang/invoke/MethodHandle" ∧ yX9_redraw.cls ≠ "java/lang/invoke/VarHandle" ∧ (parseMethodDescriptor yX9_redraw.desc).map (fun d => d.parameters.length) = some 2 := by decide +kernel
set_option maxHeartbeats 4000000 in
set_option maxRecDepth 100000 in
theorem tX9_redraw (l : Launch) (dC : Nat → ClassId) (dI : Nat → Nat → Nat) (cI cZ : ClassId) (aS : Nat → Nat) (aL : Nat → Nat) (aF : Nat → Nat) (aK : Nat → Nat) (sz : Nat) (M_told : Int32) (R_width : Nat → Int32) (R_pinned : Nat → Int32) (R_from : Nat → Int32) (R_to : Nat → Int32) (R_turned : Nat → Int32) (L_layer : Nat → Int32) (L_tops : Nat → Int32) (L_bottoms : Nat → Int32) (L_layers : Int32) (P_size : Nat → Int32) (P_arrows : Nat → Int32) (P_uppers : Nat → Int32) (P_lowers : Nat → Int32) (X_upper : Nat → Int32) (X_lower : Nat → Int32) (Q_own : Nat → Int32) (Q_far : Nat → Int32) (Q_degree : Nat → Int32) (Q_seen : Nat → Int32) (Q_median : Nat → Int32) (Q_stood : Nat → Int32) (Q_sorted : Nat → Int32) (Q_spots : Nat → Int32) (Q_movers : Int32) (B_cost : Nat → Int32) (B_above : Nat → Int32) (B_below : Nat → Int32) (B_codes : Nat → Int32) (B_used : Nat → Int32) (B_chosen : Nat → Int32) (B_best : Nat → Int32) (B_bestCost : Int32) (B_size : Int32) (C_x : Nat → Int32) (C_sum : Nat → Int32) (C_degree : Nat → Int32) (T_track : Nat → Int32) (T_used : Nat → Int32) (T_left : Nat → Int32) (T_right : Nat → Int32) (T_arrows : Nat → Int32) (T_trackEnd : Nat → Int32) (OL_layers : Int32) (OL_size : Nat → Int32) (OL_rows : Nat → Int32) (OL_places : Nat → Int32) (OL_home : Nat → Int32) (OF_layers : Int32) (OF_size : Nat → Int32) (OF_rows : Nat → Int32) (OF_places : Nat → Int32) (OF_home : Nat → Int32) (OK_layers : Int32) (OK_size : Nat → Int32) (OK_rows : Nat → Int32) (OK_places : Nat → Int32) (OK_home : Nat → Int32) (p0 : Int32) (p1 : Int32) (res : Int32 × Int32 × (Nat → Int32) × (Nat → Int32) × (Nat → Int32) × Int32 × (Nat → Int32) × (Nat → Int32) × (Nat → Int32) × (Nat → Int32) × (Nat → Int32) × (Nat → Int32) × (Nat → Int32) × (Nat → Int32) × (Nat → Int32) × (Nat → Int32) × (Nat → Int32) × (Nat → Int32) × (Nat → Int32) × (Nat → Int32) × Int32 × (Nat → Int32) × (Nat → Int32) × (Nat → Int32) × (Nat → Int32) × (Nat → Int32) × (Nat → Int32) × (Nat → Int32) × Int32 × Int32 × (Nat → Int32) × (Nat → Int32) × (Nat → Int32) × (Nat → Int32) × (Nat → Int32) × (Nat → Int32) × (Nat → Int32) × (Nat → Int32) × (Nat → Int32) × Int32 × (Nat → Int32) × (Nat → Int32) × (Nat → Int32) × (Nat → Int32) × Int32 × (Nat → Int32) × (Nat → Int32) × (Nat → Int32) × (Nat → Int32) × Int32 × (Nat → Int32) × (Nat → Int32) × (Nat → Int32) × (Nat → Int32) × Nat) (hF : fX9_redraw R_width R_pinned R_from R_to R_turned L_layer L_tops L_bottoms P_size P_arrows P_uppers P_lowers X_upper X_lower Q_own Q_far Q_degree Q_seen Q_median Q_stood Q_sorted Q_spots Q_movers B_cost B_above B_below B_codes B_used B_chosen B_best B_bestCost B_size C_x C_sum C_degree T_track T_used T_left T_right T_arrows T_trackEnd OL_layers OL_size OL_rows OL_places OL_home OF_layers OF_size OF_rows OF_places OF_home OK_layers OK_size OK_rows OK_places OK_home p0 p1 = some res) : q_Mi l yX9_redraw wsX9_redraw rX9_redraw (dC, dI) (q_ty cI cZ) [.ref (aS 47), .int p0, .int p1] (iX9_redraw aS aL aF aK cI cZ M_told R_width R_pinned R_from R_to R_turned L_layer L_tops L_bottoms L_layers P_size P_arrows P_uppers P_lowers X_upper X_lower Q_own Q_far Q_degree Q_seen Q_median Q_stood Q_sorted Q_spots Q_movers B_cost B_above B_below B_codes B_used B_chosen B_best B_bestCost B_size C_x C_sum C_degree T_track T_used T_left T_right T_arrows T_trackEnd OL_layers OL_size OL_rows OL_places OL_home OF_layers OF_size OF_rows OF_places OF_home OK_layers OK_size OK_rows OK_places OK_home) (iX9_redraw aS (q_pL res.2.2.2.2.2.2.2.2.2.2.2.2.2.2.2.2.2.2.2.2.2.2.2.2.2.2.2.2.2.2.2.2.2.2.2.2.2.2.2.2.2.2.2.2.2.2.2.2.2.2.2.2.2.2 aL aF aK) (q_pF res.2.2.2.2.2.2.2.2.2.2.2.2.2.2.2.2.2.2.2.2.2.2.2.2.2.2.2.2.2.2.2.2.2.2.2.2.2.2.2.2.2.2.2.2.2.2.2.2.2.2.2.2.2.2 aL aF aK) (q_pK res.2.2.2.2.2.2.2.2.2.2.2.2.2.2.2.2.2.2.2.2.2.2.2.2.2.2.2.2.2.2.2.2.2.2.2.2.2.2.2.2.2.2.2.2.2.2.2.2.2.2.2.2.2.2 aL aF aK) cI cZ res.2.1 R_width R_pinned R_from R_to R_turned res.2.2.1 res.2.2.2.1 res.2.2.2.2.1 res.2.2.2.2.2.1 res.2.2.2.2.2.2.1 res.2.2.2.2.2.2.2.1 res.2.2.2.2.2.2.2.2.1 res.2.2.2.2.2.2.2.2.2.1 res.2.2.2.2.2.2.2.2.2.2.1 res.2.2.2.2.2.2.2.2.2.2.2.1 res.2.2.2.2.2.2.2.2.2.2.2.2.1 res.2.2.2.2.2.2.2.2.2.2.2.2.2.1 res.2.2.2.2.2.2.2.2.2.2.2.2.2.2.1 res.2.2.2.2.2.2.2.2.2.2.2.2.2.2.2.1 res.2.2.2.2.2.2.2.2.2.2.2.2.2.2.2.2.1 res.2.2.2.2.2.2.2.2.2.2.2.2.2.2.2.2.2.1 res.2.2.2.2.2.2.2.2.2.2.2.2.2.2.2.2.2.2.1 res.2.2.2.2.2.2.2.2.2.2.2.2.2.2.2.2.2.2.2.1 res.2.2.2.2.2.2.2.2.2.2.2.2.2.2.2.2.2.2.2.2.1 res.2.2.2.2.2.2.2.2.2.2.2.2.2.2.2.2.2.2.2.2.2.1 res.2.2.2.2.2.2.2.2.2.2.2.2.2.2.2.2.2.2.2.2.2.2.1 res.2.2.2.2.2.2.2.2.2.2.2.2.2.2.2.2.2.2.2.2.2.2.2.1 res.2.2.2.2.2.2.2.2.2.2.2.2.2.2.2.2.2.2.2.2.2.2.2.2.1 res.2.2.2.2.2.2.2.2.2.2.2.2.2.2.2.2.2.2.2.2.2.2.2.2.2.1 res.2.2.2.2.2.2.2.2.2.2.2.2.2.2.2.2.2.2.2.2.2.2.2.2.2.2.1 res.2.2.2.2.2.2.2.2.2.2.2.2.2.2.2.2.2.2.2.2.2.2.2.2.2.2.2.1 res.2.2.2.2.2.2.2.2.2.2.2.2.2.2.2.2.2.2.2.2.2.2.2.2.2.2.2.2.1 res.2.2.2.2.2.2.2.2.2.2.2.2.2.2.2.2.2.2.2.2.2.2.2.2.2.2.2.2.2.1 res.2.2.2.2.2.2.2.2.2.2.2.2.2.2.2.2.2.2.2.2.2.2.2.2.2.2.2.2.2.2.1 res.2.2.2.2.2.2.2.2.2.2.2.2.2.2.2.2.2.2.2.2.2.2.2.2.2.2.2.2.2.2.2.1 res.2.2.2.2.2.2.2.2.2.2.2.2.2.2.2.2.2.2.2.2.2.2.2.2.2.2.2.2.2.2.2.2.1 res.2.2.2.2.2.2.2.2.2.2.2.2.2.2.2.2.2.2.2.2.2.2.2.2.2.2.2.2.2.2.2.2.2.1 res.2.2.2.2.2.2.2.2.2.2.2.2.2.2.2.2.2.2.2.2.2.2.2.2.2.2.2.2.2.2.2.2.2.2.1 res.2.2.2.2.2.2.2.2.2.2.2.2.2.2.2.2.2.2.2.2.2.2.2.2.2.2.2.2.2.2.2.2.2.2.2.1 res.2.2.2.2.2.2.2.2.2.2.2.2.2.2.2.2.2.2.2.2.2.2.2.2.2.2.2.2.2.2.2.2.2.2.2.2.1 res.2.2.2.2.2.2.2.2.2.2.2.2.2.2.2.2.2.2.2.2.2.2.2.2.2.2.2.2.2.2.2.2.2.2.2.2.2.1 res.2.2.2.2.2.2.2.2.2.2.2.2.2.2.2.2.2.2.2.2.2.2.2.2.2.2.2.2.2.2.2.2.2.2.2.2.2.2.1 res.2.2.2.2.2.2.2.2.2.2.2.2.2.2.2.2.2.2.2.2.2.2.2.2.2.2.2.2.2.2.2.2.2.2.2.2.2.2.2.1 res.2.2.2.2.2.2.2.2.2.2.2.2.2.2.2.2.2.2.2.2.2.2.2.2.2.2.2.2.2.2.2.2.2.2.2.2.2.2.2.2.1 res.2.2.2.2.2.2.2.2.2.2.2.2.2.2.2.2.2.2.2.2.2.2.2.2.2.2.2.2.2.2.2.2.2.2.2.2.2.2.2.2.2.1 res.2.2.2.2.2.2.2.2.2.2.2.2.2.2.2.2.2.2.2.2.2.2.2.2.2.2.2.2.2.2.2.2.2.2.2.2.2.2.2.2.2.2.1 res.2.2.2.2.2.2.2.2.2.2.2.2.2.2.2.2.2.2.2.2.2.2.2.2.2.2.2.2.2.2.2.2.2.2.2.2.2.2.2.2.2.2.2.1 res.2.2.2.2.2.2.2.2.2.2.2.2.2.2.2.2.2.2.2.2.2.2.2.2.2.2.2.2.2.2.2.2.2.2.2.2.2.2.2.2.2.2.2.2.1 res.2.2.2.2.2.2.2.2.2.2.2.2.2.2.2.2.2.2.2.2.2.2.2.2.2.2.2.2.2.2.2.2.2.2.2.2.2.2.2.2.2.2.2.2.2.1 res.2.2.2.2.2.2.2.2.2.2.2.2.2.2.2.2.2.2.2.2.2.2.2.2.2.2.2.2.2.2.2.2.2.2.2.2.2.2.2.2.2.2.2.2.2.2.1 res.2.2.2.2.2.2.2.2.2.2.2.2.2.2.2.2.2.2.2.2.2.2.2.2.2.2.2.2.2.2.2.2.2.2.2.2.2.2.2.2.2.2.2.2.2.2.2.1 res.2.2.2.2.2.2.2.2.2.2.2.2.2.2.2.2.2.2.2.2.2.2.2.2.2.2.2.2.2.2.2.2.2.2.2.2.2.2.2.2.2.2.2.2.2.2.2.2.1 res.2.2.2.2.2.2.2.2.2.2.2.2.2.2.2.2.2.2.2.2.2.2.2.2.2.2.2.2.2.2.2.2.2.2.2.2.2.2.2.2.2.2.2.2.2.2.2.2.2.1 res.2.2.2.2.2.2.2.2.2.2.2.2.2.2.2.2.2.2.2.2.2.2.2.2.2.2.2.2.2.2.2.2.2.2.2.2.2.2.2.2.2.2.2.2.2.2.2.2.2.2.1 res.2.2.2.2.2.2.2.2.2.2.2.2.2.2.2.2.2.2.2.2.2.2.2.2.2.2.2.2.2.2.2.2.2.2.2.2.2.2.2.2.2.2.2.2.2.2.2.2.2.2.2.1 res.2.2.2.2.2.2.2.2.2.2.2.2.2.2.2.2.2.2.2.2.2.2.2.2.2.2.2.2.2.2.2.2.2.2.2.2.2.2.2.2.2.2.2.2.2.2.2.2.2.2.2.2.1 res.2.2.2.2.2.2.2.2.2.2.2.2.2.2.2.2.2.2.2.2.2.2.2.2.2.2.2.2.2.2.2.2.2.2.2.2.2.2.2.2.2.2.2.2.2.2.2.2.2.2.2.2.2.1) sz res.1 := by
  refine q_meti (cc := cX9_redraw) (maxL := 5) (by decide) rfl (Nat.le_of_ble_eq_true rfl) ?_
  intro p e s m args below meth c Q A H locs ls C hP hD hS hl hret
  obtain ⟨hx, hb, hml, hown, hts, hA, hK⟩ := C
  replace hl : lv_has ls 5 [(0, .ref (aS 47)), (1, .int p0), (2, .int p1)] := hl
  have k0 := hts (.fieldLink RX9 78 "RouteLayout" "kept" "LRouteLayout$Order;") (by decide +kernel)
  have k1 := hts (.fieldLink RX9 75 "RouteLayout" "fresh" "LRouteLayout$Order;") (by decide +kernel)
  have k2 := hts (.constant RX9 151 (100000)) (by decide +kernel)
  have k3 := hts (.fieldLink RX9 21 "RouteLayout" "levels" "LRouteLayout$Levels;") (by decide +kernel)
  have k4 := hts (.fieldLink RX9 46 "RouteLayout" "orderer" "LRouteLayout$Orderer;") (by decide +kernel)
  have k5 := hts (.fieldLink RX9 71 "RouteLayout" "latest" "LRouteLayout$Order;") (by decide +kernel)
  have k6 := hts (.fieldLink RX9 37 "RouteLayout" "crossings" "LRouteLayout$Crossings;") (by decide +kernel)
  unfold fX9_redraw at hF
  have JX9_REDRAW_123 : ∀ (M_told_1 : Int32) (L_layer_1 : Nat → Int32) (L_tops_1 : Nat → Int32) (L_bottoms_1 : Nat → Int32) (L_layers_1 : Int32) (P_size_1 : Nat → Int32) (P_arrows_1 : Nat → Int32) (P_uppers_1 : Nat → Int32) (P_lowers_1 : Nat → Int32) (X_upper_1 : Nat → Int32) (X_lower_1 : Nat → Int32) (Q_own_1 : Nat → Int32) (Q_far_1 : Nat → Int32) (Q_degree_1 : Nat → Int32) (Q_seen_1 : Nat → Int32) (Q_median_1 : Nat → Int32) (Q_stood_1 : Nat → Int32) (Q_sorted_1 : Nat → Int32) (Q_spots_1 : Nat → Int32) (Q_movers_1 : Int32) (B_cost_1 : Nat → Int32) (B_above_1 : Nat → Int32) (B_below_1 : Nat → Int32) (B_codes_1 : Nat → Int32) (B_used_1 : Nat → Int32) (B_chosen_1 : Nat → Int32) (B_best_1 : Nat → Int32) (B_bestCost_1 : Int32) (B_size_1 : Int32) (C_x_1 : Nat → Int32) (C_sum_1 : Nat → Int32) (C_degree_1 : Nat → Int32) (T_track_1 : Nat → Int32) (T_used_1 : Nat → Int32) (T_left_1 : Nat → Int32) (T_right_1 : Nat → Int32) (T_arrows_1 : Nat → Int32) (T_trackEnd_1 : Nat → Int32) (OL_layers_1 : Int32) (OL_size_1 : Nat → Int32) (OL_rows_1 : Nat → Int32) (OL_places_1 : Nat → Int32) (OL_home_1 : Nat → Int32) (OF_layers_1 : Int32) (OF_size_1 : Nat → Int32) (OF_rows_1 : Nat → Int32) (OF_places_1 : Nat → Int32) (OF_home_1 : Nat → Int32) (OK_layers_1 : Int32) (OK_size_1 : Nat → Int32) (OK_rows_1 : Nat → Int32) (OK_places_1 : Nat → Int32) (OK_home_1 : Nat → Int32) (x3_1 : Int32) (s0_1 : Int32), jX9_redraw_123 R_width L_layer_1 L_tops_1 L_bottoms_1 L_layers_1 P_size_1 P_arrows_1 P_uppers_1 P_lowers_1 X_upper_1 X_lower_1 Q_own_1 Q_far_1 Q_degree_1 Q_seen_1 Q_median_1 Q_stood_1 Q_sorted_1 Q_spots_1 Q_movers_1 B_cost_1 B_above_1 B_below_1 B_codes_1 B_used_1 B_chosen_1 B_best_1 B_bestCost_1 B_size_1 C_x_1 C_sum_1 C_degree_1 T_left_1 T_right_1 T_arrows_1 T_trackEnd_1 OL_layers_1 OL_size_1 OL_rows_1 OL_places_1 OL_home_1 OF_layers_1 OF_size_1 OF_rows_1 OF_places_1 OF_home_1 OK_layers_1 OK_size_1 OK_rows_1 OK_places_1 OK_home_1 x3_1 s0_1 = some res → ∀ (H : Heap) (locs : List Loc) (ls : Array Slot), va_P (dC, dI) vwCl (iX9_redraw aS aL aF aK cI cZ M_told_1 R_width R_pinned R_from R_to R_turned L_layer_1 L_tops_1 L_bottoms_1 L_layers_1 P_size_1 P_arrows_1 P_uppers_1 P_lowers_1 X_upper_1 X_lower_1 Q_own_1 Q_far_1 Q_degree_1 Q_seen_1 Q_median_1 Q_stood_1 Q_sorted_1 Q_spots_1 Q_movers_1 B_cost_1 B_above_1 B_below_1 B_codes_1 B_used_1 B_chosen_1 B_best_1 B_bestCost_1 B_size_1 C_x_1 C_sum_1 C_degree_1 T_track_1 T_used_1 T_left_1 T_right_1 T_arrows_1 T_trackEnd_1 OL_layers_1 OL_size_1 OL_rows_1 OL_places_1 OL_home_1 OF_layers_1 OF_size_1 OF_rows_1 OF_places_1 OF_home_1 OK_layers_1 OK_size_1 OK_rows_1 OK_places_1 OK_home_1) H → va_D A (iX9_redraw aS aL aF aK cI cZ M_told_1 R_width R_pinned R_from R_to R_turned L_layer_1 L_tops_1 L_bottoms_1 L_layers_1 P_size_1 P_arrows_1 P_uppers_1 P_lowers_1 X_upper_1 X_lower_1 Q_own_1 Q_far_1 Q_degree_1 Q_seen_1 Q_median_1 Q_stood_1 Q_sorted_1 Q_spots_1 Q_movers_1 B_cost_1 B_above_1 B_below_1 B_codes_1 B_used_1 B_chosen_1 B_best_1 B_bestCost_1 B_size_1 C_x_1 C_sum_1 C_degree_1 T_track_1 T_used_1 T_left_1 T_right_1 T_arrows_1 T_trackEnd_1 OL_layers_1 OL_size_1 OL_rows_1 OL_places_1 OL_home_1 OF_layers_1 OF_size_1 OF_rows_1 OF_places_1 OF_home_1 OK_layers_1 OK_size_1 OK_rows_1 OK_places_1 OK_home_1) → va_S A s.heap H locs → lv_has ls 5 [(0, .ref (aS 47)), (3, .int x3_1)] → W p l e (headSpec wsX9_redraw (rX9_redraw)).room s m args below meth c H locs 0 0 Q (F0 m 123 ls [.int s0_1]) := by
    intro M_told_1 L_layer_1 L_tops_1 L_bottoms_1 L_layers_1 P_size_1 P_arrows_1 P_uppers_1 P_lowers_1 X_upper_1 X_lower_1 Q_own_1 Q_far_1 Q_degree_1 Q_seen_1 Q_median_1 Q_stood_1 Q_sorted_1 Q_spots_1 Q_movers_1 B_cost_1 B_above_1 B_below_1 B_codes_1 B_used_1 B_chosen_1 B_best_1 B_bestCost_1 B_size_1 C_x_1 C_sum_1 C_degree_1 T_track_1 T_used_1 T_left_1 T_right_1 T_arrows_1 T_trackEnd_1 OL_layers_1 OL_size_1 OL_rows_1 OL_places_1 OL_home_1 OF_layers_1 OF_size_1 OF_rows_1 OF_places_1 OF_home_1 OK_layers_1 OK_size_1 OK_rows_1 OK_places_1 OK_home_1 x3_1 s0_1 hF H locs ls hP hD hS hl
    unfold jX9_redraw_123 at hF
    refine lv_istore (lv' := [(4, .int s0_1), (0, .ref (aS 47)), (3, .int x3_1)]) hx hb dX9_redraw_123 hl (by decide) rfl (fun ls hl => ?_)
    refine lv_iload_n hx hb dX9_redraw_125 rfl (lv_at hl 2 rfl) ?_
    refine lv_if_eq (tgt := 136) hx hb dX9_redraw_126 (by decide) (fun hc => ?_) (fun hc => ?_)
    · replace hF := q_t hc hF
      refine lv_aload_n hx hb dX9_redraw_136 rfl (lv_at hl 1 rfl) ?_
      refine q_Vv2 (As := []) (rest := []) ⟨hx, hb, hml, hown, hts⟩ hA hK hP hD hS (tX9_takeKept l dC dI cI cZ aS aL aF aK H.size M_told_1) (cwV 0 hts gX9_redraw_X9_takeKept rfl rfl rfl uX9_takeKept ⟨Nat.le_of_ble_eq_true rfl, Nat.le_of_ble_eq_true rfl⟩) 0 [0, 1, 2, 3, 4, 5, 6, 7, 8, 9, 10, 11, 12, 13, 14, 15, 16, 17, 18, 19, 20, 21, 22, 23, 24, 25, 26, 27, 28, 29, 30, 31, 32, 33, 34, 35, 36, 37, 38, 39, 40, 41, 42, 43, 44, 45, 46, 57, 58, 59, 60, 61, 52, 53, 54, 55, 56, 47, 48, 49, 50, 51] (iX9_redraw aS aK aF aL cI cZ M_told_1 R_width R_pinned R_from R_to R_turned L_layer_1 L_tops_1 L_bottoms_1 L_layers_1 P_size_1 P_arrows_1 P_uppers_1 P_lowers_1 X_upper_1 X_lower_1 Q_own_1 Q_far_1 Q_degree_1 Q_seen_1 Q_median_1 Q_stood_1 Q_sorted_1 Q_spots_1 Q_movers_1 B_cost_1 B_above_1 B_below_1 B_codes_1 B_used_1 B_chosen_1 B_best_1 B_bestCost_1 B_size_1 C_x_1 C_sum_1 C_degree_1 T_track_1 T_used_1 T_left_1 T_right_1 T_arrows_1 T_trackEnd_1 OK_layers_1 OK_size_1 OK_rows_1 OK_places_1 OK_home_1 OF_layers_1 OF_size_1 OF_rows_1 OF_places_1 OF_home_1 OL_layers_1 OL_size_1 OL_rows_1 OL_places_1 OL_home_1) rfl (by decide) rfl rfl rfl rfl hl.1 rfl (Nat.le_of_ble_eq_true rfl) dX9_redraw_137 ⟨Nat.zero_le _, Nat.zero_le _⟩ (fun H locs hP hD hS => ?_)
      refine lv_aload_n hx hb dX9_redraw_140 rfl (lv_at hl 1 rfl) ?_
      obtain ⟨q2_0, q2_1, q2_2, q2_3, q2_4, q2_5, q2_6, q2_7, q2_8, q2_9, hcq2, hF⟩ := q_bd10 hF
      refine q_Vv (As := []) (rest := []) ⟨hx, hb, hml, hown, hts⟩ hA hK hP hD hS (tX9_finish l dC dI cI cZ aS aK aF aL H.size M_told_1 R_width P_size_1 P_arrows_1 P_uppers_1 P_lowers_1 C_x_1 C_sum_1 C_degree_1 T_track_1 T_used_1 T_left_1 T_right_1 T_arrows_1 T_trackEnd_1 OK_layers_1 OK_size_1 OK_rows_1 (q2_0, q2_1, q2_2, q2_3, q2_4, q2_5, q2_6, q2_7, q2_8, q2_9) hcq2) (cwV 0 hts gX9_redraw_X9_finish rfl rfl rfl uX9_finish ⟨Nat.le_of_ble_eq_true rfl, Nat.le_of_ble_eq_true rfl⟩) [0, 1, 2, 11, 12, 13, 14, 15, 36, 37, 38, 39, 40, 41, 42, 43, 44, 45, 46, 47, 48, 49] [(true, 0), (true, 1), (true, 2), (false, 3), (false, 4), (false, 5), (false, 6), (false, 7), (false, 8), (false, 9), (false, 10), (true, 3), (true, 4), (true, 5), (true, 6), (true, 7), (false, 16), (false, 17), (false, 18), (false, 19), (false, 20), (false, 21), (false, 22), (false, 23), (false, 24), (false, 25), (false, 26), (false, 27), (false, 28), (false, 29), (false, 30), (false, 31), (false, 32), (false, 33), (false, 34), (false, 35), (true, 8), (true, 9), (true, 10), (true, 11), (true, 12), (true, 13), (true, 14), (true, 15), (true, 16), (true, 17), (true, 18), (true, 19), (true, 20), (true, 21), (false, 50), (false, 51), (false, 52), (false, 53), (false, 54), (false, 55), (false, 56), (false, 57), (false, 58), (false, 59), (false, 60), (false, 61)] (iX9_redraw aS aK aF aL cI cZ q2_0 R_width R_pinned R_from R_to R_turned L_layer_1 L_tops_1 L_bottoms_1 L_layers_1 P_size_1 P_arrows_1 P_uppers_1 P_lowers_1 X_upper_1 X_lower_1 Q_own_1 Q_far_1 Q_degree_1 Q_seen_1 Q_median_1 Q_stood_1 Q_sorted_1 Q_spots_1 Q_movers_1 B_cost_1 B_above_1 B_below_1 B_codes_1 B_used_1 B_chosen_1 B_best_1 B_bestCost_1 B_size_1 q2_1 q2_2 q2_3 q2_4 q2_5 q2_6 q2_7 q2_8 q2_9 OK_layers_1 OK_size_1 OK_rows_1 OK_places_1 OK_home_1 OF_layers_1 OF_size_1 OF_rows_1 OF_places_1 OF_home_1 OL_layers_1 OL_size_1 OL_rows_1 OL_places_1 OL_home_1) rfl rfl rfl rfl rfl 9 0 rfl rfl rfl rfl hl.1 rfl (Nat.le_of_ble_eq_true rfl) dX9_redraw_141 ⟨Nat.zero_le _, Nat.zero_le _⟩ (fun H locs hP hD hS => ?_)
      refine lv_iload hx hb dX9_redraw_144 (lv_at hl 0 rfl) ?_
      exact hret H locs ls 146 _ _ dX9_redraw_146 (congrArg Prod.fst (Option.some.inj hF)) (congrArg (fun z : Int32 × Int32 × (Nat → Int32) × (Nat → Int32) × (Nat → Int32) × Int32 × (Nat → Int32) × (Nat → Int32) × (Nat → Int32) × (Nat → Int32) × (Nat → Int32) × (Nat → Int32) × (Nat → Int32) × (Nat → Int32) × (Nat → Int32) × (Nat → Int32) × (Nat → Int32) × (Nat → Int32) × (Nat → Int32) × (Nat → Int32) × Int32 × (Nat → Int32) × (Nat → Int32) × (Nat → Int32) × (Nat → Int32) × (Nat → Int32) × (Nat → Int32) × (Nat → Int32) × Int32 × Int32 × (Nat → Int32) × (Nat → Int32) × (Nat → Int32) × (Nat → Int32) × (Nat → Int32) × (Nat → Int32) × (Nat → Int32) × (Nat → Int32) × (Nat → Int32) × Int32 × (Nat → Int32) × (Nat → Int32) × (Nat → Int32) × (Nat → Int32) × Int32 × (Nat → Int32) × (Nat → Int32) × (Nat → Int32) × (Nat → Int32) × Int32 × (Nat → Int32) × (Nat → Int32) × (Nat → Int32) × (Nat → Int32) × Nat => (iX9_redraw aS (q_pL z.2.2.2.2.2.2.2.2.2.2.2.2.2.2.2.2.2.2.2.2.2.2.2.2.2.2.2.2.2.2.2.2.2.2.2.2.2.2.2.2.2.2.2.2.2.2.2.2.2.2.2.2.2.2 aL aF aK) (q_pF z.2.2.2.2.2.2.2.2.2.2.2.2.2.2.2.2.2.2.2.2.2.2.2.2.2.2.2.2.2.2.2.2.2.2.2.2.2.2.2.2.2.2.2.2.2.2.2.2.2.2.2.2.2.2 aL aF aK) (q_pK z.2.2.2.2.2.2.2.2.2.2.2.2.2.2.2.2.2.2.2.2.2.2.2.2.2.2.2.2.2.2.2.2.2.2.2.2.2.2.2.2.2.2.2.2.2.2.2.2.2.2.2.2.2.2 aL aF aK) cI cZ z.2.1 R_width R_pinned R_from R_to R_turned z.2.2.1 z.2.2.2.1 z.2.2.2.2.1 z.2.2.2.2.2.1 z.2.2.2.2.2.2.1 z.2.2.2.2.2.2.2.1 z.2.2.2.2.2.2.2.2.1 z.2.2.2.2.2.2.2.2.2.1 z.2.2.2.2.2.2.2.2.2.2.1 z.2.2.2.2.2.2.2.2.2.2.2.1 z.2.2.2.2.2.2.2.2.2.2.2.2.1 z.2.2.2.2.2.2.2.2.2.2.2.2.2.1 z.2.2.2.2.2.2.2.2.2.2.2.2.2.2.1 z.2.2.2.2.2.2.2.2.2.2.2.2.2.2.2.1 z.2.2.2.2.2.2.2.2.2.2.2.2.2.2.2.2.1 z.2.2.2.2.2.2.2.2.2.2.2.2.2.2.2.2.2.1 z.2.2.2.2.2.2.2.2.2.2.2.2.2.2.2.2.2.2.1 z.2.2.2.2.2.2.2.2.2.2.2.2.2.2.2.2.2.2.2.1 z.2.2.2.2.2.2.2.2.2.2.2.2.2.2.2.2.2.2.2.2.1 z.2.2.2.2.2.2.2.2.2.2.2.2.2.2.2.2.2.2.2.2.2.1 z.2.2.2.2.2.2.2.2.2.2.2.2.2.2.2.2.2.2.2.2.2.2.1 z.2.2.2.2.2.2.2.2.2.2.2.2.2.2.2.2.2.2.2.2.2.2.2.1 z.2.2.2.2.2.2.2.2.2.2.2.2.2.2.2.2.2.2.2.2.2.2.2.2.1 z.2.2.2.2.2.2.2.2.2.2.2.2.2.2.2.2.2.2.2.2.2.2.2.2.2.1 z.2.2.2.2.2.2.2.2.2.2.2.2.2.2.2.2.2.2.2.2.2.2.2.2.2.2.1 z.2.2.2.2.2.2.2.2.2.2.2.2.2.2.2.2.2.2.2.2.2.2.2.2.2.2.2.1 z.2.2.2.2.2.2.2.2.2.2.2.2.2.2.2.2.2.2.2.2.2.2.2.2.2.2.2.2.1 z.2.2.2.2.2.2.2.2.2.2.2.2.2.2.2.2.2.2.2.2.2.2.2.2.2.2.2.2.2.1 z.2.2.2.2.2.2.2.2.2.2.2.2.2.2.2.2.2.2.2.2.2.2.2.2.2.2.2.2.2.2.1 z.2.2.2.2.2.2.2.2.2.2.2.2.2.2.2.2.2.2.2.2.2.2.2.2.2.2.2.2.2.2.2.1 z.2.2.2.2.2.2.2.2.2.2.2.2.2.2.2.2.2.2.2.2.2.2.2.2.2.2.2.2.2.2.2.2.1 z.2.2.2.2.2.2.2.2.2.2.2.2.2.2.2.2.2.2.2.2.2.2.2.2.2.2.2.2.2.2.2.2.2.1 z.2.2.2.2.2.2.2.2.2.2.2.2.2.2.2.2.2.2.2.2.2.2.2.2.2.2.2.2.2.2.2.2.2.2.1 z.2.2.2.2.2.2.2.2.2.2.2.2.2.2.2.2.2.2.2.2.2.2.2.2.2.2.2.2.2.2.2.2.2.2.2.1 z.2.2.2.2.2.2.2.2.2.2.2.2.2.2.2.2.2.2.2.2.2.2.2.2.2.2.2.2.2.2.2.2.2.2.2.2.1 z.2.2.2.2.2.2.2.2.2.2.2.2.2.2.2.2.2.2.2.2.2.2.2.2.2.2.2.2.2.2.2.2.2.2.2.2.2.1 z.2.2.2.2.2.2.2.2.2.2.2.2.2.2.2.2.2.2.2.2.2.2.2.2.2.2.2.2.2.2.2.2.2.2.2.2.2.2.1 z.2.2.2.2.2.2.2.2.2.2.2.2.2.2.2.2.2.2.2.2.2.2.2.2.2.2.2.2.2.2.2.2.2.2.2.2.2.2.2.1 z.2.2.2.2.2.2.2.2.2.2.2.2.2.2.2.2.2.2.2.2.2.2.2.2.2.2.2.2.2.2.2.2.2.2.2.2.2.2.2.2.1 z.2.2.2.2.2.2.2.2.2.2.2.2.2.2.2.2.2.2.2.2.2.2.2.2.2.2.2.2.2.2.2.2.2.2.2.2.2.2.2.2.2.1 z.2.2.2.2.2.2.2.2.2.2.2.2.2.2.2.2.2.2.2.2.2.2.2.2.2.2.2.2.2.2.2.2.2.2.2.2.2.2.2.2.2.2.1 z.2.2.2.2.2.2.2.2.2.2.2.2.2.2.2.2.2.2.2.2.2.2.2.2.2.2.2.2.2.2.2.2.2.2.2.2.2.2.2.2.2.2.2.1 z.2.2.2.2.2.2.2.2.2.2.2.2.2.2.2.2.2.2.2.2.2.2.2.2.2.2.2.2.2.2.2.2.2.2.2.2.2.2.2.2.2.2.2.2.1 z.2.2.2.2.2.2.2.2.2.2.2.2.2.2.2.2.2.2.2.2.2.2.2.2.2.2.2.2.2.2.2.2.2.2.2.2.2.2.2.2.2.2.2.2.2.1 z.2.2.2.2.2.2.2.2.2.2.2.2.2.2.2.2.2.2.2.2.2.2.2.2.2.2.2.2.2.2.2.2.2.2.2.2.2.2.2.2.2.2.2.2.2.2.1 z.2.2.2.2.2.2.2.2.2.2.2.2.2.2.2.2.2.2.2.2.2.2.2.2.2.2.2.2.2.2.2.2.2.2.2.2.2.2.2.2.2.2.2.2.2.2.2.1 z.2.2.2.2.2.2.2.2.2.2.2.2.2.2.2.2.2.2.2.2.2.2.2.2.2.2.2.2.2.2.2.2.2.2.2.2.2.2.2.2.2.2.2.2.2.2.2.2.1 z.2.2.2.2.2.2.2.2.2.2.2.2.2.2.2.2.2.2.2.2.2.2.2.2.2.2.2.2.2.2.2.2.2.2.2.2.2.2.2.2.2.2.2.2.2.2.2.2.2.1 z.2.2.2.2.2.2.2.2.2.2.2.2.2.2.2.2.2.2.2.2.2.2.2.2.2.2.2.2.2.2.2.2.2.2.2.2.2.2.2.2.2.2.2.2.2.2.2.2.2.2.1 z.2.2.2.2.2.2.2.2.2.2.2.2.2.2.2.2.2.2.2.2.2.2.2.2.2.2.2.2.2.2.2.2.2.2.2.2.2.2.2.2.2.2.2.2.2.2.2.2.2.2.2.1 z.2.2.2.2.2.2.2.2.2.2.2.2.2.2.2.2.2.2.2.2.2.2.2.2.2.2.2.2.2.2.2.2.2.2.2.2.2.2.2.2.2.2.2.2.2.2.2.2.2.2.2.2.1 z.2.2.2.2.2.2.2.2.2.2.2.2.2.2.2.2.2.2.2.2.2.2.2.2.2.2.2.2.2.2.2.2.2.2.2.2.2.2.2.2.2.2.2.2.2.2.2.2.2.2.2.2.2.1)) (Option.some.inj hF)) hP hD hS
    · replace hF := q_f hc hF
      refine lv_aload_n hx hb dX9_redraw_129 rfl (lv_at hl 1 rfl) ?_
      refine q_Vv2 (As := []) (rest := []) ⟨hx, hb, hml, hown, hts⟩ hA hK hP hD hS (tX9_takeFresh l dC dI cI cZ aS aL aF aK H.size M_told_1) (cwV 0 hts gX9_redraw_X9_takeFresh rfl rfl rfl uX9_takeFresh ⟨Nat.le_of_ble_eq_true rfl, Nat.le_of_ble_eq_true rfl⟩) 0 [0, 1, 2, 3, 4, 5, 6, 7, 8, 9, 10, 11, 12, 13, 14, 15, 16, 17, 18, 19, 20, 21, 22, 23, 24, 25, 26, 27, 28, 29, 30, 31, 32, 33, 34, 35, 36, 37, 38, 39, 40, 41, 42, 43, 44, 45, 46, 52, 53, 54, 55, 56, 47, 48, 49, 50, 51, 57, 58, 59, 60, 61] (iX9_redraw aS aF aL aK cI cZ M_told_1 R_width R_pinned R_from R_to R_turned L_layer_1 L_tops_1 L_bottoms_1 L_layers_1 P_size_1 P_arrows_1 P_uppers_1 P_lowers_1 X_upper_1 X_lower_1 Q_own_1 Q_far_1 Q_degree_1 Q_seen_1 Q_median_1 Q_stood_1 Q_sorted_1 Q_spots_1 Q_movers_1 B_cost_1 B_above_1 B_below_1 B_codes_1 B_used_1 B_chosen_1 B_best_1 B_bestCost_1 B_size_1 C_x_1 C_sum_1 C_degree_1 T_track_1 T_used_1 T_left_1 T_right_1 T_arrows_1 T_trackEnd_1 OF_layers_1 OF_size_1 OF_rows_1 OF_places_1 OF_home_1 OL_layers_1 OL_size_1 OL_rows_1 OL_places_1 OL_home_1 OK_layers_1 OK_size_1 OK_rows_1 OK_places_1 OK_home_1) rfl (by decide) rfl rfl rfl rfl hl.1 rfl (Nat.le_of_ble_eq_true rfl) dX9_redraw_130 ⟨Nat.zero_le _, Nat.zero_le _⟩ (fun H locs hP hD hS => ?_)
      refine lv_goto (tgt := 140) hx hb dX9_redraw_133 (by decide) ?_
      refine lv_aload_n hx hb dX9_redraw_140 rfl (lv_at hl 1 rfl) ?_
      obtain ⟨q3_0, q3_1, q3_2, q3_3, q3_4, q3_5, q3_6, q3_7, q3_8, q3_9, hcq3, hF⟩ := q_bd10 hF
      refine q_Vv (As := []) (rest := []) ⟨hx, hb, hml, hown, hts⟩ hA hK hP hD hS (tX9_finish l dC dI cI cZ aS aF aL aK H.size M_told_1 R_width P_size_1 P_arrows_1 P_uppers_1 P_lowers_1 C_x_1 C_sum_1 C_degree_1 T_track_1 T_used_1 T_left_1 T_right_1 T_arrows_1 T_trackEnd_1 OF_layers_1 OF_size_1 OF_rows_1 (q3_0, q3_1, q3_2, q3_3, q3_4, q3_5, q3_6, q3_7, q3_8, q3_9) hcq3) (cwV 0 hts gX9_redraw_X9_finish rfl rfl rfl uX9_finish ⟨Nat.le_of_ble_eq_true rfl, Nat.le_of_ble_eq_true rfl⟩) [0, 1, 2, 11, 12, 13, 14, 15, 36, 37, 38, 39, 40, 41, 42, 43, 44, 45, 46, 47, 48, 49] [(true, 0), (true, 1), (true, 2), (false, 3), (false, 4), (false, 5), (false, 6), (false, 7), (false, 8), (false, 9), (false, 10), (true, 3), (true, 4), (true, 5), (true, 6), (true, 7), (false, 16), (false, 17), (false, 18), (false, 19), (false, 20), (false, 21), (false, 22), (false, 23), (false, 24), (false, 25), (false, 26), (false, 27), (false, 28), (false, 29), (false, 30), (false, 31), (false, 32), (false, 33), (false, 34), (false, 35), (true, 8), (true, 9), (true, 10), (true, 11), (true, 12), (true, 13), (true, 14), (true, 15), (true, 16), (true, 17), (true, 18), (true, 19), (true, 20), (true, 21), (false, 50), (false, 51), (false, 52), (false, 53), (false, 54), (false, 55), (false, 56), (false, 57), (false, 58), (false, 59), (false, 60), (false, 61)] (iX9_redraw aS aF aL aK cI cZ q3_0 R_width R_pinned R_from R_to R_turned L_layer_1 L_tops_1 L_bottoms_1 L_layers_1 P_size_1 P_arrows_1 P_uppers_1 P_lowers_1 X_upper_1 X_lower_1 Q_own_1 Q_far_1 Q_degree_1 Q_seen_1 Q_median_1 Q_stood_1 Q_sorted_1 Q_spots_1 Q_movers_1 B_cost_1 B_above_1 B_below_1 B_codes_1 B_used_1 B_chosen_1 B_best_1 B_bestCost_1 B_size_1 q3_1 q3_2 q3_3 q3_4 q3_5 q3_6 q3_7 q3_8 q3_9 OF_layers_1 OF_size_1 OF_rows_1 OF_places_1 OF_home_1 OL_layers_1 OL_size_1 OL_rows_1 OL_places_1 OL_home_1 OK_layers_1 OK_size_1 OK_rows_1 OK_places_1 OK_home_1) rfl rfl rfl rfl rfl 9 0 rfl rfl rfl rfl hl.1 rfl (Nat.le_of_ble_eq_true rfl) dX9_redraw_141 ⟨Nat.zero_le _, Nat.zero_le _⟩ (fun H locs hP hD hS => ?_)
      refine lv_iload hx hb dX9_redraw_144 (lv_at hl 0 rfl) ?_
      exact hret H locs ls 146 _ _ dX9_redraw_146 (congrArg Prod.fst (Option.some.inj hF)) (congrArg (fun z : Int32 × Int32 × (Nat → Int32) × (Nat → Int32) × (Nat → Int32) × Int32 × (Nat → Int32) × (Nat → Int32) × (Nat → Int32) × (Nat → Int32) × (Nat → Int32) × (Nat → Int32) × (Nat → Int32) × (Nat → Int32) × (Nat → Int32) × (Nat → Int32) × (Nat → Int32) × (Nat → Int32) × (Nat → Int32) × (Nat → Int32) × Int32 × (Nat → Int32) × (Nat → Int32) × (Nat → Int32) × (Nat → Int32) × (Nat → Int32) × (Nat → Int32) × (Nat → Int32) × Int32 × Int32 × (Nat → Int32) × (Nat → Int32) × (Nat → Int32) × (Nat → Int32) × (Nat → Int32) × (Nat → Int32) × (Nat → Int32) × (Nat → Int32) × (Nat → Int32) × Int32 × (Nat → Int32) × (Nat → Int32) × (Nat → Int32) × (Nat → Int32) × Int32 × (Nat → Int32) × (Nat → Int32) × (Nat → Int32) × (Nat → Int32) × Int32 × (Nat → Int32) × (Nat → Int32) × (Nat → Int32) × (Nat → Int32) × Nat => (iX9_redraw aS (q_pL z.2.2.2.2.2.2.2.2.2.2.2.2.2.2.2.2.2.2.2.2.2.2.2.2.2.2.2.2.2.2.2.2.2.2.2.2.2.2.2.2.2.2.2.2.2.2.2.2.2.2.2.2.2.2 aL aF aK) (q_pF z.2.2.2.2.2.2.2.2.2.2.2.2.2.2.2.2.2.2.2.2.2.2.2.2.2.2.2.2.2.2.2.2.2.2.2.2.2.2.2.2.2.2.2.2.2.2.2.2.2.2.2.2.2.2 aL aF aK) (q_pK z.2.2.2.2.2.2.2.2.2.2.2.2.2.2.2.2.2.2.2.2.2.2.2.2.2.2.2.2.2.2.2.2.2.2.2.2.2.2.2.2.2.2.2.2.2.2.2.2.2.2.2.2.2.2 aL aF aK) cI cZ z.2.1 R_width R_pinned R_from R_to R_turned z.2.2.1 z.2.2.2.1 z.2.2.2.2.1 z.2.2.2.2.2.1 z.2.2.2.2.2.2.1 z.2.2.2.2.2.2.2.1 z.2.2.2.2.2.2.2.2.1 z.2.2.2.2.2.2.2.2.2.1 z.2.2.2.2.2.2.2.2.2.2.1 z.2.2.2.2.2.2.2.2.2.2.2.1 z.2.2.2.2.2.2.2.2.2.2.2.2.1 z.2.2.2.2.2.2.2.2.2.2.2.2.2.1 z.2.2.2.2.2.2.2.2.2.2.2.2.2.2.1 z.2.2.2.2.2.2.2.2.2.2.2.2.2.2.2.1 z.2.2.2.2.2.2.2.2.2.2.2.2.2.2.2.2.1 z.2.2.2.2.2.2.2.2.2.2.2.2.2.2.2.2.2.1 z.2.2.2.2.2.2.2.2.2.2.2.2.2.2.2.2.2.2.1 z.2.2.2.2.2.2.2.2.2.2.2.2.2.2.2.2.2.2.2.1 z.2.2.2.2.2.2.2.2.2.2.2.2.2.2.2.2.2.2.2.2.1 z.2.2.2.2.2.2.2.2.2.2.2.2.2.2.2.2.2.2.2.2.2.1 z.2.2.2.2.2.2.2.2.2.2.2.2.2.2.2.2.2.2.2.2.2.2.1 z.2.2.2.2.2.2.2.2.2.2.2.2.2.2.2.2.2.2.2.2.2.2.2.1 z.2.2.2.2.2.2.2.2.2.2.2.2.2.2.2.2.2.2.2.2.2.2.2.2.1 z.2.2.2.2.2.2.2.2.2.2.2.2.2.2.2.2.2.2.2.2.2.2.2.2.2.1 z.2.2.2.2.2.2.2.2.2.2.2.2.2.2.2.2.2.2.2.2.2.2.2.2.2.2.1 z.2.2.2.2.2.2.2.2.2.2.2.2.2.2.2.2.2.2.2.2.2.2.2.2.2.2.2.1 z.2.2.2.2.2.2.2.2.2.2.2.2.2.2.2.2.2.2.2.2.2.2.2.2.2.2.2.2.1 z.2.2.2.2.2.2.2.2.2.2.2.2.2.2.2.2.2.2.2.2.2.2.2.2.2.2.2.2.2.1 z.2.2.2.2.2.2.2.2.2.2.2.2.2.2.2.2.2.2.2.2.2.2.2.2.2.2.2.2.2.2.1 z.2.2.2.2.2.2.2.2.2.2.2.2.2.2.2.2.2.2.2.2.2.2.2.2.2.2.2.2.2.2.2.1 z.2.2.2.2.2.2.2.2.2.2.2.2.2.2.2.2.2.2.2.2.2.2.2.2.2.2.2.2.2.2.2.2.1 z.2.2.2.2.2.2.2.2.2.2.2.2.2.2.2.2.2.2.2.2.2.2.2.2.2.2.2.2.2.2.2.2.2.1 z.2.2.2.2.2.2.2.2.2.2.2.2.2.2.2.2.2.2.2.2.2.2.2.2.2.2.2.2.2.2.2.2.2.2.1 z.2.2.2.2.2.2.2.2.2.2.2.2.2.2.2.2.2.2.2.2.2.2.2.2.2.2.2.2.2.2.2.2.2.2.2.1 z.2.2.2.2.2.2.2.2.2.2.2.2.2.2.2.2.2.2.2.2.2.2.2.2.2.2.2.2.2.2.2.2.2.2.2.2.1 z.2.2.2.2.2.2.2.2.2.2.2.2.2.2.2.2.2.2.2.2.2.2.2.2.2.2.2.2.2.2.2.2.2.2.2.2.2.1 z.2.2.2.2.2.2.2.2.2.2.2.2.2.2.2.2.2.2.2.2.2.2.2.2.2.2.2.2.2.2.2.2.2.2.2.2.2.2.1 z.2.2.2.2.2.2.2.2.2.2.2.2.2.2.2.2.2.2.2.2.2.2.2.2.2.2.2.2.2.2.2.2.2.2.2.2.2.2.2.1 z.2.2.2.2.2.2.2.2.2.2.2.2.2.2.2.2.2.2.2.2.2.2.2.2.2.2.2.2.2.2.2.2.2.2.2.2.2.2.2.2.1 z.2.2.2.2.2.2.2.2.2.2.2.2.2.2.2.2.2.2.2.2.2.2.2.2.2.2.2.2.2.2.2.2.2.2.2.2.2.2.2.2.2.1 z.2.2.2.2.2.2.2.2.2.2.2.2.2.2.2.2.2.2.2.2.2.2.2.2.2.2.2.2.2.2.2.2.2.2.2.2.2.2.2.2.2.2.1 z.2.2.2.2.2.2.2.2.2.2.2.2.2.2.2.2.2.2.2.2.2.2.2.2.2.2.2.2.2.2.2.2.2.2.2.2.2.2.2.2.2.2.2.1 z.2.2.2.2.2.2.2.2.2.2.2.2.2.2.2.2.2.2.2.2.2.2.2.2.2.2.2.2.2.2.2.2.2.2.2.2.2.2.2.2.2.2.2.2.1 z.2.2.2.2.2.2.2.2.2.2.2.2.2.2.2.2.2.2.2.2.2.2.2.2.2.2.2.2.2.2.2.2.2.2.2.2.2.2.2.2.2.2.2.2.2.1 z.2.2.2.2.2.2.2.2.2.2.2.2.2.2.2.2.2.2.2.2.2.2.2.2.2.2.2.2.2.2.2.2.2.2.2.2.2.2.2.2.2.2.2.2.2.2.1 z.2.2.2.2.2.2.2.2.2.2.2.2.2.2.2.2.2.2.2.2.2.2.2.2.2.2.2.2.2.2.2.2.2.2.2.2.2.2.2.2.2.2.2.2.2.2.2.1 z.2.2.2.2.2.2.2.2.2.2.2.2.2.2.2.2.2.2.2.2.2.2.2.2.2.2.2.2.2.2.2.2.2.2.2.2.2.2.2.2.2.2.2.2.2.2.2.2.1 z.2.2.2.2.2.2.2.2.2.2.2.2.2.2.2.2.2.2.2.2.2.2.2.2.2.2.2.2.2.2.2.2.2.2.2.2.2.2.2.2.2.2.2.2.2.2.2.2.2.1 z.2.2.2.2.2.2.2.2.2.2.2.2.2.2.2.2.2.2.2.2.2.2.2.2.2.2.2.2.2.2.2.2.2.2.2.2.2.2.2.2.2.2.2.2.2.2.2.2.2.2.1 z.2.2.2.2.2.2.2.2.2.2.2.2.2.2.2.2.2.2.2.2.2.2.2.2.2.2.2.2.2.2.2.2.2.2.2.2.2.2.2.2.2.2.2.2.2.2.2.2.2.2.2.1 z.2.2.2.2.2.2.2.2.2.2.2.2.2.2.2.2.2.2.2.2.2.2.2.2.2.2.2.2.2.2.2.2.2.2.2.2.2.2.2.2.2.2.2.2.2.2.2.2.2.2.2.2.1 z.2.2.2.2.2.2.2.2.2.2.2.2.2.2.2.2.2.2.2.2.2.2.2.2.2.2.2.2.2.2.2.2.2.2.2.2.2.2.2.2.2.2.2.2.2.2.2.2.2.2.2.2.2.1)) (Option.some.inj hF)) hP hD hS
  have JX9_REDRAW_103 : ∀ (M_told_4 : Int32) (L_layer_4 : Nat → Int32) (L_tops_4 : Nat → Int32) (L_bottoms_4 : Nat → Int32) (L_layers_4 : Int32) (P_size_4 : Nat → Int32) (P_arrows_4 : Nat → Int32) (P_uppers_4 : Nat → Int32) (P_lowers_4 : Nat → Int32) (X_upper_4 : Nat → Int32) (X_lower_4 : Nat → Int32) (Q_own_4 : Nat → Int32) (Q_far_4 : Nat → Int32) (Q_degree_4 : Nat → Int32) (Q_seen_4 : Nat → Int32) (Q_median_4 : Nat → Int32) (Q_stood_4 : Nat → Int32) (Q_sorted_4 : Nat → Int32) (Q_spots_4 : Nat → Int32) (Q_movers_4 : Int32) (B_cost_4 : Nat → Int32) (B_above_4 : Nat → Int32) (B_below_4 : Nat → Int32) (B_codes_4 : Nat → Int32) (B_used_4 : Nat → Int32) (B_chosen_4 : Nat → Int32) (B_best_4 : Nat → Int32) (B_bestCost_4 : Int32) (B_size_4 : Int32) (C_x_4 : Nat → Int32) (C_sum_4 : Nat → Int32) (C_degree_4 : Nat → Int32) (T_track_4 : Nat → Int32) (T_used_4 : Nat → Int32) (T_left_4 : Nat → Int32) (T_right_4 : Nat → Int32) (T_arrows_4 : Nat → Int32) (T_trackEnd_4 : Nat → Int32) (OL_layers_4 : Int32) (OL_size_4 : Nat → Int32) (OL_rows_4 : Nat → Int32) (OL_places_4 : Nat → Int32) (OL_home_4 : Nat → Int32) (OF_layers_4 : Int32) (OF_size_4 : Nat → Int32) (OF_rows_4 : Nat → Int32) (OF_places_4 : Nat → Int32) (OF_home_4 : Nat → Int32) (OK_layers_4 : Int32) (OK_size_4 : Nat → Int32) (OK_rows_4 : Nat → Int32) (OK_places_4 : Nat → Int32) (OK_home_4 : Nat → Int32) (s0_4 : Int32), jX9_redraw_103 R_width L_layer_4 L_tops_4 L_bottoms_4 L_layers_4 P_size_4 P_arrows_4 P_uppers_4 P_lowers_4 X_upper_4 X_lower_4 Q_own_4 Q_far_4 Q_degree_4 Q_seen_4 Q_median_4 Q_stood_4 Q_sorted_4 Q_spots_4 Q_movers_4 B_cost_4 B_above_4 B_below_4 B_codes_4 B_used_4 B_chosen_4 B_best_4 B_bestCost_4 B_size_4 C_x_4 C_sum_4 C_degree_4 T_left_4 T_right_4 T_arrows_4 T_trackEnd_4 OL_layers_4 OL_size_4 OL_rows_4 OL_places_4 OL_home_4 OF_layers_4 OF_size_4 OF_rows_4 OF_places_4 OF_home_4 OK_layers_4 OK_size_4 OK_rows_4 OK_places_4 OK_home_4 s0_4 = some res → ∀ (H : Heap) (locs : List Loc) (ls : Array Slot), va_P (dC, dI) vwCl (iX9_redraw aS aL aF aK cI cZ M_told_4 R_width R_pinned R_from R_to R_turned L_layer_4 L_tops_4 L_bottoms_4 L_layers_4 P_size_4 P_arrows_4 P_uppers_4 P_lowers_4 X_upper_4 X_lower_4 Q_own_4 Q_far_4 Q_degree_4 Q_seen_4 Q_median_4 Q_stood_4 Q_sorted_4 Q_spots_4 Q_movers_4 B_cost_4 B_above_4 B_below_4 B_codes_4 B_used_4 B_chosen_4 B_best_4 B_bestCost_4 B_size_4 C_x_4 C_sum_4 C_degree_4 T_track_4 T_used_4 T_left_4 T_right_4 T_arrows_4 T_trackEnd_4 OL_layers_4 OL_size_4 OL_rows_4 OL_places_4 OL_home_4 OF_layers_4 OF_size_4 OF_rows_4 OF_places_4 OF_home_4 OK_layers_4 OK_size_4 OK_rows_4 OK_places_4 OK_home_4) H → va_D A (iX9_redraw aS aL aF aK cI cZ M_told_4 R_width R_pinned R_from R_to R_turned L_layer_4 L_tops_4 L_bottoms_4 L_layers_4 P_size_4 P_arrows_4 P_uppers_4 P_lowers_4 X_upper_4 X_lower_4 Q_own_4 Q_far_4 Q_degree_4 Q_seen_4 Q_median_4 Q_stood_4 Q_sorted_4 Q_spots_4 Q_movers_4 B_cost_4 B_above_4 B_below_4 B_codes_4 B_used_4 B_chosen_4 B_best_4 B_bestCost_4 B_size_4 C_x_4 C_sum_4 C_degree_4 T_track_4 T_used_4 T_left_4 T_right_4 T_arrows_4 T_trackEnd_4 OL_layers_4 OL_size_4 OL_rows_4 OL_places_4 OL_home_4 OF_layers_4 OF_size_4 OF_rows_4 OF_places_4 OF_home_4 OK_layers_4 OK_size_4 OK_rows_4 OK_places_4 OK_home_4) → va_S A s.heap H locs → lv_has ls 5 [(0, .ref (aS 47))] → W p l e (headSpec wsX9_redraw (rX9_redraw)).room s m args below meth c H locs 0 0 Q (F0 m 103 ls [.int s0_4]) := by
    intro M_told_4 L_layer_4 L_tops_4 L_bottoms_4 L_layers_4 P_size_4 P_arrows_4 P_uppers_4 P_lowers_4 X_upper_4 X_lower_4 Q_own_4 Q_far_4 Q_degree_4 Q_seen_4 Q_median_4 Q_stood_4 Q_sorted_4 Q_spots_4 Q_movers_4 B_cost_4 B_above_4 B_below_4 B_codes_4 B_used_4 B_chosen_4 B_best_4 B_bestCost_4 B_size_4 C_x_4 C_sum_4 C_degree_4 T_track_4 T_used_4 T_left_4 T_right_4 T_arrows_4 T_trackEnd_4 OL_layers_4 OL_size_4 OL_rows_4 OL_places_4 OL_home_4 OF_layers_4 OF_size_4 OF_rows_4 OF_places_4 OF_home_4 OK_layers_4 OK_size_4 OK_rows_4 OK_places_4 OK_home_4 s0_4 hF H locs ls hP hD hS hl
    unfold jX9_redraw_103 at hF
    refine lv_istore_n (lv' := [(3, .int s0_4), (0, .ref (aS 47))]) hx hb dX9_redraw_103 rfl hl (by decide) rfl (fun ls hl => ?_)
    refine lv_aload_n hx hb dX9_redraw_104 rfl (lv_at hl 1 rfl) ?_
    refine lv_iload_n hx hb dX9_redraw_105 rfl (lv_at hl 0 rfl) ?_
    refine lv_if_eq (tgt := 116) hx hb dX9_redraw_106 (by decide) (fun hc => ?_) (fun hc => ?_)
    · replace hF := q_t hc hF
      refine lv_aload_n hx hb dX9_redraw_116 rfl (lv_at hl 1 rfl) ?_
      refine q_get (ci := 9) (C := RX9) (T := TX9) (N := 11) hx hb hts eX9_redraw_X9 hown hK hP 0 rfl rfl 9 (Nat.le_of_ble_eq_true rfl) k0 rfl rfl dX9_redraw_117 ?_
      obtain ⟨q5, hcq5, hF⟩ := q_bd hF
      refine q_Vi (As := [.ref (aK 0)]) (rest := []) ⟨hx, hb, hml, hown, hts⟩ hA hK hP hD hS (tX9_movedBoxes l dC dI cI cZ aS aK aL aF aK H.size M_told_4 R_width OK_layers_4 OK_places_4 OK_home_4 OL_layers_4 OL_places_4 OL_home_4 q5 hcq5) (cwV 1 hts gX9_redraw_X9_movedBoxes rfl rfl rfl uX9_movedBoxes ⟨Nat.le_of_ble_eq_true rfl, Nat.le_of_ble_eq_true rfl⟩) [0, 1, 2, 57, 60, 61, 47, 50, 51] [(true, 0), (true, 1), (true, 2), (false, 3), (false, 4), (false, 5), (false, 6), (false, 7), (false, 8), (false, 9), (false, 10), (false, 11), (false, 12), (false, 13), (false, 14), (false, 15), (false, 16), (false, 17), (false, 18), (false, 19), (false, 20), (false, 21), (false, 22), (false, 23), (false, 24), (false, 25), (false, 26), (false, 27), (false, 28), (false, 29), (false, 30), (false, 31), (false, 32), (false, 33), (false, 34), (false, 35), (false, 36), (false, 37), (false, 38), (false, 39), (false, 40), (false, 41), (false, 42), (false, 43), (false, 44), (false, 45), (false, 46), (true, 6), (false, 48), (false, 49), (true, 7), (true, 8), (false, 52), (false, 53), (false, 54), (false, 55), (false, 56), (true, 3), (false, 58), (false, 59), (true, 4), (true, 5)] (iX9_redraw aS aL aF aK cI cZ M_told_4 R_width R_pinned R_from R_to R_turned L_layer_4 L_tops_4 L_bottoms_4 L_layers_4 P_size_4 P_arrows_4 P_uppers_4 P_lowers_4 X_upper_4 X_lower_4 Q_own_4 Q_far_4 Q_degree_4 Q_seen_4 Q_median_4 Q_stood_4 Q_sorted_4 Q_spots_4 Q_movers_4 B_cost_4 B_above_4 B_below_4 B_codes_4 B_used_4 B_chosen_4 B_best_4 B_bestCost_4 B_size_4 C_x_4 C_sum_4 C_degree_4 T_track_4 T_used_4 T_left_4 T_right_4 T_arrows_4 T_trackEnd_4 OL_layers_4 OL_size_4 OL_rows_4 OL_places_4 OL_home_4 OF_layers_4 OF_size_4 OF_rows_4 OF_places_4 OF_home_4 OK_layers_4 OK_size_4 OK_rows_4 OK_places_4 OK_home_4) rfl rfl rfl rfl rfl 9 0 rfl rfl rfl rfl hl.1 rfl (Nat.le_of_ble_eq_true rfl) dX9_redraw_120 ⟨Nat.zero_le _, Nat.zero_le _⟩ (fun H locs hP hD hS => ?_)
      exact JX9_REDRAW_123 M_told_4 L_layer_4 L_tops_4 L_bottoms_4 L_layers_4 P_size_4 P_arrows_4 P_uppers_4 P_lowers_4 X_upper_4 X_lower_4 Q_own_4 Q_far_4 Q_degree_4 Q_seen_4 Q_median_4 Q_stood_4 Q_sorted_4 Q_spots_4 Q_movers_4 B_cost_4 B_above_4 B_below_4 B_codes_4 B_used_4 B_chosen_4 B_best_4 B_bestCost_4 B_size_4 C_x_4 C_sum_4 C_degree_4 T_track_4 T_used_4 T_left_4 T_right_4 T_arrows_4 T_trackEnd_4 OL_layers_4 OL_size_4 OL_rows_4 OL_places_4 OL_home_4 OF_layers_4 OF_size_4 OF_rows_4 OF_places_4 OF_home_4 OK_layers_4 OK_size_4 OK_rows_4 OK_places_4 OK_home_4 s0_4 q5 hF H locs ls hP hD hS (lv_sub hl [1, 0] rfl)
    · replace hF := q_f hc hF
      refine lv_aload_n hx hb dX9_redraw_109 rfl (lv_at hl 1 rfl) ?_
      refine q_get (ci := 9) (C := RX9) (T := TX9) (N := 11) hx hb hts eX9_redraw_X9 hown hK hP 0 rfl rfl 8 (Nat.le_of_ble_eq_true rfl) k1 rfl rfl dX9_redraw_110 ?_
      refine lv_goto (tgt := 120) hx hb dX9_redraw_113 (by decide) ?_
      obtain ⟨q6, hcq6, hF⟩ := q_bd hF
      refine q_Vi (As := [.ref (aF 0)]) (rest := []) ⟨hx, hb, hml, hown, hts⟩ hA hK hP hD hS (tX9_movedBoxes l dC dI cI cZ aS aF aL aF aK H.size M_told_4 R_width OF_layers_4 OF_places_4 OF_home_4 OL_layers_4 OL_places_4 OL_home_4 q6 hcq6) (cwV 1 hts gX9_redraw_X9_movedBoxes rfl rfl rfl uX9_movedBoxes ⟨Nat.le_of_ble_eq_true rfl, Nat.le_of_ble_eq_true rfl⟩) [0, 1, 2, 52, 55, 56, 47, 50, 51] [(true, 0), (true, 1), (true, 2), (false, 3), (false, 4), (false, 5), (false, 6), (false, 7), (false, 8), (false, 9), (false, 10), (false, 11), (false, 12), (false, 13), (false, 14), (false, 15), (false, 16), (false, 17), (false, 18), (false, 19), (false, 20), (false, 21), (false, 22), (false, 23), (false, 24), (false, 25), (false, 26), (false, 27), (false, 28), (false, 29), (false, 30), (false, 31), (false, 32), (false, 33), (false, 34), (false, 35), (false, 36), (false, 37), (false, 38), (false, 39), (false, 40), (false, 41), (false, 42), (false, 43), (false, 44), (false, 45), (false, 46), (true, 6), (false, 48), (false, 49), (true, 7), (true, 8), (true, 3), (false, 53), (false, 54), (true, 4), (true, 5), (false, 57), (false, 58), (false, 59), (false, 60), (false, 61)] (iX9_redraw aS aL aF aK cI cZ M_told_4 R_width R_pinned R_from R_to R_turned L_layer_4 L_tops_4 L_bottoms_4 L_layers_4 P_size_4 P_arrows_4 P_uppers_4 P_lowers_4 X_upper_4 X_lower_4 Q_own_4 Q_far_4 Q_degree_4 Q_seen_4 Q_median_4 Q_stood_4 Q_sorted_4 Q_spots_4 Q_movers_4 B_cost_4 B_above_4 B_below_4 B_codes_4 B_used_4 B_chosen_4 B_best_4 B_bestCost_4 B_size_4 C_x_4 C_sum_4 C_degree_4 T_track_4 T_used_4 T_left_4 T_right_4 T_arrows_4 T_trackEnd_4 OL_layers_4 OL_size_4 OL_rows_4 OL_places_4 OL_home_4 OF_layers_4 OF_size_4 OF_rows_4 OF_places_4 OF_home_4 OK_layers_4 OK_size_4 OK_rows_4 OK_places_4 OK_home_4) rfl rfl rfl rfl rfl 9 0 rfl rfl rfl rfl hl.1 rfl (Nat.le_of_ble_eq_true rfl) dX9_redraw_120 ⟨Nat.zero_le _, Nat.zero_le _⟩ (fun H locs hP hD hS => ?_)
      exact JX9_REDRAW_123 M_told_4 L_layer_4 L_tops_4 L_bottoms_4 L_layers_4 P_size_4 P_arrows_4 P_uppers_4 P_lowers_4 X_upper_4 X_lower_4 Q_own_4 Q_far_4 Q_degree_4 Q_seen_4 Q_median_4 Q_stood_4 Q_sorted_4 Q_spots_4 Q_movers_4 B_cost_4 B_above_4 B_below_4 B_codes_4 B_used_4 B_chosen_4 B_best_4 B_bestCost_4 B_size_4 C_x_4 C_sum_4 C_degree_4 T_track_4 T_used_4 T_left_4 T_right_4 T_arrows_4 T_trackEnd_4 OL_layers_4 OL_size_4 OL_rows_4 OL_places_4 OL_home_4 OF_layers_4 OF_size_4 OF_rows_4 OF_places_4 OF_home_4 OK_layers_4 OK_size_4 OK_rows_4 OK_places_4 OK_home_4 s0_4 q6 hF H locs ls hP hD hS (lv_sub hl [1, 0] rfl)
  refine lv_iload_n hx hb dX9_redraw_0 rfl (lv_at hl 1 rfl) ?_
  obtain ⟨⟨⟩, hcq7, hF⟩ := q_bd hF
  refine q_Sv (As := [.int p0]) (rest := []) ⟨hx, hb, hml, hown, hts⟩ hA hK hP hD hS (tX9_needRounds l dC dI cI cZ H.size p0 () hcq7) (va_cwS 1 hts gX9_redraw_X9_needRounds rfl rfl rfl uX9_needRounds ⟨Nat.le_of_ble_eq_true rfl, Nat.le_of_ble_eq_true rfl⟩) [] [(false, 0), (false, 1), (false, 2), (false, 3), (false, 4), (false, 5), (false, 6), (false, 7), (false, 8), (false, 9), (false, 10), (false, 11), (false, 12), (false, 13), (false, 14), (false, 15), (false, 16), (false, 17), (false, 18), (false, 19), (false, 20), (false, 21), (false, 22), (false, 23), (false, 24), (false, 25), (false, 26), (false, 27), (false, 28), (false, 29), (false, 30), (false, 31), (false, 32), (false, 33), (false, 34), (false, 35), (false, 36), (false, 37), (false, 38), (false, 39), (false, 40), (false, 41), (false, 42), (false, 43), (false, 44), (false, 45), (false, 46), (false, 47), (false, 48), (false, 49), (false, 50), (false, 51), (false, 52), (false, 53), (false, 54), (false, 55), (false, 56), (false, 57), (false, 58), (false, 59), (false, 60), (false, 61)] (iX9_redraw aS aL aF aK cI cZ M_told R_width R_pinned R_from R_to R_turned L_layer L_tops L_bottoms L_layers P_size P_arrows P_uppers P_lowers X_upper X_lower Q_own Q_far Q_degree Q_seen Q_median Q_stood Q_sorted Q_spots Q_movers B_cost B_above B_below B_codes B_used B_chosen B_best B_bestCost B_size C_x C_sum C_degree T_track T_used T_left T_right T_arrows T_trackEnd OL_layers OL_size OL_rows OL_places OL_home OF_layers OF_size OF_rows OF_places OF_home OK_layers OK_size OK_rows OK_places OK_home) rfl rfl rfl rfl rfl rfl hl.1 rfl (Nat.le_of_ble_eq_true rfl) dX9_redraw_1 ⟨Nat.zero_le _, Nat.zero_le _⟩ (fun H locs hP hD hS => ?_)
  refine lv_iload_n hx hb dX9_redraw_4 rfl (lv_at hl 2 rfl) ?_
  refine lv_if_lt (tgt := 14) hx hb dX9_redraw_5 (by decide) (fun hc => ?_) (fun hc => ?_)
  · replace hF := q_t hc hF
    cases hF
  · replace hF := q_f hc hF
    refine lv_iload_n hx hb dX9_redraw_8 rfl (lv_at hl 2 rfl) ?_
    refine lv_ldc (v := 100000) hx hb hown k2 dX9_redraw_9 ?_
    refine lv_icmp_le (tgt := 24) hx hb dX9_redraw_11 (by decide) (fun hc => ?_) (fun hc => ?_)
    · replace hF := q_t hc hF
      refine lv_aload_n hx hb dX9_redraw_24 rfl (lv_at hl 0 rfl) ?_
      obtain ⟨q8_0, q8_1, q8_2, q8_3, q8_4, q8_5, q8_6, q8_7, q8_8, q8_9, hcq8, hF⟩ := q_bd10 hF
      refine q_Vi (As := []) (rest := []) ⟨hx, hb, hml, hown, hts⟩ hA hK hP hD hS (tX9_prepare l dC dI cI cZ aS aL aF aK H.size M_told R_width R_pinned R_from R_to R_turned L_layer L_tops L_bottoms L_layers P_size P_arrows P_uppers P_lowers (q8_0, q8_1, q8_2, q8_3, q8_4, q8_5, q8_6, q8_7, q8_8, q8_9) hcq8) (cwV 0 hts gX9_redraw_X9_prepare rfl rfl rfl uX9_prepare ⟨Nat.le_of_ble_eq_true rfl, Nat.le_of_ble_eq_true rfl⟩) [0, 1, 2, 3, 4, 5, 6, 7, 8, 9, 10, 11, 12, 13, 14, 15] [(true, 0), (true, 1), (true, 2), (true, 3), (true, 4), (true, 5), (true, 6), (true, 7), (true, 8), (true, 9), (true, 10), (true, 11), (true, 12), (true, 13), (true, 14), (true, 15), (false, 16), (false, 17), (false, 18), (false, 19), (false, 20), (false, 21), (false, 22), (false, 23), (false, 24), (false, 25), (false, 26), (false, 27), (false, 28), (false, 29), (false, 30), (false, 31), (false, 32), (false, 33), (false, 34), (false, 35), (false, 36), (false, 37), (false, 38), (false, 39), (false, 40), (false, 41), (false, 42), (false, 43), (false, 44), (false, 45), (false, 46), (false, 47), (false, 48), (false, 49), (false, 50), (false, 51), (false, 52), (false, 53), (false, 54), (false, 55), (false, 56), (false, 57), (false, 58), (false, 59), (false, 60), (false, 61)] (iX9_redraw aS aL aF aK cI cZ q8_1 R_width R_pinned R_from R_to R_turned q8_2 q8_3 q8_4 q8_5 q8_6 q8_7 q8_8 q8_9 X_upper X_lower Q_own Q_far Q_degree Q_seen Q_median Q_stood Q_sorted Q_spots Q_movers B_cost B_above B_below B_codes B_used B_chosen B_best B_bestCost B_size C_x C_sum C_degree T_track T_used T_left T_right T_arrows T_trackEnd OL_layers OL_size OL_rows OL_places OL_home OF_layers OF_size OF_rows OF_places OF_home OK_layers OK_size OK_rows OK_places OK_home) rfl rfl rfl rfl rfl 9 0 rfl rfl rfl rfl hl.1 rfl (Nat.le_of_ble_eq_true rfl) dX9_redraw_25 ⟨Nat.zero_le _, Nat.zero_le _⟩ (fun H locs hP hD hS => ?_)
      refine lv_if_ne (tgt := 33) hx hb dX9_redraw_28 (by decide) (fun hc => ?_) (fun hc => ?_)
      · replace hF := q_f hc hF
        refine lv_aload_n hx hb dX9_redraw_33 rfl (lv_at hl 0 rfl) ?_
        refine q_get (ci := 9) (C := RX9) (T := TX9) (N := 11) hx hb hts eX9_redraw_X9 hown hK hP 0 rfl rfl 8 (Nat.le_of_ble_eq_true rfl) k1 rfl rfl dX9_redraw_34 ?_
        refine lv_aload_n hx hb dX9_redraw_37 rfl (lv_at hl 0 rfl) ?_
        refine q_get (ci := 9) (C := RX9) (T := TX9) (N := 11) hx hb hts eX9_redraw_X9 hown hK hP 0 rfl rfl 1 (Nat.le_of_ble_eq_true rfl) k3 rfl rfl dX9_redraw_38 ?_
        obtain ⟨q9_0, q9_1, q9_2, q9_3, q9_4, hcq9, hF⟩ := q_bd5 hF
        refine q_Vv (As := [.ref (aS 7)]) (rest := []) ⟨hx, hb, hml, hown, hts⟩ hA hK hP hD hS (tX4_startFirst l dC dI cI cZ aS aF H.size R_width q8_2 q8_3 q8_4 q8_5 OF_layers OF_size OF_rows OF_places OF_home (q9_0, q9_1, q9_2, q9_3, q9_4) hcq9) (cwV 1 hts gX9_redraw_X4_startFirst rfl rfl rfl uX4_startFirst ⟨Nat.le_of_ble_eq_true rfl, Nat.le_of_ble_eq_true rfl⟩) [52, 1, 2, 7, 8, 9, 10, 53, 54, 55, 56] [(false, 0), (true, 1), (true, 2), (false, 3), (false, 4), (false, 5), (false, 6), (true, 3), (true, 4), (true, 5), (true, 6), (false, 11), (false, 12), (false, 13), (false, 14), (false, 15), (false, 16), (false, 17), (false, 18), (false, 19), (false, 20), (false, 21), (false, 22), (false, 23), (false, 24), (false, 25), (false, 26), (false, 27), (false, 28), (false, 29), (false, 30), (false, 31), (false, 32), (false, 33), (false, 34), (false, 35), (false, 36), (false, 37), (false, 38), (false, 39), (false, 40), (false, 41), (false, 42), (false, 43), (false, 44), (false, 45), (false, 46), (false, 47), (false, 48), (false, 49), (false, 50), (false, 51), (true, 0), (true, 7), (true, 8), (true, 9), (true, 10), (false, 57), (false, 58), (false, 59), (false, 60), (false, 61)] (iX9_redraw aS aL aF aK cI cZ q8_1 R_width R_pinned R_from R_to R_turned q8_2 q8_3 q8_4 q8_5 q8_6 q8_7 q8_8 q8_9 X_upper X_lower Q_own Q_far Q_degree Q_seen Q_median Q_stood Q_sorted Q_spots Q_movers B_cost B_above B_below B_codes B_used B_chosen B_best B_bestCost B_size C_x C_sum C_degree T_track T_used T_left T_right T_arrows T_trackEnd OL_layers OL_size OL_rows OL_places OL_home q9_0 q9_1 q9_2 q9_3 q9_4 OK_layers OK_size OK_rows OK_places OK_home) rfl rfl rfl rfl rfl 4 0 rfl rfl rfl rfl hl.1 rfl (Nat.le_of_ble_eq_true rfl) dX9_redraw_41 ⟨Nat.zero_le _, Nat.zero_le _⟩ (fun H locs hP hD hS => ?_)
        refine lv_aload_n hx hb dX9_redraw_44 rfl (lv_at hl 0 rfl) ?_
        refine q_get (ci := 9) (C := RX9) (T := TX9) (N := 11) hx hb hts eX9_redraw_X9 hown hK hP 0 rfl rfl 4 (Nat.le_of_ble_eq_true rfl) k4 rfl rfl dX9_redraw_45 ?_
        refine lv_aload_n hx hb dX9_redraw_48 rfl (lv_at hl 0 rfl) ?_
        refine q_get (ci := 9) (C := RX9) (T := TX9) (N := 11) hx hb hts eX9_redraw_X9 hown hK hP 0 rfl rfl 8 (Nat.le_of_ble_eq_true rfl) k1 rfl rfl dX9_redraw_49 ?_
        refine lv_iload_n hx hb dX9_redraw_52 rfl (lv_at hl 1 rfl) ?_
        obtain ⟨q10_0, q10_1, q10_2, q10_3, q10_4, q10_5, q10_6, q10_7, q10_8, q10_9, q10_10, q10_11, q10_12, q10_13, q10_14, q10_15, q10_16, q10_17, q10_18, q10_19, q10_20, q10_21, q10_22, hcq10, hF⟩ := q_bd23 hF
        refine q_Vv (As := [.ref (aF 0), .int p0]) (rest := []) ⟨hx, hb, hml, hown, hts⟩ hA hK hP hD hS (tX5_improve l dC dI cI cZ aS aF H.size q8_6 q8_8 q8_9 X_upper X_lower Q_own Q_far Q_degree Q_seen Q_median Q_stood Q_sorted Q_spots Q_movers B_cost B_above B_below B_codes B_used B_chosen B_best B_bestCost B_size q9_0 q9_1 q9_2 q9_3 q9_4 p0 (q10_0, q10_1, q10_2, q10_3, q10_4, q10_5, q10_6, q10_7, q10_8, q10_9, q10_10, q10_11, q10_12, q10_13, q10_14, q10_15, q10_16, q10_17, q10_18, q10_19, q10_20, q10_21, q10_22) hcq10) (cwV 2 hts gX9_redraw_X5_improve rfl rfl rfl uX5_improve ⟨Nat.le_of_ble_eq_true rfl, Nat.le_of_ble_eq_true rfl⟩) [19, 11, 12, 14, 15, 16, 17, 18, 20, 21, 22, 23, 24, 25, 26, 27, 28, 29, 30, 31, 32, 33, 34, 35, 52, 53, 54, 55, 56] [(false, 0), (false, 1), (false, 2), (false, 3), (false, 4), (false, 5), (false, 6), (false, 7), (false, 8), (false, 9), (false, 10), (true, 1), (true, 2), (false, 13), (true, 3), (true, 4), (true, 5), (true, 6), (true, 7), (true, 0), (true, 8), (true, 9), (true, 10), (true, 11), (true, 12), (true, 13), (true, 14), (true, 15), (true, 16), (true, 17), (true, 18), (true, 19), (true, 20), (true, 21), (true, 22), (true, 23), (false, 36), (false, 37), (false, 38), (false, 39), (false, 40), (false, 41), (false, 42), (false, 43), (false, 44), (false, 45), (false, 46), (false, 47), (false, 48), (false, 49), (false, 50), (false, 51), (true, 24), (true, 25), (true, 26), (true, 27), (true, 28), (false, 57), (false, 58), (false, 59), (false, 60), (false, 61)] (iX9_redraw aS aL aF aK cI cZ q8_1 R_width R_pinned R_from R_to R_turned q8_2 q8_3 q8_4 q8_5 q8_6 q8_7 q8_8 q8_9 q10_0 q10_1 q10_2 q10_3 q10_4 q10_5 q10_6 q10_7 q10_8 q10_9 q10_10 q10_11 q10_12 q10_13 q10_14 q10_15 q10_16 q10_17 q10_18 q10_19 C_x C_sum C_degree T_track T_used T_left T_right T_arrows T_trackEnd OL_layers OL_size OL_rows OL_places OL_home q9_0 q9_1 q10_20 q10_21 q10_22 OK_layers OK_size OK_rows OK_places OK_home) rfl rfl rfl rfl rfl 5 0 rfl rfl rfl rfl hl.1 rfl (Nat.le_of_ble_eq_true rfl) dX9_redraw_53 ⟨Nat.zero_le _, Nat.zero_le _⟩ (fun H locs hP hD hS => ?_)
        refine lv_aload_n hx hb dX9_redraw_56 rfl (lv_at hl 0 rfl) ?_
        refine q_get (ci := 9) (C := RX9) (T := TX9) (N := 11) hx hb hts eX9_redraw_X9 hown hK hP 0 rfl rfl 9 (Nat.le_of_ble_eq_true rfl) k0 rfl rfl dX9_redraw_57 ?_
        refine lv_aload_n hx hb dX9_redraw_60 rfl (lv_at hl 0 rfl) ?_
        refine q_get (ci := 9) (C := RX9) (T := TX9) (N := 11) hx hb hts eX9_redraw_X9 hown hK hP 0 rfl rfl 7 (Nat.le_of_ble_eq_true rfl) k5 rfl rfl dX9_redraw_61 ?_
        refine lv_aload_n hx hb dX9_redraw_64 rfl (lv_at hl 0 rfl) ?_
        refine q_get (ci := 9) (C := RX9) (T := TX9) (N := 11) hx hb hts eX9_redraw_X9 hown hK hP 0 rfl rfl 1 (Nat.le_of_ble_eq_true rfl) k3 rfl rfl dX9_redraw_65 ?_
        obtain ⟨q11_0, q11_1, q11_2, q11_3, q11_4, hcq11, hF⟩ := q_bd5 hF
        refine q_Vv (As := [.ref (aL 0), .ref (aS 7)]) (rest := []) ⟨hx, hb, hml, hown, hts⟩ hA hK hP hD hS (tX4_startLike l dC dI cI cZ aS aK aL H.size R_width q8_2 q8_3 q8_4 q8_5 OK_layers OK_size OK_rows OK_places OK_home OL_layers OL_size OL_rows (q11_0, q11_1, q11_2, q11_3, q11_4) hcq11) (cwV 2 hts gX9_redraw_X4_startLike rfl rfl rfl uX4_startLike ⟨Nat.le_of_ble_eq_true rfl, Nat.le_of_ble_eq_true rfl⟩) [57, 1, 2, 7, 8, 9, 10, 58, 59, 60, 61, 47, 48, 49] [(false, 0), (true, 1), (true, 2), (false, 3), (false, 4), (false, 5), (false, 6), (true, 3), (true, 4), (true, 5), (true, 6), (false, 11), (false, 12), (false, 13), (false, 14), (false, 15), (false, 16), (false, 17), (false, 18), (false, 19), (false, 20), (false, 21), (false, 22), (false, 23), (false, 24), (false, 25), (false, 26), (false, 27), (false, 28), (false, 29), (false, 30), (false, 31), (false, 32), (false, 33), (false, 34), (false, 35), (false, 36), (false, 37), (false, 38), (false, 39), (false, 40), (false, 41), (false, 42), (false, 43), (false, 44), (false, 45), (false, 46), (true, 11), (true, 12), (true, 13), (false, 50), (false, 51), (false, 52), (false, 53), (false, 54), (false, 55), (false, 56), (true, 0), (true, 7), (true, 8), (true, 9), (true, 10)] (iX9_redraw aS aL aF aK cI cZ q8_1 R_width R_pinned R_from R_to R_turned q8_2 q8_3 q8_4 q8_5 q8_6 q8_7 q8_8 q8_9 q10_0 q10_1 q10_2 q10_3 q10_4 q10_5 q10_6 q10_7 q10_8 q10_9 q10_10 q10_11 q10_12 q10_13 q10_14 q10_15 q10_16 q10_17 q10_18 q10_19 C_x C_sum C_degree T_track T_used T_left T_right T_arrows T_trackEnd OL_layers OL_size OL_rows OL_places OL_home q9_0 q9_1 q10_20 q10_21 q10_22 q11_0 q11_1 q11_2 q11_3 q11_4) rfl rfl rfl rfl rfl 4 0 rfl rfl rfl rfl hl.1 rfl (Nat.le_of_ble_eq_true rfl) dX9_redraw_68 ⟨Nat.zero_le _, Nat.zero_le _⟩ (fun H locs hP hD hS => ?_)
        refine lv_aload_n hx hb dX9_redraw_71 rfl (lv_at hl 0 rfl) ?_
        refine q_get (ci := 9) (C := RX9) (T := TX9) (N := 11) hx hb hts eX9_redraw_X9 hown hK hP 0 rfl rfl 3 (Nat.le_of_ble_eq_true rfl) k6 rfl rfl dX9_redraw_72 ?_
        refine lv_aload_n hx hb dX9_redraw_75 rfl (lv_at hl 0 rfl) ?_
        refine q_get (ci := 9) (C := RX9) (T := TX9) (N := 11) hx hb hts eX9_redraw_X9 hown hK hP 0 rfl rfl 9 (Nat.le_of_ble_eq_true rfl) k0 rfl rfl dX9_redraw_76 ?_
        obtain ⟨q12_0, q12_1, q12_2, hcq12, hF⟩ := q_bd3 hF
        refine q_Vi (As := [.ref (aK 0)]) (rest := []) ⟨hx, hb, hml, hown, hts⟩ hA hK hP hD hS (tX2_inAll l dC dI cI cZ aS aK H.size q8_6 q8_8 q8_9 q10_0 q10_1 q11_0 q11_3 (q12_0, q12_1, q12_2) hcq12) (cwV 1 hts gX9_redraw_X2_inAll rfl rfl rfl uX2_inAll ⟨Nat.le_of_ble_eq_true rfl, Nat.le_of_ble_eq_true rfl⟩) [16, 11, 12, 14, 15, 17, 18, 57, 60] [(false, 0), (false, 1), (false, 2), (false, 3), (false, 4), (false, 5), (false, 6), (false, 7), (false, 8), (false, 9), (false, 10), (true, 1), (true, 2), (false, 13), (true, 3), (true, 4), (true, 0), (true, 5), (true, 6), (false, 19), (false, 20), (false, 21), (false, 22), (false, 23), (false, 24), (false, 25), (false, 26), (false, 27), (false, 28), (false, 29), (false, 30), (false, 31), (false, 32), (false, 33), (false, 34), (false, 35), (false, 36), (false, 37), (false, 38), (false, 39), (false, 40), (false, 41), (false, 42), (false, 43), (false, 44), (false, 45), (false, 46), (false, 47), (false, 48), (false, 49), (false, 50), (false, 51), (false, 52), (false, 53), (false, 54), (false, 55), (false, 56), (true, 7), (false, 58), (false, 59), (true, 8), (false, 61)] (iX9_redraw aS aL aF aK cI cZ q8_1 R_width R_pinned R_from R_to R_turned q8_2 q8_3 q8_4 q8_5 q8_6 q8_7 q8_8 q8_9 q12_1 q12_2 q10_2 q10_3 q10_4 q10_5 q10_6 q10_7 q10_8 q10_9 q10_10 q10_11 q10_12 q10_13 q10_14 q10_15 q10_16 q10_17 q10_18 q10_19 C_x C_sum C_degree T_track T_used T_left T_right T_arrows T_trackEnd OL_layers OL_size OL_rows OL_places OL_home q9_0 q9_1 q10_20 q10_21 q10_22 q11_0 q11_1 q11_2 q11_3 q11_4) rfl rfl rfl rfl rfl 2 0 rfl rfl rfl rfl hl.1 rfl (Nat.le_of_ble_eq_true rfl) dX9_redraw_79 ⟨Nat.zero_le _, Nat.zero_le _⟩ (fun H locs hP hD hS => ?_)
        refine lv_aload_n hx hb dX9_redraw_82 rfl (lv_at hl 0 rfl) ?_
        refine q_get (ci := 9) (C := RX9) (T := TX9) (N := 11) hx hb hts eX9_redraw_X9 hown hK hP 0 rfl rfl 3 (Nat.le_of_ble_eq_true rfl) k6 rfl rfl dX9_redraw_83 ?_
        refine lv_aload_n hx hb dX9_redraw_86 rfl (lv_at hl 0 rfl) ?_
        refine q_get (ci := 9) (C := RX9) (T := TX9) (N := 11) hx hb hts eX9_redraw_X9 hown hK hP 0 rfl rfl 8 (Nat.le_of_ble_eq_true rfl) k1 rfl rfl dX9_redraw_87 ?_
        obtain ⟨q13_0, q13_1, q13_2, hcq13, hF⟩ := q_bd3 hF
        refine q_Vi (As := [.ref (aF 0)]) (rest := [.int q12_0]) ⟨hx, hb, hml, hown, hts⟩ hA hK hP hD hS (tX2_inAll l dC dI cI cZ aS aF H.size q8_6 q8_8 q8_9 q12_1 q12_2 q9_0 q10_21 (q13_0, q13_1, q13_2) hcq13) (cwV 1 hts gX9_redraw_X2_inAll rfl rfl rfl uX2_inAll ⟨Nat.le_of_ble_eq_true rfl, Nat.le_of_ble_eq_true rfl⟩) [16, 11, 12, 14, 15, 17, 18, 52, 55] [(false, 0), (false, 1), (false, 2), (false, 3), (false, 4), (false, 5), (false, 6), (false, 7), (false, 8), (false, 9), (false, 10), (true, 1), (true, 2), (false, 13), (true, 3), (true, 4), (true, 0), (true, 5), (true, 6), (false, 19), (false, 20), (false, 21), (false, 22), (false, 23), (false, 24), (false, 25), (false, 26), (false, 27), (false, 28), (false, 29), (false, 30), (false, 31), (false, 32), (false, 33), (false, 34), (false, 35), (false, 36), (false, 37), (false, 38), (false, 39), (false, 40), (false, 41), (false, 42), (false, 43), (false, 44), (false, 45), (false, 46), (false, 47), (false, 48), (false, 49), (false, 50), (false, 51), (true, 7), (false, 53), (false, 54), (true, 8), (false, 56), (false, 57), (false, 58), (false, 59), (false, 60), (false, 61)] (iX9_redraw aS aL aF aK cI cZ q8_1 R_width R_pinned R_from R_to R_turned q8_2 q8_3 q8_4 q8_5 q8_6 q8_7 q8_8 q8_9 q13_1 q13_2 q10_2 q10_3 q10_4 q10_5 q10_6 q10_7 q10_8 q10_9 q10_10 q10_11 q10_12 q10_13 q10_14 q10_15 q10_16 q10_17 q10_18 q10_19 C_x C_sum C_degree T_track T_used T_left T_right T_arrows T_trackEnd OL_layers OL_size OL_rows OL_places OL_home q9_0 q9_1 q10_20 q10_21 q10_22 q11_0 q11_1 q11_2 q11_3 q11_4) rfl rfl rfl rfl rfl 2 0 rfl rfl rfl rfl hl.1 rfl (Nat.le_of_ble_eq_true rfl) dX9_redraw_90 ⟨Nat.zero_le _, Nat.zero_le _⟩ (fun H locs hP hD hS => ?_)
        refine lv_isub hx hb dX9_redraw_93 ?_
        refine lv_iload_n hx hb dX9_redraw_94 rfl (lv_at hl 2 rfl) ?_
        refine lv_icmp_le (tgt := 102) hx hb dX9_redraw_95 (by decide) (fun hc => ?_) (fun hc => ?_)
        · replace hF := q_t hc hF
          refine lv_iconst (v := 0) hx hb dX9_redraw_102 (by decide) ?_
          exact JX9_REDRAW_103 q8_1 q8_2 q8_3 q8_4 q8_5 q8_6 q8_7 q8_8 q8_9 q13_1 q13_2 q10_2 q10_3 q10_4 q10_5 q10_6 q10_7 q10_8 q10_9 q10_10 q10_11 q10_12 q10_13 q10_14 q10_15 q10_16 q10_17 q10_18 q10_19 C_x C_sum C_degree T_track T_used T_left T_right T_arrows T_trackEnd OL_layers OL_size OL_rows OL_places OL_home q9_0 q9_1 q10_20 q10_21 q10_22 q11_0 q11_1 q11_2 q11_3 q11_4 0 hF H locs ls hP hD hS (lv_sub hl [0] rfl)
        · replace hF := q_f hc hF
          refine lv_iconst (v := 1) hx hb dX9_redraw_98 (by decide) ?_
          refine lv_goto (tgt := 103) hx hb dX9_redraw_99 (by decide) ?_
          exact JX9_REDRAW_103 q8_1 q8_2 q8_3 q8_4 q8_5 q8_6 q8_7 q8_8 q8_9 q13_1 q13_2 q10_2 q10_3 q10_4 q10_5 q10_6 q10_7 q10_8 q10_9 q10_10 q10_11 q10_12 q10_13 q10_14 q10_15 q10_16 q10_17 q10_18 q10_19 C_x C_sum C_degree T_track T_used T_left T_right T_arrows T_trackEnd OL_layers OL_size OL_rows OL_places OL_home q9_0 q9_1 q10_20 q10_21 q10_22 q11_0 q11_1 q11_2 q11_3 q11_4 1 hF H locs ls hP hD hS (lv_sub hl [0] rfl)
      · replace hF := q_t hc hF
        refine lv_iconst (v := (-1)) hx hb dX9_redraw_31 (by decide) ?_
        exact hret H locs ls 32 _ _ dX9_redraw_32 (congrArg Prod.fst (Option.some.inj hF)) (congrArg (fun z : Int32 × Int32 × (Nat → Int32) × (Nat → Int32) × (Nat → Int32) × Int32 × (Nat → Int32) × (Nat → Int32) × (Nat → Int32) × (Nat → Int32) × (Nat → Int32) × (Nat → Int32) × (Nat → Int32) × (Nat → Int32) × (Nat → Int32) × (Nat → Int32) × (Nat → Int32) × (Nat → Int32) × (Nat → Int32) × (Nat → Int32) × Int32 × (Nat → Int32) × (Nat → Int32) × (Nat → Int32) × (Nat → Int32) × (Nat → Int32) × (Nat → Int32) × (Nat → Int32) × Int32 × Int32 × (Nat → Int32) × (Nat → Int32) × (Nat → Int32) × (Nat → Int32) × (Nat → Int32) × (Nat → Int32) × (Nat → Int32) × (Nat → Int32) × (Nat → Int32) × Int32 × (Nat → Int32) × (Nat → Int32) × (Nat → Int32) × (Nat → Int32) × Int32 × (Nat → Int32) × (Nat → Int32) × (Nat → Int32) × (Nat → Int32) × Int32 × (Nat → Int32) × (Nat → Int32) × (Nat → Int32) × (Nat → Int32) × Nat => (iX9_redraw aS (q_pL z.2.2.2.2.2.2.2.2.2.2.2.2.2.2.2.2.2.2.2.2.2.2.2.2.2.2.2.2.2.2.2.2.2.2.2.2.2.2.2.2.2.2.2.2.2.2.2.2.2.2.2.2.2.2 aL aF aK) (q_pF z.2.2.2.2.2.2.2.2.2.2.2.2.2.2.2.2.2.2.2.2.2.2.2.2.2.2.2.2.2.2.2.2.2.2.2.2.2.2.2.2.2.2.2.2.2.2.2.2.2.2.2.2.2.2 aL aF aK) (q_pK z.2.2.2.2.2.2.2.2.2.2.2.2.2.2.2.2.2.2.2.2.2.2.2.2.2.2.2.2.2.2.2.2.2.2.2.2.2.2.2.2.2.2.2.2.2.2.2.2.2.2.2.2.2.2 aL aF aK) cI cZ z.2.1 R_width R_pinned R_from R_to R_turned z.2.2.1 z.2.2.2.1 z.2.2.2.2.1 z.2.2.2.2.2.1 z.2.2.2.2.2.2.1 z.2.2.2.2.2.2.2.1 z.2.2.2.2.2.2.2.2.1 z.2.2.2.2.2.2.2.2.2.1 z.2.2.2.2.2.2.2.2.2.2.1 z.2.2.2.2.2.2.2.2.2.2.2.1 z.2.2.2.2.2.2.2.2.2.2.2.2.1 z.2.2.2.2.2.2.2.2.2.2.2.2.2.1 z.2.2.2.2.2.2.2.2.2.2.2.2.2.2.1 z.2.2.2.2.2.2.2.2.2.2.2.2.2.2.2.1 z.2.2.2.2.2.2.2.2.2.2.2.2.2.2.2.2.1 z.2.2.2.2.2.2.2.2.2.2.2.2.2.2.2.2.2.1 z.2.2.2.2.2.2.2.2.2.2.2.2.2.2.2.2.2.2.1 z.2.2.2.2.2.2.2.2.2.2.2.2.2.2.2.2.2.2.2.1 z.2.2.2.2.2.2.2.2.2.2.2.2.2.2.2.2.2.2.2.2.1 z.2.2.2.2.2.2.2.2.2.2.2.2.2.2.2.2.2.2.2.2.2.1 z.2.2.2.2.2.2.2.2.2.2.2.2.2.2.2.2.2.2.2.2.2.2.1 z.2.2.2.2.2.2.2.2.2.2.2.2.2.2.2.2.2.2.2.2.2.2.2.1 z.2.2.2.2.2.2.2.2.2.2.2.2.2.2.2.2.2.2.2.2.2.2.2.2.1 z.2.2.2.2.2.2.2.2.2.2.2.2.2.2.2.2.2.2.2.2.2.2.2.2.2.1 z.2.2.2.2.2.2.2.2.2.2.2.2.2.2.2.2.2.2.2.2.2.2.2.2.2.2.1 z.2.2.2.2.2.2.2.2.2.2.2.2.2.2.2.2.2.2.2.2.2.2.2.2.2.2.2.1 z.2.2.2.2.2.2.2.2.2.2.2.2.2.2.2.2.2.2.2.2.2.2.2.2.2.2.2.2.1 z.2.2.2.2.2.2.2.2.2.2.2.2.2.2.2.2.2.2.2.2.2.2.2.2.2.2.2.2.2.1 z.2.2.2.2.2.2.2.2.2.2.2.2.2.2.2.2.2.2.2.2.2.2.2.2.2.2.2.2.2.2.1 z.2.2.2.2.2.2.2.2.2.2.2.2.2.2.2.2.2.2.2.2.2.2.2.2.2.2.2.2.2.2.2.1 z.2.2.2.2.2.2.2.2.2.2.2.2.2.2.2.2.2.2.2.2.2.2.2.2.2.2.2.2.2.2.2.2.1 z.2.2.2.2.2.2.2.2.2.2.2.2.2.2.2.2.2.2.2.2.2.2.2.2.2.2.2.2.2.2.2.2.2.1 z.2.2.2.2.2.2.2.2.2.2.2.2.2.2.2.2.2.2.2.2.2.2.2.2.2.2.2.2.2.2.2.2.2.2.1 z.2.2.2.2.2.2.2.2.2.2.2.2.2.2.2.2.2.2.2.2.2.2.2.2.2.2.2.2.2.2.2.2.2.2.2.1 z.2.2.2.2.2.2.2.2.2.2.2.2.2.2.2.2.2.2.2.2.2.2.2.2.2.2.2.2.2.2.2.2.2.2.2.2.1 z.2.2.2.2.2.2.2.2.2.2.2.2.2.2.2.2.2.2.2.2.2.2.2.2.2.2.2.2.2.2.2.2.2.2.2.2.2.1 z.2.2.2.2.2.2.2.2.2.2.2.2.2.2.2.2.2.2.2.2.2.2.2.2.2.2.2.2.2.2.2.2.2.2.2.2.2.2.1 z.2.2.2.2.2.2.2.2.2.2.2.2.2.2.2.2.2.2.2.2.2.2.2.2.2.2.2.2.2.2.2.2.2.2.2.2.2.2.2.1 z.2.2.2.2.2.2.2.2.2.2.2.2.2.2.2.2.2.2.2.2.2.2.2.2.2.2.2.2.2.2.2.2.2.2.2.2.2.2.2.2.1 z.2.2.2.2.2.2.2.2.2.2.2.2.2.2.2.2.2.2.2.2.2.2.2.2.2.2.2.2.2.2.2.2.2.2.2.2.2.2.2.2.2.1 z.2.2.2.2.2.2.2.2.2.2.2.2.2.2.2.2.2.2.2.2.2.2.2.2.2.2.2.2.2.2.2.2.2.2.2.2.2.2.2.2.2.2.1 z.2.2.2.2.2.2.2.2.2.2.2.2.2.2.2.2.2.2.2.2.2.2.2.2.2.2.2.2.2.2.2.2.2.2.2.2.2.2.2.2.2.2.2.1 z.2.2.2.2.2.2.2.2.2.2.2.2.2.2.2.2.2.2.2.2.2.2.2.2.2.2.2.2.2.2.2.2.2.2.2.2.2.2.2.2.2.2.2.2.1 z.2.2.2.2.2.2.2.2.2.2.2.2.2.2.2.2.2.2.2.2.2.2.2.2.2.2.2.2.2.2.2.2.2.2.2.2.2.2.2.2.2.2.2.2.2.1 z.2.2.2.2.2.2.2.2.2.2.2.2.2.2.2.2.2.2.2.2.2.2.2.2.2.2.2.2.2.2.2.2.2.2.2.2.2.2.2.2.2.2.2.2.2.2.1 z.2.2.2.2.2.2.2.2.2.2.2.2.2.2.2.2.2.2.2.2.2.2.2.2.2.2.2.2.2.2.2.2.2.2.2.2.2.2.2.2.2.2.2.2.2.2.2.1 z.2.2.2.2.2.2.2.2.2.2.2.2.2.2.2.2.2.2.2.2.2.2.2.2.2.2.2.2.2.2.2.2.2.2.2.2.2.2.2.2.2.2.2.2.2.2.2.2.1 z.2.2.2.2.2.2.2.2.2.2.2.2.2.2.2.2.2.2.2.2.2.2.2.2.2.2.2.2.2.2.2.2.2.2.2.2.2.2.2.2.2.2.2.2.2.2.2.2.2.1 z.2.2.2.2.2.2.2.2.2.2.2.2.2.2.2.2.2.2.2.2.2.2.2.2.2.2.2.2.2.2.2.2.2.2.2.2.2.2.2.2.2.2.2.2.2.2.2.2.2.2.1 z.2.2.2.2.2.2.2.2.2.2.2.2.2.2.2.2.2.2.2.2.2.2.2.2.2.2.2.2.2.2.2.2.2.2.2.2.2.2.2.2.2.2.2.2.2.2.2.2.2.2.2.1 z.2.2.2.2.2.2.2.2.2.2.2.2.2.2.2.2.2.2.2.2.2.2.2.2.2.2.2.2.2.2.2.2.2.2.2.2.2.2.2.2.2.2.2.2.2.2.2.2.2.2.2.2.1 z.2.2.2.2.2.2.2.2.2.2.2.2.2.2.2.2.2.2.2.2.2.2.2.2.2.2.2.2.2.2.2.2.2.2.2.2.2.2.2.2.2.2.2.2.2.2.2.2.2.2.2.2.2.1)) (Option.some.inj hF)) hP hD hS
    · replace hF := q_f hc hF
      cases hF
abbrev rX9_remove : Room := { frames := 5, cells := 0, slots := 0, locals := 110 }
theorem eX9_remove_X9 : ∀ w ∈ u_ws RX9 TX9 11, w ∈ wsX9_remove := by decide +kernel
theorem uX9_remove : yX9_remove.cls = RX9 ∧ yX9_remove.cls ≠ "java/lang/invoke/MethodHandle" ∧ yX9_remove.cls ≠ "java/lang/invoke/VarHandle" ∧ (parseMethodDescriptor yX9_remove.desc).map (fun d => d.parameters.length) = some 1 := by decide +kernel
set_option maxHeartbeats 4000000 in
set_option maxRecDepth 100000 in
theorem tX9_remove (l : Launch) (dC : Nat → ClassId) (dI : Nat → Nat → Nat) (cI cZ : ClassId) (aS : Nat → Nat) (aL : Nat → Nat) (aF : Nat → Nat) (aK : Nat → Nat) (sz : Nat) (M_told : Int32) (R_width : Nat → Int32) (R_pinned : Nat → Int32) (R_from : Nat → Int32) (R_to : Nat → Int32) (R_turned : Nat → Int32) (R_reach : Nat → Int32) (p0 : Int32) (res : Int32 × Int32 × (Nat → Int32) × (Nat → Int32) × (Nat → Int32) × (Nat → Int32) × (Nat → Int32) × (Nat → Int32)) (hF : fX9_remove M_told R_width R_pinned R_from R_to R_turned R_reach p0 = some res) : q_Mi l yX9_remove wsX9_remove rX9_remove (dC, dI) (q_ty cI cZ) [.ref (aS 47), .int p0] (iX9_remove aS aL aF aK cI cZ M_told R_width R_pinned R_from R_to R_turned R_reach) (iX9_remove aS aL aF aK cI cZ res.2.1 res.2.2.1 res.2.2.2.1 res.2.2.2.2.1 res.2.2.2.2.2.1 res.2.2.2.2.2.2.1 res.2.2.2.2.2.2.2) sz res.1 := by
  refine q_metz (cc := cX9_remove) (maxL := 2) (by decide) rfl (Nat.le_of_ble_eq_true rfl) ?_
  intro p e s m args below meth c Q A H locs ls C hP hD hS hl hret
  obtain ⟨hx, hb, hml, hown, hts, hA, hK⟩ := C
  replace hl : lv_has ls 2 [(0, .ref (aS 47)), (1, .int p0)] := hl
  have k0 := hts (.fieldLink RX9 12 "RouteLayout" "routes" "LRouteLayout$Routes;") (by decide +kernel)
  have k1 := hts (.fieldLink RX9 81 "RouteLayout" "told" "Z") (by decide +kernel)
  unfold fX9_remove at hF
  refine lv_iload_n hx hb dX9_remove_0 rfl (lv_at hl 1 rfl) ?_
  obtain ⟨⟨⟩, hcq1, hF⟩ := q_bd hF
  refine q_Sv (As := [.int p0]) (rest := []) ⟨hx, hb, hml, hown, hts⟩ hA hK hP hD hS (tX9_needBoxNumber l dC dI cI cZ H.size p0 () hcq1) (va_cwS 1 hts gX9_remove_X9_needBoxNumber rfl rfl rfl uX9_needBoxNumber ⟨Nat.le_of_ble_eq_true rfl, Nat.le_of_ble_eq_true rfl⟩) [] [(false, 0), (false, 1), (false, 2), (false, 3), (false, 4), (false, 5), (false, 6), (false, 7)] (iX9_remove aS aL aF aK cI cZ M_told R_width R_pinned R_from R_to R_turned R_reach) rfl rfl rfl rfl rfl rfl hl.1 rfl (Nat.le_of_ble_eq_true rfl) dX9_remove_1 ⟨Nat.zero_le _, Nat.zero_le _⟩ (fun H locs hP hD hS => ?_)
  refine lv_aload_n hx hb dX9_remove_4 rfl (lv_at hl 0 rfl) ?_
  refine q_get (ci := 9) (C := RX9) (T := TX9) (N := 11) hx hb hts eX9_remove_X9 hown hK hP 0 rfl rfl 0 (Nat.le_of_ble_eq_true rfl) k0 rfl rfl dX9_remove_5 ?_
  refine lv_iload_n hx hb dX9_remove_8 rfl (lv_at hl 1 rfl) ?_
  obtain ⟨q2, hcq2, hF⟩ := q_bd hF
  refine q_Vi (As := [.int p0]) (rest := []) ⟨hx, hb, hml, hown, hts⟩ hA hK hP hD hS (tX7_hasBox l dC dI cI cZ aS H.size R_width p0 q2 hcq2) (cwV 1 hts gX9_remove_X7_hasBox rfl rfl rfl uX7_hasBox ⟨Nat.le_of_ble_eq_true rfl, Nat.le_of_ble_eq_true rfl⟩) [1, 2] [(false, 0), (true, 0), (true, 1), (false, 3), (false, 4), (false, 5), (false, 6), (false, 7)] (iX9_remove aS aL aF aK cI cZ M_told R_width R_pinned R_from R_to R_turned R_reach) rfl rfl rfl rfl rfl 7 0 rfl rfl rfl rfl hl.1 rfl (Nat.le_of_ble_eq_true rfl) dX9_remove_9 ⟨Nat.zero_le _, Nat.zero_le _⟩ (fun H locs hP hD hS => ?_)
  refine lv_if_ne (tgt := 17) hx hb dX9_remove_12 (by decide) (fun hc => ?_) (fun hc => ?_)
  · replace hF := q_f hc hF
    refine lv_aload_n hx hb dX9_remove_17 rfl (lv_at hl 0 rfl) ?_
    refine q_get (ci := 9) (C := RX9) (T := TX9) (N := 11) hx hb hts eX9_remove_X9 hown hK hP 0 rfl rfl 0 (Nat.le_of_ble_eq_true rfl) k0 rfl rfl dX9_remove_18 ?_
    refine lv_iload_n hx hb dX9_remove_21 rfl (lv_at hl 1 rfl) ?_
    obtain ⟨q3_0, q3_1, q3_2, q3_3, q3_4, q3_5, hcq3, hF⟩ := q_bd6 hF
    refine q_Vv (As := [.int p0]) (rest := []) ⟨hx, hb, hml, hown, hts⟩ hA hK hP hD hS (tX7_takeBox l dC dI cI cZ aS H.size R_width R_pinned R_from R_to R_turned R_reach p0 (q3_0, q3_1, q3_2, q3_3, q3_4, q3_5) hcq3) (cwV 1 hts gX9_remove_X7_takeBox rfl rfl rfl uX7_takeBox ⟨Nat.le_of_ble_eq_true rfl, Nat.le_of_ble_eq_true rfl⟩) [1, 2, 3, 4, 5, 6, 7] [(false, 0), (true, 0), (true, 1), (true, 2), (true, 3), (true, 4), (true, 5), (true, 6)] (iX9_remove aS aL aF aK cI cZ M_told q3_0 q3_1 q3_2 q3_3 q3_4 q3_5) rfl rfl rfl rfl rfl 7 0 rfl rfl rfl rfl hl.1 rfl (Nat.le_of_ble_eq_true rfl) dX9_remove_22 ⟨Nat.zero_le _, Nat.zero_le _⟩ (fun H locs hP hD hS => ?_)
    refine lv_aload_n hx hb dX9_remove_25 rfl (lv_at hl 0 rfl) ?_
    refine lv_iconst (v := 0) hx hb dX9_remove_26 (by decide) ?_
    refine q_put (ci := 9) (C := RX9) (T := TX9) (N := 11) (ty := .boolean) hx hb hts eX9_remove_X9 tyX9 tyX9_ok nmX9 hown hK hP hD hS 0 (iX9_remove aS aL aF aK cI cZ 0 q3_0 q3_1 q3_2 q3_3 q3_4 q3_5) rfl rfl 10 (Nat.le_of_ble_eq_true rfl) k1 rfl rfl (by decide +kernel) (q_narz (Or.inl rfl)) rfl (Nat.le_of_ble_eq_true rfl) rfl dX9_remove_27 (fun H locs hP hD hS => ?_)
    refine lv_iconst (v := 1) hx hb dX9_remove_30 (by decide) ?_
    exact hret H locs ls 31 _ _ dX9_remove_31 (Or.inr rfl) (congrArg Prod.fst (Option.some.inj hF)) (congrArg (fun z : Int32 × Int32 × (Nat → Int32) × (Nat → Int32) × (Nat → Int32) × (Nat → Int32) × (Nat → Int32) × (Nat → Int32) => (iX9_remove aS aL aF aK cI cZ z.2.1 z.2.2.1 z.2.2.2.1 z.2.2.2.2.1 z.2.2.2.2.2.1 z.2.2.2.2.2.2.1 z.2.2.2.2.2.2.2)) (Option.some.inj hF)) hP hD hS
  · replace hF := q_t hc hF
    refine lv_iconst (v := 0) hx hb dX9_remove_15 (by decide) ?_
    exact hret H locs ls 16 _ _ dX9_remove_16 (Or.inl rfl) (congrArg Prod.fst (Option.some.inj hF)) (congrArg (fun z : Int32 × Int32 × (Nat → Int32) × (Nat → Int32) × (Nat → Int32) × (Nat → Int32) × (Nat → Int32) × (Nat → Int32) => (iX9_remove aS aL aF aK cI cZ z.2.1 z.2.2.1 z.2.2.2.1 z.2.2.2.2.1 z.2.2.2.2.2.1 z.2.2.2.2.2.2.1 z.2.2.2.2.2.2.2)) (Option.some.inj hF)) hP hD hS
abbrev rX9_reversed : Room := { frames := 2, cells := 0, slots := 0, locals := 42 }
theorem eX9_reversed_X9 : ∀ w ∈ u_ws RX9 TX9 11, w ∈ wsX9_reversed := by decide +kernel
theorem uX9_reversed : yX9_reversed.cls = RX9 ∧ yX9_reversed.cls ≠ "java/lang/invoke/MethodHandle" ∧ yX9_reversed.cls ≠ "java/lang/invoke/VarHandle" ∧ (parseMethodDescriptor yX9_reversed.desc).map (fun d => d.parameters.length) = some 1 := by decide +kernel
set_option maxHeartbeats 4000000 in
set_option maxRecDepth 100000 in
theorem tX9_reversed (l : Launch) (dC : Nat → ClassId) (dI : Nat → Nat → Nat) (cI cZ : ClassId) (aS : Nat → Nat) (aL : Nat → Nat) (aF : Nat → Nat) (aK : Nat → Nat) (sz : Nat) (M_told : Int32) (R_from : Nat → Int32) (R_turned : Nat → Int32) (p0 : Int32) (res : Int32) (hF : fX9_reversed R_from R_turned p0 = some res) : q_Mi l yX9_reversed wsX9_reversed rX9_reversed (dC, dI) (q_ty cI cZ) [.ref (aS 47), .int p0] (iX9_reversed aS aL aF aK cI cZ M_told R_from R_turned) (iX9_reversed aS aL aF aK cI cZ M_told R_from R_turned) sz res := by
  refine q_meti (cc := cX9_reversed) (maxL := 2) (by decide) rfl (Nat.le_of_ble_eq_true rfl) ?_
  intro p e s m args below meth c Q A H locs ls C hP hD hS hl hret
  obtain ⟨hx, hb, hml, hown, hts, hA, hK⟩ := C
  replace hl : lv_has ls 2 [(0, .ref (aS 47)), (1, .int p0)] := hl
  have k0 := hts (.fieldLink RX9 12 "RouteLayout" "routes" "LRouteLayout$Routes;") (by decide +kernel)
  unfold fX9_reversed at hF
  refine lv_iload_n hx hb dX9_reversed_0 rfl (lv_at hl 1 rfl) ?_
  obtain ⟨⟨⟩, hcq1, hF⟩ := q_bd hF
  refine q_Sv (As := [.int p0]) (rest := []) ⟨hx, hb, hml, hown, hts⟩ hA hK hP hD hS (tX9_needArrowNumber l dC dI cI cZ H.size p0 () hcq1) (va_cwS 1 hts gX9_reversed_X9_needArrowNumber rfl rfl rfl uX9_needArrowNumber ⟨Nat.le_of_ble_eq_true rfl, Nat.le_of_ble_eq_true rfl⟩) [] [(false, 0), (false, 1), (false, 2), (false, 3)] (iX9_reversed aS aL aF aK cI cZ M_told R_from R_turned) rfl rfl rfl rfl rfl rfl hl.1 rfl (Nat.le_of_ble_eq_true rfl) dX9_reversed_1 ⟨Nat.zero_le _, Nat.zero_le _⟩ (fun H locs hP hD hS => ?_)
  refine lv_aload_n hx hb dX9_reversed_4 rfl (lv_at hl 0 rfl) ?_
  refine q_get (ci := 9) (C := RX9) (T := TX9) (N := 11) hx hb hts eX9_reversed_X9 hown hK hP 0 rfl rfl 0 (Nat.le_of_ble_eq_true rfl) k0 rfl rfl dX9_reversed_5 ?_
  refine lv_iload_n hx hb dX9_reversed_8 rfl (lv_at hl 1 rfl) ?_
  obtain ⟨q2, hcq2, hF⟩ := q_bd hF
  refine q_Vi (As := [.int p0]) (rest := []) ⟨hx, hb, hml, hown, hts⟩ hA hK hP hD hS (tX7_hasArrow l dC dI cI cZ aS H.size R_from p0 q2 hcq2) (cwV 1 hts gX9_reversed_X7_hasArrow rfl rfl rfl uX7_hasArrow ⟨Nat.le_of_ble_eq_true rfl, Nat.le_of_ble_eq_true rfl⟩) [1, 2] [(false, 0), (true, 0), (true, 1), (false, 3)] (iX9_reversed aS aL aF aK cI cZ M_told R_from R_turned) rfl rfl rfl rfl rfl 7 0 rfl rfl rfl rfl hl.1 rfl (Nat.le_of_ble_eq_true rfl) dX9_reversed_9 ⟨Nat.zero_le _, Nat.zero_le _⟩ (fun H locs hP hD hS => ?_)
  refine lv_if_ne (tgt := 17) hx hb dX9_reversed_12 (by decide) (fun hc => ?_) (fun hc => ?_)
  · replace hF := q_f hc hF
    refine lv_aload_n hx hb dX9_reversed_17 rfl (lv_at hl 0 rfl) ?_
    refine q_get (ci := 9) (C := RX9) (T := TX9) (N := 11) hx hb hts eX9_reversed_X9 hown hK hP 0 rfl rfl 0 (Nat.le_of_ble_eq_true rfl) k0 rfl rfl dX9_reversed_18 ?_
    refine lv_iload_n hx hb dX9_reversed_21 rfl (lv_at hl 1 rfl) ?_
    obtain ⟨q3, hcq3, hF⟩ := q_bd hF
    refine q_Vi (As := [.int p0]) (rest := []) ⟨hx, hb, hml, hown, hts⟩ hA hK hP hD hS (tX7_isTurned l dC dI cI cZ aS H.size R_from R_turned p0 q3 hcq3) (cwV 1 hts gX9_reversed_X7_isTurned rfl rfl rfl uX7_isTurned ⟨Nat.le_of_ble_eq_true rfl, Nat.le_of_ble_eq_true rfl⟩) [1, 2, 3] [(false, 0), (true, 0), (true, 1), (true, 2)] (iX9_reversed aS aL aF aK cI cZ M_told R_from R_turned) rfl rfl rfl rfl rfl 7 0 rfl rfl rfl rfl hl.1 rfl (Nat.le_of_ble_eq_true rfl) dX9_reversed_22 ⟨Nat.zero_le _, Nat.zero_le _⟩ (fun H locs hP hD hS => ?_)
    refine lv_if_eq (tgt := 32) hx hb dX9_reversed_25 (by decide) (fun hc => ?_) (fun hc => ?_)
    · replace hF := q_t hc hF
      refine lv_iconst (v := 0) hx hb dX9_reversed_32 (by decide) ?_
      exact hret H locs ls 33 _ _ dX9_reversed_33 (Option.some.inj hF) rfl hP hD hS
    · replace hF := q_f hc hF
      refine lv_iconst (v := 1) hx hb dX9_reversed_28 (by decide) ?_
      refine lv_goto (tgt := 33) hx hb dX9_reversed_29 (by decide) ?_
      exact hret H locs ls 33 _ _ dX9_reversed_33 (Option.some.inj hF) rfl hP hD hS
  · replace hF := q_t hc hF
    refine lv_iconst (v := (-1)) hx hb dX9_reversed_15 (by decide) ?_
    exact hret H locs ls 16 _ _ dX9_reversed_16 (Option.some.inj hF) rfl hP hD hS
abbrev rX10_add : Room := { frames := 0, cells := 0, slots := 0, locals := 0 }
theorem eX10_add_X10 : ∀ w ∈ u_ws RX10 TX10 24, w ∈ wsX10_add := by decide +kernel
theorem uX10_add : yX10_add.cls = RX10 ∧ yX10_add.cls ≠ "java/lang/invoke/MethodHandle" ∧ yX10_add.cls ≠ "java/lang/invoke/VarHandle" ∧ (parseMethodDescriptor yX10_add.desc).map (fun d => d.parameters.length) = some 2 := by decide +kernel
set_option maxHeartbeats 4000000 in
set_option maxRecDepth 100000 in
theorem tX10_add (l : Launch) (dC : Nat → ClassId) (dI : Nat → Nat → Nat) (cI cZ : ClassId) (aZ : Nat → Nat) (sz : Nat) (Z_code : Int32) (Z_told : Int32) (Z_layers : Int32) (Z_sizes : Nat → Int32) (Z_items : Nat → Int32) (p0 : Int32) (p1 : Int32) (res : (Nat → Int32) × (Nat → Int32)) (hF : fX10_add Z_sizes Z_items p0 p1 = some res) : q_Mv l yX10_add wsX10_add rX10_add (dC, dI) (q_ty cI cZ) [.ref (aZ 0), .int p0, .int p1] (iX10_add aZ cI cZ Z_code Z_told Z_layers Z_sizes Z_items) (iX10_add aZ cI cZ Z_code Z_told Z_layers res.1 res.2) sz := by
  refine q_metv (cc := cX10_add) (maxL := 3) (by decide) rfl (Nat.le_of_ble_eq_true rfl) ?_
  intro p e s m args below meth c Q A H locs ls C hP hD hS hl hret
  obtain ⟨hx, hb, hml, hown, hts, hA, hK⟩ := C
  replace hl : lv_has ls 3 [(0, .ref (aZ 0)), (1, .int p0), (2, .int p1)] := hl
  have k0 := hts (.fieldLink RX10 38 "RouteLayoutModel" "items" "[I") (by decide +kernel)
  have k1 := hts (.fieldLink RX10 35 "RouteLayoutModel" "sizes" "[I") (by decide +kernel)
  unfold fX10_add at hF
  refine lv_aload_n hx hb dX10_add_0 rfl (lv_at hl 0 rfl) ?_
  refine q_get (ci := 10) (C := RX10) (T := TX10) (N := 24) hx hb hts eX10_add_X10 hown hK hP 0 rfl rfl 12 (Nat.le_of_ble_eq_true rfl) k0 rfl rfl dX10_add_1 ?_
  refine lv_bipush (v := 40) hx hb dX10_add_4 (by decide) ?_
  refine lv_iload_n hx hb dX10_add_6 rfl (lv_at hl 1 rfl) ?_
  refine lv_imul hx hb dX10_add_7 ?_
  refine lv_aload_n hx hb dX10_add_8 rfl (lv_at hl 0 rfl) ?_
  refine q_get (ci := 10) (C := RX10) (T := TX10) (N := 24) hx hb hts eX10_add_X10 hown hK hP 0 rfl rfl 11 (Nat.le_of_ble_eq_true rfl) k1 rfl rfl dX10_add_9 ?_
  refine lv_iload_n hx hb dX10_add_12 rfl (lv_at hl 1 rfl) ?_
  obtain ⟨hn1, hF⟩ := q_ck hF
  refine va_iald hx hb hK hP 1 0 rfl rfl hn1 dX10_add_13 ?_
  refine lv_iadd hx hb dX10_add_14 ?_
  refine lv_iload_n hx hb dX10_add_15 rfl (lv_at hl 2 rfl) ?_
  obtain ⟨hn2, hF⟩ := q_ck hF
  refine q_iast hx hb hK hP hD hS 2 0 (iX10_add aZ cI cZ Z_code Z_told Z_layers Z_sizes (upd Z_items ((40 * p0) + (Z_sizes p0.toNatClampNeg)).toNatClampNeg p1)) rfl rfl hn2 rfl dX10_add_16 (fun H locs hP hD hS => ?_)
  refine lv_aload_n hx hb dX10_add_17 rfl (lv_at hl 0 rfl) ?_
  refine q_get (ci := 10) (C := RX10) (T := TX10) (N := 24) hx hb hts eX10_add_X10 hown hK hP 0 rfl rfl 11 (Nat.le_of_ble_eq_true rfl) k1 rfl rfl dX10_add_18 ?_
  refine lv_iload_n hx hb dX10_add_21 rfl (lv_at hl 1 rfl) ?_
  refine lv_dup2_11 hx hb dX10_add_22 rfl rfl ?_
  obtain ⟨hn3, hF⟩ := q_ck hF
  refine va_iald hx hb hK hP 1 0 rfl rfl hn3 dX10_add_23 ?_
  refine lv_iconst (v := 1) hx hb dX10_add_24 (by decide) ?_
  refine lv_iadd hx hb dX10_add_25 ?_
  obtain ⟨hn4, hF⟩ := q_ck hF
  refine q_iast hx hb hK hP hD hS 1 0 (iX10_add aZ cI cZ Z_code Z_told Z_layers (upd Z_sizes p0.toNatClampNeg ((Z_sizes p0.toNatClampNeg) + 1)) (upd Z_items ((40 * p0) + (Z_sizes p0.toNatClampNeg)).toNatClampNeg p1)) rfl rfl hn4 rfl dX10_add_26 (fun H locs hP hD hS => ?_)
  exact hret H locs ls 27 _ dX10_add_27 (congrArg (fun z : (Nat → Int32) × (Nat → Int32) => (iX10_add aZ cI cZ Z_code Z_told Z_layers z.1 z.2)) (Option.some.inj hF)) hP hD hS
abbrev rX10_upper : Room := { frames := 0, cells := 0, slots := 0, locals := 0 }
theorem eX10_upper_X10 : ∀ w ∈ u_ws RX10 TX10 24, w ∈ wsX10_upper := by decide +kernel
theorem uX10_upper : yX10_upper.cls = RX10 ∧ yX10_upper.cls ≠ "java/lang/invoke/MethodHandle" ∧ yX10_upper.cls ≠ "java/lang/invoke/VarHandle" ∧ (parseMethodDescriptor yX10_upper.desc).map (fun d => d.parameters.length) = some 1 := by decide +kernel
set_option maxHeartbeats 4000000 in
set_option maxRecDepth 100000 in
theorem tX10_upper (l : Launch) (dC : Nat → ClassId) (dI : Nat → Nat → Nat) (cI cZ : ClassId) (aZ : Nat → Nat) (sz : Nat) (Z_code : Int32) (Z_from : Nat → Int32) (Z_to : Nat → Int32) (Z_turned : Nat → Int32) (Z_told : Int32) (Z_layers : Int32) (p0 : Int32) (res : Int32) (hF : fX10_upper Z_from Z_to Z_turned p0 = some res) : q_Mi l yX10_upper wsX10_upper rX10_upper (dC, dI) (q_ty cI cZ) [.ref (aZ 0), .int p0] (iX10_upper aZ cI cZ Z_code Z_from Z_to Z_turned Z_told Z_layers) (iX10_upper aZ cI cZ Z_code Z_from Z_to Z_turned Z_told Z_layers) sz res := by
  refine q_meti (cc := cX10_upper) (maxL := 2) (by decide) rfl (Nat.le_of_ble_eq_true rfl) ?_
  intro p e s m args below meth c Q A H locs ls C hP hD hS hl hret
  obtain ⟨hx, hb, hml, hown, hts, hA, hK⟩ := C
  replace hl : lv_has ls 2 [(0, .ref (aZ 0)), (1, .int p0)] := hl
  have k0 := hts (.fieldLink RX10 29 "RouteLayoutModel" "turned" "[Z") (by decide +kernel)
  have k1 := hts (.fieldLink RX10 23 "RouteLayoutModel" "from" "[I") (by decide +kernel)
  have k2 := hts (.fieldLink RX10 26 "RouteLayoutModel" "to" "[I") (by decide +kernel)
  unfold fX10_upper at hF
  refine lv_aload_n hx hb dX10_upper_0 rfl (lv_at hl 0 rfl) ?_
  refine q_get (ci := 10) (C := RX10) (T := TX10) (N := 24) hx hb hts eX10_upper_X10 hown hK hP 0 rfl rfl 7 (Nat.le_of_ble_eq_true rfl) k0 rfl rfl dX10_upper_1 ?_
  refine lv_iload_n hx hb dX10_upper_4 rfl (lv_at hl 1 rfl) ?_
  obtain ⟨hn1, hF⟩ := q_ck hF
  refine va_zald hx hb hK hP 3 1 rfl rfl hn1 dX10_upper_5 ?_
  refine lv_if_eq (tgt := 18) hx hb dX10_upper_6 (by decide) (fun hc => ?_) (fun hc => ?_)
  · replace hF := q_t hc hF
    refine lv_aload_n hx hb dX10_upper_18 rfl (lv_at hl 0 rfl) ?_
    refine q_get (ci := 10) (C := RX10) (T := TX10) (N := 24) hx hb hts eX10_upper_X10 hown hK hP 0 rfl rfl 5 (Nat.le_of_ble_eq_true rfl) k1 rfl rfl dX10_upper_19 ?_
    refine lv_iload_n hx hb dX10_upper_22 rfl (lv_at hl 1 rfl) ?_
    obtain ⟨hn2, hF⟩ := q_ck hF
    refine va_iald hx hb hK hP 1 0 rfl rfl hn2 dX10_upper_23 ?_
    exact hret H locs ls 24 _ _ dX10_upper_24 (Option.some.inj hF) rfl hP hD hS
  · replace hF := q_f hc hF
    refine lv_aload_n hx hb dX10_upper_9 rfl (lv_at hl 0 rfl) ?_
    refine q_get (ci := 10) (C := RX10) (T := TX10) (N := 24) hx hb hts eX10_upper_X10 hown hK hP 0 rfl rfl 6 (Nat.le_of_ble_eq_true rfl) k2 rfl rfl dX10_upper_10 ?_
    refine lv_iload_n hx hb dX10_upper_13 rfl (lv_at hl 1 rfl) ?_
    obtain ⟨hn3, hF⟩ := q_ck hF
    refine va_iald hx hb hK hP 2 0 rfl rfl hn3 dX10_upper_14 ?_
    refine lv_goto (tgt := 24) hx hb dX10_upper_15 (by decide) ?_
    exact hret H locs ls 24 _ _ dX10_upper_24 (Option.some.inj hF) rfl hP hD hS
abbrev rX10_lower : Room := { frames := 0, cells := 0, slots := 0, locals := 0 }
theorem eX10_lower_X10 : ∀ w ∈ u_ws RX10 TX10 24, w ∈ wsX10_lower := by decide +kernel
theorem uX10_lower : yX10_lower.cls = RX10 ∧ yX10_lower.cls ≠ "java/lang/invoke/MethodHandle" ∧ yX10_lower.cls ≠ "java/lang/invoke/VarHandle" ∧ (parseMethodDescriptor yX10_lower.desc).map (fun d => d.parameters.length) = some 1 := by decide +kernel
set_option maxHeartbeats 4000000 in
set_option maxRecDepth 100000 in
theorem tX10_lower (l : Launch) (dC : Nat → ClassId) (dI : Nat → Nat → Nat) (cI cZ : ClassId) (aZ : Nat → Nat) (sz : Nat) (Z_code : Int32) (Z_from : Nat → Int32) (Z_to : Nat → Int32) (Z_turned : Nat → Int32) (Z_told : Int32) (Z_layers : Int32) (p0 : Int32) (res : Int32) (hF : fX10_lower Z_from Z_to Z_turned p0 = some res) : q_Mi l yX10_lower wsX10_lower rX10_lower (dC, dI) (q_ty cI cZ) [.ref (aZ 0), .int p0] (iX10_lower aZ cI cZ Z_code Z_from Z_to Z_turned Z_told Z_layers) (iX10_lower aZ cI cZ Z_code Z_from Z_to Z_turned Z_told Z_layers) sz res := by
  refine q_meti (cc := cX10_lower) (maxL := 2) (by decide) rfl (Nat.le_of_ble_eq_true rfl) ?_
  intro p e s m args below meth c Q A H locs ls C hP hD hS hl hret
  obtain ⟨hx, hb, hml, hown, hts, hA, hK⟩ := C
  replace hl : lv_has ls 2 [(0, .ref (aZ 0)), (1, .int p0)] := hl
  have k0 := hts (.fieldLink RX10 29 "RouteLayoutModel" "turned" "[Z") (by decide +kernel)
  have k1 := hts (.fieldLink RX10 26 "RouteLayoutModel" "to" "[I") (by decide +kernel)
  have k2 := hts (.fieldLink RX10 23 "RouteLayoutModel" "from" "[I") (by decide +kernel)
  unfold fX10_lower at hF
  refine lv_aload_n hx hb dX10_lower_0 rfl (lv_at hl 0 rfl) ?_
  refine q_get (ci := 10) (C := RX10) (T := TX10) (N := 24) hx hb hts eX10_lower_X10 hown hK hP 0 rfl rfl 7 (Nat.le_of_ble_eq_true rfl) k0 rfl rfl dX10_lower_1 ?_
  refine lv_iload_n hx hb dX10_lower_4 rfl (lv_at hl 1 rfl) ?_
  obtain ⟨hn1, hF⟩ := q_ck hF
  refine va_zald hx hb hK hP 3 1 rfl rfl hn1 dX10_lower_5 ?_
  refine lv_if_eq (tgt := 18) hx hb dX10_lower_6 (by decide) (fun hc => ?_) (fun hc => ?_)
  · replace hF := q_t hc hF
    refine lv_aload_n hx hb dX10_lower_18 rfl (lv_at hl 0 rfl) ?_
    refine q_get (ci := 10) (C := RX10) (T := TX10) (N := 24) hx hb hts eX10_lower_X10 hown hK hP 0 rfl rfl 6 (Nat.le_of_ble_eq_true rfl) k1 rfl rfl dX10_lower_19 ?_
    refine lv_iload_n hx hb dX10_lower_22 rfl (lv_at hl 1 rfl) ?_
    obtain ⟨hn2, hF⟩ := q_ck hF
    refine va_iald hx hb hK hP 2 0 rfl rfl hn2 dX10_lower_23 ?_
    exact hret H locs ls 24 _ _ dX10_lower_24 (Option.some.inj hF) rfl hP hD hS
  · replace hF := q_f hc hF
    refine lv_aload_n hx hb dX10_lower_9 rfl (lv_at hl 0 rfl) ?_
    refine q_get (ci := 10) (C := RX10) (T := TX10) (N := 24) hx hb hts eX10_lower_X10 hown hK hP 0 rfl rfl 5 (Nat.le_of_ble_eq_true rfl) k2 rfl rfl dX10_lower_10 ?_
    refine lv_iload_n hx hb dX10_lower_13 rfl (lv_at hl 1 rfl) ?_
    obtain ⟨hn3, hF⟩ := q_ck hF
    refine va_iald hx hb hK hP 1 0 rfl rfl hn3 dX10_lower_14 ?_
    refine lv_goto (tgt := 24) hx hb dX10_lower_15 (by decide) ?_
    exact hret H locs ls 24 _ _ dX10_lower_24 (Option.some.inj hF) rfl hP hD hS
abbrev rX10_hasPiece : Room := { frames := 1, cells := 0, slots := 0, locals := 21 }
theorem eX10_hasPiece_X10 : ∀ w ∈ u_ws RX10 TX10 24, w ∈ wsX10_hasPiece := by decide +kernel
theorem uX10_hasPiece : yX10_hasPiece.cls = RX10 ∧ yX10_hasPiece.cls ≠ "java/lang/invoke/MethodHandle" ∧ yX10_hasPiece.cls ≠ "java/lang/invoke/VarHandle" ∧ (parseMethodDescriptor yX10_hasPiece.desc).map (fun d => d.parameters.length) = some 2 := by decide +kernel
set_option maxHeartbeats 4000000 in
set_option maxRecDepth 100000 in
theorem tX10_hasPiece (l : Launch) (dC : Nat → ClassId) (dI : Nat → Nat → Nat) (cI cZ : ClassId) (aZ : Nat → Nat) (sz : Nat) (Z_code : Int32) (Z_isArrow : Nat → Int32) (Z_from : Nat → Int32) (Z_to : Nat → Int32) (Z_turned : Nat → Int32) (Z_told : Int32) (Z_layers : Int32) (Z_layer : Nat → Int32) (p0 : Int32) (p1 : Int32) (res : Int32) (hF : fX10_hasPiece Z_isArrow Z_from Z_to Z_turned Z_layer p0 p1 = some res) : q_Mi l yX10_hasPiece wsX10_hasPiece rX10_hasPiece (dC, dI) (q_ty cI cZ) [.ref (aZ 0), .int p0, .int p1] (iX10_hasPiece aZ cI cZ Z_code Z_isArrow Z_from Z_to Z_turned Z_told Z_layers Z_layer) (iX10_hasPiece aZ cI cZ Z_code Z_isArrow Z_from Z_to Z_turned Z_told Z_layers Z_layer) sz res := by
  refine q_metz (cc := cX10_hasPiece) (maxL := 3) (by decide) rfl (Nat.le_of_ble_eq_true rfl) ?_
  intro p e s m args below meth c Q A H locs ls C hP hD hS hl hret
  obtain ⟨hx, hb, hml, hown, hts, hA, hK⟩ := C
  replace hl : lv_has ls 3 [(0, .ref (aZ 0)), (1, .int p0), (2, .int p1)] := hl
  have k0 := hts (.fieldLink RX10 20 "RouteLayoutModel" "isArrow" "[Z") (by decide +kernel)
  have k1 := hts (.fieldLink RX10 32 "RouteLayoutModel" "layer" "[I") (by decide +kernel)
  unfold fX10_hasPiece at hF
  refine lv_aload_n hx hb dX10_hasPiece_0 rfl (lv_at hl 0 rfl) ?_
  refine q_get (ci := 10) (C := RX10) (T := TX10) (N := 24) hx hb hts eX10_hasPiece_X10 hown hK hP 0 rfl rfl 4 (Nat.le_of_ble_eq_true rfl) k0 rfl rfl dX10_hasPiece_1 ?_
  refine lv_iload_n hx hb dX10_hasPiece_4 rfl (lv_at hl 1 rfl) ?_
  obtain ⟨hn1, hF⟩ := q_ck hF
  refine va_zald hx hb hK hP 1 1 rfl rfl hn1 dX10_hasPiece_5 ?_
  refine lv_if_eq (tgt := 41) hx hb dX10_hasPiece_6 (by decide) (fun hc => ?_) (fun hc => ?_)
  · replace hF := q_t hc hF
    refine lv_iconst (v := 0) hx hb dX10_hasPiece_41 (by decide) ?_
    exact hret H locs ls 42 _ _ dX10_hasPiece_42 (Or.inl rfl) (Option.some.inj hF) rfl hP hD hS
  · replace hF := q_f hc hF
    refine lv_aload_n hx hb dX10_hasPiece_9 rfl (lv_at hl 0 rfl) ?_
    refine q_get (ci := 10) (C := RX10) (T := TX10) (N := 24) hx hb hts eX10_hasPiece_X10 hown hK hP 0 rfl rfl 10 (Nat.le_of_ble_eq_true rfl) k1 rfl rfl dX10_hasPiece_10 ?_
    refine lv_aload_n hx hb dX10_hasPiece_13 rfl (lv_at hl 0 rfl) ?_
    refine lv_iload_n hx hb dX10_hasPiece_14 rfl (lv_at hl 1 rfl) ?_
    obtain ⟨q2, hcq2, hF⟩ := q_bd hF
    refine q_Vi (As := [.int p0]) (rest := [.ref (aZ 8)]) ⟨hx, hb, hml, hown, hts⟩ hA hK hP hD hS (tX10_upper l dC dI cI cZ aZ H.size Z_code Z_from Z_to Z_turned Z_told Z_layers p0 q2 hcq2) (cwV 1 hts gX10_hasPiece_X10_upper rfl rfl rfl uX10_upper ⟨Nat.le_of_ble_eq_true rfl, Nat.le_of_ble_eq_true rfl⟩) [0, 2, 3, 4] [(true, 0), (false, 1), (true, 1), (true, 2), (true, 3), (false, 5)] (iX10_hasPiece aZ cI cZ Z_code Z_isArrow Z_from Z_to Z_turned Z_told Z_layers Z_layer) rfl rfl rfl rfl rfl 10 0 rfl rfl rfl rfl hl.1 rfl (Nat.le_of_ble_eq_true rfl) dX10_hasPiece_15 ⟨Nat.zero_le _, Nat.zero_le _⟩ (fun H locs hP hD hS => ?_)
    obtain ⟨hn3, hF⟩ := q_ck hF
    refine va_iald hx hb hK hP 5 0 rfl rfl hn3 dX10_hasPiece_18 ?_
    refine lv_iload_n hx hb dX10_hasPiece_19 rfl (lv_at hl 2 rfl) ?_
    refine lv_icmp_gt (tgt := 41) hx hb dX10_hasPiece_20 (by decide) (fun hc => ?_) (fun hc => ?_)
    · replace hF := q_t hc hF
      refine lv_iconst (v := 0) hx hb dX10_hasPiece_41 (by decide) ?_
      exact hret H locs ls 42 _ _ dX10_hasPiece_42 (Or.inl rfl) (Option.some.inj hF) rfl hP hD hS
    · replace hF := q_f hc hF
      refine lv_iload_n hx hb dX10_hasPiece_23 rfl (lv_at hl 2 rfl) ?_
      refine lv_aload_n hx hb dX10_hasPiece_24 rfl (lv_at hl 0 rfl) ?_
      refine q_get (ci := 10) (C := RX10) (T := TX10) (N := 24) hx hb hts eX10_hasPiece_X10 hown hK hP 0 rfl rfl 10 (Nat.le_of_ble_eq_true rfl) k1 rfl rfl dX10_hasPiece_25 ?_
      refine lv_aload_n hx hb dX10_hasPiece_28 rfl (lv_at hl 0 rfl) ?_
      refine lv_iload_n hx hb dX10_hasPiece_29 rfl (lv_at hl 1 rfl) ?_
      obtain ⟨q4, hcq4, hF⟩ := q_bd hF
      refine q_Vi (As := [.int p0]) (rest := [.ref (aZ 8), .int p1]) ⟨hx, hb, hml, hown, hts⟩ hA hK hP hD hS (tX10_lower l dC dI cI cZ aZ H.size Z_code Z_from Z_to Z_turned Z_told Z_layers p0 q4 hcq4) (cwV 1 hts gX10_hasPiece_X10_lower rfl rfl rfl uX10_lower ⟨Nat.le_of_ble_eq_true rfl, Nat.le_of_ble_eq_true rfl⟩) [0, 2, 3, 4] [(true, 0), (false, 1), (true, 1), (true, 2), (true, 3), (false, 5)] (iX10_hasPiece aZ cI cZ Z_code Z_isArrow Z_from Z_to Z_turned Z_told Z_layers Z_layer) rfl rfl rfl rfl rfl 10 0 rfl rfl rfl rfl hl.1 rfl (Nat.le_of_ble_eq_true rfl) dX10_hasPiece_30 ⟨Nat.zero_le _, Nat.zero_le _⟩ (fun H locs hP hD hS => ?_)
      obtain ⟨hn5, hF⟩ := q_ck hF
      refine va_iald hx hb hK hP 5 0 rfl rfl hn5 dX10_hasPiece_33 ?_
      refine lv_icmp_ge (tgt := 41) hx hb dX10_hasPiece_34 (by decide) (fun hc => ?_) (fun hc => ?_)
      · replace hF := q_t hc hF
        refine lv_iconst (v := 0) hx hb dX10_hasPiece_41 (by decide) ?_
        exact hret H locs ls 42 _ _ dX10_hasPiece_42 (Or.inl rfl) (Option.some.inj hF) rfl hP hD hS
      · replace hF := q_f hc hF
        refine lv_iconst (v := 1) hx hb dX10_hasPiece_37 (by decide) ?_
        refine lv_goto (tgt := 42) hx hb dX10_hasPiece_38 (by decide) ?_
        exact hret H locs ls 42 _ _ dX10_hasPiece_42 (Or.inr rfl) (Option.some.inj hF) rfl hP hD hS
abbrev rX10_upperPlace : Room := { frames := 1, cells := 0, slots := 0, locals := 21 }
theorem eX10_upperPlace_X10 : ∀ w ∈ u_ws RX10 TX10 24, w ∈ wsX10_upperPlace := by decide +kernel
theorem uX10_upperPlace : yX10_upperPlace.cls = RX10 ∧ yX10_upperPlace.cls ≠ "java/lang/invoke/MethodHandle" ∧ yX10_upperPlace.cls ≠ "java/lang/invoke/VarHandle" ∧ (parseMethodDescriptor yX10_upperPlace.desc).map (fun d => d.parameters.length) = some 2 := by decide +kernel
set_option maxHeartbeats 4000000 in
set_option maxRecDepth 100000 in
theorem tX10_upperPlace (l : Launch) (dC : Nat → ClassId) (dI : Nat → Nat → Nat) (cI cZ : ClassId) (aZ : Nat → Nat) (sz : Nat) (Z_code : Int32) (Z_from : Nat → Int32) (Z_to : Nat → Int32) (Z_turned : Nat → Int32) (Z_told : Int32) (Z_layers : Int32) (Z_layer : Nat → Int32) (Z_place : Nat → Int32) (Z_dummyPlace : Nat → Int32) (p0 : Int32) (p1 : Int32) (res : Int32) (hF : fX10_upperPlace Z_from Z_to Z_turned Z_layer Z_place Z_dummyPlace p0 p1 = some res) : q_Mi l yX10_upperPlace wsX10_upperPlace rX10_upperPlace (dC, dI) (q_ty cI cZ) [.ref (aZ 0), .int p0, .int p1] (iX10_upperPlace aZ cI cZ Z_code Z_from Z_to Z_turned Z_told Z_layers Z_layer Z_place Z_dummyPlace) (iX10_upperPlace aZ cI cZ Z_code Z_from Z_to Z_turned Z_told Z_layers Z_layer Z_place Z_dummyPlace) sz res := by
  refine q_meti (cc := cX10_upperPlace) (maxL := 3) (by decide) rfl (Nat.le_of_ble_eq_true rfl) ?_
  intro p e s m args below meth c Q A H locs ls C hP hD hS hl hret
  obtain ⟨hx, hb, hml, hown, hts, hA, hK⟩ := C
  replace hl : lv_has ls 3 [(0, .ref (aZ 0)), (1, .int p0), (2, .int p1)] := hl
  have k0 := hts (.fieldLink RX10 32 "RouteLayoutModel" "layer" "[I") (by decide +kernel)
  have k1 := hts (.fieldLink RX10 44 "RouteLayoutModel" "dummyPlace" "[I") (by decide +kernel)
  have k2 := hts (.fieldLink RX10 41 "RouteLayoutModel" "place" "[I") (by decide +kernel)
  unfold fX10_upperPlace at hF
  refine lv_aload_n hx hb dX10_upperPlace_0 rfl (lv_at hl 0 rfl) ?_
  refine q_get (ci := 10) (C := RX10) (T := TX10) (N := 24) hx hb hts eX10_upperPlace_X10 hown hK hP 0 rfl rfl 10 (Nat.le_of_ble_eq_true rfl) k0 rfl rfl dX10_upperPlace_1 ?_
  refine lv_aload_n hx hb dX10_upperPlace_4 rfl (lv_at hl 0 rfl) ?_
  refine lv_iload_n hx hb dX10_upperPlace_5 rfl (lv_at hl 1 rfl) ?_
  obtain ⟨q1, hcq1, hF⟩ := q_bd hF
  refine q_Vi (As := [.int p0]) (rest := [.ref (aZ 8)]) ⟨hx, hb, hml, hown, hts⟩ hA hK hP hD hS (tX10_upper l dC dI cI cZ aZ H.size Z_code Z_from Z_to Z_turned Z_told Z_layers p0 q1 hcq1) (cwV 1 hts gX10_upperPlace_X10_upper rfl rfl rfl uX10_upper ⟨Nat.le_of_ble_eq_true rfl, Nat.le_of_ble_eq_true rfl⟩) [0, 1, 2, 3] [(true, 0), (true, 1), (true, 2), (true, 3), (false, 4), (false, 5), (false, 6)] (iX10_upperPlace aZ cI cZ Z_code Z_from Z_to Z_turned Z_told Z_layers Z_layer Z_place Z_dummyPlace) rfl rfl rfl rfl rfl 10 0 rfl rfl rfl rfl hl.1 rfl (Nat.le_of_ble_eq_true rfl) dX10_upperPlace_6 ⟨Nat.zero_le _, Nat.zero_le _⟩ (fun H locs hP hD hS => ?_)
  obtain ⟨hn2, hF⟩ := q_ck hF
  refine va_iald hx hb hK hP 4 0 rfl rfl hn2 dX10_upperPlace_9 ?_
  refine lv_iload_n hx hb dX10_upperPlace_10 rfl (lv_at hl 2 rfl) ?_
  refine lv_icmp_ne (tgt := 27) hx hb dX10_upperPlace_11 (by decide) (fun hc => ?_) (fun hc => ?_)
  · replace hF := q_f hc hF
    refine lv_aload_n hx hb dX10_upperPlace_27 rfl (lv_at hl 0 rfl) ?_
    refine q_get (ci := 10) (C := RX10) (T := TX10) (N := 24) hx hb hts eX10_upperPlace_X10 hown hK hP 0 rfl rfl 14 (Nat.le_of_ble_eq_true rfl) k1 rfl rfl dX10_upperPlace_28 ?_
    refine lv_bipush (v := 24) hx hb dX10_upperPlace_31 (by decide) ?_
    refine lv_iload_n hx hb dX10_upperPlace_33 rfl (lv_at hl 1 rfl) ?_
    refine lv_imul hx hb dX10_upperPlace_34 ?_
    refine lv_iload_n hx hb dX10_upperPlace_35 rfl (lv_at hl 2 rfl) ?_
    refine lv_iadd hx hb dX10_upperPlace_36 ?_
    obtain ⟨hn3, hF⟩ := q_ck hF
    refine va_iald hx hb hK hP 6 0 rfl rfl hn3 dX10_upperPlace_37 ?_
    exact hret H locs ls 38 _ _ dX10_upperPlace_38 (Option.some.inj hF) rfl hP hD hS
  · replace hF := q_t hc hF
    refine lv_aload_n hx hb dX10_upperPlace_14 rfl (lv_at hl 0 rfl) ?_
    refine q_get (ci := 10) (C := RX10) (T := TX10) (N := 24) hx hb hts eX10_upperPlace_X10 hown hK hP 0 rfl rfl 13 (Nat.le_of_ble_eq_true rfl) k2 rfl rfl dX10_upperPlace_15 ?_
    refine lv_aload_n hx hb dX10_upperPlace_18 rfl (lv_at hl 0 rfl) ?_
    refine lv_iload_n hx hb dX10_upperPlace_19 rfl (lv_at hl 1 rfl) ?_
    obtain ⟨q4, hcq4, hF⟩ := q_bd hF
    refine q_Vi (As := [.int p0]) (rest := [.ref (aZ 11)]) ⟨hx, hb, hml, hown, hts⟩ hA hK hP hD hS (tX10_upper l dC dI cI cZ aZ H.size Z_code Z_from Z_to Z_turned Z_told Z_layers p0 q4 hcq4) (cwV 1 hts gX10_upperPlace_X10_upper rfl rfl rfl uX10_upper ⟨Nat.le_of_ble_eq_true rfl, Nat.le_of_ble_eq_true rfl⟩) [0, 1, 2, 3] [(true, 0), (true, 1), (true, 2), (true, 3), (false, 4), (false, 5), (false, 6)] (iX10_upperPlace aZ cI cZ Z_code Z_from Z_to Z_turned Z_told Z_layers Z_layer Z_place Z_dummyPlace) rfl rfl rfl rfl rfl 10 0 rfl rfl rfl rfl hl.1 rfl (Nat.le_of_ble_eq_true rfl) dX10_upperPlace_20 ⟨Nat.zero_le _, Nat.zero_le _⟩ (fun H locs hP hD hS => ?_)
    obtain ⟨hn5, hF⟩ := q_ck hF
    refine va_iald hx hb hK hP 5 0 rfl rfl hn5 dX10_upperPlace_23 ?_
    refine lv_goto (tgt := 38) hx hb dX10_upperPlace_24 (by decide) ?_
    exact hret H locs ls 38 _ _ dX10_upperPlace_38 (Option.some.inj hF) rfl hP hD hS
abbrev rX10_lowerPlace : Room := { frames := 1, cells := 0, slots := 0, locals := 21 }
theorem eX10_lowerPlace_X10 : ∀ w ∈ u_ws RX10 TX10 24, w ∈ wsX10_lowerPlace := by decide +kernel
theorem uX10_lowerPlace : yX10_lowerPlace.cls = RX10 ∧ yX10_lowerPlace.cls ≠ "java/lang/invoke/MethodHandle" ∧ yX10_lowerPlace.cls ≠ "java/lang/invoke/VarHandle" ∧ (parseMethodDescriptor yX10_lowerPlace.desc).map (fun d => d.parameters.length) = some 2 := by decide +kernel
set_option maxHeartbeats 4000000 in
set_option maxRecDepth 100000 in
theorem tX10_lowerPlace (l : Launch) (dC : Nat → ClassId) (dI : Nat → Nat → Nat) (cI cZ : ClassId) (aZ : Nat → Nat) (sz : Nat) (Z_code : Int32) (Z_from : Nat → Int32) (Z_to : Nat → Int32) (Z_turned : Nat → Int32) (Z_told : Int32) (Z_layers : Int32) (Z_layer : Nat → Int32) (Z_place : Nat → Int32) (Z_dummyPlace : Nat → Int32) (p0 : Int32) (p1 : Int32) (res : Int32) (hF : fX10_lowerPlace Z_from Z_to Z_turned Z_layer Z_place Z_dummyPlace p0 p1 = some res) : q_Mi l yX10_lowerPlace wsX10_lowerPlace rX10_lowerPlace (dC, dI) (q_ty cI cZ) [.ref (aZ 0), .int p0, .int p1] (iX10_lowerPlace aZ cI cZ Z_code Z_from Z_to Z_turned Z_told Z_layers Z_layer Z_place Z_dummyPlace) (iX10_lowerPlace aZ cI cZ Z_code Z_from Z_to Z_turned Z_told Z_layers Z_layer Z_place Z_dummyPlace) sz res := by
  refine q_meti (cc := cX10_lowerPlace) (maxL := 3) (by decide) rfl (Nat.le_of_ble_eq_true rfl) ?_
  intro p e s m args below meth c Q A H locs ls C hP hD hS hl hret
  obtain ⟨hx, hb, hml, hown, hts, hA, hK⟩ := C
  replace hl : lv_has ls 3 [(0, .ref (aZ 0)), (1, .int p0), (2, .int p1)] := hl
  have k0 := hts (.fieldLink RX10 32 "RouteLayoutModel" "layer" "[I") (by decide +kernel)
  have k1 := hts (.fieldLink RX10 44 "RouteLayoutModel" "dummyPlace" "[I") (by decide +kernel)
  have k2 := hts (.fieldLink RX10 41 "RouteLayoutModel" "place" "[I") (by decide +kernel)
  unfold fX10_lowerPlace at hF
  refine lv_aload_n hx hb dX10_lowerPlace_0 rfl (lv_at hl 0 rfl) ?_
  refine q_get (ci := 10) (C := RX10) (T := TX10) (N := 24) hx hb hts eX10_lowerPlace_X10 hown hK hP 0 rfl rfl 10 (Nat.le_of_ble_eq_true rfl) k0 rfl rfl dX10_lowerPlace_1 ?_
  refine lv_aload_n hx hb dX10_lowerPlace_4 rfl (lv_at hl 0 rfl) ?_
  refine lv_iload_n hx hb dX10_lowerPlace_5 rfl (lv_at hl 1 rfl) ?_
  obtain ⟨q1, hcq1, hF⟩ := q_bd hF
  refine q_Vi (As := [.int p0]) (rest := [.ref (aZ 8)]) ⟨hx, hb, hml, hown, hts⟩ hA hK hP hD hS (tX10_lower l dC dI cI cZ aZ H.size Z_code Z_from Z_to Z_turned Z_told Z_layers p0 q1 hcq1) (cwV 1 hts gX10_lowerPlace_X10_lower rfl rfl rfl uX10_lower ⟨Nat.le_of_ble_eq_true rfl, Nat.le_of_ble_eq_true rfl⟩) [0, 1, 2, 3] [(true, 0), (true, 1), (true, 2), (true, 3), (false, 4), (false, 5), (false, 6)] (iX10_lowerPlace aZ cI cZ Z_code Z_from Z_to Z_turned Z_told Z_layers Z_layer Z_place Z_dummyPlace) rfl rfl rfl rfl rfl 10 0 rfl rfl rfl rfl hl.1 rfl (Nat.le_of_ble_eq_true rfl) dX10_lowerPlace_6 ⟨Nat.zero_le _, Nat.zero_le _⟩ (fun H locs hP hD hS => ?_)
  obtain ⟨hn2, hF⟩ := q_ck hF
  refine va_iald hx hb hK hP 4 0 rfl rfl hn2 dX10_lowerPlace_9 ?_
  refine lv_iload_n hx hb dX10_lowerPlace_10 rfl (lv_at hl 2 rfl) ?_
  refine lv_iconst (v := 1) hx hb dX10_lowerPlace_11 (by decide) ?_
  refine lv_iadd hx hb dX10_lowerPlace_12 ?_
  refine lv_icmp_ne (tgt := 29) hx hb dX10_lowerPlace_13 (by decide) (fun hc => ?_) (fun hc => ?_)
  · replace hF := q_f hc hF
    refine lv_aload_n hx hb dX10_lowerPlace_29 rfl (lv_at hl 0 rfl) ?_
    refine q_get (ci := 10) (C := RX10) (T := TX10) (N := 24) hx hb hts eX10_lowerPlace_X10 hown hK hP 0 rfl rfl 14 (Nat.le_of_ble_eq_true rfl) k1 rfl rfl dX10_lowerPlace_30 ?_
    refine lv_bipush (v := 24) hx hb dX10_lowerPlace_33 (by decide) ?_
    refine lv_iload_n hx hb dX10_lowerPlace_35 rfl (lv_at hl 1 rfl) ?_
    refine lv_imul hx hb dX10_lowerPlace_36 ?_
    refine lv_iload_n hx hb dX10_lowerPlace_37 rfl (lv_at hl 2 rfl) ?_
    refine lv_iadd hx hb dX10_lowerPlace_38 ?_
    refine lv_iconst (v := 1) hx hb dX10_lowerPlace_39 (by decide) ?_
    refine lv_iadd hx hb dX10_lowerPlace_40 ?_
    obtain ⟨hn3, hF⟩ := q_ck hF
    refine va_iald hx hb hK hP 6 0 rfl rfl hn3 dX10_lowerPlace_41 ?_
    exact hret H locs ls 42 _ _ dX10_lowerPlace_42 (Option.some.inj hF) rfl hP hD hS
  · replace hF := q_t hc hF
    refine lv_aload_n hx hb dX10_lowerPlace_16 rfl (lv_at hl 0 rfl) ?_
    refine q_get (ci := 10) (C := RX10) (T := TX10) (N := 24) hx hb hts eX10_lowerPlace_X10 hown hK hP 0 rfl rfl 13 (Nat.le_of_ble_eq_true rfl) k2 rfl rfl dX10_lowerPlace_17 ?_
    refine lv_aload_n hx hb dX10_lowerPlace_20 rfl (lv_at hl 0 rfl) ?_
    refine lv_iload_n hx hb dX10_lowerPlace_21 rfl (lv_at hl 1 rfl) ?_
    obtain ⟨q4, hcq4, hF⟩ := q_bd hF
    refine q_Vi (As := [.int p0]) (rest := [.ref (aZ 11)]) ⟨hx, hb, hml, hown, hts⟩ hA hK hP hD hS (tX10_lower l dC dI cI cZ aZ H.size Z_code Z_from Z_to Z_turned Z_told Z_layers p0 q4 hcq4) (cwV 1 hts gX10_lowerPlace_X10_lower rfl rfl rfl uX10_lower ⟨Nat.le_of_ble_eq_true rfl, Nat.le_of_ble_eq_true rfl⟩) [0, 1, 2, 3] [(true, 0), (true, 1), (true, 2), (true, 3), (false, 4), (false, 5), (false, 6)] (iX10_lowerPlace aZ cI cZ Z_code Z_from Z_to Z_turned Z_told Z_layers Z_layer Z_place Z_dummyPlace) rfl rfl rfl rfl rfl 10 0 rfl rfl rfl rfl hl.1 rfl (Nat.le_of_ble_eq_true rfl) dX10_lowerPlace_22 ⟨Nat.zero_le _, Nat.zero_le _⟩ (fun H locs hP hD hS => ?_)
    obtain ⟨hn5, hF⟩ := q_ck hF
    refine va_iald hx hb hK hP 5 0 rfl rfl hn5 dX10_lowerPlace_25 ?_
    refine lv_goto (tgt := 42) hx hb dX10_lowerPlace_26 (by decide) ?_
    exact hret H locs ls 42 _ _ dX10_lowerPlace_42 (Option.some.inj hF) rfl hP hD hS
