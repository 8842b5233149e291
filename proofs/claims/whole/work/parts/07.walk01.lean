/-! Written by wip/whole/gen.py: walks of X7_putBox, X7_takeArrow, X7_takeBox, X7_turnedArrows, X7_upperBox, X7_widthOf, X3_bottom, X3_countLayers, X3_top, X3_hasPiece, X3_layerOf, X3_holds, X3_itemOf, X3_layers, X3_lift, X3_markEnds. -/
abbrev rX7_putBox : Room := { frames := 0, cells := 0, slots := 0, locals := 0 }
theorem eX7_putBox_X7 : ∀ w ∈ u_ws RX7 TX7 6, w ∈ wsX7_putBox := by decide +kernel
theorem uX7_putBox : yX7_putBox.cls = RX7 ∧ yX7_putBox.cls ≠ "java/lang/invoke/MethodHandle" ∧ yX7_putBox.cls ≠ "java/lang/invoke/VarHandle" ∧ (parseMethodDescriptor yX7_putBox.desc).map (fun d => d.parameters.length) = some 2 := by decide +kernel
set_option maxHeartbeats 4000000 in
set_option maxRecDepth 100000 in
theorem tX7_putBox (l : Launch) (dC : Nat → ClassId) (dI : Nat → Nat → Nat) (cI cZ : ClassId) (aS : Nat → Nat) (sz : Nat) (R_width : Nat → Int32) (p0 : Int32) (p1 : Int32) (res : (Nat → Int32)) (hF : fX7_putBox R_width p0 p1 = some res) : q_Mv l yX7_putBox wsX7_putBox rX7_putBox (dC, dI) (q_ty cI cZ) [.ref (aS 0), .int p0, .int p1] (iX7_putBox aS cI cZ R_width) (iX7_putBox aS cI cZ res) sz := by
  refine q_metv (cc := cX7_putBox) (maxL := 3) (by decide) rfl (Nat.le_of_ble_eq_true rfl) ?_
  intro p e s m args below meth c Q A H locs ls C hP hD hS hl hret
  obtain ⟨hx, hb, hml, hown, hts, hA, hK⟩ := C
  replace hl : lv_has ls 3 [(0, .ref (aS 0)), (1, .int p0), (2, .int p1)] := hl
  have k0 := hts (.fieldLink RX7 9 "RouteLayout$Routes" "width" "[I") (by decide +kernel)
  unfold fX7_putBox at hF
  refine lv_iload_n hx hb dX7_putBox_0 rfl (lv_at hl 1 rfl) ?_
  refine lv_if_lt (tgt := 17) hx hb dX7_putBox_1 (by decide) (fun hc => ?_) (fun hc => ?_)
  · replace hF := q_t hc hF
    exact hret H locs ls 17 _ dX7_putBox_17 (congrArg (fun z : (Nat → Int32) => (iX7_putBox aS cI cZ z)) (Option.some.inj hF)) hP hD hS
  · replace hF := q_f hc hF
    refine lv_iload_n hx hb dX7_putBox_4 rfl (lv_at hl 1 rfl) ?_
    refine lv_bipush (v := 16) hx hb dX7_putBox_5 (by decide) ?_
    refine lv_icmp_ge (tgt := 17) hx hb dX7_putBox_7 (by decide) (fun hc => ?_) (fun hc => ?_)
    · replace hF := q_t hc hF
      exact hret H locs ls 17 _ dX7_putBox_17 (congrArg (fun z : (Nat → Int32) => (iX7_putBox aS cI cZ z)) (Option.some.inj hF)) hP hD hS
    · replace hF := q_f hc hF
      refine lv_aload_n hx hb dX7_putBox_10 rfl (lv_at hl 0 rfl) ?_
      refine q_get (ci := 7) (C := RX7) (T := TX7) (N := 6) hx hb hts eX7_putBox_X7 hown hK hP 0 rfl rfl 0 (Nat.le_of_ble_eq_true rfl) k0 rfl rfl dX7_putBox_11 ?_
      refine lv_iload_n hx hb dX7_putBox_14 rfl (lv_at hl 1 rfl) ?_
      refine lv_iload_n hx hb dX7_putBox_15 rfl (lv_at hl 2 rfl) ?_
      obtain ⟨hn1, hF⟩ := q_ck hF
      refine q_iast hx hb hK hP hD hS 1 0 (iX7_putBox aS cI cZ (upd R_width p0.toNatClampNeg p1)) rfl rfl hn1 rfl dX7_putBox_16 (fun H locs hP hD hS => ?_)
      exact hret H locs ls 17 _ dX7_putBox_17 (congrArg (fun z : (Nat → Int32) => (iX7_putBox aS cI cZ z)) (Option.some.inj hF)) hP hD hS
abbrev rX7_takeArrow : Room := { frames := 4, cells := 0, slots := 0, locals := 88 }
theorem eX7_takeArrow_X7 : ∀ w ∈ u_ws RX7 TX7 6, w ∈ wsX7_takeArrow := by decide +kernel
theorem uX7_takeArrow : yX7_takeArrow.cls = RX7 ∧ yX7_takeArrow.cls ≠ "java/lang/invoke/MethodHandle" ∧ yX7_takeArrow.cls ≠ "java/lang/invoke/VarHandle" ∧ (parseMethodDescriptor yX7_takeArrow.desc).map (fun d => d.parameters.length) = some 1 := by decide +kernel
set_option maxHeartbeats 4000000 in
set_option maxRecDepth 100000 in
theorem tX7_takeArrow (l : Launch) (dC : Nat → ClassId) (dI : Nat → Nat → Nat) (cI cZ : ClassId) (aS : Nat → Nat) (sz : Nat) (R_width : Nat → Int32) (R_from : Nat → Int32) (R_to : Nat → Int32) (R_turned : Nat → Int32) (R_reach : Nat → Int32) (p0 : Int32) (res : (Nat → Int32) × (Nat → Int32) × (Nat → Int32) × (Nat → Int32)) (hF : fX7_takeArrow R_width R_from R_to R_turned R_reach p0 = some res) : q_Mv l yX7_takeArrow wsX7_takeArrow rX7_takeArrow (dC, dI) (q_ty cI cZ) [.ref (aS 0), .int p0] (iX7_takeArrow aS cI cZ R_width R_from R_to R_turned R_reach) (iX7_takeArrow aS cI cZ R_width res.1 res.2.1 res.2.2.1 res.2.2.2) sz := by
  refine q_metv (cc := cX7_takeArrow) (maxL := 2) (by decide) rfl (Nat.le_of_ble_eq_true rfl) ?_
  intro p e s m args below meth c Q A H locs ls C hP hD hS hl hret
  obtain ⟨hx, hb, hml, hown, hts, hA, hK⟩ := C
  replace hl : lv_has ls 2 [(0, .ref (aS 0)), (1, .int p0)] := hl
  have k0 := hts (.fieldLink RX7 18 "RouteLayout$Routes" "from" "[I") (by decide +kernel)
  have k1 := hts (.fieldLink RX7 21 "RouteLayout$Routes" "to" "[I") (by decide +kernel)
  unfold fX7_takeArrow at hF
  refine lv_aload_n hx hb dX7_takeArrow_0 rfl (lv_at hl 0 rfl) ?_
  refine lv_iload_n hx hb dX7_takeArrow_1 rfl (lv_at hl 1 rfl) ?_
  obtain ⟨q1, hcq1, hF⟩ := q_bd hF
  refine q_Vi (As := [.int p0]) (rest := []) ⟨hx, hb, hml, hown, hts⟩ hA hK hP hD hS (tX7_hasArrow l dC dI cI cZ aS H.size R_from p0 q1 hcq1) (cwV 1 hts gX7_takeArrow_X7_hasArrow rfl rfl rfl uX7_hasArrow ⟨Nat.le_of_ble_eq_true rfl, Nat.le_of_ble_eq_true rfl⟩) [0, 2] [(true, 0), (false, 1), (true, 1), (false, 3), (false, 4), (false, 5)] (iX7_takeArrow aS cI cZ R_width R_from R_to R_turned R_reach) rfl rfl rfl rfl rfl 7 0 rfl rfl rfl rfl hl.1 rfl (Nat.le_of_ble_eq_true rfl) dX7_takeArrow_2 ⟨Nat.zero_le _, Nat.zero_le _⟩ (fun H locs hP hD hS => ?_)
  refine lv_if_eq (tgt := 26) hx hb dX7_takeArrow_5 (by decide) (fun hc => ?_) (fun hc => ?_)
  · replace hF := q_t hc hF
    exact hret H locs ls 26 _ dX7_takeArrow_26 (congrArg (fun z : (Nat → Int32) × (Nat → Int32) × (Nat → Int32) × (Nat → Int32) => (iX7_takeArrow aS cI cZ R_width z.1 z.2.1 z.2.2.1 z.2.2.2)) (Option.some.inj hF)) hP hD hS
  · replace hF := q_f hc hF
    refine lv_aload_n hx hb dX7_takeArrow_8 rfl (lv_at hl 0 rfl) ?_
    refine q_get (ci := 7) (C := RX7) (T := TX7) (N := 6) hx hb hts eX7_takeArrow_X7 hown hK hP 0 rfl rfl 2 (Nat.le_of_ble_eq_true rfl) k0 rfl rfl dX7_takeArrow_9 ?_
    refine lv_iload_n hx hb dX7_takeArrow_12 rfl (lv_at hl 1 rfl) ?_
    refine lv_iconst (v := (-1)) hx hb dX7_takeArrow_13 (by decide) ?_
    obtain ⟨hn2, hF⟩ := q_ck hF
    refine q_iast hx hb hK hP hD hS 2 0 (iX7_takeArrow aS cI cZ R_width (upd R_from p0.toNatClampNeg (-1)) R_to R_turned R_reach) rfl rfl hn2 rfl dX7_takeArrow_14 (fun H locs hP hD hS => ?_)
    refine lv_aload_n hx hb dX7_takeArrow_15 rfl (lv_at hl 0 rfl) ?_
    refine q_get (ci := 7) (C := RX7) (T := TX7) (N := 6) hx hb hts eX7_takeArrow_X7 hown hK hP 0 rfl rfl 3 (Nat.le_of_ble_eq_true rfl) k1 rfl rfl dX7_takeArrow_16 ?_
    refine lv_iload_n hx hb dX7_takeArrow_19 rfl (lv_at hl 1 rfl) ?_
    refine lv_iconst (v := (-1)) hx hb dX7_takeArrow_20 (by decide) ?_
    obtain ⟨hn3, hF⟩ := q_ck hF
    refine q_iast hx hb hK hP hD hS 3 0 (iX7_takeArrow aS cI cZ R_width (upd R_from p0.toNatClampNeg (-1)) (upd R_to p0.toNatClampNeg (-1)) R_turned R_reach) rfl rfl hn3 rfl dX7_takeArrow_21 (fun H locs hP hD hS => ?_)
    refine lv_aload_n hx hb dX7_takeArrow_22 rfl (lv_at hl 0 rfl) ?_
    obtain ⟨q4_0, q4_1, hcq4, hF⟩ := q_bd2 hF
    refine q_Vv (As := []) (rest := []) ⟨hx, hb, hml, hown, hts⟩ hA hK hP hD hS (tX7_turnArrows l dC dI cI cZ aS H.size R_width (upd R_from p0.toNatClampNeg (-1)) (upd R_to p0.toNatClampNeg (-1)) R_turned R_reach (q4_0, q4_1) hcq4) (cwV 0 hts gX7_takeArrow_X7_turnArrows rfl rfl rfl uX7_turnArrows ⟨Nat.le_of_ble_eq_true rfl, Nat.le_of_ble_eq_true rfl⟩) [0, 1, 2, 3, 4, 5] [(true, 0), (true, 1), (true, 2), (true, 3), (true, 4), (true, 5)] (iX7_takeArrow aS cI cZ R_width (upd R_from p0.toNatClampNeg (-1)) (upd R_to p0.toNatClampNeg (-1)) q4_0 q4_1) rfl rfl rfl rfl rfl 7 0 rfl rfl rfl rfl hl.1 rfl (Nat.le_of_ble_eq_true rfl) dX7_takeArrow_23 ⟨Nat.zero_le _, Nat.zero_le _⟩ (fun H locs hP hD hS => ?_)
    exact hret H locs ls 26 _ dX7_takeArrow_26 (congrArg (fun z : (Nat → Int32) × (Nat → Int32) × (Nat → Int32) × (Nat → Int32) => (iX7_takeArrow aS cI cZ R_width z.1 z.2.1 z.2.2.1 z.2.2.2)) (Option.some.inj hF)) hP hD hS
abbrev rX7_takeBox : Room := { frames := 4, cells := 0, slots := 0, locals := 88 }
theorem eX7_takeBox_X7 : ∀ w ∈ u_ws RX7 TX7 6, w ∈ wsX7_takeBox := by decide +kernel
theorem uX7_takeBox : yX7_takeBox.cls = RX7 ∧ yX7_takeBox.cls ≠ "java/lang/invoke/MethodHandle" ∧ yX7_takeBox.cls ≠ "java/lang/invoke/VarHandle" ∧ (parseMethodDescriptor yX7_takeBox.desc).map (fun d => d.parameters.length) = some 1 := by decide +kernel
set_option maxHeartbeats 4000000 in
set_option maxRecDepth 100000 in
theorem tX7_takeBox (l : Launch) (dC : Nat → ClassId) (dI : Nat → Nat → Nat) (cI cZ : ClassId) (aS : Nat → Nat) (sz : Nat) (R_width : Nat → Int32) (R_pinned : Nat → Int32) (R_from : Nat → Int32) (R_to : Nat → Int32) (R_turned : Nat → Int32) (R_reach : Nat → Int32) (p0 : Int32) (res : (Nat → Int32) × (Nat → Int32) × (Nat → Int32) × (Nat → Int32) × (Nat → Int32) × (Nat → Int32)) (hF : fX7_takeBox R_width R_pinned R_from R_to R_turned R_reach p0 = some res) : q_Mv l yX7_takeBox wsX7_takeBox rX7_takeBox (dC, dI) (q_ty cI cZ) [.ref (aS 0), .int p0] (iX7_takeBox aS cI cZ R_width R_pinned R_from R_to R_turned R_reach) (iX7_takeBox aS cI cZ res.1 res.2.1 res.2.2.1 res.2.2.2.1 res.2.2.2.2.1 res.2.2.2.2.2) sz := by
  refine q_metv (cc := cX7_takeBox) (maxL := 3) (by decide) rfl (Nat.le_of_ble_eq_true rfl) ?_
  intro p e s m args below meth c Q A H locs ls C hP hD hS hl hret
  obtain ⟨hx, hb, hml, hown, hts, hA, hK⟩ := C
  replace hl : lv_has ls 3 [(0, .ref (aS 0)), (1, .int p0)] := hl
  have k0 := hts (.fieldLink RX7 9 "RouteLayout$Routes" "width" "[I") (by decide +kernel)
  have k1 := hts (.fieldLink RX7 15 "RouteLayout$Routes" "pinned" "[I") (by decide +kernel)
  have k2 := hts (.fieldLink RX7 18 "RouteLayout$Routes" "from" "[I") (by decide +kernel)
  have k3 := hts (.fieldLink RX7 21 "RouteLayout$Routes" "to" "[I") (by decide +kernel)
  unfold fX7_takeBox at hF
  refine lv_aload_n hx hb dX7_takeBox_0 rfl (lv_at hl 0 rfl) ?_
  refine lv_iload_n hx hb dX7_takeBox_1 rfl (lv_at hl 1 rfl) ?_
  obtain ⟨q1, hcq1, hF⟩ := q_bd hF
  refine q_Vi (As := [.int p0]) (rest := []) ⟨hx, hb, hml, hown, hts⟩ hA hK hP hD hS (tX7_hasBox l dC dI cI cZ aS H.size R_width p0 q1 hcq1) (cwV 1 hts gX7_takeBox_X7_hasBox rfl rfl rfl uX7_hasBox ⟨Nat.le_of_ble_eq_true rfl, Nat.le_of_ble_eq_true rfl⟩) [0, 1] [(true, 0), (true, 1), (false, 2), (false, 3), (false, 4), (false, 5), (false, 6)] (iX7_takeBox aS cI cZ R_width R_pinned R_from R_to R_turned R_reach) rfl rfl rfl rfl rfl 7 0 rfl rfl rfl rfl hl.1 rfl (Nat.le_of_ble_eq_true rfl) dX7_takeBox_2 ⟨Nat.zero_le _, Nat.zero_le _⟩ (fun H locs hP hD hS => ?_)
  refine lv_if_ne (tgt := 9) hx hb dX7_takeBox_5 (by decide) (fun hc => ?_) (fun hc => ?_)
  · replace hF := q_f hc hF
    refine lv_aload_n hx hb dX7_takeBox_9 rfl (lv_at hl 0 rfl) ?_
    refine q_get (ci := 7) (C := RX7) (T := TX7) (N := 6) hx hb hts eX7_takeBox_X7 hown hK hP 0 rfl rfl 0 (Nat.le_of_ble_eq_true rfl) k0 rfl rfl dX7_takeBox_10 ?_
    refine lv_iload_n hx hb dX7_takeBox_13 rfl (lv_at hl 1 rfl) ?_
    refine lv_iconst (v := 0) hx hb dX7_takeBox_14 (by decide) ?_
    obtain ⟨hn2, hF⟩ := q_ck hF
    refine q_iast hx hb hK hP hD hS 1 0 (iX7_takeBox aS cI cZ (upd R_width p0.toNatClampNeg 0) R_pinned R_from R_to R_turned R_reach) rfl rfl hn2 rfl dX7_takeBox_15 (fun H locs hP hD hS => ?_)
    refine lv_aload_n hx hb dX7_takeBox_16 rfl (lv_at hl 0 rfl) ?_
    refine q_get (ci := 7) (C := RX7) (T := TX7) (N := 6) hx hb hts eX7_takeBox_X7 hown hK hP 0 rfl rfl 1 (Nat.le_of_ble_eq_true rfl) k1 rfl rfl dX7_takeBox_17 ?_
    refine lv_iload_n hx hb dX7_takeBox_20 rfl (lv_at hl 1 rfl) ?_
    refine lv_iconst (v := (-1)) hx hb dX7_takeBox_21 (by decide) ?_
    obtain ⟨hn3, hF⟩ := q_ck hF
    refine q_iast hx hb hK hP hD hS 2 0 (iX7_takeBox aS cI cZ (upd R_width p0.toNatClampNeg 0) (upd R_pinned p0.toNatClampNeg (-1)) R_from R_to R_turned R_reach) rfl rfl hn3 rfl dX7_takeBox_22 (fun H locs hP hD hS => ?_)
    refine lv_iconst (v := 0) hx hb dX7_takeBox_23 (by decide) ?_
    refine lv_istore_n (lv' := [(2, .int 0), (0, .ref (aS 0)), (1, .int p0)]) hx hb dX7_takeBox_24 rfl hl (by decide) rfl (fun ls hl => ?_)
    obtain ⟨q4_0, q4_1, hc4, hF⟩ := q_bd2 hF
    have X4 : ∀ (u4_0 : Nat → Int32) (u4_1 : Nat → Int32), (u4_0, u4_1) = (q4_0, q4_1) → ∀ (H : Heap) (locs : List Loc) (ls : Array Slot), va_P (dC, dI) vwCl (iX7_takeBox aS cI cZ (upd R_width p0.toNatClampNeg 0) (upd R_pinned p0.toNatClampNeg (-1)) u4_0 u4_1 R_turned R_reach) H → va_D A (iX7_takeBox aS cI cZ (upd R_width p0.toNatClampNeg 0) (upd R_pinned p0.toNatClampNeg (-1)) u4_0 u4_1 R_turned R_reach) → va_S A s.heap H locs → lv_has ls 3 [(0, .ref (aS 0))] → W p l e (headSpec wsX7_takeBox (rX7_takeBox)).room s m args below meth c H locs 0 0 Q (F0 m 71 ls []) := by
      intro u4_0 u4_1 hu H locs ls hP hD hS hl
      obtain ⟨e0, e1⟩ := q_inj2 hu
      subst e0 e1
      refine lv_aload_n hx hb dX7_takeBox_71 rfl (lv_at hl 0 rfl) ?_
      obtain ⟨q11_0, q11_1, hcq11, hF⟩ := q_bd2 hF
      refine q_Vv (As := []) (rest := []) ⟨hx, hb, hml, hown, hts⟩ hA hK hP hD hS (tX7_turnArrows l dC dI cI cZ aS H.size (upd R_width p0.toNatClampNeg 0) u4_0 u4_1 R_turned R_reach (q11_0, q11_1) hcq11) (cwV 0 hts gX7_takeBox_X7_turnArrows rfl rfl rfl uX7_turnArrows ⟨Nat.le_of_ble_eq_true rfl, Nat.le_of_ble_eq_true rfl⟩) [0, 1, 3, 4, 5, 6] [(true, 0), (true, 1), (false, 2), (true, 2), (true, 3), (true, 4), (true, 5)] (iX7_takeBox aS cI cZ (upd R_width p0.toNatClampNeg 0) (upd R_pinned p0.toNatClampNeg (-1)) u4_0 u4_1 q11_0 q11_1) rfl rfl rfl rfl rfl 7 0 rfl rfl rfl rfl hl.1 rfl (Nat.le_of_ble_eq_true rfl) dX7_takeBox_72 ⟨Nat.zero_le _, Nat.zero_le _⟩ (fun H locs hP hD hS => ?_)
      exact hret H locs ls 75 _ dX7_takeBox_75 (congrArg (fun z : (Nat → Int32) × (Nat → Int32) × (Nat → Int32) × (Nat → Int32) × (Nat → Int32) × (Nat → Int32) => (iX7_takeBox aS cI cZ z.1 z.2.1 z.2.2.1 z.2.2.2.1 z.2.2.2.2.1 z.2.2.2.2.2)) (Option.some.inj hF)) hP hD hS
    have L4 : ∀ st : Int32 × (Nat → Int32) × (Nat → Int32), q_lo (fun (st : Int32 × (Nat → Int32) × (Nat → Int32)) => bX7_takeBox_25 p0 st.1 st.2.1 st.2.2) st = some (q4_0, q4_1) → ∀ (H : Heap) (locs : List Loc) (ls : Array Slot), va_P (dC, dI) vwCl (iX7_takeBox aS cI cZ (upd R_width p0.toNatClampNeg 0) (upd R_pinned p0.toNatClampNeg (-1)) st.2.1 st.2.2 R_turned R_reach) H → va_D A (iX7_takeBox aS cI cZ (upd R_width p0.toNatClampNeg 0) (upd R_pinned p0.toNatClampNeg (-1)) st.2.1 st.2.2 R_turned R_reach) → va_S A s.heap H locs → lv_has ls 3 [(0, .ref (aS 0)), (1, .int p0), (2, .int st.1)] → W p l e (headSpec wsX7_takeBox (rX7_takeBox)).room s m args below meth c H locs 0 0 Q (F0 m 25 ls []) := by
      intro st hst
      refine q_walk (Wh := fun st : Int32 × (Nat → Int32) × (Nat → Int32) => ∀ (H : Heap) (locs : List Loc) (ls : Array Slot), va_P (dC, dI) vwCl (iX7_takeBox aS cI cZ (upd R_width p0.toNatClampNeg 0) (upd R_pinned p0.toNatClampNeg (-1)) st.2.1 st.2.2 R_turned R_reach) H → va_D A (iX7_takeBox aS cI cZ (upd R_width p0.toNatClampNeg 0) (upd R_pinned p0.toNatClampNeg (-1)) st.2.1 st.2.2 R_turned R_reach) → va_S A s.heap H locs → lv_has ls 3 [(0, .ref (aS 0)), (1, .int p0), (2, .int st.1)] → W p l e (headSpec wsX7_takeBox (rX7_takeBox)).room s m args below meth c H locs 0 0 Q (F0 m 25 ls [])) ?_ st hst
      clear hst st hF
      intro st o hF hin hex H locs ls hP hD hS hl
      obtain ⟨x2_4, R_from_4, R_to_4⟩ := st
      replace hF : bX7_takeBox_25 p0 x2_4 R_from_4 R_to_4 = some o := hF
      replace hP : va_P (dC, dI) vwCl (iX7_takeBox aS cI cZ (upd R_width p0.toNatClampNeg 0) (upd R_pinned p0.toNatClampNeg (-1)) R_from_4 R_to_4 R_turned R_reach) H := hP
      replace hD : va_D A (iX7_takeBox aS cI cZ (upd R_width p0.toNatClampNeg 0) (upd R_pinned p0.toNatClampNeg (-1)) R_from_4 R_to_4 R_turned R_reach) := hD
      replace hl : lv_has ls 3 [(0, .ref (aS 0)), (1, .int p0), (2, .int x2_4)] := hl
      unfold bX7_takeBox_25 at hF
      have JX7_TAKEBOX_65 : ∀ (R_from_5 : Nat → Int32) (R_to_5 : Nat → Int32) (x2_5 : Int32), jX7_takeBox_65 R_from_5 R_to_5 p0 x2_5 = some o → ∀ (H : Heap) (locs : List Loc) (ls : Array Slot), va_P (dC, dI) vwCl (iX7_takeBox aS cI cZ (upd R_width p0.toNatClampNeg 0) (upd R_pinned p0.toNatClampNeg (-1)) R_from_5 R_to_5 R_turned R_reach) H → va_D A (iX7_takeBox aS cI cZ (upd R_width p0.toNatClampNeg 0) (upd R_pinned p0.toNatClampNeg (-1)) R_from_5 R_to_5 R_turned R_reach) → va_S A s.heap H locs → lv_has ls 3 [(0, .ref (aS 0)), (1, .int p0), (2, .int x2_5)] → W p l e (headSpec wsX7_takeBox (rX7_takeBox)).room s m args below meth c H locs 0 0 Q (F0 m 65 ls []) := by
        intro R_from_5 R_to_5 x2_5 hF H locs ls hP hD hS hl
        unfold jX7_takeBox_65 at hF
        refine lv_iinc (v := (x2_5 + 1)) (lv' := [(2, .int (x2_5 + 1)), (0, .ref (aS 0)), (1, .int p0)]) hx hb dX7_takeBox_65 hl (k := 2) rfl rfl (by decide) rfl (fun ls hl => ?_)
        refine lv_goto (tgt := 25) hx hb dX7_takeBox_68 (by decide) ?_
        exact hin _ (Option.some.inj hF).symm H locs ls hP hD hS (lv_sub hl [1, 2, 0] rfl)
      have JX7_TAKEBOX_51 : ∀ (R_from_6 : Nat → Int32) (R_to_6 : Nat → Int32) (x2_6 : Int32), jX7_takeBox_51 R_from_6 R_to_6 p0 x2_6 = some o → ∀ (H : Heap) (locs : List Loc) (ls : Array Slot), va_P (dC, dI) vwCl (iX7_takeBox aS cI cZ (upd R_width p0.toNatClampNeg 0) (upd R_pinned p0.toNatClampNeg (-1)) R_from_6 R_to_6 R_turned R_reach) H → va_D A (iX7_takeBox aS cI cZ (upd R_width p0.toNatClampNeg 0) (upd R_pinned p0.toNatClampNeg (-1)) R_from_6 R_to_6 R_turned R_reach) → va_S A s.heap H locs → lv_has ls 3 [(0, .ref (aS 0)), (1, .int p0), (2, .int x2_6)] → W p l e (headSpec wsX7_takeBox (rX7_takeBox)).room s m args below meth c H locs 0 0 Q (F0 m 51 ls []) := by
        intro R_from_6 R_to_6 x2_6 hF H locs ls hP hD hS hl
        unfold jX7_takeBox_51 at hF
        refine lv_aload_n hx hb dX7_takeBox_51 rfl (lv_at hl 0 rfl) ?_
        refine q_get (ci := 7) (C := RX7) (T := TX7) (N := 6) hx hb hts eX7_takeBox_X7 hown hK hP 0 rfl rfl 2 (Nat.le_of_ble_eq_true rfl) k2 rfl rfl dX7_takeBox_52 ?_
        refine lv_iload_n hx hb dX7_takeBox_55 rfl (lv_at hl 2 rfl) ?_
        refine lv_iconst (v := (-1)) hx hb dX7_takeBox_56 (by decide) ?_
        obtain ⟨hn7, hF⟩ := q_ck hF
        refine q_iast hx hb hK hP hD hS 3 0 (iX7_takeBox aS cI cZ (upd R_width p0.toNatClampNeg 0) (upd R_pinned p0.toNatClampNeg (-1)) (upd R_from_6 x2_6.toNatClampNeg (-1)) R_to_6 R_turned R_reach) rfl rfl hn7 rfl dX7_takeBox_57 (fun H locs hP hD hS => ?_)
        refine lv_aload_n hx hb dX7_takeBox_58 rfl (lv_at hl 0 rfl) ?_
        refine q_get (ci := 7) (C := RX7) (T := TX7) (N := 6) hx hb hts eX7_takeBox_X7 hown hK hP 0 rfl rfl 3 (Nat.le_of_ble_eq_true rfl) k3 rfl rfl dX7_takeBox_59 ?_
        refine lv_iload_n hx hb dX7_takeBox_62 rfl (lv_at hl 2 rfl) ?_
        refine lv_iconst (v := (-1)) hx hb dX7_takeBox_63 (by decide) ?_
        obtain ⟨hn8, hF⟩ := q_ck hF
        refine q_iast hx hb hK hP hD hS 4 0 (iX7_takeBox aS cI cZ (upd R_width p0.toNatClampNeg 0) (upd R_pinned p0.toNatClampNeg (-1)) (upd R_from_6 x2_6.toNatClampNeg (-1)) (upd R_to_6 x2_6.toNatClampNeg (-1)) R_turned R_reach) rfl rfl hn8 rfl dX7_takeBox_64 (fun H locs hP hD hS => ?_)
        exact JX7_TAKEBOX_65 (upd R_from_6 x2_6.toNatClampNeg (-1)) (upd R_to_6 x2_6.toNatClampNeg (-1)) x2_6 hF H locs ls hP hD hS (lv_sub hl [0, 1, 2] rfl)
      refine lv_iload_n hx hb dX7_takeBox_25 rfl (lv_at hl 2 rfl) ?_
      refine lv_bipush (v := 24) hx hb dX7_takeBox_26 (by decide) ?_
      refine lv_icmp_ge (tgt := 71) hx hb dX7_takeBox_28 (by decide) (fun hc => ?_) (fun hc => ?_)
      · replace hF := q_t hc hF
        exact X4 _ _ (hex _ (Option.some.inj hF).symm) H locs ls hP hD hS (lv_sub hl [0] rfl)
      · replace hF := q_f hc hF
        refine lv_aload_n hx hb dX7_takeBox_31 rfl (lv_at hl 0 rfl) ?_
        refine q_get (ci := 7) (C := RX7) (T := TX7) (N := 6) hx hb hts eX7_takeBox_X7 hown hK hP 0 rfl rfl 2 (Nat.le_of_ble_eq_true rfl) k2 rfl rfl dX7_takeBox_32 ?_
        refine lv_iload_n hx hb dX7_takeBox_35 rfl (lv_at hl 2 rfl) ?_
        obtain ⟨hn9, hF⟩ := q_ck hF
        refine va_iald hx hb hK hP 3 0 rfl rfl hn9 dX7_takeBox_36 ?_
        refine lv_iload_n hx hb dX7_takeBox_37 rfl (lv_at hl 1 rfl) ?_
        refine lv_icmp_eq (tgt := 51) hx hb dX7_takeBox_38 (by decide) (fun hc => ?_) (fun hc => ?_)
        · replace hF := q_t hc hF
          exact JX7_TAKEBOX_51 R_from_4 R_to_4 x2_4 hF H locs ls hP hD hS (lv_sub hl [0, 1, 2] rfl)
        · replace hF := q_f hc hF
          refine lv_aload_n hx hb dX7_takeBox_41 rfl (lv_at hl 0 rfl) ?_
          refine q_get (ci := 7) (C := RX7) (T := TX7) (N := 6) hx hb hts eX7_takeBox_X7 hown hK hP 0 rfl rfl 3 (Nat.le_of_ble_eq_true rfl) k3 rfl rfl dX7_takeBox_42 ?_
          refine lv_iload_n hx hb dX7_takeBox_45 rfl (lv_at hl 2 rfl) ?_
          obtain ⟨hn10, hF⟩ := q_ck hF
          refine va_iald hx hb hK hP 4 0 rfl rfl hn10 dX7_takeBox_46 ?_
          refine lv_iload_n hx hb dX7_takeBox_47 rfl (lv_at hl 1 rfl) ?_
          refine lv_icmp_ne (tgt := 65) hx hb dX7_takeBox_48 (by decide) (fun hc => ?_) (fun hc => ?_)
          · replace hF := q_f hc hF
            exact JX7_TAKEBOX_65 R_from_4 R_to_4 x2_4 hF H locs ls hP hD hS (lv_sub hl [0, 1, 2] rfl)
          · replace hF := q_t hc hF
            exact JX7_TAKEBOX_51 R_from_4 R_to_4 x2_4 hF H locs ls hP hD hS (lv_sub hl [0, 1, 2] rfl)
    exact L4 (0, R_from, R_to) hc4 H locs ls hP hD hS (lv_sub hl [1, 2, 0] rfl)
  · replace hF := q_t hc hF
    exact hret H locs ls 8 _ dX7_takeBox_8 (congrArg (fun z : (Nat → Int32) × (Nat → Int32) × (Nat → Int32) × (Nat → Int32) × (Nat → Int32) × (Nat → Int32) => (iX7_takeBox aS cI cZ z.1 z.2.1 z.2.2.1 z.2.2.2.1 z.2.2.2.2.1 z.2.2.2.2.2)) (Option.some.inj hF)) hP hD hS
abbrev rX7_turnedArrows : Room := { frames := 2, cells := 0, slots := 0, locals := 42 }
theorem uX7_turnedArrows : yX7_turnedArrows.cls = RX7 ∧ yX7_turnedArrows.cls ≠ "java/lang/invoke/MethodHandle" ∧ yX7_turnedArrows.cls ≠ "java/lang/invoke/VarHandle" ∧ (parseMethodDescriptor yX7_turnedArrows.desc).map (fun d => d.parameters.length) = some 0 := by decide +kernel
set_option maxHeartbeats 4000000 in
set_option maxRecDepth 100000 in
theorem tX7_turnedArrows (l : Launch) (dC : Nat → ClassId) (dI : Nat → Nat → Nat) (cI cZ : ClassId) (aS : Nat → Nat) (sz : Nat) (R_from : Nat → Int32) (R_turned : Nat → Int32) (res : Int32) (hF : fX7_turnedArrows R_from R_turned = some res) : q_Mi l yX7_turnedArrows wsX7_turnedArrows rX7_turnedArrows (dC, dI) (q_ty cI cZ) [.ref (aS 0)] (iX7_turnedArrows aS cI cZ R_from R_turned) (iX7_turnedArrows aS cI cZ R_from R_turned) sz res := by
  refine q_meti (cc := cX7_turnedArrows) (maxL := 3) (by decide) rfl (Nat.le_of_ble_eq_true rfl) ?_
  intro p e s m args below meth c Q A H locs ls C hP hD hS hl hret
  obtain ⟨hx, hb, hml, hown, hts, hA, hK⟩ := C
  replace hl : lv_has ls 3 [(0, .ref (aS 0))] := hl
  unfold fX7_turnedArrows at hF
  refine lv_iconst (v := 0) hx hb dX7_turnedArrows_0 (by decide) ?_
  refine lv_istore_n (lv' := [(1, .int 0), (0, .ref (aS 0))]) hx hb dX7_turnedArrows_1 rfl hl (by decide) rfl (fun ls hl => ?_)
  refine lv_iconst (v := 0) hx hb dX7_turnedArrows_2 (by decide) ?_
  refine lv_istore_n (lv' := [(2, .int 0), (1, .int 0), (0, .ref (aS 0))]) hx hb dX7_turnedArrows_3 rfl hl (by decide) rfl (fun ls hl => ?_)
  obtain ⟨q1, hc1, hF⟩ := q_bd hF
  have X1 : ∀ (u1 : Int32), u1 = q1 → ∀ (H : Heap) (locs : List Loc) (ls : Array Slot), va_P (dC, dI) vwCl (iX7_turnedArrows aS cI cZ R_from R_turned) H → va_D A (iX7_turnedArrows aS cI cZ R_from R_turned) → va_S A s.heap H locs → lv_has ls 3 [(1, .int u1)] → W p l e (headSpec wsX7_turnedArrows (rX7_turnedArrows)).room s m args below meth c H locs 0 0 Q (F0 m 27 ls []) := by
    intro u1 hu H locs ls hP hD hS hl
    subst hu
    refine lv_iload_n hx hb dX7_turnedArrows_27 rfl (lv_at hl 0 rfl) ?_
    exact hret H locs ls 28 _ _ dX7_turnedArrows_28 (Option.some.inj hF) rfl hP hD hS
  have L1 : ∀ st : Int32 × Int32, q_lo (fun (st : Int32 × Int32) => bX7_turnedArrows_4 R_from R_turned st.1 st.2) st = some q1 → ∀ (H : Heap) (locs : List Loc) (ls : Array Slot), va_P (dC, dI) vwCl (iX7_turnedArrows aS cI cZ R_from R_turned) H → va_D A (iX7_turnedArrows aS cI cZ R_from R_turned) → va_S A s.heap H locs → lv_has ls 3 [(0, .ref (aS 0)), (1, .int st.1), (2, .int st.2)] → W p l e (headSpec wsX7_turnedArrows (rX7_turnedArrows)).room s m args below meth c H locs 0 0 Q (F0 m 4 ls []) := by
    intro st hst
    refine q_walk (Wh := fun st : Int32 × Int32 => ∀ (H : Heap) (locs : List Loc) (ls : Array Slot), va_P (dC, dI) vwCl (iX7_turnedArrows aS cI cZ R_from R_turned) H → va_D A (iX7_turnedArrows aS cI cZ R_from R_turned) → va_S A s.heap H locs → lv_has ls 3 [(0, .ref (aS 0)), (1, .int st.1), (2, .int st.2)] → W p l e (headSpec wsX7_turnedArrows (rX7_turnedArrows)).room s m args below meth c H locs 0 0 Q (F0 m 4 ls [])) ?_ st hst
    clear hst st hF
    intro st o hF hin hex H locs ls hP hD hS hl
    obtain ⟨x1_1, x2_1⟩ := st
    replace hF : bX7_turnedArrows_4 R_from R_turned x1_1 x2_1 = some o := hF
    replace hP : va_P (dC, dI) vwCl (iX7_turnedArrows aS cI cZ R_from R_turned) H := hP
    replace hD : va_D A (iX7_turnedArrows aS cI cZ R_from R_turned) := hD
    replace hl : lv_has ls 3 [(0, .ref (aS 0)), (1, .int x1_1), (2, .int x2_1)] := hl
    unfold bX7_turnedArrows_4 at hF
    have JX7_TURNEDARROWS_21 : ∀ (x1_2 : Int32) (x2_2 : Int32), jX7_turnedArrows_21 x1_2 x2_2 = some o → ∀ (H : Heap) (locs : List Loc) (ls : Array Slot), va_P (dC, dI) vwCl (iX7_turnedArrows aS cI cZ R_from R_turned) H → va_D A (iX7_turnedArrows aS cI cZ R_from R_turned) → va_S A s.heap H locs → lv_has ls 3 [(0, .ref (aS 0)), (1, .int x1_2), (2, .int x2_2)] → W p l e (headSpec wsX7_turnedArrows (rX7_turnedArrows)).room s m args below meth c H locs 0 0 Q (F0 m 21 ls []) := by
      intro x1_2 x2_2 hF H locs ls hP hD hS hl
      unfold jX7_turnedArrows_21 at hF
      refine lv_iinc (v := (x2_2 + 1)) (lv' := [(2, .int (x2_2 + 1)), (0, .ref (aS 0)), (1, .int x1_2)]) hx hb dX7_turnedArrows_21 hl (k := 2) rfl rfl (by decide) rfl (fun ls hl => ?_)
      refine lv_goto (tgt := 4) hx hb dX7_turnedArrows_24 (by decide) ?_
      exact hin _ (Option.some.inj hF).symm H locs ls hP hD hS (lv_sub hl [1, 2, 0] rfl)
    refine lv_iload_n hx hb dX7_turnedArrows_4 rfl (lv_at hl 2 rfl) ?_
    refine lv_bipush (v := 24) hx hb dX7_turnedArrows_5 (by decide) ?_
    refine lv_icmp_ge (tgt := 27) hx hb dX7_turnedArrows_7 (by decide) (fun hc => ?_) (fun hc => ?_)
    · replace hF := q_t hc hF
      exact X1 _ (hex _ (Option.some.inj hF).symm) H locs ls hP hD hS (lv_sub hl [1] rfl)
    · replace hF := q_f hc hF
      refine lv_aload_n hx hb dX7_turnedArrows_10 rfl (lv_at hl 0 rfl) ?_
      refine lv_iload_n hx hb dX7_turnedArrows_11 rfl (lv_at hl 2 rfl) ?_
      obtain ⟨q3, hcq3, hF⟩ := q_bd hF
      refine q_Vi (As := [.int x2_1]) (rest := []) ⟨hx, hb, hml, hown, hts⟩ hA hK hP hD hS (tX7_isTurned l dC dI cI cZ aS H.size R_from R_turned x2_1 q3 hcq3) (cwV 1 hts gX7_turnedArrows_X7_isTurned rfl rfl rfl uX7_isTurned ⟨Nat.le_of_ble_eq_true rfl, Nat.le_of_ble_eq_true rfl⟩) [0, 1, 2] [(true, 0), (true, 1), (true, 2)] (iX7_turnedArrows aS cI cZ R_from R_turned) rfl rfl rfl rfl rfl 7 0 rfl rfl rfl rfl hl.1 rfl (Nat.le_of_ble_eq_true rfl) dX7_turnedArrows_12 ⟨Nat.zero_le _, Nat.zero_le _⟩ (fun H locs hP hD hS => ?_)
      refine lv_if_eq (tgt := 21) hx hb dX7_turnedArrows_15 (by decide) (fun hc => ?_) (fun hc => ?_)
      · replace hF := q_t hc hF
        exact JX7_TURNEDARROWS_21 x1_1 x2_1 hF H locs ls hP hD hS (lv_sub hl [0, 1, 2] rfl)
      · replace hF := q_f hc hF
        refine lv_iinc (v := (x1_1 + 1)) (lv' := [(1, .int (x1_1 + 1)), (0, .ref (aS 0)), (2, .int x2_1)]) hx hb dX7_turnedArrows_18 hl (k := 1) rfl rfl (by decide) rfl (fun ls hl => ?_)
        exact JX7_TURNEDARROWS_21 (x1_1 + 1) x2_1 hF H locs ls hP hD hS (lv_sub hl [1, 0, 2] rfl)
  exact L1 (0, 0) hc1 H locs ls hP hD hS (lv_sub hl [2, 1, 0] rfl)
abbrev rX7_upperBox : Room := { frames := 1, cells := 0, slots := 0, locals := 21 }
theorem eX7_upperBox_X7 : ∀ w ∈ u_ws RX7 TX7 6, w ∈ wsX7_upperBox := by decide +kernel
theorem uX7_upperBox : yX7_upperBox.cls = RX7 ∧ yX7_upperBox.cls ≠ "java/lang/invoke/MethodHandle" ∧ yX7_upperBox.cls ≠ "java/lang/invoke/VarHandle" ∧ (parseMethodDescriptor yX7_upperBox.desc).map (fun d => d.parameters.length) = some 1 := by decide +kernel
set_option maxHeartbeats 4000000 in
set_option maxRecDepth 100000 in
theorem tX7_upperBox (l : Launch) (dC : Nat → ClassId) (dI : Nat → Nat → Nat) (cI cZ : ClassId) (aS : Nat → Nat) (sz : Nat) (R_from : Nat → Int32) (R_to : Nat → Int32) (R_turned : Nat → Int32) (p0 : Int32) (res : Int32) (hF : fX7_upperBox R_from R_to R_turned p0 = some res) : q_Mi l yX7_upperBox wsX7_upperBox rX7_upperBox (dC, dI) (q_ty cI cZ) [.ref (aS 0), .int p0] (iX7_upperBox aS cI cZ R_from R_to R_turned) (iX7_upperBox aS cI cZ R_from R_to R_turned) sz res := by
  refine q_meti (cc := cX7_upperBox) (maxL := 2) (by decide) rfl (Nat.le_of_ble_eq_true rfl) ?_
  intro p e s m args below meth c Q A H locs ls C hP hD hS hl hret
  obtain ⟨hx, hb, hml, hown, hts, hA, hK⟩ := C
  replace hl : lv_has ls 2 [(0, .ref (aS 0)), (1, .int p0)] := hl
  have k0 := hts (.fieldLink RX7 24 "RouteLayout$Routes" "turned" "[Z") (by decide +kernel)
  have k1 := hts (.fieldLink RX7 18 "RouteLayout$Routes" "from" "[I") (by decide +kernel)
  have k2 := hts (.fieldLink RX7 21 "RouteLayout$Routes" "to" "[I") (by decide +kernel)
  unfold fX7_upperBox at hF
  refine lv_aload_n hx hb dX7_upperBox_0 rfl (lv_at hl 0 rfl) ?_
  refine lv_iload_n hx hb dX7_upperBox_1 rfl (lv_at hl 1 rfl) ?_
  obtain ⟨q1, hcq1, hF⟩ := q_bd hF
  refine q_Vi (As := [.int p0]) (rest := []) ⟨hx, hb, hml, hown, hts⟩ hA hK hP hD hS (tX7_hasArrow l dC dI cI cZ aS H.size R_from p0 q1 hcq1) (cwV 1 hts gX7_upperBox_X7_hasArrow rfl rfl rfl uX7_hasArrow ⟨Nat.le_of_ble_eq_true rfl, Nat.le_of_ble_eq_true rfl⟩) [0, 1] [(true, 0), (true, 1), (false, 2), (false, 3)] (iX7_upperBox aS cI cZ R_from R_to R_turned) rfl rfl rfl rfl rfl 7 0 rfl rfl rfl rfl hl.1 rfl (Nat.le_of_ble_eq_true rfl) dX7_upperBox_2 ⟨Nat.zero_le _, Nat.zero_le _⟩ (fun H locs hP hD hS => ?_)
  refine lv_if_ne (tgt := 12) hx hb dX7_upperBox_5 (by decide) (fun hc => ?_) (fun hc => ?_)
  · replace hF := q_f hc hF
    refine lv_aload_n hx hb dX7_upperBox_12 rfl (lv_at hl 0 rfl) ?_
    refine q_get (ci := 7) (C := RX7) (T := TX7) (N := 6) hx hb hts eX7_upperBox_X7 hown hK hP 0 rfl rfl 4 (Nat.le_of_ble_eq_true rfl) k0 rfl rfl dX7_upperBox_13 ?_
    refine lv_iload_n hx hb dX7_upperBox_16 rfl (lv_at hl 1 rfl) ?_
    obtain ⟨hn2, hF⟩ := q_ck hF
    refine va_zald hx hb hK hP 3 1 rfl rfl hn2 dX7_upperBox_17 ?_
    refine lv_if_eq (tgt := 30) hx hb dX7_upperBox_18 (by decide) (fun hc => ?_) (fun hc => ?_)
    · replace hF := q_t hc hF
      refine lv_aload_n hx hb dX7_upperBox_30 rfl (lv_at hl 0 rfl) ?_
      refine q_get (ci := 7) (C := RX7) (T := TX7) (N := 6) hx hb hts eX7_upperBox_X7 hown hK hP 0 rfl rfl 2 (Nat.le_of_ble_eq_true rfl) k1 rfl rfl dX7_upperBox_31 ?_
      refine lv_iload_n hx hb dX7_upperBox_34 rfl (lv_at hl 1 rfl) ?_
      obtain ⟨hn3, hF⟩ := q_ck hF
      refine va_iald hx hb hK hP 1 0 rfl rfl hn3 dX7_upperBox_35 ?_
      exact hret H locs ls 36 _ _ dX7_upperBox_36 (Option.some.inj hF) rfl hP hD hS
    · replace hF := q_f hc hF
      refine lv_aload_n hx hb dX7_upperBox_21 rfl (lv_at hl 0 rfl) ?_
      refine q_get (ci := 7) (C := RX7) (T := TX7) (N := 6) hx hb hts eX7_upperBox_X7 hown hK hP 0 rfl rfl 3 (Nat.le_of_ble_eq_true rfl) k2 rfl rfl dX7_upperBox_22 ?_
      refine lv_iload_n hx hb dX7_upperBox_25 rfl (lv_at hl 1 rfl) ?_
      obtain ⟨hn4, hF⟩ := q_ck hF
      refine va_iald hx hb hK hP 2 0 rfl rfl hn4 dX7_upperBox_26 ?_
      refine lv_goto (tgt := 36) hx hb dX7_upperBox_27 (by decide) ?_
      exact hret H locs ls 36 _ _ dX7_upperBox_36 (Option.some.inj hF) rfl hP hD hS
  · replace hF := q_t hc hF
    refine lv_iconst (v := (-1)) hx hb dX7_upperBox_8 (by decide) ?_
    refine lv_goto (tgt := 36) hx hb dX7_upperBox_9 (by decide) ?_
    exact hret H locs ls 36 _ _ dX7_upperBox_36 (Option.some.inj hF) rfl hP hD hS
abbrev rX7_widthOf : Room := { frames := 1, cells := 0, slots := 0, locals := 21 }
theorem eX7_widthOf_X7 : ∀ w ∈ u_ws RX7 TX7 6, w ∈ wsX7_widthOf := by decide +kernel
theorem uX7_widthOf : yX7_widthOf.cls = RX7 ∧ yX7_widthOf.cls ≠ "java/lang/invoke/MethodHandle" ∧ yX7_widthOf.cls ≠ "java/lang/invoke/VarHandle" ∧ (parseMethodDescriptor yX7_widthOf.desc).map (fun d => d.parameters.length) = some 1 := by decide +kernel
set_option maxHeartbeats 4000000 in
set_option maxRecDepth 100000 in
theorem tX7_widthOf (l : Launch) (dC : Nat → ClassId) (dI : Nat → Nat → Nat) (cI cZ : ClassId) (aS : Nat → Nat) (sz : Nat) (R_width : Nat → Int32) (p0 : Int32) (res : Int32) (hF : fX7_widthOf R_width p0 = some res) : q_Mi l yX7_widthOf wsX7_widthOf rX7_widthOf (dC, dI) (q_ty cI cZ) [.ref (aS 0), .int p0] (iX7_widthOf aS cI cZ R_width) (iX7_widthOf aS cI cZ R_width) sz res := by
  refine q_meti (cc := cX7_widthOf) (maxL := 2) (by decide) rfl (Nat.le_of_ble_eq_true rfl) ?_
  intro p e s m args below meth c Q A H locs ls C hP hD hS hl hret
  obtain ⟨hx, hb, hml, hown, hts, hA, hK⟩ := C
  replace hl : lv_has ls 2 [(0, .ref (aS 0)), (1, .int p0)] := hl
  have k0 := hts (.fieldLink RX7 9 "RouteLayout$Routes" "width" "[I") (by decide +kernel)
  unfold fX7_widthOf at hF
  refine lv_aload_n hx hb dX7_widthOf_0 rfl (lv_at hl 0 rfl) ?_
  refine lv_iload_n hx hb dX7_widthOf_1 rfl (lv_at hl 1 rfl) ?_
  obtain ⟨q1, hcq1, hF⟩ := q_bd hF
  refine q_Vi (As := [.int p0]) (rest := []) ⟨hx, hb, hml, hown, hts⟩ hA hK hP hD hS (tX7_hasBox l dC dI cI cZ aS H.size R_width p0 q1 hcq1) (cwV 1 hts gX7_widthOf_X7_hasBox rfl rfl rfl uX7_hasBox ⟨Nat.le_of_ble_eq_true rfl, Nat.le_of_ble_eq_true rfl⟩) [0, 1] [(true, 0), (true, 1)] (iX7_widthOf aS cI cZ R_width) rfl rfl rfl rfl rfl 7 0 rfl rfl rfl rfl hl.1 rfl (Nat.le_of_ble_eq_true rfl) dX7_widthOf_2 ⟨Nat.zero_le _, Nat.zero_le _⟩ (fun H locs hP hD hS => ?_)
  refine lv_if_eq (tgt := 17) hx hb dX7_widthOf_5 (by decide) (fun hc => ?_) (fun hc => ?_)
  · replace hF := q_t hc hF
    refine lv_iconst (v := 1) hx hb dX7_widthOf_17 (by decide) ?_
    exact hret H locs ls 18 _ _ dX7_widthOf_18 (Option.some.inj hF) rfl hP hD hS
  · replace hF := q_f hc hF
    refine lv_aload_n hx hb dX7_widthOf_8 rfl (lv_at hl 0 rfl) ?_
    refine q_get (ci := 7) (C := RX7) (T := TX7) (N := 6) hx hb hts eX7_widthOf_X7 hown hK hP 0 rfl rfl 0 (Nat.le_of_ble_eq_true rfl) k0 rfl rfl dX7_widthOf_9 ?_
    refine lv_iload_n hx hb dX7_widthOf_12 rfl (lv_at hl 1 rfl) ?_
    obtain ⟨hn2, hF⟩ := q_ck hF
    refine va_iald hx hb hK hP 1 0 rfl rfl hn2 dX7_widthOf_13 ?_
    refine lv_goto (tgt := 18) hx hb dX7_widthOf_14 (by decide) ?_
    exact hret H locs ls 18 _ _ dX7_widthOf_18 (Option.some.inj hF) rfl hP hD hS
abbrev rX3_bottom : Room := { frames := 0, cells := 0, slots := 0, locals := 0 }
theorem eX3_bottom_X3 : ∀ w ∈ u_ws RX3 TX3 5, w ∈ wsX3_bottom := by decide +kernel
theorem uX3_bottom : yX3_bottom.cls = RX3 ∧ yX3_bottom.cls ≠ "java/lang/invoke/MethodHandle" ∧ yX3_bottom.cls ≠ "java/lang/invoke/VarHandle" ∧ (parseMethodDescriptor yX3_bottom.desc).map (fun d => d.parameters.length) = some 1 := by decide +kernel
set_option maxHeartbeats 4000000 in
set_option maxRecDepth 100000 in
theorem tX3_bottom (l : Launch) (dC : Nat → ClassId) (dI : Nat → Nat → Nat) (cI cZ : ClassId) (aS : Nat → Nat) (sz : Nat) (L_bottoms : Nat → Int32) (L_layers : Int32) (p0 : Int32) (res : Int32) (hF : fX3_bottom L_bottoms p0 = some res) : q_Mi l yX3_bottom wsX3_bottom rX3_bottom (dC, dI) (q_ty cI cZ) [.ref (aS 7), .int p0] (iX3_bottom aS cI cZ L_bottoms L_layers) (iX3_bottom aS cI cZ L_bottoms L_layers) sz res := by
  refine q_meti (cc := cX3_bottom) (maxL := 2) (by decide) rfl (Nat.le_of_ble_eq_true rfl) ?_
  intro p e s m args below meth c Q A H locs ls C hP hD hS hl hret
  obtain ⟨hx, hb, hml, hown, hts, hA, hK⟩ := C
  replace hl : lv_has ls 2 [(0, .ref (aS 7)), (1, .int p0)] := hl
  have k0 := hts (.fieldLink RX3 18 "RouteLayout$Levels" "bottoms" "[I") (by decide +kernel)
  unfold fX3_bottom at hF
  refine lv_iload_n hx hb dX3_bottom_0 rfl (lv_at hl 1 rfl) ?_
  refine lv_if_lt (tgt := 19) hx hb dX3_bottom_1 (by decide) (fun hc => ?_) (fun hc => ?_)
  · replace hF := q_t hc hF
    refine lv_iconst (v := (-1)) hx hb dX3_bottom_19 (by decide) ?_
    exact hret H locs ls 20 _ _ dX3_bottom_20 (Option.some.inj hF) rfl hP hD hS
  · replace hF := q_f hc hF
    refine lv_iload_n hx hb dX3_bottom_4 rfl (lv_at hl 1 rfl) ?_
    refine lv_bipush (v := 24) hx hb dX3_bottom_5 (by decide) ?_
    refine lv_icmp_ge (tgt := 19) hx hb dX3_bottom_7 (by decide) (fun hc => ?_) (fun hc => ?_)
    · replace hF := q_t hc hF
      refine lv_iconst (v := (-1)) hx hb dX3_bottom_19 (by decide) ?_
      exact hret H locs ls 20 _ _ dX3_bottom_20 (Option.some.inj hF) rfl hP hD hS
    · replace hF := q_f hc hF
      refine lv_aload_n hx hb dX3_bottom_10 rfl (lv_at hl 0 rfl) ?_
      refine q_get (ci := 3) (C := RX3) (T := TX3) (N := 5) hx hb hts eX3_bottom_X3 hown hK hP 0 rfl rfl 3 (Nat.le_of_ble_eq_true rfl) k0 rfl rfl dX3_bottom_11 ?_
      refine lv_iload_n hx hb dX3_bottom_14 rfl (lv_at hl 1 rfl) ?_
      obtain ⟨hn1, hF⟩ := q_ck hF
      refine va_iald hx hb hK hP 1 0 rfl rfl hn1 dX3_bottom_15 ?_
      refine lv_goto (tgt := 20) hx hb dX3_bottom_16 (by decide) ?_
      exact hret H locs ls 20 _ _ dX3_bottom_20 (Option.some.inj hF) rfl hP hD hS
abbrev rX3_countLayers : Room := { frames := 1, cells := 0, slots := 0, locals := 40 }
theorem eX3_countLayers_X3 : ∀ w ∈ u_ws RX3 TX3 5, w ∈ wsX3_countLayers := by decide +kernel
theorem uX3_countLayers : yX3_countLayers.cls = RX3 ∧ yX3_countLayers.cls ≠ "java/lang/invoke/MethodHandle" ∧ yX3_countLayers.cls ≠ "java/lang/invoke/VarHandle" ∧ (parseMethodDescriptor yX3_countLayers.desc).map (fun d => d.parameters.length) = some 0 := by decide +kernel
set_option maxHeartbeats 4000000 in
set_option maxRecDepth 100000 in
theorem tX3_countLayers (l : Launch) (dC : Nat → ClassId) (dI : Nat → Nat → Nat) (cI cZ : ClassId) (aS : Nat → Nat) (sz : Nat) (L_layer : Nat → Int32) (L_layers : Int32) (res : Int32) (hF : fX3_countLayers L_layer = some res) : q_Mv l yX3_countLayers wsX3_countLayers rX3_countLayers (dC, dI) (q_ty cI cZ) [.ref (aS 7)] (iX3_countLayers aS cI cZ L_layer L_layers) (iX3_countLayers aS cI cZ L_layer res) sz := by
  refine q_metv (cc := cX3_countLayers) (maxL := 2) (by decide) rfl (Nat.le_of_ble_eq_true rfl) ?_
  intro p e s m args below meth c Q A H locs ls C hP hD hS hl hret
  obtain ⟨hx, hb, hml, hown, hts, hA, hK⟩ := C
  replace hl : lv_has ls 2 [(0, .ref (aS 7))] := hl
  have k0 := hts (.fieldLink RX3 31 "RouteLayout$Levels" "layers" "I") (by decide +kernel)
  have k1 := hts (.fieldLink RX3 9 "RouteLayout$Levels" "layer" "[I") (by decide +kernel)
  have k2 := hts (.methodLink RX3 79 Lib.Math.max.name) (by decide +kernel)
  have k3 := hts (.static Lib.Math.max.name) (by decide +kernel)
  have k4 := hts (.initialized "java/lang/Math") (by decide +kernel)
  have k5 := hts (.code Lib.Math.max.name Lib.Math.max.code 2 (some .int)) (by decide +kernel)
  unfold fX3_countLayers at hF
  refine lv_aload_n hx hb dX3_countLayers_0 rfl (lv_at hl 0 rfl) ?_
  refine lv_iconst (v := 0) hx hb dX3_countLayers_1 (by decide) ?_
  refine q_put (ci := 3) (C := RX3) (T := TX3) (N := 5) (ty := .int) hx hb hts eX3_countLayers_X3 tyX3 tyX3_ok nmX3 hown hK hP hD hS 0 (iX3_countLayers aS cI cZ L_layer 0) rfl rfl 4 (Nat.le_of_ble_eq_true rfl) k0 rfl rfl (by decide +kernel) rfl rfl (Nat.le_of_ble_eq_true rfl) rfl dX3_countLayers_2 (fun H locs hP hD hS => ?_)
  refine lv_iconst (v := 0) hx hb dX3_countLayers_5 (by decide) ?_
  refine lv_istore_n (lv' := [(1, .int 0), (0, .ref (aS 7))]) hx hb dX3_countLayers_6 rfl hl (by decide) rfl (fun ls hl => ?_)
  obtain ⟨q1, hc1, hF⟩ := q_bd hF
  have X1 : ∀ (u1 : Int32), u1 = q1 → ∀ (H : Heap) (locs : List Loc) (ls : Array Slot), va_P (dC, dI) vwCl (iX3_countLayers aS cI cZ L_layer u1) H → va_D A (iX3_countLayers aS cI cZ L_layer u1) → va_S A s.heap H locs → lv_has ls 2 [] → W p l e (headSpec wsX3_countLayers (rX3_countLayers)).room s m args below meth c H locs 0 0 Q (F0 m 38 ls []) := by
    intro u1 hu H locs ls hP hD hS hl
    subst hu
    exact hret H locs ls 38 _ dX3_countLayers_38 (congrArg (fun z : Int32 => (iX3_countLayers aS cI cZ L_layer z)) (Option.some.inj hF)) hP hD hS
  have L1 : ∀ st : Int32 × Int32, q_lo (fun (st : Int32 × Int32) => bX3_countLayers_7 L_layer st.1 st.2) st = some q1 → ∀ (H : Heap) (locs : List Loc) (ls : Array Slot), va_P (dC, dI) vwCl (iX3_countLayers aS cI cZ L_layer st.2) H → va_D A (iX3_countLayers aS cI cZ L_layer st.2) → va_S A s.heap H locs → lv_has ls 2 [(0, .ref (aS 7)), (1, .int st.1)] → W p l e (headSpec wsX3_countLayers (rX3_countLayers)).room s m args below meth c H locs 0 0 Q (F0 m 7 ls []) := by
    intro st hst
    refine q_walk (Wh := fun st : Int32 × Int32 => ∀ (H : Heap) (locs : List Loc) (ls : Array Slot), va_P (dC, dI) vwCl (iX3_countLayers aS cI cZ L_layer st.2) H → va_D A (iX3_countLayers aS cI cZ L_layer st.2) → va_S A s.heap H locs → lv_has ls 2 [(0, .ref (aS 7)), (1, .int st.1)] → W p l e (headSpec wsX3_countLayers (rX3_countLayers)).room s m args below meth c H locs 0 0 Q (F0 m 7 ls [])) ?_ st hst
    clear hst st hF
    intro st o hF hin hex H locs ls hP hD hS hl
    obtain ⟨x1_1, L_layers_1⟩ := st
    replace hF : bX3_countLayers_7 L_layer x1_1 L_layers_1 = some o := hF
    replace hP : va_P (dC, dI) vwCl (iX3_countLayers aS cI cZ L_layer L_layers_1) H := hP
    replace hD : va_D A (iX3_countLayers aS cI cZ L_layer L_layers_1) := hD
    replace hl : lv_has ls 2 [(0, .ref (aS 7)), (1, .int x1_1)] := hl
    unfold bX3_countLayers_7 at hF
    refine lv_iload_n hx hb dX3_countLayers_7 rfl (lv_at hl 1 rfl) ?_
    refine lv_bipush (v := 16) hx hb dX3_countLayers_8 (by decide) ?_
    refine lv_icmp_ge (tgt := 38) hx hb dX3_countLayers_10 (by decide) (fun hc => ?_) (fun hc => ?_)
    · replace hF := q_t hc hF
      exact X1 _ (hex _ (Option.some.inj hF).symm) H locs ls hP hD hS (lv_sub hl [] rfl)
    · replace hF := q_f hc hF
      refine lv_aload_n hx hb dX3_countLayers_13 rfl (lv_at hl 0 rfl) ?_
      refine lv_aload_n hx hb dX3_countLayers_14 rfl (lv_at hl 0 rfl) ?_
      refine q_get (ci := 3) (C := RX3) (T := TX3) (N := 5) hx hb hts eX3_countLayers_X3 hown hK hP 0 rfl rfl 4 (Nat.le_of_ble_eq_true rfl) k0 rfl rfl dX3_countLayers_15 ?_
      refine lv_aload_n hx hb dX3_countLayers_18 rfl (lv_at hl 0 rfl) ?_
      refine q_get (ci := 3) (C := RX3) (T := TX3) (N := 5) hx hb hts eX3_countLayers_X3 hown hK hP 0 rfl rfl 1 (Nat.le_of_ble_eq_true rfl) k1 rfl rfl dX3_countLayers_19 ?_
      refine lv_iload_n hx hb dX3_countLayers_22 rfl (lv_at hl 1 rfl) ?_
      obtain ⟨hn2, hF⟩ := q_ck hF
      refine va_iald hx hb hK hP 1 0 rfl rfl hn2 dX3_countLayers_23 ?_
      refine lv_iconst (v := 1) hx hb dX3_countLayers_24 (by decide) ?_
      refine lv_iadd hx hb dX3_countLayers_25 ?_
      refine va_mmax hx hb (hml.trans hl.1.symm) hown k2 k3 k4 k5 (Nat.le_of_ble_eq_true rfl) (Nat.le_of_ble_eq_true rfl) (Nat.zero_le _) (Nat.zero_le _) dX3_countLayers_26 ?_
      refine q_put (ci := 3) (C := RX3) (T := TX3) (N := 5) (ty := .int) hx hb hts eX3_countLayers_X3 tyX3 tyX3_ok nmX3 hown hK hP hD hS 0 (iX3_countLayers aS cI cZ L_layer (if L_layers_1 < ((L_layer x1_1.toNatClampNeg) + 1) then ((L_layer x1_1.toNatClampNeg) + 1) else L_layers_1)) rfl rfl 4 (Nat.le_of_ble_eq_true rfl) k0 rfl rfl (by decide +kernel) rfl rfl (Nat.le_of_ble_eq_true rfl) rfl dX3_countLayers_29 (fun H locs hP hD hS => ?_)
      refine lv_iinc (v := (x1_1 + 1)) (lv' := [(1, .int (x1_1 + 1)), (0, .ref (aS 7))]) hx hb dX3_countLayers_32 hl (k := 1) rfl rfl (by decide) rfl (fun ls hl => ?_)
      refine lv_goto (tgt := 7) hx hb dX3_countLayers_35 (by decide) ?_
      exact hin _ (Option.some.inj hF).symm H locs ls hP hD hS (lv_sub hl [1, 0] rfl)
  exact L1 (0, 0) hc1 H locs ls hP hD hS (lv_sub hl [1, 0] rfl)
abbrev rX3_top : Room := { frames := 0, cells := 0, slots := 0, locals := 0 }
theorem eX3_top_X3 : ∀ w ∈ u_ws RX3 TX3 5, w ∈ wsX3_top := by decide +kernel
theorem uX3_top : yX3_top.cls = RX3 ∧ yX3_top.cls ≠ "java/lang/invoke/MethodHandle" ∧ yX3_top.cls ≠ "java/lang/invoke/VarHandle" ∧ (parseMethodDescriptor yX3_top.desc).map (fun d => d.parameters.length) = some 1 := by decide +kernel
set_option maxHeartbeats 4000000 in
set_option maxRecDepth 100000 in
theorem tX3_top (l : Launch) (dC : Nat → ClassId) (dI : Nat → Nat → Nat) (cI cZ : ClassId) (aS : Nat → Nat) (sz : Nat) (L_tops : Nat → Int32) (L_layers : Int32) (p0 : Int32) (res : Int32) (hF : fX3_top L_tops p0 = some res) : q_Mi l yX3_top wsX3_top rX3_top (dC, dI) (q_ty cI cZ) [.ref (aS 7), .int p0] (iX3_top aS cI cZ L_tops L_layers) (iX3_top aS cI cZ L_tops L_layers) sz res := by
  refine q_meti (cc := cX3_top) (maxL := 2) (by decide) rfl (Nat.le_of_ble_eq_true rfl) ?_
  intro p e s m args below meth c Q A H locs ls C hP hD hS hl hret
  obtain ⟨hx, hb, hml, hown, hts, hA, hK⟩ := C
  replace hl : lv_has ls 2 [(0, .ref (aS 7)), (1, .int p0)] := hl
  have k0 := hts (.fieldLink RX3 15 "RouteLayout$Levels" "tops" "[I") (by decide +kernel)
  unfold fX3_top at hF
  refine lv_iload_n hx hb dX3_top_0 rfl (lv_at hl 1 rfl) ?_
  refine lv_if_lt (tgt := 19) hx hb dX3_top_1 (by decide) (fun hc => ?_) (fun hc => ?_)
  · replace hF := q_t hc hF
    refine lv_iconst (v := (-1)) hx hb dX3_top_19 (by decide) ?_
    exact hret H locs ls 20 _ _ dX3_top_20 (Option.some.inj hF) rfl hP hD hS
  · replace hF := q_f hc hF
    refine lv_iload_n hx hb dX3_top_4 rfl (lv_at hl 1 rfl) ?_
    refine lv_bipush (v := 24) hx hb dX3_top_5 (by decide) ?_
    refine lv_icmp_ge (tgt := 19) hx hb dX3_top_7 (by decide) (fun hc => ?_) (fun hc => ?_)
    · replace hF := q_t hc hF
      refine lv_iconst (v := (-1)) hx hb dX3_top_19 (by decide) ?_
      exact hret H locs ls 20 _ _ dX3_top_20 (Option.some.inj hF) rfl hP hD hS
    · replace hF := q_f hc hF
      refine lv_aload_n hx hb dX3_top_10 rfl (lv_at hl 0 rfl) ?_
      refine q_get (ci := 3) (C := RX3) (T := TX3) (N := 5) hx hb hts eX3_top_X3 hown hK hP 0 rfl rfl 2 (Nat.le_of_ble_eq_true rfl) k0 rfl rfl dX3_top_11 ?_
      refine lv_iload_n hx hb dX3_top_14 rfl (lv_at hl 1 rfl) ?_
      obtain ⟨hn1, hF⟩ := q_ck hF
      refine va_iald hx hb hK hP 1 0 rfl rfl hn1 dX3_top_15 ?_
      refine lv_goto (tgt := 20) hx hb dX3_top_16 (by decide) ?_
      exact hret H locs ls 20 _ _ dX3_top_20 (Option.some.inj hF) rfl hP hD hS
abbrev rX3_hasPiece : Room := { frames := 1, cells := 0, slots := 0, locals := 21 }
theorem uX3_hasPiece : yX3_hasPiece.cls = RX3 ∧ yX3_hasPiece.cls ≠ "java/lang/invoke/MethodHandle" ∧ yX3_hasPiece.cls ≠ "java/lang/invoke/VarHandle" ∧ (parseMethodDescriptor yX3_hasPiece.desc).map (fun d => d.parameters.length) = some 2 := by decide +kernel
set_option maxHeartbeats 4000000 in
set_option maxRecDepth 100000 in
theorem tX3_hasPiece (l : Launch) (dC : Nat → ClassId) (dI : Nat → Nat → Nat) (cI cZ : ClassId) (aS : Nat → Nat) (sz : Nat) (L_tops : Nat → Int32) (L_bottoms : Nat → Int32) (L_layers : Int32) (p0 : Int32) (p1 : Int32) (res : Int32) (hF : fX3_hasPiece L_tops L_bottoms p0 p1 = some res) : q_Mi l yX3_hasPiece wsX3_hasPiece rX3_hasPiece (dC, dI) (q_ty cI cZ) [.ref (aS 7), .int p0, .int p1] (iX3_hasPiece aS cI cZ L_tops L_bottoms L_layers) (iX3_hasPiece aS cI cZ L_tops L_bottoms L_layers) sz res := by
  refine q_metz (cc := cX3_hasPiece) (maxL := 3) (by decide) rfl (Nat.le_of_ble_eq_true rfl) ?_
  intro p e s m args below meth c Q A H locs ls C hP hD hS hl hret
  obtain ⟨hx, hb, hml, hown, hts, hA, hK⟩ := C
  replace hl : lv_has ls 3 [(0, .ref (aS 7)), (1, .int p0), (2, .int p1)] := hl
  unfold fX3_hasPiece at hF
  refine lv_iload_n hx hb dX3_hasPiece_0 rfl (lv_at hl 2 rfl) ?_
  refine lv_aload_n hx hb dX3_hasPiece_1 rfl (lv_at hl 0 rfl) ?_
  refine lv_iload_n hx hb dX3_hasPiece_2 rfl (lv_at hl 1 rfl) ?_
  obtain ⟨q1, hcq1, hF⟩ := q_bd hF
  refine q_Vi (As := [.int p0]) (rest := [.int p1]) ⟨hx, hb, hml, hown, hts⟩ hA hK hP hD hS (tX3_top l dC dI cI cZ aS H.size L_tops L_layers p0 q1 hcq1) (cwV 1 hts gX3_hasPiece_X3_top rfl rfl rfl uX3_top ⟨Nat.le_of_ble_eq_true rfl, Nat.le_of_ble_eq_true rfl⟩) [0, 1] [(true, 0), (true, 1), (false, 2)] (iX3_hasPiece aS cI cZ L_tops L_bottoms L_layers) rfl rfl rfl rfl rfl 3 0 rfl rfl rfl rfl hl.1 rfl (Nat.le_of_ble_eq_true rfl) dX3_hasPiece_3 ⟨Nat.zero_le _, Nat.zero_le _⟩ (fun H locs hP hD hS => ?_)
  refine lv_icmp_lt (tgt := 22) hx hb dX3_hasPiece_6 (by decide) (fun hc => ?_) (fun hc => ?_)
  · replace hF := q_t hc hF
    refine lv_iconst (v := 0) hx hb dX3_hasPiece_22 (by decide) ?_
    exact hret H locs ls 23 _ _ dX3_hasPiece_23 (Or.inl rfl) (Option.some.inj hF) rfl hP hD hS
  · replace hF := q_f hc hF
    refine lv_iload_n hx hb dX3_hasPiece_9 rfl (lv_at hl 2 rfl) ?_
    refine lv_aload_n hx hb dX3_hasPiece_10 rfl (lv_at hl 0 rfl) ?_
    refine lv_iload_n hx hb dX3_hasPiece_11 rfl (lv_at hl 1 rfl) ?_
    obtain ⟨q2, hcq2, hF⟩ := q_bd hF
    refine q_Vi (As := [.int p0]) (rest := [.int p1]) ⟨hx, hb, hml, hown, hts⟩ hA hK hP hD hS (tX3_bottom l dC dI cI cZ aS H.size L_bottoms L_layers p0 q2 hcq2) (cwV 1 hts gX3_hasPiece_X3_bottom rfl rfl rfl uX3_bottom ⟨Nat.le_of_ble_eq_true rfl, Nat.le_of_ble_eq_true rfl⟩) [0, 2] [(true, 0), (false, 1), (true, 1)] (iX3_hasPiece aS cI cZ L_tops L_bottoms L_layers) rfl rfl rfl rfl rfl 3 0 rfl rfl rfl rfl hl.1 rfl (Nat.le_of_ble_eq_true rfl) dX3_hasPiece_12 ⟨Nat.zero_le _, Nat.zero_le _⟩ (fun H locs hP hD hS => ?_)
    refine lv_icmp_ge (tgt := 22) hx hb dX3_hasPiece_15 (by decide) (fun hc => ?_) (fun hc => ?_)
    · replace hF := q_t hc hF
      refine lv_iconst (v := 0) hx hb dX3_hasPiece_22 (by decide) ?_
      exact hret H locs ls 23 _ _ dX3_hasPiece_23 (Or.inl rfl) (Option.some.inj hF) rfl hP hD hS
    · replace hF := q_f hc hF
      refine lv_iconst (v := 1) hx hb dX3_hasPiece_18 (by decide) ?_
      refine lv_goto (tgt := 23) hx hb dX3_hasPiece_19 (by decide) ?_
      exact hret H locs ls 23 _ _ dX3_hasPiece_23 (Or.inr rfl) (Option.some.inj hF) rfl hP hD hS
abbrev rX3_layerOf : Room := { frames := 0, cells := 0, slots := 0, locals := 0 }
theorem eX3_layerOf_X3 : ∀ w ∈ u_ws RX3 TX3 5, w ∈ wsX3_layerOf := by decide +kernel
theorem uX3_layerOf : yX3_layerOf.cls = RX3 ∧ yX3_layerOf.cls ≠ "java/lang/invoke/MethodHandle" ∧ yX3_layerOf.cls ≠ "java/lang/invoke/VarHandle" ∧ (parseMethodDescriptor yX3_layerOf.desc).map (fun d => d.parameters.length) = some 1 := by decide +kernel
set_option maxHeartbeats 4000000 in
set_option maxRecDepth 100000 in
theorem tX3_layerOf (l : Launch) (dC : Nat → ClassId) (dI : Nat → Nat → Nat) (cI cZ : ClassId) (aS : Nat → Nat) (sz : Nat) (L_layer : Nat → Int32) (L_layers : Int32) (p0 : Int32) (res : Int32) (hF : fX3_layerOf L_layer p0 = some res) : q_Mi l yX3_layerOf wsX3_layerOf rX3_layerOf (dC, dI) (q_ty cI cZ) [.ref (aS 7), .int p0] (iX3_layerOf aS cI cZ L_layer L_layers) (iX3_layerOf aS cI cZ L_layer L_layers) sz res := by
  refine q_meti (cc := cX3_layerOf) (maxL := 2) (by decide) rfl (Nat.le_of_ble_eq_true rfl) ?_
  intro p e s m args below meth c Q A H locs ls C hP hD hS hl hret
  obtain ⟨hx, hb, hml, hown, hts, hA, hK⟩ := C
  replace hl : lv_has ls 2 [(0, .ref (aS 7)), (1, .int p0)] := hl
  have k0 := hts (.fieldLink RX3 9 "RouteLayout$Levels" "layer" "[I") (by decide +kernel)
  unfold fX3_layerOf at hF
  refine lv_iload_n hx hb dX3_layerOf_0 rfl (lv_at hl 1 rfl) ?_
  refine lv_if_lt (tgt := 19) hx hb dX3_layerOf_1 (by decide) (fun hc => ?_) (fun hc => ?_)
  · replace hF := q_t hc hF
    refine lv_iconst (v := (-1)) hx hb dX3_layerOf_19 (by decide) ?_
    exact hret H locs ls 20 _ _ dX3_layerOf_20 (Option.some.inj hF) rfl hP hD hS
  · replace hF := q_f hc hF
    refine lv_iload_n hx hb dX3_layerOf_4 rfl (lv_at hl 1 rfl) ?_
    refine lv_bipush (v := 16) hx hb dX3_layerOf_5 (by decide) ?_
    refine lv_icmp_ge (tgt := 19) hx hb dX3_layerOf_7 (by decide) (fun hc => ?_) (fun hc => ?_)
    · replace hF := q_t hc hF
      refine lv_iconst (v := (-1)) hx hb dX3_layerOf_19 (by decide) ?_
      exact hret H locs ls 20 _ _ dX3_layerOf_20 (Option.some.inj hF) rfl hP hD hS
    · replace hF := q_f hc hF
      refine lv_aload_n hx hb dX3_layerOf_10 rfl (lv_at hl 0 rfl) ?_
      refine q_get (ci := 3) (C := RX3) (T := TX3) (N := 5) hx hb hts eX3_layerOf_X3 hown hK hP 0 rfl rfl 1 (Nat.le_of_ble_eq_true rfl) k0 rfl rfl dX3_layerOf_11 ?_
      refine lv_iload_n hx hb dX3_layerOf_14 rfl (lv_at hl 1 rfl) ?_
      obtain ⟨hn1, hF⟩ := q_ck hF
      refine va_iald hx hb hK hP 1 0 rfl rfl hn1 dX3_layerOf_15 ?_
      refine lv_goto (tgt := 20) hx hb dX3_layerOf_16 (by decide) ?_
      exact hret H locs ls 20 _ _ dX3_layerOf_20 (Option.some.inj hF) rfl hP hD hS
abbrev rX3_holds : Room := { frames := 1, cells := 0, slots := 0, locals := 21 }
theorem eX3_holds_X3 : ∀ w ∈ u_ws RX3 TX3 5, w ∈ wsX3_holds := by decide +kernel
theorem uX3_holds : yX3_holds.cls = RX3 ∧ yX3_holds.cls ≠ "java/lang/invoke/MethodHandle" ∧ yX3_holds.cls ≠ "java/lang/invoke/VarHandle" ∧ (parseMethodDescriptor yX3_holds.desc).map (fun d => d.parameters.length) = some 2 := by decide +kernel
set_option maxHeartbeats 4000000 in
set_option maxRecDepth 100000 in
theorem tX3_holds (l : Launch) (dC : Nat → ClassId) (dI : Nat → Nat → Nat) (cI cZ : ClassId) (aS : Nat → Nat) (sz : Nat) (R_width : Nat → Int32) (L_layer : Nat → Int32) (L_tops : Nat → Int32) (L_bottoms : Nat → Int32) (L_layers : Int32) (p0 : Int32) (p1 : Int32) (res : Int32) (hF : fX3_holds R_width L_layer L_tops L_bottoms p0 p1 = some res) : q_Mi l yX3_holds wsX3_holds rX3_holds (dC, dI) (q_ty cI cZ) [.ref (aS 7), .int p0, .int p1] (iX3_holds aS cI cZ R_width L_layer L_tops L_bottoms L_layers) (iX3_holds aS cI cZ R_width L_layer L_tops L_bottoms L_layers) sz res := by
  refine q_metz (cc := cX3_holds) (maxL := 4) (by decide) rfl (Nat.le_of_ble_eq_true rfl) ?_
  intro p e s m args below meth c Q A H locs ls C hP hD hS hl hret
  obtain ⟨hx, hb, hml, hown, hts, hA, hK⟩ := C
  replace hl : lv_has ls 4 [(0, .ref (aS 7)), (1, .int p0), (2, .int p1)] := hl
  have k0 := hts (.fieldLink RX3 21 "RouteLayout$Levels" "routes" "LRouteLayout$Routes;") (by decide +kernel)
  unfold fX3_holds at hF
  refine lv_iload_n hx hb dX3_holds_0 rfl (lv_at hl 2 rfl) ?_
  refine lv_bipush (v := 16) hx hb dX3_holds_1 (by decide) ?_
  refine lv_icmp_ge (tgt := 32) hx hb dX3_holds_3 (by decide) (fun hc => ?_) (fun hc => ?_)
  · replace hF := q_t hc hF
    refine lv_iload_n hx hb dX3_holds_32 rfl (lv_at hl 2 rfl) ?_
    refine lv_bipush (v := 16) hx hb dX3_holds_33 (by decide) ?_
    refine lv_isub hx hb dX3_holds_35 ?_
    refine lv_istore_n (lv' := [(3, .int (p1 - 16)), (0, .ref (aS 7)), (1, .int p0), (2, .int p1)]) hx hb dX3_holds_36 rfl hl (by decide) rfl (fun ls hl => ?_)
    refine lv_iload_n hx hb dX3_holds_37 rfl (lv_at hl 2 rfl) ?_
    refine lv_aload_n hx hb dX3_holds_38 rfl (lv_at hl 1 rfl) ?_
    refine lv_iload_n hx hb dX3_holds_39 rfl (lv_at hl 0 rfl) ?_
    obtain ⟨q1, hcq1, hF⟩ := q_bd hF
    refine q_Vi (As := [.int (p1 - 16)]) (rest := [.int p0]) ⟨hx, hb, hml, hown, hts⟩ hA hK hP hD hS (tX3_top l dC dI cI cZ aS H.size L_tops L_layers (p1 - 16) q1 hcq1) (cwV 1 hts gX3_holds_X3_top rfl rfl rfl uX3_top ⟨Nat.le_of_ble_eq_true rfl, Nat.le_of_ble_eq_true rfl⟩) [0, 4] [(true, 0), (false, 1), (false, 2), (false, 3), (true, 1), (false, 5)] (iX3_holds aS cI cZ R_width L_layer L_tops L_bottoms L_layers) rfl rfl rfl rfl rfl 3 0 rfl rfl rfl rfl hl.1 rfl (Nat.le_of_ble_eq_true rfl) dX3_holds_40 ⟨Nat.zero_le _, Nat.zero_le _⟩ (fun H locs hP hD hS => ?_)
    refine lv_icmp_le (tgt := 59) hx hb dX3_holds_43 (by decide) (fun hc => ?_) (fun hc => ?_)
    · replace hF := q_t hc hF
      refine lv_iconst (v := 0) hx hb dX3_holds_59 (by decide) ?_
      exact hret H locs ls 60 _ _ dX3_holds_60 (Or.inl rfl) (Option.some.inj hF) rfl hP hD hS
    · replace hF := q_f hc hF
      refine lv_iload_n hx hb dX3_holds_46 rfl (lv_at hl 2 rfl) ?_
      refine lv_aload_n hx hb dX3_holds_47 rfl (lv_at hl 1 rfl) ?_
      refine lv_iload_n hx hb dX3_holds_48 rfl (lv_at hl 0 rfl) ?_
      obtain ⟨q2, hcq2, hF⟩ := q_bd hF
      refine q_Vi (As := [.int (p1 - 16)]) (rest := [.int p0]) ⟨hx, hb, hml, hown, hts⟩ hA hK hP hD hS (tX3_bottom l dC dI cI cZ aS H.size L_bottoms L_layers (p1 - 16) q2 hcq2) (cwV 1 hts gX3_holds_X3_bottom rfl rfl rfl uX3_bottom ⟨Nat.le_of_ble_eq_true rfl, Nat.le_of_ble_eq_true rfl⟩) [0, 5] [(true, 0), (false, 1), (false, 2), (false, 3), (false, 4), (true, 1)] (iX3_holds aS cI cZ R_width L_layer L_tops L_bottoms L_layers) rfl rfl rfl rfl rfl 3 0 rfl rfl rfl rfl hl.1 rfl (Nat.le_of_ble_eq_true rfl) dX3_holds_49 ⟨Nat.zero_le _, Nat.zero_le _⟩ (fun H locs hP hD hS => ?_)
      refine lv_icmp_ge (tgt := 59) hx hb dX3_holds_52 (by decide) (fun hc => ?_) (fun hc => ?_)
      · replace hF := q_t hc hF
        refine lv_iconst (v := 0) hx hb dX3_holds_59 (by decide) ?_
        exact hret H locs ls 60 _ _ dX3_holds_60 (Or.inl rfl) (Option.some.inj hF) rfl hP hD hS
      · replace hF := q_f hc hF
        refine lv_iconst (v := 1) hx hb dX3_holds_55 (by decide) ?_
        refine lv_goto (tgt := 60) hx hb dX3_holds_56 (by decide) ?_
        exact hret H locs ls 60 _ _ dX3_holds_60 (Or.inr rfl) (Option.some.inj hF) rfl hP hD hS
  · replace hF := q_f hc hF
    refine lv_aload_n hx hb dX3_holds_6 rfl (lv_at hl 0 rfl) ?_
    refine q_get (ci := 3) (C := RX3) (T := TX3) (N := 5) hx hb hts eX3_holds_X3 hown hK hP 0 rfl rfl 0 (Nat.le_of_ble_eq_true rfl) k0 rfl rfl dX3_holds_7 ?_
    refine lv_iload_n hx hb dX3_holds_10 rfl (lv_at hl 2 rfl) ?_
    obtain ⟨q3, hcq3, hF⟩ := q_bd hF
    refine q_Vi (As := [.int p1]) (rest := []) ⟨hx, hb, hml, hown, hts⟩ hA hK hP hD hS (tX7_hasBox l dC dI cI cZ aS H.size R_width p1 q3 hcq3) (cwV 1 hts gX3_holds_X7_hasBox rfl rfl rfl uX7_hasBox ⟨Nat.le_of_ble_eq_true rfl, Nat.le_of_ble_eq_true rfl⟩) [1, 2] [(false, 0), (true, 0), (true, 1), (false, 3), (false, 4), (false, 5)] (iX3_holds aS cI cZ R_width L_layer L_tops L_bottoms L_layers) rfl rfl rfl rfl rfl 7 0 rfl rfl rfl rfl hl.1 rfl (Nat.le_of_ble_eq_true rfl) dX3_holds_11 ⟨Nat.zero_le _, Nat.zero_le _⟩ (fun H locs hP hD hS => ?_)
    refine lv_if_eq (tgt := 30) hx hb dX3_holds_14 (by decide) (fun hc => ?_) (fun hc => ?_)
    · replace hF := q_t hc hF
      refine lv_iconst (v := 0) hx hb dX3_holds_30 (by decide) ?_
      exact hret H locs ls 31 _ _ dX3_holds_31 (Or.inl rfl) (Option.some.inj hF) rfl hP hD hS
    · replace hF := q_f hc hF
      refine lv_aload_n hx hb dX3_holds_17 rfl (lv_at hl 0 rfl) ?_
      refine lv_iload_n hx hb dX3_holds_18 rfl (lv_at hl 2 rfl) ?_
      obtain ⟨q4, hcq4, hF⟩ := q_bd hF
      refine q_Vi (As := [.int p1]) (rest := []) ⟨hx, hb, hml, hown, hts⟩ hA hK hP hD hS (tX3_layerOf l dC dI cI cZ aS H.size L_layer L_layers p1 q4 hcq4) (cwV 1 hts gX3_holds_X3_layerOf rfl rfl rfl uX3_layerOf ⟨Nat.le_of_ble_eq_true rfl, Nat.le_of_ble_eq_true rfl⟩) [0, 3] [(true, 0), (false, 1), (false, 2), (true, 1), (false, 4), (false, 5)] (iX3_holds aS cI cZ R_width L_layer L_tops L_bottoms L_layers) rfl rfl rfl rfl rfl 3 0 rfl rfl rfl rfl hl.1 rfl (Nat.le_of_ble_eq_true rfl) dX3_holds_19 ⟨Nat.zero_le _, Nat.zero_le _⟩ (fun H locs hP hD hS => ?_)
      refine lv_iload_n hx hb dX3_holds_22 rfl (lv_at hl 1 rfl) ?_
      refine lv_icmp_ne (tgt := 30) hx hb dX3_holds_23 (by decide) (fun hc => ?_) (fun hc => ?_)
      · replace hF := q_f hc hF
        refine lv_iconst (v := 0) hx hb dX3_holds_30 (by decide) ?_
        exact hret H locs ls 31 _ _ dX3_holds_31 (Or.inl rfl) (Option.some.inj hF) rfl hP hD hS
      · replace hF := q_t hc hF
        refine lv_iconst (v := 1) hx hb dX3_holds_26 (by decide) ?_
        refine lv_goto (tgt := 31) hx hb dX3_holds_27 (by decide) ?_
        exact hret H locs ls 31 _ _ dX3_holds_31 (Or.inr rfl) (Option.some.inj hF) rfl hP hD hS
abbrev rX3_itemOf : Room := { frames := 2, cells := 0, slots := 0, locals := 42 }
theorem eX3_itemOf_X3 : ∀ w ∈ u_ws RX3 TX3 5, w ∈ wsX3_itemOf := by decide +kernel
theorem uX3_itemOf : yX3_itemOf.cls = RX3 ∧ yX3_itemOf.cls ≠ "java/lang/invoke/MethodHandle" ∧ yX3_itemOf.cls ≠ "java/lang/invoke/VarHandle" ∧ (parseMethodDescriptor yX3_itemOf.desc).map (fun d => d.parameters.length) = some 2 := by decide +kernel
set_option maxHeartbeats 4000000 in
set_option maxRecDepth 100000 in
theorem tX3_itemOf (l : Launch) (dC : Nat → ClassId) (dI : Nat → Nat → Nat) (cI cZ : ClassId) (aS : Nat → Nat) (sz : Nat) (R_from : Nat → Int32) (R_to : Nat → Int32) (R_turned : Nat → Int32) (L_tops : Nat → Int32) (L_bottoms : Nat → Int32) (L_layers : Int32) (p0 : Int32) (p1 : Int32) (res : Int32) (hF : fX3_itemOf R_from R_to R_turned L_tops L_bottoms p0 p1 = some res) : q_Mi l yX3_itemOf wsX3_itemOf rX3_itemOf (dC, dI) (q_ty cI cZ) [.ref (aS 7), .int p0, .int p1] (iX3_itemOf aS cI cZ R_from R_to R_turned L_tops L_bottoms L_layers) (iX3_itemOf aS cI cZ R_from R_to R_turned L_tops L_bottoms L_layers) sz res := by
  refine q_meti (cc := cX3_itemOf) (maxL := 3) (by decide) rfl (Nat.le_of_ble_eq_true rfl) ?_
  intro p e s m args below meth c Q A H locs ls C hP hD hS hl hret
  obtain ⟨hx, hb, hml, hown, hts, hA, hK⟩ := C
  replace hl : lv_has ls 3 [(0, .ref (aS 7)), (1, .int p0), (2, .int p1)] := hl
  have k0 := hts (.fieldLink RX3 21 "RouteLayout$Levels" "routes" "LRouteLayout$Routes;") (by decide +kernel)
  unfold fX3_itemOf at hF
  refine lv_iload_n hx hb dX3_itemOf_0 rfl (lv_at hl 2 rfl) ?_
  refine lv_aload_n hx hb dX3_itemOf_1 rfl (lv_at hl 0 rfl) ?_
  refine lv_iload_n hx hb dX3_itemOf_2 rfl (lv_at hl 1 rfl) ?_
  obtain ⟨q1, hcq1, hF⟩ := q_bd hF
  refine q_Vi (As := [.int p0]) (rest := [.int p1]) ⟨hx, hb, hml, hown, hts⟩ hA hK hP hD hS (tX3_top l dC dI cI cZ aS H.size L_tops L_layers p0 q1 hcq1) (cwV 1 hts gX3_itemOf_X3_top rfl rfl rfl uX3_top ⟨Nat.le_of_ble_eq_true rfl, Nat.le_of_ble_eq_true rfl⟩) [0, 5] [(true, 0), (false, 1), (false, 2), (false, 3), (false, 4), (true, 1), (false, 6)] (iX3_itemOf aS cI cZ R_from R_to R_turned L_tops L_bottoms L_layers) rfl rfl rfl rfl rfl 3 0 rfl rfl rfl rfl hl.1 rfl (Nat.le_of_ble_eq_true rfl) dX3_itemOf_3 ⟨Nat.zero_le _, Nat.zero_le _⟩ (fun H locs hP hD hS => ?_)
  refine lv_icmp_ne (tgt := 18) hx hb dX3_itemOf_6 (by decide) (fun hc => ?_) (fun hc => ?_)
  · replace hF := q_f hc hF
    refine lv_iload_n hx hb dX3_itemOf_18 rfl (lv_at hl 2 rfl) ?_
    refine lv_aload_n hx hb dX3_itemOf_19 rfl (lv_at hl 0 rfl) ?_
    refine lv_iload_n hx hb dX3_itemOf_20 rfl (lv_at hl 1 rfl) ?_
    obtain ⟨q2, hcq2, hF⟩ := q_bd hF
    refine q_Vi (As := [.int p0]) (rest := [.int p1]) ⟨hx, hb, hml, hown, hts⟩ hA hK hP hD hS (tX3_bottom l dC dI cI cZ aS H.size L_bottoms L_layers p0 q2 hcq2) (cwV 1 hts gX3_itemOf_X3_bottom rfl rfl rfl uX3_bottom ⟨Nat.le_of_ble_eq_true rfl, Nat.le_of_ble_eq_true rfl⟩) [0, 6] [(true, 0), (false, 1), (false, 2), (false, 3), (false, 4), (false, 5), (true, 1)] (iX3_itemOf aS cI cZ R_from R_to R_turned L_tops L_bottoms L_layers) rfl rfl rfl rfl rfl 3 0 rfl rfl rfl rfl hl.1 rfl (Nat.le_of_ble_eq_true rfl) dX3_itemOf_21 ⟨Nat.zero_le _, Nat.zero_le _⟩ (fun H locs hP hD hS => ?_)
    refine lv_icmp_ne (tgt := 38) hx hb dX3_itemOf_24 (by decide) (fun hc => ?_) (fun hc => ?_)
    · replace hF := q_f hc hF
      refine lv_bipush (v := 16) hx hb dX3_itemOf_38 (by decide) ?_
      refine lv_iload_n hx hb dX3_itemOf_40 rfl (lv_at hl 1 rfl) ?_
      refine lv_iadd hx hb dX3_itemOf_41 ?_
      exact hret H locs ls 42 _ _ dX3_itemOf_42 (Option.some.inj hF) rfl hP hD hS
    · replace hF := q_t hc hF
      refine lv_aload_n hx hb dX3_itemOf_27 rfl (lv_at hl 0 rfl) ?_
      refine q_get (ci := 3) (C := RX3) (T := TX3) (N := 5) hx hb hts eX3_itemOf_X3 hown hK hP 0 rfl rfl 0 (Nat.le_of_ble_eq_true rfl) k0 rfl rfl dX3_itemOf_28 ?_
      refine lv_iload_n hx hb dX3_itemOf_31 rfl (lv_at hl 1 rfl) ?_
      obtain ⟨q3, hcq3, hF⟩ := q_bd hF
      refine q_Vi (As := [.int p0]) (rest := []) ⟨hx, hb, hml, hown, hts⟩ hA hK hP hD hS (tX7_lowerBox l dC dI cI cZ aS H.size R_from R_to R_turned p0 q3 hcq3) (cwV 1 hts gX3_itemOf_X7_lowerBox rfl rfl rfl uX7_lowerBox ⟨Nat.le_of_ble_eq_true rfl, Nat.le_of_ble_eq_true rfl⟩) [1, 2, 3, 4] [(false, 0), (true, 0), (true, 1), (true, 2), (true, 3), (false, 5), (false, 6)] (iX3_itemOf aS cI cZ R_from R_to R_turned L_tops L_bottoms L_layers) rfl rfl rfl rfl rfl 7 0 rfl rfl rfl rfl hl.1 rfl (Nat.le_of_ble_eq_true rfl) dX3_itemOf_32 ⟨Nat.zero_le _, Nat.zero_le _⟩ (fun H locs hP hD hS => ?_)
      refine lv_goto (tgt := 42) hx hb dX3_itemOf_35 (by decide) ?_
      exact hret H locs ls 42 _ _ dX3_itemOf_42 (Option.some.inj hF) rfl hP hD hS
  · replace hF := q_t hc hF
    refine lv_aload_n hx hb dX3_itemOf_9 rfl (lv_at hl 0 rfl) ?_
    refine q_get (ci := 3) (C := RX3) (T := TX3) (N := 5) hx hb hts eX3_itemOf_X3 hown hK hP 0 rfl rfl 0 (Nat.le_of_ble_eq_true rfl) k0 rfl rfl dX3_itemOf_10 ?_
    refine lv_iload_n hx hb dX3_itemOf_13 rfl (lv_at hl 1 rfl) ?_
    obtain ⟨q4, hcq4, hF⟩ := q_bd hF
    refine q_Vi (As := [.int p0]) (rest := []) ⟨hx, hb, hml, hown, hts⟩ hA hK hP hD hS (tX7_upperBox l dC dI cI cZ aS H.size R_from R_to R_turned p0 q4 hcq4) (cwV 1 hts gX3_itemOf_X7_upperBox rfl rfl rfl uX7_upperBox ⟨Nat.le_of_ble_eq_true rfl, Nat.le_of_ble_eq_true rfl⟩) [1, 2, 3, 4] [(false, 0), (true, 0), (true, 1), (true, 2), (true, 3), (false, 5), (false, 6)] (iX3_itemOf aS cI cZ R_from R_to R_turned L_tops L_bottoms L_layers) rfl rfl rfl rfl rfl 7 0 rfl rfl rfl rfl hl.1 rfl (Nat.le_of_ble_eq_true rfl) dX3_itemOf_14 ⟨Nat.zero_le _, Nat.zero_le _⟩ (fun H locs hP hD hS => ?_)
    exact hret H locs ls 17 _ _ dX3_itemOf_17 (Option.some.inj hF) rfl hP hD hS
abbrev rX3_layers : Room := { frames := 0, cells := 0, slots := 0, locals := 0 }
theorem eX3_layers_X3 : ∀ w ∈ u_ws RX3 TX3 5, w ∈ wsX3_layers := by decide +kernel
theorem uX3_layers : yX3_layers.cls = RX3 ∧ yX3_layers.cls ≠ "java/lang/invoke/MethodHandle" ∧ yX3_layers.cls ≠ "java/lang/invoke/VarHandle" ∧ (parseMethodDescriptor yX3_layers.desc).map (fun d => d.parameters.length) = some 0 := by decide +kernel
set_option maxHeartbeats 4000000 in
set_option maxRecDepth 100000 in
theorem tX3_layers (l : Launch) (dC : Nat → ClassId) (dI : Nat → Nat → Nat) (cI cZ : ClassId) (aS : Nat → Nat) (sz : Nat) (L_layers : Int32) (res : Int32) (hF : fX3_layers L_layers = some res) : q_Mi l yX3_layers wsX3_layers rX3_layers (dC, dI) (q_ty cI cZ) [.ref (aS 7)] (iX3_layers aS cI cZ L_layers) (iX3_layers aS cI cZ L_layers) sz res := by
  refine q_meti (cc := cX3_layers) (maxL := 1) (by decide) rfl (Nat.le_of_ble_eq_true rfl) ?_
  intro p e s m args below meth c Q A H locs ls C hP hD hS hl hret
  obtain ⟨hx, hb, hml, hown, hts, hA, hK⟩ := C
  replace hl : lv_has ls 1 [(0, .ref (aS 7))] := hl
  have k0 := hts (.fieldLink RX3 31 "RouteLayout$Levels" "layers" "I") (by decide +kernel)
  unfold fX3_layers at hF
  refine lv_aload_n hx hb dX3_layers_0 rfl (lv_at hl 0 rfl) ?_
  refine q_get (ci := 3) (C := RX3) (T := TX3) (N := 5) hx hb hts eX3_layers_X3 hown hK hP 0 rfl rfl 4 (Nat.le_of_ble_eq_true rfl) k0 rfl rfl dX3_layers_1 ?_
  exact hret H locs ls 4 _ _ dX3_layers_4 (Option.some.inj hF) rfl hP hD hS
abbrev rX3_lift : Room := { frames := 2, cells := 0, slots := 0, locals := 42 }
theorem eX3_lift_X3 : ∀ w ∈ u_ws RX3 TX3 5, w ∈ wsX3_lift := by decide +kernel
theorem uX3_lift : yX3_lift.cls = RX3 ∧ yX3_lift.cls ≠ "java/lang/invoke/MethodHandle" ∧ yX3_lift.cls ≠ "java/lang/invoke/VarHandle" ∧ (parseMethodDescriptor yX3_lift.desc).map (fun d => d.parameters.length) = some 0 := by decide +kernel
set_option maxHeartbeats 4000000 in
set_option maxRecDepth 100000 in
theorem tX3_lift (l : Launch) (dC : Nat → ClassId) (dI : Nat → Nat → Nat) (cI cZ : ClassId) (aS : Nat → Nat) (sz : Nat) (R_width : Nat → Int32) (R_pinned : Nat → Int32) (L_layer : Nat → Int32) (L_layers : Int32) (res : (Nat → Int32)) (hF : fX3_lift R_width R_pinned L_layer = some res) : q_Mv l yX3_lift wsX3_lift rX3_lift (dC, dI) (q_ty cI cZ) [.ref (aS 7)] (iX3_lift aS cI cZ R_width R_pinned L_layer L_layers) (iX3_lift aS cI cZ R_width R_pinned res L_layers) sz := by
  refine q_metv (cc := cX3_lift) (maxL := 3) (by decide) rfl (Nat.le_of_ble_eq_true rfl) ?_
  intro p e s m args below meth c Q A H locs ls C hP hD hS hl hret
  obtain ⟨hx, hb, hml, hown, hts, hA, hK⟩ := C
  replace hl : lv_has ls 3 [(0, .ref (aS 7))] := hl
  have k0 := hts (.fieldLink RX3 9 "RouteLayout$Levels" "layer" "[I") (by decide +kernel)
  have k1 := hts (.fieldLink RX3 21 "RouteLayout$Levels" "routes" "LRouteLayout$Routes;") (by decide +kernel)
  unfold fX3_lift at hF
  refine lv_iconst (v := 0) hx hb dX3_lift_0 (by decide) ?_
  refine lv_istore_n (lv' := [(1, .int 0), (0, .ref (aS 7))]) hx hb dX3_lift_1 rfl hl (by decide) rfl (fun ls hl => ?_)
  obtain ⟨q1, hc1, hF⟩ := q_bd hF
  have X1 : ∀ (u1 : Nat → Int32), u1 = q1 → ∀ (H : Heap) (locs : List Loc) (ls : Array Slot), va_P (dC, dI) vwCl (iX3_lift aS cI cZ R_width R_pinned u1 L_layers) H → va_D A (iX3_lift aS cI cZ R_width R_pinned u1 L_layers) → va_S A s.heap H locs → lv_has ls 3 [] → W p l e (headSpec wsX3_lift (rX3_lift)).room s m args below meth c H locs 0 0 Q (F0 m 60 ls []) := by
    intro u1 hu H locs ls hP hD hS hl
    subst hu
    exact hret H locs ls 60 _ dX3_lift_60 (congrArg (fun z : (Nat → Int32) => (iX3_lift aS cI cZ R_width R_pinned z L_layers)) (Option.some.inj hF)) hP hD hS
  have L1 : ∀ st : Int32 × (Nat → Int32), q_lo (fun (st : Int32 × (Nat → Int32)) => bX3_lift_2 R_width R_pinned st.1 st.2) st = some q1 → ∀ (H : Heap) (locs : List Loc) (ls : Array Slot), va_P (dC, dI) vwCl (iX3_lift aS cI cZ R_width R_pinned st.2 L_layers) H → va_D A (iX3_lift aS cI cZ R_width R_pinned st.2 L_layers) → va_S A s.heap H locs → lv_has ls 3 [(0, .ref (aS 7)), (1, .int st.1)] → W p l e (headSpec wsX3_lift (rX3_lift)).room s m args below meth c H locs 0 0 Q (F0 m 2 ls []) := by
    intro st hst
    refine q_walk (Wh := fun st : Int32 × (Nat → Int32) => ∀ (H : Heap) (locs : List Loc) (ls : Array Slot), va_P (dC, dI) vwCl (iX3_lift aS cI cZ R_width R_pinned st.2 L_layers) H → va_D A (iX3_lift aS cI cZ R_width R_pinned st.2 L_layers) → va_S A s.heap H locs → lv_has ls 3 [(0, .ref (aS 7)), (1, .int st.1)] → W p l e (headSpec wsX3_lift (rX3_lift)).room s m args below meth c H locs 0 0 Q (F0 m 2 ls [])) ?_ st hst
    clear hst st hF
    intro st o hF hin hex H locs ls hP hD hS hl
    obtain ⟨x1_1, L_layer_1⟩ := st
    replace hF : bX3_lift_2 R_width R_pinned x1_1 L_layer_1 = some o := hF
    replace hP : va_P (dC, dI) vwCl (iX3_lift aS cI cZ R_width R_pinned L_layer_1 L_layers) H := hP
    replace hD : va_D A (iX3_lift aS cI cZ R_width R_pinned L_layer_1 L_layers) := hD
    replace hl : lv_has ls 3 [(0, .ref (aS 7)), (1, .int x1_1)] := hl
    unfold bX3_lift_2 at hF
    have JX3_LIFT_53 : ∀ (L_layer_2 : Nat → Int32) (x1_2 : Int32) (s0_2 : Int32) (s1_2 : Int32), jX3_lift_53 L_layer_2 x1_2 s0_2 s1_2 = some o → ∀ (H : Heap) (locs : List Loc) (ls : Array Slot), va_P (dC, dI) vwCl (iX3_lift aS cI cZ R_width R_pinned L_layer_2 L_layers) H → va_D A (iX3_lift aS cI cZ R_width R_pinned L_layer_2 L_layers) → va_S A s.heap H locs → lv_has ls 3 [(0, .ref (aS 7)), (1, .int x1_2)] → W p l e (headSpec wsX3_lift (rX3_lift)).room s m args below meth c H locs 0 0 Q (F0 m 53 ls [.int s0_2, .int s1_2, .ref (aS 8)]) := by
      intro L_layer_2 x1_2 s0_2 s1_2 hF H locs ls hP hD hS hl
      unfold jX3_lift_53 at hF
      obtain ⟨hn3, hF⟩ := q_ck hF
      refine q_iast hx hb hK hP hD hS 4 0 (iX3_lift aS cI cZ R_width R_pinned (upd L_layer_2 s1_2.toNatClampNeg s0_2) L_layers) rfl rfl hn3 rfl dX3_lift_53 (fun H locs hP hD hS => ?_)
      refine lv_iinc (v := (x1_2 + 1)) (lv' := [(1, .int (x1_2 + 1)), (0, .ref (aS 7))]) hx hb dX3_lift_54 hl (k := 1) rfl rfl (by decide) rfl (fun ls hl => ?_)
      refine lv_goto (tgt := 2) hx hb dX3_lift_57 (by decide) ?_
      exact hin _ (Option.some.inj hF).symm H locs ls hP hD hS (lv_sub hl [1, 0] rfl)
    have JX3_LIFT_24 : ∀ (L_layer_4 : Nat → Int32) (x1_4 : Int32) (s0_4 : Int32), jX3_lift_24 R_width R_pinned L_layer_4 x1_4 s0_4 = some o → ∀ (H : Heap) (locs : List Loc) (ls : Array Slot), va_P (dC, dI) vwCl (iX3_lift aS cI cZ R_width R_pinned L_layer_4 L_layers) H → va_D A (iX3_lift aS cI cZ R_width R_pinned L_layer_4 L_layers) → va_S A s.heap H locs → lv_has ls 3 [(0, .ref (aS 7)), (1, .int x1_4)] → W p l e (headSpec wsX3_lift (rX3_lift)).room s m args below meth c H locs 0 0 Q (F0 m 24 ls [.int s0_4]) := by
      intro L_layer_4 x1_4 s0_4 hF H locs ls hP hD hS hl
      unfold jX3_lift_24 at hF
      refine lv_istore_n (lv' := [(2, .int s0_4), (0, .ref (aS 7)), (1, .int x1_4)]) hx hb dX3_lift_24 rfl hl (by decide) rfl (fun ls hl => ?_)
      refine lv_aload_n hx hb dX3_lift_25 rfl (lv_at hl 1 rfl) ?_
      refine q_get (ci := 3) (C := RX3) (T := TX3) (N := 5) hx hb hts eX3_lift_X3 hown hK hP 0 rfl rfl 1 (Nat.le_of_ble_eq_true rfl) k0 rfl rfl dX3_lift_26 ?_
      refine lv_iload_n hx hb dX3_lift_29 rfl (lv_at hl 2 rfl) ?_
      refine lv_aload_n hx hb dX3_lift_30 rfl (lv_at hl 1 rfl) ?_
      refine q_get (ci := 3) (C := RX3) (T := TX3) (N := 5) hx hb hts eX3_lift_X3 hown hK hP 0 rfl rfl 0 (Nat.le_of_ble_eq_true rfl) k1 rfl rfl dX3_lift_31 ?_
      refine lv_iload_n hx hb dX3_lift_34 rfl (lv_at hl 2 rfl) ?_
      obtain ⟨q5, hcq5, hF⟩ := q_bd hF
      refine q_Vi (As := [.int x1_4]) (rest := [.int x1_4, .ref (aS 8)]) ⟨hx, hb, hml, hown, hts⟩ hA hK hP hD hS (tX7_isPinned l dC dI cI cZ aS H.size R_width R_pinned x1_4 q5 hcq5) (cwV 1 hts gX3_lift_X7_isPinned rfl rfl rfl uX7_isPinned ⟨Nat.le_of_ble_eq_true rfl, Nat.le_of_ble_eq_true rfl⟩) [1, 2, 3] [(false, 0), (true, 0), (true, 1), (true, 2), (false, 4)] (iX3_lift aS cI cZ R_width R_pinned L_layer_4 L_layers) rfl rfl rfl rfl rfl 7 0 rfl rfl rfl rfl hl.1 rfl (Nat.le_of_ble_eq_true rfl) dX3_lift_35 ⟨Nat.zero_le _, Nat.zero_le _⟩ (fun H locs hP hD hS => ?_)
      refine lv_if_eq (tgt := 52) hx hb dX3_lift_38 (by decide) (fun hc => ?_) (fun hc => ?_)
      · replace hF := q_t hc hF
        refine lv_iload_n hx hb dX3_lift_52 rfl (lv_at hl 0 rfl) ?_
        exact JX3_LIFT_53 L_layer_4 x1_4 s0_4 x1_4 hF H locs ls hP hD hS (lv_sub hl [1, 2] rfl)
      · replace hF := q_f hc hF
        refine lv_aload_n hx hb dX3_lift_41 rfl (lv_at hl 1 rfl) ?_
        refine q_get (ci := 3) (C := RX3) (T := TX3) (N := 5) hx hb hts eX3_lift_X3 hown hK hP 0 rfl rfl 0 (Nat.le_of_ble_eq_true rfl) k1 rfl rfl dX3_lift_42 ?_
        refine lv_iload_n hx hb dX3_lift_45 rfl (lv_at hl 2 rfl) ?_
        obtain ⟨q6, hcq6, hF⟩ := q_bd hF
        refine q_Vi (As := [.int x1_4]) (rest := [.int x1_4, .ref (aS 8)]) ⟨hx, hb, hml, hown, hts⟩ hA hK hP hD hS (tX7_pinOf l dC dI cI cZ aS H.size R_width R_pinned x1_4 q6 hcq6) (cwV 1 hts gX3_lift_X7_pinOf rfl rfl rfl uX7_pinOf ⟨Nat.le_of_ble_eq_true rfl, Nat.le_of_ble_eq_true rfl⟩) [1, 2, 3] [(false, 0), (true, 0), (true, 1), (true, 2), (false, 4)] (iX3_lift aS cI cZ R_width R_pinned L_layer_4 L_layers) rfl rfl rfl rfl rfl 7 0 rfl rfl rfl rfl hl.1 rfl (Nat.le_of_ble_eq_true rfl) dX3_lift_46 ⟨Nat.zero_le _, Nat.zero_le _⟩ (fun H locs hP hD hS => ?_)
        refine lv_goto (tgt := 53) hx hb dX3_lift_49 (by decide) ?_
        exact JX3_LIFT_53 L_layer_4 x1_4 q6 x1_4 hF H locs ls hP hD hS (lv_sub hl [1, 2] rfl)
    refine lv_iload_n hx hb dX3_lift_2 rfl (lv_at hl 1 rfl) ?_
    refine lv_bipush (v := 16) hx hb dX3_lift_3 (by decide) ?_
    refine lv_icmp_ge (tgt := 60) hx hb dX3_lift_5 (by decide) (fun hc => ?_) (fun hc => ?_)
    · replace hF := q_t hc hF
      exact X1 _ (hex _ (Option.some.inj hF).symm) H locs ls hP hD hS (lv_sub hl [] rfl)
    · replace hF := q_f hc hF
      refine lv_aload_n hx hb dX3_lift_8 rfl (lv_at hl 0 rfl) ?_
      refine q_get (ci := 3) (C := RX3) (T := TX3) (N := 5) hx hb hts eX3_lift_X3 hown hK hP 0 rfl rfl 0 (Nat.le_of_ble_eq_true rfl) k1 rfl rfl dX3_lift_9 ?_
      refine lv_iload_n hx hb dX3_lift_12 rfl (lv_at hl 1 rfl) ?_
      obtain ⟨q7, hcq7, hF⟩ := q_bd hF
      refine q_Vi (As := [.int x1_1]) (rest := []) ⟨hx, hb, hml, hown, hts⟩ hA hK hP hD hS (tX7_hasBox l dC dI cI cZ aS H.size R_width x1_1 q7 hcq7) (cwV 1 hts gX3_lift_X7_hasBox rfl rfl rfl uX7_hasBox ⟨Nat.le_of_ble_eq_true rfl, Nat.le_of_ble_eq_true rfl⟩) [1, 2] [(false, 0), (true, 0), (true, 1), (false, 3), (false, 4)] (iX3_lift aS cI cZ R_width R_pinned L_layer_1 L_layers) rfl rfl rfl rfl rfl 7 0 rfl rfl rfl rfl hl.1 rfl (Nat.le_of_ble_eq_true rfl) dX3_lift_13 ⟨Nat.zero_le _, Nat.zero_le _⟩ (fun H locs hP hD hS => ?_)
      refine lv_if_eq (tgt := 23) hx hb dX3_lift_16 (by decide) (fun hc => ?_) (fun hc => ?_)
      · replace hF := q_t hc hF
        refine lv_iconst (v := (-1)) hx hb dX3_lift_23 (by decide) ?_
        exact JX3_LIFT_24 L_layer_1 x1_1 (-1) hF H locs ls hP hD hS (lv_sub hl [0, 1] rfl)
      · replace hF := q_f hc hF
        refine lv_iconst (v := 0) hx hb dX3_lift_19 (by decide) ?_
        refine lv_goto (tgt := 24) hx hb dX3_lift_20 (by decide) ?_
        exact JX3_LIFT_24 L_layer_1 x1_1 0 hF H locs ls hP hD hS (lv_sub hl [0, 1] rfl)
  exact L1 (0, L_layer) hc1 H locs ls hP hD hS (lv_sub hl [1, 0] rfl)
abbrev rX3_markEnds : Room := { frames := 2, cells := 0, slots := 0, locals := 42 }
theorem eX3_markEnds_X3 : ∀ w ∈ u_ws RX3 TX3 5, w ∈ wsX3_markEnds := by decide +kernel
theorem uX3_markEnds : yX3_markEnds.cls = RX3 ∧ yX3_markEnds.cls ≠ "java/lang/invoke/MethodHandle" ∧ yX3_markEnds.cls ≠ "java/lang/invoke/VarHandle" ∧ (parseMethodDescriptor yX3_markEnds.desc).map (fun d => d.parameters.length) = some 0 := by decide +kernel
set_option maxHeartbeats 4000000 in
set_option maxRecDepth 100000 in
theorem tX3_markEnds (l : Launch) (dC : Nat → ClassId) (dI : Nat → Nat → Nat) (cI cZ : ClassId) (aS : Nat → Nat) (sz : Nat) (R_from : Nat → Int32) (R_to : Nat → Int32) (R_turned : Nat → Int32) (L_layer : Nat → Int32) (L_tops : Nat → Int32) (L_bottoms : Nat → Int32) (L_layers : Int32) (res : (Nat → Int32) × (Nat → Int32)) (hF : fX3_markEnds R_from R_to R_turned L_layer L_tops L_bottoms = some res) : q_Mv l yX3_markEnds wsX3_markEnds rX3_markEnds (dC, dI) (q_ty cI cZ) [.ref (aS 7)] (iX3_markEnds aS cI cZ R_from R_to R_turned L_layer L_tops L_bottoms L_layers) (iX3_markEnds aS cI cZ R_from R_to R_turned L_layer res.1 res.2 L_layers) sz := by
  refine q_metv (cc := cX3_markEnds) (maxL := 2) (by decide) rfl (Nat.le_of_ble_eq_true rfl) ?_
  intro p e s m args below meth c Q A H locs ls C hP hD hS hl hret
  obtain ⟨hx, hb, hml, hown, hts, hA, hK⟩ := C
  replace hl : lv_has ls 2 [(0, .ref (aS 7))] := hl
  have k0 := hts (.fieldLink RX3 15 "RouteLayout$Levels" "tops" "[I") (by decide +kernel)
  have k1 := hts (.fieldLink RX3 21 "RouteLayout$Levels" "routes" "LRouteLayout$Routes;") (by decide +kernel)
  have k2 := hts (.fieldLink RX3 18 "RouteLayout$Levels" "bottoms" "[I") (by decide +kernel)
  unfold fX3_markEnds at hF
  refine lv_iconst (v := 0) hx hb dX3_markEnds_0 (by decide) ?_
  refine lv_istore_n (lv' := [(1, .int 0), (0, .ref (aS 7))]) hx hb dX3_markEnds_1 rfl hl (by decide) rfl (fun ls hl => ?_)
  obtain ⟨q1_0, q1_1, hc1, hF⟩ := q_bd2 hF
  have X1 : ∀ (u1_0 : Nat → Int32) (u1_1 : Nat → Int32), (u1_0, u1_1) = (q1_0, q1_1) → ∀ (H : Heap) (locs : List Loc) (ls : Array Slot), va_P (dC, dI) vwCl (iX3_markEnds aS cI cZ R_from R_to R_turned L_layer u1_0 u1_1 L_layers) H → va_D A (iX3_markEnds aS cI cZ R_from R_to R_turned L_layer u1_0 u1_1 L_layers) → va_S A s.heap H locs → lv_has ls 2 [] → W p l e (headSpec wsX3_markEnds (rX3_markEnds)).room s m args below meth c H locs 0 0 Q (F0 m 50 ls []) := by
    intro u1_0 u1_1 hu H locs ls hP hD hS hl
    obtain ⟨e0, e1⟩ := q_inj2 hu
    subst e0 e1
    exact hret H locs ls 50 _ dX3_markEnds_50 (congrArg (fun z : (Nat → Int32) × (Nat → Int32) => (iX3_markEnds aS cI cZ R_from R_to R_turned L_layer z.1 z.2 L_layers)) (Option.some.inj hF)) hP hD hS
  have L1 : ∀ st : Int32 × (Nat → Int32) × (Nat → Int32), q_lo (fun (st : Int32 × (Nat → Int32) × (Nat → Int32)) => bX3_markEnds_2 R_from R_to R_turned L_layer st.1 st.2.1 st.2.2) st = some (q1_0, q1_1) → ∀ (H : Heap) (locs : List Loc) (ls : Array Slot), va_P (dC, dI) vwCl (iX3_markEnds aS cI cZ R_from R_to R_turned L_layer st.2.1 st.2.2 L_layers) H → va_D A (iX3_markEnds aS cI cZ R_from R_to R_turned L_layer st.2.1 st.2.2 L_layers) → va_S A s.heap H locs → lv_has ls 2 [(0, .ref (aS 7)), (1, .int st.1)] → W p l e (headSpec wsX3_markEnds (rX3_markEnds)).room s m args below meth c H locs 0 0 Q (F0 m 2 ls []) := by
    intro st hst
    refine q_walk (Wh := fun st : Int32 × (Nat → Int32) × (Nat → Int32) => ∀ (H : Heap) (locs : List Loc) (ls : Array Slot), va_P (dC, dI) vwCl (iX3_markEnds aS cI cZ R_from R_to R_turned L_layer st.2.1 st.2.2 L_layers) H → va_D A (iX3_markEnds aS cI cZ R_from R_to R_turned L_layer st.2.1 st.2.2 L_layers) → va_S A s.heap H locs → lv_has ls 2 [(0, .ref (aS 7)), (1, .int st.1)] → W p l e (headSpec wsX3_markEnds (rX3_markEnds)).room s m args below meth c H locs 0 0 Q (F0 m 2 ls [])) ?_ st hst
    clear hst st hF
    intro st o hF hin hex H locs ls hP hD hS hl
    obtain ⟨x1_1, L_tops_1, L_bottoms_1⟩ := st
    replace hF : bX3_markEnds_2 R_from R_to R_turned L_layer x1_1 L_tops_1 L_bottoms_1 = some o := hF
    replace hP : va_P (dC, dI) vwCl (iX3_markEnds aS cI cZ R_from R_to R_turned L_layer L_tops_1 L_bottoms_1 L_layers) H := hP
    replace hD : va_D A (iX3_markEnds aS cI cZ R_from R_to R_turned L_layer L_tops_1 L_bottoms_1 L_layers) := hD
    replace hl : lv_has ls 2 [(0, .ref (aS 7)), (1, .int x1_1)] := hl
    unfold bX3_markEnds_2 at hF
    refine lv_iload_n hx hb dX3_markEnds_2 rfl (lv_at hl 1 rfl) ?_
    refine lv_bipush (v := 24) hx hb dX3_markEnds_3 (by decide) ?_
    refine lv_icmp_ge (tgt := 50) hx hb dX3_markEnds_5 (by decide) (fun hc => ?_) (fun hc => ?_)
    · replace hF := q_t hc hF
      exact X1 _ _ (hex _ (Option.some.inj hF).symm) H locs ls hP hD hS (lv_sub hl [] rfl)
    · replace hF := q_f hc hF
      refine lv_aload_n hx hb dX3_markEnds_8 rfl (lv_at hl 0 rfl) ?_
      refine q_get (ci := 3) (C := RX3) (T := TX3) (N := 5) hx hb hts eX3_markEnds_X3 hown hK hP 0 rfl rfl 2 (Nat.le_of_ble_eq_true rfl) k0 rfl rfl dX3_markEnds_9 ?_
      refine lv_iload_n hx hb dX3_markEnds_12 rfl (lv_at hl 1 rfl) ?_
      refine lv_aload_n hx hb dX3_markEnds_13 rfl (lv_at hl 0 rfl) ?_
      refine lv_aload_n hx hb dX3_markEnds_14 rfl (lv_at hl 0 rfl) ?_
      refine q_get (ci := 3) (C := RX3) (T := TX3) (N := 5) hx hb hts eX3_markEnds_X3 hown hK hP 0 rfl rfl 0 (Nat.le_of_ble_eq_true rfl) k1 rfl rfl dX3_markEnds_15 ?_
      refine lv_iload_n hx hb dX3_markEnds_18 rfl (lv_at hl 1 rfl) ?_
      obtain ⟨q2, hcq2, hF⟩ := q_bd hF
      refine q_Vi (As := [.int x1_1]) (rest := [.ref (aS 7), .int x1_1, .ref (aS 9)]) ⟨hx, hb, hml, hown, hts⟩ hA hK hP hD hS (tX7_upperBox l dC dI cI cZ aS H.size R_from R_to R_turned x1_1 q2 hcq2) (cwV 1 hts gX3_markEnds_X7_upperBox rfl rfl rfl uX7_upperBox ⟨Nat.le_of_ble_eq_true rfl, Nat.le_of_ble_eq_true rfl⟩) [1, 2, 3, 4] [(false, 0), (true, 0), (true, 1), (true, 2), (true, 3), (false, 5), (false, 6), (false, 7)] (iX3_markEnds aS cI cZ R_from R_to R_turned L_layer L_tops_1 L_bottoms_1 L_layers) rfl rfl rfl rfl rfl 7 0 rfl rfl rfl rfl hl.1 rfl (Nat.le_of_ble_eq_true rfl) dX3_markEnds_19 ⟨Nat.zero_le _, Nat.zero_le _⟩ (fun H locs hP hD hS => ?_)
      obtain ⟨q3, hcq3, hF⟩ := q_bd hF
      refine q_Vi (As := [.int q2]) (rest := [.int x1_1, .ref (aS 9)]) ⟨hx, hb, hml, hown, hts⟩ hA hK hP hD hS (tX3_layerOf l dC dI cI cZ aS H.size L_layer L_layers q2 q3 hcq3) (cwV 1 hts gX3_markEnds_X3_layerOf rfl rfl rfl uX3_layerOf ⟨Nat.le_of_ble_eq_true rfl, Nat.le_of_ble_eq_true rfl⟩) [0, 5] [(true, 0), (false, 1), (false, 2), (false, 3), (false, 4), (true, 1), (false, 6), (false, 7)] (iX3_markEnds aS cI cZ R_from R_to R_turned L_layer L_tops_1 L_bottoms_1 L_layers) rfl rfl rfl rfl rfl 3 0 rfl rfl rfl rfl hl.1 rfl (Nat.le_of_ble_eq_true rfl) dX3_markEnds_22 ⟨Nat.zero_le _, Nat.zero_le _⟩ (fun H locs hP hD hS => ?_)
      obtain ⟨hn4, hF⟩ := q_ck hF
      refine q_iast hx hb hK hP hD hS 6 0 (iX3_markEnds aS cI cZ R_from R_to R_turned L_layer (upd L_tops_1 x1_1.toNatClampNeg q3) L_bottoms_1 L_layers) rfl rfl hn4 rfl dX3_markEnds_25 (fun H locs hP hD hS => ?_)
      refine lv_aload_n hx hb dX3_markEnds_26 rfl (lv_at hl 0 rfl) ?_
      refine q_get (ci := 3) (C := RX3) (T := TX3) (N := 5) hx hb hts eX3_markEnds_X3 hown hK hP 0 rfl rfl 3 (Nat.le_of_ble_eq_true rfl) k2 rfl rfl dX3_markEnds_27 ?_
      refine lv_iload_n hx hb dX3_markEnds_30 rfl (lv_at hl 1 rfl) ?_
      refine lv_aload_n hx hb dX3_markEnds_31 rfl (lv_at hl 0 rfl) ?_
      refine lv_aload_n hx hb dX3_markEnds_32 rfl (lv_at hl 0 rfl) ?_
      refine q_get (ci := 3) (C := RX3) (T := TX3) (N := 5) hx hb hts eX3_markEnds_X3 hown hK hP 0 rfl rfl 0 (Nat.le_of_ble_eq_true rfl) k1 rfl rfl dX3_markEnds_33 ?_
      refine lv_iload_n hx hb dX3_markEnds_36 rfl (lv_at hl 1 rfl) ?_
      obtain ⟨q5, hcq5, hF⟩ := q_bd hF
      refine q_Vi (As := [.int x1_1]) (rest := [.ref (aS 7), .int x1_1, .ref (aS 10)]) ⟨hx, hb, hml, hown, hts⟩ hA hK hP hD hS (tX7_lowerBox l dC dI cI cZ aS H.size R_from R_to R_turned x1_1 q5 hcq5) (cwV 1 hts gX3_markEnds_X7_lowerBox rfl rfl rfl uX7_lowerBox ⟨Nat.le_of_ble_eq_true rfl, Nat.le_of_ble_eq_true rfl⟩) [1, 2, 3, 4] [(false, 0), (true, 0), (true, 1), (true, 2), (true, 3), (false, 5), (false, 6), (false, 7)] (iX3_markEnds aS cI cZ R_from R_to R_turned L_layer (upd L_tops_1 x1_1.toNatClampNeg q3) L_bottoms_1 L_layers) rfl rfl rfl rfl rfl 7 0 rfl rfl rfl rfl hl.1 rfl (Nat.le_of_ble_eq_true rfl) dX3_markEnds_37 ⟨Nat.zero_le _, Nat.zero_le _⟩ (fun H locs hP hD hS => ?_)
      obtain ⟨q6, hcq6, hF⟩ := q_bd hF
      refine q_Vi (As := [.int q5]) (rest := [.int x1_1, .ref (aS 10)]) ⟨hx, hb, hml, hown, hts⟩ hA hK hP hD hS (tX3_layerOf l dC dI cI cZ aS H.size L_layer L_layers q5 q6 hcq6) (cwV 1 hts gX3_markEnds_X3_layerOf rfl rfl rfl uX3_layerOf ⟨Nat.le_of_ble_eq_true rfl, Nat.le_of_ble_eq_true rfl⟩) [0, 5] [(true, 0), (false, 1), (false, 2), (false, 3), (false, 4), (true, 1), (false, 6), (false, 7)] (iX3_markEnds aS cI cZ R_from R_to R_turned L_layer (upd L_tops_1 x1_1.toNatClampNeg q3) L_bottoms_1 L_layers) rfl rfl rfl rfl rfl 3 0 rfl rfl rfl rfl hl.1 rfl (Nat.le_of_ble_eq_true rfl) dX3_markEnds_40 ⟨Nat.zero_le _, Nat.zero_le _⟩ (fun H locs hP hD hS => ?_)
      obtain ⟨hn7, hF⟩ := q_ck hF
      refine q_iast hx hb hK hP hD hS 7 0 (iX3_markEnds aS cI cZ R_from R_to R_turned L_layer (upd L_tops_1 x1_1.toNatClampNeg q3) (upd L_bottoms_1 x1_1.toNatClampNeg q6) L_layers) rfl rfl hn7 rfl dX3_markEnds_43 (fun H locs hP hD hS => ?_)
      refine lv_iinc (v := (x1_1 + 1)) (lv' := [(1, .int (x1_1 + 1)), (0, .ref (aS 7))]) hx hb dX3_markEnds_44 hl (k := 1) rfl rfl (by decide) rfl (fun ls hl => ?_)
      refine lv_goto (tgt := 2) hx hb dX3_markEnds_47 (by decide) ?_
      exact hin _ (Option.some.inj hF).symm H locs ls hP hD hS (lv_sub hl [1, 0] rfl)
  exact L1 (0, L_tops, L_bottoms) hc1 H locs ls hP hD hS (lv_sub hl [1, 0] rfl)
