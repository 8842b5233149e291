/-! Written by wip/whole/gen.py: walks of X10_hasDummy, X10_firstOrders, X10_median, X10_step. -/
abbrev rX10_hasDummy : Room := { frames := 1, cells := 0, slots := 0, locals := 21 }
theorem eX10_hasDummy_X10 : ∀ w ∈ u_ws RX10 TX10 24, w ∈ wsX10_hasDummy := by decide +kernel
theorem uX10_hasDummy : yX10_hasDummy.cls = RX10 ∧ yX10_hasDummy.cls ≠ "java/lang/invoke/MethodHandle" ∧ yX10_hasDummy.cls ≠ "java/lang/invoke/VarHandle" ∧ (parseMethodDescriptor yX10_hasDummy.desc).map (fun d => d.parameters.length) = some 2 := by decide +kernel
set_option maxHeartbeats 4000000 in
set_option maxRecDepth 100000 in
theorem tX10_hasDummy (l : Launch) (dC : Nat → ClassId) (dI : Nat → Nat → Nat) (cI cZ : ClassId) (aZ : Nat → Nat) (sz : Nat) (Z_code : Int32) (Z_isArrow : Nat → Int32) (Z_from : Nat → Int32) (Z_to : Nat → Int32) (Z_turned : Nat → Int32) (Z_told : Int32) (Z_layers : Int32) (Z_layer : Nat → Int32) (p0 : Int32) (p1 : Int32) (res : Int32) (hF : fX10_hasDummy Z_isArrow Z_from Z_to Z_turned Z_layer p0 p1 = some res) : q_Mi l yX10_hasDummy wsX10_hasDummy rX10_hasDummy (dC, dI) (q_ty cI cZ) [.ref (aZ 0), .int p0, .int p1] (iX10_hasDummy aZ cI cZ Z_code Z_isArrow Z_from Z_to Z_turned Z_told Z_layers Z_layer) (iX10_hasDummy aZ cI cZ Z_code Z_isArrow Z_from Z_to Z_turned Z_told Z_layers Z_layer) sz res := by
  refine q_metz (cc := cX10_hasDummy) (maxL := 3) (by decide) rfl (Nat.le_of_ble_eq_true rfl) ?_
  intro p e s m args below meth c Q A H locs ls C hP hD hS hl hret
  obtain ⟨hx, hb, hml, hown, hts, hA, hK⟩ := C
  replace hl : lv_has ls 3 [(0, .ref (aZ 0)), (1, .int p0), (2, .int p1)] := hl
  have k0 := hts (.fieldLink RX10 20 "RouteLayoutModel" "isArrow" "[Z") (by decide +kernel)
  have k1 := hts (.fieldLink RX10 32 "RouteLayoutModel" "layer" "[I") (by decide +kernel)
  unfold fX10_hasDummy at hF
  refine lv_aload_n hx hb dX10_hasDummy_0 rfl (lv_at hl 0 rfl) ?_
  refine q_get (ci := 10) (C := RX10) (T := TX10) (N := 24) hx hb hts eX10_hasDummy_X10 hown hK hP 0 rfl rfl 4 (Nat.le_of_ble_eq_true rfl) k0 rfl rfl dX10_hasDummy_1 ?_
  refine lv_iload_n hx hb dX10_hasDummy_4 rfl (lv_at hl 1 rfl) ?_
  obtain ⟨hn1, hF⟩ := q_ck hF
  refine va_zald hx hb hK hP 1 1 rfl rfl hn1 dX10_hasDummy_5 ?_
  refine lv_if_eq (tgt := 41) hx hb dX10_hasDummy_6 (by decide) (fun hc => ?_) (fun hc => ?_)
  · replace hF := q_t hc hF
    refine lv_iconst (v := 0) hx hb dX10_hasDummy_41 (by decide) ?_
    exact hret H locs ls 42 _ _ dX10_hasDummy_42 (Or.inl rfl) (Option.some.inj hF) rfl hP hD hS
  · replace hF := q_f hc hF
    refine lv_aload_n hx hb dX10_hasDummy_9 rfl (lv_at hl 0 rfl) ?_
    refine q_get (ci := 10) (C := RX10) (T := TX10) (N := 24) hx hb hts eX10_hasDummy_X10 hown hK hP 0 rfl rfl 10 (Nat.le_of_ble_eq_true rfl) k1 rfl rfl dX10_hasDummy_10 ?_
    refine lv_aload_n hx hb dX10_hasDummy_13 rfl (lv_at hl 0 rfl) ?_
    refine lv_iload_n hx hb dX10_hasDummy_14 rfl (lv_at hl 1 rfl) ?_
    obtain ⟨q2, hcq2, hF⟩ := q_bd hF
    refine q_Vi (As := [.int p0]) (rest := [.ref (aZ 8)]) ⟨hx, hb, hml, hown, hts⟩ hA hK hP hD hS (tX10_upper l dC dI cI cZ aZ H.size Z_code Z_from Z_to Z_turned Z_told Z_layers p0 q2 hcq2) (cwV 1 hts gX10_hasDummy_X10_upper rfl rfl rfl uX10_upper ⟨Nat.le_of_ble_eq_true rfl, Nat.le_of_ble_eq_true rfl⟩) [0, 2, 3, 4] [(true, 0), (false, 1), (true, 1), (true, 2), (true, 3), (false, 5)] (iX10_hasDummy aZ cI cZ Z_code Z_isArrow Z_from Z_to Z_turned Z_told Z_layers Z_layer) rfl rfl rfl rfl rfl 10 0 rfl rfl rfl rfl hl.1 rfl (Nat.le_of_ble_eq_true rfl) dX10_hasDummy_15 ⟨Nat.zero_le _, Nat.zero_le _⟩ (fun H locs hP hD hS => ?_)
    obtain ⟨hn3, hF⟩ := q_ck hF
    refine va_iald hx hb hK hP 5 0 rfl rfl hn3 dX10_hasDummy_18 ?_
    refine lv_iload_n hx hb dX10_hasDummy_19 rfl (lv_at hl 2 rfl) ?_
    refine lv_icmp_ge (tgt := 41) hx hb dX10_hasDummy_20 (by decide) (fun hc => ?_) (fun hc => ?_)
    · replace hF := q_t hc hF
      refine lv_iconst (v := 0) hx hb dX10_hasDummy_41 (by decide) ?_
      exact hret H locs ls 42 _ _ dX10_hasDummy_42 (Or.inl rfl) (Option.some.inj hF) rfl hP hD hS
    · replace hF := q_f hc hF
      refine lv_iload_n hx hb dX10_hasDummy_23 rfl (lv_at hl 2 rfl) ?_
      refine lv_aload_n hx hb dX10_hasDummy_24 rfl (lv_at hl 0 rfl) ?_
      refine q_get (ci := 10) (C := RX10) (T := TX10) (N := 24) hx hb hts eX10_hasDummy_X10 hown hK hP 0 rfl rfl 10 (Nat.le_of_ble_eq_true rfl) k1 rfl rfl dX10_hasDummy_25 ?_
      refine lv_aload_n hx hb dX10_hasDummy_28 rfl (lv_at hl 0 rfl) ?_
      refine lv_iload_n hx hb dX10_hasDummy_29 rfl (lv_at hl 1 rfl) ?_
      obtain ⟨q4, hcq4, hF⟩ := q_bd hF
      refine q_Vi (As := [.int p0]) (rest := [.ref (aZ 8), .int p1]) ⟨hx, hb, hml, hown, hts⟩ hA hK hP hD hS (tX10_lower l dC dI cI cZ aZ H.size Z_code Z_from Z_to Z_turned Z_told Z_layers p0 q4 hcq4) (cwV 1 hts gX10_hasDummy_X10_lower rfl rfl rfl uX10_lower ⟨Nat.le_of_ble_eq_true rfl, Nat.le_of_ble_eq_true rfl⟩) [0, 2, 3, 4] [(true, 0), (false, 1), (true, 1), (true, 2), (true, 3), (false, 5)] (iX10_hasDummy aZ cI cZ Z_code Z_isArrow Z_from Z_to Z_turned Z_told Z_layers Z_layer) rfl rfl rfl rfl rfl 10 0 rfl rfl rfl rfl hl.1 rfl (Nat.le_of_ble_eq_true rfl) dX10_hasDummy_30 ⟨Nat.zero_le _, Nat.zero_le _⟩ (fun H locs hP hD hS => ?_)
      obtain ⟨hn5, hF⟩ := q_ck hF
      refine va_iald hx hb hK hP 5 0 rfl rfl hn5 dX10_hasDummy_33 ?_
      refine lv_icmp_ge (tgt := 41) hx hb dX10_hasDummy_34 (by decide) (fun hc => ?_) (fun hc => ?_)
      · replace hF := q_t hc hF
        refine lv_iconst (v := 0) hx hb dX10_hasDummy_41 (by decide) ?_
        exact hret H locs ls 42 _ _ dX10_hasDummy_42 (Or.inl rfl) (Option.some.inj hF) rfl hP hD hS
      · replace hF := q_f hc hF
        refine lv_iconst (v := 1) hx hb dX10_hasDummy_37 (by decide) ?_
        refine lv_goto (tgt := 42) hx hb dX10_hasDummy_38 (by decide) ?_
        exact hret H locs ls 42 _ _ dX10_hasDummy_42 (Or.inr rfl) (Option.some.inj hF) rfl hP hD hS
abbrev rX10_firstOrders : Room := { frames := 2, cells := 0, slots := 0, locals := 45 }
theorem eX10_firstOrders_X10 : ∀ w ∈ u_ws RX10 TX10 24, w ∈ wsX10_firstOrders := by decide +kernel
theorem uX10_firstOrders : yX10_firstOrders.cls = RX10 ∧ yX10_firstOrders.cls ≠ "java/lang/invoke/MethodHandle" ∧ yX10_firstOrders.cls ≠ "java/lang/invoke/VarHandle" ∧ (parseMethodDescriptor yX10_firstOrders.desc).map (fun d => d.parameters.length) = some 0 := by decide +kernel
set_option maxHeartbeats 4000000 in
set_option maxRecDepth 100000 in
theorem tX10_firstOrders (l : Launch) (dC : Nat → ClassId) (dI : Nat → Nat → Nat) (cI cZ : ClassId) (aZ : Nat → Nat) (sz : Nat) (Z_code : Int32) (Z_isBox : Nat → Int32) (Z_isArrow : Nat → Int32) (Z_from : Nat → Int32) (Z_to : Nat → Int32) (Z_turned : Nat → Int32) (Z_told : Int32) (Z_layers : Int32) (Z_layer : Nat → Int32) (Z_sizes : Nat → Int32) (Z_items : Nat → Int32) (Z_place : Nat → Int32) (Z_dummyPlace : Nat → Int32) (res : (Nat → Int32) × (Nat → Int32) × (Nat → Int32) × (Nat → Int32)) (hF : fX10_firstOrders Z_isBox Z_isArrow Z_from Z_to Z_turned Z_layers Z_layer Z_sizes Z_items Z_place Z_dummyPlace = some res) : q_Mv l yX10_firstOrders wsX10_firstOrders rX10_firstOrders (dC, dI) (q_ty cI cZ) [.ref (aZ 0)] (iX10_firstOrders aZ cI cZ Z_code Z_isBox Z_isArrow Z_from Z_to Z_turned Z_told Z_layers Z_layer Z_sizes Z_items Z_place Z_dummyPlace) (iX10_firstOrders aZ cI cZ Z_code Z_isBox Z_isArrow Z_from Z_to Z_turned Z_told Z_layers Z_layer res.1 res.2.1 res.2.2.1 res.2.2.2) sz := by
  refine q_metv (cc := cX10_firstOrders) (maxL := 3) (by decide) rfl (Nat.le_of_ble_eq_true rfl) ?_
  intro p e s m args below meth c Q A H locs ls C hP hD hS hl hret
  obtain ⟨hx, hb, hml, hown, hts, hA, hK⟩ := C
  replace hl : lv_has ls 3 [(0, .ref (aZ 0))] := hl
  have k0 := hts (.fieldLink RX10 103 "RouteLayoutModel" "layers" "I") (by decide +kernel)
  have k1 := hts (.fieldLink RX10 35 "RouteLayoutModel" "sizes" "[I") (by decide +kernel)
  have k2 := hts (.fieldLink RX10 7 "RouteLayoutModel" "isBox" "[Z") (by decide +kernel)
  have k3 := hts (.fieldLink RX10 32 "RouteLayoutModel" "layer" "[I") (by decide +kernel)
  unfold fX10_firstOrders at hF
  refine lv_iconst (v := 0) hx hb dX10_firstOrders_0 (by decide) ?_
  refine lv_istore_n (lv' := [(1, .int 0), (0, .ref (aZ 0))]) hx hb dX10_firstOrders_1 rfl hl (by decide) rfl (fun ls hl => ?_)
  obtain ⟨q1_0, q1_1, q1_2, q1_3, hc1, hF⟩ := q_bd4 hF
  have X1 : ∀ (u1_0 : Nat → Int32) (u1_1 : Nat → Int32) (u1_2 : Nat → Int32) (u1_3 : Nat → Int32), (u1_0, u1_1, u1_2, u1_3) = (q1_0, q1_1, q1_2, q1_3) → ∀ (H : Heap) (locs : List Loc) (ls : Array Slot), va_P (dC, dI) vwCl (iX10_firstOrders aZ cI cZ Z_code Z_isBox Z_isArrow Z_from Z_to Z_turned Z_told Z_layers Z_layer u1_0 u1_1 u1_2 u1_3) H → va_D A (iX10_firstOrders aZ cI cZ Z_code Z_isBox Z_isArrow Z_from Z_to Z_turned Z_told Z_layers Z_layer u1_0 u1_1 u1_2 u1_3) → va_S A s.heap H locs → lv_has ls 3 [] → W p l e (headSpec wsX10_firstOrders (rX10_firstOrders)).room s m args below meth c H locs 0 0 Q (F0 m 99 ls []) := by
    intro u1_0 u1_1 u1_2 u1_3 hu H locs ls hP hD hS hl
    obtain ⟨e0, e1, e2, e3⟩ := q_inj4 hu
    subst e0 e1 e2 e3
    exact hret H locs ls 99 _ dX10_firstOrders_99 (congrArg (fun z : (Nat → Int32) × (Nat → Int32) × (Nat → Int32) × (Nat → Int32) => (iX10_firstOrders aZ cI cZ Z_code Z_isBox Z_isArrow Z_from Z_to Z_turned Z_told Z_layers Z_layer z.1 z.2.1 z.2.2.1 z.2.2.2)) (Option.some.inj hF)) hP hD hS
  have L1 : ∀ st : Int32 × (Nat → Int32) × (Nat → Int32) × (Nat → Int32) × (Nat → Int32), q_lo (fun (st : Int32 × (Nat → Int32) × (Nat → Int32) × (Nat → Int32) × (Nat → Int32)) => bX10_firstOrders_2 Z_isBox Z_isArrow Z_from Z_to Z_turned Z_layers Z_layer st.1 st.2.1 st.2.2.1 st.2.2.2.1 st.2.2.2.2) st = some (q1_0, q1_1, q1_2, q1_3) → ∀ (H : Heap) (locs : List Loc) (ls : Array Slot), va_P (dC, dI) vwCl (iX10_firstOrders aZ cI cZ Z_code Z_isBox Z_isArrow Z_from Z_to Z_turned Z_told Z_layers Z_layer st.2.1 st.2.2.1 st.2.2.2.1 st.2.2.2.2) H → va_D A (iX10_firstOrders aZ cI cZ Z_code Z_isBox Z_isArrow Z_from Z_to Z_turned Z_told Z_layers Z_layer st.2.1 st.2.2.1 st.2.2.2.1 st.2.2.2.2) → va_S A s.heap H locs → lv_has ls 3 [(0, .ref (aZ 0)), (1, .int st.1)] → W p l e (headSpec wsX10_firstOrders (rX10_firstOrders)).room s m args below meth c H locs 0 0 Q (F0 m 2 ls []) := by
    intro st hst
    refine q_walk (Wh := fun st : Int32 × (Nat → Int32) × (Nat → Int32) × (Nat → Int32) × (Nat → Int32) => ∀ (H : Heap) (locs : List Loc) (ls : Array Slot), va_P (dC, dI) vwCl (iX10_firstOrders aZ cI cZ Z_code Z_isBox Z_isArrow Z_from Z_to Z_turned Z_told Z_layers Z_layer st.2.1 st.2.2.1 st.2.2.2.1 st.2.2.2.2) H → va_D A (iX10_firstOrders aZ cI cZ Z_code Z_isBox Z_isArrow Z_from Z_to Z_turned Z_told Z_layers Z_layer st.2.1 st.2.2.1 st.2.2.2.1 st.2.2.2.2) → va_S A s.heap H locs → lv_has ls 3 [(0, .ref (aZ 0)), (1, .int st.1)] → W p l e (headSpec wsX10_firstOrders (rX10_firstOrders)).room s m args below meth c H locs 0 0 Q (F0 m 2 ls [])) ?_ st hst
    clear hst st hF
    intro st o hF hin hex H locs ls hP hD hS hl
    obtain ⟨x1_1, Z_sizes_1, Z_items_1, Z_place_1, Z_dummyPlace_1⟩ := st
    replace hF : bX10_firstOrders_2 Z_isBox Z_isArrow Z_from Z_to Z_turned Z_layers Z_layer x1_1 Z_sizes_1 Z_items_1 Z_place_1 Z_dummyPlace_1 = some o := hF
    replace hP : va_P (dC, dI) vwCl (iX10_firstOrders aZ cI cZ Z_code Z_isBox Z_isArrow Z_from Z_to Z_turned Z_told Z_layers Z_layer Z_sizes_1 Z_items_1 Z_place_1 Z_dummyPlace_1) H := hP
    replace hD : va_D A (iX10_firstOrders aZ cI cZ Z_code Z_isBox Z_isArrow Z_from Z_to Z_turned Z_told Z_layers Z_layer Z_sizes_1 Z_items_1 Z_place_1 Z_dummyPlace_1) := hD
    replace hl : lv_has ls 3 [(0, .ref (aZ 0)), (1, .int x1_1)] := hl
    unfold bX10_firstOrders_2 at hF
    refine lv_iload_n hx hb dX10_firstOrders_2 rfl (lv_at hl 1 rfl) ?_
    refine lv_aload_n hx hb dX10_firstOrders_3 rfl (lv_at hl 0 rfl) ?_
    refine q_get (ci := 10) (C := RX10) (T := TX10) (N := 24) hx hb hts eX10_firstOrders_X10 hown hK hP 0 rfl rfl 9 (Nat.le_of_ble_eq_true rfl) k0 rfl rfl dX10_firstOrders_4 ?_
    refine lv_icmp_ge (tgt := 99) hx hb dX10_firstOrders_7 (by decide) (fun hc => ?_) (fun hc => ?_)
    · replace hF := q_t hc hF
      exact X1 _ _ _ _ (hex _ (Option.some.inj hF).symm) H locs ls hP hD hS (lv_sub hl [] rfl)
    · replace hF := q_f hc hF
      refine lv_aload_n hx hb dX10_firstOrders_10 rfl (lv_at hl 0 rfl) ?_
      refine q_get (ci := 10) (C := RX10) (T := TX10) (N := 24) hx hb hts eX10_firstOrders_X10 hown hK hP 0 rfl rfl 11 (Nat.le_of_ble_eq_true rfl) k1 rfl rfl dX10_firstOrders_11 ?_
      refine lv_iload_n hx hb dX10_firstOrders_14 rfl (lv_at hl 1 rfl) ?_
      refine lv_iconst (v := 0) hx hb dX10_firstOrders_15 (by decide) ?_
      obtain ⟨hn2, hF⟩ := q_ck hF
      refine q_iast hx hb hK hP hD hS 7 0 (iX10_firstOrders aZ cI cZ Z_code Z_isBox Z_isArrow Z_from Z_to Z_turned Z_told Z_layers Z_layer (upd Z_sizes_1 x1_1.toNatClampNeg 0) Z_items_1 Z_place_1 Z_dummyPlace_1) rfl rfl hn2 rfl dX10_firstOrders_16 (fun H locs hP hD hS => ?_)
      refine lv_iconst (v := 0) hx hb dX10_firstOrders_17 (by decide) ?_
      refine lv_istore_n (lv' := [(2, .int 0), (0, .ref (aZ 0)), (1, .int x1_1)]) hx hb dX10_firstOrders_18 rfl hl (by decide) rfl (fun ls hl => ?_)
      obtain ⟨q3_0, q3_1, hc3, hF⟩ := q_bd2 hF
      have X3 : ∀ (u3_0 : Nat → Int32) (u3_1 : Nat → Int32), (u3_0, u3_1) = (q3_0, q3_1) → ∀ (H : Heap) (locs : List Loc) (ls : Array Slot), va_P (dC, dI) vwCl (iX10_firstOrders aZ cI cZ Z_code Z_isBox Z_isArrow Z_from Z_to Z_turned Z_told Z_layers Z_layer u3_0 u3_1 Z_place_1 Z_dummyPlace_1) H → va_D A (iX10_firstOrders aZ cI cZ Z_code Z_isBox Z_isArrow Z_from Z_to Z_turned Z_told Z_layers Z_layer u3_0 u3_1 Z_place_1 Z_dummyPlace_1) → va_S A s.heap H locs → lv_has ls 3 [(0, .ref (aZ 0)), (1, .int x1_1)] → W p l e (headSpec wsX10_firstOrders (rX10_firstOrders)).room s m args below meth c H locs 0 0 Q (F0 m 56 ls []) := by
        intro u3_0 u3_1 hu H locs ls hP hD hS hl
        obtain ⟨e0, e1⟩ := q_inj2 hu
        subst e0 e1
        refine lv_iconst (v := 0) hx hb dX10_firstOrders_56 (by decide) ?_
        refine lv_istore_n (lv' := [(2, .int 0), (0, .ref (aZ 0)), (1, .int x1_1)]) hx hb dX10_firstOrders_57 rfl hl (by decide) rfl (fun ls hl => ?_)
        obtain ⟨q8_0, q8_1, hc8, hF⟩ := q_bd2 hF
        have X8 : ∀ (u8_0 : Nat → Int32) (u8_1 : Nat → Int32), (u8_0, u8_1) = (q8_0, q8_1) → ∀ (H : Heap) (locs : List Loc) (ls : Array Slot), va_P (dC, dI) vwCl (iX10_firstOrders aZ cI cZ Z_code Z_isBox Z_isArrow Z_from Z_to Z_turned Z_told Z_layers Z_layer u8_0 u8_1 Z_place_1 Z_dummyPlace_1) H → va_D A (iX10_firstOrders aZ cI cZ Z_code Z_isBox Z_isArrow Z_from Z_to Z_turned Z_told Z_layers Z_layer u8_0 u8_1 Z_place_1 Z_dummyPlace_1) → va_S A s.heap H locs → lv_has ls 3 [(0, .ref (aZ 0)), (1, .int x1_1)] → W p l e (headSpec wsX10_firstOrders (rX10_firstOrders)).room s m args below meth c H locs 0 0 Q (F0 m 88 ls []) := by
          intro u8_0 u8_1 hu H locs ls hP hD hS hl
          obtain ⟨e0, e1⟩ := q_inj2 hu
          subst e0 e1
          refine lv_aload_n hx hb dX10_firstOrders_88 rfl (lv_at hl 0 rfl) ?_
          refine lv_iload_n hx hb dX10_firstOrders_89 rfl (lv_at hl 1 rfl) ?_
          obtain ⟨q12_0, q12_1, hcq12, hF⟩ := q_bd2 hF
          refine q_Vv (As := [.int x1_1]) (rest := []) ⟨hx, hb, hml, hown, hts⟩ hA hK hP hD hS (tX10_note l dC dI cI cZ aZ H.size Z_code Z_told Z_layers u8_0 u8_1 Z_place_1 Z_dummyPlace_1 x1_1 (q12_0, q12_1) hcq12) (cwV 1 hts gX10_firstOrders_X10_note rfl rfl rfl uX10_note ⟨Nat.le_of_ble_eq_true rfl, Nat.le_of_ble_eq_true rfl⟩) [0, 7, 8, 9, 10] [(true, 0), (false, 1), (false, 2), (false, 3), (false, 4), (false, 5), (false, 6), (true, 1), (true, 2), (true, 3), (true, 4)] (iX10_firstOrders aZ cI cZ Z_code Z_isBox Z_isArrow Z_from Z_to Z_turned Z_told Z_layers Z_layer u8_0 u8_1 q12_0 q12_1) rfl rfl rfl rfl rfl 10 0 rfl rfl rfl rfl hl.1 rfl (Nat.le_of_ble_eq_true rfl) dX10_firstOrders_90 ⟨Nat.zero_le _, Nat.zero_le _⟩ (fun H locs hP hD hS => ?_)
          refine lv_iinc (v := (x1_1 + 1)) (lv' := [(1, .int (x1_1 + 1)), (0, .ref (aZ 0))]) hx hb dX10_firstOrders_93 hl (k := 1) rfl rfl (by decide) rfl (fun ls hl => ?_)
          refine lv_goto (tgt := 2) hx hb dX10_firstOrders_96 (by decide) ?_
          exact hin _ (Option.some.inj hF).symm H locs ls hP hD hS (lv_sub hl [1, 0] rfl)
        have L8 : ∀ st : Int32 × (Nat → Int32) × (Nat → Int32), q_lo (fun (st : Int32 × (Nat → Int32) × (Nat → Int32)) => bX10_firstOrders_58 Z_isArrow Z_from Z_to Z_turned Z_layer x1_1 st.1 st.2.1 st.2.2) st = some (q8_0, q8_1) → ∀ (H : Heap) (locs : List Loc) (ls : Array Slot), va_P (dC, dI) vwCl (iX10_firstOrders aZ cI cZ Z_code Z_isBox Z_isArrow Z_from Z_to Z_turned Z_told Z_layers Z_layer st.2.1 st.2.2 Z_place_1 Z_dummyPlace_1) H → va_D A (iX10_firstOrders aZ cI cZ Z_code Z_isBox Z_isArrow Z_from Z_to Z_turned Z_told Z_layers Z_layer st.2.1 st.2.2 Z_place_1 Z_dummyPlace_1) → va_S A s.heap H locs → lv_has ls 3 [(0, .ref (aZ 0)), (1, .int x1_1), (2, .int st.1)] → W p l e (headSpec wsX10_firstOrders (rX10_firstOrders)).room s m args below meth c H locs 0 0 Q (F0 m 58 ls []) := by
          intro st hst
          refine q_walk (Wh := fun st : Int32 × (Nat → Int32) × (Nat → Int32) => ∀ (H : Heap) (locs : List Loc) (ls : Array Slot), va_P (dC, dI) vwCl (iX10_firstOrders aZ cI cZ Z_code Z_isBox Z_isArrow Z_from Z_to Z_turned Z_told Z_layers Z_layer st.2.1 st.2.2 Z_place_1 Z_dummyPlace_1) H → va_D A (iX10_firstOrders aZ cI cZ Z_code Z_isBox Z_isArrow Z_from Z_to Z_turned Z_told Z_layers Z_layer st.2.1 st.2.2 Z_place_1 Z_dummyPlace_1) → va_S A s.heap H locs → lv_has ls 3 [(0, .ref (aZ 0)), (1, .int x1_1), (2, .int st.1)] → W p l e (headSpec wsX10_firstOrders (rX10_firstOrders)).room s m args below meth c H locs 0 0 Q (F0 m 58 ls [])) ?_ st hst
          clear hst st hF
          intro st o hF hin hex H locs ls hP hD hS hl
          obtain ⟨x2_8, Z_sizes_8, Z_items_8⟩ := st
          replace hF : bX10_firstOrders_58 Z_isArrow Z_from Z_to Z_turned Z_layer x1_1 x2_8 Z_sizes_8 Z_items_8 = some o := hF
          replace hP : va_P (dC, dI) vwCl (iX10_firstOrders aZ cI cZ Z_code Z_isBox Z_isArrow Z_from Z_to Z_turned Z_told Z_layers Z_layer Z_sizes_8 Z_items_8 Z_place_1 Z_dummyPlace_1) H := hP
          replace hD : va_D A (iX10_firstOrders aZ cI cZ Z_code Z_isBox Z_isArrow Z_from Z_to Z_turned Z_told Z_layers Z_layer Z_sizes_8 Z_items_8 Z_place_1 Z_dummyPlace_1) := hD
          replace hl : lv_has ls 3 [(0, .ref (aZ 0)), (1, .int x1_1), (2, .int x2_8)] := hl
          unfold bX10_firstOrders_58 at hF
          have JX10_FIRSTORDERS_82 : ∀ (Z_sizes_9 : Nat → Int32) (Z_items_9 : Nat → Int32) (x2_9 : Int32), jX10_firstOrders_82 Z_sizes_9 Z_items_9 x1_1 x2_9 = some o → ∀ (H : Heap) (locs : List Loc) (ls : Array Slot), va_P (dC, dI) vwCl (iX10_firstOrders aZ cI cZ Z_code Z_isBox Z_isArrow Z_from Z_to Z_turned Z_told Z_layers Z_layer Z_sizes_9 Z_items_9 Z_place_1 Z_dummyPlace_1) H → va_D A (iX10_firstOrders aZ cI cZ Z_code Z_isBox Z_isArrow Z_from Z_to Z_turned Z_told Z_layers Z_layer Z_sizes_9 Z_items_9 Z_place_1 Z_dummyPlace_1) → va_S A s.heap H locs → lv_has ls 3 [(0, .ref (aZ 0)), (1, .int x1_1), (2, .int x2_9)] → W p l e (headSpec wsX10_firstOrders (rX10_firstOrders)).room s m args below meth c H locs 0 0 Q (F0 m 82 ls []) := by
            intro Z_sizes_9 Z_items_9 x2_9 hF H locs ls hP hD hS hl
            unfold jX10_firstOrders_82 at hF
            refine lv_iinc (v := (x2_9 + 1)) (lv' := [(2, .int (x2_9 + 1)), (0, .ref (aZ 0)), (1, .int x1_1)]) hx hb dX10_firstOrders_82 hl (k := 2) rfl rfl (by decide) rfl (fun ls hl => ?_)
            refine lv_goto (tgt := 58) hx hb dX10_firstOrders_85 (by decide) ?_
            exact hin _ (Option.some.inj hF).symm H locs ls hP hD hS (lv_sub hl [1, 2, 0] rfl)
          refine lv_iload_n hx hb dX10_firstOrders_58 rfl (lv_at hl 2 rfl) ?_
          refine lv_bipush (v := 24) hx hb dX10_firstOrders_59 (by decide) ?_
          refine lv_icmp_ge (tgt := 88) hx hb dX10_firstOrders_61 (by decide) (fun hc => ?_) (fun hc => ?_)
          · replace hF := q_t hc hF
            exact X8 _ _ (hex _ (Option.some.inj hF).symm) H locs ls hP hD hS (lv_sub hl [0, 1] rfl)
          · replace hF := q_f hc hF
            refine lv_aload_n hx hb dX10_firstOrders_64 rfl (lv_at hl 0 rfl) ?_
            refine lv_iload_n hx hb dX10_firstOrders_65 rfl (lv_at hl 2 rfl) ?_
            refine lv_iload_n hx hb dX10_firstOrders_66 rfl (lv_at hl 1 rfl) ?_
            obtain ⟨q10, hcq10, hF⟩ := q_bd hF
            refine q_Vi (As := [.int x2_8, .int x1_1]) (rest := []) ⟨hx, hb, hml, hown, hts⟩ hA hK hP hD hS (tX10_hasDummy l dC dI cI cZ aZ H.size Z_code Z_isArrow Z_from Z_to Z_turned Z_told Z_layers Z_layer x2_8 x1_1 q10 hcq10) (cwV 2 hts gX10_firstOrders_X10_hasDummy rfl rfl rfl uX10_hasDummy ⟨Nat.le_of_ble_eq_true rfl, Nat.le_of_ble_eq_true rfl⟩) [0, 2, 3, 4, 5, 6] [(true, 0), (false, 1), (true, 1), (true, 2), (true, 3), (true, 4), (true, 5), (false, 7), (false, 8), (false, 9), (false, 10)] (iX10_firstOrders aZ cI cZ Z_code Z_isBox Z_isArrow Z_from Z_to Z_turned Z_told Z_layers Z_layer Z_sizes_8 Z_items_8 Z_place_1 Z_dummyPlace_1) rfl rfl rfl rfl rfl 10 0 rfl rfl rfl rfl hl.1 rfl (Nat.le_of_ble_eq_true rfl) dX10_firstOrders_67 ⟨Nat.zero_le _, Nat.zero_le _⟩ (fun H locs hP hD hS => ?_)
            refine lv_if_eq (tgt := 82) hx hb dX10_firstOrders_70 (by decide) (fun hc => ?_) (fun hc => ?_)
            · replace hF := q_t hc hF
              exact JX10_FIRSTORDERS_82 Z_sizes_8 Z_items_8 x2_8 hF H locs ls hP hD hS (lv_sub hl [0, 1, 2] rfl)
            · replace hF := q_f hc hF
              refine lv_aload_n hx hb dX10_firstOrders_73 rfl (lv_at hl 0 rfl) ?_
              refine lv_iload_n hx hb dX10_firstOrders_74 rfl (lv_at hl 1 rfl) ?_
              refine lv_bipush (v := 100) hx hb dX10_firstOrders_75 (by decide) ?_
              refine lv_iload_n hx hb dX10_firstOrders_77 rfl (lv_at hl 2 rfl) ?_
              refine lv_iadd hx hb dX10_firstOrders_78 ?_
              obtain ⟨q11_0, q11_1, hcq11, hF⟩ := q_bd2 hF
              refine q_Vv (As := [.int x1_1, .int (100 + x2_8)]) (rest := []) ⟨hx, hb, hml, hown, hts⟩ hA hK hP hD hS (tX10_add l dC dI cI cZ aZ H.size Z_code Z_told Z_layers Z_sizes_8 Z_items_8 x1_1 (100 + x2_8) (q11_0, q11_1) hcq11) (cwV 2 hts gX10_firstOrders_X10_add rfl rfl rfl uX10_add ⟨Nat.le_of_ble_eq_true rfl, Nat.le_of_ble_eq_true rfl⟩) [0, 7, 8] [(true, 0), (false, 1), (false, 2), (false, 3), (false, 4), (false, 5), (false, 6), (true, 1), (true, 2), (false, 9), (false, 10)] (iX10_firstOrders aZ cI cZ Z_code Z_isBox Z_isArrow Z_from Z_to Z_turned Z_told Z_layers Z_layer q11_0 q11_1 Z_place_1 Z_dummyPlace_1) rfl rfl rfl rfl rfl 10 0 rfl rfl rfl rfl hl.1 rfl (Nat.le_of_ble_eq_true rfl) dX10_firstOrders_79 ⟨Nat.zero_le _, Nat.zero_le _⟩ (fun H locs hP hD hS => ?_)
              exact JX10_FIRSTORDERS_82 q11_0 q11_1 x2_8 hF H locs ls hP hD hS (lv_sub hl [0, 1, 2] rfl)
        exact L8 (0, u3_0, u3_1) hc8 H locs ls hP hD hS (lv_sub hl [1, 2, 0] rfl)
      have L3 : ∀ st : Int32 × (Nat → Int32) × (Nat → Int32), q_lo (fun (st : Int32 × (Nat → Int32) × (Nat → Int32)) => bX10_firstOrders_19 Z_isBox Z_layer x1_1 st.1 st.2.1 st.2.2) st = some (q3_0, q3_1) → ∀ (H : Heap) (locs : List Loc) (ls : Array Slot), va_P (dC, dI) vwCl (iX10_firstOrders aZ cI cZ Z_code Z_isBox Z_isArrow Z_from Z_to Z_turned Z_told Z_layers Z_layer st.2.1 st.2.2 Z_place_1 Z_dummyPlace_1) H → va_D A (iX10_firstOrders aZ cI cZ Z_code Z_isBox Z_isArrow Z_from Z_to Z_turned Z_told Z_layers Z_layer st.2.1 st.2.2 Z_place_1 Z_dummyPlace_1) → va_S A s.heap H locs → lv_has ls 3 [(0, .ref (aZ 0)), (1, .int x1_1), (2, .int st.1)] → W p l e (headSpec wsX10_firstOrders (rX10_firstOrders)).room s m args below meth c H locs 0 0 Q (F0 m 19 ls []) := by
        intro st hst
        refine q_walk (Wh := fun st : Int32 × (Nat → Int32) × (Nat → Int32) => ∀ (H : Heap) (locs : List Loc) (ls : Array Slot), va_P (dC, dI) vwCl (iX10_firstOrders aZ cI cZ Z_code Z_isBox Z_isArrow Z_from Z_to Z_turned Z_told Z_layers Z_layer st.2.1 st.2.2 Z_place_1 Z_dummyPlace_1) H → va_D A (iX10_firstOrders aZ cI cZ Z_code Z_isBox Z_isArrow Z_from Z_to Z_turned Z_told Z_layers Z_layer st.2.1 st.2.2 Z_place_1 Z_dummyPlace_1) → va_S A s.heap H locs → lv_has ls 3 [(0, .ref (aZ 0)), (1, .int x1_1), (2, .int st.1)] → W p l e (headSpec wsX10_firstOrders (rX10_firstOrders)).room s m args below meth c H locs 0 0 Q (F0 m 19 ls [])) ?_ st hst
        clear hst st hF
        intro st o hF hin hex H locs ls hP hD hS hl
        obtain ⟨x2_3, Z_sizes_3, Z_items_3⟩ := st
        replace hF : bX10_firstOrders_19 Z_isBox Z_layer x1_1 x2_3 Z_sizes_3 Z_items_3 = some o := hF
        replace hP : va_P (dC, dI) vwCl (iX10_firstOrders aZ cI cZ Z_code Z_isBox Z_isArrow Z_from Z_to Z_turned Z_told Z_layers Z_layer Z_sizes_3 Z_items_3 Z_place_1 Z_dummyPlace_1) H := hP
        replace hD : va_D A (iX10_firstOrders aZ cI cZ Z_code Z_isBox Z_isArrow Z_from Z_to Z_turned Z_told Z_layers Z_layer Z_sizes_3 Z_items_3 Z_place_1 Z_dummyPlace_1) := hD
        replace hl : lv_has ls 3 [(0, .ref (aZ 0)), (1, .int x1_1), (2, .int x2_3)] := hl
        unfold bX10_firstOrders_19 at hF
        have JX10_FIRSTORDERS_50 : ∀ (Z_sizes_4 : Nat → Int32) (Z_items_4 : Nat → Int32) (x2_4 : Int32), jX10_firstOrders_50 Z_sizes_4 Z_items_4 x1_1 x2_4 = some o → ∀ (H : Heap) (locs : List Loc) (ls : Array Slot), va_P (dC, dI) vwCl (iX10_firstOrders aZ cI cZ Z_code Z_isBox Z_isArrow Z_from Z_to Z_turned Z_told Z_layers Z_layer Z_sizes_4 Z_items_4 Z_place_1 Z_dummyPlace_1) H → va_D A (iX10_firstOrders aZ cI cZ Z_code Z_isBox Z_isArrow Z_from Z_to Z_turned Z_told Z_layers Z_layer Z_sizes_4 Z_items_4 Z_place_1 Z_dummyPlace_1) → va_S A s.heap H locs → lv_has ls 3 [(0, .ref (aZ 0)), (1, .int x1_1), (2, .int x2_4)] → W p l e (headSpec wsX10_firstOrders (rX10_firstOrders)).room s m args below meth c H locs 0 0 Q (F0 m 50 ls []) := by
          intro Z_sizes_4 Z_items_4 x2_4 hF H locs ls hP hD hS hl
          unfold jX10_firstOrders_50 at hF
          refine lv_iinc (v := (x2_4 + 1)) (lv' := [(2, .int (x2_4 + 1)), (0, .ref (aZ 0)), (1, .int x1_1)]) hx hb dX10_firstOrders_50 hl (k := 2) rfl rfl (by decide) rfl (fun ls hl => ?_)
          refine lv_goto (tgt := 19) hx hb dX10_firstOrders_53 (by decide) ?_
          exact hin _ (Option.some.inj hF).symm H locs ls hP hD hS (lv_sub hl [1, 2, 0] rfl)
        refine lv_iload_n hx hb dX10_firstOrders_19 rfl (lv_at hl 2 rfl) ?_
        refine lv_bipush (v := 16) hx hb dX10_firstOrders_20 (by decide) ?_
        refine lv_icmp_ge (tgt := 56) hx hb dX10_firstOrders_22 (by decide) (fun hc => ?_) (fun hc => ?_)
        · replace hF := q_t hc hF
          exact X3 _ _ (hex _ (Option.some.inj hF).symm) H locs ls hP hD hS (lv_sub hl [0, 1] rfl)
        · replace hF := q_f hc hF
          refine lv_aload_n hx hb dX10_firstOrders_25 rfl (lv_at hl 0 rfl) ?_
          refine q_get (ci := 10) (C := RX10) (T := TX10) (N := 24) hx hb hts eX10_firstOrders_X10 hown hK hP 0 rfl rfl 1 (Nat.le_of_ble_eq_true rfl) k2 rfl rfl dX10_firstOrders_26 ?_
          refine lv_iload_n hx hb dX10_firstOrders_29 rfl (lv_at hl 2 rfl) ?_
          obtain ⟨hn5, hF⟩ := q_ck hF
          refine va_zald hx hb hK hP 1 1 rfl rfl hn5 dX10_firstOrders_30 ?_
          refine lv_if_eq (tgt := 50) hx hb dX10_firstOrders_31 (by decide) (fun hc => ?_) (fun hc => ?_)
          · replace hF := q_t hc hF
            exact JX10_FIRSTORDERS_50 Z_sizes_3 Z_items_3 x2_3 hF H locs ls hP hD hS (lv_sub hl [0, 1, 2] rfl)
          · replace hF := q_f hc hF
            refine lv_aload_n hx hb dX10_firstOrders_34 rfl (lv_at hl 0 rfl) ?_
            refine q_get (ci := 10) (C := RX10) (T := TX10) (N := 24) hx hb hts eX10_firstOrders_X10 hown hK hP 0 rfl rfl 10 (Nat.le_of_ble_eq_true rfl) k3 rfl rfl dX10_firstOrders_35 ?_
            refine lv_iload_n hx hb dX10_firstOrders_38 rfl (lv_at hl 2 rfl) ?_
            obtain ⟨hn6, hF⟩ := q_ck hF
            refine va_iald hx hb hK hP 6 0 rfl rfl hn6 dX10_firstOrders_39 ?_
            refine lv_iload_n hx hb dX10_firstOrders_40 rfl (lv_at hl 1 rfl) ?_
            refine lv_icmp_ne (tgt := 50) hx hb dX10_firstOrders_41 (by decide) (fun hc => ?_) (fun hc => ?_)
            · replace hF := q_f hc hF
              exact JX10_FIRSTORDERS_50 Z_sizes_3 Z_items_3 x2_3 hF H locs ls hP hD hS (lv_sub hl [0, 1, 2] rfl)
            · replace hF := q_t hc hF
              refine lv_aload_n hx hb dX10_firstOrders_44 rfl (lv_at hl 0 rfl) ?_
              refine lv_iload_n hx hb dX10_firstOrders_45 rfl (lv_at hl 1 rfl) ?_
              refine lv_iload_n hx hb dX10_firstOrders_46 rfl (lv_at hl 2 rfl) ?_
              obtain ⟨q7_0, q7_1, hcq7, hF⟩ := q_bd2 hF
              refine q_Vv (As := [.int x1_1, .int x2_3]) (rest := []) ⟨hx, hb, hml, hown, hts⟩ hA hK hP hD hS (tX10_add l dC dI cI cZ aZ H.size Z_code Z_told Z_layers Z_sizes_3 Z_items_3 x1_1 x2_3 (q7_0, q7_1) hcq7) (cwV 2 hts gX10_firstOrders_X10_add rfl rfl rfl uX10_add ⟨Nat.le_of_ble_eq_true rfl, Nat.le_of_ble_eq_true rfl⟩) [0, 7, 8] [(true, 0), (false, 1), (false, 2), (false, 3), (false, 4), (false, 5), (false, 6), (true, 1), (true, 2), (false, 9), (false, 10)] (iX10_firstOrders aZ cI cZ Z_code Z_isBox Z_isArrow Z_from Z_to Z_turned Z_told Z_layers Z_layer q7_0 q7_1 Z_place_1 Z_dummyPlace_1) rfl rfl rfl rfl rfl 10 0 rfl rfl rfl rfl hl.1 rfl (Nat.le_of_ble_eq_true rfl) dX10_firstOrders_47 ⟨Nat.zero_le _, Nat.zero_le _⟩ (fun H locs hP hD hS => ?_)
              exact JX10_FIRSTORDERS_50 q7_0 q7_1 x2_3 hF H locs ls hP hD hS (lv_sub hl [0, 1, 2] rfl)
      exact L3 (0, (upd Z_sizes_1 x1_1.toNatClampNeg 0), Z_items_1) hc3 H locs ls hP hD hS (lv_sub hl [1, 2, 0] rfl)
  exact L1 (0, Z_sizes, Z_items, Z_place, Z_dummyPlace) hc1 H locs ls hP hD hS (lv_sub hl [1, 0] rfl)
abbrev rX10_median : Room := { frames := 2, cells := 0, slots := 0, locals := 43 }
theorem eX10_median_X10 : ∀ w ∈ u_ws RX10 TX10 24, w ∈ wsX10_median := by decide +kernel
theorem uX10_median : yX10_median.cls = RX10 ∧ yX10_median.cls ≠ "java/lang/invoke/MethodHandle" ∧ yX10_median.cls ≠ "java/lang/invoke/VarHandle" ∧ (parseMethodDescriptor yX10_median.desc).map (fun d => d.parameters.length) = some 3 := by decide +kernel
set_option maxHeartbeats 4000000 in
set_option maxRecDepth 100000 in
theorem tX10_median (l : Launch) (dC : Nat → ClassId) (dI : Nat → Nat → Nat) (cI cZ : ClassId) (aZ : Nat → Nat) (sz : Nat) (Z_code : Int32) (Z_isArrow : Nat → Int32) (Z_from : Nat → Int32) (Z_to : Nat → Int32) (Z_turned : Nat → Int32) (Z_told : Int32) (Z_layers : Int32) (Z_layer : Nat → Int32) (Z_place : Nat → Int32) (Z_dummyPlace : Nat → Int32) (Z_near : Nat → Int32) (p0 : Int32) (p1 : Int32) (p2 : Int32) (res : Int32 × (Nat → Int32)) (hF : fX10_median Z_isArrow Z_from Z_to Z_turned Z_layer Z_place Z_dummyPlace Z_near p0 p1 p2 = some res) : q_Mi l yX10_median wsX10_median rX10_median (dC, dI) (q_ty cI cZ) [.ref (aZ 0), .int p0, .int p1, .int p2] (iX10_median aZ cI cZ Z_code Z_isArrow Z_from Z_to Z_turned Z_told Z_layers Z_layer Z_place Z_dummyPlace Z_near) (iX10_median aZ cI cZ Z_code Z_isArrow Z_from Z_to Z_turned Z_told Z_layers Z_layer Z_place Z_dummyPlace res.2) sz res.1 := by
  refine q_meti (cc := cX10_median) (maxL := 9) (by decide) rfl (Nat.le_of_ble_eq_true rfl) ?_
  intro p e s m args below meth c Q A H locs ls C hP hD hS hl hret
  obtain ⟨hx, hb, hml, hown, hts, hA, hK⟩ := C
  replace hl : lv_has ls 9 [(0, .ref (aZ 0)), (1, .int p0), (2, .int p1), (3, .int p2)] := hl
  have k0 := hts (.fieldLink RX10 68 "RouteLayoutModel" "near" "[I") (by decide +kernel)
  unfold fX10_median at hF
  refine lv_iconst (v := 0) hx hb dX10_median_0 (by decide) ?_
  refine lv_istore (lv' := [(4, .int 0), (0, .ref (aZ 0)), (1, .int p0), (2, .int p1), (3, .int p2)]) hx hb dX10_median_1 hl (by decide) rfl (fun ls hl => ?_)
  refine lv_iconst (v := 0) hx hb dX10_median_3 (by decide) ?_
  refine lv_istore (lv' := [(5, .int 0), (4, .int 0), (0, .ref (aZ 0)), (1, .int p0), (2, .int p1), (3, .int p2)]) hx hb dX10_median_4 hl (by decide) rfl (fun ls hl => ?_)
  obtain ⟨q1_0, q1_1, hc1, hF⟩ := q_bd2 hF
  have X1 : ∀ (u1_0 : Int32) (u1_1 : Nat → Int32), (u1_0, u1_1) = (q1_0, q1_1) → ∀ (H : Heap) (locs : List Loc) (ls : Array Slot), va_P (dC, dI) vwCl (iX10_median aZ cI cZ Z_code Z_isArrow Z_from Z_to Z_turned Z_told Z_layers Z_layer Z_place Z_dummyPlace u1_1) H → va_D A (iX10_median aZ cI cZ Z_code Z_isArrow Z_from Z_to Z_turned Z_told Z_layers Z_layer Z_place Z_dummyPlace u1_1) → va_S A s.heap H locs → lv_has ls 9 [(0, .ref (aZ 0)), (4, .int u1_0)] → W p l e (headSpec wsX10_median (rX10_median)).room s m args below meth c H locs 0 0 Q (F0 m 113 ls []) := by
    intro u1_0 u1_1 hu H locs ls hP hD hS hl
    obtain ⟨e0, e1⟩ := q_inj2 hu
    subst e0 e1
    refine lv_iload hx hb dX10_median_113 (lv_at hl 1 rfl) ?_
    refine lv_if_ne (tgt := 120) hx hb dX10_median_115 (by decide) (fun hc => ?_) (fun hc => ?_)
    · replace hF := q_f hc hF
      refine lv_iconst (v := 0) hx hb dX10_median_120 (by decide) ?_
      refine lv_istore (lv' := [(5, .int 0), (0, .ref (aZ 0)), (4, .int u1_0)]) hx hb dX10_median_121 hl (by decide) rfl (fun ls hl => ?_)
      obtain ⟨q12, hc12, hF⟩ := q_bd hF
      have X12a : ∀ (_ : Unit), (Sum.inl () : (Unit) ⊕ (Int32)) = q12 → ∀ (H : Heap) (locs : List Loc) (ls : Array Slot), va_P (dC, dI) vwCl (iX10_median aZ cI cZ Z_code Z_isArrow Z_from Z_to Z_turned Z_told Z_layers Z_layer Z_place Z_dummyPlace u1_1) H → va_D A (iX10_median aZ cI cZ Z_code Z_isArrow Z_from Z_to Z_turned Z_told Z_layers Z_layer Z_place Z_dummyPlace u1_1) → va_S A s.heap H locs → lv_has ls 9 [] → W p l e (headSpec wsX10_median (rX10_median)).room s m args below meth c H locs 0 0 Q (F0 m 245 ls []) := by
        intro _ hu H locs ls hP hD hS hl
        subst hu
        replace hF := q_el hF
        refine lv_iconst (v := (-1)) hx hb dX10_median_245 (by decide) ?_
        exact hret H locs ls 246 _ _ dX10_median_246 (congrArg Prod.fst (Option.some.inj hF)) (congrArg (fun z : Int32 × (Nat → Int32) => (iX10_median aZ cI cZ Z_code Z_isArrow Z_from Z_to Z_turned Z_told Z_layers Z_layer Z_place Z_dummyPlace z.2)) (Option.some.inj hF)) hP hD hS
      have X12b : ∀ (u12 : Int32), (Sum.inr u12 : (Unit) ⊕ (Int32)) = q12 → ∀ (H : Heap) (locs : List Loc) (ls : Array Slot), va_P (dC, dI) vwCl (iX10_median aZ cI cZ Z_code Z_isArrow Z_from Z_to Z_turned Z_told Z_layers Z_layer Z_place Z_dummyPlace u1_1) H → va_D A (iX10_median aZ cI cZ Z_code Z_isArrow Z_from Z_to Z_turned Z_told Z_layers Z_layer Z_place Z_dummyPlace u1_1) → va_S A s.heap H locs → lv_has ls 9 [(0, .ref (aZ 0)), (5, .int u12)] → W p l e (headSpec wsX10_median (rX10_median)).room s m args below meth c H locs 0 0 Q (F0 m 231 ls []) := by
        intro u12 hu H locs ls hP hD hS hl
        subst hu
        replace hF := q_er hF
        refine lv_aload_n hx hb dX10_median_231 rfl (lv_at hl 0 rfl) ?_
        refine q_get (ci := 10) (C := RX10) (T := TX10) (N := 24) hx hb hts eX10_median_X10 hown hK hP 0 rfl rfl 22 (Nat.le_of_ble_eq_true rfl) k0 rfl rfl dX10_median_232 ?_
        refine lv_iload hx hb dX10_median_235 (lv_at hl 1 rfl) ?_
        obtain ⟨hn21, hF⟩ := q_ck hF
        refine va_iald hx hb hK hP 8 0 rfl rfl hn21 dX10_median_237 ?_
        exact hret H locs ls 238 _ _ dX10_median_238 (congrArg Prod.fst (Option.some.inj hF)) (congrArg (fun z : Int32 × (Nat → Int32) => (iX10_median aZ cI cZ Z_code Z_isArrow Z_from Z_to Z_turned Z_told Z_layers Z_layer Z_place Z_dummyPlace z.2)) (Option.some.inj hF)) hP hD hS
      have L12 : ∀ st : Int32, q_lo (fun (st : Int32) => bX10_median_123 u1_1 u1_0 st) st = some q12 → ∀ (H : Heap) (locs : List Loc) (ls : Array Slot), va_P (dC, dI) vwCl (iX10_median aZ cI cZ Z_code Z_isArrow Z_from Z_to Z_turned Z_told Z_layers Z_layer Z_place Z_dummyPlace u1_1) H → va_D A (iX10_median aZ cI cZ Z_code Z_isArrow Z_from Z_to Z_turned Z_told Z_layers Z_layer Z_place Z_dummyPlace u1_1) → va_S A s.heap H locs → lv_has ls 9 [(0, .ref (aZ 0)), (4, .int u1_0), (5, .int st)] → W p l e (headSpec wsX10_median (rX10_median)).room s m args below meth c H locs 0 0 Q (F0 m 123 ls []) := by
        intro st hst
        refine q_walk (Wh := fun st : Int32 => ∀ (H : Heap) (locs : List Loc) (ls : Array Slot), va_P (dC, dI) vwCl (iX10_median aZ cI cZ Z_code Z_isArrow Z_from Z_to Z_turned Z_told Z_layers Z_layer Z_place Z_dummyPlace u1_1) H → va_D A (iX10_median aZ cI cZ Z_code Z_isArrow Z_from Z_to Z_turned Z_told Z_layers Z_layer Z_place Z_dummyPlace u1_1) → va_S A s.heap H locs → lv_has ls 9 [(0, .ref (aZ 0)), (4, .int u1_0), (5, .int st)] → W p l e (headSpec wsX10_median (rX10_median)).room s m args below meth c H locs 0 0 Q (F0 m 123 ls [])) ?_ st hst
        clear hst st hF
        intro x5_12 o hF hin hex H locs ls hP hD hS hl
        replace hF : bX10_median_123 u1_1 u1_0 x5_12 = some o := hF
        replace hP : va_P (dC, dI) vwCl (iX10_median aZ cI cZ Z_code Z_isArrow Z_from Z_to Z_turned Z_told Z_layers Z_layer Z_place Z_dummyPlace u1_1) H := hP
        replace hD : va_D A (iX10_median aZ cI cZ Z_code Z_isArrow Z_from Z_to Z_turned Z_told Z_layers Z_layer Z_place Z_dummyPlace u1_1) := hD
        replace hl : lv_has ls 9 [(0, .ref (aZ 0)), (4, .int u1_0), (5, .int x5_12)] := hl
        unfold bX10_median_123 at hF
        have JX10_MEDIAN_239 : ∀ (x5_13 : Int32), jX10_median_239 u1_0 x5_13 = some o → ∀ (H : Heap) (locs : List Loc) (ls : Array Slot), va_P (dC, dI) vwCl (iX10_median aZ cI cZ Z_code Z_isArrow Z_from Z_to Z_turned Z_told Z_layers Z_layer Z_place Z_dummyPlace u1_1) H → va_D A (iX10_median aZ cI cZ Z_code Z_isArrow Z_from Z_to Z_turned Z_told Z_layers Z_layer Z_place Z_dummyPlace u1_1) → va_S A s.heap H locs → lv_has ls 9 [(0, .ref (aZ 0)), (4, .int u1_0), (5, .int x5_13)] → W p l e (headSpec wsX10_median (rX10_median)).room s m args below meth c H locs 0 0 Q (F0 m 239 ls []) := by
          intro x5_13 hF H locs ls hP hD hS hl
          unfold jX10_median_239 at hF
          refine lv_iinc (v := (x5_13 + 1)) (lv' := [(5, .int (x5_13 + 1)), (0, .ref (aZ 0)), (4, .int u1_0)]) hx hb dX10_median_239 hl (k := 2) rfl rfl (by decide) rfl (fun ls hl => ?_)
          refine lv_goto (tgt := 123) hx hb dX10_median_242 (by decide) ?_
          exact hin _ (Option.some.inj hF).symm H locs ls hP hD hS (lv_sub hl [1, 2, 0] rfl)
        refine lv_iload hx hb dX10_median_123 (lv_at hl 2 rfl) ?_
        refine lv_iload hx hb dX10_median_125 (lv_at hl 1 rfl) ?_
        refine lv_icmp_ge (tgt := 245) hx hb dX10_median_127 (by decide) (fun hc => ?_) (fun hc => ?_)
        · replace hF := q_t hc hF
          exact X12a () (hex _ (Option.some.inj hF).symm) H locs ls hP hD hS (lv_sub hl [] rfl)
        · replace hF := q_f hc hF
          refine lv_iconst (v := 0) hx hb dX10_median_130 (by decide) ?_
          refine lv_istore (lv' := [(6, .int 0), (0, .ref (aZ 0)), (4, .int u1_0), (5, .int x5_12)]) hx hb dX10_median_131 hl (by decide) rfl (fun ls hl => ?_)
          refine lv_iconst (v := 0) hx hb dX10_median_133 (by decide) ?_
          refine lv_istore (lv' := [(7, .int 0), (6, .int 0), (0, .ref (aZ 0)), (4, .int u1_0), (5, .int x5_12)]) hx hb dX10_median_134 hl (by decide) rfl (fun ls hl => ?_)
          refine lv_iconst (v := 0) hx hb dX10_median_136 (by decide) ?_
          refine lv_istore (lv' := [(8, .int 0), (7, .int 0), (6, .int 0), (0, .ref (aZ 0)), (4, .int u1_0), (5, .int x5_12)]) hx hb dX10_median_137 hl (by decide) rfl (fun ls hl => ?_)
          obtain ⟨q14_0, q14_1, hc14, hF⟩ := q_bd2 hF
          have X14 : ∀ (u14_0 : Int32) (u14_1 : Int32), (u14_0, u14_1) = (q14_0, q14_1) → ∀ (H : Heap) (locs : List Loc) (ls : Array Slot), va_P (dC, dI) vwCl (iX10_median aZ cI cZ Z_code Z_isArrow Z_from Z_to Z_turned Z_told Z_layers Z_layer Z_place Z_dummyPlace u1_1) H → va_D A (iX10_median aZ cI cZ Z_code Z_isArrow Z_from Z_to Z_turned Z_told Z_layers Z_layer Z_place Z_dummyPlace u1_1) → va_S A s.heap H locs → lv_has ls 9 [(0, .ref (aZ 0)), (4, .int u1_0), (5, .int x5_12), (6, .int u14_0), (7, .int u14_1)] → W p l e (headSpec wsX10_median (rX10_median)).room s m args below meth c H locs 0 0 Q (F0 m 206 ls []) := by
            intro u14_0 u14_1 hu H locs ls hP hD hS hl
            obtain ⟨e0, e1⟩ := q_inj2 hu
            subst e0 e1
            refine lv_iload hx hb dX10_median_206 (lv_at hl 3 rfl) ?_
            refine lv_iload hx hb dX10_median_208 (lv_at hl 1 rfl) ?_
            refine lv_iconst (v := 1) hx hb dX10_median_210 (by decide) ?_
            refine lv_isub hx hb dX10_median_211 ?_
            refine lv_iconst (v := 2) hx hb dX10_median_212 (by decide) ?_
            refine lv_idiv hx hb dX10_median_213 (by decide) ?_
            refine lv_icmp_gt (tgt := 239) hx hb dX10_median_214 (by decide) (fun hc => ?_) (fun hc => ?_)
            · replace hF := q_t hc hF
              exact JX10_MEDIAN_239 x5_12 hF H locs ls hP hD hS (lv_sub hl [0, 1, 2] rfl)
            · replace hF := q_f hc hF
              refine lv_iload hx hb dX10_median_217 (lv_at hl 1 rfl) ?_
              refine lv_iconst (v := 1) hx hb dX10_median_219 (by decide) ?_
              refine lv_isub hx hb dX10_median_220 ?_
              refine lv_iconst (v := 2) hx hb dX10_median_221 (by decide) ?_
              refine lv_idiv hx hb dX10_median_222 (by decide) ?_
              refine lv_iload hx hb dX10_median_223 (lv_at hl 3 rfl) ?_
              refine lv_iload hx hb dX10_median_225 (lv_at hl 4 rfl) ?_
              refine lv_iadd hx hb dX10_median_227 ?_
              refine lv_icmp_ge (tgt := 239) hx hb dX10_median_228 (by decide) (fun hc => ?_) (fun hc => ?_)
              · replace hF := q_t hc hF
                exact JX10_MEDIAN_239 x5_12 hF H locs ls hP hD hS (lv_sub hl [0, 1, 2] rfl)
              · replace hF := q_f hc hF
                exact X12b _ (hex _ (Option.some.inj hF).symm) H locs ls hP hD hS (lv_sub hl [0, 2] rfl)
          have L14 : ∀ st : Int32 × Int32 × Int32, q_lo (fun (st : Int32 × Int32 × Int32) => bX10_median_139 u1_1 u1_0 x5_12 st.1 st.2.1 st.2.2) st = some (q14_0, q14_1) → ∀ (H : Heap) (locs : List Loc) (ls : Array Slot), va_P (dC, dI) vwCl (iX10_median aZ cI cZ Z_code Z_isArrow Z_from Z_to Z_turned Z_told Z_layers Z_layer Z_place Z_dummyPlace u1_1) H → va_D A (iX10_median aZ cI cZ Z_code Z_isArrow Z_from Z_to Z_turned Z_told Z_layers Z_layer Z_place Z_dummyPlace u1_1) → va_S A s.heap H locs → lv_has ls 9 [(0, .ref (aZ 0)), (4, .int u1_0), (5, .int x5_12), (6, .int st.1), (7, .int st.2.1), (8, .int st.2.2)] → W p l e (headSpec wsX10_median (rX10_median)).room s m args below meth c H locs 0 0 Q (F0 m 139 ls []) := by
            intro st hst
            refine q_walk (Wh := fun st : Int32 × Int32 × Int32 => ∀ (H : Heap) (locs : List Loc) (ls : Array Slot), va_P (dC, dI) vwCl (iX10_median aZ cI cZ Z_code Z_isArrow Z_from Z_to Z_turned Z_told Z_layers Z_layer Z_place Z_dummyPlace u1_1) H → va_D A (iX10_median aZ cI cZ Z_code Z_isArrow Z_from Z_to Z_turned Z_told Z_layers Z_layer Z_place Z_dummyPlace u1_1) → va_S A s.heap H locs → lv_has ls 9 [(0, .ref (aZ 0)), (4, .int u1_0), (5, .int x5_12), (6, .int st.1), (7, .int st.2.1), (8, .int st.2.2)] → W p l e (headSpec wsX10_median (rX10_median)).room s m args below meth c H locs 0 0 Q (F0 m 139 ls [])) ?_ st hst
            clear hst st hF
            intro st o hF hin hex H locs ls hP hD hS hl
            obtain ⟨x6_14, x7_14, x8_14⟩ := st
            replace hF : bX10_median_139 u1_1 u1_0 x5_12 x6_14 x7_14 x8_14 = some o := hF
            replace hP : va_P (dC, dI) vwCl (iX10_median aZ cI cZ Z_code Z_isArrow Z_from Z_to Z_turned Z_told Z_layers Z_layer Z_place Z_dummyPlace u1_1) H := hP
            replace hD : va_D A (iX10_median aZ cI cZ Z_code Z_isArrow Z_from Z_to Z_turned Z_told Z_layers Z_layer Z_place Z_dummyPlace u1_1) := hD
            replace hl : lv_has ls 9 [(0, .ref (aZ 0)), (4, .int u1_0), (5, .int x5_12), (6, .int x6_14), (7, .int x7_14), (8, .int x8_14)] := hl
            unfold bX10_median_139 at hF
            have JX10_MEDIAN_197 : ∀ (x6_15 : Int32) (x8_15 : Int32) (s0_15 : Int32) (s1_15 : Int32), jX10_median_197 u1_0 x5_12 x6_15 x8_15 s0_15 s1_15 = some o → ∀ (H : Heap) (locs : List Loc) (ls : Array Slot), va_P (dC, dI) vwCl (iX10_median aZ cI cZ Z_code Z_isArrow Z_from Z_to Z_turned Z_told Z_layers Z_layer Z_place Z_dummyPlace u1_1) H → va_D A (iX10_median aZ cI cZ Z_code Z_isArrow Z_from Z_to Z_turned Z_told Z_layers Z_layer Z_place Z_dummyPlace u1_1) → va_S A s.heap H locs → lv_has ls 9 [(0, .ref (aZ 0)), (4, .int u1_0), (5, .int x5_12), (6, .int x6_15), (8, .int x8_15)] → W p l e (headSpec wsX10_median (rX10_median)).room s m args below meth c H locs 0 0 Q (F0 m 197 ls [.int s0_15, .int s1_15]) := by
              intro x6_15 x8_15 s0_15 s1_15 hF H locs ls hP hD hS hl
              unfold jX10_median_197 at hF
              refine lv_iadd hx hb dX10_median_197 ?_
              refine lv_istore (lv' := [(7, .int (s1_15 + s0_15)), (0, .ref (aZ 0)), (4, .int u1_0), (5, .int x5_12), (6, .int x6_15), (8, .int x8_15)]) hx hb dX10_median_198 hl (by decide) rfl (fun ls hl => ?_)
              refine lv_iinc (v := (x8_15 + 1)) (lv' := [(8, .int (x8_15 + 1)), (7, .int (s1_15 + s0_15)), (0, .ref (aZ 0)), (4, .int u1_0), (5, .int x5_12), (6, .int x6_15)]) hx hb dX10_median_200 hl (k := 5) rfl rfl (by decide) rfl (fun ls hl => ?_)
              refine lv_goto (tgt := 139) hx hb dX10_median_203 (by decide) ?_
              exact hin _ (Option.some.inj hF).symm H locs ls hP hD hS (lv_sub hl [2, 3, 4, 5, 1, 0] rfl)
            have JX10_MEDIAN_170 : ∀ (x7_16 : Int32) (x8_16 : Int32) (s0_16 : Int32) (s1_16 : Int32), jX10_median_170 u1_1 u1_0 x5_12 x7_16 x8_16 s0_16 s1_16 = some o → ∀ (H : Heap) (locs : List Loc) (ls : Array Slot), va_P (dC, dI) vwCl (iX10_median aZ cI cZ Z_code Z_isArrow Z_from Z_to Z_turned Z_told Z_layers Z_layer Z_place Z_dummyPlace u1_1) H → va_D A (iX10_median aZ cI cZ Z_code Z_isArrow Z_from Z_to Z_turned Z_told Z_layers Z_layer Z_place Z_dummyPlace u1_1) → va_S A s.heap H locs → lv_has ls 9 [(0, .ref (aZ 0)), (4, .int u1_0), (5, .int x5_12), (7, .int x7_16), (8, .int x8_16)] → W p l e (headSpec wsX10_median (rX10_median)).room s m args below meth c H locs 0 0 Q (F0 m 170 ls [.int s0_16, .int s1_16]) := by
              intro x7_16 x8_16 s0_16 s1_16 hF H locs ls hP hD hS hl
              unfold jX10_median_170 at hF
              refine lv_iadd hx hb dX10_median_170 ?_
              refine lv_istore (lv' := [(6, .int (s1_16 + s0_16)), (0, .ref (aZ 0)), (4, .int u1_0), (5, .int x5_12), (7, .int x7_16), (8, .int x8_16)]) hx hb dX10_median_171 hl (by decide) rfl (fun ls hl => ?_)
              refine lv_iload hx hb dX10_median_173 (lv_at hl 4 rfl) ?_
              refine lv_aload_n hx hb dX10_median_175 rfl (lv_at hl 1 rfl) ?_
              refine q_get (ci := 10) (C := RX10) (T := TX10) (N := 24) hx hb hts eX10_median_X10 hown hK hP 0 rfl rfl 22 (Nat.le_of_ble_eq_true rfl) k0 rfl rfl dX10_median_176 ?_
              refine lv_iload hx hb dX10_median_179 (lv_at hl 5 rfl) ?_
              obtain ⟨hn17, hF⟩ := q_ck hF
              refine va_iald hx hb hK hP 8 0 rfl rfl hn17 dX10_median_181 ?_
              refine lv_aload_n hx hb dX10_median_182 rfl (lv_at hl 1 rfl) ?_
              refine q_get (ci := 10) (C := RX10) (T := TX10) (N := 24) hx hb hts eX10_median_X10 hown hK hP 0 rfl rfl 22 (Nat.le_of_ble_eq_true rfl) k0 rfl rfl dX10_median_183 ?_
              refine lv_iload hx hb dX10_median_186 (lv_at hl 3 rfl) ?_
              obtain ⟨hn18, hF⟩ := q_ck hF
              refine va_iald hx hb hK hP 8 0 rfl rfl hn18 dX10_median_188 ?_
              refine lv_icmp_ne (tgt := 196) hx hb dX10_median_189 (by decide) (fun hc => ?_) (fun hc => ?_)
              · replace hF := q_f hc hF
                refine lv_iconst (v := 0) hx hb dX10_median_196 (by decide) ?_
                exact JX10_MEDIAN_197 (s1_16 + s0_16) x8_16 0 x7_16 hF H locs ls hP hD hS (lv_sub hl [1, 2, 3, 0, 5] rfl)
              · replace hF := q_t hc hF
                refine lv_iconst (v := 1) hx hb dX10_median_192 (by decide) ?_
                refine lv_goto (tgt := 197) hx hb dX10_median_193 (by decide) ?_
                exact JX10_MEDIAN_197 (s1_16 + s0_16) x8_16 1 x7_16 hF H locs ls hP hD hS (lv_sub hl [1, 2, 3, 0, 5] rfl)
            refine lv_iload hx hb dX10_median_139 (lv_at hl 5 rfl) ?_
            refine lv_iload hx hb dX10_median_141 (lv_at hl 1 rfl) ?_
            refine lv_icmp_ge (tgt := 206) hx hb dX10_median_143 (by decide) (fun hc => ?_) (fun hc => ?_)
            · replace hF := q_t hc hF
              exact X14 _ _ (hex _ (Option.some.inj hF).symm) H locs ls hP hD hS (lv_sub hl [0, 1, 2, 3, 4] rfl)
            · replace hF := q_f hc hF
              refine lv_iload hx hb dX10_median_146 (lv_at hl 3 rfl) ?_
              refine lv_aload_n hx hb dX10_median_148 rfl (lv_at hl 0 rfl) ?_
              refine q_get (ci := 10) (C := RX10) (T := TX10) (N := 24) hx hb hts eX10_median_X10 hown hK hP 0 rfl rfl 22 (Nat.le_of_ble_eq_true rfl) k0 rfl rfl dX10_median_149 ?_
              refine lv_iload hx hb dX10_median_152 (lv_at hl 5 rfl) ?_
              obtain ⟨hn19, hF⟩ := q_ck hF
              refine va_iald hx hb hK hP 8 0 rfl rfl hn19 dX10_median_154 ?_
              refine lv_aload_n hx hb dX10_median_155 rfl (lv_at hl 0 rfl) ?_
              refine q_get (ci := 10) (C := RX10) (T := TX10) (N := 24) hx hb hts eX10_median_X10 hown hK hP 0 rfl rfl 22 (Nat.le_of_ble_eq_true rfl) k0 rfl rfl dX10_median_156 ?_
              refine lv_iload hx hb dX10_median_159 (lv_at hl 2 rfl) ?_
              obtain ⟨hn20, hF⟩ := q_ck hF
              refine va_iald hx hb hK hP 8 0 rfl rfl hn20 dX10_median_161 ?_
              refine lv_icmp_ge (tgt := 169) hx hb dX10_median_162 (by decide) (fun hc => ?_) (fun hc => ?_)
              · replace hF := q_t hc hF
                refine lv_iconst (v := 0) hx hb dX10_median_169 (by decide) ?_
                exact JX10_MEDIAN_170 x7_14 x8_14 0 x6_14 hF H locs ls hP hD hS (lv_sub hl [0, 1, 2, 4, 5] rfl)
              · replace hF := q_f hc hF
                refine lv_iconst (v := 1) hx hb dX10_median_165 (by decide) ?_
                refine lv_goto (tgt := 170) hx hb dX10_median_166 (by decide) ?_
                exact JX10_MEDIAN_170 x7_14 x8_14 1 x6_14 hF H locs ls hP hD hS (lv_sub hl [0, 1, 2, 4, 5] rfl)
          exact L14 (0, 0, 0) hc14 H locs ls hP hD hS (lv_sub hl [3, 4, 5, 2, 1, 0] rfl)
      exact L12 0 hc12 H locs ls hP hD hS (lv_sub hl [1, 2, 0] rfl)
    · replace hF := q_t hc hF
      refine lv_iconst (v := (-1)) hx hb dX10_median_118 (by decide) ?_
      exact hret H locs ls 119 _ _ dX10_median_119 (congrArg Prod.fst (Option.some.inj hF)) (congrArg (fun z : Int32 × (Nat → Int32) => (iX10_median aZ cI cZ Z_code Z_isArrow Z_from Z_to Z_turned Z_told Z_layers Z_layer Z_place Z_dummyPlace z.2)) (Option.some.inj hF)) hP hD hS
  have L1 : ∀ st : Int32 × Int32 × (Nat → Int32), q_lo (fun (st : Int32 × Int32 × (Nat → Int32)) => bX10_median_6 Z_isArrow Z_from Z_to Z_turned Z_layer Z_place Z_dummyPlace p0 p1 p2 st.1 st.2.1 st.2.2) st = some (q1_0, q1_1) → ∀ (H : Heap) (locs : List Loc) (ls : Array Slot), va_P (dC, dI) vwCl (iX10_median aZ cI cZ Z_code Z_isArrow Z_from Z_to Z_turned Z_told Z_layers Z_layer Z_place Z_dummyPlace st.2.2) H → va_D A (iX10_median aZ cI cZ Z_code Z_isArrow Z_from Z_to Z_turned Z_told Z_layers Z_layer Z_place Z_dummyPlace st.2.2) → va_S A s.heap H locs → lv_has ls 9 [(0, .ref (aZ 0)), (1, .int p0), (2, .int p1), (3, .int p2), (4, .int st.1), (5, .int st.2.1)] → W p l e (headSpec wsX10_median (rX10_median)).room s m args below meth c H locs 0 0 Q (F0 m 6 ls []) := by
    intro st hst
    refine q_walk (Wh := fun st : Int32 × Int32 × (Nat → Int32) => ∀ (H : Heap) (locs : List Loc) (ls : Array Slot), va_P (dC, dI) vwCl (iX10_median aZ cI cZ Z_code Z_isArrow Z_from Z_to Z_turned Z_told Z_layers Z_layer Z_place Z_dummyPlace st.2.2) H → va_D A (iX10_median aZ cI cZ Z_code Z_isArrow Z_from Z_to Z_turned Z_told Z_layers Z_layer Z_place Z_dummyPlace st.2.2) → va_S A s.heap H locs → lv_has ls 9 [(0, .ref (aZ 0)), (1, .int p0), (2, .int p1), (3, .int p2), (4, .int st.1), (5, .int st.2.1)] → W p l e (headSpec wsX10_median (rX10_median)).room s m args below meth c H locs 0 0 Q (F0 m 6 ls [])) ?_ st hst
    clear hst st hF
    intro st o hF hin hex H locs ls hP hD hS hl
    obtain ⟨x4_1, x5_1, Z_near_1⟩ := st
    replace hF : bX10_median_6 Z_isArrow Z_from Z_to Z_turned Z_layer Z_place Z_dummyPlace p0 p1 p2 x4_1 x5_1 Z_near_1 = some o := hF
    replace hP : va_P (dC, dI) vwCl (iX10_median aZ cI cZ Z_code Z_isArrow Z_from Z_to Z_turned Z_told Z_layers Z_layer Z_place Z_dummyPlace Z_near_1) H := hP
    replace hD : va_D A (iX10_median aZ cI cZ Z_code Z_isArrow Z_from Z_to Z_turned Z_told Z_layers Z_layer Z_place Z_dummyPlace Z_near_1) := hD
    replace hl : lv_has ls 9 [(0, .ref (aZ 0)), (1, .int p0), (2, .int p1), (3, .int p2), (4, .int x4_1), (5, .int x5_1)] := hl
    unfold bX10_median_6 at hF
    have JX10_MEDIAN_107 : ∀ (Z_near_2 : Nat → Int32) (x4_2 : Int32) (x5_2 : Int32), jX10_median_107 Z_near_2 p0 p1 p2 x4_2 x5_2 = some o → ∀ (H : Heap) (locs : List Loc) (ls : Array Slot), va_P (dC, dI) vwCl (iX10_median aZ cI cZ Z_code Z_isArrow Z_from Z_to Z_turned Z_told Z_layers Z_layer Z_place Z_dummyPlace Z_near_2) H → va_D A (iX10_median aZ cI cZ Z_code Z_isArrow Z_from Z_to Z_turned Z_told Z_layers Z_layer Z_place Z_dummyPlace Z_near_2) → va_S A s.heap H locs → lv_has ls 9 [(0, .ref (aZ 0)), (1, .int p0), (2, .int p1), (3, .int p2), (4, .int x4_2), (5, .int x5_2)] → W p l e (headSpec wsX10_median (rX10_median)).room s m args below meth c H locs 0 0 Q (F0 m 107 ls []) := by
      intro Z_near_2 x4_2 x5_2 hF H locs ls hP hD hS hl
      unfold jX10_median_107 at hF
      refine lv_iinc (v := (x5_2 + 1)) (lv' := [(5, .int (x5_2 + 1)), (0, .ref (aZ 0)), (1, .int p0), (2, .int p1), (3, .int p2), (4, .int x4_2)]) hx hb dX10_median_107 hl (k := 5) rfl rfl (by decide) rfl (fun ls hl => ?_)
      refine lv_goto (tgt := 6) hx hb dX10_median_110 (by decide) ?_
      exact hin _ (Option.some.inj hF).symm H locs ls hP hD hS (lv_sub hl [1, 2, 3, 4, 5, 0] rfl)
    have JX10_MEDIAN_103 : ∀ (Z_near_3 : Nat → Int32) (x4_3 : Int32) (x5_3 : Int32) (s0_3 : Int32) (s1_3 : Int32), jX10_median_103 Z_near_3 p0 p1 p2 x4_3 x5_3 s0_3 s1_3 = some o → ∀ (H : Heap) (locs : List Loc) (ls : Array Slot), va_P (dC, dI) vwCl (iX10_median aZ cI cZ Z_code Z_isArrow Z_from Z_to Z_turned Z_told Z_layers Z_layer Z_place Z_dummyPlace Z_near_3) H → va_D A (iX10_median aZ cI cZ Z_code Z_isArrow Z_from Z_to Z_turned Z_told Z_layers Z_layer Z_place Z_dummyPlace Z_near_3) → va_S A s.heap H locs → lv_has ls 9 [(0, .ref (aZ 0)), (1, .int p0), (2, .int p1), (3, .int p2), (4, .int x4_3), (5, .int x5_3)] → W p l e (headSpec wsX10_median (rX10_median)).room s m args below meth c H locs 0 0 Q (F0 m 103 ls [.int s0_3, .int s1_3, .ref (aZ 20)]) := by
      intro Z_near_3 x4_3 x5_3 s0_3 s1_3 hF H locs ls hP hD hS hl
      unfold jX10_median_103 at hF
      obtain ⟨hn4, hF⟩ := q_ck hF
      refine q_iast hx hb hK hP hD hS 8 0 (iX10_median aZ cI cZ Z_code Z_isArrow Z_from Z_to Z_turned Z_told Z_layers Z_layer Z_place Z_dummyPlace (upd Z_near_3 s1_3.toNatClampNeg s0_3)) rfl rfl hn4 rfl dX10_median_103 (fun H locs hP hD hS => ?_)
      refine lv_iinc (v := (x4_3 + 1)) (lv' := [(4, .int (x4_3 + 1)), (0, .ref (aZ 0)), (1, .int p0), (2, .int p1), (3, .int p2), (5, .int x5_3)]) hx hb dX10_median_104 hl (k := 4) rfl rfl (by decide) rfl (fun ls hl => ?_)
      exact JX10_MEDIAN_107 (upd Z_near_3 s1_3.toNatClampNeg s0_3) (x4_3 + 1) x5_3 hF H locs ls hP hD hS (lv_sub hl [1, 2, 3, 4, 0, 5] rfl)
    have JX10_MEDIAN_63 : ∀ (Z_near_5 : Nat → Int32) (x4_5 : Int32) (x5_5 : Int32) (x6_5 : Int32) (s0_5 : Int32), jX10_median_63 Z_from Z_to Z_turned Z_layer Z_place Z_dummyPlace Z_near_5 p0 p1 p2 x4_5 x5_5 x6_5 s0_5 = some o → ∀ (H : Heap) (locs : List Loc) (ls : Array Slot), va_P (dC, dI) vwCl (iX10_median aZ cI cZ Z_code Z_isArrow Z_from Z_to Z_turned Z_told Z_layers Z_layer Z_place Z_dummyPlace Z_near_5) H → va_D A (iX10_median aZ cI cZ Z_code Z_isArrow Z_from Z_to Z_turned Z_told Z_layers Z_layer Z_place Z_dummyPlace Z_near_5) → va_S A s.heap H locs → lv_has ls 9 [(0, .ref (aZ 0)), (1, .int p0), (2, .int p1), (3, .int p2), (4, .int x4_5), (5, .int x5_5), (6, .int x6_5)] → W p l e (headSpec wsX10_median (rX10_median)).room s m args below meth c H locs 0 0 Q (F0 m 63 ls [.int s0_5]) := by
      intro Z_near_5 x4_5 x5_5 x6_5 s0_5 hF H locs ls hP hD hS hl
      unfold jX10_median_63 at hF
      refine lv_istore (lv' := [(7, .int s0_5), (0, .ref (aZ 0)), (1, .int p0), (2, .int p1), (3, .int p2), (4, .int x4_5), (5, .int x5_5), (6, .int x6_5)]) hx hb dX10_median_63 hl (by decide) rfl (fun ls hl => ?_)
      refine lv_iload hx hb dX10_median_65 (lv_at hl 0 rfl) ?_
      refine lv_iload_n hx hb dX10_median_67 rfl (lv_at hl 3 rfl) ?_
      refine lv_icmp_eq (tgt := 74) hx hb dX10_median_68 (by decide) (fun hc => ?_) (fun hc => ?_)
      · replace hF := q_t hc hF
        refine lv_aload_n hx hb dX10_median_74 rfl (lv_at hl 1 rfl) ?_
        refine q_get (ci := 10) (C := RX10) (T := TX10) (N := 24) hx hb hts eX10_median_X10 hown hK hP 0 rfl rfl 22 (Nat.le_of_ble_eq_true rfl) k0 rfl rfl dX10_median_75 ?_
        refine lv_iload hx hb dX10_median_78 (lv_at hl 5 rfl) ?_
        refine lv_iload_n hx hb dX10_median_80 rfl (lv_at hl 4 rfl) ?_
        refine lv_if_eq (tgt := 95) hx hb dX10_median_81 (by decide) (fun hc => ?_) (fun hc => ?_)
        · replace hF := q_t hc hF
          refine lv_aload_n hx hb dX10_median_95 rfl (lv_at hl 1 rfl) ?_
          refine lv_iload hx hb dX10_median_96 (lv_at hl 6 rfl) ?_
          refine lv_iload hx hb dX10_median_98 (lv_at hl 7 rfl) ?_
          obtain ⟨q6, hcq6, hF⟩ := q_bd hF
          refine q_Vi (As := [.int x5_5, .int x6_5]) (rest := [.int x4_5, .ref (aZ 20)]) ⟨hx, hb, hml, hown, hts⟩ hA hK hP hD hS (tX10_lowerPlace l dC dI cI cZ aZ H.size Z_code Z_from Z_to Z_turned Z_told Z_layers Z_layer Z_place Z_dummyPlace x5_5 x6_5 q6 hcq6) (cwV 2 hts gX10_median_X10_lowerPlace rfl rfl rfl uX10_lowerPlace ⟨Nat.le_of_ble_eq_true rfl, Nat.le_of_ble_eq_true rfl⟩) [0, 2, 3, 4, 5, 6, 7] [(true, 0), (false, 1), (true, 1), (true, 2), (true, 3), (true, 4), (true, 5), (true, 6), (false, 8)] (iX10_median aZ cI cZ Z_code Z_isArrow Z_from Z_to Z_turned Z_told Z_layers Z_layer Z_place Z_dummyPlace Z_near_5) rfl rfl rfl rfl rfl 10 0 rfl rfl rfl rfl hl.1 rfl (Nat.le_of_ble_eq_true rfl) dX10_median_100 ⟨Nat.zero_le _, Nat.zero_le _⟩ (fun H locs hP hD hS => ?_)
          exact JX10_MEDIAN_103 Z_near_5 x4_5 x5_5 q6 x4_5 hF H locs ls hP hD hS (lv_sub hl [1, 2, 3, 4, 5, 6] rfl)
        · replace hF := q_f hc hF
          refine lv_aload_n hx hb dX10_median_84 rfl (lv_at hl 1 rfl) ?_
          refine lv_iload hx hb dX10_median_85 (lv_at hl 6 rfl) ?_
          refine lv_iload hx hb dX10_median_87 (lv_at hl 7 rfl) ?_
          obtain ⟨q7, hcq7, hF⟩ := q_bd hF
          refine q_Vi (As := [.int x5_5, .int x6_5]) (rest := [.int x4_5, .ref (aZ 20)]) ⟨hx, hb, hml, hown, hts⟩ hA hK hP hD hS (tX10_upperPlace l dC dI cI cZ aZ H.size Z_code Z_from Z_to Z_turned Z_told Z_layers Z_layer Z_place Z_dummyPlace x5_5 x6_5 q7 hcq7) (cwV 2 hts gX10_median_X10_upperPlace rfl rfl rfl uX10_upperPlace ⟨Nat.le_of_ble_eq_true rfl, Nat.le_of_ble_eq_true rfl⟩) [0, 2, 3, 4, 5, 6, 7] [(true, 0), (false, 1), (true, 1), (true, 2), (true, 3), (true, 4), (true, 5), (true, 6), (false, 8)] (iX10_median aZ cI cZ Z_code Z_isArrow Z_from Z_to Z_turned Z_told Z_layers Z_layer Z_place Z_dummyPlace Z_near_5) rfl rfl rfl rfl rfl 10 0 rfl rfl rfl rfl hl.1 rfl (Nat.le_of_ble_eq_true rfl) dX10_median_89 ⟨Nat.zero_le _, Nat.zero_le _⟩ (fun H locs hP hD hS => ?_)
          refine lv_goto (tgt := 103) hx hb dX10_median_92 (by decide) ?_
          exact JX10_MEDIAN_103 Z_near_5 x4_5 x5_5 q7 x4_5 hF H locs ls hP hD hS (lv_sub hl [1, 2, 3, 4, 5, 6] rfl)
      · replace hF := q_f hc hF
        refine lv_goto (tgt := 107) hx hb dX10_median_71 (by decide) ?_
        exact JX10_MEDIAN_107 Z_near_5 x4_5 x5_5 hF H locs ls hP hD hS (lv_sub hl [1, 2, 3, 4, 5, 6] rfl)
    have JX10_MEDIAN_24 : ∀ (Z_near_8 : Nat → Int32) (x4_8 : Int32) (x5_8 : Int32) (s0_8 : Int32), jX10_median_24 Z_isArrow Z_from Z_to Z_turned Z_layer Z_place Z_dummyPlace Z_near_8 p0 p1 p2 x4_8 x5_8 s0_8 = some o → ∀ (H : Heap) (locs : List Loc) (ls : Array Slot), va_P (dC, dI) vwCl (iX10_median aZ cI cZ Z_code Z_isArrow Z_from Z_to Z_turned Z_told Z_layers Z_layer Z_place Z_dummyPlace Z_near_8) H → va_D A (iX10_median aZ cI cZ Z_code Z_isArrow Z_from Z_to Z_turned Z_told Z_layers Z_layer Z_place Z_dummyPlace Z_near_8) → va_S A s.heap H locs → lv_has ls 9 [(0, .ref (aZ 0)), (1, .int p0), (2, .int p1), (3, .int p2), (4, .int x4_8), (5, .int x5_8)] → W p l e (headSpec wsX10_median (rX10_median)).room s m args below meth c H locs 0 0 Q (F0 m 24 ls [.int s0_8]) := by
      intro Z_near_8 x4_8 x5_8 s0_8 hF H locs ls hP hD hS hl
      unfold jX10_median_24 at hF
      refine lv_istore (lv' := [(6, .int s0_8), (0, .ref (aZ 0)), (1, .int p0), (2, .int p1), (3, .int p2), (4, .int x4_8), (5, .int x5_8)]) hx hb dX10_median_24 hl (by decide) rfl (fun ls hl => ?_)
      refine lv_aload_n hx hb dX10_median_26 rfl (lv_at hl 1 rfl) ?_
      refine lv_iload hx hb dX10_median_27 (lv_at hl 6 rfl) ?_
      refine lv_iload hx hb dX10_median_29 (lv_at hl 0 rfl) ?_
      obtain ⟨q9, hcq9, hF⟩ := q_bd hF
      refine q_Vi (As := [.int x5_8, .int s0_8]) (rest := []) ⟨hx, hb, hml, hown, hts⟩ hA hK hP hD hS (tX10_hasPiece l dC dI cI cZ aZ H.size Z_code Z_isArrow Z_from Z_to Z_turned Z_told Z_layers Z_layer x5_8 s0_8 q9 hcq9) (cwV 2 hts gX10_median_X10_hasPiece rfl rfl rfl uX10_hasPiece ⟨Nat.le_of_ble_eq_true rfl, Nat.le_of_ble_eq_true rfl⟩) [0, 1, 2, 3, 4, 5] [(true, 0), (true, 1), (true, 2), (true, 3), (true, 4), (true, 5), (false, 6), (false, 7), (false, 8)] (iX10_median aZ cI cZ Z_code Z_isArrow Z_from Z_to Z_turned Z_told Z_layers Z_layer Z_place Z_dummyPlace Z_near_8) rfl rfl rfl rfl rfl 10 0 rfl rfl rfl rfl hl.1 rfl (Nat.le_of_ble_eq_true rfl) dX10_median_31 ⟨Nat.zero_le _, Nat.zero_le _⟩ (fun H locs hP hD hS => ?_)
      refine lv_if_ne (tgt := 40) hx hb dX10_median_34 (by decide) (fun hc => ?_) (fun hc => ?_)
      · replace hF := q_f hc hF
        refine lv_iload_n hx hb dX10_median_40 rfl (lv_at hl 4 rfl) ?_
        refine lv_if_eq (tgt := 55) hx hb dX10_median_41 (by decide) (fun hc => ?_) (fun hc => ?_)
        · replace hF := q_t hc hF
          refine lv_aload_n hx hb dX10_median_55 rfl (lv_at hl 1 rfl) ?_
          refine lv_iload hx hb dX10_median_56 (lv_at hl 6 rfl) ?_
          refine lv_iload hx hb dX10_median_58 (lv_at hl 0 rfl) ?_
          obtain ⟨q10, hcq10, hF⟩ := q_bd hF
          refine q_Vi (As := [.int x5_8, .int s0_8]) (rest := []) ⟨hx, hb, hml, hown, hts⟩ hA hK hP hD hS (tX10_upperPlace l dC dI cI cZ aZ H.size Z_code Z_from Z_to Z_turned Z_told Z_layers Z_layer Z_place Z_dummyPlace x5_8 s0_8 q10 hcq10) (cwV 2 hts gX10_median_X10_upperPlace rfl rfl rfl uX10_upperPlace ⟨Nat.le_of_ble_eq_true rfl, Nat.le_of_ble_eq_true rfl⟩) [0, 2, 3, 4, 5, 6, 7] [(true, 0), (false, 1), (true, 1), (true, 2), (true, 3), (true, 4), (true, 5), (true, 6), (false, 8)] (iX10_median aZ cI cZ Z_code Z_isArrow Z_from Z_to Z_turned Z_told Z_layers Z_layer Z_place Z_dummyPlace Z_near_8) rfl rfl rfl rfl rfl 10 0 rfl rfl rfl rfl hl.1 rfl (Nat.le_of_ble_eq_true rfl) dX10_median_60 ⟨Nat.zero_le _, Nat.zero_le _⟩ (fun H locs hP hD hS => ?_)
          exact JX10_MEDIAN_63 Z_near_8 x4_8 x5_8 s0_8 q10 hF H locs ls hP hD hS (lv_sub hl [1, 2, 3, 4, 5, 6, 0] rfl)
        · replace hF := q_f hc hF
          refine lv_aload_n hx hb dX10_median_44 rfl (lv_at hl 1 rfl) ?_
          refine lv_iload hx hb dX10_median_45 (lv_at hl 6 rfl) ?_
          refine lv_iload hx hb dX10_median_47 (lv_at hl 0 rfl) ?_
          obtain ⟨q11, hcq11, hF⟩ := q_bd hF
          refine q_Vi (As := [.int x5_8, .int s0_8]) (rest := []) ⟨hx, hb, hml, hown, hts⟩ hA hK hP hD hS (tX10_lowerPlace l dC dI cI cZ aZ H.size Z_code Z_from Z_to Z_turned Z_told Z_layers Z_layer Z_place Z_dummyPlace x5_8 s0_8 q11 hcq11) (cwV 2 hts gX10_median_X10_lowerPlace rfl rfl rfl uX10_lowerPlace ⟨Nat.le_of_ble_eq_true rfl, Nat.le_of_ble_eq_true rfl⟩) [0, 2, 3, 4, 5, 6, 7] [(true, 0), (false, 1), (true, 1), (true, 2), (true, 3), (true, 4), (true, 5), (true, 6), (false, 8)] (iX10_median aZ cI cZ Z_code Z_isArrow Z_from Z_to Z_turned Z_told Z_layers Z_layer Z_place Z_dummyPlace Z_near_8) rfl rfl rfl rfl rfl 10 0 rfl rfl rfl rfl hl.1 rfl (Nat.le_of_ble_eq_true rfl) dX10_median_49 ⟨Nat.zero_le _, Nat.zero_le _⟩ (fun H locs hP hD hS => ?_)
          refine lv_goto (tgt := 63) hx hb dX10_median_52 (by decide) ?_
          exact JX10_MEDIAN_63 Z_near_8 x4_8 x5_8 s0_8 q11 hF H locs ls hP hD hS (lv_sub hl [1, 2, 3, 4, 5, 6, 0] rfl)
      · replace hF := q_t hc hF
        refine lv_goto (tgt := 107) hx hb dX10_median_37 (by decide) ?_
        exact JX10_MEDIAN_107 Z_near_8 x4_8 x5_8 hF H locs ls hP hD hS (lv_sub hl [1, 2, 3, 4, 5, 6] rfl)
    refine lv_iload hx hb dX10_median_6 (lv_at hl 5 rfl) ?_
    refine lv_bipush (v := 24) hx hb dX10_median_8 (by decide) ?_
    refine lv_icmp_ge (tgt := 113) hx hb dX10_median_10 (by decide) (fun hc => ?_) (fun hc => ?_)
    · replace hF := q_t hc hF
      exact X1 _ _ (hex _ (Option.some.inj hF).symm) H locs ls hP hD hS (lv_sub hl [0, 4] rfl)
    · replace hF := q_f hc hF
      refine lv_iload_n hx hb dX10_median_13 rfl (lv_at hl 3 rfl) ?_
      refine lv_if_eq (tgt := 23) hx hb dX10_median_14 (by decide) (fun hc => ?_) (fun hc => ?_)
      · replace hF := q_t hc hF
        refine lv_iload_n hx hb dX10_median_23 rfl (lv_at hl 1 rfl) ?_
        exact JX10_MEDIAN_24 Z_near_1 x4_1 x5_1 p0 hF H locs ls hP hD hS (lv_sub hl [0, 1, 2, 3, 4, 5] rfl)
      · replace hF := q_f hc hF
        refine lv_iload_n hx hb dX10_median_17 rfl (lv_at hl 1 rfl) ?_
        refine lv_iconst (v := 1) hx hb dX10_median_18 (by decide) ?_
        refine lv_isub hx hb dX10_median_19 ?_
        refine lv_goto (tgt := 24) hx hb dX10_median_20 (by decide) ?_
        exact JX10_MEDIAN_24 Z_near_1 x4_1 x5_1 (p0 - 1) hF H locs ls hP hD hS (lv_sub hl [0, 1, 2, 3, 4, 5] rfl)
  exact L1 (0, 0, Z_near) hc1 H locs ls hP hD hS (lv_sub hl [2, 3, 4, 5, 1, 0] rfl)
abbrev rX10_step : Room := { frames := 3, cells := 0, slots := 0, locals := 71 }
theorem eX10_step_X10 : ∀ w ∈ u_ws RX10 TX10 24, w ∈ wsX10_step := by decide +kernel
theorem uX10_step : yX10_step.cls = RX10 ∧ yX10_step.cls ≠ "java/lang/invoke/MethodHandle" ∧ yX10_step.cls ≠ "java/lang/invoke/VarHandle" ∧ (parseMethodDescriptor yX10_step.desc).map (fun d => d.parameters.length) = some 2 := by decide +kernel
set_option maxHeartbeats 4000000 in
set_option maxRecDepth 100000 in
theorem tX10_step (l : Launch) (dC : Nat → ClassId) (dI : Nat → Nat → Nat) (cI cZ : ClassId) (aZ : Nat → Nat) (sz : Nat) (Z_code : Int32) (Z_isArrow : Nat → Int32) (Z_from : Nat → Int32) (Z_to : Nat → Int32) (Z_turned : Nat → Int32) (Z_told : Int32) (Z_layers : Int32) (Z_layer : Nat → Int32) (Z_sizes : Nat → Int32) (Z_items : Nat → Int32) (Z_place : Nat → Int32) (Z_dummyPlace : Nat → Int32) (Z_row : Nat → Int32) (Z_ends : Nat → Int32) (Z_near : Nat → Int32) (p0 : Int32) (p1 : Int32) (res : (Nat → Int32) × (Nat → Int32) × (Nat → Int32) × (Nat → Int32) × (Nat → Int32) × (Nat → Int32)) (hF : fX10_step Z_isArrow Z_from Z_to Z_turned Z_layers Z_layer Z_sizes Z_items Z_place Z_dummyPlace Z_row Z_ends Z_near p0 p1 = some res) : q_Mv l yX10_step wsX10_step rX10_step (dC, dI) (q_ty cI cZ) [.ref (aZ 0), .int p0, .int p1] (iX10_step aZ cI cZ Z_code Z_isArrow Z_from Z_to Z_turned Z_told Z_layers Z_layer Z_sizes Z_items Z_place Z_dummyPlace Z_row Z_ends Z_near) (iX10_step aZ cI cZ Z_code Z_isArrow Z_from Z_to Z_turned Z_told Z_layers Z_layer Z_sizes res.1 res.2.1 res.2.2.1 res.2.2.2.1 res.2.2.2.2.1 res.2.2.2.2.2) sz := by
  refine q_metv (cc := cX10_step) (maxL := 8) (by decide) rfl (Nat.le_of_ble_eq_true rfl) ?_
  intro p e s m args below meth c Q A H locs ls C hP hD hS hl hret
  obtain ⟨hx, hb, hml, hown, hts, hA, hK⟩ := C
  replace hl : lv_has ls 8 [(0, .ref (aZ 0)), (1, .int p0), (2, .int p1)] := hl
  have k0 := hts (.fieldLink RX10 35 "RouteLayoutModel" "sizes" "[I") (by decide +kernel)
  have k1 := hts (.fieldLink RX10 65 "RouteLayoutModel" "ends" "[I") (by decide +kernel)
  have k2 := hts (.fieldLink RX10 62 "RouteLayoutModel" "row" "[I") (by decide +kernel)
  have k3 := hts (.fieldLink RX10 38 "RouteLayoutModel" "items" "[I") (by decide +kernel)
  unfold fX10_step at hF
  refine lv_aload_n hx hb dX10_step_0 rfl (lv_at hl 0 rfl) ?_
  refine lv_iload_n hx hb dX10_step_1 rfl (lv_at hl 1 rfl) ?_
  refine lv_iconst (v := 1) hx hb dX10_step_2 (by decide) ?_
  refine lv_isub hx hb dX10_step_3 ?_
  obtain ⟨q1, hcq1, hF⟩ := q_bd hF
  refine q_Vi (As := [.int (p0 - 1)]) (rest := []) ⟨hx, hb, hml, hown, hts⟩ hA hK hP hD hS (tX10_crossings l dC dI cI cZ aZ H.size Z_code Z_isArrow Z_from Z_to Z_turned Z_told Z_layers Z_layer Z_place Z_dummyPlace (p0 - 1) q1 hcq1) (cwV 1 hts gX10_step_X10_crossings rfl rfl rfl uX10_crossings ⟨Nat.le_of_ble_eq_true rfl, Nat.le_of_ble_eq_true rfl⟩) [0, 1, 2, 3, 4, 5, 8, 9] [(true, 0), (true, 1), (true, 2), (true, 3), (true, 4), (true, 5), (false, 6), (false, 7), (true, 6), (true, 7), (false, 10), (false, 11), (false, 12)] (iX10_step aZ cI cZ Z_code Z_isArrow Z_from Z_to Z_turned Z_told Z_layers Z_layer Z_sizes Z_items Z_place Z_dummyPlace Z_row Z_ends Z_near) rfl rfl rfl rfl rfl 10 0 rfl rfl rfl rfl hl.1 rfl (Nat.le_of_ble_eq_true rfl) dX10_step_4 ⟨Nat.zero_le _, Nat.zero_le _⟩ (fun H locs hP hD hS => ?_)
  refine lv_aload_n hx hb dX10_step_7 rfl (lv_at hl 0 rfl) ?_
  refine lv_iload_n hx hb dX10_step_8 rfl (lv_at hl 1 rfl) ?_
  obtain ⟨q2, hcq2, hF⟩ := q_bd hF
  refine q_Vi (As := [.int p0]) (rest := [.int q1]) ⟨hx, hb, hml, hown, hts⟩ hA hK hP hD hS (tX10_crossings l dC dI cI cZ aZ H.size Z_code Z_isArrow Z_from Z_to Z_turned Z_told Z_layers Z_layer Z_place Z_dummyPlace p0 q2 hcq2) (cwV 1 hts gX10_step_X10_crossings rfl rfl rfl uX10_crossings ⟨Nat.le_of_ble_eq_true rfl, Nat.le_of_ble_eq_true rfl⟩) [0, 1, 2, 3, 4, 5, 8, 9] [(true, 0), (true, 1), (true, 2), (true, 3), (true, 4), (true, 5), (false, 6), (false, 7), (true, 6), (true, 7), (false, 10), (false, 11), (false, 12)] (iX10_step aZ cI cZ Z_code Z_isArrow Z_from Z_to Z_turned Z_told Z_layers Z_layer Z_sizes Z_items Z_place Z_dummyPlace Z_row Z_ends Z_near) rfl rfl rfl rfl rfl 10 0 rfl rfl rfl rfl hl.1 rfl (Nat.le_of_ble_eq_true rfl) dX10_step_9 ⟨Nat.zero_le _, Nat.zero_le _⟩ (fun H locs hP hD hS => ?_)
  refine lv_iadd hx hb dX10_step_12 ?_
  refine lv_istore_n (lv' := [(3, .int (q1 + q2)), (0, .ref (aZ 0)), (1, .int p0), (2, .int p1)]) hx hb dX10_step_13 rfl hl (by decide) rfl (fun ls hl => ?_)
  refine lv_aload_n hx hb dX10_step_14 rfl (lv_at hl 1 rfl) ?_
  refine q_get (ci := 10) (C := RX10) (T := TX10) (N := 24) hx hb hts eX10_step_X10 hown hK hP 0 rfl rfl 11 (Nat.le_of_ble_eq_true rfl) k0 rfl rfl dX10_step_15 ?_
  refine lv_iload_n hx hb dX10_step_18 rfl (lv_at hl 2 rfl) ?_
  obtain ⟨hn3, hF⟩ := q_ck hF
  refine va_iald hx hb hK hP 6 0 rfl rfl hn3 dX10_step_19 ?_
  obtain ⟨v4, hv4, hF⟩ := q_letE hF
  refine q_top hv4 ?_
  refine lv_istore (lv' := [(4, .int v4), (3, .int (q1 + q2)), (0, .ref (aZ 0)), (1, .int p0), (2, .int p1)]) hx hb dX10_step_20 hl (by decide) rfl (fun ls hl => ?_)
  refine lv_iconst (v := 0) hx hb dX10_step_22 (by decide) ?_
  refine lv_istore (lv' := [(5, .int 0), (4, .int v4), (3, .int (q1 + q2)), (0, .ref (aZ 0)), (1, .int p0), (2, .int p1)]) hx hb dX10_step_23 hl (by decide) rfl (fun ls hl => ?_)
  obtain ⟨q5_0, q5_1, q5_2, hc5, hF⟩ := q_bd3 hF
  have X5 : ∀ (u5_0 : Nat → Int32) (u5_1 : Nat → Int32) (u5_2 : Nat → Int32), (u5_0, u5_1, u5_2) = (q5_0, q5_1, q5_2) → ∀ (H : Heap) (locs : List Loc) (ls : Array Slot), va_P (dC, dI) vwCl (iX10_step aZ cI cZ Z_code Z_isArrow Z_from Z_to Z_turned Z_told Z_layers Z_layer Z_sizes Z_items Z_place Z_dummyPlace u5_0 u5_1 u5_2) H → va_D A (iX10_step aZ cI cZ Z_code Z_isArrow Z_from Z_to Z_turned Z_told Z_layers Z_layer Z_sizes Z_items Z_place Z_dummyPlace u5_0 u5_1 u5_2) → va_S A s.heap H locs → lv_has ls 8 [(0, .ref (aZ 0)), (1, .int p0), (3, .int (q1 + q2)), (4, .int v4)] → W p l e (headSpec wsX10_step (rX10_step)).room s m args below meth c H locs 0 0 Q (F0 m 67 ls []) := by
    intro u5_0 u5_1 u5_2 hu H locs ls hP hD hS hl
    obtain ⟨e0, e1, e2⟩ := q_inj3 hu
    subst e0 e1 e2
    refine lv_iconst (v := 0) hx hb dX10_step_67 (by decide) ?_
    refine lv_istore (lv' := [(5, .int 0), (0, .ref (aZ 0)), (1, .int p0), (3, .int (q1 + q2)), (4, .int v4)]) hx hb dX10_step_68 hl (by decide) rfl (fun ls hl => ?_)
    refine lv_iconst (v := 0) hx hb dX10_step_70 (by decide) ?_
    refine lv_istore (lv' := [(6, .int 0), (5, .int 0), (0, .ref (aZ 0)), (1, .int p0), (3, .int (q1 + q2)), (4, .int v4)]) hx hb dX10_step_71 hl (by decide) rfl (fun ls hl => ?_)
    obtain ⟨q10, hc10, hF⟩ := q_bd hF
    have X10 : ∀ (u10 : Nat → Int32), u10 = q10 → ∀ (H : Heap) (locs : List Loc) (ls : Array Slot), va_P (dC, dI) vwCl (iX10_step aZ cI cZ Z_code Z_isArrow Z_from Z_to Z_turned Z_told Z_layers Z_layer Z_sizes u10 Z_place Z_dummyPlace u5_0 u5_1 u5_2) H → va_D A (iX10_step aZ cI cZ Z_code Z_isArrow Z_from Z_to Z_turned Z_told Z_layers Z_layer Z_sizes u10 Z_place Z_dummyPlace u5_0 u5_1 u5_2) → va_S A s.heap H locs → lv_has ls 8 [(0, .ref (aZ 0)), (1, .int p0), (3, .int (q1 + q2)), (4, .int v4)] → W p l e (headSpec wsX10_step (rX10_step)).room s m args below meth c H locs 0 0 Q (F0 m 155 ls []) := by
      intro u10 hu H locs ls hP hD hS hl
      subst hu
      refine lv_aload_n hx hb dX10_step_155 rfl (lv_at hl 0 rfl) ?_
      refine lv_iload_n hx hb dX10_step_156 rfl (lv_at hl 1 rfl) ?_
      obtain ⟨q18_0, q18_1, hcq18, hF⟩ := q_bd2 hF
      refine q_Vv (As := [.int p0]) (rest := []) ⟨hx, hb, hml, hown, hts⟩ hA hK hP hD hS (tX10_note l dC dI cI cZ aZ H.size Z_code Z_told Z_layers Z_sizes u10 Z_place Z_dummyPlace p0 (q18_0, q18_1) hcq18) (cwV 1 hts gX10_step_X10_note rfl rfl rfl uX10_note ⟨Nat.le_of_ble_eq_true rfl, Nat.le_of_ble_eq_true rfl⟩) [0, 6, 7, 8, 9] [(true, 0), (false, 1), (false, 2), (false, 3), (false, 4), (false, 5), (true, 1), (true, 2), (true, 3), (true, 4), (false, 10), (false, 11), (false, 12)] (iX10_step aZ cI cZ Z_code Z_isArrow Z_from Z_to Z_turned Z_told Z_layers Z_layer Z_sizes u10 q18_0 q18_1 u5_0 u5_1 u5_2) rfl rfl rfl rfl rfl 10 0 rfl rfl rfl rfl hl.1 rfl (Nat.le_of_ble_eq_true rfl) dX10_step_157 ⟨Nat.zero_le _, Nat.zero_le _⟩ (fun H locs hP hD hS => ?_)
      refine lv_aload_n hx hb dX10_step_160 rfl (lv_at hl 0 rfl) ?_
      refine lv_iload_n hx hb dX10_step_161 rfl (lv_at hl 1 rfl) ?_
      refine lv_iconst (v := 1) hx hb dX10_step_162 (by decide) ?_
      refine lv_isub hx hb dX10_step_163 ?_
      obtain ⟨q19, hcq19, hF⟩ := q_bd hF
      refine q_Vi (As := [.int (p0 - 1)]) (rest := []) ⟨hx, hb, hml, hown, hts⟩ hA hK hP hD hS (tX10_crossings l dC dI cI cZ aZ H.size Z_code Z_isArrow Z_from Z_to Z_turned Z_told Z_layers Z_layer q18_0 q18_1 (p0 - 1) q19 hcq19) (cwV 1 hts gX10_step_X10_crossings rfl rfl rfl uX10_crossings ⟨Nat.le_of_ble_eq_true rfl, Nat.le_of_ble_eq_true rfl⟩) [0, 1, 2, 3, 4, 5, 8, 9] [(true, 0), (true, 1), (true, 2), (true, 3), (true, 4), (true, 5), (false, 6), (false, 7), (true, 6), (true, 7), (false, 10), (false, 11), (false, 12)] (iX10_step aZ cI cZ Z_code Z_isArrow Z_from Z_to Z_turned Z_told Z_layers Z_layer Z_sizes u10 q18_0 q18_1 u5_0 u5_1 u5_2) rfl rfl rfl rfl rfl 10 0 rfl rfl rfl rfl hl.1 rfl (Nat.le_of_ble_eq_true rfl) dX10_step_164 ⟨Nat.zero_le _, Nat.zero_le _⟩ (fun H locs hP hD hS => ?_)
      refine lv_aload_n hx hb dX10_step_167 rfl (lv_at hl 0 rfl) ?_
      refine lv_iload_n hx hb dX10_step_168 rfl (lv_at hl 1 rfl) ?_
      obtain ⟨q20, hcq20, hF⟩ := q_bd hF
      refine q_Vi (As := [.int p0]) (rest := [.int q19]) ⟨hx, hb, hml, hown, hts⟩ hA hK hP hD hS (tX10_crossings l dC dI cI cZ aZ H.size Z_code Z_isArrow Z_from Z_to Z_turned Z_told Z_layers Z_layer q18_0 q18_1 p0 q20 hcq20) (cwV 1 hts gX10_step_X10_crossings rfl rfl rfl uX10_crossings ⟨Nat.le_of_ble_eq_true rfl, Nat.le_of_ble_eq_true rfl⟩) [0, 1, 2, 3, 4, 5, 8, 9] [(true, 0), (true, 1), (true, 2), (true, 3), (true, 4), (true, 5), (false, 6), (false, 7), (true, 6), (true, 7), (false, 10), (false, 11), (false, 12)] (iX10_step aZ cI cZ Z_code Z_isArrow Z_from Z_to Z_turned Z_told Z_layers Z_layer Z_sizes u10 q18_0 q18_1 u5_0 u5_1 u5_2) rfl rfl rfl rfl rfl 10 0 rfl rfl rfl rfl hl.1 rfl (Nat.le_of_ble_eq_true rfl) dX10_step_169 ⟨Nat.zero_le _, Nat.zero_le _⟩ (fun H locs hP hD hS => ?_)
      refine lv_iadd hx hb dX10_step_172 ?_
      refine lv_iload_n hx hb dX10_step_173 rfl (lv_at hl 2 rfl) ?_
      refine lv_icmp_gt (tgt := 178) hx hb dX10_step_174 (by decide) (fun hc => ?_) (fun hc => ?_)
      · replace hF := q_t hc hF
        refine lv_iconst (v := 0) hx hb dX10_step_178 (by decide) ?_
        refine lv_istore (lv' := [(6, .int 0), (0, .ref (aZ 0)), (1, .int p0), (3, .int (q1 + q2)), (4, .int v4)]) hx hb dX10_step_179 hl (by decide) rfl (fun ls hl => ?_)
        obtain ⟨q21, hc21, hF⟩ := q_bd hF
        have X21 : ∀ (u21 : Nat → Int32), u21 = q21 → ∀ (H : Heap) (locs : List Loc) (ls : Array Slot), va_P (dC, dI) vwCl (iX10_step aZ cI cZ Z_code Z_isArrow Z_from Z_to Z_turned Z_told Z_layers Z_layer Z_sizes u21 q18_0 q18_1 u5_0 u5_1 u5_2) H → va_D A (iX10_step aZ cI cZ Z_code Z_isArrow Z_from Z_to Z_turned Z_told Z_layers Z_layer Z_sizes u21 q18_0 q18_1 u5_0 u5_1 u5_2) → va_S A s.heap H locs → lv_has ls 8 [(0, .ref (aZ 0)), (1, .int p0)] → W p l e (headSpec wsX10_step (rX10_step)).room s m args below meth c H locs 0 0 Q (F0 m 213 ls []) := by
          intro u21 hu H locs ls hP hD hS hl
          subst hu
          refine lv_aload_n hx hb dX10_step_213 rfl (lv_at hl 0 rfl) ?_
          refine lv_iload_n hx hb dX10_step_214 rfl (lv_at hl 1 rfl) ?_
          obtain ⟨q24_0, q24_1, hcq24, hF⟩ := q_bd2 hF
          refine q_Vv (As := [.int p0]) (rest := []) ⟨hx, hb, hml, hown, hts⟩ hA hK hP hD hS (tX10_note l dC dI cI cZ aZ H.size Z_code Z_told Z_layers Z_sizes u21 q18_0 q18_1 p0 (q24_0, q24_1) hcq24) (cwV 1 hts gX10_step_X10_note rfl rfl rfl uX10_note ⟨Nat.le_of_ble_eq_true rfl, Nat.le_of_ble_eq_true rfl⟩) [0, 6, 7, 8, 9] [(true, 0), (false, 1), (false, 2), (false, 3), (false, 4), (false, 5), (true, 1), (true, 2), (true, 3), (true, 4), (false, 10), (false, 11), (false, 12)] (iX10_step aZ cI cZ Z_code Z_isArrow Z_from Z_to Z_turned Z_told Z_layers Z_layer Z_sizes u21 q24_0 q24_1 u5_0 u5_1 u5_2) rfl rfl rfl rfl rfl 10 0 rfl rfl rfl rfl hl.1 rfl (Nat.le_of_ble_eq_true rfl) dX10_step_215 ⟨Nat.zero_le _, Nat.zero_le _⟩ (fun H locs hP hD hS => ?_)
          exact hret H locs ls 218 _ dX10_step_218 (congrArg (fun z : (Nat → Int32) × (Nat → Int32) × (Nat → Int32) × (Nat → Int32) × (Nat → Int32) × (Nat → Int32) => (iX10_step aZ cI cZ Z_code Z_isArrow Z_from Z_to Z_turned Z_told Z_layers Z_layer Z_sizes z.1 z.2.1 z.2.2.1 z.2.2.2.1 z.2.2.2.2.1 z.2.2.2.2.2)) (Option.some.inj hF)) hP hD hS
        have L21 : ∀ st : Int32 × (Nat → Int32), q_lo (fun (st : Int32 × (Nat → Int32)) => bX10_step_181 u5_0 p0 v4 st.1 st.2) st = some q21 → ∀ (H : Heap) (locs : List Loc) (ls : Array Slot), va_P (dC, dI) vwCl (iX10_step aZ cI cZ Z_code Z_isArrow Z_from Z_to Z_turned Z_told Z_layers Z_layer Z_sizes st.2 q18_0 q18_1 u5_0 u5_1 u5_2) H → va_D A (iX10_step aZ cI cZ Z_code Z_isArrow Z_from Z_to Z_turned Z_told Z_layers Z_layer Z_sizes st.2 q18_0 q18_1 u5_0 u5_1 u5_2) → va_S A s.heap H locs → lv_has ls 8 [(0, .ref (aZ 0)), (1, .int p0), (4, .int v4), (6, .int st.1)] → W p l e (headSpec wsX10_step (rX10_step)).room s m args below meth c H locs 0 0 Q (F0 m 181 ls []) := by
          intro st hst
          refine q_walk (Wh := fun st : Int32 × (Nat → Int32) => ∀ (H : Heap) (locs : List Loc) (ls : Array Slot), va_P (dC, dI) vwCl (iX10_step aZ cI cZ Z_code Z_isArrow Z_from Z_to Z_turned Z_told Z_layers Z_layer Z_sizes st.2 q18_0 q18_1 u5_0 u5_1 u5_2) H → va_D A (iX10_step aZ cI cZ Z_code Z_isArrow Z_from Z_to Z_turned Z_told Z_layers Z_layer Z_sizes st.2 q18_0 q18_1 u5_0 u5_1 u5_2) → va_S A s.heap H locs → lv_has ls 8 [(0, .ref (aZ 0)), (1, .int p0), (4, .int v4), (6, .int st.1)] → W p l e (headSpec wsX10_step (rX10_step)).room s m args below meth c H locs 0 0 Q (F0 m 181 ls [])) ?_ st hst
          clear hst st hF
          intro st o hF hin hex H locs ls hP hD hS hl
          obtain ⟨x6_21, Z_items_21⟩ := st
          replace hF : bX10_step_181 u5_0 p0 v4 x6_21 Z_items_21 = some o := hF
          replace hP : va_P (dC, dI) vwCl (iX10_step aZ cI cZ Z_code Z_isArrow Z_from Z_to Z_turned Z_told Z_layers Z_layer Z_sizes Z_items_21 q18_0 q18_1 u5_0 u5_1 u5_2) H := hP
          replace hD : va_D A (iX10_step aZ cI cZ Z_code Z_isArrow Z_from Z_to Z_turned Z_told Z_layers Z_layer Z_sizes Z_items_21 q18_0 q18_1 u5_0 u5_1 u5_2) := hD
          replace hl : lv_has ls 8 [(0, .ref (aZ 0)), (1, .int p0), (4, .int v4), (6, .int x6_21)] := hl
          unfold bX10_step_181 at hF
          refine lv_iload hx hb dX10_step_181 (lv_at hl 3 rfl) ?_
          refine lv_iload hx hb dX10_step_183 (lv_at hl 2 rfl) ?_
          refine lv_icmp_ge (tgt := 213) hx hb dX10_step_185 (by decide) (fun hc => ?_) (fun hc => ?_)
          · replace hF := q_t hc hF
            exact X21 _ (hex _ (Option.some.inj hF).symm) H locs ls hP hD hS (lv_sub hl [0, 1] rfl)
          · replace hF := q_f hc hF
            refine lv_aload_n hx hb dX10_step_188 rfl (lv_at hl 0 rfl) ?_
            refine q_get (ci := 10) (C := RX10) (T := TX10) (N := 24) hx hb hts eX10_step_X10 hown hK hP 0 rfl rfl 12 (Nat.le_of_ble_eq_true rfl) k3 rfl rfl dX10_step_189 ?_
            refine lv_bipush (v := 40) hx hb dX10_step_192 (by decide) ?_
            refine lv_iload_n hx hb dX10_step_194 rfl (lv_at hl 1 rfl) ?_
            refine lv_imul hx hb dX10_step_195 ?_
            refine lv_iload hx hb dX10_step_196 (lv_at hl 3 rfl) ?_
            refine lv_iadd hx hb dX10_step_198 ?_
            refine lv_aload_n hx hb dX10_step_199 rfl (lv_at hl 0 rfl) ?_
            refine q_get (ci := 10) (C := RX10) (T := TX10) (N := 24) hx hb hts eX10_step_X10 hown hK hP 0 rfl rfl 20 (Nat.le_of_ble_eq_true rfl) k2 rfl rfl dX10_step_200 ?_
            refine lv_iload hx hb dX10_step_203 (lv_at hl 3 rfl) ?_
            obtain ⟨hn22, hF⟩ := q_ck hF
            refine va_iald hx hb hK hP 10 0 rfl rfl hn22 dX10_step_205 ?_
            obtain ⟨hn23, hF⟩ := q_ck hF
            refine q_iast hx hb hK hP hD hS 7 0 (iX10_step aZ cI cZ Z_code Z_isArrow Z_from Z_to Z_turned Z_told Z_layers Z_layer Z_sizes (upd Z_items_21 ((40 * p0) + x6_21).toNatClampNeg (u5_0 x6_21.toNatClampNeg)) q18_0 q18_1 u5_0 u5_1 u5_2) rfl rfl hn23 rfl dX10_step_206 (fun H locs hP hD hS => ?_)
            refine lv_iinc (v := (x6_21 + 1)) (lv' := [(6, .int (x6_21 + 1)), (0, .ref (aZ 0)), (1, .int p0), (4, .int v4)]) hx hb dX10_step_207 hl (k := 3) rfl rfl (by decide) rfl (fun ls hl => ?_)
            refine lv_goto (tgt := 181) hx hb dX10_step_210 (by decide) ?_
            exact hin _ (Option.some.inj hF).symm H locs ls hP hD hS (lv_sub hl [1, 2, 3, 0] rfl)
        exact L21 (0, u10) hc21 H locs ls hP hD hS (lv_sub hl [1, 2, 4, 0] rfl)
      · replace hF := q_f hc hF
        exact hret H locs ls 177 _ dX10_step_177 (congrArg (fun z : (Nat → Int32) × (Nat → Int32) × (Nat → Int32) × (Nat → Int32) × (Nat → Int32) × (Nat → Int32) => (iX10_step aZ cI cZ Z_code Z_isArrow Z_from Z_to Z_turned Z_told Z_layers Z_layer Z_sizes z.1 z.2.1 z.2.2.1 z.2.2.2.1 z.2.2.2.2.1 z.2.2.2.2.2)) (Option.some.inj hF)) hP hD hS
    have L10 : ∀ st : Int32 × Int32 × (Nat → Int32), q_lo (fun (st : Int32 × Int32 × (Nat → Int32)) => bX10_step_73 u5_0 u5_1 p0 (q1 + q2) v4 st.1 st.2.1 st.2.2) st = some q10 → ∀ (H : Heap) (locs : List Loc) (ls : Array Slot), va_P (dC, dI) vwCl (iX10_step aZ cI cZ Z_code Z_isArrow Z_from Z_to Z_turned Z_told Z_layers Z_layer Z_sizes st.2.2 Z_place Z_dummyPlace u5_0 u5_1 u5_2) H → va_D A (iX10_step aZ cI cZ Z_code Z_isArrow Z_from Z_to Z_turned Z_told Z_layers Z_layer Z_sizes st.2.2 Z_place Z_dummyPlace u5_0 u5_1 u5_2) → va_S A s.heap H locs → lv_has ls 8 [(0, .ref (aZ 0)), (1, .int p0), (3, .int (q1 + q2)), (4, .int v4), (5, .int st.1), (6, .int st.2.1)] → W p l e (headSpec wsX10_step (rX10_step)).room s m args below meth c H locs 0 0 Q (F0 m 73 ls []) := by
      intro st hst
      refine q_walk (Wh := fun st : Int32 × Int32 × (Nat → Int32) => ∀ (H : Heap) (locs : List Loc) (ls : Array Slot), va_P (dC, dI) vwCl (iX10_step aZ cI cZ Z_code Z_isArrow Z_from Z_to Z_turned Z_told Z_layers Z_layer Z_sizes st.2.2 Z_place Z_dummyPlace u5_0 u5_1 u5_2) H → va_D A (iX10_step aZ cI cZ Z_code Z_isArrow Z_from Z_to Z_turned Z_told Z_layers Z_layer Z_sizes st.2.2 Z_place Z_dummyPlace u5_0 u5_1 u5_2) → va_S A s.heap H locs → lv_has ls 8 [(0, .ref (aZ 0)), (1, .int p0), (3, .int (q1 + q2)), (4, .int v4), (5, .int st.1), (6, .int st.2.1)] → W p l e (headSpec wsX10_step (rX10_step)).room s m args below meth c H locs 0 0 Q (F0 m 73 ls [])) ?_ st hst
      clear hst st hF
      intro st o hF hin hex H locs ls hP hD hS hl
      obtain ⟨x5_10, x6_10, Z_items_10⟩ := st
      replace hF : bX10_step_73 u5_0 u5_1 p0 (q1 + q2) v4 x5_10 x6_10 Z_items_10 = some o := hF
      replace hP : va_P (dC, dI) vwCl (iX10_step aZ cI cZ Z_code Z_isArrow Z_from Z_to Z_turned Z_told Z_layers Z_layer Z_sizes Z_items_10 Z_place Z_dummyPlace u5_0 u5_1 u5_2) H := hP
      replace hD : va_D A (iX10_step aZ cI cZ Z_code Z_isArrow Z_from Z_to Z_turned Z_told Z_layers Z_layer Z_sizes Z_items_10 Z_place Z_dummyPlace u5_0 u5_1 u5_2) := hD
      replace hl : lv_has ls 8 [(0, .ref (aZ 0)), (1, .int p0), (3, .int (q1 + q2)), (4, .int v4), (5, .int x5_10), (6, .int x6_10)] := hl
      unfold bX10_step_73 at hF
      refine lv_iload hx hb dX10_step_73 (lv_at hl 5 rfl) ?_
      refine lv_bipush (v := 40) hx hb dX10_step_75 (by decide) ?_
      refine lv_icmp_ge (tgt := 155) hx hb dX10_step_77 (by decide) (fun hc => ?_) (fun hc => ?_)
      · replace hF := q_t hc hF
        exact X10 _ (hex _ (Option.some.inj hF).symm) H locs ls hP hD hS (lv_sub hl [0, 1, 2, 3] rfl)
      · replace hF := q_f hc hF
        refine lv_iconst (v := 0) hx hb dX10_step_80 (by decide) ?_
        refine lv_istore (lv' := [(7, .int 0), (0, .ref (aZ 0)), (1, .int p0), (3, .int (q1 + q2)), (4, .int v4), (5, .int x5_10), (6, .int x6_10)]) hx hb dX10_step_81 hl (by decide) rfl (fun ls hl => ?_)
        obtain ⟨q11_0, q11_1, hc11, hF⟩ := q_bd2 hF
        have X11 : ∀ (u11_0 : Int32) (u11_1 : Nat → Int32), (u11_0, u11_1) = (q11_0, q11_1) → ∀ (H : Heap) (locs : List Loc) (ls : Array Slot), va_P (dC, dI) vwCl (iX10_step aZ cI cZ Z_code Z_isArrow Z_from Z_to Z_turned Z_told Z_layers Z_layer Z_sizes u11_1 Z_place Z_dummyPlace u5_0 u5_1 u5_2) H → va_D A (iX10_step aZ cI cZ Z_code Z_isArrow Z_from Z_to Z_turned Z_told Z_layers Z_layer Z_sizes u11_1 Z_place Z_dummyPlace u5_0 u5_1 u5_2) → va_S A s.heap H locs → lv_has ls 8 [(0, .ref (aZ 0)), (1, .int p0), (3, .int (q1 + q2)), (4, .int v4), (5, .int u11_0), (6, .int x6_10)] → W p l e (headSpec wsX10_step (rX10_step)).room s m args below meth c H locs 0 0 Q (F0 m 149 ls []) := by
          intro u11_0 u11_1 hu H locs ls hP hD hS hl
          obtain ⟨e0, e1⟩ := q_inj2 hu
          subst e0 e1
          refine lv_iinc (v := (x6_10 + 1)) (lv' := [(6, .int (x6_10 + 1)), (0, .ref (aZ 0)), (1, .int p0), (3, .int (q1 + q2)), (4, .int v4), (5, .int u11_0)]) hx hb dX10_step_149 hl (k := 5) rfl rfl (by decide) rfl (fun ls hl => ?_)
          refine lv_goto (tgt := 73) hx hb dX10_step_152 (by decide) ?_
          exact hin _ (Option.some.inj hF).symm H locs ls hP hD hS (lv_sub hl [1, 2, 3, 4, 5, 0] rfl)
        have L11 : ∀ st : Int32 × Int32 × (Nat → Int32), q_lo (fun (st : Int32 × Int32 × (Nat → Int32)) => bX10_step_83 u5_0 u5_1 p0 (q1 + q2) v4 x6_10 st.1 st.2.1 st.2.2) st = some (q11_0, q11_1) → ∀ (H : Heap) (locs : List Loc) (ls : Array Slot), va_P (dC, dI) vwCl (iX10_step aZ cI cZ Z_code Z_isArrow Z_from Z_to Z_turned Z_told Z_layers Z_layer Z_sizes st.2.2 Z_place Z_dummyPlace u5_0 u5_1 u5_2) H → va_D A (iX10_step aZ cI cZ Z_code Z_isArrow Z_from Z_to Z_turned Z_told Z_layers Z_layer Z_sizes st.2.2 Z_place Z_dummyPlace u5_0 u5_1 u5_2) → va_S A s.heap H locs → lv_has ls 8 [(0, .ref (aZ 0)), (1, .int p0), (3, .int (q1 + q2)), (4, .int v4), (5, .int st.1), (6, .int x6_10), (7, .int st.2.1)] → W p l e (headSpec wsX10_step (rX10_step)).room s m args below meth c H locs 0 0 Q (F0 m 83 ls []) := by
          intro st hst
          refine q_walk (Wh := fun st : Int32 × Int32 × (Nat → Int32) => ∀ (H : Heap) (locs : List Loc) (ls : Array Slot), va_P (dC, dI) vwCl (iX10_step aZ cI cZ Z_code Z_isArrow Z_from Z_to Z_turned Z_told Z_layers Z_layer Z_sizes st.2.2 Z_place Z_dummyPlace u5_0 u5_1 u5_2) H → va_D A (iX10_step aZ cI cZ Z_code Z_isArrow Z_from Z_to Z_turned Z_told Z_layers Z_layer Z_sizes st.2.2 Z_place Z_dummyPlace u5_0 u5_1 u5_2) → va_S A s.heap H locs → lv_has ls 8 [(0, .ref (aZ 0)), (1, .int p0), (3, .int (q1 + q2)), (4, .int v4), (5, .int st.1), (6, .int x6_10), (7, .int st.2.1)] → W p l e (headSpec wsX10_step (rX10_step)).room s m args below meth c H locs 0 0 Q (F0 m 83 ls [])) ?_ st hst
          clear hst st hF
          intro st o hF hin hex H locs ls hP hD hS hl
          obtain ⟨x5_11, x7_11, Z_items_11⟩ := st
          replace hF : bX10_step_83 u5_0 u5_1 p0 (q1 + q2) v4 x6_10 x5_11 x7_11 Z_items_11 = some o := hF
          replace hP : va_P (dC, dI) vwCl (iX10_step aZ cI cZ Z_code Z_isArrow Z_from Z_to Z_turned Z_told Z_layers Z_layer Z_sizes Z_items_11 Z_place Z_dummyPlace u5_0 u5_1 u5_2) H := hP
          replace hD : va_D A (iX10_step aZ cI cZ Z_code Z_isArrow Z_from Z_to Z_turned Z_told Z_layers Z_layer Z_sizes Z_items_11 Z_place Z_dummyPlace u5_0 u5_1 u5_2) := hD
          replace hl : lv_has ls 8 [(0, .ref (aZ 0)), (1, .int p0), (3, .int (q1 + q2)), (4, .int v4), (5, .int x5_11), (6, .int x6_10), (7, .int x7_11)] := hl
          unfold bX10_step_83 at hF
          have JX10_STEP_143 : ∀ (Z_items_12 : Nat → Int32) (x5_12 : Int32) (x7_12 : Int32), jX10_step_143 Z_items_12 p0 (q1 + q2) v4 x5_12 x6_10 x7_12 = some o → ∀ (H : Heap) (locs : List Loc) (ls : Array Slot), va_P (dC, dI) vwCl (iX10_step aZ cI cZ Z_code Z_isArrow Z_from Z_to Z_turned Z_told Z_layers Z_layer Z_sizes Z_items_12 Z_place Z_dummyPlace u5_0 u5_1 u5_2) H → va_D A (iX10_step aZ cI cZ Z_code Z_isArrow Z_from Z_to Z_turned Z_told Z_layers Z_layer Z_sizes Z_items_12 Z_place Z_dummyPlace u5_0 u5_1 u5_2) → va_S A s.heap H locs → lv_has ls 8 [(0, .ref (aZ 0)), (1, .int p0), (3, .int (q1 + q2)), (4, .int v4), (5, .int x5_12), (6, .int x6_10), (7, .int x7_12)] → W p l e (headSpec wsX10_step (rX10_step)).room s m args below meth c H locs 0 0 Q (F0 m 143 ls []) := by
            intro Z_items_12 x5_12 x7_12 hF H locs ls hP hD hS hl
            unfold jX10_step_143 at hF
            refine lv_iinc (v := (x7_12 + 1)) (lv' := [(7, .int (x7_12 + 1)), (0, .ref (aZ 0)), (1, .int p0), (3, .int (q1 + q2)), (4, .int v4), (5, .int x5_12), (6, .int x6_10)]) hx hb dX10_step_143 hl (k := 6) rfl rfl (by decide) rfl (fun ls hl => ?_)
            refine lv_goto (tgt := 83) hx hb dX10_step_146 (by decide) ?_
            exact hin _ (Option.some.inj hF).symm H locs ls hP hD hS (lv_sub hl [1, 2, 3, 4, 5, 6, 0] rfl)
          refine lv_iload hx hb dX10_step_83 (lv_at hl 6 rfl) ?_
          refine lv_iload hx hb dX10_step_85 (lv_at hl 3 rfl) ?_
          refine lv_icmp_ge (tgt := 149) hx hb dX10_step_87 (by decide) (fun hc => ?_) (fun hc => ?_)
          · replace hF := q_t hc hF
            exact X11 _ _ (hex _ (Option.some.inj hF).symm) H locs ls hP hD hS (lv_sub hl [0, 1, 2, 3, 4, 5] rfl)
          · replace hF := q_f hc hF
            refine lv_aload_n hx hb dX10_step_90 rfl (lv_at hl 0 rfl) ?_
            refine q_get (ci := 10) (C := RX10) (T := TX10) (N := 24) hx hb hts eX10_step_X10 hown hK hP 0 rfl rfl 21 (Nat.le_of_ble_eq_true rfl) k1 rfl rfl dX10_step_91 ?_
            refine lv_iload hx hb dX10_step_94 (lv_at hl 6 rfl) ?_
            obtain ⟨hn13, hF⟩ := q_ck hF
            refine va_iald hx hb hK hP 11 0 rfl rfl hn13 dX10_step_96 ?_
            refine lv_iload hx hb dX10_step_97 (lv_at hl 5 rfl) ?_
            refine lv_icmp_eq (tgt := 105) hx hb dX10_step_99 (by decide) (fun hc => ?_) (fun hc => ?_)
            · replace hF := q_t hc hF
              obtain ⟨q14, hc14, hF⟩ := q_bd hF
              have X14 : ∀ (u14 : Int32), u14 = q14 → ∀ (H : Heap) (locs : List Loc) (ls : Array Slot), va_P (dC, dI) vwCl (iX10_step aZ cI cZ Z_code Z_isArrow Z_from Z_to Z_turned Z_told Z_layers Z_layer Z_sizes Z_items_11 Z_place Z_dummyPlace u5_0 u5_1 u5_2) H → va_D A (iX10_step aZ cI cZ Z_code Z_isArrow Z_from Z_to Z_turned Z_told Z_layers Z_layer Z_sizes Z_items_11 Z_place Z_dummyPlace u5_0 u5_1 u5_2) → va_S A s.heap H locs → lv_has ls 8 [(0, .ref (aZ 0)), (1, .int p0), (3, .int (q1 + q2)), (4, .int v4), (5, .int u14), (6, .int x6_10), (7, .int x7_11)] → W p l e (headSpec wsX10_step (rX10_step)).room s m args below meth c H locs 0 0 Q (F0 m 121 ls []) := by
                intro u14 hu H locs ls hP hD hS hl
                subst hu
                refine lv_aload_n hx hb dX10_step_121 rfl (lv_at hl 0 rfl) ?_
                refine q_get (ci := 10) (C := RX10) (T := TX10) (N := 24) hx hb hts eX10_step_X10 hown hK hP 0 rfl rfl 12 (Nat.le_of_ble_eq_true rfl) k3 rfl rfl dX10_step_122 ?_
                refine lv_bipush (v := 40) hx hb dX10_step_125 (by decide) ?_
                refine lv_iload_n hx hb dX10_step_127 rfl (lv_at hl 1 rfl) ?_
                refine lv_imul hx hb dX10_step_128 ?_
                refine lv_iload hx hb dX10_step_129 (lv_at hl 4 rfl) ?_
                refine lv_iadd hx hb dX10_step_131 ?_
                refine lv_aload_n hx hb dX10_step_132 rfl (lv_at hl 0 rfl) ?_
                refine q_get (ci := 10) (C := RX10) (T := TX10) (N := 24) hx hb hts eX10_step_X10 hown hK hP 0 rfl rfl 20 (Nat.le_of_ble_eq_true rfl) k2 rfl rfl dX10_step_133 ?_
                refine lv_iload hx hb dX10_step_136 (lv_at hl 6 rfl) ?_
                obtain ⟨hn16, hF⟩ := q_ck hF
                refine va_iald hx hb hK hP 10 0 rfl rfl hn16 dX10_step_138 ?_
                obtain ⟨hn17, hF⟩ := q_ck hF
                refine q_iast hx hb hK hP hD hS 7 0 (iX10_step aZ cI cZ Z_code Z_isArrow Z_from Z_to Z_turned Z_told Z_layers Z_layer Z_sizes (upd Z_items_11 ((40 * p0) + u14).toNatClampNeg (u5_0 x7_11.toNatClampNeg)) Z_place Z_dummyPlace u5_0 u5_1 u5_2) rfl rfl hn17 rfl dX10_step_139 (fun H locs hP hD hS => ?_)
                refine lv_iinc (v := (u14 + 1)) (lv' := [(5, .int (u14 + 1)), (0, .ref (aZ 0)), (1, .int p0), (3, .int (q1 + q2)), (4, .int v4), (6, .int x6_10), (7, .int x7_11)]) hx hb dX10_step_140 hl (k := 4) rfl rfl (by decide) rfl (fun ls hl => ?_)
                exact JX10_STEP_143 (upd Z_items_11 ((40 * p0) + u14).toNatClampNeg (u5_0 x7_11.toNatClampNeg)) (u14 + 1) x7_11 hF H locs ls hP hD hS (lv_sub hl [1, 2, 3, 4, 0, 5, 6] rfl)
              have L14 : ∀ st : Int32, q_lo (fun (st : Int32) => bX10_step_105 u5_1 st) st = some q14 → ∀ (H : Heap) (locs : List Loc) (ls : Array Slot), va_P (dC, dI) vwCl (iX10_step aZ cI cZ Z_code Z_isArrow Z_from Z_to Z_turned Z_told Z_layers Z_layer Z_sizes Z_items_11 Z_place Z_dummyPlace u5_0 u5_1 u5_2) H → va_D A (iX10_step aZ cI cZ Z_code Z_isArrow Z_from Z_to Z_turned Z_told Z_layers Z_layer Z_sizes Z_items_11 Z_place Z_dummyPlace u5_0 u5_1 u5_2) → va_S A s.heap H locs → lv_has ls 8 [(0, .ref (aZ 0)), (1, .int p0), (3, .int (q1 + q2)), (4, .int v4), (5, .int st), (6, .int x6_10), (7, .int x7_11)] → W p l e (headSpec wsX10_step (rX10_step)).room s m args below meth c H locs 0 0 Q (F0 m 105 ls []) := by
                intro st hst
                refine q_walk (Wh := fun st : Int32 => ∀ (H : Heap) (locs : List Loc) (ls : Array Slot), va_P (dC, dI) vwCl (iX10_step aZ cI cZ Z_code Z_isArrow Z_from Z_to Z_turned Z_told Z_layers Z_layer Z_sizes Z_items_11 Z_place Z_dummyPlace u5_0 u5_1 u5_2) H → va_D A (iX10_step aZ cI cZ Z_code Z_isArrow Z_from Z_to Z_turned Z_told Z_layers Z_layer Z_sizes Z_items_11 Z_place Z_dummyPlace u5_0 u5_1 u5_2) → va_S A s.heap H locs → lv_has ls 8 [(0, .ref (aZ 0)), (1, .int p0), (3, .int (q1 + q2)), (4, .int v4), (5, .int st), (6, .int x6_10), (7, .int x7_11)] → W p l e (headSpec wsX10_step (rX10_step)).room s m args below meth c H locs 0 0 Q (F0 m 105 ls [])) ?_ st hst
                clear hst st hF
                intro x5_14 o hF hin hex H locs ls hP hD hS hl
                replace hF : bX10_step_105 u5_1 x5_14 = some o := hF
                replace hP : va_P (dC, dI) vwCl (iX10_step aZ cI cZ Z_code Z_isArrow Z_from Z_to Z_turned Z_told Z_layers Z_layer Z_sizes Z_items_11 Z_place Z_dummyPlace u5_0 u5_1 u5_2) H := hP
                replace hD : va_D A (iX10_step aZ cI cZ Z_code Z_isArrow Z_from Z_to Z_turned Z_told Z_layers Z_layer Z_sizes Z_items_11 Z_place Z_dummyPlace u5_0 u5_1 u5_2) := hD
                replace hl : lv_has ls 8 [(0, .ref (aZ 0)), (1, .int p0), (3, .int (q1 + q2)), (4, .int v4), (5, .int x5_14), (6, .int x6_10), (7, .int x7_11)] := hl
                unfold bX10_step_105 at hF
                refine lv_aload_n hx hb dX10_step_105 rfl (lv_at hl 0 rfl) ?_
                refine q_get (ci := 10) (C := RX10) (T := TX10) (N := 24) hx hb hts eX10_step_X10 hown hK hP 0 rfl rfl 21 (Nat.le_of_ble_eq_true rfl) k1 rfl rfl dX10_step_106 ?_
                refine lv_iload hx hb dX10_step_109 (lv_at hl 4 rfl) ?_
                obtain ⟨hn15, hF⟩ := q_ck hF
                refine va_iald hx hb hK hP 11 0 rfl rfl hn15 dX10_step_111 ?_
                refine lv_if_ge (tgt := 121) hx hb dX10_step_112 (by decide) (fun hc => ?_) (fun hc => ?_)
                · replace hF := q_t hc hF
                  exact X14 _ (hex _ (Option.some.inj hF).symm) H locs ls hP hD hS (lv_sub hl [0, 1, 2, 3, 4, 5, 6] rfl)
                · replace hF := q_f hc hF
                  refine lv_iinc (v := (x5_14 + 1)) (lv' := [(5, .int (x5_14 + 1)), (0, .ref (aZ 0)), (1, .int p0), (3, .int (q1 + q2)), (4, .int v4), (6, .int x6_10), (7, .int x7_11)]) hx hb dX10_step_115 hl (k := 4) rfl rfl (by decide) rfl (fun ls hl => ?_)
                  refine lv_goto (tgt := 105) hx hb dX10_step_118 (by decide) ?_
                  exact hin _ (Option.some.inj hF).symm H locs ls hP hD hS (lv_sub hl [1, 2, 3, 4, 0, 5, 6] rfl)
              exact L14 x5_11 hc14 H locs ls hP hD hS (lv_sub hl [0, 1, 2, 3, 4, 5, 6] rfl)
            · replace hF := q_f hc hF
              refine lv_goto (tgt := 143) hx hb dX10_step_102 (by decide) ?_
              exact JX10_STEP_143 Z_items_11 x5_11 x7_11 hF H locs ls hP hD hS (lv_sub hl [0, 1, 2, 3, 4, 5, 6] rfl)
        exact L11 (x5_10, 0, Z_items_10) hc11 H locs ls hP hD hS (lv_sub hl [1, 2, 3, 4, 5, 6, 0] rfl)
    exact L10 (0, 0, Z_items) hc10 H locs ls hP hD hS (lv_sub hl [2, 3, 4, 5, 1, 0] rfl)
  have L5 : ∀ st : Int32 × (Nat → Int32) × (Nat → Int32) × (Nat → Int32), q_lo (fun (st : Int32 × (Nat → Int32) × (Nat → Int32) × (Nat → Int32)) => bX10_step_25 Z_isArrow Z_from Z_to Z_turned Z_layer Z_items Z_place Z_dummyPlace p0 p1 v4 st.1 st.2.1 st.2.2.1 st.2.2.2) st = some (q5_0, q5_1, q5_2) → ∀ (H : Heap) (locs : List Loc) (ls : Array Slot), va_P (dC, dI) vwCl (iX10_step aZ cI cZ Z_code Z_isArrow Z_from Z_to Z_turned Z_told Z_layers Z_layer Z_sizes Z_items Z_place Z_dummyPlace st.2.1 st.2.2.1 st.2.2.2) H → va_D A (iX10_step aZ cI cZ Z_code Z_isArrow Z_from Z_to Z_turned Z_told Z_layers Z_layer Z_sizes Z_items Z_place Z_dummyPlace st.2.1 st.2.2.1 st.2.2.2) → va_S A s.heap H locs → lv_has ls 8 [(0, .ref (aZ 0)), (1, .int p0), (2, .int p1), (3, .int (q1 + q2)), (4, .int v4), (5, .int st.1)] → W p l e (headSpec wsX10_step (rX10_step)).room s m args below meth c H locs 0 0 Q (F0 m 25 ls []) := by
    intro st hst
    refine q_walk (Wh := fun st : Int32 × (Nat → Int32) × (Nat → Int32) × (Nat → Int32) => ∀ (H : Heap) (locs : List Loc) (ls : Array Slot), va_P (dC, dI) vwCl (iX10_step aZ cI cZ Z_code Z_isArrow Z_from Z_to Z_turned Z_told Z_layers Z_layer Z_sizes Z_items Z_place Z_dummyPlace st.2.1 st.2.2.1 st.2.2.2) H → va_D A (iX10_step aZ cI cZ Z_code Z_isArrow Z_from Z_to Z_turned Z_told Z_layers Z_layer Z_sizes Z_items Z_place Z_dummyPlace st.2.1 st.2.2.1 st.2.2.2) → va_S A s.heap H locs → lv_has ls 8 [(0, .ref (aZ 0)), (1, .int p0), (2, .int p1), (3, .int (q1 + q2)), (4, .int v4), (5, .int st.1)] → W p l e (headSpec wsX10_step (rX10_step)).room s m args below meth c H locs 0 0 Q (F0 m 25 ls [])) ?_ st hst
    clear hst st hF
    intro st o hF hin hex H locs ls hP hD hS hl
    obtain ⟨x5_5, Z_row_5, Z_ends_5, Z_near_5⟩ := st
    replace hF : bX10_step_25 Z_isArrow Z_from Z_to Z_turned Z_layer Z_items Z_place Z_dummyPlace p0 p1 v4 x5_5 Z_row_5 Z_ends_5 Z_near_5 = some o := hF
    replace hP : va_P (dC, dI) vwCl (iX10_step aZ cI cZ Z_code Z_isArrow Z_from Z_to Z_turned Z_told Z_layers Z_layer Z_sizes Z_items Z_place Z_dummyPlace Z_row_5 Z_ends_5 Z_near_5) H := hP
    replace hD : va_D A (iX10_step aZ cI cZ Z_code Z_isArrow Z_from Z_to Z_turned Z_told Z_layers Z_layer Z_sizes Z_items Z_place Z_dummyPlace Z_row_5 Z_ends_5 Z_near_5) := hD
    replace hl : lv_has ls 8 [(0, .ref (aZ 0)), (1, .int p0), (2, .int p1), (3, .int (q1 + q2)), (4, .int v4), (5, .int x5_5)] := hl
    unfold bX10_step_25 at hF
    refine lv_iload hx hb dX10_step_25 (lv_at hl 5 rfl) ?_
    refine lv_iload hx hb dX10_step_27 (lv_at hl 4 rfl) ?_
    refine lv_icmp_ge (tgt := 67) hx hb dX10_step_29 (by decide) (fun hc => ?_) (fun hc => ?_)
    · replace hF := q_t hc hF
      exact X5 _ _ _ (hex _ (Option.some.inj hF).symm) H locs ls hP hD hS (lv_sub hl [0, 1, 3, 4] rfl)
    · replace hF := q_f hc hF
      refine lv_aload_n hx hb dX10_step_32 rfl (lv_at hl 0 rfl) ?_
      refine q_get (ci := 10) (C := RX10) (T := TX10) (N := 24) hx hb hts eX10_step_X10 hown hK hP 0 rfl rfl 21 (Nat.le_of_ble_eq_true rfl) k1 rfl rfl dX10_step_33 ?_
      refine lv_iload hx hb dX10_step_36 (lv_at hl 5 rfl) ?_
      refine lv_aload_n hx hb dX10_step_38 rfl (lv_at hl 0 rfl) ?_
      refine lv_iload_n hx hb dX10_step_39 rfl (lv_at hl 1 rfl) ?_
      refine lv_iload hx hb dX10_step_40 (lv_at hl 5 rfl) ?_
      refine lv_iload_n hx hb dX10_step_42 rfl (lv_at hl 2 rfl) ?_
      obtain ⟨q6_0, q6_1, hcq6, hF⟩ := q_bd2 hF
      refine q_Vi (As := [.int p0, .int x5_5, .int p1]) (rest := [.int x5_5, .ref (aZ 19)]) ⟨hx, hb, hml, hown, hts⟩ hA hK hP hD hS (tX10_median l dC dI cI cZ aZ H.size Z_code Z_isArrow Z_from Z_to Z_turned Z_told Z_layers Z_layer Z_place Z_dummyPlace Z_near_5 p0 x5_5 p1 (q6_0, q6_1) hcq6) (cwV 3 hts gX10_step_X10_median rfl rfl rfl uX10_median ⟨Nat.le_of_ble_eq_true rfl, Nat.le_of_ble_eq_true rfl⟩) [0, 1, 2, 3, 4, 5, 8, 9, 12] [(true, 0), (true, 1), (true, 2), (true, 3), (true, 4), (true, 5), (false, 6), (false, 7), (true, 6), (true, 7), (false, 10), (false, 11), (true, 8)] (iX10_step aZ cI cZ Z_code Z_isArrow Z_from Z_to Z_turned Z_told Z_layers Z_layer Z_sizes Z_items Z_place Z_dummyPlace Z_row_5 Z_ends_5 q6_1) rfl rfl rfl rfl rfl 10 0 rfl rfl rfl rfl hl.1 rfl (Nat.le_of_ble_eq_true rfl) dX10_step_43 ⟨Nat.zero_le _, Nat.zero_le _⟩ (fun H locs hP hD hS => ?_)
      obtain ⟨hn7, hF⟩ := q_ck hF
      refine q_iast hx hb hK hP hD hS 11 0 (iX10_step aZ cI cZ Z_code Z_isArrow Z_from Z_to Z_turned Z_told Z_layers Z_layer Z_sizes Z_items Z_place Z_dummyPlace Z_row_5 (upd Z_ends_5 x5_5.toNatClampNeg q6_0) q6_1) rfl rfl hn7 rfl dX10_step_46 (fun H locs hP hD hS => ?_)
      refine lv_aload_n hx hb dX10_step_47 rfl (lv_at hl 0 rfl) ?_
      refine q_get (ci := 10) (C := RX10) (T := TX10) (N := 24) hx hb hts eX10_step_X10 hown hK hP 0 rfl rfl 20 (Nat.le_of_ble_eq_true rfl) k2 rfl rfl dX10_step_48 ?_
      refine lv_iload hx hb dX10_step_51 (lv_at hl 5 rfl) ?_
      refine lv_aload_n hx hb dX10_step_53 rfl (lv_at hl 0 rfl) ?_
      refine lv_iload_n hx hb dX10_step_54 rfl (lv_at hl 1 rfl) ?_
      refine lv_iload hx hb dX10_step_55 (lv_at hl 5 rfl) ?_
      obtain ⟨q8, hcq8, hF⟩ := q_bd hF
      refine q_Vi (As := [.int p0, .int x5_5]) (rest := [.int x5_5, .ref (aZ 18)]) ⟨hx, hb, hml, hown, hts⟩ hA hK hP hD hS (tX10_item0 l dC dI cI cZ aZ H.size Z_code Z_told Z_layers Z_items p0 x5_5 q8 hcq8) (cwV 2 hts gX10_step_X10_item0 rfl rfl rfl uX10_item0 ⟨Nat.le_of_ble_eq_true rfl, Nat.le_of_ble_eq_true rfl⟩) [0, 7] [(true, 0), (false, 1), (false, 2), (false, 3), (false, 4), (false, 5), (false, 6), (true, 1), (false, 8), (false, 9), (false, 10), (false, 11), (false, 12)] (iX10_step aZ cI cZ Z_code Z_isArrow Z_from Z_to Z_turned Z_told Z_layers Z_layer Z_sizes Z_items Z_place Z_dummyPlace Z_row_5 (upd Z_ends_5 x5_5.toNatClampNeg q6_0) q6_1) rfl rfl rfl rfl rfl 10 0 rfl rfl rfl rfl hl.1 rfl (Nat.le_of_ble_eq_true rfl) dX10_step_57 ⟨Nat.zero_le _, Nat.zero_le _⟩ (fun H locs hP hD hS => ?_)
      obtain ⟨hn9, hF⟩ := q_ck hF
      refine q_iast hx hb hK hP hD hS 10 0 (iX10_step aZ cI cZ Z_code Z_isArrow Z_from Z_to Z_turned Z_told Z_layers Z_layer Z_sizes Z_items Z_place Z_dummyPlace (upd Z_row_5 x5_5.toNatClampNeg q8) (upd Z_ends_5 x5_5.toNatClampNeg q6_0) q6_1) rfl rfl hn9 rfl dX10_step_60 (fun H locs hP hD hS => ?_)
      refine lv_iinc (v := (x5_5 + 1)) (lv' := [(5, .int (x5_5 + 1)), (0, .ref (aZ 0)), (1, .int p0), (2, .int p1), (3, .int (q1 + q2)), (4, .int v4)]) hx hb dX10_step_61 hl (k := 5) rfl rfl (by decide) rfl (fun ls hl => ?_)
      refine lv_goto (tgt := 25) hx hb dX10_step_64 (by decide) ?_
      exact hin _ (Option.some.inj hF).symm H locs ls hP hD hS (lv_sub hl [1, 2, 3, 4, 5, 0] rfl)
  exact L5 (0, Z_row, Z_ends, Z_near) hc5 H locs ls hP hD hS (lv_sub hl [3, 4, 5, 2, 1, 0] rfl)
