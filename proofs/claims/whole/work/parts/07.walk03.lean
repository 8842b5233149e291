/-! Written by wip/whole/gen.py: walks of X4_placeIn, X4_appendMissing, X4_empty, X4_homeOf, X4_holdsBox, X4_itemIn, X4_items, X4_layers, X4_sameSpot, X4_startFirst, X4_startLike, X2_inGap. -/
abbrev rX4_placeIn : Room := { frames := 0, cells := 0, slots := 0, locals := 0 }
theorem eX4_placeIn_X4 : ∀ w ∈ u_ws RX4 TX4 5, w ∈ wsX4_placeIn := by decide +kernel
theorem uX4_placeIn : yX4_placeIn.cls = RX4 ∧ yX4_placeIn.cls ≠ "java/lang/invoke/MethodHandle" ∧ yX4_placeIn.cls ≠ "java/lang/invoke/VarHandle" ∧ (parseMethodDescriptor yX4_placeIn.desc).map (fun d => d.parameters.length) = some 2 := by decide +kernel
set_option maxHeartbeats 4000000 in
set_option maxRecDepth 100000 in
theorem tX4_placeIn (l : Launch) (dC : Nat → ClassId) (dI : Nat → Nat → Nat) (cI cZ : ClassId) (aO : Nat → Nat) (sz : Nat) (O_layers : Int32) (O_places : Nat → Int32) (p0 : Int32) (p1 : Int32) (res : Int32) (hF : fX4_placeIn O_places p0 p1 = some res) : q_Mi l yX4_placeIn wsX4_placeIn rX4_placeIn (dC, dI) (q_ty cI cZ) [.ref (aO 0), .int p0, .int p1] (iX4_placeIn aO cI cZ O_layers O_places) (iX4_placeIn aO cI cZ O_layers O_places) sz res := by
  refine q_meti (cc := cX4_placeIn) (maxL := 4) (by decide) rfl (Nat.le_of_ble_eq_true rfl) ?_
  intro p e s m args below meth c Q A H locs ls C hP hD hS hl hret
  obtain ⟨hx, hb, hml, hown, hts, hA, hK⟩ := C
  replace hl : lv_has ls 4 [(0, .ref (aO 0)), (1, .int p0), (2, .int p1)] := hl
  have k0 := hts (.fieldLink RX4 18 "RouteLayout$Order" "places" "[I") (by decide +kernel)
  unfold fX4_placeIn at hF
  have JX4_PLACEIN_25 : ∀ (x1_1 : Int32) (x2_1 : Int32) (s0_1 : Int32), jX4_placeIn_25 O_places x1_1 x2_1 s0_1 = some res → ∀ (H : Heap) (locs : List Loc) (ls : Array Slot), va_P (dC, dI) vwCl (iX4_placeIn aO cI cZ O_layers O_places) H → va_D A (iX4_placeIn aO cI cZ O_layers O_places) → va_S A s.heap H locs → lv_has ls 4 [(0, .ref (aO 0)), (1, .int x1_1), (2, .int x2_1)] → W p l e (headSpec wsX4_placeIn (rX4_placeIn)).room s m args below meth c H locs 0 0 Q (F0 m 25 ls [.int s0_1]) := by
    intro x1_1 x2_1 s0_1 hF H locs ls hP hD hS hl
    unfold jX4_placeIn_25 at hF
    refine lv_istore_n (lv' := [(3, .int s0_1), (0, .ref (aO 0)), (1, .int x1_1), (2, .int x2_1)]) hx hb dX4_placeIn_25 rfl hl (by decide) rfl (fun ls hl => ?_)
    refine lv_iload_n hx hb dX4_placeIn_26 rfl (lv_at hl 0 rfl) ?_
    refine lv_if_eq (tgt := 44) hx hb dX4_placeIn_27 (by decide) (fun hc => ?_) (fun hc => ?_)
    · replace hF := q_t hc hF
      refine lv_iconst (v := (-1)) hx hb dX4_placeIn_44 (by decide) ?_
      exact hret H locs ls 45 _ _ dX4_placeIn_45 (Option.some.inj hF) rfl hP hD hS
    · replace hF := q_f hc hF
      refine lv_aload_n hx hb dX4_placeIn_30 rfl (lv_at hl 1 rfl) ?_
      refine q_get (ci := 4) (C := RX4) (T := TX4) (N := 5) hx hb hts eX4_placeIn_X4 hown hK hP 0 rfl rfl 3 (Nat.le_of_ble_eq_true rfl) k0 rfl rfl dX4_placeIn_31 ?_
      refine lv_iload_n hx hb dX4_placeIn_34 rfl (lv_at hl 2 rfl) ?_
      refine lv_bipush (v := 40) hx hb dX4_placeIn_35 (by decide) ?_
      refine lv_imul hx hb dX4_placeIn_37 ?_
      refine lv_iload_n hx hb dX4_placeIn_38 rfl (lv_at hl 3 rfl) ?_
      refine lv_iadd hx hb dX4_placeIn_39 ?_
      obtain ⟨hn2, hF⟩ := q_ck hF
      refine va_iald hx hb hK hP 1 0 rfl rfl hn2 dX4_placeIn_40 ?_
      refine lv_goto (tgt := 45) hx hb dX4_placeIn_41 (by decide) ?_
      exact hret H locs ls 45 _ _ dX4_placeIn_45 (Option.some.inj hF) rfl hP hD hS
  have JX4_PLACEIN_24 : ∀ (x1_3 : Int32) (x2_3 : Int32), jX4_placeIn_24 O_places x1_3 x2_3 = some res → ∀ (H : Heap) (locs : List Loc) (ls : Array Slot), va_P (dC, dI) vwCl (iX4_placeIn aO cI cZ O_layers O_places) H → va_D A (iX4_placeIn aO cI cZ O_layers O_places) → va_S A s.heap H locs → lv_has ls 4 [(0, .ref (aO 0)), (1, .int x1_3), (2, .int x2_3)] → W p l e (headSpec wsX4_placeIn (rX4_placeIn)).room s m args below meth c H locs 0 0 Q (F0 m 24 ls []) := by
    intro x1_3 x2_3 hF H locs ls hP hD hS hl
    unfold jX4_placeIn_24 at hF
    refine lv_iconst (v := 0) hx hb dX4_placeIn_24 (by decide) ?_
    exact JX4_PLACEIN_25 x1_3 x2_3 0 hF H locs ls hP hD hS (lv_sub hl [0, 1, 2] rfl)
  refine lv_iload_n hx hb dX4_placeIn_0 rfl (lv_at hl 1 rfl) ?_
  refine lv_if_lt (tgt := 24) hx hb dX4_placeIn_1 (by decide) (fun hc => ?_) (fun hc => ?_)
  · replace hF := q_t hc hF
    exact JX4_PLACEIN_24 p0 p1 hF H locs ls hP hD hS (lv_sub hl [0, 1, 2] rfl)
  · replace hF := q_f hc hF
    refine lv_iload_n hx hb dX4_placeIn_4 rfl (lv_at hl 1 rfl) ?_
    refine lv_bipush (v := 24) hx hb dX4_placeIn_5 (by decide) ?_
    refine lv_icmp_ge (tgt := 24) hx hb dX4_placeIn_7 (by decide) (fun hc => ?_) (fun hc => ?_)
    · replace hF := q_t hc hF
      exact JX4_PLACEIN_24 p0 p1 hF H locs ls hP hD hS (lv_sub hl [0, 1, 2] rfl)
    · replace hF := q_f hc hF
      refine lv_iload_n hx hb dX4_placeIn_10 rfl (lv_at hl 2 rfl) ?_
      refine lv_if_lt (tgt := 24) hx hb dX4_placeIn_11 (by decide) (fun hc => ?_) (fun hc => ?_)
      · replace hF := q_t hc hF
        exact JX4_PLACEIN_24 p0 p1 hF H locs ls hP hD hS (lv_sub hl [0, 1, 2] rfl)
      · replace hF := q_f hc hF
        refine lv_iload_n hx hb dX4_placeIn_14 rfl (lv_at hl 2 rfl) ?_
        refine lv_bipush (v := 40) hx hb dX4_placeIn_15 (by decide) ?_
        refine lv_icmp_ge (tgt := 24) hx hb dX4_placeIn_17 (by decide) (fun hc => ?_) (fun hc => ?_)
        · replace hF := q_t hc hF
          exact JX4_PLACEIN_24 p0 p1 hF H locs ls hP hD hS (lv_sub hl [0, 1, 2] rfl)
        · replace hF := q_f hc hF
          refine lv_iconst (v := 1) hx hb dX4_placeIn_20 (by decide) ?_
          refine lv_goto (tgt := 25) hx hb dX4_placeIn_21 (by decide) ?_
          exact JX4_PLACEIN_25 p0 p1 1 hF H locs ls hP hD hS (lv_sub hl [0, 1, 2] rfl)
abbrev rX4_appendMissing : Room := { frames := 3, cells := 0, slots := 0, locals := 66 }
theorem eX4_appendMissing_X4 : ∀ w ∈ u_ws RX4 TX4 5, w ∈ wsX4_appendMissing := by decide +kernel
theorem uX4_appendMissing : yX4_appendMissing.cls = RX4 ∧ yX4_appendMissing.cls ≠ "java/lang/invoke/MethodHandle" ∧ yX4_appendMissing.cls ≠ "java/lang/invoke/VarHandle" ∧ (parseMethodDescriptor yX4_appendMissing.desc).map (fun d => d.parameters.length) = some 1 := by decide +kernel
set_option maxHeartbeats 4000000 in
set_option maxRecDepth 100000 in
theorem tX4_appendMissing (l : Launch) (dC : Nat → ClassId) (dI : Nat → Nat → Nat) (cI cZ : ClassId) (aS : Nat → Nat) (aO : Nat → Nat) (sz : Nat) (R_width : Nat → Int32) (L_layer : Nat → Int32) (L_tops : Nat → Int32) (L_bottoms : Nat → Int32) (L_layers : Int32) (O_layers : Int32) (O_size : Nat → Int32) (O_rows : Nat → Int32) (O_places : Nat → Int32) (O_home : Nat → Int32) (res : (Nat → Int32) × (Nat → Int32) × (Nat → Int32) × (Nat → Int32)) (hF : fX4_appendMissing R_width L_layer L_tops L_bottoms O_layers O_size O_rows O_places O_home = some res) : q_Mv l yX4_appendMissing wsX4_appendMissing rX4_appendMissing (dC, dI) (q_ty cI cZ) [.ref (aO 0), .ref (aS 7)] (iX4_appendMissing aS aO cI cZ R_width L_layer L_tops L_bottoms L_layers O_layers O_size O_rows O_places O_home) (iX4_appendMissing aS aO cI cZ R_width L_layer L_tops L_bottoms L_layers O_layers res.1 res.2.1 res.2.2.1 res.2.2.2) sz := by
  refine q_metv (cc := cX4_appendMissing) (maxL := 4) (by decide) rfl (Nat.le_of_ble_eq_true rfl) ?_
  intro p e s m args below meth c Q A H locs ls C hP hD hS hl hret
  obtain ⟨hx, hb, hml, hown, hts, hA, hK⟩ := C
  replace hl : lv_has ls 4 [(0, .ref (aO 0)), (1, .ref (aS 7))] := hl
  have k0 := hts (.fieldLink RX4 38 "RouteLayout$Order" "layers" "I") (by decide +kernel)
  unfold fX4_appendMissing at hF
  refine lv_iconst (v := 0) hx hb dX4_appendMissing_0 (by decide) ?_
  refine lv_istore_n (lv' := [(2, .int 0), (0, .ref (aO 0)), (1, .ref (aS 7))]) hx hb dX4_appendMissing_1 rfl hl (by decide) rfl (fun ls hl => ?_)
  obtain ⟨q1_0, q1_1, q1_2, q1_3, hc1, hF⟩ := q_bd4 hF
  have X1 : ∀ (u1_0 : Nat → Int32) (u1_1 : Nat → Int32) (u1_2 : Nat → Int32) (u1_3 : Nat → Int32), (u1_0, u1_1, u1_2, u1_3) = (q1_0, q1_1, q1_2, q1_3) → ∀ (H : Heap) (locs : List Loc) (ls : Array Slot), va_P (dC, dI) vwCl (iX4_appendMissing aS aO cI cZ R_width L_layer L_tops L_bottoms L_layers O_layers u1_0 u1_1 u1_2 u1_3) H → va_D A (iX4_appendMissing aS aO cI cZ R_width L_layer L_tops L_bottoms L_layers O_layers u1_0 u1_1 u1_2 u1_3) → va_S A s.heap H locs → lv_has ls 4 [] → W p l e (headSpec wsX4_appendMissing (rX4_appendMissing)).room s m args below meth c H locs 0 0 Q (F0 m 55 ls []) := by
    intro u1_0 u1_1 u1_2 u1_3 hu H locs ls hP hD hS hl
    obtain ⟨e0, e1, e2, e3⟩ := q_inj4 hu
    subst e0 e1 e2 e3
    exact hret H locs ls 55 _ dX4_appendMissing_55 (congrArg (fun z : (Nat → Int32) × (Nat → Int32) × (Nat → Int32) × (Nat → Int32) => (iX4_appendMissing aS aO cI cZ R_width L_layer L_tops L_bottoms L_layers O_layers z.1 z.2.1 z.2.2.1 z.2.2.2)) (Option.some.inj hF)) hP hD hS
  have L1 : ∀ st : Int32 × (Nat → Int32) × (Nat → Int32) × (Nat → Int32) × (Nat → Int32), q_lo (fun (st : Int32 × (Nat → Int32) × (Nat → Int32) × (Nat → Int32) × (Nat → Int32)) => bX4_appendMissing_2 R_width L_layer L_tops L_bottoms O_layers st.1 st.2.1 st.2.2.1 st.2.2.2.1 st.2.2.2.2) st = some (q1_0, q1_1, q1_2, q1_3) → ∀ (H : Heap) (locs : List Loc) (ls : Array Slot), va_P (dC, dI) vwCl (iX4_appendMissing aS aO cI cZ R_width L_layer L_tops L_bottoms L_layers O_layers st.2.1 st.2.2.1 st.2.2.2.1 st.2.2.2.2) H → va_D A (iX4_appendMissing aS aO cI cZ R_width L_layer L_tops L_bottoms L_layers O_layers st.2.1 st.2.2.1 st.2.2.2.1 st.2.2.2.2) → va_S A s.heap H locs → lv_has ls 4 [(0, .ref (aO 0)), (1, .ref (aS 7)), (2, .int st.1)] → W p l e (headSpec wsX4_appendMissing (rX4_appendMissing)).room s m args below meth c H locs 0 0 Q (F0 m 2 ls []) := by
    intro st hst
    refine q_walk (Wh := fun st : Int32 × (Nat → Int32) × (Nat → Int32) × (Nat → Int32) × (Nat → Int32) => ∀ (H : Heap) (locs : List Loc) (ls : Array Slot), va_P (dC, dI) vwCl (iX4_appendMissing aS aO cI cZ R_width L_layer L_tops L_bottoms L_layers O_layers st.2.1 st.2.2.1 st.2.2.2.1 st.2.2.2.2) H → va_D A (iX4_appendMissing aS aO cI cZ R_width L_layer L_tops L_bottoms L_layers O_layers st.2.1 st.2.2.1 st.2.2.2.1 st.2.2.2.2) → va_S A s.heap H locs → lv_has ls 4 [(0, .ref (aO 0)), (1, .ref (aS 7)), (2, .int st.1)] → W p l e (headSpec wsX4_appendMissing (rX4_appendMissing)).room s m args below meth c H locs 0 0 Q (F0 m 2 ls [])) ?_ st hst
    clear hst st hF
    intro st o hF hin hex H locs ls hP hD hS hl
    obtain ⟨x2_1, O_size_1, O_rows_1, O_places_1, O_home_1⟩ := st
    replace hF : bX4_appendMissing_2 R_width L_layer L_tops L_bottoms O_layers x2_1 O_size_1 O_rows_1 O_places_1 O_home_1 = some o := hF
    replace hP : va_P (dC, dI) vwCl (iX4_appendMissing aS aO cI cZ R_width L_layer L_tops L_bottoms L_layers O_layers O_size_1 O_rows_1 O_places_1 O_home_1) H := hP
    replace hD : va_D A (iX4_appendMissing aS aO cI cZ R_width L_layer L_tops L_bottoms L_layers O_layers O_size_1 O_rows_1 O_places_1 O_home_1) := hD
    replace hl : lv_has ls 4 [(0, .ref (aO 0)), (1, .ref (aS 7)), (2, .int x2_1)] := hl
    unfold bX4_appendMissing_2 at hF
    refine lv_iload_n hx hb dX4_appendMissing_2 rfl (lv_at hl 2 rfl) ?_
    refine lv_aload_n hx hb dX4_appendMissing_3 rfl (lv_at hl 0 rfl) ?_
    refine q_get (ci := 4) (C := RX4) (T := TX4) (N := 5) hx hb hts eX4_appendMissing_X4 hown hK hP 0 rfl rfl 0 (Nat.le_of_ble_eq_true rfl) k0 rfl rfl dX4_appendMissing_4 ?_
    refine lv_icmp_ge (tgt := 55) hx hb dX4_appendMissing_7 (by decide) (fun hc => ?_) (fun hc => ?_)
    · replace hF := q_t hc hF
      exact X1 _ _ _ _ (hex _ (Option.some.inj hF).symm) H locs ls hP hD hS (lv_sub hl [] rfl)
    · replace hF := q_f hc hF
      refine lv_iconst (v := 0) hx hb dX4_appendMissing_10 (by decide) ?_
      refine lv_istore_n (lv' := [(3, .int 0), (0, .ref (aO 0)), (1, .ref (aS 7)), (2, .int x2_1)]) hx hb dX4_appendMissing_11 rfl hl (by decide) rfl (fun ls hl => ?_)
      obtain ⟨q2_0, q2_1, q2_2, q2_3, hc2, hF⟩ := q_bd4 hF
      have X2 : ∀ (u2_0 : Nat → Int32) (u2_1 : Nat → Int32) (u2_2 : Nat → Int32) (u2_3 : Nat → Int32), (u2_0, u2_1, u2_2, u2_3) = (q2_0, q2_1, q2_2, q2_3) → ∀ (H : Heap) (locs : List Loc) (ls : Array Slot), va_P (dC, dI) vwCl (iX4_appendMissing aS aO cI cZ R_width L_layer L_tops L_bottoms L_layers O_layers u2_0 u2_1 u2_2 u2_3) H → va_D A (iX4_appendMissing aS aO cI cZ R_width L_layer L_tops L_bottoms L_layers O_layers u2_0 u2_1 u2_2 u2_3) → va_S A s.heap H locs → lv_has ls 4 [(0, .ref (aO 0)), (1, .ref (aS 7)), (2, .int x2_1)] → W p l e (headSpec wsX4_appendMissing (rX4_appendMissing)).room s m args below meth c H locs 0 0 Q (F0 m 49 ls []) := by
        intro u2_0 u2_1 u2_2 u2_3 hu H locs ls hP hD hS hl
        obtain ⟨e0, e1, e2, e3⟩ := q_inj4 hu
        subst e0 e1 e2 e3
        refine lv_iinc (v := (x2_1 + 1)) (lv' := [(2, .int (x2_1 + 1)), (0, .ref (aO 0)), (1, .ref (aS 7))]) hx hb dX4_appendMissing_49 hl (k := 2) rfl rfl (by decide) rfl (fun ls hl => ?_)
        refine lv_goto (tgt := 2) hx hb dX4_appendMissing_52 (by decide) ?_
        exact hin _ (Option.some.inj hF).symm H locs ls hP hD hS (lv_sub hl [1, 2, 0] rfl)
      have L2 : ∀ st : Int32 × (Nat → Int32) × (Nat → Int32) × (Nat → Int32) × (Nat → Int32), q_lo (fun (st : Int32 × (Nat → Int32) × (Nat → Int32) × (Nat → Int32) × (Nat → Int32)) => bX4_appendMissing_12 R_width L_layer L_tops L_bottoms O_layers x2_1 st.1 st.2.1 st.2.2.1 st.2.2.2.1 st.2.2.2.2) st = some (q2_0, q2_1, q2_2, q2_3) → ∀ (H : Heap) (locs : List Loc) (ls : Array Slot), va_P (dC, dI) vwCl (iX4_appendMissing aS aO cI cZ R_width L_layer L_tops L_bottoms L_layers O_layers st.2.1 st.2.2.1 st.2.2.2.1 st.2.2.2.2) H → va_D A (iX4_appendMissing aS aO cI cZ R_width L_layer L_tops L_bottoms L_layers O_layers st.2.1 st.2.2.1 st.2.2.2.1 st.2.2.2.2) → va_S A s.heap H locs → lv_has ls 4 [(0, .ref (aO 0)), (1, .ref (aS 7)), (2, .int x2_1), (3, .int st.1)] → W p l e (headSpec wsX4_appendMissing (rX4_appendMissing)).room s m args below meth c H locs 0 0 Q (F0 m 12 ls []) := by
        intro st hst
        refine q_walk (Wh := fun st : Int32 × (Nat → Int32) × (Nat → Int32) × (Nat → Int32) × (Nat → Int32) => ∀ (H : Heap) (locs : List Loc) (ls : Array Slot), va_P (dC, dI) vwCl (iX4_appendMissing aS aO cI cZ R_width L_layer L_tops L_bottoms L_layers O_layers st.2.1 st.2.2.1 st.2.2.2.1 st.2.2.2.2) H → va_D A (iX4_appendMissing aS aO cI cZ R_width L_layer L_tops L_bottoms L_layers O_layers st.2.1 st.2.2.1 st.2.2.2.1 st.2.2.2.2) → va_S A s.heap H locs → lv_has ls 4 [(0, .ref (aO 0)), (1, .ref (aS 7)), (2, .int x2_1), (3, .int st.1)] → W p l e (headSpec wsX4_appendMissing (rX4_appendMissing)).room s m args below meth c H locs 0 0 Q (F0 m 12 ls [])) ?_ st hst
        clear hst st hF
        intro st o hF hin hex H locs ls hP hD hS hl
        obtain ⟨x3_2, O_size_2, O_rows_2, O_places_2, O_home_2⟩ := st
        replace hF : bX4_appendMissing_12 R_width L_layer L_tops L_bottoms O_layers x2_1 x3_2 O_size_2 O_rows_2 O_places_2 O_home_2 = some o := hF
        replace hP : va_P (dC, dI) vwCl (iX4_appendMissing aS aO cI cZ R_width L_layer L_tops L_bottoms L_layers O_layers O_size_2 O_rows_2 O_places_2 O_home_2) H := hP
        replace hD : va_D A (iX4_appendMissing aS aO cI cZ R_width L_layer L_tops L_bottoms L_layers O_layers O_size_2 O_rows_2 O_places_2 O_home_2) := hD
        replace hl : lv_has ls 4 [(0, .ref (aO 0)), (1, .ref (aS 7)), (2, .int x2_1), (3, .int x3_2)] := hl
        unfold bX4_appendMissing_12 at hF
        have JX4_APPENDMISSING_43 : ∀ (O_size_3 : Nat → Int32) (O_rows_3 : Nat → Int32) (O_places_3 : Nat → Int32) (O_home_3 : Nat → Int32) (x3_3 : Int32), jX4_appendMissing_43 O_size_3 O_rows_3 O_places_3 O_home_3 x2_1 x3_3 = some o → ∀ (H : Heap) (locs : List Loc) (ls : Array Slot), va_P (dC, dI) vwCl (iX4_appendMissing aS aO cI cZ R_width L_layer L_tops L_bottoms L_layers O_layers O_size_3 O_rows_3 O_places_3 O_home_3) H → va_D A (iX4_appendMissing aS aO cI cZ R_width L_layer L_tops L_bottoms L_layers O_layers O_size_3 O_rows_3 O_places_3 O_home_3) → va_S A s.heap H locs → lv_has ls 4 [(0, .ref (aO 0)), (1, .ref (aS 7)), (2, .int x2_1), (3, .int x3_3)] → W p l e (headSpec wsX4_appendMissing (rX4_appendMissing)).room s m args below meth c H locs 0 0 Q (F0 m 43 ls []) := by
          intro O_size_3 O_rows_3 O_places_3 O_home_3 x3_3 hF H locs ls hP hD hS hl
          unfold jX4_appendMissing_43 at hF
          refine lv_iinc (v := (x3_3 + 1)) (lv' := [(3, .int (x3_3 + 1)), (0, .ref (aO 0)), (1, .ref (aS 7)), (2, .int x2_1)]) hx hb dX4_appendMissing_43 hl (k := 3) rfl rfl (by decide) rfl (fun ls hl => ?_)
          refine lv_goto (tgt := 12) hx hb dX4_appendMissing_46 (by decide) ?_
          exact hin _ (Option.some.inj hF).symm H locs ls hP hD hS (lv_sub hl [1, 2, 3, 0] rfl)
        refine lv_iload_n hx hb dX4_appendMissing_12 rfl (lv_at hl 3 rfl) ?_
        refine lv_bipush (v := 40) hx hb dX4_appendMissing_13 (by decide) ?_
        refine lv_icmp_ge (tgt := 49) hx hb dX4_appendMissing_15 (by decide) (fun hc => ?_) (fun hc => ?_)
        · replace hF := q_t hc hF
          exact X2 _ _ _ _ (hex _ (Option.some.inj hF).symm) H locs ls hP hD hS (lv_sub hl [0, 1, 2] rfl)
        · replace hF := q_f hc hF
          refine lv_aload_n hx hb dX4_appendMissing_18 rfl (lv_at hl 1 rfl) ?_
          refine lv_iload_n hx hb dX4_appendMissing_19 rfl (lv_at hl 2 rfl) ?_
          refine lv_iload_n hx hb dX4_appendMissing_20 rfl (lv_at hl 3 rfl) ?_
          obtain ⟨q4, hcq4, hF⟩ := q_bd hF
          refine q_Vi (As := [.int x2_1, .int x3_2]) (rest := []) ⟨hx, hb, hml, hown, hts⟩ hA hK hP hD hS (tX3_holds l dC dI cI cZ aS H.size R_width L_layer L_tops L_bottoms L_layers x2_1 x3_2 q4 hcq4) (cwV 2 hts gX4_appendMissing_X3_holds rfl rfl rfl uX3_holds ⟨Nat.le_of_ble_eq_true rfl, Nat.le_of_ble_eq_true rfl⟩) [3, 1, 2, 4, 5, 6] [(false, 0), (true, 1), (true, 2), (true, 0), (true, 3), (true, 4), (true, 5), (false, 7), (false, 8), (false, 9), (false, 10)] (iX4_appendMissing aS aO cI cZ R_width L_layer L_tops L_bottoms L_layers O_layers O_size_2 O_rows_2 O_places_2 O_home_2) rfl rfl rfl rfl rfl 3 0 rfl rfl rfl rfl hl.1 rfl (Nat.le_of_ble_eq_true rfl) dX4_appendMissing_21 ⟨Nat.zero_le _, Nat.zero_le _⟩ (fun H locs hP hD hS => ?_)
          refine lv_if_eq (tgt := 43) hx hb dX4_appendMissing_24 (by decide) (fun hc => ?_) (fun hc => ?_)
          · replace hF := q_t hc hF
            exact JX4_APPENDMISSING_43 O_size_2 O_rows_2 O_places_2 O_home_2 x3_2 hF H locs ls hP hD hS (lv_sub hl [0, 1, 2, 3] rfl)
          · replace hF := q_f hc hF
            refine lv_aload_n hx hb dX4_appendMissing_27 rfl (lv_at hl 0 rfl) ?_
            refine lv_iload_n hx hb dX4_appendMissing_28 rfl (lv_at hl 2 rfl) ?_
            refine lv_iload_n hx hb dX4_appendMissing_29 rfl (lv_at hl 3 rfl) ?_
            obtain ⟨q5, hcq5, hF⟩ := q_bd hF
            refine q_Vi (As := [.int x2_1, .int x3_2]) (rest := []) ⟨hx, hb, hml, hown, hts⟩ hA hK hP hD hS (tX4_placeIn l dC dI cI cZ aO H.size O_layers O_places_2 x2_1 x3_2 q5 hcq5) (cwV 2 hts gX4_appendMissing_X4_placeIn rfl rfl rfl uX4_placeIn ⟨Nat.le_of_ble_eq_true rfl, Nat.le_of_ble_eq_true rfl⟩) [0, 9] [(true, 0), (false, 1), (false, 2), (false, 3), (false, 4), (false, 5), (false, 6), (false, 7), (false, 8), (true, 1), (false, 10)] (iX4_appendMissing aS aO cI cZ R_width L_layer L_tops L_bottoms L_layers O_layers O_size_2 O_rows_2 O_places_2 O_home_2) rfl rfl rfl rfl rfl 4 0 rfl rfl rfl rfl hl.1 rfl (Nat.le_of_ble_eq_true rfl) dX4_appendMissing_30 ⟨Nat.zero_le _, Nat.zero_le _⟩ (fun H locs hP hD hS => ?_)
            refine lv_iconst (v := (-1)) hx hb dX4_appendMissing_33 (by decide) ?_
            refine lv_icmp_ne (tgt := 43) hx hb dX4_appendMissing_34 (by decide) (fun hc => ?_) (fun hc => ?_)
            · replace hF := q_f hc hF
              exact JX4_APPENDMISSING_43 O_size_2 O_rows_2 O_places_2 O_home_2 x3_2 hF H locs ls hP hD hS (lv_sub hl [0, 1, 2, 3] rfl)
            · replace hF := q_t hc hF
              refine lv_aload_n hx hb dX4_appendMissing_37 rfl (lv_at hl 0 rfl) ?_
              refine lv_iload_n hx hb dX4_appendMissing_38 rfl (lv_at hl 2 rfl) ?_
              refine lv_iload_n hx hb dX4_appendMissing_39 rfl (lv_at hl 3 rfl) ?_
              obtain ⟨q6_0, q6_1, q6_2, q6_3, hcq6, hF⟩ := q_bd4 hF
              refine q_Vv (As := [.int x2_1, .int x3_2]) (rest := []) ⟨hx, hb, hml, hown, hts⟩ hA hK hP hD hS (tX4_append l dC dI cI cZ aO H.size O_layers O_size_2 O_rows_2 O_places_2 O_home_2 x2_1 x3_2 (q6_0, q6_1, q6_2, q6_3) hcq6) (cwV 2 hts gX4_appendMissing_X4_append rfl rfl rfl uX4_append ⟨Nat.le_of_ble_eq_true rfl, Nat.le_of_ble_eq_true rfl⟩) [0, 7, 8, 9, 10] [(true, 0), (false, 1), (false, 2), (false, 3), (false, 4), (false, 5), (false, 6), (true, 1), (true, 2), (true, 3), (true, 4)] (iX4_appendMissing aS aO cI cZ R_width L_layer L_tops L_bottoms L_layers O_layers q6_0 q6_1 q6_2 q6_3) rfl rfl rfl rfl rfl 4 0 rfl rfl rfl rfl hl.1 rfl (Nat.le_of_ble_eq_true rfl) dX4_appendMissing_40 ⟨Nat.zero_le _, Nat.zero_le _⟩ (fun H locs hP hD hS => ?_)
              exact JX4_APPENDMISSING_43 q6_0 q6_1 q6_2 q6_3 x3_2 hF H locs ls hP hD hS (lv_sub hl [0, 1, 2, 3] rfl)
      exact L2 (0, O_size_1, O_rows_1, O_places_1, O_home_1) hc2 H locs ls hP hD hS (lv_sub hl [1, 2, 3, 0] rfl)
  exact L1 (0, O_size, O_rows, O_places, O_home) hc1 H locs ls hP hD hS (lv_sub hl [1, 2, 0] rfl)
abbrev rX4_empty : Room := { frames := 1, cells := 0, slots := 0, locals := 40 }
theorem eX4_empty_X4 : ∀ w ∈ u_ws RX4 TX4 5, w ∈ wsX4_empty := by decide +kernel
theorem uX4_empty : yX4_empty.cls = RX4 ∧ yX4_empty.cls ≠ "java/lang/invoke/MethodHandle" ∧ yX4_empty.cls ≠ "java/lang/invoke/VarHandle" ∧ (parseMethodDescriptor yX4_empty.desc).map (fun d => d.parameters.length) = some 1 := by decide +kernel
set_option maxHeartbeats 4000000 in
set_option maxRecDepth 100000 in
theorem tX4_empty (l : Launch) (dC : Nat → ClassId) (dI : Nat → Nat → Nat) (cI cZ : ClassId) (aO : Nat → Nat) (sz : Nat) (O_layers : Int32) (O_size : Nat → Int32) (O_places : Nat → Int32) (O_home : Nat → Int32) (p0 : Int32) (res : Int32 × (Nat → Int32) × (Nat → Int32) × (Nat → Int32)) (hF : fX4_empty p0 = some res) : q_Mv l yX4_empty wsX4_empty rX4_empty (dC, dI) (q_ty cI cZ) [.ref (aO 0), .int p0] (iX4_empty aO cI cZ O_layers O_size O_places O_home) (iX4_empty aO cI cZ res.1 res.2.1 res.2.2.1 res.2.2.2) sz := by
  refine q_metv (cc := cX4_empty) (maxL := 2) (by decide) rfl (Nat.le_of_ble_eq_true rfl) ?_
  intro p e s m args below meth c Q A H locs ls C hP hD hS hl hret
  obtain ⟨hx, hb, hml, hown, hts, hA, hK⟩ := C
  replace hl : lv_has ls 2 [(0, .ref (aO 0)), (1, .int p0)] := hl
  have k0 := hts (.methodLink RX4 63 Lib.Math.min.name) (by decide +kernel)
  have k1 := hts (.static Lib.Math.min.name) (by decide +kernel)
  have k2 := hts (.initialized "java/lang/Math") (by decide +kernel)
  have k3 := hts (.code Lib.Math.min.name Lib.Math.min.code 2 (some .int)) (by decide +kernel)
  have k4 := hts (.fieldLink RX4 38 "RouteLayout$Order" "layers" "I") (by decide +kernel)
  have k5 := hts (.fieldLink RX4 9 "RouteLayout$Order" "size" "[I") (by decide +kernel)
  have k6 := hts (.fieldLink RX4 18 "RouteLayout$Order" "places" "[I") (by decide +kernel)
  have k7 := hts (.fieldLink RX4 21 "RouteLayout$Order" "home" "[I") (by decide +kernel)
  unfold fX4_empty at hF
  refine lv_aload_n hx hb dX4_empty_0 rfl (lv_at hl 0 rfl) ?_
  refine lv_iload_n hx hb dX4_empty_1 rfl (lv_at hl 1 rfl) ?_
  refine lv_bipush (v := 24) hx hb dX4_empty_2 (by decide) ?_
  refine va_mmin hx hb (hml.trans hl.1.symm) hown k0 k1 k2 k3 (Nat.le_of_ble_eq_true rfl) (Nat.le_of_ble_eq_true rfl) (Nat.zero_le _) (Nat.zero_le _) dX4_empty_4 ?_
  refine q_put (ci := 4) (C := RX4) (T := TX4) (N := 5) (ty := .int) hx hb hts eX4_empty_X4 tyX4 tyX4_ok nmX4 hown hK hP hD hS 0 (iX4_empty aO cI cZ (if (24 : Int32) < p0 then (24 : Int32) else p0) O_size O_places O_home) rfl rfl 0 (Nat.le_of_ble_eq_true rfl) k4 rfl rfl (by decide +kernel) rfl rfl (Nat.le_of_ble_eq_true rfl) rfl dX4_empty_7 (fun H locs hP hD hS => ?_)
  refine lv_aload_n hx hb dX4_empty_10 rfl (lv_at hl 0 rfl) ?_
  refine q_get (ci := 4) (C := RX4) (T := TX4) (N := 5) hx hb hts eX4_empty_X4 hown hK hP 0 rfl rfl 1 (Nat.le_of_ble_eq_true rfl) k5 rfl rfl dX4_empty_11 ?_
  refine lv_iconst (v := 0) hx hb dX4_empty_14 (by decide) ?_
  refine q_Sv (As := [.ref (aO 1), .int 0]) (rest := []) ⟨hx, hb, hml, hown, hts⟩ hA hK hP hD hS (tJ7_fill_53178 l dC dI cI cZ (aO 1) 24 H.size O_size 0 (by decide)) (va_cwS 2 hts gX4_empty_J7_fill_53178 rfl rfl rfl uJ7_fill_53178 ⟨Nat.le_of_ble_eq_true rfl, Nat.le_of_ble_eq_true rfl⟩) [1] [(false, 0), (true, 0), (false, 2), (false, 3)] (iX4_empty aO cI cZ (if (24 : Int32) < p0 then (24 : Int32) else p0) (fun _ => 0) O_places O_home) rfl rfl rfl rfl rfl rfl hl.1 rfl (Nat.le_of_ble_eq_true rfl) dX4_empty_15 ⟨Nat.zero_le _, Nat.zero_le _⟩ (fun H locs hP hD hS => ?_)
  refine lv_aload_n hx hb dX4_empty_18 rfl (lv_at hl 0 rfl) ?_
  refine q_get (ci := 4) (C := RX4) (T := TX4) (N := 5) hx hb hts eX4_empty_X4 hown hK hP 0 rfl rfl 3 (Nat.le_of_ble_eq_true rfl) k6 rfl rfl dX4_empty_19 ?_
  refine lv_iconst (v := (-1)) hx hb dX4_empty_22 (by decide) ?_
  refine q_Sv (As := [.ref (aO 3), .int (-1)]) (rest := []) ⟨hx, hb, hml, hown, hts⟩ hA hK hP hD hS (tJ7_fill_53178 l dC dI cI cZ (aO 3) 960 H.size O_places (-1) (by decide)) (va_cwS 2 hts gX4_empty_J7_fill_53178 rfl rfl rfl uJ7_fill_53178 ⟨Nat.le_of_ble_eq_true rfl, Nat.le_of_ble_eq_true rfl⟩) [2] [(false, 0), (false, 1), (true, 0), (false, 3)] (iX4_empty aO cI cZ (if (24 : Int32) < p0 then (24 : Int32) else p0) (fun _ => 0) (fun _ => (-1)) O_home) rfl rfl rfl rfl rfl rfl hl.1 rfl (Nat.le_of_ble_eq_true rfl) dX4_empty_23 ⟨Nat.zero_le _, Nat.zero_le _⟩ (fun H locs hP hD hS => ?_)
  refine lv_aload_n hx hb dX4_empty_26 rfl (lv_at hl 0 rfl) ?_
  refine q_get (ci := 4) (C := RX4) (T := TX4) (N := 5) hx hb hts eX4_empty_X4 hown hK hP 0 rfl rfl 4 (Nat.le_of_ble_eq_true rfl) k7 rfl rfl dX4_empty_27 ?_
  refine lv_iconst (v := (-1)) hx hb dX4_empty_30 (by decide) ?_
  refine q_Sv (As := [.ref (aO 4), .int (-1)]) (rest := []) ⟨hx, hb, hml, hown, hts⟩ hA hK hP hD hS (tJ7_fill_53178 l dC dI cI cZ (aO 4) 16 H.size O_home (-1) (by decide)) (va_cwS 2 hts gX4_empty_J7_fill_53178 rfl rfl rfl uJ7_fill_53178 ⟨Nat.le_of_ble_eq_true rfl, Nat.le_of_ble_eq_true rfl⟩) [3] [(false, 0), (false, 1), (false, 2), (true, 0)] (iX4_empty aO cI cZ (if (24 : Int32) < p0 then (24 : Int32) else p0) (fun _ => 0) (fun _ => (-1)) (fun _ => (-1))) rfl rfl rfl rfl rfl rfl hl.1 rfl (Nat.le_of_ble_eq_true rfl) dX4_empty_31 ⟨Nat.zero_le _, Nat.zero_le _⟩ (fun H locs hP hD hS => ?_)
  exact hret H locs ls 34 _ dX4_empty_34 (congrArg (fun z : Int32 × (Nat → Int32) × (Nat → Int32) × (Nat → Int32) => (iX4_empty aO cI cZ z.1 z.2.1 z.2.2.1 z.2.2.2)) (Option.some.inj hF)) hP hD hS
abbrev rX4_homeOf : Room := { frames := 0, cells := 0, slots := 0, locals := 0 }
theorem eX4_homeOf_X4 : ∀ w ∈ u_ws RX4 TX4 5, w ∈ wsX4_homeOf := by decide +kernel
theorem uX4_homeOf : yX4_homeOf.cls = RX4 ∧ yX4_homeOf.cls ≠ "java/lang/invoke/MethodHandle" ∧ yX4_homeOf.cls ≠ "java/lang/invoke/VarHandle" ∧ (parseMethodDescriptor yX4_homeOf.desc).map (fun d => d.parameters.length) = some 1 := by decide +kernel
set_option maxHeartbeats 4000000 in
set_option maxRecDepth 100000 in
theorem tX4_homeOf (l : Launch) (dC : Nat → ClassId) (dI : Nat → Nat → Nat) (cI cZ : ClassId) (aO : Nat → Nat) (sz : Nat) (O_layers : Int32) (O_home : Nat → Int32) (p0 : Int32) (res : Int32) (hF : fX4_homeOf O_home p0 = some res) : q_Mi l yX4_homeOf wsX4_homeOf rX4_homeOf (dC, dI) (q_ty cI cZ) [.ref (aO 0), .int p0] (iX4_homeOf aO cI cZ O_layers O_home) (iX4_homeOf aO cI cZ O_layers O_home) sz res := by
  refine q_meti (cc := cX4_homeOf) (maxL := 2) (by decide) rfl (Nat.le_of_ble_eq_true rfl) ?_
  intro p e s m args below meth c Q A H locs ls C hP hD hS hl hret
  obtain ⟨hx, hb, hml, hown, hts, hA, hK⟩ := C
  replace hl : lv_has ls 2 [(0, .ref (aO 0)), (1, .int p0)] := hl
  have k0 := hts (.fieldLink RX4 21 "RouteLayout$Order" "home" "[I") (by decide +kernel)
  unfold fX4_homeOf at hF
  refine lv_iload_n hx hb dX4_homeOf_0 rfl (lv_at hl 1 rfl) ?_
  refine lv_if_lt (tgt := 19) hx hb dX4_homeOf_1 (by decide) (fun hc => ?_) (fun hc => ?_)
  · replace hF := q_t hc hF
    refine lv_iconst (v := (-1)) hx hb dX4_homeOf_19 (by decide) ?_
    exact hret H locs ls 20 _ _ dX4_homeOf_20 (Option.some.inj hF) rfl hP hD hS
  · replace hF := q_f hc hF
    refine lv_iload_n hx hb dX4_homeOf_4 rfl (lv_at hl 1 rfl) ?_
    refine lv_bipush (v := 16) hx hb dX4_homeOf_5 (by decide) ?_
    refine lv_icmp_ge (tgt := 19) hx hb dX4_homeOf_7 (by decide) (fun hc => ?_) (fun hc => ?_)
    · replace hF := q_t hc hF
      refine lv_iconst (v := (-1)) hx hb dX4_homeOf_19 (by decide) ?_
      exact hret H locs ls 20 _ _ dX4_homeOf_20 (Option.some.inj hF) rfl hP hD hS
    · replace hF := q_f hc hF
      refine lv_aload_n hx hb dX4_homeOf_10 rfl (lv_at hl 0 rfl) ?_
      refine q_get (ci := 4) (C := RX4) (T := TX4) (N := 5) hx hb hts eX4_homeOf_X4 hown hK hP 0 rfl rfl 4 (Nat.le_of_ble_eq_true rfl) k0 rfl rfl dX4_homeOf_11 ?_
      refine lv_iload_n hx hb dX4_homeOf_14 rfl (lv_at hl 1 rfl) ?_
      obtain ⟨hn1, hF⟩ := q_ck hF
      refine va_iald hx hb hK hP 1 0 rfl rfl hn1 dX4_homeOf_15 ?_
      refine lv_goto (tgt := 20) hx hb dX4_homeOf_16 (by decide) ?_
      exact hret H locs ls 20 _ _ dX4_homeOf_20 (Option.some.inj hF) rfl hP hD hS
abbrev rX4_holdsBox : Room := { frames := 1, cells := 0, slots := 0, locals := 21 }
theorem uX4_holdsBox : yX4_holdsBox.cls = RX4 ∧ yX4_holdsBox.cls ≠ "java/lang/invoke/MethodHandle" ∧ yX4_holdsBox.cls ≠ "java/lang/invoke/VarHandle" ∧ (parseMethodDescriptor yX4_holdsBox.desc).map (fun d => d.parameters.length) = some 1 := by decide +kernel
set_option maxHeartbeats 4000000 in
set_option maxRecDepth 100000 in
theorem tX4_holdsBox (l : Launch) (dC : Nat → ClassId) (dI : Nat → Nat → Nat) (cI cZ : ClassId) (aO : Nat → Nat) (sz : Nat) (O_layers : Int32) (O_home : Nat → Int32) (p0 : Int32) (res : Int32) (hF : fX4_holdsBox O_home p0 = some res) : q_Mi l yX4_holdsBox wsX4_holdsBox rX4_holdsBox (dC, dI) (q_ty cI cZ) [.ref (aO 0), .int p0] (iX4_holdsBox aO cI cZ O_layers O_home) (iX4_holdsBox aO cI cZ O_layers O_home) sz res := by
  refine q_metz (cc := cX4_holdsBox) (maxL := 2) (by decide) rfl (Nat.le_of_ble_eq_true rfl) ?_
  intro p e s m args below meth c Q A H locs ls C hP hD hS hl hret
  obtain ⟨hx, hb, hml, hown, hts, hA, hK⟩ := C
  replace hl : lv_has ls 2 [(0, .ref (aO 0)), (1, .int p0)] := hl
  unfold fX4_holdsBox at hF
  refine lv_aload_n hx hb dX4_holdsBox_0 rfl (lv_at hl 0 rfl) ?_
  refine lv_iload_n hx hb dX4_holdsBox_1 rfl (lv_at hl 1 rfl) ?_
  obtain ⟨q1, hcq1, hF⟩ := q_bd hF
  refine q_Vi (As := [.int p0]) (rest := []) ⟨hx, hb, hml, hown, hts⟩ hA hK hP hD hS (tX4_homeOf l dC dI cI cZ aO H.size O_layers O_home p0 q1 hcq1) (cwV 1 hts gX4_holdsBox_X4_homeOf rfl rfl rfl uX4_homeOf ⟨Nat.le_of_ble_eq_true rfl, Nat.le_of_ble_eq_true rfl⟩) [0, 1] [(true, 0), (true, 1)] (iX4_holdsBox aO cI cZ O_layers O_home) rfl rfl rfl rfl rfl 4 0 rfl rfl rfl rfl hl.1 rfl (Nat.le_of_ble_eq_true rfl) dX4_holdsBox_2 ⟨Nat.zero_le _, Nat.zero_le _⟩ (fun H locs hP hD hS => ?_)
  refine lv_iconst (v := (-1)) hx hb dX4_holdsBox_5 (by decide) ?_
  refine lv_icmp_eq (tgt := 13) hx hb dX4_holdsBox_6 (by decide) (fun hc => ?_) (fun hc => ?_)
  · replace hF := q_t hc hF
    refine lv_iconst (v := 0) hx hb dX4_holdsBox_13 (by decide) ?_
    exact hret H locs ls 14 _ _ dX4_holdsBox_14 (Or.inl rfl) (Option.some.inj hF) rfl hP hD hS
  · replace hF := q_f hc hF
    refine lv_iconst (v := 1) hx hb dX4_holdsBox_9 (by decide) ?_
    refine lv_goto (tgt := 14) hx hb dX4_holdsBox_10 (by decide) ?_
    exact hret H locs ls 14 _ _ dX4_holdsBox_14 (Or.inr rfl) (Option.some.inj hF) rfl hP hD hS
abbrev rX4_itemIn : Room := { frames := 1, cells := 0, slots := 0, locals := 21 }
theorem eX4_itemIn_X4 : ∀ w ∈ u_ws RX4 TX4 5, w ∈ wsX4_itemIn := by decide +kernel
theorem uX4_itemIn : yX4_itemIn.cls = RX4 ∧ yX4_itemIn.cls ≠ "java/lang/invoke/MethodHandle" ∧ yX4_itemIn.cls ≠ "java/lang/invoke/VarHandle" ∧ (parseMethodDescriptor yX4_itemIn.desc).map (fun d => d.parameters.length) = some 2 := by decide +kernel
set_option maxHeartbeats 4000000 in
set_option maxRecDepth 100000 in
theorem tX4_itemIn (l : Launch) (dC : Nat → ClassId) (dI : Nat → Nat → Nat) (cI cZ : ClassId) (aO : Nat → Nat) (sz : Nat) (O_layers : Int32) (O_size : Nat → Int32) (O_rows : Nat → Int32) (p0 : Int32) (p1 : Int32) (res : Int32) (hF : fX4_itemIn O_layers O_size O_rows p0 p1 = some res) : q_Mi l yX4_itemIn wsX4_itemIn rX4_itemIn (dC, dI) (q_ty cI cZ) [.ref (aO 0), .int p0, .int p1] (iX4_itemIn aO cI cZ O_layers O_size O_rows) (iX4_itemIn aO cI cZ O_layers O_size O_rows) sz res := by
  refine q_meti (cc := cX4_itemIn) (maxL := 4) (by decide) rfl (Nat.le_of_ble_eq_true rfl) ?_
  intro p e s m args below meth c Q A H locs ls C hP hD hS hl hret
  obtain ⟨hx, hb, hml, hown, hts, hA, hK⟩ := C
  replace hl : lv_has ls 4 [(0, .ref (aO 0)), (1, .int p0), (2, .int p1)] := hl
  have k0 := hts (.fieldLink RX4 15 "RouteLayout$Order" "rows" "[I") (by decide +kernel)
  unfold fX4_itemIn at hF
  have JX4_ITEMIN_18 : ∀ (x1_1 : Int32) (x2_1 : Int32) (s0_1 : Int32), jX4_itemIn_18 O_rows x1_1 x2_1 s0_1 = some res → ∀ (H : Heap) (locs : List Loc) (ls : Array Slot), va_P (dC, dI) vwCl (iX4_itemIn aO cI cZ O_layers O_size O_rows) H → va_D A (iX4_itemIn aO cI cZ O_layers O_size O_rows) → va_S A s.heap H locs → lv_has ls 4 [(0, .ref (aO 0)), (1, .int x1_1), (2, .int x2_1)] → W p l e (headSpec wsX4_itemIn (rX4_itemIn)).room s m args below meth c H locs 0 0 Q (F0 m 18 ls [.int s0_1]) := by
    intro x1_1 x2_1 s0_1 hF H locs ls hP hD hS hl
    unfold jX4_itemIn_18 at hF
    refine lv_istore_n (lv' := [(3, .int s0_1), (0, .ref (aO 0)), (1, .int x1_1), (2, .int x2_1)]) hx hb dX4_itemIn_18 rfl hl (by decide) rfl (fun ls hl => ?_)
    refine lv_iload_n hx hb dX4_itemIn_19 rfl (lv_at hl 0 rfl) ?_
    refine lv_if_eq (tgt := 37) hx hb dX4_itemIn_20 (by decide) (fun hc => ?_) (fun hc => ?_)
    · replace hF := q_t hc hF
      refine lv_iconst (v := (-1)) hx hb dX4_itemIn_37 (by decide) ?_
      exact hret H locs ls 38 _ _ dX4_itemIn_38 (Option.some.inj hF) rfl hP hD hS
    · replace hF := q_f hc hF
      refine lv_aload_n hx hb dX4_itemIn_23 rfl (lv_at hl 1 rfl) ?_
      refine q_get (ci := 4) (C := RX4) (T := TX4) (N := 5) hx hb hts eX4_itemIn_X4 hown hK hP 0 rfl rfl 2 (Nat.le_of_ble_eq_true rfl) k0 rfl rfl dX4_itemIn_24 ?_
      refine lv_iload_n hx hb dX4_itemIn_27 rfl (lv_at hl 2 rfl) ?_
      refine lv_bipush (v := 40) hx hb dX4_itemIn_28 (by decide) ?_
      refine lv_imul hx hb dX4_itemIn_30 ?_
      refine lv_iload_n hx hb dX4_itemIn_31 rfl (lv_at hl 3 rfl) ?_
      refine lv_iadd hx hb dX4_itemIn_32 ?_
      obtain ⟨hn2, hF⟩ := q_ck hF
      refine va_iald hx hb hK hP 2 0 rfl rfl hn2 dX4_itemIn_33 ?_
      refine lv_goto (tgt := 38) hx hb dX4_itemIn_34 (by decide) ?_
      exact hret H locs ls 38 _ _ dX4_itemIn_38 (Option.some.inj hF) rfl hP hD hS
  have JX4_ITEMIN_17 : ∀ (x1_3 : Int32) (x2_3 : Int32), jX4_itemIn_17 O_rows x1_3 x2_3 = some res → ∀ (H : Heap) (locs : List Loc) (ls : Array Slot), va_P (dC, dI) vwCl (iX4_itemIn aO cI cZ O_layers O_size O_rows) H → va_D A (iX4_itemIn aO cI cZ O_layers O_size O_rows) → va_S A s.heap H locs → lv_has ls 4 [(0, .ref (aO 0)), (1, .int x1_3), (2, .int x2_3)] → W p l e (headSpec wsX4_itemIn (rX4_itemIn)).room s m args below meth c H locs 0 0 Q (F0 m 17 ls []) := by
    intro x1_3 x2_3 hF H locs ls hP hD hS hl
    unfold jX4_itemIn_17 at hF
    refine lv_iconst (v := 0) hx hb dX4_itemIn_17 (by decide) ?_
    exact JX4_ITEMIN_18 x1_3 x2_3 0 hF H locs ls hP hD hS (lv_sub hl [0, 1, 2] rfl)
  refine lv_iload_n hx hb dX4_itemIn_0 rfl (lv_at hl 2 rfl) ?_
  refine lv_if_lt (tgt := 17) hx hb dX4_itemIn_1 (by decide) (fun hc => ?_) (fun hc => ?_)
  · replace hF := q_t hc hF
    exact JX4_ITEMIN_17 p0 p1 hF H locs ls hP hD hS (lv_sub hl [0, 1, 2] rfl)
  · replace hF := q_f hc hF
    refine lv_iload_n hx hb dX4_itemIn_4 rfl (lv_at hl 2 rfl) ?_
    refine lv_aload_n hx hb dX4_itemIn_5 rfl (lv_at hl 0 rfl) ?_
    refine lv_iload_n hx hb dX4_itemIn_6 rfl (lv_at hl 1 rfl) ?_
    obtain ⟨q4, hcq4, hF⟩ := q_bd hF
    refine q_Vi (As := [.int p0]) (rest := [.int p1]) ⟨hx, hb, hml, hown, hts⟩ hA hK hP hD hS (tX4_sizeOf l dC dI cI cZ aO H.size O_layers O_size p0 q4 hcq4) (cwV 1 hts gX4_itemIn_X4_sizeOf rfl rfl rfl uX4_sizeOf ⟨Nat.le_of_ble_eq_true rfl, Nat.le_of_ble_eq_true rfl⟩) [0, 1] [(true, 0), (true, 1), (false, 2)] (iX4_itemIn aO cI cZ O_layers O_size O_rows) rfl rfl rfl rfl rfl 4 0 rfl rfl rfl rfl hl.1 rfl (Nat.le_of_ble_eq_true rfl) dX4_itemIn_7 ⟨Nat.zero_le _, Nat.zero_le _⟩ (fun H locs hP hD hS => ?_)
    refine lv_icmp_ge (tgt := 17) hx hb dX4_itemIn_10 (by decide) (fun hc => ?_) (fun hc => ?_)
    · replace hF := q_t hc hF
      exact JX4_ITEMIN_17 p0 p1 hF H locs ls hP hD hS (lv_sub hl [0, 1, 2] rfl)
    · replace hF := q_f hc hF
      refine lv_iconst (v := 1) hx hb dX4_itemIn_13 (by decide) ?_
      refine lv_goto (tgt := 18) hx hb dX4_itemIn_14 (by decide) ?_
      exact JX4_ITEMIN_18 p0 p1 1 hF H locs ls hP hD hS (lv_sub hl [0, 1, 2] rfl)
abbrev rX4_items : Room := { frames := 1, cells := 0, slots := 0, locals := 21 }
theorem eX4_items_X4 : ∀ w ∈ u_ws RX4 TX4 5, w ∈ wsX4_items := by decide +kernel
theorem uX4_items : yX4_items.cls = RX4 ∧ yX4_items.cls ≠ "java/lang/invoke/MethodHandle" ∧ yX4_items.cls ≠ "java/lang/invoke/VarHandle" ∧ (parseMethodDescriptor yX4_items.desc).map (fun d => d.parameters.length) = some 0 := by decide +kernel
set_option maxHeartbeats 4000000 in
set_option maxRecDepth 100000 in
theorem tX4_items (l : Launch) (dC : Nat → ClassId) (dI : Nat → Nat → Nat) (cI cZ : ClassId) (aO : Nat → Nat) (sz : Nat) (O_layers : Int32) (O_size : Nat → Int32) (res : Int32) (hF : fX4_items O_layers O_size = some res) : q_Mi l yX4_items wsX4_items rX4_items (dC, dI) (q_ty cI cZ) [.ref (aO 0)] (iX4_items aO cI cZ O_layers O_size) (iX4_items aO cI cZ O_layers O_size) sz res := by
  refine q_meti (cc := cX4_items) (maxL := 3) (by decide) rfl (Nat.le_of_ble_eq_true rfl) ?_
  intro p e s m args below meth c Q A H locs ls C hP hD hS hl hret
  obtain ⟨hx, hb, hml, hown, hts, hA, hK⟩ := C
  replace hl : lv_has ls 3 [(0, .ref (aO 0))] := hl
  have k0 := hts (.fieldLink RX4 38 "RouteLayout$Order" "layers" "I") (by decide +kernel)
  unfold fX4_items at hF
  refine lv_iconst (v := 0) hx hb dX4_items_0 (by decide) ?_
  refine lv_istore_n (lv' := [(1, .int 0), (0, .ref (aO 0))]) hx hb dX4_items_1 rfl hl (by decide) rfl (fun ls hl => ?_)
  refine lv_iconst (v := 0) hx hb dX4_items_2 (by decide) ?_
  refine lv_istore_n (lv' := [(2, .int 0), (1, .int 0), (0, .ref (aO 0))]) hx hb dX4_items_3 rfl hl (by decide) rfl (fun ls hl => ?_)
  obtain ⟨q1, hc1, hF⟩ := q_bd hF
  have X1 : ∀ (u1 : Int32), u1 = q1 → ∀ (H : Heap) (locs : List Loc) (ls : Array Slot), va_P (dC, dI) vwCl (iX4_items aO cI cZ O_layers O_size) H → va_D A (iX4_items aO cI cZ O_layers O_size) → va_S A s.heap H locs → lv_has ls 3 [(1, .int u1)] → W p l e (headSpec wsX4_items (rX4_items)).room s m args below meth c H locs 0 0 Q (F0 m 26 ls []) := by
    intro u1 hu H locs ls hP hD hS hl
    subst hu
    refine lv_iload_n hx hb dX4_items_26 rfl (lv_at hl 0 rfl) ?_
    exact hret H locs ls 27 _ _ dX4_items_27 (Option.some.inj hF) rfl hP hD hS
  have L1 : ∀ st : Int32 × Int32, q_lo (fun (st : Int32 × Int32) => bX4_items_4 O_layers O_size st.1 st.2) st = some q1 → ∀ (H : Heap) (locs : List Loc) (ls : Array Slot), va_P (dC, dI) vwCl (iX4_items aO cI cZ O_layers O_size) H → va_D A (iX4_items aO cI cZ O_layers O_size) → va_S A s.heap H locs → lv_has ls 3 [(0, .ref (aO 0)), (1, .int st.1), (2, .int st.2)] → W p l e (headSpec wsX4_items (rX4_items)).room s m args below meth c H locs 0 0 Q (F0 m 4 ls []) := by
    intro st hst
    refine q_walk (Wh := fun st : Int32 × Int32 => ∀ (H : Heap) (locs : List Loc) (ls : Array Slot), va_P (dC, dI) vwCl (iX4_items aO cI cZ O_layers O_size) H → va_D A (iX4_items aO cI cZ O_layers O_size) → va_S A s.heap H locs → lv_has ls 3 [(0, .ref (aO 0)), (1, .int st.1), (2, .int st.2)] → W p l e (headSpec wsX4_items (rX4_items)).room s m args below meth c H locs 0 0 Q (F0 m 4 ls [])) ?_ st hst
    clear hst st hF
    intro st o hF hin hex H locs ls hP hD hS hl
    obtain ⟨x1_1, x2_1⟩ := st
    replace hF : bX4_items_4 O_layers O_size x1_1 x2_1 = some o := hF
    replace hP : va_P (dC, dI) vwCl (iX4_items aO cI cZ O_layers O_size) H := hP
    replace hD : va_D A (iX4_items aO cI cZ O_layers O_size) := hD
    replace hl : lv_has ls 3 [(0, .ref (aO 0)), (1, .int x1_1), (2, .int x2_1)] := hl
    unfold bX4_items_4 at hF
    refine lv_iload_n hx hb dX4_items_4 rfl (lv_at hl 2 rfl) ?_
    refine lv_aload_n hx hb dX4_items_5 rfl (lv_at hl 0 rfl) ?_
    refine q_get (ci := 4) (C := RX4) (T := TX4) (N := 5) hx hb hts eX4_items_X4 hown hK hP 0 rfl rfl 0 (Nat.le_of_ble_eq_true rfl) k0 rfl rfl dX4_items_6 ?_
    refine lv_icmp_ge (tgt := 26) hx hb dX4_items_9 (by decide) (fun hc => ?_) (fun hc => ?_)
    · replace hF := q_t hc hF
      exact X1 _ (hex _ (Option.some.inj hF).symm) H locs ls hP hD hS (lv_sub hl [1] rfl)
    · replace hF := q_f hc hF
      refine lv_iload_n hx hb dX4_items_12 rfl (lv_at hl 1 rfl) ?_
      refine lv_aload_n hx hb dX4_items_13 rfl (lv_at hl 0 rfl) ?_
      refine lv_iload_n hx hb dX4_items_14 rfl (lv_at hl 2 rfl) ?_
      obtain ⟨q2, hcq2, hF⟩ := q_bd hF
      refine q_Vi (As := [.int x2_1]) (rest := [.int x1_1]) ⟨hx, hb, hml, hown, hts⟩ hA hK hP hD hS (tX4_sizeOf l dC dI cI cZ aO H.size O_layers O_size x2_1 q2 hcq2) (cwV 1 hts gX4_items_X4_sizeOf rfl rfl rfl uX4_sizeOf ⟨Nat.le_of_ble_eq_true rfl, Nat.le_of_ble_eq_true rfl⟩) [0, 1] [(true, 0), (true, 1)] (iX4_items aO cI cZ O_layers O_size) rfl rfl rfl rfl rfl 4 0 rfl rfl rfl rfl hl.1 rfl (Nat.le_of_ble_eq_true rfl) dX4_items_15 ⟨Nat.zero_le _, Nat.zero_le _⟩ (fun H locs hP hD hS => ?_)
      refine lv_iadd hx hb dX4_items_18 ?_
      refine lv_istore_n (lv' := [(1, .int (x1_1 + q2)), (0, .ref (aO 0)), (2, .int x2_1)]) hx hb dX4_items_19 rfl hl (by decide) rfl (fun ls hl => ?_)
      refine lv_iinc (v := (x2_1 + 1)) (lv' := [(2, .int (x2_1 + 1)), (1, .int (x1_1 + q2)), (0, .ref (aO 0))]) hx hb dX4_items_20 hl (k := 2) rfl rfl (by decide) rfl (fun ls hl => ?_)
      refine lv_goto (tgt := 4) hx hb dX4_items_23 (by decide) ?_
      exact hin _ (Option.some.inj hF).symm H locs ls hP hD hS (lv_sub hl [2, 1, 0] rfl)
  exact L1 (0, 0) hc1 H locs ls hP hD hS (lv_sub hl [2, 1, 0] rfl)
abbrev rX4_layers : Room := { frames := 0, cells := 0, slots := 0, locals := 0 }
theorem eX4_layers_X4 : ∀ w ∈ u_ws RX4 TX4 5, w ∈ wsX4_layers := by decide +kernel
theorem uX4_layers : yX4_layers.cls = RX4 ∧ yX4_layers.cls ≠ "java/lang/invoke/MethodHandle" ∧ yX4_layers.cls ≠ "java/lang/invoke/VarHandle" ∧ (parseMethodDescriptor yX4_layers.desc).map (fun d => d.parameters.length) = some 0 := by decide +kernel
set_option maxHeartbeats 4000000 in
set_option maxRecDepth 100000 in
theorem tX4_layers (l : Launch) (dC : Nat → ClassId) (dI : Nat → Nat → Nat) (cI cZ : ClassId) (aO : Nat → Nat) (sz : Nat) (O_layers : Int32) (res : Int32) (hF : fX4_layers O_layers = some res) : q_Mi l yX4_layers wsX4_layers rX4_layers (dC, dI) (q_ty cI cZ) [.ref (aO 0)] (iX4_layers aO cI cZ O_layers) (iX4_layers aO cI cZ O_layers) sz res := by
  refine q_meti (cc := cX4_layers) (maxL := 1) (by decide) rfl (Nat.le_of_ble_eq_true rfl) ?_
  intro p e s m args below meth c Q A H locs ls C hP hD hS hl hret
  obtain ⟨hx, hb, hml, hown, hts, hA, hK⟩ := C
  replace hl : lv_has ls 1 [(0, .ref (aO 0))] := hl
  have k0 := hts (.fieldLink RX4 38 "RouteLayout$Order" "layers" "I") (by decide +kernel)
  unfold fX4_layers at hF
  refine lv_aload_n hx hb dX4_layers_0 rfl (lv_at hl 0 rfl) ?_
  refine q_get (ci := 4) (C := RX4) (T := TX4) (N := 5) hx hb hts eX4_layers_X4 hown hK hP 0 rfl rfl 0 (Nat.le_of_ble_eq_true rfl) k0 rfl rfl dX4_layers_1 ?_
  exact hret H locs ls 4 _ _ dX4_layers_4 (Option.some.inj hF) rfl hP hD hS
abbrev rX4_sameSpot : Room := { frames := 1, cells := 0, slots := 0, locals := 23 }
theorem uX4_sameSpot : yX4_sameSpot.cls = RX4 ∧ yX4_sameSpot.cls ≠ "java/lang/invoke/MethodHandle" ∧ yX4_sameSpot.cls ≠ "java/lang/invoke/VarHandle" ∧ (parseMethodDescriptor yX4_sameSpot.desc).map (fun d => d.parameters.length) = some 2 := by decide +kernel
set_option maxHeartbeats 4000000 in
set_option maxRecDepth 100000 in
theorem tX4_sameSpot (l : Launch) (dC : Nat → ClassId) (dI : Nat → Nat → Nat) (cI cZ : ClassId) (aO : Nat → Nat) (aN : Nat → Nat) (sz : Nat) (O_layers : Int32) (O_places : Nat → Int32) (O_home : Nat → Int32) (N_layers : Int32) (N_places : Nat → Int32) (N_home : Nat → Int32) (p1 : Int32) (res : Int32) (hF : fX4_sameSpot O_places O_home N_places N_home p1 = some res) : q_Mi l yX4_sameSpot wsX4_sameSpot rX4_sameSpot (dC, dI) (q_ty cI cZ) [.ref (aO 0), .ref (aN 0), .int p1] (iX4_sameSpot aO aN cI cZ O_layers O_places O_home N_layers N_places N_home) (iX4_sameSpot aO aN cI cZ O_layers O_places O_home N_layers N_places N_home) sz res := by
  refine q_metz (cc := cX4_sameSpot) (maxL := 4) (by decide) rfl (Nat.le_of_ble_eq_true rfl) ?_
  intro p e s m args below meth c Q A H locs ls C hP hD hS hl hret
  obtain ⟨hx, hb, hml, hown, hts, hA, hK⟩ := C
  replace hl : lv_has ls 4 [(0, .ref (aO 0)), (1, .ref (aN 0)), (2, .int p1)] := hl
  unfold fX4_sameSpot at hF
  refine lv_aload_n hx hb dX4_sameSpot_0 rfl (lv_at hl 0 rfl) ?_
  refine lv_iload_n hx hb dX4_sameSpot_1 rfl (lv_at hl 2 rfl) ?_
  obtain ⟨q1, hcq1, hF⟩ := q_bd hF
  refine q_Vi (As := [.int p1]) (rest := []) ⟨hx, hb, hml, hown, hts⟩ hA hK hP hD hS (tX4_homeOf l dC dI cI cZ aO H.size O_layers O_home p1 q1 hcq1) (cwV 1 hts gX4_sameSpot_X4_homeOf rfl rfl rfl uX4_homeOf ⟨Nat.le_of_ble_eq_true rfl, Nat.le_of_ble_eq_true rfl⟩) [0, 2] [(true, 0), (false, 1), (true, 1), (false, 3), (false, 4), (false, 5)] (iX4_sameSpot aO aN cI cZ O_layers O_places O_home N_layers N_places N_home) rfl rfl rfl rfl rfl 4 0 rfl rfl rfl rfl hl.1 rfl (Nat.le_of_ble_eq_true rfl) dX4_sameSpot_2 ⟨Nat.zero_le _, Nat.zero_le _⟩ (fun H locs hP hD hS => ?_)
  refine lv_istore_n (lv' := [(3, .int q1), (0, .ref (aO 0)), (1, .ref (aN 0)), (2, .int p1)]) hx hb dX4_sameSpot_5 rfl hl (by decide) rfl (fun ls hl => ?_)
  refine lv_iload_n hx hb dX4_sameSpot_6 rfl (lv_at hl 0 rfl) ?_
  refine lv_aload_n hx hb dX4_sameSpot_7 rfl (lv_at hl 2 rfl) ?_
  refine lv_iload_n hx hb dX4_sameSpot_8 rfl (lv_at hl 3 rfl) ?_
  obtain ⟨q2, hcq2, hF⟩ := q_bd hF
  refine q_Vi (As := [.int p1]) (rest := [.int q1]) ⟨hx, hb, hml, hown, hts⟩ hA hK hP hD hS (tX4_homeOf l dC dI cI cZ aN H.size N_layers N_home p1 q2 hcq2) (cwV 1 hts gX4_sameSpot_X4_homeOf rfl rfl rfl uX4_homeOf ⟨Nat.le_of_ble_eq_true rfl, Nat.le_of_ble_eq_true rfl⟩) [3, 5] [(false, 0), (false, 1), (false, 2), (true, 0), (false, 4), (true, 1)] (iX4_sameSpot aO aN cI cZ O_layers O_places O_home N_layers N_places N_home) rfl rfl rfl rfl rfl 4 0 rfl rfl rfl rfl hl.1 rfl (Nat.le_of_ble_eq_true rfl) dX4_sameSpot_9 ⟨Nat.zero_le _, Nat.zero_le _⟩ (fun H locs hP hD hS => ?_)
  refine lv_icmp_ne (tgt := 34) hx hb dX4_sameSpot_12 (by decide) (fun hc => ?_) (fun hc => ?_)
  · replace hF := q_f hc hF
    refine lv_iconst (v := 0) hx hb dX4_sameSpot_34 (by decide) ?_
    exact hret H locs ls 35 _ _ dX4_sameSpot_35 (Or.inl rfl) (Option.some.inj hF) rfl hP hD hS
  · replace hF := q_t hc hF
    refine lv_aload_n hx hb dX4_sameSpot_15 rfl (lv_at hl 1 rfl) ?_
    refine lv_iload_n hx hb dX4_sameSpot_16 rfl (lv_at hl 0 rfl) ?_
    refine lv_iload_n hx hb dX4_sameSpot_17 rfl (lv_at hl 3 rfl) ?_
    obtain ⟨q3, hcq3, hF⟩ := q_bd hF
    refine q_Vi (As := [.int q1, .int p1]) (rest := []) ⟨hx, hb, hml, hown, hts⟩ hA hK hP hD hS (tX4_placeIn l dC dI cI cZ aO H.size O_layers O_places q1 p1 q3 hcq3) (cwV 2 hts gX4_sameSpot_X4_placeIn rfl rfl rfl uX4_placeIn ⟨Nat.le_of_ble_eq_true rfl, Nat.le_of_ble_eq_true rfl⟩) [0, 1] [(true, 0), (true, 1), (false, 2), (false, 3), (false, 4), (false, 5)] (iX4_sameSpot aO aN cI cZ O_layers O_places O_home N_layers N_places N_home) rfl rfl rfl rfl rfl 4 0 rfl rfl rfl rfl hl.1 rfl (Nat.le_of_ble_eq_true rfl) dX4_sameSpot_18 ⟨Nat.zero_le _, Nat.zero_le _⟩ (fun H locs hP hD hS => ?_)
    refine lv_aload_n hx hb dX4_sameSpot_21 rfl (lv_at hl 2 rfl) ?_
    refine lv_iload_n hx hb dX4_sameSpot_22 rfl (lv_at hl 0 rfl) ?_
    refine lv_iload_n hx hb dX4_sameSpot_23 rfl (lv_at hl 3 rfl) ?_
    obtain ⟨q4, hcq4, hF⟩ := q_bd hF
    refine q_Vi (As := [.int q1, .int p1]) (rest := [.int q3]) ⟨hx, hb, hml, hown, hts⟩ hA hK hP hD hS (tX4_placeIn l dC dI cI cZ aN H.size N_layers N_places q1 p1 q4 hcq4) (cwV 2 hts gX4_sameSpot_X4_placeIn rfl rfl rfl uX4_placeIn ⟨Nat.le_of_ble_eq_true rfl, Nat.le_of_ble_eq_true rfl⟩) [3, 4] [(false, 0), (false, 1), (false, 2), (true, 0), (true, 1), (false, 5)] (iX4_sameSpot aO aN cI cZ O_layers O_places O_home N_layers N_places N_home) rfl rfl rfl rfl rfl 4 0 rfl rfl rfl rfl hl.1 rfl (Nat.le_of_ble_eq_true rfl) dX4_sameSpot_24 ⟨Nat.zero_le _, Nat.zero_le _⟩ (fun H locs hP hD hS => ?_)
    refine lv_icmp_ne (tgt := 34) hx hb dX4_sameSpot_27 (by decide) (fun hc => ?_) (fun hc => ?_)
    · replace hF := q_f hc hF
      refine lv_iconst (v := 0) hx hb dX4_sameSpot_34 (by decide) ?_
      exact hret H locs ls 35 _ _ dX4_sameSpot_35 (Or.inl rfl) (Option.some.inj hF) rfl hP hD hS
    · replace hF := q_t hc hF
      refine lv_iconst (v := 1) hx hb dX4_sameSpot_30 (by decide) ?_
      refine lv_goto (tgt := 35) hx hb dX4_sameSpot_31 (by decide) ?_
      exact hret H locs ls 35 _ _ dX4_sameSpot_35 (Or.inr rfl) (Option.some.inj hF) rfl hP hD hS
abbrev rX4_startFirst : Room := { frames := 4, cells := 0, slots := 0, locals := 89 }
theorem uX4_startFirst : yX4_startFirst.cls = RX4 ∧ yX4_startFirst.cls ≠ "java/lang/invoke/MethodHandle" ∧ yX4_startFirst.cls ≠ "java/lang/invoke/VarHandle" ∧ (parseMethodDescriptor yX4_startFirst.desc).map (fun d => d.parameters.length) = some 1 := by decide +kernel
set_option maxHeartbeats 4000000 in
set_option maxRecDepth 100000 in
theorem tX4_startFirst (l : Launch) (dC : Nat → ClassId) (dI : Nat → Nat → Nat) (cI cZ : ClassId) (aS : Nat → Nat) (aO : Nat → Nat) (sz : Nat) (R_width : Nat → Int32) (L_layer : Nat → Int32) (L_tops : Nat → Int32) (L_bottoms : Nat → Int32) (L_layers : Int32) (O_layers : Int32) (O_size : Nat → Int32) (O_rows : Nat → Int32) (O_places : Nat → Int32) (O_home : Nat → Int32) (res : Int32 × (Nat → Int32) × (Nat → Int32) × (Nat → Int32) × (Nat → Int32)) (hF : fX4_startFirst R_width L_layer L_tops L_bottoms L_layers O_rows = some res) : q_Mv l yX4_startFirst wsX4_startFirst rX4_startFirst (dC, dI) (q_ty cI cZ) [.ref (aO 0), .ref (aS 7)] (iX4_startFirst aS aO cI cZ R_width L_layer L_tops L_bottoms L_layers O_layers O_size O_rows O_places O_home) (iX4_startFirst aS aO cI cZ R_width L_layer L_tops L_bottoms L_layers res.1 res.2.1 res.2.2.1 res.2.2.2.1 res.2.2.2.2) sz := by
  refine q_metv (cc := cX4_startFirst) (maxL := 2) (by decide) rfl (Nat.le_of_ble_eq_true rfl) ?_
  intro p e s m args below meth c Q A H locs ls C hP hD hS hl hret
  obtain ⟨hx, hb, hml, hown, hts, hA, hK⟩ := C
  replace hl : lv_has ls 2 [(0, .ref (aO 0)), (1, .ref (aS 7))] := hl
  unfold fX4_startFirst at hF
  refine lv_aload_n hx hb dX4_startFirst_0 rfl (lv_at hl 0 rfl) ?_
  refine lv_aload_n hx hb dX4_startFirst_1 rfl (lv_at hl 1 rfl) ?_
  obtain ⟨q1, hcq1, hF⟩ := q_bd hF
  refine q_Vi (As := []) (rest := [.ref (aO 0)]) ⟨hx, hb, hml, hown, hts⟩ hA hK hP hD hS (tX3_layers l dC dI cI cZ aS H.size L_layers q1 hcq1) (cwV 0 hts gX4_startFirst_X3_layers rfl rfl rfl uX3_layers ⟨Nat.le_of_ble_eq_true rfl, Nat.le_of_ble_eq_true rfl⟩) [3] [(false, 0), (false, 1), (false, 2), (true, 0), (false, 4), (false, 5), (false, 6), (false, 7), (false, 8), (false, 9), (false, 10)] (iX4_startFirst aS aO cI cZ R_width L_layer L_tops L_bottoms L_layers O_layers O_size O_rows O_places O_home) rfl rfl rfl rfl rfl 3 0 rfl rfl rfl rfl hl.1 rfl (Nat.le_of_ble_eq_true rfl) dX4_startFirst_2 ⟨Nat.zero_le _, Nat.zero_le _⟩ (fun H locs hP hD hS => ?_)
  obtain ⟨q2_0, q2_1, q2_2, q2_3, hcq2, hF⟩ := q_bd4 hF
  refine q_Vv (As := [.int q1]) (rest := []) ⟨hx, hb, hml, hown, hts⟩ hA hK hP hD hS (tX4_empty l dC dI cI cZ aO H.size O_layers O_size O_places O_home q1 (q2_0, q2_1, q2_2, q2_3) hcq2) (cwV 1 hts gX4_startFirst_X4_empty rfl rfl rfl uX4_empty ⟨Nat.le_of_ble_eq_true rfl, Nat.le_of_ble_eq_true rfl⟩) [0, 7, 9, 10] [(true, 0), (false, 1), (false, 2), (false, 3), (false, 4), (false, 5), (false, 6), (true, 1), (false, 8), (true, 2), (true, 3)] (iX4_startFirst aS aO cI cZ R_width L_layer L_tops L_bottoms L_layers q2_0 q2_1 O_rows q2_2 q2_3) rfl rfl rfl rfl rfl 4 0 rfl rfl rfl rfl hl.1 rfl (Nat.le_of_ble_eq_true rfl) dX4_startFirst_5 ⟨Nat.zero_le _, Nat.zero_le _⟩ (fun H locs hP hD hS => ?_)
  refine lv_aload_n hx hb dX4_startFirst_8 rfl (lv_at hl 0 rfl) ?_
  refine lv_aload_n hx hb dX4_startFirst_9 rfl (lv_at hl 1 rfl) ?_
  obtain ⟨q3_0, q3_1, q3_2, q3_3, hcq3, hF⟩ := q_bd4 hF
  refine q_Vv (As := [.ref (aS 7)]) (rest := []) ⟨hx, hb, hml, hown, hts⟩ hA hK hP hD hS (tX4_appendMissing l dC dI cI cZ aS aO H.size R_width L_layer L_tops L_bottoms L_layers q2_0 q2_1 O_rows q2_2 q2_3 (q3_0, q3_1, q3_2, q3_3) hcq3) (cwV 1 hts gX4_startFirst_X4_appendMissing rfl rfl rfl uX4_appendMissing ⟨Nat.le_of_ble_eq_true rfl, Nat.le_of_ble_eq_true rfl⟩) [0, 1, 2, 3, 4, 5, 6, 7, 8, 9, 10] [(true, 0), (true, 1), (true, 2), (true, 3), (true, 4), (true, 5), (true, 6), (true, 7), (true, 8), (true, 9), (true, 10)] (iX4_startFirst aS aO cI cZ R_width L_layer L_tops L_bottoms L_layers q2_0 q3_0 q3_1 q3_2 q3_3) rfl rfl rfl rfl rfl 4 0 rfl rfl rfl rfl hl.1 rfl (Nat.le_of_ble_eq_true rfl) dX4_startFirst_10 ⟨Nat.zero_le _, Nat.zero_le _⟩ (fun H locs hP hD hS => ?_)
  exact hret H locs ls 13 _ dX4_startFirst_13 (congrArg (fun z : Int32 × (Nat → Int32) × (Nat → Int32) × (Nat → Int32) × (Nat → Int32) => (iX4_startFirst aS aO cI cZ R_width L_layer L_tops L_bottoms L_layers z.1 z.2.1 z.2.2.1 z.2.2.2.1 z.2.2.2.2)) (Option.some.inj hF)) hP hD hS
abbrev rX4_startLike : Room := { frames := 4, cells := 0, slots := 0, locals := 89 }
theorem eX4_startLike_X4 : ∀ w ∈ u_ws RX4 TX4 5, w ∈ wsX4_startLike := by decide +kernel
theorem uX4_startLike : yX4_startLike.cls = RX4 ∧ yX4_startLike.cls ≠ "java/lang/invoke/MethodHandle" ∧ yX4_startLike.cls ≠ "java/lang/invoke/VarHandle" ∧ (parseMethodDescriptor yX4_startLike.desc).map (fun d => d.parameters.length) = some 2 := by decide +kernel
set_option maxHeartbeats 4000000 in
set_option maxRecDepth 100000 in
theorem tX4_startLike (l : Launch) (dC : Nat → ClassId) (dI : Nat → Nat → Nat) (cI cZ : ClassId) (aS : Nat → Nat) (aO : Nat → Nat) (aN : Nat → Nat) (sz : Nat) (R_width : Nat → Int32) (L_layer : Nat → Int32) (L_tops : Nat → Int32) (L_bottoms : Nat → Int32) (L_layers : Int32) (O_layers : Int32) (O_size : Nat → Int32) (O_rows : Nat → Int32) (O_places : Nat → Int32) (O_home : Nat → Int32) (N_layers : Int32) (N_size : Nat → Int32) (N_rows : Nat → Int32) (res : Int32 × (Nat → Int32) × (Nat → Int32) × (Nat → Int32) × (Nat → Int32)) (hF : fX4_startLike R_width L_layer L_tops L_bottoms L_layers O_rows N_layers N_size N_rows = some res) : q_Mv l yX4_startLike wsX4_startLike rX4_startLike (dC, dI) (q_ty cI cZ) [.ref (aO 0), .ref (aN 0), .ref (aS 7)] (iX4_startLike aS aO aN cI cZ R_width L_layer L_tops L_bottoms L_layers O_layers O_size O_rows O_places O_home N_layers N_size N_rows) (iX4_startLike aS aO aN cI cZ R_width L_layer L_tops L_bottoms L_layers res.1 res.2.1 res.2.2.1 res.2.2.2.1 res.2.2.2.2 N_layers N_size N_rows) sz := by
  refine q_metv (cc := cX4_startLike) (maxL := 6) (by decide) rfl (Nat.le_of_ble_eq_true rfl) ?_
  intro p e s m args below meth c Q A H locs ls C hP hD hS hl hret
  obtain ⟨hx, hb, hml, hown, hts, hA, hK⟩ := C
  replace hl : lv_has ls 6 [(0, .ref (aO 0)), (1, .ref (aN 0)), (2, .ref (aS 7))] := hl
  have k0 := hts (.fieldLink RX4 38 "RouteLayout$Order" "layers" "I") (by decide +kernel)
  unfold fX4_startLike at hF
  refine lv_aload_n hx hb dX4_startLike_0 rfl (lv_at hl 0 rfl) ?_
  refine lv_aload_n hx hb dX4_startLike_1 rfl (lv_at hl 2 rfl) ?_
  obtain ⟨q1, hcq1, hF⟩ := q_bd hF
  refine q_Vi (As := []) (rest := [.ref (aO 0)]) ⟨hx, hb, hml, hown, hts⟩ hA hK hP hD hS (tX3_layers l dC dI cI cZ aS H.size L_layers q1 hcq1) (cwV 0 hts gX4_startLike_X3_layers rfl rfl rfl uX3_layers ⟨Nat.le_of_ble_eq_true rfl, Nat.le_of_ble_eq_true rfl⟩) [3] [(false, 0), (false, 1), (false, 2), (true, 0), (false, 4), (false, 5), (false, 6), (false, 7), (false, 8), (false, 9), (false, 10), (false, 11), (false, 12), (false, 13)] (iX4_startLike aS aO aN cI cZ R_width L_layer L_tops L_bottoms L_layers O_layers O_size O_rows O_places O_home N_layers N_size N_rows) rfl rfl rfl rfl rfl 3 0 rfl rfl rfl rfl hl.1 rfl (Nat.le_of_ble_eq_true rfl) dX4_startLike_2 ⟨Nat.zero_le _, Nat.zero_le _⟩ (fun H locs hP hD hS => ?_)
  obtain ⟨q2_0, q2_1, q2_2, q2_3, hcq2, hF⟩ := q_bd4 hF
  refine q_Vv (As := [.int q1]) (rest := []) ⟨hx, hb, hml, hown, hts⟩ hA hK hP hD hS (tX4_empty l dC dI cI cZ aO H.size O_layers O_size O_places O_home q1 (q2_0, q2_1, q2_2, q2_3) hcq2) (cwV 1 hts gX4_startLike_X4_empty rfl rfl rfl uX4_empty ⟨Nat.le_of_ble_eq_true rfl, Nat.le_of_ble_eq_true rfl⟩) [0, 7, 9, 10] [(true, 0), (false, 1), (false, 2), (false, 3), (false, 4), (false, 5), (false, 6), (true, 1), (false, 8), (true, 2), (true, 3), (false, 11), (false, 12), (false, 13)] (iX4_startLike aS aO aN cI cZ R_width L_layer L_tops L_bottoms L_layers q2_0 q2_1 O_rows q2_2 q2_3 N_layers N_size N_rows) rfl rfl rfl rfl rfl 4 0 rfl rfl rfl rfl hl.1 rfl (Nat.le_of_ble_eq_true rfl) dX4_startLike_5 ⟨Nat.zero_le _, Nat.zero_le _⟩ (fun H locs hP hD hS => ?_)
  refine lv_iconst (v := 0) hx hb dX4_startLike_8 (by decide) ?_
  refine lv_istore_n (lv' := [(3, .int 0), (0, .ref (aO 0)), (1, .ref (aN 0)), (2, .ref (aS 7))]) hx hb dX4_startLike_9 rfl hl (by decide) rfl (fun ls hl => ?_)
  obtain ⟨q3_0, q3_1, q3_2, q3_3, hc3, hF⟩ := q_bd4 hF
  have X3 : ∀ (u3_0 : Nat → Int32) (u3_1 : Nat → Int32) (u3_2 : Nat → Int32) (u3_3 : Nat → Int32), (u3_0, u3_1, u3_2, u3_3) = (q3_0, q3_1, q3_2, q3_3) → ∀ (H : Heap) (locs : List Loc) (ls : Array Slot), va_P (dC, dI) vwCl (iX4_startLike aS aO aN cI cZ R_width L_layer L_tops L_bottoms L_layers q2_0 u3_0 u3_1 u3_2 u3_3 N_layers N_size N_rows) H → va_D A (iX4_startLike aS aO aN cI cZ R_width L_layer L_tops L_bottoms L_layers q2_0 u3_0 u3_1 u3_2 u3_3 N_layers N_size N_rows) → va_S A s.heap H locs → lv_has ls 6 [(0, .ref (aO 0)), (2, .ref (aS 7))] → W p l e (headSpec wsX4_startLike (rX4_startLike)).room s m args below meth c H locs 0 0 Q (F0 m 69 ls []) := by
    intro u3_0 u3_1 u3_2 u3_3 hu H locs ls hP hD hS hl
    obtain ⟨e0, e1, e2, e3⟩ := q_inj4 hu
    subst e0 e1 e2 e3
    refine lv_aload_n hx hb dX4_startLike_69 rfl (lv_at hl 0 rfl) ?_
    refine lv_aload_n hx hb dX4_startLike_70 rfl (lv_at hl 1 rfl) ?_
    obtain ⟨q10_0, q10_1, q10_2, q10_3, hcq10, hF⟩ := q_bd4 hF
    refine q_Vv (As := [.ref (aS 7)]) (rest := []) ⟨hx, hb, hml, hown, hts⟩ hA hK hP hD hS (tX4_appendMissing l dC dI cI cZ aS aO H.size R_width L_layer L_tops L_bottoms L_layers q2_0 u3_0 u3_1 u3_2 u3_3 (q10_0, q10_1, q10_2, q10_3) hcq10) (cwV 1 hts gX4_startLike_X4_appendMissing rfl rfl rfl uX4_appendMissing ⟨Nat.le_of_ble_eq_true rfl, Nat.le_of_ble_eq_true rfl⟩) [0, 1, 2, 3, 4, 5, 6, 7, 8, 9, 10] [(true, 0), (true, 1), (true, 2), (true, 3), (true, 4), (true, 5), (true, 6), (true, 7), (true, 8), (true, 9), (true, 10), (false, 11), (false, 12), (false, 13)] (iX4_startLike aS aO aN cI cZ R_width L_layer L_tops L_bottoms L_layers q2_0 q10_0 q10_1 q10_2 q10_3 N_layers N_size N_rows) rfl rfl rfl rfl rfl 4 0 rfl rfl rfl rfl hl.1 rfl (Nat.le_of_ble_eq_true rfl) dX4_startLike_71 ⟨Nat.zero_le _, Nat.zero_le _⟩ (fun H locs hP hD hS => ?_)
    exact hret H locs ls 74 _ dX4_startLike_74 (congrArg (fun z : Int32 × (Nat → Int32) × (Nat → Int32) × (Nat → Int32) × (Nat → Int32) => (iX4_startLike aS aO aN cI cZ R_width L_layer L_tops L_bottoms L_layers z.1 z.2.1 z.2.2.1 z.2.2.2.1 z.2.2.2.2 N_layers N_size N_rows)) (Option.some.inj hF)) hP hD hS
  have L3 : ∀ st : Int32 × (Nat → Int32) × (Nat → Int32) × (Nat → Int32) × (Nat → Int32), q_lo (fun (st : Int32 × (Nat → Int32) × (Nat → Int32) × (Nat → Int32) × (Nat → Int32)) => bX4_startLike_10 R_width L_layer L_tops L_bottoms q2_0 N_layers N_size N_rows st.1 st.2.1 st.2.2.1 st.2.2.2.1 st.2.2.2.2) st = some (q3_0, q3_1, q3_2, q3_3) → ∀ (H : Heap) (locs : List Loc) (ls : Array Slot), va_P (dC, dI) vwCl (iX4_startLike aS aO aN cI cZ R_width L_layer L_tops L_bottoms L_layers q2_0 st.2.1 st.2.2.1 st.2.2.2.1 st.2.2.2.2 N_layers N_size N_rows) H → va_D A (iX4_startLike aS aO aN cI cZ R_width L_layer L_tops L_bottoms L_layers q2_0 st.2.1 st.2.2.1 st.2.2.2.1 st.2.2.2.2 N_layers N_size N_rows) → va_S A s.heap H locs → lv_has ls 6 [(0, .ref (aO 0)), (1, .ref (aN 0)), (2, .ref (aS 7)), (3, .int st.1)] → W p l e (headSpec wsX4_startLike (rX4_startLike)).room s m args below meth c H locs 0 0 Q (F0 m 10 ls []) := by
    intro st hst
    refine q_walk (Wh := fun st : Int32 × (Nat → Int32) × (Nat → Int32) × (Nat → Int32) × (Nat → Int32) => ∀ (H : Heap) (locs : List Loc) (ls : Array Slot), va_P (dC, dI) vwCl (iX4_startLike aS aO aN cI cZ R_width L_layer L_tops L_bottoms L_layers q2_0 st.2.1 st.2.2.1 st.2.2.2.1 st.2.2.2.2 N_layers N_size N_rows) H → va_D A (iX4_startLike aS aO aN cI cZ R_width L_layer L_tops L_bottoms L_layers q2_0 st.2.1 st.2.2.1 st.2.2.2.1 st.2.2.2.2 N_layers N_size N_rows) → va_S A s.heap H locs → lv_has ls 6 [(0, .ref (aO 0)), (1, .ref (aN 0)), (2, .ref (aS 7)), (3, .int st.1)] → W p l e (headSpec wsX4_startLike (rX4_startLike)).room s m args below meth c H locs 0 0 Q (F0 m 10 ls [])) ?_ st hst
    clear hst st hF
    intro st o hF hin hex H locs ls hP hD hS hl
    obtain ⟨x3_3, O_size_3, O_rows_3, O_places_3, O_home_3⟩ := st
    replace hF : bX4_startLike_10 R_width L_layer L_tops L_bottoms q2_0 N_layers N_size N_rows x3_3 O_size_3 O_rows_3 O_places_3 O_home_3 = some o := hF
    replace hP : va_P (dC, dI) vwCl (iX4_startLike aS aO aN cI cZ R_width L_layer L_tops L_bottoms L_layers q2_0 O_size_3 O_rows_3 O_places_3 O_home_3 N_layers N_size N_rows) H := hP
    replace hD : va_D A (iX4_startLike aS aO aN cI cZ R_width L_layer L_tops L_bottoms L_layers q2_0 O_size_3 O_rows_3 O_places_3 O_home_3 N_layers N_size N_rows) := hD
    replace hl : lv_has ls 6 [(0, .ref (aO 0)), (1, .ref (aN 0)), (2, .ref (aS 7)), (3, .int x3_3)] := hl
    unfold bX4_startLike_10 at hF
    refine lv_iload_n hx hb dX4_startLike_10 rfl (lv_at hl 3 rfl) ?_
    refine lv_aload_n hx hb dX4_startLike_11 rfl (lv_at hl 0 rfl) ?_
    refine q_get (ci := 4) (C := RX4) (T := TX4) (N := 5) hx hb hts eX4_startLike_X4 hown hK hP 0 rfl rfl 0 (Nat.le_of_ble_eq_true rfl) k0 rfl rfl dX4_startLike_12 ?_
    refine lv_icmp_ge (tgt := 69) hx hb dX4_startLike_15 (by decide) (fun hc => ?_) (fun hc => ?_)
    · replace hF := q_t hc hF
      exact X3 _ _ _ _ (hex _ (Option.some.inj hF).symm) H locs ls hP hD hS (lv_sub hl [0, 2] rfl)
    · replace hF := q_f hc hF
      refine lv_iconst (v := 0) hx hb dX4_startLike_18 (by decide) ?_
      refine lv_istore (lv' := [(4, .int 0), (0, .ref (aO 0)), (1, .ref (aN 0)), (2, .ref (aS 7)), (3, .int x3_3)]) hx hb dX4_startLike_19 hl (by decide) rfl (fun ls hl => ?_)
      obtain ⟨q4_0, q4_1, q4_2, q4_3, hc4, hF⟩ := q_bd4 hF
      have X4 : ∀ (u4_0 : Nat → Int32) (u4_1 : Nat → Int32) (u4_2 : Nat → Int32) (u4_3 : Nat → Int32), (u4_0, u4_1, u4_2, u4_3) = (q4_0, q4_1, q4_2, q4_3) → ∀ (H : Heap) (locs : List Loc) (ls : Array Slot), va_P (dC, dI) vwCl (iX4_startLike aS aO aN cI cZ R_width L_layer L_tops L_bottoms L_layers q2_0 u4_0 u4_1 u4_2 u4_3 N_layers N_size N_rows) H → va_D A (iX4_startLike aS aO aN cI cZ R_width L_layer L_tops L_bottoms L_layers q2_0 u4_0 u4_1 u4_2 u4_3 N_layers N_size N_rows) → va_S A s.heap H locs → lv_has ls 6 [(0, .ref (aO 0)), (1, .ref (aN 0)), (2, .ref (aS 7)), (3, .int x3_3)] → W p l e (headSpec wsX4_startLike (rX4_startLike)).room s m args below meth c H locs 0 0 Q (F0 m 63 ls []) := by
        intro u4_0 u4_1 u4_2 u4_3 hu H locs ls hP hD hS hl
        obtain ⟨e0, e1, e2, e3⟩ := q_inj4 hu
        subst e0 e1 e2 e3
        refine lv_iinc (v := (x3_3 + 1)) (lv' := [(3, .int (x3_3 + 1)), (0, .ref (aO 0)), (1, .ref (aN 0)), (2, .ref (aS 7))]) hx hb dX4_startLike_63 hl (k := 3) rfl rfl (by decide) rfl (fun ls hl => ?_)
        refine lv_goto (tgt := 10) hx hb dX4_startLike_66 (by decide) ?_
        exact hin _ (Option.some.inj hF).symm H locs ls hP hD hS (lv_sub hl [1, 2, 3, 0] rfl)
      have L4 : ∀ st : Int32 × (Nat → Int32) × (Nat → Int32) × (Nat → Int32) × (Nat → Int32), q_lo (fun (st : Int32 × (Nat → Int32) × (Nat → Int32) × (Nat → Int32) × (Nat → Int32)) => bX4_startLike_21 R_width L_layer L_tops L_bottoms q2_0 N_layers N_size N_rows x3_3 st.1 st.2.1 st.2.2.1 st.2.2.2.1 st.2.2.2.2) st = some (q4_0, q4_1, q4_2, q4_3) → ∀ (H : Heap) (locs : List Loc) (ls : Array Slot), va_P (dC, dI) vwCl (iX4_startLike aS aO aN cI cZ R_width L_layer L_tops L_bottoms L_layers q2_0 st.2.1 st.2.2.1 st.2.2.2.1 st.2.2.2.2 N_layers N_size N_rows) H → va_D A (iX4_startLike aS aO aN cI cZ R_width L_layer L_tops L_bottoms L_layers q2_0 st.2.1 st.2.2.1 st.2.2.2.1 st.2.2.2.2 N_layers N_size N_rows) → va_S A s.heap H locs → lv_has ls 6 [(0, .ref (aO 0)), (1, .ref (aN 0)), (2, .ref (aS 7)), (3, .int x3_3), (4, .int st.1)] → W p l e (headSpec wsX4_startLike (rX4_startLike)).room s m args below meth c H locs 0 0 Q (F0 m 21 ls []) := by
        intro st hst
        refine q_walk (Wh := fun st : Int32 × (Nat → Int32) × (Nat → Int32) × (Nat → Int32) × (Nat → Int32) => ∀ (H : Heap) (locs : List Loc) (ls : Array Slot), va_P (dC, dI) vwCl (iX4_startLike aS aO aN cI cZ R_width L_layer L_tops L_bottoms L_layers q2_0 st.2.1 st.2.2.1 st.2.2.2.1 st.2.2.2.2 N_layers N_size N_rows) H → va_D A (iX4_startLike aS aO aN cI cZ R_width L_layer L_tops L_bottoms L_layers q2_0 st.2.1 st.2.2.1 st.2.2.2.1 st.2.2.2.2 N_layers N_size N_rows) → va_S A s.heap H locs → lv_has ls 6 [(0, .ref (aO 0)), (1, .ref (aN 0)), (2, .ref (aS 7)), (3, .int x3_3), (4, .int st.1)] → W p l e (headSpec wsX4_startLike (rX4_startLike)).room s m args below meth c H locs 0 0 Q (F0 m 21 ls [])) ?_ st hst
        clear hst st hF
        intro st o hF hin hex H locs ls hP hD hS hl
        obtain ⟨x4_4, O_size_4, O_rows_4, O_places_4, O_home_4⟩ := st
        replace hF : bX4_startLike_21 R_width L_layer L_tops L_bottoms q2_0 N_layers N_size N_rows x3_3 x4_4 O_size_4 O_rows_4 O_places_4 O_home_4 = some o := hF
        replace hP : va_P (dC, dI) vwCl (iX4_startLike aS aO aN cI cZ R_width L_layer L_tops L_bottoms L_layers q2_0 O_size_4 O_rows_4 O_places_4 O_home_4 N_layers N_size N_rows) H := hP
        replace hD : va_D A (iX4_startLike aS aO aN cI cZ R_width L_layer L_tops L_bottoms L_layers q2_0 O_size_4 O_rows_4 O_places_4 O_home_4 N_layers N_size N_rows) := hD
        replace hl : lv_has ls 6 [(0, .ref (aO 0)), (1, .ref (aN 0)), (2, .ref (aS 7)), (3, .int x3_3), (4, .int x4_4)] := hl
        unfold bX4_startLike_21 at hF
        have JX4_STARTLIKE_57 : ∀ (O_size_5 : Nat → Int32) (O_rows_5 : Nat → Int32) (O_places_5 : Nat → Int32) (O_home_5 : Nat → Int32) (x4_5 : Int32), jX4_startLike_57 O_size_5 O_rows_5 O_places_5 O_home_5 x3_3 x4_5 = some o → ∀ (H : Heap) (locs : List Loc) (ls : Array Slot), va_P (dC, dI) vwCl (iX4_startLike aS aO aN cI cZ R_width L_layer L_tops L_bottoms L_layers q2_0 O_size_5 O_rows_5 O_places_5 O_home_5 N_layers N_size N_rows) H → va_D A (iX4_startLike aS aO aN cI cZ R_width L_layer L_tops L_bottoms L_layers q2_0 O_size_5 O_rows_5 O_places_5 O_home_5 N_layers N_size N_rows) → va_S A s.heap H locs → lv_has ls 6 [(0, .ref (aO 0)), (1, .ref (aN 0)), (2, .ref (aS 7)), (3, .int x3_3), (4, .int x4_5)] → W p l e (headSpec wsX4_startLike (rX4_startLike)).room s m args below meth c H locs 0 0 Q (F0 m 57 ls []) := by
          intro O_size_5 O_rows_5 O_places_5 O_home_5 x4_5 hF H locs ls hP hD hS hl
          unfold jX4_startLike_57 at hF
          refine lv_iinc (v := (x4_5 + 1)) (lv' := [(4, .int (x4_5 + 1)), (0, .ref (aO 0)), (1, .ref (aN 0)), (2, .ref (aS 7)), (3, .int x3_3)]) hx hb dX4_startLike_57 hl (k := 4) rfl rfl (by decide) rfl (fun ls hl => ?_)
          refine lv_goto (tgt := 21) hx hb dX4_startLike_60 (by decide) ?_
          exact hin _ (Option.some.inj hF).symm H locs ls hP hD hS (lv_sub hl [1, 2, 3, 4, 0] rfl)
        refine lv_iload hx hb dX4_startLike_21 (lv_at hl 4 rfl) ?_
        refine lv_aload_n hx hb dX4_startLike_23 rfl (lv_at hl 1 rfl) ?_
        refine lv_iload_n hx hb dX4_startLike_24 rfl (lv_at hl 3 rfl) ?_
        obtain ⟨q6, hcq6, hF⟩ := q_bd hF
        refine q_Vi (As := [.int x3_3]) (rest := [.int x4_4]) ⟨hx, hb, hml, hown, hts⟩ hA hK hP hD hS (tX4_sizeOf l dC dI cI cZ aN H.size N_layers N_size x3_3 q6 hcq6) (cwV 1 hts gX4_startLike_X4_sizeOf rfl rfl rfl uX4_sizeOf ⟨Nat.le_of_ble_eq_true rfl, Nat.le_of_ble_eq_true rfl⟩) [11, 12] [(false, 0), (false, 1), (false, 2), (false, 3), (false, 4), (false, 5), (false, 6), (false, 7), (false, 8), (false, 9), (false, 10), (true, 0), (true, 1), (false, 13)] (iX4_startLike aS aO aN cI cZ R_width L_layer L_tops L_bottoms L_layers q2_0 O_size_4 O_rows_4 O_places_4 O_home_4 N_layers N_size N_rows) rfl rfl rfl rfl rfl 4 0 rfl rfl rfl rfl hl.1 rfl (Nat.le_of_ble_eq_true rfl) dX4_startLike_25 ⟨Nat.zero_le _, Nat.zero_le _⟩ (fun H locs hP hD hS => ?_)
        refine lv_icmp_ge (tgt := 63) hx hb dX4_startLike_28 (by decide) (fun hc => ?_) (fun hc => ?_)
        · replace hF := q_t hc hF
          exact X4 _ _ _ _ (hex _ (Option.some.inj hF).symm) H locs ls hP hD hS (lv_sub hl [0, 1, 2, 3] rfl)
        · replace hF := q_f hc hF
          refine lv_aload_n hx hb dX4_startLike_31 rfl (lv_at hl 1 rfl) ?_
          refine lv_iload_n hx hb dX4_startLike_32 rfl (lv_at hl 3 rfl) ?_
          refine lv_iload hx hb dX4_startLike_33 (lv_at hl 4 rfl) ?_
          obtain ⟨q7, hcq7, hF⟩ := q_bd hF
          refine q_Vi (As := [.int x3_3, .int x4_4]) (rest := []) ⟨hx, hb, hml, hown, hts⟩ hA hK hP hD hS (tX4_itemIn l dC dI cI cZ aN H.size N_layers N_size N_rows x3_3 x4_4 q7 hcq7) (cwV 2 hts gX4_startLike_X4_itemIn rfl rfl rfl uX4_itemIn ⟨Nat.le_of_ble_eq_true rfl, Nat.le_of_ble_eq_true rfl⟩) [11, 12, 13] [(false, 0), (false, 1), (false, 2), (false, 3), (false, 4), (false, 5), (false, 6), (false, 7), (false, 8), (false, 9), (false, 10), (true, 0), (true, 1), (true, 2)] (iX4_startLike aS aO aN cI cZ R_width L_layer L_tops L_bottoms L_layers q2_0 O_size_4 O_rows_4 O_places_4 O_home_4 N_layers N_size N_rows) rfl rfl rfl rfl rfl 4 0 rfl rfl rfl rfl hl.1 rfl (Nat.le_of_ble_eq_true rfl) dX4_startLike_35 ⟨Nat.zero_le _, Nat.zero_le _⟩ (fun H locs hP hD hS => ?_)
          refine lv_istore (lv' := [(5, .int q7), (0, .ref (aO 0)), (1, .ref (aN 0)), (2, .ref (aS 7)), (3, .int x3_3), (4, .int x4_4)]) hx hb dX4_startLike_38 hl (by decide) rfl (fun ls hl => ?_)
          refine lv_aload_n hx hb dX4_startLike_40 rfl (lv_at hl 3 rfl) ?_
          refine lv_iload_n hx hb dX4_startLike_41 rfl (lv_at hl 4 rfl) ?_
          refine lv_iload hx hb dX4_startLike_42 (lv_at hl 0 rfl) ?_
          obtain ⟨q8, hcq8, hF⟩ := q_bd hF
          refine q_Vi (As := [.int x3_3, .int q7]) (rest := []) ⟨hx, hb, hml, hown, hts⟩ hA hK hP hD hS (tX3_holds l dC dI cI cZ aS H.size R_width L_layer L_tops L_bottoms L_layers x3_3 q7 q8 hcq8) (cwV 2 hts gX4_startLike_X3_holds rfl rfl rfl uX3_holds ⟨Nat.le_of_ble_eq_true rfl, Nat.le_of_ble_eq_true rfl⟩) [3, 1, 2, 4, 5, 6] [(false, 0), (true, 1), (true, 2), (true, 0), (true, 3), (true, 4), (true, 5), (false, 7), (false, 8), (false, 9), (false, 10), (false, 11), (false, 12), (false, 13)] (iX4_startLike aS aO aN cI cZ R_width L_layer L_tops L_bottoms L_layers q2_0 O_size_4 O_rows_4 O_places_4 O_home_4 N_layers N_size N_rows) rfl rfl rfl rfl rfl 3 0 rfl rfl rfl rfl hl.1 rfl (Nat.le_of_ble_eq_true rfl) dX4_startLike_44 ⟨Nat.zero_le _, Nat.zero_le _⟩ (fun H locs hP hD hS => ?_)
          refine lv_if_eq (tgt := 57) hx hb dX4_startLike_47 (by decide) (fun hc => ?_) (fun hc => ?_)
          · replace hF := q_t hc hF
            exact JX4_STARTLIKE_57 O_size_4 O_rows_4 O_places_4 O_home_4 x4_4 hF H locs ls hP hD hS (lv_sub hl [1, 2, 3, 4, 5] rfl)
          · replace hF := q_f hc hF
            refine lv_aload_n hx hb dX4_startLike_50 rfl (lv_at hl 1 rfl) ?_
            refine lv_iload_n hx hb dX4_startLike_51 rfl (lv_at hl 4 rfl) ?_
            refine lv_iload hx hb dX4_startLike_52 (lv_at hl 0 rfl) ?_
            obtain ⟨q9_0, q9_1, q9_2, q9_3, hcq9, hF⟩ := q_bd4 hF
            refine q_Vv (As := [.int x3_3, .int q7]) (rest := []) ⟨hx, hb, hml, hown, hts⟩ hA hK hP hD hS (tX4_append l dC dI cI cZ aO H.size q2_0 O_size_4 O_rows_4 O_places_4 O_home_4 x3_3 q7 (q9_0, q9_1, q9_2, q9_3) hcq9) (cwV 2 hts gX4_startLike_X4_append rfl rfl rfl uX4_append ⟨Nat.le_of_ble_eq_true rfl, Nat.le_of_ble_eq_true rfl⟩) [0, 7, 8, 9, 10] [(true, 0), (false, 1), (false, 2), (false, 3), (false, 4), (false, 5), (false, 6), (true, 1), (true, 2), (true, 3), (true, 4), (false, 11), (false, 12), (false, 13)] (iX4_startLike aS aO aN cI cZ R_width L_layer L_tops L_bottoms L_layers q2_0 q9_0 q9_1 q9_2 q9_3 N_layers N_size N_rows) rfl rfl rfl rfl rfl 4 0 rfl rfl rfl rfl hl.1 rfl (Nat.le_of_ble_eq_true rfl) dX4_startLike_54 ⟨Nat.zero_le _, Nat.zero_le _⟩ (fun H locs hP hD hS => ?_)
            exact JX4_STARTLIKE_57 q9_0 q9_1 q9_2 q9_3 x4_4 hF H locs ls hP hD hS (lv_sub hl [1, 2, 3, 4, 5] rfl)
      exact L4 (0, O_size_3, O_rows_3, O_places_3, O_home_3) hc4 H locs ls hP hD hS (lv_sub hl [1, 2, 3, 4, 0] rfl)
  exact L3 (0, q2_1, O_rows, q2_2, q2_3) hc3 H locs ls hP hD hS (lv_sub hl [1, 2, 3, 0] rfl)
abbrev rX2_inGap : Room := { frames := 1, cells := 0, slots := 0, locals := 40 }
theorem eX2_inGap_X2 : ∀ w ∈ u_ws RX2 TX2 3, w ∈ wsX2_inGap := by decide +kernel
theorem uX2_inGap : yX2_inGap.cls = RX2 ∧ yX2_inGap.cls ≠ "java/lang/invoke/MethodHandle" ∧ yX2_inGap.cls ≠ "java/lang/invoke/VarHandle" ∧ (parseMethodDescriptor yX2_inGap.desc).map (fun d => d.parameters.length) = some 2 := by decide +kernel
set_option maxHeartbeats 4000000 in
set_option maxRecDepth 100000 in
theorem tX2_inGap (l : Launch) (dC : Nat → ClassId) (dI : Nat → Nat → Nat) (cI cZ : ClassId) (aS : Nat → Nat) (aO : Nat → Nat) (sz : Nat) (P_size : Nat → Int32) (P_uppers : Nat → Int32) (P_lowers : Nat → Int32) (X_upper : Nat → Int32) (X_lower : Nat → Int32) (O_layers : Int32) (O_places : Nat → Int32) (p1 : Int32) (res : Int32 × (Nat → Int32) × (Nat → Int32)) (hF : fX2_inGap P_size P_uppers P_lowers X_upper X_lower O_places p1 = some res) : q_Mi l yX2_inGap wsX2_inGap rX2_inGap (dC, dI) (q_ty cI cZ) [.ref (aS 16), .ref (aO 0), .int p1] (iX2_inGap aS aO cI cZ P_size P_uppers P_lowers X_upper X_lower O_layers O_places) (iX2_inGap aS aO cI cZ P_size P_uppers P_lowers res.2.1 res.2.2 O_layers O_places) sz res.1 := by
  refine q_meti (cc := cX2_inGap) (maxL := 8) (by decide) rfl (Nat.le_of_ble_eq_true rfl) ?_
  intro p e s m args below meth c Q A H locs ls C hP hD hS hl hret
  obtain ⟨hx, hb, hml, hown, hts, hA, hK⟩ := C
  replace hl : lv_has ls 8 [(0, .ref (aS 16)), (1, .ref (aO 0)), (2, .int p1)] := hl
  have k0 := hts (.fieldLink RX2 18 "RouteLayout$Crossings" "pieces" "LRouteLayout$Pieces;") (by decide +kernel)
  have k1 := hts (.methodLink RX2 38 Lib.Math.min.name) (by decide +kernel)
  have k2 := hts (.static Lib.Math.min.name) (by decide +kernel)
  have k3 := hts (.initialized "java/lang/Math") (by decide +kernel)
  have k4 := hts (.code Lib.Math.min.name Lib.Math.min.code 2 (some .int)) (by decide +kernel)
  have k5 := hts (.fieldLink RX2 9 "RouteLayout$Crossings" "upper" "[I") (by decide +kernel)
  have k6 := hts (.fieldLink RX2 15 "RouteLayout$Crossings" "lower" "[I") (by decide +kernel)
  unfold fX2_inGap at hF
  refine lv_aload_n hx hb dX2_inGap_0 rfl (lv_at hl 0 rfl) ?_
  refine q_get (ci := 2) (C := RX2) (T := TX2) (N := 3) hx hb hts eX2_inGap_X2 hown hK hP 0 rfl rfl 0 (Nat.le_of_ble_eq_true rfl) k0 rfl rfl dX2_inGap_1 ?_
  refine lv_iload_n hx hb dX2_inGap_4 rfl (lv_at hl 2 rfl) ?_
  obtain ⟨q1, hcq1, hF⟩ := q_bd hF
  refine q_Vi (As := [.int p1]) (rest := []) ⟨hx, hb, hml, hown, hts⟩ hA hK hP hD hS (tX6_sizeOf l dC dI cI cZ aS H.size P_size p1 q1 hcq1) (cwV 1 hts gX2_inGap_X6_sizeOf rfl rfl rfl uX6_sizeOf ⟨Nat.le_of_ble_eq_true rfl, Nat.le_of_ble_eq_true rfl⟩) [1, 2] [(false, 0), (true, 0), (true, 1), (false, 3), (false, 4), (false, 5), (false, 6), (false, 7), (false, 8)] (iX2_inGap aS aO cI cZ P_size P_uppers P_lowers X_upper X_lower O_layers O_places) rfl rfl rfl rfl rfl 6 0 rfl rfl rfl rfl hl.1 rfl (Nat.le_of_ble_eq_true rfl) dX2_inGap_5 ⟨Nat.zero_le _, Nat.zero_le _⟩ (fun H locs hP hD hS => ?_)
  refine lv_bipush (v := 24) hx hb dX2_inGap_8 (by decide) ?_
  refine va_mmin hx hb (hml.trans hl.1.symm) hown k1 k2 k3 k4 (Nat.le_of_ble_eq_true rfl) (Nat.le_of_ble_eq_true rfl) (Nat.zero_le _) (Nat.zero_le _) dX2_inGap_10 ?_
  obtain ⟨v2, hv2, hF⟩ := q_letE hF
  refine q_top hv2 ?_
  refine lv_istore_n (lv' := [(3, .int v2), (0, .ref (aS 16)), (1, .ref (aO 0)), (2, .int p1)]) hx hb dX2_inGap_13 rfl hl (by decide) rfl (fun ls hl => ?_)
  refine lv_iconst (v := 0) hx hb dX2_inGap_14 (by decide) ?_
  refine lv_istore (lv' := [(4, .int 0), (3, .int v2), (0, .ref (aS 16)), (1, .ref (aO 0)), (2, .int p1)]) hx hb dX2_inGap_15 hl (by decide) rfl (fun ls hl => ?_)
  refine lv_iconst (v := 0) hx hb dX2_inGap_17 (by decide) ?_
  refine lv_istore (lv' := [(5, .int 0), (4, .int 0), (3, .int v2), (0, .ref (aS 16)), (1, .ref (aO 0)), (2, .int p1)]) hx hb dX2_inGap_18 hl (by decide) rfl (fun ls hl => ?_)
  obtain ⟨q3_0, q3_1, q3_2, hc3, hF⟩ := q_bd3 hF
  have X3 : ∀ (u3_0 : Int32) (u3_1 : Nat → Int32) (u3_2 : Nat → Int32), (u3_0, u3_1, u3_2) = (q3_0, q3_1, q3_2) → ∀ (H : Heap) (locs : List Loc) (ls : Array Slot), va_P (dC, dI) vwCl (iX2_inGap aS aO cI cZ P_size P_uppers P_lowers u3_1 u3_2 O_layers O_places) H → va_D A (iX2_inGap aS aO cI cZ P_size P_uppers P_lowers u3_1 u3_2 O_layers O_places) → va_S A s.heap H locs → lv_has ls 8 [(4, .int u3_0)] → W p l e (headSpec wsX2_inGap (rX2_inGap)).room s m args below meth c H locs 0 0 Q (F0 m 141 ls []) := by
    intro u3_0 u3_1 u3_2 hu H locs ls hP hD hS hl
    obtain ⟨e0, e1, e2⟩ := q_inj3 hu
    subst e0 e1 e2
    refine lv_iload hx hb dX2_inGap_141 (lv_at hl 0 rfl) ?_
    exact hret H locs ls 143 _ _ dX2_inGap_143 (congrArg Prod.fst (Option.some.inj hF)) (congrArg (fun z : Int32 × (Nat → Int32) × (Nat → Int32) => (iX2_inGap aS aO cI cZ P_size P_uppers P_lowers z.2.1 z.2.2 O_layers O_places)) (Option.some.inj hF)) hP hD hS
  have L3 : ∀ st : Int32 × Int32 × (Nat → Int32) × (Nat → Int32), q_lo (fun (st : Int32 × Int32 × (Nat → Int32) × (Nat → Int32)) => bX2_inGap_20 P_size P_uppers P_lowers O_places p1 v2 st.1 st.2.1 st.2.2.1 st.2.2.2) st = some (q3_0, q3_1, q3_2) → ∀ (H : Heap) (locs : List Loc) (ls : Array Slot), va_P (dC, dI) vwCl (iX2_inGap aS aO cI cZ P_size P_uppers P_lowers st.2.2.1 st.2.2.2 O_layers O_places) H → va_D A (iX2_inGap aS aO cI cZ P_size P_uppers P_lowers st.2.2.1 st.2.2.2 O_layers O_places) → va_S A s.heap H locs → lv_has ls 8 [(0, .ref (aS 16)), (1, .ref (aO 0)), (2, .int p1), (3, .int v2), (4, .int st.1), (5, .int st.2.1)] → W p l e (headSpec wsX2_inGap (rX2_inGap)).room s m args below meth c H locs 0 0 Q (F0 m 20 ls []) := by
    intro st hst
    refine q_walk (Wh := fun st : Int32 × Int32 × (Nat → Int32) × (Nat → Int32) => ∀ (H : Heap) (locs : List Loc) (ls : Array Slot), va_P (dC, dI) vwCl (iX2_inGap aS aO cI cZ P_size P_uppers P_lowers st.2.2.1 st.2.2.2 O_layers O_places) H → va_D A (iX2_inGap aS aO cI cZ P_size P_uppers P_lowers st.2.2.1 st.2.2.2 O_layers O_places) → va_S A s.heap H locs → lv_has ls 8 [(0, .ref (aS 16)), (1, .ref (aO 0)), (2, .int p1), (3, .int v2), (4, .int st.1), (5, .int st.2.1)] → W p l e (headSpec wsX2_inGap (rX2_inGap)).room s m args below meth c H locs 0 0 Q (F0 m 20 ls [])) ?_ st hst
    clear hst st hF
    intro st o hF hin hex H locs ls hP hD hS hl
    obtain ⟨x4_3, x5_3, X_upper_3, X_lower_3⟩ := st
    replace hF : bX2_inGap_20 P_size P_uppers P_lowers O_places p1 v2 x4_3 x5_3 X_upper_3 X_lower_3 = some o := hF
    replace hP : va_P (dC, dI) vwCl (iX2_inGap aS aO cI cZ P_size P_uppers P_lowers X_upper_3 X_lower_3 O_layers O_places) H := hP
    replace hD : va_D A (iX2_inGap aS aO cI cZ P_size P_uppers P_lowers X_upper_3 X_lower_3 O_layers O_places) := hD
    replace hl : lv_has ls 8 [(0, .ref (aS 16)), (1, .ref (aO 0)), (2, .int p1), (3, .int v2), (4, .int x4_3), (5, .int x5_3)] := hl
    unfold bX2_inGap_20 at hF
    refine lv_iload hx hb dX2_inGap_20 (lv_at hl 5 rfl) ?_
    refine lv_iload_n hx hb dX2_inGap_22 rfl (lv_at hl 3 rfl) ?_
    refine lv_icmp_ge (tgt := 141) hx hb dX2_inGap_23 (by decide) (fun hc => ?_) (fun hc => ?_)
    · replace hF := q_t hc hF
      exact X3 _ _ _ (hex _ (Option.some.inj hF).symm) H locs ls hP hD hS (lv_sub hl [4] rfl)
    · replace hF := q_f hc hF
      refine lv_aload_n hx hb dX2_inGap_26 rfl (lv_at hl 0 rfl) ?_
      refine q_get (ci := 2) (C := RX2) (T := TX2) (N := 3) hx hb hts eX2_inGap_X2 hown hK hP 0 rfl rfl 1 (Nat.le_of_ble_eq_true rfl) k5 rfl rfl dX2_inGap_27 ?_
      refine lv_iload hx hb dX2_inGap_30 (lv_at hl 5 rfl) ?_
      refine lv_aload_n hx hb dX2_inGap_32 rfl (lv_at hl 1 rfl) ?_
      refine lv_iload_n hx hb dX2_inGap_33 rfl (lv_at hl 2 rfl) ?_
      refine lv_aload_n hx hb dX2_inGap_34 rfl (lv_at hl 0 rfl) ?_
      refine q_get (ci := 2) (C := RX2) (T := TX2) (N := 3) hx hb hts eX2_inGap_X2 hown hK hP 0 rfl rfl 0 (Nat.le_of_ble_eq_true rfl) k0 rfl rfl dX2_inGap_35 ?_
      refine lv_iload_n hx hb dX2_inGap_38 rfl (lv_at hl 2 rfl) ?_
      refine lv_iload hx hb dX2_inGap_39 (lv_at hl 5 rfl) ?_
      refine lv_iconst (v := 1) hx hb dX2_inGap_41 (by decide) ?_
      obtain ⟨q4, hcq4, hF⟩ := q_bd hF
      refine q_Vi (As := [.int p1, .int x5_3, .int 1]) (rest := [.int p1, .ref (aO 0), .int x5_3, .ref (aS 17)]) ⟨hx, hb, hml, hown, hts⟩ hA hK hP hD hS (tX6_endOf l dC dI cI cZ aS H.size P_size P_uppers P_lowers p1 x5_3 1 q4 hcq4) (cwV 3 hts gX2_inGap_X6_endOf rfl rfl rfl uX6_endOf ⟨Nat.le_of_ble_eq_true rfl, Nat.le_of_ble_eq_true rfl⟩) [1, 2, 3, 4] [(false, 0), (true, 0), (true, 1), (true, 2), (true, 3), (false, 5), (false, 6), (false, 7), (false, 8)] (iX2_inGap aS aO cI cZ P_size P_uppers P_lowers X_upper_3 X_lower_3 O_layers O_places) rfl rfl rfl rfl rfl 6 0 rfl rfl rfl rfl hl.1 rfl (Nat.le_of_ble_eq_true rfl) dX2_inGap_42 ⟨Nat.zero_le _, Nat.zero_le _⟩ (fun H locs hP hD hS => ?_)
      obtain ⟨q5, hcq5, hF⟩ := q_bd hF
      refine q_Vi (As := [.int p1, .int q4]) (rest := [.int x5_3, .ref (aS 17)]) ⟨hx, hb, hml, hown, hts⟩ hA hK hP hD hS (tX4_placeIn l dC dI cI cZ aO H.size O_layers O_places p1 q4 q5 hcq5) (cwV 2 hts gX2_inGap_X4_placeIn rfl rfl rfl uX4_placeIn ⟨Nat.le_of_ble_eq_true rfl, Nat.le_of_ble_eq_true rfl⟩) [7, 8] [(false, 0), (false, 1), (false, 2), (false, 3), (false, 4), (false, 5), (false, 6), (true, 0), (true, 1)] (iX2_inGap aS aO cI cZ P_size P_uppers P_lowers X_upper_3 X_lower_3 O_layers O_places) rfl rfl rfl rfl rfl 4 0 rfl rfl rfl rfl hl.1 rfl (Nat.le_of_ble_eq_true rfl) dX2_inGap_45 ⟨Nat.zero_le _, Nat.zero_le _⟩ (fun H locs hP hD hS => ?_)
      obtain ⟨hn6, hF⟩ := q_ck hF
      refine q_iast hx hb hK hP hD hS 5 0 (iX2_inGap aS aO cI cZ P_size P_uppers P_lowers (upd X_upper_3 x5_3.toNatClampNeg q5) X_lower_3 O_layers O_places) rfl rfl hn6 rfl dX2_inGap_48 (fun H locs hP hD hS => ?_)
      refine lv_aload_n hx hb dX2_inGap_49 rfl (lv_at hl 0 rfl) ?_
      refine q_get (ci := 2) (C := RX2) (T := TX2) (N := 3) hx hb hts eX2_inGap_X2 hown hK hP 0 rfl rfl 2 (Nat.le_of_ble_eq_true rfl) k6 rfl rfl dX2_inGap_50 ?_
      refine lv_iload hx hb dX2_inGap_53 (lv_at hl 5 rfl) ?_
      refine lv_aload_n hx hb dX2_inGap_55 rfl (lv_at hl 1 rfl) ?_
      refine lv_iload_n hx hb dX2_inGap_56 rfl (lv_at hl 2 rfl) ?_
      refine lv_iconst (v := 1) hx hb dX2_inGap_57 (by decide) ?_
      refine lv_iadd hx hb dX2_inGap_58 ?_
      refine lv_aload_n hx hb dX2_inGap_59 rfl (lv_at hl 0 rfl) ?_
      refine q_get (ci := 2) (C := RX2) (T := TX2) (N := 3) hx hb hts eX2_inGap_X2 hown hK hP 0 rfl rfl 0 (Nat.le_of_ble_eq_true rfl) k0 rfl rfl dX2_inGap_60 ?_
      refine lv_iload_n hx hb dX2_inGap_63 rfl (lv_at hl 2 rfl) ?_
      refine lv_iload hx hb dX2_inGap_64 (lv_at hl 5 rfl) ?_
      refine lv_iconst (v := 0) hx hb dX2_inGap_66 (by decide) ?_
      obtain ⟨q7, hcq7, hF⟩ := q_bd hF
      refine q_Vi (As := [.int p1, .int x5_3, .int 0]) (rest := [.int (p1 + 1), .ref (aO 0), .int x5_3, .ref (aS 18)]) ⟨hx, hb, hml, hown, hts⟩ hA hK hP hD hS (tX6_endOf l dC dI cI cZ aS H.size P_size P_uppers P_lowers p1 x5_3 0 q7 hcq7) (cwV 3 hts gX2_inGap_X6_endOf rfl rfl rfl uX6_endOf ⟨Nat.le_of_ble_eq_true rfl, Nat.le_of_ble_eq_true rfl⟩) [1, 2, 3, 4] [(false, 0), (true, 0), (true, 1), (true, 2), (true, 3), (false, 5), (false, 6), (false, 7), (false, 8)] (iX2_inGap aS aO cI cZ P_size P_uppers P_lowers (upd X_upper_3 x5_3.toNatClampNeg q5) X_lower_3 O_layers O_places) rfl rfl rfl rfl rfl 6 0 rfl rfl rfl rfl hl.1 rfl (Nat.le_of_ble_eq_true rfl) dX2_inGap_67 ⟨Nat.zero_le _, Nat.zero_le _⟩ (fun H locs hP hD hS => ?_)
      obtain ⟨q8, hcq8, hF⟩ := q_bd hF
      refine q_Vi (As := [.int (p1 + 1), .int q7]) (rest := [.int x5_3, .ref (aS 18)]) ⟨hx, hb, hml, hown, hts⟩ hA hK hP hD hS (tX4_placeIn l dC dI cI cZ aO H.size O_layers O_places (p1 + 1) q7 q8 hcq8) (cwV 2 hts gX2_inGap_X4_placeIn rfl rfl rfl uX4_placeIn ⟨Nat.le_of_ble_eq_true rfl, Nat.le_of_ble_eq_true rfl⟩) [7, 8] [(false, 0), (false, 1), (false, 2), (false, 3), (false, 4), (false, 5), (false, 6), (true, 0), (true, 1)] (iX2_inGap aS aO cI cZ P_size P_uppers P_lowers (upd X_upper_3 x5_3.toNatClampNeg q5) X_lower_3 O_layers O_places) rfl rfl rfl rfl rfl 4 0 rfl rfl rfl rfl hl.1 rfl (Nat.le_of_ble_eq_true rfl) dX2_inGap_70 ⟨Nat.zero_le _, Nat.zero_le _⟩ (fun H locs hP hD hS => ?_)
      obtain ⟨hn9, hF⟩ := q_ck hF
      refine q_iast hx hb hK hP hD hS 6 0 (iX2_inGap aS aO cI cZ P_size P_uppers P_lowers (upd X_upper_3 x5_3.toNatClampNeg q5) (upd X_lower_3 x5_3.toNatClampNeg q8) O_layers O_places) rfl rfl hn9 rfl dX2_inGap_73 (fun H locs hP hD hS => ?_)
      refine lv_iconst (v := 0) hx hb dX2_inGap_74 (by decide) ?_
      refine lv_istore (lv' := [(6, .int 0), (0, .ref (aS 16)), (1, .ref (aO 0)), (2, .int p1), (3, .int v2), (4, .int x4_3), (5, .int x5_3)]) hx hb dX2_inGap_75 hl (by decide) rfl (fun ls hl => ?_)
      obtain ⟨q10, hc10, hF⟩ := q_bd hF
      have X10 : ∀ (u10 : Int32), u10 = q10 → ∀ (H : Heap) (locs : List Loc) (ls : Array Slot), va_P (dC, dI) vwCl (iX2_inGap aS aO cI cZ P_size P_uppers P_lowers (upd X_upper_3 x5_3.toNatClampNeg q5) (upd X_lower_3 x5_3.toNatClampNeg q8) O_layers O_places) H → va_D A (iX2_inGap aS aO cI cZ P_size P_uppers P_lowers (upd X_upper_3 x5_3.toNatClampNeg q5) (upd X_lower_3 x5_3.toNatClampNeg q8) O_layers O_places) → va_S A s.heap H locs → lv_has ls 8 [(0, .ref (aS 16)), (1, .ref (aO 0)), (2, .int p1), (3, .int v2), (4, .int u10), (5, .int x5_3)] → W p l e (headSpec wsX2_inGap (rX2_inGap)).room s m args below meth c H locs 0 0 Q (F0 m 135 ls []) := by
        intro u10 hu H locs ls hP hD hS hl
        subst hu
        refine lv_iinc (v := (x5_3 + 1)) (lv' := [(5, .int (x5_3 + 1)), (0, .ref (aS 16)), (1, .ref (aO 0)), (2, .int p1), (3, .int v2), (4, .int u10)]) hx hb dX2_inGap_135 hl (k := 5) rfl rfl (by decide) rfl (fun ls hl => ?_)
        refine lv_goto (tgt := 20) hx hb dX2_inGap_138 (by decide) ?_
        exact hin _ (Option.some.inj hF).symm H locs ls hP hD hS (lv_sub hl [1, 2, 3, 4, 5, 0] rfl)
      have L10 : ∀ st : Int32 × Int32, q_lo (fun (st : Int32 × Int32) => bX2_inGap_77 (upd X_upper_3 x5_3.toNatClampNeg q5) (upd X_lower_3 x5_3.toNatClampNeg q8) p1 v2 x5_3 st.1 st.2) st = some q10 → ∀ (H : Heap) (locs : List Loc) (ls : Array Slot), va_P (dC, dI) vwCl (iX2_inGap aS aO cI cZ P_size P_uppers P_lowers (upd X_upper_3 x5_3.toNatClampNeg q5) (upd X_lower_3 x5_3.toNatClampNeg q8) O_layers O_places) H → va_D A (iX2_inGap aS aO cI cZ P_size P_uppers P_lowers (upd X_upper_3 x5_3.toNatClampNeg q5) (upd X_lower_3 x5_3.toNatClampNeg q8) O_layers O_places) → va_S A s.heap H locs → lv_has ls 8 [(0, .ref (aS 16)), (1, .ref (aO 0)), (2, .int p1), (3, .int v2), (4, .int st.1), (5, .int x5_3), (6, .int st.2)] → W p l e (headSpec wsX2_inGap (rX2_inGap)).room s m args below meth c H locs 0 0 Q (F0 m 77 ls []) := by
        intro st hst
        refine q_walk (Wh := fun st : Int32 × Int32 => ∀ (H : Heap) (locs : List Loc) (ls : Array Slot), va_P (dC, dI) vwCl (iX2_inGap aS aO cI cZ P_size P_uppers P_lowers (upd X_upper_3 x5_3.toNatClampNeg q5) (upd X_lower_3 x5_3.toNatClampNeg q8) O_layers O_places) H → va_D A (iX2_inGap aS aO cI cZ P_size P_uppers P_lowers (upd X_upper_3 x5_3.toNatClampNeg q5) (upd X_lower_3 x5_3.toNatClampNeg q8) O_layers O_places) → va_S A s.heap H locs → lv_has ls 8 [(0, .ref (aS 16)), (1, .ref (aO 0)), (2, .int p1), (3, .int v2), (4, .int st.1), (5, .int x5_3), (6, .int st.2)] → W p l e (headSpec wsX2_inGap (rX2_inGap)).room s m args below meth c H locs 0 0 Q (F0 m 77 ls [])) ?_ st hst
        clear hst st hF
        intro st o hF hin hex H locs ls hP hD hS hl
        obtain ⟨x4_10, x6_10⟩ := st
        replace hF : bX2_inGap_77 (upd X_upper_3 x5_3.toNatClampNeg q5) (upd X_lower_3 x5_3.toNatClampNeg q8) p1 v2 x5_3 x4_10 x6_10 = some o := hF
        replace hP : va_P (dC, dI) vwCl (iX2_inGap aS aO cI cZ P_size P_uppers P_lowers (upd X_upper_3 x5_3.toNatClampNeg q5) (upd X_lower_3 x5_3.toNatClampNeg q8) O_layers O_places) H := hP
        replace hD : va_D A (iX2_inGap aS aO cI cZ P_size P_uppers P_lowers (upd X_upper_3 x5_3.toNatClampNeg q5) (upd X_lower_3 x5_3.toNatClampNeg q8) O_layers O_places) := hD
        replace hl : lv_has ls 8 [(0, .ref (aS 16)), (1, .ref (aO 0)), (2, .int p1), (3, .int v2), (4, .int x4_10), (5, .int x5_3), (6, .int x6_10)] := hl
        unfold bX2_inGap_77 at hF
        have JX2_INGAP_129 : ∀ (x4_11 : Int32) (x6_11 : Int32), jX2_inGap_129 p1 v2 x4_11 x5_3 x6_11 = some o → ∀ (H : Heap) (locs : List Loc) (ls : Array Slot), va_P (dC, dI) vwCl (iX2_inGap aS aO cI cZ P_size P_uppers P_lowers (upd X_upper_3 x5_3.toNatClampNeg q5) (upd X_lower_3 x5_3.toNatClampNeg q8) O_layers O_places) H → va_D A (iX2_inGap aS aO cI cZ P_size P_uppers P_lowers (upd X_upper_3 x5_3.toNatClampNeg q5) (upd X_lower_3 x5_3.toNatClampNeg q8) O_layers O_places) → va_S A s.heap H locs → lv_has ls 8 [(0, .ref (aS 16)), (1, .ref (aO 0)), (2, .int p1), (3, .int v2), (4, .int x4_11), (5, .int x5_3), (6, .int x6_11)] → W p l e (headSpec wsX2_inGap (rX2_inGap)).room s m args below meth c H locs 0 0 Q (F0 m 129 ls []) := by
          intro x4_11 x6_11 hF H locs ls hP hD hS hl
          unfold jX2_inGap_129 at hF
          refine lv_iinc (v := (x6_11 + 1)) (lv' := [(6, .int (x6_11 + 1)), (0, .ref (aS 16)), (1, .ref (aO 0)), (2, .int p1), (3, .int v2), (4, .int x4_11), (5, .int x5_3)]) hx hb dX2_inGap_129 hl (k := 6) rfl rfl (by decide) rfl (fun ls hl => ?_)
          refine lv_goto (tgt := 77) hx hb dX2_inGap_132 (by decide) ?_
          exact hin _ (Option.some.inj hF).symm H locs ls hP hD hS (lv_sub hl [1, 2, 3, 4, 5, 6, 0] rfl)
        refine lv_iload hx hb dX2_inGap_77 (lv_at hl 6 rfl) ?_
        refine lv_iload hx hb dX2_inGap_79 (lv_at hl 5 rfl) ?_
        refine lv_icmp_ge (tgt := 135) hx hb dX2_inGap_81 (by decide) (fun hc => ?_) (fun hc => ?_)
        · replace hF := q_t hc hF
          exact X10 _ (hex _ (Option.some.inj hF).symm) H locs ls hP hD hS (lv_sub hl [0, 1, 2, 3, 4, 5] rfl)
        · replace hF := q_f hc hF
          refine lv_aload_n hx hb dX2_inGap_84 rfl (lv_at hl 0 rfl) ?_
          refine q_get (ci := 2) (C := RX2) (T := TX2) (N := 3) hx hb hts eX2_inGap_X2 hown hK hP 0 rfl rfl 1 (Nat.le_of_ble_eq_true rfl) k5 rfl rfl dX2_inGap_85 ?_
          refine lv_iload hx hb dX2_inGap_88 (lv_at hl 5 rfl) ?_
          obtain ⟨hn12, hF⟩ := q_ck hF
          refine va_iald hx hb hK hP 5 0 rfl rfl hn12 dX2_inGap_90 ?_
          refine lv_aload_n hx hb dX2_inGap_91 rfl (lv_at hl 0 rfl) ?_
          refine q_get (ci := 2) (C := RX2) (T := TX2) (N := 3) hx hb hts eX2_inGap_X2 hown hK hP 0 rfl rfl 1 (Nat.le_of_ble_eq_true rfl) k5 rfl rfl dX2_inGap_92 ?_
          refine lv_iload hx hb dX2_inGap_95 (lv_at hl 6 rfl) ?_
          obtain ⟨hn13, hF⟩ := q_ck hF
          refine va_iald hx hb hK hP 5 0 rfl rfl hn13 dX2_inGap_97 ?_
          obtain ⟨q14, hcq14, hF⟩ := q_bd hF
          refine q_Si (As := [.int ((upd X_upper_3 x5_3.toNatClampNeg q5) x5_3.toNatClampNeg), .int ((upd X_upper_3 x5_3.toNatClampNeg q5) x6_10.toNatClampNeg)]) (rest := []) ⟨hx, hb, hml, hown, hts⟩ hA hK hP hD hS (tJ6_compare_7cf53 l dC dI cI cZ H.size ((upd X_upper_3 x5_3.toNatClampNeg q5) x5_3.toNatClampNeg) ((upd X_upper_3 x5_3.toNatClampNeg q5) x6_10.toNatClampNeg) q14 hcq14) (va_cwS 2 hts gX2_inGap_J6_compare_7cf53 rfl rfl rfl uJ6_compare_7cf53 ⟨Nat.le_of_ble_eq_true rfl, Nat.le_of_ble_eq_true rfl⟩) [] [(false, 0), (false, 1), (false, 2), (false, 3), (false, 4), (false, 5), (false, 6), (false, 7), (false, 8)] (iX2_inGap aS aO cI cZ P_size P_uppers P_lowers (upd X_upper_3 x5_3.toNatClampNeg q5) (upd X_lower_3 x5_3.toNatClampNeg q8) O_layers O_places) rfl rfl rfl rfl rfl rfl hl.1 rfl (Nat.le_of_ble_eq_true rfl) dX2_inGap_98 ⟨Nat.zero_le _, Nat.zero_le _⟩ (fun H locs hP hD hS => ?_)
          refine lv_istore (lv' := [(7, .int q14), (0, .ref (aS 16)), (1, .ref (aO 0)), (2, .int p1), (3, .int v2), (4, .int x4_10), (5, .int x5_3), (6, .int x6_10)]) hx hb dX2_inGap_101 hl (by decide) rfl (fun ls hl => ?_)
          refine lv_iload hx hb dX2_inGap_103 (lv_at hl 0 rfl) ?_
          refine lv_aload_n hx hb dX2_inGap_105 rfl (lv_at hl 1 rfl) ?_
          refine q_get (ci := 2) (C := RX2) (T := TX2) (N := 3) hx hb hts eX2_inGap_X2 hown hK hP 0 rfl rfl 2 (Nat.le_of_ble_eq_true rfl) k6 rfl rfl dX2_inGap_106 ?_
          refine lv_iload hx hb dX2_inGap_109 (lv_at hl 6 rfl) ?_
          obtain ⟨hn15, hF⟩ := q_ck hF
          refine va_iald hx hb hK hP 6 0 rfl rfl hn15 dX2_inGap_111 ?_
          refine lv_aload_n hx hb dX2_inGap_112 rfl (lv_at hl 1 rfl) ?_
          refine q_get (ci := 2) (C := RX2) (T := TX2) (N := 3) hx hb hts eX2_inGap_X2 hown hK hP 0 rfl rfl 2 (Nat.le_of_ble_eq_true rfl) k6 rfl rfl dX2_inGap_113 ?_
          refine lv_iload hx hb dX2_inGap_116 (lv_at hl 7 rfl) ?_
          obtain ⟨hn16, hF⟩ := q_ck hF
          refine va_iald hx hb hK hP 6 0 rfl rfl hn16 dX2_inGap_118 ?_
          obtain ⟨q17, hcq17, hF⟩ := q_bd hF
          refine q_Si (As := [.int ((upd X_lower_3 x5_3.toNatClampNeg q8) x5_3.toNatClampNeg), .int ((upd X_lower_3 x5_3.toNatClampNeg q8) x6_10.toNatClampNeg)]) (rest := [.int q14]) ⟨hx, hb, hml, hown, hts⟩ hA hK hP hD hS (tJ6_compare_7cf53 l dC dI cI cZ H.size ((upd X_lower_3 x5_3.toNatClampNeg q8) x5_3.toNatClampNeg) ((upd X_lower_3 x5_3.toNatClampNeg q8) x6_10.toNatClampNeg) q17 hcq17) (va_cwS 2 hts gX2_inGap_J6_compare_7cf53 rfl rfl rfl uJ6_compare_7cf53 ⟨Nat.le_of_ble_eq_true rfl, Nat.le_of_ble_eq_true rfl⟩) [] [(false, 0), (false, 1), (false, 2), (false, 3), (false, 4), (false, 5), (false, 6), (false, 7), (false, 8)] (iX2_inGap aS aO cI cZ P_size P_uppers P_lowers (upd X_upper_3 x5_3.toNatClampNeg q5) (upd X_lower_3 x5_3.toNatClampNeg q8) O_layers O_places) rfl rfl rfl rfl rfl rfl hl.1 rfl (Nat.le_of_ble_eq_true rfl) dX2_inGap_119 ⟨Nat.zero_le _, Nat.zero_le _⟩ (fun H locs hP hD hS => ?_)
          refine lv_imul hx hb dX2_inGap_122 ?_
          refine lv_if_ge (tgt := 129) hx hb dX2_inGap_123 (by decide) (fun hc => ?_) (fun hc => ?_)
          · replace hF := q_t hc hF
            exact JX2_INGAP_129 x4_10 x6_10 hF H locs ls hP hD hS (lv_sub hl [1, 2, 3, 4, 5, 6, 7] rfl)
          · replace hF := q_f hc hF
            refine lv_iinc (v := (x4_10 + 1)) (lv' := [(4, .int (x4_10 + 1)), (7, .int q14), (0, .ref (aS 16)), (1, .ref (aO 0)), (2, .int p1), (3, .int v2), (5, .int x5_3), (6, .int x6_10)]) hx hb dX2_inGap_126 hl (k := 5) rfl rfl (by decide) rfl (fun ls hl => ?_)
            exact JX2_INGAP_129 (x4_10 + 1) x6_10 hF H locs ls hP hD hS (lv_sub hl [2, 3, 4, 5, 0, 6, 7] rfl)
      exact L10 (x4_3, 0) hc10 H locs ls hP hD hS (lv_sub hl [1, 2, 3, 4, 5, 6, 0] rfl)
  exact L3 (0, 0, X_upper, X_lower) hc3 H locs ls hP hD hS (lv_sub hl [3, 4, 5, 2, 1, 0] rfl)
