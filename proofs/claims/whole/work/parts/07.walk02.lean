/-! Written by wip/whole/gen.py: walks of X3_pinsAgree, X3_sink, X3_settle, X6_add, X6_arrowOf, X6_collect, X6_endOf, X6_sizeOf, X4_sizeOf, X4_put, X4_append. -/
abbrev rX3_pinsAgree : Room := { frames := 1, cells := 0, slots := 0, locals := 21 }
theorem eX3_pinsAgree_X3 : ∀ w ∈ u_ws RX3 TX3 5, w ∈ wsX3_pinsAgree := by decide +kernel
theorem uX3_pinsAgree : yX3_pinsAgree.cls = RX3 ∧ yX3_pinsAgree.cls ≠ "java/lang/invoke/MethodHandle" ∧ yX3_pinsAgree.cls ≠ "java/lang/invoke/VarHandle" ∧ (parseMethodDescriptor yX3_pinsAgree.desc).map (fun d => d.parameters.length) = some 0 := by decide +kernel
set_option maxHeartbeats 4000000 in
set_option maxRecDepth 100000 in
theorem tX3_pinsAgree (l : Launch) (dC : Nat → ClassId) (dI : Nat → Nat → Nat) (cI cZ : ClassId) (aS : Nat → Nat) (sz : Nat) (R_from : Nat → Int32) (L_tops : Nat → Int32) (L_bottoms : Nat → Int32) (L_layers : Int32) (res : Int32) (hF : fX3_pinsAgree R_from L_tops L_bottoms = some res) : q_Mi l yX3_pinsAgree wsX3_pinsAgree rX3_pinsAgree (dC, dI) (q_ty cI cZ) [.ref (aS 7)] (iX3_pinsAgree aS cI cZ R_from L_tops L_bottoms L_layers) (iX3_pinsAgree aS cI cZ R_from L_tops L_bottoms L_layers) sz res := by
  refine q_metz (cc := cX3_pinsAgree) (maxL := 2) (by decide) rfl (Nat.le_of_ble_eq_true rfl) ?_
  intro p e s m args below meth c Q A H locs ls C hP hD hS hl hret
  obtain ⟨hx, hb, hml, hown, hts, hA, hK⟩ := C
  replace hl : lv_has ls 2 [(0, .ref (aS 7))] := hl
  have k0 := hts (.fieldLink RX3 21 "RouteLayout$Levels" "routes" "LRouteLayout$Routes;") (by decide +kernel)
  unfold fX3_pinsAgree at hF
  refine lv_iconst (v := 0) hx hb dX3_pinsAgree_0 (by decide) ?_
  refine lv_istore_n (lv' := [(1, .int 0), (0, .ref (aS 7))]) hx hb dX3_pinsAgree_1 rfl hl (by decide) rfl (fun ls hl => ?_)
  obtain ⟨q1, hc1, hF⟩ := q_bd hF
  have X1a : ∀ (_ : Unit), (Sum.inl () : (Unit) ⊕ (Unit)) = q1 → ∀ (H : Heap) (locs : List Loc) (ls : Array Slot), va_P (dC, dI) vwCl (iX3_pinsAgree aS cI cZ R_from L_tops L_bottoms L_layers) H → va_D A (iX3_pinsAgree aS cI cZ R_from L_tops L_bottoms L_layers) → va_S A s.heap H locs → lv_has ls 2 [] → W p l e (headSpec wsX3_pinsAgree (rX3_pinsAgree)).room s m args below meth c H locs 0 0 Q (F0 m 40 ls []) := by
    intro _ hu H locs ls hP hD hS hl
    subst hu
    replace hF := q_el hF
    refine lv_iconst (v := 1) hx hb dX3_pinsAgree_40 (by decide) ?_
    exact hret H locs ls 41 _ _ dX3_pinsAgree_41 (Or.inr rfl) (Option.some.inj hF) rfl hP hD hS
  have X1b : ∀ (_ : Unit), (Sum.inr () : (Unit) ⊕ (Unit)) = q1 → ∀ (H : Heap) (locs : List Loc) (ls : Array Slot), va_P (dC, dI) vwCl (iX3_pinsAgree aS cI cZ R_from L_tops L_bottoms L_layers) H → va_D A (iX3_pinsAgree aS cI cZ R_from L_tops L_bottoms L_layers) → va_S A s.heap H locs → lv_has ls 2 [] → W p l e (headSpec wsX3_pinsAgree (rX3_pinsAgree)).room s m args below meth c H locs 0 0 Q (F0 m 32 ls []) := by
    intro _ hu H locs ls hP hD hS hl
    subst hu
    replace hF := q_er hF
    refine lv_iconst (v := 0) hx hb dX3_pinsAgree_32 (by decide) ?_
    exact hret H locs ls 33 _ _ dX3_pinsAgree_33 (Or.inl rfl) (Option.some.inj hF) rfl hP hD hS
  have L1 : ∀ st : Int32, q_lo (fun (st : Int32) => bX3_pinsAgree_2 R_from L_tops L_bottoms st) st = some q1 → ∀ (H : Heap) (locs : List Loc) (ls : Array Slot), va_P (dC, dI) vwCl (iX3_pinsAgree aS cI cZ R_from L_tops L_bottoms L_layers) H → va_D A (iX3_pinsAgree aS cI cZ R_from L_tops L_bottoms L_layers) → va_S A s.heap H locs → lv_has ls 2 [(0, .ref (aS 7)), (1, .int st)] → W p l e (headSpec wsX3_pinsAgree (rX3_pinsAgree)).room s m args below meth c H locs 0 0 Q (F0 m 2 ls []) := by
    intro st hst
    refine q_walk (Wh := fun st : Int32 => ∀ (H : Heap) (locs : List Loc) (ls : Array Slot), va_P (dC, dI) vwCl (iX3_pinsAgree aS cI cZ R_from L_tops L_bottoms L_layers) H → va_D A (iX3_pinsAgree aS cI cZ R_from L_tops L_bottoms L_layers) → va_S A s.heap H locs → lv_has ls 2 [(0, .ref (aS 7)), (1, .int st)] → W p l e (headSpec wsX3_pinsAgree (rX3_pinsAgree)).room s m args below meth c H locs 0 0 Q (F0 m 2 ls [])) ?_ st hst
    clear hst st hF
    intro x1_1 o hF hin hex H locs ls hP hD hS hl
    replace hF : bX3_pinsAgree_2 R_from L_tops L_bottoms x1_1 = some o := hF
    replace hP : va_P (dC, dI) vwCl (iX3_pinsAgree aS cI cZ R_from L_tops L_bottoms L_layers) H := hP
    replace hD : va_D A (iX3_pinsAgree aS cI cZ R_from L_tops L_bottoms L_layers) := hD
    replace hl : lv_has ls 2 [(0, .ref (aS 7)), (1, .int x1_1)] := hl
    unfold bX3_pinsAgree_2 at hF
    have JX3_PINSAGREE_34 : ∀ (x1_2 : Int32), jX3_pinsAgree_34 x1_2 = some o → ∀ (H : Heap) (locs : List Loc) (ls : Array Slot), va_P (dC, dI) vwCl (iX3_pinsAgree aS cI cZ R_from L_tops L_bottoms L_layers) H → va_D A (iX3_pinsAgree aS cI cZ R_from L_tops L_bottoms L_layers) → va_S A s.heap H locs → lv_has ls 2 [(0, .ref (aS 7)), (1, .int x1_2)] → W p l e (headSpec wsX3_pinsAgree (rX3_pinsAgree)).room s m args below meth c H locs 0 0 Q (F0 m 34 ls []) := by
      intro x1_2 hF H locs ls hP hD hS hl
      unfold jX3_pinsAgree_34 at hF
      refine lv_iinc (v := (x1_2 + 1)) (lv' := [(1, .int (x1_2 + 1)), (0, .ref (aS 7))]) hx hb dX3_pinsAgree_34 hl (k := 1) rfl rfl (by decide) rfl (fun ls hl => ?_)
      refine lv_goto (tgt := 2) hx hb dX3_pinsAgree_37 (by decide) ?_
      exact hin _ (Option.some.inj hF).symm H locs ls hP hD hS (lv_sub hl [1, 0] rfl)
    refine lv_iload_n hx hb dX3_pinsAgree_2 rfl (lv_at hl 1 rfl) ?_
    refine lv_bipush (v := 24) hx hb dX3_pinsAgree_3 (by decide) ?_
    refine lv_icmp_ge (tgt := 40) hx hb dX3_pinsAgree_5 (by decide) (fun hc => ?_) (fun hc => ?_)
    · replace hF := q_t hc hF
      exact X1a () (hex _ (Option.some.inj hF).symm) H locs ls hP hD hS (lv_sub hl [] rfl)
    · replace hF := q_f hc hF
      refine lv_aload_n hx hb dX3_pinsAgree_8 rfl (lv_at hl 0 rfl) ?_
      refine q_get (ci := 3) (C := RX3) (T := TX3) (N := 5) hx hb hts eX3_pinsAgree_X3 hown hK hP 0 rfl rfl 0 (Nat.le_of_ble_eq_true rfl) k0 rfl rfl dX3_pinsAgree_9 ?_
      refine lv_iload_n hx hb dX3_pinsAgree_12 rfl (lv_at hl 1 rfl) ?_
      obtain ⟨q3, hcq3, hF⟩ := q_bd hF
      refine q_Vi (As := [.int x1_1]) (rest := []) ⟨hx, hb, hml, hown, hts⟩ hA hK hP hD hS (tX7_hasArrow l dC dI cI cZ aS H.size R_from x1_1 q3 hcq3) (cwV 1 hts gX3_pinsAgree_X7_hasArrow rfl rfl rfl uX7_hasArrow ⟨Nat.le_of_ble_eq_true rfl, Nat.le_of_ble_eq_true rfl⟩) [1, 2] [(false, 0), (true, 0), (true, 1), (false, 3), (false, 4)] (iX3_pinsAgree aS cI cZ R_from L_tops L_bottoms L_layers) rfl rfl rfl rfl rfl 7 0 rfl rfl rfl rfl hl.1 rfl (Nat.le_of_ble_eq_true rfl) dX3_pinsAgree_13 ⟨Nat.zero_le _, Nat.zero_le _⟩ (fun H locs hP hD hS => ?_)
      refine lv_if_eq (tgt := 34) hx hb dX3_pinsAgree_16 (by decide) (fun hc => ?_) (fun hc => ?_)
      · replace hF := q_t hc hF
        exact JX3_PINSAGREE_34 x1_1 hF H locs ls hP hD hS (lv_sub hl [0, 1] rfl)
      · replace hF := q_f hc hF
        refine lv_aload_n hx hb dX3_pinsAgree_19 rfl (lv_at hl 0 rfl) ?_
        refine lv_iload_n hx hb dX3_pinsAgree_20 rfl (lv_at hl 1 rfl) ?_
        obtain ⟨q4, hcq4, hF⟩ := q_bd hF
        refine q_Vi (As := [.int x1_1]) (rest := []) ⟨hx, hb, hml, hown, hts⟩ hA hK hP hD hS (tX3_bottom l dC dI cI cZ aS H.size L_bottoms L_layers x1_1 q4 hcq4) (cwV 1 hts gX3_pinsAgree_X3_bottom rfl rfl rfl uX3_bottom ⟨Nat.le_of_ble_eq_true rfl, Nat.le_of_ble_eq_true rfl⟩) [0, 4] [(true, 0), (false, 1), (false, 2), (false, 3), (true, 1)] (iX3_pinsAgree aS cI cZ R_from L_tops L_bottoms L_layers) rfl rfl rfl rfl rfl 3 0 rfl rfl rfl rfl hl.1 rfl (Nat.le_of_ble_eq_true rfl) dX3_pinsAgree_21 ⟨Nat.zero_le _, Nat.zero_le _⟩ (fun H locs hP hD hS => ?_)
        refine lv_aload_n hx hb dX3_pinsAgree_24 rfl (lv_at hl 0 rfl) ?_
        refine lv_iload_n hx hb dX3_pinsAgree_25 rfl (lv_at hl 1 rfl) ?_
        obtain ⟨q5, hcq5, hF⟩ := q_bd hF
        refine q_Vi (As := [.int x1_1]) (rest := [.int q4]) ⟨hx, hb, hml, hown, hts⟩ hA hK hP hD hS (tX3_top l dC dI cI cZ aS H.size L_tops L_layers x1_1 q5 hcq5) (cwV 1 hts gX3_pinsAgree_X3_top rfl rfl rfl uX3_top ⟨Nat.le_of_ble_eq_true rfl, Nat.le_of_ble_eq_true rfl⟩) [0, 3] [(true, 0), (false, 1), (false, 2), (true, 1), (false, 4)] (iX3_pinsAgree aS cI cZ R_from L_tops L_bottoms L_layers) rfl rfl rfl rfl rfl 3 0 rfl rfl rfl rfl hl.1 rfl (Nat.le_of_ble_eq_true rfl) dX3_pinsAgree_26 ⟨Nat.zero_le _, Nat.zero_le _⟩ (fun H locs hP hD hS => ?_)
        refine lv_icmp_gt (tgt := 34) hx hb dX3_pinsAgree_29 (by decide) (fun hc => ?_) (fun hc => ?_)
        · replace hF := q_t hc hF
          exact JX3_PINSAGREE_34 x1_1 hF H locs ls hP hD hS (lv_sub hl [0, 1] rfl)
        · replace hF := q_f hc hF
          exact X1b () (hex _ (Option.some.inj hF).symm) H locs ls hP hD hS (lv_sub hl [] rfl)
  exact L1 0 hc1 H locs ls hP hD hS (lv_sub hl [1, 0] rfl)
abbrev rX3_sink : Room := { frames := 2, cells := 0, slots := 0, locals := 42 }
theorem eX3_sink_X3 : ∀ w ∈ u_ws RX3 TX3 5, w ∈ wsX3_sink := by decide +kernel
theorem uX3_sink : yX3_sink.cls = RX3 ∧ yX3_sink.cls ≠ "java/lang/invoke/MethodHandle" ∧ yX3_sink.cls ≠ "java/lang/invoke/VarHandle" ∧ (parseMethodDescriptor yX3_sink.desc).map (fun d => d.parameters.length) = some 0 := by decide +kernel
set_option maxHeartbeats 4000000 in
set_option maxRecDepth 100000 in
theorem tX3_sink (l : Launch) (dC : Nat → ClassId) (dI : Nat → Nat → Nat) (cI cZ : ClassId) (aS : Nat → Nat) (sz : Nat) (R_width : Nat → Int32) (R_pinned : Nat → Int32) (R_from : Nat → Int32) (R_to : Nat → Int32) (R_turned : Nat → Int32) (L_layer : Nat → Int32) (L_layers : Int32) (res : (Nat → Int32)) (hF : fX3_sink R_width R_pinned R_from R_to R_turned L_layer = some res) : q_Mv l yX3_sink wsX3_sink rX3_sink (dC, dI) (q_ty cI cZ) [.ref (aS 7)] (iX3_sink aS cI cZ R_width R_pinned R_from R_to R_turned L_layer L_layers) (iX3_sink aS cI cZ R_width R_pinned R_from R_to R_turned res L_layers) sz := by
  refine q_metv (cc := cX3_sink) (maxL := 5) (by decide) rfl (Nat.le_of_ble_eq_true rfl) ?_
  intro p e s m args below meth c Q A H locs ls C hP hD hS hl hret
  obtain ⟨hx, hb, hml, hown, hts, hA, hK⟩ := C
  replace hl : lv_has ls 5 [(0, .ref (aS 7))] := hl
  have k0 := hts (.fieldLink RX3 9 "RouteLayout$Levels" "layer" "[I") (by decide +kernel)
  have k1 := hts (.fieldLink RX3 21 "RouteLayout$Levels" "routes" "LRouteLayout$Routes;") (by decide +kernel)
  unfold fX3_sink at hF
  refine lv_iconst (v := 0) hx hb dX3_sink_0 (by decide) ?_
  refine lv_istore_n (lv' := [(1, .int 0), (0, .ref (aS 7))]) hx hb dX3_sink_1 rfl hl (by decide) rfl (fun ls hl => ?_)
  obtain ⟨q1, hc1, hF⟩ := q_bd hF
  have X1 : ∀ (u1 : Nat → Int32), u1 = q1 → ∀ (H : Heap) (locs : List Loc) (ls : Array Slot), va_P (dC, dI) vwCl (iX3_sink aS cI cZ R_width R_pinned R_from R_to R_turned u1 L_layers) H → va_D A (iX3_sink aS cI cZ R_width R_pinned R_from R_to R_turned u1 L_layers) → va_S A s.heap H locs → lv_has ls 5 [] → W p l e (headSpec wsX3_sink (rX3_sink)).room s m args below meth c H locs 0 0 Q (F0 m 95 ls []) := by
    intro u1 hu H locs ls hP hD hS hl
    subst hu
    exact hret H locs ls 95 _ dX3_sink_95 (congrArg (fun z : (Nat → Int32) => (iX3_sink aS cI cZ R_width R_pinned R_from R_to R_turned z L_layers)) (Option.some.inj hF)) hP hD hS
  have L1 : ∀ st : Int32 × (Nat → Int32), q_lo (fun (st : Int32 × (Nat → Int32)) => bX3_sink_2 R_width R_pinned R_from R_to R_turned st.1 st.2) st = some q1 → ∀ (H : Heap) (locs : List Loc) (ls : Array Slot), va_P (dC, dI) vwCl (iX3_sink aS cI cZ R_width R_pinned R_from R_to R_turned st.2 L_layers) H → va_D A (iX3_sink aS cI cZ R_width R_pinned R_from R_to R_turned st.2 L_layers) → va_S A s.heap H locs → lv_has ls 5 [(0, .ref (aS 7)), (1, .int st.1)] → W p l e (headSpec wsX3_sink (rX3_sink)).room s m args below meth c H locs 0 0 Q (F0 m 2 ls []) := by
    intro st hst
    refine q_walk (Wh := fun st : Int32 × (Nat → Int32) => ∀ (H : Heap) (locs : List Loc) (ls : Array Slot), va_P (dC, dI) vwCl (iX3_sink aS cI cZ R_width R_pinned R_from R_to R_turned st.2 L_layers) H → va_D A (iX3_sink aS cI cZ R_width R_pinned R_from R_to R_turned st.2 L_layers) → va_S A s.heap H locs → lv_has ls 5 [(0, .ref (aS 7)), (1, .int st.1)] → W p l e (headSpec wsX3_sink (rX3_sink)).room s m args below meth c H locs 0 0 Q (F0 m 2 ls [])) ?_ st hst
    clear hst st hF
    intro st o hF hin hex H locs ls hP hD hS hl
    obtain ⟨x1_1, L_layer_1⟩ := st
    replace hF : bX3_sink_2 R_width R_pinned R_from R_to R_turned x1_1 L_layer_1 = some o := hF
    replace hP : va_P (dC, dI) vwCl (iX3_sink aS cI cZ R_width R_pinned R_from R_to R_turned L_layer_1 L_layers) H := hP
    replace hD : va_D A (iX3_sink aS cI cZ R_width R_pinned R_from R_to R_turned L_layer_1 L_layers) := hD
    replace hl : lv_has ls 5 [(0, .ref (aS 7)), (1, .int x1_1)] := hl
    unfold bX3_sink_2 at hF
    have JX3_SINK_89 : ∀ (L_layer_2 : Nat → Int32) (x1_2 : Int32), jX3_sink_89 L_layer_2 x1_2 = some o → ∀ (H : Heap) (locs : List Loc) (ls : Array Slot), va_P (dC, dI) vwCl (iX3_sink aS cI cZ R_width R_pinned R_from R_to R_turned L_layer_2 L_layers) H → va_D A (iX3_sink aS cI cZ R_width R_pinned R_from R_to R_turned L_layer_2 L_layers) → va_S A s.heap H locs → lv_has ls 5 [(0, .ref (aS 7)), (1, .int x1_2)] → W p l e (headSpec wsX3_sink (rX3_sink)).room s m args below meth c H locs 0 0 Q (F0 m 89 ls []) := by
      intro L_layer_2 x1_2 hF H locs ls hP hD hS hl
      unfold jX3_sink_89 at hF
      refine lv_iinc (v := (x1_2 + 1)) (lv' := [(1, .int (x1_2 + 1)), (0, .ref (aS 7))]) hx hb dX3_sink_89 hl (k := 1) rfl rfl (by decide) rfl (fun ls hl => ?_)
      refine lv_goto (tgt := 2) hx hb dX3_sink_92 (by decide) ?_
      exact hin _ (Option.some.inj hF).symm H locs ls hP hD hS (lv_sub hl [1, 0] rfl)
    have JX3_SINK_59 : ∀ (L_layer_3 : Nat → Int32) (x1_3 : Int32) (x2_3 : Int32) (x3_3 : Int32) (s0_3 : Int32), jX3_sink_59 L_layer_3 x1_3 x2_3 x3_3 s0_3 = some o → ∀ (H : Heap) (locs : List Loc) (ls : Array Slot), va_P (dC, dI) vwCl (iX3_sink aS cI cZ R_width R_pinned R_from R_to R_turned L_layer_3 L_layers) H → va_D A (iX3_sink aS cI cZ R_width R_pinned R_from R_to R_turned L_layer_3 L_layers) → va_S A s.heap H locs → lv_has ls 5 [(0, .ref (aS 7)), (1, .int x1_3), (2, .int x2_3), (3, .int x3_3)] → W p l e (headSpec wsX3_sink (rX3_sink)).room s m args below meth c H locs 0 0 Q (F0 m 59 ls [.int s0_3]) := by
      intro L_layer_3 x1_3 x2_3 x3_3 s0_3 hF H locs ls hP hD hS hl
      unfold jX3_sink_59 at hF
      refine lv_istore (lv' := [(4, .int s0_3), (0, .ref (aS 7)), (1, .int x1_3), (2, .int x2_3), (3, .int x3_3)]) hx hb dX3_sink_59 hl (by decide) rfl (fun ls hl => ?_)
      refine lv_iload hx hb dX3_sink_61 (lv_at hl 0 rfl) ?_
      refine lv_if_eq (tgt := 89) hx hb dX3_sink_63 (by decide) (fun hc => ?_) (fun hc => ?_)
      · replace hF := q_t hc hF
        exact JX3_SINK_89 L_layer_3 x1_3 hF H locs ls hP hD hS (lv_sub hl [1, 2] rfl)
      · replace hF := q_f hc hF
        refine lv_aload_n hx hb dX3_sink_66 rfl (lv_at hl 1 rfl) ?_
        refine q_get (ci := 3) (C := RX3) (T := TX3) (N := 5) hx hb hts eX3_sink_X3 hown hK hP 0 rfl rfl 1 (Nat.le_of_ble_eq_true rfl) k0 rfl rfl dX3_sink_67 ?_
        refine lv_iload_n hx hb dX3_sink_70 rfl (lv_at hl 3 rfl) ?_
        obtain ⟨hn4, hF⟩ := q_ck hF
        refine va_iald hx hb hK hP 7 0 rfl rfl hn4 dX3_sink_71 ?_
        refine lv_iload_n hx hb dX3_sink_72 rfl (lv_at hl 4 rfl) ?_
        refine lv_icmp_ge (tgt := 89) hx hb dX3_sink_73 (by decide) (fun hc => ?_) (fun hc => ?_)
        · replace hF := q_t hc hF
          exact JX3_SINK_89 L_layer_3 x1_3 hF H locs ls hP hD hS (lv_sub hl [1, 2] rfl)
        · replace hF := q_f hc hF
          refine lv_iload_n hx hb dX3_sink_76 rfl (lv_at hl 4 rfl) ?_
          refine lv_bipush (v := 24) hx hb dX3_sink_77 (by decide) ?_
          refine lv_icmp_ge (tgt := 89) hx hb dX3_sink_79 (by decide) (fun hc => ?_) (fun hc => ?_)
          · replace hF := q_t hc hF
            exact JX3_SINK_89 L_layer_3 x1_3 hF H locs ls hP hD hS (lv_sub hl [1, 2] rfl)
          · replace hF := q_f hc hF
            refine lv_aload_n hx hb dX3_sink_82 rfl (lv_at hl 1 rfl) ?_
            refine q_get (ci := 3) (C := RX3) (T := TX3) (N := 5) hx hb hts eX3_sink_X3 hown hK hP 0 rfl rfl 1 (Nat.le_of_ble_eq_true rfl) k0 rfl rfl dX3_sink_83 ?_
            refine lv_iload_n hx hb dX3_sink_86 rfl (lv_at hl 3 rfl) ?_
            refine lv_iload_n hx hb dX3_sink_87 rfl (lv_at hl 4 rfl) ?_
            obtain ⟨hn5, hF⟩ := q_ck hF
            refine q_iast hx hb hK hP hD hS 7 0 (iX3_sink aS cI cZ R_width R_pinned R_from R_to R_turned (upd L_layer_3 x2_3.toNatClampNeg x3_3) L_layers) rfl rfl hn5 rfl dX3_sink_88 (fun H locs hP hD hS => ?_)
            exact JX3_SINK_89 (upd L_layer_3 x2_3.toNatClampNeg x3_3) x1_3 hF H locs ls hP hD hS (lv_sub hl [1, 2] rfl)
    have JX3_SINK_58 : ∀ (L_layer_6 : Nat → Int32) (x1_6 : Int32) (x2_6 : Int32) (x3_6 : Int32), jX3_sink_58 L_layer_6 x1_6 x2_6 x3_6 = some o → ∀ (H : Heap) (locs : List Loc) (ls : Array Slot), va_P (dC, dI) vwCl (iX3_sink aS cI cZ R_width R_pinned R_from R_to R_turned L_layer_6 L_layers) H → va_D A (iX3_sink aS cI cZ R_width R_pinned R_from R_to R_turned L_layer_6 L_layers) → va_S A s.heap H locs → lv_has ls 5 [(0, .ref (aS 7)), (1, .int x1_6), (2, .int x2_6), (3, .int x3_6)] → W p l e (headSpec wsX3_sink (rX3_sink)).room s m args below meth c H locs 0 0 Q (F0 m 58 ls []) := by
      intro L_layer_6 x1_6 x2_6 x3_6 hF H locs ls hP hD hS hl
      unfold jX3_sink_58 at hF
      refine lv_iconst (v := 0) hx hb dX3_sink_58 (by decide) ?_
      exact JX3_SINK_59 L_layer_6 x1_6 x2_6 x3_6 0 hF H locs ls hP hD hS (lv_sub hl [0, 1, 2, 3] rfl)
    refine lv_iload_n hx hb dX3_sink_2 rfl (lv_at hl 1 rfl) ?_
    refine lv_bipush (v := 24) hx hb dX3_sink_3 (by decide) ?_
    refine lv_icmp_ge (tgt := 95) hx hb dX3_sink_5 (by decide) (fun hc => ?_) (fun hc => ?_)
    · replace hF := q_t hc hF
      exact X1 _ (hex _ (Option.some.inj hF).symm) H locs ls hP hD hS (lv_sub hl [] rfl)
    · replace hF := q_f hc hF
      refine lv_aload_n hx hb dX3_sink_8 rfl (lv_at hl 0 rfl) ?_
      refine q_get (ci := 3) (C := RX3) (T := TX3) (N := 5) hx hb hts eX3_sink_X3 hown hK hP 0 rfl rfl 0 (Nat.le_of_ble_eq_true rfl) k1 rfl rfl dX3_sink_9 ?_
      refine lv_iload_n hx hb dX3_sink_12 rfl (lv_at hl 1 rfl) ?_
      obtain ⟨q7, hcq7, hF⟩ := q_bd hF
      refine q_Vi (As := [.int x1_1]) (rest := []) ⟨hx, hb, hml, hown, hts⟩ hA hK hP hD hS (tX7_lowerBox l dC dI cI cZ aS H.size R_from R_to R_turned x1_1 q7 hcq7) (cwV 1 hts gX3_sink_X7_lowerBox rfl rfl rfl uX7_lowerBox ⟨Nat.le_of_ble_eq_true rfl, Nat.le_of_ble_eq_true rfl⟩) [1, 4, 5, 6] [(false, 0), (true, 0), (false, 2), (false, 3), (true, 1), (true, 2), (true, 3), (false, 7)] (iX3_sink aS cI cZ R_width R_pinned R_from R_to R_turned L_layer_1 L_layers) rfl rfl rfl rfl rfl 7 0 rfl rfl rfl rfl hl.1 rfl (Nat.le_of_ble_eq_true rfl) dX3_sink_13 ⟨Nat.zero_le _, Nat.zero_le _⟩ (fun H locs hP hD hS => ?_)
      refine lv_istore_n (lv' := [(2, .int q7), (0, .ref (aS 7)), (1, .int x1_1)]) hx hb dX3_sink_16 rfl hl (by decide) rfl (fun ls hl => ?_)
      refine lv_aload_n hx hb dX3_sink_17 rfl (lv_at hl 1 rfl) ?_
      refine lv_aload_n hx hb dX3_sink_18 rfl (lv_at hl 1 rfl) ?_
      refine q_get (ci := 3) (C := RX3) (T := TX3) (N := 5) hx hb hts eX3_sink_X3 hown hK hP 0 rfl rfl 0 (Nat.le_of_ble_eq_true rfl) k1 rfl rfl dX3_sink_19 ?_
      refine lv_iload_n hx hb dX3_sink_22 rfl (lv_at hl 2 rfl) ?_
      obtain ⟨q8, hcq8, hF⟩ := q_bd hF
      refine q_Vi (As := [.int x1_1]) (rest := [.ref (aS 7)]) ⟨hx, hb, hml, hown, hts⟩ hA hK hP hD hS (tX7_upperBox l dC dI cI cZ aS H.size R_from R_to R_turned x1_1 q8 hcq8) (cwV 1 hts gX3_sink_X7_upperBox rfl rfl rfl uX7_upperBox ⟨Nat.le_of_ble_eq_true rfl, Nat.le_of_ble_eq_true rfl⟩) [1, 4, 5, 6] [(false, 0), (true, 0), (false, 2), (false, 3), (true, 1), (true, 2), (true, 3), (false, 7)] (iX3_sink aS cI cZ R_width R_pinned R_from R_to R_turned L_layer_1 L_layers) rfl rfl rfl rfl rfl 7 0 rfl rfl rfl rfl hl.1 rfl (Nat.le_of_ble_eq_true rfl) dX3_sink_23 ⟨Nat.zero_le _, Nat.zero_le _⟩ (fun H locs hP hD hS => ?_)
      obtain ⟨q9, hcq9, hF⟩ := q_bd hF
      refine q_Vi (As := [.int q8]) (rest := []) ⟨hx, hb, hml, hown, hts⟩ hA hK hP hD hS (tX3_layerOf l dC dI cI cZ aS H.size L_layer_1 L_layers q8 q9 hcq9) (cwV 1 hts gX3_sink_X3_layerOf rfl rfl rfl uX3_layerOf ⟨Nat.le_of_ble_eq_true rfl, Nat.le_of_ble_eq_true rfl⟩) [0, 7] [(true, 0), (false, 1), (false, 2), (false, 3), (false, 4), (false, 5), (false, 6), (true, 1)] (iX3_sink aS cI cZ R_width R_pinned R_from R_to R_turned L_layer_1 L_layers) rfl rfl rfl rfl rfl 3 0 rfl rfl rfl rfl hl.1 rfl (Nat.le_of_ble_eq_true rfl) dX3_sink_26 ⟨Nat.zero_le _, Nat.zero_le _⟩ (fun H locs hP hD hS => ?_)
      refine lv_iconst (v := 1) hx hb dX3_sink_29 (by decide) ?_
      refine lv_iadd hx hb dX3_sink_30 ?_
      refine lv_istore_n (lv' := [(3, .int (q9 + 1)), (2, .int q7), (0, .ref (aS 7)), (1, .int x1_1)]) hx hb dX3_sink_31 rfl hl (by decide) rfl (fun ls hl => ?_)
      refine lv_aload_n hx hb dX3_sink_32 rfl (lv_at hl 2 rfl) ?_
      refine q_get (ci := 3) (C := RX3) (T := TX3) (N := 5) hx hb hts eX3_sink_X3 hown hK hP 0 rfl rfl 0 (Nat.le_of_ble_eq_true rfl) k1 rfl rfl dX3_sink_33 ?_
      refine lv_iload_n hx hb dX3_sink_36 rfl (lv_at hl 1 rfl) ?_
      obtain ⟨q10, hcq10, hF⟩ := q_bd hF
      refine q_Vi (As := [.int q7]) (rest := []) ⟨hx, hb, hml, hown, hts⟩ hA hK hP hD hS (tX7_hasBox l dC dI cI cZ aS H.size R_width q7 q10 hcq10) (cwV 1 hts gX3_sink_X7_hasBox rfl rfl rfl uX7_hasBox ⟨Nat.le_of_ble_eq_true rfl, Nat.le_of_ble_eq_true rfl⟩) [1, 2] [(false, 0), (true, 0), (true, 1), (false, 3), (false, 4), (false, 5), (false, 6), (false, 7)] (iX3_sink aS cI cZ R_width R_pinned R_from R_to R_turned L_layer_1 L_layers) rfl rfl rfl rfl rfl 7 0 rfl rfl rfl rfl hl.1 rfl (Nat.le_of_ble_eq_true rfl) dX3_sink_37 ⟨Nat.zero_le _, Nat.zero_le _⟩ (fun H locs hP hD hS => ?_)
      refine lv_if_eq (tgt := 58) hx hb dX3_sink_40 (by decide) (fun hc => ?_) (fun hc => ?_)
      · replace hF := q_t hc hF
        exact JX3_SINK_58 L_layer_1 x1_1 q7 (q9 + 1) hF H locs ls hP hD hS (lv_sub hl [2, 3, 1, 0] rfl)
      · replace hF := q_f hc hF
        refine lv_aload_n hx hb dX3_sink_43 rfl (lv_at hl 2 rfl) ?_
        refine q_get (ci := 3) (C := RX3) (T := TX3) (N := 5) hx hb hts eX3_sink_X3 hown hK hP 0 rfl rfl 0 (Nat.le_of_ble_eq_true rfl) k1 rfl rfl dX3_sink_44 ?_
        refine lv_iload_n hx hb dX3_sink_47 rfl (lv_at hl 1 rfl) ?_
        obtain ⟨q11, hcq11, hF⟩ := q_bd hF
        refine q_Vi (As := [.int q7]) (rest := []) ⟨hx, hb, hml, hown, hts⟩ hA hK hP hD hS (tX7_isPinned l dC dI cI cZ aS H.size R_width R_pinned q7 q11 hcq11) (cwV 1 hts gX3_sink_X7_isPinned rfl rfl rfl uX7_isPinned ⟨Nat.le_of_ble_eq_true rfl, Nat.le_of_ble_eq_true rfl⟩) [1, 2, 3] [(false, 0), (true, 0), (true, 1), (true, 2), (false, 4), (false, 5), (false, 6), (false, 7)] (iX3_sink aS cI cZ R_width R_pinned R_from R_to R_turned L_layer_1 L_layers) rfl rfl rfl rfl rfl 7 0 rfl rfl rfl rfl hl.1 rfl (Nat.le_of_ble_eq_true rfl) dX3_sink_48 ⟨Nat.zero_le _, Nat.zero_le _⟩ (fun H locs hP hD hS => ?_)
        refine lv_if_ne (tgt := 58) hx hb dX3_sink_51 (by decide) (fun hc => ?_) (fun hc => ?_)
        · replace hF := q_f hc hF
          exact JX3_SINK_58 L_layer_1 x1_1 q7 (q9 + 1) hF H locs ls hP hD hS (lv_sub hl [2, 3, 1, 0] rfl)
        · replace hF := q_t hc hF
          refine lv_iconst (v := 1) hx hb dX3_sink_54 (by decide) ?_
          refine lv_goto (tgt := 59) hx hb dX3_sink_55 (by decide) ?_
          exact JX3_SINK_59 L_layer_1 x1_1 q7 (q9 + 1) 1 hF H locs ls hP hD hS (lv_sub hl [2, 3, 1, 0] rfl)
  exact L1 (0, L_layer) hc1 H locs ls hP hD hS (lv_sub hl [1, 0] rfl)
abbrev rX3_settle : Room := { frames := 3, cells := 0, slots := 0, locals := 66 }
theorem uX3_settle : yX3_settle.cls = RX3 ∧ yX3_settle.cls ≠ "java/lang/invoke/MethodHandle" ∧ yX3_settle.cls ≠ "java/lang/invoke/VarHandle" ∧ (parseMethodDescriptor yX3_settle.desc).map (fun d => d.parameters.length) = some 0 := by decide +kernel
set_option maxHeartbeats 4000000 in
set_option maxRecDepth 100000 in
theorem tX3_settle (l : Launch) (dC : Nat → ClassId) (dI : Nat → Nat → Nat) (cI cZ : ClassId) (aS : Nat → Nat) (sz : Nat) (R_width : Nat → Int32) (R_pinned : Nat → Int32) (R_from : Nat → Int32) (R_to : Nat → Int32) (R_turned : Nat → Int32) (L_layer : Nat → Int32) (L_tops : Nat → Int32) (L_bottoms : Nat → Int32) (L_layers : Int32) (res : Int32 × (Nat → Int32) × (Nat → Int32) × (Nat → Int32) × Int32) (hF : fX3_settle R_width R_pinned R_from R_to R_turned L_layer L_tops L_bottoms = some res) : q_Mi l yX3_settle wsX3_settle rX3_settle (dC, dI) (q_ty cI cZ) [.ref (aS 7)] (iX3_settle aS cI cZ R_width R_pinned R_from R_to R_turned L_layer L_tops L_bottoms L_layers) (iX3_settle aS cI cZ R_width R_pinned R_from R_to R_turned res.2.1 res.2.2.1 res.2.2.2.1 res.2.2.2.2) sz res.1 := by
  refine q_metz (cc := cX3_settle) (maxL := 2) (by decide) rfl (Nat.le_of_ble_eq_true rfl) ?_
  intro p e s m args below meth c Q A H locs ls C hP hD hS hl hret
  obtain ⟨hx, hb, hml, hown, hts, hA, hK⟩ := C
  replace hl : lv_has ls 2 [(0, .ref (aS 7))] := hl
  unfold fX3_settle at hF
  refine lv_aload_n hx hb dX3_settle_0 rfl (lv_at hl 0 rfl) ?_
  obtain ⟨q1, hcq1, hF⟩ := q_bd hF
  refine q_Vv (As := []) (rest := []) ⟨hx, hb, hml, hown, hts⟩ hA hK hP hD hS (tX3_lift l dC dI cI cZ aS H.size R_width R_pinned L_layer L_layers q1 hcq1) (cwV 0 hts gX3_settle_X3_lift rfl rfl rfl uX3_lift ⟨Nat.le_of_ble_eq_true rfl, Nat.le_of_ble_eq_true rfl⟩) [0, 1, 2, 3, 7] [(true, 0), (true, 1), (true, 2), (true, 3), (false, 4), (false, 5), (false, 6), (true, 4), (false, 8), (false, 9)] (iX3_settle aS cI cZ R_width R_pinned R_from R_to R_turned q1 L_tops L_bottoms L_layers) rfl rfl rfl rfl rfl 3 0 rfl rfl rfl rfl hl.1 rfl (Nat.le_of_ble_eq_true rfl) dX3_settle_1 ⟨Nat.zero_le _, Nat.zero_le _⟩ (fun H locs hP hD hS => ?_)
  refine lv_iconst (v := 0) hx hb dX3_settle_4 (by decide) ?_
  refine lv_istore_n (lv' := [(1, .int 0), (0, .ref (aS 7))]) hx hb dX3_settle_5 rfl hl (by decide) rfl (fun ls hl => ?_)
  obtain ⟨q2, hc2, hF⟩ := q_bd hF
  have X2 : ∀ (u2 : Nat → Int32), u2 = q2 → ∀ (H : Heap) (locs : List Loc) (ls : Array Slot), va_P (dC, dI) vwCl (iX3_settle aS cI cZ R_width R_pinned R_from R_to R_turned u2 L_tops L_bottoms L_layers) H → va_D A (iX3_settle aS cI cZ R_width R_pinned R_from R_to R_turned u2 L_tops L_bottoms L_layers) → va_S A s.heap H locs → lv_has ls 2 [(0, .ref (aS 7))] → W p l e (headSpec wsX3_settle (rX3_settle)).room s m args below meth c H locs 0 0 Q (F0 m 22 ls []) := by
    intro u2 hu H locs ls hP hD hS hl
    subst hu
    refine lv_aload_n hx hb dX3_settle_22 rfl (lv_at hl 0 rfl) ?_
    obtain ⟨q4, hcq4, hF⟩ := q_bd hF
    refine q_Vv (As := []) (rest := []) ⟨hx, hb, hml, hown, hts⟩ hA hK hP hD hS (tX3_countLayers l dC dI cI cZ aS H.size u2 L_layers q4 hcq4) (cwV 0 hts gX3_settle_X3_countLayers rfl rfl rfl uX3_countLayers ⟨Nat.le_of_ble_eq_true rfl, Nat.le_of_ble_eq_true rfl⟩) [0, 7] [(true, 0), (false, 1), (false, 2), (false, 3), (false, 4), (false, 5), (false, 6), (true, 1), (false, 8), (false, 9)] (iX3_settle aS cI cZ R_width R_pinned R_from R_to R_turned u2 L_tops L_bottoms q4) rfl rfl rfl rfl rfl 3 0 rfl rfl rfl rfl hl.1 rfl (Nat.le_of_ble_eq_true rfl) dX3_settle_23 ⟨Nat.zero_le _, Nat.zero_le _⟩ (fun H locs hP hD hS => ?_)
    refine lv_aload_n hx hb dX3_settle_26 rfl (lv_at hl 0 rfl) ?_
    obtain ⟨q5_0, q5_1, hcq5, hF⟩ := q_bd2 hF
    refine q_Vv (As := []) (rest := []) ⟨hx, hb, hml, hown, hts⟩ hA hK hP hD hS (tX3_markEnds l dC dI cI cZ aS H.size R_from R_to R_turned u2 L_tops L_bottoms q4 (q5_0, q5_1) hcq5) (cwV 0 hts gX3_settle_X3_markEnds rfl rfl rfl uX3_markEnds ⟨Nat.le_of_ble_eq_true rfl, Nat.le_of_ble_eq_true rfl⟩) [0, 1, 4, 5, 6, 7, 8, 9] [(true, 0), (true, 1), (false, 2), (false, 3), (true, 2), (true, 3), (true, 4), (true, 5), (true, 6), (true, 7)] (iX3_settle aS cI cZ R_width R_pinned R_from R_to R_turned u2 q5_0 q5_1 q4) rfl rfl rfl rfl rfl 3 0 rfl rfl rfl rfl hl.1 rfl (Nat.le_of_ble_eq_true rfl) dX3_settle_27 ⟨Nat.zero_le _, Nat.zero_le _⟩ (fun H locs hP hD hS => ?_)
    refine lv_aload_n hx hb dX3_settle_30 rfl (lv_at hl 0 rfl) ?_
    obtain ⟨q6, hcq6, hF⟩ := q_bd hF
    refine q_Vi (As := []) (rest := []) ⟨hx, hb, hml, hown, hts⟩ hA hK hP hD hS (tX3_pinsAgree l dC dI cI cZ aS H.size R_from q5_0 q5_1 q4 q6 hcq6) (cwV 0 hts gX3_settle_X3_pinsAgree rfl rfl rfl uX3_pinsAgree ⟨Nat.le_of_ble_eq_true rfl, Nat.le_of_ble_eq_true rfl⟩) [0, 1, 4, 8, 9] [(true, 0), (true, 1), (false, 2), (false, 3), (true, 2), (false, 5), (false, 6), (false, 7), (true, 3), (true, 4)] (iX3_settle aS cI cZ R_width R_pinned R_from R_to R_turned u2 q5_0 q5_1 q4) rfl rfl rfl rfl rfl 3 0 rfl rfl rfl rfl hl.1 rfl (Nat.le_of_ble_eq_true rfl) dX3_settle_31 ⟨Nat.zero_le _, Nat.zero_le _⟩ (fun H locs hP hD hS => ?_)
    obtain ⟨hn7, hF⟩ := q_ck hF
    exact hret H locs ls 34 _ _ dX3_settle_34 hn7 (congrArg Prod.fst (Option.some.inj hF)) (congrArg (fun z : Int32 × (Nat → Int32) × (Nat → Int32) × (Nat → Int32) × Int32 => (iX3_settle aS cI cZ R_width R_pinned R_from R_to R_turned z.2.1 z.2.2.1 z.2.2.2.1 z.2.2.2.2)) (Option.some.inj hF)) hP hD hS
  have L2 : ∀ st : Int32 × (Nat → Int32), q_lo (fun (st : Int32 × (Nat → Int32)) => bX3_settle_6 R_width R_pinned R_from R_to R_turned st.1 st.2) st = some q2 → ∀ (H : Heap) (locs : List Loc) (ls : Array Slot), va_P (dC, dI) vwCl (iX3_settle aS cI cZ R_width R_pinned R_from R_to R_turned st.2 L_tops L_bottoms L_layers) H → va_D A (iX3_settle aS cI cZ R_width R_pinned R_from R_to R_turned st.2 L_tops L_bottoms L_layers) → va_S A s.heap H locs → lv_has ls 2 [(0, .ref (aS 7)), (1, .int st.1)] → W p l e (headSpec wsX3_settle (rX3_settle)).room s m args below meth c H locs 0 0 Q (F0 m 6 ls []) := by
    intro st hst
    refine q_walk (Wh := fun st : Int32 × (Nat → Int32) => ∀ (H : Heap) (locs : List Loc) (ls : Array Slot), va_P (dC, dI) vwCl (iX3_settle aS cI cZ R_width R_pinned R_from R_to R_turned st.2 L_tops L_bottoms L_layers) H → va_D A (iX3_settle aS cI cZ R_width R_pinned R_from R_to R_turned st.2 L_tops L_bottoms L_layers) → va_S A s.heap H locs → lv_has ls 2 [(0, .ref (aS 7)), (1, .int st.1)] → W p l e (headSpec wsX3_settle (rX3_settle)).room s m args below meth c H locs 0 0 Q (F0 m 6 ls [])) ?_ st hst
    clear hst st hF
    intro st o hF hin hex H locs ls hP hD hS hl
    obtain ⟨x1_2, L_layer_2⟩ := st
    replace hF : bX3_settle_6 R_width R_pinned R_from R_to R_turned x1_2 L_layer_2 = some o := hF
    replace hP : va_P (dC, dI) vwCl (iX3_settle aS cI cZ R_width R_pinned R_from R_to R_turned L_layer_2 L_tops L_bottoms L_layers) H := hP
    replace hD : va_D A (iX3_settle aS cI cZ R_width R_pinned R_from R_to R_turned L_layer_2 L_tops L_bottoms L_layers) := hD
    replace hl : lv_has ls 2 [(0, .ref (aS 7)), (1, .int x1_2)] := hl
    unfold bX3_settle_6 at hF
    refine lv_iload_n hx hb dX3_settle_6 rfl (lv_at hl 1 rfl) ?_
    refine lv_bipush (v := 16) hx hb dX3_settle_7 (by decide) ?_
    refine lv_icmp_ge (tgt := 22) hx hb dX3_settle_9 (by decide) (fun hc => ?_) (fun hc => ?_)
    · replace hF := q_t hc hF
      exact X2 _ (hex _ (Option.some.inj hF).symm) H locs ls hP hD hS (lv_sub hl [0] rfl)
    · replace hF := q_f hc hF
      refine lv_aload_n hx hb dX3_settle_12 rfl (lv_at hl 0 rfl) ?_
      obtain ⟨q3, hcq3, hF⟩ := q_bd hF
      refine q_Vv (As := []) (rest := []) ⟨hx, hb, hml, hown, hts⟩ hA hK hP hD hS (tX3_sink l dC dI cI cZ aS H.size R_width R_pinned R_from R_to R_turned L_layer_2 L_layers q3 hcq3) (cwV 0 hts gX3_settle_X3_sink rfl rfl rfl uX3_sink ⟨Nat.le_of_ble_eq_true rfl, Nat.le_of_ble_eq_true rfl⟩) [0, 1, 2, 3, 4, 5, 6, 7] [(true, 0), (true, 1), (true, 2), (true, 3), (true, 4), (true, 5), (true, 6), (true, 7), (false, 8), (false, 9)] (iX3_settle aS cI cZ R_width R_pinned R_from R_to R_turned q3 L_tops L_bottoms L_layers) rfl rfl rfl rfl rfl 3 0 rfl rfl rfl rfl hl.1 rfl (Nat.le_of_ble_eq_true rfl) dX3_settle_13 ⟨Nat.zero_le _, Nat.zero_le _⟩ (fun H locs hP hD hS => ?_)
      refine lv_iinc (v := (x1_2 + 1)) (lv' := [(1, .int (x1_2 + 1)), (0, .ref (aS 7))]) hx hb dX3_settle_16 hl (k := 1) rfl rfl (by decide) rfl (fun ls hl => ?_)
      refine lv_goto (tgt := 6) hx hb dX3_settle_19 (by decide) ?_
      exact hin _ (Option.some.inj hF).symm H locs ls hP hD hS (lv_sub hl [1, 0] rfl)
  exact L2 (0, q1) hc2 H locs ls hP hD hS (lv_sub hl [1, 0] rfl)
abbrev rX6_add : Room := { frames := 0, cells := 0, slots := 0, locals := 0 }
theorem eX6_add_X6 : ∀ w ∈ u_ws RX6 TX6 4, w ∈ wsX6_add := by decide +kernel
theorem uX6_add : yX6_add.cls = RX6 ∧ yX6_add.cls ≠ "java/lang/invoke/MethodHandle" ∧ yX6_add.cls ≠ "java/lang/invoke/VarHandle" ∧ (parseMethodDescriptor yX6_add.desc).map (fun d => d.parameters.length) = some 4 := by decide +kernel
set_option maxHeartbeats 4000000 in
set_option maxRecDepth 100000 in
theorem tX6_add (l : Launch) (dC : Nat → ClassId) (dI : Nat → Nat → Nat) (cI cZ : ClassId) (aS : Nat → Nat) (sz : Nat) (P_size : Nat → Int32) (P_arrows : Nat → Int32) (P_uppers : Nat → Int32) (P_lowers : Nat → Int32) (p0 : Int32) (p1 : Int32) (p2 : Int32) (p3 : Int32) (res : (Nat → Int32) × (Nat → Int32) × (Nat → Int32) × (Nat → Int32)) (hF : fX6_add P_size P_arrows P_uppers P_lowers p0 p1 p2 p3 = some res) : q_Mv l yX6_add wsX6_add rX6_add (dC, dI) (q_ty cI cZ) [.ref (aS 11), .int p0, .int p1, .int p2, .int p3] (iX6_add aS cI cZ P_size P_arrows P_uppers P_lowers) (iX6_add aS cI cZ res.1 res.2.1 res.2.2.1 res.2.2.2) sz := by
  refine q_metv (cc := cX6_add) (maxL := 6) (by decide) rfl (Nat.le_of_ble_eq_true rfl) ?_
  intro p e s m args below meth c Q A H locs ls C hP hD hS hl hret
  obtain ⟨hx, hb, hml, hown, hts, hA, hK⟩ := C
  replace hl : lv_has ls 6 [(0, .ref (aS 11)), (1, .int p0), (2, .int p1), (3, .int p2), (4, .int p3)] := hl
  have k0 := hts (.fieldLink RX6 9 "RouteLayout$Pieces" "size" "[I") (by decide +kernel)
  have k1 := hts (.fieldLink RX6 15 "RouteLayout$Pieces" "arrows" "[I") (by decide +kernel)
  have k2 := hts (.fieldLink RX6 18 "RouteLayout$Pieces" "uppers" "[I") (by decide +kernel)
  have k3 := hts (.fieldLink RX6 21 "RouteLayout$Pieces" "lowers" "[I") (by decide +kernel)
  unfold fX6_add at hF
  refine lv_iload_n hx hb dX6_add_0 rfl (lv_at hl 1 rfl) ?_
  refine lv_if_lt (tgt := 21) hx hb dX6_add_1 (by decide) (fun hc => ?_) (fun hc => ?_)
  · replace hF := q_t hc hF
    exact hret H locs ls 21 _ dX6_add_21 (congrArg (fun z : (Nat → Int32) × (Nat → Int32) × (Nat → Int32) × (Nat → Int32) => (iX6_add aS cI cZ z.1 z.2.1 z.2.2.1 z.2.2.2)) (Option.some.inj hF)) hP hD hS
  · replace hF := q_f hc hF
    refine lv_iload_n hx hb dX6_add_4 rfl (lv_at hl 1 rfl) ?_
    refine lv_bipush (v := 24) hx hb dX6_add_5 (by decide) ?_
    refine lv_icmp_ge (tgt := 21) hx hb dX6_add_7 (by decide) (fun hc => ?_) (fun hc => ?_)
    · replace hF := q_t hc hF
      exact hret H locs ls 21 _ dX6_add_21 (congrArg (fun z : (Nat → Int32) × (Nat → Int32) × (Nat → Int32) × (Nat → Int32) => (iX6_add aS cI cZ z.1 z.2.1 z.2.2.1 z.2.2.2)) (Option.some.inj hF)) hP hD hS
    · replace hF := q_f hc hF
      refine lv_aload_n hx hb dX6_add_10 rfl (lv_at hl 0 rfl) ?_
      refine q_get (ci := 6) (C := RX6) (T := TX6) (N := 4) hx hb hts eX6_add_X6 hown hK hP 0 rfl rfl 0 (Nat.le_of_ble_eq_true rfl) k0 rfl rfl dX6_add_11 ?_
      refine lv_iload_n hx hb dX6_add_14 rfl (lv_at hl 1 rfl) ?_
      obtain ⟨hn1, hF⟩ := q_ck hF
      refine va_iald hx hb hK hP 1 0 rfl rfl hn1 dX6_add_15 ?_
      refine lv_bipush (v := 24) hx hb dX6_add_16 (by decide) ?_
      refine lv_icmp_lt (tgt := 22) hx hb dX6_add_18 (by decide) (fun hc => ?_) (fun hc => ?_)
      · replace hF := q_t hc hF
        refine lv_iload_n hx hb dX6_add_22 rfl (lv_at hl 1 rfl) ?_
        refine lv_bipush (v := 24) hx hb dX6_add_23 (by decide) ?_
        refine lv_imul hx hb dX6_add_25 ?_
        refine lv_aload_n hx hb dX6_add_26 rfl (lv_at hl 0 rfl) ?_
        refine q_get (ci := 6) (C := RX6) (T := TX6) (N := 4) hx hb hts eX6_add_X6 hown hK hP 0 rfl rfl 0 (Nat.le_of_ble_eq_true rfl) k0 rfl rfl dX6_add_27 ?_
        refine lv_iload_n hx hb dX6_add_30 rfl (lv_at hl 1 rfl) ?_
        obtain ⟨hn2, hF⟩ := q_ck hF
        refine va_iald hx hb hK hP 1 0 rfl rfl hn2 dX6_add_31 ?_
        refine lv_iadd hx hb dX6_add_32 ?_
        obtain ⟨v3, hv3, hF⟩ := q_letE hF
        refine q_top hv3 ?_
        refine lv_istore (lv' := [(5, .int v3), (0, .ref (aS 11)), (1, .int p0), (2, .int p1), (3, .int p2), (4, .int p3)]) hx hb dX6_add_33 hl (by decide) rfl (fun ls hl => ?_)
        refine lv_aload_n hx hb dX6_add_35 rfl (lv_at hl 1 rfl) ?_
        refine q_get (ci := 6) (C := RX6) (T := TX6) (N := 4) hx hb hts eX6_add_X6 hown hK hP 0 rfl rfl 1 (Nat.le_of_ble_eq_true rfl) k1 rfl rfl dX6_add_36 ?_
        refine lv_iload hx hb dX6_add_39 (lv_at hl 0 rfl) ?_
        refine lv_iload_n hx hb dX6_add_41 rfl (lv_at hl 3 rfl) ?_
        obtain ⟨hn4, hF⟩ := q_ck hF
        refine q_iast hx hb hK hP hD hS 2 0 (iX6_add aS cI cZ P_size (upd P_arrows v3.toNatClampNeg p1) P_uppers P_lowers) rfl rfl hn4 rfl dX6_add_42 (fun H locs hP hD hS => ?_)
        refine lv_aload_n hx hb dX6_add_43 rfl (lv_at hl 1 rfl) ?_
        refine q_get (ci := 6) (C := RX6) (T := TX6) (N := 4) hx hb hts eX6_add_X6 hown hK hP 0 rfl rfl 2 (Nat.le_of_ble_eq_true rfl) k2 rfl rfl dX6_add_44 ?_
        refine lv_iload hx hb dX6_add_47 (lv_at hl 0 rfl) ?_
        refine lv_iload_n hx hb dX6_add_49 rfl (lv_at hl 4 rfl) ?_
        obtain ⟨hn5, hF⟩ := q_ck hF
        refine q_iast hx hb hK hP hD hS 3 0 (iX6_add aS cI cZ P_size (upd P_arrows v3.toNatClampNeg p1) (upd P_uppers v3.toNatClampNeg p2) P_lowers) rfl rfl hn5 rfl dX6_add_50 (fun H locs hP hD hS => ?_)
        refine lv_aload_n hx hb dX6_add_51 rfl (lv_at hl 1 rfl) ?_
        refine q_get (ci := 6) (C := RX6) (T := TX6) (N := 4) hx hb hts eX6_add_X6 hown hK hP 0 rfl rfl 3 (Nat.le_of_ble_eq_true rfl) k3 rfl rfl dX6_add_52 ?_
        refine lv_iload hx hb dX6_add_55 (lv_at hl 0 rfl) ?_
        refine lv_iload hx hb dX6_add_57 (lv_at hl 5 rfl) ?_
        obtain ⟨hn6, hF⟩ := q_ck hF
        refine q_iast hx hb hK hP hD hS 4 0 (iX6_add aS cI cZ P_size (upd P_arrows v3.toNatClampNeg p1) (upd P_uppers v3.toNatClampNeg p2) (upd P_lowers v3.toNatClampNeg p3)) rfl rfl hn6 rfl dX6_add_59 (fun H locs hP hD hS => ?_)
        refine lv_aload_n hx hb dX6_add_60 rfl (lv_at hl 1 rfl) ?_
        refine q_get (ci := 6) (C := RX6) (T := TX6) (N := 4) hx hb hts eX6_add_X6 hown hK hP 0 rfl rfl 0 (Nat.le_of_ble_eq_true rfl) k0 rfl rfl dX6_add_61 ?_
        refine lv_iload_n hx hb dX6_add_64 rfl (lv_at hl 2 rfl) ?_
        refine lv_dup2_11 hx hb dX6_add_65 rfl rfl ?_
        obtain ⟨hn7, hF⟩ := q_ck hF
        refine va_iald hx hb hK hP 1 0 rfl rfl hn7 dX6_add_66 ?_
        refine lv_iconst (v := 1) hx hb dX6_add_67 (by decide) ?_
        refine lv_iadd hx hb dX6_add_68 ?_
        obtain ⟨hn8, hF⟩ := q_ck hF
        refine q_iast hx hb hK hP hD hS 1 0 (iX6_add aS cI cZ (upd P_size p0.toNatClampNeg ((P_size p0.toNatClampNeg) + 1)) (upd P_arrows v3.toNatClampNeg p1) (upd P_uppers v3.toNatClampNeg p2) (upd P_lowers v3.toNatClampNeg p3)) rfl rfl hn8 rfl dX6_add_69 (fun H locs hP hD hS => ?_)
        exact hret H locs ls 70 _ dX6_add_70 (congrArg (fun z : (Nat → Int32) × (Nat → Int32) × (Nat → Int32) × (Nat → Int32) => (iX6_add aS cI cZ z.1 z.2.1 z.2.2.1 z.2.2.2)) (Option.some.inj hF)) hP hD hS
      · replace hF := q_f hc hF
        exact hret H locs ls 21 _ dX6_add_21 (congrArg (fun z : (Nat → Int32) × (Nat → Int32) × (Nat → Int32) × (Nat → Int32) => (iX6_add aS cI cZ z.1 z.2.1 z.2.2.1 z.2.2.2)) (Option.some.inj hF)) hP hD hS
abbrev rX6_arrowOf : Room := { frames := 0, cells := 0, slots := 0, locals := 0 }
theorem eX6_arrowOf_X6 : ∀ w ∈ u_ws RX6 TX6 4, w ∈ wsX6_arrowOf := by decide +kernel
theorem uX6_arrowOf : yX6_arrowOf.cls = RX6 ∧ yX6_arrowOf.cls ≠ "java/lang/invoke/MethodHandle" ∧ yX6_arrowOf.cls ≠ "java/lang/invoke/VarHandle" ∧ (parseMethodDescriptor yX6_arrowOf.desc).map (fun d => d.parameters.length) = some 2 := by decide +kernel
set_option maxHeartbeats 4000000 in
set_option maxRecDepth 100000 in
theorem tX6_arrowOf (l : Launch) (dC : Nat → ClassId) (dI : Nat → Nat → Nat) (cI cZ : ClassId) (aS : Nat → Nat) (sz : Nat) (P_size : Nat → Int32) (P_arrows : Nat → Int32) (p0 : Int32) (p1 : Int32) (res : Int32) (hF : fX6_arrowOf P_size P_arrows p0 p1 = some res) : q_Mi l yX6_arrowOf wsX6_arrowOf rX6_arrowOf (dC, dI) (q_ty cI cZ) [.ref (aS 11), .int p0, .int p1] (iX6_arrowOf aS cI cZ P_size P_arrows) (iX6_arrowOf aS cI cZ P_size P_arrows) sz res := by
  refine q_meti (cc := cX6_arrowOf) (maxL := 4) (by decide) rfl (Nat.le_of_ble_eq_true rfl) ?_
  intro p e s m args below meth c Q A H locs ls C hP hD hS hl hret
  obtain ⟨hx, hb, hml, hown, hts, hA, hK⟩ := C
  replace hl : lv_has ls 4 [(0, .ref (aS 11)), (1, .int p0), (2, .int p1)] := hl
  have k0 := hts (.fieldLink RX6 15 "RouteLayout$Pieces" "arrows" "[I") (by decide +kernel)
  have k1 := hts (.fieldLink RX6 9 "RouteLayout$Pieces" "size" "[I") (by decide +kernel)
  unfold fX6_arrowOf at hF
  have JX6_ARROWOF_29 : ∀ (x1_1 : Int32) (x2_1 : Int32) (s0_1 : Int32), jX6_arrowOf_29 P_arrows x1_1 x2_1 s0_1 = some res → ∀ (H : Heap) (locs : List Loc) (ls : Array Slot), va_P (dC, dI) vwCl (iX6_arrowOf aS cI cZ P_size P_arrows) H → va_D A (iX6_arrowOf aS cI cZ P_size P_arrows) → va_S A s.heap H locs → lv_has ls 4 [(0, .ref (aS 11)), (1, .int x1_1), (2, .int x2_1)] → W p l e (headSpec wsX6_arrowOf (rX6_arrowOf)).room s m args below meth c H locs 0 0 Q (F0 m 29 ls [.int s0_1]) := by
    intro x1_1 x2_1 s0_1 hF H locs ls hP hD hS hl
    unfold jX6_arrowOf_29 at hF
    refine lv_istore_n (lv' := [(3, .int s0_1), (0, .ref (aS 11)), (1, .int x1_1), (2, .int x2_1)]) hx hb dX6_arrowOf_29 rfl hl (by decide) rfl (fun ls hl => ?_)
    refine lv_iload_n hx hb dX6_arrowOf_30 rfl (lv_at hl 0 rfl) ?_
    refine lv_if_eq (tgt := 48) hx hb dX6_arrowOf_31 (by decide) (fun hc => ?_) (fun hc => ?_)
    · replace hF := q_t hc hF
      refine lv_iconst (v := (-1)) hx hb dX6_arrowOf_48 (by decide) ?_
      exact hret H locs ls 49 _ _ dX6_arrowOf_49 (Option.some.inj hF) rfl hP hD hS
    · replace hF := q_f hc hF
      refine lv_aload_n hx hb dX6_arrowOf_34 rfl (lv_at hl 1 rfl) ?_
      refine q_get (ci := 6) (C := RX6) (T := TX6) (N := 4) hx hb hts eX6_arrowOf_X6 hown hK hP 0 rfl rfl 1 (Nat.le_of_ble_eq_true rfl) k0 rfl rfl dX6_arrowOf_35 ?_
      refine lv_iload_n hx hb dX6_arrowOf_38 rfl (lv_at hl 2 rfl) ?_
      refine lv_bipush (v := 24) hx hb dX6_arrowOf_39 (by decide) ?_
      refine lv_imul hx hb dX6_arrowOf_41 ?_
      refine lv_iload_n hx hb dX6_arrowOf_42 rfl (lv_at hl 3 rfl) ?_
      refine lv_iadd hx hb dX6_arrowOf_43 ?_
      obtain ⟨hn2, hF⟩ := q_ck hF
      refine va_iald hx hb hK hP 2 0 rfl rfl hn2 dX6_arrowOf_44 ?_
      refine lv_goto (tgt := 49) hx hb dX6_arrowOf_45 (by decide) ?_
      exact hret H locs ls 49 _ _ dX6_arrowOf_49 (Option.some.inj hF) rfl hP hD hS
  have JX6_ARROWOF_28 : ∀ (x1_3 : Int32) (x2_3 : Int32), jX6_arrowOf_28 P_arrows x1_3 x2_3 = some res → ∀ (H : Heap) (locs : List Loc) (ls : Array Slot), va_P (dC, dI) vwCl (iX6_arrowOf aS cI cZ P_size P_arrows) H → va_D A (iX6_arrowOf aS cI cZ P_size P_arrows) → va_S A s.heap H locs → lv_has ls 4 [(0, .ref (aS 11)), (1, .int x1_3), (2, .int x2_3)] → W p l e (headSpec wsX6_arrowOf (rX6_arrowOf)).room s m args below meth c H locs 0 0 Q (F0 m 28 ls []) := by
    intro x1_3 x2_3 hF H locs ls hP hD hS hl
    unfold jX6_arrowOf_28 at hF
    refine lv_iconst (v := 0) hx hb dX6_arrowOf_28 (by decide) ?_
    exact JX6_ARROWOF_29 x1_3 x2_3 0 hF H locs ls hP hD hS (lv_sub hl [0, 1, 2] rfl)
  refine lv_iload_n hx hb dX6_arrowOf_0 rfl (lv_at hl 1 rfl) ?_
  refine lv_if_lt (tgt := 28) hx hb dX6_arrowOf_1 (by decide) (fun hc => ?_) (fun hc => ?_)
  · replace hF := q_t hc hF
    exact JX6_ARROWOF_28 p0 p1 hF H locs ls hP hD hS (lv_sub hl [0, 1, 2] rfl)
  · replace hF := q_f hc hF
    refine lv_iload_n hx hb dX6_arrowOf_4 rfl (lv_at hl 1 rfl) ?_
    refine lv_bipush (v := 24) hx hb dX6_arrowOf_5 (by decide) ?_
    refine lv_icmp_ge (tgt := 28) hx hb dX6_arrowOf_7 (by decide) (fun hc => ?_) (fun hc => ?_)
    · replace hF := q_t hc hF
      exact JX6_ARROWOF_28 p0 p1 hF H locs ls hP hD hS (lv_sub hl [0, 1, 2] rfl)
    · replace hF := q_f hc hF
      refine lv_iload_n hx hb dX6_arrowOf_10 rfl (lv_at hl 2 rfl) ?_
      refine lv_if_lt (tgt := 28) hx hb dX6_arrowOf_11 (by decide) (fun hc => ?_) (fun hc => ?_)
      · replace hF := q_t hc hF
        exact JX6_ARROWOF_28 p0 p1 hF H locs ls hP hD hS (lv_sub hl [0, 1, 2] rfl)
      · replace hF := q_f hc hF
        refine lv_iload_n hx hb dX6_arrowOf_14 rfl (lv_at hl 2 rfl) ?_
        refine lv_aload_n hx hb dX6_arrowOf_15 rfl (lv_at hl 0 rfl) ?_
        refine q_get (ci := 6) (C := RX6) (T := TX6) (N := 4) hx hb hts eX6_arrowOf_X6 hown hK hP 0 rfl rfl 0 (Nat.le_of_ble_eq_true rfl) k1 rfl rfl dX6_arrowOf_16 ?_
        refine lv_iload_n hx hb dX6_arrowOf_19 rfl (lv_at hl 1 rfl) ?_
        obtain ⟨hn4, hF⟩ := q_ck hF
        refine va_iald hx hb hK hP 1 0 rfl rfl hn4 dX6_arrowOf_20 ?_
        refine lv_icmp_ge (tgt := 28) hx hb dX6_arrowOf_21 (by decide) (fun hc => ?_) (fun hc => ?_)
        · replace hF := q_t hc hF
          exact JX6_ARROWOF_28 p0 p1 hF H locs ls hP hD hS (lv_sub hl [0, 1, 2] rfl)
        · replace hF := q_f hc hF
          refine lv_iconst (v := 1) hx hb dX6_arrowOf_24 (by decide) ?_
          refine lv_goto (tgt := 29) hx hb dX6_arrowOf_25 (by decide) ?_
          exact JX6_ARROWOF_29 p0 p1 1 hF H locs ls hP hD hS (lv_sub hl [0, 1, 2] rfl)
abbrev rX6_collect : Room := { frames := 3, cells := 0, slots := 0, locals := 64 }
theorem eX6_collect_X6 : ∀ w ∈ u_ws RX6 TX6 4, w ∈ wsX6_collect := by decide +kernel
theorem uX6_collect : yX6_collect.cls = RX6 ∧ yX6_collect.cls ≠ "java/lang/invoke/MethodHandle" ∧ yX6_collect.cls ≠ "java/lang/invoke/VarHandle" ∧ (parseMethodDescriptor yX6_collect.desc).map (fun d => d.parameters.length) = some 1 := by decide +kernel
set_option maxHeartbeats 4000000 in
set_option maxRecDepth 100000 in
theorem tX6_collect (l : Launch) (dC : Nat → ClassId) (dI : Nat → Nat → Nat) (cI cZ : ClassId) (aS : Nat → Nat) (sz : Nat) (R_from : Nat → Int32) (R_to : Nat → Int32) (R_turned : Nat → Int32) (L_tops : Nat → Int32) (L_bottoms : Nat → Int32) (L_layers : Int32) (P_size : Nat → Int32) (P_arrows : Nat → Int32) (P_uppers : Nat → Int32) (P_lowers : Nat → Int32) (res : (Nat → Int32) × (Nat → Int32) × (Nat → Int32) × (Nat → Int32)) (hF : fX6_collect R_from R_to R_turned L_tops L_bottoms P_arrows P_uppers P_lowers = some res) : q_Mv l yX6_collect wsX6_collect rX6_collect (dC, dI) (q_ty cI cZ) [.ref (aS 11), .ref (aS 7)] (iX6_collect aS cI cZ R_from R_to R_turned L_tops L_bottoms L_layers P_size P_arrows P_uppers P_lowers) (iX6_collect aS cI cZ R_from R_to R_turned L_tops L_bottoms L_layers res.1 res.2.1 res.2.2.1 res.2.2.2) sz := by
  refine q_metv (cc := cX6_collect) (maxL := 4) (by decide) rfl (Nat.le_of_ble_eq_true rfl) ?_
  intro p e s m args below meth c Q A H locs ls C hP hD hS hl hret
  obtain ⟨hx, hb, hml, hown, hts, hA, hK⟩ := C
  replace hl : lv_has ls 4 [(0, .ref (aS 11)), (1, .ref (aS 7))] := hl
  have k0 := hts (.fieldLink RX6 9 "RouteLayout$Pieces" "size" "[I") (by decide +kernel)
  unfold fX6_collect at hF
  refine lv_aload_n hx hb dX6_collect_0 rfl (lv_at hl 0 rfl) ?_
  refine q_get (ci := 6) (C := RX6) (T := TX6) (N := 4) hx hb hts eX6_collect_X6 hown hK hP 0 rfl rfl 0 (Nat.le_of_ble_eq_true rfl) k0 rfl rfl dX6_collect_1 ?_
  refine lv_iconst (v := 0) hx hb dX6_collect_4 (by decide) ?_
  refine q_Sv (As := [.ref (aS 12), .int 0]) (rest := []) ⟨hx, hb, hml, hown, hts⟩ hA hK hP hD hS (tJ7_fill_53178 l dC dI cI cZ (aS 12) 24 H.size P_size 0 (by decide)) (va_cwS 2 hts gX6_collect_J7_fill_53178 rfl rfl rfl uJ7_fill_53178 ⟨Nat.le_of_ble_eq_true rfl, Nat.le_of_ble_eq_true rfl⟩) [8] [(false, 0), (false, 1), (false, 2), (false, 3), (false, 4), (false, 5), (false, 6), (false, 7), (true, 0), (false, 9), (false, 10), (false, 11)] (iX6_collect aS cI cZ R_from R_to R_turned L_tops L_bottoms L_layers (fun _ => 0) P_arrows P_uppers P_lowers) rfl rfl rfl rfl rfl rfl hl.1 rfl (Nat.le_of_ble_eq_true rfl) dX6_collect_5 ⟨Nat.zero_le _, Nat.zero_le _⟩ (fun H locs hP hD hS => ?_)
  refine lv_iconst (v := 0) hx hb dX6_collect_8 (by decide) ?_
  refine lv_istore_n (lv' := [(2, .int 0), (0, .ref (aS 11)), (1, .ref (aS 7))]) hx hb dX6_collect_9 rfl hl (by decide) rfl (fun ls hl => ?_)
  obtain ⟨q1_0, q1_1, q1_2, q1_3, hc1, hF⟩ := q_bd4 hF
  have X1 : ∀ (u1_0 : Nat → Int32) (u1_1 : Nat → Int32) (u1_2 : Nat → Int32) (u1_3 : Nat → Int32), (u1_0, u1_1, u1_2, u1_3) = (q1_0, q1_1, q1_2, q1_3) → ∀ (H : Heap) (locs : List Loc) (ls : Array Slot), va_P (dC, dI) vwCl (iX6_collect aS cI cZ R_from R_to R_turned L_tops L_bottoms L_layers u1_0 u1_1 u1_2 u1_3) H → va_D A (iX6_collect aS cI cZ R_from R_to R_turned L_tops L_bottoms L_layers u1_0 u1_1 u1_2 u1_3) → va_S A s.heap H locs → lv_has ls 4 [] → W p l e (headSpec wsX6_collect (rX6_collect)).room s m args below meth c H locs 0 0 Q (F0 m 63 ls []) := by
    intro u1_0 u1_1 u1_2 u1_3 hu H locs ls hP hD hS hl
    obtain ⟨e0, e1, e2, e3⟩ := q_inj4 hu
    subst e0 e1 e2 e3
    exact hret H locs ls 63 _ dX6_collect_63 (congrArg (fun z : (Nat → Int32) × (Nat → Int32) × (Nat → Int32) × (Nat → Int32) => (iX6_collect aS cI cZ R_from R_to R_turned L_tops L_bottoms L_layers z.1 z.2.1 z.2.2.1 z.2.2.2)) (Option.some.inj hF)) hP hD hS
  have L1 : ∀ st : Int32 × (Nat → Int32) × (Nat → Int32) × (Nat → Int32) × (Nat → Int32), q_lo (fun (st : Int32 × (Nat → Int32) × (Nat → Int32) × (Nat → Int32) × (Nat → Int32)) => bX6_collect_10 R_from R_to R_turned L_tops L_bottoms st.1 st.2.1 st.2.2.1 st.2.2.2.1 st.2.2.2.2) st = some (q1_0, q1_1, q1_2, q1_3) → ∀ (H : Heap) (locs : List Loc) (ls : Array Slot), va_P (dC, dI) vwCl (iX6_collect aS cI cZ R_from R_to R_turned L_tops L_bottoms L_layers st.2.1 st.2.2.1 st.2.2.2.1 st.2.2.2.2) H → va_D A (iX6_collect aS cI cZ R_from R_to R_turned L_tops L_bottoms L_layers st.2.1 st.2.2.1 st.2.2.2.1 st.2.2.2.2) → va_S A s.heap H locs → lv_has ls 4 [(0, .ref (aS 11)), (1, .ref (aS 7)), (2, .int st.1)] → W p l e (headSpec wsX6_collect (rX6_collect)).room s m args below meth c H locs 0 0 Q (F0 m 10 ls []) := by
    intro st hst
    refine q_walk (Wh := fun st : Int32 × (Nat → Int32) × (Nat → Int32) × (Nat → Int32) × (Nat → Int32) => ∀ (H : Heap) (locs : List Loc) (ls : Array Slot), va_P (dC, dI) vwCl (iX6_collect aS cI cZ R_from R_to R_turned L_tops L_bottoms L_layers st.2.1 st.2.2.1 st.2.2.2.1 st.2.2.2.2) H → va_D A (iX6_collect aS cI cZ R_from R_to R_turned L_tops L_bottoms L_layers st.2.1 st.2.2.1 st.2.2.2.1 st.2.2.2.2) → va_S A s.heap H locs → lv_has ls 4 [(0, .ref (aS 11)), (1, .ref (aS 7)), (2, .int st.1)] → W p l e (headSpec wsX6_collect (rX6_collect)).room s m args below meth c H locs 0 0 Q (F0 m 10 ls [])) ?_ st hst
    clear hst st hF
    intro st o hF hin hex H locs ls hP hD hS hl
    obtain ⟨x2_1, P_size_1, P_arrows_1, P_uppers_1, P_lowers_1⟩ := st
    replace hF : bX6_collect_10 R_from R_to R_turned L_tops L_bottoms x2_1 P_size_1 P_arrows_1 P_uppers_1 P_lowers_1 = some o := hF
    replace hP : va_P (dC, dI) vwCl (iX6_collect aS cI cZ R_from R_to R_turned L_tops L_bottoms L_layers P_size_1 P_arrows_1 P_uppers_1 P_lowers_1) H := hP
    replace hD : va_D A (iX6_collect aS cI cZ R_from R_to R_turned L_tops L_bottoms L_layers P_size_1 P_arrows_1 P_uppers_1 P_lowers_1) := hD
    replace hl : lv_has ls 4 [(0, .ref (aS 11)), (1, .ref (aS 7)), (2, .int x2_1)] := hl
    unfold bX6_collect_10 at hF
    refine lv_iload_n hx hb dX6_collect_10 rfl (lv_at hl 2 rfl) ?_
    refine lv_bipush (v := 24) hx hb dX6_collect_11 (by decide) ?_
    refine lv_icmp_ge (tgt := 63) hx hb dX6_collect_13 (by decide) (fun hc => ?_) (fun hc => ?_)
    · replace hF := q_t hc hF
      exact X1 _ _ _ _ (hex _ (Option.some.inj hF).symm) H locs ls hP hD hS (lv_sub hl [] rfl)
    · replace hF := q_f hc hF
      refine lv_aload_n hx hb dX6_collect_16 rfl (lv_at hl 1 rfl) ?_
      refine lv_iload_n hx hb dX6_collect_17 rfl (lv_at hl 2 rfl) ?_
      obtain ⟨q2, hcq2, hF⟩ := q_bd hF
      refine q_Vi (As := [.int x2_1]) (rest := []) ⟨hx, hb, hml, hown, hts⟩ hA hK hP hD hS (tX3_top l dC dI cI cZ aS H.size L_tops L_layers x2_1 q2 hcq2) (cwV 1 hts gX6_collect_X3_top rfl rfl rfl uX3_top ⟨Nat.le_of_ble_eq_true rfl, Nat.le_of_ble_eq_true rfl⟩) [5, 6] [(false, 0), (false, 1), (false, 2), (false, 3), (false, 4), (true, 0), (true, 1), (false, 7), (false, 8), (false, 9), (false, 10), (false, 11)] (iX6_collect aS cI cZ R_from R_to R_turned L_tops L_bottoms L_layers P_size_1 P_arrows_1 P_uppers_1 P_lowers_1) rfl rfl rfl rfl rfl 3 0 rfl rfl rfl rfl hl.1 rfl (Nat.le_of_ble_eq_true rfl) dX6_collect_18 ⟨Nat.zero_le _, Nat.zero_le _⟩ (fun H locs hP hD hS => ?_)
      refine lv_istore_n (lv' := [(3, .int q2), (0, .ref (aS 11)), (1, .ref (aS 7)), (2, .int x2_1)]) hx hb dX6_collect_21 rfl hl (by decide) rfl (fun ls hl => ?_)
      obtain ⟨q3_0, q3_1, q3_2, q3_3, hc3, hF⟩ := q_bd4 hF
      have X3 : ∀ (u3_0 : Nat → Int32) (u3_1 : Nat → Int32) (u3_2 : Nat → Int32) (u3_3 : Nat → Int32), (u3_0, u3_1, u3_2, u3_3) = (q3_0, q3_1, q3_2, q3_3) → ∀ (H : Heap) (locs : List Loc) (ls : Array Slot), va_P (dC, dI) vwCl (iX6_collect aS cI cZ R_from R_to R_turned L_tops L_bottoms L_layers u3_0 u3_1 u3_2 u3_3) H → va_D A (iX6_collect aS cI cZ R_from R_to R_turned L_tops L_bottoms L_layers u3_0 u3_1 u3_2 u3_3) → va_S A s.heap H locs → lv_has ls 4 [(0, .ref (aS 11)), (1, .ref (aS 7)), (2, .int x2_1)] → W p l e (headSpec wsX6_collect (rX6_collect)).room s m args below meth c H locs 0 0 Q (F0 m 57 ls []) := by
        intro u3_0 u3_1 u3_2 u3_3 hu H locs ls hP hD hS hl
        obtain ⟨e0, e1, e2, e3⟩ := q_inj4 hu
        subst e0 e1 e2 e3
        refine lv_iinc (v := (x2_1 + 1)) (lv' := [(2, .int (x2_1 + 1)), (0, .ref (aS 11)), (1, .ref (aS 7))]) hx hb dX6_collect_57 hl (k := 2) rfl rfl (by decide) rfl (fun ls hl => ?_)
        refine lv_goto (tgt := 10) hx hb dX6_collect_60 (by decide) ?_
        exact hin _ (Option.some.inj hF).symm H locs ls hP hD hS (lv_sub hl [1, 2, 0] rfl)
      have L3 : ∀ st : Int32 × (Nat → Int32) × (Nat → Int32) × (Nat → Int32) × (Nat → Int32), q_lo (fun (st : Int32 × (Nat → Int32) × (Nat → Int32) × (Nat → Int32) × (Nat → Int32)) => bX6_collect_22 R_from R_to R_turned L_tops L_bottoms x2_1 st.1 st.2.1 st.2.2.1 st.2.2.2.1 st.2.2.2.2) st = some (q3_0, q3_1, q3_2, q3_3) → ∀ (H : Heap) (locs : List Loc) (ls : Array Slot), va_P (dC, dI) vwCl (iX6_collect aS cI cZ R_from R_to R_turned L_tops L_bottoms L_layers st.2.1 st.2.2.1 st.2.2.2.1 st.2.2.2.2) H → va_D A (iX6_collect aS cI cZ R_from R_to R_turned L_tops L_bottoms L_layers st.2.1 st.2.2.1 st.2.2.2.1 st.2.2.2.2) → va_S A s.heap H locs → lv_has ls 4 [(0, .ref (aS 11)), (1, .ref (aS 7)), (2, .int x2_1), (3, .int st.1)] → W p l e (headSpec wsX6_collect (rX6_collect)).room s m args below meth c H locs 0 0 Q (F0 m 22 ls []) := by
        intro st hst
        refine q_walk (Wh := fun st : Int32 × (Nat → Int32) × (Nat → Int32) × (Nat → Int32) × (Nat → Int32) => ∀ (H : Heap) (locs : List Loc) (ls : Array Slot), va_P (dC, dI) vwCl (iX6_collect aS cI cZ R_from R_to R_turned L_tops L_bottoms L_layers st.2.1 st.2.2.1 st.2.2.2.1 st.2.2.2.2) H → va_D A (iX6_collect aS cI cZ R_from R_to R_turned L_tops L_bottoms L_layers st.2.1 st.2.2.1 st.2.2.2.1 st.2.2.2.2) → va_S A s.heap H locs → lv_has ls 4 [(0, .ref (aS 11)), (1, .ref (aS 7)), (2, .int x2_1), (3, .int st.1)] → W p l e (headSpec wsX6_collect (rX6_collect)).room s m args below meth c H locs 0 0 Q (F0 m 22 ls [])) ?_ st hst
        clear hst st hF
        intro st o hF hin hex H locs ls hP hD hS hl
        obtain ⟨x3_3, P_size_3, P_arrows_3, P_uppers_3, P_lowers_3⟩ := st
        replace hF : bX6_collect_22 R_from R_to R_turned L_tops L_bottoms x2_1 x3_3 P_size_3 P_arrows_3 P_uppers_3 P_lowers_3 = some o := hF
        replace hP : va_P (dC, dI) vwCl (iX6_collect aS cI cZ R_from R_to R_turned L_tops L_bottoms L_layers P_size_3 P_arrows_3 P_uppers_3 P_lowers_3) H := hP
        replace hD : va_D A (iX6_collect aS cI cZ R_from R_to R_turned L_tops L_bottoms L_layers P_size_3 P_arrows_3 P_uppers_3 P_lowers_3) := hD
        replace hl : lv_has ls 4 [(0, .ref (aS 11)), (1, .ref (aS 7)), (2, .int x2_1), (3, .int x3_3)] := hl
        unfold bX6_collect_22 at hF
        refine lv_iload_n hx hb dX6_collect_22 rfl (lv_at hl 3 rfl) ?_
        refine lv_aload_n hx hb dX6_collect_23 rfl (lv_at hl 1 rfl) ?_
        refine lv_iload_n hx hb dX6_collect_24 rfl (lv_at hl 2 rfl) ?_
        obtain ⟨q4, hcq4, hF⟩ := q_bd hF
        refine q_Vi (As := [.int x2_1]) (rest := [.int x3_3]) ⟨hx, hb, hml, hown, hts⟩ hA hK hP hD hS (tX3_bottom l dC dI cI cZ aS H.size L_bottoms L_layers x2_1 q4 hcq4) (cwV 1 hts gX6_collect_X3_bottom rfl rfl rfl uX3_bottom ⟨Nat.le_of_ble_eq_true rfl, Nat.le_of_ble_eq_true rfl⟩) [5, 7] [(false, 0), (false, 1), (false, 2), (false, 3), (false, 4), (true, 0), (false, 6), (true, 1), (false, 8), (false, 9), (false, 10), (false, 11)] (iX6_collect aS cI cZ R_from R_to R_turned L_tops L_bottoms L_layers P_size_3 P_arrows_3 P_uppers_3 P_lowers_3) rfl rfl rfl rfl rfl 3 0 rfl rfl rfl rfl hl.1 rfl (Nat.le_of_ble_eq_true rfl) dX6_collect_25 ⟨Nat.zero_le _, Nat.zero_le _⟩ (fun H locs hP hD hS => ?_)
        refine lv_icmp_ge (tgt := 57) hx hb dX6_collect_28 (by decide) (fun hc => ?_) (fun hc => ?_)
        · replace hF := q_t hc hF
          exact X3 _ _ _ _ (hex _ (Option.some.inj hF).symm) H locs ls hP hD hS (lv_sub hl [0, 1, 2] rfl)
        · replace hF := q_f hc hF
          refine lv_aload_n hx hb dX6_collect_31 rfl (lv_at hl 0 rfl) ?_
          refine lv_iload_n hx hb dX6_collect_32 rfl (lv_at hl 3 rfl) ?_
          refine lv_iload_n hx hb dX6_collect_33 rfl (lv_at hl 2 rfl) ?_
          refine lv_aload_n hx hb dX6_collect_34 rfl (lv_at hl 1 rfl) ?_
          refine lv_iload_n hx hb dX6_collect_35 rfl (lv_at hl 2 rfl) ?_
          refine lv_iload_n hx hb dX6_collect_36 rfl (lv_at hl 3 rfl) ?_
          obtain ⟨q5, hcq5, hF⟩ := q_bd hF
          refine q_Vi (As := [.int x2_1, .int x3_3]) (rest := [.int x2_1, .int x3_3, .ref (aS 11)]) ⟨hx, hb, hml, hown, hts⟩ hA hK hP hD hS (tX3_itemOf l dC dI cI cZ aS H.size R_from R_to R_turned L_tops L_bottoms L_layers x2_1 x3_3 q5 hcq5) (cwV 2 hts gX6_collect_X3_itemOf rfl rfl rfl uX3_itemOf ⟨Nat.le_of_ble_eq_true rfl, Nat.le_of_ble_eq_true rfl⟩) [5, 1, 2, 3, 4, 6, 7] [(false, 0), (true, 1), (true, 2), (true, 3), (true, 4), (true, 0), (true, 5), (true, 6), (false, 8), (false, 9), (false, 10), (false, 11)] (iX6_collect aS cI cZ R_from R_to R_turned L_tops L_bottoms L_layers P_size_3 P_arrows_3 P_uppers_3 P_lowers_3) rfl rfl rfl rfl rfl 3 0 rfl rfl rfl rfl hl.1 rfl (Nat.le_of_ble_eq_true rfl) dX6_collect_37 ⟨Nat.zero_le _, Nat.zero_le _⟩ (fun H locs hP hD hS => ?_)
          refine lv_aload_n hx hb dX6_collect_40 rfl (lv_at hl 1 rfl) ?_
          refine lv_iload_n hx hb dX6_collect_41 rfl (lv_at hl 2 rfl) ?_
          refine lv_iload_n hx hb dX6_collect_42 rfl (lv_at hl 3 rfl) ?_
          refine lv_iconst (v := 1) hx hb dX6_collect_43 (by decide) ?_
          refine lv_iadd hx hb dX6_collect_44 ?_
          obtain ⟨q6, hcq6, hF⟩ := q_bd hF
          refine q_Vi (As := [.int x2_1, .int (x3_3 + 1)]) (rest := [.int q5, .int x2_1, .int x3_3, .ref (aS 11)]) ⟨hx, hb, hml, hown, hts⟩ hA hK hP hD hS (tX3_itemOf l dC dI cI cZ aS H.size R_from R_to R_turned L_tops L_bottoms L_layers x2_1 (x3_3 + 1) q6 hcq6) (cwV 2 hts gX6_collect_X3_itemOf rfl rfl rfl uX3_itemOf ⟨Nat.le_of_ble_eq_true rfl, Nat.le_of_ble_eq_true rfl⟩) [5, 1, 2, 3, 4, 6, 7] [(false, 0), (true, 1), (true, 2), (true, 3), (true, 4), (true, 0), (true, 5), (true, 6), (false, 8), (false, 9), (false, 10), (false, 11)] (iX6_collect aS cI cZ R_from R_to R_turned L_tops L_bottoms L_layers P_size_3 P_arrows_3 P_uppers_3 P_lowers_3) rfl rfl rfl rfl rfl 3 0 rfl rfl rfl rfl hl.1 rfl (Nat.le_of_ble_eq_true rfl) dX6_collect_45 ⟨Nat.zero_le _, Nat.zero_le _⟩ (fun H locs hP hD hS => ?_)
          obtain ⟨q7_0, q7_1, q7_2, q7_3, hcq7, hF⟩ := q_bd4 hF
          refine q_Vv (As := [.int x3_3, .int x2_1, .int q5, .int q6]) (rest := []) ⟨hx, hb, hml, hown, hts⟩ hA hK hP hD hS (tX6_add l dC dI cI cZ aS H.size P_size_3 P_arrows_3 P_uppers_3 P_lowers_3 x3_3 x2_1 q5 q6 (q7_0, q7_1, q7_2, q7_3) hcq7) (cwV 4 hts gX6_collect_X6_add rfl rfl rfl uX6_add ⟨Nat.le_of_ble_eq_true rfl, Nat.le_of_ble_eq_true rfl⟩) [0, 8, 9, 10, 11] [(true, 0), (false, 1), (false, 2), (false, 3), (false, 4), (false, 5), (false, 6), (false, 7), (true, 1), (true, 2), (true, 3), (true, 4)] (iX6_collect aS cI cZ R_from R_to R_turned L_tops L_bottoms L_layers q7_0 q7_1 q7_2 q7_3) rfl rfl rfl rfl rfl 6 0 rfl rfl rfl rfl hl.1 rfl (Nat.le_of_ble_eq_true rfl) dX6_collect_48 ⟨Nat.zero_le _, Nat.zero_le _⟩ (fun H locs hP hD hS => ?_)
          refine lv_iinc (v := (x3_3 + 1)) (lv' := [(3, .int (x3_3 + 1)), (0, .ref (aS 11)), (1, .ref (aS 7)), (2, .int x2_1)]) hx hb dX6_collect_51 hl (k := 3) rfl rfl (by decide) rfl (fun ls hl => ?_)
          refine lv_goto (tgt := 22) hx hb dX6_collect_54 (by decide) ?_
          exact hin _ (Option.some.inj hF).symm H locs ls hP hD hS (lv_sub hl [1, 2, 3, 0] rfl)
      exact L3 (q2, P_size_1, P_arrows_1, P_uppers_1, P_lowers_1) hc3 H locs ls hP hD hS (lv_sub hl [1, 2, 3, 0] rfl)
  exact L1 (0, (fun _ => 0), P_arrows, P_uppers, P_lowers) hc1 H locs ls hP hD hS (lv_sub hl [1, 2, 0] rfl)
abbrev rX6_endOf : Room := { frames := 0, cells := 0, slots := 0, locals := 0 }
theorem eX6_endOf_X6 : ∀ w ∈ u_ws RX6 TX6 4, w ∈ wsX6_endOf := by decide +kernel
theorem uX6_endOf : yX6_endOf.cls = RX6 ∧ yX6_endOf.cls ≠ "java/lang/invoke/MethodHandle" ∧ yX6_endOf.cls ≠ "java/lang/invoke/VarHandle" ∧ (parseMethodDescriptor yX6_endOf.desc).map (fun d => d.parameters.length) = some 3 := by decide +kernel
set_option maxHeartbeats 4000000 in
set_option maxRecDepth 100000 in
theorem tX6_endOf (l : Launch) (dC : Nat → ClassId) (dI : Nat → Nat → Nat) (cI cZ : ClassId) (aS : Nat → Nat) (sz : Nat) (P_size : Nat → Int32) (P_uppers : Nat → Int32) (P_lowers : Nat → Int32) (p0 : Int32) (p1 : Int32) (p2 : Int32) (res : Int32) (hF : fX6_endOf P_size P_uppers P_lowers p0 p1 p2 = some res) : q_Mi l yX6_endOf wsX6_endOf rX6_endOf (dC, dI) (q_ty cI cZ) [.ref (aS 11), .int p0, .int p1, .int p2] (iX6_endOf aS cI cZ P_size P_uppers P_lowers) (iX6_endOf aS cI cZ P_size P_uppers P_lowers) sz res := by
  refine q_meti (cc := cX6_endOf) (maxL := 4) (by decide) rfl (Nat.le_of_ble_eq_true rfl) ?_
  intro p e s m args below meth c Q A H locs ls C hP hD hS hl hret
  obtain ⟨hx, hb, hml, hown, hts, hA, hK⟩ := C
  replace hl : lv_has ls 4 [(0, .ref (aS 11)), (1, .int p0), (2, .int p1), (3, .int p2)] := hl
  have k0 := hts (.fieldLink RX6 9 "RouteLayout$Pieces" "size" "[I") (by decide +kernel)
  have k1 := hts (.fieldLink RX6 21 "RouteLayout$Pieces" "lowers" "[I") (by decide +kernel)
  have k2 := hts (.fieldLink RX6 18 "RouteLayout$Pieces" "uppers" "[I") (by decide +kernel)
  unfold fX6_endOf at hF
  refine lv_iload_n hx hb dX6_endOf_0 rfl (lv_at hl 1 rfl) ?_
  refine lv_if_lt (tgt := 24) hx hb dX6_endOf_1 (by decide) (fun hc => ?_) (fun hc => ?_)
  · replace hF := q_t hc hF
    refine lv_iconst (v := (-1)) hx hb dX6_endOf_24 (by decide) ?_
    exact hret H locs ls 25 _ _ dX6_endOf_25 (Option.some.inj hF) rfl hP hD hS
  · replace hF := q_f hc hF
    refine lv_iload_n hx hb dX6_endOf_4 rfl (lv_at hl 1 rfl) ?_
    refine lv_bipush (v := 24) hx hb dX6_endOf_5 (by decide) ?_
    refine lv_icmp_ge (tgt := 24) hx hb dX6_endOf_7 (by decide) (fun hc => ?_) (fun hc => ?_)
    · replace hF := q_t hc hF
      refine lv_iconst (v := (-1)) hx hb dX6_endOf_24 (by decide) ?_
      exact hret H locs ls 25 _ _ dX6_endOf_25 (Option.some.inj hF) rfl hP hD hS
    · replace hF := q_f hc hF
      refine lv_iload_n hx hb dX6_endOf_10 rfl (lv_at hl 2 rfl) ?_
      refine lv_if_lt (tgt := 24) hx hb dX6_endOf_11 (by decide) (fun hc => ?_) (fun hc => ?_)
      · replace hF := q_t hc hF
        refine lv_iconst (v := (-1)) hx hb dX6_endOf_24 (by decide) ?_
        exact hret H locs ls 25 _ _ dX6_endOf_25 (Option.some.inj hF) rfl hP hD hS
      · replace hF := q_f hc hF
        refine lv_iload_n hx hb dX6_endOf_14 rfl (lv_at hl 2 rfl) ?_
        refine lv_aload_n hx hb dX6_endOf_15 rfl (lv_at hl 0 rfl) ?_
        refine q_get (ci := 6) (C := RX6) (T := TX6) (N := 4) hx hb hts eX6_endOf_X6 hown hK hP 0 rfl rfl 0 (Nat.le_of_ble_eq_true rfl) k0 rfl rfl dX6_endOf_16 ?_
        refine lv_iload_n hx hb dX6_endOf_19 rfl (lv_at hl 1 rfl) ?_
        obtain ⟨hn1, hF⟩ := q_ck hF
        refine va_iald hx hb hK hP 1 0 rfl rfl hn1 dX6_endOf_20 ?_
        refine lv_icmp_lt (tgt := 26) hx hb dX6_endOf_21 (by decide) (fun hc => ?_) (fun hc => ?_)
        · replace hF := q_t hc hF
          refine lv_iload_n hx hb dX6_endOf_26 rfl (lv_at hl 3 rfl) ?_
          refine lv_if_eq (tgt := 44) hx hb dX6_endOf_27 (by decide) (fun hc => ?_) (fun hc => ?_)
          · replace hF := q_t hc hF
            refine lv_aload_n hx hb dX6_endOf_44 rfl (lv_at hl 0 rfl) ?_
            refine q_get (ci := 6) (C := RX6) (T := TX6) (N := 4) hx hb hts eX6_endOf_X6 hown hK hP 0 rfl rfl 3 (Nat.le_of_ble_eq_true rfl) k1 rfl rfl dX6_endOf_45 ?_
            refine lv_iload_n hx hb dX6_endOf_48 rfl (lv_at hl 1 rfl) ?_
            refine lv_bipush (v := 24) hx hb dX6_endOf_49 (by decide) ?_
            refine lv_imul hx hb dX6_endOf_51 ?_
            refine lv_iload_n hx hb dX6_endOf_52 rfl (lv_at hl 2 rfl) ?_
            refine lv_iadd hx hb dX6_endOf_53 ?_
            obtain ⟨hn2, hF⟩ := q_ck hF
            refine va_iald hx hb hK hP 3 0 rfl rfl hn2 dX6_endOf_54 ?_
            exact hret H locs ls 55 _ _ dX6_endOf_55 (Option.some.inj hF) rfl hP hD hS
          · replace hF := q_f hc hF
            refine lv_aload_n hx hb dX6_endOf_30 rfl (lv_at hl 0 rfl) ?_
            refine q_get (ci := 6) (C := RX6) (T := TX6) (N := 4) hx hb hts eX6_endOf_X6 hown hK hP 0 rfl rfl 2 (Nat.le_of_ble_eq_true rfl) k2 rfl rfl dX6_endOf_31 ?_
            refine lv_iload_n hx hb dX6_endOf_34 rfl (lv_at hl 1 rfl) ?_
            refine lv_bipush (v := 24) hx hb dX6_endOf_35 (by decide) ?_
            refine lv_imul hx hb dX6_endOf_37 ?_
            refine lv_iload_n hx hb dX6_endOf_38 rfl (lv_at hl 2 rfl) ?_
            refine lv_iadd hx hb dX6_endOf_39 ?_
            obtain ⟨hn3, hF⟩ := q_ck hF
            refine va_iald hx hb hK hP 2 0 rfl rfl hn3 dX6_endOf_40 ?_
            refine lv_goto (tgt := 55) hx hb dX6_endOf_41 (by decide) ?_
            exact hret H locs ls 55 _ _ dX6_endOf_55 (Option.some.inj hF) rfl hP hD hS
        · replace hF := q_f hc hF
          refine lv_iconst (v := (-1)) hx hb dX6_endOf_24 (by decide) ?_
          exact hret H locs ls 25 _ _ dX6_endOf_25 (Option.some.inj hF) rfl hP hD hS
abbrev rX6_sizeOf : Room := { frames := 0, cells := 0, slots := 0, locals := 0 }
theorem eX6_sizeOf_X6 : ∀ w ∈ u_ws RX6 TX6 4, w ∈ wsX6_sizeOf := by decide +kernel
theorem uX6_sizeOf : yX6_sizeOf.cls = RX6 ∧ yX6_sizeOf.cls ≠ "java/lang/invoke/MethodHandle" ∧ yX6_sizeOf.cls ≠ "java/lang/invoke/VarHandle" ∧ (parseMethodDescriptor yX6_sizeOf.desc).map (fun d => d.parameters.length) = some 1 := by decide +kernel
set_option maxHeartbeats 4000000 in
set_option maxRecDepth 100000 in
theorem tX6_sizeOf (l : Launch) (dC : Nat → ClassId) (dI : Nat → Nat → Nat) (cI cZ : ClassId) (aS : Nat → Nat) (sz : Nat) (P_size : Nat → Int32) (p0 : Int32) (res : Int32) (hF : fX6_sizeOf P_size p0 = some res) : q_Mi l yX6_sizeOf wsX6_sizeOf rX6_sizeOf (dC, dI) (q_ty cI cZ) [.ref (aS 11), .int p0] (iX6_sizeOf aS cI cZ P_size) (iX6_sizeOf aS cI cZ P_size) sz res := by
  refine q_meti (cc := cX6_sizeOf) (maxL := 2) (by decide) rfl (Nat.le_of_ble_eq_true rfl) ?_
  intro p e s m args below meth c Q A H locs ls C hP hD hS hl hret
  obtain ⟨hx, hb, hml, hown, hts, hA, hK⟩ := C
  replace hl : lv_has ls 2 [(0, .ref (aS 11)), (1, .int p0)] := hl
  have k0 := hts (.fieldLink RX6 9 "RouteLayout$Pieces" "size" "[I") (by decide +kernel)
  unfold fX6_sizeOf at hF
  refine lv_iload_n hx hb dX6_sizeOf_0 rfl (lv_at hl 1 rfl) ?_
  refine lv_if_lt (tgt := 19) hx hb dX6_sizeOf_1 (by decide) (fun hc => ?_) (fun hc => ?_)
  · replace hF := q_t hc hF
    refine lv_iconst (v := 0) hx hb dX6_sizeOf_19 (by decide) ?_
    exact hret H locs ls 20 _ _ dX6_sizeOf_20 (Option.some.inj hF) rfl hP hD hS
  · replace hF := q_f hc hF
    refine lv_iload_n hx hb dX6_sizeOf_4 rfl (lv_at hl 1 rfl) ?_
    refine lv_bipush (v := 24) hx hb dX6_sizeOf_5 (by decide) ?_
    refine lv_icmp_ge (tgt := 19) hx hb dX6_sizeOf_7 (by decide) (fun hc => ?_) (fun hc => ?_)
    · replace hF := q_t hc hF
      refine lv_iconst (v := 0) hx hb dX6_sizeOf_19 (by decide) ?_
      exact hret H locs ls 20 _ _ dX6_sizeOf_20 (Option.some.inj hF) rfl hP hD hS
    · replace hF := q_f hc hF
      refine lv_aload_n hx hb dX6_sizeOf_10 rfl (lv_at hl 0 rfl) ?_
      refine q_get (ci := 6) (C := RX6) (T := TX6) (N := 4) hx hb hts eX6_sizeOf_X6 hown hK hP 0 rfl rfl 0 (Nat.le_of_ble_eq_true rfl) k0 rfl rfl dX6_sizeOf_11 ?_
      refine lv_iload_n hx hb dX6_sizeOf_14 rfl (lv_at hl 1 rfl) ?_
      obtain ⟨hn1, hF⟩ := q_ck hF
      refine va_iald hx hb hK hP 1 0 rfl rfl hn1 dX6_sizeOf_15 ?_
      refine lv_goto (tgt := 20) hx hb dX6_sizeOf_16 (by decide) ?_
      exact hret H locs ls 20 _ _ dX6_sizeOf_20 (Option.some.inj hF) rfl hP hD hS
abbrev rX4_sizeOf : Room := { frames := 0, cells := 0, slots := 0, locals := 0 }
theorem eX4_sizeOf_X4 : ∀ w ∈ u_ws RX4 TX4 5, w ∈ wsX4_sizeOf := by decide +kernel
theorem uX4_sizeOf : yX4_sizeOf.cls = RX4 ∧ yX4_sizeOf.cls ≠ "java/lang/invoke/MethodHandle" ∧ yX4_sizeOf.cls ≠ "java/lang/invoke/VarHandle" ∧ (parseMethodDescriptor yX4_sizeOf.desc).map (fun d => d.parameters.length) = some 1 := by decide +kernel
set_option maxHeartbeats 4000000 in
set_option maxRecDepth 100000 in
theorem tX4_sizeOf (l : Launch) (dC : Nat → ClassId) (dI : Nat → Nat → Nat) (cI cZ : ClassId) (aO : Nat → Nat) (sz : Nat) (O_layers : Int32) (O_size : Nat → Int32) (p0 : Int32) (res : Int32) (hF : fX4_sizeOf O_layers O_size p0 = some res) : q_Mi l yX4_sizeOf wsX4_sizeOf rX4_sizeOf (dC, dI) (q_ty cI cZ) [.ref (aO 0), .int p0] (iX4_sizeOf aO cI cZ O_layers O_size) (iX4_sizeOf aO cI cZ O_layers O_size) sz res := by
  refine q_meti (cc := cX4_sizeOf) (maxL := 2) (by decide) rfl (Nat.le_of_ble_eq_true rfl) ?_
  intro p e s m args below meth c Q A H locs ls C hP hD hS hl hret
  obtain ⟨hx, hb, hml, hown, hts, hA, hK⟩ := C
  replace hl : lv_has ls 2 [(0, .ref (aO 0)), (1, .int p0)] := hl
  have k0 := hts (.fieldLink RX4 38 "RouteLayout$Order" "layers" "I") (by decide +kernel)
  have k1 := hts (.fieldLink RX4 9 "RouteLayout$Order" "size" "[I") (by decide +kernel)
  unfold fX4_sizeOf at hF
  refine lv_iload_n hx hb dX4_sizeOf_0 rfl (lv_at hl 1 rfl) ?_
  refine lv_if_lt (tgt := 27) hx hb dX4_sizeOf_1 (by decide) (fun hc => ?_) (fun hc => ?_)
  · replace hF := q_t hc hF
    refine lv_iconst (v := 0) hx hb dX4_sizeOf_27 (by decide) ?_
    exact hret H locs ls 28 _ _ dX4_sizeOf_28 (Option.some.inj hF) rfl hP hD hS
  · replace hF := q_f hc hF
    refine lv_iload_n hx hb dX4_sizeOf_4 rfl (lv_at hl 1 rfl) ?_
    refine lv_aload_n hx hb dX4_sizeOf_5 rfl (lv_at hl 0 rfl) ?_
    refine q_get (ci := 4) (C := RX4) (T := TX4) (N := 5) hx hb hts eX4_sizeOf_X4 hown hK hP 0 rfl rfl 0 (Nat.le_of_ble_eq_true rfl) k0 rfl rfl dX4_sizeOf_6 ?_
    refine lv_icmp_ge (tgt := 27) hx hb dX4_sizeOf_9 (by decide) (fun hc => ?_) (fun hc => ?_)
    · replace hF := q_t hc hF
      refine lv_iconst (v := 0) hx hb dX4_sizeOf_27 (by decide) ?_
      exact hret H locs ls 28 _ _ dX4_sizeOf_28 (Option.some.inj hF) rfl hP hD hS
    · replace hF := q_f hc hF
      refine lv_iload_n hx hb dX4_sizeOf_12 rfl (lv_at hl 1 rfl) ?_
      refine lv_bipush (v := 24) hx hb dX4_sizeOf_13 (by decide) ?_
      refine lv_icmp_ge (tgt := 27) hx hb dX4_sizeOf_15 (by decide) (fun hc => ?_) (fun hc => ?_)
      · replace hF := q_t hc hF
        refine lv_iconst (v := 0) hx hb dX4_sizeOf_27 (by decide) ?_
        exact hret H locs ls 28 _ _ dX4_sizeOf_28 (Option.some.inj hF) rfl hP hD hS
      · replace hF := q_f hc hF
        refine lv_aload_n hx hb dX4_sizeOf_18 rfl (lv_at hl 0 rfl) ?_
        refine q_get (ci := 4) (C := RX4) (T := TX4) (N := 5) hx hb hts eX4_sizeOf_X4 hown hK hP 0 rfl rfl 1 (Nat.le_of_ble_eq_true rfl) k1 rfl rfl dX4_sizeOf_19 ?_
        refine lv_iload_n hx hb dX4_sizeOf_22 rfl (lv_at hl 1 rfl) ?_
        obtain ⟨hn1, hF⟩ := q_ck hF
        refine va_iald hx hb hK hP 1 0 rfl rfl hn1 dX4_sizeOf_23 ?_
        refine lv_goto (tgt := 28) hx hb dX4_sizeOf_24 (by decide) ?_
        exact hret H locs ls 28 _ _ dX4_sizeOf_28 (Option.some.inj hF) rfl hP hD hS
abbrev rX4_put : Room := { frames := 1, cells := 0, slots := 0, locals := 21 }
theorem eX4_put_X4 : ∀ w ∈ u_ws RX4 TX4 5, w ∈ wsX4_put := by decide +kernel
theorem uX4_put : yX4_put.cls = RX4 ∧ yX4_put.cls ≠ "java/lang/invoke/MethodHandle" ∧ yX4_put.cls ≠ "java/lang/invoke/VarHandle" ∧ (parseMethodDescriptor yX4_put.desc).map (fun d => d.parameters.length) = some 3 := by decide +kernel
set_option maxHeartbeats 4000000 in
set_option maxRecDepth 100000 in
theorem tX4_put (l : Launch) (dC : Nat → ClassId) (dI : Nat → Nat → Nat) (cI cZ : ClassId) (aO : Nat → Nat) (sz : Nat) (O_layers : Int32) (O_size : Nat → Int32) (O_rows : Nat → Int32) (O_places : Nat → Int32) (O_home : Nat → Int32) (p0 : Int32) (p1 : Int32) (p2 : Int32) (res : (Nat → Int32) × (Nat → Int32) × (Nat → Int32)) (hF : fX4_put O_layers O_size O_rows O_places O_home p0 p1 p2 = some res) : q_Mv l yX4_put wsX4_put rX4_put (dC, dI) (q_ty cI cZ) [.ref (aO 0), .int p0, .int p1, .int p2] (iX4_put aO cI cZ O_layers O_size O_rows O_places O_home) (iX4_put aO cI cZ O_layers O_size res.1 res.2.1 res.2.2) sz := by
  refine q_metv (cc := cX4_put) (maxL := 4) (by decide) rfl (Nat.le_of_ble_eq_true rfl) ?_
  intro p e s m args below meth c Q A H locs ls C hP hD hS hl hret
  obtain ⟨hx, hb, hml, hown, hts, hA, hK⟩ := C
  replace hl : lv_has ls 4 [(0, .ref (aO 0)), (1, .int p0), (2, .int p1), (3, .int p2)] := hl
  have k0 := hts (.fieldLink RX4 15 "RouteLayout$Order" "rows" "[I") (by decide +kernel)
  have k1 := hts (.fieldLink RX4 18 "RouteLayout$Order" "places" "[I") (by decide +kernel)
  have k2 := hts (.fieldLink RX4 21 "RouteLayout$Order" "home" "[I") (by decide +kernel)
  unfold fX4_put at hF
  refine lv_iload_n hx hb dX4_put_0 rfl (lv_at hl 2 rfl) ?_
  refine lv_if_lt (tgt := 23) hx hb dX4_put_1 (by decide) (fun hc => ?_) (fun hc => ?_)
  · replace hF := q_t hc hF
    exact hret H locs ls 23 _ dX4_put_23 (congrArg (fun z : (Nat → Int32) × (Nat → Int32) × (Nat → Int32) => (iX4_put aO cI cZ O_layers O_size z.1 z.2.1 z.2.2)) (Option.some.inj hF)) hP hD hS
  · replace hF := q_f hc hF
    refine lv_iload_n hx hb dX4_put_4 rfl (lv_at hl 2 rfl) ?_
    refine lv_aload_n hx hb dX4_put_5 rfl (lv_at hl 0 rfl) ?_
    refine lv_iload_n hx hb dX4_put_6 rfl (lv_at hl 1 rfl) ?_
    obtain ⟨q1, hcq1, hF⟩ := q_bd hF
    refine q_Vi (As := [.int p0]) (rest := [.int p1]) ⟨hx, hb, hml, hown, hts⟩ hA hK hP hD hS (tX4_sizeOf l dC dI cI cZ aO H.size O_layers O_size p0 q1 hcq1) (cwV 1 hts gX4_put_X4_sizeOf rfl rfl rfl uX4_sizeOf ⟨Nat.le_of_ble_eq_true rfl, Nat.le_of_ble_eq_true rfl⟩) [0, 1] [(true, 0), (true, 1), (false, 2), (false, 3), (false, 4)] (iX4_put aO cI cZ O_layers O_size O_rows O_places O_home) rfl rfl rfl rfl rfl 4 0 rfl rfl rfl rfl hl.1 rfl (Nat.le_of_ble_eq_true rfl) dX4_put_7 ⟨Nat.zero_le _, Nat.zero_le _⟩ (fun H locs hP hD hS => ?_)
    refine lv_icmp_ge (tgt := 23) hx hb dX4_put_10 (by decide) (fun hc => ?_) (fun hc => ?_)
    · replace hF := q_t hc hF
      exact hret H locs ls 23 _ dX4_put_23 (congrArg (fun z : (Nat → Int32) × (Nat → Int32) × (Nat → Int32) => (iX4_put aO cI cZ O_layers O_size z.1 z.2.1 z.2.2)) (Option.some.inj hF)) hP hD hS
    · replace hF := q_f hc hF
      refine lv_iload_n hx hb dX4_put_13 rfl (lv_at hl 3 rfl) ?_
      refine lv_if_lt (tgt := 23) hx hb dX4_put_14 (by decide) (fun hc => ?_) (fun hc => ?_)
      · replace hF := q_t hc hF
        exact hret H locs ls 23 _ dX4_put_23 (congrArg (fun z : (Nat → Int32) × (Nat → Int32) × (Nat → Int32) => (iX4_put aO cI cZ O_layers O_size z.1 z.2.1 z.2.2)) (Option.some.inj hF)) hP hD hS
      · replace hF := q_f hc hF
        refine lv_iload_n hx hb dX4_put_17 rfl (lv_at hl 3 rfl) ?_
        refine lv_bipush (v := 40) hx hb dX4_put_18 (by decide) ?_
        refine lv_icmp_lt (tgt := 24) hx hb dX4_put_20 (by decide) (fun hc => ?_) (fun hc => ?_)
        · replace hF := q_t hc hF
          refine lv_aload_n hx hb dX4_put_24 rfl (lv_at hl 0 rfl) ?_
          refine q_get (ci := 4) (C := RX4) (T := TX4) (N := 5) hx hb hts eX4_put_X4 hown hK hP 0 rfl rfl 2 (Nat.le_of_ble_eq_true rfl) k0 rfl rfl dX4_put_25 ?_
          refine lv_iload_n hx hb dX4_put_28 rfl (lv_at hl 1 rfl) ?_
          refine lv_bipush (v := 40) hx hb dX4_put_29 (by decide) ?_
          refine lv_imul hx hb dX4_put_31 ?_
          refine lv_iload_n hx hb dX4_put_32 rfl (lv_at hl 2 rfl) ?_
          refine lv_iadd hx hb dX4_put_33 ?_
          refine lv_iload_n hx hb dX4_put_34 rfl (lv_at hl 3 rfl) ?_
          obtain ⟨hn2, hF⟩ := q_ck hF
          refine q_iast hx hb hK hP hD hS 2 0 (iX4_put aO cI cZ O_layers O_size (upd O_rows ((p0 * 40) + p1).toNatClampNeg p2) O_places O_home) rfl rfl hn2 rfl dX4_put_35 (fun H locs hP hD hS => ?_)
          refine lv_aload_n hx hb dX4_put_36 rfl (lv_at hl 0 rfl) ?_
          refine q_get (ci := 4) (C := RX4) (T := TX4) (N := 5) hx hb hts eX4_put_X4 hown hK hP 0 rfl rfl 3 (Nat.le_of_ble_eq_true rfl) k1 rfl rfl dX4_put_37 ?_
          refine lv_iload_n hx hb dX4_put_40 rfl (lv_at hl 1 rfl) ?_
          refine lv_bipush (v := 40) hx hb dX4_put_41 (by decide) ?_
          refine lv_imul hx hb dX4_put_43 ?_
          refine lv_iload_n hx hb dX4_put_44 rfl (lv_at hl 3 rfl) ?_
          refine lv_iadd hx hb dX4_put_45 ?_
          refine lv_iload_n hx hb dX4_put_46 rfl (lv_at hl 2 rfl) ?_
          obtain ⟨hn3, hF⟩ := q_ck hF
          refine q_iast hx hb hK hP hD hS 3 0 (iX4_put aO cI cZ O_layers O_size (upd O_rows ((p0 * 40) + p1).toNatClampNeg p2) (upd O_places ((p0 * 40) + p2).toNatClampNeg p1) O_home) rfl rfl hn3 rfl dX4_put_47 (fun H locs hP hD hS => ?_)
          refine lv_iload_n hx hb dX4_put_48 rfl (lv_at hl 3 rfl) ?_
          refine lv_bipush (v := 16) hx hb dX4_put_49 (by decide) ?_
          refine lv_icmp_ge (tgt := 61) hx hb dX4_put_51 (by decide) (fun hc => ?_) (fun hc => ?_)
          · replace hF := q_t hc hF
            exact hret H locs ls 61 _ dX4_put_61 (congrArg (fun z : (Nat → Int32) × (Nat → Int32) × (Nat → Int32) => (iX4_put aO cI cZ O_layers O_size z.1 z.2.1 z.2.2)) (Option.some.inj hF)) hP hD hS
          · replace hF := q_f hc hF
            refine lv_aload_n hx hb dX4_put_54 rfl (lv_at hl 0 rfl) ?_
            refine q_get (ci := 4) (C := RX4) (T := TX4) (N := 5) hx hb hts eX4_put_X4 hown hK hP 0 rfl rfl 4 (Nat.le_of_ble_eq_true rfl) k2 rfl rfl dX4_put_55 ?_
            refine lv_iload_n hx hb dX4_put_58 rfl (lv_at hl 3 rfl) ?_
            refine lv_iload_n hx hb dX4_put_59 rfl (lv_at hl 1 rfl) ?_
            obtain ⟨hn4, hF⟩ := q_ck hF
            refine q_iast hx hb hK hP hD hS 4 0 (iX4_put aO cI cZ O_layers O_size (upd O_rows ((p0 * 40) + p1).toNatClampNeg p2) (upd O_places ((p0 * 40) + p2).toNatClampNeg p1) (upd O_home p2.toNatClampNeg p0)) rfl rfl hn4 rfl dX4_put_60 (fun H locs hP hD hS => ?_)
            exact hret H locs ls 61 _ dX4_put_61 (congrArg (fun z : (Nat → Int32) × (Nat → Int32) × (Nat → Int32) => (iX4_put aO cI cZ O_layers O_size z.1 z.2.1 z.2.2)) (Option.some.inj hF)) hP hD hS
        · replace hF := q_f hc hF
          exact hret H locs ls 23 _ dX4_put_23 (congrArg (fun z : (Nat → Int32) × (Nat → Int32) × (Nat → Int32) => (iX4_put aO cI cZ O_layers O_size z.1 z.2.1 z.2.2)) (Option.some.inj hF)) hP hD hS
abbrev rX4_append : Room := { frames := 2, cells := 0, slots := 0, locals := 44 }
theorem eX4_append_X4 : ∀ w ∈ u_ws RX4 TX4 5, w ∈ wsX4_append := by decide +kernel
theorem uX4_append : yX4_append.cls = RX4 ∧ yX4_append.cls ≠ "java/lang/invoke/MethodHandle" ∧ yX4_append.cls ≠ "java/lang/invoke/VarHandle" ∧ (parseMethodDescriptor yX4_append.desc).map (fun d => d.parameters.length) = some 2 := by decide +kernel
set_option maxHeartbeats 4000000 in
set_option maxRecDepth 100000 in
theorem tX4_append (l : Launch) (dC : Nat → ClassId) (dI : Nat → Nat → Nat) (cI cZ : ClassId) (aO : Nat → Nat) (sz : Nat) (O_layers : Int32) (O_size : Nat → Int32) (O_rows : Nat → Int32) (O_places : Nat → Int32) (O_home : Nat → Int32) (p0 : Int32) (p1 : Int32) (res : (Nat → Int32) × (Nat → Int32) × (Nat → Int32) × (Nat → Int32)) (hF : fX4_append O_layers O_size O_rows O_places O_home p0 p1 = some res) : q_Mv l yX4_append wsX4_append rX4_append (dC, dI) (q_ty cI cZ) [.ref (aO 0), .int p0, .int p1] (iX4_append aO cI cZ O_layers O_size O_rows O_places O_home) (iX4_append aO cI cZ O_layers res.1 res.2.1 res.2.2.1 res.2.2.2) sz := by
  refine q_metv (cc := cX4_append) (maxL := 3) (by decide) rfl (Nat.le_of_ble_eq_true rfl) ?_
  intro p e s m args below meth c Q A H locs ls C hP hD hS hl hret
  obtain ⟨hx, hb, hml, hown, hts, hA, hK⟩ := C
  replace hl : lv_has ls 3 [(0, .ref (aO 0)), (1, .int p0), (2, .int p1)] := hl
  have k0 := hts (.fieldLink RX4 9 "RouteLayout$Order" "size" "[I") (by decide +kernel)
  unfold fX4_append at hF
  refine lv_iload_n hx hb dX4_append_0 rfl (lv_at hl 1 rfl) ?_
  refine lv_if_lt (tgt := 45) hx hb dX4_append_1 (by decide) (fun hc => ?_) (fun hc => ?_)
  · replace hF := q_t hc hF
    exact hret H locs ls 45 _ dX4_append_45 (congrArg (fun z : (Nat → Int32) × (Nat → Int32) × (Nat → Int32) × (Nat → Int32) => (iX4_append aO cI cZ O_layers z.1 z.2.1 z.2.2.1 z.2.2.2)) (Option.some.inj hF)) hP hD hS
  · replace hF := q_f hc hF
    refine lv_iload_n hx hb dX4_append_4 rfl (lv_at hl 1 rfl) ?_
    refine lv_bipush (v := 24) hx hb dX4_append_5 (by decide) ?_
    refine lv_icmp_ge (tgt := 45) hx hb dX4_append_7 (by decide) (fun hc => ?_) (fun hc => ?_)
    · replace hF := q_t hc hF
      exact hret H locs ls 45 _ dX4_append_45 (congrArg (fun z : (Nat → Int32) × (Nat → Int32) × (Nat → Int32) × (Nat → Int32) => (iX4_append aO cI cZ O_layers z.1 z.2.1 z.2.2.1 z.2.2.2)) (Option.some.inj hF)) hP hD hS
    · replace hF := q_f hc hF
      refine lv_aload_n hx hb dX4_append_10 rfl (lv_at hl 0 rfl) ?_
      refine q_get (ci := 4) (C := RX4) (T := TX4) (N := 5) hx hb hts eX4_append_X4 hown hK hP 0 rfl rfl 1 (Nat.le_of_ble_eq_true rfl) k0 rfl rfl dX4_append_11 ?_
      refine lv_iload_n hx hb dX4_append_14 rfl (lv_at hl 1 rfl) ?_
      obtain ⟨hn1, hF⟩ := q_ck hF
      refine va_iald hx hb hK hP 1 0 rfl rfl hn1 dX4_append_15 ?_
      refine lv_bipush (v := 40) hx hb dX4_append_16 (by decide) ?_
      refine lv_icmp_ge (tgt := 45) hx hb dX4_append_18 (by decide) (fun hc => ?_) (fun hc => ?_)
      · replace hF := q_t hc hF
        exact hret H locs ls 45 _ dX4_append_45 (congrArg (fun z : (Nat → Int32) × (Nat → Int32) × (Nat → Int32) × (Nat → Int32) => (iX4_append aO cI cZ O_layers z.1 z.2.1 z.2.2.1 z.2.2.2)) (Option.some.inj hF)) hP hD hS
      · replace hF := q_f hc hF
        refine lv_aload_n hx hb dX4_append_21 rfl (lv_at hl 0 rfl) ?_
        refine q_get (ci := 4) (C := RX4) (T := TX4) (N := 5) hx hb hts eX4_append_X4 hown hK hP 0 rfl rfl 1 (Nat.le_of_ble_eq_true rfl) k0 rfl rfl dX4_append_22 ?_
        refine lv_iload_n hx hb dX4_append_25 rfl (lv_at hl 1 rfl) ?_
        refine lv_dup2_11 hx hb dX4_append_26 rfl rfl ?_
        obtain ⟨hn2, hF⟩ := q_ck hF
        refine va_iald hx hb hK hP 1 0 rfl rfl hn2 dX4_append_27 ?_
        refine lv_iconst (v := 1) hx hb dX4_append_28 (by decide) ?_
        refine lv_iadd hx hb dX4_append_29 ?_
        obtain ⟨hn3, hF⟩ := q_ck hF
        refine q_iast hx hb hK hP hD hS 1 0 (iX4_append aO cI cZ O_layers (upd O_size p0.toNatClampNeg ((O_size p0.toNatClampNeg) + 1)) O_rows O_places O_home) rfl rfl hn3 rfl dX4_append_30 (fun H locs hP hD hS => ?_)
        refine lv_aload_n hx hb dX4_append_31 rfl (lv_at hl 0 rfl) ?_
        refine lv_iload_n hx hb dX4_append_32 rfl (lv_at hl 1 rfl) ?_
        refine lv_aload_n hx hb dX4_append_33 rfl (lv_at hl 0 rfl) ?_
        refine q_get (ci := 4) (C := RX4) (T := TX4) (N := 5) hx hb hts eX4_append_X4 hown hK hP 0 rfl rfl 1 (Nat.le_of_ble_eq_true rfl) k0 rfl rfl dX4_append_34 ?_
        refine lv_iload_n hx hb dX4_append_37 rfl (lv_at hl 1 rfl) ?_
        obtain ⟨hn4, hF⟩ := q_ck hF
        refine va_iald hx hb hK hP 1 0 rfl rfl hn4 dX4_append_38 ?_
        refine lv_iconst (v := 1) hx hb dX4_append_39 (by decide) ?_
        refine lv_isub hx hb dX4_append_40 ?_
        refine lv_iload_n hx hb dX4_append_41 rfl (lv_at hl 2 rfl) ?_
        obtain ⟨q5_0, q5_1, q5_2, hcq5, hF⟩ := q_bd3 hF
        refine q_Vv (As := [.int p0, .int (((upd O_size p0.toNatClampNeg ((O_size p0.toNatClampNeg) + 1)) p0.toNatClampNeg) - 1), .int p1]) (rest := []) ⟨hx, hb, hml, hown, hts⟩ hA hK hP hD hS (tX4_put l dC dI cI cZ aO H.size O_layers (upd O_size p0.toNatClampNeg ((O_size p0.toNatClampNeg) + 1)) O_rows O_places O_home p0 (((upd O_size p0.toNatClampNeg ((O_size p0.toNatClampNeg) + 1)) p0.toNatClampNeg) - 1) p1 (q5_0, q5_1, q5_2) hcq5) (cwV 3 hts gX4_append_X4_put rfl rfl rfl uX4_put ⟨Nat.le_of_ble_eq_true rfl, Nat.le_of_ble_eq_true rfl⟩) [0, 1, 2, 3, 4] [(true, 0), (true, 1), (true, 2), (true, 3), (true, 4)] (iX4_append aO cI cZ O_layers (upd O_size p0.toNatClampNeg ((O_size p0.toNatClampNeg) + 1)) q5_0 q5_1 q5_2) rfl rfl rfl rfl rfl 4 0 rfl rfl rfl rfl hl.1 rfl (Nat.le_of_ble_eq_true rfl) dX4_append_42 ⟨Nat.zero_le _, Nat.zero_le _⟩ (fun H locs hP hD hS => ?_)
        exact hret H locs ls 45 _ dX4_append_45 (congrArg (fun z : (Nat → Int32) × (Nat → Int32) × (Nat → Int32) × (Nat → Int32) => (iX4_append aO cI cZ O_layers z.1 z.2.1 z.2.2.1 z.2.2.2)) (Option.some.inj hF)) hP hD hS
