/-! Written by wip/whole/gen.py: walks of X10_turn, X10_drawn, X10_count, X10_down, X10_layOut. -/
abbrev rX10_turn : Room := { frames := 1, cells := 0, slots := 0, locals := 25 }
theorem eX10_turn_X10 : ∀ w ∈ u_ws RX10 TX10 24, w ∈ wsX10_turn := by decide +kernel
theorem uX10_turn : yX10_turn.cls = RX10 ∧ yX10_turn.cls ≠ "java/lang/invoke/MethodHandle" ∧ yX10_turn.cls ≠ "java/lang/invoke/VarHandle" ∧ (parseMethodDescriptor yX10_turn.desc).map (fun d => d.parameters.length) = some 0 := by decide +kernel
set_option maxHeartbeats 4000000 in
set_option maxRecDepth 100000 in
theorem tX10_turn (l : Launch) (dC : Nat → ClassId) (dI : Nat → Nat → Nat) (cI cZ : ClassId) (aZ : Nat → Nat) (sz : Nat) (Z_code : Int32) (Z_isArrow : Nat → Int32) (Z_from : Nat → Int32) (Z_to : Nat → Int32) (Z_turned : Nat → Int32) (Z_told : Int32) (Z_layers : Int32) (Z_come : Nat → Int32) (res : (Nat → Int32) × (Nat → Int32)) (hF : fX10_turn Z_isArrow Z_from Z_to Z_turned Z_come = some res) : q_Mv l yX10_turn wsX10_turn rX10_turn (dC, dI) (q_ty cI cZ) [.ref (aZ 0)] (iX10_turn aZ cI cZ Z_code Z_isArrow Z_from Z_to Z_turned Z_told Z_layers Z_come) (iX10_turn aZ cI cZ Z_code Z_isArrow Z_from Z_to res.1 Z_told Z_layers res.2) sz := by
  refine q_metv (cc := cX10_turn) (maxL := 2) (by decide) rfl (Nat.le_of_ble_eq_true rfl) ?_
  intro p e s m args below meth c Q A H locs ls C hP hD hS hl hret
  obtain ⟨hx, hb, hml, hown, hts, hA, hK⟩ := C
  replace hl : lv_has ls 2 [(0, .ref (aZ 0))] := hl
  have k0 := hts (.fieldLink RX10 29 "RouteLayoutModel" "turned" "[Z") (by decide +kernel)
  have k1 := hts (.fieldLink RX10 20 "RouteLayoutModel" "isArrow" "[Z") (by decide +kernel)
  have k2 := hts (.fieldLink RX10 26 "RouteLayoutModel" "to" "[I") (by decide +kernel)
  have k3 := hts (.fieldLink RX10 23 "RouteLayoutModel" "from" "[I") (by decide +kernel)
  unfold fX10_turn at hF
  refine lv_iconst (v := 0) hx hb dX10_turn_0 (by decide) ?_
  refine lv_istore_n (lv' := [(1, .int 0), (0, .ref (aZ 0))]) hx hb dX10_turn_1 rfl hl (by decide) rfl (fun ls hl => ?_)
  obtain ⟨q1_0, q1_1, hc1, hF⟩ := q_bd2 hF
  have X1 : ∀ (u1_0 : Nat → Int32) (u1_1 : Nat → Int32), (u1_0, u1_1) = (q1_0, q1_1) → ∀ (H : Heap) (locs : List Loc) (ls : Array Slot), va_P (dC, dI) vwCl (iX10_turn aZ cI cZ Z_code Z_isArrow Z_from Z_to u1_0 Z_told Z_layers u1_1) H → va_D A (iX10_turn aZ cI cZ Z_code Z_isArrow Z_from Z_to u1_0 Z_told Z_layers u1_1) → va_S A s.heap H locs → lv_has ls 2 [] → W p l e (headSpec wsX10_turn (rX10_turn)).room s m args below meth c H locs 0 0 Q (F0 m 54 ls []) := by
    intro u1_0 u1_1 hu H locs ls hP hD hS hl
    obtain ⟨e0, e1⟩ := q_inj2 hu
    subst e0 e1
    exact hret H locs ls 54 _ dX10_turn_54 (congrArg (fun z : (Nat → Int32) × (Nat → Int32) => (iX10_turn aZ cI cZ Z_code Z_isArrow Z_from Z_to z.1 Z_told Z_layers z.2)) (Option.some.inj hF)) hP hD hS
  have L1 : ∀ st : Int32 × (Nat → Int32) × (Nat → Int32), q_lo (fun (st : Int32 × (Nat → Int32) × (Nat → Int32)) => bX10_turn_2 Z_isArrow Z_from Z_to st.1 st.2.1 st.2.2) st = some (q1_0, q1_1) → ∀ (H : Heap) (locs : List Loc) (ls : Array Slot), va_P (dC, dI) vwCl (iX10_turn aZ cI cZ Z_code Z_isArrow Z_from Z_to st.2.1 Z_told Z_layers st.2.2) H → va_D A (iX10_turn aZ cI cZ Z_code Z_isArrow Z_from Z_to st.2.1 Z_told Z_layers st.2.2) → va_S A s.heap H locs → lv_has ls 2 [(0, .ref (aZ 0)), (1, .int st.1)] → W p l e (headSpec wsX10_turn (rX10_turn)).room s m args below meth c H locs 0 0 Q (F0 m 2 ls []) := by
    intro st hst
    refine q_walk (Wh := fun st : Int32 × (Nat → Int32) × (Nat → Int32) => ∀ (H : Heap) (locs : List Loc) (ls : Array Slot), va_P (dC, dI) vwCl (iX10_turn aZ cI cZ Z_code Z_isArrow Z_from Z_to st.2.1 Z_told Z_layers st.2.2) H → va_D A (iX10_turn aZ cI cZ Z_code Z_isArrow Z_from Z_to st.2.1 Z_told Z_layers st.2.2) → va_S A s.heap H locs → lv_has ls 2 [(0, .ref (aZ 0)), (1, .int st.1)] → W p l e (headSpec wsX10_turn (rX10_turn)).room s m args below meth c H locs 0 0 Q (F0 m 2 ls [])) ?_ st hst
    clear hst st hF
    intro st o hF hin hex H locs ls hP hD hS hl
    obtain ⟨x1_1, Z_turned_1, Z_come_1⟩ := st
    replace hF : bX10_turn_2 Z_isArrow Z_from Z_to x1_1 Z_turned_1 Z_come_1 = some o := hF
    replace hP : va_P (dC, dI) vwCl (iX10_turn aZ cI cZ Z_code Z_isArrow Z_from Z_to Z_turned_1 Z_told Z_layers Z_come_1) H := hP
    replace hD : va_D A (iX10_turn aZ cI cZ Z_code Z_isArrow Z_from Z_to Z_turned_1 Z_told Z_layers Z_come_1) := hD
    replace hl : lv_has ls 2 [(0, .ref (aZ 0)), (1, .int x1_1)] := hl
    unfold bX10_turn_2 at hF
    have JX10_TURN_47 : ∀ (Z_turned_2 : Nat → Int32) (Z_come_2 : Nat → Int32) (x1_2 : Int32) (s0_2 : Int32) (s1_2 : Int32), jX10_turn_47 Z_turned_2 Z_come_2 x1_2 s0_2 s1_2 = some o → ∀ (H : Heap) (locs : List Loc) (ls : Array Slot), va_P (dC, dI) vwCl (iX10_turn aZ cI cZ Z_code Z_isArrow Z_from Z_to Z_turned_2 Z_told Z_layers Z_come_2) H → va_D A (iX10_turn aZ cI cZ Z_code Z_isArrow Z_from Z_to Z_turned_2 Z_told Z_layers Z_come_2) → va_S A s.heap H locs → lv_has ls 2 [(0, .ref (aZ 0)), (1, .int x1_2)] → W p l e (headSpec wsX10_turn (rX10_turn)).room s m args below meth c H locs 0 0 Q (F0 m 47 ls [.int s0_2, .int s1_2, .ref (aZ 7)]) := by
      intro Z_turned_2 Z_come_2 x1_2 s0_2 s1_2 hF H locs ls hP hD hS hl
      unfold jX10_turn_47 at hF
      obtain ⟨hn3, hF⟩ := q_ck hF
      obtain ⟨hn4, hF⟩ := q_ck hF
      refine q_zast hx hb hK hP hD hS 4 1 (iX10_turn aZ cI cZ Z_code Z_isArrow Z_from Z_to (upd Z_turned_2 s1_2.toNatClampNeg s0_2) Z_told Z_layers Z_come_2) rfl rfl hn3 hn4 rfl dX10_turn_47 (fun H locs hP hD hS => ?_)
      refine lv_iinc (v := (x1_2 + 1)) (lv' := [(1, .int (x1_2 + 1)), (0, .ref (aZ 0))]) hx hb dX10_turn_48 hl (k := 1) rfl rfl (by decide) rfl (fun ls hl => ?_)
      refine lv_goto (tgt := 2) hx hb dX10_turn_51 (by decide) ?_
      exact hin _ (Option.some.inj hF).symm H locs ls hP hD hS (lv_sub hl [1, 0] rfl)
    have JX10_TURN_46 : ∀ (Z_turned_5 : Nat → Int32) (Z_come_5 : Nat → Int32) (x1_5 : Int32) (s0_5 : Int32), jX10_turn_46 Z_turned_5 Z_come_5 x1_5 s0_5 = some o → ∀ (H : Heap) (locs : List Loc) (ls : Array Slot), va_P (dC, dI) vwCl (iX10_turn aZ cI cZ Z_code Z_isArrow Z_from Z_to Z_turned_5 Z_told Z_layers Z_come_5) H → va_D A (iX10_turn aZ cI cZ Z_code Z_isArrow Z_from Z_to Z_turned_5 Z_told Z_layers Z_come_5) → va_S A s.heap H locs → lv_has ls 2 [(0, .ref (aZ 0)), (1, .int x1_5)] → W p l e (headSpec wsX10_turn (rX10_turn)).room s m args below meth c H locs 0 0 Q (F0 m 46 ls [.int s0_5, .ref (aZ 7)]) := by
      intro Z_turned_5 Z_come_5 x1_5 s0_5 hF H locs ls hP hD hS hl
      unfold jX10_turn_46 at hF
      refine lv_iconst (v := 0) hx hb dX10_turn_46 (by decide) ?_
      exact JX10_TURN_47 Z_turned_5 Z_come_5 x1_5 0 s0_5 hF H locs ls hP hD hS (lv_sub hl [0, 1] rfl)
    refine lv_iload_n hx hb dX10_turn_2 rfl (lv_at hl 1 rfl) ?_
    refine lv_bipush (v := 24) hx hb dX10_turn_3 (by decide) ?_
    refine lv_icmp_ge (tgt := 54) hx hb dX10_turn_5 (by decide) (fun hc => ?_) (fun hc => ?_)
    · replace hF := q_t hc hF
      exact X1 _ _ (hex _ (Option.some.inj hF).symm) H locs ls hP hD hS (lv_sub hl [] rfl)
    · replace hF := q_f hc hF
      refine lv_aload_n hx hb dX10_turn_8 rfl (lv_at hl 0 rfl) ?_
      refine q_get (ci := 10) (C := RX10) (T := TX10) (N := 24) hx hb hts eX10_turn_X10 hown hK hP 0 rfl rfl 7 (Nat.le_of_ble_eq_true rfl) k0 rfl rfl dX10_turn_9 ?_
      refine lv_iload_n hx hb dX10_turn_12 rfl (lv_at hl 1 rfl) ?_
      refine lv_aload_n hx hb dX10_turn_13 rfl (lv_at hl 0 rfl) ?_
      refine q_get (ci := 10) (C := RX10) (T := TX10) (N := 24) hx hb hts eX10_turn_X10 hown hK hP 0 rfl rfl 4 (Nat.le_of_ble_eq_true rfl) k1 rfl rfl dX10_turn_14 ?_
      refine lv_iload_n hx hb dX10_turn_17 rfl (lv_at hl 1 rfl) ?_
      obtain ⟨hn6, hF⟩ := q_ck hF
      refine va_zald hx hb hK hP 1 1 rfl rfl hn6 dX10_turn_18 ?_
      refine lv_if_eq (tgt := 46) hx hb dX10_turn_19 (by decide) (fun hc => ?_) (fun hc => ?_)
      · replace hF := q_t hc hF
        exact JX10_TURN_46 Z_turned_1 Z_come_1 x1_1 x1_1 hF H locs ls hP hD hS (lv_sub hl [0, 1] rfl)
      · replace hF := q_f hc hF
        refine lv_aload_n hx hb dX10_turn_22 rfl (lv_at hl 0 rfl) ?_
        refine lv_aload_n hx hb dX10_turn_23 rfl (lv_at hl 0 rfl) ?_
        refine q_get (ci := 10) (C := RX10) (T := TX10) (N := 24) hx hb hts eX10_turn_X10 hown hK hP 0 rfl rfl 6 (Nat.le_of_ble_eq_true rfl) k2 rfl rfl dX10_turn_24 ?_
        refine lv_iload_n hx hb dX10_turn_27 rfl (lv_at hl 1 rfl) ?_
        obtain ⟨hn7, hF⟩ := q_ck hF
        refine va_iald hx hb hK hP 3 0 rfl rfl hn7 dX10_turn_28 ?_
        refine lv_aload_n hx hb dX10_turn_29 rfl (lv_at hl 0 rfl) ?_
        refine q_get (ci := 10) (C := RX10) (T := TX10) (N := 24) hx hb hts eX10_turn_X10 hown hK hP 0 rfl rfl 5 (Nat.le_of_ble_eq_true rfl) k3 rfl rfl dX10_turn_30 ?_
        refine lv_iload_n hx hb dX10_turn_33 rfl (lv_at hl 1 rfl) ?_
        obtain ⟨hn8, hF⟩ := q_ck hF
        refine va_iald hx hb hK hP 2 0 rfl rfl hn8 dX10_turn_34 ?_
        refine lv_iload_n hx hb dX10_turn_35 rfl (lv_at hl 1 rfl) ?_
        obtain ⟨q9_0, q9_1, hcq9, hF⟩ := q_bd2 hF
        refine q_Vi (As := [.int (Z_to x1_1.toNatClampNeg), .int (Z_from x1_1.toNatClampNeg), .int x1_1]) (rest := [.int x1_1, .ref (aZ 7)]) ⟨hx, hb, hml, hown, hts⟩ hA hK hP hD hS (tX10_leads l dC dI cI cZ aZ H.size Z_code Z_isArrow Z_from Z_to Z_turned_1 Z_told Z_layers Z_come_1 (Z_to x1_1.toNatClampNeg) (Z_from x1_1.toNatClampNeg) x1_1 (q9_0, q9_1) hcq9) (cwV 3 hts gX10_turn_X10_leads rfl rfl rfl uX10_leads ⟨Nat.le_of_ble_eq_true rfl, Nat.le_of_ble_eq_true rfl⟩) [0, 1, 2, 3, 4, 5] [(true, 0), (true, 1), (true, 2), (true, 3), (true, 4), (true, 5)] (iX10_turn aZ cI cZ Z_code Z_isArrow Z_from Z_to Z_turned_1 Z_told Z_layers q9_1) rfl rfl rfl rfl rfl 10 0 rfl rfl rfl rfl hl.1 rfl (Nat.le_of_ble_eq_true rfl) dX10_turn_36 ⟨Nat.zero_le _, Nat.zero_le _⟩ (fun H locs hP hD hS => ?_)
        refine lv_if_eq (tgt := 46) hx hb dX10_turn_39 (by decide) (fun hc => ?_) (fun hc => ?_)
        · replace hF := q_t hc hF
          exact JX10_TURN_46 Z_turned_1 q9_1 x1_1 x1_1 hF H locs ls hP hD hS (lv_sub hl [0, 1] rfl)
        · replace hF := q_f hc hF
          refine lv_iconst (v := 1) hx hb dX10_turn_42 (by decide) ?_
          refine lv_goto (tgt := 47) hx hb dX10_turn_43 (by decide) ?_
          exact JX10_TURN_47 Z_turned_1 q9_1 x1_1 1 x1_1 hF H locs ls hP hD hS (lv_sub hl [0, 1] rfl)
  exact L1 (0, Z_turned, Z_come) hc1 H locs ls hP hD hS (lv_sub hl [1, 0] rfl)
abbrev rX10_drawn : Room := { frames := 4, cells := 0, slots := 0, locals := 99 }
theorem eX10_drawn_X10 : ∀ w ∈ u_ws RX10 TX10 24, w ∈ wsX10_drawn := by decide +kernel
theorem uX10_drawn : yX10_drawn.cls = RX10 ∧ yX10_drawn.cls ≠ "java/lang/invoke/MethodHandle" ∧ yX10_drawn.cls ≠ "java/lang/invoke/VarHandle" ∧ (parseMethodDescriptor yX10_drawn.desc).map (fun d => d.parameters.length) = some 1 := by decide +kernel
set_option maxHeartbeats 4000000 in
set_option maxRecDepth 100000 in
theorem tX10_drawn (l : Launch) (dC : Nat → ClassId) (dI : Nat → Nat → Nat) (cI cZ : ClassId) (aZ : Nat → Nat) (sz : Nat) (Z_code : Int32) (Z_width : Nat → Int32) (Z_isArrow : Nat → Int32) (Z_from : Nat → Int32) (Z_to : Nat → Int32) (Z_turned : Nat → Int32) (Z_told : Int32) (Z_layers : Int32) (Z_layer : Nat → Int32) (Z_sizes : Nat → Int32) (Z_items : Nat → Int32) (Z_place : Nat → Int32) (Z_dummyPlace : Nat → Int32) (Z_xs : Nat → Int32) (Z_ends : Nat → Int32) (p0 : Int32) (res : Int32 × (Nat → Int32)) (hF : fX10_drawn Z_width Z_isArrow Z_from Z_to Z_turned Z_layers Z_layer Z_sizes Z_items Z_place Z_dummyPlace Z_xs Z_ends p0 = some res) : q_Mi l yX10_drawn wsX10_drawn rX10_drawn (dC, dI) (q_ty cI cZ) [.ref (aZ 0), .int p0] (iX10_drawn aZ cI cZ Z_code Z_width Z_isArrow Z_from Z_to Z_turned Z_told Z_layers Z_layer Z_sizes Z_items Z_place Z_dummyPlace Z_xs Z_ends) (iX10_drawn aZ cI cZ Z_code Z_width Z_isArrow Z_from Z_to Z_turned Z_told Z_layers Z_layer Z_sizes Z_items Z_place Z_dummyPlace Z_xs res.2) sz res.1 := by
  refine q_meti (cc := cX10_drawn) (maxL := 6) (by decide) rfl (Nat.le_of_ble_eq_true rfl) ?_
  intro p e s m args below meth c Q A H locs ls C hP hD hS hl hret
  obtain ⟨hx, hb, hml, hown, hts, hA, hK⟩ := C
  replace hl : lv_has ls 6 [(0, .ref (aZ 0)), (1, .int p0)] := hl
  have k0 := hts (.fieldLink RX10 103 "RouteLayoutModel" "layers" "I") (by decide +kernel)
  have k1 := hts (.fieldLink RX10 35 "RouteLayoutModel" "sizes" "[I") (by decide +kernel)
  have k2 := hts (.fieldLink RX10 47 "RouteLayoutModel" "xs" "[I") (by decide +kernel)
  unfold fX10_drawn at hF
  refine lv_iconst (v := 0) hx hb dX10_drawn_0 (by decide) ?_
  refine lv_istore_n (lv' := [(2, .int 0), (0, .ref (aZ 0)), (1, .int p0)]) hx hb dX10_drawn_1 rfl hl (by decide) rfl (fun ls hl => ?_)
  refine lv_iconst (v := 0) hx hb dX10_drawn_2 (by decide) ?_
  refine lv_istore_n (lv' := [(3, .int 0), (2, .int 0), (0, .ref (aZ 0)), (1, .int p0)]) hx hb dX10_drawn_3 rfl hl (by decide) rfl (fun ls hl => ?_)
  obtain ⟨q1_0, q1_1, hc1, hF⟩ := q_bd2 hF
  have X1 : ∀ (u1_0 : Int32) (u1_1 : Nat → Int32), (u1_0, u1_1) = (q1_0, q1_1) → ∀ (H : Heap) (locs : List Loc) (ls : Array Slot), va_P (dC, dI) vwCl (iX10_drawn aZ cI cZ Z_code Z_width Z_isArrow Z_from Z_to Z_turned Z_told Z_layers Z_layer Z_sizes Z_items Z_place Z_dummyPlace Z_xs u1_1) H → va_D A (iX10_drawn aZ cI cZ Z_code Z_width Z_isArrow Z_from Z_to Z_turned Z_told Z_layers Z_layer Z_sizes Z_items Z_place Z_dummyPlace Z_xs u1_1) → va_S A s.heap H locs → lv_has ls 6 [(0, .ref (aZ 0)), (1, .int p0), (2, .int u1_0)] → W p l e (headSpec wsX10_drawn (rX10_drawn)).room s m args below meth c H locs 0 0 Q (F0 m 146 ls []) := by
    intro u1_0 u1_1 hu H locs ls hP hD hS hl
    obtain ⟨e0, e1⟩ := q_inj2 hu
    subst e0 e1
    refine lv_iload_n hx hb dX10_drawn_146 rfl (lv_at hl 1 rfl) ?_
    refine lv_iconst (v := 3) hx hb dX10_drawn_147 (by decide) ?_
    refine lv_icmp_ne (tgt := 158) hx hb dX10_drawn_148 (by decide) (fun hc => ?_) (fun hc => ?_)
    · replace hF := q_f hc hF
      refine lv_iload_n hx hb dX10_drawn_158 rfl (lv_at hl 2 rfl) ?_
      exact hret H locs ls 159 _ _ dX10_drawn_159 (congrArg Prod.fst (Option.some.inj hF)) (congrArg (fun z : Int32 × (Nat → Int32) => (iX10_drawn aZ cI cZ Z_code Z_width Z_isArrow Z_from Z_to Z_turned Z_told Z_layers Z_layer Z_sizes Z_items Z_place Z_dummyPlace Z_xs z.2)) (Option.some.inj hF)) hP hD hS
    · replace hF := q_t hc hF
      refine lv_aload_n hx hb dX10_drawn_151 rfl (lv_at hl 0 rfl) ?_
      refine q_get (ci := 10) (C := RX10) (T := TX10) (N := 24) hx hb hts eX10_drawn_X10 hown hK hP 0 rfl rfl 9 (Nat.le_of_ble_eq_true rfl) k0 rfl rfl dX10_drawn_152 ?_
      refine lv_goto (tgt := 159) hx hb dX10_drawn_155 (by decide) ?_
      exact hret H locs ls 159 _ _ dX10_drawn_159 (congrArg Prod.fst (Option.some.inj hF)) (congrArg (fun z : Int32 × (Nat → Int32) => (iX10_drawn aZ cI cZ Z_code Z_width Z_isArrow Z_from Z_to Z_turned Z_told Z_layers Z_layer Z_sizes Z_items Z_place Z_dummyPlace Z_xs z.2)) (Option.some.inj hF)) hP hD hS
  have L1 : ∀ st : Int32 × Int32 × (Nat → Int32), q_lo (fun (st : Int32 × Int32 × (Nat → Int32)) => bX10_drawn_4 Z_width Z_isArrow Z_from Z_to Z_turned Z_layers Z_layer Z_sizes Z_items Z_place Z_dummyPlace Z_xs p0 st.1 st.2.1 st.2.2) st = some (q1_0, q1_1) → ∀ (H : Heap) (locs : List Loc) (ls : Array Slot), va_P (dC, dI) vwCl (iX10_drawn aZ cI cZ Z_code Z_width Z_isArrow Z_from Z_to Z_turned Z_told Z_layers Z_layer Z_sizes Z_items Z_place Z_dummyPlace Z_xs st.2.2) H → va_D A (iX10_drawn aZ cI cZ Z_code Z_width Z_isArrow Z_from Z_to Z_turned Z_told Z_layers Z_layer Z_sizes Z_items Z_place Z_dummyPlace Z_xs st.2.2) → va_S A s.heap H locs → lv_has ls 6 [(0, .ref (aZ 0)), (1, .int p0), (2, .int st.1), (3, .int st.2.1)] → W p l e (headSpec wsX10_drawn (rX10_drawn)).room s m args below meth c H locs 0 0 Q (F0 m 4 ls []) := by
    intro st hst
    refine q_walk (Wh := fun st : Int32 × Int32 × (Nat → Int32) => ∀ (H : Heap) (locs : List Loc) (ls : Array Slot), va_P (dC, dI) vwCl (iX10_drawn aZ cI cZ Z_code Z_width Z_isArrow Z_from Z_to Z_turned Z_told Z_layers Z_layer Z_sizes Z_items Z_place Z_dummyPlace Z_xs st.2.2) H → va_D A (iX10_drawn aZ cI cZ Z_code Z_width Z_isArrow Z_from Z_to Z_turned Z_told Z_layers Z_layer Z_sizes Z_items Z_place Z_dummyPlace Z_xs st.2.2) → va_S A s.heap H locs → lv_has ls 6 [(0, .ref (aZ 0)), (1, .int p0), (2, .int st.1), (3, .int st.2.1)] → W p l e (headSpec wsX10_drawn (rX10_drawn)).room s m args below meth c H locs 0 0 Q (F0 m 4 ls [])) ?_ st hst
    clear hst st hF
    intro st o hF hin hex H locs ls hP hD hS hl
    obtain ⟨x2_1, x3_1, Z_ends_1⟩ := st
    replace hF : bX10_drawn_4 Z_width Z_isArrow Z_from Z_to Z_turned Z_layers Z_layer Z_sizes Z_items Z_place Z_dummyPlace Z_xs p0 x2_1 x3_1 Z_ends_1 = some o := hF
    replace hP : va_P (dC, dI) vwCl (iX10_drawn aZ cI cZ Z_code Z_width Z_isArrow Z_from Z_to Z_turned Z_told Z_layers Z_layer Z_sizes Z_items Z_place Z_dummyPlace Z_xs Z_ends_1) H := hP
    replace hD : va_D A (iX10_drawn aZ cI cZ Z_code Z_width Z_isArrow Z_from Z_to Z_turned Z_told Z_layers Z_layer Z_sizes Z_items Z_place Z_dummyPlace Z_xs Z_ends_1) := hD
    replace hl : lv_has ls 6 [(0, .ref (aZ 0)), (1, .int p0), (2, .int x2_1), (3, .int x3_1)] := hl
    unfold bX10_drawn_4 at hF
    have JX10_DRAWN_140 : ∀ (Z_ends_2 : Nat → Int32) (x2_2 : Int32) (x3_2 : Int32), jX10_drawn_140 Z_ends_2 p0 x2_2 x3_2 = some o → ∀ (H : Heap) (locs : List Loc) (ls : Array Slot), va_P (dC, dI) vwCl (iX10_drawn aZ cI cZ Z_code Z_width Z_isArrow Z_from Z_to Z_turned Z_told Z_layers Z_layer Z_sizes Z_items Z_place Z_dummyPlace Z_xs Z_ends_2) H → va_D A (iX10_drawn aZ cI cZ Z_code Z_width Z_isArrow Z_from Z_to Z_turned Z_told Z_layers Z_layer Z_sizes Z_items Z_place Z_dummyPlace Z_xs Z_ends_2) → va_S A s.heap H locs → lv_has ls 6 [(0, .ref (aZ 0)), (1, .int p0), (2, .int x2_2), (3, .int x3_2)] → W p l e (headSpec wsX10_drawn (rX10_drawn)).room s m args below meth c H locs 0 0 Q (F0 m 140 ls []) := by
      intro Z_ends_2 x2_2 x3_2 hF H locs ls hP hD hS hl
      unfold jX10_drawn_140 at hF
      refine lv_iinc (v := (x3_2 + 1)) (lv' := [(3, .int (x3_2 + 1)), (0, .ref (aZ 0)), (1, .int p0), (2, .int x2_2)]) hx hb dX10_drawn_140 hl (k := 3) rfl rfl (by decide) rfl (fun ls hl => ?_)
      refine lv_goto (tgt := 4) hx hb dX10_drawn_143 (by decide) ?_
      exact hin _ (Option.some.inj hF).symm H locs ls hP hD hS (lv_sub hl [1, 2, 3, 0] rfl)
    have JX10_DRAWN_139 : ∀ (Z_ends_3 : Nat → Int32) (x3_3 : Int32) (s0_3 : Int32), jX10_drawn_139 Z_ends_3 p0 x3_3 s0_3 = some o → ∀ (H : Heap) (locs : List Loc) (ls : Array Slot), va_P (dC, dI) vwCl (iX10_drawn aZ cI cZ Z_code Z_width Z_isArrow Z_from Z_to Z_turned Z_told Z_layers Z_layer Z_sizes Z_items Z_place Z_dummyPlace Z_xs Z_ends_3) H → va_D A (iX10_drawn aZ cI cZ Z_code Z_width Z_isArrow Z_from Z_to Z_turned Z_told Z_layers Z_layer Z_sizes Z_items Z_place Z_dummyPlace Z_xs Z_ends_3) → va_S A s.heap H locs → lv_has ls 6 [(0, .ref (aZ 0)), (1, .int p0), (3, .int x3_3)] → W p l e (headSpec wsX10_drawn (rX10_drawn)).room s m args below meth c H locs 0 0 Q (F0 m 139 ls [.int s0_3]) := by
      intro Z_ends_3 x3_3 s0_3 hF H locs ls hP hD hS hl
      unfold jX10_drawn_139 at hF
      refine lv_istore_n (lv' := [(2, .int s0_3), (0, .ref (aZ 0)), (1, .int p0), (3, .int x3_3)]) hx hb dX10_drawn_139 rfl hl (by decide) rfl (fun ls hl => ?_)
      exact JX10_DRAWN_140 Z_ends_3 s0_3 x3_3 hF H locs ls hP hD hS (lv_sub hl [1, 2, 0, 3] rfl)
    have JX10_DRAWN_103 : ∀ (Z_ends_4 : Nat → Int32) (x2_4 : Int32) (x3_4 : Int32), jX10_drawn_103 Z_width Z_isArrow Z_from Z_to Z_turned Z_layers Z_layer Z_items Z_place Z_dummyPlace Z_xs Z_ends_4 p0 x2_4 x3_4 = some o → ∀ (H : Heap) (locs : List Loc) (ls : Array Slot), va_P (dC, dI) vwCl (iX10_drawn aZ cI cZ Z_code Z_width Z_isArrow Z_from Z_to Z_turned Z_told Z_layers Z_layer Z_sizes Z_items Z_place Z_dummyPlace Z_xs Z_ends_4) H → va_D A (iX10_drawn aZ cI cZ Z_code Z_width Z_isArrow Z_from Z_to Z_turned Z_told Z_layers Z_layer Z_sizes Z_items Z_place Z_dummyPlace Z_xs Z_ends_4) → va_S A s.heap H locs → lv_has ls 6 [(0, .ref (aZ 0)), (1, .int p0), (2, .int x2_4), (3, .int x3_4)] → W p l e (headSpec wsX10_drawn (rX10_drawn)).room s m args below meth c H locs 0 0 Q (F0 m 103 ls []) := by
      intro Z_ends_4 x2_4 x3_4 hF H locs ls hP hD hS hl
      unfold jX10_drawn_103 at hF
      refine lv_iload_n hx hb dX10_drawn_103 rfl (lv_at hl 1 rfl) ?_
      refine lv_bipush (v := 7) hx hb dX10_drawn_104 (by decide) ?_
      refine lv_icmp_ne (tgt := 140) hx hb dX10_drawn_106 (by decide) (fun hc => ?_) (fun hc => ?_)
      · replace hF := q_f hc hF
        exact JX10_DRAWN_140 Z_ends_4 x2_4 x3_4 hF H locs ls hP hD hS (lv_sub hl [0, 1, 2, 3] rfl)
      · replace hF := q_t hc hF
        refine lv_iload_n hx hb dX10_drawn_109 rfl (lv_at hl 3 rfl) ?_
        refine lv_iconst (v := 1) hx hb dX10_drawn_110 (by decide) ?_
        refine lv_iadd hx hb dX10_drawn_111 ?_
        refine lv_aload_n hx hb dX10_drawn_112 rfl (lv_at hl 0 rfl) ?_
        refine q_get (ci := 10) (C := RX10) (T := TX10) (N := 24) hx hb hts eX10_drawn_X10 hown hK hP 0 rfl rfl 9 (Nat.le_of_ble_eq_true rfl) k0 rfl rfl dX10_drawn_113 ?_
        refine lv_icmp_ge (tgt := 140) hx hb dX10_drawn_116 (by decide) (fun hc => ?_) (fun hc => ?_)
        · replace hF := q_t hc hF
          exact JX10_DRAWN_140 Z_ends_4 x2_4 x3_4 hF H locs ls hP hD hS (lv_sub hl [0, 1, 2, 3] rfl)
        · replace hF := q_f hc hF
          refine lv_aload_n hx hb dX10_drawn_119 rfl (lv_at hl 0 rfl) ?_
          refine lv_iconst (v := (-1)) hx hb dX10_drawn_120 (by decide) ?_
          refine lv_iload_n hx hb dX10_drawn_121 rfl (lv_at hl 3 rfl) ?_
          obtain ⟨q5_0, q5_1, hcq5, hF⟩ := q_bd2 hF
          refine q_Vi (As := [.int (-1), .int x3_4]) (rest := []) ⟨hx, hb, hml, hown, hts⟩ hA hK hP hD hS (tX10_track l dC dI cI cZ aZ H.size Z_code Z_width Z_isArrow Z_from Z_to Z_turned Z_told Z_layers Z_layer Z_items Z_place Z_dummyPlace Z_xs Z_ends_4 (-1) x3_4 (q5_0, q5_1) hcq5) (cwV 2 hts gX10_drawn_X10_track rfl rfl rfl uX10_track ⟨Nat.le_of_ble_eq_true rfl, Nat.le_of_ble_eq_true rfl⟩) [0, 1, 2, 3, 4, 5, 6, 8, 9, 10, 11, 12] [(true, 0), (true, 1), (true, 2), (true, 3), (true, 4), (true, 5), (true, 6), (false, 7), (true, 7), (true, 8), (true, 9), (true, 10), (true, 11)] (iX10_drawn aZ cI cZ Z_code Z_width Z_isArrow Z_from Z_to Z_turned Z_told Z_layers Z_layer Z_sizes Z_items Z_place Z_dummyPlace Z_xs q5_1) rfl rfl rfl rfl rfl 10 0 rfl rfl rfl rfl hl.1 rfl (Nat.le_of_ble_eq_true rfl) dX10_drawn_122 ⟨Nat.zero_le _, Nat.zero_le _⟩ (fun H locs hP hD hS => ?_)
          refine lv_istore (lv' := [(4, .int q5_0), (0, .ref (aZ 0)), (1, .int p0), (2, .int x2_4), (3, .int x3_4)]) hx hb dX10_drawn_125 hl (by decide) rfl (fun ls hl => ?_)
          refine lv_iload hx hb dX10_drawn_127 (lv_at hl 0 rfl) ?_
          refine lv_iload_n hx hb dX10_drawn_129 rfl (lv_at hl 3 rfl) ?_
          refine lv_icmp_le (tgt := 138) hx hb dX10_drawn_130 (by decide) (fun hc => ?_) (fun hc => ?_)
          · replace hF := q_t hc hF
            refine lv_iload_n hx hb dX10_drawn_138 rfl (lv_at hl 3 rfl) ?_
            exact JX10_DRAWN_139 q5_1 x3_4 x2_4 hF H locs ls hP hD hS (lv_sub hl [1, 2, 4] rfl)
          · replace hF := q_f hc hF
            refine lv_iload hx hb dX10_drawn_133 (lv_at hl 0 rfl) ?_
            refine lv_goto (tgt := 139) hx hb dX10_drawn_135 (by decide) ?_
            exact JX10_DRAWN_139 q5_1 x3_4 q5_0 hF H locs ls hP hD hS (lv_sub hl [1, 2, 4] rfl)
    have JX10_DRAWN_102 : ∀ (Z_ends_6 : Nat → Int32) (x3_6 : Int32) (s0_6 : Int32), jX10_drawn_102 Z_width Z_isArrow Z_from Z_to Z_turned Z_layers Z_layer Z_items Z_place Z_dummyPlace Z_xs Z_ends_6 p0 x3_6 s0_6 = some o → ∀ (H : Heap) (locs : List Loc) (ls : Array Slot), va_P (dC, dI) vwCl (iX10_drawn aZ cI cZ Z_code Z_width Z_isArrow Z_from Z_to Z_turned Z_told Z_layers Z_layer Z_sizes Z_items Z_place Z_dummyPlace Z_xs Z_ends_6) H → va_D A (iX10_drawn aZ cI cZ Z_code Z_width Z_isArrow Z_from Z_to Z_turned Z_told Z_layers Z_layer Z_sizes Z_items Z_place Z_dummyPlace Z_xs Z_ends_6) → va_S A s.heap H locs → lv_has ls 6 [(0, .ref (aZ 0)), (1, .int p0), (3, .int x3_6)] → W p l e (headSpec wsX10_drawn (rX10_drawn)).room s m args below meth c H locs 0 0 Q (F0 m 102 ls [.int s0_6]) := by
      intro Z_ends_6 x3_6 s0_6 hF H locs ls hP hD hS hl
      unfold jX10_drawn_102 at hF
      refine lv_istore_n (lv' := [(2, .int s0_6), (0, .ref (aZ 0)), (1, .int p0), (3, .int x3_6)]) hx hb dX10_drawn_102 rfl hl (by decide) rfl (fun ls hl => ?_)
      exact JX10_DRAWN_103 Z_ends_6 s0_6 x3_6 hF H locs ls hP hD hS (lv_sub hl [1, 2, 0, 3] rfl)
    have JX10_DRAWN_39 : ∀ (Z_ends_7 : Nat → Int32) (x2_7 : Int32) (x3_7 : Int32), jX10_drawn_39 Z_width Z_isArrow Z_from Z_to Z_turned Z_layers Z_layer Z_sizes Z_items Z_place Z_dummyPlace Z_xs Z_ends_7 p0 x2_7 x3_7 = some o → ∀ (H : Heap) (locs : List Loc) (ls : Array Slot), va_P (dC, dI) vwCl (iX10_drawn aZ cI cZ Z_code Z_width Z_isArrow Z_from Z_to Z_turned Z_told Z_layers Z_layer Z_sizes Z_items Z_place Z_dummyPlace Z_xs Z_ends_7) H → va_D A (iX10_drawn aZ cI cZ Z_code Z_width Z_isArrow Z_from Z_to Z_turned Z_told Z_layers Z_layer Z_sizes Z_items Z_place Z_dummyPlace Z_xs Z_ends_7) → va_S A s.heap H locs → lv_has ls 6 [(0, .ref (aZ 0)), (1, .int p0), (2, .int x2_7), (3, .int x3_7)] → W p l e (headSpec wsX10_drawn (rX10_drawn)).room s m args below meth c H locs 0 0 Q (F0 m 39 ls []) := by
      intro Z_ends_7 x2_7 x3_7 hF H locs ls hP hD hS hl
      unfold jX10_drawn_39 at hF
      refine lv_iload_n hx hb dX10_drawn_39 rfl (lv_at hl 1 rfl) ?_
      refine lv_bipush (v := 6) hx hb dX10_drawn_40 (by decide) ?_
      refine lv_icmp_ne (tgt := 103) hx hb dX10_drawn_42 (by decide) (fun hc => ?_) (fun hc => ?_)
      · replace hF := q_f hc hF
        exact JX10_DRAWN_103 Z_ends_7 x2_7 x3_7 hF H locs ls hP hD hS (lv_sub hl [0, 1, 2, 3] rfl)
      · replace hF := q_t hc hF
        refine lv_aload_n hx hb dX10_drawn_45 rfl (lv_at hl 0 rfl) ?_
        refine q_get (ci := 10) (C := RX10) (T := TX10) (N := 24) hx hb hts eX10_drawn_X10 hown hK hP 0 rfl rfl 11 (Nat.le_of_ble_eq_true rfl) k1 rfl rfl dX10_drawn_46 ?_
        refine lv_iload_n hx hb dX10_drawn_49 rfl (lv_at hl 3 rfl) ?_
        obtain ⟨hn8, hF⟩ := q_ck hF
        refine va_iald hx hb hK hP 7 0 rfl rfl hn8 dX10_drawn_50 ?_
        refine lv_if_le (tgt := 103) hx hb dX10_drawn_51 (by decide) (fun hc => ?_) (fun hc => ?_)
        · replace hF := q_t hc hF
          exact JX10_DRAWN_103 Z_ends_7 x2_7 x3_7 hF H locs ls hP hD hS (lv_sub hl [0, 1, 2, 3] rfl)
        · replace hF := q_f hc hF
          refine lv_aload_n hx hb dX10_drawn_54 rfl (lv_at hl 0 rfl) ?_
          refine q_get (ci := 10) (C := RX10) (T := TX10) (N := 24) hx hb hts eX10_drawn_X10 hown hK hP 0 rfl rfl 11 (Nat.le_of_ble_eq_true rfl) k1 rfl rfl dX10_drawn_55 ?_
          refine lv_iload_n hx hb dX10_drawn_58 rfl (lv_at hl 3 rfl) ?_
          obtain ⟨hn9, hF⟩ := q_ck hF
          refine va_iald hx hb hK hP 7 0 rfl rfl hn9 dX10_drawn_59 ?_
          refine lv_iconst (v := 1) hx hb dX10_drawn_60 (by decide) ?_
          refine lv_isub hx hb dX10_drawn_61 ?_
          obtain ⟨v10, hv10, hF⟩ := q_letE hF
          refine q_top hv10 ?_
          refine lv_istore (lv' := [(4, .int v10), (0, .ref (aZ 0)), (1, .int p0), (2, .int x2_7), (3, .int x3_7)]) hx hb dX10_drawn_62 hl (by decide) rfl (fun ls hl => ?_)
          refine lv_aload_n hx hb dX10_drawn_64 rfl (lv_at hl 1 rfl) ?_
          refine q_get (ci := 10) (C := RX10) (T := TX10) (N := 24) hx hb hts eX10_drawn_X10 hown hK hP 0 rfl rfl 15 (Nat.le_of_ble_eq_true rfl) k2 rfl rfl dX10_drawn_65 ?_
          refine lv_bipush (v := 40) hx hb dX10_drawn_68 (by decide) ?_
          refine lv_iload_n hx hb dX10_drawn_70 rfl (lv_at hl 4 rfl) ?_
          refine lv_imul hx hb dX10_drawn_71 ?_
          refine lv_iload hx hb dX10_drawn_72 (lv_at hl 0 rfl) ?_
          refine lv_iadd hx hb dX10_drawn_74 ?_
          obtain ⟨hn11, hF⟩ := q_ck hF
          refine va_iald hx hb hK hP 11 0 rfl rfl hn11 dX10_drawn_75 ?_
          refine lv_aload_n hx hb dX10_drawn_76 rfl (lv_at hl 1 rfl) ?_
          refine lv_aload_n hx hb dX10_drawn_77 rfl (lv_at hl 1 rfl) ?_
          refine lv_iload_n hx hb dX10_drawn_78 rfl (lv_at hl 4 rfl) ?_
          refine lv_iload hx hb dX10_drawn_79 (lv_at hl 0 rfl) ?_
          obtain ⟨q12, hcq12, hF⟩ := q_bd hF
          refine q_Vi (As := [.int x3_7, .int v10]) (rest := [.ref (aZ 0), .int (Z_xs ((40 * x3_7) + v10).toNatClampNeg)]) ⟨hx, hb, hml, hown, hts⟩ hA hK hP hD hS (tX10_item0 l dC dI cI cZ aZ H.size Z_code Z_told Z_layers Z_items x3_7 v10 q12 hcq12) (cwV 2 hts gX10_drawn_X10_item0 rfl rfl rfl uX10_item0 ⟨Nat.le_of_ble_eq_true rfl, Nat.le_of_ble_eq_true rfl⟩) [0, 8] [(true, 0), (false, 1), (false, 2), (false, 3), (false, 4), (false, 5), (false, 6), (false, 7), (true, 1), (false, 9), (false, 10), (false, 11), (false, 12)] (iX10_drawn aZ cI cZ Z_code Z_width Z_isArrow Z_from Z_to Z_turned Z_told Z_layers Z_layer Z_sizes Z_items Z_place Z_dummyPlace Z_xs Z_ends_7) rfl rfl rfl rfl rfl 10 0 rfl rfl rfl rfl hl.1 rfl (Nat.le_of_ble_eq_true rfl) dX10_drawn_81 ⟨Nat.zero_le _, Nat.zero_le _⟩ (fun H locs hP hD hS => ?_)
          obtain ⟨q13, hcq13, hF⟩ := q_bd hF
          refine q_Vi (As := [.int q12]) (rest := [.int (Z_xs ((40 * x3_7) + v10).toNatClampNeg)]) ⟨hx, hb, hml, hown, hts⟩ hA hK hP hD hS (tX10_widthOf l dC dI cI cZ aZ H.size Z_code Z_width Z_told Z_layers q12 q13 hcq13) (cwV 1 hts gX10_drawn_X10_widthOf rfl rfl rfl uX10_widthOf ⟨Nat.le_of_ble_eq_true rfl, Nat.le_of_ble_eq_true rfl⟩) [0, 1] [(true, 0), (true, 1), (false, 2), (false, 3), (false, 4), (false, 5), (false, 6), (false, 7), (false, 8), (false, 9), (false, 10), (false, 11), (false, 12)] (iX10_drawn aZ cI cZ Z_code Z_width Z_isArrow Z_from Z_to Z_turned Z_told Z_layers Z_layer Z_sizes Z_items Z_place Z_dummyPlace Z_xs Z_ends_7) rfl rfl rfl rfl rfl 10 0 rfl rfl rfl rfl hl.1 rfl (Nat.le_of_ble_eq_true rfl) dX10_drawn_84 ⟨Nat.zero_le _, Nat.zero_le _⟩ (fun H locs hP hD hS => ?_)
          refine lv_iadd hx hb dX10_drawn_87 ?_
          obtain ⟨v14, hv14, hF⟩ := q_letE hF
          refine q_top hv14 ?_
          refine lv_istore (lv' := [(5, .int v14), (4, .int v10), (0, .ref (aZ 0)), (1, .int p0), (2, .int x2_7), (3, .int x3_7)]) hx hb dX10_drawn_88 hl (by decide) rfl (fun ls hl => ?_)
          refine lv_iload hx hb dX10_drawn_90 (lv_at hl 0 rfl) ?_
          refine lv_iload_n hx hb dX10_drawn_92 rfl (lv_at hl 4 rfl) ?_
          refine lv_icmp_le (tgt := 101) hx hb dX10_drawn_93 (by decide) (fun hc => ?_) (fun hc => ?_)
          · replace hF := q_t hc hF
            refine lv_iload_n hx hb dX10_drawn_101 rfl (lv_at hl 4 rfl) ?_
            exact JX10_DRAWN_102 Z_ends_7 x3_7 x2_7 hF H locs ls hP hD hS (lv_sub hl [2, 3, 5] rfl)
          · replace hF := q_f hc hF
            refine lv_iload hx hb dX10_drawn_96 (lv_at hl 0 rfl) ?_
            refine lv_goto (tgt := 102) hx hb dX10_drawn_98 (by decide) ?_
            exact JX10_DRAWN_102 Z_ends_7 x3_7 v14 hF H locs ls hP hD hS (lv_sub hl [2, 3, 5] rfl)
    have JX10_DRAWN_26 : ∀ (Z_ends_15 : Nat → Int32) (x2_15 : Int32) (x3_15 : Int32), jX10_drawn_26 Z_width Z_isArrow Z_from Z_to Z_turned Z_layers Z_layer Z_sizes Z_items Z_place Z_dummyPlace Z_xs Z_ends_15 p0 x2_15 x3_15 = some o → ∀ (H : Heap) (locs : List Loc) (ls : Array Slot), va_P (dC, dI) vwCl (iX10_drawn aZ cI cZ Z_code Z_width Z_isArrow Z_from Z_to Z_turned Z_told Z_layers Z_layer Z_sizes Z_items Z_place Z_dummyPlace Z_xs Z_ends_15) H → va_D A (iX10_drawn aZ cI cZ Z_code Z_width Z_isArrow Z_from Z_to Z_turned Z_told Z_layers Z_layer Z_sizes Z_items Z_place Z_dummyPlace Z_xs Z_ends_15) → va_S A s.heap H locs → lv_has ls 6 [(0, .ref (aZ 0)), (1, .int p0), (2, .int x2_15), (3, .int x3_15)] → W p l e (headSpec wsX10_drawn (rX10_drawn)).room s m args below meth c H locs 0 0 Q (F0 m 26 ls []) := by
      intro Z_ends_15 x2_15 x3_15 hF H locs ls hP hD hS hl
      unfold jX10_drawn_26 at hF
      refine lv_iload_n hx hb dX10_drawn_26 rfl (lv_at hl 1 rfl) ?_
      refine lv_iconst (v := 5) hx hb dX10_drawn_27 (by decide) ?_
      refine lv_icmp_ne (tgt := 39) hx hb dX10_drawn_28 (by decide) (fun hc => ?_) (fun hc => ?_)
      · replace hF := q_f hc hF
        exact JX10_DRAWN_39 Z_ends_15 x2_15 x3_15 hF H locs ls hP hD hS (lv_sub hl [0, 1, 2, 3] rfl)
      · replace hF := q_t hc hF
        refine lv_iload_n hx hb dX10_drawn_31 rfl (lv_at hl 2 rfl) ?_
        refine lv_aload_n hx hb dX10_drawn_32 rfl (lv_at hl 0 rfl) ?_
        refine lv_iload_n hx hb dX10_drawn_33 rfl (lv_at hl 3 rfl) ?_
        obtain ⟨q16, hcq16, hF⟩ := q_bd hF
        refine q_Vi (As := [.int x3_15]) (rest := [.int x2_15]) ⟨hx, hb, hml, hown, hts⟩ hA hK hP hD hS (tX10_crossings l dC dI cI cZ aZ H.size Z_code Z_isArrow Z_from Z_to Z_turned Z_told Z_layers Z_layer Z_place Z_dummyPlace x3_15 q16 hcq16) (cwV 1 hts gX10_drawn_X10_crossings rfl rfl rfl uX10_crossings ⟨Nat.le_of_ble_eq_true rfl, Nat.le_of_ble_eq_true rfl⟩) [0, 2, 3, 4, 5, 6, 9, 10] [(true, 0), (false, 1), (true, 1), (true, 2), (true, 3), (true, 4), (true, 5), (false, 7), (false, 8), (true, 6), (true, 7), (false, 11), (false, 12)] (iX10_drawn aZ cI cZ Z_code Z_width Z_isArrow Z_from Z_to Z_turned Z_told Z_layers Z_layer Z_sizes Z_items Z_place Z_dummyPlace Z_xs Z_ends_15) rfl rfl rfl rfl rfl 10 0 rfl rfl rfl rfl hl.1 rfl (Nat.le_of_ble_eq_true rfl) dX10_drawn_34 ⟨Nat.zero_le _, Nat.zero_le _⟩ (fun H locs hP hD hS => ?_)
        refine lv_iadd hx hb dX10_drawn_37 ?_
        refine lv_istore_n (lv' := [(2, .int (x2_15 + q16)), (0, .ref (aZ 0)), (1, .int p0), (3, .int x3_15)]) hx hb dX10_drawn_38 rfl hl (by decide) rfl (fun ls hl => ?_)
        exact JX10_DRAWN_39 Z_ends_15 (x2_15 + q16) x3_15 hF H locs ls hP hD hS (lv_sub hl [1, 2, 0, 3] rfl)
    refine lv_iload_n hx hb dX10_drawn_4 rfl (lv_at hl 3 rfl) ?_
    refine lv_aload_n hx hb dX10_drawn_5 rfl (lv_at hl 0 rfl) ?_
    refine q_get (ci := 10) (C := RX10) (T := TX10) (N := 24) hx hb hts eX10_drawn_X10 hown hK hP 0 rfl rfl 9 (Nat.le_of_ble_eq_true rfl) k0 rfl rfl dX10_drawn_6 ?_
    refine lv_icmp_ge (tgt := 146) hx hb dX10_drawn_9 (by decide) (fun hc => ?_) (fun hc => ?_)
    · replace hF := q_t hc hF
      exact X1 _ _ (hex _ (Option.some.inj hF).symm) H locs ls hP hD hS (lv_sub hl [0, 1, 2] rfl)
    · replace hF := q_f hc hF
      refine lv_iload_n hx hb dX10_drawn_12 rfl (lv_at hl 1 rfl) ?_
      refine lv_iconst (v := 4) hx hb dX10_drawn_13 (by decide) ?_
      refine lv_icmp_ne (tgt := 26) hx hb dX10_drawn_14 (by decide) (fun hc => ?_) (fun hc => ?_)
      · replace hF := q_f hc hF
        exact JX10_DRAWN_26 Z_ends_1 x2_1 x3_1 hF H locs ls hP hD hS (lv_sub hl [0, 1, 2, 3] rfl)
      · replace hF := q_t hc hF
        refine lv_iload_n hx hb dX10_drawn_17 rfl (lv_at hl 2 rfl) ?_
        refine lv_aload_n hx hb dX10_drawn_18 rfl (lv_at hl 0 rfl) ?_
        refine q_get (ci := 10) (C := RX10) (T := TX10) (N := 24) hx hb hts eX10_drawn_X10 hown hK hP 0 rfl rfl 11 (Nat.le_of_ble_eq_true rfl) k1 rfl rfl dX10_drawn_19 ?_
        refine lv_iload_n hx hb dX10_drawn_22 rfl (lv_at hl 3 rfl) ?_
        obtain ⟨hn17, hF⟩ := q_ck hF
        refine va_iald hx hb hK hP 7 0 rfl rfl hn17 dX10_drawn_23 ?_
        refine lv_iadd hx hb dX10_drawn_24 ?_
        obtain ⟨v18, hv18, hF⟩ := q_letE hF
        refine q_top hv18 ?_
        refine lv_istore_n (lv' := [(2, .int v18), (0, .ref (aZ 0)), (1, .int p0), (3, .int x3_1)]) hx hb dX10_drawn_25 rfl hl (by decide) rfl (fun ls hl => ?_)
        exact JX10_DRAWN_26 Z_ends_1 v18 x3_1 hF H locs ls hP hD hS (lv_sub hl [1, 2, 0, 3] rfl)
  exact L1 (0, 0, Z_ends) hc1 H locs ls hP hD hS (lv_sub hl [2, 3, 1, 0] rfl)
abbrev rX10_count : Room := { frames := 5, cells := 0, slots := 0, locals := 124 }
theorem eX10_count_X10 : ∀ w ∈ u_ws RX10 TX10 24, w ∈ wsX10_count := by decide +kernel
theorem uX10_count : yX10_count.cls = RX10 ∧ yX10_count.cls ≠ "java/lang/invoke/MethodHandle" ∧ yX10_count.cls ≠ "java/lang/invoke/VarHandle" ∧ (parseMethodDescriptor yX10_count.desc).map (fun d => d.parameters.length) = some 1 := by decide +kernel
set_option maxHeartbeats 4000000 in
set_option maxRecDepth 100000 in
theorem tX10_count (l : Launch) (dC : Nat → ClassId) (dI : Nat → Nat → Nat) (cI cZ : ClassId) (aZ : Nat → Nat) (sz : Nat) (Z_code : Int32) (Z_isBox : Nat → Int32) (Z_width : Nat → Int32) (Z_isArrow : Nat → Int32) (Z_from : Nat → Int32) (Z_to : Nat → Int32) (Z_turned : Nat → Int32) (Z_told : Int32) (Z_layers : Int32) (Z_layer : Nat → Int32) (Z_sizes : Nat → Int32) (Z_items : Nat → Int32) (Z_place : Nat → Int32) (Z_dummyPlace : Nat → Int32) (Z_xs : Nat → Int32) (Z_ends : Nat → Int32) (Z_come : Nat → Int32) (p0 : Int32) (res : Int32 × Int32 × (Nat → Int32) × (Nat → Int32) × (Nat → Int32)) (hF : fX10_count Z_isBox Z_width Z_isArrow Z_from Z_to Z_turned Z_told Z_layers Z_layer Z_sizes Z_items Z_place Z_dummyPlace Z_xs Z_ends Z_come p0 = some res) : q_Mi l yX10_count wsX10_count rX10_count (dC, dI) (q_ty cI cZ) [.ref (aZ 0), .int p0] (iX10_count aZ cI cZ Z_code Z_isBox Z_width Z_isArrow Z_from Z_to Z_turned Z_told Z_layers Z_layer Z_sizes Z_items Z_place Z_dummyPlace Z_xs Z_ends Z_come) (iX10_count aZ cI cZ res.2.1 Z_isBox Z_width Z_isArrow Z_from Z_to res.2.2.1 Z_told Z_layers Z_layer Z_sizes Z_items Z_place Z_dummyPlace Z_xs res.2.2.2.1 res.2.2.2.2) sz res.1 := by
  refine q_meti (cc := cX10_count) (maxL := 4) (by decide) rfl (Nat.le_of_ble_eq_true rfl) ?_
  intro p e s m args below meth c Q A H locs ls C hP hD hS hl hret
  obtain ⟨hx, hb, hml, hown, hts, hA, hK⟩ := C
  replace hl : lv_has ls 4 [(0, .ref (aZ 0)), (1, .int p0)] := hl
  have k0 := hts (.fieldLink RX10 74 "RouteLayoutModel" "code" "I") (by decide +kernel)
  have k1 := hts (.fieldLink RX10 7 "RouteLayoutModel" "isBox" "[Z") (by decide +kernel)
  have k2 := hts (.fieldLink RX10 20 "RouteLayoutModel" "isArrow" "[Z") (by decide +kernel)
  have k3 := hts (.fieldLink RX10 29 "RouteLayoutModel" "turned" "[Z") (by decide +kernel)
  have k4 := hts (.fieldLink RX10 82 "RouteLayoutModel" "told" "Z") (by decide +kernel)
  unfold fX10_count at hF
  refine lv_aload_n hx hb dX10_count_0 rfl (lv_at hl 0 rfl) ?_
  refine lv_iconst (v := 0) hx hb dX10_count_1 (by decide) ?_
  refine q_put (ci := 10) (C := RX10) (T := TX10) (N := 24) (ty := .int) hx hb hts eX10_count_X10 tyX10 tyX10_ok nmX10 hown hK hP hD hS 0 (iX10_count aZ cI cZ 0 Z_isBox Z_width Z_isArrow Z_from Z_to Z_turned Z_told Z_layers Z_layer Z_sizes Z_items Z_place Z_dummyPlace Z_xs Z_ends Z_come) rfl rfl 0 (Nat.le_of_ble_eq_true rfl) k0 rfl rfl (by decide +kernel) rfl rfl (Nat.le_of_ble_eq_true rfl) rfl dX10_count_2 (fun H locs hP hD hS => ?_)
  refine lv_iconst (v := 0) hx hb dX10_count_5 (by decide) ?_
  refine lv_istore_n (lv' := [(2, .int 0), (0, .ref (aZ 0)), (1, .int p0)]) hx hb dX10_count_6 rfl hl (by decide) rfl (fun ls hl => ?_)
  refine lv_iload_n hx hb dX10_count_7 rfl (lv_at hl 2 rfl) ?_
  by_cases hc1 : p0 = 0
  · replace hF := q_t hc1 hF
    refine lv_tableIn (tgt := 36) hx hb dX10_count_8 (by rw [hc1] <;> decide) (by rw [hc1] <;> decide) (by rw [hc1] <;> rfl) (by decide) ?_
    refine lv_iconst (v := 0) hx hb dX10_count_36 (by decide) ?_
    refine lv_istore_n (lv' := [(3, .int 0), (2, .int 0), (0, .ref (aZ 0)), (1, .int p0)]) hx hb dX10_count_37 rfl hl (by decide) rfl (fun ls hl => ?_)
    obtain ⟨q2, hc2, hF⟩ := q_bd hF
    have X2 : ∀ (u2 : Int32), u2 = q2 → ∀ (H : Heap) (locs : List Loc) (ls : Array Slot), va_P (dC, dI) vwCl (iX10_count aZ cI cZ 0 Z_isBox Z_width Z_isArrow Z_from Z_to Z_turned Z_told Z_layers Z_layer Z_sizes Z_items Z_place Z_dummyPlace Z_xs Z_ends Z_come) H → va_D A (iX10_count aZ cI cZ 0 Z_isBox Z_width Z_isArrow Z_from Z_to Z_turned Z_told Z_layers Z_layer Z_sizes Z_items Z_place Z_dummyPlace Z_xs Z_ends Z_come) → va_S A s.heap H locs → lv_has ls 4 [(2, .int u2)] → W p l e (headSpec wsX10_count (rX10_count)).room s m args below meth c H locs 0 0 Q (F0 m 67 ls []) := by
      intro u2 hu H locs ls hP hD hS hl
      subst hu
      refine lv_iload_n hx hb dX10_count_67 rfl (lv_at hl 0 rfl) ?_
      exact hret H locs ls 68 _ _ dX10_count_68 (congrArg Prod.fst (Option.some.inj hF)) (congrArg (fun z : Int32 × Int32 × (Nat → Int32) × (Nat → Int32) × (Nat → Int32) => (iX10_count aZ cI cZ z.2.1 Z_isBox Z_width Z_isArrow Z_from Z_to z.2.2.1 Z_told Z_layers Z_layer Z_sizes Z_items Z_place Z_dummyPlace Z_xs z.2.2.2.1 z.2.2.2.2)) (Option.some.inj hF)) hP hD hS
    have L2 : ∀ st : Int32 × Int32, q_lo (fun (st : Int32 × Int32) => bX10_count_38 Z_isBox st.1 st.2) st = some q2 → ∀ (H : Heap) (locs : List Loc) (ls : Array Slot), va_P (dC, dI) vwCl (iX10_count aZ cI cZ 0 Z_isBox Z_width Z_isArrow Z_from Z_to Z_turned Z_told Z_layers Z_layer Z_sizes Z_items Z_place Z_dummyPlace Z_xs Z_ends Z_come) H → va_D A (iX10_count aZ cI cZ 0 Z_isBox Z_width Z_isArrow Z_from Z_to Z_turned Z_told Z_layers Z_layer Z_sizes Z_items Z_place Z_dummyPlace Z_xs Z_ends Z_come) → va_S A s.heap H locs → lv_has ls 4 [(0, .ref (aZ 0)), (2, .int st.1), (3, .int st.2)] → W p l e (headSpec wsX10_count (rX10_count)).room s m args below meth c H locs 0 0 Q (F0 m 38 ls []) := by
      intro st hst
      refine q_walk (Wh := fun st : Int32 × Int32 => ∀ (H : Heap) (locs : List Loc) (ls : Array Slot), va_P (dC, dI) vwCl (iX10_count aZ cI cZ 0 Z_isBox Z_width Z_isArrow Z_from Z_to Z_turned Z_told Z_layers Z_layer Z_sizes Z_items Z_place Z_dummyPlace Z_xs Z_ends Z_come) H → va_D A (iX10_count aZ cI cZ 0 Z_isBox Z_width Z_isArrow Z_from Z_to Z_turned Z_told Z_layers Z_layer Z_sizes Z_items Z_place Z_dummyPlace Z_xs Z_ends Z_come) → va_S A s.heap H locs → lv_has ls 4 [(0, .ref (aZ 0)), (2, .int st.1), (3, .int st.2)] → W p l e (headSpec wsX10_count (rX10_count)).room s m args below meth c H locs 0 0 Q (F0 m 38 ls [])) ?_ st hst
      clear hst st hF
      intro st o hF hin hex H locs ls hP hD hS hl
      obtain ⟨x2_2, x3_2⟩ := st
      replace hF : bX10_count_38 Z_isBox x2_2 x3_2 = some o := hF
      replace hP : va_P (dC, dI) vwCl (iX10_count aZ cI cZ 0 Z_isBox Z_width Z_isArrow Z_from Z_to Z_turned Z_told Z_layers Z_layer Z_sizes Z_items Z_place Z_dummyPlace Z_xs Z_ends Z_come) H := hP
      replace hD : va_D A (iX10_count aZ cI cZ 0 Z_isBox Z_width Z_isArrow Z_from Z_to Z_turned Z_told Z_layers Z_layer Z_sizes Z_items Z_place Z_dummyPlace Z_xs Z_ends Z_come) := hD
      replace hl : lv_has ls 4 [(0, .ref (aZ 0)), (2, .int x2_2), (3, .int x3_2)] := hl
      unfold bX10_count_38 at hF
      have JX10_COUNT_59 : ∀ (x3_3 : Int32) (s0_3 : Int32) (s1_3 : Int32), jX10_count_59 x3_3 s0_3 s1_3 = some o → ∀ (H : Heap) (locs : List Loc) (ls : Array Slot), va_P (dC, dI) vwCl (iX10_count aZ cI cZ 0 Z_isBox Z_width Z_isArrow Z_from Z_to Z_turned Z_told Z_layers Z_layer Z_sizes Z_items Z_place Z_dummyPlace Z_xs Z_ends Z_come) H → va_D A (iX10_count aZ cI cZ 0 Z_isBox Z_width Z_isArrow Z_from Z_to Z_turned Z_told Z_layers Z_layer Z_sizes Z_items Z_place Z_dummyPlace Z_xs Z_ends Z_come) → va_S A s.heap H locs → lv_has ls 4 [(0, .ref (aZ 0)), (3, .int x3_3)] → W p l e (headSpec wsX10_count (rX10_count)).room s m args below meth c H locs 0 0 Q (F0 m 59 ls [.int s0_3, .int s1_3]) := by
        intro x3_3 s0_3 s1_3 hF H locs ls hP hD hS hl
        unfold jX10_count_59 at hF
        refine lv_iadd hx hb dX10_count_59 ?_
        refine lv_istore_n (lv' := [(2, .int (s1_3 + s0_3)), (0, .ref (aZ 0)), (3, .int x3_3)]) hx hb dX10_count_60 rfl hl (by decide) rfl (fun ls hl => ?_)
        refine lv_iinc (v := (x3_3 + 1)) (lv' := [(3, .int (x3_3 + 1)), (2, .int (s1_3 + s0_3)), (0, .ref (aZ 0))]) hx hb dX10_count_61 hl (k := 2) rfl rfl (by decide) rfl (fun ls hl => ?_)
        refine lv_goto (tgt := 38) hx hb dX10_count_64 (by decide) ?_
        exact hin _ (Option.some.inj hF).symm H locs ls hP hD hS (lv_sub hl [2, 1, 0] rfl)
      refine lv_iload_n hx hb dX10_count_38 rfl (lv_at hl 2 rfl) ?_
      refine lv_bipush (v := 16) hx hb dX10_count_39 (by decide) ?_
      refine lv_icmp_ge (tgt := 67) hx hb dX10_count_41 (by decide) (fun hc => ?_) (fun hc => ?_)
      · replace hF := q_t hc hF
        exact X2 _ (hex _ (Option.some.inj hF).symm) H locs ls hP hD hS (lv_sub hl [1] rfl)
      · replace hF := q_f hc hF
        refine lv_iload_n hx hb dX10_count_44 rfl (lv_at hl 1 rfl) ?_
        refine lv_aload_n hx hb dX10_count_45 rfl (lv_at hl 0 rfl) ?_
        refine q_get (ci := 10) (C := RX10) (T := TX10) (N := 24) hx hb hts eX10_count_X10 hown hK hP 0 rfl rfl 1 (Nat.le_of_ble_eq_true rfl) k1 rfl rfl dX10_count_46 ?_
        refine lv_iload_n hx hb dX10_count_49 rfl (lv_at hl 2 rfl) ?_
        obtain ⟨hn4, hF⟩ := q_ck hF
        refine va_zald hx hb hK hP 1 1 rfl rfl hn4 dX10_count_50 ?_
        refine lv_if_eq (tgt := 58) hx hb dX10_count_51 (by decide) (fun hc => ?_) (fun hc => ?_)
        · replace hF := q_t hc hF
          refine lv_iconst (v := 0) hx hb dX10_count_58 (by decide) ?_
          exact JX10_COUNT_59 x3_2 0 x2_2 hF H locs ls hP hD hS (lv_sub hl [0, 2] rfl)
        · replace hF := q_f hc hF
          refine lv_iconst (v := 1) hx hb dX10_count_54 (by decide) ?_
          refine lv_goto (tgt := 59) hx hb dX10_count_55 (by decide) ?_
          exact JX10_COUNT_59 x3_2 1 x2_2 hF H locs ls hP hD hS (lv_sub hl [0, 2] rfl)
    exact L2 (0, 0) hc2 H locs ls hP hD hS (lv_sub hl [2, 1, 0] rfl)
  · replace hF := q_f hc1 hF
    by_cases hc5 : p0 = 1
    · replace hF := q_t hc5 hF
      refine lv_tableIn (tgt := 69) hx hb dX10_count_8 (by rw [hc5] <;> decide) (by rw [hc5] <;> decide) (by rw [hc5] <;> rfl) (by decide) ?_
      refine lv_iconst (v := 0) hx hb dX10_count_69 (by decide) ?_
      refine lv_istore_n (lv' := [(3, .int 0), (2, .int 0), (0, .ref (aZ 0)), (1, .int p0)]) hx hb dX10_count_70 rfl hl (by decide) rfl (fun ls hl => ?_)
      obtain ⟨q6, hc6, hF⟩ := q_bd hF
      have X6 : ∀ (u6 : Int32), u6 = q6 → ∀ (H : Heap) (locs : List Loc) (ls : Array Slot), va_P (dC, dI) vwCl (iX10_count aZ cI cZ 0 Z_isBox Z_width Z_isArrow Z_from Z_to Z_turned Z_told Z_layers Z_layer Z_sizes Z_items Z_place Z_dummyPlace Z_xs Z_ends Z_come) H → va_D A (iX10_count aZ cI cZ 0 Z_isBox Z_width Z_isArrow Z_from Z_to Z_turned Z_told Z_layers Z_layer Z_sizes Z_items Z_place Z_dummyPlace Z_xs Z_ends Z_come) → va_S A s.heap H locs → lv_has ls 4 [(2, .int u6)] → W p l e (headSpec wsX10_count (rX10_count)).room s m args below meth c H locs 0 0 Q (F0 m 100 ls []) := by
        intro u6 hu H locs ls hP hD hS hl
        subst hu
        refine lv_iload_n hx hb dX10_count_100 rfl (lv_at hl 0 rfl) ?_
        exact hret H locs ls 101 _ _ dX10_count_101 (congrArg Prod.fst (Option.some.inj hF)) (congrArg (fun z : Int32 × Int32 × (Nat → Int32) × (Nat → Int32) × (Nat → Int32) => (iX10_count aZ cI cZ z.2.1 Z_isBox Z_width Z_isArrow Z_from Z_to z.2.2.1 Z_told Z_layers Z_layer Z_sizes Z_items Z_place Z_dummyPlace Z_xs z.2.2.2.1 z.2.2.2.2)) (Option.some.inj hF)) hP hD hS
      have L6 : ∀ st : Int32 × Int32, q_lo (fun (st : Int32 × Int32) => bX10_count_71 Z_isArrow st.1 st.2) st = some q6 → ∀ (H : Heap) (locs : List Loc) (ls : Array Slot), va_P (dC, dI) vwCl (iX10_count aZ cI cZ 0 Z_isBox Z_width Z_isArrow Z_from Z_to Z_turned Z_told Z_layers Z_layer Z_sizes Z_items Z_place Z_dummyPlace Z_xs Z_ends Z_come) H → va_D A (iX10_count aZ cI cZ 0 Z_isBox Z_width Z_isArrow Z_from Z_to Z_turned Z_told Z_layers Z_layer Z_sizes Z_items Z_place Z_dummyPlace Z_xs Z_ends Z_come) → va_S A s.heap H locs → lv_has ls 4 [(0, .ref (aZ 0)), (2, .int st.1), (3, .int st.2)] → W p l e (headSpec wsX10_count (rX10_count)).room s m args below meth c H locs 0 0 Q (F0 m 71 ls []) := by
        intro st hst
        refine q_walk (Wh := fun st : Int32 × Int32 => ∀ (H : Heap) (locs : List Loc) (ls : Array Slot), va_P (dC, dI) vwCl (iX10_count aZ cI cZ 0 Z_isBox Z_width Z_isArrow Z_from Z_to Z_turned Z_told Z_layers Z_layer Z_sizes Z_items Z_place Z_dummyPlace Z_xs Z_ends Z_come) H → va_D A (iX10_count aZ cI cZ 0 Z_isBox Z_width Z_isArrow Z_from Z_to Z_turned Z_told Z_layers Z_layer Z_sizes Z_items Z_place Z_dummyPlace Z_xs Z_ends Z_come) → va_S A s.heap H locs → lv_has ls 4 [(0, .ref (aZ 0)), (2, .int st.1), (3, .int st.2)] → W p l e (headSpec wsX10_count (rX10_count)).room s m args below meth c H locs 0 0 Q (F0 m 71 ls [])) ?_ st hst
        clear hst st hF
        intro st o hF hin hex H locs ls hP hD hS hl
        obtain ⟨x2_6, x3_6⟩ := st
        replace hF : bX10_count_71 Z_isArrow x2_6 x3_6 = some o := hF
        replace hP : va_P (dC, dI) vwCl (iX10_count aZ cI cZ 0 Z_isBox Z_width Z_isArrow Z_from Z_to Z_turned Z_told Z_layers Z_layer Z_sizes Z_items Z_place Z_dummyPlace Z_xs Z_ends Z_come) H := hP
        replace hD : va_D A (iX10_count aZ cI cZ 0 Z_isBox Z_width Z_isArrow Z_from Z_to Z_turned Z_told Z_layers Z_layer Z_sizes Z_items Z_place Z_dummyPlace Z_xs Z_ends Z_come) := hD
        replace hl : lv_has ls 4 [(0, .ref (aZ 0)), (2, .int x2_6), (3, .int x3_6)] := hl
        unfold bX10_count_71 at hF
        have JX10_COUNT_92 : ∀ (x3_7 : Int32) (s0_7 : Int32) (s1_7 : Int32), jX10_count_92 x3_7 s0_7 s1_7 = some o → ∀ (H : Heap) (locs : List Loc) (ls : Array Slot), va_P (dC, dI) vwCl (iX10_count aZ cI cZ 0 Z_isBox Z_width Z_isArrow Z_from Z_to Z_turned Z_told Z_layers Z_layer Z_sizes Z_items Z_place Z_dummyPlace Z_xs Z_ends Z_come) H → va_D A (iX10_count aZ cI cZ 0 Z_isBox Z_width Z_isArrow Z_from Z_to Z_turned Z_told Z_layers Z_layer Z_sizes Z_items Z_place Z_dummyPlace Z_xs Z_ends Z_come) → va_S A s.heap H locs → lv_has ls 4 [(0, .ref (aZ 0)), (3, .int x3_7)] → W p l e (headSpec wsX10_count (rX10_count)).room s m args below meth c H locs 0 0 Q (F0 m 92 ls [.int s0_7, .int s1_7]) := by
          intro x3_7 s0_7 s1_7 hF H locs ls hP hD hS hl
          unfold jX10_count_92 at hF
          refine lv_iadd hx hb dX10_count_92 ?_
          refine lv_istore_n (lv' := [(2, .int (s1_7 + s0_7)), (0, .ref (aZ 0)), (3, .int x3_7)]) hx hb dX10_count_93 rfl hl (by decide) rfl (fun ls hl => ?_)
          refine lv_iinc (v := (x3_7 + 1)) (lv' := [(3, .int (x3_7 + 1)), (2, .int (s1_7 + s0_7)), (0, .ref (aZ 0))]) hx hb dX10_count_94 hl (k := 2) rfl rfl (by decide) rfl (fun ls hl => ?_)
          refine lv_goto (tgt := 71) hx hb dX10_count_97 (by decide) ?_
          exact hin _ (Option.some.inj hF).symm H locs ls hP hD hS (lv_sub hl [2, 1, 0] rfl)
        refine lv_iload_n hx hb dX10_count_71 rfl (lv_at hl 2 rfl) ?_
        refine lv_bipush (v := 24) hx hb dX10_count_72 (by decide) ?_
        refine lv_icmp_ge (tgt := 100) hx hb dX10_count_74 (by decide) (fun hc => ?_) (fun hc => ?_)
        · replace hF := q_t hc hF
          exact X6 _ (hex _ (Option.some.inj hF).symm) H locs ls hP hD hS (lv_sub hl [1] rfl)
        · replace hF := q_f hc hF
          refine lv_iload_n hx hb dX10_count_77 rfl (lv_at hl 1 rfl) ?_
          refine lv_aload_n hx hb dX10_count_78 rfl (lv_at hl 0 rfl) ?_
          refine q_get (ci := 10) (C := RX10) (T := TX10) (N := 24) hx hb hts eX10_count_X10 hown hK hP 0 rfl rfl 4 (Nat.le_of_ble_eq_true rfl) k2 rfl rfl dX10_count_79 ?_
          refine lv_iload_n hx hb dX10_count_82 rfl (lv_at hl 2 rfl) ?_
          obtain ⟨hn8, hF⟩ := q_ck hF
          refine va_zald hx hb hK hP 3 1 rfl rfl hn8 dX10_count_83 ?_
          refine lv_if_eq (tgt := 91) hx hb dX10_count_84 (by decide) (fun hc => ?_) (fun hc => ?_)
          · replace hF := q_t hc hF
            refine lv_iconst (v := 0) hx hb dX10_count_91 (by decide) ?_
            exact JX10_COUNT_92 x3_6 0 x2_6 hF H locs ls hP hD hS (lv_sub hl [0, 2] rfl)
          · replace hF := q_f hc hF
            refine lv_iconst (v := 1) hx hb dX10_count_87 (by decide) ?_
            refine lv_goto (tgt := 92) hx hb dX10_count_88 (by decide) ?_
            exact JX10_COUNT_92 x3_6 1 x2_6 hF H locs ls hP hD hS (lv_sub hl [0, 2] rfl)
      exact L6 (0, 0) hc6 H locs ls hP hD hS (lv_sub hl [2, 1, 0] rfl)
    · replace hF := q_f hc5 hF
      by_cases hc9 : p0 = 2
      · replace hF := q_t hc9 hF
        refine lv_tableIn (tgt := 102) hx hb dX10_count_8 (by rw [hc9] <;> decide) (by rw [hc9] <;> decide) (by rw [hc9] <;> rfl) (by decide) ?_
        refine lv_aload_n hx hb dX10_count_102 rfl (lv_at hl 1 rfl) ?_
        obtain ⟨q10_0, q10_1, hcq10, hF⟩ := q_bd2 hF
        refine q_Vv (As := []) (rest := []) ⟨hx, hb, hml, hown, hts⟩ hA hK hP hD hS (tX10_turn l dC dI cI cZ aZ H.size 0 Z_isArrow Z_from Z_to Z_turned Z_told Z_layers Z_come (q10_0, q10_1) hcq10) (cwV 0 hts gX10_count_X10_turn rfl rfl rfl uX10_turn ⟨Nat.le_of_ble_eq_true rfl, Nat.le_of_ble_eq_true rfl⟩) [0, 3, 4, 5, 6, 14] [(true, 0), (false, 1), (false, 2), (true, 1), (true, 2), (true, 3), (true, 4), (false, 7), (false, 8), (false, 9), (false, 10), (false, 11), (false, 12), (false, 13), (true, 5)] (iX10_count aZ cI cZ 0 Z_isBox Z_width Z_isArrow Z_from Z_to q10_0 Z_told Z_layers Z_layer Z_sizes Z_items Z_place Z_dummyPlace Z_xs Z_ends q10_1) rfl rfl rfl rfl rfl 10 0 rfl rfl rfl rfl hl.1 rfl (Nat.le_of_ble_eq_true rfl) dX10_count_103 ⟨Nat.zero_le _, Nat.zero_le _⟩ (fun H locs hP hD hS => ?_)
        refine lv_iconst (v := 0) hx hb dX10_count_106 (by decide) ?_
        refine lv_istore_n (lv' := [(3, .int 0), (2, .int 0), (0, .ref (aZ 0)), (1, .int p0)]) hx hb dX10_count_107 rfl hl (by decide) rfl (fun ls hl => ?_)
        obtain ⟨q11, hc11, hF⟩ := q_bd hF
        have X11 : ∀ (u11 : Int32), u11 = q11 → ∀ (H : Heap) (locs : List Loc) (ls : Array Slot), va_P (dC, dI) vwCl (iX10_count aZ cI cZ 0 Z_isBox Z_width Z_isArrow Z_from Z_to q10_0 Z_told Z_layers Z_layer Z_sizes Z_items Z_place Z_dummyPlace Z_xs Z_ends q10_1) H → va_D A (iX10_count aZ cI cZ 0 Z_isBox Z_width Z_isArrow Z_from Z_to q10_0 Z_told Z_layers Z_layer Z_sizes Z_items Z_place Z_dummyPlace Z_xs Z_ends q10_1) → va_S A s.heap H locs → lv_has ls 4 [(2, .int u11)] → W p l e (headSpec wsX10_count (rX10_count)).room s m args below meth c H locs 0 0 Q (F0 m 137 ls []) := by
          intro u11 hu H locs ls hP hD hS hl
          subst hu
          refine lv_iload_n hx hb dX10_count_137 rfl (lv_at hl 0 rfl) ?_
          exact hret H locs ls 138 _ _ dX10_count_138 (congrArg Prod.fst (Option.some.inj hF)) (congrArg (fun z : Int32 × Int32 × (Nat → Int32) × (Nat → Int32) × (Nat → Int32) => (iX10_count aZ cI cZ z.2.1 Z_isBox Z_width Z_isArrow Z_from Z_to z.2.2.1 Z_told Z_layers Z_layer Z_sizes Z_items Z_place Z_dummyPlace Z_xs z.2.2.2.1 z.2.2.2.2)) (Option.some.inj hF)) hP hD hS
        have L11 : ∀ st : Int32 × Int32, q_lo (fun (st : Int32 × Int32) => bX10_count_108 q10_0 st.1 st.2) st = some q11 → ∀ (H : Heap) (locs : List Loc) (ls : Array Slot), va_P (dC, dI) vwCl (iX10_count aZ cI cZ 0 Z_isBox Z_width Z_isArrow Z_from Z_to q10_0 Z_told Z_layers Z_layer Z_sizes Z_items Z_place Z_dummyPlace Z_xs Z_ends q10_1) H → va_D A (iX10_count aZ cI cZ 0 Z_isBox Z_width Z_isArrow Z_from Z_to q10_0 Z_told Z_layers Z_layer Z_sizes Z_items Z_place Z_dummyPlace Z_xs Z_ends q10_1) → va_S A s.heap H locs → lv_has ls 4 [(0, .ref (aZ 0)), (2, .int st.1), (3, .int st.2)] → W p l e (headSpec wsX10_count (rX10_count)).room s m args below meth c H locs 0 0 Q (F0 m 108 ls []) := by
          intro st hst
          refine q_walk (Wh := fun st : Int32 × Int32 => ∀ (H : Heap) (locs : List Loc) (ls : Array Slot), va_P (dC, dI) vwCl (iX10_count aZ cI cZ 0 Z_isBox Z_width Z_isArrow Z_from Z_to q10_0 Z_told Z_layers Z_layer Z_sizes Z_items Z_place Z_dummyPlace Z_xs Z_ends q10_1) H → va_D A (iX10_count aZ cI cZ 0 Z_isBox Z_width Z_isArrow Z_from Z_to q10_0 Z_told Z_layers Z_layer Z_sizes Z_items Z_place Z_dummyPlace Z_xs Z_ends q10_1) → va_S A s.heap H locs → lv_has ls 4 [(0, .ref (aZ 0)), (2, .int st.1), (3, .int st.2)] → W p l e (headSpec wsX10_count (rX10_count)).room s m args below meth c H locs 0 0 Q (F0 m 108 ls [])) ?_ st hst
          clear hst st hF
          intro st o hF hin hex H locs ls hP hD hS hl
          obtain ⟨x2_11, x3_11⟩ := st
          replace hF : bX10_count_108 q10_0 x2_11 x3_11 = some o := hF
          replace hP : va_P (dC, dI) vwCl (iX10_count aZ cI cZ 0 Z_isBox Z_width Z_isArrow Z_from Z_to q10_0 Z_told Z_layers Z_layer Z_sizes Z_items Z_place Z_dummyPlace Z_xs Z_ends q10_1) H := hP
          replace hD : va_D A (iX10_count aZ cI cZ 0 Z_isBox Z_width Z_isArrow Z_from Z_to q10_0 Z_told Z_layers Z_layer Z_sizes Z_items Z_place Z_dummyPlace Z_xs Z_ends q10_1) := hD
          replace hl : lv_has ls 4 [(0, .ref (aZ 0)), (2, .int x2_11), (3, .int x3_11)] := hl
          unfold bX10_count_108 at hF
          have JX10_COUNT_129 : ∀ (x3_12 : Int32) (s0_12 : Int32) (s1_12 : Int32), jX10_count_129 x3_12 s0_12 s1_12 = some o → ∀ (H : Heap) (locs : List Loc) (ls : Array Slot), va_P (dC, dI) vwCl (iX10_count aZ cI cZ 0 Z_isBox Z_width Z_isArrow Z_from Z_to q10_0 Z_told Z_layers Z_layer Z_sizes Z_items Z_place Z_dummyPlace Z_xs Z_ends q10_1) H → va_D A (iX10_count aZ cI cZ 0 Z_isBox Z_width Z_isArrow Z_from Z_to q10_0 Z_told Z_layers Z_layer Z_sizes Z_items Z_place Z_dummyPlace Z_xs Z_ends q10_1) → va_S A s.heap H locs → lv_has ls 4 [(0, .ref (aZ 0)), (3, .int x3_12)] → W p l e (headSpec wsX10_count (rX10_count)).room s m args below meth c H locs 0 0 Q (F0 m 129 ls [.int s0_12, .int s1_12]) := by
            intro x3_12 s0_12 s1_12 hF H locs ls hP hD hS hl
            unfold jX10_count_129 at hF
            refine lv_iadd hx hb dX10_count_129 ?_
            refine lv_istore_n (lv' := [(2, .int (s1_12 + s0_12)), (0, .ref (aZ 0)), (3, .int x3_12)]) hx hb dX10_count_130 rfl hl (by decide) rfl (fun ls hl => ?_)
            refine lv_iinc (v := (x3_12 + 1)) (lv' := [(3, .int (x3_12 + 1)), (2, .int (s1_12 + s0_12)), (0, .ref (aZ 0))]) hx hb dX10_count_131 hl (k := 2) rfl rfl (by decide) rfl (fun ls hl => ?_)
            refine lv_goto (tgt := 108) hx hb dX10_count_134 (by decide) ?_
            exact hin _ (Option.some.inj hF).symm H locs ls hP hD hS (lv_sub hl [2, 1, 0] rfl)
          refine lv_iload_n hx hb dX10_count_108 rfl (lv_at hl 2 rfl) ?_
          refine lv_bipush (v := 24) hx hb dX10_count_109 (by decide) ?_
          refine lv_icmp_ge (tgt := 137) hx hb dX10_count_111 (by decide) (fun hc => ?_) (fun hc => ?_)
          · replace hF := q_t hc hF
            exact X11 _ (hex _ (Option.some.inj hF).symm) H locs ls hP hD hS (lv_sub hl [1] rfl)
          · replace hF := q_f hc hF
            refine lv_iload_n hx hb dX10_count_114 rfl (lv_at hl 1 rfl) ?_
            refine lv_aload_n hx hb dX10_count_115 rfl (lv_at hl 0 rfl) ?_
            refine q_get (ci := 10) (C := RX10) (T := TX10) (N := 24) hx hb hts eX10_count_X10 hown hK hP 0 rfl rfl 7 (Nat.le_of_ble_eq_true rfl) k3 rfl rfl dX10_count_116 ?_
            refine lv_iload_n hx hb dX10_count_119 rfl (lv_at hl 2 rfl) ?_
            obtain ⟨hn13, hF⟩ := q_ck hF
            refine va_zald hx hb hK hP 6 1 rfl rfl hn13 dX10_count_120 ?_
            refine lv_if_eq (tgt := 128) hx hb dX10_count_121 (by decide) (fun hc => ?_) (fun hc => ?_)
            · replace hF := q_t hc hF
              refine lv_iconst (v := 0) hx hb dX10_count_128 (by decide) ?_
              exact JX10_COUNT_129 x3_11 0 x2_11 hF H locs ls hP hD hS (lv_sub hl [0, 2] rfl)
            · replace hF := q_f hc hF
              refine lv_iconst (v := 1) hx hb dX10_count_124 (by decide) ?_
              refine lv_goto (tgt := 129) hx hb dX10_count_125 (by decide) ?_
              exact JX10_COUNT_129 x3_11 1 x2_11 hF H locs ls hP hD hS (lv_sub hl [0, 2] rfl)
        exact L11 (0, 0) hc11 H locs ls hP hD hS (lv_sub hl [2, 1, 0] rfl)
      · replace hF := q_f hc9 hF
        refine lv_tableOut (tgt := 139) hx hb dX10_count_8 (by have h0 := lv_neT (a := 0) hc1 rfl; have h1 := lv_neT (a := 1) hc5 rfl; have h2 := lv_neT (a := 2) hc9 rfl; omega) (by decide) ?_
        refine lv_iload_n hx hb dX10_count_139 rfl (lv_at hl 2 rfl) ?_
        refine lv_iconst (v := 3) hx hb dX10_count_140 (by decide) ?_
        refine lv_bipush (v := 7) hx hb dX10_count_141 (by decide) ?_
        obtain ⟨q14, hcq14, hF⟩ := q_bd hF
        refine q_Si (As := [.int p0, .int 3, .int 7]) (rest := []) ⟨hx, hb, hml, hown, hts⟩ hA hK hP hD hS (tX10_in l dC dI cI cZ H.size p0 3 7 q14 hcq14) (va_cwS 3 hts gX10_count_X10_in rfl rfl rfl uX10_in ⟨Nat.le_of_ble_eq_true rfl, Nat.le_of_ble_eq_true rfl⟩) [] [(false, 0), (false, 1), (false, 2), (false, 3), (false, 4), (false, 5), (false, 6), (false, 7), (false, 8), (false, 9), (false, 10), (false, 11), (false, 12), (false, 13), (false, 14)] (iX10_count aZ cI cZ 0 Z_isBox Z_width Z_isArrow Z_from Z_to Z_turned Z_told Z_layers Z_layer Z_sizes Z_items Z_place Z_dummyPlace Z_xs Z_ends Z_come) rfl rfl rfl rfl rfl rfl hl.1 rfl (Nat.le_of_ble_eq_true rfl) dX10_count_143 ⟨Nat.zero_le _, Nat.zero_le _⟩ (fun H locs hP hD hS => ?_)
        refine lv_if_eq (tgt := 164) hx hb dX10_count_146 (by decide) (fun hc => ?_) (fun hc => ?_)
        · replace hF := q_t hc hF
          refine lv_iconst (v := (-1)) hx hb dX10_count_164 (by decide) ?_
          exact hret H locs ls 165 _ _ dX10_count_165 (congrArg Prod.fst (Option.some.inj hF)) (congrArg (fun z : Int32 × Int32 × (Nat → Int32) × (Nat → Int32) × (Nat → Int32) => (iX10_count aZ cI cZ z.2.1 Z_isBox Z_width Z_isArrow Z_from Z_to z.2.2.1 Z_told Z_layers Z_layer Z_sizes Z_items Z_place Z_dummyPlace Z_xs z.2.2.2.1 z.2.2.2.2)) (Option.some.inj hF)) hP hD hS
        · replace hF := q_f hc hF
          refine lv_aload_n hx hb dX10_count_149 rfl (lv_at hl 1 rfl) ?_
          refine q_get (ci := 10) (C := RX10) (T := TX10) (N := 24) hx hb hts eX10_count_X10 hown hK hP 0 rfl rfl 8 (Nat.le_of_ble_eq_true rfl) k4 rfl rfl dX10_count_150 ?_
          refine lv_if_eq (tgt := 164) hx hb dX10_count_153 (by decide) (fun hc => ?_) (fun hc => ?_)
          · replace hF := q_t hc hF
            refine lv_iconst (v := (-1)) hx hb dX10_count_164 (by decide) ?_
            exact hret H locs ls 165 _ _ dX10_count_165 (congrArg Prod.fst (Option.some.inj hF)) (congrArg (fun z : Int32 × Int32 × (Nat → Int32) × (Nat → Int32) × (Nat → Int32) => (iX10_count aZ cI cZ z.2.1 Z_isBox Z_width Z_isArrow Z_from Z_to z.2.2.1 Z_told Z_layers Z_layer Z_sizes Z_items Z_place Z_dummyPlace Z_xs z.2.2.2.1 z.2.2.2.2)) (Option.some.inj hF)) hP hD hS
          · replace hF := q_f hc hF
            refine lv_aload_n hx hb dX10_count_156 rfl (lv_at hl 1 rfl) ?_
            refine lv_iload_n hx hb dX10_count_157 rfl (lv_at hl 2 rfl) ?_
            obtain ⟨q15_0, q15_1, hcq15, hF⟩ := q_bd2 hF
            refine q_Vi (As := [.int p0]) (rest := []) ⟨hx, hb, hml, hown, hts⟩ hA hK hP hD hS (tX10_drawn l dC dI cI cZ aZ H.size 0 Z_width Z_isArrow Z_from Z_to Z_turned Z_told Z_layers Z_layer Z_sizes Z_items Z_place Z_dummyPlace Z_xs Z_ends p0 (q15_0, q15_1) hcq15) (cwV 1 hts gX10_count_X10_drawn rfl rfl rfl uX10_drawn ⟨Nat.le_of_ble_eq_true rfl, Nat.le_of_ble_eq_true rfl⟩) [0, 2, 3, 4, 5, 6, 7, 8, 9, 10, 11, 12, 13] [(true, 0), (false, 1), (true, 1), (true, 2), (true, 3), (true, 4), (true, 5), (true, 6), (true, 7), (true, 8), (true, 9), (true, 10), (true, 11), (true, 12), (false, 14)] (iX10_count aZ cI cZ 0 Z_isBox Z_width Z_isArrow Z_from Z_to Z_turned Z_told Z_layers Z_layer Z_sizes Z_items Z_place Z_dummyPlace Z_xs q15_1 Z_come) rfl rfl rfl rfl rfl 10 0 rfl rfl rfl rfl hl.1 rfl (Nat.le_of_ble_eq_true rfl) dX10_count_158 ⟨Nat.zero_le _, Nat.zero_le _⟩ (fun H locs hP hD hS => ?_)
            refine lv_goto (tgt := 165) hx hb dX10_count_161 (by decide) ?_
            exact hret H locs ls 165 _ _ dX10_count_165 (congrArg Prod.fst (Option.some.inj hF)) (congrArg (fun z : Int32 × Int32 × (Nat → Int32) × (Nat → Int32) × (Nat → Int32) => (iX10_count aZ cI cZ z.2.1 Z_isBox Z_width Z_isArrow Z_from Z_to z.2.2.1 Z_told Z_layers Z_layer Z_sizes Z_items Z_place Z_dummyPlace Z_xs z.2.2.2.1 z.2.2.2.2)) (Option.some.inj hF)) hP hD hS
abbrev rX10_down : Room := { frames := 0, cells := 0, slots := 0, locals := 0 }
theorem uX10_down : yX10_down.cls ≠ "java/lang/invoke/MethodHandle" ∧ yX10_down.cls ≠ "java/lang/invoke/VarHandle" ∧ (parseMethodDescriptor yX10_down.desc).map (fun d => d.parameters.length) = some 2 := by decide +kernel
set_option maxHeartbeats 4000000 in
set_option maxRecDepth 100000 in
theorem tX10_down (l : Launch) (dC : Nat → ClassId) (dI : Nat → Nat → Nat) (cI cZ : ClassId) (sz : Nat) (p0 : Int32) (p1 : Int32) (res : Int32) (hF : fX10_down p0 p1 = some res) : q_Mi l yX10_down wsX10_down rX10_down (dC, dI) (q_ty cI cZ) [.int p0, .int p1] (iX10_down cI cZ) (iX10_down cI cZ) sz res := by
  refine q_meti (cc := cX10_down) (maxL := 3) (by decide) rfl (Nat.le_of_ble_eq_true rfl) ?_
  intro p e s m args below meth c Q A H locs ls C hP hD hS hl hret
  obtain ⟨hx, hb, hml, hown, hts, hA, hK⟩ := C
  replace hl : lv_has ls 3 [(0, .int p0), (1, .int p1)] := hl
  unfold fX10_down at hF
  refine lv_iload_n hx hb dX10_down_0 rfl (lv_at hl 0 rfl) ?_
  refine lv_iload_n hx hb dX10_down_1 rfl (lv_at hl 1 rfl) ?_
  obtain ⟨hn1, hF⟩ := q_ck hF
  refine lv_idiv hx hb dX10_down_2 hn1 ?_
  refine lv_istore_n (lv' := [(2, .int (p0 / p1)), (0, .int p0), (1, .int p1)]) hx hb dX10_down_3 rfl hl (by decide) rfl (fun ls hl => ?_)
  refine lv_iload_n hx hb dX10_down_4 rfl (lv_at hl 0 rfl) ?_
  refine lv_iload_n hx hb dX10_down_5 rfl (lv_at hl 2 rfl) ?_
  refine lv_imul hx hb dX10_down_6 ?_
  refine lv_iload_n hx hb dX10_down_7 rfl (lv_at hl 1 rfl) ?_
  refine lv_icmp_le (tgt := 17) hx hb dX10_down_8 (by decide) (fun hc => ?_) (fun hc => ?_)
  · replace hF := q_t hc hF
    refine lv_iload_n hx hb dX10_down_17 rfl (lv_at hl 0 rfl) ?_
    exact hret H locs ls 18 _ _ dX10_down_18 (Option.some.inj hF) rfl hP hD hS
  · replace hF := q_f hc hF
    refine lv_iload_n hx hb dX10_down_11 rfl (lv_at hl 0 rfl) ?_
    refine lv_iconst (v := 1) hx hb dX10_down_12 (by decide) ?_
    refine lv_isub hx hb dX10_down_13 ?_
    refine lv_goto (tgt := 18) hx hb dX10_down_14 (by decide) ?_
    exact hret H locs ls 18 _ _ dX10_down_18 (Option.some.inj hF) rfl hP hD hS
abbrev rX10_layOut : Room := { frames := 2, cells := 0, slots := 0, locals := 46 }
theorem eX10_layOut_X10 : ∀ w ∈ u_ws RX10 TX10 24, w ∈ wsX10_layOut := by decide +kernel
theorem uX10_layOut : yX10_layOut.cls = RX10 ∧ yX10_layOut.cls ≠ "java/lang/invoke/MethodHandle" ∧ yX10_layOut.cls ≠ "java/lang/invoke/VarHandle" ∧ (parseMethodDescriptor yX10_layOut.desc).map (fun d => d.parameters.length) = some 0 := by decide +kernel
set_option maxHeartbeats 4000000 in
set_option maxRecDepth 100000 in
theorem tX10_layOut (l : Launch) (dC : Nat → ClassId) (dI : Nat → Nat → Nat) (cI cZ : ClassId) (aZ : Nat → Nat) (sz : Nat) (Z_code : Int32) (Z_isBox : Nat → Int32) (Z_pinned : Nat → Int32) (Z_isArrow : Nat → Int32) (Z_from : Nat → Int32) (Z_to : Nat → Int32) (Z_turned : Nat → Int32) (Z_told : Int32) (Z_layers : Int32) (Z_layer : Nat → Int32) (Z_come : Nat → Int32) (res : Int32 × (Nat → Int32) × Int32 × (Nat → Int32) × (Nat → Int32)) (hF : fX10_layOut Z_isBox Z_pinned Z_isArrow Z_from Z_to Z_turned Z_layer Z_come = some res) : q_Mi l yX10_layOut wsX10_layOut rX10_layOut (dC, dI) (q_ty cI cZ) [.ref (aZ 0)] (iX10_layOut aZ cI cZ Z_code Z_isBox Z_pinned Z_isArrow Z_from Z_to Z_turned Z_told Z_layers Z_layer Z_come) (iX10_layOut aZ cI cZ Z_code Z_isBox Z_pinned Z_isArrow Z_from Z_to res.2.1 Z_told res.2.2.1 res.2.2.2.1 res.2.2.2.2) sz res.1 := by
  refine q_metz (cc := cX10_layOut) (maxL := 4) (by decide) rfl (Nat.le_of_ble_eq_true rfl) ?_
  intro p e s m args below meth c Q A H locs ls C hP hD hS hl hret
  obtain ⟨hx, hb, hml, hown, hts, hA, hK⟩ := C
  replace hl : lv_has ls 4 [(0, .ref (aZ 0))] := hl
  have k0 := hts (.fieldLink RX10 32 "RouteLayoutModel" "layer" "[I") (by decide +kernel)
  have k1 := hts (.fieldLink RX10 17 "RouteLayoutModel" "pinned" "[I") (by decide +kernel)
  have k2 := hts (.fieldLink RX10 20 "RouteLayoutModel" "isArrow" "[Z") (by decide +kernel)
  have k3 := hts (.fieldLink RX10 103 "RouteLayoutModel" "layers" "I") (by decide +kernel)
  have k4 := hts (.fieldLink RX10 7 "RouteLayoutModel" "isBox" "[Z") (by decide +kernel)
  unfold fX10_layOut at hF
  refine lv_aload_n hx hb dX10_layOut_0 rfl (lv_at hl 0 rfl) ?_
  obtain ⟨q1_0, q1_1, hcq1, hF⟩ := q_bd2 hF
  refine q_Vv (As := []) (rest := []) ⟨hx, hb, hml, hown, hts⟩ hA hK hP hD hS (tX10_turn l dC dI cI cZ aZ H.size Z_code Z_isArrow Z_from Z_to Z_turned Z_told Z_layers Z_come (q1_0, q1_1) hcq1) (cwV 0 hts gX10_layOut_X10_turn rfl rfl rfl uX10_turn ⟨Nat.le_of_ble_eq_true rfl, Nat.le_of_ble_eq_true rfl⟩) [0, 3, 4, 5, 6, 8] [(true, 0), (false, 1), (false, 2), (true, 1), (true, 2), (true, 3), (true, 4), (false, 7), (true, 5)] (iX10_layOut aZ cI cZ Z_code Z_isBox Z_pinned Z_isArrow Z_from Z_to q1_0 Z_told Z_layers Z_layer q1_1) rfl rfl rfl rfl rfl 10 0 rfl rfl rfl rfl hl.1 rfl (Nat.le_of_ble_eq_true rfl) dX10_layOut_1 ⟨Nat.zero_le _, Nat.zero_le _⟩ (fun H locs hP hD hS => ?_)
  refine lv_iconst (v := 0) hx hb dX10_layOut_4 (by decide) ?_
  refine lv_istore_n (lv' := [(1, .int 0), (0, .ref (aZ 0))]) hx hb dX10_layOut_5 rfl hl (by decide) rfl (fun ls hl => ?_)
  obtain ⟨q2, hc2, hF⟩ := q_bd hF
  have X2 : ∀ (u2 : Nat → Int32), u2 = q2 → ∀ (H : Heap) (locs : List Loc) (ls : Array Slot), va_P (dC, dI) vwCl (iX10_layOut aZ cI cZ Z_code Z_isBox Z_pinned Z_isArrow Z_from Z_to q1_0 Z_told Z_layers u2 q1_1) H → va_D A (iX10_layOut aZ cI cZ Z_code Z_isBox Z_pinned Z_isArrow Z_from Z_to q1_0 Z_told Z_layers u2 q1_1) → va_S A s.heap H locs → lv_has ls 4 [(0, .ref (aZ 0))] → W p l e (headSpec wsX10_layOut (rX10_layOut)).room s m args below meth c H locs 0 0 Q (F0 m 43 ls []) := by
    intro u2 hu H locs ls hP hD hS hl
    subst hu
    refine lv_iconst (v := 0) hx hb dX10_layOut_43 (by decide) ?_
    refine lv_istore_n (lv' := [(1, .int 0), (0, .ref (aZ 0))]) hx hb dX10_layOut_44 rfl hl (by decide) rfl (fun ls hl => ?_)
    obtain ⟨q7, hc7, hF⟩ := q_bd hF
    have X7 : ∀ (u7 : Nat → Int32), u7 = q7 → ∀ (H : Heap) (locs : List Loc) (ls : Array Slot), va_P (dC, dI) vwCl (iX10_layOut aZ cI cZ Z_code Z_isBox Z_pinned Z_isArrow Z_from Z_to q1_0 Z_told Z_layers u7 q1_1) H → va_D A (iX10_layOut aZ cI cZ Z_code Z_isBox Z_pinned Z_isArrow Z_from Z_to q1_0 Z_told Z_layers u7 q1_1) → va_S A s.heap H locs → lv_has ls 4 [(0, .ref (aZ 0))] → W p l e (headSpec wsX10_layOut (rX10_layOut)).room s m args below meth c H locs 0 0 Q (F0 m 134 ls []) := by
      intro u7 hu H locs ls hP hD hS hl
      subst hu
      refine lv_aload_n hx hb dX10_layOut_134 rfl (lv_at hl 0 rfl) ?_
      refine lv_iconst (v := 0) hx hb dX10_layOut_135 (by decide) ?_
      refine q_put (ci := 10) (C := RX10) (T := TX10) (N := 24) (ty := .int) hx hb hts eX10_layOut_X10 tyX10 tyX10_ok nmX10 hown hK hP hD hS 0 (iX10_layOut aZ cI cZ Z_code Z_isBox Z_pinned Z_isArrow Z_from Z_to q1_0 Z_told 0 u7 q1_1) rfl rfl 9 (Nat.le_of_ble_eq_true rfl) k3 rfl rfl (by decide +kernel) rfl rfl (Nat.le_of_ble_eq_true rfl) rfl dX10_layOut_136 (fun H locs hP hD hS => ?_)
      refine lv_iconst (v := 0) hx hb dX10_layOut_139 (by decide) ?_
      refine lv_istore_n (lv' := [(1, .int 0), (0, .ref (aZ 0))]) hx hb dX10_layOut_140 rfl hl (by decide) rfl (fun ls hl => ?_)
      obtain ⟨q20, hc20, hF⟩ := q_bd hF
      have X20 : ∀ (u20 : Int32), u20 = q20 → ∀ (H : Heap) (locs : List Loc) (ls : Array Slot), va_P (dC, dI) vwCl (iX10_layOut aZ cI cZ Z_code Z_isBox Z_pinned Z_isArrow Z_from Z_to q1_0 Z_told u20 u7 q1_1) H → va_D A (iX10_layOut aZ cI cZ Z_code Z_isBox Z_pinned Z_isArrow Z_from Z_to q1_0 Z_told u20 u7 q1_1) → va_S A s.heap H locs → lv_has ls 4 [(0, .ref (aZ 0))] → W p l e (headSpec wsX10_layOut (rX10_layOut)).room s m args below meth c H locs 0 0 Q (F0 m 187 ls []) := by
        intro u20 hu H locs ls hP hD hS hl
        subst hu
        refine lv_iconst (v := 0) hx hb dX10_layOut_187 (by decide) ?_
        refine lv_istore_n (lv' := [(1, .int 0), (0, .ref (aZ 0))]) hx hb dX10_layOut_188 rfl hl (by decide) rfl (fun ls hl => ?_)
        obtain ⟨q25, hc25, hF⟩ := q_bd hF
        have X25a : ∀ (_ : Unit), (Sum.inl () : (Unit) ⊕ (Unit)) = q25 → ∀ (H : Heap) (locs : List Loc) (ls : Array Slot), va_P (dC, dI) vwCl (iX10_layOut aZ cI cZ Z_code Z_isBox Z_pinned Z_isArrow Z_from Z_to q1_0 Z_told u20 u7 q1_1) H → va_D A (iX10_layOut aZ cI cZ Z_code Z_isBox Z_pinned Z_isArrow Z_from Z_to q1_0 Z_told u20 u7 q1_1) → va_S A s.heap H locs → lv_has ls 4 [] → W p l e (headSpec wsX10_layOut (rX10_layOut)).room s m args below meth c H locs 0 0 Q (F0 m 235 ls []) := by
          intro _ hu H locs ls hP hD hS hl
          subst hu
          replace hF := q_el hF
          refine lv_iconst (v := 1) hx hb dX10_layOut_235 (by decide) ?_
          exact hret H locs ls 236 _ _ dX10_layOut_236 (Or.inr rfl) (congrArg Prod.fst (Option.some.inj hF)) (congrArg (fun z : Int32 × (Nat → Int32) × Int32 × (Nat → Int32) × (Nat → Int32) => (iX10_layOut aZ cI cZ Z_code Z_isBox Z_pinned Z_isArrow Z_from Z_to z.2.1 Z_told z.2.2.1 z.2.2.2.1 z.2.2.2.2)) (Option.some.inj hF)) hP hD hS
        have X25b : ∀ (_ : Unit), (Sum.inr () : (Unit) ⊕ (Unit)) = q25 → ∀ (H : Heap) (locs : List Loc) (ls : Array Slot), va_P (dC, dI) vwCl (iX10_layOut aZ cI cZ Z_code Z_isBox Z_pinned Z_isArrow Z_from Z_to q1_0 Z_told u20 u7 q1_1) H → va_D A (iX10_layOut aZ cI cZ Z_code Z_isBox Z_pinned Z_isArrow Z_from Z_to q1_0 Z_told u20 u7 q1_1) → va_S A s.heap H locs → lv_has ls 4 [] → W p l e (headSpec wsX10_layOut (rX10_layOut)).room s m args below meth c H locs 0 0 Q (F0 m 227 ls []) := by
          intro _ hu H locs ls hP hD hS hl
          subst hu
          replace hF := q_er hF
          refine lv_iconst (v := 0) hx hb dX10_layOut_227 (by decide) ?_
          exact hret H locs ls 228 _ _ dX10_layOut_228 (Or.inl rfl) (congrArg Prod.fst (Option.some.inj hF)) (congrArg (fun z : Int32 × (Nat → Int32) × Int32 × (Nat → Int32) × (Nat → Int32) => (iX10_layOut aZ cI cZ Z_code Z_isBox Z_pinned Z_isArrow Z_from Z_to z.2.1 Z_told z.2.2.1 z.2.2.2.1 z.2.2.2.2)) (Option.some.inj hF)) hP hD hS
        have L25 : ∀ st : Int32, q_lo (fun (st : Int32) => bX10_layOut_189 Z_isArrow Z_from Z_to q1_0 u7 st) st = some q25 → ∀ (H : Heap) (locs : List Loc) (ls : Array Slot), va_P (dC, dI) vwCl (iX10_layOut aZ cI cZ Z_code Z_isBox Z_pinned Z_isArrow Z_from Z_to q1_0 Z_told u20 u7 q1_1) H → va_D A (iX10_layOut aZ cI cZ Z_code Z_isBox Z_pinned Z_isArrow Z_from Z_to q1_0 Z_told u20 u7 q1_1) → va_S A s.heap H locs → lv_has ls 4 [(0, .ref (aZ 0)), (1, .int st)] → W p l e (headSpec wsX10_layOut (rX10_layOut)).room s m args below meth c H locs 0 0 Q (F0 m 189 ls []) := by
          intro st hst
          refine q_walk (Wh := fun st : Int32 => ∀ (H : Heap) (locs : List Loc) (ls : Array Slot), va_P (dC, dI) vwCl (iX10_layOut aZ cI cZ Z_code Z_isBox Z_pinned Z_isArrow Z_from Z_to q1_0 Z_told u20 u7 q1_1) H → va_D A (iX10_layOut aZ cI cZ Z_code Z_isBox Z_pinned Z_isArrow Z_from Z_to q1_0 Z_told u20 u7 q1_1) → va_S A s.heap H locs → lv_has ls 4 [(0, .ref (aZ 0)), (1, .int st)] → W p l e (headSpec wsX10_layOut (rX10_layOut)).room s m args below meth c H locs 0 0 Q (F0 m 189 ls [])) ?_ st hst
          clear hst st hF
          intro x1_25 o hF hin hex H locs ls hP hD hS hl
          replace hF : bX10_layOut_189 Z_isArrow Z_from Z_to q1_0 u7 x1_25 = some o := hF
          replace hP : va_P (dC, dI) vwCl (iX10_layOut aZ cI cZ Z_code Z_isBox Z_pinned Z_isArrow Z_from Z_to q1_0 Z_told u20 u7 q1_1) H := hP
          replace hD : va_D A (iX10_layOut aZ cI cZ Z_code Z_isBox Z_pinned Z_isArrow Z_from Z_to q1_0 Z_told u20 u7 q1_1) := hD
          replace hl : lv_has ls 4 [(0, .ref (aZ 0)), (1, .int x1_25)] := hl
          unfold bX10_layOut_189 at hF
          have JX10_LAYOUT_229 : ∀ (x1_26 : Int32), jX10_layOut_229 x1_26 = some o → ∀ (H : Heap) (locs : List Loc) (ls : Array Slot), va_P (dC, dI) vwCl (iX10_layOut aZ cI cZ Z_code Z_isBox Z_pinned Z_isArrow Z_from Z_to q1_0 Z_told u20 u7 q1_1) H → va_D A (iX10_layOut aZ cI cZ Z_code Z_isBox Z_pinned Z_isArrow Z_from Z_to q1_0 Z_told u20 u7 q1_1) → va_S A s.heap H locs → lv_has ls 4 [(0, .ref (aZ 0)), (1, .int x1_26)] → W p l e (headSpec wsX10_layOut (rX10_layOut)).room s m args below meth c H locs 0 0 Q (F0 m 229 ls []) := by
            intro x1_26 hF H locs ls hP hD hS hl
            unfold jX10_layOut_229 at hF
            refine lv_iinc (v := (x1_26 + 1)) (lv' := [(1, .int (x1_26 + 1)), (0, .ref (aZ 0))]) hx hb dX10_layOut_229 hl (k := 1) rfl rfl (by decide) rfl (fun ls hl => ?_)
            refine lv_goto (tgt := 189) hx hb dX10_layOut_232 (by decide) ?_
            exact hin _ (Option.some.inj hF).symm H locs ls hP hD hS (lv_sub hl [1, 0] rfl)
          refine lv_iload_n hx hb dX10_layOut_189 rfl (lv_at hl 1 rfl) ?_
          refine lv_bipush (v := 24) hx hb dX10_layOut_190 (by decide) ?_
          refine lv_icmp_ge (tgt := 235) hx hb dX10_layOut_192 (by decide) (fun hc => ?_) (fun hc => ?_)
          · replace hF := q_t hc hF
            exact X25a () (hex _ (Option.some.inj hF).symm) H locs ls hP hD hS (lv_sub hl [] rfl)
          · replace hF := q_f hc hF
            refine lv_aload_n hx hb dX10_layOut_195 rfl (lv_at hl 0 rfl) ?_
            refine q_get (ci := 10) (C := RX10) (T := TX10) (N := 24) hx hb hts eX10_layOut_X10 hown hK hP 0 rfl rfl 4 (Nat.le_of_ble_eq_true rfl) k2 rfl rfl dX10_layOut_196 ?_
            refine lv_iload_n hx hb dX10_layOut_199 rfl (lv_at hl 1 rfl) ?_
            obtain ⟨hn27, hF⟩ := q_ck hF
            refine va_zald hx hb hK hP 3 1 rfl rfl hn27 dX10_layOut_200 ?_
            refine lv_if_eq (tgt := 229) hx hb dX10_layOut_201 (by decide) (fun hc => ?_) (fun hc => ?_)
            · replace hF := q_t hc hF
              exact JX10_LAYOUT_229 x1_25 hF H locs ls hP hD hS (lv_sub hl [0, 1] rfl)
            · replace hF := q_f hc hF
              refine lv_aload_n hx hb dX10_layOut_204 rfl (lv_at hl 0 rfl) ?_
              refine q_get (ci := 10) (C := RX10) (T := TX10) (N := 24) hx hb hts eX10_layOut_X10 hown hK hP 0 rfl rfl 10 (Nat.le_of_ble_eq_true rfl) k0 rfl rfl dX10_layOut_205 ?_
              refine lv_aload_n hx hb dX10_layOut_208 rfl (lv_at hl 0 rfl) ?_
              refine lv_iload_n hx hb dX10_layOut_209 rfl (lv_at hl 1 rfl) ?_
              obtain ⟨q28, hcq28, hF⟩ := q_bd hF
              refine q_Vi (As := [.int x1_25]) (rest := [.ref (aZ 8)]) ⟨hx, hb, hml, hown, hts⟩ hA hK hP hD hS (tX10_upper l dC dI cI cZ aZ H.size Z_code Z_from Z_to q1_0 Z_told u20 x1_25 q28 hcq28) (cwV 1 hts gX10_layOut_X10_upper rfl rfl rfl uX10_upper ⟨Nat.le_of_ble_eq_true rfl, Nat.le_of_ble_eq_true rfl⟩) [0, 4, 5, 6] [(true, 0), (false, 1), (false, 2), (false, 3), (true, 1), (true, 2), (true, 3), (false, 7), (false, 8)] (iX10_layOut aZ cI cZ Z_code Z_isBox Z_pinned Z_isArrow Z_from Z_to q1_0 Z_told u20 u7 q1_1) rfl rfl rfl rfl rfl 10 0 rfl rfl rfl rfl hl.1 rfl (Nat.le_of_ble_eq_true rfl) dX10_layOut_210 ⟨Nat.zero_le _, Nat.zero_le _⟩ (fun H locs hP hD hS => ?_)
              obtain ⟨hn29, hF⟩ := q_ck hF
              refine va_iald hx hb hK hP 7 0 rfl rfl hn29 dX10_layOut_213 ?_
              refine lv_aload_n hx hb dX10_layOut_214 rfl (lv_at hl 0 rfl) ?_
              refine q_get (ci := 10) (C := RX10) (T := TX10) (N := 24) hx hb hts eX10_layOut_X10 hown hK hP 0 rfl rfl 10 (Nat.le_of_ble_eq_true rfl) k0 rfl rfl dX10_layOut_215 ?_
              refine lv_aload_n hx hb dX10_layOut_218 rfl (lv_at hl 0 rfl) ?_
              refine lv_iload_n hx hb dX10_layOut_219 rfl (lv_at hl 1 rfl) ?_
              obtain ⟨q30, hcq30, hF⟩ := q_bd hF
              refine q_Vi (As := [.int x1_25]) (rest := [.ref (aZ 8), .int (u7 q28.toNatClampNeg)]) ⟨hx, hb, hml, hown, hts⟩ hA hK hP hD hS (tX10_lower l dC dI cI cZ aZ H.size Z_code Z_from Z_to q1_0 Z_told u20 x1_25 q30 hcq30) (cwV 1 hts gX10_layOut_X10_lower rfl rfl rfl uX10_lower ⟨Nat.le_of_ble_eq_true rfl, Nat.le_of_ble_eq_true rfl⟩) [0, 4, 5, 6] [(true, 0), (false, 1), (false, 2), (false, 3), (true, 1), (true, 2), (true, 3), (false, 7), (false, 8)] (iX10_layOut aZ cI cZ Z_code Z_isBox Z_pinned Z_isArrow Z_from Z_to q1_0 Z_told u20 u7 q1_1) rfl rfl rfl rfl rfl 10 0 rfl rfl rfl rfl hl.1 rfl (Nat.le_of_ble_eq_true rfl) dX10_layOut_220 ⟨Nat.zero_le _, Nat.zero_le _⟩ (fun H locs hP hD hS => ?_)
              obtain ⟨hn31, hF⟩ := q_ck hF
              refine va_iald hx hb hK hP 7 0 rfl rfl hn31 dX10_layOut_223 ?_
              refine lv_icmp_lt (tgt := 229) hx hb dX10_layOut_224 (by decide) (fun hc => ?_) (fun hc => ?_)
              · replace hF := q_t hc hF
                exact JX10_LAYOUT_229 x1_25 hF H locs ls hP hD hS (lv_sub hl [0, 1] rfl)
              · replace hF := q_f hc hF
                exact X25b () (hex _ (Option.some.inj hF).symm) H locs ls hP hD hS (lv_sub hl [] rfl)
        exact L25 0 hc25 H locs ls hP hD hS (lv_sub hl [1, 0] rfl)
      have L20 : ∀ st : Int32 × Int32, q_lo (fun (st : Int32 × Int32) => bX10_layOut_141 Z_isBox u7 st.1 st.2) st = some q20 → ∀ (H : Heap) (locs : List Loc) (ls : Array Slot), va_P (dC, dI) vwCl (iX10_layOut aZ cI cZ Z_code Z_isBox Z_pinned Z_isArrow Z_from Z_to q1_0 Z_told st.2 u7 q1_1) H → va_D A (iX10_layOut aZ cI cZ Z_code Z_isBox Z_pinned Z_isArrow Z_from Z_to q1_0 Z_told st.2 u7 q1_1) → va_S A s.heap H locs → lv_has ls 4 [(0, .ref (aZ 0)), (1, .int st.1)] → W p l e (headSpec wsX10_layOut (rX10_layOut)).room s m args below meth c H locs 0 0 Q (F0 m 141 ls []) := by
        intro st hst
        refine q_walk (Wh := fun st : Int32 × Int32 => ∀ (H : Heap) (locs : List Loc) (ls : Array Slot), va_P (dC, dI) vwCl (iX10_layOut aZ cI cZ Z_code Z_isBox Z_pinned Z_isArrow Z_from Z_to q1_0 Z_told st.2 u7 q1_1) H → va_D A (iX10_layOut aZ cI cZ Z_code Z_isBox Z_pinned Z_isArrow Z_from Z_to q1_0 Z_told st.2 u7 q1_1) → va_S A s.heap H locs → lv_has ls 4 [(0, .ref (aZ 0)), (1, .int st.1)] → W p l e (headSpec wsX10_layOut (rX10_layOut)).room s m args below meth c H locs 0 0 Q (F0 m 141 ls [])) ?_ st hst
        clear hst st hF
        intro st o hF hin hex H locs ls hP hD hS hl
        obtain ⟨x1_20, Z_layers_20⟩ := st
        replace hF : bX10_layOut_141 Z_isBox u7 x1_20 Z_layers_20 = some o := hF
        replace hP : va_P (dC, dI) vwCl (iX10_layOut aZ cI cZ Z_code Z_isBox Z_pinned Z_isArrow Z_from Z_to q1_0 Z_told Z_layers_20 u7 q1_1) H := hP
        replace hD : va_D A (iX10_layOut aZ cI cZ Z_code Z_isBox Z_pinned Z_isArrow Z_from Z_to q1_0 Z_told Z_layers_20 u7 q1_1) := hD
        replace hl : lv_has ls 4 [(0, .ref (aZ 0)), (1, .int x1_20)] := hl
        unfold bX10_layOut_141 at hF
        have JX10_LAYOUT_181 : ∀ (Z_layers_21 : Int32) (x1_21 : Int32), jX10_layOut_181 Z_layers_21 x1_21 = some o → ∀ (H : Heap) (locs : List Loc) (ls : Array Slot), va_P (dC, dI) vwCl (iX10_layOut aZ cI cZ Z_code Z_isBox Z_pinned Z_isArrow Z_from Z_to q1_0 Z_told Z_layers_21 u7 q1_1) H → va_D A (iX10_layOut aZ cI cZ Z_code Z_isBox Z_pinned Z_isArrow Z_from Z_to q1_0 Z_told Z_layers_21 u7 q1_1) → va_S A s.heap H locs → lv_has ls 4 [(0, .ref (aZ 0)), (1, .int x1_21)] → W p l e (headSpec wsX10_layOut (rX10_layOut)).room s m args below meth c H locs 0 0 Q (F0 m 181 ls []) := by
          intro Z_layers_21 x1_21 hF H locs ls hP hD hS hl
          unfold jX10_layOut_181 at hF
          refine lv_iinc (v := (x1_21 + 1)) (lv' := [(1, .int (x1_21 + 1)), (0, .ref (aZ 0))]) hx hb dX10_layOut_181 hl (k := 1) rfl rfl (by decide) rfl (fun ls hl => ?_)
          refine lv_goto (tgt := 141) hx hb dX10_layOut_184 (by decide) ?_
          exact hin _ (Option.some.inj hF).symm H locs ls hP hD hS (lv_sub hl [1, 0] rfl)
        refine lv_iload_n hx hb dX10_layOut_141 rfl (lv_at hl 1 rfl) ?_
        refine lv_bipush (v := 16) hx hb dX10_layOut_142 (by decide) ?_
        refine lv_icmp_ge (tgt := 187) hx hb dX10_layOut_144 (by decide) (fun hc => ?_) (fun hc => ?_)
        · replace hF := q_t hc hF
          exact X20 _ (hex _ (Option.some.inj hF).symm) H locs ls hP hD hS (lv_sub hl [0] rfl)
        · replace hF := q_f hc hF
          refine lv_aload_n hx hb dX10_layOut_147 rfl (lv_at hl 0 rfl) ?_
          refine q_get (ci := 10) (C := RX10) (T := TX10) (N := 24) hx hb hts eX10_layOut_X10 hown hK hP 0 rfl rfl 1 (Nat.le_of_ble_eq_true rfl) k4 rfl rfl dX10_layOut_148 ?_
          refine lv_iload_n hx hb dX10_layOut_151 rfl (lv_at hl 1 rfl) ?_
          obtain ⟨hn22, hF⟩ := q_ck hF
          refine va_zald hx hb hK hP 1 1 rfl rfl hn22 dX10_layOut_152 ?_
          refine lv_if_eq (tgt := 181) hx hb dX10_layOut_153 (by decide) (fun hc => ?_) (fun hc => ?_)
          · replace hF := q_t hc hF
            exact JX10_LAYOUT_181 Z_layers_20 x1_20 hF H locs ls hP hD hS (lv_sub hl [0, 1] rfl)
          · replace hF := q_f hc hF
            refine lv_aload_n hx hb dX10_layOut_156 rfl (lv_at hl 0 rfl) ?_
            refine q_get (ci := 10) (C := RX10) (T := TX10) (N := 24) hx hb hts eX10_layOut_X10 hown hK hP 0 rfl rfl 10 (Nat.le_of_ble_eq_true rfl) k0 rfl rfl dX10_layOut_157 ?_
            refine lv_iload_n hx hb dX10_layOut_160 rfl (lv_at hl 1 rfl) ?_
            obtain ⟨hn23, hF⟩ := q_ck hF
            refine va_iald hx hb hK hP 7 0 rfl rfl hn23 dX10_layOut_161 ?_
            refine lv_aload_n hx hb dX10_layOut_162 rfl (lv_at hl 0 rfl) ?_
            refine q_get (ci := 10) (C := RX10) (T := TX10) (N := 24) hx hb hts eX10_layOut_X10 hown hK hP 0 rfl rfl 9 (Nat.le_of_ble_eq_true rfl) k3 rfl rfl dX10_layOut_163 ?_
            refine lv_icmp_lt (tgt := 181) hx hb dX10_layOut_166 (by decide) (fun hc => ?_) (fun hc => ?_)
            · replace hF := q_t hc hF
              exact JX10_LAYOUT_181 Z_layers_20 x1_20 hF H locs ls hP hD hS (lv_sub hl [0, 1] rfl)
            · replace hF := q_f hc hF
              refine lv_aload_n hx hb dX10_layOut_169 rfl (lv_at hl 0 rfl) ?_
              refine lv_aload_n hx hb dX10_layOut_170 rfl (lv_at hl 0 rfl) ?_
              refine q_get (ci := 10) (C := RX10) (T := TX10) (N := 24) hx hb hts eX10_layOut_X10 hown hK hP 0 rfl rfl 10 (Nat.le_of_ble_eq_true rfl) k0 rfl rfl dX10_layOut_171 ?_
              refine lv_iload_n hx hb dX10_layOut_174 rfl (lv_at hl 1 rfl) ?_
              obtain ⟨hn24, hF⟩ := q_ck hF
              refine va_iald hx hb hK hP 7 0 rfl rfl hn24 dX10_layOut_175 ?_
              refine lv_iconst (v := 1) hx hb dX10_layOut_176 (by decide) ?_
              refine lv_iadd hx hb dX10_layOut_177 ?_
              refine q_put (ci := 10) (C := RX10) (T := TX10) (N := 24) (ty := .int) hx hb hts eX10_layOut_X10 tyX10 tyX10_ok nmX10 hown hK hP hD hS 0 (iX10_layOut aZ cI cZ Z_code Z_isBox Z_pinned Z_isArrow Z_from Z_to q1_0 Z_told ((u7 x1_20.toNatClampNeg) + 1) u7 q1_1) rfl rfl 9 (Nat.le_of_ble_eq_true rfl) k3 rfl rfl (by decide +kernel) rfl rfl (Nat.le_of_ble_eq_true rfl) rfl dX10_layOut_178 (fun H locs hP hD hS => ?_)
              exact JX10_LAYOUT_181 ((u7 x1_20.toNatClampNeg) + 1) x1_20 hF H locs ls hP hD hS (lv_sub hl [0, 1] rfl)
      exact L20 (0, 0) hc20 H locs ls hP hD hS (lv_sub hl [1, 0] rfl)
    have L7 : ∀ st : Int32 × (Nat → Int32), q_lo (fun (st : Int32 × (Nat → Int32)) => bX10_layOut_45 Z_pinned Z_isArrow Z_from Z_to q1_0 st.1 st.2) st = some q7 → ∀ (H : Heap) (locs : List Loc) (ls : Array Slot), va_P (dC, dI) vwCl (iX10_layOut aZ cI cZ Z_code Z_isBox Z_pinned Z_isArrow Z_from Z_to q1_0 Z_told Z_layers st.2 q1_1) H → va_D A (iX10_layOut aZ cI cZ Z_code Z_isBox Z_pinned Z_isArrow Z_from Z_to q1_0 Z_told Z_layers st.2 q1_1) → va_S A s.heap H locs → lv_has ls 4 [(0, .ref (aZ 0)), (1, .int st.1)] → W p l e (headSpec wsX10_layOut (rX10_layOut)).room s m args below meth c H locs 0 0 Q (F0 m 45 ls []) := by
      intro st hst
      refine q_walk (Wh := fun st : Int32 × (Nat → Int32) => ∀ (H : Heap) (locs : List Loc) (ls : Array Slot), va_P (dC, dI) vwCl (iX10_layOut aZ cI cZ Z_code Z_isBox Z_pinned Z_isArrow Z_from Z_to q1_0 Z_told Z_layers st.2 q1_1) H → va_D A (iX10_layOut aZ cI cZ Z_code Z_isBox Z_pinned Z_isArrow Z_from Z_to q1_0 Z_told Z_layers st.2 q1_1) → va_S A s.heap H locs → lv_has ls 4 [(0, .ref (aZ 0)), (1, .int st.1)] → W p l e (headSpec wsX10_layOut (rX10_layOut)).room s m args below meth c H locs 0 0 Q (F0 m 45 ls [])) ?_ st hst
      clear hst st hF
      intro st o hF hin hex H locs ls hP hD hS hl
      obtain ⟨x1_7, Z_layer_7⟩ := st
      replace hF : bX10_layOut_45 Z_pinned Z_isArrow Z_from Z_to q1_0 x1_7 Z_layer_7 = some o := hF
      replace hP : va_P (dC, dI) vwCl (iX10_layOut aZ cI cZ Z_code Z_isBox Z_pinned Z_isArrow Z_from Z_to q1_0 Z_told Z_layers Z_layer_7 q1_1) H := hP
      replace hD : va_D A (iX10_layOut aZ cI cZ Z_code Z_isBox Z_pinned Z_isArrow Z_from Z_to q1_0 Z_told Z_layers Z_layer_7 q1_1) := hD
      replace hl : lv_has ls 4 [(0, .ref (aZ 0)), (1, .int x1_7)] := hl
      unfold bX10_layOut_45 at hF
      refine lv_iload_n hx hb dX10_layOut_45 rfl (lv_at hl 1 rfl) ?_
      refine lv_bipush (v := 16) hx hb dX10_layOut_46 (by decide) ?_
      refine lv_icmp_ge (tgt := 134) hx hb dX10_layOut_48 (by decide) (fun hc => ?_) (fun hc => ?_)
      · replace hF := q_t hc hF
        exact X7 _ (hex _ (Option.some.inj hF).symm) H locs ls hP hD hS (lv_sub hl [0] rfl)
      · replace hF := q_f hc hF
        refine lv_iconst (v := 0) hx hb dX10_layOut_51 (by decide) ?_
        refine lv_istore_n (lv' := [(2, .int 0), (0, .ref (aZ 0)), (1, .int x1_7)]) hx hb dX10_layOut_52 rfl hl (by decide) rfl (fun ls hl => ?_)
        obtain ⟨q8, hc8, hF⟩ := q_bd hF
        have X8 : ∀ (u8 : Nat → Int32), u8 = q8 → ∀ (H : Heap) (locs : List Loc) (ls : Array Slot), va_P (dC, dI) vwCl (iX10_layOut aZ cI cZ Z_code Z_isBox Z_pinned Z_isArrow Z_from Z_to q1_0 Z_told Z_layers u8 q1_1) H → va_D A (iX10_layOut aZ cI cZ Z_code Z_isBox Z_pinned Z_isArrow Z_from Z_to q1_0 Z_told Z_layers u8 q1_1) → va_S A s.heap H locs → lv_has ls 4 [(0, .ref (aZ 0)), (1, .int x1_7)] → W p l e (headSpec wsX10_layOut (rX10_layOut)).room s m args below meth c H locs 0 0 Q (F0 m 128 ls []) := by
          intro u8 hu H locs ls hP hD hS hl
          subst hu
          refine lv_iinc (v := (x1_7 + 1)) (lv' := [(1, .int (x1_7 + 1)), (0, .ref (aZ 0))]) hx hb dX10_layOut_128 hl (k := 1) rfl rfl (by decide) rfl (fun ls hl => ?_)
          refine lv_goto (tgt := 45) hx hb dX10_layOut_131 (by decide) ?_
          exact hin _ (Option.some.inj hF).symm H locs ls hP hD hS (lv_sub hl [1, 0] rfl)
        have L8 : ∀ st : Int32 × (Nat → Int32), q_lo (fun (st : Int32 × (Nat → Int32)) => bX10_layOut_53 Z_pinned Z_isArrow Z_from Z_to q1_0 x1_7 st.1 st.2) st = some q8 → ∀ (H : Heap) (locs : List Loc) (ls : Array Slot), va_P (dC, dI) vwCl (iX10_layOut aZ cI cZ Z_code Z_isBox Z_pinned Z_isArrow Z_from Z_to q1_0 Z_told Z_layers st.2 q1_1) H → va_D A (iX10_layOut aZ cI cZ Z_code Z_isBox Z_pinned Z_isArrow Z_from Z_to q1_0 Z_told Z_layers st.2 q1_1) → va_S A s.heap H locs → lv_has ls 4 [(0, .ref (aZ 0)), (1, .int x1_7), (2, .int st.1)] → W p l e (headSpec wsX10_layOut (rX10_layOut)).room s m args below meth c H locs 0 0 Q (F0 m 53 ls []) := by
          intro st hst
          refine q_walk (Wh := fun st : Int32 × (Nat → Int32) => ∀ (H : Heap) (locs : List Loc) (ls : Array Slot), va_P (dC, dI) vwCl (iX10_layOut aZ cI cZ Z_code Z_isBox Z_pinned Z_isArrow Z_from Z_to q1_0 Z_told Z_layers st.2 q1_1) H → va_D A (iX10_layOut aZ cI cZ Z_code Z_isBox Z_pinned Z_isArrow Z_from Z_to q1_0 Z_told Z_layers st.2 q1_1) → va_S A s.heap H locs → lv_has ls 4 [(0, .ref (aZ 0)), (1, .int x1_7), (2, .int st.1)] → W p l e (headSpec wsX10_layOut (rX10_layOut)).room s m args below meth c H locs 0 0 Q (F0 m 53 ls [])) ?_ st hst
          clear hst st hF
          intro st o hF hin hex H locs ls hP hD hS hl
          obtain ⟨x2_8, Z_layer_8⟩ := st
          replace hF : bX10_layOut_53 Z_pinned Z_isArrow Z_from Z_to q1_0 x1_7 x2_8 Z_layer_8 = some o := hF
          replace hP : va_P (dC, dI) vwCl (iX10_layOut aZ cI cZ Z_code Z_isBox Z_pinned Z_isArrow Z_from Z_to q1_0 Z_told Z_layers Z_layer_8 q1_1) H := hP
          replace hD : va_D A (iX10_layOut aZ cI cZ Z_code Z_isBox Z_pinned Z_isArrow Z_from Z_to q1_0 Z_told Z_layers Z_layer_8 q1_1) := hD
          replace hl : lv_has ls 4 [(0, .ref (aZ 0)), (1, .int x1_7), (2, .int x2_8)] := hl
          unfold bX10_layOut_53 at hF
          have JX10_LAYOUT_122 : ∀ (Z_layer_9 : Nat → Int32) (x2_9 : Int32), jX10_layOut_122 Z_layer_9 x1_7 x2_9 = some o → ∀ (H : Heap) (locs : List Loc) (ls : Array Slot), va_P (dC, dI) vwCl (iX10_layOut aZ cI cZ Z_code Z_isBox Z_pinned Z_isArrow Z_from Z_to q1_0 Z_told Z_layers Z_layer_9 q1_1) H → va_D A (iX10_layOut aZ cI cZ Z_code Z_isBox Z_pinned Z_isArrow Z_from Z_to q1_0 Z_told Z_layers Z_layer_9 q1_1) → va_S A s.heap H locs → lv_has ls 4 [(0, .ref (aZ 0)), (1, .int x1_7), (2, .int x2_9)] → W p l e (headSpec wsX10_layOut (rX10_layOut)).room s m args below meth c H locs 0 0 Q (F0 m 122 ls []) := by
            intro Z_layer_9 x2_9 hF H locs ls hP hD hS hl
            unfold jX10_layOut_122 at hF
            refine lv_iinc (v := (x2_9 + 1)) (lv' := [(2, .int (x2_9 + 1)), (0, .ref (aZ 0)), (1, .int x1_7)]) hx hb dX10_layOut_122 hl (k := 2) rfl rfl (by decide) rfl (fun ls hl => ?_)
            refine lv_goto (tgt := 53) hx hb dX10_layOut_125 (by decide) ?_
            exact hin _ (Option.some.inj hF).symm H locs ls hP hD hS (lv_sub hl [1, 2, 0] rfl)
          refine lv_iload_n hx hb dX10_layOut_53 rfl (lv_at hl 2 rfl) ?_
          refine lv_bipush (v := 24) hx hb dX10_layOut_54 (by decide) ?_
          refine lv_icmp_ge (tgt := 128) hx hb dX10_layOut_56 (by decide) (fun hc => ?_) (fun hc => ?_)
          · replace hF := q_t hc hF
            exact X8 _ (hex _ (Option.some.inj hF).symm) H locs ls hP hD hS (lv_sub hl [0, 1] rfl)
          · replace hF := q_f hc hF
            refine lv_aload_n hx hb dX10_layOut_59 rfl (lv_at hl 0 rfl) ?_
            refine q_get (ci := 10) (C := RX10) (T := TX10) (N := 24) hx hb hts eX10_layOut_X10 hown hK hP 0 rfl rfl 4 (Nat.le_of_ble_eq_true rfl) k2 rfl rfl dX10_layOut_60 ?_
            refine lv_iload_n hx hb dX10_layOut_63 rfl (lv_at hl 2 rfl) ?_
            obtain ⟨hn10, hF⟩ := q_ck hF
            refine va_zald hx hb hK hP 3 1 rfl rfl hn10 dX10_layOut_64 ?_
            refine lv_if_eq (tgt := 122) hx hb dX10_layOut_65 (by decide) (fun hc => ?_) (fun hc => ?_)
            · replace hF := q_t hc hF
              exact JX10_LAYOUT_122 Z_layer_8 x2_8 hF H locs ls hP hD hS (lv_sub hl [0, 1, 2] rfl)
            · replace hF := q_f hc hF
              refine lv_aload_n hx hb dX10_layOut_68 rfl (lv_at hl 0 rfl) ?_
              refine q_get (ci := 10) (C := RX10) (T := TX10) (N := 24) hx hb hts eX10_layOut_X10 hown hK hP 0 rfl rfl 3 (Nat.le_of_ble_eq_true rfl) k1 rfl rfl dX10_layOut_69 ?_
              refine lv_aload_n hx hb dX10_layOut_72 rfl (lv_at hl 0 rfl) ?_
              refine lv_iload_n hx hb dX10_layOut_73 rfl (lv_at hl 2 rfl) ?_
              obtain ⟨q11, hcq11, hF⟩ := q_bd hF
              refine q_Vi (As := [.int x2_8]) (rest := [.ref (aZ 3)]) ⟨hx, hb, hml, hown, hts⟩ hA hK hP hD hS (tX10_lower l dC dI cI cZ aZ H.size Z_code Z_from Z_to q1_0 Z_told Z_layers x2_8 q11 hcq11) (cwV 1 hts gX10_layOut_X10_lower rfl rfl rfl uX10_lower ⟨Nat.le_of_ble_eq_true rfl, Nat.le_of_ble_eq_true rfl⟩) [0, 4, 5, 6] [(true, 0), (false, 1), (false, 2), (false, 3), (true, 1), (true, 2), (true, 3), (false, 7), (false, 8)] (iX10_layOut aZ cI cZ Z_code Z_isBox Z_pinned Z_isArrow Z_from Z_to q1_0 Z_told Z_layers Z_layer_8 q1_1) rfl rfl rfl rfl rfl 10 0 rfl rfl rfl rfl hl.1 rfl (Nat.le_of_ble_eq_true rfl) dX10_layOut_74 ⟨Nat.zero_le _, Nat.zero_le _⟩ (fun H locs hP hD hS => ?_)
              obtain ⟨hn12, hF⟩ := q_ck hF
              refine va_iald hx hb hK hP 2 0 rfl rfl hn12 dX10_layOut_77 ?_
              refine lv_if_lt (tgt := 84) hx hb dX10_layOut_78 (by decide) (fun hc => ?_) (fun hc => ?_)
              · replace hF := q_t hc hF
                refine lv_aload_n hx hb dX10_layOut_84 rfl (lv_at hl 0 rfl) ?_
                refine q_get (ci := 10) (C := RX10) (T := TX10) (N := 24) hx hb hts eX10_layOut_X10 hown hK hP 0 rfl rfl 10 (Nat.le_of_ble_eq_true rfl) k0 rfl rfl dX10_layOut_85 ?_
                refine lv_aload_n hx hb dX10_layOut_88 rfl (lv_at hl 0 rfl) ?_
                refine lv_iload_n hx hb dX10_layOut_89 rfl (lv_at hl 2 rfl) ?_
                obtain ⟨q13, hcq13, hF⟩ := q_bd hF
                refine q_Vi (As := [.int x2_8]) (rest := [.ref (aZ 8)]) ⟨hx, hb, hml, hown, hts⟩ hA hK hP hD hS (tX10_upper l dC dI cI cZ aZ H.size Z_code Z_from Z_to q1_0 Z_told Z_layers x2_8 q13 hcq13) (cwV 1 hts gX10_layOut_X10_upper rfl rfl rfl uX10_upper ⟨Nat.le_of_ble_eq_true rfl, Nat.le_of_ble_eq_true rfl⟩) [0, 4, 5, 6] [(true, 0), (false, 1), (false, 2), (false, 3), (true, 1), (true, 2), (true, 3), (false, 7), (false, 8)] (iX10_layOut aZ cI cZ Z_code Z_isBox Z_pinned Z_isArrow Z_from Z_to q1_0 Z_told Z_layers Z_layer_8 q1_1) rfl rfl rfl rfl rfl 10 0 rfl rfl rfl rfl hl.1 rfl (Nat.le_of_ble_eq_true rfl) dX10_layOut_90 ⟨Nat.zero_le _, Nat.zero_le _⟩ (fun H locs hP hD hS => ?_)
                obtain ⟨hn14, hF⟩ := q_ck hF
                refine va_iald hx hb hK hP 7 0 rfl rfl hn14 dX10_layOut_93 ?_
                refine lv_iconst (v := 1) hx hb dX10_layOut_94 (by decide) ?_
                refine lv_iadd hx hb dX10_layOut_95 ?_
                obtain ⟨v15, hv15, hF⟩ := q_letE hF
                refine q_top hv15 ?_
                refine lv_istore_n (lv' := [(3, .int v15), (0, .ref (aZ 0)), (1, .int x1_7), (2, .int x2_8)]) hx hb dX10_layOut_96 rfl hl (by decide) rfl (fun ls hl => ?_)
                refine lv_aload_n hx hb dX10_layOut_97 rfl (lv_at hl 1 rfl) ?_
                refine q_get (ci := 10) (C := RX10) (T := TX10) (N := 24) hx hb hts eX10_layOut_X10 hown hK hP 0 rfl rfl 10 (Nat.le_of_ble_eq_true rfl) k0 rfl rfl dX10_layOut_98 ?_
                refine lv_aload_n hx hb dX10_layOut_101 rfl (lv_at hl 1 rfl) ?_
                refine lv_iload_n hx hb dX10_layOut_102 rfl (lv_at hl 3 rfl) ?_
                obtain ⟨q16, hcq16, hF⟩ := q_bd hF
                refine q_Vi (As := [.int x2_8]) (rest := [.ref (aZ 8)]) ⟨hx, hb, hml, hown, hts⟩ hA hK hP hD hS (tX10_lower l dC dI cI cZ aZ H.size Z_code Z_from Z_to q1_0 Z_told Z_layers x2_8 q16 hcq16) (cwV 1 hts gX10_layOut_X10_lower rfl rfl rfl uX10_lower ⟨Nat.le_of_ble_eq_true rfl, Nat.le_of_ble_eq_true rfl⟩) [0, 4, 5, 6] [(true, 0), (false, 1), (false, 2), (false, 3), (true, 1), (true, 2), (true, 3), (false, 7), (false, 8)] (iX10_layOut aZ cI cZ Z_code Z_isBox Z_pinned Z_isArrow Z_from Z_to q1_0 Z_told Z_layers Z_layer_8 q1_1) rfl rfl rfl rfl rfl 10 0 rfl rfl rfl rfl hl.1 rfl (Nat.le_of_ble_eq_true rfl) dX10_layOut_103 ⟨Nat.zero_le _, Nat.zero_le _⟩ (fun H locs hP hD hS => ?_)
                obtain ⟨hn17, hF⟩ := q_ck hF
                refine va_iald hx hb hK hP 7 0 rfl rfl hn17 dX10_layOut_106 ?_
                refine lv_iload_n hx hb dX10_layOut_107 rfl (lv_at hl 0 rfl) ?_
                refine lv_icmp_ge (tgt := 122) hx hb dX10_layOut_108 (by decide) (fun hc => ?_) (fun hc => ?_)
                · replace hF := q_t hc hF
                  exact JX10_LAYOUT_122 Z_layer_8 x2_8 hF H locs ls hP hD hS (lv_sub hl [1, 2, 3] rfl)
                · replace hF := q_f hc hF
                  refine lv_aload_n hx hb dX10_layOut_111 rfl (lv_at hl 1 rfl) ?_
                  refine q_get (ci := 10) (C := RX10) (T := TX10) (N := 24) hx hb hts eX10_layOut_X10 hown hK hP 0 rfl rfl 10 (Nat.le_of_ble_eq_true rfl) k0 rfl rfl dX10_layOut_112 ?_
                  refine lv_aload_n hx hb dX10_layOut_115 rfl (lv_at hl 1 rfl) ?_
                  refine lv_iload_n hx hb dX10_layOut_116 rfl (lv_at hl 3 rfl) ?_
                  obtain ⟨q18, hcq18, hF⟩ := q_bd hF
                  refine q_Vi (As := [.int x2_8]) (rest := [.ref (aZ 8)]) ⟨hx, hb, hml, hown, hts⟩ hA hK hP hD hS (tX10_lower l dC dI cI cZ aZ H.size Z_code Z_from Z_to q1_0 Z_told Z_layers x2_8 q18 hcq18) (cwV 1 hts gX10_layOut_X10_lower rfl rfl rfl uX10_lower ⟨Nat.le_of_ble_eq_true rfl, Nat.le_of_ble_eq_true rfl⟩) [0, 4, 5, 6] [(true, 0), (false, 1), (false, 2), (false, 3), (true, 1), (true, 2), (true, 3), (false, 7), (false, 8)] (iX10_layOut aZ cI cZ Z_code Z_isBox Z_pinned Z_isArrow Z_from Z_to q1_0 Z_told Z_layers Z_layer_8 q1_1) rfl rfl rfl rfl rfl 10 0 rfl rfl rfl rfl hl.1 rfl (Nat.le_of_ble_eq_true rfl) dX10_layOut_117 ⟨Nat.zero_le _, Nat.zero_le _⟩ (fun H locs hP hD hS => ?_)
                  refine lv_iload_n hx hb dX10_layOut_120 rfl (lv_at hl 0 rfl) ?_
                  obtain ⟨hn19, hF⟩ := q_ck hF
                  refine q_iast hx hb hK hP hD hS 7 0 (iX10_layOut aZ cI cZ Z_code Z_isBox Z_pinned Z_isArrow Z_from Z_to q1_0 Z_told Z_layers (upd Z_layer_8 q18.toNatClampNeg v15) q1_1) rfl rfl hn19 rfl dX10_layOut_121 (fun H locs hP hD hS => ?_)
                  exact JX10_LAYOUT_122 (upd Z_layer_8 q18.toNatClampNeg v15) x2_8 hF H locs ls hP hD hS (lv_sub hl [1, 2, 3] rfl)
              · replace hF := q_f hc hF
                refine lv_goto (tgt := 122) hx hb dX10_layOut_81 (by decide) ?_
                exact JX10_LAYOUT_122 Z_layer_8 x2_8 hF H locs ls hP hD hS (lv_sub hl [0, 1, 2] rfl)
        exact L8 (0, Z_layer_7) hc8 H locs ls hP hD hS (lv_sub hl [1, 2, 0] rfl)
    exact L7 (0, u2) hc7 H locs ls hP hD hS (lv_sub hl [1, 0] rfl)
  have L2 : ∀ st : Int32 × (Nat → Int32), q_lo (fun (st : Int32 × (Nat → Int32)) => bX10_layOut_6 Z_pinned st.1 st.2) st = some q2 → ∀ (H : Heap) (locs : List Loc) (ls : Array Slot), va_P (dC, dI) vwCl (iX10_layOut aZ cI cZ Z_code Z_isBox Z_pinned Z_isArrow Z_from Z_to q1_0 Z_told Z_layers st.2 q1_1) H → va_D A (iX10_layOut aZ cI cZ Z_code Z_isBox Z_pinned Z_isArrow Z_from Z_to q1_0 Z_told Z_layers st.2 q1_1) → va_S A s.heap H locs → lv_has ls 4 [(0, .ref (aZ 0)), (1, .int st.1)] → W p l e (headSpec wsX10_layOut (rX10_layOut)).room s m args below meth c H locs 0 0 Q (F0 m 6 ls []) := by
    intro st hst
    refine q_walk (Wh := fun st : Int32 × (Nat → Int32) => ∀ (H : Heap) (locs : List Loc) (ls : Array Slot), va_P (dC, dI) vwCl (iX10_layOut aZ cI cZ Z_code Z_isBox Z_pinned Z_isArrow Z_from Z_to q1_0 Z_told Z_layers st.2 q1_1) H → va_D A (iX10_layOut aZ cI cZ Z_code Z_isBox Z_pinned Z_isArrow Z_from Z_to q1_0 Z_told Z_layers st.2 q1_1) → va_S A s.heap H locs → lv_has ls 4 [(0, .ref (aZ 0)), (1, .int st.1)] → W p l e (headSpec wsX10_layOut (rX10_layOut)).room s m args below meth c H locs 0 0 Q (F0 m 6 ls [])) ?_ st hst
    clear hst st hF
    intro st o hF hin hex H locs ls hP hD hS hl
    obtain ⟨x1_2, Z_layer_2⟩ := st
    replace hF : bX10_layOut_6 Z_pinned x1_2 Z_layer_2 = some o := hF
    replace hP : va_P (dC, dI) vwCl (iX10_layOut aZ cI cZ Z_code Z_isBox Z_pinned Z_isArrow Z_from Z_to q1_0 Z_told Z_layers Z_layer_2 q1_1) H := hP
    replace hD : va_D A (iX10_layOut aZ cI cZ Z_code Z_isBox Z_pinned Z_isArrow Z_from Z_to q1_0 Z_told Z_layers Z_layer_2 q1_1) := hD
    replace hl : lv_has ls 4 [(0, .ref (aZ 0)), (1, .int x1_2)] := hl
    unfold bX10_layOut_6 at hF
    have JX10_LAYOUT_36 : ∀ (Z_layer_3 : Nat → Int32) (x1_3 : Int32) (s0_3 : Int32) (s1_3 : Int32), jX10_layOut_36 Z_layer_3 x1_3 s0_3 s1_3 = some o → ∀ (H : Heap) (locs : List Loc) (ls : Array Slot), va_P (dC, dI) vwCl (iX10_layOut aZ cI cZ Z_code Z_isBox Z_pinned Z_isArrow Z_from Z_to q1_0 Z_told Z_layers Z_layer_3 q1_1) H → va_D A (iX10_layOut aZ cI cZ Z_code Z_isBox Z_pinned Z_isArrow Z_from Z_to q1_0 Z_told Z_layers Z_layer_3 q1_1) → va_S A s.heap H locs → lv_has ls 4 [(0, .ref (aZ 0)), (1, .int x1_3)] → W p l e (headSpec wsX10_layOut (rX10_layOut)).room s m args below meth c H locs 0 0 Q (F0 m 36 ls [.int s0_3, .int s1_3, .ref (aZ 8)]) := by
      intro Z_layer_3 x1_3 s0_3 s1_3 hF H locs ls hP hD hS hl
      unfold jX10_layOut_36 at hF
      obtain ⟨hn4, hF⟩ := q_ck hF
      refine q_iast hx hb hK hP hD hS 7 0 (iX10_layOut aZ cI cZ Z_code Z_isBox Z_pinned Z_isArrow Z_from Z_to q1_0 Z_told Z_layers (upd Z_layer_3 s1_3.toNatClampNeg s0_3) q1_1) rfl rfl hn4 rfl dX10_layOut_36 (fun H locs hP hD hS => ?_)
      refine lv_iinc (v := (x1_3 + 1)) (lv' := [(1, .int (x1_3 + 1)), (0, .ref (aZ 0))]) hx hb dX10_layOut_37 hl (k := 1) rfl rfl (by decide) rfl (fun ls hl => ?_)
      refine lv_goto (tgt := 6) hx hb dX10_layOut_40 (by decide) ?_
      exact hin _ (Option.some.inj hF).symm H locs ls hP hD hS (lv_sub hl [1, 0] rfl)
    refine lv_iload_n hx hb dX10_layOut_6 rfl (lv_at hl 1 rfl) ?_
    refine lv_bipush (v := 16) hx hb dX10_layOut_7 (by decide) ?_
    refine lv_icmp_ge (tgt := 43) hx hb dX10_layOut_9 (by decide) (fun hc => ?_) (fun hc => ?_)
    · replace hF := q_t hc hF
      exact X2 _ (hex _ (Option.some.inj hF).symm) H locs ls hP hD hS (lv_sub hl [0] rfl)
    · replace hF := q_f hc hF
      refine lv_aload_n hx hb dX10_layOut_12 rfl (lv_at hl 0 rfl) ?_
      refine q_get (ci := 10) (C := RX10) (T := TX10) (N := 24) hx hb hts eX10_layOut_X10 hown hK hP 0 rfl rfl 10 (Nat.le_of_ble_eq_true rfl) k0 rfl rfl dX10_layOut_13 ?_
      refine lv_iload_n hx hb dX10_layOut_16 rfl (lv_at hl 1 rfl) ?_
      refine lv_aload_n hx hb dX10_layOut_17 rfl (lv_at hl 0 rfl) ?_
      refine q_get (ci := 10) (C := RX10) (T := TX10) (N := 24) hx hb hts eX10_layOut_X10 hown hK hP 0 rfl rfl 3 (Nat.le_of_ble_eq_true rfl) k1 rfl rfl dX10_layOut_18 ?_
      refine lv_iload_n hx hb dX10_layOut_21 rfl (lv_at hl 1 rfl) ?_
      obtain ⟨hn5, hF⟩ := q_ck hF
      refine va_iald hx hb hK hP 2 0 rfl rfl hn5 dX10_layOut_22 ?_
      refine lv_if_ge (tgt := 30) hx hb dX10_layOut_23 (by decide) (fun hc => ?_) (fun hc => ?_)
      · replace hF := q_t hc hF
        refine lv_aload_n hx hb dX10_layOut_30 rfl (lv_at hl 0 rfl) ?_
        refine q_get (ci := 10) (C := RX10) (T := TX10) (N := 24) hx hb hts eX10_layOut_X10 hown hK hP 0 rfl rfl 3 (Nat.le_of_ble_eq_true rfl) k1 rfl rfl dX10_layOut_31 ?_
        refine lv_iload_n hx hb dX10_layOut_34 rfl (lv_at hl 1 rfl) ?_
        obtain ⟨hn6, hF⟩ := q_ck hF
        refine va_iald hx hb hK hP 2 0 rfl rfl hn6 dX10_layOut_35 ?_
        exact JX10_LAYOUT_36 Z_layer_2 x1_2 (Z_pinned x1_2.toNatClampNeg) x1_2 hF H locs ls hP hD hS (lv_sub hl [0, 1] rfl)
      · replace hF := q_f hc hF
        refine lv_iconst (v := 0) hx hb dX10_layOut_26 (by decide) ?_
        refine lv_goto (tgt := 36) hx hb dX10_layOut_27 (by decide) ?_
        exact JX10_LAYOUT_36 Z_layer_2 x1_2 0 x1_2 hF H locs ls hP hD hS (lv_sub hl [0, 1] rfl)
  exact L2 (0, Z_layer) hc2 H locs ls hP hD hS (lv_sub hl [1, 0] rfl)
