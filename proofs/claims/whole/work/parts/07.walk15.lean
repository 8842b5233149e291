/-! Written by wip/whole/gen.py: walks of X10_made, X10_draw, X10_drop, X10_item, X10_oldPlaceOf, X10_oldOrders, X10_piece. -/
abbrev rX10_made : Room := { frames := 4, cells := 0, slots := 0, locals := 96 }
theorem eX10_made_X10 : ∀ w ∈ u_ws RX10 TX10 24, w ∈ wsX10_made := by decide +kernel
theorem uX10_made : yX10_made.cls = RX10 ∧ yX10_made.cls ≠ "java/lang/invoke/MethodHandle" ∧ yX10_made.cls ≠ "java/lang/invoke/VarHandle" ∧ (parseMethodDescriptor yX10_made.desc).map (fun d => d.parameters.length) = some 0 := by decide +kernel
set_option maxHeartbeats 4000000 in
set_option maxRecDepth 100000 in
theorem tX10_made (l : Launch) (dC : Nat → ClassId) (dI : Nat → Nat → Nat) (cI cZ : ClassId) (aZ : Nat → Nat) (sz : Nat) (Z_code : Int32) (Z_isBox : Nat → Int32) (Z_width : Nat → Int32) (Z_isArrow : Nat → Int32) (Z_from : Nat → Int32) (Z_to : Nat → Int32) (Z_turned : Nat → Int32) (Z_told : Int32) (Z_layers : Int32) (Z_layer : Nat → Int32) (Z_sizes : Nat → Int32) (Z_items : Nat → Int32) (Z_place : Nat → Int32) (Z_dummyPlace : Nat → Int32) (Z_xs : Nat → Int32) (Z_oldLayer : Nat → Int32) (Z_oldPlace : Nat → Int32) (Z_oldDummy : Nat → Int32) (res : Int32 × (Nat → Int32) × (Nat → Int32) × (Nat → Int32) × (Nat → Int32)) (hF : fX10_made Z_isBox Z_width Z_isArrow Z_from Z_to Z_turned Z_layers Z_layer Z_sizes Z_items Z_place Z_dummyPlace Z_xs Z_oldLayer Z_oldPlace Z_oldDummy = some res) : q_Mv l yX10_made wsX10_made rX10_made (dC, dI) (q_ty cI cZ) [.ref (aZ 0)] (iX10_made aZ cI cZ Z_code Z_isBox Z_width Z_isArrow Z_from Z_to Z_turned Z_told Z_layers Z_layer Z_sizes Z_items Z_place Z_dummyPlace Z_xs Z_oldLayer Z_oldPlace Z_oldDummy) (iX10_made aZ cI cZ Z_code Z_isBox Z_width Z_isArrow Z_from Z_to Z_turned res.1 Z_layers Z_layer Z_sizes Z_items Z_place Z_dummyPlace res.2.1 res.2.2.1 res.2.2.2.1 res.2.2.2.2) sz := by
  refine q_metv (cc := cX10_made) (maxL := 2) (by decide) rfl (Nat.le_of_ble_eq_true rfl) ?_
  intro p e s m args below meth c Q A H locs ls C hP hD hS hl hret
  obtain ⟨hx, hb, hml, hown, hts, hA, hK⟩ := C
  replace hl : lv_has ls 2 [(0, .ref (aZ 0))] := hl
  have k0 := hts (.fieldLink RX10 82 "RouteLayoutModel" "told" "Z") (by decide +kernel)
  have k1 := hts (.fieldLink RX10 53 "RouteLayoutModel" "oldPlace" "[I") (by decide +kernel)
  have k2 := hts (.fieldLink RX10 41 "RouteLayoutModel" "place" "[I") (by decide +kernel)
  have k3 := hts (.fieldLink RX10 50 "RouteLayoutModel" "oldLayer" "[I") (by decide +kernel)
  have k4 := hts (.fieldLink RX10 7 "RouteLayoutModel" "isBox" "[Z") (by decide +kernel)
  have k5 := hts (.fieldLink RX10 32 "RouteLayoutModel" "layer" "[I") (by decide +kernel)
  have k6 := hts (.fieldLink RX10 56 "RouteLayoutModel" "oldDummy" "[I") (by decide +kernel)
  have k7 := hts (.fieldLink RX10 44 "RouteLayoutModel" "dummyPlace" "[I") (by decide +kernel)
  unfold fX10_made at hF
  refine lv_aload_n hx hb dX10_made_0 rfl (lv_at hl 0 rfl) ?_
  obtain ⟨q1, hcq1, hF⟩ := q_bd hF
  refine q_Vv (As := []) (rest := []) ⟨hx, hb, hml, hown, hts⟩ hA hK hP hD hS (tX10_straighten l dC dI cI cZ aZ H.size Z_code Z_width Z_isArrow Z_from Z_to Z_turned Z_told Z_layers Z_layer Z_sizes Z_items Z_place Z_dummyPlace Z_xs q1 hcq1) (cwV 0 hts gX10_made_X10_straighten rfl rfl rfl uX10_straighten ⟨Nat.le_of_ble_eq_true rfl, Nat.le_of_ble_eq_true rfl⟩) [0, 2, 3, 4, 5, 6, 7, 8, 9, 10, 11, 12] [(true, 0), (false, 1), (true, 1), (true, 2), (true, 3), (true, 4), (true, 5), (true, 6), (true, 7), (true, 8), (true, 9), (true, 10), (true, 11), (false, 13), (false, 14), (false, 15)] (iX10_made aZ cI cZ Z_code Z_isBox Z_width Z_isArrow Z_from Z_to Z_turned Z_told Z_layers Z_layer Z_sizes Z_items Z_place Z_dummyPlace q1 Z_oldLayer Z_oldPlace Z_oldDummy) rfl rfl rfl rfl rfl 10 0 rfl rfl rfl rfl hl.1 rfl (Nat.le_of_ble_eq_true rfl) dX10_made_1 ⟨Nat.zero_le _, Nat.zero_le _⟩ (fun H locs hP hD hS => ?_)
  refine lv_aload_n hx hb dX10_made_4 rfl (lv_at hl 0 rfl) ?_
  refine lv_iconst (v := 1) hx hb dX10_made_5 (by decide) ?_
  refine q_put (ci := 10) (C := RX10) (T := TX10) (N := 24) (ty := .boolean) hx hb hts eX10_made_X10 tyX10 tyX10_ok nmX10 hown hK hP hD hS 0 (iX10_made aZ cI cZ Z_code Z_isBox Z_width Z_isArrow Z_from Z_to Z_turned 1 Z_layers Z_layer Z_sizes Z_items Z_place Z_dummyPlace q1 Z_oldLayer Z_oldPlace Z_oldDummy) rfl rfl 8 (Nat.le_of_ble_eq_true rfl) k0 rfl rfl (by decide +kernel) (q_narz (Or.inr rfl)) rfl (Nat.le_of_ble_eq_true rfl) rfl dX10_made_6 (fun H locs hP hD hS => ?_)
  refine lv_iconst (v := 0) hx hb dX10_made_9 (by decide) ?_
  refine lv_istore_n (lv' := [(1, .int 0), (0, .ref (aZ 0))]) hx hb dX10_made_10 rfl hl (by decide) rfl (fun ls hl => ?_)
  obtain ⟨q2_0, q2_1, hc2, hF⟩ := q_bd2 hF
  have X2 : ∀ (u2_0 : Nat → Int32) (u2_1 : Nat → Int32), (u2_0, u2_1) = (q2_0, q2_1) → ∀ (H : Heap) (locs : List Loc) (ls : Array Slot), va_P (dC, dI) vwCl (iX10_made aZ cI cZ Z_code Z_isBox Z_width Z_isArrow Z_from Z_to Z_turned 1 Z_layers Z_layer Z_sizes Z_items Z_place Z_dummyPlace q1 u2_0 u2_1 Z_oldDummy) H → va_D A (iX10_made aZ cI cZ Z_code Z_isBox Z_width Z_isArrow Z_from Z_to Z_turned 1 Z_layers Z_layer Z_sizes Z_items Z_place Z_dummyPlace q1 u2_0 u2_1 Z_oldDummy) → va_S A s.heap H locs → lv_has ls 2 [(0, .ref (aZ 0))] → W p l e (headSpec wsX10_made (rX10_made)).room s m args below meth c H locs 0 0 Q (F0 m 60 ls []) := by
    intro u2_0 u2_1 hu H locs ls hP hD hS hl
    obtain ⟨e0, e1⟩ := q_inj2 hu
    subst e0 e1
    refine lv_iconst (v := 0) hx hb dX10_made_60 (by decide) ?_
    refine lv_istore_n (lv' := [(1, .int 0), (0, .ref (aZ 0))]) hx hb dX10_made_61 rfl hl (by decide) rfl (fun ls hl => ?_)
    obtain ⟨q9, hc9, hF⟩ := q_bd hF
    have X9 : ∀ (u9 : Nat → Int32), u9 = q9 → ∀ (H : Heap) (locs : List Loc) (ls : Array Slot), va_P (dC, dI) vwCl (iX10_made aZ cI cZ Z_code Z_isBox Z_width Z_isArrow Z_from Z_to Z_turned 1 Z_layers Z_layer Z_sizes Z_items Z_place Z_dummyPlace q1 u2_0 u2_1 u9) H → va_D A (iX10_made aZ cI cZ Z_code Z_isBox Z_width Z_isArrow Z_from Z_to Z_turned 1 Z_layers Z_layer Z_sizes Z_items Z_place Z_dummyPlace q1 u2_0 u2_1 u9) → va_S A s.heap H locs → lv_has ls 2 [] → W p l e (headSpec wsX10_made (rX10_made)).room s m args below meth c H locs 0 0 Q (F0 m 106 ls []) := by
      intro u9 hu H locs ls hP hD hS hl
      subst hu
      exact hret H locs ls 106 _ dX10_made_106 (congrArg (fun z : Int32 × (Nat → Int32) × (Nat → Int32) × (Nat → Int32) × (Nat → Int32) => (iX10_made aZ cI cZ Z_code Z_isBox Z_width Z_isArrow Z_from Z_to Z_turned z.1 Z_layers Z_layer Z_sizes Z_items Z_place Z_dummyPlace z.2.1 z.2.2.1 z.2.2.2.1 z.2.2.2.2)) (Option.some.inj hF)) hP hD hS
    have L9 : ∀ st : Int32 × (Nat → Int32), q_lo (fun (st : Int32 × (Nat → Int32)) => bX10_made_62 Z_isArrow Z_from Z_to Z_turned Z_layer Z_dummyPlace st.1 st.2) st = some q9 → ∀ (H : Heap) (locs : List Loc) (ls : Array Slot), va_P (dC, dI) vwCl (iX10_made aZ cI cZ Z_code Z_isBox Z_width Z_isArrow Z_from Z_to Z_turned 1 Z_layers Z_layer Z_sizes Z_items Z_place Z_dummyPlace q1 u2_0 u2_1 st.2) H → va_D A (iX10_made aZ cI cZ Z_code Z_isBox Z_width Z_isArrow Z_from Z_to Z_turned 1 Z_layers Z_layer Z_sizes Z_items Z_place Z_dummyPlace q1 u2_0 u2_1 st.2) → va_S A s.heap H locs → lv_has ls 2 [(0, .ref (aZ 0)), (1, .int st.1)] → W p l e (headSpec wsX10_made (rX10_made)).room s m args below meth c H locs 0 0 Q (F0 m 62 ls []) := by
      intro st hst
      refine q_walk (Wh := fun st : Int32 × (Nat → Int32) => ∀ (H : Heap) (locs : List Loc) (ls : Array Slot), va_P (dC, dI) vwCl (iX10_made aZ cI cZ Z_code Z_isBox Z_width Z_isArrow Z_from Z_to Z_turned 1 Z_layers Z_layer Z_sizes Z_items Z_place Z_dummyPlace q1 u2_0 u2_1 st.2) H → va_D A (iX10_made aZ cI cZ Z_code Z_isBox Z_width Z_isArrow Z_from Z_to Z_turned 1 Z_layers Z_layer Z_sizes Z_items Z_place Z_dummyPlace q1 u2_0 u2_1 st.2) → va_S A s.heap H locs → lv_has ls 2 [(0, .ref (aZ 0)), (1, .int st.1)] → W p l e (headSpec wsX10_made (rX10_made)).room s m args below meth c H locs 0 0 Q (F0 m 62 ls [])) ?_ st hst
      clear hst st hF
      intro st o hF hin hex H locs ls hP hD hS hl
      obtain ⟨x1_9, Z_oldDummy_9⟩ := st
      replace hF : bX10_made_62 Z_isArrow Z_from Z_to Z_turned Z_layer Z_dummyPlace x1_9 Z_oldDummy_9 = some o := hF
      replace hP : va_P (dC, dI) vwCl (iX10_made aZ cI cZ Z_code Z_isBox Z_width Z_isArrow Z_from Z_to Z_turned 1 Z_layers Z_layer Z_sizes Z_items Z_place Z_dummyPlace q1 u2_0 u2_1 Z_oldDummy_9) H := hP
      replace hD : va_D A (iX10_made aZ cI cZ Z_code Z_isBox Z_width Z_isArrow Z_from Z_to Z_turned 1 Z_layers Z_layer Z_sizes Z_items Z_place Z_dummyPlace q1 u2_0 u2_1 Z_oldDummy_9) := hD
      replace hl : lv_has ls 2 [(0, .ref (aZ 0)), (1, .int x1_9)] := hl
      unfold bX10_made_62 at hF
      have JX10_MADE_99 : ∀ (Z_oldDummy_10 : Nat → Int32) (x1_10 : Int32) (s0_10 : Int32) (s1_10 : Int32), jX10_made_99 Z_oldDummy_10 x1_10 s0_10 s1_10 = some o → ∀ (H : Heap) (locs : List Loc) (ls : Array Slot), va_P (dC, dI) vwCl (iX10_made aZ cI cZ Z_code Z_isBox Z_width Z_isArrow Z_from Z_to Z_turned 1 Z_layers Z_layer Z_sizes Z_items Z_place Z_dummyPlace q1 u2_0 u2_1 Z_oldDummy_10) H → va_D A (iX10_made aZ cI cZ Z_code Z_isBox Z_width Z_isArrow Z_from Z_to Z_turned 1 Z_layers Z_layer Z_sizes Z_items Z_place Z_dummyPlace q1 u2_0 u2_1 Z_oldDummy_10) → va_S A s.heap H locs → lv_has ls 2 [(0, .ref (aZ 0)), (1, .int x1_10)] → W p l e (headSpec wsX10_made (rX10_made)).room s m args below meth c H locs 0 0 Q (F0 m 99 ls [.int s0_10, .int s1_10, .ref (aZ 16)]) := by
        intro Z_oldDummy_10 x1_10 s0_10 s1_10 hF H locs ls hP hD hS hl
        unfold jX10_made_99 at hF
        obtain ⟨hn11, hF⟩ := q_ck hF
        refine q_iast hx hb hK hP hD hS 15 0 (iX10_made aZ cI cZ Z_code Z_isBox Z_width Z_isArrow Z_from Z_to Z_turned 1 Z_layers Z_layer Z_sizes Z_items Z_place Z_dummyPlace q1 u2_0 u2_1 (upd Z_oldDummy_10 s1_10.toNatClampNeg s0_10)) rfl rfl hn11 rfl dX10_made_99 (fun H locs hP hD hS => ?_)
        refine lv_iinc (v := (x1_10 + 1)) (lv' := [(1, .int (x1_10 + 1)), (0, .ref (aZ 0))]) hx hb dX10_made_100 hl (k := 1) rfl rfl (by decide) rfl (fun ls hl => ?_)
        refine lv_goto (tgt := 62) hx hb dX10_made_103 (by decide) ?_
        exact hin _ (Option.some.inj hF).symm H locs ls hP hD hS (lv_sub hl [1, 0] rfl)
      refine lv_iload_n hx hb dX10_made_62 rfl (lv_at hl 1 rfl) ?_
      refine lv_sipush (v := 576) hx hb dX10_made_63 (by decide) ?_
      refine lv_icmp_ge (tgt := 106) hx hb dX10_made_66 (by decide) (fun hc => ?_) (fun hc => ?_)
      · replace hF := q_t hc hF
        exact X9 _ (hex _ (Option.some.inj hF).symm) H locs ls hP hD hS (lv_sub hl [] rfl)
      · replace hF := q_f hc hF
        refine lv_aload_n hx hb dX10_made_69 rfl (lv_at hl 0 rfl) ?_
        refine q_get (ci := 10) (C := RX10) (T := TX10) (N := 24) hx hb hts eX10_made_X10 hown hK hP 0 rfl rfl 18 (Nat.le_of_ble_eq_true rfl) k6 rfl rfl dX10_made_70 ?_
        refine lv_iload_n hx hb dX10_made_73 rfl (lv_at hl 1 rfl) ?_
        refine lv_aload_n hx hb dX10_made_74 rfl (lv_at hl 0 rfl) ?_
        refine lv_iload_n hx hb dX10_made_75 rfl (lv_at hl 1 rfl) ?_
        refine lv_bipush (v := 24) hx hb dX10_made_76 (by decide) ?_
        refine lv_idiv hx hb dX10_made_78 (by decide) ?_
        refine lv_iload_n hx hb dX10_made_79 rfl (lv_at hl 1 rfl) ?_
        refine lv_bipush (v := 24) hx hb dX10_made_80 (by decide) ?_
        refine lv_irem hx hb dX10_made_82 (by decide) ?_
        obtain ⟨q12, hcq12, hF⟩ := q_bd hF
        refine q_Vi (As := [.int (x1_9 / 24), .int (x1_9 - x1_9 / 24 * 24)]) (rest := [.int x1_9, .ref (aZ 16)]) ⟨hx, hb, hml, hown, hts⟩ hA hK hP hD hS (tX10_hasDummy l dC dI cI cZ aZ H.size Z_code Z_isArrow Z_from Z_to Z_turned 1 Z_layers Z_layer (x1_9 / 24) (x1_9 - x1_9 / 24 * 24) q12 hcq12) (cwV 2 hts gX10_made_X10_hasDummy rfl rfl rfl uX10_hasDummy ⟨Nat.le_of_ble_eq_true rfl, Nat.le_of_ble_eq_true rfl⟩) [0, 3, 4, 5, 6, 7] [(true, 0), (false, 1), (false, 2), (true, 1), (true, 2), (true, 3), (true, 4), (true, 5), (false, 8), (false, 9), (false, 10), (false, 11), (false, 12), (false, 13), (false, 14), (false, 15)] (iX10_made aZ cI cZ Z_code Z_isBox Z_width Z_isArrow Z_from Z_to Z_turned 1 Z_layers Z_layer Z_sizes Z_items Z_place Z_dummyPlace q1 u2_0 u2_1 Z_oldDummy_9) rfl rfl rfl rfl rfl 10 0 rfl rfl rfl rfl hl.1 rfl (Nat.le_of_ble_eq_true rfl) dX10_made_83 ⟨Nat.zero_le _, Nat.zero_le _⟩ (fun H locs hP hD hS => ?_)
        refine lv_if_eq (tgt := 98) hx hb dX10_made_86 (by decide) (fun hc => ?_) (fun hc => ?_)
        · replace hF := q_t hc hF
          refine lv_iconst (v := (-1)) hx hb dX10_made_98 (by decide) ?_
          exact JX10_MADE_99 Z_oldDummy_9 x1_9 (-1) x1_9 hF H locs ls hP hD hS (lv_sub hl [0, 1] rfl)
        · replace hF := q_f hc hF
          refine lv_aload_n hx hb dX10_made_89 rfl (lv_at hl 0 rfl) ?_
          refine q_get (ci := 10) (C := RX10) (T := TX10) (N := 24) hx hb hts eX10_made_X10 hown hK hP 0 rfl rfl 14 (Nat.le_of_ble_eq_true rfl) k7 rfl rfl dX10_made_90 ?_
          refine lv_iload_n hx hb dX10_made_93 rfl (lv_at hl 1 rfl) ?_
          obtain ⟨hn13, hF⟩ := q_ck hF
          refine va_iald hx hb hK hP 11 0 rfl rfl hn13 dX10_made_94 ?_
          refine lv_goto (tgt := 99) hx hb dX10_made_95 (by decide) ?_
          exact JX10_MADE_99 Z_oldDummy_9 x1_9 (Z_dummyPlace x1_9.toNatClampNeg) x1_9 hF H locs ls hP hD hS (lv_sub hl [0, 1] rfl)
    exact L9 (0, Z_oldDummy) hc9 H locs ls hP hD hS (lv_sub hl [1, 0] rfl)
  have L2 : ∀ st : Int32 × (Nat → Int32) × (Nat → Int32), q_lo (fun (st : Int32 × (Nat → Int32) × (Nat → Int32)) => bX10_made_11 Z_isBox Z_layer Z_place st.1 st.2.1 st.2.2) st = some (q2_0, q2_1) → ∀ (H : Heap) (locs : List Loc) (ls : Array Slot), va_P (dC, dI) vwCl (iX10_made aZ cI cZ Z_code Z_isBox Z_width Z_isArrow Z_from Z_to Z_turned 1 Z_layers Z_layer Z_sizes Z_items Z_place Z_dummyPlace q1 st.2.1 st.2.2 Z_oldDummy) H → va_D A (iX10_made aZ cI cZ Z_code Z_isBox Z_width Z_isArrow Z_from Z_to Z_turned 1 Z_layers Z_layer Z_sizes Z_items Z_place Z_dummyPlace q1 st.2.1 st.2.2 Z_oldDummy) → va_S A s.heap H locs → lv_has ls 2 [(0, .ref (aZ 0)), (1, .int st.1)] → W p l e (headSpec wsX10_made (rX10_made)).room s m args below meth c H locs 0 0 Q (F0 m 11 ls []) := by
    intro st hst
    refine q_walk (Wh := fun st : Int32 × (Nat → Int32) × (Nat → Int32) => ∀ (H : Heap) (locs : List Loc) (ls : Array Slot), va_P (dC, dI) vwCl (iX10_made aZ cI cZ Z_code Z_isBox Z_width Z_isArrow Z_from Z_to Z_turned 1 Z_layers Z_layer Z_sizes Z_items Z_place Z_dummyPlace q1 st.2.1 st.2.2 Z_oldDummy) H → va_D A (iX10_made aZ cI cZ Z_code Z_isBox Z_width Z_isArrow Z_from Z_to Z_turned 1 Z_layers Z_layer Z_sizes Z_items Z_place Z_dummyPlace q1 st.2.1 st.2.2 Z_oldDummy) → va_S A s.heap H locs → lv_has ls 2 [(0, .ref (aZ 0)), (1, .int st.1)] → W p l e (headSpec wsX10_made (rX10_made)).room s m args below meth c H locs 0 0 Q (F0 m 11 ls [])) ?_ st hst
    clear hst st hF
    intro st o hF hin hex H locs ls hP hD hS hl
    obtain ⟨x1_2, Z_oldLayer_2, Z_oldPlace_2⟩ := st
    replace hF : bX10_made_11 Z_isBox Z_layer Z_place x1_2 Z_oldLayer_2 Z_oldPlace_2 = some o := hF
    replace hP : va_P (dC, dI) vwCl (iX10_made aZ cI cZ Z_code Z_isBox Z_width Z_isArrow Z_from Z_to Z_turned 1 Z_layers Z_layer Z_sizes Z_items Z_place Z_dummyPlace q1 Z_oldLayer_2 Z_oldPlace_2 Z_oldDummy) H := hP
    replace hD : va_D A (iX10_made aZ cI cZ Z_code Z_isBox Z_width Z_isArrow Z_from Z_to Z_turned 1 Z_layers Z_layer Z_sizes Z_items Z_place Z_dummyPlace q1 Z_oldLayer_2 Z_oldPlace_2 Z_oldDummy) := hD
    replace hl : lv_has ls 2 [(0, .ref (aZ 0)), (1, .int x1_2)] := hl
    unfold bX10_made_11 at hF
    have JX10_MADE_41 : ∀ (Z_oldLayer_3 : Nat → Int32) (Z_oldPlace_3 : Nat → Int32) (x1_3 : Int32) (s0_3 : Int32) (s1_3 : Int32), jX10_made_41 Z_place Z_oldLayer_3 Z_oldPlace_3 x1_3 s0_3 s1_3 = some o → ∀ (H : Heap) (locs : List Loc) (ls : Array Slot), va_P (dC, dI) vwCl (iX10_made aZ cI cZ Z_code Z_isBox Z_width Z_isArrow Z_from Z_to Z_turned 1 Z_layers Z_layer Z_sizes Z_items Z_place Z_dummyPlace q1 Z_oldLayer_3 Z_oldPlace_3 Z_oldDummy) H → va_D A (iX10_made aZ cI cZ Z_code Z_isBox Z_width Z_isArrow Z_from Z_to Z_turned 1 Z_layers Z_layer Z_sizes Z_items Z_place Z_dummyPlace q1 Z_oldLayer_3 Z_oldPlace_3 Z_oldDummy) → va_S A s.heap H locs → lv_has ls 2 [(0, .ref (aZ 0)), (1, .int x1_3)] → W p l e (headSpec wsX10_made (rX10_made)).room s m args below meth c H locs 0 0 Q (F0 m 41 ls [.int s0_3, .int s1_3, .ref (aZ 14)]) := by
      intro Z_oldLayer_3 Z_oldPlace_3 x1_3 s0_3 s1_3 hF H locs ls hP hD hS hl
      unfold jX10_made_41 at hF
      obtain ⟨hn4, hF⟩ := q_ck hF
      refine q_iast hx hb hK hP hD hS 13 0 (iX10_made aZ cI cZ Z_code Z_isBox Z_width Z_isArrow Z_from Z_to Z_turned 1 Z_layers Z_layer Z_sizes Z_items Z_place Z_dummyPlace q1 (upd Z_oldLayer_3 s1_3.toNatClampNeg s0_3) Z_oldPlace_3 Z_oldDummy) rfl rfl hn4 rfl dX10_made_41 (fun H locs hP hD hS => ?_)
      refine lv_aload_n hx hb dX10_made_42 rfl (lv_at hl 0 rfl) ?_
      refine q_get (ci := 10) (C := RX10) (T := TX10) (N := 24) hx hb hts eX10_made_X10 hown hK hP 0 rfl rfl 17 (Nat.le_of_ble_eq_true rfl) k1 rfl rfl dX10_made_43 ?_
      refine lv_iload_n hx hb dX10_made_46 rfl (lv_at hl 1 rfl) ?_
      refine lv_aload_n hx hb dX10_made_47 rfl (lv_at hl 0 rfl) ?_
      refine q_get (ci := 10) (C := RX10) (T := TX10) (N := 24) hx hb hts eX10_made_X10 hown hK hP 0 rfl rfl 13 (Nat.le_of_ble_eq_true rfl) k2 rfl rfl dX10_made_48 ?_
      refine lv_iload_n hx hb dX10_made_51 rfl (lv_at hl 1 rfl) ?_
      obtain ⟨hn5, hF⟩ := q_ck hF
      refine va_iald hx hb hK hP 10 0 rfl rfl hn5 dX10_made_52 ?_
      obtain ⟨hn6, hF⟩ := q_ck hF
      refine q_iast hx hb hK hP hD hS 14 0 (iX10_made aZ cI cZ Z_code Z_isBox Z_width Z_isArrow Z_from Z_to Z_turned 1 Z_layers Z_layer Z_sizes Z_items Z_place Z_dummyPlace q1 (upd Z_oldLayer_3 s1_3.toNatClampNeg s0_3) (upd Z_oldPlace_3 x1_3.toNatClampNeg (Z_place x1_3.toNatClampNeg)) Z_oldDummy) rfl rfl hn6 rfl dX10_made_53 (fun H locs hP hD hS => ?_)
      refine lv_iinc (v := (x1_3 + 1)) (lv' := [(1, .int (x1_3 + 1)), (0, .ref (aZ 0))]) hx hb dX10_made_54 hl (k := 1) rfl rfl (by decide) rfl (fun ls hl => ?_)
      refine lv_goto (tgt := 11) hx hb dX10_made_57 (by decide) ?_
      exact hin _ (Option.some.inj hF).symm H locs ls hP hD hS (lv_sub hl [1, 0] rfl)
    refine lv_iload_n hx hb dX10_made_11 rfl (lv_at hl 1 rfl) ?_
    refine lv_bipush (v := 16) hx hb dX10_made_12 (by decide) ?_
    refine lv_icmp_ge (tgt := 60) hx hb dX10_made_14 (by decide) (fun hc => ?_) (fun hc => ?_)
    · replace hF := q_t hc hF
      exact X2 _ _ (hex _ (Option.some.inj hF).symm) H locs ls hP hD hS (lv_sub hl [0] rfl)
    · replace hF := q_f hc hF
      refine lv_aload_n hx hb dX10_made_17 rfl (lv_at hl 0 rfl) ?_
      refine q_get (ci := 10) (C := RX10) (T := TX10) (N := 24) hx hb hts eX10_made_X10 hown hK hP 0 rfl rfl 16 (Nat.le_of_ble_eq_true rfl) k3 rfl rfl dX10_made_18 ?_
      refine lv_iload_n hx hb dX10_made_21 rfl (lv_at hl 1 rfl) ?_
      refine lv_aload_n hx hb dX10_made_22 rfl (lv_at hl 0 rfl) ?_
      refine q_get (ci := 10) (C := RX10) (T := TX10) (N := 24) hx hb hts eX10_made_X10 hown hK hP 0 rfl rfl 1 (Nat.le_of_ble_eq_true rfl) k4 rfl rfl dX10_made_23 ?_
      refine lv_iload_n hx hb dX10_made_26 rfl (lv_at hl 1 rfl) ?_
      obtain ⟨hn7, hF⟩ := q_ck hF
      refine va_zald hx hb hK hP 1 1 rfl rfl hn7 dX10_made_27 ?_
      refine lv_if_eq (tgt := 40) hx hb dX10_made_28 (by decide) (fun hc => ?_) (fun hc => ?_)
      · replace hF := q_t hc hF
        refine lv_iconst (v := (-1)) hx hb dX10_made_40 (by decide) ?_
        exact JX10_MADE_41 Z_oldLayer_2 Z_oldPlace_2 x1_2 (-1) x1_2 hF H locs ls hP hD hS (lv_sub hl [0, 1] rfl)
      · replace hF := q_f hc hF
        refine lv_aload_n hx hb dX10_made_31 rfl (lv_at hl 0 rfl) ?_
        refine q_get (ci := 10) (C := RX10) (T := TX10) (N := 24) hx hb hts eX10_made_X10 hown hK hP 0 rfl rfl 10 (Nat.le_of_ble_eq_true rfl) k5 rfl rfl dX10_made_32 ?_
        refine lv_iload_n hx hb dX10_made_35 rfl (lv_at hl 1 rfl) ?_
        obtain ⟨hn8, hF⟩ := q_ck hF
        refine va_iald hx hb hK hP 7 0 rfl rfl hn8 dX10_made_36 ?_
        refine lv_goto (tgt := 41) hx hb dX10_made_37 (by decide) ?_
        exact JX10_MADE_41 Z_oldLayer_2 Z_oldPlace_2 x1_2 (Z_layer x1_2.toNatClampNeg) x1_2 hF H locs ls hP hD hS (lv_sub hl [0, 1] rfl)
  exact L2 (0, Z_oldLayer, Z_oldPlace) hc2 H locs ls hP hD hS (lv_sub hl [1, 0] rfl)
abbrev rX10_draw : Room := { frames := 5, cells := 0, slots := 0, locals := 124 }
theorem eX10_draw_X10 : ∀ w ∈ u_ws RX10 TX10 24, w ∈ wsX10_draw := by decide +kernel
theorem uX10_draw : yX10_draw.cls = RX10 ∧ yX10_draw.cls ≠ "java/lang/invoke/MethodHandle" ∧ yX10_draw.cls ≠ "java/lang/invoke/VarHandle" ∧ (parseMethodDescriptor yX10_draw.desc).map (fun d => d.parameters.length) = some 1 := by decide +kernel
set_option maxHeartbeats 4000000 in
set_option maxRecDepth 100000 in
theorem tX10_draw (l : Launch) (dC : Nat → ClassId) (dI : Nat → Nat → Nat) (cI cZ : ClassId) (aZ : Nat → Nat) (sz : Nat) (Z_code : Int32) (Z_isBox : Nat → Int32) (Z_width : Nat → Int32) (Z_pinned : Nat → Int32) (Z_isArrow : Nat → Int32) (Z_from : Nat → Int32) (Z_to : Nat → Int32) (Z_turned : Nat → Int32) (Z_told : Int32) (Z_layers : Int32) (Z_layer : Nat → Int32) (Z_sizes : Nat → Int32) (Z_items : Nat → Int32) (Z_place : Nat → Int32) (Z_dummyPlace : Nat → Int32) (Z_xs : Nat → Int32) (Z_oldLayer : Nat → Int32) (Z_oldPlace : Nat → Int32) (Z_oldDummy : Nat → Int32) (Z_row : Nat → Int32) (Z_ends : Nat → Int32) (Z_near : Nat → Int32) (Z_come : Nat → Int32) (p0 : Int32) (res : Int32 × Int32 × (Nat → Int32) × Int32 × Int32 × (Nat → Int32) × (Nat → Int32) × (Nat → Int32) × (Nat → Int32) × (Nat → Int32) × (Nat → Int32) × (Nat → Int32) × (Nat → Int32) × (Nat → Int32) × (Nat → Int32) × (Nat → Int32) × (Nat → Int32) × (Nat → Int32)) (hF : fX10_draw Z_isBox Z_width Z_pinned Z_isArrow Z_from Z_to Z_turned Z_told Z_layers Z_layer Z_sizes Z_items Z_place Z_dummyPlace Z_xs Z_oldLayer Z_oldPlace Z_oldDummy Z_row Z_ends Z_near Z_come p0 = some res) : q_Mi l yX10_draw wsX10_draw rX10_draw (dC, dI) (q_ty cI cZ) [.ref (aZ 0), .int p0] (iX10_draw aZ cI cZ Z_code Z_isBox Z_width Z_pinned Z_isArrow Z_from Z_to Z_turned Z_told Z_layers Z_layer Z_sizes Z_items Z_place Z_dummyPlace Z_xs Z_oldLayer Z_oldPlace Z_oldDummy Z_row Z_ends Z_near Z_come) (iX10_draw aZ cI cZ res.2.1 Z_isBox Z_width Z_pinned Z_isArrow Z_from Z_to res.2.2.1 res.2.2.2.1 res.2.2.2.2.1 res.2.2.2.2.2.1 res.2.2.2.2.2.2.1 res.2.2.2.2.2.2.2.1 res.2.2.2.2.2.2.2.2.1 res.2.2.2.2.2.2.2.2.2.1 res.2.2.2.2.2.2.2.2.2.2.1 res.2.2.2.2.2.2.2.2.2.2.2.1 res.2.2.2.2.2.2.2.2.2.2.2.2.1 res.2.2.2.2.2.2.2.2.2.2.2.2.2.1 res.2.2.2.2.2.2.2.2.2.2.2.2.2.2.1 res.2.2.2.2.2.2.2.2.2.2.2.2.2.2.2.1 res.2.2.2.2.2.2.2.2.2.2.2.2.2.2.2.2.1 res.2.2.2.2.2.2.2.2.2.2.2.2.2.2.2.2.2) sz res.1 := by
  refine q_metz (cc := cX10_draw) (maxL := 2) (by decide) rfl (Nat.le_of_ble_eq_true rfl) ?_
  intro p e s m args below meth c Q A H locs ls C hP hD hS hl hret
  obtain ⟨hx, hb, hml, hown, hts, hA, hK⟩ := C
  replace hl : lv_has ls 2 [(0, .ref (aZ 0)), (1, .int p0)] := hl
  have k0 := hts (.fieldLink RX10 74 "RouteLayoutModel" "code" "I") (by decide +kernel)
  have k1 := hts (.fieldLink RX10 82 "RouteLayoutModel" "told" "Z") (by decide +kernel)
  unfold fX10_draw at hF
  have JX10_DRAW_15 : ∀ (Z_code_1 : Int32) (Z_turned_1 : Nat → Int32) (Z_told_1 : Int32) (Z_layers_1 : Int32) (Z_layer_1 : Nat → Int32) (Z_sizes_1 : Nat → Int32) (Z_items_1 : Nat → Int32) (Z_place_1 : Nat → Int32) (Z_dummyPlace_1 : Nat → Int32) (Z_xs_1 : Nat → Int32) (Z_oldLayer_1 : Nat → Int32) (Z_oldPlace_1 : Nat → Int32) (Z_oldDummy_1 : Nat → Int32) (Z_row_1 : Nat → Int32) (Z_ends_1 : Nat → Int32) (Z_near_1 : Nat → Int32) (Z_come_1 : Nat → Int32) (x1_1 : Int32) (s0_1 : Int32), jX10_draw_15 Z_isBox Z_width Z_pinned Z_isArrow Z_from Z_to Z_turned_1 Z_told_1 Z_layers_1 Z_layer_1 Z_sizes_1 Z_items_1 Z_place_1 Z_dummyPlace_1 Z_xs_1 Z_oldLayer_1 Z_oldPlace_1 Z_oldDummy_1 Z_row_1 Z_ends_1 Z_near_1 Z_come_1 x1_1 s0_1 = some res → ∀ (H : Heap) (locs : List Loc) (ls : Array Slot), va_P (dC, dI) vwCl (iX10_draw aZ cI cZ Z_code_1 Z_isBox Z_width Z_pinned Z_isArrow Z_from Z_to Z_turned_1 Z_told_1 Z_layers_1 Z_layer_1 Z_sizes_1 Z_items_1 Z_place_1 Z_dummyPlace_1 Z_xs_1 Z_oldLayer_1 Z_oldPlace_1 Z_oldDummy_1 Z_row_1 Z_ends_1 Z_near_1 Z_come_1) H → va_D A (iX10_draw aZ cI cZ Z_code_1 Z_isBox Z_width Z_pinned Z_isArrow Z_from Z_to Z_turned_1 Z_told_1 Z_layers_1 Z_layer_1 Z_sizes_1 Z_items_1 Z_place_1 Z_dummyPlace_1 Z_xs_1 Z_oldLayer_1 Z_oldPlace_1 Z_oldDummy_1 Z_row_1 Z_ends_1 Z_near_1 Z_come_1) → va_S A s.heap H locs → lv_has ls 2 [(0, .ref (aZ 0)), (1, .int x1_1)] → W p l e (headSpec wsX10_draw (rX10_draw)).room s m args below meth c H locs 0 0 Q (F0 m 15 ls [.int s0_1, .ref (aZ 0)]) := by
    intro Z_code_1 Z_turned_1 Z_told_1 Z_layers_1 Z_layer_1 Z_sizes_1 Z_items_1 Z_place_1 Z_dummyPlace_1 Z_xs_1 Z_oldLayer_1 Z_oldPlace_1 Z_oldDummy_1 Z_row_1 Z_ends_1 Z_near_1 Z_come_1 x1_1 s0_1 hF H locs ls hP hD hS hl
    unfold jX10_draw_15 at hF
    refine q_put (ci := 10) (C := RX10) (T := TX10) (N := 24) (ty := .int) hx hb hts eX10_draw_X10 tyX10 tyX10_ok nmX10 hown hK hP hD hS 0 (iX10_draw aZ cI cZ s0_1 Z_isBox Z_width Z_pinned Z_isArrow Z_from Z_to Z_turned_1 Z_told_1 Z_layers_1 Z_layer_1 Z_sizes_1 Z_items_1 Z_place_1 Z_dummyPlace_1 Z_xs_1 Z_oldLayer_1 Z_oldPlace_1 Z_oldDummy_1 Z_row_1 Z_ends_1 Z_near_1 Z_come_1) rfl rfl 0 (Nat.le_of_ble_eq_true rfl) k0 rfl rfl (by decide +kernel) rfl rfl (Nat.le_of_ble_eq_true rfl) rfl dX10_draw_15 (fun H locs hP hD hS => ?_)
    refine lv_aload_n hx hb dX10_draw_18 rfl (lv_at hl 0 rfl) ?_
    refine q_get (ci := 10) (C := RX10) (T := TX10) (N := 24) hx hb hts eX10_draw_X10 hown hK hP 0 rfl rfl 0 (Nat.le_of_ble_eq_true rfl) k0 rfl rfl dX10_draw_19 ?_
    refine lv_if_le (tgt := 27) hx hb dX10_draw_22 (by decide) (fun hc => ?_) (fun hc => ?_)
    · replace hF := q_t hc hF
      refine lv_aload_n hx hb dX10_draw_27 rfl (lv_at hl 0 rfl) ?_
      refine lv_iconst (v := 0) hx hb dX10_draw_28 (by decide) ?_
      refine q_put (ci := 10) (C := RX10) (T := TX10) (N := 24) (ty := .boolean) hx hb hts eX10_draw_X10 tyX10 tyX10_ok nmX10 hown hK hP hD hS 0 (iX10_draw aZ cI cZ s0_1 Z_isBox Z_width Z_pinned Z_isArrow Z_from Z_to Z_turned_1 0 Z_layers_1 Z_layer_1 Z_sizes_1 Z_items_1 Z_place_1 Z_dummyPlace_1 Z_xs_1 Z_oldLayer_1 Z_oldPlace_1 Z_oldDummy_1 Z_row_1 Z_ends_1 Z_near_1 Z_come_1) rfl rfl 8 (Nat.le_of_ble_eq_true rfl) k1 rfl rfl (by decide +kernel) (q_narz (Or.inl rfl)) rfl (Nat.le_of_ble_eq_true rfl) rfl dX10_draw_29 (fun H locs hP hD hS => ?_)
      refine lv_aload_n hx hb dX10_draw_32 rfl (lv_at hl 0 rfl) ?_
      obtain ⟨q2_0, q2_1, q2_2, q2_3, q2_4, hcq2, hF⟩ := q_bd5 hF
      refine q_Vi (As := []) (rest := []) ⟨hx, hb, hml, hown, hts⟩ hA hK hP hD hS (tX10_layOut l dC dI cI cZ aZ H.size s0_1 Z_isBox Z_pinned Z_isArrow Z_from Z_to Z_turned_1 0 Z_layers_1 Z_layer_1 Z_come_1 (q2_0, q2_1, q2_2, q2_3, q2_4) hcq2) (cwV 0 hts gX10_draw_X10_layOut rfl rfl rfl uX10_layOut ⟨Nat.le_of_ble_eq_true rfl, Nat.le_of_ble_eq_true rfl⟩) [0, 1, 3, 4, 5, 6, 7, 8, 20] [(true, 0), (true, 1), (false, 2), (true, 2), (true, 3), (true, 4), (true, 5), (true, 6), (true, 7), (false, 9), (false, 10), (false, 11), (false, 12), (false, 13), (false, 14), (false, 15), (false, 16), (false, 17), (false, 18), (false, 19), (true, 8)] (iX10_draw aZ cI cZ s0_1 Z_isBox Z_width Z_pinned Z_isArrow Z_from Z_to q2_1 0 q2_2 q2_3 Z_sizes_1 Z_items_1 Z_place_1 Z_dummyPlace_1 Z_xs_1 Z_oldLayer_1 Z_oldPlace_1 Z_oldDummy_1 Z_row_1 Z_ends_1 Z_near_1 q2_4) rfl rfl rfl rfl rfl 10 0 rfl rfl rfl rfl hl.1 rfl (Nat.le_of_ble_eq_true rfl) dX10_draw_33 ⟨Nat.zero_le _, Nat.zero_le _⟩ (fun H locs hP hD hS => ?_)
      refine lv_if_ne (tgt := 41) hx hb dX10_draw_36 (by decide) (fun hc => ?_) (fun hc => ?_)
      · replace hF := q_f hc hF
        refine lv_aload_n hx hb dX10_draw_41 rfl (lv_at hl 0 rfl) ?_
        refine lv_iload_n hx hb dX10_draw_42 rfl (lv_at hl 1 rfl) ?_
        obtain ⟨q3_0, q3_1, q3_2, q3_3, q3_4, q3_5, q3_6, hcq3, hF⟩ := q_bd7 hF
        refine q_Vv (As := [.int x1_1]) (rest := []) ⟨hx, hb, hml, hown, hts⟩ hA hK hP hD hS (tX10_drawOrders l dC dI cI cZ aZ H.size s0_1 Z_isBox Z_isArrow Z_from Z_to q2_1 0 q2_2 q2_3 Z_sizes_1 Z_items_1 Z_place_1 Z_dummyPlace_1 Z_row_1 Z_ends_1 Z_near_1 x1_1 (q3_0, q3_1, q3_2, q3_3, q3_4, q3_5, q3_6) hcq3) (cwV 1 hts gX10_draw_X10_drawOrders rfl rfl rfl uX10_drawOrders ⟨Nat.le_of_ble_eq_true rfl, Nat.le_of_ble_eq_true rfl⟩) [0, 1, 4, 5, 6, 7, 8, 9, 10, 11, 12, 17, 18, 19] [(true, 0), (true, 1), (false, 2), (false, 3), (true, 2), (true, 3), (true, 4), (true, 5), (true, 6), (true, 7), (true, 8), (true, 9), (true, 10), (false, 13), (false, 14), (false, 15), (false, 16), (true, 11), (true, 12), (true, 13), (false, 20)] (iX10_draw aZ cI cZ s0_1 Z_isBox Z_width Z_pinned Z_isArrow Z_from Z_to q2_1 0 q2_2 q2_3 q3_0 q3_1 q3_2 q3_3 Z_xs_1 Z_oldLayer_1 Z_oldPlace_1 Z_oldDummy_1 q3_4 q3_5 q3_6 q2_4) rfl rfl rfl rfl rfl 10 0 rfl rfl rfl rfl hl.1 rfl (Nat.le_of_ble_eq_true rfl) dX10_draw_43 ⟨Nat.zero_le _, Nat.zero_le _⟩ (fun H locs hP hD hS => ?_)
        refine lv_aload_n hx hb dX10_draw_46 rfl (lv_at hl 0 rfl) ?_
        obtain ⟨q4_0, q4_1, q4_2, q4_3, q4_4, hcq4, hF⟩ := q_bd5 hF
        refine q_Vv (As := []) (rest := []) ⟨hx, hb, hml, hown, hts⟩ hA hK hP hD hS (tX10_made l dC dI cI cZ aZ H.size s0_1 Z_isBox Z_width Z_isArrow Z_from Z_to q2_1 0 q2_2 q2_3 q3_0 q3_1 q3_2 q3_3 Z_xs_1 Z_oldLayer_1 Z_oldPlace_1 Z_oldDummy_1 (q4_0, q4_1, q4_2, q4_3, q4_4) hcq4) (cwV 0 hts gX10_draw_X10_made rfl rfl rfl uX10_made ⟨Nat.le_of_ble_eq_true rfl, Nat.le_of_ble_eq_true rfl⟩) [0, 1, 2, 4, 5, 6, 7, 8, 9, 10, 11, 12, 13, 14, 15, 16] [(true, 0), (true, 1), (true, 2), (false, 3), (true, 3), (true, 4), (true, 5), (true, 6), (true, 7), (true, 8), (true, 9), (true, 10), (true, 11), (true, 12), (true, 13), (true, 14), (true, 15), (false, 17), (false, 18), (false, 19), (false, 20)] (iX10_draw aZ cI cZ s0_1 Z_isBox Z_width Z_pinned Z_isArrow Z_from Z_to q2_1 q4_0 q2_2 q2_3 q3_0 q3_1 q3_2 q3_3 q4_1 q4_2 q4_3 q4_4 q3_4 q3_5 q3_6 q2_4) rfl rfl rfl rfl rfl 10 0 rfl rfl rfl rfl hl.1 rfl (Nat.le_of_ble_eq_true rfl) dX10_draw_47 ⟨Nat.zero_le _, Nat.zero_le _⟩ (fun H locs hP hD hS => ?_)
        refine lv_iconst (v := 1) hx hb dX10_draw_50 (by decide) ?_
        exact hret H locs ls 51 _ _ dX10_draw_51 (Or.inr rfl) (congrArg Prod.fst (Option.some.inj hF)) (congrArg (fun z : Int32 × Int32 × (Nat → Int32) × Int32 × Int32 × (Nat → Int32) × (Nat → Int32) × (Nat → Int32) × (Nat → Int32) × (Nat → Int32) × (Nat → Int32) × (Nat → Int32) × (Nat → Int32) × (Nat → Int32) × (Nat → Int32) × (Nat → Int32) × (Nat → Int32) × (Nat → Int32) => (iX10_draw aZ cI cZ z.2.1 Z_isBox Z_width Z_pinned Z_isArrow Z_from Z_to z.2.2.1 z.2.2.2.1 z.2.2.2.2.1 z.2.2.2.2.2.1 z.2.2.2.2.2.2.1 z.2.2.2.2.2.2.2.1 z.2.2.2.2.2.2.2.2.1 z.2.2.2.2.2.2.2.2.2.1 z.2.2.2.2.2.2.2.2.2.2.1 z.2.2.2.2.2.2.2.2.2.2.2.1 z.2.2.2.2.2.2.2.2.2.2.2.2.1 z.2.2.2.2.2.2.2.2.2.2.2.2.2.1 z.2.2.2.2.2.2.2.2.2.2.2.2.2.2.1 z.2.2.2.2.2.2.2.2.2.2.2.2.2.2.2.1 z.2.2.2.2.2.2.2.2.2.2.2.2.2.2.2.2.1 z.2.2.2.2.2.2.2.2.2.2.2.2.2.2.2.2.2)) (Option.some.inj hF)) hP hD hS
      · replace hF := q_t hc hF
        refine lv_iconst (v := 0) hx hb dX10_draw_39 (by decide) ?_
        exact hret H locs ls 40 _ _ dX10_draw_40 (Or.inl rfl) (congrArg Prod.fst (Option.some.inj hF)) (congrArg (fun z : Int32 × Int32 × (Nat → Int32) × Int32 × Int32 × (Nat → Int32) × (Nat → Int32) × (Nat → Int32) × (Nat → Int32) × (Nat → Int32) × (Nat → Int32) × (Nat → Int32) × (Nat → Int32) × (Nat → Int32) × (Nat → Int32) × (Nat → Int32) × (Nat → Int32) × (Nat → Int32) => (iX10_draw aZ cI cZ z.2.1 Z_isBox Z_width Z_pinned Z_isArrow Z_from Z_to z.2.2.1 z.2.2.2.1 z.2.2.2.2.1 z.2.2.2.2.2.1 z.2.2.2.2.2.2.1 z.2.2.2.2.2.2.2.1 z.2.2.2.2.2.2.2.2.1 z.2.2.2.2.2.2.2.2.2.1 z.2.2.2.2.2.2.2.2.2.2.1 z.2.2.2.2.2.2.2.2.2.2.2.1 z.2.2.2.2.2.2.2.2.2.2.2.2.1 z.2.2.2.2.2.2.2.2.2.2.2.2.2.1 z.2.2.2.2.2.2.2.2.2.2.2.2.2.2.1 z.2.2.2.2.2.2.2.2.2.2.2.2.2.2.2.1 z.2.2.2.2.2.2.2.2.2.2.2.2.2.2.2.2.1 z.2.2.2.2.2.2.2.2.2.2.2.2.2.2.2.2.2)) (Option.some.inj hF)) hP hD hS
    · replace hF := q_f hc hF
      refine lv_iconst (v := 0) hx hb dX10_draw_25 (by decide) ?_
      exact hret H locs ls 26 _ _ dX10_draw_26 (Or.inl rfl) (congrArg Prod.fst (Option.some.inj hF)) (congrArg (fun z : Int32 × Int32 × (Nat → Int32) × Int32 × Int32 × (Nat → Int32) × (Nat → Int32) × (Nat → Int32) × (Nat → Int32) × (Nat → Int32) × (Nat → Int32) × (Nat → Int32) × (Nat → Int32) × (Nat → Int32) × (Nat → Int32) × (Nat → Int32) × (Nat → Int32) × (Nat → Int32) => (iX10_draw aZ cI cZ z.2.1 Z_isBox Z_width Z_pinned Z_isArrow Z_from Z_to z.2.2.1 z.2.2.2.1 z.2.2.2.2.1 z.2.2.2.2.2.1 z.2.2.2.2.2.2.1 z.2.2.2.2.2.2.2.1 z.2.2.2.2.2.2.2.2.1 z.2.2.2.2.2.2.2.2.2.1 z.2.2.2.2.2.2.2.2.2.2.1 z.2.2.2.2.2.2.2.2.2.2.2.1 z.2.2.2.2.2.2.2.2.2.2.2.2.1 z.2.2.2.2.2.2.2.2.2.2.2.2.2.1 z.2.2.2.2.2.2.2.2.2.2.2.2.2.2.1 z.2.2.2.2.2.2.2.2.2.2.2.2.2.2.2.1 z.2.2.2.2.2.2.2.2.2.2.2.2.2.2.2.2.1 z.2.2.2.2.2.2.2.2.2.2.2.2.2.2.2.2.2)) (Option.some.inj hF)) hP hD hS
  refine lv_aload_n hx hb dX10_draw_0 rfl (lv_at hl 0 rfl) ?_
  refine lv_iload_n hx hb dX10_draw_1 rfl (lv_at hl 1 rfl) ?_
  refine lv_iconst (v := 0) hx hb dX10_draw_2 (by decide) ?_
  refine lv_iconst (v := 4) hx hb dX10_draw_3 (by decide) ?_
  obtain ⟨q5, hcq5, hF⟩ := q_bd hF
  refine q_Si (As := [.int p0, .int 0, .int 4]) (rest := [.ref (aZ 0)]) ⟨hx, hb, hml, hown, hts⟩ hA hK hP hD hS (tX10_in l dC dI cI cZ H.size p0 0 4 q5 hcq5) (va_cwS 3 hts gX10_draw_X10_in rfl rfl rfl uX10_in ⟨Nat.le_of_ble_eq_true rfl, Nat.le_of_ble_eq_true rfl⟩) [] [(false, 0), (false, 1), (false, 2), (false, 3), (false, 4), (false, 5), (false, 6), (false, 7), (false, 8), (false, 9), (false, 10), (false, 11), (false, 12), (false, 13), (false, 14), (false, 15), (false, 16), (false, 17), (false, 18), (false, 19), (false, 20)] (iX10_draw aZ cI cZ Z_code Z_isBox Z_width Z_pinned Z_isArrow Z_from Z_to Z_turned Z_told Z_layers Z_layer Z_sizes Z_items Z_place Z_dummyPlace Z_xs Z_oldLayer Z_oldPlace Z_oldDummy Z_row Z_ends Z_near Z_come) rfl rfl rfl rfl rfl rfl hl.1 rfl (Nat.le_of_ble_eq_true rfl) dX10_draw_4 ⟨Nat.zero_le _, Nat.zero_le _⟩ (fun H locs hP hD hS => ?_)
  refine lv_if_eq (tgt := 14) hx hb dX10_draw_7 (by decide) (fun hc => ?_) (fun hc => ?_)
  · replace hF := q_t hc hF
    refine lv_iconst (v := 1) hx hb dX10_draw_14 (by decide) ?_
    exact JX10_DRAW_15 Z_code Z_turned Z_told Z_layers Z_layer Z_sizes Z_items Z_place Z_dummyPlace Z_xs Z_oldLayer Z_oldPlace Z_oldDummy Z_row Z_ends Z_near Z_come p0 1 hF H locs ls hP hD hS (lv_sub hl [0, 1] rfl)
  · replace hF := q_f hc hF
    refine lv_iconst (v := 0) hx hb dX10_draw_10 (by decide) ?_
    refine lv_goto (tgt := 15) hx hb dX10_draw_11 (by decide) ?_
    exact JX10_DRAW_15 Z_code Z_turned Z_told Z_layers Z_layer Z_sizes Z_items Z_place Z_dummyPlace Z_xs Z_oldLayer Z_oldPlace Z_oldDummy Z_row Z_ends Z_near Z_come p0 0 hF H locs ls hP hD hS (lv_sub hl [0, 1] rfl)
abbrev rX10_drop : Room := { frames := 1, cells := 0, slots := 0, locals := 22 }
theorem eX10_drop_X10 : ∀ w ∈ u_ws RX10 TX10 24, w ∈ wsX10_drop := by decide +kernel
theorem uX10_drop : yX10_drop.cls = RX10 ∧ yX10_drop.cls ≠ "java/lang/invoke/MethodHandle" ∧ yX10_drop.cls ≠ "java/lang/invoke/VarHandle" ∧ (parseMethodDescriptor yX10_drop.desc).map (fun d => d.parameters.length) = some 1 := by decide +kernel
set_option maxHeartbeats 4000000 in
set_option maxRecDepth 100000 in
theorem tX10_drop (l : Launch) (dC : Nat → ClassId) (dI : Nat → Nat → Nat) (cI cZ : ClassId) (aZ : Nat → Nat) (sz : Nat) (Z_code : Int32) (Z_isArrow : Nat → Int32) (Z_told : Int32) (Z_layers : Int32) (p0 : Int32) (res : Int32 × Int32 × (Nat → Int32) × Int32) (hF : fX10_drop Z_isArrow Z_told p0 = some res) : q_Mi l yX10_drop wsX10_drop rX10_drop (dC, dI) (q_ty cI cZ) [.ref (aZ 0), .int p0] (iX10_drop aZ cI cZ Z_code Z_isArrow Z_told Z_layers) (iX10_drop aZ cI cZ res.2.1 res.2.2.1 res.2.2.2 Z_layers) sz res.1 := by
  refine q_metz (cc := cX10_drop) (maxL := 2) (by decide) rfl (Nat.le_of_ble_eq_true rfl) ?_
  intro p e s m args below meth c Q A H locs ls C hP hD hS hl hret
  obtain ⟨hx, hb, hml, hown, hts, hA, hK⟩ := C
  replace hl : lv_has ls 2 [(0, .ref (aZ 0)), (1, .int p0)] := hl
  have k0 := hts (.fieldLink RX10 74 "RouteLayoutModel" "code" "I") (by decide +kernel)
  have k1 := hts (.fieldLink RX10 20 "RouteLayoutModel" "isArrow" "[Z") (by decide +kernel)
  have k2 := hts (.fieldLink RX10 82 "RouteLayoutModel" "told" "Z") (by decide +kernel)
  unfold fX10_drop at hF
  have JX10_DROP_16 : ∀ (Z_code_1 : Int32) (Z_isArrow_1 : Nat → Int32) (Z_told_1 : Int32) (x1_1 : Int32) (s0_1 : Int32), jX10_drop_16 Z_isArrow_1 Z_told_1 x1_1 s0_1 = some res → ∀ (H : Heap) (locs : List Loc) (ls : Array Slot), va_P (dC, dI) vwCl (iX10_drop aZ cI cZ Z_code_1 Z_isArrow_1 Z_told_1 Z_layers) H → va_D A (iX10_drop aZ cI cZ Z_code_1 Z_isArrow_1 Z_told_1 Z_layers) → va_S A s.heap H locs → lv_has ls 2 [(0, .ref (aZ 0)), (1, .int x1_1)] → W p l e (headSpec wsX10_drop (rX10_drop)).room s m args below meth c H locs 0 0 Q (F0 m 16 ls [.int s0_1, .ref (aZ 0)]) := by
    intro Z_code_1 Z_isArrow_1 Z_told_1 x1_1 s0_1 hF H locs ls hP hD hS hl
    unfold jX10_drop_16 at hF
    refine q_put (ci := 10) (C := RX10) (T := TX10) (N := 24) (ty := .int) hx hb hts eX10_drop_X10 tyX10 tyX10_ok nmX10 hown hK hP hD hS 0 (iX10_drop aZ cI cZ s0_1 Z_isArrow_1 Z_told_1 Z_layers) rfl rfl 0 (Nat.le_of_ble_eq_true rfl) k0 rfl rfl (by decide +kernel) rfl rfl (Nat.le_of_ble_eq_true rfl) rfl dX10_drop_16 (fun H locs hP hD hS => ?_)
    refine lv_aload_n hx hb dX10_drop_19 rfl (lv_at hl 0 rfl) ?_
    refine q_get (ci := 10) (C := RX10) (T := TX10) (N := 24) hx hb hts eX10_drop_X10 hown hK hP 0 rfl rfl 0 (Nat.le_of_ble_eq_true rfl) k0 rfl rfl dX10_drop_20 ?_
    refine lv_if_gt (tgt := 35) hx hb dX10_drop_23 (by decide) (fun hc => ?_) (fun hc => ?_)
    · replace hF := q_t hc hF
      refine lv_iconst (v := 0) hx hb dX10_drop_35 (by decide) ?_
      exact hret H locs ls 36 _ _ dX10_drop_36 (Or.inl rfl) (congrArg Prod.fst (Option.some.inj hF)) (congrArg (fun z : Int32 × Int32 × (Nat → Int32) × Int32 => (iX10_drop aZ cI cZ z.2.1 z.2.2.1 z.2.2.2 Z_layers)) (Option.some.inj hF)) hP hD hS
    · replace hF := q_f hc hF
      refine lv_aload_n hx hb dX10_drop_26 rfl (lv_at hl 0 rfl) ?_
      refine q_get (ci := 10) (C := RX10) (T := TX10) (N := 24) hx hb hts eX10_drop_X10 hown hK hP 0 rfl rfl 4 (Nat.le_of_ble_eq_true rfl) k1 rfl rfl dX10_drop_27 ?_
      refine lv_iload_n hx hb dX10_drop_30 rfl (lv_at hl 1 rfl) ?_
      obtain ⟨hn2, hF⟩ := q_ck hF
      refine va_zald hx hb hK hP 1 1 rfl rfl hn2 dX10_drop_31 ?_
      refine lv_if_ne (tgt := 37) hx hb dX10_drop_32 (by decide) (fun hc => ?_) (fun hc => ?_)
      · replace hF := q_f hc hF
        refine lv_aload_n hx hb dX10_drop_37 rfl (lv_at hl 0 rfl) ?_
        refine q_get (ci := 10) (C := RX10) (T := TX10) (N := 24) hx hb hts eX10_drop_X10 hown hK hP 0 rfl rfl 4 (Nat.le_of_ble_eq_true rfl) k1 rfl rfl dX10_drop_38 ?_
        refine lv_iload_n hx hb dX10_drop_41 rfl (lv_at hl 1 rfl) ?_
        refine lv_iconst (v := 0) hx hb dX10_drop_42 (by decide) ?_
        obtain ⟨hn3, hF⟩ := q_ck hF
        refine q_zast hx hb hK hP hD hS 1 1 (iX10_drop aZ cI cZ s0_1 (upd Z_isArrow_1 x1_1.toNatClampNeg 0) Z_told_1 Z_layers) rfl rfl hn3 (Or.inl rfl) rfl dX10_drop_43 (fun H locs hP hD hS => ?_)
        refine lv_aload_n hx hb dX10_drop_44 rfl (lv_at hl 0 rfl) ?_
        refine lv_iconst (v := 0) hx hb dX10_drop_45 (by decide) ?_
        refine q_put (ci := 10) (C := RX10) (T := TX10) (N := 24) (ty := .boolean) hx hb hts eX10_drop_X10 tyX10 tyX10_ok nmX10 hown hK hP hD hS 0 (iX10_drop aZ cI cZ s0_1 (upd Z_isArrow_1 x1_1.toNatClampNeg 0) 0 Z_layers) rfl rfl 8 (Nat.le_of_ble_eq_true rfl) k2 rfl rfl (by decide +kernel) (q_narz (Or.inl rfl)) rfl (Nat.le_of_ble_eq_true rfl) rfl dX10_drop_46 (fun H locs hP hD hS => ?_)
        refine lv_iconst (v := 1) hx hb dX10_drop_49 (by decide) ?_
        exact hret H locs ls 50 _ _ dX10_drop_50 (Or.inr rfl) (congrArg Prod.fst (Option.some.inj hF)) (congrArg (fun z : Int32 × Int32 × (Nat → Int32) × Int32 => (iX10_drop aZ cI cZ z.2.1 z.2.2.1 z.2.2.2 Z_layers)) (Option.some.inj hF)) hP hD hS
      · replace hF := q_t hc hF
        refine lv_iconst (v := 0) hx hb dX10_drop_35 (by decide) ?_
        exact hret H locs ls 36 _ _ dX10_drop_36 (Or.inl rfl) (congrArg Prod.fst (Option.some.inj hF)) (congrArg (fun z : Int32 × Int32 × (Nat → Int32) × Int32 => (iX10_drop aZ cI cZ z.2.1 z.2.2.1 z.2.2.2 Z_layers)) (Option.some.inj hF)) hP hD hS
  refine lv_aload_n hx hb dX10_drop_0 rfl (lv_at hl 0 rfl) ?_
  refine lv_iload_n hx hb dX10_drop_1 rfl (lv_at hl 1 rfl) ?_
  refine lv_iconst (v := 0) hx hb dX10_drop_2 (by decide) ?_
  refine lv_bipush (v := 23) hx hb dX10_drop_3 (by decide) ?_
  obtain ⟨q4, hcq4, hF⟩ := q_bd hF
  refine q_Si (As := [.int p0, .int 0, .int 23]) (rest := [.ref (aZ 0)]) ⟨hx, hb, hml, hown, hts⟩ hA hK hP hD hS (tX10_in l dC dI cI cZ H.size p0 0 23 q4 hcq4) (va_cwS 3 hts gX10_drop_X10_in rfl rfl rfl uX10_in ⟨Nat.le_of_ble_eq_true rfl, Nat.le_of_ble_eq_true rfl⟩) [] [(false, 0), (false, 1)] (iX10_drop aZ cI cZ Z_code Z_isArrow Z_told Z_layers) rfl rfl rfl rfl rfl rfl hl.1 rfl (Nat.le_of_ble_eq_true rfl) dX10_drop_5 ⟨Nat.zero_le _, Nat.zero_le _⟩ (fun H locs hP hD hS => ?_)
  refine lv_if_eq (tgt := 15) hx hb dX10_drop_8 (by decide) (fun hc => ?_) (fun hc => ?_)
  · replace hF := q_t hc hF
    refine lv_iconst (v := 1) hx hb dX10_drop_15 (by decide) ?_
    exact JX10_DROP_16 Z_code Z_isArrow Z_told p0 1 hF H locs ls hP hD hS (lv_sub hl [0, 1] rfl)
  · replace hF := q_f hc hF
    refine lv_iconst (v := 0) hx hb dX10_drop_11 (by decide) ?_
    refine lv_goto (tgt := 16) hx hb dX10_drop_12 (by decide) ?_
    exact JX10_DROP_16 Z_code Z_isArrow Z_told p0 0 hF H locs ls hP hD hS (lv_sub hl [0, 1] rfl)
abbrev rX10_item : Room := { frames := 1, cells := 0, slots := 0, locals := 22 }
theorem eX10_item_X10 : ∀ w ∈ u_ws RX10 TX10 24, w ∈ wsX10_item := by decide +kernel
theorem uX10_item : yX10_item.cls = RX10 ∧ yX10_item.cls ≠ "java/lang/invoke/MethodHandle" ∧ yX10_item.cls ≠ "java/lang/invoke/VarHandle" ∧ (parseMethodDescriptor yX10_item.desc).map (fun d => d.parameters.length) = some 2 := by decide +kernel
set_option maxHeartbeats 4000000 in
set_option maxRecDepth 100000 in
theorem tX10_item (l : Launch) (dC : Nat → ClassId) (dI : Nat → Nat → Nat) (cI cZ : ClassId) (aZ : Nat → Nat) (sz : Nat) (Z_code : Int32) (Z_told : Int32) (Z_layers : Int32) (Z_sizes : Nat → Int32) (Z_items : Nat → Int32) (p0 : Int32) (p1 : Int32) (res : Int32 × Int32) (hF : fX10_item Z_told Z_layers Z_sizes Z_items p0 p1 = some res) : q_Mi l yX10_item wsX10_item rX10_item (dC, dI) (q_ty cI cZ) [.ref (aZ 0), .int p0, .int p1] (iX10_item aZ cI cZ Z_code Z_told Z_layers Z_sizes Z_items) (iX10_item aZ cI cZ res.2 Z_told Z_layers Z_sizes Z_items) sz res.1 := by
  refine q_meti (cc := cX10_item) (maxL := 3) (by decide) rfl (Nat.le_of_ble_eq_true rfl) ?_
  intro p e s m args below meth c Q A H locs ls C hP hD hS hl hret
  obtain ⟨hx, hb, hml, hown, hts, hA, hK⟩ := C
  replace hl : lv_has ls 3 [(0, .ref (aZ 0)), (1, .int p0), (2, .int p1)] := hl
  have k0 := hts (.fieldLink RX10 74 "RouteLayoutModel" "code" "I") (by decide +kernel)
  have k1 := hts (.fieldLink RX10 82 "RouteLayoutModel" "told" "Z") (by decide +kernel)
  have k2 := hts (.fieldLink RX10 103 "RouteLayoutModel" "layers" "I") (by decide +kernel)
  have k3 := hts (.fieldLink RX10 35 "RouteLayoutModel" "sizes" "[I") (by decide +kernel)
  unfold fX10_item at hF
  refine lv_aload_n hx hb dX10_item_0 rfl (lv_at hl 0 rfl) ?_
  refine lv_iconst (v := 0) hx hb dX10_item_1 (by decide) ?_
  refine q_put (ci := 10) (C := RX10) (T := TX10) (N := 24) (ty := .int) hx hb hts eX10_item_X10 tyX10 tyX10_ok nmX10 hown hK hP hD hS 0 (iX10_item aZ cI cZ 0 Z_told Z_layers Z_sizes Z_items) rfl rfl 0 (Nat.le_of_ble_eq_true rfl) k0 rfl rfl (by decide +kernel) rfl rfl (Nat.le_of_ble_eq_true rfl) rfl dX10_item_2 (fun H locs hP hD hS => ?_)
  refine lv_aload_n hx hb dX10_item_5 rfl (lv_at hl 0 rfl) ?_
  refine q_get (ci := 10) (C := RX10) (T := TX10) (N := 24) hx hb hts eX10_item_X10 hown hK hP 0 rfl rfl 8 (Nat.le_of_ble_eq_true rfl) k1 rfl rfl dX10_item_6 ?_
  refine lv_if_eq (tgt := 51) hx hb dX10_item_9 (by decide) (fun hc => ?_) (fun hc => ?_)
  · replace hF := q_t hc hF
    refine lv_iconst (v := (-1)) hx hb dX10_item_51 (by decide) ?_
    exact hret H locs ls 52 _ _ dX10_item_52 (congrArg Prod.fst (Option.some.inj hF)) (congrArg (fun z : Int32 × Int32 => (iX10_item aZ cI cZ z.2 Z_told Z_layers Z_sizes Z_items)) (Option.some.inj hF)) hP hD hS
  · replace hF := q_f hc hF
    refine lv_iload_n hx hb dX10_item_12 rfl (lv_at hl 1 rfl) ?_
    refine lv_iconst (v := 0) hx hb dX10_item_13 (by decide) ?_
    refine lv_aload_n hx hb dX10_item_14 rfl (lv_at hl 0 rfl) ?_
    refine q_get (ci := 10) (C := RX10) (T := TX10) (N := 24) hx hb hts eX10_item_X10 hown hK hP 0 rfl rfl 9 (Nat.le_of_ble_eq_true rfl) k2 rfl rfl dX10_item_15 ?_
    refine lv_iconst (v := 1) hx hb dX10_item_18 (by decide) ?_
    refine lv_isub hx hb dX10_item_19 ?_
    obtain ⟨q1, hcq1, hF⟩ := q_bd hF
    refine q_Si (As := [.int p0, .int 0, .int (Z_layers - 1)]) (rest := []) ⟨hx, hb, hml, hown, hts⟩ hA hK hP hD hS (tX10_in l dC dI cI cZ H.size p0 0 (Z_layers - 1) q1 hcq1) (va_cwS 3 hts gX10_item_X10_in rfl rfl rfl uX10_in ⟨Nat.le_of_ble_eq_true rfl, Nat.le_of_ble_eq_true rfl⟩) [] [(false, 0), (false, 1), (false, 2)] (iX10_item aZ cI cZ 0 Z_told Z_layers Z_sizes Z_items) rfl rfl rfl rfl rfl rfl hl.1 rfl (Nat.le_of_ble_eq_true rfl) dX10_item_20 ⟨Nat.zero_le _, Nat.zero_le _⟩ (fun H locs hP hD hS => ?_)
    refine lv_if_eq (tgt := 51) hx hb dX10_item_23 (by decide) (fun hc => ?_) (fun hc => ?_)
    · replace hF := q_t hc hF
      refine lv_iconst (v := (-1)) hx hb dX10_item_51 (by decide) ?_
      exact hret H locs ls 52 _ _ dX10_item_52 (congrArg Prod.fst (Option.some.inj hF)) (congrArg (fun z : Int32 × Int32 => (iX10_item aZ cI cZ z.2 Z_told Z_layers Z_sizes Z_items)) (Option.some.inj hF)) hP hD hS
    · replace hF := q_f hc hF
      refine lv_iload_n hx hb dX10_item_26 rfl (lv_at hl 2 rfl) ?_
      refine lv_iconst (v := 0) hx hb dX10_item_27 (by decide) ?_
      refine lv_aload_n hx hb dX10_item_28 rfl (lv_at hl 0 rfl) ?_
      refine q_get (ci := 10) (C := RX10) (T := TX10) (N := 24) hx hb hts eX10_item_X10 hown hK hP 0 rfl rfl 11 (Nat.le_of_ble_eq_true rfl) k3 rfl rfl dX10_item_29 ?_
      refine lv_iload_n hx hb dX10_item_32 rfl (lv_at hl 1 rfl) ?_
      obtain ⟨hn2, hF⟩ := q_ck hF
      refine va_iald hx hb hK hP 1 0 rfl rfl hn2 dX10_item_33 ?_
      refine lv_iconst (v := 1) hx hb dX10_item_34 (by decide) ?_
      refine lv_isub hx hb dX10_item_35 ?_
      obtain ⟨q3, hcq3, hF⟩ := q_bd hF
      refine q_Si (As := [.int p1, .int 0, .int ((Z_sizes p0.toNatClampNeg) - 1)]) (rest := []) ⟨hx, hb, hml, hown, hts⟩ hA hK hP hD hS (tX10_in l dC dI cI cZ H.size p1 0 ((Z_sizes p0.toNatClampNeg) - 1) q3 hcq3) (va_cwS 3 hts gX10_item_X10_in rfl rfl rfl uX10_in ⟨Nat.le_of_ble_eq_true rfl, Nat.le_of_ble_eq_true rfl⟩) [] [(false, 0), (false, 1), (false, 2)] (iX10_item aZ cI cZ 0 Z_told Z_layers Z_sizes Z_items) rfl rfl rfl rfl rfl rfl hl.1 rfl (Nat.le_of_ble_eq_true rfl) dX10_item_36 ⟨Nat.zero_le _, Nat.zero_le _⟩ (fun H locs hP hD hS => ?_)
      refine lv_if_eq (tgt := 51) hx hb dX10_item_39 (by decide) (fun hc => ?_) (fun hc => ?_)
      · replace hF := q_t hc hF
        refine lv_iconst (v := (-1)) hx hb dX10_item_51 (by decide) ?_
        exact hret H locs ls 52 _ _ dX10_item_52 (congrArg Prod.fst (Option.some.inj hF)) (congrArg (fun z : Int32 × Int32 => (iX10_item aZ cI cZ z.2 Z_told Z_layers Z_sizes Z_items)) (Option.some.inj hF)) hP hD hS
      · replace hF := q_f hc hF
        refine lv_aload_n hx hb dX10_item_42 rfl (lv_at hl 0 rfl) ?_
        refine lv_iload_n hx hb dX10_item_43 rfl (lv_at hl 1 rfl) ?_
        refine lv_iload_n hx hb dX10_item_44 rfl (lv_at hl 2 rfl) ?_
        obtain ⟨q4, hcq4, hF⟩ := q_bd hF
        refine q_Vi (As := [.int p0, .int p1]) (rest := []) ⟨hx, hb, hml, hown, hts⟩ hA hK hP hD hS (tX10_item0 l dC dI cI cZ aZ H.size 0 Z_told Z_layers Z_items p0 p1 q4 hcq4) (cwV 2 hts gX10_item_X10_item0 rfl rfl rfl uX10_item0 ⟨Nat.le_of_ble_eq_true rfl, Nat.le_of_ble_eq_true rfl⟩) [0, 2] [(true, 0), (false, 1), (true, 1)] (iX10_item aZ cI cZ 0 Z_told Z_layers Z_sizes Z_items) rfl rfl rfl rfl rfl 10 0 rfl rfl rfl rfl hl.1 rfl (Nat.le_of_ble_eq_true rfl) dX10_item_45 ⟨Nat.zero_le _, Nat.zero_le _⟩ (fun H locs hP hD hS => ?_)
        refine lv_goto (tgt := 52) hx hb dX10_item_48 (by decide) ?_
        exact hret H locs ls 52 _ _ dX10_item_52 (congrArg Prod.fst (Option.some.inj hF)) (congrArg (fun z : Int32 × Int32 => (iX10_item aZ cI cZ z.2 Z_told Z_layers Z_sizes Z_items)) (Option.some.inj hF)) hP hD hS
abbrev rX10_oldPlaceOf : Room := { frames := 0, cells := 0, slots := 0, locals := 0 }
theorem eX10_oldPlaceOf_X10 : ∀ w ∈ u_ws RX10 TX10 24, w ∈ wsX10_oldPlaceOf := by decide +kernel
theorem uX10_oldPlaceOf : yX10_oldPlaceOf.cls = RX10 ∧ yX10_oldPlaceOf.cls ≠ "java/lang/invoke/MethodHandle" ∧ yX10_oldPlaceOf.cls ≠ "java/lang/invoke/VarHandle" ∧ (parseMethodDescriptor yX10_oldPlaceOf.desc).map (fun d => d.parameters.length) = some 2 := by decide +kernel
set_option maxHeartbeats 4000000 in
set_option maxRecDepth 100000 in
theorem tX10_oldPlaceOf (l : Launch) (dC : Nat → ClassId) (dI : Nat → Nat → Nat) (cI cZ : ClassId) (aZ : Nat → Nat) (sz : Nat) (Z_code : Int32) (Z_told : Int32) (Z_layers : Int32) (Z_oldLayer : Nat → Int32) (Z_oldPlace : Nat → Int32) (Z_oldDummy : Nat → Int32) (p0 : Int32) (p1 : Int32) (res : Int32) (hF : fX10_oldPlaceOf Z_oldLayer Z_oldPlace Z_oldDummy p0 p1 = some res) : q_Mi l yX10_oldPlaceOf wsX10_oldPlaceOf rX10_oldPlaceOf (dC, dI) (q_ty cI cZ) [.ref (aZ 0), .int p0, .int p1] (iX10_oldPlaceOf aZ cI cZ Z_code Z_told Z_layers Z_oldLayer Z_oldPlace Z_oldDummy) (iX10_oldPlaceOf aZ cI cZ Z_code Z_told Z_layers Z_oldLayer Z_oldPlace Z_oldDummy) sz res := by
  refine q_meti (cc := cX10_oldPlaceOf) (maxL := 3) (by decide) rfl (Nat.le_of_ble_eq_true rfl) ?_
  intro p e s m args below meth c Q A H locs ls C hP hD hS hl hret
  obtain ⟨hx, hb, hml, hown, hts, hA, hK⟩ := C
  replace hl : lv_has ls 3 [(0, .ref (aZ 0)), (1, .int p0), (2, .int p1)] := hl
  have k0 := hts (.fieldLink RX10 50 "RouteLayoutModel" "oldLayer" "[I") (by decide +kernel)
  have k1 := hts (.fieldLink RX10 53 "RouteLayoutModel" "oldPlace" "[I") (by decide +kernel)
  have k2 := hts (.fieldLink RX10 56 "RouteLayoutModel" "oldDummy" "[I") (by decide +kernel)
  unfold fX10_oldPlaceOf at hF
  refine lv_iload_n hx hb dX10_oldPlaceOf_0 rfl (lv_at hl 1 rfl) ?_
  refine lv_bipush (v := 100) hx hb dX10_oldPlaceOf_1 (by decide) ?_
  refine lv_icmp_lt (tgt := 21) hx hb dX10_oldPlaceOf_3 (by decide) (fun hc => ?_) (fun hc => ?_)
  · replace hF := q_t hc hF
    refine lv_aload_n hx hb dX10_oldPlaceOf_21 rfl (lv_at hl 0 rfl) ?_
    refine q_get (ci := 10) (C := RX10) (T := TX10) (N := 24) hx hb hts eX10_oldPlaceOf_X10 hown hK hP 0 rfl rfl 16 (Nat.le_of_ble_eq_true rfl) k0 rfl rfl dX10_oldPlaceOf_22 ?_
    refine lv_iload_n hx hb dX10_oldPlaceOf_25 rfl (lv_at hl 1 rfl) ?_
    obtain ⟨hn1, hF⟩ := q_ck hF
    refine va_iald hx hb hK hP 1 0 rfl rfl hn1 dX10_oldPlaceOf_26 ?_
    refine lv_iload_n hx hb dX10_oldPlaceOf_27 rfl (lv_at hl 2 rfl) ?_
    refine lv_icmp_ne (tgt := 40) hx hb dX10_oldPlaceOf_28 (by decide) (fun hc => ?_) (fun hc => ?_)
    · replace hF := q_f hc hF
      refine lv_iconst (v := (-1)) hx hb dX10_oldPlaceOf_40 (by decide) ?_
      exact hret H locs ls 41 _ _ dX10_oldPlaceOf_41 (Option.some.inj hF) rfl hP hD hS
    · replace hF := q_t hc hF
      refine lv_aload_n hx hb dX10_oldPlaceOf_31 rfl (lv_at hl 0 rfl) ?_
      refine q_get (ci := 10) (C := RX10) (T := TX10) (N := 24) hx hb hts eX10_oldPlaceOf_X10 hown hK hP 0 rfl rfl 17 (Nat.le_of_ble_eq_true rfl) k1 rfl rfl dX10_oldPlaceOf_32 ?_
      refine lv_iload_n hx hb dX10_oldPlaceOf_35 rfl (lv_at hl 1 rfl) ?_
      obtain ⟨hn2, hF⟩ := q_ck hF
      refine va_iald hx hb hK hP 2 0 rfl rfl hn2 dX10_oldPlaceOf_36 ?_
      refine lv_goto (tgt := 41) hx hb dX10_oldPlaceOf_37 (by decide) ?_
      exact hret H locs ls 41 _ _ dX10_oldPlaceOf_41 (Option.some.inj hF) rfl hP hD hS
  · replace hF := q_f hc hF
    refine lv_aload_n hx hb dX10_oldPlaceOf_6 rfl (lv_at hl 0 rfl) ?_
    refine q_get (ci := 10) (C := RX10) (T := TX10) (N := 24) hx hb hts eX10_oldPlaceOf_X10 hown hK hP 0 rfl rfl 18 (Nat.le_of_ble_eq_true rfl) k2 rfl rfl dX10_oldPlaceOf_7 ?_
    refine lv_bipush (v := 24) hx hb dX10_oldPlaceOf_10 (by decide) ?_
    refine lv_iload_n hx hb dX10_oldPlaceOf_12 rfl (lv_at hl 1 rfl) ?_
    refine lv_bipush (v := 100) hx hb dX10_oldPlaceOf_13 (by decide) ?_
    refine lv_isub hx hb dX10_oldPlaceOf_15 ?_
    refine lv_imul hx hb dX10_oldPlaceOf_16 ?_
    refine lv_iload_n hx hb dX10_oldPlaceOf_17 rfl (lv_at hl 2 rfl) ?_
    refine lv_iadd hx hb dX10_oldPlaceOf_18 ?_
    obtain ⟨hn3, hF⟩ := q_ck hF
    refine va_iald hx hb hK hP 3 0 rfl rfl hn3 dX10_oldPlaceOf_19 ?_
    exact hret H locs ls 20 _ _ dX10_oldPlaceOf_20 (Option.some.inj hF) rfl hP hD hS
abbrev rX10_oldOrders : Room := { frames := 3, cells := 0, slots := 0, locals := 67 }
theorem eX10_oldOrders_X10 : ∀ w ∈ u_ws RX10 TX10 24, w ∈ wsX10_oldOrders := by decide +kernel
theorem uX10_oldOrders : yX10_oldOrders.cls = RX10 ∧ yX10_oldOrders.cls ≠ "java/lang/invoke/MethodHandle" ∧ yX10_oldOrders.cls ≠ "java/lang/invoke/VarHandle" ∧ (parseMethodDescriptor yX10_oldOrders.desc).map (fun d => d.parameters.length) = some 0 := by decide +kernel
set_option maxHeartbeats 4000000 in
set_option maxRecDepth 100000 in
theorem tX10_oldOrders (l : Launch) (dC : Nat → ClassId) (dI : Nat → Nat → Nat) (cI cZ : ClassId) (aZ : Nat → Nat) (sz : Nat) (Z_code : Int32) (Z_isBox : Nat → Int32) (Z_isArrow : Nat → Int32) (Z_from : Nat → Int32) (Z_to : Nat → Int32) (Z_turned : Nat → Int32) (Z_told : Int32) (Z_layers : Int32) (Z_layer : Nat → Int32) (Z_sizes : Nat → Int32) (Z_items : Nat → Int32) (Z_place : Nat → Int32) (Z_dummyPlace : Nat → Int32) (Z_oldLayer : Nat → Int32) (Z_oldPlace : Nat → Int32) (Z_oldDummy : Nat → Int32) (Z_row : Nat → Int32) (res : (Nat → Int32) × (Nat → Int32) × (Nat → Int32) × (Nat → Int32) × (Nat → Int32)) (hF : fX10_oldOrders Z_isBox Z_isArrow Z_from Z_to Z_turned Z_layers Z_layer Z_sizes Z_items Z_place Z_dummyPlace Z_oldLayer Z_oldPlace Z_oldDummy Z_row = some res) : q_Mv l yX10_oldOrders wsX10_oldOrders rX10_oldOrders (dC, dI) (q_ty cI cZ) [.ref (aZ 0)] (iX10_oldOrders aZ cI cZ Z_code Z_isBox Z_isArrow Z_from Z_to Z_turned Z_told Z_layers Z_layer Z_sizes Z_items Z_place Z_dummyPlace Z_oldLayer Z_oldPlace Z_oldDummy Z_row) (iX10_oldOrders aZ cI cZ Z_code Z_isBox Z_isArrow Z_from Z_to Z_turned Z_told Z_layers Z_layer res.1 res.2.1 res.2.2.1 res.2.2.2.1 Z_oldLayer Z_oldPlace Z_oldDummy res.2.2.2.2) sz := by
  refine q_metv (cc := cX10_oldOrders) (maxL := 5) (by decide) rfl (Nat.le_of_ble_eq_true rfl) ?_
  intro p e s m args below meth c Q A H locs ls C hP hD hS hl hret
  obtain ⟨hx, hb, hml, hown, hts, hA, hK⟩ := C
  replace hl : lv_has ls 5 [(0, .ref (aZ 0))] := hl
  have k0 := hts (.fieldLink RX10 103 "RouteLayoutModel" "layers" "I") (by decide +kernel)
  have k1 := hts (.fieldLink RX10 35 "RouteLayoutModel" "sizes" "[I") (by decide +kernel)
  have k2 := hts (.fieldLink RX10 62 "RouteLayoutModel" "row" "[I") (by decide +kernel)
  have k3 := hts (.fieldLink RX10 38 "RouteLayoutModel" "items" "[I") (by decide +kernel)
  unfold fX10_oldOrders at hF
  refine lv_aload_n hx hb dX10_oldOrders_0 rfl (lv_at hl 0 rfl) ?_
  obtain ⟨q1_0, q1_1, q1_2, q1_3, hcq1, hF⟩ := q_bd4 hF
  refine q_Vv (As := []) (rest := []) ⟨hx, hb, hml, hown, hts⟩ hA hK hP hD hS (tX10_firstOrders l dC dI cI cZ aZ H.size Z_code Z_isBox Z_isArrow Z_from Z_to Z_turned Z_told Z_layers Z_layer Z_sizes Z_items Z_place Z_dummyPlace (q1_0, q1_1, q1_2, q1_3) hcq1) (cwV 0 hts gX10_oldOrders_X10_firstOrders rfl rfl rfl uX10_firstOrders ⟨Nat.le_of_ble_eq_true rfl, Nat.le_of_ble_eq_true rfl⟩) [0, 1, 2, 3, 4, 5, 6, 7, 8, 9, 10] [(true, 0), (true, 1), (true, 2), (true, 3), (true, 4), (true, 5), (true, 6), (true, 7), (true, 8), (true, 9), (true, 10), (false, 11), (false, 12), (false, 13), (false, 14)] (iX10_oldOrders aZ cI cZ Z_code Z_isBox Z_isArrow Z_from Z_to Z_turned Z_told Z_layers Z_layer q1_0 q1_1 q1_2 q1_3 Z_oldLayer Z_oldPlace Z_oldDummy Z_row) rfl rfl rfl rfl rfl 10 0 rfl rfl rfl rfl hl.1 rfl (Nat.le_of_ble_eq_true rfl) dX10_oldOrders_1 ⟨Nat.zero_le _, Nat.zero_le _⟩ (fun H locs hP hD hS => ?_)
  refine lv_iconst (v := 0) hx hb dX10_oldOrders_4 (by decide) ?_
  refine lv_istore_n (lv' := [(1, .int 0), (0, .ref (aZ 0))]) hx hb dX10_oldOrders_5 rfl hl (by decide) rfl (fun ls hl => ?_)
  obtain ⟨q2_0, q2_1, q2_2, q2_3, hc2, hF⟩ := q_bd4 hF
  have X2 : ∀ (u2_0 : Nat → Int32) (u2_1 : Nat → Int32) (u2_2 : Nat → Int32) (u2_3 : Nat → Int32), (u2_0, u2_1, u2_2, u2_3) = (q2_0, q2_1, q2_2, q2_3) → ∀ (H : Heap) (locs : List Loc) (ls : Array Slot), va_P (dC, dI) vwCl (iX10_oldOrders aZ cI cZ Z_code Z_isBox Z_isArrow Z_from Z_to Z_turned Z_told Z_layers Z_layer q1_0 u2_0 u2_1 u2_2 Z_oldLayer Z_oldPlace Z_oldDummy u2_3) H → va_D A (iX10_oldOrders aZ cI cZ Z_code Z_isBox Z_isArrow Z_from Z_to Z_turned Z_told Z_layers Z_layer q1_0 u2_0 u2_1 u2_2 Z_oldLayer Z_oldPlace Z_oldDummy u2_3) → va_S A s.heap H locs → lv_has ls 5 [] → W p l e (headSpec wsX10_oldOrders (rX10_oldOrders)).room s m args below meth c H locs 0 0 Q (F0 m 176 ls []) := by
    intro u2_0 u2_1 u2_2 u2_3 hu H locs ls hP hD hS hl
    obtain ⟨e0, e1, e2, e3⟩ := q_inj4 hu
    subst e0 e1 e2 e3
    exact hret H locs ls 176 _ dX10_oldOrders_176 (congrArg (fun z : (Nat → Int32) × (Nat → Int32) × (Nat → Int32) × (Nat → Int32) × (Nat → Int32) => (iX10_oldOrders aZ cI cZ Z_code Z_isBox Z_isArrow Z_from Z_to Z_turned Z_told Z_layers Z_layer z.1 z.2.1 z.2.2.1 z.2.2.2.1 Z_oldLayer Z_oldPlace Z_oldDummy z.2.2.2.2)) (Option.some.inj hF)) hP hD hS
  have L2 : ∀ st : Int32 × (Nat → Int32) × (Nat → Int32) × (Nat → Int32) × (Nat → Int32), q_lo (fun (st : Int32 × (Nat → Int32) × (Nat → Int32) × (Nat → Int32) × (Nat → Int32)) => bX10_oldOrders_6 Z_layers q1_0 Z_oldLayer Z_oldPlace Z_oldDummy st.1 st.2.1 st.2.2.1 st.2.2.2.1 st.2.2.2.2) st = some (q2_0, q2_1, q2_2, q2_3) → ∀ (H : Heap) (locs : List Loc) (ls : Array Slot), va_P (dC, dI) vwCl (iX10_oldOrders aZ cI cZ Z_code Z_isBox Z_isArrow Z_from Z_to Z_turned Z_told Z_layers Z_layer q1_0 st.2.1 st.2.2.1 st.2.2.2.1 Z_oldLayer Z_oldPlace Z_oldDummy st.2.2.2.2) H → va_D A (iX10_oldOrders aZ cI cZ Z_code Z_isBox Z_isArrow Z_from Z_to Z_turned Z_told Z_layers Z_layer q1_0 st.2.1 st.2.2.1 st.2.2.2.1 Z_oldLayer Z_oldPlace Z_oldDummy st.2.2.2.2) → va_S A s.heap H locs → lv_has ls 5 [(0, .ref (aZ 0)), (1, .int st.1)] → W p l e (headSpec wsX10_oldOrders (rX10_oldOrders)).room s m args below meth c H locs 0 0 Q (F0 m 6 ls []) := by
    intro st hst
    refine q_walk (Wh := fun st : Int32 × (Nat → Int32) × (Nat → Int32) × (Nat → Int32) × (Nat → Int32) => ∀ (H : Heap) (locs : List Loc) (ls : Array Slot), va_P (dC, dI) vwCl (iX10_oldOrders aZ cI cZ Z_code Z_isBox Z_isArrow Z_from Z_to Z_turned Z_told Z_layers Z_layer q1_0 st.2.1 st.2.2.1 st.2.2.2.1 Z_oldLayer Z_oldPlace Z_oldDummy st.2.2.2.2) H → va_D A (iX10_oldOrders aZ cI cZ Z_code Z_isBox Z_isArrow Z_from Z_to Z_turned Z_told Z_layers Z_layer q1_0 st.2.1 st.2.2.1 st.2.2.2.1 Z_oldLayer Z_oldPlace Z_oldDummy st.2.2.2.2) → va_S A s.heap H locs → lv_has ls 5 [(0, .ref (aZ 0)), (1, .int st.1)] → W p l e (headSpec wsX10_oldOrders (rX10_oldOrders)).room s m args below meth c H locs 0 0 Q (F0 m 6 ls [])) ?_ st hst
    clear hst st hF
    intro st o hF hin hex H locs ls hP hD hS hl
    obtain ⟨x1_2, Z_items_2, Z_place_2, Z_dummyPlace_2, Z_row_2⟩ := st
    replace hF : bX10_oldOrders_6 Z_layers q1_0 Z_oldLayer Z_oldPlace Z_oldDummy x1_2 Z_items_2 Z_place_2 Z_dummyPlace_2 Z_row_2 = some o := hF
    replace hP : va_P (dC, dI) vwCl (iX10_oldOrders aZ cI cZ Z_code Z_isBox Z_isArrow Z_from Z_to Z_turned Z_told Z_layers Z_layer q1_0 Z_items_2 Z_place_2 Z_dummyPlace_2 Z_oldLayer Z_oldPlace Z_oldDummy Z_row_2) H := hP
    replace hD : va_D A (iX10_oldOrders aZ cI cZ Z_code Z_isBox Z_isArrow Z_from Z_to Z_turned Z_told Z_layers Z_layer q1_0 Z_items_2 Z_place_2 Z_dummyPlace_2 Z_oldLayer Z_oldPlace Z_oldDummy Z_row_2) := hD
    replace hl : lv_has ls 5 [(0, .ref (aZ 0)), (1, .int x1_2)] := hl
    unfold bX10_oldOrders_6 at hF
    refine lv_iload_n hx hb dX10_oldOrders_6 rfl (lv_at hl 1 rfl) ?_
    refine lv_aload_n hx hb dX10_oldOrders_7 rfl (lv_at hl 0 rfl) ?_
    refine q_get (ci := 10) (C := RX10) (T := TX10) (N := 24) hx hb hts eX10_oldOrders_X10 hown hK hP 0 rfl rfl 9 (Nat.le_of_ble_eq_true rfl) k0 rfl rfl dX10_oldOrders_8 ?_
    refine lv_icmp_ge (tgt := 176) hx hb dX10_oldOrders_11 (by decide) (fun hc => ?_) (fun hc => ?_)
    · replace hF := q_t hc hF
      exact X2 _ _ _ _ (hex _ (Option.some.inj hF).symm) H locs ls hP hD hS (lv_sub hl [] rfl)
    · replace hF := q_f hc hF
      refine lv_iconst (v := 0) hx hb dX10_oldOrders_14 (by decide) ?_
      refine lv_istore_n (lv' := [(2, .int 0), (0, .ref (aZ 0)), (1, .int x1_2)]) hx hb dX10_oldOrders_15 rfl hl (by decide) rfl (fun ls hl => ?_)
      refine lv_iconst (v := 0) hx hb dX10_oldOrders_16 (by decide) ?_
      refine lv_istore_n (lv' := [(3, .int 0), (2, .int 0), (0, .ref (aZ 0)), (1, .int x1_2)]) hx hb dX10_oldOrders_17 rfl hl (by decide) rfl (fun ls hl => ?_)
      obtain ⟨q3_0, q3_1, hc3, hF⟩ := q_bd2 hF
      have X3 : ∀ (u3_0 : Int32) (u3_1 : Nat → Int32), (u3_0, u3_1) = (q3_0, q3_1) → ∀ (H : Heap) (locs : List Loc) (ls : Array Slot), va_P (dC, dI) vwCl (iX10_oldOrders aZ cI cZ Z_code Z_isBox Z_isArrow Z_from Z_to Z_turned Z_told Z_layers Z_layer q1_0 Z_items_2 Z_place_2 Z_dummyPlace_2 Z_oldLayer Z_oldPlace Z_oldDummy u3_1) H → va_D A (iX10_oldOrders aZ cI cZ Z_code Z_isBox Z_isArrow Z_from Z_to Z_turned Z_told Z_layers Z_layer q1_0 Z_items_2 Z_place_2 Z_dummyPlace_2 Z_oldLayer Z_oldPlace Z_oldDummy u3_1) → va_S A s.heap H locs → lv_has ls 5 [(0, .ref (aZ 0)), (1, .int x1_2), (2, .int u3_0)] → W p l e (headSpec wsX10_oldOrders (rX10_oldOrders)).room s m args below meth c H locs 0 0 Q (F0 m 85 ls []) := by
        intro u3_0 u3_1 hu H locs ls hP hD hS hl
        obtain ⟨e0, e1⟩ := q_inj2 hu
        subst e0 e1
        refine lv_iconst (v := 0) hx hb dX10_oldOrders_85 (by decide) ?_
        refine lv_istore_n (lv' := [(3, .int 0), (0, .ref (aZ 0)), (1, .int x1_2), (2, .int u3_0)]) hx hb dX10_oldOrders_86 rfl hl (by decide) rfl (fun ls hl => ?_)
        obtain ⟨q11_0, q11_1, hc11, hF⟩ := q_bd2 hF
        have X11 : ∀ (u11_0 : Int32) (u11_1 : Nat → Int32), (u11_0, u11_1) = (q11_0, q11_1) → ∀ (H : Heap) (locs : List Loc) (ls : Array Slot), va_P (dC, dI) vwCl (iX10_oldOrders aZ cI cZ Z_code Z_isBox Z_isArrow Z_from Z_to Z_turned Z_told Z_layers Z_layer q1_0 Z_items_2 Z_place_2 Z_dummyPlace_2 Z_oldLayer Z_oldPlace Z_oldDummy u11_1) H → va_D A (iX10_oldOrders aZ cI cZ Z_code Z_isBox Z_isArrow Z_from Z_to Z_turned Z_told Z_layers Z_layer q1_0 Z_items_2 Z_place_2 Z_dummyPlace_2 Z_oldLayer Z_oldPlace Z_oldDummy u11_1) → va_S A s.heap H locs → lv_has ls 5 [(0, .ref (aZ 0)), (1, .int x1_2), (2, .int u11_0)] → W p l e (headSpec wsX10_oldOrders (rX10_oldOrders)).room s m args below meth c H locs 0 0 Q (F0 m 135 ls []) := by
          intro u11_0 u11_1 hu H locs ls hP hD hS hl
          obtain ⟨e0, e1⟩ := q_inj2 hu
          subst e0 e1
          refine lv_iconst (v := 0) hx hb dX10_oldOrders_135 (by decide) ?_
          refine lv_istore_n (lv' := [(3, .int 0), (0, .ref (aZ 0)), (1, .int x1_2), (2, .int u11_0)]) hx hb dX10_oldOrders_136 rfl hl (by decide) rfl (fun ls hl => ?_)
          obtain ⟨q18, hc18, hF⟩ := q_bd hF
          have X18 : ∀ (u18 : Nat → Int32), u18 = q18 → ∀ (H : Heap) (locs : List Loc) (ls : Array Slot), va_P (dC, dI) vwCl (iX10_oldOrders aZ cI cZ Z_code Z_isBox Z_isArrow Z_from Z_to Z_turned Z_told Z_layers Z_layer q1_0 u18 Z_place_2 Z_dummyPlace_2 Z_oldLayer Z_oldPlace Z_oldDummy u11_1) H → va_D A (iX10_oldOrders aZ cI cZ Z_code Z_isBox Z_isArrow Z_from Z_to Z_turned Z_told Z_layers Z_layer q1_0 u18 Z_place_2 Z_dummyPlace_2 Z_oldLayer Z_oldPlace Z_oldDummy u11_1) → va_S A s.heap H locs → lv_has ls 5 [(0, .ref (aZ 0)), (1, .int x1_2)] → W p l e (headSpec wsX10_oldOrders (rX10_oldOrders)).room s m args below meth c H locs 0 0 Q (F0 m 165 ls []) := by
            intro u18 hu H locs ls hP hD hS hl
            subst hu
            refine lv_aload_n hx hb dX10_oldOrders_165 rfl (lv_at hl 0 rfl) ?_
            refine lv_iload_n hx hb dX10_oldOrders_166 rfl (lv_at hl 1 rfl) ?_
            obtain ⟨q21_0, q21_1, hcq21, hF⟩ := q_bd2 hF
            refine q_Vv (As := [.int x1_2]) (rest := []) ⟨hx, hb, hml, hown, hts⟩ hA hK hP hD hS (tX10_note l dC dI cI cZ aZ H.size Z_code Z_told Z_layers q1_0 u18 Z_place_2 Z_dummyPlace_2 x1_2 (q21_0, q21_1) hcq21) (cwV 1 hts gX10_oldOrders_X10_note rfl rfl rfl uX10_note ⟨Nat.le_of_ble_eq_true rfl, Nat.le_of_ble_eq_true rfl⟩) [0, 7, 8, 9, 10] [(true, 0), (false, 1), (false, 2), (false, 3), (false, 4), (false, 5), (false, 6), (true, 1), (true, 2), (true, 3), (true, 4), (false, 11), (false, 12), (false, 13), (false, 14)] (iX10_oldOrders aZ cI cZ Z_code Z_isBox Z_isArrow Z_from Z_to Z_turned Z_told Z_layers Z_layer q1_0 u18 q21_0 q21_1 Z_oldLayer Z_oldPlace Z_oldDummy u11_1) rfl rfl rfl rfl rfl 10 0 rfl rfl rfl rfl hl.1 rfl (Nat.le_of_ble_eq_true rfl) dX10_oldOrders_167 ⟨Nat.zero_le _, Nat.zero_le _⟩ (fun H locs hP hD hS => ?_)
            refine lv_iinc (v := (x1_2 + 1)) (lv' := [(1, .int (x1_2 + 1)), (0, .ref (aZ 0))]) hx hb dX10_oldOrders_170 hl (k := 1) rfl rfl (by decide) rfl (fun ls hl => ?_)
            refine lv_goto (tgt := 6) hx hb dX10_oldOrders_173 (by decide) ?_
            exact hin _ (Option.some.inj hF).symm H locs ls hP hD hS (lv_sub hl [1, 0] rfl)
          have L18 : ∀ st : Int32 × (Nat → Int32), q_lo (fun (st : Int32 × (Nat → Int32)) => bX10_oldOrders_137 u11_1 x1_2 u11_0 st.1 st.2) st = some q18 → ∀ (H : Heap) (locs : List Loc) (ls : Array Slot), va_P (dC, dI) vwCl (iX10_oldOrders aZ cI cZ Z_code Z_isBox Z_isArrow Z_from Z_to Z_turned Z_told Z_layers Z_layer q1_0 st.2 Z_place_2 Z_dummyPlace_2 Z_oldLayer Z_oldPlace Z_oldDummy u11_1) H → va_D A (iX10_oldOrders aZ cI cZ Z_code Z_isBox Z_isArrow Z_from Z_to Z_turned Z_told Z_layers Z_layer q1_0 st.2 Z_place_2 Z_dummyPlace_2 Z_oldLayer Z_oldPlace Z_oldDummy u11_1) → va_S A s.heap H locs → lv_has ls 5 [(0, .ref (aZ 0)), (1, .int x1_2), (2, .int u11_0), (3, .int st.1)] → W p l e (headSpec wsX10_oldOrders (rX10_oldOrders)).room s m args below meth c H locs 0 0 Q (F0 m 137 ls []) := by
            intro st hst
            refine q_walk (Wh := fun st : Int32 × (Nat → Int32) => ∀ (H : Heap) (locs : List Loc) (ls : Array Slot), va_P (dC, dI) vwCl (iX10_oldOrders aZ cI cZ Z_code Z_isBox Z_isArrow Z_from Z_to Z_turned Z_told Z_layers Z_layer q1_0 st.2 Z_place_2 Z_dummyPlace_2 Z_oldLayer Z_oldPlace Z_oldDummy u11_1) H → va_D A (iX10_oldOrders aZ cI cZ Z_code Z_isBox Z_isArrow Z_from Z_to Z_turned Z_told Z_layers Z_layer q1_0 st.2 Z_place_2 Z_dummyPlace_2 Z_oldLayer Z_oldPlace Z_oldDummy u11_1) → va_S A s.heap H locs → lv_has ls 5 [(0, .ref (aZ 0)), (1, .int x1_2), (2, .int u11_0), (3, .int st.1)] → W p l e (headSpec wsX10_oldOrders (rX10_oldOrders)).room s m args below meth c H locs 0 0 Q (F0 m 137 ls [])) ?_ st hst
            clear hst st hF
            intro st o hF hin hex H locs ls hP hD hS hl
            obtain ⟨x3_18, Z_items_18⟩ := st
            replace hF : bX10_oldOrders_137 u11_1 x1_2 u11_0 x3_18 Z_items_18 = some o := hF
            replace hP : va_P (dC, dI) vwCl (iX10_oldOrders aZ cI cZ Z_code Z_isBox Z_isArrow Z_from Z_to Z_turned Z_told Z_layers Z_layer q1_0 Z_items_18 Z_place_2 Z_dummyPlace_2 Z_oldLayer Z_oldPlace Z_oldDummy u11_1) H := hP
            replace hD : va_D A (iX10_oldOrders aZ cI cZ Z_code Z_isBox Z_isArrow Z_from Z_to Z_turned Z_told Z_layers Z_layer q1_0 Z_items_18 Z_place_2 Z_dummyPlace_2 Z_oldLayer Z_oldPlace Z_oldDummy u11_1) := hD
            replace hl : lv_has ls 5 [(0, .ref (aZ 0)), (1, .int x1_2), (2, .int u11_0), (3, .int x3_18)] := hl
            unfold bX10_oldOrders_137 at hF
            refine lv_iload_n hx hb dX10_oldOrders_137 rfl (lv_at hl 3 rfl) ?_
            refine lv_iload_n hx hb dX10_oldOrders_138 rfl (lv_at hl 2 rfl) ?_
            refine lv_icmp_ge (tgt := 165) hx hb dX10_oldOrders_139 (by decide) (fun hc => ?_) (fun hc => ?_)
            · replace hF := q_t hc hF
              exact X18 _ (hex _ (Option.some.inj hF).symm) H locs ls hP hD hS (lv_sub hl [0, 1] rfl)
            · replace hF := q_f hc hF
              refine lv_aload_n hx hb dX10_oldOrders_142 rfl (lv_at hl 0 rfl) ?_
              refine q_get (ci := 10) (C := RX10) (T := TX10) (N := 24) hx hb hts eX10_oldOrders_X10 hown hK hP 0 rfl rfl 12 (Nat.le_of_ble_eq_true rfl) k3 rfl rfl dX10_oldOrders_143 ?_
              refine lv_bipush (v := 40) hx hb dX10_oldOrders_146 (by decide) ?_
              refine lv_iload_n hx hb dX10_oldOrders_148 rfl (lv_at hl 1 rfl) ?_
              refine lv_imul hx hb dX10_oldOrders_149 ?_
              refine lv_iload_n hx hb dX10_oldOrders_150 rfl (lv_at hl 3 rfl) ?_
              refine lv_iadd hx hb dX10_oldOrders_151 ?_
              refine lv_aload_n hx hb dX10_oldOrders_152 rfl (lv_at hl 0 rfl) ?_
              refine q_get (ci := 10) (C := RX10) (T := TX10) (N := 24) hx hb hts eX10_oldOrders_X10 hown hK hP 0 rfl rfl 20 (Nat.le_of_ble_eq_true rfl) k2 rfl rfl dX10_oldOrders_153 ?_
              refine lv_iload_n hx hb dX10_oldOrders_156 rfl (lv_at hl 3 rfl) ?_
              obtain ⟨hn19, hF⟩ := q_ck hF
              refine va_iald hx hb hK hP 14 0 rfl rfl hn19 dX10_oldOrders_157 ?_
              obtain ⟨hn20, hF⟩ := q_ck hF
              refine q_iast hx hb hK hP hD hS 8 0 (iX10_oldOrders aZ cI cZ Z_code Z_isBox Z_isArrow Z_from Z_to Z_turned Z_told Z_layers Z_layer q1_0 (upd Z_items_18 ((40 * x1_2) + x3_18).toNatClampNeg (u11_1 x3_18.toNatClampNeg)) Z_place_2 Z_dummyPlace_2 Z_oldLayer Z_oldPlace Z_oldDummy u11_1) rfl rfl hn20 rfl dX10_oldOrders_158 (fun H locs hP hD hS => ?_)
              refine lv_iinc (v := (x3_18 + 1)) (lv' := [(3, .int (x3_18 + 1)), (0, .ref (aZ 0)), (1, .int x1_2), (2, .int u11_0)]) hx hb dX10_oldOrders_159 hl (k := 3) rfl rfl (by decide) rfl (fun ls hl => ?_)
              refine lv_goto (tgt := 137) hx hb dX10_oldOrders_162 (by decide) ?_
              exact hin _ (Option.some.inj hF).symm H locs ls hP hD hS (lv_sub hl [1, 2, 3, 0] rfl)
          exact L18 (0, Z_items_2) hc18 H locs ls hP hD hS (lv_sub hl [1, 2, 3, 0] rfl)
        have L11 : ∀ st : Int32 × Int32 × (Nat → Int32), q_lo (fun (st : Int32 × Int32 × (Nat → Int32)) => bX10_oldOrders_87 q1_0 Z_items_2 Z_oldLayer Z_oldPlace Z_oldDummy x1_2 st.1 st.2.1 st.2.2) st = some (q11_0, q11_1) → ∀ (H : Heap) (locs : List Loc) (ls : Array Slot), va_P (dC, dI) vwCl (iX10_oldOrders aZ cI cZ Z_code Z_isBox Z_isArrow Z_from Z_to Z_turned Z_told Z_layers Z_layer q1_0 Z_items_2 Z_place_2 Z_dummyPlace_2 Z_oldLayer Z_oldPlace Z_oldDummy st.2.2) H → va_D A (iX10_oldOrders aZ cI cZ Z_code Z_isBox Z_isArrow Z_from Z_to Z_turned Z_told Z_layers Z_layer q1_0 Z_items_2 Z_place_2 Z_dummyPlace_2 Z_oldLayer Z_oldPlace Z_oldDummy st.2.2) → va_S A s.heap H locs → lv_has ls 5 [(0, .ref (aZ 0)), (1, .int x1_2), (2, .int st.1), (3, .int st.2.1)] → W p l e (headSpec wsX10_oldOrders (rX10_oldOrders)).room s m args below meth c H locs 0 0 Q (F0 m 87 ls []) := by
          intro st hst
          refine q_walk (Wh := fun st : Int32 × Int32 × (Nat → Int32) => ∀ (H : Heap) (locs : List Loc) (ls : Array Slot), va_P (dC, dI) vwCl (iX10_oldOrders aZ cI cZ Z_code Z_isBox Z_isArrow Z_from Z_to Z_turned Z_told Z_layers Z_layer q1_0 Z_items_2 Z_place_2 Z_dummyPlace_2 Z_oldLayer Z_oldPlace Z_oldDummy st.2.2) H → va_D A (iX10_oldOrders aZ cI cZ Z_code Z_isBox Z_isArrow Z_from Z_to Z_turned Z_told Z_layers Z_layer q1_0 Z_items_2 Z_place_2 Z_dummyPlace_2 Z_oldLayer Z_oldPlace Z_oldDummy st.2.2) → va_S A s.heap H locs → lv_has ls 5 [(0, .ref (aZ 0)), (1, .int x1_2), (2, .int st.1), (3, .int st.2.1)] → W p l e (headSpec wsX10_oldOrders (rX10_oldOrders)).room s m args below meth c H locs 0 0 Q (F0 m 87 ls [])) ?_ st hst
          clear hst st hF
          intro st o hF hin hex H locs ls hP hD hS hl
          obtain ⟨x2_11, x3_11, Z_row_11⟩ := st
          replace hF : bX10_oldOrders_87 q1_0 Z_items_2 Z_oldLayer Z_oldPlace Z_oldDummy x1_2 x2_11 x3_11 Z_row_11 = some o := hF
          replace hP : va_P (dC, dI) vwCl (iX10_oldOrders aZ cI cZ Z_code Z_isBox Z_isArrow Z_from Z_to Z_turned Z_told Z_layers Z_layer q1_0 Z_items_2 Z_place_2 Z_dummyPlace_2 Z_oldLayer Z_oldPlace Z_oldDummy Z_row_11) H := hP
          replace hD : va_D A (iX10_oldOrders aZ cI cZ Z_code Z_isBox Z_isArrow Z_from Z_to Z_turned Z_told Z_layers Z_layer q1_0 Z_items_2 Z_place_2 Z_dummyPlace_2 Z_oldLayer Z_oldPlace Z_oldDummy Z_row_11) := hD
          replace hl : lv_has ls 5 [(0, .ref (aZ 0)), (1, .int x1_2), (2, .int x2_11), (3, .int x3_11)] := hl
          unfold bX10_oldOrders_87 at hF
          have JX10_OLDORDERS_129 : ∀ (Z_row_12 : Nat → Int32) (x2_12 : Int32) (x3_12 : Int32), jX10_oldOrders_129 Z_row_12 x1_2 x2_12 x3_12 = some o → ∀ (H : Heap) (locs : List Loc) (ls : Array Slot), va_P (dC, dI) vwCl (iX10_oldOrders aZ cI cZ Z_code Z_isBox Z_isArrow Z_from Z_to Z_turned Z_told Z_layers Z_layer q1_0 Z_items_2 Z_place_2 Z_dummyPlace_2 Z_oldLayer Z_oldPlace Z_oldDummy Z_row_12) H → va_D A (iX10_oldOrders aZ cI cZ Z_code Z_isBox Z_isArrow Z_from Z_to Z_turned Z_told Z_layers Z_layer q1_0 Z_items_2 Z_place_2 Z_dummyPlace_2 Z_oldLayer Z_oldPlace Z_oldDummy Z_row_12) → va_S A s.heap H locs → lv_has ls 5 [(0, .ref (aZ 0)), (1, .int x1_2), (2, .int x2_12), (3, .int x3_12)] → W p l e (headSpec wsX10_oldOrders (rX10_oldOrders)).room s m args below meth c H locs 0 0 Q (F0 m 129 ls []) := by
            intro Z_row_12 x2_12 x3_12 hF H locs ls hP hD hS hl
            unfold jX10_oldOrders_129 at hF
            refine lv_iinc (v := (x3_12 + 1)) (lv' := [(3, .int (x3_12 + 1)), (0, .ref (aZ 0)), (1, .int x1_2), (2, .int x2_12)]) hx hb dX10_oldOrders_129 hl (k := 3) rfl rfl (by decide) rfl (fun ls hl => ?_)
            refine lv_goto (tgt := 87) hx hb dX10_oldOrders_132 (by decide) ?_
            exact hin _ (Option.some.inj hF).symm H locs ls hP hD hS (lv_sub hl [1, 2, 3, 0] rfl)
          refine lv_iload_n hx hb dX10_oldOrders_87 rfl (lv_at hl 3 rfl) ?_
          refine lv_aload_n hx hb dX10_oldOrders_88 rfl (lv_at hl 0 rfl) ?_
          refine q_get (ci := 10) (C := RX10) (T := TX10) (N := 24) hx hb hts eX10_oldOrders_X10 hown hK hP 0 rfl rfl 11 (Nat.le_of_ble_eq_true rfl) k1 rfl rfl dX10_oldOrders_89 ?_
          refine lv_iload_n hx hb dX10_oldOrders_92 rfl (lv_at hl 1 rfl) ?_
          obtain ⟨hn13, hF⟩ := q_ck hF
          refine va_iald hx hb hK hP 7 0 rfl rfl hn13 dX10_oldOrders_93 ?_
          refine lv_icmp_ge (tgt := 135) hx hb dX10_oldOrders_94 (by decide) (fun hc => ?_) (fun hc => ?_)
          · replace hF := q_t hc hF
            exact X11 _ _ (hex _ (Option.some.inj hF).symm) H locs ls hP hD hS (lv_sub hl [0, 1, 2] rfl)
          · replace hF := q_f hc hF
            refine lv_aload_n hx hb dX10_oldOrders_97 rfl (lv_at hl 0 rfl) ?_
            refine lv_aload_n hx hb dX10_oldOrders_98 rfl (lv_at hl 0 rfl) ?_
            refine lv_iload_n hx hb dX10_oldOrders_99 rfl (lv_at hl 1 rfl) ?_
            refine lv_iload_n hx hb dX10_oldOrders_100 rfl (lv_at hl 3 rfl) ?_
            obtain ⟨q14, hcq14, hF⟩ := q_bd hF
            refine q_Vi (As := [.int x1_2, .int x3_11]) (rest := [.ref (aZ 0)]) ⟨hx, hb, hml, hown, hts⟩ hA hK hP hD hS (tX10_item0 l dC dI cI cZ aZ H.size Z_code Z_told Z_layers Z_items_2 x1_2 x3_11 q14 hcq14) (cwV 2 hts gX10_oldOrders_X10_item0 rfl rfl rfl uX10_item0 ⟨Nat.le_of_ble_eq_true rfl, Nat.le_of_ble_eq_true rfl⟩) [0, 8] [(true, 0), (false, 1), (false, 2), (false, 3), (false, 4), (false, 5), (false, 6), (false, 7), (true, 1), (false, 9), (false, 10), (false, 11), (false, 12), (false, 13), (false, 14)] (iX10_oldOrders aZ cI cZ Z_code Z_isBox Z_isArrow Z_from Z_to Z_turned Z_told Z_layers Z_layer q1_0 Z_items_2 Z_place_2 Z_dummyPlace_2 Z_oldLayer Z_oldPlace Z_oldDummy Z_row_11) rfl rfl rfl rfl rfl 10 0 rfl rfl rfl rfl hl.1 rfl (Nat.le_of_ble_eq_true rfl) dX10_oldOrders_101 ⟨Nat.zero_le _, Nat.zero_le _⟩ (fun H locs hP hD hS => ?_)
            refine lv_iload_n hx hb dX10_oldOrders_104 rfl (lv_at hl 1 rfl) ?_
            obtain ⟨q15, hcq15, hF⟩ := q_bd hF
            refine q_Vi (As := [.int q14, .int x1_2]) (rest := []) ⟨hx, hb, hml, hown, hts⟩ hA hK hP hD hS (tX10_oldPlaceOf l dC dI cI cZ aZ H.size Z_code Z_told Z_layers Z_oldLayer Z_oldPlace Z_oldDummy q14 x1_2 q15 hcq15) (cwV 2 hts gX10_oldOrders_X10_oldPlaceOf rfl rfl rfl uX10_oldPlaceOf ⟨Nat.le_of_ble_eq_true rfl, Nat.le_of_ble_eq_true rfl⟩) [0, 11, 12, 13] [(true, 0), (false, 1), (false, 2), (false, 3), (false, 4), (false, 5), (false, 6), (false, 7), (false, 8), (false, 9), (false, 10), (true, 1), (true, 2), (true, 3), (false, 14)] (iX10_oldOrders aZ cI cZ Z_code Z_isBox Z_isArrow Z_from Z_to Z_turned Z_told Z_layers Z_layer q1_0 Z_items_2 Z_place_2 Z_dummyPlace_2 Z_oldLayer Z_oldPlace Z_oldDummy Z_row_11) rfl rfl rfl rfl rfl 10 0 rfl rfl rfl rfl hl.1 rfl (Nat.le_of_ble_eq_true rfl) dX10_oldOrders_105 ⟨Nat.zero_le _, Nat.zero_le _⟩ (fun H locs hP hD hS => ?_)
            refine lv_if_lt (tgt := 114) hx hb dX10_oldOrders_108 (by decide) (fun hc => ?_) (fun hc => ?_)
            · replace hF := q_t hc hF
              refine lv_aload_n hx hb dX10_oldOrders_114 rfl (lv_at hl 0 rfl) ?_
              refine q_get (ci := 10) (C := RX10) (T := TX10) (N := 24) hx hb hts eX10_oldOrders_X10 hown hK hP 0 rfl rfl 20 (Nat.le_of_ble_eq_true rfl) k2 rfl rfl dX10_oldOrders_115 ?_
              refine lv_iload_n hx hb dX10_oldOrders_118 rfl (lv_at hl 2 rfl) ?_
              refine lv_aload_n hx hb dX10_oldOrders_119 rfl (lv_at hl 0 rfl) ?_
              refine lv_iload_n hx hb dX10_oldOrders_120 rfl (lv_at hl 1 rfl) ?_
              refine lv_iload_n hx hb dX10_oldOrders_121 rfl (lv_at hl 3 rfl) ?_
              obtain ⟨q16, hcq16, hF⟩ := q_bd hF
              refine q_Vi (As := [.int x1_2, .int x3_11]) (rest := [.int x2_11, .ref (aZ 18)]) ⟨hx, hb, hml, hown, hts⟩ hA hK hP hD hS (tX10_item0 l dC dI cI cZ aZ H.size Z_code Z_told Z_layers Z_items_2 x1_2 x3_11 q16 hcq16) (cwV 2 hts gX10_oldOrders_X10_item0 rfl rfl rfl uX10_item0 ⟨Nat.le_of_ble_eq_true rfl, Nat.le_of_ble_eq_true rfl⟩) [0, 8] [(true, 0), (false, 1), (false, 2), (false, 3), (false, 4), (false, 5), (false, 6), (false, 7), (true, 1), (false, 9), (false, 10), (false, 11), (false, 12), (false, 13), (false, 14)] (iX10_oldOrders aZ cI cZ Z_code Z_isBox Z_isArrow Z_from Z_to Z_turned Z_told Z_layers Z_layer q1_0 Z_items_2 Z_place_2 Z_dummyPlace_2 Z_oldLayer Z_oldPlace Z_oldDummy Z_row_11) rfl rfl rfl rfl rfl 10 0 rfl rfl rfl rfl hl.1 rfl (Nat.le_of_ble_eq_true rfl) dX10_oldOrders_122 ⟨Nat.zero_le _, Nat.zero_le _⟩ (fun H locs hP hD hS => ?_)
              obtain ⟨hn17, hF⟩ := q_ck hF
              refine q_iast hx hb hK hP hD hS 14 0 (iX10_oldOrders aZ cI cZ Z_code Z_isBox Z_isArrow Z_from Z_to Z_turned Z_told Z_layers Z_layer q1_0 Z_items_2 Z_place_2 Z_dummyPlace_2 Z_oldLayer Z_oldPlace Z_oldDummy (upd Z_row_11 x2_11.toNatClampNeg q16)) rfl rfl hn17 rfl dX10_oldOrders_125 (fun H locs hP hD hS => ?_)
              refine lv_iinc (v := (x2_11 + 1)) (lv' := [(2, .int (x2_11 + 1)), (0, .ref (aZ 0)), (1, .int x1_2), (3, .int x3_11)]) hx hb dX10_oldOrders_126 hl (k := 2) rfl rfl (by decide) rfl (fun ls hl => ?_)
              exact JX10_OLDORDERS_129 (upd Z_row_11 x2_11.toNatClampNeg q16) (x2_11 + 1) x3_11 hF H locs ls hP hD hS (lv_sub hl [1, 2, 0, 3] rfl)
            · replace hF := q_f hc hF
              refine lv_goto (tgt := 129) hx hb dX10_oldOrders_111 (by decide) ?_
              exact JX10_OLDORDERS_129 Z_row_11 x2_11 x3_11 hF H locs ls hP hD hS (lv_sub hl [0, 1, 2, 3] rfl)
        exact L11 (u3_0, 0, u3_1) hc11 H locs ls hP hD hS (lv_sub hl [1, 2, 3, 0] rfl)
      have L3 : ∀ st : Int32 × Int32 × (Nat → Int32), q_lo (fun (st : Int32 × Int32 × (Nat → Int32)) => bX10_oldOrders_18 q1_0 Z_items_2 Z_oldLayer Z_oldPlace Z_oldDummy x1_2 st.1 st.2.1 st.2.2) st = some (q3_0, q3_1) → ∀ (H : Heap) (locs : List Loc) (ls : Array Slot), va_P (dC, dI) vwCl (iX10_oldOrders aZ cI cZ Z_code Z_isBox Z_isArrow Z_from Z_to Z_turned Z_told Z_layers Z_layer q1_0 Z_items_2 Z_place_2 Z_dummyPlace_2 Z_oldLayer Z_oldPlace Z_oldDummy st.2.2) H → va_D A (iX10_oldOrders aZ cI cZ Z_code Z_isBox Z_isArrow Z_from Z_to Z_turned Z_told Z_layers Z_layer q1_0 Z_items_2 Z_place_2 Z_dummyPlace_2 Z_oldLayer Z_oldPlace Z_oldDummy st.2.2) → va_S A s.heap H locs → lv_has ls 5 [(0, .ref (aZ 0)), (1, .int x1_2), (2, .int st.1), (3, .int st.2.1)] → W p l e (headSpec wsX10_oldOrders (rX10_oldOrders)).room s m args below meth c H locs 0 0 Q (F0 m 18 ls []) := by
        intro st hst
        refine q_walk (Wh := fun st : Int32 × Int32 × (Nat → Int32) => ∀ (H : Heap) (locs : List Loc) (ls : Array Slot), va_P (dC, dI) vwCl (iX10_oldOrders aZ cI cZ Z_code Z_isBox Z_isArrow Z_from Z_to Z_turned Z_told Z_layers Z_layer q1_0 Z_items_2 Z_place_2 Z_dummyPlace_2 Z_oldLayer Z_oldPlace Z_oldDummy st.2.2) H → va_D A (iX10_oldOrders aZ cI cZ Z_code Z_isBox Z_isArrow Z_from Z_to Z_turned Z_told Z_layers Z_layer q1_0 Z_items_2 Z_place_2 Z_dummyPlace_2 Z_oldLayer Z_oldPlace Z_oldDummy st.2.2) → va_S A s.heap H locs → lv_has ls 5 [(0, .ref (aZ 0)), (1, .int x1_2), (2, .int st.1), (3, .int st.2.1)] → W p l e (headSpec wsX10_oldOrders (rX10_oldOrders)).room s m args below meth c H locs 0 0 Q (F0 m 18 ls [])) ?_ st hst
        clear hst st hF
        intro st o hF hin hex H locs ls hP hD hS hl
        obtain ⟨x2_3, x3_3, Z_row_3⟩ := st
        replace hF : bX10_oldOrders_18 q1_0 Z_items_2 Z_oldLayer Z_oldPlace Z_oldDummy x1_2 x2_3 x3_3 Z_row_3 = some o := hF
        replace hP : va_P (dC, dI) vwCl (iX10_oldOrders aZ cI cZ Z_code Z_isBox Z_isArrow Z_from Z_to Z_turned Z_told Z_layers Z_layer q1_0 Z_items_2 Z_place_2 Z_dummyPlace_2 Z_oldLayer Z_oldPlace Z_oldDummy Z_row_3) H := hP
        replace hD : va_D A (iX10_oldOrders aZ cI cZ Z_code Z_isBox Z_isArrow Z_from Z_to Z_turned Z_told Z_layers Z_layer q1_0 Z_items_2 Z_place_2 Z_dummyPlace_2 Z_oldLayer Z_oldPlace Z_oldDummy Z_row_3) := hD
        replace hl : lv_has ls 5 [(0, .ref (aZ 0)), (1, .int x1_2), (2, .int x2_3), (3, .int x3_3)] := hl
        unfold bX10_oldOrders_18 at hF
        refine lv_iload_n hx hb dX10_oldOrders_18 rfl (lv_at hl 3 rfl) ?_
        refine lv_bipush (v := 40) hx hb dX10_oldOrders_19 (by decide) ?_
        refine lv_icmp_ge (tgt := 85) hx hb dX10_oldOrders_21 (by decide) (fun hc => ?_) (fun hc => ?_)
        · replace hF := q_t hc hF
          exact X3 _ _ (hex _ (Option.some.inj hF).symm) H locs ls hP hD hS (lv_sub hl [0, 1, 2] rfl)
        · replace hF := q_f hc hF
          refine lv_iconst (v := 0) hx hb dX10_oldOrders_24 (by decide) ?_
          refine lv_istore (lv' := [(4, .int 0), (0, .ref (aZ 0)), (1, .int x1_2), (2, .int x2_3), (3, .int x3_3)]) hx hb dX10_oldOrders_25 hl (by decide) rfl (fun ls hl => ?_)
          obtain ⟨q4_0, q4_1, hc4, hF⟩ := q_bd2 hF
          have X4 : ∀ (u4_0 : Int32) (u4_1 : Nat → Int32), (u4_0, u4_1) = (q4_0, q4_1) → ∀ (H : Heap) (locs : List Loc) (ls : Array Slot), va_P (dC, dI) vwCl (iX10_oldOrders aZ cI cZ Z_code Z_isBox Z_isArrow Z_from Z_to Z_turned Z_told Z_layers Z_layer q1_0 Z_items_2 Z_place_2 Z_dummyPlace_2 Z_oldLayer Z_oldPlace Z_oldDummy u4_1) H → va_D A (iX10_oldOrders aZ cI cZ Z_code Z_isBox Z_isArrow Z_from Z_to Z_turned Z_told Z_layers Z_layer q1_0 Z_items_2 Z_place_2 Z_dummyPlace_2 Z_oldLayer Z_oldPlace Z_oldDummy u4_1) → va_S A s.heap H locs → lv_has ls 5 [(0, .ref (aZ 0)), (1, .int x1_2), (2, .int u4_0), (3, .int x3_3)] → W p l e (headSpec wsX10_oldOrders (rX10_oldOrders)).room s m args below meth c H locs 0 0 Q (F0 m 79 ls []) := by
            intro u4_0 u4_1 hu H locs ls hP hD hS hl
            obtain ⟨e0, e1⟩ := q_inj2 hu
            subst e0 e1
            refine lv_iinc (v := (x3_3 + 1)) (lv' := [(3, .int (x3_3 + 1)), (0, .ref (aZ 0)), (1, .int x1_2), (2, .int u4_0)]) hx hb dX10_oldOrders_79 hl (k := 3) rfl rfl (by decide) rfl (fun ls hl => ?_)
            refine lv_goto (tgt := 18) hx hb dX10_oldOrders_82 (by decide) ?_
            exact hin _ (Option.some.inj hF).symm H locs ls hP hD hS (lv_sub hl [1, 2, 3, 0] rfl)
          have L4 : ∀ st : Int32 × Int32 × (Nat → Int32), q_lo (fun (st : Int32 × Int32 × (Nat → Int32)) => bX10_oldOrders_27 q1_0 Z_items_2 Z_oldLayer Z_oldPlace Z_oldDummy x1_2 x3_3 st.1 st.2.1 st.2.2) st = some (q4_0, q4_1) → ∀ (H : Heap) (locs : List Loc) (ls : Array Slot), va_P (dC, dI) vwCl (iX10_oldOrders aZ cI cZ Z_code Z_isBox Z_isArrow Z_from Z_to Z_turned Z_told Z_layers Z_layer q1_0 Z_items_2 Z_place_2 Z_dummyPlace_2 Z_oldLayer Z_oldPlace Z_oldDummy st.2.2) H → va_D A (iX10_oldOrders aZ cI cZ Z_code Z_isBox Z_isArrow Z_from Z_to Z_turned Z_told Z_layers Z_layer q1_0 Z_items_2 Z_place_2 Z_dummyPlace_2 Z_oldLayer Z_oldPlace Z_oldDummy st.2.2) → va_S A s.heap H locs → lv_has ls 5 [(0, .ref (aZ 0)), (1, .int x1_2), (2, .int st.1), (3, .int x3_3), (4, .int st.2.1)] → W p l e (headSpec wsX10_oldOrders (rX10_oldOrders)).room s m args below meth c H locs 0 0 Q (F0 m 27 ls []) := by
            intro st hst
            refine q_walk (Wh := fun st : Int32 × Int32 × (Nat → Int32) => ∀ (H : Heap) (locs : List Loc) (ls : Array Slot), va_P (dC, dI) vwCl (iX10_oldOrders aZ cI cZ Z_code Z_isBox Z_isArrow Z_from Z_to Z_turned Z_told Z_layers Z_layer q1_0 Z_items_2 Z_place_2 Z_dummyPlace_2 Z_oldLayer Z_oldPlace Z_oldDummy st.2.2) H → va_D A (iX10_oldOrders aZ cI cZ Z_code Z_isBox Z_isArrow Z_from Z_to Z_turned Z_told Z_layers Z_layer q1_0 Z_items_2 Z_place_2 Z_dummyPlace_2 Z_oldLayer Z_oldPlace Z_oldDummy st.2.2) → va_S A s.heap H locs → lv_has ls 5 [(0, .ref (aZ 0)), (1, .int x1_2), (2, .int st.1), (3, .int x3_3), (4, .int st.2.1)] → W p l e (headSpec wsX10_oldOrders (rX10_oldOrders)).room s m args below meth c H locs 0 0 Q (F0 m 27 ls [])) ?_ st hst
            clear hst st hF
            intro st o hF hin hex H locs ls hP hD hS hl
            obtain ⟨x2_4, x4_4, Z_row_4⟩ := st
            replace hF : bX10_oldOrders_27 q1_0 Z_items_2 Z_oldLayer Z_oldPlace Z_oldDummy x1_2 x3_3 x2_4 x4_4 Z_row_4 = some o := hF
            replace hP : va_P (dC, dI) vwCl (iX10_oldOrders aZ cI cZ Z_code Z_isBox Z_isArrow Z_from Z_to Z_turned Z_told Z_layers Z_layer q1_0 Z_items_2 Z_place_2 Z_dummyPlace_2 Z_oldLayer Z_oldPlace Z_oldDummy Z_row_4) H := hP
            replace hD : va_D A (iX10_oldOrders aZ cI cZ Z_code Z_isBox Z_isArrow Z_from Z_to Z_turned Z_told Z_layers Z_layer q1_0 Z_items_2 Z_place_2 Z_dummyPlace_2 Z_oldLayer Z_oldPlace Z_oldDummy Z_row_4) := hD
            replace hl : lv_has ls 5 [(0, .ref (aZ 0)), (1, .int x1_2), (2, .int x2_4), (3, .int x3_3), (4, .int x4_4)] := hl
            unfold bX10_oldOrders_27 at hF
            have JX10_OLDORDERS_73 : ∀ (Z_row_5 : Nat → Int32) (x2_5 : Int32) (x4_5 : Int32), jX10_oldOrders_73 Z_row_5 x1_2 x2_5 x3_3 x4_5 = some o → ∀ (H : Heap) (locs : List Loc) (ls : Array Slot), va_P (dC, dI) vwCl (iX10_oldOrders aZ cI cZ Z_code Z_isBox Z_isArrow Z_from Z_to Z_turned Z_told Z_layers Z_layer q1_0 Z_items_2 Z_place_2 Z_dummyPlace_2 Z_oldLayer Z_oldPlace Z_oldDummy Z_row_5) H → va_D A (iX10_oldOrders aZ cI cZ Z_code Z_isBox Z_isArrow Z_from Z_to Z_turned Z_told Z_layers Z_layer q1_0 Z_items_2 Z_place_2 Z_dummyPlace_2 Z_oldLayer Z_oldPlace Z_oldDummy Z_row_5) → va_S A s.heap H locs → lv_has ls 5 [(0, .ref (aZ 0)), (1, .int x1_2), (2, .int x2_5), (3, .int x3_3), (4, .int x4_5)] → W p l e (headSpec wsX10_oldOrders (rX10_oldOrders)).room s m args below meth c H locs 0 0 Q (F0 m 73 ls []) := by
              intro Z_row_5 x2_5 x4_5 hF H locs ls hP hD hS hl
              unfold jX10_oldOrders_73 at hF
              refine lv_iinc (v := (x4_5 + 1)) (lv' := [(4, .int (x4_5 + 1)), (0, .ref (aZ 0)), (1, .int x1_2), (2, .int x2_5), (3, .int x3_3)]) hx hb dX10_oldOrders_73 hl (k := 4) rfl rfl (by decide) rfl (fun ls hl => ?_)
              refine lv_goto (tgt := 27) hx hb dX10_oldOrders_76 (by decide) ?_
              exact hin _ (Option.some.inj hF).symm H locs ls hP hD hS (lv_sub hl [1, 2, 3, 4, 0] rfl)
            refine lv_iload hx hb dX10_oldOrders_27 (lv_at hl 4 rfl) ?_
            refine lv_aload_n hx hb dX10_oldOrders_29 rfl (lv_at hl 0 rfl) ?_
            refine q_get (ci := 10) (C := RX10) (T := TX10) (N := 24) hx hb hts eX10_oldOrders_X10 hown hK hP 0 rfl rfl 11 (Nat.le_of_ble_eq_true rfl) k1 rfl rfl dX10_oldOrders_30 ?_
            refine lv_iload_n hx hb dX10_oldOrders_33 rfl (lv_at hl 1 rfl) ?_
            obtain ⟨hn6, hF⟩ := q_ck hF
            refine va_iald hx hb hK hP 7 0 rfl rfl hn6 dX10_oldOrders_34 ?_
            refine lv_icmp_ge (tgt := 79) hx hb dX10_oldOrders_35 (by decide) (fun hc => ?_) (fun hc => ?_)
            · replace hF := q_t hc hF
              exact X4 _ _ (hex _ (Option.some.inj hF).symm) H locs ls hP hD hS (lv_sub hl [0, 1, 2, 3] rfl)
            · replace hF := q_f hc hF
              refine lv_aload_n hx hb dX10_oldOrders_38 rfl (lv_at hl 0 rfl) ?_
              refine lv_aload_n hx hb dX10_oldOrders_39 rfl (lv_at hl 0 rfl) ?_
              refine lv_iload_n hx hb dX10_oldOrders_40 rfl (lv_at hl 1 rfl) ?_
              refine lv_iload hx hb dX10_oldOrders_41 (lv_at hl 4 rfl) ?_
              obtain ⟨q7, hcq7, hF⟩ := q_bd hF
              refine q_Vi (As := [.int x1_2, .int x4_4]) (rest := [.ref (aZ 0)]) ⟨hx, hb, hml, hown, hts⟩ hA hK hP hD hS (tX10_item0 l dC dI cI cZ aZ H.size Z_code Z_told Z_layers Z_items_2 x1_2 x4_4 q7 hcq7) (cwV 2 hts gX10_oldOrders_X10_item0 rfl rfl rfl uX10_item0 ⟨Nat.le_of_ble_eq_true rfl, Nat.le_of_ble_eq_true rfl⟩) [0, 8] [(true, 0), (false, 1), (false, 2), (false, 3), (false, 4), (false, 5), (false, 6), (false, 7), (true, 1), (false, 9), (false, 10), (false, 11), (false, 12), (false, 13), (false, 14)] (iX10_oldOrders aZ cI cZ Z_code Z_isBox Z_isArrow Z_from Z_to Z_turned Z_told Z_layers Z_layer q1_0 Z_items_2 Z_place_2 Z_dummyPlace_2 Z_oldLayer Z_oldPlace Z_oldDummy Z_row_4) rfl rfl rfl rfl rfl 10 0 rfl rfl rfl rfl hl.1 rfl (Nat.le_of_ble_eq_true rfl) dX10_oldOrders_43 ⟨Nat.zero_le _, Nat.zero_le _⟩ (fun H locs hP hD hS => ?_)
              refine lv_iload_n hx hb dX10_oldOrders_46 rfl (lv_at hl 1 rfl) ?_
              obtain ⟨q8, hcq8, hF⟩ := q_bd hF
              refine q_Vi (As := [.int q7, .int x1_2]) (rest := []) ⟨hx, hb, hml, hown, hts⟩ hA hK hP hD hS (tX10_oldPlaceOf l dC dI cI cZ aZ H.size Z_code Z_told Z_layers Z_oldLayer Z_oldPlace Z_oldDummy q7 x1_2 q8 hcq8) (cwV 2 hts gX10_oldOrders_X10_oldPlaceOf rfl rfl rfl uX10_oldPlaceOf ⟨Nat.le_of_ble_eq_true rfl, Nat.le_of_ble_eq_true rfl⟩) [0, 11, 12, 13] [(true, 0), (false, 1), (false, 2), (false, 3), (false, 4), (false, 5), (false, 6), (false, 7), (false, 8), (false, 9), (false, 10), (true, 1), (true, 2), (true, 3), (false, 14)] (iX10_oldOrders aZ cI cZ Z_code Z_isBox Z_isArrow Z_from Z_to Z_turned Z_told Z_layers Z_layer q1_0 Z_items_2 Z_place_2 Z_dummyPlace_2 Z_oldLayer Z_oldPlace Z_oldDummy Z_row_4) rfl rfl rfl rfl rfl 10 0 rfl rfl rfl rfl hl.1 rfl (Nat.le_of_ble_eq_true rfl) dX10_oldOrders_47 ⟨Nat.zero_le _, Nat.zero_le _⟩ (fun H locs hP hD hS => ?_)
              refine lv_iload_n hx hb dX10_oldOrders_50 rfl (lv_at hl 3 rfl) ?_
              refine lv_icmp_eq (tgt := 57) hx hb dX10_oldOrders_51 (by decide) (fun hc => ?_) (fun hc => ?_)
              · replace hF := q_t hc hF
                refine lv_aload_n hx hb dX10_oldOrders_57 rfl (lv_at hl 0 rfl) ?_
                refine q_get (ci := 10) (C := RX10) (T := TX10) (N := 24) hx hb hts eX10_oldOrders_X10 hown hK hP 0 rfl rfl 20 (Nat.le_of_ble_eq_true rfl) k2 rfl rfl dX10_oldOrders_58 ?_
                refine lv_iload_n hx hb dX10_oldOrders_61 rfl (lv_at hl 2 rfl) ?_
                refine lv_aload_n hx hb dX10_oldOrders_62 rfl (lv_at hl 0 rfl) ?_
                refine lv_iload_n hx hb dX10_oldOrders_63 rfl (lv_at hl 1 rfl) ?_
                refine lv_iload hx hb dX10_oldOrders_64 (lv_at hl 4 rfl) ?_
                obtain ⟨q9, hcq9, hF⟩ := q_bd hF
                refine q_Vi (As := [.int x1_2, .int x4_4]) (rest := [.int x2_4, .ref (aZ 18)]) ⟨hx, hb, hml, hown, hts⟩ hA hK hP hD hS (tX10_item0 l dC dI cI cZ aZ H.size Z_code Z_told Z_layers Z_items_2 x1_2 x4_4 q9 hcq9) (cwV 2 hts gX10_oldOrders_X10_item0 rfl rfl rfl uX10_item0 ⟨Nat.le_of_ble_eq_true rfl, Nat.le_of_ble_eq_true rfl⟩) [0, 8] [(true, 0), (false, 1), (false, 2), (false, 3), (false, 4), (false, 5), (false, 6), (false, 7), (true, 1), (false, 9), (false, 10), (false, 11), (false, 12), (false, 13), (false, 14)] (iX10_oldOrders aZ cI cZ Z_code Z_isBox Z_isArrow Z_from Z_to Z_turned Z_told Z_layers Z_layer q1_0 Z_items_2 Z_place_2 Z_dummyPlace_2 Z_oldLayer Z_oldPlace Z_oldDummy Z_row_4) rfl rfl rfl rfl rfl 10 0 rfl rfl rfl rfl hl.1 rfl (Nat.le_of_ble_eq_true rfl) dX10_oldOrders_66 ⟨Nat.zero_le _, Nat.zero_le _⟩ (fun H locs hP hD hS => ?_)
                obtain ⟨hn10, hF⟩ := q_ck hF
                refine q_iast hx hb hK hP hD hS 14 0 (iX10_oldOrders aZ cI cZ Z_code Z_isBox Z_isArrow Z_from Z_to Z_turned Z_told Z_layers Z_layer q1_0 Z_items_2 Z_place_2 Z_dummyPlace_2 Z_oldLayer Z_oldPlace Z_oldDummy (upd Z_row_4 x2_4.toNatClampNeg q9)) rfl rfl hn10 rfl dX10_oldOrders_69 (fun H locs hP hD hS => ?_)
                refine lv_iinc (v := (x2_4 + 1)) (lv' := [(2, .int (x2_4 + 1)), (0, .ref (aZ 0)), (1, .int x1_2), (3, .int x3_3), (4, .int x4_4)]) hx hb dX10_oldOrders_70 hl (k := 2) rfl rfl (by decide) rfl (fun ls hl => ?_)
                exact JX10_OLDORDERS_73 (upd Z_row_4 x2_4.toNatClampNeg q9) (x2_4 + 1) x4_4 hF H locs ls hP hD hS (lv_sub hl [1, 2, 0, 3, 4] rfl)
              · replace hF := q_f hc hF
                refine lv_goto (tgt := 73) hx hb dX10_oldOrders_54 (by decide) ?_
                exact JX10_OLDORDERS_73 Z_row_4 x2_4 x4_4 hF H locs ls hP hD hS (lv_sub hl [0, 1, 2, 3, 4] rfl)
          exact L4 (x2_3, 0, Z_row_3) hc4 H locs ls hP hD hS (lv_sub hl [1, 2, 3, 4, 0] rfl)
      exact L3 (0, 0, Z_row_2) hc3 H locs ls hP hD hS (lv_sub hl [2, 3, 1, 0] rfl)
  exact L2 (0, q1_1, q1_2, q1_3, Z_row) hc2 H locs ls hP hD hS (lv_sub hl [1, 0] rfl)
abbrev rX10_piece : Room := { frames := 4, cells := 0, slots := 0, locals := 99 }
theorem eX10_piece_X10 : ∀ w ∈ u_ws RX10 TX10 24, w ∈ wsX10_piece := by decide +kernel
theorem uX10_piece : yX10_piece.cls = RX10 ∧ yX10_piece.cls ≠ "java/lang/invoke/MethodHandle" ∧ yX10_piece.cls ≠ "java/lang/invoke/VarHandle" ∧ (parseMethodDescriptor yX10_piece.desc).map (fun d => d.parameters.length) = some 3 := by decide +kernel
set_option maxHeartbeats 4000000 in
set_option maxRecDepth 100000 in
theorem tX10_piece (l : Launch) (dC : Nat → ClassId) (dI : Nat → Nat → Nat) (cI cZ : ClassId) (aZ : Nat → Nat) (sz : Nat) (Z_code : Int32) (Z_width : Nat → Int32) (Z_isArrow : Nat → Int32) (Z_from : Nat → Int32) (Z_to : Nat → Int32) (Z_turned : Nat → Int32) (Z_told : Int32) (Z_layers : Int32) (Z_layer : Nat → Int32) (Z_items : Nat → Int32) (Z_place : Nat → Int32) (Z_dummyPlace : Nat → Int32) (Z_xs : Nat → Int32) (Z_ends : Nat → Int32) (p0 : Int32) (p1 : Int32) (p2 : Int32) (res : Int32 × Int32 × (Nat → Int32)) (hF : fX10_piece Z_width Z_isArrow Z_from Z_to Z_turned Z_told Z_layer Z_items Z_place Z_dummyPlace Z_xs Z_ends p0 p1 p2 = some res) : q_Mi l yX10_piece wsX10_piece rX10_piece (dC, dI) (q_ty cI cZ) [.ref (aZ 0), .int p0, .int p1, .int p2] (iX10_piece aZ cI cZ Z_code Z_width Z_isArrow Z_from Z_to Z_turned Z_told Z_layers Z_layer Z_items Z_place Z_dummyPlace Z_xs Z_ends) (iX10_piece aZ cI cZ res.2.1 Z_width Z_isArrow Z_from Z_to Z_turned Z_told Z_layers Z_layer Z_items Z_place Z_dummyPlace Z_xs res.2.2) sz res.1 := by
  refine q_meti (cc := cX10_piece) (maxL := 4) (by decide) rfl (Nat.le_of_ble_eq_true rfl) ?_
  intro p e s m args below meth c Q A H locs ls C hP hD hS hl hret
  obtain ⟨hx, hb, hml, hown, hts, hA, hK⟩ := C
  replace hl : lv_has ls 4 [(0, .ref (aZ 0)), (1, .int p0), (2, .int p1), (3, .int p2)] := hl
  have k0 := hts (.fieldLink RX10 74 "RouteLayoutModel" "code" "I") (by decide +kernel)
  have k1 := hts (.fieldLink RX10 82 "RouteLayoutModel" "told" "Z") (by decide +kernel)
  unfold fX10_piece at hF
  have JX10_PIECE_25 : ∀ (Z_code_1 : Int32) (Z_ends_1 : Nat → Int32) (x1_1 : Int32) (x2_1 : Int32) (x3_1 : Int32) (s0_1 : Int32), jX10_piece_25 Z_width Z_isArrow Z_from Z_to Z_turned Z_told Z_layer Z_items Z_place Z_dummyPlace Z_xs Z_ends_1 x1_1 x2_1 x3_1 s0_1 = some res → ∀ (H : Heap) (locs : List Loc) (ls : Array Slot), va_P (dC, dI) vwCl (iX10_piece aZ cI cZ Z_code_1 Z_width Z_isArrow Z_from Z_to Z_turned Z_told Z_layers Z_layer Z_items Z_place Z_dummyPlace Z_xs Z_ends_1) H → va_D A (iX10_piece aZ cI cZ Z_code_1 Z_width Z_isArrow Z_from Z_to Z_turned Z_told Z_layers Z_layer Z_items Z_place Z_dummyPlace Z_xs Z_ends_1) → va_S A s.heap H locs → lv_has ls 4 [(0, .ref (aZ 0)), (1, .int x1_1), (2, .int x2_1), (3, .int x3_1)] → W p l e (headSpec wsX10_piece (rX10_piece)).room s m args below meth c H locs 0 0 Q (F0 m 25 ls [.int s0_1, .ref (aZ 0)]) := by
    intro Z_code_1 Z_ends_1 x1_1 x2_1 x3_1 s0_1 hF H locs ls hP hD hS hl
    unfold jX10_piece_25 at hF
    refine q_put (ci := 10) (C := RX10) (T := TX10) (N := 24) (ty := .int) hx hb hts eX10_piece_X10 tyX10 tyX10_ok nmX10 hown hK hP hD hS 0 (iX10_piece aZ cI cZ s0_1 Z_width Z_isArrow Z_from Z_to Z_turned Z_told Z_layers Z_layer Z_items Z_place Z_dummyPlace Z_xs Z_ends_1) rfl rfl 0 (Nat.le_of_ble_eq_true rfl) k0 rfl rfl (by decide +kernel) rfl rfl (Nat.le_of_ble_eq_true rfl) rfl dX10_piece_25 (fun H locs hP hD hS => ?_)
    refine lv_aload_n hx hb dX10_piece_28 rfl (lv_at hl 0 rfl) ?_
    refine q_get (ci := 10) (C := RX10) (T := TX10) (N := 24) hx hb hts eX10_piece_X10 hown hK hP 0 rfl rfl 0 (Nat.le_of_ble_eq_true rfl) k0 rfl rfl dX10_piece_29 ?_
    refine lv_if_le (tgt := 37) hx hb dX10_piece_32 (by decide) (fun hc => ?_) (fun hc => ?_)
    · replace hF := q_t hc hF
      refine lv_aload_n hx hb dX10_piece_37 rfl (lv_at hl 0 rfl) ?_
      refine q_get (ci := 10) (C := RX10) (T := TX10) (N := 24) hx hb hts eX10_piece_X10 hown hK hP 0 rfl rfl 8 (Nat.le_of_ble_eq_true rfl) k1 rfl rfl dX10_piece_38 ?_
      refine lv_if_eq (tgt := 53) hx hb dX10_piece_41 (by decide) (fun hc => ?_) (fun hc => ?_)
      · replace hF := q_t hc hF
        refine lv_iconst (v := (-1)) hx hb dX10_piece_53 (by decide) ?_
        exact hret H locs ls 54 _ _ dX10_piece_54 (congrArg Prod.fst (Option.some.inj hF)) (congrArg (fun z : Int32 × Int32 × (Nat → Int32) => (iX10_piece aZ cI cZ z.2.1 Z_width Z_isArrow Z_from Z_to Z_turned Z_told Z_layers Z_layer Z_items Z_place Z_dummyPlace Z_xs z.2.2)) (Option.some.inj hF)) hP hD hS
      · replace hF := q_f hc hF
        refine lv_aload_n hx hb dX10_piece_44 rfl (lv_at hl 0 rfl) ?_
        refine lv_iload_n hx hb dX10_piece_45 rfl (lv_at hl 1 rfl) ?_
        refine lv_iload_n hx hb dX10_piece_46 rfl (lv_at hl 2 rfl) ?_
        obtain ⟨q2, hcq2, hF⟩ := q_bd hF
        refine q_Vi (As := [.int x1_1, .int x2_1]) (rest := []) ⟨hx, hb, hml, hown, hts⟩ hA hK hP hD hS (tX10_hasPiece l dC dI cI cZ aZ H.size s0_1 Z_isArrow Z_from Z_to Z_turned Z_told Z_layers Z_layer x1_1 x2_1 q2 hcq2) (cwV 2 hts gX10_piece_X10_hasPiece rfl rfl rfl uX10_hasPiece ⟨Nat.le_of_ble_eq_true rfl, Nat.le_of_ble_eq_true rfl⟩) [0, 2, 3, 4, 5, 6] [(true, 0), (false, 1), (true, 1), (true, 2), (true, 3), (true, 4), (true, 5), (false, 7), (false, 8), (false, 9), (false, 10), (false, 11)] (iX10_piece aZ cI cZ s0_1 Z_width Z_isArrow Z_from Z_to Z_turned Z_told Z_layers Z_layer Z_items Z_place Z_dummyPlace Z_xs Z_ends_1) rfl rfl rfl rfl rfl 10 0 rfl rfl rfl rfl hl.1 rfl (Nat.le_of_ble_eq_true rfl) dX10_piece_47 ⟨Nat.zero_le _, Nat.zero_le _⟩ (fun H locs hP hD hS => ?_)
        refine lv_if_ne (tgt := 55) hx hb dX10_piece_50 (by decide) (fun hc => ?_) (fun hc => ?_)
        · replace hF := q_f hc hF
          refine lv_iload_n hx hb dX10_piece_55 rfl (lv_at hl 3 rfl) ?_
          refine lv_iconst (v := 2) hx hb dX10_piece_56 (by decide) ?_
          refine lv_icmp_ne (tgt := 67) hx hb dX10_piece_57 (by decide) (fun hc => ?_) (fun hc => ?_)
          · replace hF := q_f hc hF
            refine lv_iload_n hx hb dX10_piece_67 rfl (lv_at hl 3 rfl) ?_
            refine lv_if_ne (tgt := 85) hx hb dX10_piece_68 (by decide) (fun hc => ?_) (fun hc => ?_)
            · replace hF := q_f hc hF
              refine lv_aload_n hx hb dX10_piece_85 rfl (lv_at hl 0 rfl) ?_
              refine lv_iload_n hx hb dX10_piece_86 rfl (lv_at hl 2 rfl) ?_
              refine lv_iconst (v := 1) hx hb dX10_piece_87 (by decide) ?_
              refine lv_iadd hx hb dX10_piece_88 ?_
              refine lv_aload_n hx hb dX10_piece_89 rfl (lv_at hl 0 rfl) ?_
              refine lv_iload_n hx hb dX10_piece_90 rfl (lv_at hl 1 rfl) ?_
              refine lv_iload_n hx hb dX10_piece_91 rfl (lv_at hl 2 rfl) ?_
              obtain ⟨q3, hcq3, hF⟩ := q_bd hF
              refine q_Vi (As := [.int x1_1, .int x2_1]) (rest := [.int (x2_1 + 1), .ref (aZ 0)]) ⟨hx, hb, hml, hown, hts⟩ hA hK hP hD hS (tX10_lowerPlace l dC dI cI cZ aZ H.size s0_1 Z_from Z_to Z_turned Z_told Z_layers Z_layer Z_place Z_dummyPlace x1_1 x2_1 q3 hcq3) (cwV 2 hts gX10_piece_X10_lowerPlace rfl rfl rfl uX10_lowerPlace ⟨Nat.le_of_ble_eq_true rfl, Nat.le_of_ble_eq_true rfl⟩) [0, 3, 4, 5, 6, 8, 9] [(true, 0), (false, 1), (false, 2), (true, 1), (true, 2), (true, 3), (true, 4), (false, 7), (true, 5), (true, 6), (false, 10), (false, 11)] (iX10_piece aZ cI cZ s0_1 Z_width Z_isArrow Z_from Z_to Z_turned Z_told Z_layers Z_layer Z_items Z_place Z_dummyPlace Z_xs Z_ends_1) rfl rfl rfl rfl rfl 10 0 rfl rfl rfl rfl hl.1 rfl (Nat.le_of_ble_eq_true rfl) dX10_piece_92 ⟨Nat.zero_le _, Nat.zero_le _⟩ (fun H locs hP hD hS => ?_)
              obtain ⟨q4, hcq4, hF⟩ := q_bd hF
              refine q_Vi (As := [.int (x2_1 + 1), .int q3]) (rest := []) ⟨hx, hb, hml, hown, hts⟩ hA hK hP hD hS (tX10_middle l dC dI cI cZ aZ H.size s0_1 Z_width Z_told Z_layers Z_items Z_xs (x2_1 + 1) q3 q4 hcq4) (cwV 2 hts gX10_piece_X10_middle rfl rfl rfl uX10_middle ⟨Nat.le_of_ble_eq_true rfl, Nat.le_of_ble_eq_true rfl⟩) [0, 1, 7, 10] [(true, 0), (true, 1), (false, 2), (false, 3), (false, 4), (false, 5), (false, 6), (true, 2), (false, 8), (false, 9), (true, 3), (false, 11)] (iX10_piece aZ cI cZ s0_1 Z_width Z_isArrow Z_from Z_to Z_turned Z_told Z_layers Z_layer Z_items Z_place Z_dummyPlace Z_xs Z_ends_1) rfl rfl rfl rfl rfl 10 0 rfl rfl rfl rfl hl.1 rfl (Nat.le_of_ble_eq_true rfl) dX10_piece_95 ⟨Nat.zero_le _, Nat.zero_le _⟩ (fun H locs hP hD hS => ?_)
              exact hret H locs ls 98 _ _ dX10_piece_98 (congrArg Prod.fst (Option.some.inj hF)) (congrArg (fun z : Int32 × Int32 × (Nat → Int32) => (iX10_piece aZ cI cZ z.2.1 Z_width Z_isArrow Z_from Z_to Z_turned Z_told Z_layers Z_layer Z_items Z_place Z_dummyPlace Z_xs z.2.2)) (Option.some.inj hF)) hP hD hS
            · replace hF := q_t hc hF
              refine lv_aload_n hx hb dX10_piece_71 rfl (lv_at hl 0 rfl) ?_
              refine lv_iload_n hx hb dX10_piece_72 rfl (lv_at hl 2 rfl) ?_
              refine lv_aload_n hx hb dX10_piece_73 rfl (lv_at hl 0 rfl) ?_
              refine lv_iload_n hx hb dX10_piece_74 rfl (lv_at hl 1 rfl) ?_
              refine lv_iload_n hx hb dX10_piece_75 rfl (lv_at hl 2 rfl) ?_
              obtain ⟨q5, hcq5, hF⟩ := q_bd hF
              refine q_Vi (As := [.int x1_1, .int x2_1]) (rest := [.int x2_1, .ref (aZ 0)]) ⟨hx, hb, hml, hown, hts⟩ hA hK hP hD hS (tX10_upperPlace l dC dI cI cZ aZ H.size s0_1 Z_from Z_to Z_turned Z_told Z_layers Z_layer Z_place Z_dummyPlace x1_1 x2_1 q5 hcq5) (cwV 2 hts gX10_piece_X10_upperPlace rfl rfl rfl uX10_upperPlace ⟨Nat.le_of_ble_eq_true rfl, Nat.le_of_ble_eq_true rfl⟩) [0, 3, 4, 5, 6, 8, 9] [(true, 0), (false, 1), (false, 2), (true, 1), (true, 2), (true, 3), (true, 4), (false, 7), (true, 5), (true, 6), (false, 10), (false, 11)] (iX10_piece aZ cI cZ s0_1 Z_width Z_isArrow Z_from Z_to Z_turned Z_told Z_layers Z_layer Z_items Z_place Z_dummyPlace Z_xs Z_ends_1) rfl rfl rfl rfl rfl 10 0 rfl rfl rfl rfl hl.1 rfl (Nat.le_of_ble_eq_true rfl) dX10_piece_76 ⟨Nat.zero_le _, Nat.zero_le _⟩ (fun H locs hP hD hS => ?_)
              obtain ⟨q6, hcq6, hF⟩ := q_bd hF
              refine q_Vi (As := [.int x2_1, .int q5]) (rest := []) ⟨hx, hb, hml, hown, hts⟩ hA hK hP hD hS (tX10_middle l dC dI cI cZ aZ H.size s0_1 Z_width Z_told Z_layers Z_items Z_xs x2_1 q5 q6 hcq6) (cwV 2 hts gX10_piece_X10_middle rfl rfl rfl uX10_middle ⟨Nat.le_of_ble_eq_true rfl, Nat.le_of_ble_eq_true rfl⟩) [0, 1, 7, 10] [(true, 0), (true, 1), (false, 2), (false, 3), (false, 4), (false, 5), (false, 6), (true, 2), (false, 8), (false, 9), (true, 3), (false, 11)] (iX10_piece aZ cI cZ s0_1 Z_width Z_isArrow Z_from Z_to Z_turned Z_told Z_layers Z_layer Z_items Z_place Z_dummyPlace Z_xs Z_ends_1) rfl rfl rfl rfl rfl 10 0 rfl rfl rfl rfl hl.1 rfl (Nat.le_of_ble_eq_true rfl) dX10_piece_79 ⟨Nat.zero_le _, Nat.zero_le _⟩ (fun H locs hP hD hS => ?_)
              refine lv_goto (tgt := 98) hx hb dX10_piece_82 (by decide) ?_
              exact hret H locs ls 98 _ _ dX10_piece_98 (congrArg Prod.fst (Option.some.inj hF)) (congrArg (fun z : Int32 × Int32 × (Nat → Int32) => (iX10_piece aZ cI cZ z.2.1 Z_width Z_isArrow Z_from Z_to Z_turned Z_told Z_layers Z_layer Z_items Z_place Z_dummyPlace Z_xs z.2.2)) (Option.some.inj hF)) hP hD hS
          · replace hF := q_t hc hF
            refine lv_aload_n hx hb dX10_piece_60 rfl (lv_at hl 0 rfl) ?_
            refine lv_iload_n hx hb dX10_piece_61 rfl (lv_at hl 1 rfl) ?_
            refine lv_iload_n hx hb dX10_piece_62 rfl (lv_at hl 2 rfl) ?_
            obtain ⟨q7_0, q7_1, hcq7, hF⟩ := q_bd2 hF
            refine q_Vi (As := [.int x1_1, .int x2_1]) (rest := []) ⟨hx, hb, hml, hown, hts⟩ hA hK hP hD hS (tX10_track l dC dI cI cZ aZ H.size s0_1 Z_width Z_isArrow Z_from Z_to Z_turned Z_told Z_layers Z_layer Z_items Z_place Z_dummyPlace Z_xs Z_ends_1 x1_1 x2_1 (q7_0, q7_1) hcq7) (cwV 2 hts gX10_piece_X10_track rfl rfl rfl uX10_track ⟨Nat.le_of_ble_eq_true rfl, Nat.le_of_ble_eq_true rfl⟩) [0, 1, 2, 3, 4, 5, 6, 7, 8, 9, 10, 11] [(true, 0), (true, 1), (true, 2), (true, 3), (true, 4), (true, 5), (true, 6), (true, 7), (true, 8), (true, 9), (true, 10), (true, 11)] (iX10_piece aZ cI cZ s0_1 Z_width Z_isArrow Z_from Z_to Z_turned Z_told Z_layers Z_layer Z_items Z_place Z_dummyPlace Z_xs q7_1) rfl rfl rfl rfl rfl 10 0 rfl rfl rfl rfl hl.1 rfl (Nat.le_of_ble_eq_true rfl) dX10_piece_63 ⟨Nat.zero_le _, Nat.zero_le _⟩ (fun H locs hP hD hS => ?_)
            exact hret H locs ls 66 _ _ dX10_piece_66 (congrArg Prod.fst (Option.some.inj hF)) (congrArg (fun z : Int32 × Int32 × (Nat → Int32) => (iX10_piece aZ cI cZ z.2.1 Z_width Z_isArrow Z_from Z_to Z_turned Z_told Z_layers Z_layer Z_items Z_place Z_dummyPlace Z_xs z.2.2)) (Option.some.inj hF)) hP hD hS
        · replace hF := q_t hc hF
          refine lv_iconst (v := (-1)) hx hb dX10_piece_53 (by decide) ?_
          exact hret H locs ls 54 _ _ dX10_piece_54 (congrArg Prod.fst (Option.some.inj hF)) (congrArg (fun z : Int32 × Int32 × (Nat → Int32) => (iX10_piece aZ cI cZ z.2.1 Z_width Z_isArrow Z_from Z_to Z_turned Z_told Z_layers Z_layer Z_items Z_place Z_dummyPlace Z_xs z.2.2)) (Option.some.inj hF)) hP hD hS
    · replace hF := q_f hc hF
      refine lv_iconst (v := 0) hx hb dX10_piece_35 (by decide) ?_
      exact hret H locs ls 36 _ _ dX10_piece_36 (congrArg Prod.fst (Option.some.inj hF)) (congrArg (fun z : Int32 × Int32 × (Nat → Int32) => (iX10_piece aZ cI cZ z.2.1 Z_width Z_isArrow Z_from Z_to Z_turned Z_told Z_layers Z_layer Z_items Z_place Z_dummyPlace Z_xs z.2.2)) (Option.some.inj hF)) hP hD hS
  have JX10_PIECE_24 : ∀ (Z_code_8 : Int32) (Z_ends_8 : Nat → Int32) (x1_8 : Int32) (x2_8 : Int32) (x3_8 : Int32), jX10_piece_24 Z_width Z_isArrow Z_from Z_to Z_turned Z_told Z_layer Z_items Z_place Z_dummyPlace Z_xs Z_ends_8 x1_8 x2_8 x3_8 = some res → ∀ (H : Heap) (locs : List Loc) (ls : Array Slot), va_P (dC, dI) vwCl (iX10_piece aZ cI cZ Z_code_8 Z_width Z_isArrow Z_from Z_to Z_turned Z_told Z_layers Z_layer Z_items Z_place Z_dummyPlace Z_xs Z_ends_8) H → va_D A (iX10_piece aZ cI cZ Z_code_8 Z_width Z_isArrow Z_from Z_to Z_turned Z_told Z_layers Z_layer Z_items Z_place Z_dummyPlace Z_xs Z_ends_8) → va_S A s.heap H locs → lv_has ls 4 [(0, .ref (aZ 0)), (1, .int x1_8), (2, .int x2_8), (3, .int x3_8)] → W p l e (headSpec wsX10_piece (rX10_piece)).room s m args below meth c H locs 0 0 Q (F0 m 24 ls [.ref (aZ 0)]) := by
    intro Z_code_8 Z_ends_8 x1_8 x2_8 x3_8 hF H locs ls hP hD hS hl
    unfold jX10_piece_24 at hF
    refine lv_iconst (v := 1) hx hb dX10_piece_24 (by decide) ?_
    exact JX10_PIECE_25 Z_code_8 Z_ends_8 x1_8 x2_8 x3_8 1 hF H locs ls hP hD hS (lv_sub hl [0, 1, 2, 3] rfl)
  refine lv_aload_n hx hb dX10_piece_0 rfl (lv_at hl 0 rfl) ?_
  refine lv_iload_n hx hb dX10_piece_1 rfl (lv_at hl 1 rfl) ?_
  refine lv_iconst (v := 0) hx hb dX10_piece_2 (by decide) ?_
  refine lv_bipush (v := 23) hx hb dX10_piece_3 (by decide) ?_
  obtain ⟨q9, hcq9, hF⟩ := q_bd hF
  refine q_Si (As := [.int p0, .int 0, .int 23]) (rest := [.ref (aZ 0)]) ⟨hx, hb, hml, hown, hts⟩ hA hK hP hD hS (tX10_in l dC dI cI cZ H.size p0 0 23 q9 hcq9) (va_cwS 3 hts gX10_piece_X10_in rfl rfl rfl uX10_in ⟨Nat.le_of_ble_eq_true rfl, Nat.le_of_ble_eq_true rfl⟩) [] [(false, 0), (false, 1), (false, 2), (false, 3), (false, 4), (false, 5), (false, 6), (false, 7), (false, 8), (false, 9), (false, 10), (false, 11)] (iX10_piece aZ cI cZ Z_code Z_width Z_isArrow Z_from Z_to Z_turned Z_told Z_layers Z_layer Z_items Z_place Z_dummyPlace Z_xs Z_ends) rfl rfl rfl rfl rfl rfl hl.1 rfl (Nat.le_of_ble_eq_true rfl) dX10_piece_5 ⟨Nat.zero_le _, Nat.zero_le _⟩ (fun H locs hP hD hS => ?_)
  refine lv_if_eq (tgt := 24) hx hb dX10_piece_8 (by decide) (fun hc => ?_) (fun hc => ?_)
  · replace hF := q_t hc hF
    exact JX10_PIECE_24 Z_code Z_ends p0 p1 p2 hF H locs ls hP hD hS (lv_sub hl [0, 1, 2, 3] rfl)
  · replace hF := q_f hc hF
    refine lv_iload_n hx hb dX10_piece_11 rfl (lv_at hl 3 rfl) ?_
    refine lv_iconst (v := 0) hx hb dX10_piece_12 (by decide) ?_
    refine lv_iconst (v := 2) hx hb dX10_piece_13 (by decide) ?_
    obtain ⟨q10, hcq10, hF⟩ := q_bd hF
    refine q_Si (As := [.int p2, .int 0, .int 2]) (rest := [.ref (aZ 0)]) ⟨hx, hb, hml, hown, hts⟩ hA hK hP hD hS (tX10_in l dC dI cI cZ H.size p2 0 2 q10 hcq10) (va_cwS 3 hts gX10_piece_X10_in rfl rfl rfl uX10_in ⟨Nat.le_of_ble_eq_true rfl, Nat.le_of_ble_eq_true rfl⟩) [] [(false, 0), (false, 1), (false, 2), (false, 3), (false, 4), (false, 5), (false, 6), (false, 7), (false, 8), (false, 9), (false, 10), (false, 11)] (iX10_piece aZ cI cZ Z_code Z_width Z_isArrow Z_from Z_to Z_turned Z_told Z_layers Z_layer Z_items Z_place Z_dummyPlace Z_xs Z_ends) rfl rfl rfl rfl rfl rfl hl.1 rfl (Nat.le_of_ble_eq_true rfl) dX10_piece_14 ⟨Nat.zero_le _, Nat.zero_le _⟩ (fun H locs hP hD hS => ?_)
    refine lv_if_eq (tgt := 24) hx hb dX10_piece_17 (by decide) (fun hc => ?_) (fun hc => ?_)
    · replace hF := q_t hc hF
      exact JX10_PIECE_24 Z_code Z_ends p0 p1 p2 hF H locs ls hP hD hS (lv_sub hl [0, 1, 2, 3] rfl)
    · replace hF := q_f hc hF
      refine lv_iconst (v := 0) hx hb dX10_piece_20 (by decide) ?_
      refine lv_goto (tgt := 25) hx hb dX10_piece_21 (by decide) ?_
      exact JX10_PIECE_25 Z_code Z_ends p0 p1 p2 0 hF H locs ls hP hD hS (lv_sub hl [0, 1, 2, 3] rfl)
