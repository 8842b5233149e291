/-! Written by wip/whole/gen.py: walks of X10_exact, X10_drawOrders, X10_pass, X10_straighten. -/
abbrev rX10_exact : Room := { frames := 3, cells := 0, slots := 0, locals := 74 }
theorem eX10_exact_X10 : ∀ w ∈ u_ws RX10 TX10 24, w ∈ wsX10_exact := by decide +kernel
theorem uX10_exact : yX10_exact.cls = RX10 ∧ yX10_exact.cls ≠ "java/lang/invoke/MethodHandle" ∧ yX10_exact.cls ≠ "java/lang/invoke/VarHandle" ∧ (parseMethodDescriptor yX10_exact.desc).map (fun d => d.parameters.length) = some 1 := by decide +kernel
set_option maxHeartbeats 4000000 in
set_option maxRecDepth 100000 in
theorem tX10_exact (l : Launch) (dC : Nat → ClassId) (dI : Nat → Nat → Nat) (cI cZ : ClassId) (aZ : Nat → Nat) (sz : Nat) (Z_code : Int32) (Z_isArrow : Nat → Int32) (Z_from : Nat → Int32) (Z_to : Nat → Int32) (Z_turned : Nat → Int32) (Z_told : Int32) (Z_layers : Int32) (Z_layer : Nat → Int32) (Z_sizes : Nat → Int32) (Z_items : Nat → Int32) (Z_place : Nat → Int32) (Z_dummyPlace : Nat → Int32) (Z_row : Nat → Int32) (Z_near : Nat → Int32) (p0 : Int32) (res : (Nat → Int32) × (Nat → Int32) × (Nat → Int32) × (Nat → Int32) × (Nat → Int32)) (hF : fX10_exact Z_isArrow Z_from Z_to Z_turned Z_layers Z_layer Z_sizes Z_items Z_place Z_dummyPlace Z_row Z_near p0 = some res) : q_Mv l yX10_exact wsX10_exact rX10_exact (dC, dI) (q_ty cI cZ) [.ref (aZ 0), .int p0] (iX10_exact aZ cI cZ Z_code Z_isArrow Z_from Z_to Z_turned Z_told Z_layers Z_layer Z_sizes Z_items Z_place Z_dummyPlace Z_row Z_near) (iX10_exact aZ cI cZ Z_code Z_isArrow Z_from Z_to Z_turned Z_told Z_layers Z_layer Z_sizes res.1 res.2.1 res.2.2.1 res.2.2.2.1 res.2.2.2.2) sz := by
  refine q_metv (cc := cX10_exact) (maxL := 8) (by decide) rfl (Nat.le_of_ble_eq_true rfl) ?_
  intro p e s m args below meth c Q A H locs ls C hP hD hS hl hret
  obtain ⟨hx, hb, hml, hown, hts, hA, hK⟩ := C
  replace hl : lv_has ls 8 [(0, .ref (aZ 0)), (1, .int p0)] := hl
  have k0 := hts (.fieldLink RX10 35 "RouteLayoutModel" "sizes" "[I") (by decide +kernel)
  have k1 := hts (.fieldLink RX10 62 "RouteLayoutModel" "row" "[I") (by decide +kernel)
  unfold fX10_exact at hF
  refine lv_aload_n hx hb dX10_exact_0 rfl (lv_at hl 0 rfl) ?_
  refine q_get (ci := 10) (C := RX10) (T := TX10) (N := 24) hx hb hts eX10_exact_X10 hown hK hP 0 rfl rfl 11 (Nat.le_of_ble_eq_true rfl) k0 rfl rfl dX10_exact_1 ?_
  refine lv_iload_n hx hb dX10_exact_4 rfl (lv_at hl 1 rfl) ?_
  obtain ⟨hn1, hF⟩ := q_ck hF
  refine va_iald hx hb hK hP 6 0 rfl rfl hn1 dX10_exact_5 ?_
  obtain ⟨v2, hv2, hF⟩ := q_letE hF
  refine q_top hv2 ?_
  refine lv_istore_n (lv' := [(2, .int v2), (0, .ref (aZ 0)), (1, .int p0)]) hx hb dX10_exact_6 rfl hl (by decide) rfl (fun ls hl => ?_)
  refine lv_iload_n hx hb dX10_exact_7 rfl (lv_at hl 0 rfl) ?_
  refine lv_bipush (v := 6) hx hb dX10_exact_8 (by decide) ?_
  refine lv_icmp_le (tgt := 14) hx hb dX10_exact_10 (by decide) (fun hc => ?_) (fun hc => ?_)
  · replace hF := q_t hc hF
    refine lv_iconst (v := 0) hx hb dX10_exact_14 (by decide) ?_
    refine lv_istore_n (lv' := [(3, .int 0), (2, .int v2), (0, .ref (aZ 0)), (1, .int p0)]) hx hb dX10_exact_15 rfl hl (by decide) rfl (fun ls hl => ?_)
    obtain ⟨q3, hc3, hF⟩ := q_bd hF
    have X3 : ∀ (u3 : Nat → Int32), u3 = q3 → ∀ (H : Heap) (locs : List Loc) (ls : Array Slot), va_P (dC, dI) vwCl (iX10_exact aZ cI cZ Z_code Z_isArrow Z_from Z_to Z_turned Z_told Z_layers Z_layer Z_sizes Z_items Z_place Z_dummyPlace u3 Z_near) H → va_D A (iX10_exact aZ cI cZ Z_code Z_isArrow Z_from Z_to Z_turned Z_told Z_layers Z_layer Z_sizes Z_items Z_place Z_dummyPlace u3 Z_near) → va_S A s.heap H locs → lv_has ls 8 [(0, .ref (aZ 0)), (1, .int p0), (2, .int v2)] → W p l e (headSpec wsX10_exact (rX10_exact)).room s m args below meth c H locs 0 0 Q (F0 m 39 ls []) := by
      intro u3 hu H locs ls hP hD hS hl
      subst hu
      refine lv_iconst (v := 1) hx hb dX10_exact_39 (by decide) ?_
      refine lv_istore_n (lv' := [(3, .int 1), (0, .ref (aZ 0)), (1, .int p0), (2, .int v2)]) hx hb dX10_exact_40 rfl hl (by decide) rfl (fun ls hl => ?_)
      refine lv_iconst (v := 2) hx hb dX10_exact_41 (by decide) ?_
      refine lv_istore (lv' := [(4, .int 2), (3, .int 1), (0, .ref (aZ 0)), (1, .int p0), (2, .int v2)]) hx hb dX10_exact_42 hl (by decide) rfl (fun ls hl => ?_)
      obtain ⟨q6, hc6, hF⟩ := q_bd hF
      have X6 : ∀ (u6 : Int32), u6 = q6 → ∀ (H : Heap) (locs : List Loc) (ls : Array Slot), va_P (dC, dI) vwCl (iX10_exact aZ cI cZ Z_code Z_isArrow Z_from Z_to Z_turned Z_told Z_layers Z_layer Z_sizes Z_items Z_place Z_dummyPlace u3 Z_near) H → va_D A (iX10_exact aZ cI cZ Z_code Z_isArrow Z_from Z_to Z_turned Z_told Z_layers Z_layer Z_sizes Z_items Z_place Z_dummyPlace u3 Z_near) → va_S A s.heap H locs → lv_has ls 8 [(0, .ref (aZ 0)), (1, .int p0), (2, .int v2), (3, .int u6)] → W p l e (headSpec wsX10_exact (rX10_exact)).room s m args below meth c H locs 0 0 Q (F0 m 61 ls []) := by
        intro u6 hu H locs ls hP hD hS hl
        subst hu
        refine lv_iconst (v := 0) hx hb dX10_exact_61 (by decide) ?_
        refine lv_istore (lv' := [(4, .int 0), (0, .ref (aZ 0)), (1, .int p0), (2, .int v2), (3, .int u6)]) hx hb dX10_exact_62 hl (by decide) rfl (fun ls hl => ?_)
        refine lv_iconst (v := (-1)) hx hb dX10_exact_64 (by decide) ?_
        refine lv_istore (lv' := [(5, .int (-1)), (4, .int 0), (0, .ref (aZ 0)), (1, .int p0), (2, .int v2), (3, .int u6)]) hx hb dX10_exact_65 hl (by decide) rfl (fun ls hl => ?_)
        refine lv_iconst (v := 0) hx hb dX10_exact_67 (by decide) ?_
        refine lv_istore (lv' := [(6, .int 0), (5, .int (-1)), (4, .int 0), (0, .ref (aZ 0)), (1, .int p0), (2, .int v2), (3, .int u6)]) hx hb dX10_exact_68 hl (by decide) rfl (fun ls hl => ?_)
        obtain ⟨q7_0, q7_1, q7_2, q7_3, q7_4, hc7, hF⟩ := q_bd5 hF
        have X7 : ∀ (u7_0 : Int32) (u7_1 : Nat → Int32) (u7_2 : Nat → Int32) (u7_3 : Nat → Int32) (u7_4 : Nat → Int32), (u7_0, u7_1, u7_2, u7_3, u7_4) = (q7_0, q7_1, q7_2, q7_3, q7_4) → ∀ (H : Heap) (locs : List Loc) (ls : Array Slot), va_P (dC, dI) vwCl (iX10_exact aZ cI cZ Z_code Z_isArrow Z_from Z_to Z_turned Z_told Z_layers Z_layer Z_sizes u7_1 u7_2 u7_3 u3 u7_4) H → va_D A (iX10_exact aZ cI cZ Z_code Z_isArrow Z_from Z_to Z_turned Z_told Z_layers Z_layer Z_sizes u7_1 u7_2 u7_3 u3 u7_4) → va_S A s.heap H locs → lv_has ls 8 [(0, .ref (aZ 0)), (1, .int p0), (2, .int v2), (3, .int u6), (4, .int u7_0)] → W p l e (headSpec wsX10_exact (rX10_exact)).room s m args below meth c H locs 0 0 Q (F0 m 123 ls []) := by
          intro u7_0 u7_1 u7_2 u7_3 u7_4 hu H locs ls hP hD hS hl
          obtain ⟨e0, e1, e2, e3, e4⟩ := q_inj5 hu
          subst e0 e1 e2 e3 e4
          refine lv_aload_n hx hb dX10_exact_123 rfl (lv_at hl 0 rfl) ?_
          refine lv_iload_n hx hb dX10_exact_124 rfl (lv_at hl 1 rfl) ?_
          refine lv_iload_n hx hb dX10_exact_125 rfl (lv_at hl 2 rfl) ?_
          refine lv_iload hx hb dX10_exact_126 (lv_at hl 4 rfl) ?_
          refine lv_iload_n hx hb dX10_exact_128 rfl (lv_at hl 3 rfl) ?_
          obtain ⟨q12_0, q12_1, q12_2, q12_3, hcq12, hF⟩ := q_bd4 hF
          refine q_Vv (As := [.int p0, .int v2, .int u7_0, .int u6]) (rest := []) ⟨hx, hb, hml, hown, hts⟩ hA hK hP hD hS (tX10_arrange l dC dI cI cZ aZ H.size Z_code Z_told Z_layers Z_sizes u7_1 u7_2 u7_3 u3 u7_4 p0 v2 u7_0 u6 (q12_0, q12_1, q12_2, q12_3) hcq12) (cwV 4 hts gX10_exact_X10_arrange rfl rfl rfl uX10_arrange ⟨Nat.le_of_ble_eq_true rfl, Nat.le_of_ble_eq_true rfl⟩) [0, 6, 7, 8, 9, 10, 11] [(true, 0), (false, 1), (false, 2), (false, 3), (false, 4), (false, 5), (true, 1), (true, 2), (true, 3), (true, 4), (true, 5), (true, 6)] (iX10_exact aZ cI cZ Z_code Z_isArrow Z_from Z_to Z_turned Z_told Z_layers Z_layer Z_sizes q12_0 q12_1 q12_2 u3 q12_3) rfl rfl rfl rfl rfl 10 0 rfl rfl rfl rfl hl.1 rfl (Nat.le_of_ble_eq_true rfl) dX10_exact_129 ⟨Nat.zero_le _, Nat.zero_le _⟩ (fun H locs hP hD hS => ?_)
          exact hret H locs ls 132 _ dX10_exact_132 (congrArg (fun z : (Nat → Int32) × (Nat → Int32) × (Nat → Int32) × (Nat → Int32) × (Nat → Int32) => (iX10_exact aZ cI cZ Z_code Z_isArrow Z_from Z_to Z_turned Z_told Z_layers Z_layer Z_sizes z.1 z.2.1 z.2.2.1 z.2.2.2.1 z.2.2.2.2)) (Option.some.inj hF)) hP hD hS
        have L7 : ∀ st : Int32 × Int32 × Int32 × (Nat → Int32) × (Nat → Int32) × (Nat → Int32) × (Nat → Int32), q_lo (fun (st : Int32 × Int32 × Int32 × (Nat → Int32) × (Nat → Int32) × (Nat → Int32) × (Nat → Int32)) => bX10_exact_70 Z_isArrow Z_from Z_to Z_turned Z_layers Z_layer Z_sizes u3 p0 v2 u6 st.1 st.2.1 st.2.2.1 st.2.2.2.1 st.2.2.2.2.1 st.2.2.2.2.2.1 st.2.2.2.2.2.2) st = some (q7_0, q7_1, q7_2, q7_3, q7_4) → ∀ (H : Heap) (locs : List Loc) (ls : Array Slot), va_P (dC, dI) vwCl (iX10_exact aZ cI cZ Z_code Z_isArrow Z_from Z_to Z_turned Z_told Z_layers Z_layer Z_sizes st.2.2.2.1 st.2.2.2.2.1 st.2.2.2.2.2.1 u3 st.2.2.2.2.2.2) H → va_D A (iX10_exact aZ cI cZ Z_code Z_isArrow Z_from Z_to Z_turned Z_told Z_layers Z_layer Z_sizes st.2.2.2.1 st.2.2.2.2.1 st.2.2.2.2.2.1 u3 st.2.2.2.2.2.2) → va_S A s.heap H locs → lv_has ls 8 [(0, .ref (aZ 0)), (1, .int p0), (2, .int v2), (3, .int u6), (4, .int st.1), (5, .int st.2.1), (6, .int st.2.2.1)] → W p l e (headSpec wsX10_exact (rX10_exact)).room s m args below meth c H locs 0 0 Q (F0 m 70 ls []) := by
          intro st hst
          refine q_walk (Wh := fun st : Int32 × Int32 × Int32 × (Nat → Int32) × (Nat → Int32) × (Nat → Int32) × (Nat → Int32) => ∀ (H : Heap) (locs : List Loc) (ls : Array Slot), va_P (dC, dI) vwCl (iX10_exact aZ cI cZ Z_code Z_isArrow Z_from Z_to Z_turned Z_told Z_layers Z_layer Z_sizes st.2.2.2.1 st.2.2.2.2.1 st.2.2.2.2.2.1 u3 st.2.2.2.2.2.2) H → va_D A (iX10_exact aZ cI cZ Z_code Z_isArrow Z_from Z_to Z_turned Z_told Z_layers Z_layer Z_sizes st.2.2.2.1 st.2.2.2.2.1 st.2.2.2.2.2.1 u3 st.2.2.2.2.2.2) → va_S A s.heap H locs → lv_has ls 8 [(0, .ref (aZ 0)), (1, .int p0), (2, .int v2), (3, .int u6), (4, .int st.1), (5, .int st.2.1), (6, .int st.2.2.1)] → W p l e (headSpec wsX10_exact (rX10_exact)).room s m args below meth c H locs 0 0 Q (F0 m 70 ls [])) ?_ st hst
          clear hst st hF
          intro st o hF hin hex H locs ls hP hD hS hl
          obtain ⟨x4_7, x5_7, x6_7, Z_items_7, Z_place_7, Z_dummyPlace_7, Z_near_7⟩ := st
          replace hF : bX10_exact_70 Z_isArrow Z_from Z_to Z_turned Z_layers Z_layer Z_sizes u3 p0 v2 u6 x4_7 x5_7 x6_7 Z_items_7 Z_place_7 Z_dummyPlace_7 Z_near_7 = some o := hF
          replace hP : va_P (dC, dI) vwCl (iX10_exact aZ cI cZ Z_code Z_isArrow Z_from Z_to Z_turned Z_told Z_layers Z_layer Z_sizes Z_items_7 Z_place_7 Z_dummyPlace_7 u3 Z_near_7) H := hP
          replace hD : va_D A (iX10_exact aZ cI cZ Z_code Z_isArrow Z_from Z_to Z_turned Z_told Z_layers Z_layer Z_sizes Z_items_7 Z_place_7 Z_dummyPlace_7 u3 Z_near_7) := hD
          replace hl : lv_has ls 8 [(0, .ref (aZ 0)), (1, .int p0), (2, .int v2), (3, .int u6), (4, .int x4_7), (5, .int x5_7), (6, .int x6_7)] := hl
          unfold bX10_exact_70 at hF
          have JX10_EXACT_117 : ∀ (Z_items_8 : Nat → Int32) (Z_place_8 : Nat → Int32) (Z_dummyPlace_8 : Nat → Int32) (Z_near_8 : Nat → Int32) (x4_8 : Int32) (x5_8 : Int32) (x6_8 : Int32), jX10_exact_117 Z_items_8 Z_place_8 Z_dummyPlace_8 Z_near_8 p0 v2 u6 x4_8 x5_8 x6_8 = some o → ∀ (H : Heap) (locs : List Loc) (ls : Array Slot), va_P (dC, dI) vwCl (iX10_exact aZ cI cZ Z_code Z_isArrow Z_from Z_to Z_turned Z_told Z_layers Z_layer Z_sizes Z_items_8 Z_place_8 Z_dummyPlace_8 u3 Z_near_8) H → va_D A (iX10_exact aZ cI cZ Z_code Z_isArrow Z_from Z_to Z_turned Z_told Z_layers Z_layer Z_sizes Z_items_8 Z_place_8 Z_dummyPlace_8 u3 Z_near_8) → va_S A s.heap H locs → lv_has ls 8 [(0, .ref (aZ 0)), (1, .int p0), (2, .int v2), (3, .int u6), (4, .int x4_8), (5, .int x5_8), (6, .int x6_8)] → W p l e (headSpec wsX10_exact (rX10_exact)).room s m args below meth c H locs 0 0 Q (F0 m 117 ls []) := by
            intro Z_items_8 Z_place_8 Z_dummyPlace_8 Z_near_8 x4_8 x5_8 x6_8 hF H locs ls hP hD hS hl
            unfold jX10_exact_117 at hF
            refine lv_iinc (v := (x6_8 + 1)) (lv' := [(6, .int (x6_8 + 1)), (0, .ref (aZ 0)), (1, .int p0), (2, .int v2), (3, .int u6), (4, .int x4_8), (5, .int x5_8)]) hx hb dX10_exact_117 hl (k := 6) rfl rfl (by decide) rfl (fun ls hl => ?_)
            refine lv_goto (tgt := 70) hx hb dX10_exact_120 (by decide) ?_
            exact hin _ (Option.some.inj hF).symm H locs ls hP hD hS (lv_sub hl [1, 2, 3, 4, 5, 6, 0] rfl)
          have JX10_EXACT_109 : ∀ (Z_items_9 : Nat → Int32) (Z_place_9 : Nat → Int32) (Z_dummyPlace_9 : Nat → Int32) (Z_near_9 : Nat → Int32) (x6_9 : Int32) (x7_9 : Int32), jX10_exact_109 Z_items_9 Z_place_9 Z_dummyPlace_9 Z_near_9 p0 v2 u6 x6_9 x7_9 = some o → ∀ (H : Heap) (locs : List Loc) (ls : Array Slot), va_P (dC, dI) vwCl (iX10_exact aZ cI cZ Z_code Z_isArrow Z_from Z_to Z_turned Z_told Z_layers Z_layer Z_sizes Z_items_9 Z_place_9 Z_dummyPlace_9 u3 Z_near_9) H → va_D A (iX10_exact aZ cI cZ Z_code Z_isArrow Z_from Z_to Z_turned Z_told Z_layers Z_layer Z_sizes Z_items_9 Z_place_9 Z_dummyPlace_9 u3 Z_near_9) → va_S A s.heap H locs → lv_has ls 8 [(0, .ref (aZ 0)), (1, .int p0), (2, .int v2), (3, .int u6), (6, .int x6_9), (7, .int x7_9)] → W p l e (headSpec wsX10_exact (rX10_exact)).room s m args below meth c H locs 0 0 Q (F0 m 109 ls []) := by
            intro Z_items_9 Z_place_9 Z_dummyPlace_9 Z_near_9 x6_9 x7_9 hF H locs ls hP hD hS hl
            unfold jX10_exact_109 at hF
            refine lv_iload hx hb dX10_exact_109 (lv_at hl 5 rfl) ?_
            refine lv_istore (lv' := [(5, .int x7_9), (0, .ref (aZ 0)), (1, .int p0), (2, .int v2), (3, .int u6), (6, .int x6_9), (7, .int x7_9)]) hx hb dX10_exact_111 hl (by decide) rfl (fun ls hl => ?_)
            refine lv_iload hx hb dX10_exact_113 (lv_at hl 5 rfl) ?_
            refine lv_istore (lv' := [(4, .int x6_9), (5, .int x7_9), (0, .ref (aZ 0)), (1, .int p0), (2, .int v2), (3, .int u6), (6, .int x6_9), (7, .int x7_9)]) hx hb dX10_exact_115 hl (by decide) rfl (fun ls hl => ?_)
            exact JX10_EXACT_117 Z_items_9 Z_place_9 Z_dummyPlace_9 Z_near_9 x6_9 x7_9 x6_9 hF H locs ls hP hD hS (lv_sub hl [2, 3, 4, 5, 0, 1, 6] rfl)
          refine lv_iload hx hb dX10_exact_70 (lv_at hl 6 rfl) ?_
          refine lv_iload_n hx hb dX10_exact_72 rfl (lv_at hl 3 rfl) ?_
          refine lv_icmp_ge (tgt := 123) hx hb dX10_exact_73 (by decide) (fun hc => ?_) (fun hc => ?_)
          · replace hF := q_t hc hF
            exact X7 _ _ _ _ _ (hex _ (Option.some.inj hF).symm) H locs ls hP hD hS (lv_sub hl [0, 1, 2, 3, 4] rfl)
          · replace hF := q_f hc hF
            refine lv_aload_n hx hb dX10_exact_76 rfl (lv_at hl 0 rfl) ?_
            refine lv_iload_n hx hb dX10_exact_77 rfl (lv_at hl 1 rfl) ?_
            refine lv_iload_n hx hb dX10_exact_78 rfl (lv_at hl 2 rfl) ?_
            refine lv_iload hx hb dX10_exact_79 (lv_at hl 6 rfl) ?_
            refine lv_iload_n hx hb dX10_exact_81 rfl (lv_at hl 3 rfl) ?_
            obtain ⟨q10_0, q10_1, q10_2, q10_3, hcq10, hF⟩ := q_bd4 hF
            refine q_Vv (As := [.int p0, .int v2, .int x6_7, .int u6]) (rest := []) ⟨hx, hb, hml, hown, hts⟩ hA hK hP hD hS (tX10_arrange l dC dI cI cZ aZ H.size Z_code Z_told Z_layers Z_sizes Z_items_7 Z_place_7 Z_dummyPlace_7 u3 Z_near_7 p0 v2 x6_7 u6 (q10_0, q10_1, q10_2, q10_3) hcq10) (cwV 4 hts gX10_exact_X10_arrange rfl rfl rfl uX10_arrange ⟨Nat.le_of_ble_eq_true rfl, Nat.le_of_ble_eq_true rfl⟩) [0, 6, 7, 8, 9, 10, 11] [(true, 0), (false, 1), (false, 2), (false, 3), (false, 4), (false, 5), (true, 1), (true, 2), (true, 3), (true, 4), (true, 5), (true, 6)] (iX10_exact aZ cI cZ Z_code Z_isArrow Z_from Z_to Z_turned Z_told Z_layers Z_layer Z_sizes q10_0 q10_1 q10_2 u3 q10_3) rfl rfl rfl rfl rfl 10 0 rfl rfl rfl rfl hl.1 rfl (Nat.le_of_ble_eq_true rfl) dX10_exact_82 ⟨Nat.zero_le _, Nat.zero_le _⟩ (fun H locs hP hD hS => ?_)
            refine lv_aload_n hx hb dX10_exact_85 rfl (lv_at hl 0 rfl) ?_
            refine lv_iload_n hx hb dX10_exact_86 rfl (lv_at hl 1 rfl) ?_
            refine lv_iconst (v := 1) hx hb dX10_exact_87 (by decide) ?_
            refine lv_isub hx hb dX10_exact_88 ?_
            obtain ⟨q11, hcq11, hF⟩ := q_bd hF
            refine q_Vi (As := [.int (p0 - 1)]) (rest := []) ⟨hx, hb, hml, hown, hts⟩ hA hK hP hD hS (tX10_crossings l dC dI cI cZ aZ H.size Z_code Z_isArrow Z_from Z_to Z_turned Z_told Z_layers Z_layer q10_1 q10_2 (p0 - 1) q11 hcq11) (cwV 1 hts gX10_exact_X10_crossings rfl rfl rfl uX10_crossings ⟨Nat.le_of_ble_eq_true rfl, Nat.le_of_ble_eq_true rfl⟩) [0, 1, 2, 3, 4, 5, 8, 9] [(true, 0), (true, 1), (true, 2), (true, 3), (true, 4), (true, 5), (false, 6), (false, 7), (true, 6), (true, 7), (false, 10), (false, 11)] (iX10_exact aZ cI cZ Z_code Z_isArrow Z_from Z_to Z_turned Z_told Z_layers Z_layer Z_sizes q10_0 q10_1 q10_2 u3 q10_3) rfl rfl rfl rfl rfl 10 0 rfl rfl rfl rfl hl.1 rfl (Nat.le_of_ble_eq_true rfl) dX10_exact_89 ⟨Nat.zero_le _, Nat.zero_le _⟩ (fun H locs hP hD hS => ?_)
            refine lv_istore (lv' := [(7, .int q11), (0, .ref (aZ 0)), (1, .int p0), (2, .int v2), (3, .int u6), (4, .int x4_7), (5, .int x5_7), (6, .int x6_7)]) hx hb dX10_exact_92 hl (by decide) rfl (fun ls hl => ?_)
            refine lv_iload hx hb dX10_exact_94 (lv_at hl 6 rfl) ?_
            refine lv_if_lt (tgt := 109) hx hb dX10_exact_96 (by decide) (fun hc => ?_) (fun hc => ?_)
            · replace hF := q_t hc hF
              exact JX10_EXACT_109 q10_0 q10_1 q10_2 q10_3 x6_7 q11 hF H locs ls hP hD hS (lv_sub hl [1, 2, 3, 4, 7, 0] rfl)
            · replace hF := q_f hc hF
              refine lv_iload hx hb dX10_exact_99 (lv_at hl 0 rfl) ?_
              refine lv_iload hx hb dX10_exact_101 (lv_at hl 6 rfl) ?_
              refine lv_icmp_lt (tgt := 109) hx hb dX10_exact_103 (by decide) (fun hc => ?_) (fun hc => ?_)
              · replace hF := q_t hc hF
                exact JX10_EXACT_109 q10_0 q10_1 q10_2 q10_3 x6_7 q11 hF H locs ls hP hD hS (lv_sub hl [1, 2, 3, 4, 7, 0] rfl)
              · replace hF := q_f hc hF
                refine lv_goto (tgt := 117) hx hb dX10_exact_106 (by decide) ?_
                exact JX10_EXACT_117 q10_0 q10_1 q10_2 q10_3 x4_7 x5_7 x6_7 hF H locs ls hP hD hS (lv_sub hl [1, 2, 3, 4, 5, 6, 7] rfl)
        exact L7 (0, (-1), 0, Z_items, Z_place, Z_dummyPlace, Z_near) hc7 H locs ls hP hD hS (lv_sub hl [3, 4, 5, 6, 2, 1, 0] rfl)
      have L6 : ∀ st : Int32 × Int32, q_lo (fun (st : Int32 × Int32) => bX10_exact_44 v2 st.1 st.2) st = some q6 → ∀ (H : Heap) (locs : List Loc) (ls : Array Slot), va_P (dC, dI) vwCl (iX10_exact aZ cI cZ Z_code Z_isArrow Z_from Z_to Z_turned Z_told Z_layers Z_layer Z_sizes Z_items Z_place Z_dummyPlace u3 Z_near) H → va_D A (iX10_exact aZ cI cZ Z_code Z_isArrow Z_from Z_to Z_turned Z_told Z_layers Z_layer Z_sizes Z_items Z_place Z_dummyPlace u3 Z_near) → va_S A s.heap H locs → lv_has ls 8 [(0, .ref (aZ 0)), (1, .int p0), (2, .int v2), (3, .int st.1), (4, .int st.2)] → W p l e (headSpec wsX10_exact (rX10_exact)).room s m args below meth c H locs 0 0 Q (F0 m 44 ls []) := by
        intro st hst
        refine q_walk (Wh := fun st : Int32 × Int32 => ∀ (H : Heap) (locs : List Loc) (ls : Array Slot), va_P (dC, dI) vwCl (iX10_exact aZ cI cZ Z_code Z_isArrow Z_from Z_to Z_turned Z_told Z_layers Z_layer Z_sizes Z_items Z_place Z_dummyPlace u3 Z_near) H → va_D A (iX10_exact aZ cI cZ Z_code Z_isArrow Z_from Z_to Z_turned Z_told Z_layers Z_layer Z_sizes Z_items Z_place Z_dummyPlace u3 Z_near) → va_S A s.heap H locs → lv_has ls 8 [(0, .ref (aZ 0)), (1, .int p0), (2, .int v2), (3, .int st.1), (4, .int st.2)] → W p l e (headSpec wsX10_exact (rX10_exact)).room s m args below meth c H locs 0 0 Q (F0 m 44 ls [])) ?_ st hst
        clear hst st hF
        intro st o hF hin hex H locs ls hP hD hS hl
        obtain ⟨x3_6, x4_6⟩ := st
        replace hF : bX10_exact_44 v2 x3_6 x4_6 = some o := hF
        replace hP : va_P (dC, dI) vwCl (iX10_exact aZ cI cZ Z_code Z_isArrow Z_from Z_to Z_turned Z_told Z_layers Z_layer Z_sizes Z_items Z_place Z_dummyPlace u3 Z_near) H := hP
        replace hD : va_D A (iX10_exact aZ cI cZ Z_code Z_isArrow Z_from Z_to Z_turned Z_told Z_layers Z_layer Z_sizes Z_items Z_place Z_dummyPlace u3 Z_near) := hD
        replace hl : lv_has ls 8 [(0, .ref (aZ 0)), (1, .int p0), (2, .int v2), (3, .int x3_6), (4, .int x4_6)] := hl
        unfold bX10_exact_44 at hF
        refine lv_iload hx hb dX10_exact_44 (lv_at hl 4 rfl) ?_
        refine lv_iload_n hx hb dX10_exact_46 rfl (lv_at hl 2 rfl) ?_
        refine lv_icmp_gt (tgt := 61) hx hb dX10_exact_47 (by decide) (fun hc => ?_) (fun hc => ?_)
        · replace hF := q_t hc hF
          exact X6 _ (hex _ (Option.some.inj hF).symm) H locs ls hP hD hS (lv_sub hl [0, 1, 2, 3] rfl)
        · replace hF := q_f hc hF
          refine lv_iload_n hx hb dX10_exact_50 rfl (lv_at hl 3 rfl) ?_
          refine lv_iload hx hb dX10_exact_51 (lv_at hl 4 rfl) ?_
          refine lv_imul hx hb dX10_exact_53 ?_
          refine lv_istore_n (lv' := [(3, .int (x3_6 * x4_6)), (0, .ref (aZ 0)), (1, .int p0), (2, .int v2), (4, .int x4_6)]) hx hb dX10_exact_54 rfl hl (by decide) rfl (fun ls hl => ?_)
          refine lv_iinc (v := (x4_6 + 1)) (lv' := [(4, .int (x4_6 + 1)), (3, .int (x3_6 * x4_6)), (0, .ref (aZ 0)), (1, .int p0), (2, .int v2)]) hx hb dX10_exact_55 hl (k := 4) rfl rfl (by decide) rfl (fun ls hl => ?_)
          refine lv_goto (tgt := 44) hx hb dX10_exact_58 (by decide) ?_
          exact hin _ (Option.some.inj hF).symm H locs ls hP hD hS (lv_sub hl [2, 3, 4, 1, 0] rfl)
      exact L6 (1, 2) hc6 H locs ls hP hD hS (lv_sub hl [2, 3, 4, 1, 0] rfl)
    have L3 : ∀ st : Int32 × (Nat → Int32), q_lo (fun (st : Int32 × (Nat → Int32)) => bX10_exact_16 Z_items p0 v2 st.1 st.2) st = some q3 → ∀ (H : Heap) (locs : List Loc) (ls : Array Slot), va_P (dC, dI) vwCl (iX10_exact aZ cI cZ Z_code Z_isArrow Z_from Z_to Z_turned Z_told Z_layers Z_layer Z_sizes Z_items Z_place Z_dummyPlace st.2 Z_near) H → va_D A (iX10_exact aZ cI cZ Z_code Z_isArrow Z_from Z_to Z_turned Z_told Z_layers Z_layer Z_sizes Z_items Z_place Z_dummyPlace st.2 Z_near) → va_S A s.heap H locs → lv_has ls 8 [(0, .ref (aZ 0)), (1, .int p0), (2, .int v2), (3, .int st.1)] → W p l e (headSpec wsX10_exact (rX10_exact)).room s m args below meth c H locs 0 0 Q (F0 m 16 ls []) := by
      intro st hst
      refine q_walk (Wh := fun st : Int32 × (Nat → Int32) => ∀ (H : Heap) (locs : List Loc) (ls : Array Slot), va_P (dC, dI) vwCl (iX10_exact aZ cI cZ Z_code Z_isArrow Z_from Z_to Z_turned Z_told Z_layers Z_layer Z_sizes Z_items Z_place Z_dummyPlace st.2 Z_near) H → va_D A (iX10_exact aZ cI cZ Z_code Z_isArrow Z_from Z_to Z_turned Z_told Z_layers Z_layer Z_sizes Z_items Z_place Z_dummyPlace st.2 Z_near) → va_S A s.heap H locs → lv_has ls 8 [(0, .ref (aZ 0)), (1, .int p0), (2, .int v2), (3, .int st.1)] → W p l e (headSpec wsX10_exact (rX10_exact)).room s m args below meth c H locs 0 0 Q (F0 m 16 ls [])) ?_ st hst
      clear hst st hF
      intro st o hF hin hex H locs ls hP hD hS hl
      obtain ⟨x3_3, Z_row_3⟩ := st
      replace hF : bX10_exact_16 Z_items p0 v2 x3_3 Z_row_3 = some o := hF
      replace hP : va_P (dC, dI) vwCl (iX10_exact aZ cI cZ Z_code Z_isArrow Z_from Z_to Z_turned Z_told Z_layers Z_layer Z_sizes Z_items Z_place Z_dummyPlace Z_row_3 Z_near) H := hP
      replace hD : va_D A (iX10_exact aZ cI cZ Z_code Z_isArrow Z_from Z_to Z_turned Z_told Z_layers Z_layer Z_sizes Z_items Z_place Z_dummyPlace Z_row_3 Z_near) := hD
      replace hl : lv_has ls 8 [(0, .ref (aZ 0)), (1, .int p0), (2, .int v2), (3, .int x3_3)] := hl
      unfold bX10_exact_16 at hF
      refine lv_iload_n hx hb dX10_exact_16 rfl (lv_at hl 3 rfl) ?_
      refine lv_iload_n hx hb dX10_exact_17 rfl (lv_at hl 2 rfl) ?_
      refine lv_icmp_ge (tgt := 39) hx hb dX10_exact_18 (by decide) (fun hc => ?_) (fun hc => ?_)
      · replace hF := q_t hc hF
        exact X3 _ (hex _ (Option.some.inj hF).symm) H locs ls hP hD hS (lv_sub hl [0, 1, 2] rfl)
      · replace hF := q_f hc hF
        refine lv_aload_n hx hb dX10_exact_21 rfl (lv_at hl 0 rfl) ?_
        refine q_get (ci := 10) (C := RX10) (T := TX10) (N := 24) hx hb hts eX10_exact_X10 hown hK hP 0 rfl rfl 20 (Nat.le_of_ble_eq_true rfl) k1 rfl rfl dX10_exact_22 ?_
        refine lv_iload_n hx hb dX10_exact_25 rfl (lv_at hl 3 rfl) ?_
        refine lv_aload_n hx hb dX10_exact_26 rfl (lv_at hl 0 rfl) ?_
        refine lv_iload_n hx hb dX10_exact_27 rfl (lv_at hl 1 rfl) ?_
        refine lv_iload_n hx hb dX10_exact_28 rfl (lv_at hl 3 rfl) ?_
        obtain ⟨q4, hcq4, hF⟩ := q_bd hF
        refine q_Vi (As := [.int p0, .int x3_3]) (rest := [.int x3_3, .ref (aZ 18)]) ⟨hx, hb, hml, hown, hts⟩ hA hK hP hD hS (tX10_item0 l dC dI cI cZ aZ H.size Z_code Z_told Z_layers Z_items p0 x3_3 q4 hcq4) (cwV 2 hts gX10_exact_X10_item0 rfl rfl rfl uX10_item0 ⟨Nat.le_of_ble_eq_true rfl, Nat.le_of_ble_eq_true rfl⟩) [0, 7] [(true, 0), (false, 1), (false, 2), (false, 3), (false, 4), (false, 5), (false, 6), (true, 1), (false, 8), (false, 9), (false, 10), (false, 11)] (iX10_exact aZ cI cZ Z_code Z_isArrow Z_from Z_to Z_turned Z_told Z_layers Z_layer Z_sizes Z_items Z_place Z_dummyPlace Z_row_3 Z_near) rfl rfl rfl rfl rfl 10 0 rfl rfl rfl rfl hl.1 rfl (Nat.le_of_ble_eq_true rfl) dX10_exact_29 ⟨Nat.zero_le _, Nat.zero_le _⟩ (fun H locs hP hD hS => ?_)
        obtain ⟨hn5, hF⟩ := q_ck hF
        refine q_iast hx hb hK hP hD hS 10 0 (iX10_exact aZ cI cZ Z_code Z_isArrow Z_from Z_to Z_turned Z_told Z_layers Z_layer Z_sizes Z_items Z_place Z_dummyPlace (upd Z_row_3 x3_3.toNatClampNeg q4) Z_near) rfl rfl hn5 rfl dX10_exact_32 (fun H locs hP hD hS => ?_)
        refine lv_iinc (v := (x3_3 + 1)) (lv' := [(3, .int (x3_3 + 1)), (0, .ref (aZ 0)), (1, .int p0), (2, .int v2)]) hx hb dX10_exact_33 hl (k := 3) rfl rfl (by decide) rfl (fun ls hl => ?_)
        refine lv_goto (tgt := 16) hx hb dX10_exact_36 (by decide) ?_
        exact hin _ (Option.some.inj hF).symm H locs ls hP hD hS (lv_sub hl [1, 2, 3, 0] rfl)
    exact L3 (0, Z_row) hc3 H locs ls hP hD hS (lv_sub hl [2, 3, 1, 0] rfl)
  · replace hF := q_f hc hF
    exact hret H locs ls 13 _ dX10_exact_13 (congrArg (fun z : (Nat → Int32) × (Nat → Int32) × (Nat → Int32) × (Nat → Int32) × (Nat → Int32) => (iX10_exact aZ cI cZ Z_code Z_isArrow Z_from Z_to Z_turned Z_told Z_layers Z_layer Z_sizes z.1 z.2.1 z.2.2.1 z.2.2.2.1 z.2.2.2.2)) (Option.some.inj hF)) hP hD hS
abbrev rX10_drawOrders : Room := { frames := 4, cells := 0, slots := 0, locals := 101 }
theorem eX10_drawOrders_X10 : ∀ w ∈ u_ws RX10 TX10 24, w ∈ wsX10_drawOrders := by decide +kernel
theorem uX10_drawOrders : yX10_drawOrders.cls = RX10 ∧ yX10_drawOrders.cls ≠ "java/lang/invoke/MethodHandle" ∧ yX10_drawOrders.cls ≠ "java/lang/invoke/VarHandle" ∧ (parseMethodDescriptor yX10_drawOrders.desc).map (fun d => d.parameters.length) = some 1 := by decide +kernel
set_option maxHeartbeats 4000000 in
set_option maxRecDepth 100000 in
theorem tX10_drawOrders (l : Launch) (dC : Nat → ClassId) (dI : Nat → Nat → Nat) (cI cZ : ClassId) (aZ : Nat → Nat) (sz : Nat) (Z_code : Int32) (Z_isBox : Nat → Int32) (Z_isArrow : Nat → Int32) (Z_from : Nat → Int32) (Z_to : Nat → Int32) (Z_turned : Nat → Int32) (Z_told : Int32) (Z_layers : Int32) (Z_layer : Nat → Int32) (Z_sizes : Nat → Int32) (Z_items : Nat → Int32) (Z_place : Nat → Int32) (Z_dummyPlace : Nat → Int32) (Z_row : Nat → Int32) (Z_ends : Nat → Int32) (Z_near : Nat → Int32) (p0 : Int32) (res : (Nat → Int32) × (Nat → Int32) × (Nat → Int32) × (Nat → Int32) × (Nat → Int32) × (Nat → Int32) × (Nat → Int32)) (hF : fX10_drawOrders Z_isBox Z_isArrow Z_from Z_to Z_turned Z_layers Z_layer Z_sizes Z_items Z_place Z_dummyPlace Z_row Z_ends Z_near p0 = some res) : q_Mv l yX10_drawOrders wsX10_drawOrders rX10_drawOrders (dC, dI) (q_ty cI cZ) [.ref (aZ 0), .int p0] (iX10_drawOrders aZ cI cZ Z_code Z_isBox Z_isArrow Z_from Z_to Z_turned Z_told Z_layers Z_layer Z_sizes Z_items Z_place Z_dummyPlace Z_row Z_ends Z_near) (iX10_drawOrders aZ cI cZ Z_code Z_isBox Z_isArrow Z_from Z_to Z_turned Z_told Z_layers Z_layer res.1 res.2.1 res.2.2.1 res.2.2.2.1 res.2.2.2.2.1 res.2.2.2.2.2.1 res.2.2.2.2.2.2) sz := by
  refine q_metv (cc := cX10_drawOrders) (maxL := 4) (by decide) rfl (Nat.le_of_ble_eq_true rfl) ?_
  intro p e s m args below meth c Q A H locs ls C hP hD hS hl hret
  obtain ⟨hx, hb, hml, hown, hts, hA, hK⟩ := C
  replace hl : lv_has ls 4 [(0, .ref (aZ 0)), (1, .int p0)] := hl
  have k0 := hts (.fieldLink RX10 103 "RouteLayoutModel" "layers" "I") (by decide +kernel)
  unfold fX10_drawOrders at hF
  refine lv_aload_n hx hb dX10_drawOrders_0 rfl (lv_at hl 0 rfl) ?_
  obtain ⟨q1_0, q1_1, q1_2, q1_3, hcq1, hF⟩ := q_bd4 hF
  refine q_Vv (As := []) (rest := []) ⟨hx, hb, hml, hown, hts⟩ hA hK hP hD hS (tX10_firstOrders l dC dI cI cZ aZ H.size Z_code Z_isBox Z_isArrow Z_from Z_to Z_turned Z_told Z_layers Z_layer Z_sizes Z_items Z_place Z_dummyPlace (q1_0, q1_1, q1_2, q1_3) hcq1) (cwV 0 hts gX10_drawOrders_X10_firstOrders rfl rfl rfl uX10_firstOrders ⟨Nat.le_of_ble_eq_true rfl, Nat.le_of_ble_eq_true rfl⟩) [0, 1, 2, 3, 4, 5, 6, 7, 8, 9, 10] [(true, 0), (true, 1), (true, 2), (true, 3), (true, 4), (true, 5), (true, 6), (true, 7), (true, 8), (true, 9), (true, 10), (false, 11), (false, 12), (false, 13)] (iX10_drawOrders aZ cI cZ Z_code Z_isBox Z_isArrow Z_from Z_to Z_turned Z_told Z_layers Z_layer q1_0 q1_1 q1_2 q1_3 Z_row Z_ends Z_near) rfl rfl rfl rfl rfl 10 0 rfl rfl rfl rfl hl.1 rfl (Nat.le_of_ble_eq_true rfl) dX10_drawOrders_1 ⟨Nat.zero_le _, Nat.zero_le _⟩ (fun H locs hP hD hS => ?_)
  refine lv_iconst (v := 0) hx hb dX10_drawOrders_4 (by decide) ?_
  refine lv_istore_n (lv' := [(2, .int 0), (0, .ref (aZ 0)), (1, .int p0)]) hx hb dX10_drawOrders_5 rfl hl (by decide) rfl (fun ls hl => ?_)
  obtain ⟨q2_0, q2_1, q2_2, q2_3, q2_4, q2_5, hc2, hF⟩ := q_bd6 hF
  have X2 : ∀ (u2_0 : Nat → Int32) (u2_1 : Nat → Int32) (u2_2 : Nat → Int32) (u2_3 : Nat → Int32) (u2_4 : Nat → Int32) (u2_5 : Nat → Int32), (u2_0, u2_1, u2_2, u2_3, u2_4, u2_5) = (q2_0, q2_1, q2_2, q2_3, q2_4, q2_5) → ∀ (H : Heap) (locs : List Loc) (ls : Array Slot), va_P (dC, dI) vwCl (iX10_drawOrders aZ cI cZ Z_code Z_isBox Z_isArrow Z_from Z_to Z_turned Z_told Z_layers Z_layer q1_0 u2_0 u2_1 u2_2 u2_3 u2_4 u2_5) H → va_D A (iX10_drawOrders aZ cI cZ Z_code Z_isBox Z_isArrow Z_from Z_to Z_turned Z_told Z_layers Z_layer q1_0 u2_0 u2_1 u2_2 u2_3 u2_4 u2_5) → va_S A s.heap H locs → lv_has ls 4 [(0, .ref (aZ 0))] → W p l e (headSpec wsX10_drawOrders (rX10_drawOrders)).room s m args below meth c H locs 0 0 Q (F0 m 62 ls []) := by
    intro u2_0 u2_1 u2_2 u2_3 u2_4 u2_5 hu H locs ls hP hD hS hl
    obtain ⟨e0, e1, e2, e3, e4, e5⟩ := q_inj6 hu
    subst e0 e1 e2 e3 e4 e5
    refine lv_iconst (v := 1) hx hb dX10_drawOrders_62 (by decide) ?_
    refine lv_istore_n (lv' := [(2, .int 1), (0, .ref (aZ 0))]) hx hb dX10_drawOrders_63 rfl hl (by decide) rfl (fun ls hl => ?_)
    obtain ⟨q7_0, q7_1, q7_2, q7_3, q7_4, hc7, hF⟩ := q_bd5 hF
    have X7 : ∀ (u7_0 : Nat → Int32) (u7_1 : Nat → Int32) (u7_2 : Nat → Int32) (u7_3 : Nat → Int32) (u7_4 : Nat → Int32), (u7_0, u7_1, u7_2, u7_3, u7_4) = (q7_0, q7_1, q7_2, q7_3, q7_4) → ∀ (H : Heap) (locs : List Loc) (ls : Array Slot), va_P (dC, dI) vwCl (iX10_drawOrders aZ cI cZ Z_code Z_isBox Z_isArrow Z_from Z_to Z_turned Z_told Z_layers Z_layer q1_0 u7_0 u7_1 u7_2 u7_3 u2_4 u7_4) H → va_D A (iX10_drawOrders aZ cI cZ Z_code Z_isBox Z_isArrow Z_from Z_to Z_turned Z_told Z_layers Z_layer q1_0 u7_0 u7_1 u7_2 u7_3 u2_4 u7_4) → va_S A s.heap H locs → lv_has ls 4 [] → W p l e (headSpec wsX10_drawOrders (rX10_drawOrders)).room s m args below meth c H locs 0 0 Q (F0 m 83 ls []) := by
      intro u7_0 u7_1 u7_2 u7_3 u7_4 hu H locs ls hP hD hS hl
      obtain ⟨e0, e1, e2, e3, e4⟩ := q_inj5 hu
      subst e0 e1 e2 e3 e4
      exact hret H locs ls 83 _ dX10_drawOrders_83 (congrArg (fun z : (Nat → Int32) × (Nat → Int32) × (Nat → Int32) × (Nat → Int32) × (Nat → Int32) × (Nat → Int32) × (Nat → Int32) => (iX10_drawOrders aZ cI cZ Z_code Z_isBox Z_isArrow Z_from Z_to Z_turned Z_told Z_layers Z_layer z.1 z.2.1 z.2.2.1 z.2.2.2.1 z.2.2.2.2.1 z.2.2.2.2.2.1 z.2.2.2.2.2.2)) (Option.some.inj hF)) hP hD hS
    have L7 : ∀ st : Int32 × (Nat → Int32) × (Nat → Int32) × (Nat → Int32) × (Nat → Int32) × (Nat → Int32), q_lo (fun (st : Int32 × (Nat → Int32) × (Nat → Int32) × (Nat → Int32) × (Nat → Int32) × (Nat → Int32)) => bX10_drawOrders_64 Z_isArrow Z_from Z_to Z_turned Z_layers Z_layer q1_0 st.1 st.2.1 st.2.2.1 st.2.2.2.1 st.2.2.2.2.1 st.2.2.2.2.2) st = some (q7_0, q7_1, q7_2, q7_3, q7_4) → ∀ (H : Heap) (locs : List Loc) (ls : Array Slot), va_P (dC, dI) vwCl (iX10_drawOrders aZ cI cZ Z_code Z_isBox Z_isArrow Z_from Z_to Z_turned Z_told Z_layers Z_layer q1_0 st.2.1 st.2.2.1 st.2.2.2.1 st.2.2.2.2.1 u2_4 st.2.2.2.2.2) H → va_D A (iX10_drawOrders aZ cI cZ Z_code Z_isBox Z_isArrow Z_from Z_to Z_turned Z_told Z_layers Z_layer q1_0 st.2.1 st.2.2.1 st.2.2.2.1 st.2.2.2.2.1 u2_4 st.2.2.2.2.2) → va_S A s.heap H locs → lv_has ls 4 [(0, .ref (aZ 0)), (2, .int st.1)] → W p l e (headSpec wsX10_drawOrders (rX10_drawOrders)).room s m args below meth c H locs 0 0 Q (F0 m 64 ls []) := by
      intro st hst
      refine q_walk (Wh := fun st : Int32 × (Nat → Int32) × (Nat → Int32) × (Nat → Int32) × (Nat → Int32) × (Nat → Int32) => ∀ (H : Heap) (locs : List Loc) (ls : Array Slot), va_P (dC, dI) vwCl (iX10_drawOrders aZ cI cZ Z_code Z_isBox Z_isArrow Z_from Z_to Z_turned Z_told Z_layers Z_layer q1_0 st.2.1 st.2.2.1 st.2.2.2.1 st.2.2.2.2.1 u2_4 st.2.2.2.2.2) H → va_D A (iX10_drawOrders aZ cI cZ Z_code Z_isBox Z_isArrow Z_from Z_to Z_turned Z_told Z_layers Z_layer q1_0 st.2.1 st.2.2.1 st.2.2.2.1 st.2.2.2.2.1 u2_4 st.2.2.2.2.2) → va_S A s.heap H locs → lv_has ls 4 [(0, .ref (aZ 0)), (2, .int st.1)] → W p l e (headSpec wsX10_drawOrders (rX10_drawOrders)).room s m args below meth c H locs 0 0 Q (F0 m 64 ls [])) ?_ st hst
      clear hst st hF
      intro st o hF hin hex H locs ls hP hD hS hl
      obtain ⟨x2_7, Z_items_7, Z_place_7, Z_dummyPlace_7, Z_row_7, Z_near_7⟩ := st
      replace hF : bX10_drawOrders_64 Z_isArrow Z_from Z_to Z_turned Z_layers Z_layer q1_0 x2_7 Z_items_7 Z_place_7 Z_dummyPlace_7 Z_row_7 Z_near_7 = some o := hF
      replace hP : va_P (dC, dI) vwCl (iX10_drawOrders aZ cI cZ Z_code Z_isBox Z_isArrow Z_from Z_to Z_turned Z_told Z_layers Z_layer q1_0 Z_items_7 Z_place_7 Z_dummyPlace_7 Z_row_7 u2_4 Z_near_7) H := hP
      replace hD : va_D A (iX10_drawOrders aZ cI cZ Z_code Z_isBox Z_isArrow Z_from Z_to Z_turned Z_told Z_layers Z_layer q1_0 Z_items_7 Z_place_7 Z_dummyPlace_7 Z_row_7 u2_4 Z_near_7) := hD
      replace hl : lv_has ls 4 [(0, .ref (aZ 0)), (2, .int x2_7)] := hl
      unfold bX10_drawOrders_64 at hF
      refine lv_iload_n hx hb dX10_drawOrders_64 rfl (lv_at hl 1 rfl) ?_
      refine lv_aload_n hx hb dX10_drawOrders_65 rfl (lv_at hl 0 rfl) ?_
      refine q_get (ci := 10) (C := RX10) (T := TX10) (N := 24) hx hb hts eX10_drawOrders_X10 hown hK hP 0 rfl rfl 9 (Nat.le_of_ble_eq_true rfl) k0 rfl rfl dX10_drawOrders_66 ?_
      refine lv_icmp_ge (tgt := 83) hx hb dX10_drawOrders_69 (by decide) (fun hc => ?_) (fun hc => ?_)
      · replace hF := q_t hc hF
        exact X7 _ _ _ _ _ (hex _ (Option.some.inj hF).symm) H locs ls hP hD hS (lv_sub hl [] rfl)
      · replace hF := q_f hc hF
        refine lv_aload_n hx hb dX10_drawOrders_72 rfl (lv_at hl 0 rfl) ?_
        refine lv_iload_n hx hb dX10_drawOrders_73 rfl (lv_at hl 1 rfl) ?_
        obtain ⟨q8_0, q8_1, q8_2, q8_3, q8_4, hcq8, hF⟩ := q_bd5 hF
        refine q_Vv (As := [.int x2_7]) (rest := []) ⟨hx, hb, hml, hown, hts⟩ hA hK hP hD hS (tX10_exact l dC dI cI cZ aZ H.size Z_code Z_isArrow Z_from Z_to Z_turned Z_told Z_layers Z_layer q1_0 Z_items_7 Z_place_7 Z_dummyPlace_7 Z_row_7 Z_near_7 x2_7 (q8_0, q8_1, q8_2, q8_3, q8_4) hcq8) (cwV 1 hts gX10_drawOrders_X10_exact rfl rfl rfl uX10_exact ⟨Nat.le_of_ble_eq_true rfl, Nat.le_of_ble_eq_true rfl⟩) [0, 2, 3, 4, 5, 6, 7, 8, 9, 10, 11, 13] [(true, 0), (false, 1), (true, 1), (true, 2), (true, 3), (true, 4), (true, 5), (true, 6), (true, 7), (true, 8), (true, 9), (true, 10), (false, 12), (true, 11)] (iX10_drawOrders aZ cI cZ Z_code Z_isBox Z_isArrow Z_from Z_to Z_turned Z_told Z_layers Z_layer q1_0 q8_0 q8_1 q8_2 q8_3 u2_4 q8_4) rfl rfl rfl rfl rfl 10 0 rfl rfl rfl rfl hl.1 rfl (Nat.le_of_ble_eq_true rfl) dX10_drawOrders_74 ⟨Nat.zero_le _, Nat.zero_le _⟩ (fun H locs hP hD hS => ?_)
        refine lv_iinc (v := (x2_7 + 1)) (lv' := [(2, .int (x2_7 + 1)), (0, .ref (aZ 0))]) hx hb dX10_drawOrders_77 hl (k := 1) rfl rfl (by decide) rfl (fun ls hl => ?_)
        refine lv_goto (tgt := 64) hx hb dX10_drawOrders_80 (by decide) ?_
        exact hin _ (Option.some.inj hF).symm H locs ls hP hD hS (lv_sub hl [1, 0] rfl)
    exact L7 (1, u2_0, u2_1, u2_2, u2_3, u2_5) hc7 H locs ls hP hD hS (lv_sub hl [1, 0] rfl)
  have L2 : ∀ st : Int32 × (Nat → Int32) × (Nat → Int32) × (Nat → Int32) × (Nat → Int32) × (Nat → Int32) × (Nat → Int32), q_lo (fun (st : Int32 × (Nat → Int32) × (Nat → Int32) × (Nat → Int32) × (Nat → Int32) × (Nat → Int32) × (Nat → Int32)) => bX10_drawOrders_6 Z_isArrow Z_from Z_to Z_turned Z_layers Z_layer q1_0 p0 st.1 st.2.1 st.2.2.1 st.2.2.2.1 st.2.2.2.2.1 st.2.2.2.2.2.1 st.2.2.2.2.2.2) st = some (q2_0, q2_1, q2_2, q2_3, q2_4, q2_5) → ∀ (H : Heap) (locs : List Loc) (ls : Array Slot), va_P (dC, dI) vwCl (iX10_drawOrders aZ cI cZ Z_code Z_isBox Z_isArrow Z_from Z_to Z_turned Z_told Z_layers Z_layer q1_0 st.2.1 st.2.2.1 st.2.2.2.1 st.2.2.2.2.1 st.2.2.2.2.2.1 st.2.2.2.2.2.2) H → va_D A (iX10_drawOrders aZ cI cZ Z_code Z_isBox Z_isArrow Z_from Z_to Z_turned Z_told Z_layers Z_layer q1_0 st.2.1 st.2.2.1 st.2.2.2.1 st.2.2.2.2.1 st.2.2.2.2.2.1 st.2.2.2.2.2.2) → va_S A s.heap H locs → lv_has ls 4 [(0, .ref (aZ 0)), (1, .int p0), (2, .int st.1)] → W p l e (headSpec wsX10_drawOrders (rX10_drawOrders)).room s m args below meth c H locs 0 0 Q (F0 m 6 ls []) := by
    intro st hst
    refine q_walk (Wh := fun st : Int32 × (Nat → Int32) × (Nat → Int32) × (Nat → Int32) × (Nat → Int32) × (Nat → Int32) × (Nat → Int32) => ∀ (H : Heap) (locs : List Loc) (ls : Array Slot), va_P (dC, dI) vwCl (iX10_drawOrders aZ cI cZ Z_code Z_isBox Z_isArrow Z_from Z_to Z_turned Z_told Z_layers Z_layer q1_0 st.2.1 st.2.2.1 st.2.2.2.1 st.2.2.2.2.1 st.2.2.2.2.2.1 st.2.2.2.2.2.2) H → va_D A (iX10_drawOrders aZ cI cZ Z_code Z_isBox Z_isArrow Z_from Z_to Z_turned Z_told Z_layers Z_layer q1_0 st.2.1 st.2.2.1 st.2.2.2.1 st.2.2.2.2.1 st.2.2.2.2.2.1 st.2.2.2.2.2.2) → va_S A s.heap H locs → lv_has ls 4 [(0, .ref (aZ 0)), (1, .int p0), (2, .int st.1)] → W p l e (headSpec wsX10_drawOrders (rX10_drawOrders)).room s m args below meth c H locs 0 0 Q (F0 m 6 ls [])) ?_ st hst
    clear hst st hF
    intro st o hF hin hex H locs ls hP hD hS hl
    obtain ⟨x2_2, Z_items_2, Z_place_2, Z_dummyPlace_2, Z_row_2, Z_ends_2, Z_near_2⟩ := st
    replace hF : bX10_drawOrders_6 Z_isArrow Z_from Z_to Z_turned Z_layers Z_layer q1_0 p0 x2_2 Z_items_2 Z_place_2 Z_dummyPlace_2 Z_row_2 Z_ends_2 Z_near_2 = some o := hF
    replace hP : va_P (dC, dI) vwCl (iX10_drawOrders aZ cI cZ Z_code Z_isBox Z_isArrow Z_from Z_to Z_turned Z_told Z_layers Z_layer q1_0 Z_items_2 Z_place_2 Z_dummyPlace_2 Z_row_2 Z_ends_2 Z_near_2) H := hP
    replace hD : va_D A (iX10_drawOrders aZ cI cZ Z_code Z_isBox Z_isArrow Z_from Z_to Z_turned Z_told Z_layers Z_layer q1_0 Z_items_2 Z_place_2 Z_dummyPlace_2 Z_row_2 Z_ends_2 Z_near_2) := hD
    replace hl : lv_has ls 4 [(0, .ref (aZ 0)), (1, .int p0), (2, .int x2_2)] := hl
    unfold bX10_drawOrders_6 at hF
    refine lv_iload_n hx hb dX10_drawOrders_6 rfl (lv_at hl 2 rfl) ?_
    refine lv_iload_n hx hb dX10_drawOrders_7 rfl (lv_at hl 1 rfl) ?_
    refine lv_icmp_ge (tgt := 62) hx hb dX10_drawOrders_8 (by decide) (fun hc => ?_) (fun hc => ?_)
    · replace hF := q_t hc hF
      exact X2 _ _ _ _ _ _ (hex _ (Option.some.inj hF).symm) H locs ls hP hD hS (lv_sub hl [0] rfl)
    · replace hF := q_f hc hF
      refine lv_iconst (v := 1) hx hb dX10_drawOrders_11 (by decide) ?_
      refine lv_istore_n (lv' := [(3, .int 1), (0, .ref (aZ 0)), (1, .int p0), (2, .int x2_2)]) hx hb dX10_drawOrders_12 rfl hl (by decide) rfl (fun ls hl => ?_)
      obtain ⟨q3_0, q3_1, q3_2, q3_3, q3_4, q3_5, hc3, hF⟩ := q_bd6 hF
      have X3 : ∀ (u3_0 : Nat → Int32) (u3_1 : Nat → Int32) (u3_2 : Nat → Int32) (u3_3 : Nat → Int32) (u3_4 : Nat → Int32) (u3_5 : Nat → Int32), (u3_0, u3_1, u3_2, u3_3, u3_4, u3_5) = (q3_0, q3_1, q3_2, q3_3, q3_4, q3_5) → ∀ (H : Heap) (locs : List Loc) (ls : Array Slot), va_P (dC, dI) vwCl (iX10_drawOrders aZ cI cZ Z_code Z_isBox Z_isArrow Z_from Z_to Z_turned Z_told Z_layers Z_layer q1_0 u3_0 u3_1 u3_2 u3_3 u3_4 u3_5) H → va_D A (iX10_drawOrders aZ cI cZ Z_code Z_isBox Z_isArrow Z_from Z_to Z_turned Z_told Z_layers Z_layer q1_0 u3_0 u3_1 u3_2 u3_3 u3_4 u3_5) → va_S A s.heap H locs → lv_has ls 4 [(0, .ref (aZ 0)), (1, .int p0), (2, .int x2_2)] → W p l e (headSpec wsX10_drawOrders (rX10_drawOrders)).room s m args below meth c H locs 0 0 Q (F0 m 33 ls []) := by
        intro u3_0 u3_1 u3_2 u3_3 u3_4 u3_5 hu H locs ls hP hD hS hl
        obtain ⟨e0, e1, e2, e3, e4, e5⟩ := q_inj6 hu
        subst e0 e1 e2 e3 e4 e5
        refine lv_aload_n hx hb dX10_drawOrders_33 rfl (lv_at hl 0 rfl) ?_
        refine q_get (ci := 10) (C := RX10) (T := TX10) (N := 24) hx hb hts eX10_drawOrders_X10 hown hK hP 0 rfl rfl 9 (Nat.le_of_ble_eq_true rfl) k0 rfl rfl dX10_drawOrders_34 ?_
        refine lv_iconst (v := 2) hx hb dX10_drawOrders_37 (by decide) ?_
        refine lv_isub hx hb dX10_drawOrders_38 ?_
        refine lv_istore_n (lv' := [(3, .int (Z_layers - 2)), (0, .ref (aZ 0)), (1, .int p0), (2, .int x2_2)]) hx hb dX10_drawOrders_39 rfl hl (by decide) rfl (fun ls hl => ?_)
        obtain ⟨q5_0, q5_1, q5_2, q5_3, q5_4, q5_5, hc5, hF⟩ := q_bd6 hF
        have X5 : ∀ (u5_0 : Nat → Int32) (u5_1 : Nat → Int32) (u5_2 : Nat → Int32) (u5_3 : Nat → Int32) (u5_4 : Nat → Int32) (u5_5 : Nat → Int32), (u5_0, u5_1, u5_2, u5_3, u5_4, u5_5) = (q5_0, q5_1, q5_2, q5_3, q5_4, q5_5) → ∀ (H : Heap) (locs : List Loc) (ls : Array Slot), va_P (dC, dI) vwCl (iX10_drawOrders aZ cI cZ Z_code Z_isBox Z_isArrow Z_from Z_to Z_turned Z_told Z_layers Z_layer q1_0 u5_0 u5_1 u5_2 u5_3 u5_4 u5_5) H → va_D A (iX10_drawOrders aZ cI cZ Z_code Z_isBox Z_isArrow Z_from Z_to Z_turned Z_told Z_layers Z_layer q1_0 u5_0 u5_1 u5_2 u5_3 u5_4 u5_5) → va_S A s.heap H locs → lv_has ls 4 [(0, .ref (aZ 0)), (1, .int p0), (2, .int x2_2)] → W p l e (headSpec wsX10_drawOrders (rX10_drawOrders)).room s m args below meth c H locs 0 0 Q (F0 m 56 ls []) := by
          intro u5_0 u5_1 u5_2 u5_3 u5_4 u5_5 hu H locs ls hP hD hS hl
          obtain ⟨e0, e1, e2, e3, e4, e5⟩ := q_inj6 hu
          subst e0 e1 e2 e3 e4 e5
          refine lv_iinc (v := (x2_2 + 1)) (lv' := [(2, .int (x2_2 + 1)), (0, .ref (aZ 0)), (1, .int p0)]) hx hb dX10_drawOrders_56 hl (k := 2) rfl rfl (by decide) rfl (fun ls hl => ?_)
          refine lv_goto (tgt := 6) hx hb dX10_drawOrders_59 (by decide) ?_
          exact hin _ (Option.some.inj hF).symm H locs ls hP hD hS (lv_sub hl [1, 2, 0] rfl)
        have L5 : ∀ st : Int32 × (Nat → Int32) × (Nat → Int32) × (Nat → Int32) × (Nat → Int32) × (Nat → Int32) × (Nat → Int32), q_lo (fun (st : Int32 × (Nat → Int32) × (Nat → Int32) × (Nat → Int32) × (Nat → Int32) × (Nat → Int32) × (Nat → Int32)) => bX10_drawOrders_40 Z_isArrow Z_from Z_to Z_turned Z_layers Z_layer q1_0 st.1 st.2.1 st.2.2.1 st.2.2.2.1 st.2.2.2.2.1 st.2.2.2.2.2.1 st.2.2.2.2.2.2) st = some (q5_0, q5_1, q5_2, q5_3, q5_4, q5_5) → ∀ (H : Heap) (locs : List Loc) (ls : Array Slot), va_P (dC, dI) vwCl (iX10_drawOrders aZ cI cZ Z_code Z_isBox Z_isArrow Z_from Z_to Z_turned Z_told Z_layers Z_layer q1_0 st.2.1 st.2.2.1 st.2.2.2.1 st.2.2.2.2.1 st.2.2.2.2.2.1 st.2.2.2.2.2.2) H → va_D A (iX10_drawOrders aZ cI cZ Z_code Z_isBox Z_isArrow Z_from Z_to Z_turned Z_told Z_layers Z_layer q1_0 st.2.1 st.2.2.1 st.2.2.2.1 st.2.2.2.2.1 st.2.2.2.2.2.1 st.2.2.2.2.2.2) → va_S A s.heap H locs → lv_has ls 4 [(0, .ref (aZ 0)), (1, .int p0), (2, .int x2_2), (3, .int st.1)] → W p l e (headSpec wsX10_drawOrders (rX10_drawOrders)).room s m args below meth c H locs 0 0 Q (F0 m 40 ls []) := by
          intro st hst
          refine q_walk (Wh := fun st : Int32 × (Nat → Int32) × (Nat → Int32) × (Nat → Int32) × (Nat → Int32) × (Nat → Int32) × (Nat → Int32) => ∀ (H : Heap) (locs : List Loc) (ls : Array Slot), va_P (dC, dI) vwCl (iX10_drawOrders aZ cI cZ Z_code Z_isBox Z_isArrow Z_from Z_to Z_turned Z_told Z_layers Z_layer q1_0 st.2.1 st.2.2.1 st.2.2.2.1 st.2.2.2.2.1 st.2.2.2.2.2.1 st.2.2.2.2.2.2) H → va_D A (iX10_drawOrders aZ cI cZ Z_code Z_isBox Z_isArrow Z_from Z_to Z_turned Z_told Z_layers Z_layer q1_0 st.2.1 st.2.2.1 st.2.2.2.1 st.2.2.2.2.1 st.2.2.2.2.2.1 st.2.2.2.2.2.2) → va_S A s.heap H locs → lv_has ls 4 [(0, .ref (aZ 0)), (1, .int p0), (2, .int x2_2), (3, .int st.1)] → W p l e (headSpec wsX10_drawOrders (rX10_drawOrders)).room s m args below meth c H locs 0 0 Q (F0 m 40 ls [])) ?_ st hst
          clear hst st hF
          intro st o hF hin hex H locs ls hP hD hS hl
          obtain ⟨x3_5, Z_items_5, Z_place_5, Z_dummyPlace_5, Z_row_5, Z_ends_5, Z_near_5⟩ := st
          replace hF : bX10_drawOrders_40 Z_isArrow Z_from Z_to Z_turned Z_layers Z_layer q1_0 x3_5 Z_items_5 Z_place_5 Z_dummyPlace_5 Z_row_5 Z_ends_5 Z_near_5 = some o := hF
          replace hP : va_P (dC, dI) vwCl (iX10_drawOrders aZ cI cZ Z_code Z_isBox Z_isArrow Z_from Z_to Z_turned Z_told Z_layers Z_layer q1_0 Z_items_5 Z_place_5 Z_dummyPlace_5 Z_row_5 Z_ends_5 Z_near_5) H := hP
          replace hD : va_D A (iX10_drawOrders aZ cI cZ Z_code Z_isBox Z_isArrow Z_from Z_to Z_turned Z_told Z_layers Z_layer q1_0 Z_items_5 Z_place_5 Z_dummyPlace_5 Z_row_5 Z_ends_5 Z_near_5) := hD
          replace hl : lv_has ls 4 [(0, .ref (aZ 0)), (1, .int p0), (2, .int x2_2), (3, .int x3_5)] := hl
          unfold bX10_drawOrders_40 at hF
          refine lv_iload_n hx hb dX10_drawOrders_40 rfl (lv_at hl 3 rfl) ?_
          refine lv_if_lt (tgt := 56) hx hb dX10_drawOrders_41 (by decide) (fun hc => ?_) (fun hc => ?_)
          · replace hF := q_t hc hF
            exact X5 _ _ _ _ _ _ (hex _ (Option.some.inj hF).symm) H locs ls hP hD hS (lv_sub hl [0, 1, 2] rfl)
          · replace hF := q_f hc hF
            refine lv_aload_n hx hb dX10_drawOrders_44 rfl (lv_at hl 0 rfl) ?_
            refine lv_iload_n hx hb dX10_drawOrders_45 rfl (lv_at hl 3 rfl) ?_
            refine lv_iconst (v := 0) hx hb dX10_drawOrders_46 (by decide) ?_
            obtain ⟨q6_0, q6_1, q6_2, q6_3, q6_4, q6_5, hcq6, hF⟩ := q_bd6 hF
            refine q_Vv (As := [.int x3_5, .int 0]) (rest := []) ⟨hx, hb, hml, hown, hts⟩ hA hK hP hD hS (tX10_step l dC dI cI cZ aZ H.size Z_code Z_isArrow Z_from Z_to Z_turned Z_told Z_layers Z_layer q1_0 Z_items_5 Z_place_5 Z_dummyPlace_5 Z_row_5 Z_ends_5 Z_near_5 x3_5 0 (q6_0, q6_1, q6_2, q6_3, q6_4, q6_5) hcq6) (cwV 2 hts gX10_drawOrders_X10_step rfl rfl rfl uX10_step ⟨Nat.le_of_ble_eq_true rfl, Nat.le_of_ble_eq_true rfl⟩) [0, 2, 3, 4, 5, 6, 7, 8, 9, 10, 11, 12, 13] [(true, 0), (false, 1), (true, 1), (true, 2), (true, 3), (true, 4), (true, 5), (true, 6), (true, 7), (true, 8), (true, 9), (true, 10), (true, 11), (true, 12)] (iX10_drawOrders aZ cI cZ Z_code Z_isBox Z_isArrow Z_from Z_to Z_turned Z_told Z_layers Z_layer q1_0 q6_0 q6_1 q6_2 q6_3 q6_4 q6_5) rfl rfl rfl rfl rfl 10 0 rfl rfl rfl rfl hl.1 rfl (Nat.le_of_ble_eq_true rfl) dX10_drawOrders_47 ⟨Nat.zero_le _, Nat.zero_le _⟩ (fun H locs hP hD hS => ?_)
            refine lv_iinc (v := (x3_5 + (-1))) (lv' := [(3, .int (x3_5 + (-1))), (0, .ref (aZ 0)), (1, .int p0), (2, .int x2_2)]) hx hb dX10_drawOrders_50 hl (k := 3) rfl rfl (by decide) rfl (fun ls hl => ?_)
            refine lv_goto (tgt := 40) hx hb dX10_drawOrders_53 (by decide) ?_
            exact hin _ (Option.some.inj hF).symm H locs ls hP hD hS (lv_sub hl [1, 2, 3, 0] rfl)
        exact L5 ((Z_layers - 2), u3_0, u3_1, u3_2, u3_3, u3_4, u3_5) hc5 H locs ls hP hD hS (lv_sub hl [1, 2, 3, 0] rfl)
      have L3 : ∀ st : Int32 × (Nat → Int32) × (Nat → Int32) × (Nat → Int32) × (Nat → Int32) × (Nat → Int32) × (Nat → Int32), q_lo (fun (st : Int32 × (Nat → Int32) × (Nat → Int32) × (Nat → Int32) × (Nat → Int32) × (Nat → Int32) × (Nat → Int32)) => bX10_drawOrders_13 Z_isArrow Z_from Z_to Z_turned Z_layers Z_layer q1_0 st.1 st.2.1 st.2.2.1 st.2.2.2.1 st.2.2.2.2.1 st.2.2.2.2.2.1 st.2.2.2.2.2.2) st = some (q3_0, q3_1, q3_2, q3_3, q3_4, q3_5) → ∀ (H : Heap) (locs : List Loc) (ls : Array Slot), va_P (dC, dI) vwCl (iX10_drawOrders aZ cI cZ Z_code Z_isBox Z_isArrow Z_from Z_to Z_turned Z_told Z_layers Z_layer q1_0 st.2.1 st.2.2.1 st.2.2.2.1 st.2.2.2.2.1 st.2.2.2.2.2.1 st.2.2.2.2.2.2) H → va_D A (iX10_drawOrders aZ cI cZ Z_code Z_isBox Z_isArrow Z_from Z_to Z_turned Z_told Z_layers Z_layer q1_0 st.2.1 st.2.2.1 st.2.2.2.1 st.2.2.2.2.1 st.2.2.2.2.2.1 st.2.2.2.2.2.2) → va_S A s.heap H locs → lv_has ls 4 [(0, .ref (aZ 0)), (1, .int p0), (2, .int x2_2), (3, .int st.1)] → W p l e (headSpec wsX10_drawOrders (rX10_drawOrders)).room s m args below meth c H locs 0 0 Q (F0 m 13 ls []) := by
        intro st hst
        refine q_walk (Wh := fun st : Int32 × (Nat → Int32) × (Nat → Int32) × (Nat → Int32) × (Nat → Int32) × (Nat → Int32) × (Nat → Int32) => ∀ (H : Heap) (locs : List Loc) (ls : Array Slot), va_P (dC, dI) vwCl (iX10_drawOrders aZ cI cZ Z_code Z_isBox Z_isArrow Z_from Z_to Z_turned Z_told Z_layers Z_layer q1_0 st.2.1 st.2.2.1 st.2.2.2.1 st.2.2.2.2.1 st.2.2.2.2.2.1 st.2.2.2.2.2.2) H → va_D A (iX10_drawOrders aZ cI cZ Z_code Z_isBox Z_isArrow Z_from Z_to Z_turned Z_told Z_layers Z_layer q1_0 st.2.1 st.2.2.1 st.2.2.2.1 st.2.2.2.2.1 st.2.2.2.2.2.1 st.2.2.2.2.2.2) → va_S A s.heap H locs → lv_has ls 4 [(0, .ref (aZ 0)), (1, .int p0), (2, .int x2_2), (3, .int st.1)] → W p l e (headSpec wsX10_drawOrders (rX10_drawOrders)).room s m args below meth c H locs 0 0 Q (F0 m 13 ls [])) ?_ st hst
        clear hst st hF
        intro st o hF hin hex H locs ls hP hD hS hl
        obtain ⟨x3_3, Z_items_3, Z_place_3, Z_dummyPlace_3, Z_row_3, Z_ends_3, Z_near_3⟩ := st
        replace hF : bX10_drawOrders_13 Z_isArrow Z_from Z_to Z_turned Z_layers Z_layer q1_0 x3_3 Z_items_3 Z_place_3 Z_dummyPlace_3 Z_row_3 Z_ends_3 Z_near_3 = some o := hF
        replace hP : va_P (dC, dI) vwCl (iX10_drawOrders aZ cI cZ Z_code Z_isBox Z_isArrow Z_from Z_to Z_turned Z_told Z_layers Z_layer q1_0 Z_items_3 Z_place_3 Z_dummyPlace_3 Z_row_3 Z_ends_3 Z_near_3) H := hP
        replace hD : va_D A (iX10_drawOrders aZ cI cZ Z_code Z_isBox Z_isArrow Z_from Z_to Z_turned Z_told Z_layers Z_layer q1_0 Z_items_3 Z_place_3 Z_dummyPlace_3 Z_row_3 Z_ends_3 Z_near_3) := hD
        replace hl : lv_has ls 4 [(0, .ref (aZ 0)), (1, .int p0), (2, .int x2_2), (3, .int x3_3)] := hl
        unfold bX10_drawOrders_13 at hF
        refine lv_iload_n hx hb dX10_drawOrders_13 rfl (lv_at hl 3 rfl) ?_
        refine lv_aload_n hx hb dX10_drawOrders_14 rfl (lv_at hl 0 rfl) ?_
        refine q_get (ci := 10) (C := RX10) (T := TX10) (N := 24) hx hb hts eX10_drawOrders_X10 hown hK hP 0 rfl rfl 9 (Nat.le_of_ble_eq_true rfl) k0 rfl rfl dX10_drawOrders_15 ?_
        refine lv_icmp_ge (tgt := 33) hx hb dX10_drawOrders_18 (by decide) (fun hc => ?_) (fun hc => ?_)
        · replace hF := q_t hc hF
          exact X3 _ _ _ _ _ _ (hex _ (Option.some.inj hF).symm) H locs ls hP hD hS (lv_sub hl [0, 1, 2] rfl)
        · replace hF := q_f hc hF
          refine lv_aload_n hx hb dX10_drawOrders_21 rfl (lv_at hl 0 rfl) ?_
          refine lv_iload_n hx hb dX10_drawOrders_22 rfl (lv_at hl 3 rfl) ?_
          refine lv_iconst (v := 1) hx hb dX10_drawOrders_23 (by decide) ?_
          obtain ⟨q4_0, q4_1, q4_2, q4_3, q4_4, q4_5, hcq4, hF⟩ := q_bd6 hF
          refine q_Vv (As := [.int x3_3, .int 1]) (rest := []) ⟨hx, hb, hml, hown, hts⟩ hA hK hP hD hS (tX10_step l dC dI cI cZ aZ H.size Z_code Z_isArrow Z_from Z_to Z_turned Z_told Z_layers Z_layer q1_0 Z_items_3 Z_place_3 Z_dummyPlace_3 Z_row_3 Z_ends_3 Z_near_3 x3_3 1 (q4_0, q4_1, q4_2, q4_3, q4_4, q4_5) hcq4) (cwV 2 hts gX10_drawOrders_X10_step rfl rfl rfl uX10_step ⟨Nat.le_of_ble_eq_true rfl, Nat.le_of_ble_eq_true rfl⟩) [0, 2, 3, 4, 5, 6, 7, 8, 9, 10, 11, 12, 13] [(true, 0), (false, 1), (true, 1), (true, 2), (true, 3), (true, 4), (true, 5), (true, 6), (true, 7), (true, 8), (true, 9), (true, 10), (true, 11), (true, 12)] (iX10_drawOrders aZ cI cZ Z_code Z_isBox Z_isArrow Z_from Z_to Z_turned Z_told Z_layers Z_layer q1_0 q4_0 q4_1 q4_2 q4_3 q4_4 q4_5) rfl rfl rfl rfl rfl 10 0 rfl rfl rfl rfl hl.1 rfl (Nat.le_of_ble_eq_true rfl) dX10_drawOrders_24 ⟨Nat.zero_le _, Nat.zero_le _⟩ (fun H locs hP hD hS => ?_)
          refine lv_iinc (v := (x3_3 + 1)) (lv' := [(3, .int (x3_3 + 1)), (0, .ref (aZ 0)), (1, .int p0), (2, .int x2_2)]) hx hb dX10_drawOrders_27 hl (k := 3) rfl rfl (by decide) rfl (fun ls hl => ?_)
          refine lv_goto (tgt := 13) hx hb dX10_drawOrders_30 (by decide) ?_
          exact hin _ (Option.some.inj hF).symm H locs ls hP hD hS (lv_sub hl [1, 2, 3, 0] rfl)
      exact L3 (1, Z_items_2, Z_place_2, Z_dummyPlace_2, Z_row_2, Z_ends_2, Z_near_2) hc3 H locs ls hP hD hS (lv_sub hl [1, 2, 3, 0] rfl)
  exact L2 (0, q1_1, q1_2, q1_3, Z_row, Z_ends, Z_near) hc2 H locs ls hP hD hS (lv_sub hl [1, 2, 0] rfl)
abbrev rX10_pass : Room := { frames := 2, cells := 0, slots := 0, locals := 44 }
theorem eX10_pass_X10 : ∀ w ∈ u_ws RX10 TX10 24, w ∈ wsX10_pass := by decide +kernel
theorem uX10_pass : yX10_pass.cls = RX10 ∧ yX10_pass.cls ≠ "java/lang/invoke/MethodHandle" ∧ yX10_pass.cls ≠ "java/lang/invoke/VarHandle" ∧ (parseMethodDescriptor yX10_pass.desc).map (fun d => d.parameters.length) = some 2 := by decide +kernel
set_option maxHeartbeats 4000000 in
set_option maxRecDepth 100000 in
theorem tX10_pass (l : Launch) (dC : Nat → ClassId) (dI : Nat → Nat → Nat) (cI cZ : ClassId) (aZ : Nat → Nat) (sz : Nat) (Z_code : Int32) (Z_width : Nat → Int32) (Z_isArrow : Nat → Int32) (Z_from : Nat → Int32) (Z_to : Nat → Int32) (Z_turned : Nat → Int32) (Z_told : Int32) (Z_layers : Int32) (Z_layer : Nat → Int32) (Z_sizes : Nat → Int32) (Z_items : Nat → Int32) (Z_place : Nat → Int32) (Z_dummyPlace : Nat → Int32) (Z_xs : Nat → Int32) (p0 : Int32) (p1 : Int32) (res : (Nat → Int32)) (hF : fX10_pass Z_width Z_isArrow Z_from Z_to Z_turned Z_layer Z_sizes Z_items Z_place Z_dummyPlace Z_xs p0 p1 = some res) : q_Mv l yX10_pass wsX10_pass rX10_pass (dC, dI) (q_ty cI cZ) [.ref (aZ 0), .int p0, .int p1] (iX10_pass aZ cI cZ Z_code Z_width Z_isArrow Z_from Z_to Z_turned Z_told Z_layers Z_layer Z_sizes Z_items Z_place Z_dummyPlace Z_xs) (iX10_pass aZ cI cZ Z_code Z_width Z_isArrow Z_from Z_to Z_turned Z_told Z_layers Z_layer Z_sizes Z_items Z_place Z_dummyPlace res) sz := by
  refine q_metv (cc := cX10_pass) (maxL := 9) (by decide) rfl (Nat.le_of_ble_eq_true rfl) ?_
  intro p e s m args below meth c Q A H locs ls C hP hD hS hl hret
  obtain ⟨hx, hb, hml, hown, hts, hA, hK⟩ := C
  replace hl : lv_has ls 9 [(0, .ref (aZ 0)), (1, .int p0), (2, .int p1)] := hl
  have k0 := hts (.fieldLink RX10 47 "RouteLayoutModel" "xs" "[I") (by decide +kernel)
  have k1 := hts (.fieldLink RX10 35 "RouteLayoutModel" "sizes" "[I") (by decide +kernel)
  unfold fX10_pass at hF
  refine lv_iconst (v := 0) hx hb dX10_pass_0 (by decide) ?_
  refine lv_istore_n (lv' := [(3, .int 0), (0, .ref (aZ 0)), (1, .int p0), (2, .int p1)]) hx hb dX10_pass_1 rfl hl (by decide) rfl (fun ls hl => ?_)
  refine lv_iconst (v := 0) hx hb dX10_pass_2 (by decide) ?_
  refine lv_istore (lv' := [(4, .int 0), (3, .int 0), (0, .ref (aZ 0)), (1, .int p0), (2, .int p1)]) hx hb dX10_pass_3 hl (by decide) rfl (fun ls hl => ?_)
  obtain ⟨q1, hc1, hF⟩ := q_bd hF
  have X1 : ∀ (u1 : Nat → Int32), u1 = q1 → ∀ (H : Heap) (locs : List Loc) (ls : Array Slot), va_P (dC, dI) vwCl (iX10_pass aZ cI cZ Z_code Z_width Z_isArrow Z_from Z_to Z_turned Z_told Z_layers Z_layer Z_sizes Z_items Z_place Z_dummyPlace u1) H → va_D A (iX10_pass aZ cI cZ Z_code Z_width Z_isArrow Z_from Z_to Z_turned Z_told Z_layers Z_layer Z_sizes Z_items Z_place Z_dummyPlace u1) → va_S A s.heap H locs → lv_has ls 9 [] → W p l e (headSpec wsX10_pass (rX10_pass)).room s m args below meth c H locs 0 0 Q (F0 m 237 ls []) := by
    intro u1 hu H locs ls hP hD hS hl
    subst hu
    exact hret H locs ls 237 _ dX10_pass_237 (congrArg (fun z : (Nat → Int32) => (iX10_pass aZ cI cZ Z_code Z_width Z_isArrow Z_from Z_to Z_turned Z_told Z_layers Z_layer Z_sizes Z_items Z_place Z_dummyPlace z)) (Option.some.inj hF)) hP hD hS
  have L1 : ∀ st : Int32 × Int32 × (Nat → Int32), q_lo (fun (st : Int32 × Int32 × (Nat → Int32)) => bX10_pass_5 Z_width Z_isArrow Z_from Z_to Z_turned Z_layer Z_sizes Z_items Z_place Z_dummyPlace p0 p1 st.1 st.2.1 st.2.2) st = some q1 → ∀ (H : Heap) (locs : List Loc) (ls : Array Slot), va_P (dC, dI) vwCl (iX10_pass aZ cI cZ Z_code Z_width Z_isArrow Z_from Z_to Z_turned Z_told Z_layers Z_layer Z_sizes Z_items Z_place Z_dummyPlace st.2.2) H → va_D A (iX10_pass aZ cI cZ Z_code Z_width Z_isArrow Z_from Z_to Z_turned Z_told Z_layers Z_layer Z_sizes Z_items Z_place Z_dummyPlace st.2.2) → va_S A s.heap H locs → lv_has ls 9 [(0, .ref (aZ 0)), (1, .int p0), (2, .int p1), (3, .int st.1), (4, .int st.2.1)] → W p l e (headSpec wsX10_pass (rX10_pass)).room s m args below meth c H locs 0 0 Q (F0 m 5 ls []) := by
    intro st hst
    refine q_walk (Wh := fun st : Int32 × Int32 × (Nat → Int32) => ∀ (H : Heap) (locs : List Loc) (ls : Array Slot), va_P (dC, dI) vwCl (iX10_pass aZ cI cZ Z_code Z_width Z_isArrow Z_from Z_to Z_turned Z_told Z_layers Z_layer Z_sizes Z_items Z_place Z_dummyPlace st.2.2) H → va_D A (iX10_pass aZ cI cZ Z_code Z_width Z_isArrow Z_from Z_to Z_turned Z_told Z_layers Z_layer Z_sizes Z_items Z_place Z_dummyPlace st.2.2) → va_S A s.heap H locs → lv_has ls 9 [(0, .ref (aZ 0)), (1, .int p0), (2, .int p1), (3, .int st.1), (4, .int st.2.1)] → W p l e (headSpec wsX10_pass (rX10_pass)).room s m args below meth c H locs 0 0 Q (F0 m 5 ls [])) ?_ st hst
    clear hst st hF
    intro st o hF hin hex H locs ls hP hD hS hl
    obtain ⟨x3_1, x4_1, Z_xs_1⟩ := st
    replace hF : bX10_pass_5 Z_width Z_isArrow Z_from Z_to Z_turned Z_layer Z_sizes Z_items Z_place Z_dummyPlace p0 p1 x3_1 x4_1 Z_xs_1 = some o := hF
    replace hP : va_P (dC, dI) vwCl (iX10_pass aZ cI cZ Z_code Z_width Z_isArrow Z_from Z_to Z_turned Z_told Z_layers Z_layer Z_sizes Z_items Z_place Z_dummyPlace Z_xs_1) H := hP
    replace hD : va_D A (iX10_pass aZ cI cZ Z_code Z_width Z_isArrow Z_from Z_to Z_turned Z_told Z_layers Z_layer Z_sizes Z_items Z_place Z_dummyPlace Z_xs_1) := hD
    replace hl : lv_has ls 9 [(0, .ref (aZ 0)), (1, .int p0), (2, .int p1), (3, .int x3_1), (4, .int x4_1)] := hl
    unfold bX10_pass_5 at hF
    have JX10_PASS_211 : ∀ (Z_xs_2 : Nat → Int32) (x4_2 : Int32) (x7_2 : Int32) (x8_2 : Int32), jX10_pass_211 Z_xs_2 p0 p1 x4_2 x7_2 x8_2 = some o → ∀ (H : Heap) (locs : List Loc) (ls : Array Slot), va_P (dC, dI) vwCl (iX10_pass aZ cI cZ Z_code Z_width Z_isArrow Z_from Z_to Z_turned Z_told Z_layers Z_layer Z_sizes Z_items Z_place Z_dummyPlace Z_xs_2) H → va_D A (iX10_pass aZ cI cZ Z_code Z_width Z_isArrow Z_from Z_to Z_turned Z_told Z_layers Z_layer Z_sizes Z_items Z_place Z_dummyPlace Z_xs_2) → va_S A s.heap H locs → lv_has ls 9 [(0, .ref (aZ 0)), (1, .int p0), (2, .int p1), (4, .int x4_2), (7, .int x7_2), (8, .int x8_2)] → W p l e (headSpec wsX10_pass (rX10_pass)).room s m args below meth c H locs 0 0 Q (F0 m 211 ls []) := by
      intro Z_xs_2 x4_2 x7_2 x8_2 hF H locs ls hP hD hS hl
      unfold jX10_pass_211 at hF
      refine lv_aload_n hx hb dX10_pass_211 rfl (lv_at hl 0 rfl) ?_
      refine q_get (ci := 10) (C := RX10) (T := TX10) (N := 24) hx hb hts eX10_pass_X10 hown hK hP 0 rfl rfl 15 (Nat.le_of_ble_eq_true rfl) k0 rfl rfl dX10_pass_212 ?_
      refine lv_bipush (v := 40) hx hb dX10_pass_215 (by decide) ?_
      refine lv_iload_n hx hb dX10_pass_217 rfl (lv_at hl 1 rfl) ?_
      refine lv_imul hx hb dX10_pass_218 ?_
      refine lv_iload hx hb dX10_pass_219 (lv_at hl 3 rfl) ?_
      refine lv_iadd hx hb dX10_pass_221 ?_
      refine lv_iload hx hb dX10_pass_222 (lv_at hl 5 rfl) ?_
      obtain ⟨hn3, hF⟩ := q_ck hF
      refine q_iast hx hb hK hP hD hS 11 0 (iX10_pass aZ cI cZ Z_code Z_width Z_isArrow Z_from Z_to Z_turned Z_told Z_layers Z_layer Z_sizes Z_items Z_place Z_dummyPlace (upd Z_xs_2 ((40 * p0) + x4_2).toNatClampNeg x8_2)) rfl rfl hn3 rfl dX10_pass_224 (fun H locs hP hD hS => ?_)
      refine lv_iload hx hb dX10_pass_225 (lv_at hl 5 rfl) ?_
      refine lv_iload hx hb dX10_pass_227 (lv_at hl 4 rfl) ?_
      refine lv_iadd hx hb dX10_pass_229 ?_
      refine lv_istore_n (lv' := [(3, .int (x8_2 + x7_2)), (0, .ref (aZ 0)), (1, .int p0), (2, .int p1), (4, .int x4_2), (7, .int x7_2), (8, .int x8_2)]) hx hb dX10_pass_230 rfl hl (by decide) rfl (fun ls hl => ?_)
      refine lv_iinc (v := (x4_2 + 1)) (lv' := [(4, .int (x4_2 + 1)), (3, .int (x8_2 + x7_2)), (0, .ref (aZ 0)), (1, .int p0), (2, .int p1), (7, .int x7_2), (8, .int x8_2)]) hx hb dX10_pass_231 hl (k := 4) rfl rfl (by decide) rfl (fun ls hl => ?_)
      refine lv_goto (tgt := 5) hx hb dX10_pass_234 (by decide) ?_
      exact hin _ (Option.some.inj hF).symm H locs ls hP hD hS (lv_sub hl [2, 3, 4, 1, 0] rfl)
    have JX10_PASS_191 : ∀ (Z_xs_4 : Nat → Int32) (x3_4 : Int32) (x4_4 : Int32) (x7_4 : Int32) (s0_4 : Int32), jX10_pass_191 Z_xs_4 p0 p1 x3_4 x4_4 x7_4 s0_4 = some o → ∀ (H : Heap) (locs : List Loc) (ls : Array Slot), va_P (dC, dI) vwCl (iX10_pass aZ cI cZ Z_code Z_width Z_isArrow Z_from Z_to Z_turned Z_told Z_layers Z_layer Z_sizes Z_items Z_place Z_dummyPlace Z_xs_4) H → va_D A (iX10_pass aZ cI cZ Z_code Z_width Z_isArrow Z_from Z_to Z_turned Z_told Z_layers Z_layer Z_sizes Z_items Z_place Z_dummyPlace Z_xs_4) → va_S A s.heap H locs → lv_has ls 9 [(0, .ref (aZ 0)), (1, .int p0), (2, .int p1), (3, .int x3_4), (4, .int x4_4), (7, .int x7_4)] → W p l e (headSpec wsX10_pass (rX10_pass)).room s m args below meth c H locs 0 0 Q (F0 m 191 ls [.int s0_4]) := by
      intro Z_xs_4 x3_4 x4_4 x7_4 s0_4 hF H locs ls hP hD hS hl
      unfold jX10_pass_191 at hF
      refine lv_istore (lv' := [(8, .int s0_4), (0, .ref (aZ 0)), (1, .int p0), (2, .int p1), (3, .int x3_4), (4, .int x4_4), (7, .int x7_4)]) hx hb dX10_pass_191 hl (by decide) rfl (fun ls hl => ?_)
      refine lv_iload hx hb dX10_pass_193 (lv_at hl 5 rfl) ?_
      refine lv_if_le (tgt := 211) hx hb dX10_pass_195 (by decide) (fun hc => ?_) (fun hc => ?_)
      · replace hF := q_t hc hF
        exact JX10_PASS_211 Z_xs_4 x4_4 x7_4 s0_4 hF H locs ls hP hD hS (lv_sub hl [1, 2, 3, 5, 6, 0] rfl)
      · replace hF := q_f hc hF
        refine lv_iload hx hb dX10_pass_198 (lv_at hl 0 rfl) ?_
        refine lv_iload_n hx hb dX10_pass_200 rfl (lv_at hl 4 rfl) ?_
        refine lv_iconst (v := 4) hx hb dX10_pass_201 (by decide) ?_
        refine lv_iadd hx hb dX10_pass_202 ?_
        refine lv_icmp_ge (tgt := 211) hx hb dX10_pass_203 (by decide) (fun hc => ?_) (fun hc => ?_)
        · replace hF := q_t hc hF
          exact JX10_PASS_211 Z_xs_4 x4_4 x7_4 s0_4 hF H locs ls hP hD hS (lv_sub hl [1, 2, 3, 5, 6, 0] rfl)
        · replace hF := q_f hc hF
          refine lv_iload_n hx hb dX10_pass_206 rfl (lv_at hl 4 rfl) ?_
          refine lv_iconst (v := 4) hx hb dX10_pass_207 (by decide) ?_
          refine lv_iadd hx hb dX10_pass_208 ?_
          refine lv_istore (lv' := [(8, .int (x3_4 + 4)), (0, .ref (aZ 0)), (1, .int p0), (2, .int p1), (3, .int x3_4), (4, .int x4_4), (7, .int x7_4)]) hx hb dX10_pass_209 hl (by decide) rfl (fun ls hl => ?_)
          exact JX10_PASS_211 Z_xs_4 x4_4 x7_4 (x3_4 + 4) hF H locs ls hP hD hS (lv_sub hl [1, 2, 3, 5, 6, 0] rfl)
    refine lv_iload hx hb dX10_pass_5 (lv_at hl 4 rfl) ?_
    refine lv_aload_n hx hb dX10_pass_7 rfl (lv_at hl 0 rfl) ?_
    refine q_get (ci := 10) (C := RX10) (T := TX10) (N := 24) hx hb hts eX10_pass_X10 hown hK hP 0 rfl rfl 11 (Nat.le_of_ble_eq_true rfl) k1 rfl rfl dX10_pass_8 ?_
    refine lv_iload_n hx hb dX10_pass_11 rfl (lv_at hl 1 rfl) ?_
    obtain ⟨hn5, hF⟩ := q_ck hF
    refine va_iald hx hb hK hP 7 0 rfl rfl hn5 dX10_pass_12 ?_
    refine lv_icmp_ge (tgt := 237) hx hb dX10_pass_13 (by decide) (fun hc => ?_) (fun hc => ?_)
    · replace hF := q_t hc hF
      exact X1 _ (hex _ (Option.some.inj hF).symm) H locs ls hP hD hS (lv_sub hl [] rfl)
    · replace hF := q_f hc hF
      refine lv_iconst (v := 0) hx hb dX10_pass_16 (by decide) ?_
      refine lv_istore (lv' := [(5, .int 0), (0, .ref (aZ 0)), (1, .int p0), (2, .int p1), (3, .int x3_1), (4, .int x4_1)]) hx hb dX10_pass_17 hl (by decide) rfl (fun ls hl => ?_)
      refine lv_iconst (v := 0) hx hb dX10_pass_19 (by decide) ?_
      refine lv_istore (lv' := [(6, .int 0), (5, .int 0), (0, .ref (aZ 0)), (1, .int p0), (2, .int p1), (3, .int x3_1), (4, .int x4_1)]) hx hb dX10_pass_20 hl (by decide) rfl (fun ls hl => ?_)
      refine lv_iconst (v := 0) hx hb dX10_pass_22 (by decide) ?_
      refine lv_istore (lv' := [(7, .int 0), (6, .int 0), (5, .int 0), (0, .ref (aZ 0)), (1, .int p0), (2, .int p1), (3, .int x3_1), (4, .int x4_1)]) hx hb dX10_pass_23 hl (by decide) rfl (fun ls hl => ?_)
      obtain ⟨q6_0, q6_1, hc6, hF⟩ := q_bd2 hF
      have X6 : ∀ (u6_0 : Int32) (u6_1 : Int32), (u6_0, u6_1) = (q6_0, q6_1) → ∀ (H : Heap) (locs : List Loc) (ls : Array Slot), va_P (dC, dI) vwCl (iX10_pass aZ cI cZ Z_code Z_width Z_isArrow Z_from Z_to Z_turned Z_told Z_layers Z_layer Z_sizes Z_items Z_place Z_dummyPlace Z_xs_1) H → va_D A (iX10_pass aZ cI cZ Z_code Z_width Z_isArrow Z_from Z_to Z_turned Z_told Z_layers Z_layer Z_sizes Z_items Z_place Z_dummyPlace Z_xs_1) → va_S A s.heap H locs → lv_has ls 9 [(0, .ref (aZ 0)), (1, .int p0), (2, .int p1), (3, .int x3_1), (4, .int x4_1), (5, .int u6_0), (6, .int u6_1)] → W p l e (headSpec wsX10_pass (rX10_pass)).room s m args below meth c H locs 0 0 Q (F0 m 146 ls []) := by
        intro u6_0 u6_1 hu H locs ls hP hD hS hl
        obtain ⟨e0, e1⟩ := q_inj2 hu
        subst e0 e1
        refine lv_aload_n hx hb dX10_pass_146 rfl (lv_at hl 0 rfl) ?_
        refine lv_aload_n hx hb dX10_pass_147 rfl (lv_at hl 0 rfl) ?_
        refine lv_iload_n hx hb dX10_pass_148 rfl (lv_at hl 1 rfl) ?_
        refine lv_iload hx hb dX10_pass_149 (lv_at hl 4 rfl) ?_
        obtain ⟨q18, hcq18, hF⟩ := q_bd hF
        refine q_Vi (As := [.int p0, .int x4_1]) (rest := [.ref (aZ 0)]) ⟨hx, hb, hml, hown, hts⟩ hA hK hP hD hS (tX10_item0 l dC dI cI cZ aZ H.size Z_code Z_told Z_layers Z_items p0 x4_1 q18 hcq18) (cwV 2 hts gX10_pass_X10_item0 rfl rfl rfl uX10_item0 ⟨Nat.le_of_ble_eq_true rfl, Nat.le_of_ble_eq_true rfl⟩) [0, 8] [(true, 0), (false, 1), (false, 2), (false, 3), (false, 4), (false, 5), (false, 6), (false, 7), (true, 1), (false, 9), (false, 10), (false, 11)] (iX10_pass aZ cI cZ Z_code Z_width Z_isArrow Z_from Z_to Z_turned Z_told Z_layers Z_layer Z_sizes Z_items Z_place Z_dummyPlace Z_xs_1) rfl rfl rfl rfl rfl 10 0 rfl rfl rfl rfl hl.1 rfl (Nat.le_of_ble_eq_true rfl) dX10_pass_151 ⟨Nat.zero_le _, Nat.zero_le _⟩ (fun H locs hP hD hS => ?_)
        obtain ⟨q19, hcq19, hF⟩ := q_bd hF
        refine q_Vi (As := [.int q18]) (rest := []) ⟨hx, hb, hml, hown, hts⟩ hA hK hP hD hS (tX10_widthOf l dC dI cI cZ aZ H.size Z_code Z_width Z_told Z_layers q18 q19 hcq19) (cwV 1 hts gX10_pass_X10_widthOf rfl rfl rfl uX10_widthOf ⟨Nat.le_of_ble_eq_true rfl, Nat.le_of_ble_eq_true rfl⟩) [0, 1] [(true, 0), (true, 1), (false, 2), (false, 3), (false, 4), (false, 5), (false, 6), (false, 7), (false, 8), (false, 9), (false, 10), (false, 11)] (iX10_pass aZ cI cZ Z_code Z_width Z_isArrow Z_from Z_to Z_turned Z_told Z_layers Z_layer Z_sizes Z_items Z_place Z_dummyPlace Z_xs_1) rfl rfl rfl rfl rfl 10 0 rfl rfl rfl rfl hl.1 rfl (Nat.le_of_ble_eq_true rfl) dX10_pass_154 ⟨Nat.zero_le _, Nat.zero_le _⟩ (fun H locs hP hD hS => ?_)
        refine lv_istore (lv' := [(7, .int q19), (0, .ref (aZ 0)), (1, .int p0), (2, .int p1), (3, .int x3_1), (4, .int x4_1), (5, .int u6_0), (6, .int u6_1)]) hx hb dX10_pass_157 hl (by decide) rfl (fun ls hl => ?_)
        refine lv_iload hx hb dX10_pass_159 (lv_at hl 6 rfl) ?_
        refine lv_if_ne (tgt := 179) hx hb dX10_pass_161 (by decide) (fun hc => ?_) (fun hc => ?_)
        · replace hF := q_f hc hF
          refine lv_iload hx hb dX10_pass_179 (lv_at hl 7 rfl) ?_
          refine lv_iload hx hb dX10_pass_181 (lv_at hl 6 rfl) ?_
          obtain ⟨q20, hcq20, hF⟩ := q_bd hF
          refine q_Si (As := [.int u6_1, .int u6_0]) (rest := []) ⟨hx, hb, hml, hown, hts⟩ hA hK hP hD hS (tX10_down l dC dI cI cZ H.size u6_1 u6_0 q20 hcq20) (va_cwS 2 hts gX10_pass_X10_down rfl rfl rfl uX10_down ⟨Nat.le_of_ble_eq_true rfl, Nat.le_of_ble_eq_true rfl⟩) [] [(false, 0), (false, 1), (false, 2), (false, 3), (false, 4), (false, 5), (false, 6), (false, 7), (false, 8), (false, 9), (false, 10), (false, 11)] (iX10_pass aZ cI cZ Z_code Z_width Z_isArrow Z_from Z_to Z_turned Z_told Z_layers Z_layer Z_sizes Z_items Z_place Z_dummyPlace Z_xs_1) rfl rfl rfl rfl rfl rfl hl.1 rfl (Nat.le_of_ble_eq_true rfl) dX10_pass_183 ⟨Nat.zero_le _, Nat.zero_le _⟩ (fun H locs hP hD hS => ?_)
          refine lv_iload hx hb dX10_pass_186 (lv_at hl 0 rfl) ?_
          refine lv_iconst (v := 2) hx hb dX10_pass_188 (by decide) ?_
          refine lv_idiv hx hb dX10_pass_189 (by decide) ?_
          refine lv_isub hx hb dX10_pass_190 ?_
          exact JX10_PASS_191 Z_xs_1 x3_1 x4_1 q19 (q20 - (q19 / 2)) hF H locs ls hP hD hS (lv_sub hl [1, 2, 3, 4, 5, 0] rfl)
        · replace hF := q_t hc hF
          refine lv_aload_n hx hb dX10_pass_164 rfl (lv_at hl 1 rfl) ?_
          refine q_get (ci := 10) (C := RX10) (T := TX10) (N := 24) hx hb hts eX10_pass_X10 hown hK hP 0 rfl rfl 15 (Nat.le_of_ble_eq_true rfl) k0 rfl rfl dX10_pass_165 ?_
          refine lv_bipush (v := 40) hx hb dX10_pass_168 (by decide) ?_
          refine lv_iload_n hx hb dX10_pass_170 rfl (lv_at hl 2 rfl) ?_
          refine lv_imul hx hb dX10_pass_171 ?_
          refine lv_iload hx hb dX10_pass_172 (lv_at hl 5 rfl) ?_
          refine lv_iadd hx hb dX10_pass_174 ?_
          obtain ⟨hn21, hF⟩ := q_ck hF
          refine va_iald hx hb hK hP 11 0 rfl rfl hn21 dX10_pass_175 ?_
          refine lv_goto (tgt := 191) hx hb dX10_pass_176 (by decide) ?_
          exact JX10_PASS_191 Z_xs_1 x3_1 x4_1 q19 (Z_xs_1 ((40 * p0) + x4_1).toNatClampNeg) hF H locs ls hP hD hS (lv_sub hl [1, 2, 3, 4, 5, 0] rfl)
      have L6 : ∀ st : Int32 × Int32 × Int32, q_lo (fun (st : Int32 × Int32 × Int32) => bX10_pass_25 Z_width Z_isArrow Z_from Z_to Z_turned Z_layer Z_items Z_place Z_dummyPlace Z_xs_1 p0 p1 x3_1 x4_1 st.1 st.2.1 st.2.2) st = some (q6_0, q6_1) → ∀ (H : Heap) (locs : List Loc) (ls : Array Slot), va_P (dC, dI) vwCl (iX10_pass aZ cI cZ Z_code Z_width Z_isArrow Z_from Z_to Z_turned Z_told Z_layers Z_layer Z_sizes Z_items Z_place Z_dummyPlace Z_xs_1) H → va_D A (iX10_pass aZ cI cZ Z_code Z_width Z_isArrow Z_from Z_to Z_turned Z_told Z_layers Z_layer Z_sizes Z_items Z_place Z_dummyPlace Z_xs_1) → va_S A s.heap H locs → lv_has ls 9 [(0, .ref (aZ 0)), (1, .int p0), (2, .int p1), (3, .int x3_1), (4, .int x4_1), (5, .int st.1), (6, .int st.2.1), (7, .int st.2.2)] → W p l e (headSpec wsX10_pass (rX10_pass)).room s m args below meth c H locs 0 0 Q (F0 m 25 ls []) := by
        intro st hst
        refine q_walk (Wh := fun st : Int32 × Int32 × Int32 => ∀ (H : Heap) (locs : List Loc) (ls : Array Slot), va_P (dC, dI) vwCl (iX10_pass aZ cI cZ Z_code Z_width Z_isArrow Z_from Z_to Z_turned Z_told Z_layers Z_layer Z_sizes Z_items Z_place Z_dummyPlace Z_xs_1) H → va_D A (iX10_pass aZ cI cZ Z_code Z_width Z_isArrow Z_from Z_to Z_turned Z_told Z_layers Z_layer Z_sizes Z_items Z_place Z_dummyPlace Z_xs_1) → va_S A s.heap H locs → lv_has ls 9 [(0, .ref (aZ 0)), (1, .int p0), (2, .int p1), (3, .int x3_1), (4, .int x4_1), (5, .int st.1), (6, .int st.2.1), (7, .int st.2.2)] → W p l e (headSpec wsX10_pass (rX10_pass)).room s m args below meth c H locs 0 0 Q (F0 m 25 ls [])) ?_ st hst
        clear hst st hF
        intro st o hF hin hex H locs ls hP hD hS hl
        obtain ⟨x5_6, x6_6, x7_6⟩ := st
        replace hF : bX10_pass_25 Z_width Z_isArrow Z_from Z_to Z_turned Z_layer Z_items Z_place Z_dummyPlace Z_xs_1 p0 p1 x3_1 x4_1 x5_6 x6_6 x7_6 = some o := hF
        replace hP : va_P (dC, dI) vwCl (iX10_pass aZ cI cZ Z_code Z_width Z_isArrow Z_from Z_to Z_turned Z_told Z_layers Z_layer Z_sizes Z_items Z_place Z_dummyPlace Z_xs_1) H := hP
        replace hD : va_D A (iX10_pass aZ cI cZ Z_code Z_width Z_isArrow Z_from Z_to Z_turned Z_told Z_layers Z_layer Z_sizes Z_items Z_place Z_dummyPlace Z_xs_1) := hD
        replace hl : lv_has ls 9 [(0, .ref (aZ 0)), (1, .int p0), (2, .int p1), (3, .int x3_1), (4, .int x4_1), (5, .int x5_6), (6, .int x6_6), (7, .int x7_6)] := hl
        unfold bX10_pass_25 at hF
        have JX10_PASS_140 : ∀ (x5_7 : Int32) (x6_7 : Int32) (x7_7 : Int32), jX10_pass_140 p0 p1 x3_1 x4_1 x5_7 x6_7 x7_7 = some o → ∀ (H : Heap) (locs : List Loc) (ls : Array Slot), va_P (dC, dI) vwCl (iX10_pass aZ cI cZ Z_code Z_width Z_isArrow Z_from Z_to Z_turned Z_told Z_layers Z_layer Z_sizes Z_items Z_place Z_dummyPlace Z_xs_1) H → va_D A (iX10_pass aZ cI cZ Z_code Z_width Z_isArrow Z_from Z_to Z_turned Z_told Z_layers Z_layer Z_sizes Z_items Z_place Z_dummyPlace Z_xs_1) → va_S A s.heap H locs → lv_has ls 9 [(0, .ref (aZ 0)), (1, .int p0), (2, .int p1), (3, .int x3_1), (4, .int x4_1), (5, .int x5_7), (6, .int x6_7), (7, .int x7_7)] → W p l e (headSpec wsX10_pass (rX10_pass)).room s m args below meth c H locs 0 0 Q (F0 m 140 ls []) := by
          intro x5_7 x6_7 x7_7 hF H locs ls hP hD hS hl
          unfold jX10_pass_140 at hF
          refine lv_iinc (v := (x7_7 + 1)) (lv' := [(7, .int (x7_7 + 1)), (0, .ref (aZ 0)), (1, .int p0), (2, .int p1), (3, .int x3_1), (4, .int x4_1), (5, .int x5_7), (6, .int x6_7)]) hx hb dX10_pass_140 hl (k := 7) rfl rfl (by decide) rfl (fun ls hl => ?_)
          refine lv_goto (tgt := 25) hx hb dX10_pass_143 (by decide) ?_
          exact hin _ (Option.some.inj hF).symm H locs ls hP hD hS (lv_sub hl [1, 2, 3, 4, 5, 6, 7, 0] rfl)
        have JX10_PASS_134 : ∀ (x5_8 : Int32) (x7_8 : Int32) (s0_8 : Int32) (s1_8 : Int32), jX10_pass_134 p0 p1 x3_1 x4_1 x5_8 x7_8 s0_8 s1_8 = some o → ∀ (H : Heap) (locs : List Loc) (ls : Array Slot), va_P (dC, dI) vwCl (iX10_pass aZ cI cZ Z_code Z_width Z_isArrow Z_from Z_to Z_turned Z_told Z_layers Z_layer Z_sizes Z_items Z_place Z_dummyPlace Z_xs_1) H → va_D A (iX10_pass aZ cI cZ Z_code Z_width Z_isArrow Z_from Z_to Z_turned Z_told Z_layers Z_layer Z_sizes Z_items Z_place Z_dummyPlace Z_xs_1) → va_S A s.heap H locs → lv_has ls 9 [(0, .ref (aZ 0)), (1, .int p0), (2, .int p1), (3, .int x3_1), (4, .int x4_1), (5, .int x5_8), (7, .int x7_8)] → W p l e (headSpec wsX10_pass (rX10_pass)).room s m args below meth c H locs 0 0 Q (F0 m 134 ls [.int s0_8, .int s1_8]) := by
          intro x5_8 x7_8 s0_8 s1_8 hF H locs ls hP hD hS hl
          unfold jX10_pass_134 at hF
          refine lv_iadd hx hb dX10_pass_134 ?_
          refine lv_istore (lv' := [(6, .int (s1_8 + s0_8)), (0, .ref (aZ 0)), (1, .int p0), (2, .int p1), (3, .int x3_1), (4, .int x4_1), (5, .int x5_8), (7, .int x7_8)]) hx hb dX10_pass_135 hl (by decide) rfl (fun ls hl => ?_)
          refine lv_iinc (v := (x5_8 + 1)) (lv' := [(5, .int (x5_8 + 1)), (6, .int (s1_8 + s0_8)), (0, .ref (aZ 0)), (1, .int p0), (2, .int p1), (3, .int x3_1), (4, .int x4_1), (7, .int x7_8)]) hx hb dX10_pass_137 hl (k := 6) rfl rfl (by decide) rfl (fun ls hl => ?_)
          exact JX10_PASS_140 (x5_8 + 1) (s1_8 + s0_8) x7_8 hF H locs ls hP hD hS (lv_sub hl [2, 3, 4, 5, 6, 0, 1, 7] rfl)
        have JX10_PASS_87 : ∀ (x5_9 : Int32) (x6_9 : Int32) (x7_9 : Int32) (x8_9 : Int32) (s0_9 : Int32), jX10_pass_87 Z_width Z_from Z_to Z_turned Z_layer Z_items Z_place Z_dummyPlace Z_xs_1 p0 p1 x3_1 x4_1 x5_9 x6_9 x7_9 x8_9 s0_9 = some o → ∀ (H : Heap) (locs : List Loc) (ls : Array Slot), va_P (dC, dI) vwCl (iX10_pass aZ cI cZ Z_code Z_width Z_isArrow Z_from Z_to Z_turned Z_told Z_layers Z_layer Z_sizes Z_items Z_place Z_dummyPlace Z_xs_1) H → va_D A (iX10_pass aZ cI cZ Z_code Z_width Z_isArrow Z_from Z_to Z_turned Z_told Z_layers Z_layer Z_sizes Z_items Z_place Z_dummyPlace Z_xs_1) → va_S A s.heap H locs → lv_has ls 9 [(0, .ref (aZ 0)), (1, .int p0), (2, .int p1), (3, .int x3_1), (4, .int x4_1), (5, .int x5_9), (6, .int x6_9), (7, .int x7_9), (8, .int x8_9)] → W p l e (headSpec wsX10_pass (rX10_pass)).room s m args below meth c H locs 0 0 Q (F0 m 87 ls [.int s0_9]) := by
          intro x5_9 x6_9 x7_9 x8_9 s0_9 hF H locs ls hP hD hS hl
          unfold jX10_pass_87 at hF
          refine lv_iload hx hb dX10_pass_87 (lv_at hl 4 rfl) ?_
          refine lv_icmp_eq (tgt := 95) hx hb dX10_pass_89 (by decide) (fun hc => ?_) (fun hc => ?_)
          · replace hF := q_t hc hF
            refine lv_iload hx hb dX10_pass_95 (lv_at hl 6 rfl) ?_
            refine lv_iload_n hx hb dX10_pass_97 rfl (lv_at hl 2 rfl) ?_
            refine lv_if_eq (tgt := 119) hx hb dX10_pass_98 (by decide) (fun hc => ?_) (fun hc => ?_)
            · replace hF := q_t hc hF
              refine lv_aload_n hx hb dX10_pass_119 rfl (lv_at hl 0 rfl) ?_
              refine lv_iload_n hx hb dX10_pass_120 rfl (lv_at hl 1 rfl) ?_
              refine lv_iconst (v := 1) hx hb dX10_pass_121 (by decide) ?_
              refine lv_iadd hx hb dX10_pass_122 ?_
              refine lv_aload_n hx hb dX10_pass_123 rfl (lv_at hl 0 rfl) ?_
              refine lv_iload hx hb dX10_pass_124 (lv_at hl 7 rfl) ?_
              refine lv_iload hx hb dX10_pass_126 (lv_at hl 8 rfl) ?_
              obtain ⟨q10, hcq10, hF⟩ := q_bd hF
              refine q_Vi (As := [.int x7_9, .int x8_9]) (rest := [.int (p0 + 1), .ref (aZ 0), .int x6_9]) ⟨hx, hb, hml, hown, hts⟩ hA hK hP hD hS (tX10_lowerPlace l dC dI cI cZ aZ H.size Z_code Z_from Z_to Z_turned Z_told Z_layers Z_layer Z_place Z_dummyPlace x7_9 x8_9 q10 hcq10) (cwV 2 hts gX10_pass_X10_lowerPlace rfl rfl rfl uX10_lowerPlace ⟨Nat.le_of_ble_eq_true rfl, Nat.le_of_ble_eq_true rfl⟩) [0, 3, 4, 5, 6, 9, 10] [(true, 0), (false, 1), (false, 2), (true, 1), (true, 2), (true, 3), (true, 4), (false, 7), (false, 8), (true, 5), (true, 6), (false, 11)] (iX10_pass aZ cI cZ Z_code Z_width Z_isArrow Z_from Z_to Z_turned Z_told Z_layers Z_layer Z_sizes Z_items Z_place Z_dummyPlace Z_xs_1) rfl rfl rfl rfl rfl 10 0 rfl rfl rfl rfl hl.1 rfl (Nat.le_of_ble_eq_true rfl) dX10_pass_128 ⟨Nat.zero_le _, Nat.zero_le _⟩ (fun H locs hP hD hS => ?_)
              obtain ⟨q11, hcq11, hF⟩ := q_bd hF
              refine q_Vi (As := [.int (p0 + 1), .int q10]) (rest := [.int x6_9]) ⟨hx, hb, hml, hown, hts⟩ hA hK hP hD hS (tX10_middle l dC dI cI cZ aZ H.size Z_code Z_width Z_told Z_layers Z_items Z_xs_1 (p0 + 1) q10 q11 hcq11) (cwV 2 hts gX10_pass_X10_middle rfl rfl rfl uX10_middle ⟨Nat.le_of_ble_eq_true rfl, Nat.le_of_ble_eq_true rfl⟩) [0, 1, 8, 11] [(true, 0), (true, 1), (false, 2), (false, 3), (false, 4), (false, 5), (false, 6), (false, 7), (true, 2), (false, 9), (false, 10), (true, 3)] (iX10_pass aZ cI cZ Z_code Z_width Z_isArrow Z_from Z_to Z_turned Z_told Z_layers Z_layer Z_sizes Z_items Z_place Z_dummyPlace Z_xs_1) rfl rfl rfl rfl rfl 10 0 rfl rfl rfl rfl hl.1 rfl (Nat.le_of_ble_eq_true rfl) dX10_pass_131 ⟨Nat.zero_le _, Nat.zero_le _⟩ (fun H locs hP hD hS => ?_)
              exact JX10_PASS_134 x5_9 x7_9 q11 x6_9 hF H locs ls hP hD hS (lv_sub hl [0, 1, 2, 3, 4, 5, 7] rfl)
            · replace hF := q_f hc hF
              refine lv_aload_n hx hb dX10_pass_101 rfl (lv_at hl 0 rfl) ?_
              refine lv_iload_n hx hb dX10_pass_102 rfl (lv_at hl 1 rfl) ?_
              refine lv_iconst (v := 1) hx hb dX10_pass_103 (by decide) ?_
              refine lv_isub hx hb dX10_pass_104 ?_
              refine lv_aload_n hx hb dX10_pass_105 rfl (lv_at hl 0 rfl) ?_
              refine lv_iload hx hb dX10_pass_106 (lv_at hl 7 rfl) ?_
              refine lv_iload hx hb dX10_pass_108 (lv_at hl 8 rfl) ?_
              obtain ⟨q12, hcq12, hF⟩ := q_bd hF
              refine q_Vi (As := [.int x7_9, .int x8_9]) (rest := [.int (p0 - 1), .ref (aZ 0), .int x6_9]) ⟨hx, hb, hml, hown, hts⟩ hA hK hP hD hS (tX10_upperPlace l dC dI cI cZ aZ H.size Z_code Z_from Z_to Z_turned Z_told Z_layers Z_layer Z_place Z_dummyPlace x7_9 x8_9 q12 hcq12) (cwV 2 hts gX10_pass_X10_upperPlace rfl rfl rfl uX10_upperPlace ⟨Nat.le_of_ble_eq_true rfl, Nat.le_of_ble_eq_true rfl⟩) [0, 3, 4, 5, 6, 9, 10] [(true, 0), (false, 1), (false, 2), (true, 1), (true, 2), (true, 3), (true, 4), (false, 7), (false, 8), (true, 5), (true, 6), (false, 11)] (iX10_pass aZ cI cZ Z_code Z_width Z_isArrow Z_from Z_to Z_turned Z_told Z_layers Z_layer Z_sizes Z_items Z_place Z_dummyPlace Z_xs_1) rfl rfl rfl rfl rfl 10 0 rfl rfl rfl rfl hl.1 rfl (Nat.le_of_ble_eq_true rfl) dX10_pass_110 ⟨Nat.zero_le _, Nat.zero_le _⟩ (fun H locs hP hD hS => ?_)
              obtain ⟨q13, hcq13, hF⟩ := q_bd hF
              refine q_Vi (As := [.int (p0 - 1), .int q12]) (rest := [.int x6_9]) ⟨hx, hb, hml, hown, hts⟩ hA hK hP hD hS (tX10_middle l dC dI cI cZ aZ H.size Z_code Z_width Z_told Z_layers Z_items Z_xs_1 (p0 - 1) q12 q13 hcq13) (cwV 2 hts gX10_pass_X10_middle rfl rfl rfl uX10_middle ⟨Nat.le_of_ble_eq_true rfl, Nat.le_of_ble_eq_true rfl⟩) [0, 1, 8, 11] [(true, 0), (true, 1), (false, 2), (false, 3), (false, 4), (false, 5), (false, 6), (false, 7), (true, 2), (false, 9), (false, 10), (true, 3)] (iX10_pass aZ cI cZ Z_code Z_width Z_isArrow Z_from Z_to Z_turned Z_told Z_layers Z_layer Z_sizes Z_items Z_place Z_dummyPlace Z_xs_1) rfl rfl rfl rfl rfl 10 0 rfl rfl rfl rfl hl.1 rfl (Nat.le_of_ble_eq_true rfl) dX10_pass_113 ⟨Nat.zero_le _, Nat.zero_le _⟩ (fun H locs hP hD hS => ?_)
              refine lv_goto (tgt := 134) hx hb dX10_pass_116 (by decide) ?_
              exact JX10_PASS_134 x5_9 x7_9 q13 x6_9 hF H locs ls hP hD hS (lv_sub hl [0, 1, 2, 3, 4, 5, 7] rfl)
          · replace hF := q_f hc hF
            refine lv_goto (tgt := 140) hx hb dX10_pass_92 (by decide) ?_
            exact JX10_PASS_140 x5_9 x6_9 x7_9 hF H locs ls hP hD hS (lv_sub hl [0, 1, 2, 3, 4, 5, 6, 7] rfl)
        have JX10_PASS_43 : ∀ (x5_14 : Int32) (x6_14 : Int32) (x7_14 : Int32) (s0_14 : Int32), jX10_pass_43 Z_width Z_isArrow Z_from Z_to Z_turned Z_layer Z_items Z_place Z_dummyPlace Z_xs_1 p0 p1 x3_1 x4_1 x5_14 x6_14 x7_14 s0_14 = some o → ∀ (H : Heap) (locs : List Loc) (ls : Array Slot), va_P (dC, dI) vwCl (iX10_pass aZ cI cZ Z_code Z_width Z_isArrow Z_from Z_to Z_turned Z_told Z_layers Z_layer Z_sizes Z_items Z_place Z_dummyPlace Z_xs_1) H → va_D A (iX10_pass aZ cI cZ Z_code Z_width Z_isArrow Z_from Z_to Z_turned Z_told Z_layers Z_layer Z_sizes Z_items Z_place Z_dummyPlace Z_xs_1) → va_S A s.heap H locs → lv_has ls 9 [(0, .ref (aZ 0)), (1, .int p0), (2, .int p1), (3, .int x3_1), (4, .int x4_1), (5, .int x5_14), (6, .int x6_14), (7, .int x7_14)] → W p l e (headSpec wsX10_pass (rX10_pass)).room s m args below meth c H locs 0 0 Q (F0 m 43 ls [.int s0_14]) := by
          intro x5_14 x6_14 x7_14 s0_14 hF H locs ls hP hD hS hl
          unfold jX10_pass_43 at hF
          refine lv_istore (lv' := [(8, .int s0_14), (0, .ref (aZ 0)), (1, .int p0), (2, .int p1), (3, .int x3_1), (4, .int x4_1), (5, .int x5_14), (6, .int x6_14), (7, .int x7_14)]) hx hb dX10_pass_43 hl (by decide) rfl (fun ls hl => ?_)
          refine lv_iload hx hb dX10_pass_45 (lv_at hl 0 rfl) ?_
          refine lv_if_lt (tgt := 140) hx hb dX10_pass_47 (by decide) (fun hc => ?_) (fun hc => ?_)
          · replace hF := q_t hc hF
            exact JX10_PASS_140 x5_14 x6_14 x7_14 hF H locs ls hP hD hS (lv_sub hl [1, 2, 3, 4, 5, 6, 7, 8] rfl)
          · replace hF := q_f hc hF
            refine lv_aload_n hx hb dX10_pass_50 rfl (lv_at hl 1 rfl) ?_
            refine lv_iload hx hb dX10_pass_51 (lv_at hl 8 rfl) ?_
            refine lv_iload hx hb dX10_pass_53 (lv_at hl 0 rfl) ?_
            obtain ⟨q15, hcq15, hF⟩ := q_bd hF
            refine q_Vi (As := [.int x7_14, .int s0_14]) (rest := []) ⟨hx, hb, hml, hown, hts⟩ hA hK hP hD hS (tX10_hasPiece l dC dI cI cZ aZ H.size Z_code Z_isArrow Z_from Z_to Z_turned Z_told Z_layers Z_layer x7_14 s0_14 q15 hcq15) (cwV 2 hts gX10_pass_X10_hasPiece rfl rfl rfl uX10_hasPiece ⟨Nat.le_of_ble_eq_true rfl, Nat.le_of_ble_eq_true rfl⟩) [0, 2, 3, 4, 5, 6] [(true, 0), (false, 1), (true, 1), (true, 2), (true, 3), (true, 4), (true, 5), (false, 7), (false, 8), (false, 9), (false, 10), (false, 11)] (iX10_pass aZ cI cZ Z_code Z_width Z_isArrow Z_from Z_to Z_turned Z_told Z_layers Z_layer Z_sizes Z_items Z_place Z_dummyPlace Z_xs_1) rfl rfl rfl rfl rfl 10 0 rfl rfl rfl rfl hl.1 rfl (Nat.le_of_ble_eq_true rfl) dX10_pass_55 ⟨Nat.zero_le _, Nat.zero_le _⟩ (fun H locs hP hD hS => ?_)
            refine lv_if_ne (tgt := 64) hx hb dX10_pass_58 (by decide) (fun hc => ?_) (fun hc => ?_)
            · replace hF := q_f hc hF
              refine lv_iload_n hx hb dX10_pass_64 rfl (lv_at hl 3 rfl) ?_
              refine lv_if_eq (tgt := 79) hx hb dX10_pass_65 (by decide) (fun hc => ?_) (fun hc => ?_)
              · replace hF := q_t hc hF
                refine lv_aload_n hx hb dX10_pass_79 rfl (lv_at hl 1 rfl) ?_
                refine lv_iload hx hb dX10_pass_80 (lv_at hl 8 rfl) ?_
                refine lv_iload hx hb dX10_pass_82 (lv_at hl 0 rfl) ?_
                obtain ⟨q16, hcq16, hF⟩ := q_bd hF
                refine q_Vi (As := [.int x7_14, .int s0_14]) (rest := []) ⟨hx, hb, hml, hown, hts⟩ hA hK hP hD hS (tX10_upperPlace l dC dI cI cZ aZ H.size Z_code Z_from Z_to Z_turned Z_told Z_layers Z_layer Z_place Z_dummyPlace x7_14 s0_14 q16 hcq16) (cwV 2 hts gX10_pass_X10_upperPlace rfl rfl rfl uX10_upperPlace ⟨Nat.le_of_ble_eq_true rfl, Nat.le_of_ble_eq_true rfl⟩) [0, 3, 4, 5, 6, 9, 10] [(true, 0), (false, 1), (false, 2), (true, 1), (true, 2), (true, 3), (true, 4), (false, 7), (false, 8), (true, 5), (true, 6), (false, 11)] (iX10_pass aZ cI cZ Z_code Z_width Z_isArrow Z_from Z_to Z_turned Z_told Z_layers Z_layer Z_sizes Z_items Z_place Z_dummyPlace Z_xs_1) rfl rfl rfl rfl rfl 10 0 rfl rfl rfl rfl hl.1 rfl (Nat.le_of_ble_eq_true rfl) dX10_pass_84 ⟨Nat.zero_le _, Nat.zero_le _⟩ (fun H locs hP hD hS => ?_)
                exact JX10_PASS_87 x5_14 x6_14 x7_14 s0_14 q16 hF H locs ls hP hD hS (lv_sub hl [1, 2, 3, 4, 5, 6, 7, 8, 0] rfl)
              · replace hF := q_f hc hF
                refine lv_aload_n hx hb dX10_pass_68 rfl (lv_at hl 1 rfl) ?_
                refine lv_iload hx hb dX10_pass_69 (lv_at hl 8 rfl) ?_
                refine lv_iload hx hb dX10_pass_71 (lv_at hl 0 rfl) ?_
                obtain ⟨q17, hcq17, hF⟩ := q_bd hF
                refine q_Vi (As := [.int x7_14, .int s0_14]) (rest := []) ⟨hx, hb, hml, hown, hts⟩ hA hK hP hD hS (tX10_lowerPlace l dC dI cI cZ aZ H.size Z_code Z_from Z_to Z_turned Z_told Z_layers Z_layer Z_place Z_dummyPlace x7_14 s0_14 q17 hcq17) (cwV 2 hts gX10_pass_X10_lowerPlace rfl rfl rfl uX10_lowerPlace ⟨Nat.le_of_ble_eq_true rfl, Nat.le_of_ble_eq_true rfl⟩) [0, 3, 4, 5, 6, 9, 10] [(true, 0), (false, 1), (false, 2), (true, 1), (true, 2), (true, 3), (true, 4), (false, 7), (false, 8), (true, 5), (true, 6), (false, 11)] (iX10_pass aZ cI cZ Z_code Z_width Z_isArrow Z_from Z_to Z_turned Z_told Z_layers Z_layer Z_sizes Z_items Z_place Z_dummyPlace Z_xs_1) rfl rfl rfl rfl rfl 10 0 rfl rfl rfl rfl hl.1 rfl (Nat.le_of_ble_eq_true rfl) dX10_pass_73 ⟨Nat.zero_le _, Nat.zero_le _⟩ (fun H locs hP hD hS => ?_)
                refine lv_goto (tgt := 87) hx hb dX10_pass_76 (by decide) ?_
                exact JX10_PASS_87 x5_14 x6_14 x7_14 s0_14 q17 hF H locs ls hP hD hS (lv_sub hl [1, 2, 3, 4, 5, 6, 7, 8, 0] rfl)
            · replace hF := q_t hc hF
              refine lv_goto (tgt := 140) hx hb dX10_pass_61 (by decide) ?_
              exact JX10_PASS_140 x5_14 x6_14 x7_14 hF H locs ls hP hD hS (lv_sub hl [1, 2, 3, 4, 5, 6, 7, 8] rfl)
        refine lv_iload hx hb dX10_pass_25 (lv_at hl 7 rfl) ?_
        refine lv_bipush (v := 24) hx hb dX10_pass_27 (by decide) ?_
        refine lv_icmp_ge (tgt := 146) hx hb dX10_pass_29 (by decide) (fun hc => ?_) (fun hc => ?_)
        · replace hF := q_t hc hF
          exact X6 _ _ (hex _ (Option.some.inj hF).symm) H locs ls hP hD hS (lv_sub hl [0, 1, 2, 3, 4, 5, 6] rfl)
        · replace hF := q_f hc hF
          refine lv_iload_n hx hb dX10_pass_32 rfl (lv_at hl 2 rfl) ?_
          refine lv_if_eq (tgt := 42) hx hb dX10_pass_33 (by decide) (fun hc => ?_) (fun hc => ?_)
          · replace hF := q_t hc hF
            refine lv_iload_n hx hb dX10_pass_42 rfl (lv_at hl 1 rfl) ?_
            exact JX10_PASS_43 x5_6 x6_6 x7_6 p0 hF H locs ls hP hD hS (lv_sub hl [0, 1, 2, 3, 4, 5, 6, 7] rfl)
          · replace hF := q_f hc hF
            refine lv_iload_n hx hb dX10_pass_36 rfl (lv_at hl 1 rfl) ?_
            refine lv_iconst (v := 1) hx hb dX10_pass_37 (by decide) ?_
            refine lv_isub hx hb dX10_pass_38 ?_
            refine lv_goto (tgt := 43) hx hb dX10_pass_39 (by decide) ?_
            exact JX10_PASS_43 x5_6 x6_6 x7_6 (p0 - 1) hF H locs ls hP hD hS (lv_sub hl [0, 1, 2, 3, 4, 5, 6, 7] rfl)
      exact L6 (0, 0, 0) hc6 H locs ls hP hD hS (lv_sub hl [3, 4, 5, 6, 7, 2, 1, 0] rfl)
  exact L1 (0, 0, Z_xs) hc1 H locs ls hP hD hS (lv_sub hl [2, 3, 4, 1, 0] rfl)
abbrev rX10_straighten : Room := { frames := 3, cells := 0, slots := 0, locals := 72 }
theorem eX10_straighten_X10 : ∀ w ∈ u_ws RX10 TX10 24, w ∈ wsX10_straighten := by decide +kernel
theorem uX10_straighten : yX10_straighten.cls = RX10 ∧ yX10_straighten.cls ≠ "java/lang/invoke/MethodHandle" ∧ yX10_straighten.cls ≠ "java/lang/invoke/VarHandle" ∧ (parseMethodDescriptor yX10_straighten.desc).map (fun d => d.parameters.length) = some 0 := by decide +kernel
set_option maxHeartbeats 4000000 in
set_option maxRecDepth 100000 in
theorem tX10_straighten (l : Launch) (dC : Nat → ClassId) (dI : Nat → Nat → Nat) (cI cZ : ClassId) (aZ : Nat → Nat) (sz : Nat) (Z_code : Int32) (Z_width : Nat → Int32) (Z_isArrow : Nat → Int32) (Z_from : Nat → Int32) (Z_to : Nat → Int32) (Z_turned : Nat → Int32) (Z_told : Int32) (Z_layers : Int32) (Z_layer : Nat → Int32) (Z_sizes : Nat → Int32) (Z_items : Nat → Int32) (Z_place : Nat → Int32) (Z_dummyPlace : Nat → Int32) (Z_xs : Nat → Int32) (res : (Nat → Int32)) (hF : fX10_straighten Z_width Z_isArrow Z_from Z_to Z_turned Z_layers Z_layer Z_sizes Z_items Z_place Z_dummyPlace Z_xs = some res) : q_Mv l yX10_straighten wsX10_straighten rX10_straighten (dC, dI) (q_ty cI cZ) [.ref (aZ 0)] (iX10_straighten aZ cI cZ Z_code Z_width Z_isArrow Z_from Z_to Z_turned Z_told Z_layers Z_layer Z_sizes Z_items Z_place Z_dummyPlace Z_xs) (iX10_straighten aZ cI cZ Z_code Z_width Z_isArrow Z_from Z_to Z_turned Z_told Z_layers Z_layer Z_sizes Z_items Z_place Z_dummyPlace res) sz := by
  refine q_metv (cc := cX10_straighten) (maxL := 5) (by decide) rfl (Nat.le_of_ble_eq_true rfl) ?_
  intro p e s m args below meth c Q A H locs ls C hP hD hS hl hret
  obtain ⟨hx, hb, hml, hown, hts, hA, hK⟩ := C
  replace hl : lv_has ls 5 [(0, .ref (aZ 0))] := hl
  have k0 := hts (.fieldLink RX10 103 "RouteLayoutModel" "layers" "I") (by decide +kernel)
  have k1 := hts (.fieldLink RX10 35 "RouteLayoutModel" "sizes" "[I") (by decide +kernel)
  have k2 := hts (.fieldLink RX10 47 "RouteLayoutModel" "xs" "[I") (by decide +kernel)
  unfold fX10_straighten at hF
  refine lv_iconst (v := 0) hx hb dX10_straighten_0 (by decide) ?_
  refine lv_istore_n (lv' := [(1, .int 0), (0, .ref (aZ 0))]) hx hb dX10_straighten_1 rfl hl (by decide) rfl (fun ls hl => ?_)
  obtain ⟨q1, hc1, hF⟩ := q_bd hF
  have X1 : ∀ (u1 : Nat → Int32), u1 = q1 → ∀ (H : Heap) (locs : List Loc) (ls : Array Slot), va_P (dC, dI) vwCl (iX10_straighten aZ cI cZ Z_code Z_width Z_isArrow Z_from Z_to Z_turned Z_told Z_layers Z_layer Z_sizes Z_items Z_place Z_dummyPlace u1) H → va_D A (iX10_straighten aZ cI cZ Z_code Z_width Z_isArrow Z_from Z_to Z_turned Z_told Z_layers Z_layer Z_sizes Z_items Z_place Z_dummyPlace u1) → va_S A s.heap H locs → lv_has ls 5 [(0, .ref (aZ 0))] → W p l e (headSpec wsX10_straighten (rX10_straighten)).room s m args below meth c H locs 0 0 Q (F0 m 63 ls []) := by
    intro u1 hu H locs ls hP hD hS hl
    subst hu
    refine lv_iconst (v := 0) hx hb dX10_straighten_63 (by decide) ?_
    refine lv_istore_n (lv' := [(1, .int 0), (0, .ref (aZ 0))]) hx hb dX10_straighten_64 rfl hl (by decide) rfl (fun ls hl => ?_)
    obtain ⟨q7, hc7, hF⟩ := q_bd hF
    have X7 : ∀ (u7 : Nat → Int32), u7 = q7 → ∀ (H : Heap) (locs : List Loc) (ls : Array Slot), va_P (dC, dI) vwCl (iX10_straighten aZ cI cZ Z_code Z_width Z_isArrow Z_from Z_to Z_turned Z_told Z_layers Z_layer Z_sizes Z_items Z_place Z_dummyPlace u7) H → va_D A (iX10_straighten aZ cI cZ Z_code Z_width Z_isArrow Z_from Z_to Z_turned Z_told Z_layers Z_layer Z_sizes Z_items Z_place Z_dummyPlace u7) → va_S A s.heap H locs → lv_has ls 5 [(0, .ref (aZ 0))] → W p l e (headSpec wsX10_straighten (rX10_straighten)).room s m args below meth c H locs 0 0 Q (F0 m 125 ls []) := by
      intro u7 hu H locs ls hP hD hS hl
      subst hu
      refine lv_iconst (v := 0) hx hb dX10_straighten_125 (by decide) ?_
      refine lv_istore_n (lv' := [(1, .int 0), (0, .ref (aZ 0))]) hx hb dX10_straighten_126 rfl hl (by decide) rfl (fun ls hl => ?_)
      refine lv_iconst (v := 0) hx hb dX10_straighten_127 (by decide) ?_
      refine lv_istore_n (lv' := [(2, .int 0), (1, .int 0), (0, .ref (aZ 0))]) hx hb dX10_straighten_128 rfl hl (by decide) rfl (fun ls hl => ?_)
      refine lv_iconst (v := 0) hx hb dX10_straighten_129 (by decide) ?_
      refine lv_istore_n (lv' := [(3, .int 0), (2, .int 0), (1, .int 0), (0, .ref (aZ 0))]) hx hb dX10_straighten_130 rfl hl (by decide) rfl (fun ls hl => ?_)
      obtain ⟨q12, hc12, hF⟩ := q_bd hF
      have X12 : ∀ (u12 : Int32), u12 = q12 → ∀ (H : Heap) (locs : List Loc) (ls : Array Slot), va_P (dC, dI) vwCl (iX10_straighten aZ cI cZ Z_code Z_width Z_isArrow Z_from Z_to Z_turned Z_told Z_layers Z_layer Z_sizes Z_items Z_place Z_dummyPlace u7) H → va_D A (iX10_straighten aZ cI cZ Z_code Z_width Z_isArrow Z_from Z_to Z_turned Z_told Z_layers Z_layer Z_sizes Z_items Z_place Z_dummyPlace u7) → va_S A s.heap H locs → lv_has ls 5 [(0, .ref (aZ 0)), (2, .int u12)] → W p l e (headSpec wsX10_straighten (rX10_straighten)).room s m args below meth c H locs 0 0 Q (F0 m 200 ls []) := by
        intro u12 hu H locs ls hP hD hS hl
        subst hu
        refine lv_iconst (v := 0) hx hb dX10_straighten_200 (by decide) ?_
        refine lv_istore_n (lv' := [(3, .int 0), (0, .ref (aZ 0)), (2, .int u12)]) hx hb dX10_straighten_201 rfl hl (by decide) rfl (fun ls hl => ?_)
        obtain ⟨q20, hc20, hF⟩ := q_bd hF
        have X20 : ∀ (u20 : Nat → Int32), u20 = q20 → ∀ (H : Heap) (locs : List Loc) (ls : Array Slot), va_P (dC, dI) vwCl (iX10_straighten aZ cI cZ Z_code Z_width Z_isArrow Z_from Z_to Z_turned Z_told Z_layers Z_layer Z_sizes Z_items Z_place Z_dummyPlace u20) H → va_D A (iX10_straighten aZ cI cZ Z_code Z_width Z_isArrow Z_from Z_to Z_turned Z_told Z_layers Z_layer Z_sizes Z_items Z_place Z_dummyPlace u20) → va_S A s.heap H locs → lv_has ls 5 [] → W p l e (headSpec wsX10_straighten (rX10_straighten)).room s m args below meth c H locs 0 0 Q (F0 m 252 ls []) := by
          intro u20 hu H locs ls hP hD hS hl
          subst hu
          exact hret H locs ls 252 _ dX10_straighten_252 (congrArg (fun z : (Nat → Int32) => (iX10_straighten aZ cI cZ Z_code Z_width Z_isArrow Z_from Z_to Z_turned Z_told Z_layers Z_layer Z_sizes Z_items Z_place Z_dummyPlace z)) (Option.some.inj hF)) hP hD hS
        have L20 : ∀ st : Int32 × (Nat → Int32), q_lo (fun (st : Int32 × (Nat → Int32)) => bX10_straighten_202 Z_layers Z_sizes u12 st.1 st.2) st = some q20 → ∀ (H : Heap) (locs : List Loc) (ls : Array Slot), va_P (dC, dI) vwCl (iX10_straighten aZ cI cZ Z_code Z_width Z_isArrow Z_from Z_to Z_turned Z_told Z_layers Z_layer Z_sizes Z_items Z_place Z_dummyPlace st.2) H → va_D A (iX10_straighten aZ cI cZ Z_code Z_width Z_isArrow Z_from Z_to Z_turned Z_told Z_layers Z_layer Z_sizes Z_items Z_place Z_dummyPlace st.2) → va_S A s.heap H locs → lv_has ls 5 [(0, .ref (aZ 0)), (2, .int u12), (3, .int st.1)] → W p l e (headSpec wsX10_straighten (rX10_straighten)).room s m args below meth c H locs 0 0 Q (F0 m 202 ls []) := by
          intro st hst
          refine q_walk (Wh := fun st : Int32 × (Nat → Int32) => ∀ (H : Heap) (locs : List Loc) (ls : Array Slot), va_P (dC, dI) vwCl (iX10_straighten aZ cI cZ Z_code Z_width Z_isArrow Z_from Z_to Z_turned Z_told Z_layers Z_layer Z_sizes Z_items Z_place Z_dummyPlace st.2) H → va_D A (iX10_straighten aZ cI cZ Z_code Z_width Z_isArrow Z_from Z_to Z_turned Z_told Z_layers Z_layer Z_sizes Z_items Z_place Z_dummyPlace st.2) → va_S A s.heap H locs → lv_has ls 5 [(0, .ref (aZ 0)), (2, .int u12), (3, .int st.1)] → W p l e (headSpec wsX10_straighten (rX10_straighten)).room s m args below meth c H locs 0 0 Q (F0 m 202 ls [])) ?_ st hst
          clear hst st hF
          intro st o hF hin hex H locs ls hP hD hS hl
          obtain ⟨x3_20, Z_xs_20⟩ := st
          replace hF : bX10_straighten_202 Z_layers Z_sizes u12 x3_20 Z_xs_20 = some o := hF
          replace hP : va_P (dC, dI) vwCl (iX10_straighten aZ cI cZ Z_code Z_width Z_isArrow Z_from Z_to Z_turned Z_told Z_layers Z_layer Z_sizes Z_items Z_place Z_dummyPlace Z_xs_20) H := hP
          replace hD : va_D A (iX10_straighten aZ cI cZ Z_code Z_width Z_isArrow Z_from Z_to Z_turned Z_told Z_layers Z_layer Z_sizes Z_items Z_place Z_dummyPlace Z_xs_20) := hD
          replace hl : lv_has ls 5 [(0, .ref (aZ 0)), (2, .int u12), (3, .int x3_20)] := hl
          unfold bX10_straighten_202 at hF
          refine lv_iload_n hx hb dX10_straighten_202 rfl (lv_at hl 2 rfl) ?_
          refine lv_aload_n hx hb dX10_straighten_203 rfl (lv_at hl 0 rfl) ?_
          refine q_get (ci := 10) (C := RX10) (T := TX10) (N := 24) hx hb hts eX10_straighten_X10 hown hK hP 0 rfl rfl 9 (Nat.le_of_ble_eq_true rfl) k0 rfl rfl dX10_straighten_204 ?_
          refine lv_icmp_ge (tgt := 252) hx hb dX10_straighten_207 (by decide) (fun hc => ?_) (fun hc => ?_)
          · replace hF := q_t hc hF
            exact X20 _ (hex _ (Option.some.inj hF).symm) H locs ls hP hD hS (lv_sub hl [] rfl)
          · replace hF := q_f hc hF
            refine lv_iconst (v := 0) hx hb dX10_straighten_210 (by decide) ?_
            refine lv_istore (lv' := [(4, .int 0), (0, .ref (aZ 0)), (2, .int u12), (3, .int x3_20)]) hx hb dX10_straighten_211 hl (by decide) rfl (fun ls hl => ?_)
            obtain ⟨q21, hc21, hF⟩ := q_bd hF
            have X21 : ∀ (u21 : Nat → Int32), u21 = q21 → ∀ (H : Heap) (locs : List Loc) (ls : Array Slot), va_P (dC, dI) vwCl (iX10_straighten aZ cI cZ Z_code Z_width Z_isArrow Z_from Z_to Z_turned Z_told Z_layers Z_layer Z_sizes Z_items Z_place Z_dummyPlace u21) H → va_D A (iX10_straighten aZ cI cZ Z_code Z_width Z_isArrow Z_from Z_to Z_turned Z_told Z_layers Z_layer Z_sizes Z_items Z_place Z_dummyPlace u21) → va_S A s.heap H locs → lv_has ls 5 [(0, .ref (aZ 0)), (2, .int u12), (3, .int x3_20)] → W p l e (headSpec wsX10_straighten (rX10_straighten)).room s m args below meth c H locs 0 0 Q (F0 m 246 ls []) := by
              intro u21 hu H locs ls hP hD hS hl
              subst hu
              refine lv_iinc (v := (x3_20 + 1)) (lv' := [(3, .int (x3_20 + 1)), (0, .ref (aZ 0)), (2, .int u12)]) hx hb dX10_straighten_246 hl (k := 2) rfl rfl (by decide) rfl (fun ls hl => ?_)
              refine lv_goto (tgt := 202) hx hb dX10_straighten_249 (by decide) ?_
              exact hin _ (Option.some.inj hF).symm H locs ls hP hD hS (lv_sub hl [1, 2, 0] rfl)
            have L21 : ∀ st : Int32 × (Nat → Int32), q_lo (fun (st : Int32 × (Nat → Int32)) => bX10_straighten_213 Z_sizes u12 x3_20 st.1 st.2) st = some q21 → ∀ (H : Heap) (locs : List Loc) (ls : Array Slot), va_P (dC, dI) vwCl (iX10_straighten aZ cI cZ Z_code Z_width Z_isArrow Z_from Z_to Z_turned Z_told Z_layers Z_layer Z_sizes Z_items Z_place Z_dummyPlace st.2) H → va_D A (iX10_straighten aZ cI cZ Z_code Z_width Z_isArrow Z_from Z_to Z_turned Z_told Z_layers Z_layer Z_sizes Z_items Z_place Z_dummyPlace st.2) → va_S A s.heap H locs → lv_has ls 5 [(0, .ref (aZ 0)), (2, .int u12), (3, .int x3_20), (4, .int st.1)] → W p l e (headSpec wsX10_straighten (rX10_straighten)).room s m args below meth c H locs 0 0 Q (F0 m 213 ls []) := by
              intro st hst
              refine q_walk (Wh := fun st : Int32 × (Nat → Int32) => ∀ (H : Heap) (locs : List Loc) (ls : Array Slot), va_P (dC, dI) vwCl (iX10_straighten aZ cI cZ Z_code Z_width Z_isArrow Z_from Z_to Z_turned Z_told Z_layers Z_layer Z_sizes Z_items Z_place Z_dummyPlace st.2) H → va_D A (iX10_straighten aZ cI cZ Z_code Z_width Z_isArrow Z_from Z_to Z_turned Z_told Z_layers Z_layer Z_sizes Z_items Z_place Z_dummyPlace st.2) → va_S A s.heap H locs → lv_has ls 5 [(0, .ref (aZ 0)), (2, .int u12), (3, .int x3_20), (4, .int st.1)] → W p l e (headSpec wsX10_straighten (rX10_straighten)).room s m args below meth c H locs 0 0 Q (F0 m 213 ls [])) ?_ st hst
              clear hst st hF
              intro st o hF hin hex H locs ls hP hD hS hl
              obtain ⟨x4_21, Z_xs_21⟩ := st
              replace hF : bX10_straighten_213 Z_sizes u12 x3_20 x4_21 Z_xs_21 = some o := hF
              replace hP : va_P (dC, dI) vwCl (iX10_straighten aZ cI cZ Z_code Z_width Z_isArrow Z_from Z_to Z_turned Z_told Z_layers Z_layer Z_sizes Z_items Z_place Z_dummyPlace Z_xs_21) H := hP
              replace hD : va_D A (iX10_straighten aZ cI cZ Z_code Z_width Z_isArrow Z_from Z_to Z_turned Z_told Z_layers Z_layer Z_sizes Z_items Z_place Z_dummyPlace Z_xs_21) := hD
              replace hl : lv_has ls 5 [(0, .ref (aZ 0)), (2, .int u12), (3, .int x3_20), (4, .int x4_21)] := hl
              unfold bX10_straighten_213 at hF
              refine lv_iload hx hb dX10_straighten_213 (lv_at hl 3 rfl) ?_
              refine lv_aload_n hx hb dX10_straighten_215 rfl (lv_at hl 0 rfl) ?_
              refine q_get (ci := 10) (C := RX10) (T := TX10) (N := 24) hx hb hts eX10_straighten_X10 hown hK hP 0 rfl rfl 11 (Nat.le_of_ble_eq_true rfl) k1 rfl rfl dX10_straighten_216 ?_
              refine lv_iload_n hx hb dX10_straighten_219 rfl (lv_at hl 2 rfl) ?_
              obtain ⟨hn22, hF⟩ := q_ck hF
              refine va_iald hx hb hK hP 7 0 rfl rfl hn22 dX10_straighten_220 ?_
              refine lv_icmp_ge (tgt := 246) hx hb dX10_straighten_221 (by decide) (fun hc => ?_) (fun hc => ?_)
              · replace hF := q_t hc hF
                exact X21 _ (hex _ (Option.some.inj hF).symm) H locs ls hP hD hS (lv_sub hl [0, 1, 2] rfl)
              · replace hF := q_f hc hF
                refine lv_aload_n hx hb dX10_straighten_224 rfl (lv_at hl 0 rfl) ?_
                refine q_get (ci := 10) (C := RX10) (T := TX10) (N := 24) hx hb hts eX10_straighten_X10 hown hK hP 0 rfl rfl 15 (Nat.le_of_ble_eq_true rfl) k2 rfl rfl dX10_straighten_225 ?_
                refine lv_bipush (v := 40) hx hb dX10_straighten_228 (by decide) ?_
                refine lv_iload_n hx hb dX10_straighten_230 rfl (lv_at hl 2 rfl) ?_
                refine lv_imul hx hb dX10_straighten_231 ?_
                refine lv_iload hx hb dX10_straighten_232 (lv_at hl 3 rfl) ?_
                refine lv_iadd hx hb dX10_straighten_234 ?_
                refine lv_dup2_11 hx hb dX10_straighten_235 rfl rfl ?_
                obtain ⟨hn23, hF⟩ := q_ck hF
                refine va_iald hx hb hK hP 11 0 rfl rfl hn23 dX10_straighten_236 ?_
                refine lv_iload_n hx hb dX10_straighten_237 rfl (lv_at hl 1 rfl) ?_
                refine lv_isub hx hb dX10_straighten_238 ?_
                obtain ⟨hn24, hF⟩ := q_ck hF
                refine q_iast hx hb hK hP hD hS 11 0 (iX10_straighten aZ cI cZ Z_code Z_width Z_isArrow Z_from Z_to Z_turned Z_told Z_layers Z_layer Z_sizes Z_items Z_place Z_dummyPlace (upd Z_xs_21 ((40 * x3_20) + x4_21).toNatClampNeg ((Z_xs_21 ((40 * x3_20) + x4_21).toNatClampNeg) - u12))) rfl rfl hn24 rfl dX10_straighten_239 (fun H locs hP hD hS => ?_)
                refine lv_iinc (v := (x4_21 + 1)) (lv' := [(4, .int (x4_21 + 1)), (0, .ref (aZ 0)), (2, .int u12), (3, .int x3_20)]) hx hb dX10_straighten_240 hl (k := 3) rfl rfl (by decide) rfl (fun ls hl => ?_)
                refine lv_goto (tgt := 213) hx hb dX10_straighten_243 (by decide) ?_
                exact hin _ (Option.some.inj hF).symm H locs ls hP hD hS (lv_sub hl [1, 2, 3, 0] rfl)
            exact L21 (0, Z_xs_20) hc21 H locs ls hP hD hS (lv_sub hl [1, 2, 3, 0] rfl)
        exact L20 (0, u7) hc20 H locs ls hP hD hS (lv_sub hl [1, 2, 0] rfl)
      have L12 : ∀ st : Int32 × Int32 × Int32, q_lo (fun (st : Int32 × Int32 × Int32) => bX10_straighten_131 Z_layers Z_sizes u7 st.1 st.2.1 st.2.2) st = some q12 → ∀ (H : Heap) (locs : List Loc) (ls : Array Slot), va_P (dC, dI) vwCl (iX10_straighten aZ cI cZ Z_code Z_width Z_isArrow Z_from Z_to Z_turned Z_told Z_layers Z_layer Z_sizes Z_items Z_place Z_dummyPlace u7) H → va_D A (iX10_straighten aZ cI cZ Z_code Z_width Z_isArrow Z_from Z_to Z_turned Z_told Z_layers Z_layer Z_sizes Z_items Z_place Z_dummyPlace u7) → va_S A s.heap H locs → lv_has ls 5 [(0, .ref (aZ 0)), (1, .int st.1), (2, .int st.2.1), (3, .int st.2.2)] → W p l e (headSpec wsX10_straighten (rX10_straighten)).room s m args below meth c H locs 0 0 Q (F0 m 131 ls []) := by
        intro st hst
        refine q_walk (Wh := fun st : Int32 × Int32 × Int32 => ∀ (H : Heap) (locs : List Loc) (ls : Array Slot), va_P (dC, dI) vwCl (iX10_straighten aZ cI cZ Z_code Z_width Z_isArrow Z_from Z_to Z_turned Z_told Z_layers Z_layer Z_sizes Z_items Z_place Z_dummyPlace u7) H → va_D A (iX10_straighten aZ cI cZ Z_code Z_width Z_isArrow Z_from Z_to Z_turned Z_told Z_layers Z_layer Z_sizes Z_items Z_place Z_dummyPlace u7) → va_S A s.heap H locs → lv_has ls 5 [(0, .ref (aZ 0)), (1, .int st.1), (2, .int st.2.1), (3, .int st.2.2)] → W p l e (headSpec wsX10_straighten (rX10_straighten)).room s m args below meth c H locs 0 0 Q (F0 m 131 ls [])) ?_ st hst
        clear hst st hF
        intro st o hF hin hex H locs ls hP hD hS hl
        obtain ⟨x1_12, x2_12, x3_12⟩ := st
        replace hF : bX10_straighten_131 Z_layers Z_sizes u7 x1_12 x2_12 x3_12 = some o := hF
        replace hP : va_P (dC, dI) vwCl (iX10_straighten aZ cI cZ Z_code Z_width Z_isArrow Z_from Z_to Z_turned Z_told Z_layers Z_layer Z_sizes Z_items Z_place Z_dummyPlace u7) H := hP
        replace hD : va_D A (iX10_straighten aZ cI cZ Z_code Z_width Z_isArrow Z_from Z_to Z_turned Z_told Z_layers Z_layer Z_sizes Z_items Z_place Z_dummyPlace u7) := hD
        replace hl : lv_has ls 5 [(0, .ref (aZ 0)), (1, .int x1_12), (2, .int x2_12), (3, .int x3_12)] := hl
        unfold bX10_straighten_131 at hF
        refine lv_iload_n hx hb dX10_straighten_131 rfl (lv_at hl 3 rfl) ?_
        refine lv_aload_n hx hb dX10_straighten_132 rfl (lv_at hl 0 rfl) ?_
        refine q_get (ci := 10) (C := RX10) (T := TX10) (N := 24) hx hb hts eX10_straighten_X10 hown hK hP 0 rfl rfl 9 (Nat.le_of_ble_eq_true rfl) k0 rfl rfl dX10_straighten_133 ?_
        refine lv_icmp_ge (tgt := 200) hx hb dX10_straighten_136 (by decide) (fun hc => ?_) (fun hc => ?_)
        · replace hF := q_t hc hF
          exact X12 _ (hex _ (Option.some.inj hF).symm) H locs ls hP hD hS (lv_sub hl [0, 2] rfl)
        · replace hF := q_f hc hF
          refine lv_iconst (v := 0) hx hb dX10_straighten_139 (by decide) ?_
          refine lv_istore (lv' := [(4, .int 0), (0, .ref (aZ 0)), (1, .int x1_12), (2, .int x2_12), (3, .int x3_12)]) hx hb dX10_straighten_140 hl (by decide) rfl (fun ls hl => ?_)
          obtain ⟨q13_0, q13_1, hc13, hF⟩ := q_bd2 hF
          have X13 : ∀ (u13_0 : Int32) (u13_1 : Int32), (u13_0, u13_1) = (q13_0, q13_1) → ∀ (H : Heap) (locs : List Loc) (ls : Array Slot), va_P (dC, dI) vwCl (iX10_straighten aZ cI cZ Z_code Z_width Z_isArrow Z_from Z_to Z_turned Z_told Z_layers Z_layer Z_sizes Z_items Z_place Z_dummyPlace u7) H → va_D A (iX10_straighten aZ cI cZ Z_code Z_width Z_isArrow Z_from Z_to Z_turned Z_told Z_layers Z_layer Z_sizes Z_items Z_place Z_dummyPlace u7) → va_S A s.heap H locs → lv_has ls 5 [(0, .ref (aZ 0)), (1, .int u13_0), (2, .int u13_1), (3, .int x3_12)] → W p l e (headSpec wsX10_straighten (rX10_straighten)).room s m args below meth c H locs 0 0 Q (F0 m 194 ls []) := by
            intro u13_0 u13_1 hu H locs ls hP hD hS hl
            obtain ⟨e0, e1⟩ := q_inj2 hu
            subst e0 e1
            refine lv_iinc (v := (x3_12 + 1)) (lv' := [(3, .int (x3_12 + 1)), (0, .ref (aZ 0)), (1, .int u13_0), (2, .int u13_1)]) hx hb dX10_straighten_194 hl (k := 3) rfl rfl (by decide) rfl (fun ls hl => ?_)
            refine lv_goto (tgt := 131) hx hb dX10_straighten_197 (by decide) ?_
            exact hin _ (Option.some.inj hF).symm H locs ls hP hD hS (lv_sub hl [1, 2, 3, 0] rfl)
          have L13 : ∀ st : Int32 × Int32 × Int32, q_lo (fun (st : Int32 × Int32 × Int32) => bX10_straighten_142 Z_sizes u7 x3_12 st.1 st.2.1 st.2.2) st = some (q13_0, q13_1) → ∀ (H : Heap) (locs : List Loc) (ls : Array Slot), va_P (dC, dI) vwCl (iX10_straighten aZ cI cZ Z_code Z_width Z_isArrow Z_from Z_to Z_turned Z_told Z_layers Z_layer Z_sizes Z_items Z_place Z_dummyPlace u7) H → va_D A (iX10_straighten aZ cI cZ Z_code Z_width Z_isArrow Z_from Z_to Z_turned Z_told Z_layers Z_layer Z_sizes Z_items Z_place Z_dummyPlace u7) → va_S A s.heap H locs → lv_has ls 5 [(0, .ref (aZ 0)), (1, .int st.1), (2, .int st.2.1), (3, .int x3_12), (4, .int st.2.2)] → W p l e (headSpec wsX10_straighten (rX10_straighten)).room s m args below meth c H locs 0 0 Q (F0 m 142 ls []) := by
            intro st hst
            refine q_walk (Wh := fun st : Int32 × Int32 × Int32 => ∀ (H : Heap) (locs : List Loc) (ls : Array Slot), va_P (dC, dI) vwCl (iX10_straighten aZ cI cZ Z_code Z_width Z_isArrow Z_from Z_to Z_turned Z_told Z_layers Z_layer Z_sizes Z_items Z_place Z_dummyPlace u7) H → va_D A (iX10_straighten aZ cI cZ Z_code Z_width Z_isArrow Z_from Z_to Z_turned Z_told Z_layers Z_layer Z_sizes Z_items Z_place Z_dummyPlace u7) → va_S A s.heap H locs → lv_has ls 5 [(0, .ref (aZ 0)), (1, .int st.1), (2, .int st.2.1), (3, .int x3_12), (4, .int st.2.2)] → W p l e (headSpec wsX10_straighten (rX10_straighten)).room s m args below meth c H locs 0 0 Q (F0 m 142 ls [])) ?_ st hst
            clear hst st hF
            intro st o hF hin hex H locs ls hP hD hS hl
            obtain ⟨x1_13, x2_13, x4_13⟩ := st
            replace hF : bX10_straighten_142 Z_sizes u7 x3_12 x1_13 x2_13 x4_13 = some o := hF
            replace hP : va_P (dC, dI) vwCl (iX10_straighten aZ cI cZ Z_code Z_width Z_isArrow Z_from Z_to Z_turned Z_told Z_layers Z_layer Z_sizes Z_items Z_place Z_dummyPlace u7) H := hP
            replace hD : va_D A (iX10_straighten aZ cI cZ Z_code Z_width Z_isArrow Z_from Z_to Z_turned Z_told Z_layers Z_layer Z_sizes Z_items Z_place Z_dummyPlace u7) := hD
            replace hl : lv_has ls 5 [(0, .ref (aZ 0)), (1, .int x1_13), (2, .int x2_13), (3, .int x3_12), (4, .int x4_13)] := hl
            unfold bX10_straighten_142 at hF
            have JX10_STRAIGHTEN_186 : ∀ (x2_14 : Int32) (x4_14 : Int32), jX10_straighten_186 x2_14 x3_12 x4_14 = some o → ∀ (H : Heap) (locs : List Loc) (ls : Array Slot), va_P (dC, dI) vwCl (iX10_straighten aZ cI cZ Z_code Z_width Z_isArrow Z_from Z_to Z_turned Z_told Z_layers Z_layer Z_sizes Z_items Z_place Z_dummyPlace u7) H → va_D A (iX10_straighten aZ cI cZ Z_code Z_width Z_isArrow Z_from Z_to Z_turned Z_told Z_layers Z_layer Z_sizes Z_items Z_place Z_dummyPlace u7) → va_S A s.heap H locs → lv_has ls 5 [(0, .ref (aZ 0)), (2, .int x2_14), (3, .int x3_12), (4, .int x4_14)] → W p l e (headSpec wsX10_straighten (rX10_straighten)).room s m args below meth c H locs 0 0 Q (F0 m 186 ls []) := by
              intro x2_14 x4_14 hF H locs ls hP hD hS hl
              unfold jX10_straighten_186 at hF
              refine lv_iconst (v := 1) hx hb dX10_straighten_186 (by decide) ?_
              refine lv_istore_n (lv' := [(1, .int 1), (0, .ref (aZ 0)), (2, .int x2_14), (3, .int x3_12), (4, .int x4_14)]) hx hb dX10_straighten_187 rfl hl (by decide) rfl (fun ls hl => ?_)
              refine lv_iinc (v := (x4_14 + 1)) (lv' := [(4, .int (x4_14 + 1)), (1, .int 1), (0, .ref (aZ 0)), (2, .int x2_14), (3, .int x3_12)]) hx hb dX10_straighten_188 hl (k := 4) rfl rfl (by decide) rfl (fun ls hl => ?_)
              refine lv_goto (tgt := 142) hx hb dX10_straighten_191 (by decide) ?_
              exact hin _ (Option.some.inj hF).symm H locs ls hP hD hS (lv_sub hl [2, 1, 3, 4, 0] rfl)
            have JX10_STRAIGHTEN_173 : ∀ (x4_15 : Int32), jX10_straighten_173 u7 x3_12 x4_15 = some o → ∀ (H : Heap) (locs : List Loc) (ls : Array Slot), va_P (dC, dI) vwCl (iX10_straighten aZ cI cZ Z_code Z_width Z_isArrow Z_from Z_to Z_turned Z_told Z_layers Z_layer Z_sizes Z_items Z_place Z_dummyPlace u7) H → va_D A (iX10_straighten aZ cI cZ Z_code Z_width Z_isArrow Z_from Z_to Z_turned Z_told Z_layers Z_layer Z_sizes Z_items Z_place Z_dummyPlace u7) → va_S A s.heap H locs → lv_has ls 5 [(0, .ref (aZ 0)), (3, .int x3_12), (4, .int x4_15)] → W p l e (headSpec wsX10_straighten (rX10_straighten)).room s m args below meth c H locs 0 0 Q (F0 m 173 ls []) := by
              intro x4_15 hF H locs ls hP hD hS hl
              unfold jX10_straighten_173 at hF
              refine lv_aload_n hx hb dX10_straighten_173 rfl (lv_at hl 0 rfl) ?_
              refine q_get (ci := 10) (C := RX10) (T := TX10) (N := 24) hx hb hts eX10_straighten_X10 hown hK hP 0 rfl rfl 15 (Nat.le_of_ble_eq_true rfl) k2 rfl rfl dX10_straighten_174 ?_
              refine lv_bipush (v := 40) hx hb dX10_straighten_177 (by decide) ?_
              refine lv_iload_n hx hb dX10_straighten_179 rfl (lv_at hl 1 rfl) ?_
              refine lv_imul hx hb dX10_straighten_180 ?_
              refine lv_iload hx hb dX10_straighten_181 (lv_at hl 2 rfl) ?_
              refine lv_iadd hx hb dX10_straighten_183 ?_
              obtain ⟨hn16, hF⟩ := q_ck hF
              refine va_iald hx hb hK hP 11 0 rfl rfl hn16 dX10_straighten_184 ?_
              obtain ⟨v17, hv17, hF⟩ := q_letE hF
              refine q_top hv17 ?_
              refine lv_istore_n (lv' := [(2, .int v17), (0, .ref (aZ 0)), (3, .int x3_12), (4, .int x4_15)]) hx hb dX10_straighten_185 rfl hl (by decide) rfl (fun ls hl => ?_)
              exact JX10_STRAIGHTEN_186 v17 x4_15 hF H locs ls hP hD hS (lv_sub hl [1, 0, 2, 3] rfl)
            refine lv_iload hx hb dX10_straighten_142 (lv_at hl 4 rfl) ?_
            refine lv_aload_n hx hb dX10_straighten_144 rfl (lv_at hl 0 rfl) ?_
            refine q_get (ci := 10) (C := RX10) (T := TX10) (N := 24) hx hb hts eX10_straighten_X10 hown hK hP 0 rfl rfl 11 (Nat.le_of_ble_eq_true rfl) k1 rfl rfl dX10_straighten_145 ?_
            refine lv_iload_n hx hb dX10_straighten_148 rfl (lv_at hl 3 rfl) ?_
            obtain ⟨hn18, hF⟩ := q_ck hF
            refine va_iald hx hb hK hP 7 0 rfl rfl hn18 dX10_straighten_149 ?_
            refine lv_icmp_ge (tgt := 194) hx hb dX10_straighten_150 (by decide) (fun hc => ?_) (fun hc => ?_)
            · replace hF := q_t hc hF
              exact X13 _ _ (hex _ (Option.some.inj hF).symm) H locs ls hP hD hS (lv_sub hl [0, 1, 2, 3] rfl)
            · replace hF := q_f hc hF
              refine lv_iload_n hx hb dX10_straighten_153 rfl (lv_at hl 1 rfl) ?_
              refine lv_if_eq (tgt := 173) hx hb dX10_straighten_154 (by decide) (fun hc => ?_) (fun hc => ?_)
              · replace hF := q_t hc hF
                exact JX10_STRAIGHTEN_173 x4_13 hF H locs ls hP hD hS (lv_sub hl [0, 3, 4] rfl)
              · replace hF := q_f hc hF
                refine lv_aload_n hx hb dX10_straighten_157 rfl (lv_at hl 0 rfl) ?_
                refine q_get (ci := 10) (C := RX10) (T := TX10) (N := 24) hx hb hts eX10_straighten_X10 hown hK hP 0 rfl rfl 15 (Nat.le_of_ble_eq_true rfl) k2 rfl rfl dX10_straighten_158 ?_
                refine lv_bipush (v := 40) hx hb dX10_straighten_161 (by decide) ?_
                refine lv_iload_n hx hb dX10_straighten_163 rfl (lv_at hl 3 rfl) ?_
                refine lv_imul hx hb dX10_straighten_164 ?_
                refine lv_iload hx hb dX10_straighten_165 (lv_at hl 4 rfl) ?_
                refine lv_iadd hx hb dX10_straighten_167 ?_
                obtain ⟨hn19, hF⟩ := q_ck hF
                refine va_iald hx hb hK hP 11 0 rfl rfl hn19 dX10_straighten_168 ?_
                refine lv_iload_n hx hb dX10_straighten_169 rfl (lv_at hl 2 rfl) ?_
                refine lv_icmp_ge (tgt := 186) hx hb dX10_straighten_170 (by decide) (fun hc => ?_) (fun hc => ?_)
                · replace hF := q_t hc hF
                  exact JX10_STRAIGHTEN_186 x2_13 x4_13 hF H locs ls hP hD hS (lv_sub hl [0, 2, 3, 4] rfl)
                · replace hF := q_f hc hF
                  exact JX10_STRAIGHTEN_173 x4_13 hF H locs ls hP hD hS (lv_sub hl [0, 3, 4] rfl)
          exact L13 (x1_12, x2_12, 0) hc13 H locs ls hP hD hS (lv_sub hl [1, 2, 3, 4, 0] rfl)
      exact L12 (0, 0, 0) hc12 H locs ls hP hD hS (lv_sub hl [3, 2, 1, 0] rfl)
    have L7 : ∀ st : Int32 × (Nat → Int32), q_lo (fun (st : Int32 × (Nat → Int32)) => bX10_straighten_65 Z_width Z_isArrow Z_from Z_to Z_turned Z_layers Z_layer Z_sizes Z_items Z_place Z_dummyPlace st.1 st.2) st = some q7 → ∀ (H : Heap) (locs : List Loc) (ls : Array Slot), va_P (dC, dI) vwCl (iX10_straighten aZ cI cZ Z_code Z_width Z_isArrow Z_from Z_to Z_turned Z_told Z_layers Z_layer Z_sizes Z_items Z_place Z_dummyPlace st.2) H → va_D A (iX10_straighten aZ cI cZ Z_code Z_width Z_isArrow Z_from Z_to Z_turned Z_told Z_layers Z_layer Z_sizes Z_items Z_place Z_dummyPlace st.2) → va_S A s.heap H locs → lv_has ls 5 [(0, .ref (aZ 0)), (1, .int st.1)] → W p l e (headSpec wsX10_straighten (rX10_straighten)).room s m args below meth c H locs 0 0 Q (F0 m 65 ls []) := by
      intro st hst
      refine q_walk (Wh := fun st : Int32 × (Nat → Int32) => ∀ (H : Heap) (locs : List Loc) (ls : Array Slot), va_P (dC, dI) vwCl (iX10_straighten aZ cI cZ Z_code Z_width Z_isArrow Z_from Z_to Z_turned Z_told Z_layers Z_layer Z_sizes Z_items Z_place Z_dummyPlace st.2) H → va_D A (iX10_straighten aZ cI cZ Z_code Z_width Z_isArrow Z_from Z_to Z_turned Z_told Z_layers Z_layer Z_sizes Z_items Z_place Z_dummyPlace st.2) → va_S A s.heap H locs → lv_has ls 5 [(0, .ref (aZ 0)), (1, .int st.1)] → W p l e (headSpec wsX10_straighten (rX10_straighten)).room s m args below meth c H locs 0 0 Q (F0 m 65 ls [])) ?_ st hst
      clear hst st hF
      intro st o hF hin hex H locs ls hP hD hS hl
      obtain ⟨x1_7, Z_xs_7⟩ := st
      replace hF : bX10_straighten_65 Z_width Z_isArrow Z_from Z_to Z_turned Z_layers Z_layer Z_sizes Z_items Z_place Z_dummyPlace x1_7 Z_xs_7 = some o := hF
      replace hP : va_P (dC, dI) vwCl (iX10_straighten aZ cI cZ Z_code Z_width Z_isArrow Z_from Z_to Z_turned Z_told Z_layers Z_layer Z_sizes Z_items Z_place Z_dummyPlace Z_xs_7) H := hP
      replace hD : va_D A (iX10_straighten aZ cI cZ Z_code Z_width Z_isArrow Z_from Z_to Z_turned Z_told Z_layers Z_layer Z_sizes Z_items Z_place Z_dummyPlace Z_xs_7) := hD
      replace hl : lv_has ls 5 [(0, .ref (aZ 0)), (1, .int x1_7)] := hl
      unfold bX10_straighten_65 at hF
      refine lv_iload_n hx hb dX10_straighten_65 rfl (lv_at hl 1 rfl) ?_
      refine lv_iconst (v := 4) hx hb dX10_straighten_66 (by decide) ?_
      refine lv_icmp_ge (tgt := 125) hx hb dX10_straighten_67 (by decide) (fun hc => ?_) (fun hc => ?_)
      · replace hF := q_t hc hF
        exact X7 _ (hex _ (Option.some.inj hF).symm) H locs ls hP hD hS (lv_sub hl [0] rfl)
      · replace hF := q_f hc hF
        refine lv_iconst (v := 0) hx hb dX10_straighten_70 (by decide) ?_
        refine lv_istore_n (lv' := [(2, .int 0), (0, .ref (aZ 0)), (1, .int x1_7)]) hx hb dX10_straighten_71 rfl hl (by decide) rfl (fun ls hl => ?_)
        obtain ⟨q8, hc8, hF⟩ := q_bd hF
        have X8 : ∀ (u8 : Nat → Int32), u8 = q8 → ∀ (H : Heap) (locs : List Loc) (ls : Array Slot), va_P (dC, dI) vwCl (iX10_straighten aZ cI cZ Z_code Z_width Z_isArrow Z_from Z_to Z_turned Z_told Z_layers Z_layer Z_sizes Z_items Z_place Z_dummyPlace u8) H → va_D A (iX10_straighten aZ cI cZ Z_code Z_width Z_isArrow Z_from Z_to Z_turned Z_told Z_layers Z_layer Z_sizes Z_items Z_place Z_dummyPlace u8) → va_S A s.heap H locs → lv_has ls 5 [(0, .ref (aZ 0)), (1, .int x1_7)] → W p l e (headSpec wsX10_straighten (rX10_straighten)).room s m args below meth c H locs 0 0 Q (F0 m 119 ls []) := by
          intro u8 hu H locs ls hP hD hS hl
          subst hu
          refine lv_iinc (v := (x1_7 + 1)) (lv' := [(1, .int (x1_7 + 1)), (0, .ref (aZ 0))]) hx hb dX10_straighten_119 hl (k := 1) rfl rfl (by decide) rfl (fun ls hl => ?_)
          refine lv_goto (tgt := 65) hx hb dX10_straighten_122 (by decide) ?_
          exact hin _ (Option.some.inj hF).symm H locs ls hP hD hS (lv_sub hl [1, 0] rfl)
        have L8 : ∀ st : Int32 × (Nat → Int32), q_lo (fun (st : Int32 × (Nat → Int32)) => bX10_straighten_72 Z_width Z_isArrow Z_from Z_to Z_turned Z_layers Z_layer Z_sizes Z_items Z_place Z_dummyPlace x1_7 st.1 st.2) st = some q8 → ∀ (H : Heap) (locs : List Loc) (ls : Array Slot), va_P (dC, dI) vwCl (iX10_straighten aZ cI cZ Z_code Z_width Z_isArrow Z_from Z_to Z_turned Z_told Z_layers Z_layer Z_sizes Z_items Z_place Z_dummyPlace st.2) H → va_D A (iX10_straighten aZ cI cZ Z_code Z_width Z_isArrow Z_from Z_to Z_turned Z_told Z_layers Z_layer Z_sizes Z_items Z_place Z_dummyPlace st.2) → va_S A s.heap H locs → lv_has ls 5 [(0, .ref (aZ 0)), (1, .int x1_7), (2, .int st.1)] → W p l e (headSpec wsX10_straighten (rX10_straighten)).room s m args below meth c H locs 0 0 Q (F0 m 72 ls []) := by
          intro st hst
          refine q_walk (Wh := fun st : Int32 × (Nat → Int32) => ∀ (H : Heap) (locs : List Loc) (ls : Array Slot), va_P (dC, dI) vwCl (iX10_straighten aZ cI cZ Z_code Z_width Z_isArrow Z_from Z_to Z_turned Z_told Z_layers Z_layer Z_sizes Z_items Z_place Z_dummyPlace st.2) H → va_D A (iX10_straighten aZ cI cZ Z_code Z_width Z_isArrow Z_from Z_to Z_turned Z_told Z_layers Z_layer Z_sizes Z_items Z_place Z_dummyPlace st.2) → va_S A s.heap H locs → lv_has ls 5 [(0, .ref (aZ 0)), (1, .int x1_7), (2, .int st.1)] → W p l e (headSpec wsX10_straighten (rX10_straighten)).room s m args below meth c H locs 0 0 Q (F0 m 72 ls [])) ?_ st hst
          clear hst st hF
          intro st o hF hin hex H locs ls hP hD hS hl
          obtain ⟨x2_8, Z_xs_8⟩ := st
          replace hF : bX10_straighten_72 Z_width Z_isArrow Z_from Z_to Z_turned Z_layers Z_layer Z_sizes Z_items Z_place Z_dummyPlace x1_7 x2_8 Z_xs_8 = some o := hF
          replace hP : va_P (dC, dI) vwCl (iX10_straighten aZ cI cZ Z_code Z_width Z_isArrow Z_from Z_to Z_turned Z_told Z_layers Z_layer Z_sizes Z_items Z_place Z_dummyPlace Z_xs_8) H := hP
          replace hD : va_D A (iX10_straighten aZ cI cZ Z_code Z_width Z_isArrow Z_from Z_to Z_turned Z_told Z_layers Z_layer Z_sizes Z_items Z_place Z_dummyPlace Z_xs_8) := hD
          replace hl : lv_has ls 5 [(0, .ref (aZ 0)), (1, .int x1_7), (2, .int x2_8)] := hl
          unfold bX10_straighten_72 at hF
          have JX10_STRAIGHTEN_110 : ∀ (Z_xs_9 : Nat → Int32) (x2_9 : Int32) (s0_9 : Int32) (s1_9 : Int32), jX10_straighten_110 Z_width Z_isArrow Z_from Z_to Z_turned Z_layer Z_sizes Z_items Z_place Z_dummyPlace Z_xs_9 x1_7 x2_9 s0_9 s1_9 = some o → ∀ (H : Heap) (locs : List Loc) (ls : Array Slot), va_P (dC, dI) vwCl (iX10_straighten aZ cI cZ Z_code Z_width Z_isArrow Z_from Z_to Z_turned Z_told Z_layers Z_layer Z_sizes Z_items Z_place Z_dummyPlace Z_xs_9) H → va_D A (iX10_straighten aZ cI cZ Z_code Z_width Z_isArrow Z_from Z_to Z_turned Z_told Z_layers Z_layer Z_sizes Z_items Z_place Z_dummyPlace Z_xs_9) → va_S A s.heap H locs → lv_has ls 5 [(0, .ref (aZ 0)), (1, .int x1_7), (2, .int x2_9)] → W p l e (headSpec wsX10_straighten (rX10_straighten)).room s m args below meth c H locs 0 0 Q (F0 m 110 ls [.int s0_9, .int s1_9, .ref (aZ 0)]) := by
            intro Z_xs_9 x2_9 s0_9 s1_9 hF H locs ls hP hD hS hl
            unfold jX10_straighten_110 at hF
            obtain ⟨q10, hcq10, hF⟩ := q_bd hF
            refine q_Vv (As := [.int s1_9, .int s0_9]) (rest := []) ⟨hx, hb, hml, hown, hts⟩ hA hK hP hD hS (tX10_pass l dC dI cI cZ aZ H.size Z_code Z_width Z_isArrow Z_from Z_to Z_turned Z_told Z_layers Z_layer Z_sizes Z_items Z_place Z_dummyPlace Z_xs_9 s1_9 s0_9 q10 hcq10) (cwV 2 hts gX10_straighten_X10_pass rfl rfl rfl uX10_pass ⟨Nat.le_of_ble_eq_true rfl, Nat.le_of_ble_eq_true rfl⟩) [0, 1, 2, 3, 4, 5, 6, 7, 8, 9, 10, 11] [(true, 0), (true, 1), (true, 2), (true, 3), (true, 4), (true, 5), (true, 6), (true, 7), (true, 8), (true, 9), (true, 10), (true, 11)] (iX10_straighten aZ cI cZ Z_code Z_width Z_isArrow Z_from Z_to Z_turned Z_told Z_layers Z_layer Z_sizes Z_items Z_place Z_dummyPlace q10) rfl rfl rfl rfl rfl 10 0 rfl rfl rfl rfl hl.1 rfl (Nat.le_of_ble_eq_true rfl) dX10_straighten_110 ⟨Nat.zero_le _, Nat.zero_le _⟩ (fun H locs hP hD hS => ?_)
            refine lv_iinc (v := (x2_9 + 1)) (lv' := [(2, .int (x2_9 + 1)), (0, .ref (aZ 0)), (1, .int x1_7)]) hx hb dX10_straighten_113 hl (k := 2) rfl rfl (by decide) rfl (fun ls hl => ?_)
            refine lv_goto (tgt := 72) hx hb dX10_straighten_116 (by decide) ?_
            exact hin _ (Option.some.inj hF).symm H locs ls hP hD hS (lv_sub hl [1, 2, 0] rfl)
          have JX10_STRAIGHTEN_99 : ∀ (Z_xs_11 : Nat → Int32) (x2_11 : Int32) (s0_11 : Int32), jX10_straighten_99 Z_width Z_isArrow Z_from Z_to Z_turned Z_layer Z_sizes Z_items Z_place Z_dummyPlace Z_xs_11 x1_7 x2_11 s0_11 = some o → ∀ (H : Heap) (locs : List Loc) (ls : Array Slot), va_P (dC, dI) vwCl (iX10_straighten aZ cI cZ Z_code Z_width Z_isArrow Z_from Z_to Z_turned Z_told Z_layers Z_layer Z_sizes Z_items Z_place Z_dummyPlace Z_xs_11) H → va_D A (iX10_straighten aZ cI cZ Z_code Z_width Z_isArrow Z_from Z_to Z_turned Z_told Z_layers Z_layer Z_sizes Z_items Z_place Z_dummyPlace Z_xs_11) → va_S A s.heap H locs → lv_has ls 5 [(0, .ref (aZ 0)), (1, .int x1_7), (2, .int x2_11)] → W p l e (headSpec wsX10_straighten (rX10_straighten)).room s m args below meth c H locs 0 0 Q (F0 m 99 ls [.int s0_11, .ref (aZ 0)]) := by
            intro Z_xs_11 x2_11 s0_11 hF H locs ls hP hD hS hl
            unfold jX10_straighten_99 at hF
            refine lv_iload_n hx hb dX10_straighten_99 rfl (lv_at hl 1 rfl) ?_
            refine lv_iconst (v := 2) hx hb dX10_straighten_100 (by decide) ?_
            refine lv_irem hx hb dX10_straighten_101 (by decide) ?_
            refine lv_if_ne (tgt := 109) hx hb dX10_straighten_102 (by decide) (fun hc => ?_) (fun hc => ?_)
            · replace hF := q_f hc hF
              refine lv_iconst (v := 0) hx hb dX10_straighten_109 (by decide) ?_
              exact JX10_STRAIGHTEN_110 Z_xs_11 x2_11 0 s0_11 hF H locs ls hP hD hS (lv_sub hl [0, 1, 2] rfl)
            · replace hF := q_t hc hF
              refine lv_iconst (v := 1) hx hb dX10_straighten_105 (by decide) ?_
              refine lv_goto (tgt := 110) hx hb dX10_straighten_106 (by decide) ?_
              exact JX10_STRAIGHTEN_110 Z_xs_11 x2_11 1 s0_11 hF H locs ls hP hD hS (lv_sub hl [0, 1, 2] rfl)
          refine lv_iload_n hx hb dX10_straighten_72 rfl (lv_at hl 2 rfl) ?_
          refine lv_aload_n hx hb dX10_straighten_73 rfl (lv_at hl 0 rfl) ?_
          refine q_get (ci := 10) (C := RX10) (T := TX10) (N := 24) hx hb hts eX10_straighten_X10 hown hK hP 0 rfl rfl 9 (Nat.le_of_ble_eq_true rfl) k0 rfl rfl dX10_straighten_74 ?_
          refine lv_icmp_ge (tgt := 119) hx hb dX10_straighten_77 (by decide) (fun hc => ?_) (fun hc => ?_)
          · replace hF := q_t hc hF
            exact X8 _ (hex _ (Option.some.inj hF).symm) H locs ls hP hD hS (lv_sub hl [0, 1] rfl)
          · replace hF := q_f hc hF
            refine lv_aload_n hx hb dX10_straighten_80 rfl (lv_at hl 0 rfl) ?_
            refine lv_iload_n hx hb dX10_straighten_81 rfl (lv_at hl 1 rfl) ?_
            refine lv_iconst (v := 2) hx hb dX10_straighten_82 (by decide) ?_
            refine lv_irem hx hb dX10_straighten_83 (by decide) ?_
            refine lv_if_ne (tgt := 91) hx hb dX10_straighten_84 (by decide) (fun hc => ?_) (fun hc => ?_)
            · replace hF := q_f hc hF
              refine lv_aload_n hx hb dX10_straighten_91 rfl (lv_at hl 0 rfl) ?_
              refine q_get (ci := 10) (C := RX10) (T := TX10) (N := 24) hx hb hts eX10_straighten_X10 hown hK hP 0 rfl rfl 9 (Nat.le_of_ble_eq_true rfl) k0 rfl rfl dX10_straighten_92 ?_
              refine lv_iconst (v := 1) hx hb dX10_straighten_95 (by decide) ?_
              refine lv_isub hx hb dX10_straighten_96 ?_
              refine lv_iload_n hx hb dX10_straighten_97 rfl (lv_at hl 2 rfl) ?_
              refine lv_isub hx hb dX10_straighten_98 ?_
              exact JX10_STRAIGHTEN_99 Z_xs_8 x2_8 ((Z_layers - 1) - x2_8) hF H locs ls hP hD hS (lv_sub hl [0, 1, 2] rfl)
            · replace hF := q_t hc hF
              refine lv_iload_n hx hb dX10_straighten_87 rfl (lv_at hl 2 rfl) ?_
              refine lv_goto (tgt := 99) hx hb dX10_straighten_88 (by decide) ?_
              exact JX10_STRAIGHTEN_99 Z_xs_8 x2_8 x2_8 hF H locs ls hP hD hS (lv_sub hl [0, 1, 2] rfl)
        exact L8 (0, Z_xs_7) hc8 H locs ls hP hD hS (lv_sub hl [1, 2, 0] rfl)
    exact L7 (0, u1) hc7 H locs ls hP hD hS (lv_sub hl [1, 0] rfl)
  have L1 : ∀ st : Int32 × (Nat → Int32), q_lo (fun (st : Int32 × (Nat → Int32)) => bX10_straighten_2 Z_width Z_layers Z_sizes Z_items st.1 st.2) st = some q1 → ∀ (H : Heap) (locs : List Loc) (ls : Array Slot), va_P (dC, dI) vwCl (iX10_straighten aZ cI cZ Z_code Z_width Z_isArrow Z_from Z_to Z_turned Z_told Z_layers Z_layer Z_sizes Z_items Z_place Z_dummyPlace st.2) H → va_D A (iX10_straighten aZ cI cZ Z_code Z_width Z_isArrow Z_from Z_to Z_turned Z_told Z_layers Z_layer Z_sizes Z_items Z_place Z_dummyPlace st.2) → va_S A s.heap H locs → lv_has ls 5 [(0, .ref (aZ 0)), (1, .int st.1)] → W p l e (headSpec wsX10_straighten (rX10_straighten)).room s m args below meth c H locs 0 0 Q (F0 m 2 ls []) := by
    intro st hst
    refine q_walk (Wh := fun st : Int32 × (Nat → Int32) => ∀ (H : Heap) (locs : List Loc) (ls : Array Slot), va_P (dC, dI) vwCl (iX10_straighten aZ cI cZ Z_code Z_width Z_isArrow Z_from Z_to Z_turned Z_told Z_layers Z_layer Z_sizes Z_items Z_place Z_dummyPlace st.2) H → va_D A (iX10_straighten aZ cI cZ Z_code Z_width Z_isArrow Z_from Z_to Z_turned Z_told Z_layers Z_layer Z_sizes Z_items Z_place Z_dummyPlace st.2) → va_S A s.heap H locs → lv_has ls 5 [(0, .ref (aZ 0)), (1, .int st.1)] → W p l e (headSpec wsX10_straighten (rX10_straighten)).room s m args below meth c H locs 0 0 Q (F0 m 2 ls [])) ?_ st hst
    clear hst st hF
    intro st o hF hin hex H locs ls hP hD hS hl
    obtain ⟨x1_1, Z_xs_1⟩ := st
    replace hF : bX10_straighten_2 Z_width Z_layers Z_sizes Z_items x1_1 Z_xs_1 = some o := hF
    replace hP : va_P (dC, dI) vwCl (iX10_straighten aZ cI cZ Z_code Z_width Z_isArrow Z_from Z_to Z_turned Z_told Z_layers Z_layer Z_sizes Z_items Z_place Z_dummyPlace Z_xs_1) H := hP
    replace hD : va_D A (iX10_straighten aZ cI cZ Z_code Z_width Z_isArrow Z_from Z_to Z_turned Z_told Z_layers Z_layer Z_sizes Z_items Z_place Z_dummyPlace Z_xs_1) := hD
    replace hl : lv_has ls 5 [(0, .ref (aZ 0)), (1, .int x1_1)] := hl
    unfold bX10_straighten_2 at hF
    refine lv_iload_n hx hb dX10_straighten_2 rfl (lv_at hl 1 rfl) ?_
    refine lv_aload_n hx hb dX10_straighten_3 rfl (lv_at hl 0 rfl) ?_
    refine q_get (ci := 10) (C := RX10) (T := TX10) (N := 24) hx hb hts eX10_straighten_X10 hown hK hP 0 rfl rfl 9 (Nat.le_of_ble_eq_true rfl) k0 rfl rfl dX10_straighten_4 ?_
    refine lv_icmp_ge (tgt := 63) hx hb dX10_straighten_7 (by decide) (fun hc => ?_) (fun hc => ?_)
    · replace hF := q_t hc hF
      exact X1 _ (hex _ (Option.some.inj hF).symm) H locs ls hP hD hS (lv_sub hl [0] rfl)
    · replace hF := q_f hc hF
      refine lv_iconst (v := 0) hx hb dX10_straighten_10 (by decide) ?_
      refine lv_istore_n (lv' := [(2, .int 0), (0, .ref (aZ 0)), (1, .int x1_1)]) hx hb dX10_straighten_11 rfl hl (by decide) rfl (fun ls hl => ?_)
      refine lv_iconst (v := 0) hx hb dX10_straighten_12 (by decide) ?_
      refine lv_istore_n (lv' := [(3, .int 0), (2, .int 0), (0, .ref (aZ 0)), (1, .int x1_1)]) hx hb dX10_straighten_13 rfl hl (by decide) rfl (fun ls hl => ?_)
      obtain ⟨q2, hc2, hF⟩ := q_bd hF
      have X2 : ∀ (u2 : Nat → Int32), u2 = q2 → ∀ (H : Heap) (locs : List Loc) (ls : Array Slot), va_P (dC, dI) vwCl (iX10_straighten aZ cI cZ Z_code Z_width Z_isArrow Z_from Z_to Z_turned Z_told Z_layers Z_layer Z_sizes Z_items Z_place Z_dummyPlace u2) H → va_D A (iX10_straighten aZ cI cZ Z_code Z_width Z_isArrow Z_from Z_to Z_turned Z_told Z_layers Z_layer Z_sizes Z_items Z_place Z_dummyPlace u2) → va_S A s.heap H locs → lv_has ls 5 [(0, .ref (aZ 0)), (1, .int x1_1)] → W p l e (headSpec wsX10_straighten (rX10_straighten)).room s m args below meth c H locs 0 0 Q (F0 m 57 ls []) := by
        intro u2 hu H locs ls hP hD hS hl
        subst hu
        refine lv_iinc (v := (x1_1 + 1)) (lv' := [(1, .int (x1_1 + 1)), (0, .ref (aZ 0))]) hx hb dX10_straighten_57 hl (k := 1) rfl rfl (by decide) rfl (fun ls hl => ?_)
        refine lv_goto (tgt := 2) hx hb dX10_straighten_60 (by decide) ?_
        exact hin _ (Option.some.inj hF).symm H locs ls hP hD hS (lv_sub hl [1, 0] rfl)
      have L2 : ∀ st : Int32 × Int32 × (Nat → Int32), q_lo (fun (st : Int32 × Int32 × (Nat → Int32)) => bX10_straighten_14 Z_width Z_sizes Z_items x1_1 st.1 st.2.1 st.2.2) st = some q2 → ∀ (H : Heap) (locs : List Loc) (ls : Array Slot), va_P (dC, dI) vwCl (iX10_straighten aZ cI cZ Z_code Z_width Z_isArrow Z_from Z_to Z_turned Z_told Z_layers Z_layer Z_sizes Z_items Z_place Z_dummyPlace st.2.2) H → va_D A (iX10_straighten aZ cI cZ Z_code Z_width Z_isArrow Z_from Z_to Z_turned Z_told Z_layers Z_layer Z_sizes Z_items Z_place Z_dummyPlace st.2.2) → va_S A s.heap H locs → lv_has ls 5 [(0, .ref (aZ 0)), (1, .int x1_1), (2, .int st.1), (3, .int st.2.1)] → W p l e (headSpec wsX10_straighten (rX10_straighten)).room s m args below meth c H locs 0 0 Q (F0 m 14 ls []) := by
        intro st hst
        refine q_walk (Wh := fun st : Int32 × Int32 × (Nat → Int32) => ∀ (H : Heap) (locs : List Loc) (ls : Array Slot), va_P (dC, dI) vwCl (iX10_straighten aZ cI cZ Z_code Z_width Z_isArrow Z_from Z_to Z_turned Z_told Z_layers Z_layer Z_sizes Z_items Z_place Z_dummyPlace st.2.2) H → va_D A (iX10_straighten aZ cI cZ Z_code Z_width Z_isArrow Z_from Z_to Z_turned Z_told Z_layers Z_layer Z_sizes Z_items Z_place Z_dummyPlace st.2.2) → va_S A s.heap H locs → lv_has ls 5 [(0, .ref (aZ 0)), (1, .int x1_1), (2, .int st.1), (3, .int st.2.1)] → W p l e (headSpec wsX10_straighten (rX10_straighten)).room s m args below meth c H locs 0 0 Q (F0 m 14 ls [])) ?_ st hst
        clear hst st hF
        intro st o hF hin hex H locs ls hP hD hS hl
        obtain ⟨x2_2, x3_2, Z_xs_2⟩ := st
        replace hF : bX10_straighten_14 Z_width Z_sizes Z_items x1_1 x2_2 x3_2 Z_xs_2 = some o := hF
        replace hP : va_P (dC, dI) vwCl (iX10_straighten aZ cI cZ Z_code Z_width Z_isArrow Z_from Z_to Z_turned Z_told Z_layers Z_layer Z_sizes Z_items Z_place Z_dummyPlace Z_xs_2) H := hP
        replace hD : va_D A (iX10_straighten aZ cI cZ Z_code Z_width Z_isArrow Z_from Z_to Z_turned Z_told Z_layers Z_layer Z_sizes Z_items Z_place Z_dummyPlace Z_xs_2) := hD
        replace hl : lv_has ls 5 [(0, .ref (aZ 0)), (1, .int x1_1), (2, .int x2_2), (3, .int x3_2)] := hl
        unfold bX10_straighten_14 at hF
        refine lv_iload_n hx hb dX10_straighten_14 rfl (lv_at hl 3 rfl) ?_
        refine lv_aload_n hx hb dX10_straighten_15 rfl (lv_at hl 0 rfl) ?_
        refine q_get (ci := 10) (C := RX10) (T := TX10) (N := 24) hx hb hts eX10_straighten_X10 hown hK hP 0 rfl rfl 11 (Nat.le_of_ble_eq_true rfl) k1 rfl rfl dX10_straighten_16 ?_
        refine lv_iload_n hx hb dX10_straighten_19 rfl (lv_at hl 1 rfl) ?_
        obtain ⟨hn3, hF⟩ := q_ck hF
        refine va_iald hx hb hK hP 7 0 rfl rfl hn3 dX10_straighten_20 ?_
        refine lv_icmp_ge (tgt := 57) hx hb dX10_straighten_21 (by decide) (fun hc => ?_) (fun hc => ?_)
        · replace hF := q_t hc hF
          exact X2 _ (hex _ (Option.some.inj hF).symm) H locs ls hP hD hS (lv_sub hl [0, 1] rfl)
        · replace hF := q_f hc hF
          refine lv_aload_n hx hb dX10_straighten_24 rfl (lv_at hl 0 rfl) ?_
          refine q_get (ci := 10) (C := RX10) (T := TX10) (N := 24) hx hb hts eX10_straighten_X10 hown hK hP 0 rfl rfl 15 (Nat.le_of_ble_eq_true rfl) k2 rfl rfl dX10_straighten_25 ?_
          refine lv_bipush (v := 40) hx hb dX10_straighten_28 (by decide) ?_
          refine lv_iload_n hx hb dX10_straighten_30 rfl (lv_at hl 1 rfl) ?_
          refine lv_imul hx hb dX10_straighten_31 ?_
          refine lv_iload_n hx hb dX10_straighten_32 rfl (lv_at hl 3 rfl) ?_
          refine lv_iadd hx hb dX10_straighten_33 ?_
          refine lv_iload_n hx hb dX10_straighten_34 rfl (lv_at hl 2 rfl) ?_
          obtain ⟨hn4, hF⟩ := q_ck hF
          refine q_iast hx hb hK hP hD hS 11 0 (iX10_straighten aZ cI cZ Z_code Z_width Z_isArrow Z_from Z_to Z_turned Z_told Z_layers Z_layer Z_sizes Z_items Z_place Z_dummyPlace (upd Z_xs_2 ((40 * x1_1) + x3_2).toNatClampNeg x2_2)) rfl rfl hn4 rfl dX10_straighten_35 (fun H locs hP hD hS => ?_)
          refine lv_iload_n hx hb dX10_straighten_36 rfl (lv_at hl 2 rfl) ?_
          refine lv_aload_n hx hb dX10_straighten_37 rfl (lv_at hl 0 rfl) ?_
          refine lv_aload_n hx hb dX10_straighten_38 rfl (lv_at hl 0 rfl) ?_
          refine lv_iload_n hx hb dX10_straighten_39 rfl (lv_at hl 1 rfl) ?_
          refine lv_iload_n hx hb dX10_straighten_40 rfl (lv_at hl 3 rfl) ?_
          obtain ⟨q5, hcq5, hF⟩ := q_bd hF
          refine q_Vi (As := [.int x1_1, .int x3_2]) (rest := [.ref (aZ 0), .int x2_2]) ⟨hx, hb, hml, hown, hts⟩ hA hK hP hD hS (tX10_item0 l dC dI cI cZ aZ H.size Z_code Z_told Z_layers Z_items x1_1 x3_2 q5 hcq5) (cwV 2 hts gX10_straighten_X10_item0 rfl rfl rfl uX10_item0 ⟨Nat.le_of_ble_eq_true rfl, Nat.le_of_ble_eq_true rfl⟩) [0, 8] [(true, 0), (false, 1), (false, 2), (false, 3), (false, 4), (false, 5), (false, 6), (false, 7), (true, 1), (false, 9), (false, 10), (false, 11)] (iX10_straighten aZ cI cZ Z_code Z_width Z_isArrow Z_from Z_to Z_turned Z_told Z_layers Z_layer Z_sizes Z_items Z_place Z_dummyPlace (upd Z_xs_2 ((40 * x1_1) + x3_2).toNatClampNeg x2_2)) rfl rfl rfl rfl rfl 10 0 rfl rfl rfl rfl hl.1 rfl (Nat.le_of_ble_eq_true rfl) dX10_straighten_41 ⟨Nat.zero_le _, Nat.zero_le _⟩ (fun H locs hP hD hS => ?_)
          obtain ⟨q6, hcq6, hF⟩ := q_bd hF
          refine q_Vi (As := [.int q5]) (rest := [.int x2_2]) ⟨hx, hb, hml, hown, hts⟩ hA hK hP hD hS (tX10_widthOf l dC dI cI cZ aZ H.size Z_code Z_width Z_told Z_layers q5 q6 hcq6) (cwV 1 hts gX10_straighten_X10_widthOf rfl rfl rfl uX10_widthOf ⟨Nat.le_of_ble_eq_true rfl, Nat.le_of_ble_eq_true rfl⟩) [0, 1] [(true, 0), (true, 1), (false, 2), (false, 3), (false, 4), (false, 5), (false, 6), (false, 7), (false, 8), (false, 9), (false, 10), (false, 11)] (iX10_straighten aZ cI cZ Z_code Z_width Z_isArrow Z_from Z_to Z_turned Z_told Z_layers Z_layer Z_sizes Z_items Z_place Z_dummyPlace (upd Z_xs_2 ((40 * x1_1) + x3_2).toNatClampNeg x2_2)) rfl rfl rfl rfl rfl 10 0 rfl rfl rfl rfl hl.1 rfl (Nat.le_of_ble_eq_true rfl) dX10_straighten_44 ⟨Nat.zero_le _, Nat.zero_le _⟩ (fun H locs hP hD hS => ?_)
          refine lv_iconst (v := 4) hx hb dX10_straighten_47 (by decide) ?_
          refine lv_iadd hx hb dX10_straighten_48 ?_
          refine lv_iadd hx hb dX10_straighten_49 ?_
          refine lv_istore_n (lv' := [(2, .int (x2_2 + (q6 + 4))), (0, .ref (aZ 0)), (1, .int x1_1), (3, .int x3_2)]) hx hb dX10_straighten_50 rfl hl (by decide) rfl (fun ls hl => ?_)
          refine lv_iinc (v := (x3_2 + 1)) (lv' := [(3, .int (x3_2 + 1)), (2, .int (x2_2 + (q6 + 4))), (0, .ref (aZ 0)), (1, .int x1_1)]) hx hb dX10_straighten_51 hl (k := 3) rfl rfl (by decide) rfl (fun ls hl => ?_)
          refine lv_goto (tgt := 14) hx hb dX10_straighten_54 (by decide) ?_
          exact hin _ (Option.some.inj hF).symm H locs ls hP hD hS (lv_sub hl [2, 3, 1, 0] rfl)
      exact L2 (0, 0, Z_xs_1) hc2 H locs ls hP hD hS (lv_sub hl [2, 3, 1, 0] rfl)
  exact L1 (0, Z_xs) hc1 H locs ls hP hD hS (lv_sub hl [1, 0] rfl)
