/-! Written by wip/whole/gen.py: walks of X10_crossings, X10_allCrossings, X10_item0, X10_note, X10_arrange, X10_in, X10_hasBox, X10_arrow, X10_at. -/
abbrev rX10_crossings : Room := { frames := 2, cells := 0, slots := 0, locals := 43 }
theorem eX10_crossings_X10 : ∀ w ∈ u_ws RX10 TX10 24, w ∈ wsX10_crossings := by decide +kernel
theorem uX10_crossings : yX10_crossings.cls = RX10 ∧ yX10_crossings.cls ≠ "java/lang/invoke/MethodHandle" ∧ yX10_crossings.cls ≠ "java/lang/invoke/VarHandle" ∧ (parseMethodDescriptor yX10_crossings.desc).map (fun d => d.parameters.length) = some 1 := by decide +kernel
set_option maxHeartbeats 4000000 in
set_option maxRecDepth 100000 in
theorem tX10_crossings (l : Launch) (dC : Nat → ClassId) (dI : Nat → Nat → Nat) (cI cZ : ClassId) (aZ : Nat → Nat) (sz : Nat) (Z_code : Int32) (Z_isArrow : Nat → Int32) (Z_from : Nat → Int32) (Z_to : Nat → Int32) (Z_turned : Nat → Int32) (Z_told : Int32) (Z_layers : Int32) (Z_layer : Nat → Int32) (Z_place : Nat → Int32) (Z_dummyPlace : Nat → Int32) (p0 : Int32) (res : Int32) (hF : fX10_crossings Z_isArrow Z_from Z_to Z_turned Z_layers Z_layer Z_place Z_dummyPlace p0 = some res) : q_Mi l yX10_crossings wsX10_crossings rX10_crossings (dC, dI) (q_ty cI cZ) [.ref (aZ 0), .int p0] (iX10_crossings aZ cI cZ Z_code Z_isArrow Z_from Z_to Z_turned Z_told Z_layers Z_layer Z_place Z_dummyPlace) (iX10_crossings aZ cI cZ Z_code Z_isArrow Z_from Z_to Z_turned Z_told Z_layers Z_layer Z_place Z_dummyPlace) sz res := by
  refine q_meti (cc := cX10_crossings) (maxL := 7) (by decide) rfl (Nat.le_of_ble_eq_true rfl) ?_
  intro p e s m args below meth c Q A H locs ls C hP hD hS hl hret
  obtain ⟨hx, hb, hml, hown, hts, hA, hK⟩ := C
  replace hl : lv_has ls 7 [(0, .ref (aZ 0)), (1, .int p0)] := hl
  have k0 := hts (.fieldLink RX10 103 "RouteLayoutModel" "layers" "I") (by decide +kernel)
  unfold fX10_crossings at hF
  refine lv_iconst (v := 0) hx hb dX10_crossings_0 (by decide) ?_
  refine lv_istore_n (lv' := [(2, .int 0), (0, .ref (aZ 0)), (1, .int p0)]) hx hb dX10_crossings_1 rfl hl (by decide) rfl (fun ls hl => ?_)
  refine lv_iload_n hx hb dX10_crossings_2 rfl (lv_at hl 2 rfl) ?_
  refine lv_if_lt (tgt := 16) hx hb dX10_crossings_3 (by decide) (fun hc => ?_) (fun hc => ?_)
  · replace hF := q_t hc hF
    refine lv_iconst (v := 0) hx hb dX10_crossings_16 (by decide) ?_
    exact hret H locs ls 17 _ _ dX10_crossings_17 (Option.some.inj hF) rfl hP hD hS
  · replace hF := q_f hc hF
    refine lv_iload_n hx hb dX10_crossings_6 rfl (lv_at hl 2 rfl) ?_
    refine lv_iconst (v := 1) hx hb dX10_crossings_7 (by decide) ?_
    refine lv_iadd hx hb dX10_crossings_8 ?_
    refine lv_aload_n hx hb dX10_crossings_9 rfl (lv_at hl 1 rfl) ?_
    refine q_get (ci := 10) (C := RX10) (T := TX10) (N := 24) hx hb hts eX10_crossings_X10 hown hK hP 0 rfl rfl 9 (Nat.le_of_ble_eq_true rfl) k0 rfl rfl dX10_crossings_10 ?_
    refine lv_icmp_lt (tgt := 18) hx hb dX10_crossings_13 (by decide) (fun hc => ?_) (fun hc => ?_)
    · replace hF := q_t hc hF
      refine lv_iconst (v := 0) hx hb dX10_crossings_18 (by decide) ?_
      refine lv_istore_n (lv' := [(3, .int 0), (2, .int 0), (0, .ref (aZ 0)), (1, .int p0)]) hx hb dX10_crossings_19 rfl hl (by decide) rfl (fun ls hl => ?_)
      obtain ⟨q1, hc1, hF⟩ := q_bd hF
      have X1 : ∀ (u1 : Int32), u1 = q1 → ∀ (H : Heap) (locs : List Loc) (ls : Array Slot), va_P (dC, dI) vwCl (iX10_crossings aZ cI cZ Z_code Z_isArrow Z_from Z_to Z_turned Z_told Z_layers Z_layer Z_place Z_dummyPlace) H → va_D A (iX10_crossings aZ cI cZ Z_code Z_isArrow Z_from Z_to Z_turned Z_told Z_layers Z_layer Z_place Z_dummyPlace) → va_S A s.heap H locs → lv_has ls 7 [(2, .int u1)] → W p l e (headSpec wsX10_crossings (rX10_crossings)).room s m args below meth c H locs 0 0 Q (F0 m 124 ls []) := by
        intro u1 hu H locs ls hP hD hS hl
        subst hu
        refine lv_iload_n hx hb dX10_crossings_124 rfl (lv_at hl 0 rfl) ?_
        exact hret H locs ls 125 _ _ dX10_crossings_125 (Option.some.inj hF) rfl hP hD hS
      have L1 : ∀ st : Int32 × Int32, q_lo (fun (st : Int32 × Int32) => bX10_crossings_20 Z_isArrow Z_from Z_to Z_turned Z_layer Z_place Z_dummyPlace p0 st.1 st.2) st = some q1 → ∀ (H : Heap) (locs : List Loc) (ls : Array Slot), va_P (dC, dI) vwCl (iX10_crossings aZ cI cZ Z_code Z_isArrow Z_from Z_to Z_turned Z_told Z_layers Z_layer Z_place Z_dummyPlace) H → va_D A (iX10_crossings aZ cI cZ Z_code Z_isArrow Z_from Z_to Z_turned Z_told Z_layers Z_layer Z_place Z_dummyPlace) → va_S A s.heap H locs → lv_has ls 7 [(0, .ref (aZ 0)), (1, .int p0), (2, .int st.1), (3, .int st.2)] → W p l e (headSpec wsX10_crossings (rX10_crossings)).room s m args below meth c H locs 0 0 Q (F0 m 20 ls []) := by
        intro st hst
        refine q_walk (Wh := fun st : Int32 × Int32 => ∀ (H : Heap) (locs : List Loc) (ls : Array Slot), va_P (dC, dI) vwCl (iX10_crossings aZ cI cZ Z_code Z_isArrow Z_from Z_to Z_turned Z_told Z_layers Z_layer Z_place Z_dummyPlace) H → va_D A (iX10_crossings aZ cI cZ Z_code Z_isArrow Z_from Z_to Z_turned Z_told Z_layers Z_layer Z_place Z_dummyPlace) → va_S A s.heap H locs → lv_has ls 7 [(0, .ref (aZ 0)), (1, .int p0), (2, .int st.1), (3, .int st.2)] → W p l e (headSpec wsX10_crossings (rX10_crossings)).room s m args below meth c H locs 0 0 Q (F0 m 20 ls [])) ?_ st hst
        clear hst st hF
        intro st o hF hin hex H locs ls hP hD hS hl
        obtain ⟨x2_1, x3_1⟩ := st
        replace hF : bX10_crossings_20 Z_isArrow Z_from Z_to Z_turned Z_layer Z_place Z_dummyPlace p0 x2_1 x3_1 = some o := hF
        replace hP : va_P (dC, dI) vwCl (iX10_crossings aZ cI cZ Z_code Z_isArrow Z_from Z_to Z_turned Z_told Z_layers Z_layer Z_place Z_dummyPlace) H := hP
        replace hD : va_D A (iX10_crossings aZ cI cZ Z_code Z_isArrow Z_from Z_to Z_turned Z_told Z_layers Z_layer Z_place Z_dummyPlace) := hD
        replace hl : lv_has ls 7 [(0, .ref (aZ 0)), (1, .int p0), (2, .int x2_1), (3, .int x3_1)] := hl
        unfold bX10_crossings_20 at hF
        refine lv_iload_n hx hb dX10_crossings_20 rfl (lv_at hl 3 rfl) ?_
        refine lv_bipush (v := 24) hx hb dX10_crossings_21 (by decide) ?_
        refine lv_icmp_ge (tgt := 124) hx hb dX10_crossings_23 (by decide) (fun hc => ?_) (fun hc => ?_)
        · replace hF := q_t hc hF
          exact X1 _ (hex _ (Option.some.inj hF).symm) H locs ls hP hD hS (lv_sub hl [2] rfl)
        · replace hF := q_f hc hF
          refine lv_iconst (v := 0) hx hb dX10_crossings_26 (by decide) ?_
          refine lv_istore (lv' := [(4, .int 0), (0, .ref (aZ 0)), (1, .int p0), (2, .int x2_1), (3, .int x3_1)]) hx hb dX10_crossings_27 hl (by decide) rfl (fun ls hl => ?_)
          obtain ⟨q2, hc2, hF⟩ := q_bd hF
          have X2 : ∀ (u2 : Int32), u2 = q2 → ∀ (H : Heap) (locs : List Loc) (ls : Array Slot), va_P (dC, dI) vwCl (iX10_crossings aZ cI cZ Z_code Z_isArrow Z_from Z_to Z_turned Z_told Z_layers Z_layer Z_place Z_dummyPlace) H → va_D A (iX10_crossings aZ cI cZ Z_code Z_isArrow Z_from Z_to Z_turned Z_told Z_layers Z_layer Z_place Z_dummyPlace) → va_S A s.heap H locs → lv_has ls 7 [(0, .ref (aZ 0)), (1, .int p0), (2, .int u2), (3, .int x3_1)] → W p l e (headSpec wsX10_crossings (rX10_crossings)).room s m args below meth c H locs 0 0 Q (F0 m 118 ls []) := by
            intro u2 hu H locs ls hP hD hS hl
            subst hu
            refine lv_iinc (v := (x3_1 + 1)) (lv' := [(3, .int (x3_1 + 1)), (0, .ref (aZ 0)), (1, .int p0), (2, .int u2)]) hx hb dX10_crossings_118 hl (k := 3) rfl rfl (by decide) rfl (fun ls hl => ?_)
            refine lv_goto (tgt := 20) hx hb dX10_crossings_121 (by decide) ?_
            exact hin _ (Option.some.inj hF).symm H locs ls hP hD hS (lv_sub hl [1, 2, 3, 0] rfl)
          have L2 : ∀ st : Int32 × Int32, q_lo (fun (st : Int32 × Int32) => bX10_crossings_29 Z_isArrow Z_from Z_to Z_turned Z_layer Z_place Z_dummyPlace p0 x3_1 st.1 st.2) st = some q2 → ∀ (H : Heap) (locs : List Loc) (ls : Array Slot), va_P (dC, dI) vwCl (iX10_crossings aZ cI cZ Z_code Z_isArrow Z_from Z_to Z_turned Z_told Z_layers Z_layer Z_place Z_dummyPlace) H → va_D A (iX10_crossings aZ cI cZ Z_code Z_isArrow Z_from Z_to Z_turned Z_told Z_layers Z_layer Z_place Z_dummyPlace) → va_S A s.heap H locs → lv_has ls 7 [(0, .ref (aZ 0)), (1, .int p0), (2, .int st.1), (3, .int x3_1), (4, .int st.2)] → W p l e (headSpec wsX10_crossings (rX10_crossings)).room s m args below meth c H locs 0 0 Q (F0 m 29 ls []) := by
            intro st hst
            refine q_walk (Wh := fun st : Int32 × Int32 => ∀ (H : Heap) (locs : List Loc) (ls : Array Slot), va_P (dC, dI) vwCl (iX10_crossings aZ cI cZ Z_code Z_isArrow Z_from Z_to Z_turned Z_told Z_layers Z_layer Z_place Z_dummyPlace) H → va_D A (iX10_crossings aZ cI cZ Z_code Z_isArrow Z_from Z_to Z_turned Z_told Z_layers Z_layer Z_place Z_dummyPlace) → va_S A s.heap H locs → lv_has ls 7 [(0, .ref (aZ 0)), (1, .int p0), (2, .int st.1), (3, .int x3_1), (4, .int st.2)] → W p l e (headSpec wsX10_crossings (rX10_crossings)).room s m args below meth c H locs 0 0 Q (F0 m 29 ls [])) ?_ st hst
            clear hst st hF
            intro st o hF hin hex H locs ls hP hD hS hl
            obtain ⟨x2_2, x4_2⟩ := st
            replace hF : bX10_crossings_29 Z_isArrow Z_from Z_to Z_turned Z_layer Z_place Z_dummyPlace p0 x3_1 x2_2 x4_2 = some o := hF
            replace hP : va_P (dC, dI) vwCl (iX10_crossings aZ cI cZ Z_code Z_isArrow Z_from Z_to Z_turned Z_told Z_layers Z_layer Z_place Z_dummyPlace) H := hP
            replace hD : va_D A (iX10_crossings aZ cI cZ Z_code Z_isArrow Z_from Z_to Z_turned Z_told Z_layers Z_layer Z_place Z_dummyPlace) := hD
            replace hl : lv_has ls 7 [(0, .ref (aZ 0)), (1, .int p0), (2, .int x2_2), (3, .int x3_1), (4, .int x4_2)] := hl
            unfold bX10_crossings_29 at hF
            have JX10_CROSSINGS_112 : ∀ (x2_3 : Int32) (x4_3 : Int32), jX10_crossings_112 p0 x2_3 x3_1 x4_3 = some o → ∀ (H : Heap) (locs : List Loc) (ls : Array Slot), va_P (dC, dI) vwCl (iX10_crossings aZ cI cZ Z_code Z_isArrow Z_from Z_to Z_turned Z_told Z_layers Z_layer Z_place Z_dummyPlace) H → va_D A (iX10_crossings aZ cI cZ Z_code Z_isArrow Z_from Z_to Z_turned Z_told Z_layers Z_layer Z_place Z_dummyPlace) → va_S A s.heap H locs → lv_has ls 7 [(0, .ref (aZ 0)), (1, .int p0), (2, .int x2_3), (3, .int x3_1), (4, .int x4_3)] → W p l e (headSpec wsX10_crossings (rX10_crossings)).room s m args below meth c H locs 0 0 Q (F0 m 112 ls []) := by
              intro x2_3 x4_3 hF H locs ls hP hD hS hl
              unfold jX10_crossings_112 at hF
              refine lv_iinc (v := (x4_3 + 1)) (lv' := [(4, .int (x4_3 + 1)), (0, .ref (aZ 0)), (1, .int p0), (2, .int x2_3), (3, .int x3_1)]) hx hb dX10_crossings_112 hl (k := 4) rfl rfl (by decide) rfl (fun ls hl => ?_)
              refine lv_goto (tgt := 29) hx hb dX10_crossings_115 (by decide) ?_
              exact hin _ (Option.some.inj hF).symm H locs ls hP hD hS (lv_sub hl [1, 2, 3, 4, 0] rfl)
            have JX10_CROSSINGS_109 : ∀ (x2_4 : Int32) (x4_4 : Int32), jX10_crossings_109 p0 x2_4 x3_1 x4_4 = some o → ∀ (H : Heap) (locs : List Loc) (ls : Array Slot), va_P (dC, dI) vwCl (iX10_crossings aZ cI cZ Z_code Z_isArrow Z_from Z_to Z_turned Z_told Z_layers Z_layer Z_place Z_dummyPlace) H → va_D A (iX10_crossings aZ cI cZ Z_code Z_isArrow Z_from Z_to Z_turned Z_told Z_layers Z_layer Z_place Z_dummyPlace) → va_S A s.heap H locs → lv_has ls 7 [(0, .ref (aZ 0)), (1, .int p0), (2, .int x2_4), (3, .int x3_1), (4, .int x4_4)] → W p l e (headSpec wsX10_crossings (rX10_crossings)).room s m args below meth c H locs 0 0 Q (F0 m 109 ls []) := by
              intro x2_4 x4_4 hF H locs ls hP hD hS hl
              unfold jX10_crossings_109 at hF
              refine lv_iinc (v := (x2_4 + 1)) (lv' := [(2, .int (x2_4 + 1)), (0, .ref (aZ 0)), (1, .int p0), (3, .int x3_1), (4, .int x4_4)]) hx hb dX10_crossings_109 hl (k := 2) rfl rfl (by decide) rfl (fun ls hl => ?_)
              exact JX10_CROSSINGS_112 (x2_4 + 1) x4_4 hF H locs ls hP hD hS (lv_sub hl [1, 2, 0, 3, 4] rfl)
            have JX10_CROSSINGS_99 : ∀ (x2_5 : Int32) (x4_5 : Int32) (x5_5 : Int32) (x6_5 : Int32), jX10_crossings_99 p0 x2_5 x3_1 x4_5 x5_5 x6_5 = some o → ∀ (H : Heap) (locs : List Loc) (ls : Array Slot), va_P (dC, dI) vwCl (iX10_crossings aZ cI cZ Z_code Z_isArrow Z_from Z_to Z_turned Z_told Z_layers Z_layer Z_place Z_dummyPlace) H → va_D A (iX10_crossings aZ cI cZ Z_code Z_isArrow Z_from Z_to Z_turned Z_told Z_layers Z_layer Z_place Z_dummyPlace) → va_S A s.heap H locs → lv_has ls 7 [(0, .ref (aZ 0)), (1, .int p0), (2, .int x2_5), (3, .int x3_1), (4, .int x4_5), (5, .int x5_5), (6, .int x6_5)] → W p l e (headSpec wsX10_crossings (rX10_crossings)).room s m args below meth c H locs 0 0 Q (F0 m 99 ls []) := by
              intro x2_5 x4_5 x5_5 x6_5 hF H locs ls hP hD hS hl
              unfold jX10_crossings_99 at hF
              refine lv_iload hx hb dX10_crossings_99 (lv_at hl 5 rfl) ?_
              refine lv_if_le (tgt := 112) hx hb dX10_crossings_101 (by decide) (fun hc => ?_) (fun hc => ?_)
              · replace hF := q_t hc hF
                exact JX10_CROSSINGS_112 x2_5 x4_5 hF H locs ls hP hD hS (lv_sub hl [0, 1, 2, 3, 4] rfl)
              · replace hF := q_f hc hF
                refine lv_iload hx hb dX10_crossings_104 (lv_at hl 6 rfl) ?_
                refine lv_if_ge (tgt := 112) hx hb dX10_crossings_106 (by decide) (fun hc => ?_) (fun hc => ?_)
                · replace hF := q_t hc hF
                  exact JX10_CROSSINGS_112 x2_5 x4_5 hF H locs ls hP hD hS (lv_sub hl [0, 1, 2, 3, 4] rfl)
                · replace hF := q_f hc hF
                  exact JX10_CROSSINGS_109 x2_5 x4_5 hF H locs ls hP hD hS (lv_sub hl [0, 1, 2, 3, 4] rfl)
            refine lv_iload hx hb dX10_crossings_29 (lv_at hl 4 rfl) ?_
            refine lv_iload_n hx hb dX10_crossings_31 rfl (lv_at hl 3 rfl) ?_
            refine lv_icmp_ge (tgt := 118) hx hb dX10_crossings_32 (by decide) (fun hc => ?_) (fun hc => ?_)
            · replace hF := q_t hc hF
              exact X2 _ (hex _ (Option.some.inj hF).symm) H locs ls hP hD hS (lv_sub hl [0, 1, 2, 3] rfl)
            · replace hF := q_f hc hF
              refine lv_aload_n hx hb dX10_crossings_35 rfl (lv_at hl 0 rfl) ?_
              refine lv_iload_n hx hb dX10_crossings_36 rfl (lv_at hl 3 rfl) ?_
              refine lv_iload_n hx hb dX10_crossings_37 rfl (lv_at hl 1 rfl) ?_
              obtain ⟨q6, hcq6, hF⟩ := q_bd hF
              refine q_Vi (As := [.int x3_1, .int p0]) (rest := []) ⟨hx, hb, hml, hown, hts⟩ hA hK hP hD hS (tX10_hasPiece l dC dI cI cZ aZ H.size Z_code Z_isArrow Z_from Z_to Z_turned Z_told Z_layers Z_layer x3_1 p0 q6 hcq6) (cwV 2 hts gX10_crossings_X10_hasPiece rfl rfl rfl uX10_hasPiece ⟨Nat.le_of_ble_eq_true rfl, Nat.le_of_ble_eq_true rfl⟩) [0, 1, 2, 3, 4, 5] [(true, 0), (true, 1), (true, 2), (true, 3), (true, 4), (true, 5), (false, 6), (false, 7)] (iX10_crossings aZ cI cZ Z_code Z_isArrow Z_from Z_to Z_turned Z_told Z_layers Z_layer Z_place Z_dummyPlace) rfl rfl rfl rfl rfl 10 0 rfl rfl rfl rfl hl.1 rfl (Nat.le_of_ble_eq_true rfl) dX10_crossings_38 ⟨Nat.zero_le _, Nat.zero_le _⟩ (fun H locs hP hD hS => ?_)
              refine lv_if_eq (tgt := 112) hx hb dX10_crossings_41 (by decide) (fun hc => ?_) (fun hc => ?_)
              · replace hF := q_t hc hF
                exact JX10_CROSSINGS_112 x2_2 x4_2 hF H locs ls hP hD hS (lv_sub hl [0, 1, 2, 3, 4] rfl)
              · replace hF := q_f hc hF
                refine lv_aload_n hx hb dX10_crossings_44 rfl (lv_at hl 0 rfl) ?_
                refine lv_iload hx hb dX10_crossings_45 (lv_at hl 4 rfl) ?_
                refine lv_iload_n hx hb dX10_crossings_47 rfl (lv_at hl 1 rfl) ?_
                obtain ⟨q7, hcq7, hF⟩ := q_bd hF
                refine q_Vi (As := [.int x4_2, .int p0]) (rest := []) ⟨hx, hb, hml, hown, hts⟩ hA hK hP hD hS (tX10_hasPiece l dC dI cI cZ aZ H.size Z_code Z_isArrow Z_from Z_to Z_turned Z_told Z_layers Z_layer x4_2 p0 q7 hcq7) (cwV 2 hts gX10_crossings_X10_hasPiece rfl rfl rfl uX10_hasPiece ⟨Nat.le_of_ble_eq_true rfl, Nat.le_of_ble_eq_true rfl⟩) [0, 1, 2, 3, 4, 5] [(true, 0), (true, 1), (true, 2), (true, 3), (true, 4), (true, 5), (false, 6), (false, 7)] (iX10_crossings aZ cI cZ Z_code Z_isArrow Z_from Z_to Z_turned Z_told Z_layers Z_layer Z_place Z_dummyPlace) rfl rfl rfl rfl rfl 10 0 rfl rfl rfl rfl hl.1 rfl (Nat.le_of_ble_eq_true rfl) dX10_crossings_48 ⟨Nat.zero_le _, Nat.zero_le _⟩ (fun H locs hP hD hS => ?_)
                refine lv_if_ne (tgt := 57) hx hb dX10_crossings_51 (by decide) (fun hc => ?_) (fun hc => ?_)
                · replace hF := q_f hc hF
                  refine lv_aload_n hx hb dX10_crossings_57 rfl (lv_at hl 0 rfl) ?_
                  refine lv_iload_n hx hb dX10_crossings_58 rfl (lv_at hl 3 rfl) ?_
                  refine lv_iload_n hx hb dX10_crossings_59 rfl (lv_at hl 1 rfl) ?_
                  obtain ⟨q8, hcq8, hF⟩ := q_bd hF
                  refine q_Vi (As := [.int x3_1, .int p0]) (rest := []) ⟨hx, hb, hml, hown, hts⟩ hA hK hP hD hS (tX10_upperPlace l dC dI cI cZ aZ H.size Z_code Z_from Z_to Z_turned Z_told Z_layers Z_layer Z_place Z_dummyPlace x3_1 p0 q8 hcq8) (cwV 2 hts gX10_crossings_X10_upperPlace rfl rfl rfl uX10_upperPlace ⟨Nat.le_of_ble_eq_true rfl, Nat.le_of_ble_eq_true rfl⟩) [0, 2, 3, 4, 5, 6, 7] [(true, 0), (false, 1), (true, 1), (true, 2), (true, 3), (true, 4), (true, 5), (true, 6)] (iX10_crossings aZ cI cZ Z_code Z_isArrow Z_from Z_to Z_turned Z_told Z_layers Z_layer Z_place Z_dummyPlace) rfl rfl rfl rfl rfl 10 0 rfl rfl rfl rfl hl.1 rfl (Nat.le_of_ble_eq_true rfl) dX10_crossings_60 ⟨Nat.zero_le _, Nat.zero_le _⟩ (fun H locs hP hD hS => ?_)
                  refine lv_aload_n hx hb dX10_crossings_63 rfl (lv_at hl 0 rfl) ?_
                  refine lv_iload hx hb dX10_crossings_64 (lv_at hl 4 rfl) ?_
                  refine lv_iload_n hx hb dX10_crossings_66 rfl (lv_at hl 1 rfl) ?_
                  obtain ⟨q9, hcq9, hF⟩ := q_bd hF
                  refine q_Vi (As := [.int x4_2, .int p0]) (rest := [.int q8]) ⟨hx, hb, hml, hown, hts⟩ hA hK hP hD hS (tX10_upperPlace l dC dI cI cZ aZ H.size Z_code Z_from Z_to Z_turned Z_told Z_layers Z_layer Z_place Z_dummyPlace x4_2 p0 q9 hcq9) (cwV 2 hts gX10_crossings_X10_upperPlace rfl rfl rfl uX10_upperPlace ⟨Nat.le_of_ble_eq_true rfl, Nat.le_of_ble_eq_true rfl⟩) [0, 2, 3, 4, 5, 6, 7] [(true, 0), (false, 1), (true, 1), (true, 2), (true, 3), (true, 4), (true, 5), (true, 6)] (iX10_crossings aZ cI cZ Z_code Z_isArrow Z_from Z_to Z_turned Z_told Z_layers Z_layer Z_place Z_dummyPlace) rfl rfl rfl rfl rfl 10 0 rfl rfl rfl rfl hl.1 rfl (Nat.le_of_ble_eq_true rfl) dX10_crossings_67 ⟨Nat.zero_le _, Nat.zero_le _⟩ (fun H locs hP hD hS => ?_)
                  refine lv_isub hx hb dX10_crossings_70 ?_
                  refine lv_istore (lv' := [(5, .int (q8 - q9)), (0, .ref (aZ 0)), (1, .int p0), (2, .int x2_2), (3, .int x3_1), (4, .int x4_2)]) hx hb dX10_crossings_71 hl (by decide) rfl (fun ls hl => ?_)
                  refine lv_aload_n hx hb dX10_crossings_73 rfl (lv_at hl 1 rfl) ?_
                  refine lv_iload_n hx hb dX10_crossings_74 rfl (lv_at hl 4 rfl) ?_
                  refine lv_iload_n hx hb dX10_crossings_75 rfl (lv_at hl 2 rfl) ?_
                  obtain ⟨q10, hcq10, hF⟩ := q_bd hF
                  refine q_Vi (As := [.int x3_1, .int p0]) (rest := []) ⟨hx, hb, hml, hown, hts⟩ hA hK hP hD hS (tX10_lowerPlace l dC dI cI cZ aZ H.size Z_code Z_from Z_to Z_turned Z_told Z_layers Z_layer Z_place Z_dummyPlace x3_1 p0 q10 hcq10) (cwV 2 hts gX10_crossings_X10_lowerPlace rfl rfl rfl uX10_lowerPlace ⟨Nat.le_of_ble_eq_true rfl, Nat.le_of_ble_eq_true rfl⟩) [0, 2, 3, 4, 5, 6, 7] [(true, 0), (false, 1), (true, 1), (true, 2), (true, 3), (true, 4), (true, 5), (true, 6)] (iX10_crossings aZ cI cZ Z_code Z_isArrow Z_from Z_to Z_turned Z_told Z_layers Z_layer Z_place Z_dummyPlace) rfl rfl rfl rfl rfl 10 0 rfl rfl rfl rfl hl.1 rfl (Nat.le_of_ble_eq_true rfl) dX10_crossings_76 ⟨Nat.zero_le _, Nat.zero_le _⟩ (fun H locs hP hD hS => ?_)
                  refine lv_aload_n hx hb dX10_crossings_79 rfl (lv_at hl 1 rfl) ?_
                  refine lv_iload hx hb dX10_crossings_80 (lv_at hl 5 rfl) ?_
                  refine lv_iload_n hx hb dX10_crossings_82 rfl (lv_at hl 2 rfl) ?_
                  obtain ⟨q11, hcq11, hF⟩ := q_bd hF
                  refine q_Vi (As := [.int x4_2, .int p0]) (rest := [.int q10]) ⟨hx, hb, hml, hown, hts⟩ hA hK hP hD hS (tX10_lowerPlace l dC dI cI cZ aZ H.size Z_code Z_from Z_to Z_turned Z_told Z_layers Z_layer Z_place Z_dummyPlace x4_2 p0 q11 hcq11) (cwV 2 hts gX10_crossings_X10_lowerPlace rfl rfl rfl uX10_lowerPlace ⟨Nat.le_of_ble_eq_true rfl, Nat.le_of_ble_eq_true rfl⟩) [0, 2, 3, 4, 5, 6, 7] [(true, 0), (false, 1), (true, 1), (true, 2), (true, 3), (true, 4), (true, 5), (true, 6)] (iX10_crossings aZ cI cZ Z_code Z_isArrow Z_from Z_to Z_turned Z_told Z_layers Z_layer Z_place Z_dummyPlace) rfl rfl rfl rfl rfl 10 0 rfl rfl rfl rfl hl.1 rfl (Nat.le_of_ble_eq_true rfl) dX10_crossings_83 ⟨Nat.zero_le _, Nat.zero_le _⟩ (fun H locs hP hD hS => ?_)
                  refine lv_isub hx hb dX10_crossings_86 ?_
                  refine lv_istore (lv' := [(6, .int (q10 - q11)), (5, .int (q8 - q9)), (0, .ref (aZ 0)), (1, .int p0), (2, .int x2_2), (3, .int x3_1), (4, .int x4_2)]) hx hb dX10_crossings_87 hl (by decide) rfl (fun ls hl => ?_)
                  refine lv_iload hx hb dX10_crossings_89 (lv_at hl 1 rfl) ?_
                  refine lv_if_ge (tgt := 99) hx hb dX10_crossings_91 (by decide) (fun hc => ?_) (fun hc => ?_)
                  · replace hF := q_t hc hF
                    exact JX10_CROSSINGS_99 x2_2 x4_2 (q8 - q9) (q10 - q11) hF H locs ls hP hD hS (lv_sub hl [2, 3, 4, 5, 6, 1, 0] rfl)
                  · replace hF := q_f hc hF
                    refine lv_iload hx hb dX10_crossings_94 (lv_at hl 0 rfl) ?_
                    refine lv_if_gt (tgt := 109) hx hb dX10_crossings_96 (by decide) (fun hc => ?_) (fun hc => ?_)
                    · replace hF := q_t hc hF
                      exact JX10_CROSSINGS_109 x2_2 x4_2 hF H locs ls hP hD hS (lv_sub hl [2, 3, 4, 5, 6] rfl)
                    · replace hF := q_f hc hF
                      exact JX10_CROSSINGS_99 x2_2 x4_2 (q8 - q9) (q10 - q11) hF H locs ls hP hD hS (lv_sub hl [2, 3, 4, 5, 6, 1, 0] rfl)
                · replace hF := q_t hc hF
                  refine lv_goto (tgt := 112) hx hb dX10_crossings_54 (by decide) ?_
                  exact JX10_CROSSINGS_112 x2_2 x4_2 hF H locs ls hP hD hS (lv_sub hl [0, 1, 2, 3, 4] rfl)
          exact L2 (x2_1, 0) hc2 H locs ls hP hD hS (lv_sub hl [1, 2, 3, 4, 0] rfl)
      exact L1 (0, 0) hc1 H locs ls hP hD hS (lv_sub hl [2, 3, 1, 0] rfl)
    · replace hF := q_f hc hF
      refine lv_iconst (v := 0) hx hb dX10_crossings_16 (by decide) ?_
      exact hret H locs ls 17 _ _ dX10_crossings_17 (Option.some.inj hF) rfl hP hD hS
abbrev rX10_allCrossings : Room := { frames := 3, cells := 0, slots := 0, locals := 69 }
theorem eX10_allCrossings_X10 : ∀ w ∈ u_ws RX10 TX10 24, w ∈ wsX10_allCrossings := by decide +kernel
theorem uX10_allCrossings : yX10_allCrossings.cls = RX10 ∧ yX10_allCrossings.cls ≠ "java/lang/invoke/MethodHandle" ∧ yX10_allCrossings.cls ≠ "java/lang/invoke/VarHandle" ∧ (parseMethodDescriptor yX10_allCrossings.desc).map (fun d => d.parameters.length) = some 0 := by decide +kernel
set_option maxHeartbeats 4000000 in
set_option maxRecDepth 100000 in
theorem tX10_allCrossings (l : Launch) (dC : Nat → ClassId) (dI : Nat → Nat → Nat) (cI cZ : ClassId) (aZ : Nat → Nat) (sz : Nat) (Z_code : Int32) (Z_isArrow : Nat → Int32) (Z_from : Nat → Int32) (Z_to : Nat → Int32) (Z_turned : Nat → Int32) (Z_told : Int32) (Z_layers : Int32) (Z_layer : Nat → Int32) (Z_place : Nat → Int32) (Z_dummyPlace : Nat → Int32) (res : Int32) (hF : fX10_allCrossings Z_isArrow Z_from Z_to Z_turned Z_layers Z_layer Z_place Z_dummyPlace = some res) : q_Mi l yX10_allCrossings wsX10_allCrossings rX10_allCrossings (dC, dI) (q_ty cI cZ) [.ref (aZ 0)] (iX10_allCrossings aZ cI cZ Z_code Z_isArrow Z_from Z_to Z_turned Z_told Z_layers Z_layer Z_place Z_dummyPlace) (iX10_allCrossings aZ cI cZ Z_code Z_isArrow Z_from Z_to Z_turned Z_told Z_layers Z_layer Z_place Z_dummyPlace) sz res := by
  refine q_meti (cc := cX10_allCrossings) (maxL := 3) (by decide) rfl (Nat.le_of_ble_eq_true rfl) ?_
  intro p e s m args below meth c Q A H locs ls C hP hD hS hl hret
  obtain ⟨hx, hb, hml, hown, hts, hA, hK⟩ := C
  replace hl : lv_has ls 3 [(0, .ref (aZ 0))] := hl
  have k0 := hts (.fieldLink RX10 103 "RouteLayoutModel" "layers" "I") (by decide +kernel)
  unfold fX10_allCrossings at hF
  refine lv_iconst (v := 0) hx hb dX10_allCrossings_0 (by decide) ?_
  refine lv_istore_n (lv' := [(1, .int 0), (0, .ref (aZ 0))]) hx hb dX10_allCrossings_1 rfl hl (by decide) rfl (fun ls hl => ?_)
  refine lv_iconst (v := 0) hx hb dX10_allCrossings_2 (by decide) ?_
  refine lv_istore_n (lv' := [(2, .int 0), (1, .int 0), (0, .ref (aZ 0))]) hx hb dX10_allCrossings_3 rfl hl (by decide) rfl (fun ls hl => ?_)
  obtain ⟨q1, hc1, hF⟩ := q_bd hF
  have X1 : ∀ (u1 : Int32), u1 = q1 → ∀ (H : Heap) (locs : List Loc) (ls : Array Slot), va_P (dC, dI) vwCl (iX10_allCrossings aZ cI cZ Z_code Z_isArrow Z_from Z_to Z_turned Z_told Z_layers Z_layer Z_place Z_dummyPlace) H → va_D A (iX10_allCrossings aZ cI cZ Z_code Z_isArrow Z_from Z_to Z_turned Z_told Z_layers Z_layer Z_place Z_dummyPlace) → va_S A s.heap H locs → lv_has ls 3 [(1, .int u1)] → W p l e (headSpec wsX10_allCrossings (rX10_allCrossings)).room s m args below meth c H locs 0 0 Q (F0 m 26 ls []) := by
    intro u1 hu H locs ls hP hD hS hl
    subst hu
    refine lv_iload_n hx hb dX10_allCrossings_26 rfl (lv_at hl 0 rfl) ?_
    exact hret H locs ls 27 _ _ dX10_allCrossings_27 (Option.some.inj hF) rfl hP hD hS
  have L1 : ∀ st : Int32 × Int32, q_lo (fun (st : Int32 × Int32) => bX10_allCrossings_4 Z_isArrow Z_from Z_to Z_turned Z_layers Z_layer Z_place Z_dummyPlace st.1 st.2) st = some q1 → ∀ (H : Heap) (locs : List Loc) (ls : Array Slot), va_P (dC, dI) vwCl (iX10_allCrossings aZ cI cZ Z_code Z_isArrow Z_from Z_to Z_turned Z_told Z_layers Z_layer Z_place Z_dummyPlace) H → va_D A (iX10_allCrossings aZ cI cZ Z_code Z_isArrow Z_from Z_to Z_turned Z_told Z_layers Z_layer Z_place Z_dummyPlace) → va_S A s.heap H locs → lv_has ls 3 [(0, .ref (aZ 0)), (1, .int st.1), (2, .int st.2)] → W p l e (headSpec wsX10_allCrossings (rX10_allCrossings)).room s m args below meth c H locs 0 0 Q (F0 m 4 ls []) := by
    intro st hst
    refine q_walk (Wh := fun st : Int32 × Int32 => ∀ (H : Heap) (locs : List Loc) (ls : Array Slot), va_P (dC, dI) vwCl (iX10_allCrossings aZ cI cZ Z_code Z_isArrow Z_from Z_to Z_turned Z_told Z_layers Z_layer Z_place Z_dummyPlace) H → va_D A (iX10_allCrossings aZ cI cZ Z_code Z_isArrow Z_from Z_to Z_turned Z_told Z_layers Z_layer Z_place Z_dummyPlace) → va_S A s.heap H locs → lv_has ls 3 [(0, .ref (aZ 0)), (1, .int st.1), (2, .int st.2)] → W p l e (headSpec wsX10_allCrossings (rX10_allCrossings)).room s m args below meth c H locs 0 0 Q (F0 m 4 ls [])) ?_ st hst
    clear hst st hF
    intro st o hF hin hex H locs ls hP hD hS hl
    obtain ⟨x1_1, x2_1⟩ := st
    replace hF : bX10_allCrossings_4 Z_isArrow Z_from Z_to Z_turned Z_layers Z_layer Z_place Z_dummyPlace x1_1 x2_1 = some o := hF
    replace hP : va_P (dC, dI) vwCl (iX10_allCrossings aZ cI cZ Z_code Z_isArrow Z_from Z_to Z_turned Z_told Z_layers Z_layer Z_place Z_dummyPlace) H := hP
    replace hD : va_D A (iX10_allCrossings aZ cI cZ Z_code Z_isArrow Z_from Z_to Z_turned Z_told Z_layers Z_layer Z_place Z_dummyPlace) := hD
    replace hl : lv_has ls 3 [(0, .ref (aZ 0)), (1, .int x1_1), (2, .int x2_1)] := hl
    unfold bX10_allCrossings_4 at hF
    refine lv_iload_n hx hb dX10_allCrossings_4 rfl (lv_at hl 2 rfl) ?_
    refine lv_aload_n hx hb dX10_allCrossings_5 rfl (lv_at hl 0 rfl) ?_
    refine q_get (ci := 10) (C := RX10) (T := TX10) (N := 24) hx hb hts eX10_allCrossings_X10 hown hK hP 0 rfl rfl 9 (Nat.le_of_ble_eq_true rfl) k0 rfl rfl dX10_allCrossings_6 ?_
    refine lv_icmp_ge (tgt := 26) hx hb dX10_allCrossings_9 (by decide) (fun hc => ?_) (fun hc => ?_)
    · replace hF := q_t hc hF
      exact X1 _ (hex _ (Option.some.inj hF).symm) H locs ls hP hD hS (lv_sub hl [1] rfl)
    · replace hF := q_f hc hF
      refine lv_iload_n hx hb dX10_allCrossings_12 rfl (lv_at hl 1 rfl) ?_
      refine lv_aload_n hx hb dX10_allCrossings_13 rfl (lv_at hl 0 rfl) ?_
      refine lv_iload_n hx hb dX10_allCrossings_14 rfl (lv_at hl 2 rfl) ?_
      obtain ⟨q2, hcq2, hF⟩ := q_bd hF
      refine q_Vi (As := [.int x2_1]) (rest := [.int x1_1]) ⟨hx, hb, hml, hown, hts⟩ hA hK hP hD hS (tX10_crossings l dC dI cI cZ aZ H.size Z_code Z_isArrow Z_from Z_to Z_turned Z_told Z_layers Z_layer Z_place Z_dummyPlace x2_1 q2 hcq2) (cwV 1 hts gX10_allCrossings_X10_crossings rfl rfl rfl uX10_crossings ⟨Nat.le_of_ble_eq_true rfl, Nat.le_of_ble_eq_true rfl⟩) [0, 1, 2, 3, 4, 5, 6, 7] [(true, 0), (true, 1), (true, 2), (true, 3), (true, 4), (true, 5), (true, 6), (true, 7)] (iX10_allCrossings aZ cI cZ Z_code Z_isArrow Z_from Z_to Z_turned Z_told Z_layers Z_layer Z_place Z_dummyPlace) rfl rfl rfl rfl rfl 10 0 rfl rfl rfl rfl hl.1 rfl (Nat.le_of_ble_eq_true rfl) dX10_allCrossings_15 ⟨Nat.zero_le _, Nat.zero_le _⟩ (fun H locs hP hD hS => ?_)
      refine lv_iadd hx hb dX10_allCrossings_18 ?_
      refine lv_istore_n (lv' := [(1, .int (x1_1 + q2)), (0, .ref (aZ 0)), (2, .int x2_1)]) hx hb dX10_allCrossings_19 rfl hl (by decide) rfl (fun ls hl => ?_)
      refine lv_iinc (v := (x2_1 + 1)) (lv' := [(2, .int (x2_1 + 1)), (1, .int (x1_1 + q2)), (0, .ref (aZ 0))]) hx hb dX10_allCrossings_20 hl (k := 2) rfl rfl (by decide) rfl (fun ls hl => ?_)
      refine lv_goto (tgt := 4) hx hb dX10_allCrossings_23 (by decide) ?_
      exact hin _ (Option.some.inj hF).symm H locs ls hP hD hS (lv_sub hl [2, 1, 0] rfl)
  exact L1 (0, 0) hc1 H locs ls hP hD hS (lv_sub hl [2, 1, 0] rfl)
abbrev rX10_item0 : Room := { frames := 0, cells := 0, slots := 0, locals := 0 }
theorem eX10_item0_X10 : ∀ w ∈ u_ws RX10 TX10 24, w ∈ wsX10_item0 := by decide +kernel
theorem uX10_item0 : yX10_item0.cls = RX10 ∧ yX10_item0.cls ≠ "java/lang/invoke/MethodHandle" ∧ yX10_item0.cls ≠ "java/lang/invoke/VarHandle" ∧ (parseMethodDescriptor yX10_item0.desc).map (fun d => d.parameters.length) = some 2 := by decide +kernel
set_option maxHeartbeats 4000000 in
set_option maxRecDepth 100000 in
theorem tX10_item0 (l : Launch) (dC : Nat → ClassId) (dI : Nat → Nat → Nat) (cI cZ : ClassId) (aZ : Nat → Nat) (sz : Nat) (Z_code : Int32) (Z_told : Int32) (Z_layers : Int32) (Z_items : Nat → Int32) (p0 : Int32) (p1 : Int32) (res : Int32) (hF : fX10_item0 Z_items p0 p1 = some res) : q_Mi l yX10_item0 wsX10_item0 rX10_item0 (dC, dI) (q_ty cI cZ) [.ref (aZ 0), .int p0, .int p1] (iX10_item0 aZ cI cZ Z_code Z_told Z_layers Z_items) (iX10_item0 aZ cI cZ Z_code Z_told Z_layers Z_items) sz res := by
  refine q_meti (cc := cX10_item0) (maxL := 3) (by decide) rfl (Nat.le_of_ble_eq_true rfl) ?_
  intro p e s m args below meth c Q A H locs ls C hP hD hS hl hret
  obtain ⟨hx, hb, hml, hown, hts, hA, hK⟩ := C
  replace hl : lv_has ls 3 [(0, .ref (aZ 0)), (1, .int p0), (2, .int p1)] := hl
  have k0 := hts (.fieldLink RX10 38 "RouteLayoutModel" "items" "[I") (by decide +kernel)
  unfold fX10_item0 at hF
  refine lv_aload_n hx hb dX10_item0_0 rfl (lv_at hl 0 rfl) ?_
  refine q_get (ci := 10) (C := RX10) (T := TX10) (N := 24) hx hb hts eX10_item0_X10 hown hK hP 0 rfl rfl 12 (Nat.le_of_ble_eq_true rfl) k0 rfl rfl dX10_item0_1 ?_
  refine lv_bipush (v := 40) hx hb dX10_item0_4 (by decide) ?_
  refine lv_iload_n hx hb dX10_item0_6 rfl (lv_at hl 1 rfl) ?_
  refine lv_imul hx hb dX10_item0_7 ?_
  refine lv_iload_n hx hb dX10_item0_8 rfl (lv_at hl 2 rfl) ?_
  refine lv_iadd hx hb dX10_item0_9 ?_
  obtain ⟨hn1, hF⟩ := q_ck hF
  refine va_iald hx hb hK hP 1 0 rfl rfl hn1 dX10_item0_10 ?_
  exact hret H locs ls 11 _ _ dX10_item0_11 (Option.some.inj hF) rfl hP hD hS
abbrev rX10_note : Room := { frames := 1, cells := 0, slots := 0, locals := 22 }
theorem eX10_note_X10 : ∀ w ∈ u_ws RX10 TX10 24, w ∈ wsX10_note := by decide +kernel
theorem uX10_note : yX10_note.cls = RX10 ∧ yX10_note.cls ≠ "java/lang/invoke/MethodHandle" ∧ yX10_note.cls ≠ "java/lang/invoke/VarHandle" ∧ (parseMethodDescriptor yX10_note.desc).map (fun d => d.parameters.length) = some 1 := by decide +kernel
set_option maxHeartbeats 4000000 in
set_option maxRecDepth 100000 in
theorem tX10_note (l : Launch) (dC : Nat → ClassId) (dI : Nat → Nat → Nat) (cI cZ : ClassId) (aZ : Nat → Nat) (sz : Nat) (Z_code : Int32) (Z_told : Int32) (Z_layers : Int32) (Z_sizes : Nat → Int32) (Z_items : Nat → Int32) (Z_place : Nat → Int32) (Z_dummyPlace : Nat → Int32) (p0 : Int32) (res : (Nat → Int32) × (Nat → Int32)) (hF : fX10_note Z_sizes Z_items Z_place Z_dummyPlace p0 = some res) : q_Mv l yX10_note wsX10_note rX10_note (dC, dI) (q_ty cI cZ) [.ref (aZ 0), .int p0] (iX10_note aZ cI cZ Z_code Z_told Z_layers Z_sizes Z_items Z_place Z_dummyPlace) (iX10_note aZ cI cZ Z_code Z_told Z_layers Z_sizes Z_items res.1 res.2) sz := by
  refine q_metv (cc := cX10_note) (maxL := 4) (by decide) rfl (Nat.le_of_ble_eq_true rfl) ?_
  intro p e s m args below meth c Q A H locs ls C hP hD hS hl hret
  obtain ⟨hx, hb, hml, hown, hts, hA, hK⟩ := C
  replace hl : lv_has ls 4 [(0, .ref (aZ 0)), (1, .int p0)] := hl
  have k0 := hts (.fieldLink RX10 35 "RouteLayoutModel" "sizes" "[I") (by decide +kernel)
  have k1 := hts (.fieldLink RX10 44 "RouteLayoutModel" "dummyPlace" "[I") (by decide +kernel)
  have k2 := hts (.fieldLink RX10 41 "RouteLayoutModel" "place" "[I") (by decide +kernel)
  unfold fX10_note at hF
  refine lv_iconst (v := 0) hx hb dX10_note_0 (by decide) ?_
  refine lv_istore_n (lv' := [(2, .int 0), (0, .ref (aZ 0)), (1, .int p0)]) hx hb dX10_note_1 rfl hl (by decide) rfl (fun ls hl => ?_)
  obtain ⟨q1_0, q1_1, hc1, hF⟩ := q_bd2 hF
  have X1 : ∀ (u1_0 : Nat → Int32) (u1_1 : Nat → Int32), (u1_0, u1_1) = (q1_0, q1_1) → ∀ (H : Heap) (locs : List Loc) (ls : Array Slot), va_P (dC, dI) vwCl (iX10_note aZ cI cZ Z_code Z_told Z_layers Z_sizes Z_items u1_0 u1_1) H → va_D A (iX10_note aZ cI cZ Z_code Z_told Z_layers Z_sizes Z_items u1_0 u1_1) → va_S A s.heap H locs → lv_has ls 4 [] → W p l e (headSpec wsX10_note (rX10_note)).room s m args below meth c H locs 0 0 Q (F0 m 56 ls []) := by
    intro u1_0 u1_1 hu H locs ls hP hD hS hl
    obtain ⟨e0, e1⟩ := q_inj2 hu
    subst e0 e1
    exact hret H locs ls 56 _ dX10_note_56 (congrArg (fun z : (Nat → Int32) × (Nat → Int32) => (iX10_note aZ cI cZ Z_code Z_told Z_layers Z_sizes Z_items z.1 z.2)) (Option.some.inj hF)) hP hD hS
  have L1 : ∀ st : Int32 × (Nat → Int32) × (Nat → Int32), q_lo (fun (st : Int32 × (Nat → Int32) × (Nat → Int32)) => bX10_note_2 Z_sizes Z_items p0 st.1 st.2.1 st.2.2) st = some (q1_0, q1_1) → ∀ (H : Heap) (locs : List Loc) (ls : Array Slot), va_P (dC, dI) vwCl (iX10_note aZ cI cZ Z_code Z_told Z_layers Z_sizes Z_items st.2.1 st.2.2) H → va_D A (iX10_note aZ cI cZ Z_code Z_told Z_layers Z_sizes Z_items st.2.1 st.2.2) → va_S A s.heap H locs → lv_has ls 4 [(0, .ref (aZ 0)), (1, .int p0), (2, .int st.1)] → W p l e (headSpec wsX10_note (rX10_note)).room s m args below meth c H locs 0 0 Q (F0 m 2 ls []) := by
    intro st hst
    refine q_walk (Wh := fun st : Int32 × (Nat → Int32) × (Nat → Int32) => ∀ (H : Heap) (locs : List Loc) (ls : Array Slot), va_P (dC, dI) vwCl (iX10_note aZ cI cZ Z_code Z_told Z_layers Z_sizes Z_items st.2.1 st.2.2) H → va_D A (iX10_note aZ cI cZ Z_code Z_told Z_layers Z_sizes Z_items st.2.1 st.2.2) → va_S A s.heap H locs → lv_has ls 4 [(0, .ref (aZ 0)), (1, .int p0), (2, .int st.1)] → W p l e (headSpec wsX10_note (rX10_note)).room s m args below meth c H locs 0 0 Q (F0 m 2 ls [])) ?_ st hst
    clear hst st hF
    intro st o hF hin hex H locs ls hP hD hS hl
    obtain ⟨x2_1, Z_place_1, Z_dummyPlace_1⟩ := st
    replace hF : bX10_note_2 Z_sizes Z_items p0 x2_1 Z_place_1 Z_dummyPlace_1 = some o := hF
    replace hP : va_P (dC, dI) vwCl (iX10_note aZ cI cZ Z_code Z_told Z_layers Z_sizes Z_items Z_place_1 Z_dummyPlace_1) H := hP
    replace hD : va_D A (iX10_note aZ cI cZ Z_code Z_told Z_layers Z_sizes Z_items Z_place_1 Z_dummyPlace_1) := hD
    replace hl : lv_has ls 4 [(0, .ref (aZ 0)), (1, .int p0), (2, .int x2_1)] := hl
    unfold bX10_note_2 at hF
    have JX10_NOTE_50 : ∀ (Z_place_2 : Nat → Int32) (Z_dummyPlace_2 : Nat → Int32) (x2_2 : Int32), jX10_note_50 Z_place_2 Z_dummyPlace_2 p0 x2_2 = some o → ∀ (H : Heap) (locs : List Loc) (ls : Array Slot), va_P (dC, dI) vwCl (iX10_note aZ cI cZ Z_code Z_told Z_layers Z_sizes Z_items Z_place_2 Z_dummyPlace_2) H → va_D A (iX10_note aZ cI cZ Z_code Z_told Z_layers Z_sizes Z_items Z_place_2 Z_dummyPlace_2) → va_S A s.heap H locs → lv_has ls 4 [(0, .ref (aZ 0)), (1, .int p0), (2, .int x2_2)] → W p l e (headSpec wsX10_note (rX10_note)).room s m args below meth c H locs 0 0 Q (F0 m 50 ls []) := by
      intro Z_place_2 Z_dummyPlace_2 x2_2 hF H locs ls hP hD hS hl
      unfold jX10_note_50 at hF
      refine lv_iinc (v := (x2_2 + 1)) (lv' := [(2, .int (x2_2 + 1)), (0, .ref (aZ 0)), (1, .int p0)]) hx hb dX10_note_50 hl (k := 2) rfl rfl (by decide) rfl (fun ls hl => ?_)
      refine lv_goto (tgt := 2) hx hb dX10_note_53 (by decide) ?_
      exact hin _ (Option.some.inj hF).symm H locs ls hP hD hS (lv_sub hl [1, 2, 0] rfl)
    refine lv_iload_n hx hb dX10_note_2 rfl (lv_at hl 2 rfl) ?_
    refine lv_aload_n hx hb dX10_note_3 rfl (lv_at hl 0 rfl) ?_
    refine q_get (ci := 10) (C := RX10) (T := TX10) (N := 24) hx hb hts eX10_note_X10 hown hK hP 0 rfl rfl 11 (Nat.le_of_ble_eq_true rfl) k0 rfl rfl dX10_note_4 ?_
    refine lv_iload_n hx hb dX10_note_7 rfl (lv_at hl 1 rfl) ?_
    obtain ⟨hn3, hF⟩ := q_ck hF
    refine va_iald hx hb hK hP 1 0 rfl rfl hn3 dX10_note_8 ?_
    refine lv_icmp_ge (tgt := 56) hx hb dX10_note_9 (by decide) (fun hc => ?_) (fun hc => ?_)
    · replace hF := q_t hc hF
      exact X1 _ _ (hex _ (Option.some.inj hF).symm) H locs ls hP hD hS (lv_sub hl [] rfl)
    · replace hF := q_f hc hF
      refine lv_aload_n hx hb dX10_note_12 rfl (lv_at hl 0 rfl) ?_
      refine lv_iload_n hx hb dX10_note_13 rfl (lv_at hl 1 rfl) ?_
      refine lv_iload_n hx hb dX10_note_14 rfl (lv_at hl 2 rfl) ?_
      obtain ⟨q4, hcq4, hF⟩ := q_bd hF
      refine q_Vi (As := [.int p0, .int x2_1]) (rest := []) ⟨hx, hb, hml, hown, hts⟩ hA hK hP hD hS (tX10_item0 l dC dI cI cZ aZ H.size Z_code Z_told Z_layers Z_items p0 x2_1 q4 hcq4) (cwV 2 hts gX10_note_X10_item0 rfl rfl rfl uX10_item0 ⟨Nat.le_of_ble_eq_true rfl, Nat.le_of_ble_eq_true rfl⟩) [0, 2] [(true, 0), (false, 1), (true, 1), (false, 3), (false, 4)] (iX10_note aZ cI cZ Z_code Z_told Z_layers Z_sizes Z_items Z_place_1 Z_dummyPlace_1) rfl rfl rfl rfl rfl 10 0 rfl rfl rfl rfl hl.1 rfl (Nat.le_of_ble_eq_true rfl) dX10_note_15 ⟨Nat.zero_le _, Nat.zero_le _⟩ (fun H locs hP hD hS => ?_)
      refine lv_istore_n (lv' := [(3, .int q4), (0, .ref (aZ 0)), (1, .int p0), (2, .int x2_1)]) hx hb dX10_note_18 rfl hl (by decide) rfl (fun ls hl => ?_)
      refine lv_iload_n hx hb dX10_note_19 rfl (lv_at hl 0 rfl) ?_
      refine lv_bipush (v := 100) hx hb dX10_note_20 (by decide) ?_
      refine lv_icmp_ge (tgt := 35) hx hb dX10_note_22 (by decide) (fun hc => ?_) (fun hc => ?_)
      · replace hF := q_t hc hF
        refine lv_aload_n hx hb dX10_note_35 rfl (lv_at hl 1 rfl) ?_
        refine q_get (ci := 10) (C := RX10) (T := TX10) (N := 24) hx hb hts eX10_note_X10 hown hK hP 0 rfl rfl 14 (Nat.le_of_ble_eq_true rfl) k1 rfl rfl dX10_note_36 ?_
        refine lv_bipush (v := 24) hx hb dX10_note_39 (by decide) ?_
        refine lv_iload_n hx hb dX10_note_41 rfl (lv_at hl 0 rfl) ?_
        refine lv_bipush (v := 100) hx hb dX10_note_42 (by decide) ?_
        refine lv_isub hx hb dX10_note_44 ?_
        refine lv_imul hx hb dX10_note_45 ?_
        refine lv_iload_n hx hb dX10_note_46 rfl (lv_at hl 2 rfl) ?_
        refine lv_iadd hx hb dX10_note_47 ?_
        refine lv_iload_n hx hb dX10_note_48 rfl (lv_at hl 3 rfl) ?_
        obtain ⟨hn5, hF⟩ := q_ck hF
        refine q_iast hx hb hK hP hD hS 4 0 (iX10_note aZ cI cZ Z_code Z_told Z_layers Z_sizes Z_items Z_place_1 (upd Z_dummyPlace_1 ((24 * (q4 - 100)) + p0).toNatClampNeg x2_1)) rfl rfl hn5 rfl dX10_note_49 (fun H locs hP hD hS => ?_)
        exact JX10_NOTE_50 Z_place_1 (upd Z_dummyPlace_1 ((24 * (q4 - 100)) + p0).toNatClampNeg x2_1) x2_1 hF H locs ls hP hD hS (lv_sub hl [1, 2, 3] rfl)
      · replace hF := q_f hc hF
        refine lv_aload_n hx hb dX10_note_25 rfl (lv_at hl 1 rfl) ?_
        refine q_get (ci := 10) (C := RX10) (T := TX10) (N := 24) hx hb hts eX10_note_X10 hown hK hP 0 rfl rfl 13 (Nat.le_of_ble_eq_true rfl) k2 rfl rfl dX10_note_26 ?_
        refine lv_iload_n hx hb dX10_note_29 rfl (lv_at hl 0 rfl) ?_
        refine lv_iload_n hx hb dX10_note_30 rfl (lv_at hl 3 rfl) ?_
        obtain ⟨hn6, hF⟩ := q_ck hF
        refine q_iast hx hb hK hP hD hS 3 0 (iX10_note aZ cI cZ Z_code Z_told Z_layers Z_sizes Z_items (upd Z_place_1 q4.toNatClampNeg x2_1) Z_dummyPlace_1) rfl rfl hn6 rfl dX10_note_31 (fun H locs hP hD hS => ?_)
        refine lv_goto (tgt := 50) hx hb dX10_note_32 (by decide) ?_
        exact JX10_NOTE_50 (upd Z_place_1 q4.toNatClampNeg x2_1) Z_dummyPlace_1 x2_1 hF H locs ls hP hD hS (lv_sub hl [1, 2, 3] rfl)
  exact L1 (0, Z_place, Z_dummyPlace) hc1 H locs ls hP hD hS (lv_sub hl [1, 2, 0] rfl)
abbrev rX10_arrange : Room := { frames := 2, cells := 0, slots := 0, locals := 45 }
theorem eX10_arrange_X10 : ∀ w ∈ u_ws RX10 TX10 24, w ∈ wsX10_arrange := by decide +kernel
theorem uX10_arrange : yX10_arrange.cls = RX10 ∧ yX10_arrange.cls ≠ "java/lang/invoke/MethodHandle" ∧ yX10_arrange.cls ≠ "java/lang/invoke/VarHandle" ∧ (parseMethodDescriptor yX10_arrange.desc).map (fun d => d.parameters.length) = some 4 := by decide +kernel
set_option maxHeartbeats 4000000 in
set_option maxRecDepth 100000 in
theorem tX10_arrange (l : Launch) (dC : Nat → ClassId) (dI : Nat → Nat → Nat) (cI cZ : ClassId) (aZ : Nat → Nat) (sz : Nat) (Z_code : Int32) (Z_told : Int32) (Z_layers : Int32) (Z_sizes : Nat → Int32) (Z_items : Nat → Int32) (Z_place : Nat → Int32) (Z_dummyPlace : Nat → Int32) (Z_row : Nat → Int32) (Z_near : Nat → Int32) (p0 : Int32) (p1 : Int32) (p2 : Int32) (p3 : Int32) (res : (Nat → Int32) × (Nat → Int32) × (Nat → Int32) × (Nat → Int32)) (hF : fX10_arrange Z_sizes Z_items Z_place Z_dummyPlace Z_row Z_near p0 p1 p2 p3 = some res) : q_Mv l yX10_arrange wsX10_arrange rX10_arrange (dC, dI) (q_ty cI cZ) [.ref (aZ 0), .int p0, .int p1, .int p2, .int p3] (iX10_arrange aZ cI cZ Z_code Z_told Z_layers Z_sizes Z_items Z_place Z_dummyPlace Z_row Z_near) (iX10_arrange aZ cI cZ Z_code Z_told Z_layers Z_sizes res.1 res.2.1 res.2.2.1 Z_row res.2.2.2) sz := by
  refine q_metv (cc := cX10_arrange) (maxL := 10) (by decide) rfl (Nat.le_of_ble_eq_true rfl) ?_
  intro p e s m args below meth c Q A H locs ls C hP hD hS hl hret
  obtain ⟨hx, hb, hml, hown, hts, hA, hK⟩ := C
  replace hl : lv_has ls 10 [(0, .ref (aZ 0)), (1, .int p0), (2, .int p1), (3, .int p2), (4, .int p3)] := hl
  have k0 := hts (.fieldLink RX10 68 "RouteLayoutModel" "near" "[I") (by decide +kernel)
  have k1 := hts (.fieldLink RX10 38 "RouteLayoutModel" "items" "[I") (by decide +kernel)
  have k2 := hts (.fieldLink RX10 62 "RouteLayoutModel" "row" "[I") (by decide +kernel)
  unfold fX10_arrange at hF
  refine lv_iload_n hx hb dX10_arrange_0 rfl (lv_at hl 3 rfl) ?_
  refine lv_istore (lv' := [(5, .int p2), (0, .ref (aZ 0)), (1, .int p0), (2, .int p1), (3, .int p2), (4, .int p3)]) hx hb dX10_arrange_1 hl (by decide) rfl (fun ls hl => ?_)
  refine lv_iload hx hb dX10_arrange_3 (lv_at hl 5 rfl) ?_
  refine lv_istore (lv' := [(6, .int p3), (5, .int p2), (0, .ref (aZ 0)), (1, .int p0), (2, .int p1), (3, .int p2), (4, .int p3)]) hx hb dX10_arrange_5 hl (by decide) rfl (fun ls hl => ?_)
  refine lv_iconst (v := 0) hx hb dX10_arrange_7 (by decide) ?_
  refine lv_istore (lv' := [(7, .int 0), (6, .int p3), (5, .int p2), (0, .ref (aZ 0)), (1, .int p0), (2, .int p1), (3, .int p2), (4, .int p3)]) hx hb dX10_arrange_8 hl (by decide) rfl (fun ls hl => ?_)
  obtain ⟨q1, hc1, hF⟩ := q_bd hF
  have X1 : ∀ (u1 : Nat → Int32), u1 = q1 → ∀ (H : Heap) (locs : List Loc) (ls : Array Slot), va_P (dC, dI) vwCl (iX10_arrange aZ cI cZ Z_code Z_told Z_layers Z_sizes Z_items Z_place Z_dummyPlace Z_row u1) H → va_D A (iX10_arrange aZ cI cZ Z_code Z_told Z_layers Z_sizes Z_items Z_place Z_dummyPlace Z_row u1) → va_S A s.heap H locs → lv_has ls 10 [(0, .ref (aZ 0)), (1, .int p0), (2, .int p1), (5, .int p2), (6, .int p3)] → W p l e (headSpec wsX10_arrange (rX10_arrange)).room s m args below meth c H locs 0 0 Q (F0 m 31 ls []) := by
    intro u1 hu H locs ls hP hD hS hl
    subst hu
    refine lv_iconst (v := 0) hx hb dX10_arrange_31 (by decide) ?_
    refine lv_istore (lv' := [(7, .int 0), (0, .ref (aZ 0)), (1, .int p0), (2, .int p1), (5, .int p2), (6, .int p3)]) hx hb dX10_arrange_32 hl (by decide) rfl (fun ls hl => ?_)
    obtain ⟨q3_0, q3_1, hc3, hF⟩ := q_bd2 hF
    have X3 : ∀ (u3_0 : Nat → Int32) (u3_1 : Nat → Int32), (u3_0, u3_1) = (q3_0, q3_1) → ∀ (H : Heap) (locs : List Loc) (ls : Array Slot), va_P (dC, dI) vwCl (iX10_arrange aZ cI cZ Z_code Z_told Z_layers Z_sizes u3_0 Z_place Z_dummyPlace Z_row u3_1) H → va_D A (iX10_arrange aZ cI cZ Z_code Z_told Z_layers Z_sizes u3_0 Z_place Z_dummyPlace Z_row u3_1) → va_S A s.heap H locs → lv_has ls 10 [(0, .ref (aZ 0)), (1, .int p0)] → W p l e (headSpec wsX10_arrange (rX10_arrange)).room s m args below meth c H locs 0 0 Q (F0 m 130 ls []) := by
      intro u3_0 u3_1 hu H locs ls hP hD hS hl
      obtain ⟨e0, e1⟩ := q_inj2 hu
      subst e0 e1
      refine lv_aload_n hx hb dX10_arrange_130 rfl (lv_at hl 0 rfl) ?_
      refine lv_iload_n hx hb dX10_arrange_131 rfl (lv_at hl 1 rfl) ?_
      obtain ⟨q14_0, q14_1, hcq14, hF⟩ := q_bd2 hF
      refine q_Vv (As := [.int p0]) (rest := []) ⟨hx, hb, hml, hown, hts⟩ hA hK hP hD hS (tX10_note l dC dI cI cZ aZ H.size Z_code Z_told Z_layers Z_sizes u3_0 Z_place Z_dummyPlace p0 (q14_0, q14_1) hcq14) (cwV 1 hts gX10_arrange_X10_note rfl rfl rfl uX10_note ⟨Nat.le_of_ble_eq_true rfl, Nat.le_of_ble_eq_true rfl⟩) [0, 1, 2, 3, 4] [(true, 0), (true, 1), (true, 2), (true, 3), (true, 4), (false, 5), (false, 6)] (iX10_arrange aZ cI cZ Z_code Z_told Z_layers Z_sizes u3_0 q14_0 q14_1 Z_row u3_1) rfl rfl rfl rfl rfl 10 0 rfl rfl rfl rfl hl.1 rfl (Nat.le_of_ble_eq_true rfl) dX10_arrange_132 ⟨Nat.zero_le _, Nat.zero_le _⟩ (fun H locs hP hD hS => ?_)
      exact hret H locs ls 135 _ dX10_arrange_135 (congrArg (fun z : (Nat → Int32) × (Nat → Int32) × (Nat → Int32) × (Nat → Int32) => (iX10_arrange aZ cI cZ Z_code Z_told Z_layers Z_sizes z.1 z.2.1 z.2.2.1 Z_row z.2.2.2)) (Option.some.inj hF)) hP hD hS
    have L3 : ∀ st : Int32 × Int32 × Int32 × (Nat → Int32) × (Nat → Int32), q_lo (fun (st : Int32 × Int32 × Int32 × (Nat → Int32) × (Nat → Int32)) => bX10_arrange_34 Z_row p0 p1 st.1 st.2.1 st.2.2.1 st.2.2.2.1 st.2.2.2.2) st = some (q3_0, q3_1) → ∀ (H : Heap) (locs : List Loc) (ls : Array Slot), va_P (dC, dI) vwCl (iX10_arrange aZ cI cZ Z_code Z_told Z_layers Z_sizes st.2.2.2.1 Z_place Z_dummyPlace Z_row st.2.2.2.2) H → va_D A (iX10_arrange aZ cI cZ Z_code Z_told Z_layers Z_sizes st.2.2.2.1 Z_place Z_dummyPlace Z_row st.2.2.2.2) → va_S A s.heap H locs → lv_has ls 10 [(0, .ref (aZ 0)), (1, .int p0), (2, .int p1), (5, .int st.1), (6, .int st.2.1), (7, .int st.2.2.1)] → W p l e (headSpec wsX10_arrange (rX10_arrange)).room s m args below meth c H locs 0 0 Q (F0 m 34 ls []) := by
      intro st hst
      refine q_walk (Wh := fun st : Int32 × Int32 × Int32 × (Nat → Int32) × (Nat → Int32) => ∀ (H : Heap) (locs : List Loc) (ls : Array Slot), va_P (dC, dI) vwCl (iX10_arrange aZ cI cZ Z_code Z_told Z_layers Z_sizes st.2.2.2.1 Z_place Z_dummyPlace Z_row st.2.2.2.2) H → va_D A (iX10_arrange aZ cI cZ Z_code Z_told Z_layers Z_sizes st.2.2.2.1 Z_place Z_dummyPlace Z_row st.2.2.2.2) → va_S A s.heap H locs → lv_has ls 10 [(0, .ref (aZ 0)), (1, .int p0), (2, .int p1), (5, .int st.1), (6, .int st.2.1), (7, .int st.2.2.1)] → W p l e (headSpec wsX10_arrange (rX10_arrange)).room s m args below meth c H locs 0 0 Q (F0 m 34 ls [])) ?_ st hst
      clear hst st hF
      intro st o hF hin hex H locs ls hP hD hS hl
      obtain ⟨x5_3, x6_3, x7_3, Z_items_3, Z_near_3⟩ := st
      replace hF : bX10_arrange_34 Z_row p0 p1 x5_3 x6_3 x7_3 Z_items_3 Z_near_3 = some o := hF
      replace hP : va_P (dC, dI) vwCl (iX10_arrange aZ cI cZ Z_code Z_told Z_layers Z_sizes Z_items_3 Z_place Z_dummyPlace Z_row Z_near_3) H := hP
      replace hD : va_D A (iX10_arrange aZ cI cZ Z_code Z_told Z_layers Z_sizes Z_items_3 Z_place Z_dummyPlace Z_row Z_near_3) := hD
      replace hl : lv_has ls 10 [(0, .ref (aZ 0)), (1, .int p0), (2, .int p1), (5, .int x5_3), (6, .int x6_3), (7, .int x7_3)] := hl
      unfold bX10_arrange_34 at hF
      refine lv_iload hx hb dX10_arrange_34 (lv_at hl 5 rfl) ?_
      refine lv_iload_n hx hb dX10_arrange_36 rfl (lv_at hl 2 rfl) ?_
      refine lv_icmp_ge (tgt := 130) hx hb dX10_arrange_37 (by decide) (fun hc => ?_) (fun hc => ?_)
      · replace hF := q_t hc hF
        exact X3 _ _ (hex _ (Option.some.inj hF).symm) H locs ls hP hD hS (lv_sub hl [0, 1] rfl)
      · replace hF := q_f hc hF
        refine lv_iload hx hb dX10_arrange_40 (lv_at hl 4 rfl) ?_
        refine lv_iload_n hx hb dX10_arrange_42 rfl (lv_at hl 2 rfl) ?_
        refine lv_iload hx hb dX10_arrange_43 (lv_at hl 5 rfl) ?_
        refine lv_isub hx hb dX10_arrange_45 ?_
        obtain ⟨hn4, hF⟩ := q_ck hF
        refine lv_idiv hx hb dX10_arrange_46 hn4 ?_
        refine lv_istore (lv' := [(6, .int (x6_3 / (p1 - x7_3))), (0, .ref (aZ 0)), (1, .int p0), (2, .int p1), (5, .int x5_3), (7, .int x7_3)]) hx hb dX10_arrange_47 hl (by decide) rfl (fun ls hl => ?_)
        refine lv_iload hx hb dX10_arrange_49 (lv_at hl 4 rfl) ?_
        refine lv_iload hx hb dX10_arrange_51 (lv_at hl 0 rfl) ?_
        obtain ⟨hn5, hF⟩ := q_ck hF
        refine lv_idiv hx hb dX10_arrange_53 hn5 ?_
        refine lv_istore (lv' := [(8, .int (x5_3 / (x6_3 / (p1 - x7_3)))), (6, .int (x6_3 / (p1 - x7_3))), (0, .ref (aZ 0)), (1, .int p0), (2, .int p1), (5, .int x5_3), (7, .int x7_3)]) hx hb dX10_arrange_54 hl (by decide) rfl (fun ls hl => ?_)
        refine lv_iload hx hb dX10_arrange_56 (lv_at hl 5 rfl) ?_
        refine lv_iload hx hb dX10_arrange_58 (lv_at hl 1 rfl) ?_
        obtain ⟨hn6, hF⟩ := q_ck hF
        refine lv_irem hx hb dX10_arrange_60 hn6 ?_
        obtain ⟨v7, hv7, hF⟩ := q_letE hF
        refine q_top hv7 ?_
        refine lv_istore (lv' := [(5, .int v7), (8, .int (x5_3 / (x6_3 / (p1 - x7_3)))), (6, .int (x6_3 / (p1 - x7_3))), (0, .ref (aZ 0)), (1, .int p0), (2, .int p1), (7, .int x7_3)]) hx hb dX10_arrange_61 hl (by decide) rfl (fun ls hl => ?_)
        refine lv_aload_n hx hb dX10_arrange_63 rfl (lv_at hl 3 rfl) ?_
        refine q_get (ci := 10) (C := RX10) (T := TX10) (N := 24) hx hb hts eX10_arrange_X10 hown hK hP 0 rfl rfl 12 (Nat.le_of_ble_eq_true rfl) k1 rfl rfl dX10_arrange_64 ?_
        refine lv_bipush (v := 40) hx hb dX10_arrange_67 (by decide) ?_
        refine lv_iload_n hx hb dX10_arrange_69 rfl (lv_at hl 4 rfl) ?_
        refine lv_imul hx hb dX10_arrange_70 ?_
        refine lv_iload hx hb dX10_arrange_71 (lv_at hl 6 rfl) ?_
        refine lv_iadd hx hb dX10_arrange_73 ?_
        refine lv_aload_n hx hb dX10_arrange_74 rfl (lv_at hl 3 rfl) ?_
        refine q_get (ci := 10) (C := RX10) (T := TX10) (N := 24) hx hb hts eX10_arrange_X10 hown hK hP 0 rfl rfl 20 (Nat.le_of_ble_eq_true rfl) k2 rfl rfl dX10_arrange_75 ?_
        refine lv_aload_n hx hb dX10_arrange_78 rfl (lv_at hl 3 rfl) ?_
        refine q_get (ci := 10) (C := RX10) (T := TX10) (N := 24) hx hb hts eX10_arrange_X10 hown hK hP 0 rfl rfl 22 (Nat.le_of_ble_eq_true rfl) k0 rfl rfl dX10_arrange_79 ?_
        refine lv_iload hx hb dX10_arrange_82 (lv_at hl 1 rfl) ?_
        obtain ⟨hn8, hF⟩ := q_ck hF
        refine va_iald hx hb hK hP 6 0 rfl rfl hn8 dX10_arrange_84 ?_
        obtain ⟨hn9, hF⟩ := q_ck hF
        refine va_iald hx hb hK hP 5 0 rfl rfl hn9 dX10_arrange_85 ?_
        obtain ⟨hn10, hF⟩ := q_ck hF
        refine q_iast hx hb hK hP hD hS 2 0 (iX10_arrange aZ cI cZ Z_code Z_told Z_layers Z_sizes (upd Z_items_3 ((40 * p0) + x7_3).toNatClampNeg (Z_row (Z_near_3 (x5_3 / (x6_3 / (p1 - x7_3))).toNatClampNeg).toNatClampNeg)) Z_place Z_dummyPlace Z_row Z_near_3) rfl rfl hn10 rfl dX10_arrange_86 (fun H locs hP hD hS => ?_)
        refine lv_iload hx hb dX10_arrange_87 (lv_at hl 1 rfl) ?_
        refine lv_istore (lv' := [(9, .int (x5_3 / (x6_3 / (p1 - x7_3)))), (5, .int v7), (8, .int (x5_3 / (x6_3 / (p1 - x7_3)))), (6, .int (x6_3 / (p1 - x7_3))), (0, .ref (aZ 0)), (1, .int p0), (2, .int p1), (7, .int x7_3)]) hx hb dX10_arrange_89 hl (by decide) rfl (fun ls hl => ?_)
        obtain ⟨q11, hc11, hF⟩ := q_bd hF
        have X11 : ∀ (u11 : Nat → Int32), u11 = q11 → ∀ (H : Heap) (locs : List Loc) (ls : Array Slot), va_P (dC, dI) vwCl (iX10_arrange aZ cI cZ Z_code Z_told Z_layers Z_sizes (upd Z_items_3 ((40 * p0) + x7_3).toNatClampNeg (Z_row (Z_near_3 (x5_3 / (x6_3 / (p1 - x7_3))).toNatClampNeg).toNatClampNeg)) Z_place Z_dummyPlace Z_row u11) H → va_D A (iX10_arrange aZ cI cZ Z_code Z_told Z_layers Z_sizes (upd Z_items_3 ((40 * p0) + x7_3).toNatClampNeg (Z_row (Z_near_3 (x5_3 / (x6_3 / (p1 - x7_3))).toNatClampNeg).toNatClampNeg)) Z_place Z_dummyPlace Z_row u11) → va_S A s.heap H locs → lv_has ls 10 [(0, .ref (aZ 0)), (1, .int p0), (2, .int p1), (5, .int v7), (6, .int (x6_3 / (p1 - x7_3))), (7, .int x7_3)] → W p l e (headSpec wsX10_arrange (rX10_arrange)).room s m args below meth c H locs 0 0 Q (F0 m 124 ls []) := by
          intro u11 hu H locs ls hP hD hS hl
          subst hu
          refine lv_iinc (v := (x7_3 + 1)) (lv' := [(7, .int (x7_3 + 1)), (0, .ref (aZ 0)), (1, .int p0), (2, .int p1), (5, .int v7), (6, .int (x6_3 / (p1 - x7_3)))]) hx hb dX10_arrange_124 hl (k := 5) rfl rfl (by decide) rfl (fun ls hl => ?_)
          refine lv_goto (tgt := 34) hx hb dX10_arrange_127 (by decide) ?_
          exact hin _ (Option.some.inj hF).symm H locs ls hP hD hS (lv_sub hl [1, 2, 3, 4, 5, 0] rfl)
        have L11 : ∀ st : Int32 × (Nat → Int32), q_lo (fun (st : Int32 × (Nat → Int32)) => bX10_arrange_91 p1 x7_3 st.1 st.2) st = some q11 → ∀ (H : Heap) (locs : List Loc) (ls : Array Slot), va_P (dC, dI) vwCl (iX10_arrange aZ cI cZ Z_code Z_told Z_layers Z_sizes (upd Z_items_3 ((40 * p0) + x7_3).toNatClampNeg (Z_row (Z_near_3 (x5_3 / (x6_3 / (p1 - x7_3))).toNatClampNeg).toNatClampNeg)) Z_place Z_dummyPlace Z_row st.2) H → va_D A (iX10_arrange aZ cI cZ Z_code Z_told Z_layers Z_sizes (upd Z_items_3 ((40 * p0) + x7_3).toNatClampNeg (Z_row (Z_near_3 (x5_3 / (x6_3 / (p1 - x7_3))).toNatClampNeg).toNatClampNeg)) Z_place Z_dummyPlace Z_row st.2) → va_S A s.heap H locs → lv_has ls 10 [(0, .ref (aZ 0)), (1, .int p0), (2, .int p1), (5, .int v7), (6, .int (x6_3 / (p1 - x7_3))), (7, .int x7_3), (9, .int st.1)] → W p l e (headSpec wsX10_arrange (rX10_arrange)).room s m args below meth c H locs 0 0 Q (F0 m 91 ls []) := by
          intro st hst
          refine q_walk (Wh := fun st : Int32 × (Nat → Int32) => ∀ (H : Heap) (locs : List Loc) (ls : Array Slot), va_P (dC, dI) vwCl (iX10_arrange aZ cI cZ Z_code Z_told Z_layers Z_sizes (upd Z_items_3 ((40 * p0) + x7_3).toNatClampNeg (Z_row (Z_near_3 (x5_3 / (x6_3 / (p1 - x7_3))).toNatClampNeg).toNatClampNeg)) Z_place Z_dummyPlace Z_row st.2) H → va_D A (iX10_arrange aZ cI cZ Z_code Z_told Z_layers Z_sizes (upd Z_items_3 ((40 * p0) + x7_3).toNatClampNeg (Z_row (Z_near_3 (x5_3 / (x6_3 / (p1 - x7_3))).toNatClampNeg).toNatClampNeg)) Z_place Z_dummyPlace Z_row st.2) → va_S A s.heap H locs → lv_has ls 10 [(0, .ref (aZ 0)), (1, .int p0), (2, .int p1), (5, .int v7), (6, .int (x6_3 / (p1 - x7_3))), (7, .int x7_3), (9, .int st.1)] → W p l e (headSpec wsX10_arrange (rX10_arrange)).room s m args below meth c H locs 0 0 Q (F0 m 91 ls [])) ?_ st hst
          clear hst st hF
          intro st o hF hin hex H locs ls hP hD hS hl
          obtain ⟨x9_11, Z_near_11⟩ := st
          replace hF : bX10_arrange_91 p1 x7_3 x9_11 Z_near_11 = some o := hF
          replace hP : va_P (dC, dI) vwCl (iX10_arrange aZ cI cZ Z_code Z_told Z_layers Z_sizes (upd Z_items_3 ((40 * p0) + x7_3).toNatClampNeg (Z_row (Z_near_3 (x5_3 / (x6_3 / (p1 - x7_3))).toNatClampNeg).toNatClampNeg)) Z_place Z_dummyPlace Z_row Z_near_11) H := hP
          replace hD : va_D A (iX10_arrange aZ cI cZ Z_code Z_told Z_layers Z_sizes (upd Z_items_3 ((40 * p0) + x7_3).toNatClampNeg (Z_row (Z_near_3 (x5_3 / (x6_3 / (p1 - x7_3))).toNatClampNeg).toNatClampNeg)) Z_place Z_dummyPlace Z_row Z_near_11) := hD
          replace hl : lv_has ls 10 [(0, .ref (aZ 0)), (1, .int p0), (2, .int p1), (5, .int v7), (6, .int (x6_3 / (p1 - x7_3))), (7, .int x7_3), (9, .int x9_11)] := hl
          unfold bX10_arrange_91 at hF
          refine lv_iload hx hb dX10_arrange_91 (lv_at hl 6 rfl) ?_
          refine lv_iconst (v := 1) hx hb dX10_arrange_93 (by decide) ?_
          refine lv_iadd hx hb dX10_arrange_94 ?_
          refine lv_iload_n hx hb dX10_arrange_95 rfl (lv_at hl 2 rfl) ?_
          refine lv_iload hx hb dX10_arrange_96 (lv_at hl 5 rfl) ?_
          refine lv_isub hx hb dX10_arrange_98 ?_
          refine lv_icmp_ge (tgt := 124) hx hb dX10_arrange_99 (by decide) (fun hc => ?_) (fun hc => ?_)
          · replace hF := q_t hc hF
            exact X11 _ (hex _ (Option.some.inj hF).symm) H locs ls hP hD hS (lv_sub hl [0, 1, 2, 3, 4, 5] rfl)
          · replace hF := q_f hc hF
            refine lv_aload_n hx hb dX10_arrange_102 rfl (lv_at hl 0 rfl) ?_
            refine q_get (ci := 10) (C := RX10) (T := TX10) (N := 24) hx hb hts eX10_arrange_X10 hown hK hP 0 rfl rfl 22 (Nat.le_of_ble_eq_true rfl) k0 rfl rfl dX10_arrange_103 ?_
            refine lv_iload hx hb dX10_arrange_106 (lv_at hl 6 rfl) ?_
            refine lv_aload_n hx hb dX10_arrange_108 rfl (lv_at hl 0 rfl) ?_
            refine q_get (ci := 10) (C := RX10) (T := TX10) (N := 24) hx hb hts eX10_arrange_X10 hown hK hP 0 rfl rfl 22 (Nat.le_of_ble_eq_true rfl) k0 rfl rfl dX10_arrange_109 ?_
            refine lv_iload hx hb dX10_arrange_112 (lv_at hl 6 rfl) ?_
            refine lv_iconst (v := 1) hx hb dX10_arrange_114 (by decide) ?_
            refine lv_iadd hx hb dX10_arrange_115 ?_
            obtain ⟨hn12, hF⟩ := q_ck hF
            refine va_iald hx hb hK hP 6 0 rfl rfl hn12 dX10_arrange_116 ?_
            obtain ⟨hn13, hF⟩ := q_ck hF
            refine q_iast hx hb hK hP hD hS 6 0 (iX10_arrange aZ cI cZ Z_code Z_told Z_layers Z_sizes (upd Z_items_3 ((40 * p0) + x7_3).toNatClampNeg (Z_row (Z_near_3 (x5_3 / (x6_3 / (p1 - x7_3))).toNatClampNeg).toNatClampNeg)) Z_place Z_dummyPlace Z_row (upd Z_near_11 x9_11.toNatClampNeg (Z_near_11 (x9_11 + 1).toNatClampNeg))) rfl rfl hn13 rfl dX10_arrange_117 (fun H locs hP hD hS => ?_)
            refine lv_iinc (v := (x9_11 + 1)) (lv' := [(9, .int (x9_11 + 1)), (0, .ref (aZ 0)), (1, .int p0), (2, .int p1), (5, .int v7), (6, .int (x6_3 / (p1 - x7_3))), (7, .int x7_3)]) hx hb dX10_arrange_118 hl (k := 6) rfl rfl (by decide) rfl (fun ls hl => ?_)
            refine lv_goto (tgt := 91) hx hb dX10_arrange_121 (by decide) ?_
            exact hin _ (Option.some.inj hF).symm H locs ls hP hD hS (lv_sub hl [1, 2, 3, 4, 5, 6, 0] rfl)
        exact L11 ((x5_3 / (x6_3 / (p1 - x7_3))), Z_near_3) hc11 H locs ls hP hD hS (lv_sub hl [4, 5, 6, 1, 3, 7, 0] rfl)
    exact L3 (p2, p3, 0, Z_items, u1) hc3 H locs ls hP hD hS (lv_sub hl [1, 2, 3, 4, 5, 0] rfl)
  have L1 : ∀ st : Int32 × (Nat → Int32), q_lo (fun (st : Int32 × (Nat → Int32)) => bX10_arrange_10 p1 st.1 st.2) st = some q1 → ∀ (H : Heap) (locs : List Loc) (ls : Array Slot), va_P (dC, dI) vwCl (iX10_arrange aZ cI cZ Z_code Z_told Z_layers Z_sizes Z_items Z_place Z_dummyPlace Z_row st.2) H → va_D A (iX10_arrange aZ cI cZ Z_code Z_told Z_layers Z_sizes Z_items Z_place Z_dummyPlace Z_row st.2) → va_S A s.heap H locs → lv_has ls 10 [(0, .ref (aZ 0)), (1, .int p0), (2, .int p1), (5, .int p2), (6, .int p3), (7, .int st.1)] → W p l e (headSpec wsX10_arrange (rX10_arrange)).room s m args below meth c H locs 0 0 Q (F0 m 10 ls []) := by
    intro st hst
    refine q_walk (Wh := fun st : Int32 × (Nat → Int32) => ∀ (H : Heap) (locs : List Loc) (ls : Array Slot), va_P (dC, dI) vwCl (iX10_arrange aZ cI cZ Z_code Z_told Z_layers Z_sizes Z_items Z_place Z_dummyPlace Z_row st.2) H → va_D A (iX10_arrange aZ cI cZ Z_code Z_told Z_layers Z_sizes Z_items Z_place Z_dummyPlace Z_row st.2) → va_S A s.heap H locs → lv_has ls 10 [(0, .ref (aZ 0)), (1, .int p0), (2, .int p1), (5, .int p2), (6, .int p3), (7, .int st.1)] → W p l e (headSpec wsX10_arrange (rX10_arrange)).room s m args below meth c H locs 0 0 Q (F0 m 10 ls [])) ?_ st hst
    clear hst st hF
    intro st o hF hin hex H locs ls hP hD hS hl
    obtain ⟨x7_1, Z_near_1⟩ := st
    replace hF : bX10_arrange_10 p1 x7_1 Z_near_1 = some o := hF
    replace hP : va_P (dC, dI) vwCl (iX10_arrange aZ cI cZ Z_code Z_told Z_layers Z_sizes Z_items Z_place Z_dummyPlace Z_row Z_near_1) H := hP
    replace hD : va_D A (iX10_arrange aZ cI cZ Z_code Z_told Z_layers Z_sizes Z_items Z_place Z_dummyPlace Z_row Z_near_1) := hD
    replace hl : lv_has ls 10 [(0, .ref (aZ 0)), (1, .int p0), (2, .int p1), (5, .int p2), (6, .int p3), (7, .int x7_1)] := hl
    unfold bX10_arrange_10 at hF
    refine lv_iload hx hb dX10_arrange_10 (lv_at hl 5 rfl) ?_
    refine lv_iload_n hx hb dX10_arrange_12 rfl (lv_at hl 2 rfl) ?_
    refine lv_icmp_ge (tgt := 31) hx hb dX10_arrange_13 (by decide) (fun hc => ?_) (fun hc => ?_)
    · replace hF := q_t hc hF
      exact X1 _ (hex _ (Option.some.inj hF).symm) H locs ls hP hD hS (lv_sub hl [0, 1, 2, 3, 4] rfl)
    · replace hF := q_f hc hF
      refine lv_aload_n hx hb dX10_arrange_16 rfl (lv_at hl 0 rfl) ?_
      refine q_get (ci := 10) (C := RX10) (T := TX10) (N := 24) hx hb hts eX10_arrange_X10 hown hK hP 0 rfl rfl 22 (Nat.le_of_ble_eq_true rfl) k0 rfl rfl dX10_arrange_17 ?_
      refine lv_iload hx hb dX10_arrange_20 (lv_at hl 5 rfl) ?_
      refine lv_iload hx hb dX10_arrange_22 (lv_at hl 5 rfl) ?_
      obtain ⟨hn2, hF⟩ := q_ck hF
      refine q_iast hx hb hK hP hD hS 6 0 (iX10_arrange aZ cI cZ Z_code Z_told Z_layers Z_sizes Z_items Z_place Z_dummyPlace Z_row (upd Z_near_1 x7_1.toNatClampNeg x7_1)) rfl rfl hn2 rfl dX10_arrange_24 (fun H locs hP hD hS => ?_)
      refine lv_iinc (v := (x7_1 + 1)) (lv' := [(7, .int (x7_1 + 1)), (0, .ref (aZ 0)), (1, .int p0), (2, .int p1), (5, .int p2), (6, .int p3)]) hx hb dX10_arrange_25 hl (k := 5) rfl rfl (by decide) rfl (fun ls hl => ?_)
      refine lv_goto (tgt := 10) hx hb dX10_arrange_28 (by decide) ?_
      exact hin _ (Option.some.inj hF).symm H locs ls hP hD hS (lv_sub hl [1, 2, 3, 4, 5, 0] rfl)
  exact L1 (0, Z_near) hc1 H locs ls hP hD hS (lv_sub hl [3, 4, 5, 2, 1, 0] rfl)
abbrev rX10_in : Room := { frames := 0, cells := 0, slots := 0, locals := 0 }
theorem uX10_in : yX10_in.cls ≠ "java/lang/invoke/MethodHandle" ∧ yX10_in.cls ≠ "java/lang/invoke/VarHandle" ∧ (parseMethodDescriptor yX10_in.desc).map (fun d => d.parameters.length) = some 3 := by decide +kernel
set_option maxHeartbeats 4000000 in
set_option maxRecDepth 100000 in
theorem tX10_in (l : Launch) (dC : Nat → ClassId) (dI : Nat → Nat → Nat) (cI cZ : ClassId) (sz : Nat) (p0 : Int32) (p1 : Int32) (p2 : Int32) (res : Int32) (hF : fX10_in p0 p1 p2 = some res) : q_Mi l yX10_in wsX10_in rX10_in (dC, dI) (q_ty cI cZ) [.int p0, .int p1, .int p2] (iX10_in cI cZ) (iX10_in cI cZ) sz res := by
  refine q_metz (cc := cX10_in) (maxL := 3) (by decide) rfl (Nat.le_of_ble_eq_true rfl) ?_
  intro p e s m args below meth c Q A H locs ls C hP hD hS hl hret
  obtain ⟨hx, hb, hml, hown, hts, hA, hK⟩ := C
  replace hl : lv_has ls 3 [(0, .int p0), (1, .int p1), (2, .int p2)] := hl
  unfold fX10_in at hF
  refine lv_iload_n hx hb dX10_in_0 rfl (lv_at hl 0 rfl) ?_
  refine lv_iload_n hx hb dX10_in_1 rfl (lv_at hl 1 rfl) ?_
  refine lv_icmp_lt (tgt := 14) hx hb dX10_in_2 (by decide) (fun hc => ?_) (fun hc => ?_)
  · replace hF := q_t hc hF
    refine lv_iconst (v := 0) hx hb dX10_in_14 (by decide) ?_
    exact hret H locs ls 15 _ _ dX10_in_15 (Or.inl rfl) (Option.some.inj hF) rfl hP hD hS
  · replace hF := q_f hc hF
    refine lv_iload_n hx hb dX10_in_5 rfl (lv_at hl 0 rfl) ?_
    refine lv_iload_n hx hb dX10_in_6 rfl (lv_at hl 2 rfl) ?_
    refine lv_icmp_gt (tgt := 14) hx hb dX10_in_7 (by decide) (fun hc => ?_) (fun hc => ?_)
    · replace hF := q_t hc hF
      refine lv_iconst (v := 0) hx hb dX10_in_14 (by decide) ?_
      exact hret H locs ls 15 _ _ dX10_in_15 (Or.inl rfl) (Option.some.inj hF) rfl hP hD hS
    · replace hF := q_f hc hF
      refine lv_iconst (v := 1) hx hb dX10_in_10 (by decide) ?_
      refine lv_goto (tgt := 15) hx hb dX10_in_11 (by decide) ?_
      exact hret H locs ls 15 _ _ dX10_in_15 (Or.inr rfl) (Option.some.inj hF) rfl hP hD hS
abbrev rX10_hasBox : Room := { frames := 1, cells := 0, slots := 0, locals := 22 }
theorem eX10_hasBox_X10 : ∀ w ∈ u_ws RX10 TX10 24, w ∈ wsX10_hasBox := by decide +kernel
theorem uX10_hasBox : yX10_hasBox.cls = RX10 ∧ yX10_hasBox.cls ≠ "java/lang/invoke/MethodHandle" ∧ yX10_hasBox.cls ≠ "java/lang/invoke/VarHandle" ∧ (parseMethodDescriptor yX10_hasBox.desc).map (fun d => d.parameters.length) = some 1 := by decide +kernel
set_option maxHeartbeats 4000000 in
set_option maxRecDepth 100000 in
theorem tX10_hasBox (l : Launch) (dC : Nat → ClassId) (dI : Nat → Nat → Nat) (cI cZ : ClassId) (aZ : Nat → Nat) (sz : Nat) (Z_code : Int32) (Z_isBox : Nat → Int32) (Z_told : Int32) (Z_layers : Int32) (p0 : Int32) (res : Int32) (hF : fX10_hasBox Z_isBox p0 = some res) : q_Mi l yX10_hasBox wsX10_hasBox rX10_hasBox (dC, dI) (q_ty cI cZ) [.ref (aZ 0), .int p0] (iX10_hasBox aZ cI cZ Z_code Z_isBox Z_told Z_layers) (iX10_hasBox aZ cI cZ Z_code Z_isBox Z_told Z_layers) sz res := by
  refine q_metz (cc := cX10_hasBox) (maxL := 2) (by decide) rfl (Nat.le_of_ble_eq_true rfl) ?_
  intro p e s m args below meth c Q A H locs ls C hP hD hS hl hret
  obtain ⟨hx, hb, hml, hown, hts, hA, hK⟩ := C
  replace hl : lv_has ls 2 [(0, .ref (aZ 0)), (1, .int p0)] := hl
  have k0 := hts (.fieldLink RX10 7 "RouteLayoutModel" "isBox" "[Z") (by decide +kernel)
  unfold fX10_hasBox at hF
  refine lv_iload_n hx hb dX10_hasBox_0 rfl (lv_at hl 1 rfl) ?_
  refine lv_iconst (v := 0) hx hb dX10_hasBox_1 (by decide) ?_
  refine lv_bipush (v := 15) hx hb dX10_hasBox_2 (by decide) ?_
  obtain ⟨q1, hcq1, hF⟩ := q_bd hF
  refine q_Si (As := [.int p0, .int 0, .int 15]) (rest := []) ⟨hx, hb, hml, hown, hts⟩ hA hK hP hD hS (tX10_in l dC dI cI cZ H.size p0 0 15 q1 hcq1) (va_cwS 3 hts gX10_hasBox_X10_in rfl rfl rfl uX10_in ⟨Nat.le_of_ble_eq_true rfl, Nat.le_of_ble_eq_true rfl⟩) [] [(false, 0), (false, 1)] (iX10_hasBox aZ cI cZ Z_code Z_isBox Z_told Z_layers) rfl rfl rfl rfl rfl rfl hl.1 rfl (Nat.le_of_ble_eq_true rfl) dX10_hasBox_4 ⟨Nat.zero_le _, Nat.zero_le _⟩ (fun H locs hP hD hS => ?_)
  refine lv_if_eq (tgt := 23) hx hb dX10_hasBox_7 (by decide) (fun hc => ?_) (fun hc => ?_)
  · replace hF := q_t hc hF
    refine lv_iconst (v := 0) hx hb dX10_hasBox_23 (by decide) ?_
    exact hret H locs ls 24 _ _ dX10_hasBox_24 (Or.inl rfl) (Option.some.inj hF) rfl hP hD hS
  · replace hF := q_f hc hF
    refine lv_aload_n hx hb dX10_hasBox_10 rfl (lv_at hl 0 rfl) ?_
    refine q_get (ci := 10) (C := RX10) (T := TX10) (N := 24) hx hb hts eX10_hasBox_X10 hown hK hP 0 rfl rfl 1 (Nat.le_of_ble_eq_true rfl) k0 rfl rfl dX10_hasBox_11 ?_
    refine lv_iload_n hx hb dX10_hasBox_14 rfl (lv_at hl 1 rfl) ?_
    obtain ⟨hn2, hF⟩ := q_ck hF
    refine va_zald hx hb hK hP 1 1 rfl rfl hn2 dX10_hasBox_15 ?_
    refine lv_if_eq (tgt := 23) hx hb dX10_hasBox_16 (by decide) (fun hc => ?_) (fun hc => ?_)
    · replace hF := q_t hc hF
      refine lv_iconst (v := 0) hx hb dX10_hasBox_23 (by decide) ?_
      exact hret H locs ls 24 _ _ dX10_hasBox_24 (Or.inl rfl) (Option.some.inj hF) rfl hP hD hS
    · replace hF := q_f hc hF
      refine lv_iconst (v := 1) hx hb dX10_hasBox_19 (by decide) ?_
      refine lv_goto (tgt := 24) hx hb dX10_hasBox_20 (by decide) ?_
      exact hret H locs ls 24 _ _ dX10_hasBox_24 (Or.inr rfl) (Option.some.inj hF) rfl hP hD hS
abbrev rX10_arrow : Room := { frames := 2, cells := 0, slots := 0, locals := 43 }
theorem eX10_arrow_X10 : ∀ w ∈ u_ws RX10 TX10 24, w ∈ wsX10_arrow := by decide +kernel
theorem uX10_arrow : yX10_arrow.cls = RX10 ∧ yX10_arrow.cls ≠ "java/lang/invoke/MethodHandle" ∧ yX10_arrow.cls ≠ "java/lang/invoke/VarHandle" ∧ (parseMethodDescriptor yX10_arrow.desc).map (fun d => d.parameters.length) = some 3 := by decide +kernel
set_option maxHeartbeats 4000000 in
set_option maxRecDepth 100000 in
theorem tX10_arrow (l : Launch) (dC : Nat → ClassId) (dI : Nat → Nat → Nat) (cI cZ : ClassId) (aZ : Nat → Nat) (sz : Nat) (Z_code : Int32) (Z_isBox : Nat → Int32) (Z_isArrow : Nat → Int32) (Z_from : Nat → Int32) (Z_to : Nat → Int32) (Z_told : Int32) (Z_layers : Int32) (p0 : Int32) (p1 : Int32) (p2 : Int32) (res : Int32 × (Nat → Int32) × (Nat → Int32) × (Nat → Int32) × Int32) (hF : fX10_arrow Z_isBox Z_isArrow Z_from Z_to Z_told p0 p1 p2 = some res) : q_Mv l yX10_arrow wsX10_arrow rX10_arrow (dC, dI) (q_ty cI cZ) [.ref (aZ 0), .int p0, .int p1, .int p2] (iX10_arrow aZ cI cZ Z_code Z_isBox Z_isArrow Z_from Z_to Z_told Z_layers) (iX10_arrow aZ cI cZ res.1 Z_isBox res.2.1 res.2.2.1 res.2.2.2.1 res.2.2.2.2 Z_layers) sz := by
  refine q_metv (cc := cX10_arrow) (maxL := 4) (by decide) rfl (Nat.le_of_ble_eq_true rfl) ?_
  intro p e s m args below meth c Q A H locs ls C hP hD hS hl hret
  obtain ⟨hx, hb, hml, hown, hts, hA, hK⟩ := C
  replace hl : lv_has ls 4 [(0, .ref (aZ 0)), (1, .int p0), (2, .int p1), (3, .int p2)] := hl
  have k0 := hts (.fieldLink RX10 74 "RouteLayoutModel" "code" "I") (by decide +kernel)
  have k1 := hts (.fieldLink RX10 20 "RouteLayoutModel" "isArrow" "[Z") (by decide +kernel)
  have k2 := hts (.fieldLink RX10 23 "RouteLayoutModel" "from" "[I") (by decide +kernel)
  have k3 := hts (.fieldLink RX10 26 "RouteLayoutModel" "to" "[I") (by decide +kernel)
  have k4 := hts (.fieldLink RX10 82 "RouteLayoutModel" "told" "Z") (by decide +kernel)
  unfold fX10_arrow at hF
  have JX10_ARROW_37 : ∀ (Z_code_1 : Int32) (Z_isArrow_1 : Nat → Int32) (Z_from_1 : Nat → Int32) (Z_to_1 : Nat → Int32) (Z_told_1 : Int32) (x1_1 : Int32) (x2_1 : Int32) (x3_1 : Int32) (s0_1 : Int32), jX10_arrow_37 Z_isArrow_1 Z_from_1 Z_to_1 Z_told_1 x1_1 x2_1 x3_1 s0_1 = some res → ∀ (H : Heap) (locs : List Loc) (ls : Array Slot), va_P (dC, dI) vwCl (iX10_arrow aZ cI cZ Z_code_1 Z_isBox Z_isArrow_1 Z_from_1 Z_to_1 Z_told_1 Z_layers) H → va_D A (iX10_arrow aZ cI cZ Z_code_1 Z_isBox Z_isArrow_1 Z_from_1 Z_to_1 Z_told_1 Z_layers) → va_S A s.heap H locs → lv_has ls 4 [(0, .ref (aZ 0)), (1, .int x1_1), (2, .int x2_1), (3, .int x3_1)] → W p l e (headSpec wsX10_arrow (rX10_arrow)).room s m args below meth c H locs 0 0 Q (F0 m 37 ls [.int s0_1, .ref (aZ 0)]) := by
    intro Z_code_1 Z_isArrow_1 Z_from_1 Z_to_1 Z_told_1 x1_1 x2_1 x3_1 s0_1 hF H locs ls hP hD hS hl
    unfold jX10_arrow_37 at hF
    refine q_put (ci := 10) (C := RX10) (T := TX10) (N := 24) (ty := .int) hx hb hts eX10_arrow_X10 tyX10 tyX10_ok nmX10 hown hK hP hD hS 0 (iX10_arrow aZ cI cZ s0_1 Z_isBox Z_isArrow_1 Z_from_1 Z_to_1 Z_told_1 Z_layers) rfl rfl 0 (Nat.le_of_ble_eq_true rfl) k0 rfl rfl (by decide +kernel) rfl rfl (Nat.le_of_ble_eq_true rfl) rfl dX10_arrow_37 (fun H locs hP hD hS => ?_)
    refine lv_aload_n hx hb dX10_arrow_40 rfl (lv_at hl 0 rfl) ?_
    refine q_get (ci := 10) (C := RX10) (T := TX10) (N := 24) hx hb hts eX10_arrow_X10 hown hK hP 0 rfl rfl 0 (Nat.le_of_ble_eq_true rfl) k0 rfl rfl dX10_arrow_41 ?_
    refine lv_if_le (tgt := 48) hx hb dX10_arrow_44 (by decide) (fun hc => ?_) (fun hc => ?_)
    · replace hF := q_t hc hF
      refine lv_aload_n hx hb dX10_arrow_48 rfl (lv_at hl 0 rfl) ?_
      refine q_get (ci := 10) (C := RX10) (T := TX10) (N := 24) hx hb hts eX10_arrow_X10 hown hK hP 0 rfl rfl 4 (Nat.le_of_ble_eq_true rfl) k1 rfl rfl dX10_arrow_49 ?_
      refine lv_iload_n hx hb dX10_arrow_52 rfl (lv_at hl 1 rfl) ?_
      refine lv_iconst (v := 1) hx hb dX10_arrow_53 (by decide) ?_
      obtain ⟨hn2, hF⟩ := q_ck hF
      refine q_zast hx hb hK hP hD hS 2 1 (iX10_arrow aZ cI cZ s0_1 Z_isBox (upd Z_isArrow_1 x1_1.toNatClampNeg 1) Z_from_1 Z_to_1 Z_told_1 Z_layers) rfl rfl hn2 (Or.inr rfl) rfl dX10_arrow_54 (fun H locs hP hD hS => ?_)
      refine lv_aload_n hx hb dX10_arrow_55 rfl (lv_at hl 0 rfl) ?_
      refine q_get (ci := 10) (C := RX10) (T := TX10) (N := 24) hx hb hts eX10_arrow_X10 hown hK hP 0 rfl rfl 5 (Nat.le_of_ble_eq_true rfl) k2 rfl rfl dX10_arrow_56 ?_
      refine lv_iload_n hx hb dX10_arrow_59 rfl (lv_at hl 1 rfl) ?_
      refine lv_iload_n hx hb dX10_arrow_60 rfl (lv_at hl 2 rfl) ?_
      obtain ⟨hn3, hF⟩ := q_ck hF
      refine q_iast hx hb hK hP hD hS 3 0 (iX10_arrow aZ cI cZ s0_1 Z_isBox (upd Z_isArrow_1 x1_1.toNatClampNeg 1) (upd Z_from_1 x1_1.toNatClampNeg x2_1) Z_to_1 Z_told_1 Z_layers) rfl rfl hn3 rfl dX10_arrow_61 (fun H locs hP hD hS => ?_)
      refine lv_aload_n hx hb dX10_arrow_62 rfl (lv_at hl 0 rfl) ?_
      refine q_get (ci := 10) (C := RX10) (T := TX10) (N := 24) hx hb hts eX10_arrow_X10 hown hK hP 0 rfl rfl 6 (Nat.le_of_ble_eq_true rfl) k3 rfl rfl dX10_arrow_63 ?_
      refine lv_iload_n hx hb dX10_arrow_66 rfl (lv_at hl 1 rfl) ?_
      refine lv_iload_n hx hb dX10_arrow_67 rfl (lv_at hl 3 rfl) ?_
      obtain ⟨hn4, hF⟩ := q_ck hF
      refine q_iast hx hb hK hP hD hS 4 0 (iX10_arrow aZ cI cZ s0_1 Z_isBox (upd Z_isArrow_1 x1_1.toNatClampNeg 1) (upd Z_from_1 x1_1.toNatClampNeg x2_1) (upd Z_to_1 x1_1.toNatClampNeg x3_1) Z_told_1 Z_layers) rfl rfl hn4 rfl dX10_arrow_68 (fun H locs hP hD hS => ?_)
      refine lv_aload_n hx hb dX10_arrow_69 rfl (lv_at hl 0 rfl) ?_
      refine lv_iconst (v := 0) hx hb dX10_arrow_70 (by decide) ?_
      refine q_put (ci := 10) (C := RX10) (T := TX10) (N := 24) (ty := .boolean) hx hb hts eX10_arrow_X10 tyX10 tyX10_ok nmX10 hown hK hP hD hS 0 (iX10_arrow aZ cI cZ s0_1 Z_isBox (upd Z_isArrow_1 x1_1.toNatClampNeg 1) (upd Z_from_1 x1_1.toNatClampNeg x2_1) (upd Z_to_1 x1_1.toNatClampNeg x3_1) 0 Z_layers) rfl rfl 8 (Nat.le_of_ble_eq_true rfl) k4 rfl rfl (by decide +kernel) (q_narz (Or.inl rfl)) rfl (Nat.le_of_ble_eq_true rfl) rfl dX10_arrow_71 (fun H locs hP hD hS => ?_)
      exact hret H locs ls 74 _ dX10_arrow_74 (congrArg (fun z : Int32 × (Nat → Int32) × (Nat → Int32) × (Nat → Int32) × Int32 => (iX10_arrow aZ cI cZ z.1 Z_isBox z.2.1 z.2.2.1 z.2.2.2.1 z.2.2.2.2 Z_layers)) (Option.some.inj hF)) hP hD hS
    · replace hF := q_f hc hF
      exact hret H locs ls 47 _ dX10_arrow_47 (congrArg (fun z : Int32 × (Nat → Int32) × (Nat → Int32) × (Nat → Int32) × Int32 => (iX10_arrow aZ cI cZ z.1 Z_isBox z.2.1 z.2.2.1 z.2.2.2.1 z.2.2.2.2 Z_layers)) (Option.some.inj hF)) hP hD hS
  have JX10_ARROW_36 : ∀ (Z_code_5 : Int32) (Z_isArrow_5 : Nat → Int32) (Z_from_5 : Nat → Int32) (Z_to_5 : Nat → Int32) (Z_told_5 : Int32) (x1_5 : Int32) (x2_5 : Int32) (x3_5 : Int32), jX10_arrow_36 Z_isArrow_5 Z_from_5 Z_to_5 Z_told_5 x1_5 x2_5 x3_5 = some res → ∀ (H : Heap) (locs : List Loc) (ls : Array Slot), va_P (dC, dI) vwCl (iX10_arrow aZ cI cZ Z_code_5 Z_isBox Z_isArrow_5 Z_from_5 Z_to_5 Z_told_5 Z_layers) H → va_D A (iX10_arrow aZ cI cZ Z_code_5 Z_isBox Z_isArrow_5 Z_from_5 Z_to_5 Z_told_5 Z_layers) → va_S A s.heap H locs → lv_has ls 4 [(0, .ref (aZ 0)), (1, .int x1_5), (2, .int x2_5), (3, .int x3_5)] → W p l e (headSpec wsX10_arrow (rX10_arrow)).room s m args below meth c H locs 0 0 Q (F0 m 36 ls [.ref (aZ 0)]) := by
    intro Z_code_5 Z_isArrow_5 Z_from_5 Z_to_5 Z_told_5 x1_5 x2_5 x3_5 hF H locs ls hP hD hS hl
    unfold jX10_arrow_36 at hF
    refine lv_iconst (v := 1) hx hb dX10_arrow_36 (by decide) ?_
    exact JX10_ARROW_37 Z_code_5 Z_isArrow_5 Z_from_5 Z_to_5 Z_told_5 x1_5 x2_5 x3_5 1 hF H locs ls hP hD hS (lv_sub hl [0, 1, 2, 3] rfl)
  refine lv_aload_n hx hb dX10_arrow_0 rfl (lv_at hl 0 rfl) ?_
  refine lv_iload_n hx hb dX10_arrow_1 rfl (lv_at hl 1 rfl) ?_
  refine lv_iconst (v := 0) hx hb dX10_arrow_2 (by decide) ?_
  refine lv_bipush (v := 23) hx hb dX10_arrow_3 (by decide) ?_
  obtain ⟨q6, hcq6, hF⟩ := q_bd hF
  refine q_Si (As := [.int p0, .int 0, .int 23]) (rest := [.ref (aZ 0)]) ⟨hx, hb, hml, hown, hts⟩ hA hK hP hD hS (tX10_in l dC dI cI cZ H.size p0 0 23 q6 hcq6) (va_cwS 3 hts gX10_arrow_X10_in rfl rfl rfl uX10_in ⟨Nat.le_of_ble_eq_true rfl, Nat.le_of_ble_eq_true rfl⟩) [] [(false, 0), (false, 1), (false, 2), (false, 3), (false, 4)] (iX10_arrow aZ cI cZ Z_code Z_isBox Z_isArrow Z_from Z_to Z_told Z_layers) rfl rfl rfl rfl rfl rfl hl.1 rfl (Nat.le_of_ble_eq_true rfl) dX10_arrow_5 ⟨Nat.zero_le _, Nat.zero_le _⟩ (fun H locs hP hD hS => ?_)
  refine lv_if_eq (tgt := 36) hx hb dX10_arrow_8 (by decide) (fun hc => ?_) (fun hc => ?_)
  · replace hF := q_t hc hF
    exact JX10_ARROW_36 Z_code Z_isArrow Z_from Z_to Z_told p0 p1 p2 hF H locs ls hP hD hS (lv_sub hl [0, 1, 2, 3] rfl)
  · replace hF := q_f hc hF
    refine lv_aload_n hx hb dX10_arrow_11 rfl (lv_at hl 0 rfl) ?_
    refine lv_iload_n hx hb dX10_arrow_12 rfl (lv_at hl 2 rfl) ?_
    obtain ⟨q7, hcq7, hF⟩ := q_bd hF
    refine q_Vi (As := [.int p1]) (rest := [.ref (aZ 0)]) ⟨hx, hb, hml, hown, hts⟩ hA hK hP hD hS (tX10_hasBox l dC dI cI cZ aZ H.size Z_code Z_isBox Z_told Z_layers p1 q7 hcq7) (cwV 1 hts gX10_arrow_X10_hasBox rfl rfl rfl uX10_hasBox ⟨Nat.le_of_ble_eq_true rfl, Nat.le_of_ble_eq_true rfl⟩) [0, 1] [(true, 0), (true, 1), (false, 2), (false, 3), (false, 4)] (iX10_arrow aZ cI cZ Z_code Z_isBox Z_isArrow Z_from Z_to Z_told Z_layers) rfl rfl rfl rfl rfl 10 0 rfl rfl rfl rfl hl.1 rfl (Nat.le_of_ble_eq_true rfl) dX10_arrow_13 ⟨Nat.zero_le _, Nat.zero_le _⟩ (fun H locs hP hD hS => ?_)
    refine lv_if_eq (tgt := 36) hx hb dX10_arrow_16 (by decide) (fun hc => ?_) (fun hc => ?_)
    · replace hF := q_t hc hF
      exact JX10_ARROW_36 Z_code Z_isArrow Z_from Z_to Z_told p0 p1 p2 hF H locs ls hP hD hS (lv_sub hl [0, 1, 2, 3] rfl)
    · replace hF := q_f hc hF
      refine lv_aload_n hx hb dX10_arrow_19 rfl (lv_at hl 0 rfl) ?_
      refine lv_iload_n hx hb dX10_arrow_20 rfl (lv_at hl 3 rfl) ?_
      obtain ⟨q8, hcq8, hF⟩ := q_bd hF
      refine q_Vi (As := [.int p2]) (rest := [.ref (aZ 0)]) ⟨hx, hb, hml, hown, hts⟩ hA hK hP hD hS (tX10_hasBox l dC dI cI cZ aZ H.size Z_code Z_isBox Z_told Z_layers p2 q8 hcq8) (cwV 1 hts gX10_arrow_X10_hasBox rfl rfl rfl uX10_hasBox ⟨Nat.le_of_ble_eq_true rfl, Nat.le_of_ble_eq_true rfl⟩) [0, 1] [(true, 0), (true, 1), (false, 2), (false, 3), (false, 4)] (iX10_arrow aZ cI cZ Z_code Z_isBox Z_isArrow Z_from Z_to Z_told Z_layers) rfl rfl rfl rfl rfl 10 0 rfl rfl rfl rfl hl.1 rfl (Nat.le_of_ble_eq_true rfl) dX10_arrow_21 ⟨Nat.zero_le _, Nat.zero_le _⟩ (fun H locs hP hD hS => ?_)
      refine lv_if_eq (tgt := 36) hx hb dX10_arrow_24 (by decide) (fun hc => ?_) (fun hc => ?_)
      · replace hF := q_t hc hF
        exact JX10_ARROW_36 Z_code Z_isArrow Z_from Z_to Z_told p0 p1 p2 hF H locs ls hP hD hS (lv_sub hl [0, 1, 2, 3] rfl)
      · replace hF := q_f hc hF
        refine lv_iload_n hx hb dX10_arrow_27 rfl (lv_at hl 2 rfl) ?_
        refine lv_iload_n hx hb dX10_arrow_28 rfl (lv_at hl 3 rfl) ?_
        refine lv_icmp_eq (tgt := 36) hx hb dX10_arrow_29 (by decide) (fun hc => ?_) (fun hc => ?_)
        · replace hF := q_t hc hF
          exact JX10_ARROW_36 Z_code Z_isArrow Z_from Z_to Z_told p0 p1 p2 hF H locs ls hP hD hS (lv_sub hl [0, 1, 2, 3] rfl)
        · replace hF := q_f hc hF
          refine lv_iconst (v := 0) hx hb dX10_arrow_32 (by decide) ?_
          refine lv_goto (tgt := 37) hx hb dX10_arrow_33 (by decide) ?_
          exact JX10_ARROW_37 Z_code Z_isArrow Z_from Z_to Z_told p0 p1 p2 0 hF H locs ls hP hD hS (lv_sub hl [0, 1, 2, 3] rfl)
abbrev rX10_at : Room := { frames := 1, cells := 0, slots := 0, locals := 22 }
theorem eX10_at_X10 : ∀ w ∈ u_ws RX10 TX10 24, w ∈ wsX10_at := by decide +kernel
theorem uX10_at : yX10_at.cls = RX10 ∧ yX10_at.cls ≠ "java/lang/invoke/MethodHandle" ∧ yX10_at.cls ≠ "java/lang/invoke/VarHandle" ∧ (parseMethodDescriptor yX10_at.desc).map (fun d => d.parameters.length) = some 2 := by decide +kernel
set_option maxHeartbeats 4000000 in
set_option maxRecDepth 100000 in
theorem tX10_at (l : Launch) (dC : Nat → ClassId) (dI : Nat → Nat → Nat) (cI cZ : ClassId) (aZ : Nat → Nat) (sz : Nat) (Z_code : Int32) (Z_isBox : Nat → Int32) (Z_told : Int32) (Z_layers : Int32) (Z_layer : Nat → Int32) (Z_place : Nat → Int32) (Z_xs : Nat → Int32) (p0 : Int32) (p1 : Int32) (res : Int32 × Int32) (hF : fX10_at Z_isBox Z_told Z_layer Z_place Z_xs p0 p1 = some res) : q_Mi l yX10_at wsX10_at rX10_at (dC, dI) (q_ty cI cZ) [.ref (aZ 0), .int p0, .int p1] (iX10_at aZ cI cZ Z_code Z_isBox Z_told Z_layers Z_layer Z_place Z_xs) (iX10_at aZ cI cZ res.2 Z_isBox Z_told Z_layers Z_layer Z_place Z_xs) sz res.1 := by
  refine q_meti (cc := cX10_at) (maxL := 3) (by decide) rfl (Nat.le_of_ble_eq_true rfl) ?_
  intro p e s m args below meth c Q A H locs ls C hP hD hS hl hret
  obtain ⟨hx, hb, hml, hown, hts, hA, hK⟩ := C
  replace hl : lv_has ls 3 [(0, .ref (aZ 0)), (1, .int p0), (2, .int p1)] := hl
  have k0 := hts (.fieldLink RX10 74 "RouteLayoutModel" "code" "I") (by decide +kernel)
  have k1 := hts (.fieldLink RX10 82 "RouteLayoutModel" "told" "Z") (by decide +kernel)
  have k2 := hts (.fieldLink RX10 7 "RouteLayoutModel" "isBox" "[Z") (by decide +kernel)
  have k3 := hts (.fieldLink RX10 47 "RouteLayoutModel" "xs" "[I") (by decide +kernel)
  have k4 := hts (.fieldLink RX10 32 "RouteLayoutModel" "layer" "[I") (by decide +kernel)
  have k5 := hts (.fieldLink RX10 41 "RouteLayoutModel" "place" "[I") (by decide +kernel)
  unfold fX10_at at hF
  have JX10_AT_25 : ∀ (Z_code_1 : Int32) (x1_1 : Int32) (x2_1 : Int32) (s0_1 : Int32), jX10_at_25 Z_isBox Z_told Z_layer Z_place Z_xs x1_1 x2_1 s0_1 = some res → ∀ (H : Heap) (locs : List Loc) (ls : Array Slot), va_P (dC, dI) vwCl (iX10_at aZ cI cZ Z_code_1 Z_isBox Z_told Z_layers Z_layer Z_place Z_xs) H → va_D A (iX10_at aZ cI cZ Z_code_1 Z_isBox Z_told Z_layers Z_layer Z_place Z_xs) → va_S A s.heap H locs → lv_has ls 3 [(0, .ref (aZ 0)), (1, .int x1_1), (2, .int x2_1)] → W p l e (headSpec wsX10_at (rX10_at)).room s m args below meth c H locs 0 0 Q (F0 m 25 ls [.int s0_1, .ref (aZ 0)]) := by
    intro Z_code_1 x1_1 x2_1 s0_1 hF H locs ls hP hD hS hl
    unfold jX10_at_25 at hF
    refine q_put (ci := 10) (C := RX10) (T := TX10) (N := 24) (ty := .int) hx hb hts eX10_at_X10 tyX10 tyX10_ok nmX10 hown hK hP hD hS 0 (iX10_at aZ cI cZ s0_1 Z_isBox Z_told Z_layers Z_layer Z_place Z_xs) rfl rfl 0 (Nat.le_of_ble_eq_true rfl) k0 rfl rfl (by decide +kernel) rfl rfl (Nat.le_of_ble_eq_true rfl) rfl dX10_at_25 (fun H locs hP hD hS => ?_)
    refine lv_aload_n hx hb dX10_at_28 rfl (lv_at hl 0 rfl) ?_
    refine q_get (ci := 10) (C := RX10) (T := TX10) (N := 24) hx hb hts eX10_at_X10 hown hK hP 0 rfl rfl 0 (Nat.le_of_ble_eq_true rfl) k0 rfl rfl dX10_at_29 ?_
    refine lv_if_le (tgt := 37) hx hb dX10_at_32 (by decide) (fun hc => ?_) (fun hc => ?_)
    · replace hF := q_t hc hF
      refine lv_aload_n hx hb dX10_at_37 rfl (lv_at hl 0 rfl) ?_
      refine q_get (ci := 10) (C := RX10) (T := TX10) (N := 24) hx hb hts eX10_at_X10 hown hK hP 0 rfl rfl 8 (Nat.le_of_ble_eq_true rfl) k1 rfl rfl dX10_at_38 ?_
      refine lv_if_eq (tgt := 53) hx hb dX10_at_41 (by decide) (fun hc => ?_) (fun hc => ?_)
      · replace hF := q_t hc hF
        refine lv_iconst (v := (-1)) hx hb dX10_at_53 (by decide) ?_
        exact hret H locs ls 54 _ _ dX10_at_54 (congrArg Prod.fst (Option.some.inj hF)) (congrArg (fun z : Int32 × Int32 => (iX10_at aZ cI cZ z.2 Z_isBox Z_told Z_layers Z_layer Z_place Z_xs)) (Option.some.inj hF)) hP hD hS
      · replace hF := q_f hc hF
        refine lv_aload_n hx hb dX10_at_44 rfl (lv_at hl 0 rfl) ?_
        refine q_get (ci := 10) (C := RX10) (T := TX10) (N := 24) hx hb hts eX10_at_X10 hown hK hP 0 rfl rfl 1 (Nat.le_of_ble_eq_true rfl) k2 rfl rfl dX10_at_45 ?_
        refine lv_iload_n hx hb dX10_at_48 rfl (lv_at hl 1 rfl) ?_
        obtain ⟨hn2, hF⟩ := q_ck hF
        refine va_zald hx hb hK hP 1 1 rfl rfl hn2 dX10_at_49 ?_
        refine lv_if_ne (tgt := 55) hx hb dX10_at_50 (by decide) (fun hc => ?_) (fun hc => ?_)
        · replace hF := q_f hc hF
          refine lv_iload_n hx hb dX10_at_55 rfl (lv_at hl 2 rfl) ?_
          refine lv_if_ne (tgt := 68) hx hb dX10_at_56 (by decide) (fun hc => ?_) (fun hc => ?_)
          · replace hF := q_f hc hF
            refine lv_iload_n hx hb dX10_at_68 rfl (lv_at hl 2 rfl) ?_
            refine lv_iconst (v := 1) hx hb dX10_at_69 (by decide) ?_
            refine lv_icmp_ne (tgt := 82) hx hb dX10_at_70 (by decide) (fun hc => ?_) (fun hc => ?_)
            · replace hF := q_f hc hF
              refine lv_aload_n hx hb dX10_at_82 rfl (lv_at hl 0 rfl) ?_
              refine q_get (ci := 10) (C := RX10) (T := TX10) (N := 24) hx hb hts eX10_at_X10 hown hK hP 0 rfl rfl 15 (Nat.le_of_ble_eq_true rfl) k3 rfl rfl dX10_at_83 ?_
              refine lv_bipush (v := 40) hx hb dX10_at_86 (by decide) ?_
              refine lv_aload_n hx hb dX10_at_88 rfl (lv_at hl 0 rfl) ?_
              refine q_get (ci := 10) (C := RX10) (T := TX10) (N := 24) hx hb hts eX10_at_X10 hown hK hP 0 rfl rfl 10 (Nat.le_of_ble_eq_true rfl) k4 rfl rfl dX10_at_89 ?_
              refine lv_iload_n hx hb dX10_at_92 rfl (lv_at hl 1 rfl) ?_
              obtain ⟨hn3, hF⟩ := q_ck hF
              refine va_iald hx hb hK hP 2 0 rfl rfl hn3 dX10_at_93 ?_
              refine lv_imul hx hb dX10_at_94 ?_
              refine lv_aload_n hx hb dX10_at_95 rfl (lv_at hl 0 rfl) ?_
              refine q_get (ci := 10) (C := RX10) (T := TX10) (N := 24) hx hb hts eX10_at_X10 hown hK hP 0 rfl rfl 13 (Nat.le_of_ble_eq_true rfl) k5 rfl rfl dX10_at_96 ?_
              refine lv_iload_n hx hb dX10_at_99 rfl (lv_at hl 1 rfl) ?_
              obtain ⟨hn4, hF⟩ := q_ck hF
              refine va_iald hx hb hK hP 3 0 rfl rfl hn4 dX10_at_100 ?_
              refine lv_iadd hx hb dX10_at_101 ?_
              obtain ⟨hn5, hF⟩ := q_ck hF
              refine va_iald hx hb hK hP 4 0 rfl rfl hn5 dX10_at_102 ?_
              exact hret H locs ls 103 _ _ dX10_at_103 (congrArg Prod.fst (Option.some.inj hF)) (congrArg (fun z : Int32 × Int32 => (iX10_at aZ cI cZ z.2 Z_isBox Z_told Z_layers Z_layer Z_place Z_xs)) (Option.some.inj hF)) hP hD hS
            · replace hF := q_t hc hF
              refine lv_aload_n hx hb dX10_at_73 rfl (lv_at hl 0 rfl) ?_
              refine q_get (ci := 10) (C := RX10) (T := TX10) (N := 24) hx hb hts eX10_at_X10 hown hK hP 0 rfl rfl 13 (Nat.le_of_ble_eq_true rfl) k5 rfl rfl dX10_at_74 ?_
              refine lv_iload_n hx hb dX10_at_77 rfl (lv_at hl 1 rfl) ?_
              obtain ⟨hn6, hF⟩ := q_ck hF
              refine va_iald hx hb hK hP 3 0 rfl rfl hn6 dX10_at_78 ?_
              refine lv_goto (tgt := 103) hx hb dX10_at_79 (by decide) ?_
              exact hret H locs ls 103 _ _ dX10_at_103 (congrArg Prod.fst (Option.some.inj hF)) (congrArg (fun z : Int32 × Int32 => (iX10_at aZ cI cZ z.2 Z_isBox Z_told Z_layers Z_layer Z_place Z_xs)) (Option.some.inj hF)) hP hD hS
          · replace hF := q_t hc hF
            refine lv_aload_n hx hb dX10_at_59 rfl (lv_at hl 0 rfl) ?_
            refine q_get (ci := 10) (C := RX10) (T := TX10) (N := 24) hx hb hts eX10_at_X10 hown hK hP 0 rfl rfl 10 (Nat.le_of_ble_eq_true rfl) k4 rfl rfl dX10_at_60 ?_
            refine lv_iload_n hx hb dX10_at_63 rfl (lv_at hl 1 rfl) ?_
            obtain ⟨hn7, hF⟩ := q_ck hF
            refine va_iald hx hb hK hP 2 0 rfl rfl hn7 dX10_at_64 ?_
            refine lv_goto (tgt := 103) hx hb dX10_at_65 (by decide) ?_
            exact hret H locs ls 103 _ _ dX10_at_103 (congrArg Prod.fst (Option.some.inj hF)) (congrArg (fun z : Int32 × Int32 => (iX10_at aZ cI cZ z.2 Z_isBox Z_told Z_layers Z_layer Z_place Z_xs)) (Option.some.inj hF)) hP hD hS
        · replace hF := q_t hc hF
          refine lv_iconst (v := (-1)) hx hb dX10_at_53 (by decide) ?_
          exact hret H locs ls 54 _ _ dX10_at_54 (congrArg Prod.fst (Option.some.inj hF)) (congrArg (fun z : Int32 × Int32 => (iX10_at aZ cI cZ z.2 Z_isBox Z_told Z_layers Z_layer Z_place Z_xs)) (Option.some.inj hF)) hP hD hS
    · replace hF := q_f hc hF
      refine lv_iconst (v := 0) hx hb dX10_at_35 (by decide) ?_
      exact hret H locs ls 36 _ _ dX10_at_36 (congrArg Prod.fst (Option.some.inj hF)) (congrArg (fun z : Int32 × Int32 => (iX10_at aZ cI cZ z.2 Z_isBox Z_told Z_layers Z_layer Z_place Z_xs)) (Option.some.inj hF)) hP hD hS
  have JX10_AT_24 : ∀ (Z_code_8 : Int32) (x1_8 : Int32) (x2_8 : Int32), jX10_at_24 Z_isBox Z_told Z_layer Z_place Z_xs x1_8 x2_8 = some res → ∀ (H : Heap) (locs : List Loc) (ls : Array Slot), va_P (dC, dI) vwCl (iX10_at aZ cI cZ Z_code_8 Z_isBox Z_told Z_layers Z_layer Z_place Z_xs) H → va_D A (iX10_at aZ cI cZ Z_code_8 Z_isBox Z_told Z_layers Z_layer Z_place Z_xs) → va_S A s.heap H locs → lv_has ls 3 [(0, .ref (aZ 0)), (1, .int x1_8), (2, .int x2_8)] → W p l e (headSpec wsX10_at (rX10_at)).room s m args below meth c H locs 0 0 Q (F0 m 24 ls [.ref (aZ 0)]) := by
    intro Z_code_8 x1_8 x2_8 hF H locs ls hP hD hS hl
    unfold jX10_at_24 at hF
    refine lv_iconst (v := 1) hx hb dX10_at_24 (by decide) ?_
    exact JX10_AT_25 Z_code_8 x1_8 x2_8 1 hF H locs ls hP hD hS (lv_sub hl [0, 1, 2] rfl)
  refine lv_aload_n hx hb dX10_at_0 rfl (lv_at hl 0 rfl) ?_
  refine lv_iload_n hx hb dX10_at_1 rfl (lv_at hl 1 rfl) ?_
  refine lv_iconst (v := 0) hx hb dX10_at_2 (by decide) ?_
  refine lv_bipush (v := 15) hx hb dX10_at_3 (by decide) ?_
  obtain ⟨q9, hcq9, hF⟩ := q_bd hF
  refine q_Si (As := [.int p0, .int 0, .int 15]) (rest := [.ref (aZ 0)]) ⟨hx, hb, hml, hown, hts⟩ hA hK hP hD hS (tX10_in l dC dI cI cZ H.size p0 0 15 q9 hcq9) (va_cwS 3 hts gX10_at_X10_in rfl rfl rfl uX10_in ⟨Nat.le_of_ble_eq_true rfl, Nat.le_of_ble_eq_true rfl⟩) [] [(false, 0), (false, 1), (false, 2), (false, 3), (false, 4)] (iX10_at aZ cI cZ Z_code Z_isBox Z_told Z_layers Z_layer Z_place Z_xs) rfl rfl rfl rfl rfl rfl hl.1 rfl (Nat.le_of_ble_eq_true rfl) dX10_at_5 ⟨Nat.zero_le _, Nat.zero_le _⟩ (fun H locs hP hD hS => ?_)
  refine lv_if_eq (tgt := 24) hx hb dX10_at_8 (by decide) (fun hc => ?_) (fun hc => ?_)
  · replace hF := q_t hc hF
    exact JX10_AT_24 Z_code p0 p1 hF H locs ls hP hD hS (lv_sub hl [0, 1, 2] rfl)
  · replace hF := q_f hc hF
    refine lv_iload_n hx hb dX10_at_11 rfl (lv_at hl 2 rfl) ?_
    refine lv_iconst (v := 0) hx hb dX10_at_12 (by decide) ?_
    refine lv_iconst (v := 2) hx hb dX10_at_13 (by decide) ?_
    obtain ⟨q10, hcq10, hF⟩ := q_bd hF
    refine q_Si (As := [.int p1, .int 0, .int 2]) (rest := [.ref (aZ 0)]) ⟨hx, hb, hml, hown, hts⟩ hA hK hP hD hS (tX10_in l dC dI cI cZ H.size p1 0 2 q10 hcq10) (va_cwS 3 hts gX10_at_X10_in rfl rfl rfl uX10_in ⟨Nat.le_of_ble_eq_true rfl, Nat.le_of_ble_eq_true rfl⟩) [] [(false, 0), (false, 1), (false, 2), (false, 3), (false, 4)] (iX10_at aZ cI cZ Z_code Z_isBox Z_told Z_layers Z_layer Z_place Z_xs) rfl rfl rfl rfl rfl rfl hl.1 rfl (Nat.le_of_ble_eq_true rfl) dX10_at_14 ⟨Nat.zero_le _, Nat.zero_le _⟩ (fun H locs hP hD hS => ?_)
    refine lv_if_eq (tgt := 24) hx hb dX10_at_17 (by decide) (fun hc => ?_) (fun hc => ?_)
    · replace hF := q_t hc hF
      exact JX10_AT_24 Z_code p0 p1 hF H locs ls hP hD hS (lv_sub hl [0, 1, 2] rfl)
    · replace hF := q_f hc hF
      refine lv_iconst (v := 0) hx hb dX10_at_20 (by decide) ?_
      refine lv_goto (tgt := 25) hx hb dX10_at_21 (by decide) ?_
      exact JX10_AT_25 Z_code p0 p1 0 hF H locs ls hP hD hS (lv_sub hl [0, 1, 2] rfl)
