/-! Written by wip/whole/gen.py: walks of X1_leastX, X1_shift, X1_lay, X8_openSpot, X8_gatherParts, X8_mostTracks, X8_shareGap. -/
abbrev rX1_leastX : Room := { frames := 2, cells := 0, slots := 0, locals := 44 }
theorem uX1_leastX : yX1_leastX.cls = RX1 ∧ yX1_leastX.cls ≠ "java/lang/invoke/MethodHandle" ∧ yX1_leastX.cls ≠ "java/lang/invoke/VarHandle" ∧ (parseMethodDescriptor yX1_leastX.desc).map (fun d => d.parameters.length) = some 1 := by decide +kernel
set_option maxHeartbeats 4000000 in
set_option maxRecDepth 100000 in
theorem tX1_leastX (l : Launch) (dC : Nat → ClassId) (dI : Nat → Nat → Nat) (cI cZ : ClassId) (aS : Nat → Nat) (aO : Nat → Nat) (sz : Nat) (C_x : Nat → Int32) (O_layers : Int32) (O_size : Nat → Int32) (O_rows : Nat → Int32) (res : Int32) (hF : fX1_leastX C_x O_layers O_size O_rows = some res) : q_Mi l yX1_leastX wsX1_leastX rX1_leastX (dC, dI) (q_ty cI cZ) [.ref (aS 36), .ref (aO 0)] (iX1_leastX aS aO cI cZ C_x O_layers O_size O_rows) (iX1_leastX aS aO cI cZ C_x O_layers O_size O_rows) sz res := by
  refine q_meti (cc := cX1_leastX) (maxL := 5) (by decide) rfl (Nat.le_of_ble_eq_true rfl) ?_
  intro p e s m args below meth c Q A H locs ls C hP hD hS hl hret
  obtain ⟨hx, hb, hml, hown, hts, hA, hK⟩ := C
  replace hl : lv_has ls 5 [(0, .ref (aS 36)), (1, .ref (aO 0))] := hl
  have k0 := hts (.constant RX1 104 (1073741824)) (by decide +kernel)
  have k1 := hts (.methodLink RX1 105 Lib.Math.min.name) (by decide +kernel)
  have k2 := hts (.static Lib.Math.min.name) (by decide +kernel)
  have k3 := hts (.initialized "java/lang/Math") (by decide +kernel)
  have k4 := hts (.code Lib.Math.min.name Lib.Math.min.code 2 (some .int)) (by decide +kernel)
  unfold fX1_leastX at hF
  refine lv_ldc (v := 1073741824) hx hb hown k0 dX1_leastX_0 ?_
  refine lv_istore_n (lv' := [(2, .int 1073741824), (0, .ref (aS 36)), (1, .ref (aO 0))]) hx hb dX1_leastX_2 rfl hl (by decide) rfl (fun ls hl => ?_)
  refine lv_iconst (v := 0) hx hb dX1_leastX_3 (by decide) ?_
  refine lv_istore_n (lv' := [(3, .int 0), (2, .int 1073741824), (0, .ref (aS 36)), (1, .ref (aO 0))]) hx hb dX1_leastX_4 rfl hl (by decide) rfl (fun ls hl => ?_)
  obtain ⟨q1, hc1, hF⟩ := q_bd hF
  have X1 : ∀ (u1 : Int32), u1 = q1 → ∀ (H : Heap) (locs : List Loc) (ls : Array Slot), va_P (dC, dI) vwCl (iX1_leastX aS aO cI cZ C_x O_layers O_size O_rows) H → va_D A (iX1_leastX aS aO cI cZ C_x O_layers O_size O_rows) → va_S A s.heap H locs → lv_has ls 5 [(2, .int u1)] → W p l e (headSpec wsX1_leastX (rX1_leastX)).room s m args below meth c H locs 0 0 Q (F0 m 55 ls []) := by
    intro u1 hu H locs ls hP hD hS hl
    subst hu
    refine lv_iload_n hx hb dX1_leastX_55 rfl (lv_at hl 0 rfl) ?_
    exact hret H locs ls 56 _ _ dX1_leastX_56 (Option.some.inj hF) rfl hP hD hS
  have L1 : ∀ st : Int32 × Int32, q_lo (fun (st : Int32 × Int32) => bX1_leastX_5 C_x O_layers O_size O_rows st.1 st.2) st = some q1 → ∀ (H : Heap) (locs : List Loc) (ls : Array Slot), va_P (dC, dI) vwCl (iX1_leastX aS aO cI cZ C_x O_layers O_size O_rows) H → va_D A (iX1_leastX aS aO cI cZ C_x O_layers O_size O_rows) → va_S A s.heap H locs → lv_has ls 5 [(0, .ref (aS 36)), (1, .ref (aO 0)), (2, .int st.1), (3, .int st.2)] → W p l e (headSpec wsX1_leastX (rX1_leastX)).room s m args below meth c H locs 0 0 Q (F0 m 5 ls []) := by
    intro st hst
    refine q_walk (Wh := fun st : Int32 × Int32 => ∀ (H : Heap) (locs : List Loc) (ls : Array Slot), va_P (dC, dI) vwCl (iX1_leastX aS aO cI cZ C_x O_layers O_size O_rows) H → va_D A (iX1_leastX aS aO cI cZ C_x O_layers O_size O_rows) → va_S A s.heap H locs → lv_has ls 5 [(0, .ref (aS 36)), (1, .ref (aO 0)), (2, .int st.1), (3, .int st.2)] → W p l e (headSpec wsX1_leastX (rX1_leastX)).room s m args below meth c H locs 0 0 Q (F0 m 5 ls [])) ?_ st hst
    clear hst st hF
    intro st o hF hin hex H locs ls hP hD hS hl
    obtain ⟨x2_1, x3_1⟩ := st
    replace hF : bX1_leastX_5 C_x O_layers O_size O_rows x2_1 x3_1 = some o := hF
    replace hP : va_P (dC, dI) vwCl (iX1_leastX aS aO cI cZ C_x O_layers O_size O_rows) H := hP
    replace hD : va_D A (iX1_leastX aS aO cI cZ C_x O_layers O_size O_rows) := hD
    replace hl : lv_has ls 5 [(0, .ref (aS 36)), (1, .ref (aO 0)), (2, .int x2_1), (3, .int x3_1)] := hl
    unfold bX1_leastX_5 at hF
    refine lv_iload_n hx hb dX1_leastX_5 rfl (lv_at hl 3 rfl) ?_
    refine lv_aload_n hx hb dX1_leastX_6 rfl (lv_at hl 1 rfl) ?_
    obtain ⟨q2, hcq2, hF⟩ := q_bd hF
    refine q_Vi (As := []) (rest := [.int x3_1]) ⟨hx, hb, hml, hown, hts⟩ hA hK hP hD hS (tX4_layers l dC dI cI cZ aO H.size O_layers q2 hcq2) (cwV 0 hts gX1_leastX_X4_layers rfl rfl rfl uX4_layers ⟨Nat.le_of_ble_eq_true rfl, Nat.le_of_ble_eq_true rfl⟩) [2] [(false, 0), (false, 1), (true, 0), (false, 3), (false, 4)] (iX1_leastX aS aO cI cZ C_x O_layers O_size O_rows) rfl rfl rfl rfl rfl 4 0 rfl rfl rfl rfl hl.1 rfl (Nat.le_of_ble_eq_true rfl) dX1_leastX_7 ⟨Nat.zero_le _, Nat.zero_le _⟩ (fun H locs hP hD hS => ?_)
    refine lv_icmp_ge (tgt := 55) hx hb dX1_leastX_10 (by decide) (fun hc => ?_) (fun hc => ?_)
    · replace hF := q_t hc hF
      exact X1 _ (hex _ (Option.some.inj hF).symm) H locs ls hP hD hS (lv_sub hl [2] rfl)
    · replace hF := q_f hc hF
      refine lv_iconst (v := 0) hx hb dX1_leastX_13 (by decide) ?_
      refine lv_istore (lv' := [(4, .int 0), (0, .ref (aS 36)), (1, .ref (aO 0)), (2, .int x2_1), (3, .int x3_1)]) hx hb dX1_leastX_14 hl (by decide) rfl (fun ls hl => ?_)
      obtain ⟨q3, hc3, hF⟩ := q_bd hF
      have X3 : ∀ (u3 : Int32), u3 = q3 → ∀ (H : Heap) (locs : List Loc) (ls : Array Slot), va_P (dC, dI) vwCl (iX1_leastX aS aO cI cZ C_x O_layers O_size O_rows) H → va_D A (iX1_leastX aS aO cI cZ C_x O_layers O_size O_rows) → va_S A s.heap H locs → lv_has ls 5 [(0, .ref (aS 36)), (1, .ref (aO 0)), (2, .int u3), (3, .int x3_1)] → W p l e (headSpec wsX1_leastX (rX1_leastX)).room s m args below meth c H locs 0 0 Q (F0 m 49 ls []) := by
        intro u3 hu H locs ls hP hD hS hl
        subst hu
        refine lv_iinc (v := (x3_1 + 1)) (lv' := [(3, .int (x3_1 + 1)), (0, .ref (aS 36)), (1, .ref (aO 0)), (2, .int u3)]) hx hb dX1_leastX_49 hl (k := 3) rfl rfl (by decide) rfl (fun ls hl => ?_)
        refine lv_goto (tgt := 5) hx hb dX1_leastX_52 (by decide) ?_
        exact hin _ (Option.some.inj hF).symm H locs ls hP hD hS (lv_sub hl [1, 2, 3, 0] rfl)
      have L3 : ∀ st : Int32 × Int32, q_lo (fun (st : Int32 × Int32) => bX1_leastX_16 C_x O_layers O_size O_rows x3_1 st.1 st.2) st = some q3 → ∀ (H : Heap) (locs : List Loc) (ls : Array Slot), va_P (dC, dI) vwCl (iX1_leastX aS aO cI cZ C_x O_layers O_size O_rows) H → va_D A (iX1_leastX aS aO cI cZ C_x O_layers O_size O_rows) → va_S A s.heap H locs → lv_has ls 5 [(0, .ref (aS 36)), (1, .ref (aO 0)), (2, .int st.1), (3, .int x3_1), (4, .int st.2)] → W p l e (headSpec wsX1_leastX (rX1_leastX)).room s m args below meth c H locs 0 0 Q (F0 m 16 ls []) := by
        intro st hst
        refine q_walk (Wh := fun st : Int32 × Int32 => ∀ (H : Heap) (locs : List Loc) (ls : Array Slot), va_P (dC, dI) vwCl (iX1_leastX aS aO cI cZ C_x O_layers O_size O_rows) H → va_D A (iX1_leastX aS aO cI cZ C_x O_layers O_size O_rows) → va_S A s.heap H locs → lv_has ls 5 [(0, .ref (aS 36)), (1, .ref (aO 0)), (2, .int st.1), (3, .int x3_1), (4, .int st.2)] → W p l e (headSpec wsX1_leastX (rX1_leastX)).room s m args below meth c H locs 0 0 Q (F0 m 16 ls [])) ?_ st hst
        clear hst st hF
        intro st o hF hin hex H locs ls hP hD hS hl
        obtain ⟨x2_3, x4_3⟩ := st
        replace hF : bX1_leastX_16 C_x O_layers O_size O_rows x3_1 x2_3 x4_3 = some o := hF
        replace hP : va_P (dC, dI) vwCl (iX1_leastX aS aO cI cZ C_x O_layers O_size O_rows) H := hP
        replace hD : va_D A (iX1_leastX aS aO cI cZ C_x O_layers O_size O_rows) := hD
        replace hl : lv_has ls 5 [(0, .ref (aS 36)), (1, .ref (aO 0)), (2, .int x2_3), (3, .int x3_1), (4, .int x4_3)] := hl
        unfold bX1_leastX_16 at hF
        refine lv_iload hx hb dX1_leastX_16 (lv_at hl 4 rfl) ?_
        refine lv_aload_n hx hb dX1_leastX_18 rfl (lv_at hl 1 rfl) ?_
        refine lv_iload_n hx hb dX1_leastX_19 rfl (lv_at hl 3 rfl) ?_
        obtain ⟨q4, hcq4, hF⟩ := q_bd hF
        refine q_Vi (As := [.int x3_1]) (rest := [.int x4_3]) ⟨hx, hb, hml, hown, hts⟩ hA hK hP hD hS (tX4_sizeOf l dC dI cI cZ aO H.size O_layers O_size x3_1 q4 hcq4) (cwV 1 hts gX1_leastX_X4_sizeOf rfl rfl rfl uX4_sizeOf ⟨Nat.le_of_ble_eq_true rfl, Nat.le_of_ble_eq_true rfl⟩) [2, 3] [(false, 0), (false, 1), (true, 0), (true, 1), (false, 4)] (iX1_leastX aS aO cI cZ C_x O_layers O_size O_rows) rfl rfl rfl rfl rfl 4 0 rfl rfl rfl rfl hl.1 rfl (Nat.le_of_ble_eq_true rfl) dX1_leastX_20 ⟨Nat.zero_le _, Nat.zero_le _⟩ (fun H locs hP hD hS => ?_)
        refine lv_icmp_ge (tgt := 49) hx hb dX1_leastX_23 (by decide) (fun hc => ?_) (fun hc => ?_)
        · replace hF := q_t hc hF
          exact X3 _ (hex _ (Option.some.inj hF).symm) H locs ls hP hD hS (lv_sub hl [0, 1, 2, 3] rfl)
        · replace hF := q_f hc hF
          refine lv_iload_n hx hb dX1_leastX_26 rfl (lv_at hl 2 rfl) ?_
          refine lv_aload_n hx hb dX1_leastX_27 rfl (lv_at hl 0 rfl) ?_
          refine lv_iload_n hx hb dX1_leastX_28 rfl (lv_at hl 3 rfl) ?_
          refine lv_aload_n hx hb dX1_leastX_29 rfl (lv_at hl 1 rfl) ?_
          refine lv_iload_n hx hb dX1_leastX_30 rfl (lv_at hl 3 rfl) ?_
          refine lv_iload hx hb dX1_leastX_31 (lv_at hl 4 rfl) ?_
          obtain ⟨q5, hcq5, hF⟩ := q_bd hF
          refine q_Vi (As := [.int x3_1, .int x4_3]) (rest := [.int x3_1, .ref (aS 36), .int x2_3]) ⟨hx, hb, hml, hown, hts⟩ hA hK hP hD hS (tX4_itemIn l dC dI cI cZ aO H.size O_layers O_size O_rows x3_1 x4_3 q5 hcq5) (cwV 2 hts gX1_leastX_X4_itemIn rfl rfl rfl uX4_itemIn ⟨Nat.le_of_ble_eq_true rfl, Nat.le_of_ble_eq_true rfl⟩) [2, 3, 4] [(false, 0), (false, 1), (true, 0), (true, 1), (true, 2)] (iX1_leastX aS aO cI cZ C_x O_layers O_size O_rows) rfl rfl rfl rfl rfl 4 0 rfl rfl rfl rfl hl.1 rfl (Nat.le_of_ble_eq_true rfl) dX1_leastX_33 ⟨Nat.zero_le _, Nat.zero_le _⟩ (fun H locs hP hD hS => ?_)
          obtain ⟨q6, hcq6, hF⟩ := q_bd hF
          refine q_Vi (As := [.int x3_1, .int q5]) (rest := [.int x2_3]) ⟨hx, hb, hml, hown, hts⟩ hA hK hP hD hS (tX1_leftOf l dC dI cI cZ aS H.size C_x x3_1 q5 q6 hcq6) (cwV 2 hts gX1_leastX_X1_leftOf rfl rfl rfl uX1_leftOf ⟨Nat.le_of_ble_eq_true rfl, Nat.le_of_ble_eq_true rfl⟩) [0, 1] [(true, 0), (true, 1), (false, 2), (false, 3), (false, 4)] (iX1_leastX aS aO cI cZ C_x O_layers O_size O_rows) rfl rfl rfl rfl rfl 1 0 rfl rfl rfl rfl hl.1 rfl (Nat.le_of_ble_eq_true rfl) dX1_leastX_36 ⟨Nat.zero_le _, Nat.zero_le _⟩ (fun H locs hP hD hS => ?_)
          refine va_mmin hx hb (hml.trans hl.1.symm) hown k1 k2 k3 k4 (Nat.le_of_ble_eq_true rfl) (Nat.le_of_ble_eq_true rfl) (Nat.zero_le _) (Nat.zero_le _) dX1_leastX_39 ?_
          obtain ⟨v7, hv7, hF⟩ := q_letE hF
          refine q_top hv7 ?_
          refine lv_istore_n (lv' := [(2, .int v7), (0, .ref (aS 36)), (1, .ref (aO 0)), (3, .int x3_1), (4, .int x4_3)]) hx hb dX1_leastX_42 rfl hl (by decide) rfl (fun ls hl => ?_)
          refine lv_iinc (v := (x4_3 + 1)) (lv' := [(4, .int (x4_3 + 1)), (2, .int v7), (0, .ref (aS 36)), (1, .ref (aO 0)), (3, .int x3_1)]) hx hb dX1_leastX_43 hl (k := 4) rfl rfl (by decide) rfl (fun ls hl => ?_)
          refine lv_goto (tgt := 16) hx hb dX1_leastX_46 (by decide) ?_
          exact hin _ (Option.some.inj hF).symm H locs ls hP hD hS (lv_sub hl [2, 3, 1, 4, 0] rfl)
      exact L3 (x2_1, 0) hc3 H locs ls hP hD hS (lv_sub hl [1, 2, 3, 4, 0] rfl)
  exact L1 (1073741824, 0) hc1 H locs ls hP hD hS (lv_sub hl [2, 3, 1, 0] rfl)
abbrev rX1_shift : Room := { frames := 2, cells := 0, slots := 0, locals := 44 }
theorem uX1_shift : yX1_shift.cls = RX1 ∧ yX1_shift.cls ≠ "java/lang/invoke/MethodHandle" ∧ yX1_shift.cls ≠ "java/lang/invoke/VarHandle" ∧ (parseMethodDescriptor yX1_shift.desc).map (fun d => d.parameters.length) = some 2 := by decide +kernel
set_option maxHeartbeats 4000000 in
set_option maxRecDepth 100000 in
theorem tX1_shift (l : Launch) (dC : Nat → ClassId) (dI : Nat → Nat → Nat) (cI cZ : ClassId) (aS : Nat → Nat) (aO : Nat → Nat) (sz : Nat) (C_x : Nat → Int32) (O_layers : Int32) (O_size : Nat → Int32) (O_rows : Nat → Int32) (p1 : Int32) (res : (Nat → Int32)) (hF : fX1_shift C_x O_layers O_size O_rows p1 = some res) : q_Mv l yX1_shift wsX1_shift rX1_shift (dC, dI) (q_ty cI cZ) [.ref (aS 36), .ref (aO 0), .int p1] (iX1_shift aS aO cI cZ C_x O_layers O_size O_rows) (iX1_shift aS aO cI cZ res O_layers O_size O_rows) sz := by
  refine q_metv (cc := cX1_shift) (maxL := 6) (by decide) rfl (Nat.le_of_ble_eq_true rfl) ?_
  intro p e s m args below meth c Q A H locs ls C hP hD hS hl hret
  obtain ⟨hx, hb, hml, hown, hts, hA, hK⟩ := C
  replace hl : lv_has ls 6 [(0, .ref (aS 36)), (1, .ref (aO 0)), (2, .int p1)] := hl
  unfold fX1_shift at hF
  refine lv_iconst (v := 0) hx hb dX1_shift_0 (by decide) ?_
  refine lv_istore_n (lv' := [(3, .int 0), (0, .ref (aS 36)), (1, .ref (aO 0)), (2, .int p1)]) hx hb dX1_shift_1 rfl hl (by decide) rfl (fun ls hl => ?_)
  obtain ⟨q1, hc1, hF⟩ := q_bd hF
  have X1 : ∀ (u1 : Nat → Int32), u1 = q1 → ∀ (H : Heap) (locs : List Loc) (ls : Array Slot), va_P (dC, dI) vwCl (iX1_shift aS aO cI cZ u1 O_layers O_size O_rows) H → va_D A (iX1_shift aS aO cI cZ u1 O_layers O_size O_rows) → va_S A s.heap H locs → lv_has ls 6 [] → W p l e (headSpec wsX1_shift (rX1_shift)).room s m args below meth c H locs 0 0 Q (F0 m 60 ls []) := by
    intro u1 hu H locs ls hP hD hS hl
    subst hu
    exact hret H locs ls 60 _ dX1_shift_60 (congrArg (fun z : (Nat → Int32) => (iX1_shift aS aO cI cZ z O_layers O_size O_rows)) (Option.some.inj hF)) hP hD hS
  have L1 : ∀ st : Int32 × (Nat → Int32), q_lo (fun (st : Int32 × (Nat → Int32)) => bX1_shift_2 O_layers O_size O_rows p1 st.1 st.2) st = some q1 → ∀ (H : Heap) (locs : List Loc) (ls : Array Slot), va_P (dC, dI) vwCl (iX1_shift aS aO cI cZ st.2 O_layers O_size O_rows) H → va_D A (iX1_shift aS aO cI cZ st.2 O_layers O_size O_rows) → va_S A s.heap H locs → lv_has ls 6 [(0, .ref (aS 36)), (1, .ref (aO 0)), (2, .int p1), (3, .int st.1)] → W p l e (headSpec wsX1_shift (rX1_shift)).room s m args below meth c H locs 0 0 Q (F0 m 2 ls []) := by
    intro st hst
    refine q_walk (Wh := fun st : Int32 × (Nat → Int32) => ∀ (H : Heap) (locs : List Loc) (ls : Array Slot), va_P (dC, dI) vwCl (iX1_shift aS aO cI cZ st.2 O_layers O_size O_rows) H → va_D A (iX1_shift aS aO cI cZ st.2 O_layers O_size O_rows) → va_S A s.heap H locs → lv_has ls 6 [(0, .ref (aS 36)), (1, .ref (aO 0)), (2, .int p1), (3, .int st.1)] → W p l e (headSpec wsX1_shift (rX1_shift)).room s m args below meth c H locs 0 0 Q (F0 m 2 ls [])) ?_ st hst
    clear hst st hF
    intro st o hF hin hex H locs ls hP hD hS hl
    obtain ⟨x3_1, C_x_1⟩ := st
    replace hF : bX1_shift_2 O_layers O_size O_rows p1 x3_1 C_x_1 = some o := hF
    replace hP : va_P (dC, dI) vwCl (iX1_shift aS aO cI cZ C_x_1 O_layers O_size O_rows) H := hP
    replace hD : va_D A (iX1_shift aS aO cI cZ C_x_1 O_layers O_size O_rows) := hD
    replace hl : lv_has ls 6 [(0, .ref (aS 36)), (1, .ref (aO 0)), (2, .int p1), (3, .int x3_1)] := hl
    unfold bX1_shift_2 at hF
    refine lv_iload_n hx hb dX1_shift_2 rfl (lv_at hl 3 rfl) ?_
    refine lv_aload_n hx hb dX1_shift_3 rfl (lv_at hl 1 rfl) ?_
    obtain ⟨q2, hcq2, hF⟩ := q_bd hF
    refine q_Vi (As := []) (rest := [.int x3_1]) ⟨hx, hb, hml, hown, hts⟩ hA hK hP hD hS (tX4_layers l dC dI cI cZ aO H.size O_layers q2 hcq2) (cwV 0 hts gX1_shift_X4_layers rfl rfl rfl uX4_layers ⟨Nat.le_of_ble_eq_true rfl, Nat.le_of_ble_eq_true rfl⟩) [2] [(false, 0), (false, 1), (true, 0), (false, 3), (false, 4)] (iX1_shift aS aO cI cZ C_x_1 O_layers O_size O_rows) rfl rfl rfl rfl rfl 4 0 rfl rfl rfl rfl hl.1 rfl (Nat.le_of_ble_eq_true rfl) dX1_shift_4 ⟨Nat.zero_le _, Nat.zero_le _⟩ (fun H locs hP hD hS => ?_)
    refine lv_icmp_ge (tgt := 60) hx hb dX1_shift_7 (by decide) (fun hc => ?_) (fun hc => ?_)
    · replace hF := q_t hc hF
      exact X1 _ (hex _ (Option.some.inj hF).symm) H locs ls hP hD hS (lv_sub hl [] rfl)
    · replace hF := q_f hc hF
      refine lv_iconst (v := 0) hx hb dX1_shift_10 (by decide) ?_
      refine lv_istore (lv' := [(4, .int 0), (0, .ref (aS 36)), (1, .ref (aO 0)), (2, .int p1), (3, .int x3_1)]) hx hb dX1_shift_11 hl (by decide) rfl (fun ls hl => ?_)
      obtain ⟨q3, hc3, hF⟩ := q_bd hF
      have X3 : ∀ (u3 : Nat → Int32), u3 = q3 → ∀ (H : Heap) (locs : List Loc) (ls : Array Slot), va_P (dC, dI) vwCl (iX1_shift aS aO cI cZ u3 O_layers O_size O_rows) H → va_D A (iX1_shift aS aO cI cZ u3 O_layers O_size O_rows) → va_S A s.heap H locs → lv_has ls 6 [(0, .ref (aS 36)), (1, .ref (aO 0)), (2, .int p1), (3, .int x3_1)] → W p l e (headSpec wsX1_shift (rX1_shift)).room s m args below meth c H locs 0 0 Q (F0 m 54 ls []) := by
        intro u3 hu H locs ls hP hD hS hl
        subst hu
        refine lv_iinc (v := (x3_1 + 1)) (lv' := [(3, .int (x3_1 + 1)), (0, .ref (aS 36)), (1, .ref (aO 0)), (2, .int p1)]) hx hb dX1_shift_54 hl (k := 3) rfl rfl (by decide) rfl (fun ls hl => ?_)
        refine lv_goto (tgt := 2) hx hb dX1_shift_57 (by decide) ?_
        exact hin _ (Option.some.inj hF).symm H locs ls hP hD hS (lv_sub hl [1, 2, 3, 0] rfl)
      have L3 : ∀ st : Int32 × (Nat → Int32), q_lo (fun (st : Int32 × (Nat → Int32)) => bX1_shift_13 O_layers O_size O_rows p1 x3_1 st.1 st.2) st = some q3 → ∀ (H : Heap) (locs : List Loc) (ls : Array Slot), va_P (dC, dI) vwCl (iX1_shift aS aO cI cZ st.2 O_layers O_size O_rows) H → va_D A (iX1_shift aS aO cI cZ st.2 O_layers O_size O_rows) → va_S A s.heap H locs → lv_has ls 6 [(0, .ref (aS 36)), (1, .ref (aO 0)), (2, .int p1), (3, .int x3_1), (4, .int st.1)] → W p l e (headSpec wsX1_shift (rX1_shift)).room s m args below meth c H locs 0 0 Q (F0 m 13 ls []) := by
        intro st hst
        refine q_walk (Wh := fun st : Int32 × (Nat → Int32) => ∀ (H : Heap) (locs : List Loc) (ls : Array Slot), va_P (dC, dI) vwCl (iX1_shift aS aO cI cZ st.2 O_layers O_size O_rows) H → va_D A (iX1_shift aS aO cI cZ st.2 O_layers O_size O_rows) → va_S A s.heap H locs → lv_has ls 6 [(0, .ref (aS 36)), (1, .ref (aO 0)), (2, .int p1), (3, .int x3_1), (4, .int st.1)] → W p l e (headSpec wsX1_shift (rX1_shift)).room s m args below meth c H locs 0 0 Q (F0 m 13 ls [])) ?_ st hst
        clear hst st hF
        intro st o hF hin hex H locs ls hP hD hS hl
        obtain ⟨x4_3, C_x_3⟩ := st
        replace hF : bX1_shift_13 O_layers O_size O_rows p1 x3_1 x4_3 C_x_3 = some o := hF
        replace hP : va_P (dC, dI) vwCl (iX1_shift aS aO cI cZ C_x_3 O_layers O_size O_rows) H := hP
        replace hD : va_D A (iX1_shift aS aO cI cZ C_x_3 O_layers O_size O_rows) := hD
        replace hl : lv_has ls 6 [(0, .ref (aS 36)), (1, .ref (aO 0)), (2, .int p1), (3, .int x3_1), (4, .int x4_3)] := hl
        unfold bX1_shift_13 at hF
        refine lv_iload hx hb dX1_shift_13 (lv_at hl 4 rfl) ?_
        refine lv_aload_n hx hb dX1_shift_15 rfl (lv_at hl 1 rfl) ?_
        refine lv_iload_n hx hb dX1_shift_16 rfl (lv_at hl 3 rfl) ?_
        obtain ⟨q4, hcq4, hF⟩ := q_bd hF
        refine q_Vi (As := [.int x3_1]) (rest := [.int x4_3]) ⟨hx, hb, hml, hown, hts⟩ hA hK hP hD hS (tX4_sizeOf l dC dI cI cZ aO H.size O_layers O_size x3_1 q4 hcq4) (cwV 1 hts gX1_shift_X4_sizeOf rfl rfl rfl uX4_sizeOf ⟨Nat.le_of_ble_eq_true rfl, Nat.le_of_ble_eq_true rfl⟩) [2, 3] [(false, 0), (false, 1), (true, 0), (true, 1), (false, 4)] (iX1_shift aS aO cI cZ C_x_3 O_layers O_size O_rows) rfl rfl rfl rfl rfl 4 0 rfl rfl rfl rfl hl.1 rfl (Nat.le_of_ble_eq_true rfl) dX1_shift_17 ⟨Nat.zero_le _, Nat.zero_le _⟩ (fun H locs hP hD hS => ?_)
        refine lv_icmp_ge (tgt := 54) hx hb dX1_shift_20 (by decide) (fun hc => ?_) (fun hc => ?_)
        · replace hF := q_t hc hF
          exact X3 _ (hex _ (Option.some.inj hF).symm) H locs ls hP hD hS (lv_sub hl [0, 1, 2, 3] rfl)
        · replace hF := q_f hc hF
          refine lv_aload_n hx hb dX1_shift_23 rfl (lv_at hl 1 rfl) ?_
          refine lv_iload_n hx hb dX1_shift_24 rfl (lv_at hl 3 rfl) ?_
          refine lv_iload hx hb dX1_shift_25 (lv_at hl 4 rfl) ?_
          obtain ⟨q5, hcq5, hF⟩ := q_bd hF
          refine q_Vi (As := [.int x3_1, .int x4_3]) (rest := []) ⟨hx, hb, hml, hown, hts⟩ hA hK hP hD hS (tX4_itemIn l dC dI cI cZ aO H.size O_layers O_size O_rows x3_1 x4_3 q5 hcq5) (cwV 2 hts gX1_shift_X4_itemIn rfl rfl rfl uX4_itemIn ⟨Nat.le_of_ble_eq_true rfl, Nat.le_of_ble_eq_true rfl⟩) [2, 3, 4] [(false, 0), (false, 1), (true, 0), (true, 1), (true, 2)] (iX1_shift aS aO cI cZ C_x_3 O_layers O_size O_rows) rfl rfl rfl rfl rfl 4 0 rfl rfl rfl rfl hl.1 rfl (Nat.le_of_ble_eq_true rfl) dX1_shift_27 ⟨Nat.zero_le _, Nat.zero_le _⟩ (fun H locs hP hD hS => ?_)
          refine lv_istore (lv' := [(5, .int q5), (0, .ref (aS 36)), (1, .ref (aO 0)), (2, .int p1), (3, .int x3_1), (4, .int x4_3)]) hx hb dX1_shift_30 hl (by decide) rfl (fun ls hl => ?_)
          refine lv_aload_n hx hb dX1_shift_32 rfl (lv_at hl 1 rfl) ?_
          refine lv_iload_n hx hb dX1_shift_33 rfl (lv_at hl 4 rfl) ?_
          refine lv_iload hx hb dX1_shift_34 (lv_at hl 0 rfl) ?_
          refine lv_aload_n hx hb dX1_shift_36 rfl (lv_at hl 1 rfl) ?_
          refine lv_iload_n hx hb dX1_shift_37 rfl (lv_at hl 4 rfl) ?_
          refine lv_iload hx hb dX1_shift_38 (lv_at hl 0 rfl) ?_
          obtain ⟨q6, hcq6, hF⟩ := q_bd hF
          refine q_Vi (As := [.int x3_1, .int q5]) (rest := [.int q5, .int x3_1, .ref (aS 36)]) ⟨hx, hb, hml, hown, hts⟩ hA hK hP hD hS (tX1_leftOf l dC dI cI cZ aS H.size C_x_3 x3_1 q5 q6 hcq6) (cwV 2 hts gX1_shift_X1_leftOf rfl rfl rfl uX1_leftOf ⟨Nat.le_of_ble_eq_true rfl, Nat.le_of_ble_eq_true rfl⟩) [0, 1] [(true, 0), (true, 1), (false, 2), (false, 3), (false, 4)] (iX1_shift aS aO cI cZ C_x_3 O_layers O_size O_rows) rfl rfl rfl rfl rfl 1 0 rfl rfl rfl rfl hl.1 rfl (Nat.le_of_ble_eq_true rfl) dX1_shift_40 ⟨Nat.zero_le _, Nat.zero_le _⟩ (fun H locs hP hD hS => ?_)
          refine lv_iload_n hx hb dX1_shift_43 rfl (lv_at hl 3 rfl) ?_
          refine lv_isub hx hb dX1_shift_44 ?_
          obtain ⟨q7, hcq7, hF⟩ := q_bd hF
          refine q_Vv (As := [.int x3_1, .int q5, .int (q6 - p1)]) (rest := []) ⟨hx, hb, hml, hown, hts⟩ hA hK hP hD hS (tX1_move l dC dI cI cZ aS H.size C_x_3 x3_1 q5 (q6 - p1) q7 hcq7) (cwV 3 hts gX1_shift_X1_move rfl rfl rfl uX1_move ⟨Nat.le_of_ble_eq_true rfl, Nat.le_of_ble_eq_true rfl⟩) [0, 1] [(true, 0), (true, 1), (false, 2), (false, 3), (false, 4)] (iX1_shift aS aO cI cZ q7 O_layers O_size O_rows) rfl rfl rfl rfl rfl 1 0 rfl rfl rfl rfl hl.1 rfl (Nat.le_of_ble_eq_true rfl) dX1_shift_45 ⟨Nat.zero_le _, Nat.zero_le _⟩ (fun H locs hP hD hS => ?_)
          refine lv_iinc (v := (x4_3 + 1)) (lv' := [(4, .int (x4_3 + 1)), (5, .int q5), (0, .ref (aS 36)), (1, .ref (aO 0)), (2, .int p1), (3, .int x3_1)]) hx hb dX1_shift_48 hl (k := 5) rfl rfl (by decide) rfl (fun ls hl => ?_)
          refine lv_goto (tgt := 13) hx hb dX1_shift_51 (by decide) ?_
          exact hin _ (Option.some.inj hF).symm H locs ls hP hD hS (lv_sub hl [2, 3, 4, 5, 0] rfl)
      exact L3 (0, C_x_1) hc3 H locs ls hP hD hS (lv_sub hl [1, 2, 3, 4, 0] rfl)
  exact L1 (0, C_x) hc1 H locs ls hP hD hS (lv_sub hl [1, 2, 3, 0] rfl)
abbrev rX1_lay : Room := { frames := 4, cells := 0, slots := 0, locals := 91 }
theorem uX1_lay : yX1_lay.cls = RX1 ∧ yX1_lay.cls ≠ "java/lang/invoke/MethodHandle" ∧ yX1_lay.cls ≠ "java/lang/invoke/VarHandle" ∧ (parseMethodDescriptor yX1_lay.desc).map (fun d => d.parameters.length) = some 1 := by decide +kernel
set_option maxHeartbeats 4000000 in
set_option maxRecDepth 100000 in
theorem tX1_lay (l : Launch) (dC : Nat → ClassId) (dI : Nat → Nat → Nat) (cI cZ : ClassId) (aS : Nat → Nat) (aO : Nat → Nat) (sz : Nat) (R_width : Nat → Int32) (P_size : Nat → Int32) (P_uppers : Nat → Int32) (P_lowers : Nat → Int32) (C_x : Nat → Int32) (C_sum : Nat → Int32) (C_degree : Nat → Int32) (O_layers : Int32) (O_size : Nat → Int32) (O_rows : Nat → Int32) (res : (Nat → Int32) × (Nat → Int32) × (Nat → Int32)) (hF : fX1_lay R_width P_size P_uppers P_lowers C_x C_sum C_degree O_layers O_size O_rows = some res) : q_Mv l yX1_lay wsX1_lay rX1_lay (dC, dI) (q_ty cI cZ) [.ref (aS 36), .ref (aO 0)] (iX1_lay aS aO cI cZ R_width P_size P_uppers P_lowers C_x C_sum C_degree O_layers O_size O_rows) (iX1_lay aS aO cI cZ R_width P_size P_uppers P_lowers res.1 res.2.1 res.2.2 O_layers O_size O_rows) sz := by
  refine q_metv (cc := cX1_lay) (maxL := 6) (by decide) rfl (Nat.le_of_ble_eq_true rfl) ?_
  intro p e s m args below meth c Q A H locs ls C hP hD hS hl hret
  obtain ⟨hx, hb, hml, hown, hts, hA, hK⟩ := C
  replace hl : lv_has ls 6 [(0, .ref (aS 36)), (1, .ref (aO 0))] := hl
  unfold fX1_lay at hF
  refine lv_iconst (v := 0) hx hb dX1_lay_0 (by decide) ?_
  refine lv_istore_n (lv' := [(2, .int 0), (0, .ref (aS 36)), (1, .ref (aO 0))]) hx hb dX1_lay_1 rfl hl (by decide) rfl (fun ls hl => ?_)
  obtain ⟨q1, hc1, hF⟩ := q_bd hF
  have X1 : ∀ (u1 : Nat → Int32), u1 = q1 → ∀ (H : Heap) (locs : List Loc) (ls : Array Slot), va_P (dC, dI) vwCl (iX1_lay aS aO cI cZ R_width P_size P_uppers P_lowers u1 C_sum C_degree O_layers O_size O_rows) H → va_D A (iX1_lay aS aO cI cZ R_width P_size P_uppers P_lowers u1 C_sum C_degree O_layers O_size O_rows) → va_S A s.heap H locs → lv_has ls 6 [(0, .ref (aS 36)), (1, .ref (aO 0))] → W p l e (headSpec wsX1_lay (rX1_lay)).room s m args below meth c H locs 0 0 Q (F0 m 22 ls []) := by
    intro u1 hu H locs ls hP hD hS hl
    subst hu
    refine lv_iconst (v := 0) hx hb dX1_lay_22 (by decide) ?_
    refine lv_istore_n (lv' := [(2, .int 0), (0, .ref (aS 36)), (1, .ref (aO 0))]) hx hb dX1_lay_23 rfl hl (by decide) rfl (fun ls hl => ?_)
    obtain ⟨q4_0, q4_1, q4_2, hc4, hF⟩ := q_bd3 hF
    have X4 : ∀ (u4_0 : Nat → Int32) (u4_1 : Nat → Int32) (u4_2 : Nat → Int32), (u4_0, u4_1, u4_2) = (q4_0, q4_1, q4_2) → ∀ (H : Heap) (locs : List Loc) (ls : Array Slot), va_P (dC, dI) vwCl (iX1_lay aS aO cI cZ R_width P_size P_uppers P_lowers u4_0 u4_1 u4_2 O_layers O_size O_rows) H → va_D A (iX1_lay aS aO cI cZ R_width P_size P_uppers P_lowers u4_0 u4_1 u4_2 O_layers O_size O_rows) → va_S A s.heap H locs → lv_has ls 6 [(0, .ref (aS 36)), (1, .ref (aO 0))] → W p l e (headSpec wsX1_lay (rX1_lay)).room s m args below meth c H locs 0 0 Q (F0 m 99 ls []) := by
      intro u4_0 u4_1 u4_2 hu H locs ls hP hD hS hl
      obtain ⟨e0, e1, e2⟩ := q_inj3 hu
      subst e0 e1 e2
      refine lv_aload_n hx hb dX1_lay_99 rfl (lv_at hl 0 rfl) ?_
      refine lv_aload_n hx hb dX1_lay_100 rfl (lv_at hl 1 rfl) ?_
      refine lv_aload_n hx hb dX1_lay_101 rfl (lv_at hl 0 rfl) ?_
      refine lv_aload_n hx hb dX1_lay_102 rfl (lv_at hl 1 rfl) ?_
      obtain ⟨q12, hcq12, hF⟩ := q_bd hF
      refine q_Vi (As := [.ref (aO 0)]) (rest := [.ref (aO 0), .ref (aS 36)]) ⟨hx, hb, hml, hown, hts⟩ hA hK hP hD hS (tX1_leastX l dC dI cI cZ aS aO H.size u4_0 O_layers O_size O_rows q12 hcq12) (cwV 1 hts gX1_lay_X1_leastX rfl rfl rfl uX1_leastX ⟨Nat.le_of_ble_eq_true rfl, Nat.le_of_ble_eq_true rfl⟩) [0, 7, 10, 11, 12] [(true, 0), (false, 1), (false, 2), (false, 3), (false, 4), (false, 5), (false, 6), (true, 1), (false, 8), (false, 9), (true, 2), (true, 3), (true, 4)] (iX1_lay aS aO cI cZ R_width P_size P_uppers P_lowers u4_0 u4_1 u4_2 O_layers O_size O_rows) rfl rfl rfl rfl rfl 1 0 rfl rfl rfl rfl hl.1 rfl (Nat.le_of_ble_eq_true rfl) dX1_lay_103 ⟨Nat.zero_le _, Nat.zero_le _⟩ (fun H locs hP hD hS => ?_)
      obtain ⟨q13, hcq13, hF⟩ := q_bd hF
      refine q_Vv (As := [.ref (aO 0), .int q12]) (rest := []) ⟨hx, hb, hml, hown, hts⟩ hA hK hP hD hS (tX1_shift l dC dI cI cZ aS aO H.size u4_0 O_layers O_size O_rows q12 q13 hcq13) (cwV 2 hts gX1_lay_X1_shift rfl rfl rfl uX1_shift ⟨Nat.le_of_ble_eq_true rfl, Nat.le_of_ble_eq_true rfl⟩) [0, 7, 10, 11, 12] [(true, 0), (false, 1), (false, 2), (false, 3), (false, 4), (false, 5), (false, 6), (true, 1), (false, 8), (false, 9), (true, 2), (true, 3), (true, 4)] (iX1_lay aS aO cI cZ R_width P_size P_uppers P_lowers q13 u4_1 u4_2 O_layers O_size O_rows) rfl rfl rfl rfl rfl 1 0 rfl rfl rfl rfl hl.1 rfl (Nat.le_of_ble_eq_true rfl) dX1_lay_106 ⟨Nat.zero_le _, Nat.zero_le _⟩ (fun H locs hP hD hS => ?_)
      exact hret H locs ls 109 _ dX1_lay_109 (congrArg (fun z : (Nat → Int32) × (Nat → Int32) × (Nat → Int32) => (iX1_lay aS aO cI cZ R_width P_size P_uppers P_lowers z.1 z.2.1 z.2.2 O_layers O_size O_rows)) (Option.some.inj hF)) hP hD hS
    have L4 : ∀ st : Int32 × (Nat → Int32) × (Nat → Int32) × (Nat → Int32), q_lo (fun (st : Int32 × (Nat → Int32) × (Nat → Int32) × (Nat → Int32)) => bX1_lay_24 R_width P_size P_uppers P_lowers O_layers O_size O_rows st.1 st.2.1 st.2.2.1 st.2.2.2) st = some (q4_0, q4_1, q4_2) → ∀ (H : Heap) (locs : List Loc) (ls : Array Slot), va_P (dC, dI) vwCl (iX1_lay aS aO cI cZ R_width P_size P_uppers P_lowers st.2.1 st.2.2.1 st.2.2.2 O_layers O_size O_rows) H → va_D A (iX1_lay aS aO cI cZ R_width P_size P_uppers P_lowers st.2.1 st.2.2.1 st.2.2.2 O_layers O_size O_rows) → va_S A s.heap H locs → lv_has ls 6 [(0, .ref (aS 36)), (1, .ref (aO 0)), (2, .int st.1)] → W p l e (headSpec wsX1_lay (rX1_lay)).room s m args below meth c H locs 0 0 Q (F0 m 24 ls []) := by
      intro st hst
      refine q_walk (Wh := fun st : Int32 × (Nat → Int32) × (Nat → Int32) × (Nat → Int32) => ∀ (H : Heap) (locs : List Loc) (ls : Array Slot), va_P (dC, dI) vwCl (iX1_lay aS aO cI cZ R_width P_size P_uppers P_lowers st.2.1 st.2.2.1 st.2.2.2 O_layers O_size O_rows) H → va_D A (iX1_lay aS aO cI cZ R_width P_size P_uppers P_lowers st.2.1 st.2.2.1 st.2.2.2 O_layers O_size O_rows) → va_S A s.heap H locs → lv_has ls 6 [(0, .ref (aS 36)), (1, .ref (aO 0)), (2, .int st.1)] → W p l e (headSpec wsX1_lay (rX1_lay)).room s m args below meth c H locs 0 0 Q (F0 m 24 ls [])) ?_ st hst
      clear hst st hF
      intro st o hF hin hex H locs ls hP hD hS hl
      obtain ⟨x2_4, C_x_4, C_sum_4, C_degree_4⟩ := st
      replace hF : bX1_lay_24 R_width P_size P_uppers P_lowers O_layers O_size O_rows x2_4 C_x_4 C_sum_4 C_degree_4 = some o := hF
      replace hP : va_P (dC, dI) vwCl (iX1_lay aS aO cI cZ R_width P_size P_uppers P_lowers C_x_4 C_sum_4 C_degree_4 O_layers O_size O_rows) H := hP
      replace hD : va_D A (iX1_lay aS aO cI cZ R_width P_size P_uppers P_lowers C_x_4 C_sum_4 C_degree_4 O_layers O_size O_rows) := hD
      replace hl : lv_has ls 6 [(0, .ref (aS 36)), (1, .ref (aO 0)), (2, .int x2_4)] := hl
      unfold bX1_lay_24 at hF
      have JX1_LAY_40 : ∀ (C_x_5 : Nat → Int32) (C_sum_5 : Nat → Int32) (C_degree_5 : Nat → Int32) (x2_5 : Int32) (s0_5 : Int32), jX1_lay_40 R_width P_size P_uppers P_lowers C_x_5 C_sum_5 C_degree_5 O_layers O_size O_rows x2_5 s0_5 = some o → ∀ (H : Heap) (locs : List Loc) (ls : Array Slot), va_P (dC, dI) vwCl (iX1_lay aS aO cI cZ R_width P_size P_uppers P_lowers C_x_5 C_sum_5 C_degree_5 O_layers O_size O_rows) H → va_D A (iX1_lay aS aO cI cZ R_width P_size P_uppers P_lowers C_x_5 C_sum_5 C_degree_5 O_layers O_size O_rows) → va_S A s.heap H locs → lv_has ls 6 [(0, .ref (aS 36)), (1, .ref (aO 0)), (2, .int x2_5)] → W p l e (headSpec wsX1_lay (rX1_lay)).room s m args below meth c H locs 0 0 Q (F0 m 40 ls [.int s0_5]) := by
        intro C_x_5 C_sum_5 C_degree_5 x2_5 s0_5 hF H locs ls hP hD hS hl
        unfold jX1_lay_40 at hF
        refine lv_istore_n (lv' := [(3, .int s0_5), (0, .ref (aS 36)), (1, .ref (aO 0)), (2, .int x2_5)]) hx hb dX1_lay_40 rfl hl (by decide) rfl (fun ls hl => ?_)
        refine lv_iconst (v := 0) hx hb dX1_lay_41 (by decide) ?_
        refine lv_istore (lv' := [(4, .int 0), (3, .int s0_5), (0, .ref (aS 36)), (1, .ref (aO 0)), (2, .int x2_5)]) hx hb dX1_lay_42 hl (by decide) rfl (fun ls hl => ?_)
        obtain ⟨q6_0, q6_1, q6_2, hc6, hF⟩ := q_bd3 hF
        have X6 : ∀ (u6_0 : Nat → Int32) (u6_1 : Nat → Int32) (u6_2 : Nat → Int32), (u6_0, u6_1, u6_2) = (q6_0, q6_1, q6_2) → ∀ (H : Heap) (locs : List Loc) (ls : Array Slot), va_P (dC, dI) vwCl (iX1_lay aS aO cI cZ R_width P_size P_uppers P_lowers u6_0 u6_1 u6_2 O_layers O_size O_rows) H → va_D A (iX1_lay aS aO cI cZ R_width P_size P_uppers P_lowers u6_0 u6_1 u6_2 O_layers O_size O_rows) → va_S A s.heap H locs → lv_has ls 6 [(0, .ref (aS 36)), (1, .ref (aO 0)), (2, .int x2_5)] → W p l e (headSpec wsX1_lay (rX1_lay)).room s m args below meth c H locs 0 0 Q (F0 m 93 ls []) := by
          intro u6_0 u6_1 u6_2 hu H locs ls hP hD hS hl
          obtain ⟨e0, e1, e2⟩ := q_inj3 hu
          subst e0 e1 e2
          refine lv_iinc (v := (x2_5 + 1)) (lv' := [(2, .int (x2_5 + 1)), (0, .ref (aS 36)), (1, .ref (aO 0))]) hx hb dX1_lay_93 hl (k := 2) rfl rfl (by decide) rfl (fun ls hl => ?_)
          refine lv_goto (tgt := 24) hx hb dX1_lay_96 (by decide) ?_
          exact hin _ (Option.some.inj hF).symm H locs ls hP hD hS (lv_sub hl [1, 2, 0] rfl)
        have L6 : ∀ st : Int32 × (Nat → Int32) × (Nat → Int32) × (Nat → Int32), q_lo (fun (st : Int32 × (Nat → Int32) × (Nat → Int32) × (Nat → Int32)) => bX1_lay_44 R_width P_size P_uppers P_lowers O_layers O_size O_rows x2_5 s0_5 st.1 st.2.1 st.2.2.1 st.2.2.2) st = some (q6_0, q6_1, q6_2) → ∀ (H : Heap) (locs : List Loc) (ls : Array Slot), va_P (dC, dI) vwCl (iX1_lay aS aO cI cZ R_width P_size P_uppers P_lowers st.2.1 st.2.2.1 st.2.2.2 O_layers O_size O_rows) H → va_D A (iX1_lay aS aO cI cZ R_width P_size P_uppers P_lowers st.2.1 st.2.2.1 st.2.2.2 O_layers O_size O_rows) → va_S A s.heap H locs → lv_has ls 6 [(0, .ref (aS 36)), (1, .ref (aO 0)), (2, .int x2_5), (3, .int s0_5), (4, .int st.1)] → W p l e (headSpec wsX1_lay (rX1_lay)).room s m args below meth c H locs 0 0 Q (F0 m 44 ls []) := by
          intro st hst
          refine q_walk (Wh := fun st : Int32 × (Nat → Int32) × (Nat → Int32) × (Nat → Int32) => ∀ (H : Heap) (locs : List Loc) (ls : Array Slot), va_P (dC, dI) vwCl (iX1_lay aS aO cI cZ R_width P_size P_uppers P_lowers st.2.1 st.2.2.1 st.2.2.2 O_layers O_size O_rows) H → va_D A (iX1_lay aS aO cI cZ R_width P_size P_uppers P_lowers st.2.1 st.2.2.1 st.2.2.2 O_layers O_size O_rows) → va_S A s.heap H locs → lv_has ls 6 [(0, .ref (aS 36)), (1, .ref (aO 0)), (2, .int x2_5), (3, .int s0_5), (4, .int st.1)] → W p l e (headSpec wsX1_lay (rX1_lay)).room s m args below meth c H locs 0 0 Q (F0 m 44 ls [])) ?_ st hst
          clear hst st hF
          intro st o hF hin hex H locs ls hP hD hS hl
          obtain ⟨x4_6, C_x_6, C_sum_6, C_degree_6⟩ := st
          replace hF : bX1_lay_44 R_width P_size P_uppers P_lowers O_layers O_size O_rows x2_5 s0_5 x4_6 C_x_6 C_sum_6 C_degree_6 = some o := hF
          replace hP : va_P (dC, dI) vwCl (iX1_lay aS aO cI cZ R_width P_size P_uppers P_lowers C_x_6 C_sum_6 C_degree_6 O_layers O_size O_rows) H := hP
          replace hD : va_D A (iX1_lay aS aO cI cZ R_width P_size P_uppers P_lowers C_x_6 C_sum_6 C_degree_6 O_layers O_size O_rows) := hD
          replace hl : lv_has ls 6 [(0, .ref (aS 36)), (1, .ref (aO 0)), (2, .int x2_5), (3, .int s0_5), (4, .int x4_6)] := hl
          unfold bX1_lay_44 at hF
          have JX1_LAY_71 : ∀ (C_x_7 : Nat → Int32) (C_sum_7 : Nat → Int32) (C_degree_7 : Nat → Int32) (x4_7 : Int32) (s0_7 : Int32), jX1_lay_71 R_width P_size P_uppers P_lowers C_x_7 O_layers O_size O_rows x2_5 s0_5 x4_7 s0_7 = some o → ∀ (H : Heap) (locs : List Loc) (ls : Array Slot), va_P (dC, dI) vwCl (iX1_lay aS aO cI cZ R_width P_size P_uppers P_lowers C_x_7 C_sum_7 C_degree_7 O_layers O_size O_rows) H → va_D A (iX1_lay aS aO cI cZ R_width P_size P_uppers P_lowers C_x_7 C_sum_7 C_degree_7 O_layers O_size O_rows) → va_S A s.heap H locs → lv_has ls 6 [(0, .ref (aS 36)), (1, .ref (aO 0)), (2, .int x2_5), (3, .int s0_5), (4, .int x4_7)] → W p l e (headSpec wsX1_lay (rX1_lay)).room s m args below meth c H locs 0 0 Q (F0 m 71 ls [.int s0_7]) := by
            intro C_x_7 C_sum_7 C_degree_7 x4_7 s0_7 hF H locs ls hP hD hS hl
            unfold jX1_lay_71 at hF
            refine lv_istore (lv' := [(5, .int s0_7), (0, .ref (aS 36)), (1, .ref (aO 0)), (2, .int x2_5), (3, .int s0_5), (4, .int x4_7)]) hx hb dX1_lay_71 hl (by decide) rfl (fun ls hl => ?_)
            refine lv_aload_n hx hb dX1_lay_73 rfl (lv_at hl 1 rfl) ?_
            refine lv_iload hx hb dX1_lay_74 (lv_at hl 0 rfl) ?_
            refine lv_iload_n hx hb dX1_lay_76 rfl (lv_at hl 4 rfl) ?_
            obtain ⟨q8_0, q8_1, hcq8, hF⟩ := q_bd2 hF
            refine q_Vv (As := [.int s0_7, .int s0_5]) (rest := []) ⟨hx, hb, hml, hown, hts⟩ hA hK hP hD hS (tX1_addMiddles l dC dI cI cZ aS H.size R_width P_size P_uppers P_lowers C_x_7 C_sum_7 C_degree_7 s0_7 s0_5 (q8_0, q8_1) hcq8) (cwV 2 hts gX1_lay_X1_addMiddles rfl rfl rfl uX1_addMiddles ⟨Nat.le_of_ble_eq_true rfl, Nat.le_of_ble_eq_true rfl⟩) [0, 1, 2, 3, 4, 5, 6, 7, 8, 9] [(true, 0), (true, 1), (true, 2), (true, 3), (true, 4), (true, 5), (true, 6), (true, 7), (true, 8), (true, 9), (false, 10), (false, 11), (false, 12)] (iX1_lay aS aO cI cZ R_width P_size P_uppers P_lowers C_x_7 q8_0 q8_1 O_layers O_size O_rows) rfl rfl rfl rfl rfl 1 0 rfl rfl rfl rfl hl.1 rfl (Nat.le_of_ble_eq_true rfl) dX1_lay_77 ⟨Nat.zero_le _, Nat.zero_le _⟩ (fun H locs hP hD hS => ?_)
            refine lv_aload_n hx hb dX1_lay_80 rfl (lv_at hl 1 rfl) ?_
            refine lv_aload_n hx hb dX1_lay_81 rfl (lv_at hl 2 rfl) ?_
            refine lv_iload hx hb dX1_lay_82 (lv_at hl 0 rfl) ?_
            obtain ⟨q9, hcq9, hF⟩ := q_bd hF
            refine q_Vv (As := [.ref (aO 0), .int s0_7]) (rest := []) ⟨hx, hb, hml, hown, hts⟩ hA hK hP hD hS (tX1_straighten l dC dI cI cZ aS aO H.size R_width C_x_7 q8_0 q8_1 O_layers O_size O_rows s0_7 q9 hcq9) (cwV 2 hts gX1_lay_X1_straighten rfl rfl rfl uX1_straighten ⟨Nat.le_of_ble_eq_true rfl, Nat.le_of_ble_eq_true rfl⟩) [0, 1, 2, 7, 8, 9, 10, 11, 12] [(true, 0), (true, 1), (true, 2), (false, 3), (false, 4), (false, 5), (false, 6), (true, 3), (true, 4), (true, 5), (true, 6), (true, 7), (true, 8)] (iX1_lay aS aO cI cZ R_width P_size P_uppers P_lowers q9 q8_0 q8_1 O_layers O_size O_rows) rfl rfl rfl rfl rfl 1 0 rfl rfl rfl rfl hl.1 rfl (Nat.le_of_ble_eq_true rfl) dX1_lay_84 ⟨Nat.zero_le _, Nat.zero_le _⟩ (fun H locs hP hD hS => ?_)
            refine lv_iinc (v := (x4_7 + 1)) (lv' := [(4, .int (x4_7 + 1)), (5, .int s0_7), (0, .ref (aS 36)), (1, .ref (aO 0)), (2, .int x2_5), (3, .int s0_5)]) hx hb dX1_lay_87 hl (k := 5) rfl rfl (by decide) rfl (fun ls hl => ?_)
            refine lv_goto (tgt := 44) hx hb dX1_lay_90 (by decide) ?_
            exact hin _ (Option.some.inj hF).symm H locs ls hP hD hS (lv_sub hl [2, 3, 4, 5, 0] rfl)
          refine lv_iload hx hb dX1_lay_44 (lv_at hl 4 rfl) ?_
          refine lv_aload_n hx hb dX1_lay_46 rfl (lv_at hl 1 rfl) ?_
          obtain ⟨q10, hcq10, hF⟩ := q_bd hF
          refine q_Vi (As := []) (rest := [.int x4_6]) ⟨hx, hb, hml, hown, hts⟩ hA hK hP hD hS (tX4_layers l dC dI cI cZ aO H.size O_layers q10 hcq10) (cwV 0 hts gX1_lay_X4_layers rfl rfl rfl uX4_layers ⟨Nat.le_of_ble_eq_true rfl, Nat.le_of_ble_eq_true rfl⟩) [10] [(false, 0), (false, 1), (false, 2), (false, 3), (false, 4), (false, 5), (false, 6), (false, 7), (false, 8), (false, 9), (true, 0), (false, 11), (false, 12)] (iX1_lay aS aO cI cZ R_width P_size P_uppers P_lowers C_x_6 C_sum_6 C_degree_6 O_layers O_size O_rows) rfl rfl rfl rfl rfl 4 0 rfl rfl rfl rfl hl.1 rfl (Nat.le_of_ble_eq_true rfl) dX1_lay_47 ⟨Nat.zero_le _, Nat.zero_le _⟩ (fun H locs hP hD hS => ?_)
          refine lv_icmp_ge (tgt := 93) hx hb dX1_lay_50 (by decide) (fun hc => ?_) (fun hc => ?_)
          · replace hF := q_t hc hF
            exact X6 _ _ _ (hex _ (Option.some.inj hF).symm) H locs ls hP hD hS (lv_sub hl [0, 1, 2] rfl)
          · replace hF := q_f hc hF
            refine lv_iload_n hx hb dX1_lay_53 rfl (lv_at hl 3 rfl) ?_
            refine lv_if_eq (tgt := 62) hx hb dX1_lay_54 (by decide) (fun hc => ?_) (fun hc => ?_)
            · replace hF := q_t hc hF
              refine lv_aload_n hx hb dX1_lay_62 rfl (lv_at hl 1 rfl) ?_
              obtain ⟨q11, hcq11, hF⟩ := q_bd hF
              refine q_Vi (As := []) (rest := []) ⟨hx, hb, hml, hown, hts⟩ hA hK hP hD hS (tX4_layers l dC dI cI cZ aO H.size O_layers q11 hcq11) (cwV 0 hts gX1_lay_X4_layers rfl rfl rfl uX4_layers ⟨Nat.le_of_ble_eq_true rfl, Nat.le_of_ble_eq_true rfl⟩) [10] [(false, 0), (false, 1), (false, 2), (false, 3), (false, 4), (false, 5), (false, 6), (false, 7), (false, 8), (false, 9), (true, 0), (false, 11), (false, 12)] (iX1_lay aS aO cI cZ R_width P_size P_uppers P_lowers C_x_6 C_sum_6 C_degree_6 O_layers O_size O_rows) rfl rfl rfl rfl rfl 4 0 rfl rfl rfl rfl hl.1 rfl (Nat.le_of_ble_eq_true rfl) dX1_lay_63 ⟨Nat.zero_le _, Nat.zero_le _⟩ (fun H locs hP hD hS => ?_)
              refine lv_iconst (v := 1) hx hb dX1_lay_66 (by decide) ?_
              refine lv_isub hx hb dX1_lay_67 ?_
              refine lv_iload hx hb dX1_lay_68 (lv_at hl 4 rfl) ?_
              refine lv_isub hx hb dX1_lay_70 ?_
              exact JX1_LAY_71 C_x_6 C_sum_6 C_degree_6 x4_6 ((q11 - 1) - x4_6) hF H locs ls hP hD hS (lv_sub hl [0, 1, 2, 3, 4] rfl)
            · replace hF := q_f hc hF
              refine lv_iload hx hb dX1_lay_57 (lv_at hl 4 rfl) ?_
              refine lv_goto (tgt := 71) hx hb dX1_lay_59 (by decide) ?_
              exact JX1_LAY_71 C_x_6 C_sum_6 C_degree_6 x4_6 x4_6 hF H locs ls hP hD hS (lv_sub hl [0, 1, 2, 3, 4] rfl)
        exact L6 (0, C_x_5, C_sum_5, C_degree_5) hc6 H locs ls hP hD hS (lv_sub hl [2, 3, 4, 1, 0] rfl)
      refine lv_iload_n hx hb dX1_lay_24 rfl (lv_at hl 2 rfl) ?_
      refine lv_iconst (v := 4) hx hb dX1_lay_25 (by decide) ?_
      refine lv_icmp_ge (tgt := 99) hx hb dX1_lay_26 (by decide) (fun hc => ?_) (fun hc => ?_)
      · replace hF := q_t hc hF
        exact X4 _ _ _ (hex _ (Option.some.inj hF).symm) H locs ls hP hD hS (lv_sub hl [0, 1] rfl)
      · replace hF := q_f hc hF
        refine lv_iload_n hx hb dX1_lay_29 rfl (lv_at hl 2 rfl) ?_
        refine lv_iconst (v := 2) hx hb dX1_lay_30 (by decide) ?_
        refine lv_irem hx hb dX1_lay_31 (by decide) ?_
        refine lv_if_ne (tgt := 39) hx hb dX1_lay_32 (by decide) (fun hc => ?_) (fun hc => ?_)
        · replace hF := q_f hc hF
          refine lv_iconst (v := 0) hx hb dX1_lay_39 (by decide) ?_
          exact JX1_LAY_40 C_x_4 C_sum_4 C_degree_4 x2_4 0 hF H locs ls hP hD hS (lv_sub hl [0, 1, 2] rfl)
        · replace hF := q_t hc hF
          refine lv_iconst (v := 1) hx hb dX1_lay_35 (by decide) ?_
          refine lv_goto (tgt := 40) hx hb dX1_lay_36 (by decide) ?_
          exact JX1_LAY_40 C_x_4 C_sum_4 C_degree_4 x2_4 1 hF H locs ls hP hD hS (lv_sub hl [0, 1, 2] rfl)
    exact L4 (0, u1, C_sum, C_degree) hc4 H locs ls hP hD hS (lv_sub hl [1, 2, 0] rfl)
  have L1 : ∀ st : Int32 × (Nat → Int32), q_lo (fun (st : Int32 × (Nat → Int32)) => bX1_lay_2 R_width O_layers O_size O_rows st.1 st.2) st = some q1 → ∀ (H : Heap) (locs : List Loc) (ls : Array Slot), va_P (dC, dI) vwCl (iX1_lay aS aO cI cZ R_width P_size P_uppers P_lowers st.2 C_sum C_degree O_layers O_size O_rows) H → va_D A (iX1_lay aS aO cI cZ R_width P_size P_uppers P_lowers st.2 C_sum C_degree O_layers O_size O_rows) → va_S A s.heap H locs → lv_has ls 6 [(0, .ref (aS 36)), (1, .ref (aO 0)), (2, .int st.1)] → W p l e (headSpec wsX1_lay (rX1_lay)).room s m args below meth c H locs 0 0 Q (F0 m 2 ls []) := by
    intro st hst
    refine q_walk (Wh := fun st : Int32 × (Nat → Int32) => ∀ (H : Heap) (locs : List Loc) (ls : Array Slot), va_P (dC, dI) vwCl (iX1_lay aS aO cI cZ R_width P_size P_uppers P_lowers st.2 C_sum C_degree O_layers O_size O_rows) H → va_D A (iX1_lay aS aO cI cZ R_width P_size P_uppers P_lowers st.2 C_sum C_degree O_layers O_size O_rows) → va_S A s.heap H locs → lv_has ls 6 [(0, .ref (aS 36)), (1, .ref (aO 0)), (2, .int st.1)] → W p l e (headSpec wsX1_lay (rX1_lay)).room s m args below meth c H locs 0 0 Q (F0 m 2 ls [])) ?_ st hst
    clear hst st hF
    intro st o hF hin hex H locs ls hP hD hS hl
    obtain ⟨x2_1, C_x_1⟩ := st
    replace hF : bX1_lay_2 R_width O_layers O_size O_rows x2_1 C_x_1 = some o := hF
    replace hP : va_P (dC, dI) vwCl (iX1_lay aS aO cI cZ R_width P_size P_uppers P_lowers C_x_1 C_sum C_degree O_layers O_size O_rows) H := hP
    replace hD : va_D A (iX1_lay aS aO cI cZ R_width P_size P_uppers P_lowers C_x_1 C_sum C_degree O_layers O_size O_rows) := hD
    replace hl : lv_has ls 6 [(0, .ref (aS 36)), (1, .ref (aO 0)), (2, .int x2_1)] := hl
    unfold bX1_lay_2 at hF
    refine lv_iload_n hx hb dX1_lay_2 rfl (lv_at hl 2 rfl) ?_
    refine lv_aload_n hx hb dX1_lay_3 rfl (lv_at hl 1 rfl) ?_
    obtain ⟨q2, hcq2, hF⟩ := q_bd hF
    refine q_Vi (As := []) (rest := [.int x2_1]) ⟨hx, hb, hml, hown, hts⟩ hA hK hP hD hS (tX4_layers l dC dI cI cZ aO H.size O_layers q2 hcq2) (cwV 0 hts gX1_lay_X4_layers rfl rfl rfl uX4_layers ⟨Nat.le_of_ble_eq_true rfl, Nat.le_of_ble_eq_true rfl⟩) [10] [(false, 0), (false, 1), (false, 2), (false, 3), (false, 4), (false, 5), (false, 6), (false, 7), (false, 8), (false, 9), (true, 0), (false, 11), (false, 12)] (iX1_lay aS aO cI cZ R_width P_size P_uppers P_lowers C_x_1 C_sum C_degree O_layers O_size O_rows) rfl rfl rfl rfl rfl 4 0 rfl rfl rfl rfl hl.1 rfl (Nat.le_of_ble_eq_true rfl) dX1_lay_4 ⟨Nat.zero_le _, Nat.zero_le _⟩ (fun H locs hP hD hS => ?_)
    refine lv_icmp_ge (tgt := 22) hx hb dX1_lay_7 (by decide) (fun hc => ?_) (fun hc => ?_)
    · replace hF := q_t hc hF
      exact X1 _ (hex _ (Option.some.inj hF).symm) H locs ls hP hD hS (lv_sub hl [0, 1] rfl)
    · replace hF := q_f hc hF
      refine lv_aload_n hx hb dX1_lay_10 rfl (lv_at hl 0 rfl) ?_
      refine lv_aload_n hx hb dX1_lay_11 rfl (lv_at hl 1 rfl) ?_
      refine lv_iload_n hx hb dX1_lay_12 rfl (lv_at hl 2 rfl) ?_
      obtain ⟨q3, hcq3, hF⟩ := q_bd hF
      refine q_Vv (As := [.ref (aO 0), .int x2_1]) (rest := []) ⟨hx, hb, hml, hown, hts⟩ hA hK hP hD hS (tX1_pack l dC dI cI cZ aS aO H.size R_width C_x_1 O_layers O_size O_rows x2_1 q3 hcq3) (cwV 2 hts gX1_lay_X1_pack rfl rfl rfl uX1_pack ⟨Nat.le_of_ble_eq_true rfl, Nat.le_of_ble_eq_true rfl⟩) [0, 1, 2, 7, 10, 11, 12] [(true, 0), (true, 1), (true, 2), (false, 3), (false, 4), (false, 5), (false, 6), (true, 3), (false, 8), (false, 9), (true, 4), (true, 5), (true, 6)] (iX1_lay aS aO cI cZ R_width P_size P_uppers P_lowers q3 C_sum C_degree O_layers O_size O_rows) rfl rfl rfl rfl rfl 1 0 rfl rfl rfl rfl hl.1 rfl (Nat.le_of_ble_eq_true rfl) dX1_lay_13 ⟨Nat.zero_le _, Nat.zero_le _⟩ (fun H locs hP hD hS => ?_)
      refine lv_iinc (v := (x2_1 + 1)) (lv' := [(2, .int (x2_1 + 1)), (0, .ref (aS 36)), (1, .ref (aO 0))]) hx hb dX1_lay_16 hl (k := 2) rfl rfl (by decide) rfl (fun ls hl => ?_)
      refine lv_goto (tgt := 2) hx hb dX1_lay_19 (by decide) ?_
      exact hin _ (Option.some.inj hF).symm H locs ls hP hD hS (lv_sub hl [1, 2, 0] rfl)
  exact L1 (0, C_x) hc1 H locs ls hP hD hS (lv_sub hl [1, 2, 0] rfl)
abbrev rX8_openSpot : Room := { frames := 0, cells := 0, slots := 0, locals := 0 }
theorem eX8_openSpot_X8 : ∀ w ∈ u_ws RX8 TX8 8, w ∈ wsX8_openSpot := by decide +kernel
theorem uX8_openSpot : yX8_openSpot.cls = RX8 ∧ yX8_openSpot.cls ≠ "java/lang/invoke/MethodHandle" ∧ yX8_openSpot.cls ≠ "java/lang/invoke/VarHandle" ∧ (parseMethodDescriptor yX8_openSpot.desc).map (fun d => d.parameters.length) = some 2 := by decide +kernel
set_option maxHeartbeats 4000000 in
set_option maxRecDepth 100000 in
theorem tX8_openSpot (l : Launch) (dC : Nat → ClassId) (dI : Nat → Nat → Nat) (cI cZ : ClassId) (aS : Nat → Nat) (sz : Nat) (T_left : Nat → Int32) (T_right : Nat → Int32) (T_arrows : Nat → Int32) (p0 : Int32) (p1 : Int32) (res : Int32 × (Nat → Int32) × (Nat → Int32) × (Nat → Int32)) (hF : fX8_openSpot T_left T_right T_arrows p0 p1 = some res) : q_Mi l yX8_openSpot wsX8_openSpot rX8_openSpot (dC, dI) (q_ty cI cZ) [.ref (aS 40), .int p0, .int p1] (iX8_openSpot aS cI cZ T_left T_right T_arrows) (iX8_openSpot aS cI cZ res.2.1 res.2.2.1 res.2.2.2) sz res.1 := by
  refine q_meti (cc := cX8_openSpot) (maxL := 4) (by decide) rfl (Nat.le_of_ble_eq_true rfl) ?_
  intro p e s m args below meth c Q A H locs ls C hP hD hS hl hret
  obtain ⟨hx, hb, hml, hown, hts, hA, hK⟩ := C
  replace hl : lv_has ls 4 [(0, .ref (aS 40)), (1, .int p0), (2, .int p1)] := hl
  have k0 := hts (.fieldLink RX8 18 "RouteLayout$Tracks" "left" "[I") (by decide +kernel)
  have k1 := hts (.fieldLink RX8 21 "RouteLayout$Tracks" "right" "[I") (by decide +kernel)
  have k2 := hts (.fieldLink RX8 24 "RouteLayout$Tracks" "arrows" "[I") (by decide +kernel)
  unfold fX8_openSpot at hF
  refine lv_iload_n hx hb dX8_openSpot_0 rfl (lv_at hl 1 rfl) ?_
  refine lv_istore_n (lv' := [(3, .int p0), (0, .ref (aS 40)), (1, .int p0), (2, .int p1)]) hx hb dX8_openSpot_1 rfl hl (by decide) rfl (fun ls hl => ?_)
  obtain ⟨q1_0, q1_1, q1_2, q1_3, hc1, hF⟩ := q_bd4 hF
  have X1 : ∀ (u1_0 : Int32) (u1_1 : Nat → Int32) (u1_2 : Nat → Int32) (u1_3 : Nat → Int32), (u1_0, u1_1, u1_2, u1_3) = (q1_0, q1_1, q1_2, q1_3) → ∀ (H : Heap) (locs : List Loc) (ls : Array Slot), va_P (dC, dI) vwCl (iX8_openSpot aS cI cZ u1_1 u1_2 u1_3) H → va_D A (iX8_openSpot aS cI cZ u1_1 u1_2 u1_3) → va_S A s.heap H locs → lv_has ls 4 [(3, .int u1_0)] → W p l e (headSpec wsX8_openSpot (rX8_openSpot)).room s m args below meth c H locs 0 0 Q (F0 m 66 ls []) := by
    intro u1_0 u1_1 u1_2 u1_3 hu H locs ls hP hD hS hl
    obtain ⟨e0, e1, e2, e3⟩ := q_inj4 hu
    subst e0 e1 e2 e3
    refine lv_iload_n hx hb dX8_openSpot_66 rfl (lv_at hl 0 rfl) ?_
    exact hret H locs ls 67 _ _ dX8_openSpot_67 (congrArg Prod.fst (Option.some.inj hF)) (congrArg (fun z : Int32 × (Nat → Int32) × (Nat → Int32) × (Nat → Int32) => (iX8_openSpot aS cI cZ z.2.1 z.2.2.1 z.2.2.2)) (Option.some.inj hF)) hP hD hS
  have L1 : ∀ st : Int32 × (Nat → Int32) × (Nat → Int32) × (Nat → Int32), q_lo (fun (st : Int32 × (Nat → Int32) × (Nat → Int32) × (Nat → Int32)) => bX8_openSpot_2 p1 st.1 st.2.1 st.2.2.1 st.2.2.2) st = some (q1_0, q1_1, q1_2, q1_3) → ∀ (H : Heap) (locs : List Loc) (ls : Array Slot), va_P (dC, dI) vwCl (iX8_openSpot aS cI cZ st.2.1 st.2.2.1 st.2.2.2) H → va_D A (iX8_openSpot aS cI cZ st.2.1 st.2.2.1 st.2.2.2) → va_S A s.heap H locs → lv_has ls 4 [(0, .ref (aS 40)), (2, .int p1), (3, .int st.1)] → W p l e (headSpec wsX8_openSpot (rX8_openSpot)).room s m args below meth c H locs 0 0 Q (F0 m 2 ls []) := by
    intro st hst
    refine q_walk (Wh := fun st : Int32 × (Nat → Int32) × (Nat → Int32) × (Nat → Int32) => ∀ (H : Heap) (locs : List Loc) (ls : Array Slot), va_P (dC, dI) vwCl (iX8_openSpot aS cI cZ st.2.1 st.2.2.1 st.2.2.2) H → va_D A (iX8_openSpot aS cI cZ st.2.1 st.2.2.1 st.2.2.2) → va_S A s.heap H locs → lv_has ls 4 [(0, .ref (aS 40)), (2, .int p1), (3, .int st.1)] → W p l e (headSpec wsX8_openSpot (rX8_openSpot)).room s m args below meth c H locs 0 0 Q (F0 m 2 ls [])) ?_ st hst
    clear hst st hF
    intro st o hF hin hex H locs ls hP hD hS hl
    obtain ⟨x3_1, T_left_1, T_right_1, T_arrows_1⟩ := st
    replace hF : bX8_openSpot_2 p1 x3_1 T_left_1 T_right_1 T_arrows_1 = some o := hF
    replace hP : va_P (dC, dI) vwCl (iX8_openSpot aS cI cZ T_left_1 T_right_1 T_arrows_1) H := hP
    replace hD : va_D A (iX8_openSpot aS cI cZ T_left_1 T_right_1 T_arrows_1) := hD
    replace hl : lv_has ls 4 [(0, .ref (aS 40)), (2, .int p1), (3, .int x3_1)] := hl
    unfold bX8_openSpot_2 at hF
    refine lv_iload_n hx hb dX8_openSpot_2 rfl (lv_at hl 2 rfl) ?_
    refine lv_if_le (tgt := 66) hx hb dX8_openSpot_3 (by decide) (fun hc => ?_) (fun hc => ?_)
    · replace hF := q_t hc hF
      exact X1 _ _ _ _ (hex _ (Option.some.inj hF).symm) H locs ls hP hD hS (lv_sub hl [2] rfl)
    · replace hF := q_f hc hF
      refine lv_aload_n hx hb dX8_openSpot_6 rfl (lv_at hl 0 rfl) ?_
      refine q_get (ci := 8) (C := RX8) (T := TX8) (N := 8) hx hb hts eX8_openSpot_X8 hown hK hP 0 rfl rfl 4 (Nat.le_of_ble_eq_true rfl) k0 rfl rfl dX8_openSpot_7 ?_
      refine lv_iload_n hx hb dX8_openSpot_10 rfl (lv_at hl 2 rfl) ?_
      refine lv_iconst (v := 1) hx hb dX8_openSpot_11 (by decide) ?_
      refine lv_isub hx hb dX8_openSpot_12 ?_
      obtain ⟨hn2, hF⟩ := q_ck hF
      refine va_iald hx hb hK hP 1 0 rfl rfl hn2 dX8_openSpot_13 ?_
      refine lv_iload_n hx hb dX8_openSpot_14 rfl (lv_at hl 1 rfl) ?_
      refine lv_icmp_le (tgt := 66) hx hb dX8_openSpot_15 (by decide) (fun hc => ?_) (fun hc => ?_)
      · replace hF := q_t hc hF
        exact X1 _ _ _ _ (hex _ (Option.some.inj hF).symm) H locs ls hP hD hS (lv_sub hl [2] rfl)
      · replace hF := q_f hc hF
        refine lv_aload_n hx hb dX8_openSpot_18 rfl (lv_at hl 0 rfl) ?_
        refine q_get (ci := 8) (C := RX8) (T := TX8) (N := 8) hx hb hts eX8_openSpot_X8 hown hK hP 0 rfl rfl 4 (Nat.le_of_ble_eq_true rfl) k0 rfl rfl dX8_openSpot_19 ?_
        refine lv_iload_n hx hb dX8_openSpot_22 rfl (lv_at hl 2 rfl) ?_
        refine lv_aload_n hx hb dX8_openSpot_23 rfl (lv_at hl 0 rfl) ?_
        refine q_get (ci := 8) (C := RX8) (T := TX8) (N := 8) hx hb hts eX8_openSpot_X8 hown hK hP 0 rfl rfl 4 (Nat.le_of_ble_eq_true rfl) k0 rfl rfl dX8_openSpot_24 ?_
        refine lv_iload_n hx hb dX8_openSpot_27 rfl (lv_at hl 2 rfl) ?_
        refine lv_iconst (v := 1) hx hb dX8_openSpot_28 (by decide) ?_
        refine lv_isub hx hb dX8_openSpot_29 ?_
        obtain ⟨hn3, hF⟩ := q_ck hF
        refine va_iald hx hb hK hP 1 0 rfl rfl hn3 dX8_openSpot_30 ?_
        obtain ⟨hn4, hF⟩ := q_ck hF
        refine q_iast hx hb hK hP hD hS 1 0 (iX8_openSpot aS cI cZ (upd T_left_1 x3_1.toNatClampNeg (T_left_1 (x3_1 - 1).toNatClampNeg)) T_right_1 T_arrows_1) rfl rfl hn4 rfl dX8_openSpot_31 (fun H locs hP hD hS => ?_)
        refine lv_aload_n hx hb dX8_openSpot_32 rfl (lv_at hl 0 rfl) ?_
        refine q_get (ci := 8) (C := RX8) (T := TX8) (N := 8) hx hb hts eX8_openSpot_X8 hown hK hP 0 rfl rfl 5 (Nat.le_of_ble_eq_true rfl) k1 rfl rfl dX8_openSpot_33 ?_
        refine lv_iload_n hx hb dX8_openSpot_36 rfl (lv_at hl 2 rfl) ?_
        refine lv_aload_n hx hb dX8_openSpot_37 rfl (lv_at hl 0 rfl) ?_
        refine q_get (ci := 8) (C := RX8) (T := TX8) (N := 8) hx hb hts eX8_openSpot_X8 hown hK hP 0 rfl rfl 5 (Nat.le_of_ble_eq_true rfl) k1 rfl rfl dX8_openSpot_38 ?_
        refine lv_iload_n hx hb dX8_openSpot_41 rfl (lv_at hl 2 rfl) ?_
        refine lv_iconst (v := 1) hx hb dX8_openSpot_42 (by decide) ?_
        refine lv_isub hx hb dX8_openSpot_43 ?_
        obtain ⟨hn5, hF⟩ := q_ck hF
        refine va_iald hx hb hK hP 2 0 rfl rfl hn5 dX8_openSpot_44 ?_
        obtain ⟨hn6, hF⟩ := q_ck hF
        refine q_iast hx hb hK hP hD hS 2 0 (iX8_openSpot aS cI cZ (upd T_left_1 x3_1.toNatClampNeg (T_left_1 (x3_1 - 1).toNatClampNeg)) (upd T_right_1 x3_1.toNatClampNeg (T_right_1 (x3_1 - 1).toNatClampNeg)) T_arrows_1) rfl rfl hn6 rfl dX8_openSpot_45 (fun H locs hP hD hS => ?_)
        refine lv_aload_n hx hb dX8_openSpot_46 rfl (lv_at hl 0 rfl) ?_
        refine q_get (ci := 8) (C := RX8) (T := TX8) (N := 8) hx hb hts eX8_openSpot_X8 hown hK hP 0 rfl rfl 6 (Nat.le_of_ble_eq_true rfl) k2 rfl rfl dX8_openSpot_47 ?_
        refine lv_iload_n hx hb dX8_openSpot_50 rfl (lv_at hl 2 rfl) ?_
        refine lv_aload_n hx hb dX8_openSpot_51 rfl (lv_at hl 0 rfl) ?_
        refine q_get (ci := 8) (C := RX8) (T := TX8) (N := 8) hx hb hts eX8_openSpot_X8 hown hK hP 0 rfl rfl 6 (Nat.le_of_ble_eq_true rfl) k2 rfl rfl dX8_openSpot_52 ?_
        refine lv_iload_n hx hb dX8_openSpot_55 rfl (lv_at hl 2 rfl) ?_
        refine lv_iconst (v := 1) hx hb dX8_openSpot_56 (by decide) ?_
        refine lv_isub hx hb dX8_openSpot_57 ?_
        obtain ⟨hn7, hF⟩ := q_ck hF
        refine va_iald hx hb hK hP 3 0 rfl rfl hn7 dX8_openSpot_58 ?_
        obtain ⟨hn8, hF⟩ := q_ck hF
        refine q_iast hx hb hK hP hD hS 3 0 (iX8_openSpot aS cI cZ (upd T_left_1 x3_1.toNatClampNeg (T_left_1 (x3_1 - 1).toNatClampNeg)) (upd T_right_1 x3_1.toNatClampNeg (T_right_1 (x3_1 - 1).toNatClampNeg)) (upd T_arrows_1 x3_1.toNatClampNeg (T_arrows_1 (x3_1 - 1).toNatClampNeg))) rfl rfl hn8 rfl dX8_openSpot_59 (fun H locs hP hD hS => ?_)
        refine lv_iinc (v := (x3_1 + (-1))) (lv' := [(3, .int (x3_1 + (-1))), (0, .ref (aS 40)), (2, .int p1)]) hx hb dX8_openSpot_60 hl (k := 2) rfl rfl (by decide) rfl (fun ls hl => ?_)
        refine lv_goto (tgt := 2) hx hb dX8_openSpot_63 (by decide) ?_
        exact hin _ (Option.some.inj hF).symm H locs ls hP hD hS (lv_sub hl [1, 2, 0] rfl)
  exact L1 (p0, T_left, T_right, T_arrows) hc1 H locs ls hP hD hS (lv_sub hl [1, 3, 0] rfl)
abbrev rX8_gatherParts : Room := { frames := 3, cells := 0, slots := 0, locals := 65 }
theorem eX8_gatherParts_X8 : ∀ w ∈ u_ws RX8 TX8 8, w ∈ wsX8_gatherParts := by decide +kernel
theorem uX8_gatherParts : yX8_gatherParts.cls = RX8 ∧ yX8_gatherParts.cls ≠ "java/lang/invoke/MethodHandle" ∧ yX8_gatherParts.cls ≠ "java/lang/invoke/VarHandle" ∧ (parseMethodDescriptor yX8_gatherParts.desc).map (fun d => d.parameters.length) = some 1 := by decide +kernel
set_option maxHeartbeats 4000000 in
set_option maxRecDepth 100000 in
theorem tX8_gatherParts (l : Launch) (dC : Nat → ClassId) (dI : Nat → Nat → Nat) (cI cZ : ClassId) (aS : Nat → Nat) (sz : Nat) (R_width : Nat → Int32) (P_size : Nat → Int32) (P_arrows : Nat → Int32) (P_uppers : Nat → Int32) (P_lowers : Nat → Int32) (C_x : Nat → Int32) (T_left : Nat → Int32) (T_right : Nat → Int32) (T_arrows : Nat → Int32) (p0 : Int32) (res : Int32 × (Nat → Int32) × (Nat → Int32) × (Nat → Int32)) (hF : fX8_gatherParts R_width P_size P_arrows P_uppers P_lowers C_x T_left T_right T_arrows p0 = some res) : q_Mi l yX8_gatherParts wsX8_gatherParts rX8_gatherParts (dC, dI) (q_ty cI cZ) [.ref (aS 40), .int p0] (iX8_gatherParts aS cI cZ R_width P_size P_arrows P_uppers P_lowers C_x T_left T_right T_arrows) (iX8_gatherParts aS cI cZ R_width P_size P_arrows P_uppers P_lowers C_x res.2.1 res.2.2.1 res.2.2.2) sz res.1 := by
  refine q_meti (cc := cX8_gatherParts) (maxL := 8) (by decide) rfl (Nat.le_of_ble_eq_true rfl) ?_
  intro p e s m args below meth c Q A H locs ls C hP hD hS hl hret
  obtain ⟨hx, hb, hml, hown, hts, hA, hK⟩ := C
  replace hl : lv_has ls 8 [(0, .ref (aS 40)), (1, .int p0)] := hl
  have k0 := hts (.fieldLink RX8 30 "RouteLayout$Tracks" "pieces" "LRouteLayout$Pieces;") (by decide +kernel)
  have k1 := hts (.methodLink RX8 69 Lib.Math.min.name) (by decide +kernel)
  have k2 := hts (.static Lib.Math.min.name) (by decide +kernel)
  have k3 := hts (.initialized "java/lang/Math") (by decide +kernel)
  have k4 := hts (.code Lib.Math.min.name Lib.Math.min.code 2 (some .int)) (by decide +kernel)
  have k5 := hts (.fieldLink RX8 34 "RouteLayout$Tracks" "columns" "LRouteLayout$Columns;") (by decide +kernel)
  have k6 := hts (.fieldLink RX8 18 "RouteLayout$Tracks" "left" "[I") (by decide +kernel)
  have k7 := hts (.fieldLink RX8 21 "RouteLayout$Tracks" "right" "[I") (by decide +kernel)
  have k8 := hts (.methodLink RX8 58 Lib.Math.max.name) (by decide +kernel)
  have k9 := hts (.static Lib.Math.max.name) (by decide +kernel)
  have k10 := hts (.code Lib.Math.max.name Lib.Math.max.code 2 (some .int)) (by decide +kernel)
  have k11 := hts (.fieldLink RX8 24 "RouteLayout$Tracks" "arrows" "[I") (by decide +kernel)
  unfold fX8_gatherParts at hF
  refine lv_iconst (v := 0) hx hb dX8_gatherParts_0 (by decide) ?_
  refine lv_istore_n (lv' := [(2, .int 0), (0, .ref (aS 40)), (1, .int p0)]) hx hb dX8_gatherParts_1 rfl hl (by decide) rfl (fun ls hl => ?_)
  refine lv_aload_n hx hb dX8_gatherParts_2 rfl (lv_at hl 1 rfl) ?_
  refine q_get (ci := 8) (C := RX8) (T := TX8) (N := 8) hx hb hts eX8_gatherParts_X8 hown hK hP 0 rfl rfl 0 (Nat.le_of_ble_eq_true rfl) k0 rfl rfl dX8_gatherParts_3 ?_
  refine lv_iload_n hx hb dX8_gatherParts_6 rfl (lv_at hl 2 rfl) ?_
  obtain ⟨q1, hcq1, hF⟩ := q_bd hF
  refine q_Vi (As := [.int p0]) (rest := []) ⟨hx, hb, hml, hown, hts⟩ hA hK hP hD hS (tX6_sizeOf l dC dI cI cZ aS H.size P_size p0 q1 hcq1) (cwV 1 hts gX8_gatherParts_X6_sizeOf rfl rfl rfl uX6_sizeOf ⟨Nat.le_of_ble_eq_true rfl, Nat.le_of_ble_eq_true rfl⟩) [3, 4] [(false, 0), (false, 1), (false, 2), (true, 0), (true, 1), (false, 5), (false, 6), (false, 7), (false, 8), (false, 9), (false, 10), (false, 11), (false, 12)] (iX8_gatherParts aS cI cZ R_width P_size P_arrows P_uppers P_lowers C_x T_left T_right T_arrows) rfl rfl rfl rfl rfl 6 0 rfl rfl rfl rfl hl.1 rfl (Nat.le_of_ble_eq_true rfl) dX8_gatherParts_7 ⟨Nat.zero_le _, Nat.zero_le _⟩ (fun H locs hP hD hS => ?_)
  refine lv_bipush (v := 24) hx hb dX8_gatherParts_10 (by decide) ?_
  refine va_mmin hx hb (hml.trans hl.1.symm) hown k1 k2 k3 k4 (Nat.le_of_ble_eq_true rfl) (Nat.le_of_ble_eq_true rfl) (Nat.zero_le _) (Nat.zero_le _) dX8_gatherParts_12 ?_
  obtain ⟨v2, hv2, hF⟩ := q_letE hF
  refine q_top hv2 ?_
  refine lv_istore_n (lv' := [(3, .int v2), (2, .int 0), (0, .ref (aS 40)), (1, .int p0)]) hx hb dX8_gatherParts_15 rfl hl (by decide) rfl (fun ls hl => ?_)
  refine lv_iconst (v := 0) hx hb dX8_gatherParts_16 (by decide) ?_
  refine lv_istore (lv' := [(4, .int 0), (3, .int v2), (2, .int 0), (0, .ref (aS 40)), (1, .int p0)]) hx hb dX8_gatherParts_17 hl (by decide) rfl (fun ls hl => ?_)
  obtain ⟨q3_0, q3_1, q3_2, q3_3, hc3, hF⟩ := q_bd4 hF
  have X3 : ∀ (u3_0 : Int32) (u3_1 : Nat → Int32) (u3_2 : Nat → Int32) (u3_3 : Nat → Int32), (u3_0, u3_1, u3_2, u3_3) = (q3_0, q3_1, q3_2, q3_3) → ∀ (H : Heap) (locs : List Loc) (ls : Array Slot), va_P (dC, dI) vwCl (iX8_gatherParts aS cI cZ R_width P_size P_arrows P_uppers P_lowers C_x u3_1 u3_2 u3_3) H → va_D A (iX8_gatherParts aS cI cZ R_width P_size P_arrows P_uppers P_lowers C_x u3_1 u3_2 u3_3) → va_S A s.heap H locs → lv_has ls 8 [(2, .int u3_0)] → W p l e (headSpec wsX8_gatherParts (rX8_gatherParts)).room s m args below meth c H locs 0 0 Q (F0 m 144 ls []) := by
    intro u3_0 u3_1 u3_2 u3_3 hu H locs ls hP hD hS hl
    obtain ⟨e0, e1, e2, e3⟩ := q_inj4 hu
    subst e0 e1 e2 e3
    refine lv_iload_n hx hb dX8_gatherParts_144 rfl (lv_at hl 0 rfl) ?_
    exact hret H locs ls 145 _ _ dX8_gatherParts_145 (congrArg Prod.fst (Option.some.inj hF)) (congrArg (fun z : Int32 × (Nat → Int32) × (Nat → Int32) × (Nat → Int32) => (iX8_gatherParts aS cI cZ R_width P_size P_arrows P_uppers P_lowers C_x z.2.1 z.2.2.1 z.2.2.2)) (Option.some.inj hF)) hP hD hS
  have L3 : ∀ st : Int32 × Int32 × (Nat → Int32) × (Nat → Int32) × (Nat → Int32), q_lo (fun (st : Int32 × Int32 × (Nat → Int32) × (Nat → Int32) × (Nat → Int32)) => bX8_gatherParts_19 R_width P_size P_arrows P_uppers P_lowers C_x p0 v2 st.1 st.2.1 st.2.2.1 st.2.2.2.1 st.2.2.2.2) st = some (q3_0, q3_1, q3_2, q3_3) → ∀ (H : Heap) (locs : List Loc) (ls : Array Slot), va_P (dC, dI) vwCl (iX8_gatherParts aS cI cZ R_width P_size P_arrows P_uppers P_lowers C_x st.2.2.1 st.2.2.2.1 st.2.2.2.2) H → va_D A (iX8_gatherParts aS cI cZ R_width P_size P_arrows P_uppers P_lowers C_x st.2.2.1 st.2.2.2.1 st.2.2.2.2) → va_S A s.heap H locs → lv_has ls 8 [(0, .ref (aS 40)), (1, .int p0), (2, .int st.1), (3, .int v2), (4, .int st.2.1)] → W p l e (headSpec wsX8_gatherParts (rX8_gatherParts)).room s m args below meth c H locs 0 0 Q (F0 m 19 ls []) := by
    intro st hst
    refine q_walk (Wh := fun st : Int32 × Int32 × (Nat → Int32) × (Nat → Int32) × (Nat → Int32) => ∀ (H : Heap) (locs : List Loc) (ls : Array Slot), va_P (dC, dI) vwCl (iX8_gatherParts aS cI cZ R_width P_size P_arrows P_uppers P_lowers C_x st.2.2.1 st.2.2.2.1 st.2.2.2.2) H → va_D A (iX8_gatherParts aS cI cZ R_width P_size P_arrows P_uppers P_lowers C_x st.2.2.1 st.2.2.2.1 st.2.2.2.2) → va_S A s.heap H locs → lv_has ls 8 [(0, .ref (aS 40)), (1, .int p0), (2, .int st.1), (3, .int v2), (4, .int st.2.1)] → W p l e (headSpec wsX8_gatherParts (rX8_gatherParts)).room s m args below meth c H locs 0 0 Q (F0 m 19 ls [])) ?_ st hst
    clear hst st hF
    intro st o hF hin hex H locs ls hP hD hS hl
    obtain ⟨x2_3, x4_3, T_left_3, T_right_3, T_arrows_3⟩ := st
    replace hF : bX8_gatherParts_19 R_width P_size P_arrows P_uppers P_lowers C_x p0 v2 x2_3 x4_3 T_left_3 T_right_3 T_arrows_3 = some o := hF
    replace hP : va_P (dC, dI) vwCl (iX8_gatherParts aS cI cZ R_width P_size P_arrows P_uppers P_lowers C_x T_left_3 T_right_3 T_arrows_3) H := hP
    replace hD : va_D A (iX8_gatherParts aS cI cZ R_width P_size P_arrows P_uppers P_lowers C_x T_left_3 T_right_3 T_arrows_3) := hD
    replace hl : lv_has ls 8 [(0, .ref (aS 40)), (1, .int p0), (2, .int x2_3), (3, .int v2), (4, .int x4_3)] := hl
    unfold bX8_gatherParts_19 at hF
    have JX8_GATHERPARTS_138 : ∀ (T_left_4 : Nat → Int32) (T_right_4 : Nat → Int32) (T_arrows_4 : Nat → Int32) (x2_4 : Int32) (x4_4 : Int32), jX8_gatherParts_138 T_left_4 T_right_4 T_arrows_4 p0 x2_4 v2 x4_4 = some o → ∀ (H : Heap) (locs : List Loc) (ls : Array Slot), va_P (dC, dI) vwCl (iX8_gatherParts aS cI cZ R_width P_size P_arrows P_uppers P_lowers C_x T_left_4 T_right_4 T_arrows_4) H → va_D A (iX8_gatherParts aS cI cZ R_width P_size P_arrows P_uppers P_lowers C_x T_left_4 T_right_4 T_arrows_4) → va_S A s.heap H locs → lv_has ls 8 [(0, .ref (aS 40)), (1, .int p0), (2, .int x2_4), (3, .int v2), (4, .int x4_4)] → W p l e (headSpec wsX8_gatherParts (rX8_gatherParts)).room s m args below meth c H locs 0 0 Q (F0 m 138 ls []) := by
      intro T_left_4 T_right_4 T_arrows_4 x2_4 x4_4 hF H locs ls hP hD hS hl
      unfold jX8_gatherParts_138 at hF
      refine lv_iinc (v := (x4_4 + 1)) (lv' := [(4, .int (x4_4 + 1)), (0, .ref (aS 40)), (1, .int p0), (2, .int x2_4), (3, .int v2)]) hx hb dX8_gatherParts_138 hl (k := 4) rfl rfl (by decide) rfl (fun ls hl => ?_)
      refine lv_goto (tgt := 19) hx hb dX8_gatherParts_141 (by decide) ?_
      exact hin _ (Option.some.inj hF).symm H locs ls hP hD hS (lv_sub hl [1, 2, 3, 4, 0] rfl)
    refine lv_iload hx hb dX8_gatherParts_19 (lv_at hl 4 rfl) ?_
    refine lv_iload_n hx hb dX8_gatherParts_21 rfl (lv_at hl 3 rfl) ?_
    refine lv_icmp_ge (tgt := 144) hx hb dX8_gatherParts_22 (by decide) (fun hc => ?_) (fun hc => ?_)
    · replace hF := q_t hc hF
      exact X3 _ _ _ _ (hex _ (Option.some.inj hF).symm) H locs ls hP hD hS (lv_sub hl [2] rfl)
    · replace hF := q_f hc hF
      refine lv_aload_n hx hb dX8_gatherParts_25 rfl (lv_at hl 0 rfl) ?_
      refine q_get (ci := 8) (C := RX8) (T := TX8) (N := 8) hx hb hts eX8_gatherParts_X8 hown hK hP 0 rfl rfl 1 (Nat.le_of_ble_eq_true rfl) k5 rfl rfl dX8_gatherParts_26 ?_
      refine lv_iload_n hx hb dX8_gatherParts_29 rfl (lv_at hl 1 rfl) ?_
      refine lv_aload_n hx hb dX8_gatherParts_30 rfl (lv_at hl 0 rfl) ?_
      refine q_get (ci := 8) (C := RX8) (T := TX8) (N := 8) hx hb hts eX8_gatherParts_X8 hown hK hP 0 rfl rfl 0 (Nat.le_of_ble_eq_true rfl) k0 rfl rfl dX8_gatherParts_31 ?_
      refine lv_iload_n hx hb dX8_gatherParts_34 rfl (lv_at hl 1 rfl) ?_
      refine lv_iload hx hb dX8_gatherParts_35 (lv_at hl 4 rfl) ?_
      refine lv_iconst (v := 1) hx hb dX8_gatherParts_37 (by decide) ?_
      obtain ⟨q5, hcq5, hF⟩ := q_bd hF
      refine q_Vi (As := [.int p0, .int x4_3, .int 1]) (rest := [.int p0, .ref (aS 36)]) ⟨hx, hb, hml, hown, hts⟩ hA hK hP hD hS (tX6_endOf l dC dI cI cZ aS H.size P_size P_uppers P_lowers p0 x4_3 1 q5 hcq5) (cwV 3 hts gX8_gatherParts_X6_endOf rfl rfl rfl uX6_endOf ⟨Nat.le_of_ble_eq_true rfl, Nat.le_of_ble_eq_true rfl⟩) [3, 4, 6, 7] [(false, 0), (false, 1), (false, 2), (true, 0), (true, 1), (false, 5), (true, 2), (true, 3), (false, 8), (false, 9), (false, 10), (false, 11), (false, 12)] (iX8_gatherParts aS cI cZ R_width P_size P_arrows P_uppers P_lowers C_x T_left_3 T_right_3 T_arrows_3) rfl rfl rfl rfl rfl 6 0 rfl rfl rfl rfl hl.1 rfl (Nat.le_of_ble_eq_true rfl) dX8_gatherParts_38 ⟨Nat.zero_le _, Nat.zero_le _⟩ (fun H locs hP hD hS => ?_)
      obtain ⟨q6, hcq6, hF⟩ := q_bd hF
      refine q_Vi (As := [.int p0, .int q5]) (rest := []) ⟨hx, hb, hml, hown, hts⟩ hA hK hP hD hS (tX1_middleOf l dC dI cI cZ aS H.size R_width C_x p0 q5 q6 hcq6) (cwV 2 hts gX8_gatherParts_X1_middleOf rfl rfl rfl uX1_middleOf ⟨Nat.le_of_ble_eq_true rfl, Nat.le_of_ble_eq_true rfl⟩) [8, 1, 2, 9] [(false, 0), (true, 1), (true, 2), (false, 3), (false, 4), (false, 5), (false, 6), (false, 7), (true, 0), (true, 3), (false, 10), (false, 11), (false, 12)] (iX8_gatherParts aS cI cZ R_width P_size P_arrows P_uppers P_lowers C_x T_left_3 T_right_3 T_arrows_3) rfl rfl rfl rfl rfl 1 0 rfl rfl rfl rfl hl.1 rfl (Nat.le_of_ble_eq_true rfl) dX8_gatherParts_41 ⟨Nat.zero_le _, Nat.zero_le _⟩ (fun H locs hP hD hS => ?_)
      refine lv_istore (lv' := [(5, .int q6), (0, .ref (aS 40)), (1, .int p0), (2, .int x2_3), (3, .int v2), (4, .int x4_3)]) hx hb dX8_gatherParts_44 hl (by decide) rfl (fun ls hl => ?_)
      refine lv_aload_n hx hb dX8_gatherParts_46 rfl (lv_at hl 1 rfl) ?_
      refine q_get (ci := 8) (C := RX8) (T := TX8) (N := 8) hx hb hts eX8_gatherParts_X8 hown hK hP 0 rfl rfl 1 (Nat.le_of_ble_eq_true rfl) k5 rfl rfl dX8_gatherParts_47 ?_
      refine lv_iload_n hx hb dX8_gatherParts_50 rfl (lv_at hl 2 rfl) ?_
      refine lv_iconst (v := 1) hx hb dX8_gatherParts_51 (by decide) ?_
      refine lv_iadd hx hb dX8_gatherParts_52 ?_
      refine lv_aload_n hx hb dX8_gatherParts_53 rfl (lv_at hl 1 rfl) ?_
      refine q_get (ci := 8) (C := RX8) (T := TX8) (N := 8) hx hb hts eX8_gatherParts_X8 hown hK hP 0 rfl rfl 0 (Nat.le_of_ble_eq_true rfl) k0 rfl rfl dX8_gatherParts_54 ?_
      refine lv_iload_n hx hb dX8_gatherParts_57 rfl (lv_at hl 2 rfl) ?_
      refine lv_iload hx hb dX8_gatherParts_58 (lv_at hl 5 rfl) ?_
      refine lv_iconst (v := 0) hx hb dX8_gatherParts_60 (by decide) ?_
      obtain ⟨q7, hcq7, hF⟩ := q_bd hF
      refine q_Vi (As := [.int p0, .int x4_3, .int 0]) (rest := [.int (p0 + 1), .ref (aS 36)]) ⟨hx, hb, hml, hown, hts⟩ hA hK hP hD hS (tX6_endOf l dC dI cI cZ aS H.size P_size P_uppers P_lowers p0 x4_3 0 q7 hcq7) (cwV 3 hts gX8_gatherParts_X6_endOf rfl rfl rfl uX6_endOf ⟨Nat.le_of_ble_eq_true rfl, Nat.le_of_ble_eq_true rfl⟩) [3, 4, 6, 7] [(false, 0), (false, 1), (false, 2), (true, 0), (true, 1), (false, 5), (true, 2), (true, 3), (false, 8), (false, 9), (false, 10), (false, 11), (false, 12)] (iX8_gatherParts aS cI cZ R_width P_size P_arrows P_uppers P_lowers C_x T_left_3 T_right_3 T_arrows_3) rfl rfl rfl rfl rfl 6 0 rfl rfl rfl rfl hl.1 rfl (Nat.le_of_ble_eq_true rfl) dX8_gatherParts_61 ⟨Nat.zero_le _, Nat.zero_le _⟩ (fun H locs hP hD hS => ?_)
      obtain ⟨q8, hcq8, hF⟩ := q_bd hF
      refine q_Vi (As := [.int (p0 + 1), .int q7]) (rest := []) ⟨hx, hb, hml, hown, hts⟩ hA hK hP hD hS (tX1_middleOf l dC dI cI cZ aS H.size R_width C_x (p0 + 1) q7 q8 hcq8) (cwV 2 hts gX8_gatherParts_X1_middleOf rfl rfl rfl uX1_middleOf ⟨Nat.le_of_ble_eq_true rfl, Nat.le_of_ble_eq_true rfl⟩) [8, 1, 2, 9] [(false, 0), (true, 1), (true, 2), (false, 3), (false, 4), (false, 5), (false, 6), (false, 7), (true, 0), (true, 3), (false, 10), (false, 11), (false, 12)] (iX8_gatherParts aS cI cZ R_width P_size P_arrows P_uppers P_lowers C_x T_left_3 T_right_3 T_arrows_3) rfl rfl rfl rfl rfl 1 0 rfl rfl rfl rfl hl.1 rfl (Nat.le_of_ble_eq_true rfl) dX8_gatherParts_64 ⟨Nat.zero_le _, Nat.zero_le _⟩ (fun H locs hP hD hS => ?_)
      refine lv_istore (lv' := [(6, .int q8), (5, .int q6), (0, .ref (aS 40)), (1, .int p0), (2, .int x2_3), (3, .int v2), (4, .int x4_3)]) hx hb dX8_gatherParts_67 hl (by decide) rfl (fun ls hl => ?_)
      refine lv_iload hx hb dX8_gatherParts_69 (lv_at hl 1 rfl) ?_
      refine lv_iload hx hb dX8_gatherParts_71 (lv_at hl 0 rfl) ?_
      refine lv_icmp_eq (tgt := 138) hx hb dX8_gatherParts_73 (by decide) (fun hc => ?_) (fun hc => ?_)
      · replace hF := q_t hc hF
        exact JX8_GATHERPARTS_138 T_left_3 T_right_3 T_arrows_3 x2_3 x4_3 hF H locs ls hP hD hS (lv_sub hl [2, 3, 4, 5, 6] rfl)
      · replace hF := q_f hc hF
        refine lv_aload_n hx hb dX8_gatherParts_76 rfl (lv_at hl 2 rfl) ?_
        refine lv_iload_n hx hb dX8_gatherParts_77 rfl (lv_at hl 4 rfl) ?_
        refine lv_iload hx hb dX8_gatherParts_78 (lv_at hl 1 rfl) ?_
        refine lv_iload hx hb dX8_gatherParts_80 (lv_at hl 0 rfl) ?_
        refine va_mmin hx hb (hml.trans hl.1.symm) hown k1 k2 k3 k4 (Nat.le_of_ble_eq_true rfl) (Nat.le_of_ble_eq_true rfl) (Nat.zero_le _) (Nat.zero_le _) dX8_gatherParts_82 ?_
        obtain ⟨q9_0, q9_1, q9_2, q9_3, hcq9, hF⟩ := q_bd4 hF
        refine q_Vi (As := [.int x2_3, .int (if q8 < q6 then q8 else q6)]) (rest := []) ⟨hx, hb, hml, hown, hts⟩ hA hK hP hD hS (tX8_openSpot l dC dI cI cZ aS H.size T_left_3 T_right_3 T_arrows_3 x2_3 (if q8 < q6 then q8 else q6) (q9_0, q9_1, q9_2, q9_3) hcq9) (cwV 2 hts gX8_gatherParts_X8_openSpot rfl rfl rfl uX8_openSpot ⟨Nat.le_of_ble_eq_true rfl, Nat.le_of_ble_eq_true rfl⟩) [0, 10, 11, 12] [(true, 0), (false, 1), (false, 2), (false, 3), (false, 4), (false, 5), (false, 6), (false, 7), (false, 8), (false, 9), (true, 1), (true, 2), (true, 3)] (iX8_gatherParts aS cI cZ R_width P_size P_arrows P_uppers P_lowers C_x q9_1 q9_2 q9_3) rfl rfl rfl rfl rfl 8 0 rfl rfl rfl rfl hl.1 rfl (Nat.le_of_ble_eq_true rfl) dX8_gatherParts_85 ⟨Nat.zero_le _, Nat.zero_le _⟩ (fun H locs hP hD hS => ?_)
        refine lv_istore (lv' := [(7, .int q9_0), (6, .int q8), (5, .int q6), (0, .ref (aS 40)), (1, .int p0), (2, .int x2_3), (3, .int v2), (4, .int x4_3)]) hx hb dX8_gatherParts_88 hl (by decide) rfl (fun ls hl => ?_)
        refine lv_aload_n hx hb dX8_gatherParts_90 rfl (lv_at hl 3 rfl) ?_
        refine q_get (ci := 8) (C := RX8) (T := TX8) (N := 8) hx hb hts eX8_gatherParts_X8 hown hK hP 0 rfl rfl 4 (Nat.le_of_ble_eq_true rfl) k6 rfl rfl dX8_gatherParts_91 ?_
        refine lv_iload hx hb dX8_gatherParts_94 (lv_at hl 0 rfl) ?_
        refine lv_iload hx hb dX8_gatherParts_96 (lv_at hl 2 rfl) ?_
        refine lv_iload hx hb dX8_gatherParts_98 (lv_at hl 1 rfl) ?_
        refine va_mmin hx hb (hml.trans hl.1.symm) hown k1 k2 k3 k4 (Nat.le_of_ble_eq_true rfl) (Nat.le_of_ble_eq_true rfl) (Nat.zero_le _) (Nat.zero_le _) dX8_gatherParts_100 ?_
        obtain ⟨hn10, hF⟩ := q_ck hF
        refine q_iast hx hb hK hP hD hS 10 0 (iX8_gatherParts aS cI cZ R_width P_size P_arrows P_uppers P_lowers C_x (upd q9_1 q9_0.toNatClampNeg (if q8 < q6 then q8 else q6)) q9_2 q9_3) rfl rfl hn10 rfl dX8_gatherParts_103 (fun H locs hP hD hS => ?_)
        refine lv_aload_n hx hb dX8_gatherParts_104 rfl (lv_at hl 3 rfl) ?_
        refine q_get (ci := 8) (C := RX8) (T := TX8) (N := 8) hx hb hts eX8_gatherParts_X8 hown hK hP 0 rfl rfl 5 (Nat.le_of_ble_eq_true rfl) k7 rfl rfl dX8_gatherParts_105 ?_
        refine lv_iload hx hb dX8_gatherParts_108 (lv_at hl 0 rfl) ?_
        refine lv_iload hx hb dX8_gatherParts_110 (lv_at hl 2 rfl) ?_
        refine lv_iload hx hb dX8_gatherParts_112 (lv_at hl 1 rfl) ?_
        refine va_mmax hx hb (hml.trans hl.1.symm) hown k8 k9 k3 k10 (Nat.le_of_ble_eq_true rfl) (Nat.le_of_ble_eq_true rfl) (Nat.zero_le _) (Nat.zero_le _) dX8_gatherParts_114 ?_
        obtain ⟨hn11, hF⟩ := q_ck hF
        refine q_iast hx hb hK hP hD hS 11 0 (iX8_gatherParts aS cI cZ R_width P_size P_arrows P_uppers P_lowers C_x (upd q9_1 q9_0.toNatClampNeg (if q8 < q6 then q8 else q6)) (upd q9_2 q9_0.toNatClampNeg (if q6 < q8 then q8 else q6)) q9_3) rfl rfl hn11 rfl dX8_gatherParts_117 (fun H locs hP hD hS => ?_)
        refine lv_aload_n hx hb dX8_gatherParts_118 rfl (lv_at hl 3 rfl) ?_
        refine q_get (ci := 8) (C := RX8) (T := TX8) (N := 8) hx hb hts eX8_gatherParts_X8 hown hK hP 0 rfl rfl 6 (Nat.le_of_ble_eq_true rfl) k11 rfl rfl dX8_gatherParts_119 ?_
        refine lv_iload hx hb dX8_gatherParts_122 (lv_at hl 0 rfl) ?_
        refine lv_aload_n hx hb dX8_gatherParts_124 rfl (lv_at hl 3 rfl) ?_
        refine q_get (ci := 8) (C := RX8) (T := TX8) (N := 8) hx hb hts eX8_gatherParts_X8 hown hK hP 0 rfl rfl 0 (Nat.le_of_ble_eq_true rfl) k0 rfl rfl dX8_gatherParts_125 ?_
        refine lv_iload_n hx hb dX8_gatherParts_128 rfl (lv_at hl 4 rfl) ?_
        refine lv_iload hx hb dX8_gatherParts_129 (lv_at hl 7 rfl) ?_
        obtain ⟨q12, hcq12, hF⟩ := q_bd hF
        refine q_Vi (As := [.int p0, .int x4_3]) (rest := [.int q9_0, .ref (aS 45)]) ⟨hx, hb, hml, hown, hts⟩ hA hK hP hD hS (tX6_arrowOf l dC dI cI cZ aS H.size P_size P_arrows p0 x4_3 q12 hcq12) (cwV 2 hts gX8_gatherParts_X6_arrowOf rfl rfl rfl uX6_arrowOf ⟨Nat.le_of_ble_eq_true rfl, Nat.le_of_ble_eq_true rfl⟩) [3, 4, 5] [(false, 0), (false, 1), (false, 2), (true, 0), (true, 1), (true, 2), (false, 6), (false, 7), (false, 8), (false, 9), (false, 10), (false, 11), (false, 12)] (iX8_gatherParts aS cI cZ R_width P_size P_arrows P_uppers P_lowers C_x (upd q9_1 q9_0.toNatClampNeg (if q8 < q6 then q8 else q6)) (upd q9_2 q9_0.toNatClampNeg (if q6 < q8 then q8 else q6)) q9_3) rfl rfl rfl rfl rfl 6 0 rfl rfl rfl rfl hl.1 rfl (Nat.le_of_ble_eq_true rfl) dX8_gatherParts_131 ⟨Nat.zero_le _, Nat.zero_le _⟩ (fun H locs hP hD hS => ?_)
        obtain ⟨hn13, hF⟩ := q_ck hF
        refine q_iast hx hb hK hP hD hS 12 0 (iX8_gatherParts aS cI cZ R_width P_size P_arrows P_uppers P_lowers C_x (upd q9_1 q9_0.toNatClampNeg (if q8 < q6 then q8 else q6)) (upd q9_2 q9_0.toNatClampNeg (if q6 < q8 then q8 else q6)) (upd q9_3 q9_0.toNatClampNeg q12)) rfl rfl hn13 rfl dX8_gatherParts_134 (fun H locs hP hD hS => ?_)
        refine lv_iinc (v := (x2_3 + 1)) (lv' := [(2, .int (x2_3 + 1)), (7, .int q9_0), (6, .int q8), (5, .int q6), (0, .ref (aS 40)), (1, .int p0), (3, .int v2), (4, .int x4_3)]) hx hb dX8_gatherParts_135 hl (k := 5) rfl rfl (by decide) rfl (fun ls hl => ?_)
        exact JX8_GATHERPARTS_138 (upd q9_1 q9_0.toNatClampNeg (if q8 < q6 then q8 else q6)) (upd q9_2 q9_0.toNatClampNeg (if q6 < q8 then q8 else q6)) (upd q9_3 q9_0.toNatClampNeg q12) (x2_3 + 1) x4_3 hF H locs ls hP hD hS (lv_sub hl [4, 5, 0, 6, 7] rfl)
  exact L3 (0, 0, T_left, T_right, T_arrows) hc3 H locs ls hP hD hS (lv_sub hl [3, 4, 2, 1, 0] rfl)
abbrev rX8_mostTracks : Room := { frames := 1, cells := 0, slots := 0, locals := 40 }
theorem eX8_mostTracks_X8 : ∀ w ∈ u_ws RX8 TX8 8, w ∈ wsX8_mostTracks := by decide +kernel
theorem uX8_mostTracks : yX8_mostTracks.cls = RX8 ∧ yX8_mostTracks.cls ≠ "java/lang/invoke/MethodHandle" ∧ yX8_mostTracks.cls ≠ "java/lang/invoke/VarHandle" ∧ (parseMethodDescriptor yX8_mostTracks.desc).map (fun d => d.parameters.length) = some 0 := by decide +kernel
set_option maxHeartbeats 4000000 in
set_option maxRecDepth 100000 in
theorem tX8_mostTracks (l : Launch) (dC : Nat → ClassId) (dI : Nat → Nat → Nat) (cI cZ : ClassId) (aS : Nat → Nat) (sz : Nat) (T_used : Nat → Int32) (res : Int32) (hF : fX8_mostTracks T_used = some res) : q_Mi l yX8_mostTracks wsX8_mostTracks rX8_mostTracks (dC, dI) (q_ty cI cZ) [.ref (aS 40)] (iX8_mostTracks aS cI cZ T_used) (iX8_mostTracks aS cI cZ T_used) sz res := by
  refine q_meti (cc := cX8_mostTracks) (maxL := 3) (by decide) rfl (Nat.le_of_ble_eq_true rfl) ?_
  intro p e s m args below meth c Q A H locs ls C hP hD hS hl hret
  obtain ⟨hx, hb, hml, hown, hts, hA, hK⟩ := C
  replace hl : lv_has ls 3 [(0, .ref (aS 40))] := hl
  have k0 := hts (.fieldLink RX8 15 "RouteLayout$Tracks" "used" "[I") (by decide +kernel)
  have k1 := hts (.methodLink RX8 58 Lib.Math.max.name) (by decide +kernel)
  have k2 := hts (.static Lib.Math.max.name) (by decide +kernel)
  have k3 := hts (.initialized "java/lang/Math") (by decide +kernel)
  have k4 := hts (.code Lib.Math.max.name Lib.Math.max.code 2 (some .int)) (by decide +kernel)
  unfold fX8_mostTracks at hF
  refine lv_iconst (v := 0) hx hb dX8_mostTracks_0 (by decide) ?_
  refine lv_istore_n (lv' := [(1, .int 0), (0, .ref (aS 40))]) hx hb dX8_mostTracks_1 rfl hl (by decide) rfl (fun ls hl => ?_)
  refine lv_iconst (v := 0) hx hb dX8_mostTracks_2 (by decide) ?_
  refine lv_istore_n (lv' := [(2, .int 0), (1, .int 0), (0, .ref (aS 40))]) hx hb dX8_mostTracks_3 rfl hl (by decide) rfl (fun ls hl => ?_)
  obtain ⟨q1, hc1, hF⟩ := q_bd hF
  have X1 : ∀ (u1 : Int32), u1 = q1 → ∀ (H : Heap) (locs : List Loc) (ls : Array Slot), va_P (dC, dI) vwCl (iX8_mostTracks aS cI cZ T_used) H → va_D A (iX8_mostTracks aS cI cZ T_used) → va_S A s.heap H locs → lv_has ls 3 [(1, .int u1)] → W p l e (headSpec wsX8_mostTracks (rX8_mostTracks)).room s m args below meth c H locs 0 0 Q (F0 m 27 ls []) := by
    intro u1 hu H locs ls hP hD hS hl
    subst hu
    refine lv_iload_n hx hb dX8_mostTracks_27 rfl (lv_at hl 0 rfl) ?_
    exact hret H locs ls 28 _ _ dX8_mostTracks_28 (Option.some.inj hF) rfl hP hD hS
  have L1 : ∀ st : Int32 × Int32, q_lo (fun (st : Int32 × Int32) => bX8_mostTracks_4 T_used st.1 st.2) st = some q1 → ∀ (H : Heap) (locs : List Loc) (ls : Array Slot), va_P (dC, dI) vwCl (iX8_mostTracks aS cI cZ T_used) H → va_D A (iX8_mostTracks aS cI cZ T_used) → va_S A s.heap H locs → lv_has ls 3 [(0, .ref (aS 40)), (1, .int st.1), (2, .int st.2)] → W p l e (headSpec wsX8_mostTracks (rX8_mostTracks)).room s m args below meth c H locs 0 0 Q (F0 m 4 ls []) := by
    intro st hst
    refine q_walk (Wh := fun st : Int32 × Int32 => ∀ (H : Heap) (locs : List Loc) (ls : Array Slot), va_P (dC, dI) vwCl (iX8_mostTracks aS cI cZ T_used) H → va_D A (iX8_mostTracks aS cI cZ T_used) → va_S A s.heap H locs → lv_has ls 3 [(0, .ref (aS 40)), (1, .int st.1), (2, .int st.2)] → W p l e (headSpec wsX8_mostTracks (rX8_mostTracks)).room s m args below meth c H locs 0 0 Q (F0 m 4 ls [])) ?_ st hst
    clear hst st hF
    intro st o hF hin hex H locs ls hP hD hS hl
    obtain ⟨x1_1, x2_1⟩ := st
    replace hF : bX8_mostTracks_4 T_used x1_1 x2_1 = some o := hF
    replace hP : va_P (dC, dI) vwCl (iX8_mostTracks aS cI cZ T_used) H := hP
    replace hD : va_D A (iX8_mostTracks aS cI cZ T_used) := hD
    replace hl : lv_has ls 3 [(0, .ref (aS 40)), (1, .int x1_1), (2, .int x2_1)] := hl
    unfold bX8_mostTracks_4 at hF
    refine lv_iload_n hx hb dX8_mostTracks_4 rfl (lv_at hl 2 rfl) ?_
    refine lv_bipush (v := 24) hx hb dX8_mostTracks_5 (by decide) ?_
    refine lv_icmp_ge (tgt := 27) hx hb dX8_mostTracks_7 (by decide) (fun hc => ?_) (fun hc => ?_)
    · replace hF := q_t hc hF
      exact X1 _ (hex _ (Option.some.inj hF).symm) H locs ls hP hD hS (lv_sub hl [1] rfl)
    · replace hF := q_f hc hF
      refine lv_iload_n hx hb dX8_mostTracks_10 rfl (lv_at hl 1 rfl) ?_
      refine lv_aload_n hx hb dX8_mostTracks_11 rfl (lv_at hl 0 rfl) ?_
      refine q_get (ci := 8) (C := RX8) (T := TX8) (N := 8) hx hb hts eX8_mostTracks_X8 hown hK hP 0 rfl rfl 3 (Nat.le_of_ble_eq_true rfl) k0 rfl rfl dX8_mostTracks_12 ?_
      refine lv_iload_n hx hb dX8_mostTracks_15 rfl (lv_at hl 2 rfl) ?_
      obtain ⟨hn2, hF⟩ := q_ck hF
      refine va_iald hx hb hK hP 1 0 rfl rfl hn2 dX8_mostTracks_16 ?_
      refine va_mmax hx hb (hml.trans hl.1.symm) hown k1 k2 k3 k4 (Nat.le_of_ble_eq_true rfl) (Nat.le_of_ble_eq_true rfl) (Nat.zero_le _) (Nat.zero_le _) dX8_mostTracks_17 ?_
      obtain ⟨v3, hv3, hF⟩ := q_letE hF
      refine q_top hv3 ?_
      refine lv_istore_n (lv' := [(1, .int v3), (0, .ref (aS 40)), (2, .int x2_1)]) hx hb dX8_mostTracks_20 rfl hl (by decide) rfl (fun ls hl => ?_)
      refine lv_iinc (v := (x2_1 + 1)) (lv' := [(2, .int (x2_1 + 1)), (1, .int v3), (0, .ref (aS 40))]) hx hb dX8_mostTracks_21 hl (k := 2) rfl rfl (by decide) rfl (fun ls hl => ?_)
      refine lv_goto (tgt := 4) hx hb dX8_mostTracks_24 (by decide) ?_
      exact hin _ (Option.some.inj hF).symm H locs ls hP hD hS (lv_sub hl [2, 1, 0] rfl)
  exact L1 (0, 0) hc1 H locs ls hP hD hS (lv_sub hl [2, 1, 0] rfl)
abbrev rX8_shareGap : Room := { frames := 1, cells := 0, slots := 0, locals := 40 }
theorem eX8_shareGap_X8 : ∀ w ∈ u_ws RX8 TX8 8, w ∈ wsX8_shareGap := by decide +kernel
theorem uX8_shareGap : yX8_shareGap.cls = RX8 ∧ yX8_shareGap.cls ≠ "java/lang/invoke/MethodHandle" ∧ yX8_shareGap.cls ≠ "java/lang/invoke/VarHandle" ∧ (parseMethodDescriptor yX8_shareGap.desc).map (fun d => d.parameters.length) = some 2 := by decide +kernel
set_option maxHeartbeats 4000000 in
set_option maxRecDepth 100000 in
theorem tX8_shareGap (l : Launch) (dC : Nat → ClassId) (dI : Nat → Nat → Nat) (cI cZ : ClassId) (aS : Nat → Nat) (sz : Nat) (T_track : Nat → Int32) (T_used : Nat → Int32) (T_left : Nat → Int32) (T_right : Nat → Int32) (T_arrows : Nat → Int32) (T_trackEnd : Nat → Int32) (p0 : Int32) (p1 : Int32) (res : (Nat → Int32) × (Nat → Int32) × (Nat → Int32)) (hF : fX8_shareGap T_track T_used T_left T_right T_arrows T_trackEnd p0 p1 = some res) : q_Mv l yX8_shareGap wsX8_shareGap rX8_shareGap (dC, dI) (q_ty cI cZ) [.ref (aS 40), .int p0, .int p1] (iX8_shareGap aS cI cZ T_track T_used T_left T_right T_arrows T_trackEnd) (iX8_shareGap aS cI cZ res.1 res.2.1 T_left T_right T_arrows res.2.2) sz := by
  refine q_metv (cc := cX8_shareGap) (maxL := 5) (by decide) rfl (Nat.le_of_ble_eq_true rfl) ?_
  intro p e s m args below meth c Q A H locs ls C hP hD hS hl hret
  obtain ⟨hx, hb, hml, hown, hts, hA, hK⟩ := C
  replace hl : lv_has ls 5 [(0, .ref (aS 40)), (1, .int p0), (2, .int p1)] := hl
  have k0 := hts (.fieldLink RX8 15 "RouteLayout$Tracks" "used" "[I") (by decide +kernel)
  have k1 := hts (.fieldLink RX8 27 "RouteLayout$Tracks" "trackEnd" "[I") (by decide +kernel)
  have k2 := hts (.fieldLink RX8 18 "RouteLayout$Tracks" "left" "[I") (by decide +kernel)
  have k3 := hts (.methodLink RX8 58 Lib.Math.max.name) (by decide +kernel)
  have k4 := hts (.static Lib.Math.max.name) (by decide +kernel)
  have k5 := hts (.initialized "java/lang/Math") (by decide +kernel)
  have k6 := hts (.code Lib.Math.max.name Lib.Math.max.code 2 (some .int)) (by decide +kernel)
  have k7 := hts (.fieldLink RX8 21 "RouteLayout$Tracks" "right" "[I") (by decide +kernel)
  have k8 := hts (.fieldLink RX8 24 "RouteLayout$Tracks" "arrows" "[I") (by decide +kernel)
  have k9 := hts (.fieldLink RX8 9 "RouteLayout$Tracks" "track" "[I") (by decide +kernel)
  unfold fX8_shareGap at hF
  refine lv_iload_n hx hb dX8_shareGap_0 rfl (lv_at hl 1 rfl) ?_
  refine lv_if_lt (tgt := 10) hx hb dX8_shareGap_1 (by decide) (fun hc => ?_) (fun hc => ?_)
  · replace hF := q_t hc hF
    exact hret H locs ls 10 _ dX8_shareGap_10 (congrArg (fun z : (Nat → Int32) × (Nat → Int32) × (Nat → Int32) => (iX8_shareGap aS cI cZ z.1 z.2.1 T_left T_right T_arrows z.2.2)) (Option.some.inj hF)) hP hD hS
  · replace hF := q_f hc hF
    refine lv_iload_n hx hb dX8_shareGap_4 rfl (lv_at hl 1 rfl) ?_
    refine lv_bipush (v := 24) hx hb dX8_shareGap_5 (by decide) ?_
    refine lv_icmp_lt (tgt := 11) hx hb dX8_shareGap_7 (by decide) (fun hc => ?_) (fun hc => ?_)
    · replace hF := q_t hc hF
      refine lv_iconst (v := 0) hx hb dX8_shareGap_11 (by decide) ?_
      refine lv_istore_n (lv' := [(3, .int 0), (0, .ref (aS 40)), (1, .int p0), (2, .int p1)]) hx hb dX8_shareGap_12 rfl hl (by decide) rfl (fun ls hl => ?_)
      obtain ⟨q1_0, q1_1, q1_2, hc1, hF⟩ := q_bd3 hF
      have X1 : ∀ (u1_0 : Nat → Int32) (u1_1 : Nat → Int32) (u1_2 : Nat → Int32), (u1_0, u1_1, u1_2) = (q1_0, q1_1, q1_2) → ∀ (H : Heap) (locs : List Loc) (ls : Array Slot), va_P (dC, dI) vwCl (iX8_shareGap aS cI cZ u1_0 u1_1 T_left T_right T_arrows u1_2) H → va_D A (iX8_shareGap aS cI cZ u1_0 u1_1 T_left T_right T_arrows u1_2) → va_S A s.heap H locs → lv_has ls 5 [] → W p l e (headSpec wsX8_shareGap (rX8_shareGap)).room s m args below meth c H locs 0 0 Q (F0 m 130 ls []) := by
        intro u1_0 u1_1 u1_2 hu H locs ls hP hD hS hl
        obtain ⟨e0, e1, e2⟩ := q_inj3 hu
        subst e0 e1 e2
        exact hret H locs ls 130 _ dX8_shareGap_130 (congrArg (fun z : (Nat → Int32) × (Nat → Int32) × (Nat → Int32) => (iX8_shareGap aS cI cZ z.1 z.2.1 T_left T_right T_arrows z.2.2)) (Option.some.inj hF)) hP hD hS
      have L1 : ∀ st : Int32 × (Nat → Int32) × (Nat → Int32) × (Nat → Int32), q_lo (fun (st : Int32 × (Nat → Int32) × (Nat → Int32) × (Nat → Int32)) => bX8_shareGap_13 T_left T_right T_arrows p0 p1 st.1 st.2.1 st.2.2.1 st.2.2.2) st = some (q1_0, q1_1, q1_2) → ∀ (H : Heap) (locs : List Loc) (ls : Array Slot), va_P (dC, dI) vwCl (iX8_shareGap aS cI cZ st.2.1 st.2.2.1 T_left T_right T_arrows st.2.2.2) H → va_D A (iX8_shareGap aS cI cZ st.2.1 st.2.2.1 T_left T_right T_arrows st.2.2.2) → va_S A s.heap H locs → lv_has ls 5 [(0, .ref (aS 40)), (1, .int p0), (2, .int p1), (3, .int st.1)] → W p l e (headSpec wsX8_shareGap (rX8_shareGap)).room s m args below meth c H locs 0 0 Q (F0 m 13 ls []) := by
        intro st hst
        refine q_walk (Wh := fun st : Int32 × (Nat → Int32) × (Nat → Int32) × (Nat → Int32) => ∀ (H : Heap) (locs : List Loc) (ls : Array Slot), va_P (dC, dI) vwCl (iX8_shareGap aS cI cZ st.2.1 st.2.2.1 T_left T_right T_arrows st.2.2.2) H → va_D A (iX8_shareGap aS cI cZ st.2.1 st.2.2.1 T_left T_right T_arrows st.2.2.2) → va_S A s.heap H locs → lv_has ls 5 [(0, .ref (aS 40)), (1, .int p0), (2, .int p1), (3, .int st.1)] → W p l e (headSpec wsX8_shareGap (rX8_shareGap)).room s m args below meth c H locs 0 0 Q (F0 m 13 ls [])) ?_ st hst
        clear hst st hF
        intro st o hF hin hex H locs ls hP hD hS hl
        obtain ⟨x3_1, T_track_1, T_used_1, T_trackEnd_1⟩ := st
        replace hF : bX8_shareGap_13 T_left T_right T_arrows p0 p1 x3_1 T_track_1 T_used_1 T_trackEnd_1 = some o := hF
        replace hP : va_P (dC, dI) vwCl (iX8_shareGap aS cI cZ T_track_1 T_used_1 T_left T_right T_arrows T_trackEnd_1) H := hP
        replace hD : va_D A (iX8_shareGap aS cI cZ T_track_1 T_used_1 T_left T_right T_arrows T_trackEnd_1) := hD
        replace hl : lv_has ls 5 [(0, .ref (aS 40)), (1, .int p0), (2, .int p1), (3, .int x3_1)] := hl
        unfold bX8_shareGap_13 at hF
        have JX8_SHAREGAP_124 : ∀ (T_track_2 : Nat → Int32) (T_used_2 : Nat → Int32) (T_trackEnd_2 : Nat → Int32) (x3_2 : Int32), jX8_shareGap_124 T_track_2 T_used_2 T_trackEnd_2 p0 p1 x3_2 = some o → ∀ (H : Heap) (locs : List Loc) (ls : Array Slot), va_P (dC, dI) vwCl (iX8_shareGap aS cI cZ T_track_2 T_used_2 T_left T_right T_arrows T_trackEnd_2) H → va_D A (iX8_shareGap aS cI cZ T_track_2 T_used_2 T_left T_right T_arrows T_trackEnd_2) → va_S A s.heap H locs → lv_has ls 5 [(0, .ref (aS 40)), (1, .int p0), (2, .int p1), (3, .int x3_2)] → W p l e (headSpec wsX8_shareGap (rX8_shareGap)).room s m args below meth c H locs 0 0 Q (F0 m 124 ls []) := by
          intro T_track_2 T_used_2 T_trackEnd_2 x3_2 hF H locs ls hP hD hS hl
          unfold jX8_shareGap_124 at hF
          refine lv_iinc (v := (x3_2 + 1)) (lv' := [(3, .int (x3_2 + 1)), (0, .ref (aS 40)), (1, .int p0), (2, .int p1)]) hx hb dX8_shareGap_124 hl (k := 3) rfl rfl (by decide) rfl (fun ls hl => ?_)
          refine lv_goto (tgt := 13) hx hb dX8_shareGap_127 (by decide) ?_
          exact hin _ (Option.some.inj hF).symm H locs ls hP hD hS (lv_sub hl [1, 2, 3, 0] rfl)
        refine lv_iload_n hx hb dX8_shareGap_13 rfl (lv_at hl 3 rfl) ?_
        refine lv_iload_n hx hb dX8_shareGap_14 rfl (lv_at hl 2 rfl) ?_
        refine lv_icmp_ge (tgt := 130) hx hb dX8_shareGap_15 (by decide) (fun hc => ?_) (fun hc => ?_)
        · replace hF := q_t hc hF
          exact X1 _ _ _ (hex _ (Option.some.inj hF).symm) H locs ls hP hD hS (lv_sub hl [] rfl)
        · replace hF := q_f hc hF
          refine lv_iconst (v := 0) hx hb dX8_shareGap_18 (by decide) ?_
          refine lv_istore (lv' := [(4, .int 0), (0, .ref (aS 40)), (1, .int p0), (2, .int p1), (3, .int x3_1)]) hx hb dX8_shareGap_19 hl (by decide) rfl (fun ls hl => ?_)
          obtain ⟨q3, hc3, hF⟩ := q_bd hF
          have X3 : ∀ (u3 : Int32), u3 = q3 → ∀ (H : Heap) (locs : List Loc) (ls : Array Slot), va_P (dC, dI) vwCl (iX8_shareGap aS cI cZ T_track_1 T_used_1 T_left T_right T_arrows T_trackEnd_1) H → va_D A (iX8_shareGap aS cI cZ T_track_1 T_used_1 T_left T_right T_arrows T_trackEnd_1) → va_S A s.heap H locs → lv_has ls 5 [(0, .ref (aS 40)), (1, .int p0), (2, .int p1), (3, .int x3_1), (4, .int u3)] → W p l e (headSpec wsX8_shareGap (rX8_shareGap)).room s m args below meth c H locs 0 0 Q (F0 m 54 ls []) := by
            intro u3 hu H locs ls hP hD hS hl
            subst hu
            refine lv_aload_n hx hb dX8_shareGap_54 rfl (lv_at hl 0 rfl) ?_
            refine q_get (ci := 8) (C := RX8) (T := TX8) (N := 8) hx hb hts eX8_shareGap_X8 hown hK hP 0 rfl rfl 3 (Nat.le_of_ble_eq_true rfl) k0 rfl rfl dX8_shareGap_55 ?_
            refine lv_iload_n hx hb dX8_shareGap_58 rfl (lv_at hl 1 rfl) ?_
            refine lv_aload_n hx hb dX8_shareGap_59 rfl (lv_at hl 0 rfl) ?_
            refine q_get (ci := 8) (C := RX8) (T := TX8) (N := 8) hx hb hts eX8_shareGap_X8 hown hK hP 0 rfl rfl 3 (Nat.le_of_ble_eq_true rfl) k0 rfl rfl dX8_shareGap_60 ?_
            refine lv_iload_n hx hb dX8_shareGap_63 rfl (lv_at hl 1 rfl) ?_
            obtain ⟨hn7, hF⟩ := q_ck hF
            refine va_iald hx hb hK hP 2 0 rfl rfl hn7 dX8_shareGap_64 ?_
            refine lv_iload hx hb dX8_shareGap_65 (lv_at hl 4 rfl) ?_
            refine lv_iconst (v := 1) hx hb dX8_shareGap_67 (by decide) ?_
            refine lv_iadd hx hb dX8_shareGap_68 ?_
            refine va_mmax hx hb (hml.trans hl.1.symm) hown k3 k4 k5 k6 (Nat.le_of_ble_eq_true rfl) (Nat.le_of_ble_eq_true rfl) (Nat.zero_le _) (Nat.zero_le _) dX8_shareGap_69 ?_
            obtain ⟨hn8, hF⟩ := q_ck hF
            refine q_iast hx hb hK hP hD hS 2 0 (iX8_shareGap aS cI cZ T_track_1 (upd T_used_1 p0.toNatClampNeg (if (T_used_1 p0.toNatClampNeg) < (u3 + 1) then (u3 + 1) else (T_used_1 p0.toNatClampNeg))) T_left T_right T_arrows T_trackEnd_1) rfl rfl hn8 rfl dX8_shareGap_72 (fun H locs hP hD hS => ?_)
            refine lv_aload_n hx hb dX8_shareGap_73 rfl (lv_at hl 0 rfl) ?_
            refine q_get (ci := 8) (C := RX8) (T := TX8) (N := 8) hx hb hts eX8_shareGap_X8 hown hK hP 0 rfl rfl 7 (Nat.le_of_ble_eq_true rfl) k1 rfl rfl dX8_shareGap_74 ?_
            refine lv_iload hx hb dX8_shareGap_77 (lv_at hl 4 rfl) ?_
            refine lv_aload_n hx hb dX8_shareGap_79 rfl (lv_at hl 0 rfl) ?_
            refine q_get (ci := 8) (C := RX8) (T := TX8) (N := 8) hx hb hts eX8_shareGap_X8 hown hK hP 0 rfl rfl 5 (Nat.le_of_ble_eq_true rfl) k7 rfl rfl dX8_shareGap_80 ?_
            refine lv_iload_n hx hb dX8_shareGap_83 rfl (lv_at hl 3 rfl) ?_
            obtain ⟨hn9, hF⟩ := q_ck hF
            refine va_iald hx hb hK hP 4 0 rfl rfl hn9 dX8_shareGap_84 ?_
            obtain ⟨hn10, hF⟩ := q_ck hF
            refine q_iast hx hb hK hP hD hS 6 0 (iX8_shareGap aS cI cZ T_track_1 (upd T_used_1 p0.toNatClampNeg (if (T_used_1 p0.toNatClampNeg) < (u3 + 1) then (u3 + 1) else (T_used_1 p0.toNatClampNeg))) T_left T_right T_arrows (upd T_trackEnd_1 u3.toNatClampNeg (T_right x3_1.toNatClampNeg))) rfl rfl hn10 rfl dX8_shareGap_85 (fun H locs hP hD hS => ?_)
            refine lv_aload_n hx hb dX8_shareGap_86 rfl (lv_at hl 0 rfl) ?_
            refine q_get (ci := 8) (C := RX8) (T := TX8) (N := 8) hx hb hts eX8_shareGap_X8 hown hK hP 0 rfl rfl 6 (Nat.le_of_ble_eq_true rfl) k8 rfl rfl dX8_shareGap_87 ?_
            refine lv_iload_n hx hb dX8_shareGap_90 rfl (lv_at hl 3 rfl) ?_
            obtain ⟨hn11, hF⟩ := q_ck hF
            refine va_iald hx hb hK hP 5 0 rfl rfl hn11 dX8_shareGap_91 ?_
            refine lv_if_lt (tgt := 124) hx hb dX8_shareGap_92 (by decide) (fun hc => ?_) (fun hc => ?_)
            · replace hF := q_t hc hF
              exact JX8_SHAREGAP_124 T_track_1 (upd T_used_1 p0.toNatClampNeg (if (T_used_1 p0.toNatClampNeg) < (u3 + 1) then (u3 + 1) else (T_used_1 p0.toNatClampNeg))) (upd T_trackEnd_1 u3.toNatClampNeg (T_right x3_1.toNatClampNeg)) x3_1 hF H locs ls hP hD hS (lv_sub hl [0, 1, 2, 3] rfl)
            · replace hF := q_f hc hF
              refine lv_aload_n hx hb dX8_shareGap_95 rfl (lv_at hl 0 rfl) ?_
              refine q_get (ci := 8) (C := RX8) (T := TX8) (N := 8) hx hb hts eX8_shareGap_X8 hown hK hP 0 rfl rfl 6 (Nat.le_of_ble_eq_true rfl) k8 rfl rfl dX8_shareGap_96 ?_
              refine lv_iload_n hx hb dX8_shareGap_99 rfl (lv_at hl 3 rfl) ?_
              obtain ⟨hn12, hF⟩ := q_ck hF
              refine va_iald hx hb hK hP 5 0 rfl rfl hn12 dX8_shareGap_100 ?_
              refine lv_bipush (v := 24) hx hb dX8_shareGap_101 (by decide) ?_
              refine lv_icmp_ge (tgt := 124) hx hb dX8_shareGap_103 (by decide) (fun hc => ?_) (fun hc => ?_)
              · replace hF := q_t hc hF
                exact JX8_SHAREGAP_124 T_track_1 (upd T_used_1 p0.toNatClampNeg (if (T_used_1 p0.toNatClampNeg) < (u3 + 1) then (u3 + 1) else (T_used_1 p0.toNatClampNeg))) (upd T_trackEnd_1 u3.toNatClampNeg (T_right x3_1.toNatClampNeg)) x3_1 hF H locs ls hP hD hS (lv_sub hl [0, 1, 2, 3] rfl)
              · replace hF := q_f hc hF
                refine lv_aload_n hx hb dX8_shareGap_106 rfl (lv_at hl 0 rfl) ?_
                refine q_get (ci := 8) (C := RX8) (T := TX8) (N := 8) hx hb hts eX8_shareGap_X8 hown hK hP 0 rfl rfl 2 (Nat.le_of_ble_eq_true rfl) k9 rfl rfl dX8_shareGap_107 ?_
                refine lv_iload_n hx hb dX8_shareGap_110 rfl (lv_at hl 1 rfl) ?_
                refine lv_bipush (v := 24) hx hb dX8_shareGap_111 (by decide) ?_
                refine lv_imul hx hb dX8_shareGap_113 ?_
                refine lv_aload_n hx hb dX8_shareGap_114 rfl (lv_at hl 0 rfl) ?_
                refine q_get (ci := 8) (C := RX8) (T := TX8) (N := 8) hx hb hts eX8_shareGap_X8 hown hK hP 0 rfl rfl 6 (Nat.le_of_ble_eq_true rfl) k8 rfl rfl dX8_shareGap_115 ?_
                refine lv_iload_n hx hb dX8_shareGap_118 rfl (lv_at hl 3 rfl) ?_
                obtain ⟨hn13, hF⟩ := q_ck hF
                refine va_iald hx hb hK hP 5 0 rfl rfl hn13 dX8_shareGap_119 ?_
                refine lv_iadd hx hb dX8_shareGap_120 ?_
                refine lv_iload hx hb dX8_shareGap_121 (lv_at hl 4 rfl) ?_
                obtain ⟨hn14, hF⟩ := q_ck hF
                refine q_iast hx hb hK hP hD hS 1 0 (iX8_shareGap aS cI cZ (upd T_track_1 ((p0 * 24) + (T_arrows x3_1.toNatClampNeg)).toNatClampNeg u3) (upd T_used_1 p0.toNatClampNeg (if (T_used_1 p0.toNatClampNeg) < (u3 + 1) then (u3 + 1) else (T_used_1 p0.toNatClampNeg))) T_left T_right T_arrows (upd T_trackEnd_1 u3.toNatClampNeg (T_right x3_1.toNatClampNeg))) rfl rfl hn14 rfl dX8_shareGap_123 (fun H locs hP hD hS => ?_)
                exact JX8_SHAREGAP_124 (upd T_track_1 ((p0 * 24) + (T_arrows x3_1.toNatClampNeg)).toNatClampNeg u3) (upd T_used_1 p0.toNatClampNeg (if (T_used_1 p0.toNatClampNeg) < (u3 + 1) then (u3 + 1) else (T_used_1 p0.toNatClampNeg))) (upd T_trackEnd_1 u3.toNatClampNeg (T_right x3_1.toNatClampNeg)) x3_1 hF H locs ls hP hD hS (lv_sub hl [0, 1, 2, 3] rfl)
          have L3 : ∀ st : Int32, q_lo (fun (st : Int32) => bX8_shareGap_21 T_used_1 T_left T_trackEnd_1 p0 x3_1 st) st = some q3 → ∀ (H : Heap) (locs : List Loc) (ls : Array Slot), va_P (dC, dI) vwCl (iX8_shareGap aS cI cZ T_track_1 T_used_1 T_left T_right T_arrows T_trackEnd_1) H → va_D A (iX8_shareGap aS cI cZ T_track_1 T_used_1 T_left T_right T_arrows T_trackEnd_1) → va_S A s.heap H locs → lv_has ls 5 [(0, .ref (aS 40)), (1, .int p0), (2, .int p1), (3, .int x3_1), (4, .int st)] → W p l e (headSpec wsX8_shareGap (rX8_shareGap)).room s m args below meth c H locs 0 0 Q (F0 m 21 ls []) := by
            intro st hst
            refine q_walk (Wh := fun st : Int32 => ∀ (H : Heap) (locs : List Loc) (ls : Array Slot), va_P (dC, dI) vwCl (iX8_shareGap aS cI cZ T_track_1 T_used_1 T_left T_right T_arrows T_trackEnd_1) H → va_D A (iX8_shareGap aS cI cZ T_track_1 T_used_1 T_left T_right T_arrows T_trackEnd_1) → va_S A s.heap H locs → lv_has ls 5 [(0, .ref (aS 40)), (1, .int p0), (2, .int p1), (3, .int x3_1), (4, .int st)] → W p l e (headSpec wsX8_shareGap (rX8_shareGap)).room s m args below meth c H locs 0 0 Q (F0 m 21 ls [])) ?_ st hst
            clear hst st hF
            intro x4_3 o hF hin hex H locs ls hP hD hS hl
            replace hF : bX8_shareGap_21 T_used_1 T_left T_trackEnd_1 p0 x3_1 x4_3 = some o := hF
            replace hP : va_P (dC, dI) vwCl (iX8_shareGap aS cI cZ T_track_1 T_used_1 T_left T_right T_arrows T_trackEnd_1) H := hP
            replace hD : va_D A (iX8_shareGap aS cI cZ T_track_1 T_used_1 T_left T_right T_arrows T_trackEnd_1) := hD
            replace hl : lv_has ls 5 [(0, .ref (aS 40)), (1, .int p0), (2, .int p1), (3, .int x3_1), (4, .int x4_3)] := hl
            unfold bX8_shareGap_21 at hF
            refine lv_iload hx hb dX8_shareGap_21 (lv_at hl 4 rfl) ?_
            refine lv_aload_n hx hb dX8_shareGap_23 rfl (lv_at hl 0 rfl) ?_
            refine q_get (ci := 8) (C := RX8) (T := TX8) (N := 8) hx hb hts eX8_shareGap_X8 hown hK hP 0 rfl rfl 3 (Nat.le_of_ble_eq_true rfl) k0 rfl rfl dX8_shareGap_24 ?_
            refine lv_iload_n hx hb dX8_shareGap_27 rfl (lv_at hl 1 rfl) ?_
            obtain ⟨hn4, hF⟩ := q_ck hF
            refine va_iald hx hb hK hP 2 0 rfl rfl hn4 dX8_shareGap_28 ?_
            refine lv_icmp_ge (tgt := 54) hx hb dX8_shareGap_29 (by decide) (fun hc => ?_) (fun hc => ?_)
            · replace hF := q_t hc hF
              exact X3 _ (hex _ (Option.some.inj hF).symm) H locs ls hP hD hS (lv_sub hl [0, 1, 2, 3, 4] rfl)
            · replace hF := q_f hc hF
              refine lv_aload_n hx hb dX8_shareGap_32 rfl (lv_at hl 0 rfl) ?_
              refine q_get (ci := 8) (C := RX8) (T := TX8) (N := 8) hx hb hts eX8_shareGap_X8 hown hK hP 0 rfl rfl 7 (Nat.le_of_ble_eq_true rfl) k1 rfl rfl dX8_shareGap_33 ?_
              refine lv_iload hx hb dX8_shareGap_36 (lv_at hl 4 rfl) ?_
              obtain ⟨hn5, hF⟩ := q_ck hF
              refine va_iald hx hb hK hP 6 0 rfl rfl hn5 dX8_shareGap_38 ?_
              refine lv_aload_n hx hb dX8_shareGap_39 rfl (lv_at hl 0 rfl) ?_
              refine q_get (ci := 8) (C := RX8) (T := TX8) (N := 8) hx hb hts eX8_shareGap_X8 hown hK hP 0 rfl rfl 4 (Nat.le_of_ble_eq_true rfl) k2 rfl rfl dX8_shareGap_40 ?_
              refine lv_iload_n hx hb dX8_shareGap_43 rfl (lv_at hl 3 rfl) ?_
              obtain ⟨hn6, hF⟩ := q_ck hF
              refine va_iald hx hb hK hP 3 0 rfl rfl hn6 dX8_shareGap_44 ?_
              refine lv_icmp_lt (tgt := 54) hx hb dX8_shareGap_45 (by decide) (fun hc => ?_) (fun hc => ?_)
              · replace hF := q_t hc hF
                exact X3 _ (hex _ (Option.some.inj hF).symm) H locs ls hP hD hS (lv_sub hl [0, 1, 2, 3, 4] rfl)
              · replace hF := q_f hc hF
                refine lv_iinc (v := (x4_3 + 1)) (lv' := [(4, .int (x4_3 + 1)), (0, .ref (aS 40)), (1, .int p0), (2, .int p1), (3, .int x3_1)]) hx hb dX8_shareGap_48 hl (k := 4) rfl rfl (by decide) rfl (fun ls hl => ?_)
                refine lv_goto (tgt := 21) hx hb dX8_shareGap_51 (by decide) ?_
                exact hin _ (Option.some.inj hF).symm H locs ls hP hD hS (lv_sub hl [1, 2, 3, 4, 0] rfl)
          exact L3 0 hc3 H locs ls hP hD hS (lv_sub hl [1, 2, 3, 4, 0] rfl)
      exact L1 (0, T_track, T_used, T_trackEnd) hc1 H locs ls hP hD hS (lv_sub hl [1, 2, 3, 0] rfl)
    · replace hF := q_f hc hF
      exact hret H locs ls 10 _ dX8_shareGap_10 (congrArg (fun z : (Nat → Int32) × (Nat → Int32) × (Nat → Int32) => (iX8_shareGap aS cI cZ z.1 z.2.1 T_left T_right T_arrows z.2.2)) (Option.some.inj hF)) hP hD hS
