/-! Written by wip/whole/gen.py: walks of X9_takeFresh, X9_takeKept, J6_compare_7cf53, X7_hasArrow, X7_arrows, X7_hasBox, X7_boxes, X7_isPinned, X7_isTurned, X7_reaches, X7_keepArrow, X7_lowerBox, X7_pinBox, X7_pinOf, X7_turnArrows, X7_putArrow. -/
abbrev iX9_takeFresh (aS aL aF aK : Nat → Nat) (cI cZ : ClassId) (M_told : Int32) : va_W := [((aS 47), .inr (9, [.ref (aS 0), .ref (aS 7), .ref (aS 11), .ref (aS 16), .ref (aS 19), .ref (aS 36), .ref (aS 40), .ref (aL 0), .ref (aF 0), .ref (aK 0), .int M_told]))]
abbrev rX9_takeFresh : Room := { frames := 0, cells := 0, slots := 0, locals := 0 }
theorem eX9_takeFresh_X9 : ∀ w ∈ u_ws RX9 TX9 11, w ∈ wsX9_takeFresh := by decide +kernel
theorem uX9_takeFresh : yX9_takeFresh.cls = RX9 ∧ yX9_takeFresh.cls ≠ "java/lang/invoke/MethodHandle" ∧ yX9_takeFresh.cls ≠ "java/lang/invoke/VarHandle" ∧ (parseMethodDescriptor yX9_takeFresh.desc).map (fun d => d.parameters.length) = some 0 := by decide +kernel
set_option maxHeartbeats 4000000 in
set_option maxRecDepth 100000 in
theorem tX9_takeFresh (l : Launch) (dC : Nat → ClassId) (dI : Nat → Nat → Nat) (cI cZ : ClassId) (aS aL aF aK : Nat → Nat) (sz : Nat) (M_told : Int32) : q_Mv l yX9_takeFresh wsX9_takeFresh rX9_takeFresh (dC, dI) (q_ty cI cZ) [.ref (aS 47)] (iX9_takeFresh aS aL aF aK cI cZ M_told) (iX9_takeFresh aS aF aL aK cI cZ M_told) sz := by
  refine q_metv (cc := cX9_takeFresh) (maxL := 2) (by decide) rfl (Nat.le_of_ble_eq_true rfl) ?_
  intro p e s m args below meth c Q A H locs ls C hP hD hS hl hret
  obtain ⟨hx, hb, hml, hown, hts, hA, hK⟩ := C
  replace hl : lv_has ls 2 [(0, .ref (aS 47))] := hl
  refine lv_aload_n hx hb dX9_takeFresh_0 rfl (lv_at hl 0 rfl) ?_
  refine q_get (ci := 9) (C := RX9) (T := TX9) (N := 11) hx hb hts eX9_takeFresh_X9 hown hK hP 0 rfl rfl 7 (Nat.le_of_ble_eq_true rfl) (hts (.fieldLink RX9 71 "RouteLayout" "latest" "LRouteLayout$Order;") (by decide +kernel)) rfl rfl dX9_takeFresh_1 ?_
  refine lv_astore_n (lv' := [(1, .ref (aL 0)), (0, .ref (aS 47))]) hx hb dX9_takeFresh_4 rfl hl (by decide) rfl (fun ls hl => ?_)
  refine lv_aload_n hx hb dX9_takeFresh_5 rfl (lv_at hl 1 rfl) ?_
  refine lv_aload_n hx hb dX9_takeFresh_6 rfl (lv_at hl 1 rfl) ?_
  refine q_get (ci := 9) (C := RX9) (T := TX9) (N := 11) hx hb hts eX9_takeFresh_X9 hown hK hP 0 rfl rfl 8 (Nat.le_of_ble_eq_true rfl) (hts (.fieldLink RX9 75 "RouteLayout" "fresh" "LRouteLayout$Order;") (by decide +kernel)) rfl rfl dX9_takeFresh_7 ?_
  refine q_put (ci := 9) (C := RX9) (T := TX9) (N := 11) (ty := .object "RouteLayout$Order") hx hb hts eX9_takeFresh_X9 tyX9 tyX9_ok nmX9 hown hK hP hD hS 0 (iX9_takeFresh aS aF aF aK cI cZ M_told) rfl rfl 7 (Nat.le_of_ble_eq_true rfl) (hts (.fieldLink RX9 71 "RouteLayout" "latest" "LRouteLayout$Order;") (by decide +kernel)) rfl rfl (by decide +kernel) rfl rfl (Nat.le_of_ble_eq_true rfl) rfl dX9_takeFresh_10 (fun H locs hP hD hS => ?_)
  refine lv_aload_n hx hb dX9_takeFresh_13 rfl (lv_at hl 1 rfl) ?_
  refine lv_aload_n hx hb dX9_takeFresh_14 rfl (lv_at hl 0 rfl) ?_
  refine q_put (ci := 9) (C := RX9) (T := TX9) (N := 11) (ty := .object "RouteLayout$Order") hx hb hts eX9_takeFresh_X9 tyX9 tyX9_ok nmX9 hown hK hP hD hS 0 (iX9_takeFresh aS aF aL aK cI cZ M_told) rfl rfl 8 (Nat.le_of_ble_eq_true rfl) (hts (.fieldLink RX9 75 "RouteLayout" "fresh" "LRouteLayout$Order;") (by decide +kernel)) rfl rfl (by decide +kernel) rfl rfl (Nat.le_of_ble_eq_true rfl) rfl dX9_takeFresh_15 (fun H locs hP hD hS => ?_)
  exact hret H locs ls 18 _ dX9_takeFresh_18 rfl hP hD hS
abbrev iX9_takeKept (aS aL aF aK : Nat → Nat) (cI cZ : ClassId) (M_told : Int32) : va_W := [((aS 47), .inr (9, [.ref (aS 0), .ref (aS 7), .ref (aS 11), .ref (aS 16), .ref (aS 19), .ref (aS 36), .ref (aS 40), .ref (aL 0), .ref (aF 0), .ref (aK 0), .int M_told]))]
abbrev rX9_takeKept : Room := { frames := 0, cells := 0, slots := 0, locals := 0 }
theorem eX9_takeKept_X9 : ∀ w ∈ u_ws RX9 TX9 11, w ∈ wsX9_takeKept := by decide +kernel
theorem uX9_takeKept : yX9_takeKept.cls = RX9 ∧ yX9_takeKept.cls ≠ "java/lang/invoke/MethodHandle" ∧ yX9_takeKept.cls ≠ "java/lang/invoke/VarHandle" ∧ (parseMethodDescriptor yX9_takeKept.desc).map (fun d => d.parameters.length) = some 0 := by decide +kernel
set_option maxHeartbeats 4000000 in
set_option maxRecDepth 100000 in
theorem tX9_takeKept (l : Launch) (dC : Nat → ClassId) (dI : Nat → Nat → Nat) (cI cZ : ClassId) (aS aL aF aK : Nat → Nat) (sz : Nat) (M_told : Int32) : q_Mv l yX9_takeKept wsX9_takeKept rX9_takeKept (dC, dI) (q_ty cI cZ) [.ref (aS 47)] (iX9_takeKept aS aL aF aK cI cZ M_told) (iX9_takeKept aS aK aF aL cI cZ M_told) sz := by
  refine q_metv (cc := cX9_takeKept) (maxL := 2) (by decide) rfl (Nat.le_of_ble_eq_true rfl) ?_
  intro p e s m args below meth c Q A H locs ls C hP hD hS hl hret
  obtain ⟨hx, hb, hml, hown, hts, hA, hK⟩ := C
  replace hl : lv_has ls 2 [(0, .ref (aS 47))] := hl
  refine lv_aload_n hx hb dX9_takeKept_0 rfl (lv_at hl 0 rfl) ?_
  refine q_get (ci := 9) (C := RX9) (T := TX9) (N := 11) hx hb hts eX9_takeKept_X9 hown hK hP 0 rfl rfl 7 (Nat.le_of_ble_eq_true rfl) (hts (.fieldLink RX9 71 "RouteLayout" "latest" "LRouteLayout$Order;") (by decide +kernel)) rfl rfl dX9_takeKept_1 ?_
  refine lv_astore_n (lv' := [(1, .ref (aL 0)), (0, .ref (aS 47))]) hx hb dX9_takeKept_4 rfl hl (by decide) rfl (fun ls hl => ?_)
  refine lv_aload_n hx hb dX9_takeKept_5 rfl (lv_at hl 1 rfl) ?_
  refine lv_aload_n hx hb dX9_takeKept_6 rfl (lv_at hl 1 rfl) ?_
  refine q_get (ci := 9) (C := RX9) (T := TX9) (N := 11) hx hb hts eX9_takeKept_X9 hown hK hP 0 rfl rfl 9 (Nat.le_of_ble_eq_true rfl) (hts (.fieldLink RX9 78 "RouteLayout" "kept" "LRouteLayout$Order;") (by decide +kernel)) rfl rfl dX9_takeKept_7 ?_
  refine q_put (ci := 9) (C := RX9) (T := TX9) (N := 11) (ty := .object "RouteLayout$Order") hx hb hts eX9_takeKept_X9 tyX9 tyX9_ok nmX9 hown hK hP hD hS 0 (iX9_takeKept aS aK aF aK cI cZ M_told) rfl rfl 7 (Nat.le_of_ble_eq_true rfl) (hts (.fieldLink RX9 71 "RouteLayout" "latest" "LRouteLayout$Order;") (by decide +kernel)) rfl rfl (by decide +kernel) rfl rfl (Nat.le_of_ble_eq_true rfl) rfl dX9_takeKept_10 (fun H locs hP hD hS => ?_)
  refine lv_aload_n hx hb dX9_takeKept_13 rfl (lv_at hl 1 rfl) ?_
  refine lv_aload_n hx hb dX9_takeKept_14 rfl (lv_at hl 0 rfl) ?_
  refine q_put (ci := 9) (C := RX9) (T := TX9) (N := 11) (ty := .object "RouteLayout$Order") hx hb hts eX9_takeKept_X9 tyX9 tyX9_ok nmX9 hown hK hP hD hS 0 (iX9_takeKept aS aK aF aL cI cZ M_told) rfl rfl 9 (Nat.le_of_ble_eq_true rfl) (hts (.fieldLink RX9 78 "RouteLayout" "kept" "LRouteLayout$Order;") (by decide +kernel)) rfl rfl (by decide +kernel) rfl rfl (Nat.le_of_ble_eq_true rfl) rfl dX9_takeKept_15 (fun H locs hP hD hS => ?_)
  exact hret H locs ls 18 _ dX9_takeKept_18 rfl hP hD hS
abbrev rJ6_compare_7cf53 : Room := { frames := 0, cells := 0, slots := 0, locals := 0 }
theorem uJ6_compare_7cf53 : yJ6_compare_7cf53.cls ≠ "java/lang/invoke/MethodHandle" ∧ yJ6_compare_7cf53.cls ≠ "java/lang/invoke/VarHandle" ∧ (parseMethodDescriptor yJ6_compare_7cf53.desc).map (fun d => d.parameters.length) = some 2 := by decide +kernel
set_option maxHeartbeats 4000000 in
set_option maxRecDepth 100000 in
theorem tJ6_compare_7cf53 (l : Launch) (dC : Nat → ClassId) (dI : Nat → Nat → Nat) (cI cZ : ClassId) (sz : Nat) (p0 : Int32) (p1 : Int32) (res : Int32) (hF : fJ6_compare_7cf53 p0 p1 = some res) : q_Mi l yJ6_compare_7cf53 wsJ6_compare_7cf53 rJ6_compare_7cf53 (dC, dI) (q_ty cI cZ) [.int p0, .int p1] (iJ6_compare_7cf53 cI cZ) (iJ6_compare_7cf53 cI cZ) sz res := by
  refine q_meti (cc := cJ6_compare_7cf53) (maxL := 2) (by decide) rfl (Nat.le_of_ble_eq_true rfl) ?_
  intro p e s m args below meth c Q A H locs ls C hP hD hS hl hret
  obtain ⟨hx, hb, hml, hown, hts, hA, hK⟩ := C
  replace hl : lv_has ls 2 [(0, .int p0), (1, .int p1)] := hl
  unfold fJ6_compare_7cf53 at hF
  refine lv_iload_n hx hb dJ6_compare_7cf53_0 rfl (lv_at hl 0 rfl) ?_
  refine lv_iload_n hx hb dJ6_compare_7cf53_1 rfl (lv_at hl 1 rfl) ?_
  refine lv_icmp_ge (tgt := 9) hx hb dJ6_compare_7cf53_2 (by decide) (fun hc => ?_) (fun hc => ?_)
  · replace hF := q_t hc hF
    refine lv_iload_n hx hb dJ6_compare_7cf53_9 rfl (lv_at hl 0 rfl) ?_
    refine lv_iload_n hx hb dJ6_compare_7cf53_10 rfl (lv_at hl 1 rfl) ?_
    refine lv_icmp_ne (tgt := 18) hx hb dJ6_compare_7cf53_11 (by decide) (fun hc => ?_) (fun hc => ?_)
    · replace hF := q_f hc hF
      refine lv_iconst (v := 1) hx hb dJ6_compare_7cf53_18 (by decide) ?_
      exact hret H locs ls 19 _ _ dJ6_compare_7cf53_19 (Option.some.inj hF) rfl hP hD hS
    · replace hF := q_t hc hF
      refine lv_iconst (v := 0) hx hb dJ6_compare_7cf53_14 (by decide) ?_
      refine lv_goto (tgt := 19) hx hb dJ6_compare_7cf53_15 (by decide) ?_
      exact hret H locs ls 19 _ _ dJ6_compare_7cf53_19 (Option.some.inj hF) rfl hP hD hS
  · replace hF := q_f hc hF
    refine lv_iconst (v := (-1)) hx hb dJ6_compare_7cf53_5 (by decide) ?_
    refine lv_goto (tgt := 19) hx hb dJ6_compare_7cf53_6 (by decide) ?_
    exact hret H locs ls 19 _ _ dJ6_compare_7cf53_19 (Option.some.inj hF) rfl hP hD hS
abbrev rX7_hasArrow : Room := { frames := 0, cells := 0, slots := 0, locals := 0 }
theorem eX7_hasArrow_X7 : ∀ w ∈ u_ws RX7 TX7 6, w ∈ wsX7_hasArrow := by decide +kernel
theorem uX7_hasArrow : yX7_hasArrow.cls = RX7 ∧ yX7_hasArrow.cls ≠ "java/lang/invoke/MethodHandle" ∧ yX7_hasArrow.cls ≠ "java/lang/invoke/VarHandle" ∧ (parseMethodDescriptor yX7_hasArrow.desc).map (fun d => d.parameters.length) = some 1 := by decide +kernel
set_option maxHeartbeats 4000000 in
set_option maxRecDepth 100000 in
theorem tX7_hasArrow (l : Launch) (dC : Nat → ClassId) (dI : Nat → Nat → Nat) (cI cZ : ClassId) (aS : Nat → Nat) (sz : Nat) (R_from : Nat → Int32) (p0 : Int32) (res : Int32) (hF : fX7_hasArrow R_from p0 = some res) : q_Mi l yX7_hasArrow wsX7_hasArrow rX7_hasArrow (dC, dI) (q_ty cI cZ) [.ref (aS 0), .int p0] (iX7_hasArrow aS cI cZ R_from) (iX7_hasArrow aS cI cZ R_from) sz res := by
  refine q_metz (cc := cX7_hasArrow) (maxL := 2) (by decide) rfl (Nat.le_of_ble_eq_true rfl) ?_
  intro p e s m args below meth c Q A H locs ls C hP hD hS hl hret
  obtain ⟨hx, hb, hml, hown, hts, hA, hK⟩ := C
  replace hl : lv_has ls 2 [(0, .ref (aS 0)), (1, .int p0)] := hl
  have k0 := hts (.fieldLink RX7 18 "RouteLayout$Routes" "from" "[I") (by decide +kernel)
  unfold fX7_hasArrow at hF
  refine lv_iload_n hx hb dX7_hasArrow_0 rfl (lv_at hl 1 rfl) ?_
  refine lv_if_lt (tgt := 24) hx hb dX7_hasArrow_1 (by decide) (fun hc => ?_) (fun hc => ?_)
  · replace hF := q_t hc hF
    refine lv_iconst (v := 0) hx hb dX7_hasArrow_24 (by decide) ?_
    exact hret H locs ls 25 _ _ dX7_hasArrow_25 (Or.inl rfl) (Option.some.inj hF) rfl hP hD hS
  · replace hF := q_f hc hF
    refine lv_iload_n hx hb dX7_hasArrow_4 rfl (lv_at hl 1 rfl) ?_
    refine lv_bipush (v := 24) hx hb dX7_hasArrow_5 (by decide) ?_
    refine lv_icmp_ge (tgt := 24) hx hb dX7_hasArrow_7 (by decide) (fun hc => ?_) (fun hc => ?_)
    · replace hF := q_t hc hF
      refine lv_iconst (v := 0) hx hb dX7_hasArrow_24 (by decide) ?_
      exact hret H locs ls 25 _ _ dX7_hasArrow_25 (Or.inl rfl) (Option.some.inj hF) rfl hP hD hS
    · replace hF := q_f hc hF
      refine lv_aload_n hx hb dX7_hasArrow_10 rfl (lv_at hl 0 rfl) ?_
      refine q_get (ci := 7) (C := RX7) (T := TX7) (N := 6) hx hb hts eX7_hasArrow_X7 hown hK hP 0 rfl rfl 2 (Nat.le_of_ble_eq_true rfl) k0 rfl rfl dX7_hasArrow_11 ?_
      refine lv_iload_n hx hb dX7_hasArrow_14 rfl (lv_at hl 1 rfl) ?_
      obtain ⟨hn1, hF⟩ := q_ck hF
      refine va_iald hx hb hK hP 1 0 rfl rfl hn1 dX7_hasArrow_15 ?_
      refine lv_iconst (v := (-1)) hx hb dX7_hasArrow_16 (by decide) ?_
      refine lv_icmp_eq (tgt := 24) hx hb dX7_hasArrow_17 (by decide) (fun hc => ?_) (fun hc => ?_)
      · replace hF := q_t hc hF
        refine lv_iconst (v := 0) hx hb dX7_hasArrow_24 (by decide) ?_
        exact hret H locs ls 25 _ _ dX7_hasArrow_25 (Or.inl rfl) (Option.some.inj hF) rfl hP hD hS
      · replace hF := q_f hc hF
        refine lv_iconst (v := 1) hx hb dX7_hasArrow_20 (by decide) ?_
        refine lv_goto (tgt := 25) hx hb dX7_hasArrow_21 (by decide) ?_
        exact hret H locs ls 25 _ _ dX7_hasArrow_25 (Or.inr rfl) (Option.some.inj hF) rfl hP hD hS
abbrev rX7_arrows : Room := { frames := 1, cells := 0, slots := 0, locals := 21 }
theorem uX7_arrows : yX7_arrows.cls = RX7 ∧ yX7_arrows.cls ≠ "java/lang/invoke/MethodHandle" ∧ yX7_arrows.cls ≠ "java/lang/invoke/VarHandle" ∧ (parseMethodDescriptor yX7_arrows.desc).map (fun d => d.parameters.length) = some 0 := by decide +kernel
set_option maxHeartbeats 4000000 in
set_option maxRecDepth 100000 in
theorem tX7_arrows (l : Launch) (dC : Nat → ClassId) (dI : Nat → Nat → Nat) (cI cZ : ClassId) (aS : Nat → Nat) (sz : Nat) (R_from : Nat → Int32) (res : Int32) (hF : fX7_arrows R_from = some res) : q_Mi l yX7_arrows wsX7_arrows rX7_arrows (dC, dI) (q_ty cI cZ) [.ref (aS 0)] (iX7_arrows aS cI cZ R_from) (iX7_arrows aS cI cZ R_from) sz res := by
  refine q_meti (cc := cX7_arrows) (maxL := 3) (by decide) rfl (Nat.le_of_ble_eq_true rfl) ?_
  intro p e s m args below meth c Q A H locs ls C hP hD hS hl hret
  obtain ⟨hx, hb, hml, hown, hts, hA, hK⟩ := C
  replace hl : lv_has ls 3 [(0, .ref (aS 0))] := hl
  unfold fX7_arrows at hF
  refine lv_iconst (v := 0) hx hb dX7_arrows_0 (by decide) ?_
  refine lv_istore_n (lv' := [(1, .int 0), (0, .ref (aS 0))]) hx hb dX7_arrows_1 rfl hl (by decide) rfl (fun ls hl => ?_)
  refine lv_iconst (v := 0) hx hb dX7_arrows_2 (by decide) ?_
  refine lv_istore_n (lv' := [(2, .int 0), (1, .int 0), (0, .ref (aS 0))]) hx hb dX7_arrows_3 rfl hl (by decide) rfl (fun ls hl => ?_)
  obtain ⟨q1, hc1, hF⟩ := q_bd hF
  have X1 : ∀ (u1 : Int32), u1 = q1 → ∀ (H : Heap) (locs : List Loc) (ls : Array Slot), va_P (dC, dI) vwCl (iX7_arrows aS cI cZ R_from) H → va_D A (iX7_arrows aS cI cZ R_from) → va_S A s.heap H locs → lv_has ls 3 [(1, .int u1)] → W p l e (headSpec wsX7_arrows (rX7_arrows)).room s m args below meth c H locs 0 0 Q (F0 m 27 ls []) := by
    intro u1 hu H locs ls hP hD hS hl
    subst hu
    refine lv_iload_n hx hb dX7_arrows_27 rfl (lv_at hl 0 rfl) ?_
    exact hret H locs ls 28 _ _ dX7_arrows_28 (Option.some.inj hF) rfl hP hD hS
  have L1 : ∀ st : Int32 × Int32, q_lo (fun (st : Int32 × Int32) => bX7_arrows_4 R_from st.1 st.2) st = some q1 → ∀ (H : Heap) (locs : List Loc) (ls : Array Slot), va_P (dC, dI) vwCl (iX7_arrows aS cI cZ R_from) H → va_D A (iX7_arrows aS cI cZ R_from) → va_S A s.heap H locs → lv_has ls 3 [(0, .ref (aS 0)), (1, .int st.1), (2, .int st.2)] → W p l e (headSpec wsX7_arrows (rX7_arrows)).room s m args below meth c H locs 0 0 Q (F0 m 4 ls []) := by
    intro st hst
    refine q_walk (Wh := fun st : Int32 × Int32 => ∀ (H : Heap) (locs : List Loc) (ls : Array Slot), va_P (dC, dI) vwCl (iX7_arrows aS cI cZ R_from) H → va_D A (iX7_arrows aS cI cZ R_from) → va_S A s.heap H locs → lv_has ls 3 [(0, .ref (aS 0)), (1, .int st.1), (2, .int st.2)] → W p l e (headSpec wsX7_arrows (rX7_arrows)).room s m args below meth c H locs 0 0 Q (F0 m 4 ls [])) ?_ st hst
    clear hst st hF
    intro st o hF hin hex H locs ls hP hD hS hl
    obtain ⟨x1_1, x2_1⟩ := st
    replace hF : bX7_arrows_4 R_from x1_1 x2_1 = some o := hF
    replace hP : va_P (dC, dI) vwCl (iX7_arrows aS cI cZ R_from) H := hP
    replace hD : va_D A (iX7_arrows aS cI cZ R_from) := hD
    replace hl : lv_has ls 3 [(0, .ref (aS 0)), (1, .int x1_1), (2, .int x2_1)] := hl
    unfold bX7_arrows_4 at hF
    have JX7_ARROWS_21 : ∀ (x1_2 : Int32) (x2_2 : Int32), jX7_arrows_21 x1_2 x2_2 = some o → ∀ (H : Heap) (locs : List Loc) (ls : Array Slot), va_P (dC, dI) vwCl (iX7_arrows aS cI cZ R_from) H → va_D A (iX7_arrows aS cI cZ R_from) → va_S A s.heap H locs → lv_has ls 3 [(0, .ref (aS 0)), (1, .int x1_2), (2, .int x2_2)] → W p l e (headSpec wsX7_arrows (rX7_arrows)).room s m args below meth c H locs 0 0 Q (F0 m 21 ls []) := by
      intro x1_2 x2_2 hF H locs ls hP hD hS hl
      unfold jX7_arrows_21 at hF
      refine lv_iinc (v := (x2_2 + 1)) (lv' := [(2, .int (x2_2 + 1)), (0, .ref (aS 0)), (1, .int x1_2)]) hx hb dX7_arrows_21 hl (k := 2) rfl rfl (by decide) rfl (fun ls hl => ?_)
      refine lv_goto (tgt := 4) hx hb dX7_arrows_24 (by decide) ?_
      exact hin _ (Option.some.inj hF).symm H locs ls hP hD hS (lv_sub hl [1, 2, 0] rfl)
    refine lv_iload_n hx hb dX7_arrows_4 rfl (lv_at hl 2 rfl) ?_
    refine lv_bipush (v := 24) hx hb dX7_arrows_5 (by decide) ?_
    refine lv_icmp_ge (tgt := 27) hx hb dX7_arrows_7 (by decide) (fun hc => ?_) (fun hc => ?_)
    · replace hF := q_t hc hF
      exact X1 _ (hex _ (Option.some.inj hF).symm) H locs ls hP hD hS (lv_sub hl [1] rfl)
    · replace hF := q_f hc hF
      refine lv_aload_n hx hb dX7_arrows_10 rfl (lv_at hl 0 rfl) ?_
      refine lv_iload_n hx hb dX7_arrows_11 rfl (lv_at hl 2 rfl) ?_
      obtain ⟨q3, hcq3, hF⟩ := q_bd hF
      refine q_Vi (As := [.int x2_1]) (rest := []) ⟨hx, hb, hml, hown, hts⟩ hA hK hP hD hS (tX7_hasArrow l dC dI cI cZ aS H.size R_from x2_1 q3 hcq3) (cwV 1 hts gX7_arrows_X7_hasArrow rfl rfl rfl uX7_hasArrow ⟨Nat.le_of_ble_eq_true rfl, Nat.le_of_ble_eq_true rfl⟩) [0, 1] [(true, 0), (true, 1)] (iX7_arrows aS cI cZ R_from) rfl rfl rfl rfl rfl 7 0 rfl rfl rfl rfl hl.1 rfl (Nat.le_of_ble_eq_true rfl) dX7_arrows_12 ⟨Nat.zero_le _, Nat.zero_le _⟩ (fun H locs hP hD hS => ?_)
      refine lv_if_eq (tgt := 21) hx hb dX7_arrows_15 (by decide) (fun hc => ?_) (fun hc => ?_)
      · replace hF := q_t hc hF
        exact JX7_ARROWS_21 x1_1 x2_1 hF H locs ls hP hD hS (lv_sub hl [0, 1, 2] rfl)
      · replace hF := q_f hc hF
        refine lv_iinc (v := (x1_1 + 1)) (lv' := [(1, .int (x1_1 + 1)), (0, .ref (aS 0)), (2, .int x2_1)]) hx hb dX7_arrows_18 hl (k := 1) rfl rfl (by decide) rfl (fun ls hl => ?_)
        exact JX7_ARROWS_21 (x1_1 + 1) x2_1 hF H locs ls hP hD hS (lv_sub hl [1, 0, 2] rfl)
  exact L1 (0, 0) hc1 H locs ls hP hD hS (lv_sub hl [2, 1, 0] rfl)
abbrev rX7_hasBox : Room := { frames := 0, cells := 0, slots := 0, locals := 0 }
theorem eX7_hasBox_X7 : ∀ w ∈ u_ws RX7 TX7 6, w ∈ wsX7_hasBox := by decide +kernel
theorem uX7_hasBox : yX7_hasBox.cls = RX7 ∧ yX7_hasBox.cls ≠ "java/lang/invoke/MethodHandle" ∧ yX7_hasBox.cls ≠ "java/lang/invoke/VarHandle" ∧ (parseMethodDescriptor yX7_hasBox.desc).map (fun d => d.parameters.length) = some 1 := by decide +kernel
set_option maxHeartbeats 4000000 in
set_option maxRecDepth 100000 in
theorem tX7_hasBox (l : Launch) (dC : Nat → ClassId) (dI : Nat → Nat → Nat) (cI cZ : ClassId) (aS : Nat → Nat) (sz : Nat) (R_width : Nat → Int32) (p0 : Int32) (res : Int32) (hF : fX7_hasBox R_width p0 = some res) : q_Mi l yX7_hasBox wsX7_hasBox rX7_hasBox (dC, dI) (q_ty cI cZ) [.ref (aS 0), .int p0] (iX7_hasBox aS cI cZ R_width) (iX7_hasBox aS cI cZ R_width) sz res := by
  refine q_metz (cc := cX7_hasBox) (maxL := 2) (by decide) rfl (Nat.le_of_ble_eq_true rfl) ?_
  intro p e s m args below meth c Q A H locs ls C hP hD hS hl hret
  obtain ⟨hx, hb, hml, hown, hts, hA, hK⟩ := C
  replace hl : lv_has ls 2 [(0, .ref (aS 0)), (1, .int p0)] := hl
  have k0 := hts (.fieldLink RX7 9 "RouteLayout$Routes" "width" "[I") (by decide +kernel)
  unfold fX7_hasBox at hF
  refine lv_iload_n hx hb dX7_hasBox_0 rfl (lv_at hl 1 rfl) ?_
  refine lv_if_lt (tgt := 23) hx hb dX7_hasBox_1 (by decide) (fun hc => ?_) (fun hc => ?_)
  · replace hF := q_t hc hF
    refine lv_iconst (v := 0) hx hb dX7_hasBox_23 (by decide) ?_
    exact hret H locs ls 24 _ _ dX7_hasBox_24 (Or.inl rfl) (Option.some.inj hF) rfl hP hD hS
  · replace hF := q_f hc hF
    refine lv_iload_n hx hb dX7_hasBox_4 rfl (lv_at hl 1 rfl) ?_
    refine lv_bipush (v := 16) hx hb dX7_hasBox_5 (by decide) ?_
    refine lv_icmp_ge (tgt := 23) hx hb dX7_hasBox_7 (by decide) (fun hc => ?_) (fun hc => ?_)
    · replace hF := q_t hc hF
      refine lv_iconst (v := 0) hx hb dX7_hasBox_23 (by decide) ?_
      exact hret H locs ls 24 _ _ dX7_hasBox_24 (Or.inl rfl) (Option.some.inj hF) rfl hP hD hS
    · replace hF := q_f hc hF
      refine lv_aload_n hx hb dX7_hasBox_10 rfl (lv_at hl 0 rfl) ?_
      refine q_get (ci := 7) (C := RX7) (T := TX7) (N := 6) hx hb hts eX7_hasBox_X7 hown hK hP 0 rfl rfl 0 (Nat.le_of_ble_eq_true rfl) k0 rfl rfl dX7_hasBox_11 ?_
      refine lv_iload_n hx hb dX7_hasBox_14 rfl (lv_at hl 1 rfl) ?_
      obtain ⟨hn1, hF⟩ := q_ck hF
      refine va_iald hx hb hK hP 1 0 rfl rfl hn1 dX7_hasBox_15 ?_
      refine lv_if_le (tgt := 23) hx hb dX7_hasBox_16 (by decide) (fun hc => ?_) (fun hc => ?_)
      · replace hF := q_t hc hF
        refine lv_iconst (v := 0) hx hb dX7_hasBox_23 (by decide) ?_
        exact hret H locs ls 24 _ _ dX7_hasBox_24 (Or.inl rfl) (Option.some.inj hF) rfl hP hD hS
      · replace hF := q_f hc hF
        refine lv_iconst (v := 1) hx hb dX7_hasBox_19 (by decide) ?_
        refine lv_goto (tgt := 24) hx hb dX7_hasBox_20 (by decide) ?_
        exact hret H locs ls 24 _ _ dX7_hasBox_24 (Or.inr rfl) (Option.some.inj hF) rfl hP hD hS
abbrev rX7_boxes : Room := { frames := 1, cells := 0, slots := 0, locals := 21 }
theorem uX7_boxes : yX7_boxes.cls = RX7 ∧ yX7_boxes.cls ≠ "java/lang/invoke/MethodHandle" ∧ yX7_boxes.cls ≠ "java/lang/invoke/VarHandle" ∧ (parseMethodDescriptor yX7_boxes.desc).map (fun d => d.parameters.length) = some 0 := by decide +kernel
set_option maxHeartbeats 4000000 in
set_option maxRecDepth 100000 in
theorem tX7_boxes (l : Launch) (dC : Nat → ClassId) (dI : Nat → Nat → Nat) (cI cZ : ClassId) (aS : Nat → Nat) (sz : Nat) (R_width : Nat → Int32) (res : Int32) (hF : fX7_boxes R_width = some res) : q_Mi l yX7_boxes wsX7_boxes rX7_boxes (dC, dI) (q_ty cI cZ) [.ref (aS 0)] (iX7_boxes aS cI cZ R_width) (iX7_boxes aS cI cZ R_width) sz res := by
  refine q_meti (cc := cX7_boxes) (maxL := 3) (by decide) rfl (Nat.le_of_ble_eq_true rfl) ?_
  intro p e s m args below meth c Q A H locs ls C hP hD hS hl hret
  obtain ⟨hx, hb, hml, hown, hts, hA, hK⟩ := C
  replace hl : lv_has ls 3 [(0, .ref (aS 0))] := hl
  unfold fX7_boxes at hF
  refine lv_iconst (v := 0) hx hb dX7_boxes_0 (by decide) ?_
  refine lv_istore_n (lv' := [(1, .int 0), (0, .ref (aS 0))]) hx hb dX7_boxes_1 rfl hl (by decide) rfl (fun ls hl => ?_)
  refine lv_iconst (v := 0) hx hb dX7_boxes_2 (by decide) ?_
  refine lv_istore_n (lv' := [(2, .int 0), (1, .int 0), (0, .ref (aS 0))]) hx hb dX7_boxes_3 rfl hl (by decide) rfl (fun ls hl => ?_)
  obtain ⟨q1, hc1, hF⟩ := q_bd hF
  have X1 : ∀ (u1 : Int32), u1 = q1 → ∀ (H : Heap) (locs : List Loc) (ls : Array Slot), va_P (dC, dI) vwCl (iX7_boxes aS cI cZ R_width) H → va_D A (iX7_boxes aS cI cZ R_width) → va_S A s.heap H locs → lv_has ls 3 [(1, .int u1)] → W p l e (headSpec wsX7_boxes (rX7_boxes)).room s m args below meth c H locs 0 0 Q (F0 m 27 ls []) := by
    intro u1 hu H locs ls hP hD hS hl
    subst hu
    refine lv_iload_n hx hb dX7_boxes_27 rfl (lv_at hl 0 rfl) ?_
    exact hret H locs ls 28 _ _ dX7_boxes_28 (Option.some.inj hF) rfl hP hD hS
  have L1 : ∀ st : Int32 × Int32, q_lo (fun (st : Int32 × Int32) => bX7_boxes_4 R_width st.1 st.2) st = some q1 → ∀ (H : Heap) (locs : List Loc) (ls : Array Slot), va_P (dC, dI) vwCl (iX7_boxes aS cI cZ R_width) H → va_D A (iX7_boxes aS cI cZ R_width) → va_S A s.heap H locs → lv_has ls 3 [(0, .ref (aS 0)), (1, .int st.1), (2, .int st.2)] → W p l e (headSpec wsX7_boxes (rX7_boxes)).room s m args below meth c H locs 0 0 Q (F0 m 4 ls []) := by
    intro st hst
    refine q_walk (Wh := fun st : Int32 × Int32 => ∀ (H : Heap) (locs : List Loc) (ls : Array Slot), va_P (dC, dI) vwCl (iX7_boxes aS cI cZ R_width) H → va_D A (iX7_boxes aS cI cZ R_width) → va_S A s.heap H locs → lv_has ls 3 [(0, .ref (aS 0)), (1, .int st.1), (2, .int st.2)] → W p l e (headSpec wsX7_boxes (rX7_boxes)).room s m args below meth c H locs 0 0 Q (F0 m 4 ls [])) ?_ st hst
    clear hst st hF
    intro st o hF hin hex H locs ls hP hD hS hl
    obtain ⟨x1_1, x2_1⟩ := st
    replace hF : bX7_boxes_4 R_width x1_1 x2_1 = some o := hF
    replace hP : va_P (dC, dI) vwCl (iX7_boxes aS cI cZ R_width) H := hP
    replace hD : va_D A (iX7_boxes aS cI cZ R_width) := hD
    replace hl : lv_has ls 3 [(0, .ref (aS 0)), (1, .int x1_1), (2, .int x2_1)] := hl
    unfold bX7_boxes_4 at hF
    have JX7_BOXES_21 : ∀ (x1_2 : Int32) (x2_2 : Int32), jX7_boxes_21 x1_2 x2_2 = some o → ∀ (H : Heap) (locs : List Loc) (ls : Array Slot), va_P (dC, dI) vwCl (iX7_boxes aS cI cZ R_width) H → va_D A (iX7_boxes aS cI cZ R_width) → va_S A s.heap H locs → lv_has ls 3 [(0, .ref (aS 0)), (1, .int x1_2), (2, .int x2_2)] → W p l e (headSpec wsX7_boxes (rX7_boxes)).room s m args below meth c H locs 0 0 Q (F0 m 21 ls []) := by
      intro x1_2 x2_2 hF H locs ls hP hD hS hl
      unfold jX7_boxes_21 at hF
      refine lv_iinc (v := (x2_2 + 1)) (lv' := [(2, .int (x2_2 + 1)), (0, .ref (aS 0)), (1, .int x1_2)]) hx hb dX7_boxes_21 hl (k := 2) rfl rfl (by decide) rfl (fun ls hl => ?_)
      refine lv_goto (tgt := 4) hx hb dX7_boxes_24 (by decide) ?_
      exact hin _ (Option.some.inj hF).symm H locs ls hP hD hS (lv_sub hl [1, 2, 0] rfl)
    refine lv_iload_n hx hb dX7_boxes_4 rfl (lv_at hl 2 rfl) ?_
    refine lv_bipush (v := 16) hx hb dX7_boxes_5 (by decide) ?_
    refine lv_icmp_ge (tgt := 27) hx hb dX7_boxes_7 (by decide) (fun hc => ?_) (fun hc => ?_)
    · replace hF := q_t hc hF
      exact X1 _ (hex _ (Option.some.inj hF).symm) H locs ls hP hD hS (lv_sub hl [1] rfl)
    · replace hF := q_f hc hF
      refine lv_aload_n hx hb dX7_boxes_10 rfl (lv_at hl 0 rfl) ?_
      refine lv_iload_n hx hb dX7_boxes_11 rfl (lv_at hl 2 rfl) ?_
      obtain ⟨q3, hcq3, hF⟩ := q_bd hF
      refine q_Vi (As := [.int x2_1]) (rest := []) ⟨hx, hb, hml, hown, hts⟩ hA hK hP hD hS (tX7_hasBox l dC dI cI cZ aS H.size R_width x2_1 q3 hcq3) (cwV 1 hts gX7_boxes_X7_hasBox rfl rfl rfl uX7_hasBox ⟨Nat.le_of_ble_eq_true rfl, Nat.le_of_ble_eq_true rfl⟩) [0, 1] [(true, 0), (true, 1)] (iX7_boxes aS cI cZ R_width) rfl rfl rfl rfl rfl 7 0 rfl rfl rfl rfl hl.1 rfl (Nat.le_of_ble_eq_true rfl) dX7_boxes_12 ⟨Nat.zero_le _, Nat.zero_le _⟩ (fun H locs hP hD hS => ?_)
      refine lv_if_eq (tgt := 21) hx hb dX7_boxes_15 (by decide) (fun hc => ?_) (fun hc => ?_)
      · replace hF := q_t hc hF
        exact JX7_BOXES_21 x1_1 x2_1 hF H locs ls hP hD hS (lv_sub hl [0, 1, 2] rfl)
      · replace hF := q_f hc hF
        refine lv_iinc (v := (x1_1 + 1)) (lv' := [(1, .int (x1_1 + 1)), (0, .ref (aS 0)), (2, .int x2_1)]) hx hb dX7_boxes_18 hl (k := 1) rfl rfl (by decide) rfl (fun ls hl => ?_)
        exact JX7_BOXES_21 (x1_1 + 1) x2_1 hF H locs ls hP hD hS (lv_sub hl [1, 0, 2] rfl)
  exact L1 (0, 0) hc1 H locs ls hP hD hS (lv_sub hl [2, 1, 0] rfl)
abbrev rX7_isPinned : Room := { frames := 1, cells := 0, slots := 0, locals := 21 }
theorem eX7_isPinned_X7 : ∀ w ∈ u_ws RX7 TX7 6, w ∈ wsX7_isPinned := by decide +kernel
theorem uX7_isPinned : yX7_isPinned.cls = RX7 ∧ yX7_isPinned.cls ≠ "java/lang/invoke/MethodHandle" ∧ yX7_isPinned.cls ≠ "java/lang/invoke/VarHandle" ∧ (parseMethodDescriptor yX7_isPinned.desc).map (fun d => d.parameters.length) = some 1 := by decide +kernel
set_option maxHeartbeats 4000000 in
set_option maxRecDepth 100000 in
theorem tX7_isPinned (l : Launch) (dC : Nat → ClassId) (dI : Nat → Nat → Nat) (cI cZ : ClassId) (aS : Nat → Nat) (sz : Nat) (R_width : Nat → Int32) (R_pinned : Nat → Int32) (p0 : Int32) (res : Int32) (hF : fX7_isPinned R_width R_pinned p0 = some res) : q_Mi l yX7_isPinned wsX7_isPinned rX7_isPinned (dC, dI) (q_ty cI cZ) [.ref (aS 0), .int p0] (iX7_isPinned aS cI cZ R_width R_pinned) (iX7_isPinned aS cI cZ R_width R_pinned) sz res := by
  refine q_metz (cc := cX7_isPinned) (maxL := 2) (by decide) rfl (Nat.le_of_ble_eq_true rfl) ?_
  intro p e s m args below meth c Q A H locs ls C hP hD hS hl hret
  obtain ⟨hx, hb, hml, hown, hts, hA, hK⟩ := C
  replace hl : lv_has ls 2 [(0, .ref (aS 0)), (1, .int p0)] := hl
  have k0 := hts (.fieldLink RX7 15 "RouteLayout$Routes" "pinned" "[I") (by decide +kernel)
  unfold fX7_isPinned at hF
  refine lv_aload_n hx hb dX7_isPinned_0 rfl (lv_at hl 0 rfl) ?_
  refine lv_iload_n hx hb dX7_isPinned_1 rfl (lv_at hl 1 rfl) ?_
  obtain ⟨q1, hcq1, hF⟩ := q_bd hF
  refine q_Vi (As := [.int p0]) (rest := []) ⟨hx, hb, hml, hown, hts⟩ hA hK hP hD hS (tX7_hasBox l dC dI cI cZ aS H.size R_width p0 q1 hcq1) (cwV 1 hts gX7_isPinned_X7_hasBox rfl rfl rfl uX7_hasBox ⟨Nat.le_of_ble_eq_true rfl, Nat.le_of_ble_eq_true rfl⟩) [0, 1] [(true, 0), (true, 1), (false, 2)] (iX7_isPinned aS cI cZ R_width R_pinned) rfl rfl rfl rfl rfl 7 0 rfl rfl rfl rfl hl.1 rfl (Nat.le_of_ble_eq_true rfl) dX7_isPinned_2 ⟨Nat.zero_le _, Nat.zero_le _⟩ (fun H locs hP hD hS => ?_)
  refine lv_if_eq (tgt := 22) hx hb dX7_isPinned_5 (by decide) (fun hc => ?_) (fun hc => ?_)
  · replace hF := q_t hc hF
    refine lv_iconst (v := 0) hx hb dX7_isPinned_22 (by decide) ?_
    exact hret H locs ls 23 _ _ dX7_isPinned_23 (Or.inl rfl) (Option.some.inj hF) rfl hP hD hS
  · replace hF := q_f hc hF
    refine lv_aload_n hx hb dX7_isPinned_8 rfl (lv_at hl 0 rfl) ?_
    refine q_get (ci := 7) (C := RX7) (T := TX7) (N := 6) hx hb hts eX7_isPinned_X7 hown hK hP 0 rfl rfl 1 (Nat.le_of_ble_eq_true rfl) k0 rfl rfl dX7_isPinned_9 ?_
    refine lv_iload_n hx hb dX7_isPinned_12 rfl (lv_at hl 1 rfl) ?_
    obtain ⟨hn2, hF⟩ := q_ck hF
    refine va_iald hx hb hK hP 2 0 rfl rfl hn2 dX7_isPinned_13 ?_
    refine lv_iconst (v := (-1)) hx hb dX7_isPinned_14 (by decide) ?_
    refine lv_icmp_eq (tgt := 22) hx hb dX7_isPinned_15 (by decide) (fun hc => ?_) (fun hc => ?_)
    · replace hF := q_t hc hF
      refine lv_iconst (v := 0) hx hb dX7_isPinned_22 (by decide) ?_
      exact hret H locs ls 23 _ _ dX7_isPinned_23 (Or.inl rfl) (Option.some.inj hF) rfl hP hD hS
    · replace hF := q_f hc hF
      refine lv_iconst (v := 1) hx hb dX7_isPinned_18 (by decide) ?_
      refine lv_goto (tgt := 23) hx hb dX7_isPinned_19 (by decide) ?_
      exact hret H locs ls 23 _ _ dX7_isPinned_23 (Or.inr rfl) (Option.some.inj hF) rfl hP hD hS
abbrev rX7_isTurned : Room := { frames := 1, cells := 0, slots := 0, locals := 21 }
theorem eX7_isTurned_X7 : ∀ w ∈ u_ws RX7 TX7 6, w ∈ wsX7_isTurned := by decide +kernel
theorem uX7_isTurned : yX7_isTurned.cls = RX7 ∧ yX7_isTurned.cls ≠ "java/lang/invoke/MethodHandle" ∧ yX7_isTurned.cls ≠ "java/lang/invoke/VarHandle" ∧ (parseMethodDescriptor yX7_isTurned.desc).map (fun d => d.parameters.length) = some 1 := by decide +kernel
set_option maxHeartbeats 4000000 in
set_option maxRecDepth 100000 in
theorem tX7_isTurned (l : Launch) (dC : Nat → ClassId) (dI : Nat → Nat → Nat) (cI cZ : ClassId) (aS : Nat → Nat) (sz : Nat) (R_from : Nat → Int32) (R_turned : Nat → Int32) (p0 : Int32) (res : Int32) (hF : fX7_isTurned R_from R_turned p0 = some res) : q_Mi l yX7_isTurned wsX7_isTurned rX7_isTurned (dC, dI) (q_ty cI cZ) [.ref (aS 0), .int p0] (iX7_isTurned aS cI cZ R_from R_turned) (iX7_isTurned aS cI cZ R_from R_turned) sz res := by
  refine q_metz (cc := cX7_isTurned) (maxL := 2) (by decide) rfl (Nat.le_of_ble_eq_true rfl) ?_
  intro p e s m args below meth c Q A H locs ls C hP hD hS hl hret
  obtain ⟨hx, hb, hml, hown, hts, hA, hK⟩ := C
  replace hl : lv_has ls 2 [(0, .ref (aS 0)), (1, .int p0)] := hl
  have k0 := hts (.fieldLink RX7 24 "RouteLayout$Routes" "turned" "[Z") (by decide +kernel)
  unfold fX7_isTurned at hF
  refine lv_aload_n hx hb dX7_isTurned_0 rfl (lv_at hl 0 rfl) ?_
  refine lv_iload_n hx hb dX7_isTurned_1 rfl (lv_at hl 1 rfl) ?_
  obtain ⟨q1, hcq1, hF⟩ := q_bd hF
  refine q_Vi (As := [.int p0]) (rest := []) ⟨hx, hb, hml, hown, hts⟩ hA hK hP hD hS (tX7_hasArrow l dC dI cI cZ aS H.size R_from p0 q1 hcq1) (cwV 1 hts gX7_isTurned_X7_hasArrow rfl rfl rfl uX7_hasArrow ⟨Nat.le_of_ble_eq_true rfl, Nat.le_of_ble_eq_true rfl⟩) [0, 1] [(true, 0), (true, 1), (false, 2)] (iX7_isTurned aS cI cZ R_from R_turned) rfl rfl rfl rfl rfl 7 0 rfl rfl rfl rfl hl.1 rfl (Nat.le_of_ble_eq_true rfl) dX7_isTurned_2 ⟨Nat.zero_le _, Nat.zero_le _⟩ (fun H locs hP hD hS => ?_)
  refine lv_if_eq (tgt := 21) hx hb dX7_isTurned_5 (by decide) (fun hc => ?_) (fun hc => ?_)
  · replace hF := q_t hc hF
    refine lv_iconst (v := 0) hx hb dX7_isTurned_21 (by decide) ?_
    exact hret H locs ls 22 _ _ dX7_isTurned_22 (Or.inl rfl) (Option.some.inj hF) rfl hP hD hS
  · replace hF := q_f hc hF
    refine lv_aload_n hx hb dX7_isTurned_8 rfl (lv_at hl 0 rfl) ?_
    refine q_get (ci := 7) (C := RX7) (T := TX7) (N := 6) hx hb hts eX7_isTurned_X7 hown hK hP 0 rfl rfl 4 (Nat.le_of_ble_eq_true rfl) k0 rfl rfl dX7_isTurned_9 ?_
    refine lv_iload_n hx hb dX7_isTurned_12 rfl (lv_at hl 1 rfl) ?_
    obtain ⟨hn2, hF⟩ := q_ck hF
    refine va_zald hx hb hK hP 2 1 rfl rfl hn2 dX7_isTurned_13 ?_
    refine lv_if_eq (tgt := 21) hx hb dX7_isTurned_14 (by decide) (fun hc => ?_) (fun hc => ?_)
    · replace hF := q_t hc hF
      refine lv_iconst (v := 0) hx hb dX7_isTurned_21 (by decide) ?_
      exact hret H locs ls 22 _ _ dX7_isTurned_22 (Or.inl rfl) (Option.some.inj hF) rfl hP hD hS
    · replace hF := q_f hc hF
      refine lv_iconst (v := 1) hx hb dX7_isTurned_17 (by decide) ?_
      refine lv_goto (tgt := 22) hx hb dX7_isTurned_18 (by decide) ?_
      exact hret H locs ls 22 _ _ dX7_isTurned_22 (Or.inr rfl) (Option.some.inj hF) rfl hP hD hS
abbrev rX7_reaches : Room := { frames := 1, cells := 0, slots := 0, locals := 21 }
theorem eX7_reaches_X7 : ∀ w ∈ u_ws RX7 TX7 6, w ∈ wsX7_reaches := by decide +kernel
theorem uX7_reaches : yX7_reaches.cls = RX7 ∧ yX7_reaches.cls ≠ "java/lang/invoke/MethodHandle" ∧ yX7_reaches.cls ≠ "java/lang/invoke/VarHandle" ∧ (parseMethodDescriptor yX7_reaches.desc).map (fun d => d.parameters.length) = some 2 := by decide +kernel
set_option maxHeartbeats 4000000 in
set_option maxRecDepth 100000 in
theorem tX7_reaches (l : Launch) (dC : Nat → ClassId) (dI : Nat → Nat → Nat) (cI cZ : ClassId) (aS : Nat → Nat) (sz : Nat) (R_width : Nat → Int32) (R_reach : Nat → Int32) (p0 : Int32) (p1 : Int32) (res : Int32) (hF : fX7_reaches R_width R_reach p0 p1 = some res) : q_Mi l yX7_reaches wsX7_reaches rX7_reaches (dC, dI) (q_ty cI cZ) [.ref (aS 0), .int p0, .int p1] (iX7_reaches aS cI cZ R_width R_reach) (iX7_reaches aS cI cZ R_width R_reach) sz res := by
  refine q_metz (cc := cX7_reaches) (maxL := 3) (by decide) rfl (Nat.le_of_ble_eq_true rfl) ?_
  intro p e s m args below meth c Q A H locs ls C hP hD hS hl hret
  obtain ⟨hx, hb, hml, hown, hts, hA, hK⟩ := C
  replace hl : lv_has ls 3 [(0, .ref (aS 0)), (1, .int p0), (2, .int p1)] := hl
  have k0 := hts (.fieldLink RX7 28 "RouteLayout$Routes" "reach" "[I") (by decide +kernel)
  unfold fX7_reaches at hF
  refine lv_aload_n hx hb dX7_reaches_0 rfl (lv_at hl 0 rfl) ?_
  refine lv_iload_n hx hb dX7_reaches_1 rfl (lv_at hl 1 rfl) ?_
  obtain ⟨q1, hcq1, hF⟩ := q_bd hF
  refine q_Vi (As := [.int p0]) (rest := []) ⟨hx, hb, hml, hown, hts⟩ hA hK hP hD hS (tX7_hasBox l dC dI cI cZ aS H.size R_width p0 q1 hcq1) (cwV 1 hts gX7_reaches_X7_hasBox rfl rfl rfl uX7_hasBox ⟨Nat.le_of_ble_eq_true rfl, Nat.le_of_ble_eq_true rfl⟩) [0, 1] [(true, 0), (true, 1), (false, 2)] (iX7_reaches aS cI cZ R_width R_reach) rfl rfl rfl rfl rfl 7 0 rfl rfl rfl rfl hl.1 rfl (Nat.le_of_ble_eq_true rfl) dX7_reaches_2 ⟨Nat.zero_le _, Nat.zero_le _⟩ (fun H locs hP hD hS => ?_)
  refine lv_if_eq (tgt := 25) hx hb dX7_reaches_5 (by decide) (fun hc => ?_) (fun hc => ?_)
  · replace hF := q_t hc hF
    refine lv_iconst (v := 0) hx hb dX7_reaches_25 (by decide) ?_
    exact hret H locs ls 26 _ _ dX7_reaches_26 (Or.inl rfl) (Option.some.inj hF) rfl hP hD hS
  · replace hF := q_f hc hF
    refine lv_aload_n hx hb dX7_reaches_8 rfl (lv_at hl 0 rfl) ?_
    refine q_get (ci := 7) (C := RX7) (T := TX7) (N := 6) hx hb hts eX7_reaches_X7 hown hK hP 0 rfl rfl 5 (Nat.le_of_ble_eq_true rfl) k0 rfl rfl dX7_reaches_9 ?_
    refine lv_iload_n hx hb dX7_reaches_12 rfl (lv_at hl 1 rfl) ?_
    obtain ⟨hn2, hF⟩ := q_ck hF
    refine va_iald hx hb hK hP 2 0 rfl rfl hn2 dX7_reaches_13 ?_
    refine lv_iload_n hx hb dX7_reaches_14 rfl (lv_at hl 2 rfl) ?_
    refine lv_ishr hx hb dX7_reaches_15 ?_
    refine lv_iconst (v := 1) hx hb dX7_reaches_16 (by decide) ?_
    refine lv_iand hx hb dX7_reaches_17 ?_
    refine lv_if_eq (tgt := 25) hx hb dX7_reaches_18 (by decide) (fun hc => ?_) (fun hc => ?_)
    · replace hF := q_t hc hF
      refine lv_iconst (v := 0) hx hb dX7_reaches_25 (by decide) ?_
      exact hret H locs ls 26 _ _ dX7_reaches_26 (Or.inl rfl) (Option.some.inj hF) rfl hP hD hS
    · replace hF := q_f hc hF
      refine lv_iconst (v := 1) hx hb dX7_reaches_21 (by decide) ?_
      refine lv_goto (tgt := 26) hx hb dX7_reaches_22 (by decide) ?_
      exact hret H locs ls 26 _ _ dX7_reaches_26 (Or.inr rfl) (Option.some.inj hF) rfl hP hD hS
abbrev rX7_keepArrow : Room := { frames := 2, cells := 0, slots := 0, locals := 43 }
theorem eX7_keepArrow_X7 : ∀ w ∈ u_ws RX7 TX7 6, w ∈ wsX7_keepArrow := by decide +kernel
theorem uX7_keepArrow : yX7_keepArrow.cls = RX7 ∧ yX7_keepArrow.cls ≠ "java/lang/invoke/MethodHandle" ∧ yX7_keepArrow.cls ≠ "java/lang/invoke/VarHandle" ∧ (parseMethodDescriptor yX7_keepArrow.desc).map (fun d => d.parameters.length) = some 2 := by decide +kernel
set_option maxHeartbeats 4000000 in
set_option maxRecDepth 100000 in
theorem tX7_keepArrow (l : Launch) (dC : Nat → ClassId) (dI : Nat → Nat → Nat) (cI cZ : ClassId) (aS : Nat → Nat) (sz : Nat) (R_width : Nat → Int32) (R_reach : Nat → Int32) (p0 : Int32) (p1 : Int32) (res : (Nat → Int32)) (hF : fX7_keepArrow R_width R_reach p0 p1 = some res) : q_Mv l yX7_keepArrow wsX7_keepArrow rX7_keepArrow (dC, dI) (q_ty cI cZ) [.ref (aS 0), .int p0, .int p1] (iX7_keepArrow aS cI cZ R_width R_reach) (iX7_keepArrow aS cI cZ R_width res) sz := by
  refine q_metv (cc := cX7_keepArrow) (maxL := 5) (by decide) rfl (Nat.le_of_ble_eq_true rfl) ?_
  intro p e s m args below meth c Q A H locs ls C hP hD hS hl hret
  obtain ⟨hx, hb, hml, hown, hts, hA, hK⟩ := C
  replace hl : lv_has ls 5 [(0, .ref (aS 0)), (1, .int p0), (2, .int p1)] := hl
  have k0 := hts (.fieldLink RX7 28 "RouteLayout$Routes" "reach" "[I") (by decide +kernel)
  unfold fX7_keepArrow at hF
  refine lv_aload_n hx hb dX7_keepArrow_0 rfl (lv_at hl 0 rfl) ?_
  refine lv_iload_n hx hb dX7_keepArrow_1 rfl (lv_at hl 2 rfl) ?_
  obtain ⟨q1, hcq1, hF⟩ := q_bd hF
  refine q_Vi (As := [.int p1]) (rest := []) ⟨hx, hb, hml, hown, hts⟩ hA hK hP hD hS (tX7_hasBox l dC dI cI cZ aS H.size R_width p1 q1 hcq1) (cwV 1 hts gX7_keepArrow_X7_hasBox rfl rfl rfl uX7_hasBox ⟨Nat.le_of_ble_eq_true rfl, Nat.le_of_ble_eq_true rfl⟩) [0, 1] [(true, 0), (true, 1), (false, 2)] (iX7_keepArrow aS cI cZ R_width R_reach) rfl rfl rfl rfl rfl 7 0 rfl rfl rfl rfl hl.1 rfl (Nat.le_of_ble_eq_true rfl) dX7_keepArrow_2 ⟨Nat.zero_le _, Nat.zero_le _⟩ (fun H locs hP hD hS => ?_)
  refine lv_if_ne (tgt := 9) hx hb dX7_keepArrow_5 (by decide) (fun hc => ?_) (fun hc => ?_)
  · replace hF := q_f hc hF
    refine lv_aload_n hx hb dX7_keepArrow_9 rfl (lv_at hl 0 rfl) ?_
    refine q_get (ci := 7) (C := RX7) (T := TX7) (N := 6) hx hb hts eX7_keepArrow_X7 hown hK hP 0 rfl rfl 5 (Nat.le_of_ble_eq_true rfl) k0 rfl rfl dX7_keepArrow_10 ?_
    refine lv_iload_n hx hb dX7_keepArrow_13 rfl (lv_at hl 2 rfl) ?_
    obtain ⟨hn2, hF⟩ := q_ck hF
    refine va_iald hx hb hK hP 2 0 rfl rfl hn2 dX7_keepArrow_14 ?_
    refine lv_iconst (v := 1) hx hb dX7_keepArrow_15 (by decide) ?_
    refine lv_iload_n hx hb dX7_keepArrow_16 rfl (lv_at hl 2 rfl) ?_
    refine lv_ishl hx hb dX7_keepArrow_17 ?_
    refine lv_ior hx hb dX7_keepArrow_18 ?_
    obtain ⟨v3, hv3, hF⟩ := q_letE hF
    refine q_top hv3 ?_
    refine lv_istore_n (lv' := [(3, .int v3), (0, .ref (aS 0)), (1, .int p0), (2, .int p1)]) hx hb dX7_keepArrow_19 rfl hl (by decide) rfl (fun ls hl => ?_)
    refine lv_iconst (v := 0) hx hb dX7_keepArrow_20 (by decide) ?_
    refine lv_istore (lv' := [(4, .int 0), (3, .int v3), (0, .ref (aS 0)), (1, .int p0), (2, .int p1)]) hx hb dX7_keepArrow_21 hl (by decide) rfl (fun ls hl => ?_)
    obtain ⟨q4, hc4, hF⟩ := q_bd hF
    have X4 : ∀ (u4 : Nat → Int32), u4 = q4 → ∀ (H : Heap) (locs : List Loc) (ls : Array Slot), va_P (dC, dI) vwCl (iX7_keepArrow aS cI cZ R_width u4) H → va_D A (iX7_keepArrow aS cI cZ R_width u4) → va_S A s.heap H locs → lv_has ls 5 [] → W p l e (headSpec wsX7_keepArrow (rX7_keepArrow)).room s m args below meth c H locs 0 0 Q (F0 m 63 ls []) := by
      intro u4 hu H locs ls hP hD hS hl
      subst hu
      exact hret H locs ls 63 _ dX7_keepArrow_63 (congrArg (fun z : (Nat → Int32) => (iX7_keepArrow aS cI cZ R_width z)) (Option.some.inj hF)) hP hD hS
    have L4 : ∀ st : Int32 × (Nat → Int32), q_lo (fun (st : Int32 × (Nat → Int32)) => bX7_keepArrow_23 R_width p0 v3 st.1 st.2) st = some q4 → ∀ (H : Heap) (locs : List Loc) (ls : Array Slot), va_P (dC, dI) vwCl (iX7_keepArrow aS cI cZ R_width st.2) H → va_D A (iX7_keepArrow aS cI cZ R_width st.2) → va_S A s.heap H locs → lv_has ls 5 [(0, .ref (aS 0)), (1, .int p0), (3, .int v3), (4, .int st.1)] → W p l e (headSpec wsX7_keepArrow (rX7_keepArrow)).room s m args below meth c H locs 0 0 Q (F0 m 23 ls []) := by
      intro st hst
      refine q_walk (Wh := fun st : Int32 × (Nat → Int32) => ∀ (H : Heap) (locs : List Loc) (ls : Array Slot), va_P (dC, dI) vwCl (iX7_keepArrow aS cI cZ R_width st.2) H → va_D A (iX7_keepArrow aS cI cZ R_width st.2) → va_S A s.heap H locs → lv_has ls 5 [(0, .ref (aS 0)), (1, .int p0), (3, .int v3), (4, .int st.1)] → W p l e (headSpec wsX7_keepArrow (rX7_keepArrow)).room s m args below meth c H locs 0 0 Q (F0 m 23 ls [])) ?_ st hst
      clear hst st hF
      intro st o hF hin hex H locs ls hP hD hS hl
      obtain ⟨x4_4, R_reach_4⟩ := st
      replace hF : bX7_keepArrow_23 R_width p0 v3 x4_4 R_reach_4 = some o := hF
      replace hP : va_P (dC, dI) vwCl (iX7_keepArrow aS cI cZ R_width R_reach_4) H := hP
      replace hD : va_D A (iX7_keepArrow aS cI cZ R_width R_reach_4) := hD
      replace hl : lv_has ls 5 [(0, .ref (aS 0)), (1, .int p0), (3, .int v3), (4, .int x4_4)] := hl
      unfold bX7_keepArrow_23 at hF
      have JX7_KEEPARROW_57 : ∀ (R_reach_5 : Nat → Int32) (x4_5 : Int32), jX7_keepArrow_57 R_reach_5 p0 v3 x4_5 = some o → ∀ (H : Heap) (locs : List Loc) (ls : Array Slot), va_P (dC, dI) vwCl (iX7_keepArrow aS cI cZ R_width R_reach_5) H → va_D A (iX7_keepArrow aS cI cZ R_width R_reach_5) → va_S A s.heap H locs → lv_has ls 5 [(0, .ref (aS 0)), (1, .int p0), (3, .int v3), (4, .int x4_5)] → W p l e (headSpec wsX7_keepArrow (rX7_keepArrow)).room s m args below meth c H locs 0 0 Q (F0 m 57 ls []) := by
        intro R_reach_5 x4_5 hF H locs ls hP hD hS hl
        unfold jX7_keepArrow_57 at hF
        refine lv_iinc (v := (x4_5 + 1)) (lv' := [(4, .int (x4_5 + 1)), (0, .ref (aS 0)), (1, .int p0), (3, .int v3)]) hx hb dX7_keepArrow_57 hl (k := 3) rfl rfl (by decide) rfl (fun ls hl => ?_)
        refine lv_goto (tgt := 23) hx hb dX7_keepArrow_60 (by decide) ?_
        exact hin _ (Option.some.inj hF).symm H locs ls hP hD hS (lv_sub hl [1, 2, 3, 0] rfl)
      have JX7_KEEPARROW_46 : ∀ (R_reach_6 : Nat → Int32) (x4_6 : Int32), jX7_keepArrow_46 R_reach_6 p0 v3 x4_6 = some o → ∀ (H : Heap) (locs : List Loc) (ls : Array Slot), va_P (dC, dI) vwCl (iX7_keepArrow aS cI cZ R_width R_reach_6) H → va_D A (iX7_keepArrow aS cI cZ R_width R_reach_6) → va_S A s.heap H locs → lv_has ls 5 [(0, .ref (aS 0)), (1, .int p0), (3, .int v3), (4, .int x4_6)] → W p l e (headSpec wsX7_keepArrow (rX7_keepArrow)).room s m args below meth c H locs 0 0 Q (F0 m 46 ls []) := by
        intro R_reach_6 x4_6 hF H locs ls hP hD hS hl
        unfold jX7_keepArrow_46 at hF
        refine lv_aload_n hx hb dX7_keepArrow_46 rfl (lv_at hl 0 rfl) ?_
        refine q_get (ci := 7) (C := RX7) (T := TX7) (N := 6) hx hb hts eX7_keepArrow_X7 hown hK hP 0 rfl rfl 5 (Nat.le_of_ble_eq_true rfl) k0 rfl rfl dX7_keepArrow_47 ?_
        refine lv_iload hx hb dX7_keepArrow_50 (lv_at hl 3 rfl) ?_
        refine lv_dup2_11 hx hb dX7_keepArrow_52 rfl rfl ?_
        obtain ⟨hn7, hF⟩ := q_ck hF
        refine va_iald hx hb hK hP 2 0 rfl rfl hn7 dX7_keepArrow_53 ?_
        refine lv_iload_n hx hb dX7_keepArrow_54 rfl (lv_at hl 2 rfl) ?_
        refine lv_ior hx hb dX7_keepArrow_55 ?_
        obtain ⟨hn8, hF⟩ := q_ck hF
        refine q_iast hx hb hK hP hD hS 2 0 (iX7_keepArrow aS cI cZ R_width (upd R_reach_6 x4_6.toNatClampNeg ((R_reach_6 x4_6.toNatClampNeg) ||| v3))) rfl rfl hn8 rfl dX7_keepArrow_56 (fun H locs hP hD hS => ?_)
        exact JX7_KEEPARROW_57 (upd R_reach_6 x4_6.toNatClampNeg ((R_reach_6 x4_6.toNatClampNeg) ||| v3)) x4_6 hF H locs ls hP hD hS (lv_sub hl [0, 1, 2, 3] rfl)
      refine lv_iload hx hb dX7_keepArrow_23 (lv_at hl 3 rfl) ?_
      refine lv_bipush (v := 16) hx hb dX7_keepArrow_25 (by decide) ?_
      refine lv_icmp_ge (tgt := 63) hx hb dX7_keepArrow_27 (by decide) (fun hc => ?_) (fun hc => ?_)
      · replace hF := q_t hc hF
        exact X4 _ (hex _ (Option.some.inj hF).symm) H locs ls hP hD hS (lv_sub hl [] rfl)
      · replace hF := q_f hc hF
        refine lv_iload hx hb dX7_keepArrow_30 (lv_at hl 3 rfl) ?_
        refine lv_iload_n hx hb dX7_keepArrow_32 rfl (lv_at hl 1 rfl) ?_
        refine lv_icmp_eq (tgt := 46) hx hb dX7_keepArrow_33 (by decide) (fun hc => ?_) (fun hc => ?_)
        · replace hF := q_t hc hF
          exact JX7_KEEPARROW_46 R_reach_4 x4_4 hF H locs ls hP hD hS (lv_sub hl [0, 1, 2, 3] rfl)
        · replace hF := q_f hc hF
          refine lv_aload_n hx hb dX7_keepArrow_36 rfl (lv_at hl 0 rfl) ?_
          refine lv_iload hx hb dX7_keepArrow_37 (lv_at hl 3 rfl) ?_
          refine lv_iload_n hx hb dX7_keepArrow_39 rfl (lv_at hl 1 rfl) ?_
          obtain ⟨q9, hcq9, hF⟩ := q_bd hF
          refine q_Vi (As := [.int x4_4, .int p0]) (rest := []) ⟨hx, hb, hml, hown, hts⟩ hA hK hP hD hS (tX7_reaches l dC dI cI cZ aS H.size R_width R_reach_4 x4_4 p0 q9 hcq9) (cwV 2 hts gX7_keepArrow_X7_reaches rfl rfl rfl uX7_reaches ⟨Nat.le_of_ble_eq_true rfl, Nat.le_of_ble_eq_true rfl⟩) [0, 1, 2] [(true, 0), (true, 1), (true, 2)] (iX7_keepArrow aS cI cZ R_width R_reach_4) rfl rfl rfl rfl rfl 7 0 rfl rfl rfl rfl hl.1 rfl (Nat.le_of_ble_eq_true rfl) dX7_keepArrow_40 ⟨Nat.zero_le _, Nat.zero_le _⟩ (fun H locs hP hD hS => ?_)
          refine lv_if_eq (tgt := 57) hx hb dX7_keepArrow_43 (by decide) (fun hc => ?_) (fun hc => ?_)
          · replace hF := q_t hc hF
            exact JX7_KEEPARROW_57 R_reach_4 x4_4 hF H locs ls hP hD hS (lv_sub hl [0, 1, 2, 3] rfl)
          · replace hF := q_f hc hF
            exact JX7_KEEPARROW_46 R_reach_4 x4_4 hF H locs ls hP hD hS (lv_sub hl [0, 1, 2, 3] rfl)
    exact L4 (0, R_reach) hc4 H locs ls hP hD hS (lv_sub hl [2, 3, 1, 0] rfl)
  · replace hF := q_t hc hF
    exact hret H locs ls 8 _ dX7_keepArrow_8 (congrArg (fun z : (Nat → Int32) => (iX7_keepArrow aS cI cZ R_width z)) (Option.some.inj hF)) hP hD hS
abbrev rX7_lowerBox : Room := { frames := 1, cells := 0, slots := 0, locals := 21 }
theorem eX7_lowerBox_X7 : ∀ w ∈ u_ws RX7 TX7 6, w ∈ wsX7_lowerBox := by decide +kernel
theorem uX7_lowerBox : yX7_lowerBox.cls = RX7 ∧ yX7_lowerBox.cls ≠ "java/lang/invoke/MethodHandle" ∧ yX7_lowerBox.cls ≠ "java/lang/invoke/VarHandle" ∧ (parseMethodDescriptor yX7_lowerBox.desc).map (fun d => d.parameters.length) = some 1 := by decide +kernel
set_option maxHeartbeats 4000000 in
set_option maxRecDepth 100000 in
theorem tX7_lowerBox (l : Launch) (dC : Nat → ClassId) (dI : Nat → Nat → Nat) (cI cZ : ClassId) (aS : Nat → Nat) (sz : Nat) (R_from : Nat → Int32) (R_to : Nat → Int32) (R_turned : Nat → Int32) (p0 : Int32) (res : Int32) (hF : fX7_lowerBox R_from R_to R_turned p0 = some res) : q_Mi l yX7_lowerBox wsX7_lowerBox rX7_lowerBox (dC, dI) (q_ty cI cZ) [.ref (aS 0), .int p0] (iX7_lowerBox aS cI cZ R_from R_to R_turned) (iX7_lowerBox aS cI cZ R_from R_to R_turned) sz res := by
  refine q_meti (cc := cX7_lowerBox) (maxL := 2) (by decide) rfl (Nat.le_of_ble_eq_true rfl) ?_
  intro p e s m args below meth c Q A H locs ls C hP hD hS hl hret
  obtain ⟨hx, hb, hml, hown, hts, hA, hK⟩ := C
  replace hl : lv_has ls 2 [(0, .ref (aS 0)), (1, .int p0)] := hl
  have k0 := hts (.fieldLink RX7 24 "RouteLayout$Routes" "turned" "[Z") (by decide +kernel)
  have k1 := hts (.fieldLink RX7 21 "RouteLayout$Routes" "to" "[I") (by decide +kernel)
  have k2 := hts (.fieldLink RX7 18 "RouteLayout$Routes" "from" "[I") (by decide +kernel)
  unfold fX7_lowerBox at hF
  refine lv_aload_n hx hb dX7_lowerBox_0 rfl (lv_at hl 0 rfl) ?_
  refine lv_iload_n hx hb dX7_lowerBox_1 rfl (lv_at hl 1 rfl) ?_
  obtain ⟨q1, hcq1, hF⟩ := q_bd hF
  refine q_Vi (As := [.int p0]) (rest := []) ⟨hx, hb, hml, hown, hts⟩ hA hK hP hD hS (tX7_hasArrow l dC dI cI cZ aS H.size R_from p0 q1 hcq1) (cwV 1 hts gX7_lowerBox_X7_hasArrow rfl rfl rfl uX7_hasArrow ⟨Nat.le_of_ble_eq_true rfl, Nat.le_of_ble_eq_true rfl⟩) [0, 1] [(true, 0), (true, 1), (false, 2), (false, 3)] (iX7_lowerBox aS cI cZ R_from R_to R_turned) rfl rfl rfl rfl rfl 7 0 rfl rfl rfl rfl hl.1 rfl (Nat.le_of_ble_eq_true rfl) dX7_lowerBox_2 ⟨Nat.zero_le _, Nat.zero_le _⟩ (fun H locs hP hD hS => ?_)
  refine lv_if_ne (tgt := 12) hx hb dX7_lowerBox_5 (by decide) (fun hc => ?_) (fun hc => ?_)
  · replace hF := q_f hc hF
    refine lv_aload_n hx hb dX7_lowerBox_12 rfl (lv_at hl 0 rfl) ?_
    refine q_get (ci := 7) (C := RX7) (T := TX7) (N := 6) hx hb hts eX7_lowerBox_X7 hown hK hP 0 rfl rfl 4 (Nat.le_of_ble_eq_true rfl) k0 rfl rfl dX7_lowerBox_13 ?_
    refine lv_iload_n hx hb dX7_lowerBox_16 rfl (lv_at hl 1 rfl) ?_
    obtain ⟨hn2, hF⟩ := q_ck hF
    refine va_zald hx hb hK hP 3 1 rfl rfl hn2 dX7_lowerBox_17 ?_
    refine lv_if_eq (tgt := 30) hx hb dX7_lowerBox_18 (by decide) (fun hc => ?_) (fun hc => ?_)
    · replace hF := q_t hc hF
      refine lv_aload_n hx hb dX7_lowerBox_30 rfl (lv_at hl 0 rfl) ?_
      refine q_get (ci := 7) (C := RX7) (T := TX7) (N := 6) hx hb hts eX7_lowerBox_X7 hown hK hP 0 rfl rfl 3 (Nat.le_of_ble_eq_true rfl) k1 rfl rfl dX7_lowerBox_31 ?_
      refine lv_iload_n hx hb dX7_lowerBox_34 rfl (lv_at hl 1 rfl) ?_
      obtain ⟨hn3, hF⟩ := q_ck hF
      refine va_iald hx hb hK hP 2 0 rfl rfl hn3 dX7_lowerBox_35 ?_
      exact hret H locs ls 36 _ _ dX7_lowerBox_36 (Option.some.inj hF) rfl hP hD hS
    · replace hF := q_f hc hF
      refine lv_aload_n hx hb dX7_lowerBox_21 rfl (lv_at hl 0 rfl) ?_
      refine q_get (ci := 7) (C := RX7) (T := TX7) (N := 6) hx hb hts eX7_lowerBox_X7 hown hK hP 0 rfl rfl 2 (Nat.le_of_ble_eq_true rfl) k2 rfl rfl dX7_lowerBox_22 ?_
      refine lv_iload_n hx hb dX7_lowerBox_25 rfl (lv_at hl 1 rfl) ?_
      obtain ⟨hn4, hF⟩ := q_ck hF
      refine va_iald hx hb hK hP 1 0 rfl rfl hn4 dX7_lowerBox_26 ?_
      refine lv_goto (tgt := 36) hx hb dX7_lowerBox_27 (by decide) ?_
      exact hret H locs ls 36 _ _ dX7_lowerBox_36 (Option.some.inj hF) rfl hP hD hS
  · replace hF := q_t hc hF
    refine lv_iconst (v := (-1)) hx hb dX7_lowerBox_8 (by decide) ?_
    refine lv_goto (tgt := 36) hx hb dX7_lowerBox_9 (by decide) ?_
    exact hret H locs ls 36 _ _ dX7_lowerBox_36 (Option.some.inj hF) rfl hP hD hS
abbrev rX7_pinBox : Room := { frames := 1, cells := 0, slots := 0, locals := 21 }
theorem eX7_pinBox_X7 : ∀ w ∈ u_ws RX7 TX7 6, w ∈ wsX7_pinBox := by decide +kernel
theorem uX7_pinBox : yX7_pinBox.cls = RX7 ∧ yX7_pinBox.cls ≠ "java/lang/invoke/MethodHandle" ∧ yX7_pinBox.cls ≠ "java/lang/invoke/VarHandle" ∧ (parseMethodDescriptor yX7_pinBox.desc).map (fun d => d.parameters.length) = some 2 := by decide +kernel
set_option maxHeartbeats 4000000 in
set_option maxRecDepth 100000 in
theorem tX7_pinBox (l : Launch) (dC : Nat → ClassId) (dI : Nat → Nat → Nat) (cI cZ : ClassId) (aS : Nat → Nat) (sz : Nat) (R_width : Nat → Int32) (R_pinned : Nat → Int32) (p0 : Int32) (p1 : Int32) (res : (Nat → Int32)) (hF : fX7_pinBox R_width R_pinned p0 p1 = some res) : q_Mv l yX7_pinBox wsX7_pinBox rX7_pinBox (dC, dI) (q_ty cI cZ) [.ref (aS 0), .int p0, .int p1] (iX7_pinBox aS cI cZ R_width R_pinned) (iX7_pinBox aS cI cZ R_width res) sz := by
  refine q_metv (cc := cX7_pinBox) (maxL := 3) (by decide) rfl (Nat.le_of_ble_eq_true rfl) ?_
  intro p e s m args below meth c Q A H locs ls C hP hD hS hl hret
  obtain ⟨hx, hb, hml, hown, hts, hA, hK⟩ := C
  replace hl : lv_has ls 3 [(0, .ref (aS 0)), (1, .int p0), (2, .int p1)] := hl
  have k0 := hts (.fieldLink RX7 15 "RouteLayout$Routes" "pinned" "[I") (by decide +kernel)
  unfold fX7_pinBox at hF
  refine lv_aload_n hx hb dX7_pinBox_0 rfl (lv_at hl 0 rfl) ?_
  refine lv_iload_n hx hb dX7_pinBox_1 rfl (lv_at hl 1 rfl) ?_
  obtain ⟨q1, hcq1, hF⟩ := q_bd hF
  refine q_Vi (As := [.int p0]) (rest := []) ⟨hx, hb, hml, hown, hts⟩ hA hK hP hD hS (tX7_hasBox l dC dI cI cZ aS H.size R_width p0 q1 hcq1) (cwV 1 hts gX7_pinBox_X7_hasBox rfl rfl rfl uX7_hasBox ⟨Nat.le_of_ble_eq_true rfl, Nat.le_of_ble_eq_true rfl⟩) [0, 1] [(true, 0), (true, 1), (false, 2)] (iX7_pinBox aS cI cZ R_width R_pinned) rfl rfl rfl rfl rfl 7 0 rfl rfl rfl rfl hl.1 rfl (Nat.le_of_ble_eq_true rfl) dX7_pinBox_2 ⟨Nat.zero_le _, Nat.zero_le _⟩ (fun H locs hP hD hS => ?_)
  refine lv_if_eq (tgt := 15) hx hb dX7_pinBox_5 (by decide) (fun hc => ?_) (fun hc => ?_)
  · replace hF := q_t hc hF
    exact hret H locs ls 15 _ dX7_pinBox_15 (congrArg (fun z : (Nat → Int32) => (iX7_pinBox aS cI cZ R_width z)) (Option.some.inj hF)) hP hD hS
  · replace hF := q_f hc hF
    refine lv_aload_n hx hb dX7_pinBox_8 rfl (lv_at hl 0 rfl) ?_
    refine q_get (ci := 7) (C := RX7) (T := TX7) (N := 6) hx hb hts eX7_pinBox_X7 hown hK hP 0 rfl rfl 1 (Nat.le_of_ble_eq_true rfl) k0 rfl rfl dX7_pinBox_9 ?_
    refine lv_iload_n hx hb dX7_pinBox_12 rfl (lv_at hl 1 rfl) ?_
    refine lv_iload_n hx hb dX7_pinBox_13 rfl (lv_at hl 2 rfl) ?_
    obtain ⟨hn2, hF⟩ := q_ck hF
    refine q_iast hx hb hK hP hD hS 2 0 (iX7_pinBox aS cI cZ R_width (upd R_pinned p0.toNatClampNeg p1)) rfl rfl hn2 rfl dX7_pinBox_14 (fun H locs hP hD hS => ?_)
    exact hret H locs ls 15 _ dX7_pinBox_15 (congrArg (fun z : (Nat → Int32) => (iX7_pinBox aS cI cZ R_width z)) (Option.some.inj hF)) hP hD hS
abbrev rX7_pinOf : Room := { frames := 1, cells := 0, slots := 0, locals := 21 }
theorem eX7_pinOf_X7 : ∀ w ∈ u_ws RX7 TX7 6, w ∈ wsX7_pinOf := by decide +kernel
theorem uX7_pinOf : yX7_pinOf.cls = RX7 ∧ yX7_pinOf.cls ≠ "java/lang/invoke/MethodHandle" ∧ yX7_pinOf.cls ≠ "java/lang/invoke/VarHandle" ∧ (parseMethodDescriptor yX7_pinOf.desc).map (fun d => d.parameters.length) = some 1 := by decide +kernel
set_option maxHeartbeats 4000000 in
set_option maxRecDepth 100000 in
theorem tX7_pinOf (l : Launch) (dC : Nat → ClassId) (dI : Nat → Nat → Nat) (cI cZ : ClassId) (aS : Nat → Nat) (sz : Nat) (R_width : Nat → Int32) (R_pinned : Nat → Int32) (p0 : Int32) (res : Int32) (hF : fX7_pinOf R_width R_pinned p0 = some res) : q_Mi l yX7_pinOf wsX7_pinOf rX7_pinOf (dC, dI) (q_ty cI cZ) [.ref (aS 0), .int p0] (iX7_pinOf aS cI cZ R_width R_pinned) (iX7_pinOf aS cI cZ R_width R_pinned) sz res := by
  refine q_meti (cc := cX7_pinOf) (maxL := 2) (by decide) rfl (Nat.le_of_ble_eq_true rfl) ?_
  intro p e s m args below meth c Q A H locs ls C hP hD hS hl hret
  obtain ⟨hx, hb, hml, hown, hts, hA, hK⟩ := C
  replace hl : lv_has ls 2 [(0, .ref (aS 0)), (1, .int p0)] := hl
  have k0 := hts (.fieldLink RX7 15 "RouteLayout$Routes" "pinned" "[I") (by decide +kernel)
  unfold fX7_pinOf at hF
  refine lv_aload_n hx hb dX7_pinOf_0 rfl (lv_at hl 0 rfl) ?_
  refine lv_iload_n hx hb dX7_pinOf_1 rfl (lv_at hl 1 rfl) ?_
  obtain ⟨q1, hcq1, hF⟩ := q_bd hF
  refine q_Vi (As := [.int p0]) (rest := []) ⟨hx, hb, hml, hown, hts⟩ hA hK hP hD hS (tX7_hasBox l dC dI cI cZ aS H.size R_width p0 q1 hcq1) (cwV 1 hts gX7_pinOf_X7_hasBox rfl rfl rfl uX7_hasBox ⟨Nat.le_of_ble_eq_true rfl, Nat.le_of_ble_eq_true rfl⟩) [0, 1] [(true, 0), (true, 1), (false, 2)] (iX7_pinOf aS cI cZ R_width R_pinned) rfl rfl rfl rfl rfl 7 0 rfl rfl rfl rfl hl.1 rfl (Nat.le_of_ble_eq_true rfl) dX7_pinOf_2 ⟨Nat.zero_le _, Nat.zero_le _⟩ (fun H locs hP hD hS => ?_)
  refine lv_if_eq (tgt := 17) hx hb dX7_pinOf_5 (by decide) (fun hc => ?_) (fun hc => ?_)
  · replace hF := q_t hc hF
    refine lv_iconst (v := (-1)) hx hb dX7_pinOf_17 (by decide) ?_
    exact hret H locs ls 18 _ _ dX7_pinOf_18 (Option.some.inj hF) rfl hP hD hS
  · replace hF := q_f hc hF
    refine lv_aload_n hx hb dX7_pinOf_8 rfl (lv_at hl 0 rfl) ?_
    refine q_get (ci := 7) (C := RX7) (T := TX7) (N := 6) hx hb hts eX7_pinOf_X7 hown hK hP 0 rfl rfl 1 (Nat.le_of_ble_eq_true rfl) k0 rfl rfl dX7_pinOf_9 ?_
    refine lv_iload_n hx hb dX7_pinOf_12 rfl (lv_at hl 1 rfl) ?_
    obtain ⟨hn2, hF⟩ := q_ck hF
    refine va_iald hx hb hK hP 2 0 rfl rfl hn2 dX7_pinOf_13 ?_
    refine lv_goto (tgt := 18) hx hb dX7_pinOf_14 (by decide) ?_
    exact hret H locs ls 18 _ _ dX7_pinOf_18 (Option.some.inj hF) rfl hP hD hS
abbrev rX7_turnArrows : Room := { frames := 3, cells := 0, slots := 0, locals := 67 }
theorem eX7_turnArrows_X7 : ∀ w ∈ u_ws RX7 TX7 6, w ∈ wsX7_turnArrows := by decide +kernel
theorem uX7_turnArrows : yX7_turnArrows.cls = RX7 ∧ yX7_turnArrows.cls ≠ "java/lang/invoke/MethodHandle" ∧ yX7_turnArrows.cls ≠ "java/lang/invoke/VarHandle" ∧ (parseMethodDescriptor yX7_turnArrows.desc).map (fun d => d.parameters.length) = some 0 := by decide +kernel
set_option maxHeartbeats 4000000 in
set_option maxRecDepth 100000 in
theorem tX7_turnArrows (l : Launch) (dC : Nat → ClassId) (dI : Nat → Nat → Nat) (cI cZ : ClassId) (aS : Nat → Nat) (sz : Nat) (R_width : Nat → Int32) (R_from : Nat → Int32) (R_to : Nat → Int32) (R_turned : Nat → Int32) (R_reach : Nat → Int32) (res : (Nat → Int32) × (Nat → Int32)) (hF : fX7_turnArrows R_width R_from R_to R_turned = some res) : q_Mv l yX7_turnArrows wsX7_turnArrows rX7_turnArrows (dC, dI) (q_ty cI cZ) [.ref (aS 0)] (iX7_turnArrows aS cI cZ R_width R_from R_to R_turned R_reach) (iX7_turnArrows aS cI cZ R_width R_from R_to res.1 res.2) sz := by
  refine q_metv (cc := cX7_turnArrows) (maxL := 2) (by decide) rfl (Nat.le_of_ble_eq_true rfl) ?_
  intro p e s m args below meth c Q A H locs ls C hP hD hS hl hret
  obtain ⟨hx, hb, hml, hown, hts, hA, hK⟩ := C
  replace hl : lv_has ls 2 [(0, .ref (aS 0))] := hl
  have k0 := hts (.fieldLink RX7 28 "RouteLayout$Routes" "reach" "[I") (by decide +kernel)
  have k1 := hts (.fieldLink RX7 24 "RouteLayout$Routes" "turned" "[Z") (by decide +kernel)
  have k2 := hts (.fieldLink RX7 18 "RouteLayout$Routes" "from" "[I") (by decide +kernel)
  have k3 := hts (.fieldLink RX7 21 "RouteLayout$Routes" "to" "[I") (by decide +kernel)
  unfold fX7_turnArrows at hF
  refine lv_aload_n hx hb dX7_turnArrows_0 rfl (lv_at hl 0 rfl) ?_
  refine q_get (ci := 7) (C := RX7) (T := TX7) (N := 6) hx hb hts eX7_turnArrows_X7 hown hK hP 0 rfl rfl 5 (Nat.le_of_ble_eq_true rfl) k0 rfl rfl dX7_turnArrows_1 ?_
  refine lv_iconst (v := 0) hx hb dX7_turnArrows_4 (by decide) ?_
  refine q_Sv (As := [.ref (aS 6), .int 0]) (rest := []) ⟨hx, hb, hml, hown, hts⟩ hA hK hP hD hS (tJ7_fill_53178 l dC dI cI cZ (aS 6) 16 H.size R_reach 0 (by decide)) (va_cwS 2 hts gX7_turnArrows_J7_fill_53178 rfl rfl rfl uJ7_fill_53178 ⟨Nat.le_of_ble_eq_true rfl, Nat.le_of_ble_eq_true rfl⟩) [5] [(false, 0), (false, 1), (false, 2), (false, 3), (false, 4), (true, 0)] (iX7_turnArrows aS cI cZ R_width R_from R_to R_turned (fun _ => 0)) rfl rfl rfl rfl rfl rfl hl.1 rfl (Nat.le_of_ble_eq_true rfl) dX7_turnArrows_5 ⟨Nat.zero_le _, Nat.zero_le _⟩ (fun H locs hP hD hS => ?_)
  refine lv_iconst (v := 0) hx hb dX7_turnArrows_8 (by decide) ?_
  refine lv_istore_n (lv' := [(1, .int 0), (0, .ref (aS 0))]) hx hb dX7_turnArrows_9 rfl hl (by decide) rfl (fun ls hl => ?_)
  obtain ⟨q1_0, q1_1, hc1, hF⟩ := q_bd2 hF
  have X1 : ∀ (u1_0 : Nat → Int32) (u1_1 : Nat → Int32), (u1_0, u1_1) = (q1_0, q1_1) → ∀ (H : Heap) (locs : List Loc) (ls : Array Slot), va_P (dC, dI) vwCl (iX7_turnArrows aS cI cZ R_width R_from R_to u1_0 u1_1) H → va_D A (iX7_turnArrows aS cI cZ R_width R_from R_to u1_0 u1_1) → va_S A s.heap H locs → lv_has ls 2 [] → W p l e (headSpec wsX7_turnArrows (rX7_turnArrows)).room s m args below meth c H locs 0 0 Q (F0 m 93 ls []) := by
    intro u1_0 u1_1 hu H locs ls hP hD hS hl
    obtain ⟨e0, e1⟩ := q_inj2 hu
    subst e0 e1
    exact hret H locs ls 93 _ dX7_turnArrows_93 (congrArg (fun z : (Nat → Int32) × (Nat → Int32) => (iX7_turnArrows aS cI cZ R_width R_from R_to z.1 z.2)) (Option.some.inj hF)) hP hD hS
  have L1 : ∀ st : Int32 × (Nat → Int32) × (Nat → Int32), q_lo (fun (st : Int32 × (Nat → Int32) × (Nat → Int32)) => bX7_turnArrows_10 R_width R_from R_to st.1 st.2.1 st.2.2) st = some (q1_0, q1_1) → ∀ (H : Heap) (locs : List Loc) (ls : Array Slot), va_P (dC, dI) vwCl (iX7_turnArrows aS cI cZ R_width R_from R_to st.2.1 st.2.2) H → va_D A (iX7_turnArrows aS cI cZ R_width R_from R_to st.2.1 st.2.2) → va_S A s.heap H locs → lv_has ls 2 [(0, .ref (aS 0)), (1, .int st.1)] → W p l e (headSpec wsX7_turnArrows (rX7_turnArrows)).room s m args below meth c H locs 0 0 Q (F0 m 10 ls []) := by
    intro st hst
    refine q_walk (Wh := fun st : Int32 × (Nat → Int32) × (Nat → Int32) => ∀ (H : Heap) (locs : List Loc) (ls : Array Slot), va_P (dC, dI) vwCl (iX7_turnArrows aS cI cZ R_width R_from R_to st.2.1 st.2.2) H → va_D A (iX7_turnArrows aS cI cZ R_width R_from R_to st.2.1 st.2.2) → va_S A s.heap H locs → lv_has ls 2 [(0, .ref (aS 0)), (1, .int st.1)] → W p l e (headSpec wsX7_turnArrows (rX7_turnArrows)).room s m args below meth c H locs 0 0 Q (F0 m 10 ls [])) ?_ st hst
    clear hst st hF
    intro st o hF hin hex H locs ls hP hD hS hl
    obtain ⟨x1_1, R_turned_1, R_reach_1⟩ := st
    replace hF : bX7_turnArrows_10 R_width R_from R_to x1_1 R_turned_1 R_reach_1 = some o := hF
    replace hP : va_P (dC, dI) vwCl (iX7_turnArrows aS cI cZ R_width R_from R_to R_turned_1 R_reach_1) H := hP
    replace hD : va_D A (iX7_turnArrows aS cI cZ R_width R_from R_to R_turned_1 R_reach_1) := hD
    replace hl : lv_has ls 2 [(0, .ref (aS 0)), (1, .int x1_1)] := hl
    unfold bX7_turnArrows_10 at hF
    have JX7_TURNARROWS_87 : ∀ (R_turned_2 : Nat → Int32) (R_reach_2 : Nat → Int32) (x1_2 : Int32), jX7_turnArrows_87 R_turned_2 R_reach_2 x1_2 = some o → ∀ (H : Heap) (locs : List Loc) (ls : Array Slot), va_P (dC, dI) vwCl (iX7_turnArrows aS cI cZ R_width R_from R_to R_turned_2 R_reach_2) H → va_D A (iX7_turnArrows aS cI cZ R_width R_from R_to R_turned_2 R_reach_2) → va_S A s.heap H locs → lv_has ls 2 [(0, .ref (aS 0)), (1, .int x1_2)] → W p l e (headSpec wsX7_turnArrows (rX7_turnArrows)).room s m args below meth c H locs 0 0 Q (F0 m 87 ls []) := by
      intro R_turned_2 R_reach_2 x1_2 hF H locs ls hP hD hS hl
      unfold jX7_turnArrows_87 at hF
      refine lv_iinc (v := (x1_2 + 1)) (lv' := [(1, .int (x1_2 + 1)), (0, .ref (aS 0))]) hx hb dX7_turnArrows_87 hl (k := 1) rfl rfl (by decide) rfl (fun ls hl => ?_)
      refine lv_goto (tgt := 10) hx hb dX7_turnArrows_90 (by decide) ?_
      exact hin _ (Option.some.inj hF).symm H locs ls hP hD hS (lv_sub hl [1, 0] rfl)
    have JX7_TURNARROWS_53 : ∀ (R_turned_3 : Nat → Int32) (R_reach_3 : Nat → Int32) (x1_3 : Int32) (s0_3 : Int32) (s1_3 : Int32), jX7_turnArrows_53 R_width R_from R_to R_turned_3 R_reach_3 x1_3 s0_3 s1_3 = some o → ∀ (H : Heap) (locs : List Loc) (ls : Array Slot), va_P (dC, dI) vwCl (iX7_turnArrows aS cI cZ R_width R_from R_to R_turned_3 R_reach_3) H → va_D A (iX7_turnArrows aS cI cZ R_width R_from R_to R_turned_3 R_reach_3) → va_S A s.heap H locs → lv_has ls 2 [(0, .ref (aS 0)), (1, .int x1_3)] → W p l e (headSpec wsX7_turnArrows (rX7_turnArrows)).room s m args below meth c H locs 0 0 Q (F0 m 53 ls [.int s0_3, .int s1_3, .ref (aS 5)]) := by
      intro R_turned_3 R_reach_3 x1_3 s0_3 s1_3 hF H locs ls hP hD hS hl
      unfold jX7_turnArrows_53 at hF
      obtain ⟨hn4, hF⟩ := q_ck hF
      obtain ⟨hn5, hF⟩ := q_ck hF
      refine q_zast hx hb hK hP hD hS 4 1 (iX7_turnArrows aS cI cZ R_width R_from R_to (upd R_turned_3 s1_3.toNatClampNeg s0_3) R_reach_3) rfl rfl hn4 hn5 rfl dX7_turnArrows_53 (fun H locs hP hD hS => ?_)
      refine lv_aload_n hx hb dX7_turnArrows_54 rfl (lv_at hl 0 rfl) ?_
      refine lv_iload_n hx hb dX7_turnArrows_55 rfl (lv_at hl 1 rfl) ?_
      obtain ⟨q6, hcq6, hF⟩ := q_bd hF
      refine q_Vi (As := [.int x1_3]) (rest := []) ⟨hx, hb, hml, hown, hts⟩ hA hK hP hD hS (tX7_hasArrow l dC dI cI cZ aS H.size R_from x1_3 q6 hcq6) (cwV 1 hts gX7_turnArrows_X7_hasArrow rfl rfl rfl uX7_hasArrow ⟨Nat.le_of_ble_eq_true rfl, Nat.le_of_ble_eq_true rfl⟩) [0, 2] [(true, 0), (false, 1), (true, 1), (false, 3), (false, 4), (false, 5)] (iX7_turnArrows aS cI cZ R_width R_from R_to (upd R_turned_3 s1_3.toNatClampNeg s0_3) R_reach_3) rfl rfl rfl rfl rfl 7 0 rfl rfl rfl rfl hl.1 rfl (Nat.le_of_ble_eq_true rfl) dX7_turnArrows_56 ⟨Nat.zero_le _, Nat.zero_le _⟩ (fun H locs hP hD hS => ?_)
      refine lv_if_eq (tgt := 87) hx hb dX7_turnArrows_59 (by decide) (fun hc => ?_) (fun hc => ?_)
      · replace hF := q_t hc hF
        exact JX7_TURNARROWS_87 (upd R_turned_3 s1_3.toNatClampNeg s0_3) R_reach_3 x1_3 hF H locs ls hP hD hS (lv_sub hl [0, 1] rfl)
      · replace hF := q_f hc hF
        refine lv_aload_n hx hb dX7_turnArrows_62 rfl (lv_at hl 0 rfl) ?_
        refine q_get (ci := 7) (C := RX7) (T := TX7) (N := 6) hx hb hts eX7_turnArrows_X7 hown hK hP 0 rfl rfl 4 (Nat.le_of_ble_eq_true rfl) k1 rfl rfl dX7_turnArrows_63 ?_
        refine lv_iload_n hx hb dX7_turnArrows_66 rfl (lv_at hl 1 rfl) ?_
        obtain ⟨hn7, hF⟩ := q_ck hF
        refine va_zald hx hb hK hP 4 1 rfl rfl hn7 dX7_turnArrows_67 ?_
        refine lv_if_ne (tgt := 87) hx hb dX7_turnArrows_68 (by decide) (fun hc => ?_) (fun hc => ?_)
        · replace hF := q_f hc hF
          exact JX7_TURNARROWS_87 (upd R_turned_3 s1_3.toNatClampNeg s0_3) R_reach_3 x1_3 hF H locs ls hP hD hS (lv_sub hl [0, 1] rfl)
        · replace hF := q_t hc hF
          refine lv_aload_n hx hb dX7_turnArrows_71 rfl (lv_at hl 0 rfl) ?_
          refine lv_aload_n hx hb dX7_turnArrows_72 rfl (lv_at hl 0 rfl) ?_
          refine q_get (ci := 7) (C := RX7) (T := TX7) (N := 6) hx hb hts eX7_turnArrows_X7 hown hK hP 0 rfl rfl 2 (Nat.le_of_ble_eq_true rfl) k2 rfl rfl dX7_turnArrows_73 ?_
          refine lv_iload_n hx hb dX7_turnArrows_76 rfl (lv_at hl 1 rfl) ?_
          obtain ⟨hn8, hF⟩ := q_ck hF
          refine va_iald hx hb hK hP 2 0 rfl rfl hn8 dX7_turnArrows_77 ?_
          refine lv_aload_n hx hb dX7_turnArrows_78 rfl (lv_at hl 0 rfl) ?_
          refine q_get (ci := 7) (C := RX7) (T := TX7) (N := 6) hx hb hts eX7_turnArrows_X7 hown hK hP 0 rfl rfl 3 (Nat.le_of_ble_eq_true rfl) k3 rfl rfl dX7_turnArrows_79 ?_
          refine lv_iload_n hx hb dX7_turnArrows_82 rfl (lv_at hl 1 rfl) ?_
          obtain ⟨hn9, hF⟩ := q_ck hF
          refine va_iald hx hb hK hP 3 0 rfl rfl hn9 dX7_turnArrows_83 ?_
          obtain ⟨q10, hcq10, hF⟩ := q_bd hF
          refine q_Vv (As := [.int (R_from x1_3.toNatClampNeg), .int (R_to x1_3.toNatClampNeg)]) (rest := []) ⟨hx, hb, hml, hown, hts⟩ hA hK hP hD hS (tX7_keepArrow l dC dI cI cZ aS H.size R_width R_reach_3 (R_from x1_3.toNatClampNeg) (R_to x1_3.toNatClampNeg) q10 hcq10) (cwV 2 hts gX7_turnArrows_X7_keepArrow rfl rfl rfl uX7_keepArrow ⟨Nat.le_of_ble_eq_true rfl, Nat.le_of_ble_eq_true rfl⟩) [0, 1, 5] [(true, 0), (true, 1), (false, 2), (false, 3), (false, 4), (true, 2)] (iX7_turnArrows aS cI cZ R_width R_from R_to (upd R_turned_3 s1_3.toNatClampNeg s0_3) q10) rfl rfl rfl rfl rfl 7 0 rfl rfl rfl rfl hl.1 rfl (Nat.le_of_ble_eq_true rfl) dX7_turnArrows_84 ⟨Nat.zero_le _, Nat.zero_le _⟩ (fun H locs hP hD hS => ?_)
          exact JX7_TURNARROWS_87 (upd R_turned_3 s1_3.toNatClampNeg s0_3) q10 x1_3 hF H locs ls hP hD hS (lv_sub hl [0, 1] rfl)
    have JX7_TURNARROWS_52 : ∀ (R_turned_11 : Nat → Int32) (R_reach_11 : Nat → Int32) (x1_11 : Int32) (s0_11 : Int32), jX7_turnArrows_52 R_width R_from R_to R_turned_11 R_reach_11 x1_11 s0_11 = some o → ∀ (H : Heap) (locs : List Loc) (ls : Array Slot), va_P (dC, dI) vwCl (iX7_turnArrows aS cI cZ R_width R_from R_to R_turned_11 R_reach_11) H → va_D A (iX7_turnArrows aS cI cZ R_width R_from R_to R_turned_11 R_reach_11) → va_S A s.heap H locs → lv_has ls 2 [(0, .ref (aS 0)), (1, .int x1_11)] → W p l e (headSpec wsX7_turnArrows (rX7_turnArrows)).room s m args below meth c H locs 0 0 Q (F0 m 52 ls [.int s0_11, .ref (aS 5)]) := by
      intro R_turned_11 R_reach_11 x1_11 s0_11 hF H locs ls hP hD hS hl
      unfold jX7_turnArrows_52 at hF
      refine lv_iconst (v := 0) hx hb dX7_turnArrows_52 (by decide) ?_
      exact JX7_TURNARROWS_53 R_turned_11 R_reach_11 x1_11 0 s0_11 hF H locs ls hP hD hS (lv_sub hl [0, 1] rfl)
    refine lv_iload_n hx hb dX7_turnArrows_10 rfl (lv_at hl 1 rfl) ?_
    refine lv_bipush (v := 24) hx hb dX7_turnArrows_11 (by decide) ?_
    refine lv_icmp_ge (tgt := 93) hx hb dX7_turnArrows_13 (by decide) (fun hc => ?_) (fun hc => ?_)
    · replace hF := q_t hc hF
      exact X1 _ _ (hex _ (Option.some.inj hF).symm) H locs ls hP hD hS (lv_sub hl [] rfl)
    · replace hF := q_f hc hF
      refine lv_aload_n hx hb dX7_turnArrows_16 rfl (lv_at hl 0 rfl) ?_
      refine q_get (ci := 7) (C := RX7) (T := TX7) (N := 6) hx hb hts eX7_turnArrows_X7 hown hK hP 0 rfl rfl 4 (Nat.le_of_ble_eq_true rfl) k1 rfl rfl dX7_turnArrows_17 ?_
      refine lv_iload_n hx hb dX7_turnArrows_20 rfl (lv_at hl 1 rfl) ?_
      refine lv_aload_n hx hb dX7_turnArrows_21 rfl (lv_at hl 0 rfl) ?_
      refine lv_iload_n hx hb dX7_turnArrows_22 rfl (lv_at hl 1 rfl) ?_
      obtain ⟨q12, hcq12, hF⟩ := q_bd hF
      refine q_Vi (As := [.int x1_1]) (rest := [.int x1_1, .ref (aS 5)]) ⟨hx, hb, hml, hown, hts⟩ hA hK hP hD hS (tX7_hasArrow l dC dI cI cZ aS H.size R_from x1_1 q12 hcq12) (cwV 1 hts gX7_turnArrows_X7_hasArrow rfl rfl rfl uX7_hasArrow ⟨Nat.le_of_ble_eq_true rfl, Nat.le_of_ble_eq_true rfl⟩) [0, 2] [(true, 0), (false, 1), (true, 1), (false, 3), (false, 4), (false, 5)] (iX7_turnArrows aS cI cZ R_width R_from R_to R_turned_1 R_reach_1) rfl rfl rfl rfl rfl 7 0 rfl rfl rfl rfl hl.1 rfl (Nat.le_of_ble_eq_true rfl) dX7_turnArrows_23 ⟨Nat.zero_le _, Nat.zero_le _⟩ (fun H locs hP hD hS => ?_)
      refine lv_if_eq (tgt := 52) hx hb dX7_turnArrows_26 (by decide) (fun hc => ?_) (fun hc => ?_)
      · replace hF := q_t hc hF
        exact JX7_TURNARROWS_52 R_turned_1 R_reach_1 x1_1 x1_1 hF H locs ls hP hD hS (lv_sub hl [0, 1] rfl)
      · replace hF := q_f hc hF
        refine lv_aload_n hx hb dX7_turnArrows_29 rfl (lv_at hl 0 rfl) ?_
        refine lv_aload_n hx hb dX7_turnArrows_30 rfl (lv_at hl 0 rfl) ?_
        refine q_get (ci := 7) (C := RX7) (T := TX7) (N := 6) hx hb hts eX7_turnArrows_X7 hown hK hP 0 rfl rfl 3 (Nat.le_of_ble_eq_true rfl) k3 rfl rfl dX7_turnArrows_31 ?_
        refine lv_iload_n hx hb dX7_turnArrows_34 rfl (lv_at hl 1 rfl) ?_
        obtain ⟨hn13, hF⟩ := q_ck hF
        refine va_iald hx hb hK hP 3 0 rfl rfl hn13 dX7_turnArrows_35 ?_
        refine lv_aload_n hx hb dX7_turnArrows_36 rfl (lv_at hl 0 rfl) ?_
        refine q_get (ci := 7) (C := RX7) (T := TX7) (N := 6) hx hb hts eX7_turnArrows_X7 hown hK hP 0 rfl rfl 2 (Nat.le_of_ble_eq_true rfl) k2 rfl rfl dX7_turnArrows_37 ?_
        refine lv_iload_n hx hb dX7_turnArrows_40 rfl (lv_at hl 1 rfl) ?_
        obtain ⟨hn14, hF⟩ := q_ck hF
        refine va_iald hx hb hK hP 2 0 rfl rfl hn14 dX7_turnArrows_41 ?_
        obtain ⟨q15, hcq15, hF⟩ := q_bd hF
        refine q_Vi (As := [.int (R_to x1_1.toNatClampNeg), .int (R_from x1_1.toNatClampNeg)]) (rest := [.int x1_1, .ref (aS 5)]) ⟨hx, hb, hml, hown, hts⟩ hA hK hP hD hS (tX7_reaches l dC dI cI cZ aS H.size R_width R_reach_1 (R_to x1_1.toNatClampNeg) (R_from x1_1.toNatClampNeg) q15 hcq15) (cwV 2 hts gX7_turnArrows_X7_reaches rfl rfl rfl uX7_reaches ⟨Nat.le_of_ble_eq_true rfl, Nat.le_of_ble_eq_true rfl⟩) [0, 1, 5] [(true, 0), (true, 1), (false, 2), (false, 3), (false, 4), (true, 2)] (iX7_turnArrows aS cI cZ R_width R_from R_to R_turned_1 R_reach_1) rfl rfl rfl rfl rfl 7 0 rfl rfl rfl rfl hl.1 rfl (Nat.le_of_ble_eq_true rfl) dX7_turnArrows_42 ⟨Nat.zero_le _, Nat.zero_le _⟩ (fun H locs hP hD hS => ?_)
        refine lv_if_eq (tgt := 52) hx hb dX7_turnArrows_45 (by decide) (fun hc => ?_) (fun hc => ?_)
        · replace hF := q_t hc hF
          exact JX7_TURNARROWS_52 R_turned_1 R_reach_1 x1_1 x1_1 hF H locs ls hP hD hS (lv_sub hl [0, 1] rfl)
        · replace hF := q_f hc hF
          refine lv_iconst (v := 1) hx hb dX7_turnArrows_48 (by decide) ?_
          refine lv_goto (tgt := 53) hx hb dX7_turnArrows_49 (by decide) ?_
          exact JX7_TURNARROWS_53 R_turned_1 R_reach_1 x1_1 1 x1_1 hF H locs ls hP hD hS (lv_sub hl [0, 1] rfl)
  exact L1 (0, R_turned, (fun _ => 0)) hc1 H locs ls hP hD hS (lv_sub hl [1, 0] rfl)
abbrev rX7_putArrow : Room := { frames := 4, cells := 0, slots := 0, locals := 88 }
theorem eX7_putArrow_X7 : ∀ w ∈ u_ws RX7 TX7 6, w ∈ wsX7_putArrow := by decide +kernel
theorem uX7_putArrow : yX7_putArrow.cls = RX7 ∧ yX7_putArrow.cls ≠ "java/lang/invoke/MethodHandle" ∧ yX7_putArrow.cls ≠ "java/lang/invoke/VarHandle" ∧ (parseMethodDescriptor yX7_putArrow.desc).map (fun d => d.parameters.length) = some 3 := by decide +kernel
set_option maxHeartbeats 4000000 in
set_option maxRecDepth 100000 in
theorem tX7_putArrow (l : Launch) (dC : Nat → ClassId) (dI : Nat → Nat → Nat) (cI cZ : ClassId) (aS : Nat → Nat) (sz : Nat) (R_width : Nat → Int32) (R_from : Nat → Int32) (R_to : Nat → Int32) (R_turned : Nat → Int32) (R_reach : Nat → Int32) (p0 : Int32) (p1 : Int32) (p2 : Int32) (res : (Nat → Int32) × (Nat → Int32) × (Nat → Int32) × (Nat → Int32)) (hF : fX7_putArrow R_width R_from R_to R_turned R_reach p0 p1 p2 = some res) : q_Mv l yX7_putArrow wsX7_putArrow rX7_putArrow (dC, dI) (q_ty cI cZ) [.ref (aS 0), .int p0, .int p1, .int p2] (iX7_putArrow aS cI cZ R_width R_from R_to R_turned R_reach) (iX7_putArrow aS cI cZ R_width res.1 res.2.1 res.2.2.1 res.2.2.2) sz := by
  refine q_metv (cc := cX7_putArrow) (maxL := 4) (by decide) rfl (Nat.le_of_ble_eq_true rfl) ?_
  intro p e s m args below meth c Q A H locs ls C hP hD hS hl hret
  obtain ⟨hx, hb, hml, hown, hts, hA, hK⟩ := C
  replace hl : lv_has ls 4 [(0, .ref (aS 0)), (1, .int p0), (2, .int p1), (3, .int p2)] := hl
  have k0 := hts (.fieldLink RX7 18 "RouteLayout$Routes" "from" "[I") (by decide +kernel)
  have k1 := hts (.fieldLink RX7 21 "RouteLayout$Routes" "to" "[I") (by decide +kernel)
  unfold fX7_putArrow at hF
  refine lv_iload_n hx hb dX7_putArrow_0 rfl (lv_at hl 1 rfl) ?_
  refine lv_if_lt (tgt := 44) hx hb dX7_putArrow_1 (by decide) (fun hc => ?_) (fun hc => ?_)
  · replace hF := q_t hc hF
    exact hret H locs ls 44 _ dX7_putArrow_44 (congrArg (fun z : (Nat → Int32) × (Nat → Int32) × (Nat → Int32) × (Nat → Int32) => (iX7_putArrow aS cI cZ R_width z.1 z.2.1 z.2.2.1 z.2.2.2)) (Option.some.inj hF)) hP hD hS
  · replace hF := q_f hc hF
    refine lv_iload_n hx hb dX7_putArrow_4 rfl (lv_at hl 1 rfl) ?_
    refine lv_bipush (v := 24) hx hb dX7_putArrow_5 (by decide) ?_
    refine lv_icmp_ge (tgt := 44) hx hb dX7_putArrow_7 (by decide) (fun hc => ?_) (fun hc => ?_)
    · replace hF := q_t hc hF
      exact hret H locs ls 44 _ dX7_putArrow_44 (congrArg (fun z : (Nat → Int32) × (Nat → Int32) × (Nat → Int32) × (Nat → Int32) => (iX7_putArrow aS cI cZ R_width z.1 z.2.1 z.2.2.1 z.2.2.2)) (Option.some.inj hF)) hP hD hS
    · replace hF := q_f hc hF
      refine lv_aload_n hx hb dX7_putArrow_10 rfl (lv_at hl 0 rfl) ?_
      refine lv_iload_n hx hb dX7_putArrow_11 rfl (lv_at hl 2 rfl) ?_
      obtain ⟨q1, hcq1, hF⟩ := q_bd hF
      refine q_Vi (As := [.int p1]) (rest := []) ⟨hx, hb, hml, hown, hts⟩ hA hK hP hD hS (tX7_hasBox l dC dI cI cZ aS H.size R_width p1 q1 hcq1) (cwV 1 hts gX7_putArrow_X7_hasBox rfl rfl rfl uX7_hasBox ⟨Nat.le_of_ble_eq_true rfl, Nat.le_of_ble_eq_true rfl⟩) [0, 1] [(true, 0), (true, 1), (false, 2), (false, 3), (false, 4), (false, 5)] (iX7_putArrow aS cI cZ R_width R_from R_to R_turned R_reach) rfl rfl rfl rfl rfl 7 0 rfl rfl rfl rfl hl.1 rfl (Nat.le_of_ble_eq_true rfl) dX7_putArrow_12 ⟨Nat.zero_le _, Nat.zero_le _⟩ (fun H locs hP hD hS => ?_)
      refine lv_if_eq (tgt := 44) hx hb dX7_putArrow_15 (by decide) (fun hc => ?_) (fun hc => ?_)
      · replace hF := q_t hc hF
        exact hret H locs ls 44 _ dX7_putArrow_44 (congrArg (fun z : (Nat → Int32) × (Nat → Int32) × (Nat → Int32) × (Nat → Int32) => (iX7_putArrow aS cI cZ R_width z.1 z.2.1 z.2.2.1 z.2.2.2)) (Option.some.inj hF)) hP hD hS
      · replace hF := q_f hc hF
        refine lv_aload_n hx hb dX7_putArrow_18 rfl (lv_at hl 0 rfl) ?_
        refine lv_iload_n hx hb dX7_putArrow_19 rfl (lv_at hl 3 rfl) ?_
        obtain ⟨q2, hcq2, hF⟩ := q_bd hF
        refine q_Vi (As := [.int p2]) (rest := []) ⟨hx, hb, hml, hown, hts⟩ hA hK hP hD hS (tX7_hasBox l dC dI cI cZ aS H.size R_width p2 q2 hcq2) (cwV 1 hts gX7_putArrow_X7_hasBox rfl rfl rfl uX7_hasBox ⟨Nat.le_of_ble_eq_true rfl, Nat.le_of_ble_eq_true rfl⟩) [0, 1] [(true, 0), (true, 1), (false, 2), (false, 3), (false, 4), (false, 5)] (iX7_putArrow aS cI cZ R_width R_from R_to R_turned R_reach) rfl rfl rfl rfl rfl 7 0 rfl rfl rfl rfl hl.1 rfl (Nat.le_of_ble_eq_true rfl) dX7_putArrow_20 ⟨Nat.zero_le _, Nat.zero_le _⟩ (fun H locs hP hD hS => ?_)
        refine lv_if_eq (tgt := 44) hx hb dX7_putArrow_23 (by decide) (fun hc => ?_) (fun hc => ?_)
        · replace hF := q_t hc hF
          exact hret H locs ls 44 _ dX7_putArrow_44 (congrArg (fun z : (Nat → Int32) × (Nat → Int32) × (Nat → Int32) × (Nat → Int32) => (iX7_putArrow aS cI cZ R_width z.1 z.2.1 z.2.2.1 z.2.2.2)) (Option.some.inj hF)) hP hD hS
        · replace hF := q_f hc hF
          refine lv_aload_n hx hb dX7_putArrow_26 rfl (lv_at hl 0 rfl) ?_
          refine q_get (ci := 7) (C := RX7) (T := TX7) (N := 6) hx hb hts eX7_putArrow_X7 hown hK hP 0 rfl rfl 2 (Nat.le_of_ble_eq_true rfl) k0 rfl rfl dX7_putArrow_27 ?_
          refine lv_iload_n hx hb dX7_putArrow_30 rfl (lv_at hl 1 rfl) ?_
          refine lv_iload_n hx hb dX7_putArrow_31 rfl (lv_at hl 2 rfl) ?_
          obtain ⟨hn3, hF⟩ := q_ck hF
          refine q_iast hx hb hK hP hD hS 2 0 (iX7_putArrow aS cI cZ R_width (upd R_from p0.toNatClampNeg p1) R_to R_turned R_reach) rfl rfl hn3 rfl dX7_putArrow_32 (fun H locs hP hD hS => ?_)
          refine lv_aload_n hx hb dX7_putArrow_33 rfl (lv_at hl 0 rfl) ?_
          refine q_get (ci := 7) (C := RX7) (T := TX7) (N := 6) hx hb hts eX7_putArrow_X7 hown hK hP 0 rfl rfl 3 (Nat.le_of_ble_eq_true rfl) k1 rfl rfl dX7_putArrow_34 ?_
          refine lv_iload_n hx hb dX7_putArrow_37 rfl (lv_at hl 1 rfl) ?_
          refine lv_iload_n hx hb dX7_putArrow_38 rfl (lv_at hl 3 rfl) ?_
          obtain ⟨hn4, hF⟩ := q_ck hF
          refine q_iast hx hb hK hP hD hS 3 0 (iX7_putArrow aS cI cZ R_width (upd R_from p0.toNatClampNeg p1) (upd R_to p0.toNatClampNeg p2) R_turned R_reach) rfl rfl hn4 rfl dX7_putArrow_39 (fun H locs hP hD hS => ?_)
          refine lv_aload_n hx hb dX7_putArrow_40 rfl (lv_at hl 0 rfl) ?_
          obtain ⟨q5_0, q5_1, hcq5, hF⟩ := q_bd2 hF
          refine q_Vv (As := []) (rest := []) ⟨hx, hb, hml, hown, hts⟩ hA hK hP hD hS (tX7_turnArrows l dC dI cI cZ aS H.size R_width (upd R_from p0.toNatClampNeg p1) (upd R_to p0.toNatClampNeg p2) R_turned R_reach (q5_0, q5_1) hcq5) (cwV 0 hts gX7_putArrow_X7_turnArrows rfl rfl rfl uX7_turnArrows ⟨Nat.le_of_ble_eq_true rfl, Nat.le_of_ble_eq_true rfl⟩) [0, 1, 2, 3, 4, 5] [(true, 0), (true, 1), (true, 2), (true, 3), (true, 4), (true, 5)] (iX7_putArrow aS cI cZ R_width (upd R_from p0.toNatClampNeg p1) (upd R_to p0.toNatClampNeg p2) q5_0 q5_1) rfl rfl rfl rfl rfl 7 0 rfl rfl rfl rfl hl.1 rfl (Nat.le_of_ble_eq_true rfl) dX7_putArrow_41 ⟨Nat.zero_le _, Nat.zero_le _⟩ (fun H locs hP hD hS => ?_)
          exact hret H locs ls 44 _ dX7_putArrow_44 (congrArg (fun z : (Nat → Int32) × (Nat → Int32) × (Nat → Int32) × (Nat → Int32) => (iX7_putArrow aS cI cZ R_width z.1 z.2.1 z.2.2.1 z.2.2.2)) (Option.some.inj hF)) hP hD hS
