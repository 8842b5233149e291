abbrev iX7_hasBox (aS : Nat → Nat) (cI cZ : ClassId) (R_width : Nat → Int32) : va_W := [((aS 0), .inr (7, [.ref (aS 1), .ref (aS 2), .ref (aS 3), .ref (aS 4), .ref (aS 5), .ref (aS 6)])), ((aS 1), .inl (cI, 16, .inl R_width))]
noncomputable def fX7_hasBox (R_width : Nat → Int32) (p0 : Int32) : Option (Int32) :=
  if p0 < 0 then (
    some 0
  ) else (
    if 16 ≤ p0 then (
      some 0
    ) else (
      if q_in p0 16 then (
      if (R_width p0.toNatClampNeg) ≤ 0 then (
        some 0
      ) else (
        some 1
      )
      ) else none
    )
  )
abbrev rX7_hasBox : Room := { frames := 0, cells := 0, slots := 0, locals := 0 }
theorem eX7_hasBox_X7 : ∀ w ∈ u_ws RX7 TX7 6, w ∈ wsX7_hasBox := by decide +kernel
theorem uX7_hasBox : yX7_hasBox.cls = RX7 ∧ yX7_hasBox.cls ≠ "java/lang/invoke/MethodHandle" ∧ yX7_hasBox.cls ≠ "java/lang/invoke/VarHandle" ∧ (parseMethodDescriptor yX7_hasBox.desc).map (fun d => d.parameters.length) = some 1 := by decide +kernel
set_option maxHeartbeats 4000000 in
set_option maxRecDepth 100000 in
theorem tX7_hasBox (l : Launch) (dC : Nat → ClassId) (dI : Nat → Nat → Nat) (cI cZ : ClassId) (aS : Nat → Nat) (sz : Nat) (R_width : Nat → Int32) (p0 : Int32) (res : Int32) (hF : fX7_hasBox R_width p0 = some res) : q_Mi l yX7_hasBox wsX7_hasBox rX7_hasBox (dC, dI) (q_ty cI cZ) [.ref (aS 0), .int p0] (iX7_hasBox aS cI cZ R_width) (iX7_hasBox aS cI cZ R_width) sz res := by
  refine q_metz (cc := cX7_hasBox) (maxL := 2) (by decide) rfl (Nat.le_of_ble_eq_true rfl) ?_
  intro p e s m args below meth c Q A H locs ls C hP hD hS hl hret
  obtain ⟨hx, hb, hml, hown, hts, hA, hK⟩ := C
  replace hl : lv_has ls 2 [(0, .ref (aS 0)), (1, .int p0)] := hl
  have k0 := hts (.fieldLink RX7 9 "RouteLayout$Routes" "width" "[I") (by decide +kernel)
  unfold fX7_hasBox at hF
  refine lv_iload_n hx hb dX7_hasBox_0 rfl (lv_at hl 1 rfl) ?_
  refine lv_if_lt (tgt := 23) hx hb dX7_hasBox_1 (by decide) (fun hc => ?_) (fun hc => ?_)
  · replace hF := q_t hc hF
    refine lv_iconst (v := 0) hx hb dX7_hasBox_23 (by decide) ?_
    exact hret H locs ls 24 _ _ dX7_hasBox_24 (Or.inl rfl) (Option.some.inj hF) rfl hP hD hS
  · replace hF := q_f hc hF
    refine lv_iload_n hx hb dX7_hasBox_4 rfl (lv_at hl 1 rfl) ?_
    refine lv_bipush (v := 16) hx hb dX7_hasBox_5 (by decide) ?_
    refine lv_icmp_ge (tgt := 23) hx hb dX7_hasBox_7 (by decide) (fun hc => ?_) (fun hc => ?_)
    · replace hF := q_t hc hF
      refine lv_iconst (v := 0) hx hb dX7_hasBox_23 (by decide) ?_
      exact hret H locs ls 24 _ _ dX7_hasBox_24 (Or.inl rfl) (Option.some.inj hF) rfl hP hD hS
    · replace hF := q_f hc hF
      refine lv_aload_n hx hb dX7_hasBox_10 rfl (lv_at hl 0 rfl) ?_
      refine q_get (ci := 7) (C := RX7) (T := TX7) (N := 6) hx hb hts eX7_hasBox_X7 hown hK hP 0 rfl rfl 0 (Nat.le_of_ble_eq_true rfl) k0 rfl rfl dX7_hasBox_11 ?_
      refine lv_iload_n hx hb dX7_hasBox_14 rfl (lv_at hl 1 rfl) ?_
      obtain ⟨hn1, hF⟩ := q_ck hF
      refine va_iald hx hb hK hP 1 0 rfl rfl hn1 dX7_hasBox_15 ?_
      refine lv_if_le (tgt := 23) hx hb dX7_hasBox_16 (by decide) (fun hc => ?_) (fun hc => ?_)
      · replace hF := q_t hc hF
        refine lv_iconst (v := 0) hx hb dX7_hasBox_23 (by decide) ?_
        exact hret H locs ls 24 _ _ dX7_hasBox_24 (Or.inl rfl) (Option.some.inj hF) rfl hP hD hS
      · replace hF := q_f hc hF
        refine lv_iconst (v := 1) hx hb dX7_hasBox_19 (by decide) ?_
        refine lv_goto (tgt := 24) hx hb dX7_hasBox_20 (by decide) ?_
        exact hret H locs ls 24 _ _ dX7_hasBox_24 (Or.inr rfl) (Option.some.inj hF) rfl hP hD hS
abbrev iX7_hasArrow (aS : Nat → Nat) (cI cZ : ClassId) (R_from : Nat → Int32) : va_W := [((aS 0), .inr (7, [.ref (aS 1), .ref (aS 2), .ref (aS 3), .ref (aS 4), .ref (aS 5), .ref (aS 6)])), ((aS 3), .inl (cI, 24, .inl R_from))]
noncomputable def fX7_hasArrow (R_from : Nat → Int32) (p0 : Int32) : Option (Int32) :=
  if p0 < 0 then (
    some 0
  ) else (
    if 24 ≤ p0 then (
      some 0
    ) else (
      if q_in p0 24 then (
      if (R_from p0.toNatClampNeg) = (-1) then (
        some 0
      ) else (
        some 1
      )
      ) else none
    )
  )
abbrev rX7_hasArrow : Room := { frames := 0, cells := 0, slots := 0, locals := 0 }
theorem eX7_hasArrow_X7 : ∀ w ∈ u_ws RX7 TX7 6, w ∈ wsX7_hasArrow := by decide +kernel
theorem uX7_hasArrow : yX7_hasArrow.cls = RX7 ∧ yX7_hasArrow.cls ≠ "java/lang/invoke/MethodHandle" ∧ yX7_hasArrow.cls ≠ "java/lang/invoke/VarHandle" ∧ (parseMethodDescriptor yX7_hasArrow.desc).map (fun d => d.parameters.length) = some 1 := by decide +kernel
set_option maxHeartbeats 4000000 in
set_option maxRecDepth 100000 in
theorem tX7_hasArrow (l : Launch) (dC : Nat → ClassId) (dI : Nat → Nat → Nat) (cI cZ : ClassId) (aS : Nat → Nat) (sz : Nat) (R_from : Nat → Int32) (p0 : Int32) (res : Int32) (hF : fX7_hasArrow R_from p0 = some res) : q_Mi l yX7_hasArrow wsX7_hasArrow rX7_hasArrow (dC, dI) (q_ty cI cZ) [.ref (aS 0), .int p0] (iX7_hasArrow aS cI cZ R_from) (iX7_hasArrow aS cI cZ R_from) sz res := by
  refine q_metz (cc := cX7_hasArrow) (maxL := 2) (by decide) rfl (Nat.le_of_ble_eq_true rfl) ?_
  intro p e s m args below meth c Q A H locs ls C hP hD hS hl hret
  obtain ⟨hx, hb, hml, hown, hts, hA, hK⟩ := C
  replace hl : lv_has ls 2 [(0, .ref (aS 0)), (1, .int p0)] := hl
  have k0 := hts (.fieldLink RX7 18 "RouteLayout$Routes" "from" "[I") (by decide +kernel)
  unfold fX7_hasArrow at hF
  refine lv_iload_n hx hb dX7_hasArrow_0 rfl (lv_at hl 1 rfl) ?_
  refine lv_if_lt (tgt := 24) hx hb dX7_hasArrow_1 (by decide) (fun hc => ?_) (fun hc => ?_)
  · replace hF := q_t hc hF
    refine lv_iconst (v := 0) hx hb dX7_hasArrow_24 (by decide) ?_
    exact hret H locs ls 25 _ _ dX7_hasArrow_25 (Or.inl rfl) (Option.some.inj hF) rfl hP hD hS
  · replace hF := q_f hc hF
    refine lv_iload_n hx hb dX7_hasArrow_4 rfl (lv_at hl 1 rfl) ?_
    refine lv_bipush (v := 24) hx hb dX7_hasArrow_5 (by decide) ?_
    refine lv_icmp_ge (tgt := 24) hx hb dX7_hasArrow_7 (by decide) (fun hc => ?_) (fun hc => ?_)
    · replace hF := q_t hc hF
      refine lv_iconst (v := 0) hx hb dX7_hasArrow_24 (by decide) ?_
      exact hret H locs ls 25 _ _ dX7_hasArrow_25 (Or.inl rfl) (Option.some.inj hF) rfl hP hD hS
    · replace hF := q_f hc hF
      refine lv_aload_n hx hb dX7_hasArrow_10 rfl (lv_at hl 0 rfl) ?_
      refine q_get (ci := 7) (C := RX7) (T := TX7) (N := 6) hx hb hts eX7_hasArrow_X7 hown hK hP 0 rfl rfl 2 (Nat.le_of_ble_eq_true rfl) k0 rfl rfl dX7_hasArrow_11 ?_
      refine lv_iload_n hx hb dX7_hasArrow_14 rfl (lv_at hl 1 rfl) ?_
      obtain ⟨hn1, hF⟩ := q_ck hF
      refine va_iald hx hb hK hP 1 0 rfl rfl hn1 dX7_hasArrow_15 ?_
      refine lv_iconst (v := (-1)) hx hb dX7_hasArrow_16 (by decide) ?_
      refine lv_icmp_eq (tgt := 24) hx hb dX7_hasArrow_17 (by decide) (fun hc => ?_) (fun hc => ?_)
      · replace hF := q_t hc hF
        refine lv_iconst (v := 0) hx hb dX7_hasArrow_24 (by decide) ?_
        exact hret H locs ls 25 _ _ dX7_hasArrow_25 (Or.inl rfl) (Option.some.inj hF) rfl hP hD hS
      · replace hF := q_f hc hF
        refine lv_iconst (v := 1) hx hb dX7_hasArrow_20 (by decide) ?_
        refine lv_goto (tgt := 25) hx hb dX7_hasArrow_21 (by decide) ?_
        exact hret H locs ls 25 _ _ dX7_hasArrow_25 (Or.inr rfl) (Option.some.inj hF) rfl hP hD hS
abbrev iX7_widthOf (aS : Nat → Nat) (cI cZ : ClassId) (R_width : Nat → Int32) : va_W := [((aS 0), .inr (7, [.ref (aS 1), .ref (aS 2), .ref (aS 3), .ref (aS 4), .ref (aS 5), .ref (aS 6)])), ((aS 1), .inl (cI, 16, .inl R_width))]
noncomputable def fX7_widthOf (R_width : Nat → Int32) (p0 : Int32) : Option (Int32) :=
  (fX7_hasBox R_width p0).bind (fun q1 =>
  if q1 = 0 then (
    some 1
  ) else (
    if q_in p0 16 then (
    some (R_width p0.toNatClampNeg)
    ) else none
  )
  )
abbrev rX7_widthOf : Room := { frames := 1, cells := 0, slots := 0, locals := 21 }
theorem eX7_widthOf_X7 : ∀ w ∈ u_ws RX7 TX7 6, w ∈ wsX7_widthOf := by decide +kernel
theorem uX7_widthOf : yX7_widthOf.cls = RX7 ∧ yX7_widthOf.cls ≠ "java/lang/invoke/MethodHandle" ∧ yX7_widthOf.cls ≠ "java/lang/invoke/VarHandle" ∧ (parseMethodDescriptor yX7_widthOf.desc).map (fun d => d.parameters.length) = some 1 := by decide +kernel
set_option maxHeartbeats 4000000 in
set_option maxRecDepth 100000 in
theorem tX7_widthOf (l : Launch) (dC : Nat → ClassId) (dI : Nat → Nat → Nat) (cI cZ : ClassId) (aS : Nat → Nat) (sz : Nat) (R_width : Nat → Int32) (p0 : Int32) (res : Int32) (hF : fX7_widthOf R_width p0 = some res) : q_Mi l yX7_widthOf wsX7_widthOf rX7_widthOf (dC, dI) (q_ty cI cZ) [.ref (aS 0), .int p0] (iX7_widthOf aS cI cZ R_width) (iX7_widthOf aS cI cZ R_width) sz res := by
  refine q_meti (cc := cX7_widthOf) (maxL := 2) (by decide) rfl (Nat.le_of_ble_eq_true rfl) ?_
  intro p e s m args below meth c Q A H locs ls C hP hD hS hl hret
  obtain ⟨hx, hb, hml, hown, hts, hA, hK⟩ := C
  replace hl : lv_has ls 2 [(0, .ref (aS 0)), (1, .int p0)] := hl
  have k0 := hts (.fieldLink RX7 9 "RouteLayout$Routes" "width" "[I") (by decide +kernel)
  unfold fX7_widthOf at hF
  refine lv_aload_n hx hb dX7_widthOf_0 rfl (lv_at hl 0 rfl) ?_
  refine lv_iload_n hx hb dX7_widthOf_1 rfl (lv_at hl 1 rfl) ?_
  obtain ⟨q1, hcq1, hF⟩ := q_bd hF
  refine q_Vi (As := [.int p0]) (rest := []) ⟨hx, hb, hml, hown, hts⟩ hA hK hP hD hS (tX7_hasBox l dC dI cI cZ aS H.size R_width p0 q1 hcq1) (cwV 1 hts gX7_widthOf_X7_hasBox rfl rfl rfl uX7_hasBox ⟨Nat.le_of_ble_eq_true rfl, Nat.le_of_ble_eq_true rfl⟩) [0, 1] (iX7_widthOf aS cI cZ R_width) rfl rfl rfl rfl 7 0 rfl rfl rfl rfl hl.1 rfl (Nat.le_of_ble_eq_true rfl) dX7_widthOf_2 ⟨Nat.zero_le _, Nat.zero_le _⟩ (fun H locs hP hD hS => ?_)
  refine lv_if_eq (tgt := 17) hx hb dX7_widthOf_5 (by decide) (fun hc => ?_) (fun hc => ?_)
  · replace hF := q_t hc hF
    refine lv_iconst (v := 1) hx hb dX7_widthOf_17 (by decide) ?_
    exact hret H locs ls 18 _ _ dX7_widthOf_18 (Option.some.inj hF) rfl hP hD hS
  · replace hF := q_f hc hF
    refine lv_aload_n hx hb dX7_widthOf_8 rfl (lv_at hl 0 rfl) ?_
    refine q_get (ci := 7) (C := RX7) (T := TX7) (N := 6) hx hb hts eX7_widthOf_X7 hown hK hP 0 rfl rfl 0 (Nat.le_of_ble_eq_true rfl) k0 rfl rfl dX7_widthOf_9 ?_
    refine lv_iload_n hx hb dX7_widthOf_12 rfl (lv_at hl 1 rfl) ?_
    obtain ⟨hn2, hF⟩ := q_ck hF
    refine va_iald hx hb hK hP 1 0 rfl rfl hn2 dX7_widthOf_13 ?_
    refine lv_goto (tgt := 18) hx hb dX7_widthOf_14 (by decide) ?_
    exact hret H locs ls 18 _ _ dX7_widthOf_18 (Option.some.inj hF) rfl hP hD hS
abbrev iX7_boxes (aS : Nat → Nat) (cI cZ : ClassId) (R_width : Nat → Int32) : va_W := [((aS 0), .inr (7, [.ref (aS 1), .ref (aS 2), .ref (aS 3), .ref (aS 4), .ref (aS 5), .ref (aS 6)])), ((aS 1), .inl (cI, 16, .inl R_width))]
noncomputable def jX7_boxes_21 (x1 : Int32) (x2 : Int32) : Option ((Int32 × Int32) ⊕ (Int32)) :=
  some (.inl (x1, (x2 + 1)))
noncomputable def bX7_boxes_4 (R_width : Nat → Int32) (x1 : Int32) (x2 : Int32) : Option ((Int32 × Int32) ⊕ (Int32)) :=
  if 16 ≤ x2 then (
    some (.inr x1)
  ) else (
    (fX7_hasBox R_width x2).bind (fun q2 =>
    if q2 = 0 then (
      jX7_boxes_21 x1 x2
    ) else (
      jX7_boxes_21 (x1 + 1) x2
    )
    )
  )
noncomputable def fX7_boxes (R_width : Nat → Int32) : Option (Int32) :=
  (q_lo (fun (st : Int32 × Int32) => bX7_boxes_4 R_width st.1 st.2) (0, 0)).bind (fun q1 =>
    some q1)
abbrev rX7_boxes : Room := { frames := 1, cells := 0, slots := 0, locals := 21 }
theorem uX7_boxes : yX7_boxes.cls = RX7 ∧ yX7_boxes.cls ≠ "java/lang/invoke/MethodHandle" ∧ yX7_boxes.cls ≠ "java/lang/invoke/VarHandle" ∧ (parseMethodDescriptor yX7_boxes.desc).map (fun d => d.parameters.length) = some 0 := by decide +kernel
set_option maxHeartbeats 4000000 in
set_option maxRecDepth 100000 in
theorem tX7_boxes (l : Launch) (dC : Nat → ClassId) (dI : Nat → Nat → Nat) (cI cZ : ClassId) (aS : Nat → Nat) (sz : Nat) (R_width : Nat → Int32) (res : Int32) (hF : fX7_boxes R_width = some res) : q_Mi l yX7_boxes wsX7_boxes rX7_boxes (dC, dI) (q_ty cI cZ) [.ref (aS 0)] (iX7_boxes aS cI cZ R_width) (iX7_boxes aS cI cZ R_width) sz res := by
  refine q_meti (cc := cX7_boxes) (maxL := 3) (by decide) rfl (Nat.le_of_ble_eq_true rfl) ?_
  intro p e s m args below meth c Q A H locs ls C hP hD hS hl hret
  obtain ⟨hx, hb, hml, hown, hts, hA, hK⟩ := C
  replace hl : lv_has ls 3 [(0, .ref (aS 0))] := hl
  unfold fX7_boxes at hF
  refine lv_iconst (v := 0) hx hb dX7_boxes_0 (by decide) ?_
  refine lv_istore_n (lv' := [(1, .int 0), (0, .ref (aS 0))]) hx hb dX7_boxes_1 rfl hl (by decide) rfl (fun ls hl => ?_)
  refine lv_iconst (v := 0) hx hb dX7_boxes_2 (by decide) ?_
  refine lv_istore_n (lv' := [(2, .int 0), (1, .int 0), (0, .ref (aS 0))]) hx hb dX7_boxes_3 rfl hl (by decide) rfl (fun ls hl => ?_)
  obtain ⟨q1, hc1, hF⟩ := q_bd hF
  have X1 : ∀ u1 : Int32, u1 = q1 → ∀ (H : Heap) (locs : List Loc) (ls : Array Slot), va_P (dC, dI) vwCl (iX7_boxes aS cI cZ R_width) H → va_D A (iX7_boxes aS cI cZ R_width) → va_S A s.heap H locs → lv_has ls 3 [(1, .int u1)] → W p l e (headSpec wsX7_boxes rX7_boxes).room s m args below meth c H locs 0 0 Q (F0 m 27 ls []) := by
    intro u1 hu H locs ls hP hD hS hl
    subst hu
    refine lv_iload_n hx hb dX7_boxes_27 rfl (lv_at hl 0 rfl) ?_
    exact hret H locs ls 28 _ _ dX7_boxes_28 (Option.some.inj hF) rfl hP hD hS
  have L1 : ∀ st : Int32 × Int32, q_lo (fun (st : Int32 × Int32) => bX7_boxes_4 R_width st.1 st.2) st = some q1 → ∀ (H : Heap) (locs : List Loc) (ls : Array Slot), va_P (dC, dI) vwCl (iX7_boxes aS cI cZ R_width) H → va_D A (iX7_boxes aS cI cZ R_width) → va_S A s.heap H locs → lv_has ls 3 [(0, .ref (aS 0)), (1, .int st.1), (2, .int st.2)] → W p l e (headSpec wsX7_boxes rX7_boxes).room s m args below meth c H locs 0 0 Q (F0 m 4 ls []) := by
    intro st hst
    refine q_walk ?_ st hst
    clear hst st hF
    intro st o hF hin hex H locs ls hP hD hS hl
    obtain ⟨x1, x2⟩ := st
    replace hF : bX7_boxes_4 R_width x1 x2 = some o := hF
    replace hP : va_P (dC, dI) vwCl (iX7_boxes aS cI cZ R_width) H := hP
    replace hD : va_D A (iX7_boxes aS cI cZ R_width) := hD
    replace hl : lv_has ls 3 [(0, .ref (aS 0)), (1, .int x1), (2, .int x2)] := hl
    unfold bX7_boxes_4 at hF
    have JX7_BOXES_21 : ∀ (x1 : Int32) (x2 : Int32), jX7_boxes_21 x1 x2 = some o → ∀ (H : Heap) (locs : List Loc) (ls : Array Slot), va_P (dC, dI) vwCl (iX7_boxes aS cI cZ R_width) H → va_D A (iX7_boxes aS cI cZ R_width) → va_S A s.heap H locs → lv_has ls 3 [(0, .ref (aS 0)), (1, .int x1), (2, .int x2)] → W p l e (headSpec wsX7_boxes rX7_boxes).room s m args below meth c H locs 0 0 Q (F0 m 21 ls []) := by
      intro x1 x2 hF H locs ls hP hD hS hl
      unfold jX7_boxes_21 at hF
      refine lv_iinc (v := (x2 + 1)) (lv' := [(2, .int (x2 + 1)), (0, .ref (aS 0)), (1, .int x1)]) hx hb dX7_boxes_21 hl (k := 2) rfl rfl (by decide) rfl (fun ls hl => ?_)
      refine lv_goto (tgt := 4) hx hb dX7_boxes_24 (by decide) ?_
      exact hin _ (Option.some.inj hF).symm H locs ls hP hD hS (lv_sub hl [1, 2, 0] rfl)
    refine lv_iload_n hx hb dX7_boxes_4 rfl (lv_at hl 2 rfl) ?_
    refine lv_bipush (v := 16) hx hb dX7_boxes_5 (by decide) ?_
    refine lv_icmp_ge (tgt := 27) hx hb dX7_boxes_7 (by decide) (fun hc => ?_) (fun hc => ?_)
    · replace hF := q_t hc hF
      exact X1 _ (hex _ (Option.some.inj hF).symm) H locs ls hP hD hS (lv_sub hl [1] rfl)
    · replace hF := q_f hc hF
      refine lv_aload_n hx hb dX7_boxes_10 rfl (lv_at hl 0 rfl) ?_
      refine lv_iload_n hx hb dX7_boxes_11 rfl (lv_at hl 2 rfl) ?_
      obtain ⟨q2, hcq2, hF⟩ := q_bd hF
      refine q_Vi (As := [.int x2]) (rest := []) ⟨hx, hb, hml, hown, hts⟩ hA hK hP hD hS (tX7_hasBox l dC dI cI cZ aS H.size R_width x2 q2 hcq2) (cwV 1 hts gX7_boxes_X7_hasBox rfl rfl rfl uX7_hasBox ⟨Nat.le_of_ble_eq_true rfl, Nat.le_of_ble_eq_true rfl⟩) [0, 1] (iX7_boxes aS cI cZ R_width) rfl rfl rfl rfl 7 0 rfl rfl rfl rfl hl.1 rfl (Nat.le_of_ble_eq_true rfl) dX7_boxes_12 ⟨Nat.zero_le _, Nat.zero_le _⟩ (fun H locs hP hD hS => ?_)
      refine lv_if_eq (tgt := 21) hx hb dX7_boxes_15 (by decide) (fun hc => ?_) (fun hc => ?_)
      · replace hF := q_t hc hF
        exact JX7_BOXES_21 x1 x2 hF H locs ls hP hD hS (lv_sub hl [0, 1, 2] rfl)
      · replace hF := q_f hc hF
        refine lv_iinc (v := (x1 + 1)) (lv' := [(1, .int (x1 + 1)), (0, .ref (aS 0)), (2, .int x2)]) hx hb dX7_boxes_18 hl (k := 1) rfl rfl (by decide) rfl (fun ls hl => ?_)
        exact JX7_BOXES_21 (x1 + 1) x2 hF H locs ls hP hD hS (lv_sub hl [1, 0, 2] rfl)
  exact L1 (0, 0) hc1 H locs ls hP hD hS (lv_sub hl [2, 1, 0] rfl)
abbrev iX4_sizeOf (aO : Nat → Nat) (cI cZ : ClassId) (O_layers : Int32) (O_size : Nat → Int32) : va_W := [((aO 0), .inr (4, [.int O_layers, .ref (aO 1), .ref (aO 2), .ref (aO 3), .ref (aO 4)])), ((aO 1), .inl (cI, 24, .inl O_size))]
noncomputable def fX4_sizeOf (O_layers : Int32) (O_size : Nat → Int32) (p0 : Int32) : Option (Int32) :=
  if p0 < 0 then (
    some 0
  ) else (
    if O_layers ≤ p0 then (
      some 0
    ) else (
      if 24 ≤ p0 then (
        some 0
      ) else (
        if q_in p0 24 then (
        some (O_size p0.toNatClampNeg)
        ) else none
      )
    )
  )
abbrev rX4_sizeOf : Room := { frames := 0, cells := 0, slots := 0, locals := 0 }
theorem eX4_sizeOf_X4 : ∀ w ∈ u_ws RX4 TX4 5, w ∈ wsX4_sizeOf := by decide +kernel
theorem uX4_sizeOf : yX4_sizeOf.cls = RX4 ∧ yX4_sizeOf.cls ≠ "java/lang/invoke/MethodHandle" ∧ yX4_sizeOf.cls ≠ "java/lang/invoke/VarHandle" ∧ (parseMethodDescriptor yX4_sizeOf.desc).map (fun d => d.parameters.length) = some 1 := by decide +kernel
set_option maxHeartbeats 4000000 in
set_option maxRecDepth 100000 in
theorem tX4_sizeOf (l : Launch) (dC : Nat → ClassId) (dI : Nat → Nat → Nat) (cI cZ : ClassId) (aO : Nat → Nat) (sz : Nat) (O_layers : Int32) (O_size : Nat → Int32) (p0 : Int32) (res : Int32) (hF : fX4_sizeOf O_layers O_size p0 = some res) : q_Mi l yX4_sizeOf wsX4_sizeOf rX4_sizeOf (dC, dI) (q_ty cI cZ) [.ref (aO 0), .int p0] (iX4_sizeOf aO cI cZ O_layers O_size) (iX4_sizeOf aO cI cZ O_layers O_size) sz res := by
  refine q_meti (cc := cX4_sizeOf) (maxL := 2) (by decide) rfl (Nat.le_of_ble_eq_true rfl) ?_
  intro p e s m args below meth c Q A H locs ls C hP hD hS hl hret
  obtain ⟨hx, hb, hml, hown, hts, hA, hK⟩ := C
  replace hl : lv_has ls 2 [(0, .ref (aO 0)), (1, .int p0)] := hl
  have k0 := hts (.fieldLink RX4 38 "RouteLayout$Order" "layers" "I") (by decide +kernel)
  have k1 := hts (.fieldLink RX4 9 "RouteLayout$Order" "size" "[I") (by decide +kernel)
  unfold fX4_sizeOf at hF
  refine lv_iload_n hx hb dX4_sizeOf_0 rfl (lv_at hl 1 rfl) ?_
  refine lv_if_lt (tgt := 27) hx hb dX4_sizeOf_1 (by decide) (fun hc => ?_) (fun hc => ?_)
  · replace hF := q_t hc hF
    refine lv_iconst (v := 0) hx hb dX4_sizeOf_27 (by decide) ?_
    exact hret H locs ls 28 _ _ dX4_sizeOf_28 (Option.some.inj hF) rfl hP hD hS
  · replace hF := q_f hc hF
    refine lv_iload_n hx hb dX4_sizeOf_4 rfl (lv_at hl 1 rfl) ?_
    refine lv_aload_n hx hb dX4_sizeOf_5 rfl (lv_at hl 0 rfl) ?_
    refine q_get (ci := 4) (C := RX4) (T := TX4) (N := 5) hx hb hts eX4_sizeOf_X4 hown hK hP 0 rfl rfl 0 (Nat.le_of_ble_eq_true rfl) k0 rfl rfl dX4_sizeOf_6 ?_
    refine lv_icmp_ge (tgt := 27) hx hb dX4_sizeOf_9 (by decide) (fun hc => ?_) (fun hc => ?_)
    · replace hF := q_t hc hF
      refine lv_iconst (v := 0) hx hb dX4_sizeOf_27 (by decide) ?_
      exact hret H locs ls 28 _ _ dX4_sizeOf_28 (Option.some.inj hF) rfl hP hD hS
    · replace hF := q_f hc hF
      refine lv_iload_n hx hb dX4_sizeOf_12 rfl (lv_at hl 1 rfl) ?_
      refine lv_bipush (v := 24) hx hb dX4_sizeOf_13 (by decide) ?_
      refine lv_icmp_ge (tgt := 27) hx hb dX4_sizeOf_15 (by decide) (fun hc => ?_) (fun hc => ?_)
      · replace hF := q_t hc hF
        refine lv_iconst (v := 0) hx hb dX4_sizeOf_27 (by decide) ?_
        exact hret H locs ls 28 _ _ dX4_sizeOf_28 (Option.some.inj hF) rfl hP hD hS
      · replace hF := q_f hc hF
        refine lv_aload_n hx hb dX4_sizeOf_18 rfl (lv_at hl 0 rfl) ?_
        refine q_get (ci := 4) (C := RX4) (T := TX4) (N := 5) hx hb hts eX4_sizeOf_X4 hown hK hP 0 rfl rfl 1 (Nat.le_of_ble_eq_true rfl) k1 rfl rfl dX4_sizeOf_19 ?_
        refine lv_iload_n hx hb dX4_sizeOf_22 rfl (lv_at hl 1 rfl) ?_
        obtain ⟨hn1, hF⟩ := q_ck hF
        refine va_iald hx hb hK hP 1 0 rfl rfl hn1 dX4_sizeOf_23 ?_
        refine lv_goto (tgt := 28) hx hb dX4_sizeOf_24 (by decide) ?_
        exact hret H locs ls 28 _ _ dX4_sizeOf_28 (Option.some.inj hF) rfl hP hD hS
abbrev iX4_itemIn (aO : Nat → Nat) (cI cZ : ClassId) (O_layers : Int32) (O_size : Nat → Int32) (O_rows : Nat → Int32) : va_W := [((aO 0), .inr (4, [.int O_layers, .ref (aO 1), .ref (aO 2), .ref (aO 3), .ref (aO 4)])), ((aO 1), .inl (cI, 24, .inl O_size)), ((aO 2), .inl (cI, 960, .inl O_rows))]
noncomputable def jX4_itemIn_18 (O_rows : Nat → Int32) (x1 : Int32) (x2 : Int32) (s0 : Int32) : Option (Int32) :=
  if s0 = 0 then (
    some (-1)
  ) else (
    if q_in ((x1 * 40) + x2) 960 then (
    some (O_rows ((x1 * 40) + x2).toNatClampNeg)
    ) else none
  )
noncomputable def jX4_itemIn_17 (O_rows : Nat → Int32) (x1 : Int32) (x2 : Int32) : Option (Int32) :=
  jX4_itemIn_18 O_rows x1 x2 0
noncomputable def fX4_itemIn (O_layers : Int32) (O_size : Nat → Int32) (O_rows : Nat → Int32) (p0 : Int32) (p1 : Int32) : Option (Int32) :=
  if p1 < 0 then (
    jX4_itemIn_17 O_rows p0 p1
  ) else (
    (fX4_sizeOf O_layers O_size p0).bind (fun q2 =>
    if q2 ≤ p1 then (
      jX4_itemIn_17 O_rows p0 p1
    ) else (
      jX4_itemIn_18 O_rows p0 p1 1
    )
    )
  )
abbrev rX4_itemIn : Room := { frames := 1, cells := 0, slots := 0, locals := 21 }
theorem eX4_itemIn_X4 : ∀ w ∈ u_ws RX4 TX4 5, w ∈ wsX4_itemIn := by decide +kernel
theorem uX4_itemIn : yX4_itemIn.cls = RX4 ∧ yX4_itemIn.cls ≠ "java/lang/invoke/MethodHandle" ∧ yX4_itemIn.cls ≠ "java/lang/invoke/VarHandle" ∧ (parseMethodDescriptor yX4_itemIn.desc).map (fun d => d.parameters.length) = some 2 := by decide +kernel
set_option maxHeartbeats 4000000 in
set_option maxRecDepth 100000 in
theorem tX4_itemIn (l : Launch) (dC : Nat → ClassId) (dI : Nat → Nat → Nat) (cI cZ : ClassId) (aO : Nat → Nat) (sz : Nat) (O_layers : Int32) (O_size : Nat → Int32) (O_rows : Nat → Int32) (p0 : Int32) (p1 : Int32) (res : Int32) (hF : fX4_itemIn O_layers O_size O_rows p0 p1 = some res) : q_Mi l yX4_itemIn wsX4_itemIn rX4_itemIn (dC, dI) (q_ty cI cZ) [.ref (aO 0), .int p0, .int p1] (iX4_itemIn aO cI cZ O_layers O_size O_rows) (iX4_itemIn aO cI cZ O_layers O_size O_rows) sz res := by
  refine q_meti (cc := cX4_itemIn) (maxL := 4) (by decide) rfl (Nat.le_of_ble_eq_true rfl) ?_
  intro p e s m args below meth c Q A H locs ls C hP hD hS hl hret
  obtain ⟨hx, hb, hml, hown, hts, hA, hK⟩ := C
  replace hl : lv_has ls 4 [(0, .ref (aO 0)), (1, .int p0), (2, .int p1)] := hl
  have k0 := hts (.fieldLink RX4 15 "RouteLayout$Order" "rows" "[I") (by decide +kernel)
  unfold fX4_itemIn at hF
  have JX4_ITEMIN_18 : ∀ (O_rows : Nat → Int32) (x1 : Int32) (x2 : Int32) (s0 : Int32), jX4_itemIn_18 O_rows x1 x2 s0 = some res → ∀ (H : Heap) (locs : List Loc) (ls : Array Slot), va_P (dC, dI) vwCl (iX4_itemIn aO cI cZ O_layers O_size O_rows) H → va_D A (iX4_itemIn aO cI cZ O_layers O_size O_rows) → va_S A s.heap H locs → lv_has ls 4 [(0, .ref (aO 0)), (1, .int x1), (2, .int x2)] → W p l e (headSpec wsX4_itemIn rX4_itemIn).room s m args below meth c H locs 0 0 Q (F0 m 18 ls [.int s0]) := by
    intro O_rows x1 x2 s0 hF H locs ls hP hD hS hl
    unfold jX4_itemIn_18 at hF
    refine lv_istore_n (lv' := [(3, .int s0), (0, .ref (aO 0)), (1, .int x1), (2, .int x2)]) hx hb dX4_itemIn_18 rfl hl (by decide) rfl (fun ls hl => ?_)
    refine lv_iload_n hx hb dX4_itemIn_19 rfl (lv_at hl 0 rfl) ?_
    refine lv_if_eq (tgt := 37) hx hb dX4_itemIn_20 (by decide) (fun hc => ?_) (fun hc => ?_)
    · replace hF := q_t hc hF
      refine lv_iconst (v := (-1)) hx hb dX4_itemIn_37 (by decide) ?_
      exact hret H locs ls 38 _ _ dX4_itemIn_38 (Option.some.inj hF) rfl hP hD hS
    · replace hF := q_f hc hF
      refine lv_aload_n hx hb dX4_itemIn_23 rfl (lv_at hl 1 rfl) ?_
      refine q_get (ci := 4) (C := RX4) (T := TX4) (N := 5) hx hb hts eX4_itemIn_X4 hown hK hP 0 rfl rfl 2 (Nat.le_of_ble_eq_true rfl) k0 rfl rfl dX4_itemIn_24 ?_
      refine lv_iload_n hx hb dX4_itemIn_27 rfl (lv_at hl 2 rfl) ?_
      refine lv_bipush (v := 40) hx hb dX4_itemIn_28 (by decide) ?_
      refine lv_imul hx hb dX4_itemIn_30 ?_
      refine lv_iload_n hx hb dX4_itemIn_31 rfl (lv_at hl 3 rfl) ?_
      refine lv_iadd hx hb dX4_itemIn_32 ?_
      obtain ⟨hn1, hF⟩ := q_ck hF
      refine va_iald hx hb hK hP 2 0 rfl rfl hn1 dX4_itemIn_33 ?_
      refine lv_goto (tgt := 38) hx hb dX4_itemIn_34 (by decide) ?_
      exact hret H locs ls 38 _ _ dX4_itemIn_38 (Option.some.inj hF) rfl hP hD hS
  have JX4_ITEMIN_17 : ∀ (O_rows : Nat → Int32) (x1 : Int32) (x2 : Int32), jX4_itemIn_17 O_rows x1 x2 = some res → ∀ (H : Heap) (locs : List Loc) (ls : Array Slot), va_P (dC, dI) vwCl (iX4_itemIn aO cI cZ O_layers O_size O_rows) H → va_D A (iX4_itemIn aO cI cZ O_layers O_size O_rows) → va_S A s.heap H locs → lv_has ls 4 [(0, .ref (aO 0)), (1, .int x1), (2, .int x2)] → W p l e (headSpec wsX4_itemIn rX4_itemIn).room s m args below meth c H locs 0 0 Q (F0 m 17 ls []) := by
    intro O_rows x1 x2 hF H locs ls hP hD hS hl
    unfold jX4_itemIn_17 at hF
    refine lv_iconst (v := 0) hx hb dX4_itemIn_17 (by decide) ?_
    exact JX4_ITEMIN_18 O_rows x1 x2 0 hF H locs ls hP hD hS (lv_sub hl [0, 1, 2] rfl)
  refine lv_iload_n hx hb dX4_itemIn_0 rfl (lv_at hl 2 rfl) ?_
  refine lv_if_lt (tgt := 17) hx hb dX4_itemIn_1 (by decide) (fun hc => ?_) (fun hc => ?_)
  · replace hF := q_t hc hF
    exact JX4_ITEMIN_17 O_rows p0 p1 hF H locs ls hP hD hS (lv_sub hl [0, 1, 2] rfl)
  · replace hF := q_f hc hF
    refine lv_iload_n hx hb dX4_itemIn_4 rfl (lv_at hl 2 rfl) ?_
    refine lv_aload_n hx hb dX4_itemIn_5 rfl (lv_at hl 0 rfl) ?_
    refine lv_iload_n hx hb dX4_itemIn_6 rfl (lv_at hl 1 rfl) ?_
    obtain ⟨q2, hcq2, hF⟩ := q_bd hF
    refine q_Vi (As := [.int p0]) (rest := [.int p1]) ⟨hx, hb, hml, hown, hts⟩ hA hK hP hD hS (tX4_sizeOf l dC dI cI cZ aO H.size O_layers O_size p0 q2 hcq2) (cwV 1 hts gX4_itemIn_X4_sizeOf rfl rfl rfl uX4_sizeOf ⟨Nat.le_of_ble_eq_true rfl, Nat.le_of_ble_eq_true rfl⟩) [0, 1] (iX4_itemIn aO cI cZ O_layers O_size O_rows) rfl rfl rfl rfl 4 0 rfl rfl rfl rfl hl.1 rfl (Nat.le_of_ble_eq_true rfl) dX4_itemIn_7 ⟨Nat.zero_le _, Nat.zero_le _⟩ (fun H locs hP hD hS => ?_)
    refine lv_icmp_ge (tgt := 17) hx hb dX4_itemIn_10 (by decide) (fun hc => ?_) (fun hc => ?_)
    · replace hF := q_t hc hF
      exact JX4_ITEMIN_17 O_rows p0 p1 hF H locs ls hP hD hS (lv_sub hl [0, 1, 2] rfl)
    · replace hF := q_f hc hF
      refine lv_iconst (v := 1) hx hb dX4_itemIn_13 (by decide) ?_
      refine lv_goto (tgt := 18) hx hb dX4_itemIn_14 (by decide) ?_
      exact JX4_ITEMIN_18 O_rows p0 p1 1 hF H locs ls hP hD hS (lv_sub hl [0, 1, 2] rfl)
abbrev iX4_put (aO : Nat → Nat) (cI cZ : ClassId) (O_layers : Int32) (O_size : Nat → Int32) (O_rows : Nat → Int32) (O_places : Nat → Int32) (O_home : Nat → Int32) : va_W := [((aO 0), .inr (4, [.int O_layers, .ref (aO 1), .ref (aO 2), .ref (aO 3), .ref (aO 4)])), ((aO 1), .inl (cI, 24, .inl O_size)), ((aO 2), .inl (cI, 960, .inl O_rows)), ((aO 3), .inl (cI, 960, .inl O_places)), ((aO 4), .inl (cI, 16, .inl O_home))]
noncomputable def fX4_put (O_layers : Int32) (O_size : Nat → Int32) (O_rows : Nat → Int32) (O_places : Nat → Int32) (O_home : Nat → Int32) (p0 : Int32) (p1 : Int32) (p2 : Int32) : Option ((Nat → Int32) × (Nat → Int32) × (Nat → Int32)) :=
  if p1 < 0 then (
    some (O_rows, O_places, O_home)
  ) else (
    (fX4_sizeOf O_layers O_size p0).bind (fun q1 =>
    if q1 ≤ p1 then (
      some (O_rows, O_places, O_home)
    ) else (
      if p2 < 0 then (
        some (O_rows, O_places, O_home)
      ) else (
        if p2 < 40 then (
          if q_in ((p0 * 40) + p1) 960 then (
          if q_in ((p0 * 40) + p2) 960 then (
          if 16 ≤ p2 then (
            some ((upd O_rows ((p0 * 40) + p1).toNatClampNeg p2), (upd O_places ((p0 * 40) + p2).toNatClampNeg p1), O_home)
          ) else (
            if q_in p2 16 then (
            some ((upd O_rows ((p0 * 40) + p1).toNatClampNeg p2), (upd O_places ((p0 * 40) + p2).toNatClampNeg p1), (upd O_home p2.toNatClampNeg p0))
            ) else none
          )
          ) else none
          ) else none
        ) else (
          some (O_rows, O_places, O_home)
        )
      )
    )
    )
  )
abbrev rX4_put : Room := { frames := 1, cells := 0, slots := 0, locals := 21 }
theorem eX4_put_X4 : ∀ w ∈ u_ws RX4 TX4 5, w ∈ wsX4_put := by decide +kernel
theorem uX4_put : yX4_put.cls = RX4 ∧ yX4_put.cls ≠ "java/lang/invoke/MethodHandle" ∧ yX4_put.cls ≠ "java/lang/invoke/VarHandle" ∧ (parseMethodDescriptor yX4_put.desc).map (fun d => d.parameters.length) = some 3 := by decide +kernel
set_option maxHeartbeats 4000000 in
set_option maxRecDepth 100000 in
theorem tX4_put (l : Launch) (dC : Nat → ClassId) (dI : Nat → Nat → Nat) (cI cZ : ClassId) (aO : Nat → Nat) (sz : Nat) (O_layers : Int32) (O_size : Nat → Int32) (O_rows : Nat → Int32) (O_places : Nat → Int32) (O_home : Nat → Int32) (p0 : Int32) (p1 : Int32) (p2 : Int32) (res : (Nat → Int32) × (Nat → Int32) × (Nat → Int32)) (hF : fX4_put O_layers O_size O_rows O_places O_home p0 p1 p2 = some res) : q_Mv l yX4_put wsX4_put rX4_put (dC, dI) (q_ty cI cZ) [.ref (aO 0), .int p0, .int p1, .int p2] (iX4_put aO cI cZ O_layers O_size O_rows O_places O_home) (iX4_put aO cI cZ O_layers O_size res.1 res.2.1 res.2.2) sz := by
  refine q_metv (cc := cX4_put) (maxL := 4) (by decide) rfl (Nat.le_of_ble_eq_true rfl) ?_
  intro p e s m args below meth c Q A H locs ls C hP hD hS hl hret
  obtain ⟨hx, hb, hml, hown, hts, hA, hK⟩ := C
  replace hl : lv_has ls 4 [(0, .ref (aO 0)), (1, .int p0), (2, .int p1), (3, .int p2)] := hl
  have k0 := hts (.fieldLink RX4 15 "RouteLayout$Order" "rows" "[I") (by decide +kernel)
  have k1 := hts (.fieldLink RX4 18 "RouteLayout$Order" "places" "[I") (by decide +kernel)
  have k2 := hts (.fieldLink RX4 21 "RouteLayout$Order" "home" "[I") (by decide +kernel)
  unfold fX4_put at hF
  refine lv_iload_n hx hb dX4_put_0 rfl (lv_at hl 2 rfl) ?_
  refine lv_if_lt (tgt := 23) hx hb dX4_put_1 (by decide) (fun hc => ?_) (fun hc => ?_)
  · replace hF := q_t hc hF
    exact hret H locs ls 23 _ dX4_put_23 (congrArg (fun z : (Nat → Int32) × (Nat → Int32) × (Nat → Int32) => (iX4_put aO cI cZ O_layers O_size z.1 z.2.1 z.2.2)) (Option.some.inj hF)) hP hD hS
  · replace hF := q_f hc hF
    refine lv_iload_n hx hb dX4_put_4 rfl (lv_at hl 2 rfl) ?_
    refine lv_aload_n hx hb dX4_put_5 rfl (lv_at hl 0 rfl) ?_
    refine lv_iload_n hx hb dX4_put_6 rfl (lv_at hl 1 rfl) ?_
    obtain ⟨q1, hcq1, hF⟩ := q_bd hF
    refine q_Vi (As := [.int p0]) (rest := [.int p1]) ⟨hx, hb, hml, hown, hts⟩ hA hK hP hD hS (tX4_sizeOf l dC dI cI cZ aO H.size O_layers O_size p0 q1 hcq1) (cwV 1 hts gX4_put_X4_sizeOf rfl rfl rfl uX4_sizeOf ⟨Nat.le_of_ble_eq_true rfl, Nat.le_of_ble_eq_true rfl⟩) [0, 1] (iX4_put aO cI cZ O_layers O_size O_rows O_places O_home) rfl rfl rfl rfl 4 0 rfl rfl rfl rfl hl.1 rfl (Nat.le_of_ble_eq_true rfl) dX4_put_7 ⟨Nat.zero_le _, Nat.zero_le _⟩ (fun H locs hP hD hS => ?_)
    refine lv_icmp_ge (tgt := 23) hx hb dX4_put_10 (by decide) (fun hc => ?_) (fun hc => ?_)
    · replace hF := q_t hc hF
      exact hret H locs ls 23 _ dX4_put_23 (congrArg (fun z : (Nat → Int32) × (Nat → Int32) × (Nat → Int32) => (iX4_put aO cI cZ O_layers O_size z.1 z.2.1 z.2.2)) (Option.some.inj hF)) hP hD hS
    · replace hF := q_f hc hF
      refine lv_iload_n hx hb dX4_put_13 rfl (lv_at hl 3 rfl) ?_
      refine lv_if_lt (tgt := 23) hx hb dX4_put_14 (by decide) (fun hc => ?_) (fun hc => ?_)
      · replace hF := q_t hc hF
        exact hret H locs ls 23 _ dX4_put_23 (congrArg (fun z : (Nat → Int32) × (Nat → Int32) × (Nat → Int32) => (iX4_put aO cI cZ O_layers O_size z.1 z.2.1 z.2.2)) (Option.some.inj hF)) hP hD hS
      · replace hF := q_f hc hF
        refine lv_iload_n hx hb dX4_put_17 rfl (lv_at hl 3 rfl) ?_
        refine lv_bipush (v := 40) hx hb dX4_put_18 (by decide) ?_
        refine lv_icmp_lt (tgt := 24) hx hb dX4_put_20 (by decide) (fun hc => ?_) (fun hc => ?_)
        · replace hF := q_t hc hF
          refine lv_aload_n hx hb dX4_put_24 rfl (lv_at hl 0 rfl) ?_
          refine q_get (ci := 4) (C := RX4) (T := TX4) (N := 5) hx hb hts eX4_put_X4 hown hK hP 0 rfl rfl 2 (Nat.le_of_ble_eq_true rfl) k0 rfl rfl dX4_put_25 ?_
          refine lv_iload_n hx hb dX4_put_28 rfl (lv_at hl 1 rfl) ?_
          refine lv_bipush (v := 40) hx hb dX4_put_29 (by decide) ?_
          refine lv_imul hx hb dX4_put_31 ?_
          refine lv_iload_n hx hb dX4_put_32 rfl (lv_at hl 2 rfl) ?_
          refine lv_iadd hx hb dX4_put_33 ?_
          refine lv_iload_n hx hb dX4_put_34 rfl (lv_at hl 3 rfl) ?_
          obtain ⟨hn2, hF⟩ := q_ck hF
          refine q_iast hx hb hK hP hD hS 2 0 (iX4_put aO cI cZ O_layers O_size (upd O_rows ((p0 * 40) + p1).toNatClampNeg p2) O_places O_home) rfl rfl hn2 rfl dX4_put_35 (fun H locs hP hD hS => ?_)
          refine lv_aload_n hx hb dX4_put_36 rfl (lv_at hl 0 rfl) ?_
          refine q_get (ci := 4) (C := RX4) (T := TX4) (N := 5) hx hb hts eX4_put_X4 hown hK hP 0 rfl rfl 3 (Nat.le_of_ble_eq_true rfl) k1 rfl rfl dX4_put_37 ?_
          refine lv_iload_n hx hb dX4_put_40 rfl (lv_at hl 1 rfl) ?_
          refine lv_bipush (v := 40) hx hb dX4_put_41 (by decide) ?_
          refine lv_imul hx hb dX4_put_43 ?_
          refine lv_iload_n hx hb dX4_put_44 rfl (lv_at hl 3 rfl) ?_
          refine lv_iadd hx hb dX4_put_45 ?_
          refine lv_iload_n hx hb dX4_put_46 rfl (lv_at hl 2 rfl) ?_
          obtain ⟨hn3, hF⟩ := q_ck hF
          refine q_iast hx hb hK hP hD hS 3 0 (iX4_put aO cI cZ O_layers O_size (upd O_rows ((p0 * 40) + p1).toNatClampNeg p2) (upd O_places ((p0 * 40) + p2).toNatClampNeg p1) O_home) rfl rfl hn3 rfl dX4_put_47 (fun H locs hP hD hS => ?_)
          refine lv_iload_n hx hb dX4_put_48 rfl (lv_at hl 3 rfl) ?_
          refine lv_bipush (v := 16) hx hb dX4_put_49 (by decide) ?_
          refine lv_icmp_ge (tgt := 61) hx hb dX4_put_51 (by decide) (fun hc => ?_) (fun hc => ?_)
          · replace hF := q_t hc hF
            exact hret H locs ls 61 _ dX4_put_61 (congrArg (fun z : (Nat → Int32) × (Nat → Int32) × (Nat → Int32) => (iX4_put aO cI cZ O_layers O_size z.1 z.2.1 z.2.2)) (Option.some.inj hF)) hP hD hS
          · replace hF := q_f hc hF
            refine lv_aload_n hx hb dX4_put_54 rfl (lv_at hl 0 rfl) ?_
            refine q_get (ci := 4) (C := RX4) (T := TX4) (N := 5) hx hb hts eX4_put_X4 hown hK hP 0 rfl rfl 4 (Nat.le_of_ble_eq_true rfl) k2 rfl rfl dX4_put_55 ?_
            refine lv_iload_n hx hb dX4_put_58 rfl (lv_at hl 3 rfl) ?_
            refine lv_iload_n hx hb dX4_put_59 rfl (lv_at hl 1 rfl) ?_
            obtain ⟨hn4, hF⟩ := q_ck hF
            refine q_iast hx hb hK hP hD hS 4 0 (iX4_put aO cI cZ O_layers O_size (upd O_rows ((p0 * 40) + p1).toNatClampNeg p2) (upd O_places ((p0 * 40) + p2).toNatClampNeg p1) (upd O_home p2.toNatClampNeg p0)) rfl rfl hn4 rfl dX4_put_60 (fun H locs hP hD hS => ?_)
            exact hret H locs ls 61 _ dX4_put_61 (congrArg (fun z : (Nat → Int32) × (Nat → Int32) × (Nat → Int32) => (iX4_put aO cI cZ O_layers O_size z.1 z.2.1 z.2.2)) (Option.some.inj hF)) hP hD hS
        · replace hF := q_f hc hF
          exact hret H locs ls 23 _ dX4_put_23 (congrArg (fun z : (Nat → Int32) × (Nat → Int32) × (Nat → Int32) => (iX4_put aO cI cZ O_layers O_size z.1 z.2.1 z.2.2)) (Option.some.inj hF)) hP hD hS
abbrev iX7_upperBox (aS : Nat → Nat) (cI cZ : ClassId) (R_from : Nat → Int32) (R_to : Nat → Int32) (R_turned : Nat → Int32) : va_W := [((aS 0), .inr (7, [.ref (aS 1), .ref (aS 2), .ref (aS 3), .ref (aS 4), .ref (aS 5), .ref (aS 6)])), ((aS 3), .inl (cI, 24, .inl R_from)), ((aS 4), .inl (cI, 24, .inl R_to)), ((aS 5), .inl (cZ, 24, .inl R_turned))]
noncomputable def fX7_upperBox (R_from : Nat → Int32) (R_to : Nat → Int32) (R_turned : Nat → Int32) (p0 : Int32) : Option (Int32) :=
  (fX7_hasArrow R_from p0).bind (fun q1 =>
  if q1 = 0 then (
    some (-1)
  ) else (
    if q_in p0 24 then (
    if (R_turned p0.toNatClampNeg) = 0 then (
      if q_in p0 24 then (
      some (R_from p0.toNatClampNeg)
      ) else none
    ) else (
      if q_in p0 24 then (
      some (R_to p0.toNatClampNeg)
      ) else none
    )
    ) else none
  )
  )
abbrev rX7_upperBox : Room := { frames := 1, cells := 0, slots := 0, locals := 21 }
theorem eX7_upperBox_X7 : ∀ w ∈ u_ws RX7 TX7 6, w ∈ wsX7_upperBox := by decide +kernel
theorem uX7_upperBox : yX7_upperBox.cls = RX7 ∧ yX7_upperBox.cls ≠ "java/lang/invoke/MethodHandle" ∧ yX7_upperBox.cls ≠ "java/lang/invoke/VarHandle" ∧ (parseMethodDescriptor yX7_upperBox.desc).map (fun d => d.parameters.length) = some 1 := by decide +kernel
set_option maxHeartbeats 4000000 in
set_option maxRecDepth 100000 in
theorem tX7_upperBox (l : Launch) (dC : Nat → ClassId) (dI : Nat → Nat → Nat) (cI cZ : ClassId) (aS : Nat → Nat) (sz : Nat) (R_from : Nat → Int32) (R_to : Nat → Int32) (R_turned : Nat → Int32) (p0 : Int32) (res : Int32) (hF : fX7_upperBox R_from R_to R_turned p0 = some res) : q_Mi l yX7_upperBox wsX7_upperBox rX7_upperBox (dC, dI) (q_ty cI cZ) [.ref (aS 0), .int p0] (iX7_upperBox aS cI cZ R_from R_to R_turned) (iX7_upperBox aS cI cZ R_from R_to R_turned) sz res := by
  refine q_meti (cc := cX7_upperBox) (maxL := 2) (by decide) rfl (Nat.le_of_ble_eq_true rfl) ?_
  intro p e s m args below meth c Q A H locs ls C hP hD hS hl hret
  obtain ⟨hx, hb, hml, hown, hts, hA, hK⟩ := C
  replace hl : lv_has ls 2 [(0, .ref (aS 0)), (1, .int p0)] := hl
  have k0 := hts (.fieldLink RX7 24 "RouteLayout$Routes" "turned" "[Z") (by decide +kernel)
  have k1 := hts (.fieldLink RX7 18 "RouteLayout$Routes" "from" "[I") (by decide +kernel)
  have k2 := hts (.fieldLink RX7 21 "RouteLayout$Routes" "to" "[I") (by decide +kernel)
  unfold fX7_upperBox at hF
  refine lv_aload_n hx hb dX7_upperBox_0 rfl (lv_at hl 0 rfl) ?_
  refine lv_iload_n hx hb dX7_upperBox_1 rfl (lv_at hl 1 rfl) ?_
  obtain ⟨q1, hcq1, hF⟩ := q_bd hF
  refine q_Vi (As := [.int p0]) (rest := []) ⟨hx, hb, hml, hown, hts⟩ hA hK hP hD hS (tX7_hasArrow l dC dI cI cZ aS H.size R_from p0 q1 hcq1) (cwV 1 hts gX7_upperBox_X7_hasArrow rfl rfl rfl uX7_hasArrow ⟨Nat.le_of_ble_eq_true rfl, Nat.le_of_ble_eq_true rfl⟩) [0, 1] (iX7_upperBox aS cI cZ R_from R_to R_turned) rfl rfl rfl rfl 7 0 rfl rfl rfl rfl hl.1 rfl (Nat.le_of_ble_eq_true rfl) dX7_upperBox_2 ⟨Nat.zero_le _, Nat.zero_le _⟩ (fun H locs hP hD hS => ?_)
  refine lv_if_ne (tgt := 12) hx hb dX7_upperBox_5 (by decide) (fun hc => ?_) (fun hc => ?_)
  · replace hF := q_f hc hF
    refine lv_aload_n hx hb dX7_upperBox_12 rfl (lv_at hl 0 rfl) ?_
    refine q_get (ci := 7) (C := RX7) (T := TX7) (N := 6) hx hb hts eX7_upperBox_X7 hown hK hP 0 rfl rfl 4 (Nat.le_of_ble_eq_true rfl) k0 rfl rfl dX7_upperBox_13 ?_
    refine lv_iload_n hx hb dX7_upperBox_16 rfl (lv_at hl 1 rfl) ?_
    obtain ⟨hn2, hF⟩ := q_ck hF
    refine va_zald hx hb hK hP 3 1 rfl rfl hn2 dX7_upperBox_17 ?_
    refine lv_if_eq (tgt := 30) hx hb dX7_upperBox_18 (by decide) (fun hc => ?_) (fun hc => ?_)
    · replace hF := q_t hc hF
      refine lv_aload_n hx hb dX7_upperBox_30 rfl (lv_at hl 0 rfl) ?_
      refine q_get (ci := 7) (C := RX7) (T := TX7) (N := 6) hx hb hts eX7_upperBox_X7 hown hK hP 0 rfl rfl 2 (Nat.le_of_ble_eq_true rfl) k1 rfl rfl dX7_upperBox_31 ?_
      refine lv_iload_n hx hb dX7_upperBox_34 rfl (lv_at hl 1 rfl) ?_
      obtain ⟨hn3, hF⟩ := q_ck hF
      refine va_iald hx hb hK hP 1 0 rfl rfl hn3 dX7_upperBox_35 ?_
      exact hret H locs ls 36 _ _ dX7_upperBox_36 (Option.some.inj hF) rfl hP hD hS
    · replace hF := q_f hc hF
      refine lv_aload_n hx hb dX7_upperBox_21 rfl (lv_at hl 0 rfl) ?_
      refine q_get (ci := 7) (C := RX7) (T := TX7) (N := 6) hx hb hts eX7_upperBox_X7 hown hK hP 0 rfl rfl 3 (Nat.le_of_ble_eq_true rfl) k2 rfl rfl dX7_upperBox_22 ?_
      refine lv_iload_n hx hb dX7_upperBox_25 rfl (lv_at hl 1 rfl) ?_
      obtain ⟨hn4, hF⟩ := q_ck hF
      refine va_iald hx hb hK hP 2 0 rfl rfl hn4 dX7_upperBox_26 ?_
      refine lv_goto (tgt := 36) hx hb dX7_upperBox_27 (by decide) ?_
      exact hret H locs ls 36 _ _ dX7_upperBox_36 (Option.some.inj hF) rfl hP hD hS
  · replace hF := q_t hc hF
    refine lv_iconst (v := (-1)) hx hb dX7_upperBox_8 (by decide) ?_
    refine lv_goto (tgt := 36) hx hb dX7_upperBox_9 (by decide) ?_
    exact hret H locs ls 36 _ _ dX7_upperBox_36 (Option.some.inj hF) rfl hP hD hS
abbrev iX7_lowerBox (aS : Nat → Nat) (cI cZ : ClassId) (R_from : Nat → Int32) (R_to : Nat → Int32) (R_turned : Nat → Int32) : va_W := [((aS 0), .inr (7, [.ref (aS 1), .ref (aS 2), .ref (aS 3), .ref (aS 4), .ref (aS 5), .ref (aS 6)])), ((aS 3), .inl (cI, 24, .inl R_from)), ((aS 4), .inl (cI, 24, .inl R_to)), ((aS 5), .inl (cZ, 24, .inl R_turned))]
noncomputable def fX7_lowerBox (R_from : Nat → Int32) (R_to : Nat → Int32) (R_turned : Nat → Int32) (p0 : Int32) : Option (Int32) :=
  (fX7_hasArrow R_from p0).bind (fun q1 =>
  if q1 = 0 then (
    some (-1)
  ) else (
    if q_in p0 24 then (
    if (R_turned p0.toNatClampNeg) = 0 then (
      if q_in p0 24 then (
      some (R_to p0.toNatClampNeg)
      ) else none
    ) else (
      if q_in p0 24 then (
      some (R_from p0.toNatClampNeg)
      ) else none
    )
    ) else none
  )
  )
abbrev rX7_lowerBox : Room := { frames := 1, cells := 0, slots := 0, locals := 21 }
theorem eX7_lowerBox_X7 : ∀ w ∈ u_ws RX7 TX7 6, w ∈ wsX7_lowerBox := by decide +kernel
theorem uX7_lowerBox : yX7_lowerBox.cls = RX7 ∧ yX7_lowerBox.cls ≠ "java/lang/invoke/MethodHandle" ∧ yX7_lowerBox.cls ≠ "java/lang/invoke/VarHandle" ∧ (parseMethodDescriptor yX7_lowerBox.desc).map (fun d => d.parameters.length) = some 1 := by decide +kernel
set_option maxHeartbeats 4000000 in
set_option maxRecDepth 100000 in
theorem tX7_lowerBox (l : Launch) (dC : Nat → ClassId) (dI : Nat → Nat → Nat) (cI cZ : ClassId) (aS : Nat → Nat) (sz : Nat) (R_from : Nat → Int32) (R_to : Nat → Int32) (R_turned : Nat → Int32) (p0 : Int32) (res : Int32) (hF : fX7_lowerBox R_from R_to R_turned p0 = some res) : q_Mi l yX7_lowerBox wsX7_lowerBox rX7_lowerBox (dC, dI) (q_ty cI cZ) [.ref (aS 0), .int p0] (iX7_lowerBox aS cI cZ R_from R_to R_turned) (iX7_lowerBox aS cI cZ R_from R_to R_turned) sz res := by
  refine q_meti (cc := cX7_lowerBox) (maxL := 2) (by decide) rfl (Nat.le_of_ble_eq_true rfl) ?_
  intro p e s m args below meth c Q A H locs ls C hP hD hS hl hret
  obtain ⟨hx, hb, hml, hown, hts, hA, hK⟩ := C
  replace hl : lv_has ls 2 [(0, .ref (aS 0)), (1, .int p0)] := hl
  have k0 := hts (.fieldLink RX7 24 "RouteLayout$Routes" "turned" "[Z") (by decide +kernel)
  have k1 := hts (.fieldLink RX7 21 "RouteLayout$Routes" "to" "[I") (by decide +kernel)
  have k2 := hts (.fieldLink RX7 18 "RouteLayout$Routes" "from" "[I") (by decide +kernel)
  unfold fX7_lowerBox at hF
  refine lv_aload_n hx hb dX7_lowerBox_0 rfl (lv_at hl 0 rfl) ?_
  refine lv_iload_n hx hb dX7_lowerBox_1 rfl (lv_at hl 1 rfl) ?_
  obtain ⟨q1, hcq1, hF⟩ := q_bd hF
  refine q_Vi (As := [.int p0]) (rest := []) ⟨hx, hb, hml, hown, hts⟩ hA hK hP hD hS (tX7_hasArrow l dC dI cI cZ aS H.size R_from p0 q1 hcq1) (cwV 1 hts gX7_lowerBox_X7_hasArrow rfl rfl rfl uX7_hasArrow ⟨Nat.le_of_ble_eq_true rfl, Nat.le_of_ble_eq_true rfl⟩) [0, 1] (iX7_lowerBox aS cI cZ R_from R_to R_turned) rfl rfl rfl rfl 7 0 rfl rfl rfl rfl hl.1 rfl (Nat.le_of_ble_eq_true rfl) dX7_lowerBox_2 ⟨Nat.zero_le _, Nat.zero_le _⟩ (fun H locs hP hD hS => ?_)
  refine lv_if_ne (tgt := 12) hx hb dX7_lowerBox_5 (by decide) (fun hc => ?_) (fun hc => ?_)
  · replace hF := q_f hc hF
    refine lv_aload_n hx hb dX7_lowerBox_12 rfl (lv_at hl 0 rfl) ?_
    refine q_get (ci := 7) (C := RX7) (T := TX7) (N := 6) hx hb hts eX7_lowerBox_X7 hown hK hP 0 rfl rfl 4 (Nat.le_of_ble_eq_true rfl) k0 rfl rfl dX7_lowerBox_13 ?_
    refine lv_iload_n hx hb dX7_lowerBox_16 rfl (lv_at hl 1 rfl) ?_
    obtain ⟨hn2, hF⟩ := q_ck hF
    refine va_zald hx hb hK hP 3 1 rfl rfl hn2 dX7_lowerBox_17 ?_
    refine lv_if_eq (tgt := 30) hx hb dX7_lowerBox_18 (by decide) (fun hc => ?_) (fun hc => ?_)
    · replace hF := q_t hc hF
      refine lv_aload_n hx hb dX7_lowerBox_30 rfl (lv_at hl 0 rfl) ?_
      refine q_get (ci := 7) (C := RX7) (T := TX7) (N := 6) hx hb hts eX7_lowerBox_X7 hown hK hP 0 rfl rfl 3 (Nat.le_of_ble_eq_true rfl) k1 rfl rfl dX7_lowerBox_31 ?_
      refine lv_iload_n hx hb dX7_lowerBox_34 rfl (lv_at hl 1 rfl) ?_
      obtain ⟨hn3, hF⟩ := q_ck hF
      refine va_iald hx hb hK hP 2 0 rfl rfl hn3 dX7_lowerBox_35 ?_
      exact hret H locs ls 36 _ _ dX7_lowerBox_36 (Option.some.inj hF) rfl hP hD hS
    · replace hF := q_f hc hF
      refine lv_aload_n hx hb dX7_lowerBox_21 rfl (lv_at hl 0 rfl) ?_
      refine q_get (ci := 7) (C := RX7) (T := TX7) (N := 6) hx hb hts eX7_lowerBox_X7 hown hK hP 0 rfl rfl 2 (Nat.le_of_ble_eq_true rfl) k2 rfl rfl dX7_lowerBox_22 ?_
      refine lv_iload_n hx hb dX7_lowerBox_25 rfl (lv_at hl 1 rfl) ?_
      obtain ⟨hn4, hF⟩ := q_ck hF
      refine va_iald hx hb hK hP 1 0 rfl rfl hn4 dX7_lowerBox_26 ?_
      refine lv_goto (tgt := 36) hx hb dX7_lowerBox_27 (by decide) ?_
      exact hret H locs ls 36 _ _ dX7_lowerBox_36 (Option.some.inj hF) rfl hP hD hS
  · replace hF := q_t hc hF
    refine lv_iconst (v := (-1)) hx hb dX7_lowerBox_8 (by decide) ?_
    refine lv_goto (tgt := 36) hx hb dX7_lowerBox_9 (by decide) ?_
    exact hret H locs ls 36 _ _ dX7_lowerBox_36 (Option.some.inj hF) rfl hP hD hS
abbrev iX7_isPinned (aS : Nat → Nat) (cI cZ : ClassId) (R_width : Nat → Int32) (R_pinned : Nat → Int32) : va_W := [((aS 0), .inr (7, [.ref (aS 1), .ref (aS 2), .ref (aS 3), .ref (aS 4), .ref (aS 5), .ref (aS 6)])), ((aS 1), .inl (cI, 16, .inl R_width)), ((aS 2), .inl (cI, 16, .inl R_pinned))]
noncomputable def fX7_isPinned (R_width : Nat → Int32) (R_pinned : Nat → Int32) (p0 : Int32) : Option (Int32) :=
  (fX7_hasBox R_width p0).bind (fun q1 =>
  if q1 = 0 then (
    some 0
  ) else (
    if q_in p0 16 then (
    if (R_pinned p0.toNatClampNeg) = (-1) then (
      some 0
    ) else (
      some 1
    )
    ) else none
  )
  )
abbrev rX7_isPinned : Room := { frames := 1, cells := 0, slots := 0, locals := 21 }
theorem eX7_isPinned_X7 : ∀ w ∈ u_ws RX7 TX7 6, w ∈ wsX7_isPinned := by decide +kernel
theorem uX7_isPinned : yX7_isPinned.cls = RX7 ∧ yX7_isPinned.cls ≠ "java/lang/invoke/MethodHandle" ∧ yX7_isPinned.cls ≠ "java/lang/invoke/VarHandle" ∧ (parseMethodDescriptor yX7_isPinned.desc).map (fun d => d.parameters.length) = some 1 := by decide +kernel
set_option maxHeartbeats 4000000 in
set_option maxRecDepth 100000 in
theorem tX7_isPinned (l : Launch) (dC : Nat → ClassId) (dI : Nat → Nat → Nat) (cI cZ : ClassId) (aS : Nat → Nat) (sz : Nat) (R_width : Nat → Int32) (R_pinned : Nat → Int32) (p0 : Int32) (res : Int32) (hF : fX7_isPinned R_width R_pinned p0 = some res) : q_Mi l yX7_isPinned wsX7_isPinned rX7_isPinned (dC, dI) (q_ty cI cZ) [.ref (aS 0), .int p0] (iX7_isPinned aS cI cZ R_width R_pinned) (iX7_isPinned aS cI cZ R_width R_pinned) sz res := by
  refine q_metz (cc := cX7_isPinned) (maxL := 2) (by decide) rfl (Nat.le_of_ble_eq_true rfl) ?_
  intro p e s m args below meth c Q A H locs ls C hP hD hS hl hret
  obtain ⟨hx, hb, hml, hown, hts, hA, hK⟩ := C
  replace hl : lv_has ls 2 [(0, .ref (aS 0)), (1, .int p0)] := hl
  have k0 := hts (.fieldLink RX7 15 "RouteLayout$Routes" "pinned" "[I") (by decide +kernel)
  unfold fX7_isPinned at hF
  refine lv_aload_n hx hb dX7_isPinned_0 rfl (lv_at hl 0 rfl) ?_
  refine lv_iload_n hx hb dX7_isPinned_1 rfl (lv_at hl 1 rfl) ?_
  obtain ⟨q1, hcq1, hF⟩ := q_bd hF
  refine q_Vi (As := [.int p0]) (rest := []) ⟨hx, hb, hml, hown, hts⟩ hA hK hP hD hS (tX7_hasBox l dC dI cI cZ aS H.size R_width p0 q1 hcq1) (cwV 1 hts gX7_isPinned_X7_hasBox rfl rfl rfl uX7_hasBox ⟨Nat.le_of_ble_eq_true rfl, Nat.le_of_ble_eq_true rfl⟩) [0, 1] (iX7_isPinned aS cI cZ R_width R_pinned) rfl rfl rfl rfl 7 0 rfl rfl rfl rfl hl.1 rfl (Nat.le_of_ble_eq_true rfl) dX7_isPinned_2 ⟨Nat.zero_le _, Nat.zero_le _⟩ (fun H locs hP hD hS => ?_)
  refine lv_if_eq (tgt := 22) hx hb dX7_isPinned_5 (by decide) (fun hc => ?_) (fun hc => ?_)
  · replace hF := q_t hc hF
    refine lv_iconst (v := 0) hx hb dX7_isPinned_22 (by decide) ?_
    exact hret H locs ls 23 _ _ dX7_isPinned_23 (Or.inl rfl) (Option.some.inj hF) rfl hP hD hS
  · replace hF := q_f hc hF
    refine lv_aload_n hx hb dX7_isPinned_8 rfl (lv_at hl 0 rfl) ?_
    refine q_get (ci := 7) (C := RX7) (T := TX7) (N := 6) hx hb hts eX7_isPinned_X7 hown hK hP 0 rfl rfl 1 (Nat.le_of_ble_eq_true rfl) k0 rfl rfl dX7_isPinned_9 ?_
    refine lv_iload_n hx hb dX7_isPinned_12 rfl (lv_at hl 1 rfl) ?_
    obtain ⟨hn2, hF⟩ := q_ck hF
    refine va_iald hx hb hK hP 2 0 rfl rfl hn2 dX7_isPinned_13 ?_
    refine lv_iconst (v := (-1)) hx hb dX7_isPinned_14 (by decide) ?_
    refine lv_icmp_eq (tgt := 22) hx hb dX7_isPinned_15 (by decide) (fun hc => ?_) (fun hc => ?_)
    · replace hF := q_t hc hF
      refine lv_iconst (v := 0) hx hb dX7_isPinned_22 (by decide) ?_
      exact hret H locs ls 23 _ _ dX7_isPinned_23 (Or.inl rfl) (Option.some.inj hF) rfl hP hD hS
    · replace hF := q_f hc hF
      refine lv_iconst (v := 1) hx hb dX7_isPinned_18 (by decide) ?_
      refine lv_goto (tgt := 23) hx hb dX7_isPinned_19 (by decide) ?_
      exact hret H locs ls 23 _ _ dX7_isPinned_23 (Or.inr rfl) (Option.some.inj hF) rfl hP hD hS
abbrev iX7_pinOf (aS : Nat → Nat) (cI cZ : ClassId) (R_width : Nat → Int32) (R_pinned : Nat → Int32) : va_W := [((aS 0), .inr (7, [.ref (aS 1), .ref (aS 2), .ref (aS 3), .ref (aS 4), .ref (aS 5), .ref (aS 6)])), ((aS 1), .inl (cI, 16, .inl R_width)), ((aS 2), .inl (cI, 16, .inl R_pinned))]
noncomputable def fX7_pinOf (R_width : Nat → Int32) (R_pinned : Nat → Int32) (p0 : Int32) : Option (Int32) :=
  (fX7_hasBox R_width p0).bind (fun q1 =>
  if q1 = 0 then (
    some (-1)
  ) else (
    if q_in p0 16 then (
    some (R_pinned p0.toNatClampNeg)
    ) else none
  )
  )
abbrev rX7_pinOf : Room := { frames := 1, cells := 0, slots := 0, locals := 21 }
theorem eX7_pinOf_X7 : ∀ w ∈ u_ws RX7 TX7 6, w ∈ wsX7_pinOf := by decide +kernel
theorem uX7_pinOf : yX7_pinOf.cls = RX7 ∧ yX7_pinOf.cls ≠ "java/lang/invoke/MethodHandle" ∧ yX7_pinOf.cls ≠ "java/lang/invoke/VarHandle" ∧ (parseMethodDescriptor yX7_pinOf.desc).map (fun d => d.parameters.length) = some 1 := by decide +kernel
set_option maxHeartbeats 4000000 in
set_option maxRecDepth 100000 in
theorem tX7_pinOf (l : Launch) (dC : Nat → ClassId) (dI : Nat → Nat → Nat) (cI cZ : ClassId) (aS : Nat → Nat) (sz : Nat) (R_width : Nat → Int32) (R_pinned : Nat → Int32) (p0 : Int32) (res : Int32) (hF : fX7_pinOf R_width R_pinned p0 = some res) : q_Mi l yX7_pinOf wsX7_pinOf rX7_pinOf (dC, dI) (q_ty cI cZ) [.ref (aS 0), .int p0] (iX7_pinOf aS cI cZ R_width R_pinned) (iX7_pinOf aS cI cZ R_width R_pinned) sz res := by
  refine q_meti (cc := cX7_pinOf) (maxL := 2) (by decide) rfl (Nat.le_of_ble_eq_true rfl) ?_
  intro p e s m args below meth c Q A H locs ls C hP hD hS hl hret
  obtain ⟨hx, hb, hml, hown, hts, hA, hK⟩ := C
  replace hl : lv_has ls 2 [(0, .ref (aS 0)), (1, .int p0)] := hl
  have k0 := hts (.fieldLink RX7 15 "RouteLayout$Routes" "pinned" "[I") (by decide +kernel)
  unfold fX7_pinOf at hF
  refine lv_aload_n hx hb dX7_pinOf_0 rfl (lv_at hl 0 rfl) ?_
  refine lv_iload_n hx hb dX7_pinOf_1 rfl (lv_at hl 1 rfl) ?_
  obtain ⟨q1, hcq1, hF⟩ := q_bd hF
  refine q_Vi (As := [.int p0]) (rest := []) ⟨hx, hb, hml, hown, hts⟩ hA hK hP hD hS (tX7_hasBox l dC dI cI cZ aS H.size R_width p0 q1 hcq1) (cwV 1 hts gX7_pinOf_X7_hasBox rfl rfl rfl uX7_hasBox ⟨Nat.le_of_ble_eq_true rfl, Nat.le_of_ble_eq_true rfl⟩) [0, 1] (iX7_pinOf aS cI cZ R_width R_pinned) rfl rfl rfl rfl 7 0 rfl rfl rfl rfl hl.1 rfl (Nat.le_of_ble_eq_true rfl) dX7_pinOf_2 ⟨Nat.zero_le _, Nat.zero_le _⟩ (fun H locs hP hD hS => ?_)
  refine lv_if_eq (tgt := 17) hx hb dX7_pinOf_5 (by decide) (fun hc => ?_) (fun hc => ?_)
  · replace hF := q_t hc hF
    refine lv_iconst (v := (-1)) hx hb dX7_pinOf_17 (by decide) ?_
    exact hret H locs ls 18 _ _ dX7_pinOf_18 (Option.some.inj hF) rfl hP hD hS
  · replace hF := q_f hc hF
    refine lv_aload_n hx hb dX7_pinOf_8 rfl (lv_at hl 0 rfl) ?_
    refine q_get (ci := 7) (C := RX7) (T := TX7) (N := 6) hx hb hts eX7_pinOf_X7 hown hK hP 0 rfl rfl 1 (Nat.le_of_ble_eq_true rfl) k0 rfl rfl dX7_pinOf_9 ?_
    refine lv_iload_n hx hb dX7_pinOf_12 rfl (lv_at hl 1 rfl) ?_
    obtain ⟨hn2, hF⟩ := q_ck hF
    refine va_iald hx hb hK hP 2 0 rfl rfl hn2 dX7_pinOf_13 ?_
    refine lv_goto (tgt := 18) hx hb dX7_pinOf_14 (by decide) ?_
    exact hret H locs ls 18 _ _ dX7_pinOf_18 (Option.some.inj hF) rfl hP hD hS
abbrev iX3_layerOf (aS : Nat → Nat) (cI cZ : ClassId) (L_layer : Nat → Int32) (L_layers : Int32) : va_W := [((aS 7), .inr (3, [.ref (aS 0), .ref (aS 8), .ref (aS 9), .ref (aS 10), .int L_layers])), ((aS 8), .inl (cI, 16, .inl L_layer))]
noncomputable def fX3_layerOf (L_layer : Nat → Int32) (p0 : Int32) : Option (Int32) :=
  if p0 < 0 then (
    some (-1)
  ) else (
    if 16 ≤ p0 then (
      some (-1)
    ) else (
      if q_in p0 16 then (
      some (L_layer p0.toNatClampNeg)
      ) else none
    )
  )
abbrev rX3_layerOf : Room := { frames := 0, cells := 0, slots := 0, locals := 0 }
theorem eX3_layerOf_X3 : ∀ w ∈ u_ws RX3 TX3 5, w ∈ wsX3_layerOf := by decide +kernel
theorem uX3_layerOf : yX3_layerOf.cls = RX3 ∧ yX3_layerOf.cls ≠ "java/lang/invoke/MethodHandle" ∧ yX3_layerOf.cls ≠ "java/lang/invoke/VarHandle" ∧ (parseMethodDescriptor yX3_layerOf.desc).map (fun d => d.parameters.length) = some 1 := by decide +kernel
set_option maxHeartbeats 4000000 in
set_option maxRecDepth 100000 in
theorem tX3_layerOf (l : Launch) (dC : Nat → ClassId) (dI : Nat → Nat → Nat) (cI cZ : ClassId) (aS : Nat → Nat) (sz : Nat) (L_layer : Nat → Int32) (L_layers : Int32) (p0 : Int32) (res : Int32) (hF : fX3_layerOf L_layer p0 = some res) : q_Mi l yX3_layerOf wsX3_layerOf rX3_layerOf (dC, dI) (q_ty cI cZ) [.ref (aS 7), .int p0] (iX3_layerOf aS cI cZ L_layer L_layers) (iX3_layerOf aS cI cZ L_layer L_layers) sz res := by
  refine q_meti (cc := cX3_layerOf) (maxL := 2) (by decide) rfl (Nat.le_of_ble_eq_true rfl) ?_
  intro p e s m args below meth c Q A H locs ls C hP hD hS hl hret
  obtain ⟨hx, hb, hml, hown, hts, hA, hK⟩ := C
  replace hl : lv_has ls 2 [(0, .ref (aS 7)), (1, .int p0)] := hl
  have k0 := hts (.fieldLink RX3 9 "RouteLayout$Levels" "layer" "[I") (by decide +kernel)
  unfold fX3_layerOf at hF
  refine lv_iload_n hx hb dX3_layerOf_0 rfl (lv_at hl 1 rfl) ?_
  refine lv_if_lt (tgt := 19) hx hb dX3_layerOf_1 (by decide) (fun hc => ?_) (fun hc => ?_)
  · replace hF := q_t hc hF
    refine lv_iconst (v := (-1)) hx hb dX3_layerOf_19 (by decide) ?_
    exact hret H locs ls 20 _ _ dX3_layerOf_20 (Option.some.inj hF) rfl hP hD hS
  · replace hF := q_f hc hF
    refine lv_iload_n hx hb dX3_layerOf_4 rfl (lv_at hl 1 rfl) ?_
    refine lv_bipush (v := 16) hx hb dX3_layerOf_5 (by decide) ?_
    refine lv_icmp_ge (tgt := 19) hx hb dX3_layerOf_7 (by decide) (fun hc => ?_) (fun hc => ?_)
    · replace hF := q_t hc hF
      refine lv_iconst (v := (-1)) hx hb dX3_layerOf_19 (by decide) ?_
      exact hret H locs ls 20 _ _ dX3_layerOf_20 (Option.some.inj hF) rfl hP hD hS
    · replace hF := q_f hc hF
      refine lv_aload_n hx hb dX3_layerOf_10 rfl (lv_at hl 0 rfl) ?_
      refine q_get (ci := 3) (C := RX3) (T := TX3) (N := 5) hx hb hts eX3_layerOf_X3 hown hK hP 0 rfl rfl 1 (Nat.le_of_ble_eq_true rfl) k0 rfl rfl dX3_layerOf_11 ?_
      refine lv_iload_n hx hb dX3_layerOf_14 rfl (lv_at hl 1 rfl) ?_
      obtain ⟨hn1, hF⟩ := q_ck hF
      refine va_iald hx hb hK hP 1 0 rfl rfl hn1 dX3_layerOf_15 ?_
      refine lv_goto (tgt := 20) hx hb dX3_layerOf_16 (by decide) ?_
      exact hret H locs ls 20 _ _ dX3_layerOf_20 (Option.some.inj hF) rfl hP hD hS
abbrev iX3_sink (aS : Nat → Nat) (cI cZ : ClassId) (R_width : Nat → Int32) (R_pinned : Nat → Int32) (R_from : Nat → Int32) (R_to : Nat → Int32) (R_turned : Nat → Int32) (L_layer : Nat → Int32) (L_layers : Int32) : va_W := [((aS 7), .inr (3, [.ref (aS 0), .ref (aS 8), .ref (aS 9), .ref (aS 10), .int L_layers])), ((aS 0), .inr (7, [.ref (aS 1), .ref (aS 2), .ref (aS 3), .ref (aS 4), .ref (aS 5), .ref (aS 6)])), ((aS 1), .inl (cI, 16, .inl R_width)), ((aS 2), .inl (cI, 16, .inl R_pinned)), ((aS 3), .inl (cI, 24, .inl R_from)), ((aS 4), .inl (cI, 24, .inl R_to)), ((aS 5), .inl (cZ, 24, .inl R_turned)), ((aS 8), .inl (cI, 16, .inl L_layer))]
noncomputable def jX3_sink_89 (L_layer : Nat → Int32) (x1 : Int32) : Option ((Int32 × (Nat → Int32)) ⊕ ((Nat → Int32))) :=
  some (.inl ((x1 + 1), L_layer))
noncomputable def jX3_sink_59 (L_layer : Nat → Int32) (x1 : Int32) (x2 : Int32) (x3 : Int32) (s0 : Int32) : Option ((Int32 × (Nat → Int32)) ⊕ ((Nat → Int32))) :=
  if s0 = 0 then (
    jX3_sink_89 L_layer x1
  ) else (
    if q_in x2 16 then (
    if x3 ≤ (L_layer x2.toNatClampNeg) then (
      jX3_sink_89 L_layer x1
    ) else (
      if 24 ≤ x3 then (
        jX3_sink_89 L_layer x1
      ) else (
        if q_in x2 16 then (
        jX3_sink_89 (upd L_layer x2.toNatClampNeg x3) x1
        ) else none
      )
    )
    ) else none
  )
noncomputable def jX3_sink_58 (L_layer : Nat → Int32) (x1 : Int32) (x2 : Int32) (x3 : Int32) : Option ((Int32 × (Nat → Int32)) ⊕ ((Nat → Int32))) :=
  jX3_sink_59 L_layer x1 x2 x3 0
noncomputable def bX3_sink_2 (R_width : Nat → Int32) (R_pinned : Nat → Int32) (R_from : Nat → Int32) (R_to : Nat → Int32) (R_turned : Nat → Int32) (x1 : Int32) (L_layer : Nat → Int32) : Option ((Int32 × (Nat → Int32)) ⊕ ((Nat → Int32))) :=
  if 24 ≤ x1 then (
    some (.inr L_layer)
  ) else (
    (fX7_lowerBox R_from R_to R_turned x1).bind (fun q4 =>
    (fX7_upperBox R_from R_to R_turned x1).bind (fun q5 =>
    (fX3_layerOf L_layer q5).bind (fun q6 =>
    (fX7_hasBox R_width q4).bind (fun q7 =>
    if q7 = 0 then (
      jX3_sink_58 L_layer x1 q4 (q6 + 1)
    ) else (
      (fX7_isPinned R_width R_pinned q4).bind (fun q8 =>
      if q8 = 0 then (
        jX3_sink_59 L_layer x1 q4 (q6 + 1) 1
      ) else (
        jX3_sink_58 L_layer x1 q4 (q6 + 1)
      )
      )
    )
    )
    )
    )
    )
  )
noncomputable def fX3_sink (R_width : Nat → Int32) (R_pinned : Nat → Int32) (R_from : Nat → Int32) (R_to : Nat → Int32) (R_turned : Nat → Int32) (L_layer : Nat → Int32) : Option ((Nat → Int32)) :=
  (q_lo (fun (st : Int32 × (Nat → Int32)) => bX3_sink_2 R_width R_pinned R_from R_to R_turned st.1 st.2) (0, L_layer)).bind (fun q1 =>
    some q1)
abbrev rX3_sink : Room := { frames := 2, cells := 0, slots := 0, locals := 42 }
theorem eX3_sink_X3 : ∀ w ∈ u_ws RX3 TX3 5, w ∈ wsX3_sink := by decide +kernel
theorem uX3_sink : yX3_sink.cls = RX3 ∧ yX3_sink.cls ≠ "java/lang/invoke/MethodHandle" ∧ yX3_sink.cls ≠ "java/lang/invoke/VarHandle" ∧ (parseMethodDescriptor yX3_sink.desc).map (fun d => d.parameters.length) = some 0 := by decide +kernel
set_option maxHeartbeats 4000000 in
set_option maxRecDepth 100000 in
theorem tX3_sink (l : Launch) (dC : Nat → ClassId) (dI : Nat → Nat → Nat) (cI cZ : ClassId) (aS : Nat → Nat) (sz : Nat) (R_width : Nat → Int32) (R_pinned : Nat → Int32) (R_from : Nat → Int32) (R_to : Nat → Int32) (R_turned : Nat → Int32) (L_layer : Nat → Int32) (L_layers : Int32) (res : (Nat → Int32)) (hF : fX3_sink R_width R_pinned R_from R_to R_turned L_layer = some res) : q_Mv l yX3_sink wsX3_sink rX3_sink (dC, dI) (q_ty cI cZ) [.ref (aS 7)] (iX3_sink aS cI cZ R_width R_pinned R_from R_to R_turned L_layer L_layers) (iX3_sink aS cI cZ R_width R_pinned R_from R_to R_turned res L_layers) sz := by
  refine q_metv (cc := cX3_sink) (maxL := 5) (by decide) rfl (Nat.le_of_ble_eq_true rfl) ?_
  intro p e s m args below meth c Q A H locs ls C hP hD hS hl hret
  obtain ⟨hx, hb, hml, hown, hts, hA, hK⟩ := C
  replace hl : lv_has ls 5 [(0, .ref (aS 7))] := hl
  have k0 := hts (.fieldLink RX3 9 "RouteLayout$Levels" "layer" "[I") (by decide +kernel)
  have k1 := hts (.fieldLink RX3 21 "RouteLayout$Levels" "routes" "LRouteLayout$Routes;") (by decide +kernel)
  unfold fX3_sink at hF
  refine lv_iconst (v := 0) hx hb dX3_sink_0 (by decide) ?_
  refine lv_istore_n (lv' := [(1, .int 0), (0, .ref (aS 7))]) hx hb dX3_sink_1 rfl hl (by decide) rfl (fun ls hl => ?_)
  obtain ⟨q1, hc1, hF⟩ := q_bd hF
  have X1 : ∀ u1 : (Nat → Int32), u1 = q1 → ∀ (H : Heap) (locs : List Loc) (ls : Array Slot), va_P (dC, dI) vwCl (iX3_sink aS cI cZ R_width R_pinned R_from R_to R_turned u1 L_layers) H → va_D A (iX3_sink aS cI cZ R_width R_pinned R_from R_to R_turned u1 L_layers) → va_S A s.heap H locs → lv_has ls 5 [] → W p l e (headSpec wsX3_sink rX3_sink).room s m args below meth c H locs 0 0 Q (F0 m 95 ls []) := by
    intro u1 hu H locs ls hP hD hS hl
    subst hu
    exact hret H locs ls 95 _ dX3_sink_95 (congrArg (fun z : (Nat → Int32) => (iX3_sink aS cI cZ R_width R_pinned R_from R_to R_turned z L_layers)) (Option.some.inj hF)) hP hD hS
  have L1 : ∀ st : Int32 × (Nat → Int32), q_lo (fun (st : Int32 × (Nat → Int32)) => bX3_sink_2 R_width R_pinned R_from R_to R_turned st.1 st.2) st = some q1 → ∀ (H : Heap) (locs : List Loc) (ls : Array Slot), va_P (dC, dI) vwCl (iX3_sink aS cI cZ R_width R_pinned R_from R_to R_turned st.2 L_layers) H → va_D A (iX3_sink aS cI cZ R_width R_pinned R_from R_to R_turned st.2 L_layers) → va_S A s.heap H locs → lv_has ls 5 [(0, .ref (aS 7)), (1, .int st.1)] → W p l e (headSpec wsX3_sink rX3_sink).room s m args below meth c H locs 0 0 Q (F0 m 2 ls []) := by
    intro st hst
    refine q_walk ?_ st hst
    clear hst st hF
    intro st o hF hin hex H locs ls hP hD hS hl
    obtain ⟨x1, L_layer⟩ := st
    replace hF : bX3_sink_2 R_width R_pinned R_from R_to R_turned x1 L_layer = some o := hF
    replace hP : va_P (dC, dI) vwCl (iX3_sink aS cI cZ R_width R_pinned R_from R_to R_turned L_layer L_layers) H := hP
    replace hD : va_D A (iX3_sink aS cI cZ R_width R_pinned R_from R_to R_turned L_layer L_layers) := hD
    replace hl : lv_has ls 5 [(0, .ref (aS 7)), (1, .int x1)] := hl
    unfold bX3_sink_2 at hF
    have JX3_SINK_89 : ∀ (L_layer : Nat → Int32) (x1 : Int32), jX3_sink_89 L_layer x1 = some o → ∀ (H : Heap) (locs : List Loc) (ls : Array Slot), va_P (dC, dI) vwCl (iX3_sink aS cI cZ R_width R_pinned R_from R_to R_turned L_layer L_layers) H → va_D A (iX3_sink aS cI cZ R_width R_pinned R_from R_to R_turned L_layer L_layers) → va_S A s.heap H locs → lv_has ls 5 [(0, .ref (aS 7)), (1, .int x1)] → W p l e (headSpec wsX3_sink rX3_sink).room s m args below meth c H locs 0 0 Q (F0 m 89 ls []) := by
      intro L_layer x1 hF H locs ls hP hD hS hl
      unfold jX3_sink_89 at hF
      refine lv_iinc (v := (x1 + 1)) (lv' := [(1, .int (x1 + 1)), (0, .ref (aS 7))]) hx hb dX3_sink_89 hl (k := 1) rfl rfl (by decide) rfl (fun ls hl => ?_)
      refine lv_goto (tgt := 2) hx hb dX3_sink_92 (by decide) ?_
      exact hin _ (Option.some.inj hF).symm H locs ls hP hD hS (lv_sub hl [1, 0] rfl)
    have JX3_SINK_59 : ∀ (L_layer : Nat → Int32) (x1 : Int32) (x2 : Int32) (x3 : Int32) (s0 : Int32), jX3_sink_59 L_layer x1 x2 x3 s0 = some o → ∀ (H : Heap) (locs : List Loc) (ls : Array Slot), va_P (dC, dI) vwCl (iX3_sink aS cI cZ R_width R_pinned R_from R_to R_turned L_layer L_layers) H → va_D A (iX3_sink aS cI cZ R_width R_pinned R_from R_to R_turned L_layer L_layers) → va_S A s.heap H locs → lv_has ls 5 [(0, .ref (aS 7)), (1, .int x1), (2, .int x2), (3, .int x3)] → W p l e (headSpec wsX3_sink rX3_sink).room s m args below meth c H locs 0 0 Q (F0 m 59 ls [.int s0]) := by
      intro L_layer x1 x2 x3 s0 hF H locs ls hP hD hS hl
      unfold jX3_sink_59 at hF
      refine lv_istore (lv' := [(4, .int s0), (0, .ref (aS 7)), (1, .int x1), (2, .int x2), (3, .int x3)]) hx hb dX3_sink_59 hl (by decide) rfl (fun ls hl => ?_)
      refine lv_iload hx hb dX3_sink_61 (lv_at hl 0 rfl) ?_
      refine lv_if_eq (tgt := 89) hx hb dX3_sink_63 (by decide) (fun hc => ?_) (fun hc => ?_)
      · replace hF := q_t hc hF
        exact JX3_SINK_89 L_layer x1 hF H locs ls hP hD hS (lv_sub hl [1, 2] rfl)
      · replace hF := q_f hc hF
        refine lv_aload_n hx hb dX3_sink_66 rfl (lv_at hl 1 rfl) ?_
        refine q_get (ci := 3) (C := RX3) (T := TX3) (N := 5) hx hb hts eX3_sink_X3 hown hK hP 0 rfl rfl 1 (Nat.le_of_ble_eq_true rfl) k0 rfl rfl dX3_sink_67 ?_
        refine lv_iload_n hx hb dX3_sink_70 rfl (lv_at hl 3 rfl) ?_
        obtain ⟨hn2, hF⟩ := q_ck hF
        refine va_iald hx hb hK hP 7 0 rfl rfl hn2 dX3_sink_71 ?_
        refine lv_iload_n hx hb dX3_sink_72 rfl (lv_at hl 4 rfl) ?_
        refine lv_icmp_ge (tgt := 89) hx hb dX3_sink_73 (by decide) (fun hc => ?_) (fun hc => ?_)
        · replace hF := q_t hc hF
          exact JX3_SINK_89 L_layer x1 hF H locs ls hP hD hS (lv_sub hl [1, 2] rfl)
        · replace hF := q_f hc hF
          refine lv_iload_n hx hb dX3_sink_76 rfl (lv_at hl 4 rfl) ?_
          refine lv_bipush (v := 24) hx hb dX3_sink_77 (by decide) ?_
          refine lv_icmp_ge (tgt := 89) hx hb dX3_sink_79 (by decide) (fun hc => ?_) (fun hc => ?_)
          · replace hF := q_t hc hF
            exact JX3_SINK_89 L_layer x1 hF H locs ls hP hD hS (lv_sub hl [1, 2] rfl)
          · replace hF := q_f hc hF
            refine lv_aload_n hx hb dX3_sink_82 rfl (lv_at hl 1 rfl) ?_
            refine q_get (ci := 3) (C := RX3) (T := TX3) (N := 5) hx hb hts eX3_sink_X3 hown hK hP 0 rfl rfl 1 (Nat.le_of_ble_eq_true rfl) k0 rfl rfl dX3_sink_83 ?_
            refine lv_iload_n hx hb dX3_sink_86 rfl (lv_at hl 3 rfl) ?_
            refine lv_iload_n hx hb dX3_sink_87 rfl (lv_at hl 4 rfl) ?_
            obtain ⟨hn3, hF⟩ := q_ck hF
            refine q_iast hx hb hK hP hD hS 7 0 (iX3_sink aS cI cZ R_width R_pinned R_from R_to R_turned (upd L_layer x2.toNatClampNeg x3) L_layers) rfl rfl hn3 rfl dX3_sink_88 (fun H locs hP hD hS => ?_)
            exact JX3_SINK_89 (upd L_layer x2.toNatClampNeg x3) x1 hF H locs ls hP hD hS (lv_sub hl [1, 2] rfl)
    have JX3_SINK_58 : ∀ (L_layer : Nat → Int32) (x1 : Int32) (x2 : Int32) (x3 : Int32), jX3_sink_58 L_layer x1 x2 x3 = some o → ∀ (H : Heap) (locs : List Loc) (ls : Array Slot), va_P (dC, dI) vwCl (iX3_sink aS cI cZ R_width R_pinned R_from R_to R_turned L_layer L_layers) H → va_D A (iX3_sink aS cI cZ R_width R_pinned R_from R_to R_turned L_layer L_layers) → va_S A s.heap H locs → lv_has ls 5 [(0, .ref (aS 7)), (1, .int x1), (2, .int x2), (3, .int x3)] → W p l e (headSpec wsX3_sink rX3_sink).room s m args below meth c H locs 0 0 Q (F0 m 58 ls []) := by
      intro L_layer x1 x2 x3 hF H locs ls hP hD hS hl
      unfold jX3_sink_58 at hF
      refine lv_iconst (v := 0) hx hb dX3_sink_58 (by decide) ?_
      exact JX3_SINK_59 L_layer x1 x2 x3 0 hF H locs ls hP hD hS (lv_sub hl [0, 1, 2, 3] rfl)
    refine lv_iload_n hx hb dX3_sink_2 rfl (lv_at hl 1 rfl) ?_
    refine lv_bipush (v := 24) hx hb dX3_sink_3 (by decide) ?_
    refine lv_icmp_ge (tgt := 95) hx hb dX3_sink_5 (by decide) (fun hc => ?_) (fun hc => ?_)
    · replace hF := q_t hc hF
      exact X1 _ (hex _ (Option.some.inj hF).symm) H locs ls hP hD hS (lv_sub hl [] rfl)
    · replace hF := q_f hc hF
      refine lv_aload_n hx hb dX3_sink_8 rfl (lv_at hl 0 rfl) ?_
      refine q_get (ci := 3) (C := RX3) (T := TX3) (N := 5) hx hb hts eX3_sink_X3 hown hK hP 0 rfl rfl 0 (Nat.le_of_ble_eq_true rfl) k1 rfl rfl dX3_sink_9 ?_
      refine lv_iload_n hx hb dX3_sink_12 rfl (lv_at hl 1 rfl) ?_
      obtain ⟨q4, hcq4, hF⟩ := q_bd hF
      refine q_Vi (As := [.int x1]) (rest := []) ⟨hx, hb, hml, hown, hts⟩ hA hK hP hD hS (tX7_lowerBox l dC dI cI cZ aS H.size R_from R_to R_turned x1 q4 hcq4) (cwV 1 hts gX3_sink_X7_lowerBox rfl rfl rfl uX7_lowerBox ⟨Nat.le_of_ble_eq_true rfl, Nat.le_of_ble_eq_true rfl⟩) [1, 4, 5, 6] (iX3_sink aS cI cZ R_width R_pinned R_from R_to R_turned L_layer L_layers) rfl rfl rfl rfl 7 0 rfl rfl rfl rfl hl.1 rfl (Nat.le_of_ble_eq_true rfl) dX3_sink_13 ⟨Nat.zero_le _, Nat.zero_le _⟩ (fun H locs hP hD hS => ?_)
      refine lv_istore_n (lv' := [(2, .int q4), (0, .ref (aS 7)), (1, .int x1)]) hx hb dX3_sink_16 rfl hl (by decide) rfl (fun ls hl => ?_)
      refine lv_aload_n hx hb dX3_sink_17 rfl (lv_at hl 1 rfl) ?_
      refine lv_aload_n hx hb dX3_sink_18 rfl (lv_at hl 1 rfl) ?_
      refine q_get (ci := 3) (C := RX3) (T := TX3) (N := 5) hx hb hts eX3_sink_X3 hown hK hP 0 rfl rfl 0 (Nat.le_of_ble_eq_true rfl) k1 rfl rfl dX3_sink_19 ?_
      refine lv_iload_n hx hb dX3_sink_22 rfl (lv_at hl 2 rfl) ?_
      obtain ⟨q5, hcq5, hF⟩ := q_bd hF
      refine q_Vi (As := [.int x1]) (rest := [.ref (aS 7)]) ⟨hx, hb, hml, hown, hts⟩ hA hK hP hD hS (tX7_upperBox l dC dI cI cZ aS H.size R_from R_to R_turned x1 q5 hcq5) (cwV 1 hts gX3_sink_X7_upperBox rfl rfl rfl uX7_upperBox ⟨Nat.le_of_ble_eq_true rfl, Nat.le_of_ble_eq_true rfl⟩) [1, 4, 5, 6] (iX3_sink aS cI cZ R_width R_pinned R_from R_to R_turned L_layer L_layers) rfl rfl rfl rfl 7 0 rfl rfl rfl rfl hl.1 rfl (Nat.le_of_ble_eq_true rfl) dX3_sink_23 ⟨Nat.zero_le _, Nat.zero_le _⟩ (fun H locs hP hD hS => ?_)
      obtain ⟨q6, hcq6, hF⟩ := q_bd hF
      refine q_Vi (As := [.int q5]) (rest := []) ⟨hx, hb, hml, hown, hts⟩ hA hK hP hD hS (tX3_layerOf l dC dI cI cZ aS H.size L_layer L_layers q5 q6 hcq6) (cwV 1 hts gX3_sink_X3_layerOf rfl rfl rfl uX3_layerOf ⟨Nat.le_of_ble_eq_true rfl, Nat.le_of_ble_eq_true rfl⟩) [0, 7] (iX3_sink aS cI cZ R_width R_pinned R_from R_to R_turned L_layer L_layers) rfl rfl rfl rfl 3 0 rfl rfl rfl rfl hl.1 rfl (Nat.le_of_ble_eq_true rfl) dX3_sink_26 ⟨Nat.zero_le _, Nat.zero_le _⟩ (fun H locs hP hD hS => ?_)
      refine lv_iconst (v := 1) hx hb dX3_sink_29 (by decide) ?_
      refine lv_iadd hx hb dX3_sink_30 ?_
      refine lv_istore_n (lv' := [(3, .int (q6 + 1)), (2, .int q4), (0, .ref (aS 7)), (1, .int x1)]) hx hb dX3_sink_31 rfl hl (by decide) rfl (fun ls hl => ?_)
      refine lv_aload_n hx hb dX3_sink_32 rfl (lv_at hl 2 rfl) ?_
      refine q_get (ci := 3) (C := RX3) (T := TX3) (N := 5) hx hb hts eX3_sink_X3 hown hK hP 0 rfl rfl 0 (Nat.le_of_ble_eq_true rfl) k1 rfl rfl dX3_sink_33 ?_
      refine lv_iload_n hx hb dX3_sink_36 rfl (lv_at hl 1 rfl) ?_
      obtain ⟨q7, hcq7, hF⟩ := q_bd hF
      refine q_Vi (As := [.int q4]) (rest := []) ⟨hx, hb, hml, hown, hts⟩ hA hK hP hD hS (tX7_hasBox l dC dI cI cZ aS H.size R_width q4 q7 hcq7) (cwV 1 hts gX3_sink_X7_hasBox rfl rfl rfl uX7_hasBox ⟨Nat.le_of_ble_eq_true rfl, Nat.le_of_ble_eq_true rfl⟩) [1, 2] (iX3_sink aS cI cZ R_width R_pinned R_from R_to R_turned L_layer L_layers) rfl rfl rfl rfl 7 0 rfl rfl rfl rfl hl.1 rfl (Nat.le_of_ble_eq_true rfl) dX3_sink_37 ⟨Nat.zero_le _, Nat.zero_le _⟩ (fun H locs hP hD hS => ?_)
      refine lv_if_eq (tgt := 58) hx hb dX3_sink_40 (by decide) (fun hc => ?_) (fun hc => ?_)
      · replace hF := q_t hc hF
        exact JX3_SINK_58 L_layer x1 q4 (q6 + 1) hF H locs ls hP hD hS (lv_sub hl [2, 3, 1, 0] rfl)
      · replace hF := q_f hc hF
        refine lv_aload_n hx hb dX3_sink_43 rfl (lv_at hl 2 rfl) ?_
        refine q_get (ci := 3) (C := RX3) (T := TX3) (N := 5) hx hb hts eX3_sink_X3 hown hK hP 0 rfl rfl 0 (Nat.le_of_ble_eq_true rfl) k1 rfl rfl dX3_sink_44 ?_
        refine lv_iload_n hx hb dX3_sink_47 rfl (lv_at hl 1 rfl) ?_
        obtain ⟨q8, hcq8, hF⟩ := q_bd hF
        refine q_Vi (As := [.int q4]) (rest := []) ⟨hx, hb, hml, hown, hts⟩ hA hK hP hD hS (tX7_isPinned l dC dI cI cZ aS H.size R_width R_pinned q4 q8 hcq8) (cwV 1 hts gX3_sink_X7_isPinned rfl rfl rfl uX7_isPinned ⟨Nat.le_of_ble_eq_true rfl, Nat.le_of_ble_eq_true rfl⟩) [1, 2, 3] (iX3_sink aS cI cZ R_width R_pinned R_from R_to R_turned L_layer L_layers) rfl rfl rfl rfl 7 0 rfl rfl rfl rfl hl.1 rfl (Nat.le_of_ble_eq_true rfl) dX3_sink_48 ⟨Nat.zero_le _, Nat.zero_le _⟩ (fun H locs hP hD hS => ?_)
        refine lv_if_ne (tgt := 58) hx hb dX3_sink_51 (by decide) (fun hc => ?_) (fun hc => ?_)
        · replace hF := q_f hc hF
          exact JX3_SINK_58 L_layer x1 q4 (q6 + 1) hF H locs ls hP hD hS (lv_sub hl [2, 3, 1, 0] rfl)
        · replace hF := q_t hc hF
          refine lv_iconst (v := 1) hx hb dX3_sink_54 (by decide) ?_
          refine lv_goto (tgt := 59) hx hb dX3_sink_55 (by decide) ?_
          exact JX3_SINK_59 L_layer x1 q4 (q6 + 1) 1 hF H locs ls hP hD hS (lv_sub hl [2, 3, 1, 0] rfl)
  exact L1 (0, L_layer) hc1 H locs ls hP hD hS (lv_sub hl [1, 0] rfl)
