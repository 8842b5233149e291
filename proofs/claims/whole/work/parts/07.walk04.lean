/-! Written by wip/whole/gen.py: walks of X2_around, X2_inAll, X0_isPlace, X0_addCost, X0_findCosts, X0_costAhead, X0_chooseBehind, X0_choose, X0_arrange, X5_isCode. -/
abbrev rX2_around : Room := { frames := 2, cells := 0, slots := 0, locals := 67 }
theorem uX2_around : yX2_around.cls = RX2 ∧ yX2_around.cls ≠ "java/lang/invoke/MethodHandle" ∧ yX2_around.cls ≠ "java/lang/invoke/VarHandle" ∧ (parseMethodDescriptor yX2_around.desc).map (fun d => d.parameters.length) = some 2 := by decide +kernel
set_option maxHeartbeats 4000000 in
set_option maxRecDepth 100000 in
theorem tX2_around (l : Launch) (dC : Nat → ClassId) (dI : Nat → Nat → Nat) (cI cZ : ClassId) (aS : Nat → Nat) (aO : Nat → Nat) (sz : Nat) (P_size : Nat → Int32) (P_uppers : Nat → Int32) (P_lowers : Nat → Int32) (X_upper : Nat → Int32) (X_lower : Nat → Int32) (O_layers : Int32) (O_places : Nat → Int32) (p1 : Int32) (res : Int32 × (Nat → Int32) × (Nat → Int32)) (hF : fX2_around P_size P_uppers P_lowers X_upper X_lower O_places p1 = some res) : q_Mi l yX2_around wsX2_around rX2_around (dC, dI) (q_ty cI cZ) [.ref (aS 16), .ref (aO 0), .int p1] (iX2_around aS aO cI cZ P_size P_uppers P_lowers X_upper X_lower O_layers O_places) (iX2_around aS aO cI cZ P_size P_uppers P_lowers res.2.1 res.2.2 O_layers O_places) sz res.1 := by
  refine q_meti (cc := cX2_around) (maxL := 3) (by decide) rfl (Nat.le_of_ble_eq_true rfl) ?_
  intro p e s m args below meth c Q A H locs ls C hP hD hS hl hret
  obtain ⟨hx, hb, hml, hown, hts, hA, hK⟩ := C
  replace hl : lv_has ls 3 [(0, .ref (aS 16)), (1, .ref (aO 0)), (2, .int p1)] := hl
  unfold fX2_around at hF
  refine lv_aload_n hx hb dX2_around_0 rfl (lv_at hl 0 rfl) ?_
  refine lv_aload_n hx hb dX2_around_1 rfl (lv_at hl 1 rfl) ?_
  refine lv_iload_n hx hb dX2_around_2 rfl (lv_at hl 2 rfl) ?_
  refine lv_iconst (v := 1) hx hb dX2_around_3 (by decide) ?_
  refine lv_isub hx hb dX2_around_4 ?_
  obtain ⟨q1_0, q1_1, q1_2, hcq1, hF⟩ := q_bd3 hF
  refine q_Vi (As := [.ref (aO 0), .int (p1 - 1)]) (rest := []) ⟨hx, hb, hml, hown, hts⟩ hA hK hP hD hS (tX2_inGap l dC dI cI cZ aS aO H.size P_size P_uppers P_lowers X_upper X_lower O_layers O_places (p1 - 1) (q1_0, q1_1, q1_2) hcq1) (cwV 2 hts gX2_around_X2_inGap rfl rfl rfl uX2_inGap ⟨Nat.le_of_ble_eq_true rfl, Nat.le_of_ble_eq_true rfl⟩) [0, 1, 2, 3, 4, 5, 6, 7, 8] [(true, 0), (true, 1), (true, 2), (true, 3), (true, 4), (true, 5), (true, 6), (true, 7), (true, 8)] (iX2_around aS aO cI cZ P_size P_uppers P_lowers q1_1 q1_2 O_layers O_places) rfl rfl rfl rfl rfl 2 0 rfl rfl rfl rfl hl.1 rfl (Nat.le_of_ble_eq_true rfl) dX2_around_5 ⟨Nat.zero_le _, Nat.zero_le _⟩ (fun H locs hP hD hS => ?_)
  refine lv_aload_n hx hb dX2_around_8 rfl (lv_at hl 0 rfl) ?_
  refine lv_aload_n hx hb dX2_around_9 rfl (lv_at hl 1 rfl) ?_
  refine lv_iload_n hx hb dX2_around_10 rfl (lv_at hl 2 rfl) ?_
  obtain ⟨q2_0, q2_1, q2_2, hcq2, hF⟩ := q_bd3 hF
  refine q_Vi (As := [.ref (aO 0), .int p1]) (rest := [.int q1_0]) ⟨hx, hb, hml, hown, hts⟩ hA hK hP hD hS (tX2_inGap l dC dI cI cZ aS aO H.size P_size P_uppers P_lowers q1_1 q1_2 O_layers O_places p1 (q2_0, q2_1, q2_2) hcq2) (cwV 2 hts gX2_around_X2_inGap rfl rfl rfl uX2_inGap ⟨Nat.le_of_ble_eq_true rfl, Nat.le_of_ble_eq_true rfl⟩) [0, 1, 2, 3, 4, 5, 6, 7, 8] [(true, 0), (true, 1), (true, 2), (true, 3), (true, 4), (true, 5), (true, 6), (true, 7), (true, 8)] (iX2_around aS aO cI cZ P_size P_uppers P_lowers q2_1 q2_2 O_layers O_places) rfl rfl rfl rfl rfl 2 0 rfl rfl rfl rfl hl.1 rfl (Nat.le_of_ble_eq_true rfl) dX2_around_11 ⟨Nat.zero_le _, Nat.zero_le _⟩ (fun H locs hP hD hS => ?_)
  refine lv_iadd hx hb dX2_around_14 ?_
  exact hret H locs ls 15 _ _ dX2_around_15 (congrArg Prod.fst (Option.some.inj hF)) (congrArg (fun z : Int32 × (Nat → Int32) × (Nat → Int32) => (iX2_around aS aO cI cZ P_size P_uppers P_lowers z.2.1 z.2.2 O_layers O_places)) (Option.some.inj hF)) hP hD hS
abbrev rX2_inAll : Room := { frames := 2, cells := 0, slots := 0, locals := 67 }
theorem uX2_inAll : yX2_inAll.cls = RX2 ∧ yX2_inAll.cls ≠ "java/lang/invoke/MethodHandle" ∧ yX2_inAll.cls ≠ "java/lang/invoke/VarHandle" ∧ (parseMethodDescriptor yX2_inAll.desc).map (fun d => d.parameters.length) = some 1 := by decide +kernel
set_option maxHeartbeats 4000000 in
set_option maxRecDepth 100000 in
theorem tX2_inAll (l : Launch) (dC : Nat → ClassId) (dI : Nat → Nat → Nat) (cI cZ : ClassId) (aS : Nat → Nat) (aO : Nat → Nat) (sz : Nat) (P_size : Nat → Int32) (P_uppers : Nat → Int32) (P_lowers : Nat → Int32) (X_upper : Nat → Int32) (X_lower : Nat → Int32) (O_layers : Int32) (O_places : Nat → Int32) (res : Int32 × (Nat → Int32) × (Nat → Int32)) (hF : fX2_inAll P_size P_uppers P_lowers X_upper X_lower O_layers O_places = some res) : q_Mi l yX2_inAll wsX2_inAll rX2_inAll (dC, dI) (q_ty cI cZ) [.ref (aS 16), .ref (aO 0)] (iX2_inAll aS aO cI cZ P_size P_uppers P_lowers X_upper X_lower O_layers O_places) (iX2_inAll aS aO cI cZ P_size P_uppers P_lowers res.2.1 res.2.2 O_layers O_places) sz res.1 := by
  refine q_meti (cc := cX2_inAll) (maxL := 4) (by decide) rfl (Nat.le_of_ble_eq_true rfl) ?_
  intro p e s m args below meth c Q A H locs ls C hP hD hS hl hret
  obtain ⟨hx, hb, hml, hown, hts, hA, hK⟩ := C
  replace hl : lv_has ls 4 [(0, .ref (aS 16)), (1, .ref (aO 0))] := hl
  unfold fX2_inAll at hF
  refine lv_iconst (v := 0) hx hb dX2_inAll_0 (by decide) ?_
  refine lv_istore_n (lv' := [(2, .int 0), (0, .ref (aS 16)), (1, .ref (aO 0))]) hx hb dX2_inAll_1 rfl hl (by decide) rfl (fun ls hl => ?_)
  refine lv_iconst (v := 0) hx hb dX2_inAll_2 (by decide) ?_
  refine lv_istore_n (lv' := [(3, .int 0), (2, .int 0), (0, .ref (aS 16)), (1, .ref (aO 0))]) hx hb dX2_inAll_3 rfl hl (by decide) rfl (fun ls hl => ?_)
  obtain ⟨q1_0, q1_1, q1_2, hc1, hF⟩ := q_bd3 hF
  have X1 : ∀ (u1_0 : Int32) (u1_1 : Nat → Int32) (u1_2 : Nat → Int32), (u1_0, u1_1, u1_2) = (q1_0, q1_1, q1_2) → ∀ (H : Heap) (locs : List Loc) (ls : Array Slot), va_P (dC, dI) vwCl (iX2_inAll aS aO cI cZ P_size P_uppers P_lowers u1_1 u1_2 O_layers O_places) H → va_D A (iX2_inAll aS aO cI cZ P_size P_uppers P_lowers u1_1 u1_2 O_layers O_places) → va_S A s.heap H locs → lv_has ls 4 [(2, .int u1_0)] → W p l e (headSpec wsX2_inAll (rX2_inAll)).room s m args below meth c H locs 0 0 Q (F0 m 29 ls []) := by
    intro u1_0 u1_1 u1_2 hu H locs ls hP hD hS hl
    obtain ⟨e0, e1, e2⟩ := q_inj3 hu
    subst e0 e1 e2
    refine lv_iload_n hx hb dX2_inAll_29 rfl (lv_at hl 0 rfl) ?_
    exact hret H locs ls 30 _ _ dX2_inAll_30 (congrArg Prod.fst (Option.some.inj hF)) (congrArg (fun z : Int32 × (Nat → Int32) × (Nat → Int32) => (iX2_inAll aS aO cI cZ P_size P_uppers P_lowers z.2.1 z.2.2 O_layers O_places)) (Option.some.inj hF)) hP hD hS
  have L1 : ∀ st : Int32 × Int32 × (Nat → Int32) × (Nat → Int32), q_lo (fun (st : Int32 × Int32 × (Nat → Int32) × (Nat → Int32)) => bX2_inAll_4 P_size P_uppers P_lowers O_layers O_places st.1 st.2.1 st.2.2.1 st.2.2.2) st = some (q1_0, q1_1, q1_2) → ∀ (H : Heap) (locs : List Loc) (ls : Array Slot), va_P (dC, dI) vwCl (iX2_inAll aS aO cI cZ P_size P_uppers P_lowers st.2.2.1 st.2.2.2 O_layers O_places) H → va_D A (iX2_inAll aS aO cI cZ P_size P_uppers P_lowers st.2.2.1 st.2.2.2 O_layers O_places) → va_S A s.heap H locs → lv_has ls 4 [(0, .ref (aS 16)), (1, .ref (aO 0)), (2, .int st.1), (3, .int st.2.1)] → W p l e (headSpec wsX2_inAll (rX2_inAll)).room s m args below meth c H locs 0 0 Q (F0 m 4 ls []) := by
    intro st hst
    refine q_walk (Wh := fun st : Int32 × Int32 × (Nat → Int32) × (Nat → Int32) => ∀ (H : Heap) (locs : List Loc) (ls : Array Slot), va_P (dC, dI) vwCl (iX2_inAll aS aO cI cZ P_size P_uppers P_lowers st.2.2.1 st.2.2.2 O_layers O_places) H → va_D A (iX2_inAll aS aO cI cZ P_size P_uppers P_lowers st.2.2.1 st.2.2.2 O_layers O_places) → va_S A s.heap H locs → lv_has ls 4 [(0, .ref (aS 16)), (1, .ref (aO 0)), (2, .int st.1), (3, .int st.2.1)] → W p l e (headSpec wsX2_inAll (rX2_inAll)).room s m args below meth c H locs 0 0 Q (F0 m 4 ls [])) ?_ st hst
    clear hst st hF
    intro st o hF hin hex H locs ls hP hD hS hl
    obtain ⟨x2_1, x3_1, X_upper_1, X_lower_1⟩ := st
    replace hF : bX2_inAll_4 P_size P_uppers P_lowers O_layers O_places x2_1 x3_1 X_upper_1 X_lower_1 = some o := hF
    replace hP : va_P (dC, dI) vwCl (iX2_inAll aS aO cI cZ P_size P_uppers P_lowers X_upper_1 X_lower_1 O_layers O_places) H := hP
    replace hD : va_D A (iX2_inAll aS aO cI cZ P_size P_uppers P_lowers X_upper_1 X_lower_1 O_layers O_places) := hD
    replace hl : lv_has ls 4 [(0, .ref (aS 16)), (1, .ref (aO 0)), (2, .int x2_1), (3, .int x3_1)] := hl
    unfold bX2_inAll_4 at hF
    refine lv_iload_n hx hb dX2_inAll_4 rfl (lv_at hl 3 rfl) ?_
    refine lv_aload_n hx hb dX2_inAll_5 rfl (lv_at hl 1 rfl) ?_
    obtain ⟨q2, hcq2, hF⟩ := q_bd hF
    refine q_Vi (As := []) (rest := [.int x3_1]) ⟨hx, hb, hml, hown, hts⟩ hA hK hP hD hS (tX4_layers l dC dI cI cZ aO H.size O_layers q2 hcq2) (cwV 0 hts gX2_inAll_X4_layers rfl rfl rfl uX4_layers ⟨Nat.le_of_ble_eq_true rfl, Nat.le_of_ble_eq_true rfl⟩) [7] [(false, 0), (false, 1), (false, 2), (false, 3), (false, 4), (false, 5), (false, 6), (true, 0), (false, 8)] (iX2_inAll aS aO cI cZ P_size P_uppers P_lowers X_upper_1 X_lower_1 O_layers O_places) rfl rfl rfl rfl rfl 4 0 rfl rfl rfl rfl hl.1 rfl (Nat.le_of_ble_eq_true rfl) dX2_inAll_6 ⟨Nat.zero_le _, Nat.zero_le _⟩ (fun H locs hP hD hS => ?_)
    refine lv_iconst (v := 1) hx hb dX2_inAll_9 (by decide) ?_
    refine lv_isub hx hb dX2_inAll_10 ?_
    refine lv_icmp_ge (tgt := 29) hx hb dX2_inAll_11 (by decide) (fun hc => ?_) (fun hc => ?_)
    · replace hF := q_t hc hF
      exact X1 _ _ _ (hex _ (Option.some.inj hF).symm) H locs ls hP hD hS (lv_sub hl [2] rfl)
    · replace hF := q_f hc hF
      refine lv_iload_n hx hb dX2_inAll_14 rfl (lv_at hl 2 rfl) ?_
      refine lv_aload_n hx hb dX2_inAll_15 rfl (lv_at hl 0 rfl) ?_
      refine lv_aload_n hx hb dX2_inAll_16 rfl (lv_at hl 1 rfl) ?_
      refine lv_iload_n hx hb dX2_inAll_17 rfl (lv_at hl 3 rfl) ?_
      obtain ⟨q3_0, q3_1, q3_2, hcq3, hF⟩ := q_bd3 hF
      refine q_Vi (As := [.ref (aO 0), .int x3_1]) (rest := [.int x2_1]) ⟨hx, hb, hml, hown, hts⟩ hA hK hP hD hS (tX2_inGap l dC dI cI cZ aS aO H.size P_size P_uppers P_lowers X_upper_1 X_lower_1 O_layers O_places x3_1 (q3_0, q3_1, q3_2) hcq3) (cwV 2 hts gX2_inAll_X2_inGap rfl rfl rfl uX2_inGap ⟨Nat.le_of_ble_eq_true rfl, Nat.le_of_ble_eq_true rfl⟩) [0, 1, 2, 3, 4, 5, 6, 7, 8] [(true, 0), (true, 1), (true, 2), (true, 3), (true, 4), (true, 5), (true, 6), (true, 7), (true, 8)] (iX2_inAll aS aO cI cZ P_size P_uppers P_lowers q3_1 q3_2 O_layers O_places) rfl rfl rfl rfl rfl 2 0 rfl rfl rfl rfl hl.1 rfl (Nat.le_of_ble_eq_true rfl) dX2_inAll_18 ⟨Nat.zero_le _, Nat.zero_le _⟩ (fun H locs hP hD hS => ?_)
      refine lv_iadd hx hb dX2_inAll_21 ?_
      refine lv_istore_n (lv' := [(2, .int (x2_1 + q3_0)), (0, .ref (aS 16)), (1, .ref (aO 0)), (3, .int x3_1)]) hx hb dX2_inAll_22 rfl hl (by decide) rfl (fun ls hl => ?_)
      refine lv_iinc (v := (x3_1 + 1)) (lv' := [(3, .int (x3_1 + 1)), (2, .int (x2_1 + q3_0)), (0, .ref (aS 16)), (1, .ref (aO 0))]) hx hb dX2_inAll_23 hl (k := 3) rfl rfl (by decide) rfl (fun ls hl => ?_)
      refine lv_goto (tgt := 4) hx hb dX2_inAll_26 (by decide) ?_
      exact hin _ (Option.some.inj hF).symm H locs ls hP hD hS (lv_sub hl [2, 3, 1, 0] rfl)
  exact L1 (0, 0, X_upper, X_lower) hc1 H locs ls hP hD hS (lv_sub hl [2, 3, 1, 0] rfl)
abbrev rX0_isPlace : Room := { frames := 0, cells := 0, slots := 0, locals := 0 }
theorem uX0_isPlace : yX0_isPlace.cls ≠ "java/lang/invoke/MethodHandle" ∧ yX0_isPlace.cls ≠ "java/lang/invoke/VarHandle" ∧ (parseMethodDescriptor yX0_isPlace.desc).map (fun d => d.parameters.length) = some 1 := by decide +kernel
set_option maxHeartbeats 4000000 in
set_option maxRecDepth 100000 in
theorem tX0_isPlace (l : Launch) (dC : Nat → ClassId) (dI : Nat → Nat → Nat) (cI cZ : ClassId) (sz : Nat) (p0 : Int32) (res : Int32) (hF : fX0_isPlace p0 = some res) : q_Mi l yX0_isPlace wsX0_isPlace rX0_isPlace (dC, dI) (q_ty cI cZ) [.int p0] (iX0_isPlace cI cZ) (iX0_isPlace cI cZ) sz res := by
  refine q_metz (cc := cX0_isPlace) (maxL := 1) (by decide) rfl (Nat.le_of_ble_eq_true rfl) ?_
  intro p e s m args below meth c Q A H locs ls C hP hD hS hl hret
  obtain ⟨hx, hb, hml, hown, hts, hA, hK⟩ := C
  replace hl : lv_has ls 1 [(0, .int p0)] := hl
  unfold fX0_isPlace at hF
  refine lv_iload_n hx hb dX0_isPlace_0 rfl (lv_at hl 0 rfl) ?_
  refine lv_if_lt (tgt := 14) hx hb dX0_isPlace_1 (by decide) (fun hc => ?_) (fun hc => ?_)
  · replace hF := q_t hc hF
    refine lv_iconst (v := 0) hx hb dX0_isPlace_14 (by decide) ?_
    exact hret H locs ls 15 _ _ dX0_isPlace_15 (Or.inl rfl) (Option.some.inj hF) rfl hP hD hS
  · replace hF := q_f hc hF
    refine lv_iload_n hx hb dX0_isPlace_4 rfl (lv_at hl 0 rfl) ?_
    refine lv_bipush (v := 6) hx hb dX0_isPlace_5 (by decide) ?_
    refine lv_icmp_ge (tgt := 14) hx hb dX0_isPlace_7 (by decide) (fun hc => ?_) (fun hc => ?_)
    · replace hF := q_t hc hF
      refine lv_iconst (v := 0) hx hb dX0_isPlace_14 (by decide) ?_
      exact hret H locs ls 15 _ _ dX0_isPlace_15 (Or.inl rfl) (Option.some.inj hF) rfl hP hD hS
    · replace hF := q_f hc hF
      refine lv_iconst (v := 1) hx hb dX0_isPlace_10 (by decide) ?_
      refine lv_goto (tgt := 15) hx hb dX0_isPlace_11 (by decide) ?_
      exact hret H locs ls 15 _ _ dX0_isPlace_15 (Or.inr rfl) (Option.some.inj hF) rfl hP hD hS
abbrev rX0_addCost : Room := { frames := 1, cells := 0, slots := 0, locals := 20 }
theorem eX0_addCost_X0 : ∀ w ∈ u_ws RX0 TX0 10, w ∈ wsX0_addCost := by decide +kernel
theorem uX0_addCost : yX0_addCost.cls = RX0 ∧ yX0_addCost.cls ≠ "java/lang/invoke/MethodHandle" ∧ yX0_addCost.cls ≠ "java/lang/invoke/VarHandle" ∧ (parseMethodDescriptor yX0_addCost.desc).map (fun d => d.parameters.length) = some 2 := by decide +kernel
set_option maxHeartbeats 4000000 in
set_option maxRecDepth 100000 in
theorem tX0_addCost (l : Launch) (dC : Nat → ClassId) (dI : Nat → Nat → Nat) (cI cZ : ClassId) (aS : Nat → Nat) (sz : Nat) (B_cost : Nat → Int32) (B_above : Nat → Int32) (B_below : Nat → Int32) (B_bestCost : Int32) (B_size : Int32) (p0 : Int32) (p1 : Int32) (res : (Nat → Int32)) (hF : fX0_addCost B_cost B_above B_below p0 p1 = some res) : q_Mv l yX0_addCost wsX0_addCost rX0_addCost (dC, dI) (q_ty cI cZ) [.ref (aS 28), .int p0, .int p1] (iX0_addCost aS cI cZ B_cost B_above B_below B_bestCost B_size) (iX0_addCost aS cI cZ res B_above B_below B_bestCost B_size) sz := by
  refine q_metv (cc := cX0_addCost) (maxL := 4) (by decide) rfl (Nat.le_of_ble_eq_true rfl) ?_
  intro p e s m args below meth c Q A H locs ls C hP hD hS hl hret
  obtain ⟨hx, hb, hml, hown, hts, hA, hK⟩ := C
  replace hl : lv_has ls 4 [(0, .ref (aS 28)), (1, .int p0), (2, .int p1)] := hl
  have k0 := hts (.fieldLink RX0 15 "RouteLayout$BestRow" "above" "[I") (by decide +kernel)
  have k1 := hts (.fieldLink RX0 11 "RouteLayout$BestRow" "cost" "[I") (by decide +kernel)
  have k2 := hts (.fieldLink RX0 18 "RouteLayout$BestRow" "below" "[I") (by decide +kernel)
  unfold fX0_addCost at hF
  have JX0_ADDCOST_29 : ∀ (B_cost_1 : Nat → Int32) (x1_1 : Int32) (x2_1 : Int32) (s0_1 : Int32), jX0_addCost_29 B_cost_1 B_above B_below x1_1 x2_1 s0_1 = some res → ∀ (H : Heap) (locs : List Loc) (ls : Array Slot), va_P (dC, dI) vwCl (iX0_addCost aS cI cZ B_cost_1 B_above B_below B_bestCost B_size) H → va_D A (iX0_addCost aS cI cZ B_cost_1 B_above B_below B_bestCost B_size) → va_S A s.heap H locs → lv_has ls 4 [(0, .ref (aS 28)), (1, .int x1_1), (2, .int x2_1)] → W p l e (headSpec wsX0_addCost (rX0_addCost)).room s m args below meth c H locs 0 0 Q (F0 m 29 ls [.int s0_1]) := by
    intro B_cost_1 x1_1 x2_1 s0_1 hF H locs ls hP hD hS hl
    unfold jX0_addCost_29 at hF
    refine lv_istore_n (lv' := [(3, .int s0_1), (0, .ref (aS 28)), (1, .int x1_1), (2, .int x2_1)]) hx hb dX0_addCost_29 rfl hl (by decide) rfl (fun ls hl => ?_)
    refine lv_iload_n hx hb dX0_addCost_30 rfl (lv_at hl 0 rfl) ?_
    refine lv_if_eq (tgt := 74) hx hb dX0_addCost_31 (by decide) (fun hc => ?_) (fun hc => ?_)
    · replace hF := q_t hc hF
      exact hret H locs ls 74 _ dX0_addCost_74 (congrArg (fun z : (Nat → Int32) => (iX0_addCost aS cI cZ z B_above B_below B_bestCost B_size)) (Option.some.inj hF)) hP hD hS
    · replace hF := q_f hc hF
      refine lv_aload_n hx hb dX0_addCost_34 rfl (lv_at hl 1 rfl) ?_
      refine q_get (ci := 0) (C := RX0) (T := TX0) (N := 10) hx hb hts eX0_addCost_X0 hown hK hP 0 rfl rfl 2 (Nat.le_of_ble_eq_true rfl) k0 rfl rfl dX0_addCost_35 ?_
      refine lv_iload_n hx hb dX0_addCost_38 rfl (lv_at hl 2 rfl) ?_
      obtain ⟨hn2, hF⟩ := q_ck hF
      refine va_iald hx hb hK hP 2 0 rfl rfl hn2 dX0_addCost_39 ?_
      refine lv_aload_n hx hb dX0_addCost_40 rfl (lv_at hl 1 rfl) ?_
      refine q_get (ci := 0) (C := RX0) (T := TX0) (N := 10) hx hb hts eX0_addCost_X0 hown hK hP 0 rfl rfl 2 (Nat.le_of_ble_eq_true rfl) k0 rfl rfl dX0_addCost_41 ?_
      refine lv_iload_n hx hb dX0_addCost_44 rfl (lv_at hl 3 rfl) ?_
      obtain ⟨hn3, hF⟩ := q_ck hF
      refine va_iald hx hb hK hP 2 0 rfl rfl hn3 dX0_addCost_45 ?_
      refine lv_icmp_le (tgt := 74) hx hb dX0_addCost_46 (by decide) (fun hc => ?_) (fun hc => ?_)
      · replace hF := q_t hc hF
        exact hret H locs ls 74 _ dX0_addCost_74 (congrArg (fun z : (Nat → Int32) => (iX0_addCost aS cI cZ z B_above B_below B_bestCost B_size)) (Option.some.inj hF)) hP hD hS
      · replace hF := q_f hc hF
        refine lv_aload_n hx hb dX0_addCost_49 rfl (lv_at hl 1 rfl) ?_
        refine q_get (ci := 0) (C := RX0) (T := TX0) (N := 10) hx hb hts eX0_addCost_X0 hown hK hP 0 rfl rfl 1 (Nat.le_of_ble_eq_true rfl) k1 rfl rfl dX0_addCost_50 ?_
        refine lv_aload_n hx hb dX0_addCost_53 rfl (lv_at hl 1 rfl) ?_
        refine q_get (ci := 0) (C := RX0) (T := TX0) (N := 10) hx hb hts eX0_addCost_X0 hown hK hP 0 rfl rfl 3 (Nat.le_of_ble_eq_true rfl) k2 rfl rfl dX0_addCost_54 ?_
        refine lv_iload_n hx hb dX0_addCost_57 rfl (lv_at hl 2 rfl) ?_
        obtain ⟨hn4, hF⟩ := q_ck hF
        refine va_iald hx hb hK hP 3 0 rfl rfl hn4 dX0_addCost_58 ?_
        refine lv_bipush (v := 6) hx hb dX0_addCost_59 (by decide) ?_
        refine lv_imul hx hb dX0_addCost_61 ?_
        refine lv_aload_n hx hb dX0_addCost_62 rfl (lv_at hl 1 rfl) ?_
        refine q_get (ci := 0) (C := RX0) (T := TX0) (N := 10) hx hb hts eX0_addCost_X0 hown hK hP 0 rfl rfl 3 (Nat.le_of_ble_eq_true rfl) k2 rfl rfl dX0_addCost_63 ?_
        refine lv_iload_n hx hb dX0_addCost_66 rfl (lv_at hl 3 rfl) ?_
        obtain ⟨hn5, hF⟩ := q_ck hF
        refine va_iald hx hb hK hP 3 0 rfl rfl hn5 dX0_addCost_67 ?_
        refine lv_iadd hx hb dX0_addCost_68 ?_
        refine lv_dup2_11 hx hb dX0_addCost_69 rfl rfl ?_
        obtain ⟨hn6, hF⟩ := q_ck hF
        refine va_iald hx hb hK hP 1 0 rfl rfl hn6 dX0_addCost_70 ?_
        refine lv_iconst (v := 1) hx hb dX0_addCost_71 (by decide) ?_
        refine lv_iadd hx hb dX0_addCost_72 ?_
        obtain ⟨hn7, hF⟩ := q_ck hF
        refine q_iast hx hb hK hP hD hS 1 0 (iX0_addCost aS cI cZ (upd B_cost_1 (((B_below x1_1.toNatClampNeg) * 6) + (B_below x2_1.toNatClampNeg)).toNatClampNeg ((B_cost_1 (((B_below x1_1.toNatClampNeg) * 6) + (B_below x2_1.toNatClampNeg)).toNatClampNeg) + 1)) B_above B_below B_bestCost B_size) rfl rfl hn7 rfl dX0_addCost_73 (fun H locs hP hD hS => ?_)
        exact hret H locs ls 74 _ dX0_addCost_74 (congrArg (fun z : (Nat → Int32) => (iX0_addCost aS cI cZ z B_above B_below B_bestCost B_size)) (Option.some.inj hF)) hP hD hS
  have JX0_ADDCOST_28 : ∀ (B_cost_8 : Nat → Int32) (x1_8 : Int32) (x2_8 : Int32), jX0_addCost_28 B_cost_8 B_above B_below x1_8 x2_8 = some res → ∀ (H : Heap) (locs : List Loc) (ls : Array Slot), va_P (dC, dI) vwCl (iX0_addCost aS cI cZ B_cost_8 B_above B_below B_bestCost B_size) H → va_D A (iX0_addCost aS cI cZ B_cost_8 B_above B_below B_bestCost B_size) → va_S A s.heap H locs → lv_has ls 4 [(0, .ref (aS 28)), (1, .int x1_8), (2, .int x2_8)] → W p l e (headSpec wsX0_addCost (rX0_addCost)).room s m args below meth c H locs 0 0 Q (F0 m 28 ls []) := by
    intro B_cost_8 x1_8 x2_8 hF H locs ls hP hD hS hl
    unfold jX0_addCost_28 at hF
    refine lv_iconst (v := 0) hx hb dX0_addCost_28 (by decide) ?_
    exact JX0_ADDCOST_29 B_cost_8 x1_8 x2_8 0 hF H locs ls hP hD hS (lv_sub hl [0, 1, 2] rfl)
  refine lv_aload_n hx hb dX0_addCost_0 rfl (lv_at hl 0 rfl) ?_
  refine q_get (ci := 0) (C := RX0) (T := TX0) (N := 10) hx hb hts eX0_addCost_X0 hown hK hP 0 rfl rfl 3 (Nat.le_of_ble_eq_true rfl) k2 rfl rfl dX0_addCost_1 ?_
  refine lv_iload_n hx hb dX0_addCost_4 rfl (lv_at hl 1 rfl) ?_
  obtain ⟨hn9, hF⟩ := q_ck hF
  refine va_iald hx hb hK hP 3 0 rfl rfl hn9 dX0_addCost_5 ?_
  obtain ⟨q10, hcq10, hF⟩ := q_bd hF
  refine q_Si (As := [.int (B_below p0.toNatClampNeg)]) (rest := []) ⟨hx, hb, hml, hown, hts⟩ hA hK hP hD hS (tX0_isPlace l dC dI cI cZ H.size (B_below p0.toNatClampNeg) q10 hcq10) (va_cwS 1 hts gX0_addCost_X0_isPlace rfl rfl rfl uX0_isPlace ⟨Nat.le_of_ble_eq_true rfl, Nat.le_of_ble_eq_true rfl⟩) [] [(false, 0), (false, 1), (false, 2), (false, 3)] (iX0_addCost aS cI cZ B_cost B_above B_below B_bestCost B_size) rfl rfl rfl rfl rfl rfl hl.1 rfl (Nat.le_of_ble_eq_true rfl) dX0_addCost_6 ⟨Nat.zero_le _, Nat.zero_le _⟩ (fun H locs hP hD hS => ?_)
  refine lv_if_eq (tgt := 28) hx hb dX0_addCost_9 (by decide) (fun hc => ?_) (fun hc => ?_)
  · replace hF := q_t hc hF
    exact JX0_ADDCOST_28 B_cost p0 p1 hF H locs ls hP hD hS (lv_sub hl [0, 1, 2] rfl)
  · replace hF := q_f hc hF
    refine lv_aload_n hx hb dX0_addCost_12 rfl (lv_at hl 0 rfl) ?_
    refine q_get (ci := 0) (C := RX0) (T := TX0) (N := 10) hx hb hts eX0_addCost_X0 hown hK hP 0 rfl rfl 3 (Nat.le_of_ble_eq_true rfl) k2 rfl rfl dX0_addCost_13 ?_
    refine lv_iload_n hx hb dX0_addCost_16 rfl (lv_at hl 2 rfl) ?_
    obtain ⟨hn11, hF⟩ := q_ck hF
    refine va_iald hx hb hK hP 3 0 rfl rfl hn11 dX0_addCost_17 ?_
    obtain ⟨q12, hcq12, hF⟩ := q_bd hF
    refine q_Si (As := [.int (B_below p1.toNatClampNeg)]) (rest := []) ⟨hx, hb, hml, hown, hts⟩ hA hK hP hD hS (tX0_isPlace l dC dI cI cZ H.size (B_below p1.toNatClampNeg) q12 hcq12) (va_cwS 1 hts gX0_addCost_X0_isPlace rfl rfl rfl uX0_isPlace ⟨Nat.le_of_ble_eq_true rfl, Nat.le_of_ble_eq_true rfl⟩) [] [(false, 0), (false, 1), (false, 2), (false, 3)] (iX0_addCost aS cI cZ B_cost B_above B_below B_bestCost B_size) rfl rfl rfl rfl rfl rfl hl.1 rfl (Nat.le_of_ble_eq_true rfl) dX0_addCost_18 ⟨Nat.zero_le _, Nat.zero_le _⟩ (fun H locs hP hD hS => ?_)
    refine lv_if_eq (tgt := 28) hx hb dX0_addCost_21 (by decide) (fun hc => ?_) (fun hc => ?_)
    · replace hF := q_t hc hF
      exact JX0_ADDCOST_28 B_cost p0 p1 hF H locs ls hP hD hS (lv_sub hl [0, 1, 2] rfl)
    · replace hF := q_f hc hF
      refine lv_iconst (v := 1) hx hb dX0_addCost_24 (by decide) ?_
      refine lv_goto (tgt := 29) hx hb dX0_addCost_25 (by decide) ?_
      exact JX0_ADDCOST_29 B_cost p0 p1 1 hF H locs ls hP hD hS (lv_sub hl [0, 1, 2] rfl)
abbrev rX0_findCosts : Room := { frames := 2, cells := 0, slots := 0, locals := 43 }
theorem eX0_findCosts_X0 : ∀ w ∈ u_ws RX0 TX0 10, w ∈ wsX0_findCosts := by decide +kernel
theorem uX0_findCosts : yX0_findCosts.cls = RX0 ∧ yX0_findCosts.cls ≠ "java/lang/invoke/MethodHandle" ∧ yX0_findCosts.cls ≠ "java/lang/invoke/VarHandle" ∧ (parseMethodDescriptor yX0_findCosts.desc).map (fun d => d.parameters.length) = some 2 := by decide +kernel
set_option maxHeartbeats 4000000 in
set_option maxRecDepth 100000 in
theorem tX0_findCosts (l : Launch) (dC : Nat → ClassId) (dI : Nat → Nat → Nat) (cI cZ : ClassId) (aS : Nat → Nat) (aO : Nat → Nat) (sz : Nat) (P_size : Nat → Int32) (P_uppers : Nat → Int32) (P_lowers : Nat → Int32) (B_cost : Nat → Int32) (B_above : Nat → Int32) (B_below : Nat → Int32) (B_bestCost : Int32) (B_size : Int32) (O_layers : Int32) (O_places : Nat → Int32) (p1 : Int32) (res : (Nat → Int32) × (Nat → Int32) × (Nat → Int32)) (hF : fX0_findCosts P_size P_uppers P_lowers B_above B_below O_places p1 = some res) : q_Mv l yX0_findCosts wsX0_findCosts rX0_findCosts (dC, dI) (q_ty cI cZ) [.ref (aS 28), .ref (aO 0), .int p1] (iX0_findCosts aS aO cI cZ P_size P_uppers P_lowers B_cost B_above B_below B_bestCost B_size O_layers O_places) (iX0_findCosts aS aO cI cZ P_size P_uppers P_lowers res.1 res.2.1 res.2.2 B_bestCost B_size O_layers O_places) sz := by
  refine q_metv (cc := cX0_findCosts) (maxL := 7) (by decide) rfl (Nat.le_of_ble_eq_true rfl) ?_
  intro p e s m args below meth c Q A H locs ls C hP hD hS hl hret
  obtain ⟨hx, hb, hml, hown, hts, hA, hK⟩ := C
  replace hl : lv_has ls 7 [(0, .ref (aS 28)), (1, .ref (aO 0)), (2, .int p1)] := hl
  have k0 := hts (.fieldLink RX0 11 "RouteLayout$BestRow" "cost" "[I") (by decide +kernel)
  have k1 := hts (.fieldLink RX0 34 "RouteLayout$BestRow" "pieces" "LRouteLayout$Pieces;") (by decide +kernel)
  have k2 := hts (.methodLink RX0 77 Lib.Math.min.name) (by decide +kernel)
  have k3 := hts (.static Lib.Math.min.name) (by decide +kernel)
  have k4 := hts (.initialized "java/lang/Math") (by decide +kernel)
  have k5 := hts (.code Lib.Math.min.name Lib.Math.min.code 2 (some .int)) (by decide +kernel)
  have k6 := hts (.fieldLink RX0 15 "RouteLayout$BestRow" "above" "[I") (by decide +kernel)
  have k7 := hts (.fieldLink RX0 18 "RouteLayout$BestRow" "below" "[I") (by decide +kernel)
  unfold fX0_findCosts at hF
  refine lv_aload_n hx hb dX0_findCosts_0 rfl (lv_at hl 0 rfl) ?_
  refine q_get (ci := 0) (C := RX0) (T := TX0) (N := 10) hx hb hts eX0_findCosts_X0 hown hK hP 0 rfl rfl 1 (Nat.le_of_ble_eq_true rfl) k0 rfl rfl dX0_findCosts_1 ?_
  refine lv_iconst (v := 0) hx hb dX0_findCosts_4 (by decide) ?_
  refine q_Sv (As := [.ref (aS 29), .int 0]) (rest := []) ⟨hx, hb, hml, hown, hts⟩ hA hK hP hD hS (tJ7_fill_53178 l dC dI cI cZ (aS 29) 36 H.size B_cost 0 (by decide)) (va_cwS 2 hts gX0_findCosts_J7_fill_53178 rfl rfl rfl uJ7_fill_53178 ⟨Nat.le_of_ble_eq_true rfl, Nat.le_of_ble_eq_true rfl⟩) [5] [(false, 0), (false, 1), (false, 2), (false, 3), (false, 4), (true, 0), (false, 6), (false, 7), (false, 8), (false, 9)] (iX0_findCosts aS aO cI cZ P_size P_uppers P_lowers (fun _ => 0) B_above B_below B_bestCost B_size O_layers O_places) rfl rfl rfl rfl rfl rfl hl.1 rfl (Nat.le_of_ble_eq_true rfl) dX0_findCosts_5 ⟨Nat.zero_le _, Nat.zero_le _⟩ (fun H locs hP hD hS => ?_)
  refine lv_iload_n hx hb dX0_findCosts_8 rfl (lv_at hl 2 rfl) ?_
  refine lv_iconst (v := 1) hx hb dX0_findCosts_9 (by decide) ?_
  refine lv_isub hx hb dX0_findCosts_10 ?_
  refine lv_istore_n (lv' := [(3, .int (p1 - 1)), (0, .ref (aS 28)), (1, .ref (aO 0)), (2, .int p1)]) hx hb dX0_findCosts_11 rfl hl (by decide) rfl (fun ls hl => ?_)
  refine lv_aload_n hx hb dX0_findCosts_12 rfl (lv_at hl 1 rfl) ?_
  refine q_get (ci := 0) (C := RX0) (T := TX0) (N := 10) hx hb hts eX0_findCosts_X0 hown hK hP 0 rfl rfl 0 (Nat.le_of_ble_eq_true rfl) k1 rfl rfl dX0_findCosts_13 ?_
  refine lv_iload_n hx hb dX0_findCosts_16 rfl (lv_at hl 0 rfl) ?_
  obtain ⟨q1, hcq1, hF⟩ := q_bd hF
  refine q_Vi (As := [.int (p1 - 1)]) (rest := []) ⟨hx, hb, hml, hown, hts⟩ hA hK hP hD hS (tX6_sizeOf l dC dI cI cZ aS H.size P_size (p1 - 1) q1 hcq1) (cwV 1 hts gX0_findCosts_X6_sizeOf rfl rfl rfl uX6_sizeOf ⟨Nat.le_of_ble_eq_true rfl, Nat.le_of_ble_eq_true rfl⟩) [1, 2] [(false, 0), (true, 0), (true, 1), (false, 3), (false, 4), (false, 5), (false, 6), (false, 7), (false, 8), (false, 9)] (iX0_findCosts aS aO cI cZ P_size P_uppers P_lowers (fun _ => 0) B_above B_below B_bestCost B_size O_layers O_places) rfl rfl rfl rfl rfl 6 0 rfl rfl rfl rfl hl.1 rfl (Nat.le_of_ble_eq_true rfl) dX0_findCosts_17 ⟨Nat.zero_le _, Nat.zero_le _⟩ (fun H locs hP hD hS => ?_)
  refine lv_bipush (v := 24) hx hb dX0_findCosts_20 (by decide) ?_
  refine va_mmin hx hb (hml.trans hl.1.symm) hown k2 k3 k4 k5 (Nat.le_of_ble_eq_true rfl) (Nat.le_of_ble_eq_true rfl) (Nat.zero_le _) (Nat.zero_le _) dX0_findCosts_22 ?_
  obtain ⟨v2, hv2, hF⟩ := q_letE hF
  refine q_top hv2 ?_
  refine lv_istore (lv' := [(4, .int v2), (3, .int (p1 - 1)), (0, .ref (aS 28)), (1, .ref (aO 0)), (2, .int p1)]) hx hb dX0_findCosts_25 hl (by decide) rfl (fun ls hl => ?_)
  refine lv_iconst (v := 0) hx hb dX0_findCosts_27 (by decide) ?_
  refine lv_istore (lv' := [(5, .int 0), (4, .int v2), (3, .int (p1 - 1)), (0, .ref (aS 28)), (1, .ref (aO 0)), (2, .int p1)]) hx hb dX0_findCosts_28 hl (by decide) rfl (fun ls hl => ?_)
  obtain ⟨q3_0, q3_1, q3_2, hc3, hF⟩ := q_bd3 hF
  have X3 : ∀ (u3_0 : Nat → Int32) (u3_1 : Nat → Int32) (u3_2 : Nat → Int32), (u3_0, u3_1, u3_2) = (q3_0, q3_1, q3_2) → ∀ (H : Heap) (locs : List Loc) (ls : Array Slot), va_P (dC, dI) vwCl (iX0_findCosts aS aO cI cZ P_size P_uppers P_lowers u3_0 u3_1 u3_2 B_bestCost B_size O_layers O_places) H → va_D A (iX0_findCosts aS aO cI cZ P_size P_uppers P_lowers u3_0 u3_1 u3_2 B_bestCost B_size O_layers O_places) → va_S A s.heap H locs → lv_has ls 7 [] → W p l e (headSpec wsX0_findCosts (rX0_findCosts)).room s m args below meth c H locs 0 0 Q (F0 m 121 ls []) := by
    intro u3_0 u3_1 u3_2 hu H locs ls hP hD hS hl
    obtain ⟨e0, e1, e2⟩ := q_inj3 hu
    subst e0 e1 e2
    exact hret H locs ls 121 _ dX0_findCosts_121 (congrArg (fun z : (Nat → Int32) × (Nat → Int32) × (Nat → Int32) => (iX0_findCosts aS aO cI cZ P_size P_uppers P_lowers z.1 z.2.1 z.2.2 B_bestCost B_size O_layers O_places)) (Option.some.inj hF)) hP hD hS
  have L3 : ∀ st : Int32 × (Nat → Int32) × (Nat → Int32) × (Nat → Int32), q_lo (fun (st : Int32 × (Nat → Int32) × (Nat → Int32) × (Nat → Int32)) => bX0_findCosts_30 P_size P_uppers P_lowers O_places p1 (p1 - 1) v2 st.1 st.2.1 st.2.2.1 st.2.2.2) st = some (q3_0, q3_1, q3_2) → ∀ (H : Heap) (locs : List Loc) (ls : Array Slot), va_P (dC, dI) vwCl (iX0_findCosts aS aO cI cZ P_size P_uppers P_lowers st.2.1 st.2.2.1 st.2.2.2 B_bestCost B_size O_layers O_places) H → va_D A (iX0_findCosts aS aO cI cZ P_size P_uppers P_lowers st.2.1 st.2.2.1 st.2.2.2 B_bestCost B_size O_layers O_places) → va_S A s.heap H locs → lv_has ls 7 [(0, .ref (aS 28)), (1, .ref (aO 0)), (2, .int p1), (3, .int (p1 - 1)), (4, .int v2), (5, .int st.1)] → W p l e (headSpec wsX0_findCosts (rX0_findCosts)).room s m args below meth c H locs 0 0 Q (F0 m 30 ls []) := by
    intro st hst
    refine q_walk (Wh := fun st : Int32 × (Nat → Int32) × (Nat → Int32) × (Nat → Int32) => ∀ (H : Heap) (locs : List Loc) (ls : Array Slot), va_P (dC, dI) vwCl (iX0_findCosts aS aO cI cZ P_size P_uppers P_lowers st.2.1 st.2.2.1 st.2.2.2 B_bestCost B_size O_layers O_places) H → va_D A (iX0_findCosts aS aO cI cZ P_size P_uppers P_lowers st.2.1 st.2.2.1 st.2.2.2 B_bestCost B_size O_layers O_places) → va_S A s.heap H locs → lv_has ls 7 [(0, .ref (aS 28)), (1, .ref (aO 0)), (2, .int p1), (3, .int (p1 - 1)), (4, .int v2), (5, .int st.1)] → W p l e (headSpec wsX0_findCosts (rX0_findCosts)).room s m args below meth c H locs 0 0 Q (F0 m 30 ls [])) ?_ st hst
    clear hst st hF
    intro st o hF hin hex H locs ls hP hD hS hl
    obtain ⟨x5_3, B_cost_3, B_above_3, B_below_3⟩ := st
    replace hF : bX0_findCosts_30 P_size P_uppers P_lowers O_places p1 (p1 - 1) v2 x5_3 B_cost_3 B_above_3 B_below_3 = some o := hF
    replace hP : va_P (dC, dI) vwCl (iX0_findCosts aS aO cI cZ P_size P_uppers P_lowers B_cost_3 B_above_3 B_below_3 B_bestCost B_size O_layers O_places) H := hP
    replace hD : va_D A (iX0_findCosts aS aO cI cZ P_size P_uppers P_lowers B_cost_3 B_above_3 B_below_3 B_bestCost B_size O_layers O_places) := hD
    replace hl : lv_has ls 7 [(0, .ref (aS 28)), (1, .ref (aO 0)), (2, .int p1), (3, .int (p1 - 1)), (4, .int v2), (5, .int x5_3)] := hl
    unfold bX0_findCosts_30 at hF
    refine lv_iload hx hb dX0_findCosts_30 (lv_at hl 5 rfl) ?_
    refine lv_iload hx hb dX0_findCosts_32 (lv_at hl 4 rfl) ?_
    refine lv_icmp_ge (tgt := 121) hx hb dX0_findCosts_34 (by decide) (fun hc => ?_) (fun hc => ?_)
    · replace hF := q_t hc hF
      exact X3 _ _ _ (hex _ (Option.some.inj hF).symm) H locs ls hP hD hS (lv_sub hl [] rfl)
    · replace hF := q_f hc hF
      refine lv_aload_n hx hb dX0_findCosts_37 rfl (lv_at hl 0 rfl) ?_
      refine q_get (ci := 0) (C := RX0) (T := TX0) (N := 10) hx hb hts eX0_findCosts_X0 hown hK hP 0 rfl rfl 2 (Nat.le_of_ble_eq_true rfl) k6 rfl rfl dX0_findCosts_38 ?_
      refine lv_iload hx hb dX0_findCosts_41 (lv_at hl 5 rfl) ?_
      refine lv_aload_n hx hb dX0_findCosts_43 rfl (lv_at hl 1 rfl) ?_
      refine lv_iload_n hx hb dX0_findCosts_44 rfl (lv_at hl 3 rfl) ?_
      refine lv_aload_n hx hb dX0_findCosts_45 rfl (lv_at hl 0 rfl) ?_
      refine q_get (ci := 0) (C := RX0) (T := TX0) (N := 10) hx hb hts eX0_findCosts_X0 hown hK hP 0 rfl rfl 0 (Nat.le_of_ble_eq_true rfl) k1 rfl rfl dX0_findCosts_46 ?_
      refine lv_iload_n hx hb dX0_findCosts_49 rfl (lv_at hl 3 rfl) ?_
      refine lv_iload hx hb dX0_findCosts_50 (lv_at hl 5 rfl) ?_
      refine lv_iconst (v := 1) hx hb dX0_findCosts_52 (by decide) ?_
      obtain ⟨q4, hcq4, hF⟩ := q_bd hF
      refine q_Vi (As := [.int (p1 - 1), .int x5_3, .int 1]) (rest := [.int (p1 - 1), .ref (aO 0), .int x5_3, .ref (aS 30)]) ⟨hx, hb, hml, hown, hts⟩ hA hK hP hD hS (tX6_endOf l dC dI cI cZ aS H.size P_size P_uppers P_lowers (p1 - 1) x5_3 1 q4 hcq4) (cwV 3 hts gX0_findCosts_X6_endOf rfl rfl rfl uX6_endOf ⟨Nat.le_of_ble_eq_true rfl, Nat.le_of_ble_eq_true rfl⟩) [1, 2, 3, 4] [(false, 0), (true, 0), (true, 1), (true, 2), (true, 3), (false, 5), (false, 6), (false, 7), (false, 8), (false, 9)] (iX0_findCosts aS aO cI cZ P_size P_uppers P_lowers B_cost_3 B_above_3 B_below_3 B_bestCost B_size O_layers O_places) rfl rfl rfl rfl rfl 6 0 rfl rfl rfl rfl hl.1 rfl (Nat.le_of_ble_eq_true rfl) dX0_findCosts_53 ⟨Nat.zero_le _, Nat.zero_le _⟩ (fun H locs hP hD hS => ?_)
      obtain ⟨q5, hcq5, hF⟩ := q_bd hF
      refine q_Vi (As := [.int (p1 - 1), .int q4]) (rest := [.int x5_3, .ref (aS 30)]) ⟨hx, hb, hml, hown, hts⟩ hA hK hP hD hS (tX4_placeIn l dC dI cI cZ aO H.size O_layers O_places (p1 - 1) q4 q5 hcq5) (cwV 2 hts gX0_findCosts_X4_placeIn rfl rfl rfl uX4_placeIn ⟨Nat.le_of_ble_eq_true rfl, Nat.le_of_ble_eq_true rfl⟩) [8, 9] [(false, 0), (false, 1), (false, 2), (false, 3), (false, 4), (false, 5), (false, 6), (false, 7), (true, 0), (true, 1)] (iX0_findCosts aS aO cI cZ P_size P_uppers P_lowers B_cost_3 B_above_3 B_below_3 B_bestCost B_size O_layers O_places) rfl rfl rfl rfl rfl 4 0 rfl rfl rfl rfl hl.1 rfl (Nat.le_of_ble_eq_true rfl) dX0_findCosts_56 ⟨Nat.zero_le _, Nat.zero_le _⟩ (fun H locs hP hD hS => ?_)
      obtain ⟨hn6, hF⟩ := q_ck hF
      refine q_iast hx hb hK hP hD hS 6 0 (iX0_findCosts aS aO cI cZ P_size P_uppers P_lowers B_cost_3 (upd B_above_3 x5_3.toNatClampNeg q5) B_below_3 B_bestCost B_size O_layers O_places) rfl rfl hn6 rfl dX0_findCosts_59 (fun H locs hP hD hS => ?_)
      refine lv_aload_n hx hb dX0_findCosts_60 rfl (lv_at hl 0 rfl) ?_
      refine q_get (ci := 0) (C := RX0) (T := TX0) (N := 10) hx hb hts eX0_findCosts_X0 hown hK hP 0 rfl rfl 3 (Nat.le_of_ble_eq_true rfl) k7 rfl rfl dX0_findCosts_61 ?_
      refine lv_iload hx hb dX0_findCosts_64 (lv_at hl 5 rfl) ?_
      refine lv_aload_n hx hb dX0_findCosts_66 rfl (lv_at hl 1 rfl) ?_
      refine lv_iload_n hx hb dX0_findCosts_67 rfl (lv_at hl 2 rfl) ?_
      refine lv_aload_n hx hb dX0_findCosts_68 rfl (lv_at hl 0 rfl) ?_
      refine q_get (ci := 0) (C := RX0) (T := TX0) (N := 10) hx hb hts eX0_findCosts_X0 hown hK hP 0 rfl rfl 0 (Nat.le_of_ble_eq_true rfl) k1 rfl rfl dX0_findCosts_69 ?_
      refine lv_iload_n hx hb dX0_findCosts_72 rfl (lv_at hl 3 rfl) ?_
      refine lv_iload hx hb dX0_findCosts_73 (lv_at hl 5 rfl) ?_
      refine lv_iconst (v := 0) hx hb dX0_findCosts_75 (by decide) ?_
      obtain ⟨q7, hcq7, hF⟩ := q_bd hF
      refine q_Vi (As := [.int (p1 - 1), .int x5_3, .int 0]) (rest := [.int p1, .ref (aO 0), .int x5_3, .ref (aS 31)]) ⟨hx, hb, hml, hown, hts⟩ hA hK hP hD hS (tX6_endOf l dC dI cI cZ aS H.size P_size P_uppers P_lowers (p1 - 1) x5_3 0 q7 hcq7) (cwV 3 hts gX0_findCosts_X6_endOf rfl rfl rfl uX6_endOf ⟨Nat.le_of_ble_eq_true rfl, Nat.le_of_ble_eq_true rfl⟩) [1, 2, 3, 4] [(false, 0), (true, 0), (true, 1), (true, 2), (true, 3), (false, 5), (false, 6), (false, 7), (false, 8), (false, 9)] (iX0_findCosts aS aO cI cZ P_size P_uppers P_lowers B_cost_3 (upd B_above_3 x5_3.toNatClampNeg q5) B_below_3 B_bestCost B_size O_layers O_places) rfl rfl rfl rfl rfl 6 0 rfl rfl rfl rfl hl.1 rfl (Nat.le_of_ble_eq_true rfl) dX0_findCosts_76 ⟨Nat.zero_le _, Nat.zero_le _⟩ (fun H locs hP hD hS => ?_)
      obtain ⟨q8, hcq8, hF⟩ := q_bd hF
      refine q_Vi (As := [.int p1, .int q7]) (rest := [.int x5_3, .ref (aS 31)]) ⟨hx, hb, hml, hown, hts⟩ hA hK hP hD hS (tX4_placeIn l dC dI cI cZ aO H.size O_layers O_places p1 q7 q8 hcq8) (cwV 2 hts gX0_findCosts_X4_placeIn rfl rfl rfl uX4_placeIn ⟨Nat.le_of_ble_eq_true rfl, Nat.le_of_ble_eq_true rfl⟩) [8, 9] [(false, 0), (false, 1), (false, 2), (false, 3), (false, 4), (false, 5), (false, 6), (false, 7), (true, 0), (true, 1)] (iX0_findCosts aS aO cI cZ P_size P_uppers P_lowers B_cost_3 (upd B_above_3 x5_3.toNatClampNeg q5) B_below_3 B_bestCost B_size O_layers O_places) rfl rfl rfl rfl rfl 4 0 rfl rfl rfl rfl hl.1 rfl (Nat.le_of_ble_eq_true rfl) dX0_findCosts_79 ⟨Nat.zero_le _, Nat.zero_le _⟩ (fun H locs hP hD hS => ?_)
      obtain ⟨hn9, hF⟩ := q_ck hF
      refine q_iast hx hb hK hP hD hS 7 0 (iX0_findCosts aS aO cI cZ P_size P_uppers P_lowers B_cost_3 (upd B_above_3 x5_3.toNatClampNeg q5) (upd B_below_3 x5_3.toNatClampNeg q8) B_bestCost B_size O_layers O_places) rfl rfl hn9 rfl dX0_findCosts_82 (fun H locs hP hD hS => ?_)
      refine lv_iconst (v := 0) hx hb dX0_findCosts_83 (by decide) ?_
      refine lv_istore (lv' := [(6, .int 0), (0, .ref (aS 28)), (1, .ref (aO 0)), (2, .int p1), (3, .int (p1 - 1)), (4, .int v2), (5, .int x5_3)]) hx hb dX0_findCosts_84 hl (by decide) rfl (fun ls hl => ?_)
      obtain ⟨q10, hc10, hF⟩ := q_bd hF
      have X10 : ∀ (u10 : Nat → Int32), u10 = q10 → ∀ (H : Heap) (locs : List Loc) (ls : Array Slot), va_P (dC, dI) vwCl (iX0_findCosts aS aO cI cZ P_size P_uppers P_lowers u10 (upd B_above_3 x5_3.toNatClampNeg q5) (upd B_below_3 x5_3.toNatClampNeg q8) B_bestCost B_size O_layers O_places) H → va_D A (iX0_findCosts aS aO cI cZ P_size P_uppers P_lowers u10 (upd B_above_3 x5_3.toNatClampNeg q5) (upd B_below_3 x5_3.toNatClampNeg q8) B_bestCost B_size O_layers O_places) → va_S A s.heap H locs → lv_has ls 7 [(0, .ref (aS 28)), (1, .ref (aO 0)), (2, .int p1), (3, .int (p1 - 1)), (4, .int v2), (5, .int x5_3)] → W p l e (headSpec wsX0_findCosts (rX0_findCosts)).room s m args below meth c H locs 0 0 Q (F0 m 115 ls []) := by
        intro u10 hu H locs ls hP hD hS hl
        subst hu
        refine lv_iinc (v := (x5_3 + 1)) (lv' := [(5, .int (x5_3 + 1)), (0, .ref (aS 28)), (1, .ref (aO 0)), (2, .int p1), (3, .int (p1 - 1)), (4, .int v2)]) hx hb dX0_findCosts_115 hl (k := 5) rfl rfl (by decide) rfl (fun ls hl => ?_)
        refine lv_goto (tgt := 30) hx hb dX0_findCosts_118 (by decide) ?_
        exact hin _ (Option.some.inj hF).symm H locs ls hP hD hS (lv_sub hl [1, 2, 3, 4, 5, 0] rfl)
      have L10 : ∀ st : Int32 × (Nat → Int32), q_lo (fun (st : Int32 × (Nat → Int32)) => bX0_findCosts_86 (upd B_above_3 x5_3.toNatClampNeg q5) (upd B_below_3 x5_3.toNatClampNeg q8) x5_3 st.1 st.2) st = some q10 → ∀ (H : Heap) (locs : List Loc) (ls : Array Slot), va_P (dC, dI) vwCl (iX0_findCosts aS aO cI cZ P_size P_uppers P_lowers st.2 (upd B_above_3 x5_3.toNatClampNeg q5) (upd B_below_3 x5_3.toNatClampNeg q8) B_bestCost B_size O_layers O_places) H → va_D A (iX0_findCosts aS aO cI cZ P_size P_uppers P_lowers st.2 (upd B_above_3 x5_3.toNatClampNeg q5) (upd B_below_3 x5_3.toNatClampNeg q8) B_bestCost B_size O_layers O_places) → va_S A s.heap H locs → lv_has ls 7 [(0, .ref (aS 28)), (1, .ref (aO 0)), (2, .int p1), (3, .int (p1 - 1)), (4, .int v2), (5, .int x5_3), (6, .int st.1)] → W p l e (headSpec wsX0_findCosts (rX0_findCosts)).room s m args below meth c H locs 0 0 Q (F0 m 86 ls []) := by
        intro st hst
        refine q_walk (Wh := fun st : Int32 × (Nat → Int32) => ∀ (H : Heap) (locs : List Loc) (ls : Array Slot), va_P (dC, dI) vwCl (iX0_findCosts aS aO cI cZ P_size P_uppers P_lowers st.2 (upd B_above_3 x5_3.toNatClampNeg q5) (upd B_below_3 x5_3.toNatClampNeg q8) B_bestCost B_size O_layers O_places) H → va_D A (iX0_findCosts aS aO cI cZ P_size P_uppers P_lowers st.2 (upd B_above_3 x5_3.toNatClampNeg q5) (upd B_below_3 x5_3.toNatClampNeg q8) B_bestCost B_size O_layers O_places) → va_S A s.heap H locs → lv_has ls 7 [(0, .ref (aS 28)), (1, .ref (aO 0)), (2, .int p1), (3, .int (p1 - 1)), (4, .int v2), (5, .int x5_3), (6, .int st.1)] → W p l e (headSpec wsX0_findCosts (rX0_findCosts)).room s m args below meth c H locs 0 0 Q (F0 m 86 ls [])) ?_ st hst
        clear hst st hF
        intro st o hF hin hex H locs ls hP hD hS hl
        obtain ⟨x6_10, B_cost_10⟩ := st
        replace hF : bX0_findCosts_86 (upd B_above_3 x5_3.toNatClampNeg q5) (upd B_below_3 x5_3.toNatClampNeg q8) x5_3 x6_10 B_cost_10 = some o := hF
        replace hP : va_P (dC, dI) vwCl (iX0_findCosts aS aO cI cZ P_size P_uppers P_lowers B_cost_10 (upd B_above_3 x5_3.toNatClampNeg q5) (upd B_below_3 x5_3.toNatClampNeg q8) B_bestCost B_size O_layers O_places) H := hP
        replace hD : va_D A (iX0_findCosts aS aO cI cZ P_size P_uppers P_lowers B_cost_10 (upd B_above_3 x5_3.toNatClampNeg q5) (upd B_below_3 x5_3.toNatClampNeg q8) B_bestCost B_size O_layers O_places) := hD
        replace hl : lv_has ls 7 [(0, .ref (aS 28)), (1, .ref (aO 0)), (2, .int p1), (3, .int (p1 - 1)), (4, .int v2), (5, .int x5_3), (6, .int x6_10)] := hl
        unfold bX0_findCosts_86 at hF
        refine lv_iload hx hb dX0_findCosts_86 (lv_at hl 6 rfl) ?_
        refine lv_iload hx hb dX0_findCosts_88 (lv_at hl 5 rfl) ?_
        refine lv_icmp_ge (tgt := 115) hx hb dX0_findCosts_90 (by decide) (fun hc => ?_) (fun hc => ?_)
        · replace hF := q_t hc hF
          exact X10 _ (hex _ (Option.some.inj hF).symm) H locs ls hP hD hS (lv_sub hl [0, 1, 2, 3, 4, 5] rfl)
        · replace hF := q_f hc hF
          refine lv_aload_n hx hb dX0_findCosts_93 rfl (lv_at hl 0 rfl) ?_
          refine lv_iload hx hb dX0_findCosts_94 (lv_at hl 5 rfl) ?_
          refine lv_iload hx hb dX0_findCosts_96 (lv_at hl 6 rfl) ?_
          obtain ⟨q11, hcq11, hF⟩ := q_bd hF
          refine q_Vv (As := [.int x5_3, .int x6_10]) (rest := []) ⟨hx, hb, hml, hown, hts⟩ hA hK hP hD hS (tX0_addCost l dC dI cI cZ aS H.size B_cost_10 (upd B_above_3 x5_3.toNatClampNeg q5) (upd B_below_3 x5_3.toNatClampNeg q8) B_bestCost B_size x5_3 x6_10 q11 hcq11) (cwV 2 hts gX0_findCosts_X0_addCost rfl rfl rfl uX0_addCost ⟨Nat.le_of_ble_eq_true rfl, Nat.le_of_ble_eq_true rfl⟩) [0, 5, 6, 7] [(true, 0), (false, 1), (false, 2), (false, 3), (false, 4), (true, 1), (true, 2), (true, 3), (false, 8), (false, 9)] (iX0_findCosts aS aO cI cZ P_size P_uppers P_lowers q11 (upd B_above_3 x5_3.toNatClampNeg q5) (upd B_below_3 x5_3.toNatClampNeg q8) B_bestCost B_size O_layers O_places) rfl rfl rfl rfl rfl 0 0 rfl rfl rfl rfl hl.1 rfl (Nat.le_of_ble_eq_true rfl) dX0_findCosts_98 ⟨Nat.zero_le _, Nat.zero_le _⟩ (fun H locs hP hD hS => ?_)
          refine lv_aload_n hx hb dX0_findCosts_101 rfl (lv_at hl 0 rfl) ?_
          refine lv_iload hx hb dX0_findCosts_102 (lv_at hl 6 rfl) ?_
          refine lv_iload hx hb dX0_findCosts_104 (lv_at hl 5 rfl) ?_
          obtain ⟨q12, hcq12, hF⟩ := q_bd hF
          refine q_Vv (As := [.int x6_10, .int x5_3]) (rest := []) ⟨hx, hb, hml, hown, hts⟩ hA hK hP hD hS (tX0_addCost l dC dI cI cZ aS H.size q11 (upd B_above_3 x5_3.toNatClampNeg q5) (upd B_below_3 x5_3.toNatClampNeg q8) B_bestCost B_size x6_10 x5_3 q12 hcq12) (cwV 2 hts gX0_findCosts_X0_addCost rfl rfl rfl uX0_addCost ⟨Nat.le_of_ble_eq_true rfl, Nat.le_of_ble_eq_true rfl⟩) [0, 5, 6, 7] [(true, 0), (false, 1), (false, 2), (false, 3), (false, 4), (true, 1), (true, 2), (true, 3), (false, 8), (false, 9)] (iX0_findCosts aS aO cI cZ P_size P_uppers P_lowers q12 (upd B_above_3 x5_3.toNatClampNeg q5) (upd B_below_3 x5_3.toNatClampNeg q8) B_bestCost B_size O_layers O_places) rfl rfl rfl rfl rfl 0 0 rfl rfl rfl rfl hl.1 rfl (Nat.le_of_ble_eq_true rfl) dX0_findCosts_106 ⟨Nat.zero_le _, Nat.zero_le _⟩ (fun H locs hP hD hS => ?_)
          refine lv_iinc (v := (x6_10 + 1)) (lv' := [(6, .int (x6_10 + 1)), (0, .ref (aS 28)), (1, .ref (aO 0)), (2, .int p1), (3, .int (p1 - 1)), (4, .int v2), (5, .int x5_3)]) hx hb dX0_findCosts_109 hl (k := 6) rfl rfl (by decide) rfl (fun ls hl => ?_)
          refine lv_goto (tgt := 86) hx hb dX0_findCosts_112 (by decide) ?_
          exact hin _ (Option.some.inj hF).symm H locs ls hP hD hS (lv_sub hl [1, 2, 3, 4, 5, 6, 0] rfl)
      exact L10 (0, B_cost_3) hc10 H locs ls hP hD hS (lv_sub hl [1, 2, 3, 4, 5, 6, 0] rfl)
  exact L3 (0, (fun _ => 0), B_above, B_below) hc3 H locs ls hP hD hS (lv_sub hl [3, 4, 5, 2, 1, 0] rfl)
abbrev rX0_costAhead : Room := { frames := 0, cells := 0, slots := 0, locals := 0 }
theorem eX0_costAhead_X0 : ∀ w ∈ u_ws RX0 TX0 10, w ∈ wsX0_costAhead := by decide +kernel
theorem uX0_costAhead : yX0_costAhead.cls = RX0 ∧ yX0_costAhead.cls ≠ "java/lang/invoke/MethodHandle" ∧ yX0_costAhead.cls ≠ "java/lang/invoke/VarHandle" ∧ (parseMethodDescriptor yX0_costAhead.desc).map (fun d => d.parameters.length) = some 1 := by decide +kernel
set_option maxHeartbeats 4000000 in
set_option maxRecDepth 100000 in
theorem tX0_costAhead (l : Launch) (dC : Nat → ClassId) (dI : Nat → Nat → Nat) (cI cZ : ClassId) (aS : Nat → Nat) (sz : Nat) (B_cost : Nat → Int32) (B_used : Nat → Int32) (B_bestCost : Int32) (B_size : Int32) (p0 : Int32) (res : Int32) (hF : fX0_costAhead B_cost B_used B_size p0 = some res) : q_Mi l yX0_costAhead wsX0_costAhead rX0_costAhead (dC, dI) (q_ty cI cZ) [.ref (aS 28), .int p0] (iX0_costAhead aS cI cZ B_cost B_used B_bestCost B_size) (iX0_costAhead aS cI cZ B_cost B_used B_bestCost B_size) sz res := by
  refine q_meti (cc := cX0_costAhead) (maxL := 4) (by decide) rfl (Nat.le_of_ble_eq_true rfl) ?_
  intro p e s m args below meth c Q A H locs ls C hP hD hS hl hret
  obtain ⟨hx, hb, hml, hown, hts, hA, hK⟩ := C
  replace hl : lv_has ls 4 [(0, .ref (aS 28)), (1, .int p0)] := hl
  have k0 := hts (.fieldLink RX0 42 "RouteLayout$BestRow" "size" "I") (by decide +kernel)
  have k1 := hts (.fieldLink RX0 24 "RouteLayout$BestRow" "used" "[Z") (by decide +kernel)
  have k2 := hts (.fieldLink RX0 11 "RouteLayout$BestRow" "cost" "[I") (by decide +kernel)
  unfold fX0_costAhead at hF
  refine lv_iconst (v := 0) hx hb dX0_costAhead_0 (by decide) ?_
  refine lv_istore_n (lv' := [(2, .int 0), (0, .ref (aS 28)), (1, .int p0)]) hx hb dX0_costAhead_1 rfl hl (by decide) rfl (fun ls hl => ?_)
  refine lv_iconst (v := 0) hx hb dX0_costAhead_2 (by decide) ?_
  refine lv_istore_n (lv' := [(3, .int 0), (2, .int 0), (0, .ref (aS 28)), (1, .int p0)]) hx hb dX0_costAhead_3 rfl hl (by decide) rfl (fun ls hl => ?_)
  obtain ⟨q1, hc1, hF⟩ := q_bd hF
  have X1 : ∀ (u1 : Int32), u1 = q1 → ∀ (H : Heap) (locs : List Loc) (ls : Array Slot), va_P (dC, dI) vwCl (iX0_costAhead aS cI cZ B_cost B_used B_bestCost B_size) H → va_D A (iX0_costAhead aS cI cZ B_cost B_used B_bestCost B_size) → va_S A s.heap H locs → lv_has ls 4 [(2, .int u1)] → W p l e (headSpec wsX0_costAhead (rX0_costAhead)).room s m args below meth c H locs 0 0 Q (F0 m 41 ls []) := by
    intro u1 hu H locs ls hP hD hS hl
    subst hu
    refine lv_iload_n hx hb dX0_costAhead_41 rfl (lv_at hl 0 rfl) ?_
    exact hret H locs ls 42 _ _ dX0_costAhead_42 (Option.some.inj hF) rfl hP hD hS
  have L1 : ∀ st : Int32 × Int32, q_lo (fun (st : Int32 × Int32) => bX0_costAhead_4 B_cost B_used B_size p0 st.1 st.2) st = some q1 → ∀ (H : Heap) (locs : List Loc) (ls : Array Slot), va_P (dC, dI) vwCl (iX0_costAhead aS cI cZ B_cost B_used B_bestCost B_size) H → va_D A (iX0_costAhead aS cI cZ B_cost B_used B_bestCost B_size) → va_S A s.heap H locs → lv_has ls 4 [(0, .ref (aS 28)), (1, .int p0), (2, .int st.1), (3, .int st.2)] → W p l e (headSpec wsX0_costAhead (rX0_costAhead)).room s m args below meth c H locs 0 0 Q (F0 m 4 ls []) := by
    intro st hst
    refine q_walk (Wh := fun st : Int32 × Int32 => ∀ (H : Heap) (locs : List Loc) (ls : Array Slot), va_P (dC, dI) vwCl (iX0_costAhead aS cI cZ B_cost B_used B_bestCost B_size) H → va_D A (iX0_costAhead aS cI cZ B_cost B_used B_bestCost B_size) → va_S A s.heap H locs → lv_has ls 4 [(0, .ref (aS 28)), (1, .int p0), (2, .int st.1), (3, .int st.2)] → W p l e (headSpec wsX0_costAhead (rX0_costAhead)).room s m args below meth c H locs 0 0 Q (F0 m 4 ls [])) ?_ st hst
    clear hst st hF
    intro st o hF hin hex H locs ls hP hD hS hl
    obtain ⟨x2_1, x3_1⟩ := st
    replace hF : bX0_costAhead_4 B_cost B_used B_size p0 x2_1 x3_1 = some o := hF
    replace hP : va_P (dC, dI) vwCl (iX0_costAhead aS cI cZ B_cost B_used B_bestCost B_size) H := hP
    replace hD : va_D A (iX0_costAhead aS cI cZ B_cost B_used B_bestCost B_size) := hD
    replace hl : lv_has ls 4 [(0, .ref (aS 28)), (1, .int p0), (2, .int x2_1), (3, .int x3_1)] := hl
    unfold bX0_costAhead_4 at hF
    have JX0_COSTAHEAD_35 : ∀ (x2_2 : Int32) (x3_2 : Int32), jX0_costAhead_35 p0 x2_2 x3_2 = some o → ∀ (H : Heap) (locs : List Loc) (ls : Array Slot), va_P (dC, dI) vwCl (iX0_costAhead aS cI cZ B_cost B_used B_bestCost B_size) H → va_D A (iX0_costAhead aS cI cZ B_cost B_used B_bestCost B_size) → va_S A s.heap H locs → lv_has ls 4 [(0, .ref (aS 28)), (1, .int p0), (2, .int x2_2), (3, .int x3_2)] → W p l e (headSpec wsX0_costAhead (rX0_costAhead)).room s m args below meth c H locs 0 0 Q (F0 m 35 ls []) := by
      intro x2_2 x3_2 hF H locs ls hP hD hS hl
      unfold jX0_costAhead_35 at hF
      refine lv_iinc (v := (x3_2 + 1)) (lv' := [(3, .int (x3_2 + 1)), (0, .ref (aS 28)), (1, .int p0), (2, .int x2_2)]) hx hb dX0_costAhead_35 hl (k := 3) rfl rfl (by decide) rfl (fun ls hl => ?_)
      refine lv_goto (tgt := 4) hx hb dX0_costAhead_38 (by decide) ?_
      exact hin _ (Option.some.inj hF).symm H locs ls hP hD hS (lv_sub hl [1, 2, 3, 0] rfl)
    refine lv_iload_n hx hb dX0_costAhead_4 rfl (lv_at hl 3 rfl) ?_
    refine lv_aload_n hx hb dX0_costAhead_5 rfl (lv_at hl 0 rfl) ?_
    refine q_get (ci := 0) (C := RX0) (T := TX0) (N := 10) hx hb hts eX0_costAhead_X0 hown hK hP 0 rfl rfl 9 (Nat.le_of_ble_eq_true rfl) k0 rfl rfl dX0_costAhead_6 ?_
    refine lv_icmp_ge (tgt := 41) hx hb dX0_costAhead_9 (by decide) (fun hc => ?_) (fun hc => ?_)
    · replace hF := q_t hc hF
      exact X1 _ (hex _ (Option.some.inj hF).symm) H locs ls hP hD hS (lv_sub hl [2] rfl)
    · replace hF := q_f hc hF
      refine lv_aload_n hx hb dX0_costAhead_12 rfl (lv_at hl 0 rfl) ?_
      refine q_get (ci := 0) (C := RX0) (T := TX0) (N := 10) hx hb hts eX0_costAhead_X0 hown hK hP 0 rfl rfl 5 (Nat.le_of_ble_eq_true rfl) k1 rfl rfl dX0_costAhead_13 ?_
      refine lv_iload_n hx hb dX0_costAhead_16 rfl (lv_at hl 3 rfl) ?_
      obtain ⟨hn3, hF⟩ := q_ck hF
      refine va_zald hx hb hK hP 2 1 rfl rfl hn3 dX0_costAhead_17 ?_
      refine lv_if_ne (tgt := 35) hx hb dX0_costAhead_18 (by decide) (fun hc => ?_) (fun hc => ?_)
      · replace hF := q_f hc hF
        exact JX0_COSTAHEAD_35 x2_1 x3_1 hF H locs ls hP hD hS (lv_sub hl [0, 1, 2, 3] rfl)
      · replace hF := q_t hc hF
        refine lv_iload_n hx hb dX0_costAhead_21 rfl (lv_at hl 2 rfl) ?_
        refine lv_aload_n hx hb dX0_costAhead_22 rfl (lv_at hl 0 rfl) ?_
        refine q_get (ci := 0) (C := RX0) (T := TX0) (N := 10) hx hb hts eX0_costAhead_X0 hown hK hP 0 rfl rfl 1 (Nat.le_of_ble_eq_true rfl) k2 rfl rfl dX0_costAhead_23 ?_
        refine lv_iload_n hx hb dX0_costAhead_26 rfl (lv_at hl 1 rfl) ?_
        refine lv_bipush (v := 6) hx hb dX0_costAhead_27 (by decide) ?_
        refine lv_imul hx hb dX0_costAhead_29 ?_
        refine lv_iload_n hx hb dX0_costAhead_30 rfl (lv_at hl 3 rfl) ?_
        refine lv_iadd hx hb dX0_costAhead_31 ?_
        obtain ⟨hn4, hF⟩ := q_ck hF
        refine va_iald hx hb hK hP 1 0 rfl rfl hn4 dX0_costAhead_32 ?_
        refine lv_iadd hx hb dX0_costAhead_33 ?_
        obtain ⟨v5, hv5, hF⟩ := q_letE hF
        refine q_top hv5 ?_
        refine lv_istore_n (lv' := [(2, .int v5), (0, .ref (aS 28)), (1, .int p0), (3, .int x3_1)]) hx hb dX0_costAhead_34 rfl hl (by decide) rfl (fun ls hl => ?_)
        exact JX0_COSTAHEAD_35 v5 x3_1 hF H locs ls hP hD hS (lv_sub hl [1, 2, 0, 3] rfl)
  exact L1 (0, 0) hc1 H locs ls hP hD hS (lv_sub hl [2, 3, 1, 0] rfl)
abbrev rX0_choose (d : Nat) : Room := { frames := 2 * d + 1, cells := 0, slots := 0, locals := 40 + 60 * d }
abbrev rX0_chooseBehind (d : Nat) : Room := { frames := 2 * d + 2, cells := 0, slots := 0, locals := 70 + 60 * d }
theorem uX0_choose : yX0_choose.cls = RX0 ∧ yX0_choose.cls ≠ "java/lang/invoke/MethodHandle" ∧ yX0_choose.cls ≠ "java/lang/invoke/VarHandle" ∧ (parseMethodDescriptor yX0_choose.desc).map (fun d => d.parameters.length) = some 2 := by decide +kernel
theorem eX0_chooseBehind_X0 : ∀ w ∈ u_ws RX0 TX0 10, w ∈ wsX0_chooseBehind := by decide +kernel
theorem uX0_chooseBehind : yX0_chooseBehind.cls = RX0 ∧ yX0_chooseBehind.cls ≠ "java/lang/invoke/MethodHandle" ∧ yX0_chooseBehind.cls ≠ "java/lang/invoke/VarHandle" ∧ (parseMethodDescriptor yX0_chooseBehind.desc).map (fun d => d.parameters.length) = some 3 := by decide +kernel
set_option maxHeartbeats 4000000 in
set_option maxRecDepth 100000 in
theorem tX0_chooseBehind (d : Nat) (l : Launch) (dC : Nat → ClassId) (dI : Nat → Nat → Nat) (cI cZ : ClassId) (aS : Nat → Nat) (ih : ∀ (sz : Nat) (B_cost : Nat → Int32) (B_used : Nat → Int32) (B_chosen : Nat → Int32) (B_best : Nat → Int32) (B_bestCost : Int32) (B_size : Int32) (p0 : Int32) (p1 : Int32) (res : (Nat → Int32) × (Nat → Int32) × (Nat → Int32) × Int32) (hF : fX0_choose d B_cost B_used B_chosen B_best B_bestCost B_size p0 p1 = some res), q_Mv l yX0_choose wsX0_choose (rX0_choose d) (dC, dI) (q_ty cI cZ) [.ref (aS 28), .int p0, .int p1] (iX0_choose aS cI cZ B_cost B_used B_chosen B_best B_bestCost B_size) (iX0_choose aS cI cZ B_cost res.1 res.2.1 res.2.2.1 res.2.2.2 B_size) sz) : ∀ (sz : Nat) (B_cost : Nat → Int32) (B_used : Nat → Int32) (B_chosen : Nat → Int32) (B_best : Nat → Int32) (B_bestCost : Int32) (B_size : Int32) (p0 : Int32) (p1 : Int32) (p2 : Int32) (res : (Nat → Int32) × (Nat → Int32) × (Nat → Int32) × Int32) (hF : fX0_chooseBehind (fX0_choose d) B_cost B_used B_chosen B_best B_bestCost B_size p0 p1 p2 = some res), q_Mv l yX0_chooseBehind wsX0_chooseBehind (rX0_chooseBehind d) (dC, dI) (q_ty cI cZ) [.ref (aS 28), .int p0, .int p1, .int p2] (iX0_chooseBehind aS cI cZ B_cost B_used B_chosen B_best B_bestCost B_size) (iX0_chooseBehind aS cI cZ B_cost res.1 res.2.1 res.2.2.1 res.2.2.2 B_size) sz := by
  intro sz B_cost B_used B_chosen B_best B_bestCost B_size p0 p1 p2 res hF
  refine q_metv (cc := cX0_chooseBehind) (maxL := 4) (by decide) rfl (Nat.le_of_ble_eq_true rfl) ?_
  intro p e s m args below meth c Q A H locs ls C hP hD hS hl hret
  obtain ⟨hx, hb, hml, hown, hts, hA, hK⟩ := C
  replace hl : lv_has ls 4 [(0, .ref (aS 28)), (1, .int p0), (2, .int p1), (3, .int p2)] := hl
  have k0 := hts (.fieldLink RX0 24 "RouteLayout$BestRow" "used" "[Z") (by decide +kernel)
  unfold fX0_chooseBehind at hF
  refine lv_aload_n hx hb dX0_chooseBehind_0 rfl (lv_at hl 0 rfl) ?_
  refine q_get (ci := 0) (C := RX0) (T := TX0) (N := 10) hx hb hts eX0_chooseBehind_X0 hown hK hP 0 rfl rfl 5 (Nat.le_of_ble_eq_true rfl) k0 rfl rfl dX0_chooseBehind_1 ?_
  refine lv_iload_n hx hb dX0_chooseBehind_4 rfl (lv_at hl 1 rfl) ?_
  refine lv_iconst (v := 1) hx hb dX0_chooseBehind_5 (by decide) ?_
  obtain ⟨hn1, hF⟩ := q_ck hF
  refine q_zast hx hb hK hP hD hS 2 1 (iX0_chooseBehind aS cI cZ B_cost (upd B_used p0.toNatClampNeg 1) B_chosen B_best B_bestCost B_size) rfl rfl hn1 (Or.inr rfl) rfl dX0_chooseBehind_6 (fun H locs hP hD hS => ?_)
  refine lv_aload_n hx hb dX0_chooseBehind_7 rfl (lv_at hl 0 rfl) ?_
  refine lv_iload_n hx hb dX0_chooseBehind_8 rfl (lv_at hl 2 rfl) ?_
  refine lv_iconst (v := 1) hx hb dX0_chooseBehind_9 (by decide) ?_
  refine lv_iadd hx hb dX0_chooseBehind_10 ?_
  refine lv_iload_n hx hb dX0_chooseBehind_11 rfl (lv_at hl 3 rfl) ?_
  refine lv_aload_n hx hb dX0_chooseBehind_12 rfl (lv_at hl 0 rfl) ?_
  refine lv_iload_n hx hb dX0_chooseBehind_13 rfl (lv_at hl 1 rfl) ?_
  obtain ⟨q2, hcq2, hF⟩ := q_bd hF
  refine q_Vi (As := [.int p0]) (rest := [.int p2, .int (p1 + 1), .ref (aS 28)]) ⟨hx, hb, hml, hown, hts⟩ hA hK hP hD hS (tX0_costAhead l dC dI cI cZ aS H.size B_cost (upd B_used p0.toNatClampNeg 1) B_bestCost B_size p0 q2 hcq2) (cwV 1 hts gX0_chooseBehind_X0_costAhead rfl rfl rfl uX0_costAhead ⟨by show 0 + 1 ≤ 2 * d + 2; omega, by show 8 + (4 + 11) + (0) ≤ 70 + 60 * d; omega⟩) [0, 1, 2] [(true, 0), (true, 1), (true, 2), (false, 3), (false, 4)] (iX0_chooseBehind aS cI cZ B_cost (upd B_used p0.toNatClampNeg 1) B_chosen B_best B_bestCost B_size) rfl rfl rfl rfl rfl 0 0 rfl rfl rfl rfl hl.1 rfl (Nat.le_of_ble_eq_true rfl) dX0_chooseBehind_14 ⟨Nat.zero_le _, Nat.zero_le _⟩ (fun H locs hP hD hS => ?_)
  refine lv_iadd hx hb dX0_chooseBehind_17 ?_
  obtain ⟨q3_0, q3_1, q3_2, q3_3, hcq3, hF⟩ := q_bd4 hF
  refine q_Vv (As := [.int (p1 + 1), .int (p2 + q2)]) (rest := []) ⟨hx, hb, hml, hown, hts⟩ hA hK hP hD hS (ih H.size B_cost (upd B_used p0.toNatClampNeg 1) B_chosen B_best B_bestCost B_size (p1 + 1) (p2 + q2) (q3_0, q3_1, q3_2, q3_3) hcq3) (cwV 2 hts gX0_chooseBehind_X0_choose rfl rfl rfl uX0_choose ⟨by show 2 * d + 1 + 1 ≤ 2 * d + 2; omega, by show 8 + (4 + 11) + (40 + 60 * d) ≤ 70 + 60 * d; omega⟩) [0, 1, 2, 3, 4] [(true, 0), (true, 1), (true, 2), (true, 3), (true, 4)] (iX0_chooseBehind aS cI cZ B_cost q3_0 q3_1 q3_2 q3_3 B_size) rfl rfl rfl rfl rfl 0 0 rfl rfl rfl rfl hl.1 rfl (Nat.le_of_ble_eq_true rfl) dX0_chooseBehind_18 ⟨Nat.zero_le _, Nat.zero_le _⟩ (fun H locs hP hD hS => ?_)
  refine lv_aload_n hx hb dX0_chooseBehind_21 rfl (lv_at hl 0 rfl) ?_
  refine q_get (ci := 0) (C := RX0) (T := TX0) (N := 10) hx hb hts eX0_chooseBehind_X0 hown hK hP 0 rfl rfl 5 (Nat.le_of_ble_eq_true rfl) k0 rfl rfl dX0_chooseBehind_22 ?_
  refine lv_iload_n hx hb dX0_chooseBehind_25 rfl (lv_at hl 1 rfl) ?_
  refine lv_iconst (v := 0) hx hb dX0_chooseBehind_26 (by decide) ?_
  obtain ⟨hn4, hF⟩ := q_ck hF
  refine q_zast hx hb hK hP hD hS 2 1 (iX0_chooseBehind aS cI cZ B_cost (upd q3_0 p0.toNatClampNeg 0) q3_1 q3_2 q3_3 B_size) rfl rfl hn4 (Or.inl rfl) rfl dX0_chooseBehind_27 (fun H locs hP hD hS => ?_)
  exact hret H locs ls 28 _ dX0_chooseBehind_28 (congrArg (fun z : (Nat → Int32) × (Nat → Int32) × (Nat → Int32) × Int32 => (iX0_chooseBehind aS cI cZ B_cost z.1 z.2.1 z.2.2.1 z.2.2.2 B_size)) (Option.some.inj hF)) hP hD hS
theorem eX0_choose_X0 : ∀ w ∈ u_ws RX0 TX0 10, w ∈ wsX0_choose := by decide +kernel
set_option maxHeartbeats 4000000 in
set_option maxRecDepth 100000 in
theorem tX0_choose (d : Nat) (l : Launch) (dC : Nat → ClassId) (dI : Nat → Nat → Nat) (cI cZ : ClassId) (aS : Nat → Nat) : ∀ (sz : Nat) (B_cost : Nat → Int32) (B_used : Nat → Int32) (B_chosen : Nat → Int32) (B_best : Nat → Int32) (B_bestCost : Int32) (B_size : Int32) (p0 : Int32) (p1 : Int32) (res : (Nat → Int32) × (Nat → Int32) × (Nat → Int32) × Int32) (hF : fX0_choose d B_cost B_used B_chosen B_best B_bestCost B_size p0 p1 = some res), q_Mv l yX0_choose wsX0_choose (rX0_choose d) (dC, dI) (q_ty cI cZ) [.ref (aS 28), .int p0, .int p1] (iX0_choose aS cI cZ B_cost B_used B_chosen B_best B_bestCost B_size) (iX0_choose aS cI cZ B_cost res.1 res.2.1 res.2.2.1 res.2.2.2 B_size) sz := by
  induction d with
  | zero => intro sz B_cost B_used B_chosen B_best B_bestCost B_size p0 p1 res hF; cases hF
  | succ d ih =>
  intro sz B_cost B_used B_chosen B_best B_bestCost B_size p0 p1 res hF
  replace hF : gX0_choose (fX0_choose d) B_cost B_used B_chosen B_best B_bestCost B_size p0 p1 = some res := hF
  have ihB := tX0_chooseBehind d l dC dI cI cZ aS ih
  refine q_metv (cc := cX0_choose) (maxL := 4) (by decide) rfl (Nat.le_of_ble_eq_true rfl) ?_
  intro p e s m args below meth c Q A H locs ls C hP hD hS hl hret
  obtain ⟨hx, hb, hml, hown, hts, hA, hK⟩ := C
  replace hl : lv_has ls 4 [(0, .ref (aS 28)), (1, .int p0), (2, .int p1)] := hl
  have k0 := hts (.fieldLink RX0 38 "RouteLayout$BestRow" "bestCost" "I") (by decide +kernel)
  have k1 := hts (.fieldLink RX0 28 "RouteLayout$BestRow" "chosen" "[I") (by decide +kernel)
  have k2 := hts (.fieldLink RX0 31 "RouteLayout$BestRow" "best" "[I") (by decide +kernel)
  have k3 := hts (.methodLink RX0 96 arraycopyName) (by decide +kernel)
  have k4 := hts (.native arraycopyName) (by decide +kernel)
  have k5 := hts (.static arraycopyName) (by decide +kernel)
  have k6 := hts (.initialized "java/lang/System") (by decide +kernel)
  have k7 := hts (.fieldLink RX0 42 "RouteLayout$BestRow" "size" "I") (by decide +kernel)
  have k8 := hts (.fieldLink RX0 24 "RouteLayout$BestRow" "used" "[Z") (by decide +kernel)
  unfold gX0_choose at hF
  have JX0_CHOOSE_23 : ∀ (B_used_1 : Nat → Int32) (B_chosen_1 : Nat → Int32) (B_best_1 : Nat → Int32) (B_bestCost_1 : Int32) (x2_1 : Int32), jX0_choose_23 (fX0_choose d) B_used_1 B_chosen_1 B_best_1 x2_1 = some res → ∀ (H : Heap) (locs : List Loc) (ls : Array Slot), va_P (dC, dI) vwCl (iX0_choose aS cI cZ B_cost B_used_1 B_chosen_1 B_best_1 B_bestCost_1 B_size) H → va_D A (iX0_choose aS cI cZ B_cost B_used_1 B_chosen_1 B_best_1 B_bestCost_1 B_size) → va_S A s.heap H locs → lv_has ls 4 [(0, .ref (aS 28)), (2, .int x2_1)] → W p l e (headSpec wsX0_choose (rX0_choose (d + 1))).room s m args below meth c H locs 0 0 Q (F0 m 23 ls []) := by
    intro B_used_1 B_chosen_1 B_best_1 B_bestCost_1 x2_1 hF H locs ls hP hD hS hl
    unfold jX0_choose_23 at hF
    refine lv_aload_n hx hb dX0_choose_23 rfl (lv_at hl 0 rfl) ?_
    refine lv_iload_n hx hb dX0_choose_24 rfl (lv_at hl 1 rfl) ?_
    refine q_put (ci := 0) (C := RX0) (T := TX0) (N := 10) (ty := .int) hx hb hts eX0_choose_X0 tyX0 tyX0_ok nmX0 hown hK hP hD hS 0 (iX0_choose aS cI cZ B_cost B_used_1 B_chosen_1 B_best_1 x2_1 B_size) rfl rfl 8 (Nat.le_of_ble_eq_true rfl) k0 rfl rfl (by decide +kernel) rfl rfl (Nat.le_of_ble_eq_true rfl) rfl dX0_choose_25 (fun H locs hP hD hS => ?_)
    refine lv_aload_n hx hb dX0_choose_28 rfl (lv_at hl 0 rfl) ?_
    refine q_get (ci := 0) (C := RX0) (T := TX0) (N := 10) hx hb hts eX0_choose_X0 hown hK hP 0 rfl rfl 6 (Nat.le_of_ble_eq_true rfl) k1 rfl rfl dX0_choose_29 ?_
    refine lv_iconst (v := 0) hx hb dX0_choose_32 (by decide) ?_
    refine lv_aload_n hx hb dX0_choose_33 rfl (lv_at hl 0 rfl) ?_
    refine q_get (ci := 0) (C := RX0) (T := TX0) (N := 10) hx hb hts eX0_choose_X0 hown hK hP 0 rfl rfl 7 (Nat.le_of_ble_eq_true rfl) k2 rfl rfl dX0_choose_34 ?_
    refine lv_iconst (v := 0) hx hb dX0_choose_37 (by decide) ?_
    refine lv_bipush (v := 6) hx hb dX0_choose_38 (by decide) ?_
    refine va_copyi hx hb (hml.trans hl.1.symm) hown k3 k4 k5 k6 hK hP hD hS 3 4 0 0 rfl rfl rfl rfl rfl (by decide) (by decide) (by decide) (by decide) (by decide) (fun _ _ => rfl) (Nat.succ_le_succ (Nat.zero_le _)) (Nat.le_trans (show _ ≤ 40 from Nat.le_of_ble_eq_true rfl) (Nat.le_add_right _ _)) dX0_choose_40 (fun H locs hP hD hS => ?_)
    replace hP : va_P (dC, dI) vwCl (iX0_choose aS cI cZ B_cost B_used_1 B_chosen_1 (va_cpy B_chosen_1 B_best_1 (Int32.toNatClampNeg 0) (Int32.toNatClampNeg 0) (Int32.toNatClampNeg 6)) x2_1 B_size) H := hP
    replace hD : va_D A (iX0_choose aS cI cZ B_cost B_used_1 B_chosen_1 (va_cpy B_chosen_1 B_best_1 (Int32.toNatClampNeg 0) (Int32.toNatClampNeg 0) (Int32.toNatClampNeg 6)) x2_1 B_size) := hD
    exact hret H locs ls 43 _ dX0_choose_43 (congrArg (fun z : (Nat → Int32) × (Nat → Int32) × (Nat → Int32) × Int32 => (iX0_choose aS cI cZ B_cost z.1 z.2.1 z.2.2.1 z.2.2.2 B_size)) (Option.some.inj hF)) hP hD hS
  refine lv_iload_n hx hb dX0_choose_0 rfl (lv_at hl 2 rfl) ?_
  refine lv_aload_n hx hb dX0_choose_1 rfl (lv_at hl 0 rfl) ?_
  refine q_get (ci := 0) (C := RX0) (T := TX0) (N := 10) hx hb hts eX0_choose_X0 hown hK hP 0 rfl rfl 8 (Nat.le_of_ble_eq_true rfl) k0 rfl rfl dX0_choose_2 ?_
  refine lv_icmp_lt (tgt := 9) hx hb dX0_choose_5 (by decide) (fun hc => ?_) (fun hc => ?_)
  · replace hF := q_t hc hF
    refine lv_iload_n hx hb dX0_choose_9 rfl (lv_at hl 1 rfl) ?_
    refine lv_aload_n hx hb dX0_choose_10 rfl (lv_at hl 0 rfl) ?_
    refine q_get (ci := 0) (C := RX0) (T := TX0) (N := 10) hx hb hts eX0_choose_X0 hown hK hP 0 rfl rfl 9 (Nat.le_of_ble_eq_true rfl) k7 rfl rfl dX0_choose_11 ?_
    refine lv_icmp_ge (tgt := 23) hx hb dX0_choose_14 (by decide) (fun hc => ?_) (fun hc => ?_)
    · replace hF := q_t hc hF
      exact JX0_CHOOSE_23 B_used B_chosen B_best B_bestCost p1 hF H locs ls hP hD hS (lv_sub hl [0, 2] rfl)
    · replace hF := q_f hc hF
      refine lv_iload_n hx hb dX0_choose_17 rfl (lv_at hl 1 rfl) ?_
      refine lv_bipush (v := 6) hx hb dX0_choose_18 (by decide) ?_
      refine lv_icmp_lt (tgt := 44) hx hb dX0_choose_20 (by decide) (fun hc => ?_) (fun hc => ?_)
      · replace hF := q_t hc hF
        refine lv_iconst (v := 0) hx hb dX0_choose_44 (by decide) ?_
        refine lv_istore_n (lv' := [(3, .int 0), (0, .ref (aS 28)), (1, .int p0), (2, .int p1)]) hx hb dX0_choose_45 rfl hl (by decide) rfl (fun ls hl => ?_)
        obtain ⟨q2_0, q2_1, q2_2, q2_3, hc2, hF⟩ := q_bd4 hF
        have X2 : ∀ (u2_0 : Nat → Int32) (u2_1 : Nat → Int32) (u2_2 : Nat → Int32) (u2_3 : Int32), (u2_0, u2_1, u2_2, u2_3) = (q2_0, q2_1, q2_2, q2_3) → ∀ (H : Heap) (locs : List Loc) (ls : Array Slot), va_P (dC, dI) vwCl (iX0_choose aS cI cZ B_cost u2_0 u2_1 u2_2 u2_3 B_size) H → va_D A (iX0_choose aS cI cZ B_cost u2_0 u2_1 u2_2 u2_3 B_size) → va_S A s.heap H locs → lv_has ls 4 [] → W p l e (headSpec wsX0_choose (rX0_choose (d + 1))).room s m args below meth c H locs 0 0 Q (F0 m 83 ls []) := by
          intro u2_0 u2_1 u2_2 u2_3 hu H locs ls hP hD hS hl
          obtain ⟨e0, e1, e2, e3⟩ := q_inj4 hu
          subst e0 e1 e2 e3
          exact hret H locs ls 83 _ dX0_choose_83 (congrArg (fun z : (Nat → Int32) × (Nat → Int32) × (Nat → Int32) × Int32 => (iX0_choose aS cI cZ B_cost z.1 z.2.1 z.2.2.1 z.2.2.2 B_size)) (Option.some.inj hF)) hP hD hS
        have L2 : ∀ st : Int32 × (Nat → Int32) × (Nat → Int32) × (Nat → Int32) × Int32, q_lo (fun (st : Int32 × (Nat → Int32) × (Nat → Int32) × (Nat → Int32) × Int32) => bX0_choose_46 (fX0_choose d) B_cost B_size p0 p1 st.1 st.2.1 st.2.2.1 st.2.2.2.1 st.2.2.2.2) st = some (q2_0, q2_1, q2_2, q2_3) → ∀ (H : Heap) (locs : List Loc) (ls : Array Slot), va_P (dC, dI) vwCl (iX0_choose aS cI cZ B_cost st.2.1 st.2.2.1 st.2.2.2.1 st.2.2.2.2 B_size) H → va_D A (iX0_choose aS cI cZ B_cost st.2.1 st.2.2.1 st.2.2.2.1 st.2.2.2.2 B_size) → va_S A s.heap H locs → lv_has ls 4 [(0, .ref (aS 28)), (1, .int p0), (2, .int p1), (3, .int st.1)] → W p l e (headSpec wsX0_choose (rX0_choose (d + 1))).room s m args below meth c H locs 0 0 Q (F0 m 46 ls []) := by
          intro st hst
          refine q_walk (Wh := fun st : Int32 × (Nat → Int32) × (Nat → Int32) × (Nat → Int32) × Int32 => ∀ (H : Heap) (locs : List Loc) (ls : Array Slot), va_P (dC, dI) vwCl (iX0_choose aS cI cZ B_cost st.2.1 st.2.2.1 st.2.2.2.1 st.2.2.2.2 B_size) H → va_D A (iX0_choose aS cI cZ B_cost st.2.1 st.2.2.1 st.2.2.2.1 st.2.2.2.2 B_size) → va_S A s.heap H locs → lv_has ls 4 [(0, .ref (aS 28)), (1, .int p0), (2, .int p1), (3, .int st.1)] → W p l e (headSpec wsX0_choose (rX0_choose (d + 1))).room s m args below meth c H locs 0 0 Q (F0 m 46 ls [])) ?_ st hst
          clear hst st hF
          intro st o hF hin hex H locs ls hP hD hS hl
          obtain ⟨x3_2, B_used_2, B_chosen_2, B_best_2, B_bestCost_2⟩ := st
          replace hF : bX0_choose_46 (fX0_choose d) B_cost B_size p0 p1 x3_2 B_used_2 B_chosen_2 B_best_2 B_bestCost_2 = some o := hF
          replace hP : va_P (dC, dI) vwCl (iX0_choose aS cI cZ B_cost B_used_2 B_chosen_2 B_best_2 B_bestCost_2 B_size) H := hP
          replace hD : va_D A (iX0_choose aS cI cZ B_cost B_used_2 B_chosen_2 B_best_2 B_bestCost_2 B_size) := hD
          replace hl : lv_has ls 4 [(0, .ref (aS 28)), (1, .int p0), (2, .int p1), (3, .int x3_2)] := hl
          unfold bX0_choose_46 at hF
          have JX0_CHOOSE_77 : ∀ (B_used_3 : Nat → Int32) (B_chosen_3 : Nat → Int32) (B_best_3 : Nat → Int32) (B_bestCost_3 : Int32) (x3_3 : Int32), jX0_choose_77 (fX0_choose d) B_used_3 B_chosen_3 B_best_3 B_bestCost_3 p0 p1 x3_3 = some o → ∀ (H : Heap) (locs : List Loc) (ls : Array Slot), va_P (dC, dI) vwCl (iX0_choose aS cI cZ B_cost B_used_3 B_chosen_3 B_best_3 B_bestCost_3 B_size) H → va_D A (iX0_choose aS cI cZ B_cost B_used_3 B_chosen_3 B_best_3 B_bestCost_3 B_size) → va_S A s.heap H locs → lv_has ls 4 [(0, .ref (aS 28)), (1, .int p0), (2, .int p1), (3, .int x3_3)] → W p l e (headSpec wsX0_choose (rX0_choose (d + 1))).room s m args below meth c H locs 0 0 Q (F0 m 77 ls []) := by
            intro B_used_3 B_chosen_3 B_best_3 B_bestCost_3 x3_3 hF H locs ls hP hD hS hl
            unfold jX0_choose_77 at hF
            refine lv_iinc (v := (x3_3 + 1)) (lv' := [(3, .int (x3_3 + 1)), (0, .ref (aS 28)), (1, .int p0), (2, .int p1)]) hx hb dX0_choose_77 hl (k := 3) rfl rfl (by decide) rfl (fun ls hl => ?_)
            refine lv_goto (tgt := 46) hx hb dX0_choose_80 (by decide) ?_
            exact hin _ (Option.some.inj hF).symm H locs ls hP hD hS (lv_sub hl [1, 2, 3, 0] rfl)
          refine lv_iload_n hx hb dX0_choose_46 rfl (lv_at hl 3 rfl) ?_
          refine lv_aload_n hx hb dX0_choose_47 rfl (lv_at hl 0 rfl) ?_
          refine q_get (ci := 0) (C := RX0) (T := TX0) (N := 10) hx hb hts eX0_choose_X0 hown hK hP 0 rfl rfl 9 (Nat.le_of_ble_eq_true rfl) k7 rfl rfl dX0_choose_48 ?_
          refine lv_icmp_ge (tgt := 83) hx hb dX0_choose_51 (by decide) (fun hc => ?_) (fun hc => ?_)
          · replace hF := q_t hc hF
            exact X2 _ _ _ _ (hex _ (Option.some.inj hF).symm) H locs ls hP hD hS (lv_sub hl [] rfl)
          · replace hF := q_f hc hF
            refine lv_aload_n hx hb dX0_choose_54 rfl (lv_at hl 0 rfl) ?_
            refine q_get (ci := 0) (C := RX0) (T := TX0) (N := 10) hx hb hts eX0_choose_X0 hown hK hP 0 rfl rfl 5 (Nat.le_of_ble_eq_true rfl) k8 rfl rfl dX0_choose_55 ?_
            refine lv_iload_n hx hb dX0_choose_58 rfl (lv_at hl 3 rfl) ?_
            obtain ⟨hn4, hF⟩ := q_ck hF
            refine va_zald hx hb hK hP 2 1 rfl rfl hn4 dX0_choose_59 ?_
            refine lv_if_ne (tgt := 77) hx hb dX0_choose_60 (by decide) (fun hc => ?_) (fun hc => ?_)
            · replace hF := q_f hc hF
              exact JX0_CHOOSE_77 B_used_2 B_chosen_2 B_best_2 B_bestCost_2 x3_2 hF H locs ls hP hD hS (lv_sub hl [0, 1, 2, 3] rfl)
            · replace hF := q_t hc hF
              refine lv_aload_n hx hb dX0_choose_63 rfl (lv_at hl 0 rfl) ?_
              refine q_get (ci := 0) (C := RX0) (T := TX0) (N := 10) hx hb hts eX0_choose_X0 hown hK hP 0 rfl rfl 6 (Nat.le_of_ble_eq_true rfl) k1 rfl rfl dX0_choose_64 ?_
              refine lv_iload_n hx hb dX0_choose_67 rfl (lv_at hl 1 rfl) ?_
              refine lv_iload_n hx hb dX0_choose_68 rfl (lv_at hl 3 rfl) ?_
              obtain ⟨hn5, hF⟩ := q_ck hF
              refine q_iast hx hb hK hP hD hS 3 0 (iX0_choose aS cI cZ B_cost B_used_2 (upd B_chosen_2 p0.toNatClampNeg x3_2) B_best_2 B_bestCost_2 B_size) rfl rfl hn5 rfl dX0_choose_69 (fun H locs hP hD hS => ?_)
              refine lv_aload_n hx hb dX0_choose_70 rfl (lv_at hl 0 rfl) ?_
              refine lv_iload_n hx hb dX0_choose_71 rfl (lv_at hl 3 rfl) ?_
              refine lv_iload_n hx hb dX0_choose_72 rfl (lv_at hl 1 rfl) ?_
              refine lv_iload_n hx hb dX0_choose_73 rfl (lv_at hl 2 rfl) ?_
              obtain ⟨q6_0, q6_1, q6_2, q6_3, hcq6, hF⟩ := q_bd4 hF
              refine q_Vv (As := [.int x3_2, .int p0, .int p1]) (rest := []) ⟨hx, hb, hml, hown, hts⟩ hA hK hP hD hS (ihB H.size B_cost B_used_2 (upd B_chosen_2 p0.toNatClampNeg x3_2) B_best_2 B_bestCost_2 B_size x3_2 p0 p1 (q6_0, q6_1, q6_2, q6_3) hcq6) (cwV 3 hts gX0_choose_X0_chooseBehind rfl rfl rfl uX0_chooseBehind ⟨by show 2 * d + 2 + 1 ≤ 2 * (d + 1) + 1; omega, by show 8 + (4 + 11) + (70 + 60 * d) ≤ 40 + 60 * (d + 1); omega⟩) [0, 1, 2, 3, 4] [(true, 0), (true, 1), (true, 2), (true, 3), (true, 4)] (iX0_choose aS cI cZ B_cost q6_0 q6_1 q6_2 q6_3 B_size) rfl rfl rfl rfl rfl 0 0 rfl rfl rfl rfl hl.1 rfl (Nat.le_of_ble_eq_true rfl) dX0_choose_74 ⟨Nat.zero_le _, Nat.zero_le _⟩ (fun H locs hP hD hS => ?_)
              exact JX0_CHOOSE_77 q6_0 q6_1 q6_2 q6_3 x3_2 hF H locs ls hP hD hS (lv_sub hl [0, 1, 2, 3] rfl)
        exact L2 (0, B_used, B_chosen, B_best, B_bestCost) hc2 H locs ls hP hD hS (lv_sub hl [1, 2, 3, 0] rfl)
      · replace hF := q_f hc hF
        exact JX0_CHOOSE_23 B_used B_chosen B_best B_bestCost p1 hF H locs ls hP hD hS (lv_sub hl [0, 2] rfl)
  · replace hF := q_f hc hF
    exact hret H locs ls 8 _ dX0_choose_8 (congrArg (fun z : (Nat → Int32) × (Nat → Int32) × (Nat → Int32) × Int32 => (iX0_choose aS cI cZ B_cost z.1 z.2.1 z.2.2.1 z.2.2.2 B_size)) (Option.some.inj hF)) hP hD hS
abbrev rX0_arrange : Room := { frames := 18, cells := 0, slots := 0, locals := 543 }
theorem eX0_arrange_X0 : ∀ w ∈ u_ws RX0 TX0 10, w ∈ wsX0_arrange := by decide +kernel
theorem uX0_arrange : yX0_arrange.cls = RX0 ∧ yX0_arrange.cls ≠ "java/lang/invoke/MethodHandle" ∧ yX0_arrange.cls ≠ "java/lang/invoke/VarHandle" ∧ (parseMethodDescriptor yX0_arrange.desc).map (fun d => d.parameters.length) = some 2 := by decide +kernel
set_option maxHeartbeats 4000000 in
set_option maxRecDepth 100000 in
theorem tX0_arrange (l : Launch) (dC : Nat → ClassId) (dI : Nat → Nat → Nat) (cI cZ : ClassId) (aS : Nat → Nat) (aO : Nat → Nat) (sz : Nat) (P_size : Nat → Int32) (P_uppers : Nat → Int32) (P_lowers : Nat → Int32) (B_cost : Nat → Int32) (B_above : Nat → Int32) (B_below : Nat → Int32) (B_codes : Nat → Int32) (B_used : Nat → Int32) (B_chosen : Nat → Int32) (B_best : Nat → Int32) (B_bestCost : Int32) (B_size : Int32) (O_layers : Int32) (O_size : Nat → Int32) (O_rows : Nat → Int32) (O_places : Nat → Int32) (O_home : Nat → Int32) (p1 : Int32) (res : (Nat → Int32) × (Nat → Int32) × (Nat → Int32) × (Nat → Int32) × (Nat → Int32) × (Nat → Int32) × (Nat → Int32) × Int32 × Int32 × (Nat → Int32) × (Nat → Int32) × (Nat → Int32)) (hF : fX0_arrange P_size P_uppers P_lowers B_cost B_above B_below B_codes B_used B_chosen B_best B_bestCost O_layers O_size O_rows O_places O_home p1 = some res) : q_Mv l yX0_arrange wsX0_arrange rX0_arrange (dC, dI) (q_ty cI cZ) [.ref (aS 28), .ref (aO 0), .int p1] (iX0_arrange aS aO cI cZ P_size P_uppers P_lowers B_cost B_above B_below B_codes B_used B_chosen B_best B_bestCost B_size O_layers O_size O_rows O_places O_home) (iX0_arrange aS aO cI cZ P_size P_uppers P_lowers res.1 res.2.1 res.2.2.1 res.2.2.2.1 res.2.2.2.2.1 res.2.2.2.2.2.1 res.2.2.2.2.2.2.1 res.2.2.2.2.2.2.2.1 res.2.2.2.2.2.2.2.2.1 O_layers O_size res.2.2.2.2.2.2.2.2.2.1 res.2.2.2.2.2.2.2.2.2.2.1 res.2.2.2.2.2.2.2.2.2.2.2) sz := by
  refine q_metv (cc := cX0_arrange) (maxL := 4) (by decide) rfl (Nat.le_of_ble_eq_true rfl) ?_
  intro p e s m args below meth c Q A H locs ls C hP hD hS hl hret
  obtain ⟨hx, hb, hml, hown, hts, hA, hK⟩ := C
  replace hl : lv_has ls 4 [(0, .ref (aS 28)), (1, .ref (aO 0)), (2, .int p1)] := hl
  have k0 := hts (.fieldLink RX0 42 "RouteLayout$BestRow" "size" "I") (by decide +kernel)
  have k1 := hts (.fieldLink RX0 21 "RouteLayout$BestRow" "codes" "[I") (by decide +kernel)
  have k2 := hts (.fieldLink RX0 24 "RouteLayout$BestRow" "used" "[Z") (by decide +kernel)
  have k3 := hts (.constant RX0 59 (1073741824)) (by decide +kernel)
  have k4 := hts (.fieldLink RX0 38 "RouteLayout$BestRow" "bestCost" "I") (by decide +kernel)
  have k5 := hts (.fieldLink RX0 31 "RouteLayout$BestRow" "best" "[I") (by decide +kernel)
  unfold fX0_arrange at hF
  refine lv_aload_n hx hb dX0_arrange_0 rfl (lv_at hl 0 rfl) ?_
  refine lv_aload_n hx hb dX0_arrange_1 rfl (lv_at hl 1 rfl) ?_
  refine lv_iload_n hx hb dX0_arrange_2 rfl (lv_at hl 2 rfl) ?_
  obtain ⟨q1, hcq1, hF⟩ := q_bd hF
  refine q_Vi (As := [.int p1]) (rest := [.ref (aS 28)]) ⟨hx, hb, hml, hown, hts⟩ hA hK hP hD hS (tX4_sizeOf l dC dI cI cZ aO H.size O_layers O_size p1 q1 hcq1) (cwV 1 hts gX0_arrange_X4_sizeOf rfl rfl rfl uX4_sizeOf ⟨Nat.le_of_ble_eq_true rfl, Nat.le_of_ble_eq_true rfl⟩) [12, 13] [(false, 0), (false, 1), (false, 2), (false, 3), (false, 4), (false, 5), (false, 6), (false, 7), (false, 8), (false, 9), (false, 10), (false, 11), (true, 0), (true, 1), (false, 14), (false, 15), (false, 16)] (iX0_arrange aS aO cI cZ P_size P_uppers P_lowers B_cost B_above B_below B_codes B_used B_chosen B_best B_bestCost B_size O_layers O_size O_rows O_places O_home) rfl rfl rfl rfl rfl 4 0 rfl rfl rfl rfl hl.1 rfl (Nat.le_of_ble_eq_true rfl) dX0_arrange_3 ⟨Nat.zero_le _, Nat.zero_le _⟩ (fun H locs hP hD hS => ?_)
  refine q_put (ci := 0) (C := RX0) (T := TX0) (N := 10) (ty := .int) hx hb hts eX0_arrange_X0 tyX0 tyX0_ok nmX0 hown hK hP hD hS 0 (iX0_arrange aS aO cI cZ P_size P_uppers P_lowers B_cost B_above B_below B_codes B_used B_chosen B_best B_bestCost q1 O_layers O_size O_rows O_places O_home) rfl rfl 9 (Nat.le_of_ble_eq_true rfl) k0 rfl rfl (by decide +kernel) rfl rfl (Nat.le_of_ble_eq_true rfl) rfl dX0_arrange_6 (fun H locs hP hD hS => ?_)
  refine lv_aload_n hx hb dX0_arrange_9 rfl (lv_at hl 0 rfl) ?_
  refine q_get (ci := 0) (C := RX0) (T := TX0) (N := 10) hx hb hts eX0_arrange_X0 hown hK hP 0 rfl rfl 9 (Nat.le_of_ble_eq_true rfl) k0 rfl rfl dX0_arrange_10 ?_
  refine lv_bipush (v := 6) hx hb dX0_arrange_13 (by decide) ?_
  refine lv_icmp_le (tgt := 19) hx hb dX0_arrange_15 (by decide) (fun hc => ?_) (fun hc => ?_)
  · replace hF := q_t hc hF
    refine lv_aload_n hx hb dX0_arrange_19 rfl (lv_at hl 0 rfl) ?_
    refine lv_aload_n hx hb dX0_arrange_20 rfl (lv_at hl 1 rfl) ?_
    refine lv_iload_n hx hb dX0_arrange_21 rfl (lv_at hl 2 rfl) ?_
    obtain ⟨q2_0, q2_1, q2_2, hcq2, hF⟩ := q_bd3 hF
    refine q_Vv (As := [.ref (aO 0), .int p1]) (rest := []) ⟨hx, hb, hml, hown, hts⟩ hA hK hP hD hS (tX0_findCosts l dC dI cI cZ aS aO H.size P_size P_uppers P_lowers B_cost B_above B_below B_bestCost q1 O_layers O_places p1 (q2_0, q2_1, q2_2) hcq2) (cwV 2 hts gX0_arrange_X0_findCosts rfl rfl rfl uX0_findCosts ⟨Nat.le_of_ble_eq_true rfl, Nat.le_of_ble_eq_true rfl⟩) [0, 1, 2, 3, 4, 5, 6, 7, 12, 15] [(true, 0), (true, 1), (true, 2), (true, 3), (true, 4), (true, 5), (true, 6), (true, 7), (false, 8), (false, 9), (false, 10), (false, 11), (true, 8), (false, 13), (false, 14), (true, 9), (false, 16)] (iX0_arrange aS aO cI cZ P_size P_uppers P_lowers q2_0 q2_1 q2_2 B_codes B_used B_chosen B_best B_bestCost q1 O_layers O_size O_rows O_places O_home) rfl rfl rfl rfl rfl 0 0 rfl rfl rfl rfl hl.1 rfl (Nat.le_of_ble_eq_true rfl) dX0_arrange_22 ⟨Nat.zero_le _, Nat.zero_le _⟩ (fun H locs hP hD hS => ?_)
    refine lv_iconst (v := 0) hx hb dX0_arrange_25 (by decide) ?_
    refine lv_istore_n (lv' := [(3, .int 0), (0, .ref (aS 28)), (1, .ref (aO 0)), (2, .int p1)]) hx hb dX0_arrange_26 rfl hl (by decide) rfl (fun ls hl => ?_)
    obtain ⟨q3_0, q3_1, hc3, hF⟩ := q_bd2 hF
    have X3 : ∀ (u3_0 : Nat → Int32) (u3_1 : Nat → Int32), (u3_0, u3_1) = (q3_0, q3_1) → ∀ (H : Heap) (locs : List Loc) (ls : Array Slot), va_P (dC, dI) vwCl (iX0_arrange aS aO cI cZ P_size P_uppers P_lowers q2_0 q2_1 q2_2 u3_0 u3_1 B_chosen B_best B_bestCost q1 O_layers O_size O_rows O_places O_home) H → va_D A (iX0_arrange aS aO cI cZ P_size P_uppers P_lowers q2_0 q2_1 q2_2 u3_0 u3_1 B_chosen B_best B_bestCost q1 O_layers O_size O_rows O_places O_home) → va_S A s.heap H locs → lv_has ls 4 [(0, .ref (aS 28)), (1, .ref (aO 0)), (2, .int p1)] → W p l e (headSpec wsX0_arrange (rX0_arrange)).room s m args below meth c H locs 0 0 Q (F0 m 60 ls []) := by
      intro u3_0 u3_1 hu H locs ls hP hD hS hl
      obtain ⟨e0, e1⟩ := q_inj2 hu
      subst e0 e1
      refine lv_aload_n hx hb dX0_arrange_60 rfl (lv_at hl 0 rfl) ?_
      refine lv_ldc (v := 1073741824) hx hb hown k3 dX0_arrange_61 ?_
      refine q_put (ci := 0) (C := RX0) (T := TX0) (N := 10) (ty := .int) hx hb hts eX0_arrange_X0 tyX0 tyX0_ok nmX0 hown hK hP hD hS 0 (iX0_arrange aS aO cI cZ P_size P_uppers P_lowers q2_0 q2_1 q2_2 u3_0 u3_1 B_chosen B_best 1073741824 q1 O_layers O_size O_rows O_places O_home) rfl rfl 8 (Nat.le_of_ble_eq_true rfl) k4 rfl rfl (by decide +kernel) rfl rfl (Nat.le_of_ble_eq_true rfl) rfl dX0_arrange_63 (fun H locs hP hD hS => ?_)
      refine lv_aload_n hx hb dX0_arrange_66 rfl (lv_at hl 0 rfl) ?_
      refine lv_iconst (v := 0) hx hb dX0_arrange_67 (by decide) ?_
      refine lv_iconst (v := 0) hx hb dX0_arrange_68 (by decide) ?_
      obtain ⟨q7_0, q7_1, q7_2, q7_3, hcq7, hF⟩ := q_bd4 hF
      refine q_Vv (As := [.int 0, .int 0]) (rest := []) ⟨hx, hb, hml, hown, hts⟩ hA hK hP hD hS (tX0_choose 8 l dC dI cI cZ aS H.size q2_0 u3_1 B_chosen B_best 1073741824 q1 0 0 (q7_0, q7_1, q7_2, q7_3) hcq7) (cwV 2 hts gX0_arrange_X0_choose rfl rfl rfl uX0_choose ⟨Nat.le_of_ble_eq_true rfl, Nat.le_of_ble_eq_true rfl⟩) [0, 5, 9, 10, 11] [(true, 0), (false, 1), (false, 2), (false, 3), (false, 4), (true, 1), (false, 6), (false, 7), (false, 8), (true, 2), (true, 3), (true, 4), (false, 12), (false, 13), (false, 14), (false, 15), (false, 16)] (iX0_arrange aS aO cI cZ P_size P_uppers P_lowers q2_0 q2_1 q2_2 u3_0 q7_0 q7_1 q7_2 q7_3 q1 O_layers O_size O_rows O_places O_home) rfl rfl rfl rfl rfl 0 0 rfl rfl rfl rfl hl.1 rfl (Nat.le_of_ble_eq_true rfl) dX0_arrange_69 ⟨Nat.zero_le _, Nat.zero_le _⟩ (fun H locs hP hD hS => ?_)
      refine lv_iconst (v := 0) hx hb dX0_arrange_72 (by decide) ?_
      refine lv_istore_n (lv' := [(3, .int 0), (0, .ref (aS 28)), (1, .ref (aO 0)), (2, .int p1)]) hx hb dX0_arrange_73 rfl hl (by decide) rfl (fun ls hl => ?_)
      obtain ⟨q8_0, q8_1, q8_2, hc8, hF⟩ := q_bd3 hF
      have X8 : ∀ (u8_0 : Nat → Int32) (u8_1 : Nat → Int32) (u8_2 : Nat → Int32), (u8_0, u8_1, u8_2) = (q8_0, q8_1, q8_2) → ∀ (H : Heap) (locs : List Loc) (ls : Array Slot), va_P (dC, dI) vwCl (iX0_arrange aS aO cI cZ P_size P_uppers P_lowers q2_0 q2_1 q2_2 u3_0 q7_0 q7_1 q7_2 q7_3 q1 O_layers O_size u8_0 u8_1 u8_2) H → va_D A (iX0_arrange aS aO cI cZ P_size P_uppers P_lowers q2_0 q2_1 q2_2 u3_0 q7_0 q7_1 q7_2 q7_3 q1 O_layers O_size u8_0 u8_1 u8_2) → va_S A s.heap H locs → lv_has ls 4 [] → W p l e (headSpec wsX0_arrange (rX0_arrange)).room s m args below meth c H locs 0 0 Q (F0 m 105 ls []) := by
        intro u8_0 u8_1 u8_2 hu H locs ls hP hD hS hl
        obtain ⟨e0, e1, e2⟩ := q_inj3 hu
        subst e0 e1 e2
        exact hret H locs ls 105 _ dX0_arrange_105 (congrArg (fun z : (Nat → Int32) × (Nat → Int32) × (Nat → Int32) × (Nat → Int32) × (Nat → Int32) × (Nat → Int32) × (Nat → Int32) × Int32 × Int32 × (Nat → Int32) × (Nat → Int32) × (Nat → Int32) => (iX0_arrange aS aO cI cZ P_size P_uppers P_lowers z.1 z.2.1 z.2.2.1 z.2.2.2.1 z.2.2.2.2.1 z.2.2.2.2.2.1 z.2.2.2.2.2.2.1 z.2.2.2.2.2.2.2.1 z.2.2.2.2.2.2.2.2.1 O_layers O_size z.2.2.2.2.2.2.2.2.2.1 z.2.2.2.2.2.2.2.2.2.2.1 z.2.2.2.2.2.2.2.2.2.2.2)) (Option.some.inj hF)) hP hD hS
      have L8 : ∀ st : Int32 × (Nat → Int32) × (Nat → Int32) × (Nat → Int32), q_lo (fun (st : Int32 × (Nat → Int32) × (Nat → Int32) × (Nat → Int32)) => bX0_arrange_74 u3_0 q7_2 q1 O_layers O_size p1 st.1 st.2.1 st.2.2.1 st.2.2.2) st = some (q8_0, q8_1, q8_2) → ∀ (H : Heap) (locs : List Loc) (ls : Array Slot), va_P (dC, dI) vwCl (iX0_arrange aS aO cI cZ P_size P_uppers P_lowers q2_0 q2_1 q2_2 u3_0 q7_0 q7_1 q7_2 q7_3 q1 O_layers O_size st.2.1 st.2.2.1 st.2.2.2) H → va_D A (iX0_arrange aS aO cI cZ P_size P_uppers P_lowers q2_0 q2_1 q2_2 u3_0 q7_0 q7_1 q7_2 q7_3 q1 O_layers O_size st.2.1 st.2.2.1 st.2.2.2) → va_S A s.heap H locs → lv_has ls 4 [(0, .ref (aS 28)), (1, .ref (aO 0)), (2, .int p1), (3, .int st.1)] → W p l e (headSpec wsX0_arrange (rX0_arrange)).room s m args below meth c H locs 0 0 Q (F0 m 74 ls []) := by
        intro st hst
        refine q_walk (Wh := fun st : Int32 × (Nat → Int32) × (Nat → Int32) × (Nat → Int32) => ∀ (H : Heap) (locs : List Loc) (ls : Array Slot), va_P (dC, dI) vwCl (iX0_arrange aS aO cI cZ P_size P_uppers P_lowers q2_0 q2_1 q2_2 u3_0 q7_0 q7_1 q7_2 q7_3 q1 O_layers O_size st.2.1 st.2.2.1 st.2.2.2) H → va_D A (iX0_arrange aS aO cI cZ P_size P_uppers P_lowers q2_0 q2_1 q2_2 u3_0 q7_0 q7_1 q7_2 q7_3 q1 O_layers O_size st.2.1 st.2.2.1 st.2.2.2) → va_S A s.heap H locs → lv_has ls 4 [(0, .ref (aS 28)), (1, .ref (aO 0)), (2, .int p1), (3, .int st.1)] → W p l e (headSpec wsX0_arrange (rX0_arrange)).room s m args below meth c H locs 0 0 Q (F0 m 74 ls [])) ?_ st hst
        clear hst st hF
        intro st o hF hin hex H locs ls hP hD hS hl
        obtain ⟨x3_8, O_rows_8, O_places_8, O_home_8⟩ := st
        replace hF : bX0_arrange_74 u3_0 q7_2 q1 O_layers O_size p1 x3_8 O_rows_8 O_places_8 O_home_8 = some o := hF
        replace hP : va_P (dC, dI) vwCl (iX0_arrange aS aO cI cZ P_size P_uppers P_lowers q2_0 q2_1 q2_2 u3_0 q7_0 q7_1 q7_2 q7_3 q1 O_layers O_size O_rows_8 O_places_8 O_home_8) H := hP
        replace hD : va_D A (iX0_arrange aS aO cI cZ P_size P_uppers P_lowers q2_0 q2_1 q2_2 u3_0 q7_0 q7_1 q7_2 q7_3 q1 O_layers O_size O_rows_8 O_places_8 O_home_8) := hD
        replace hl : lv_has ls 4 [(0, .ref (aS 28)), (1, .ref (aO 0)), (2, .int p1), (3, .int x3_8)] := hl
        unfold bX0_arrange_74 at hF
        refine lv_iload_n hx hb dX0_arrange_74 rfl (lv_at hl 3 rfl) ?_
        refine lv_aload_n hx hb dX0_arrange_75 rfl (lv_at hl 0 rfl) ?_
        refine q_get (ci := 0) (C := RX0) (T := TX0) (N := 10) hx hb hts eX0_arrange_X0 hown hK hP 0 rfl rfl 9 (Nat.le_of_ble_eq_true rfl) k0 rfl rfl dX0_arrange_76 ?_
        refine lv_icmp_ge (tgt := 105) hx hb dX0_arrange_79 (by decide) (fun hc => ?_) (fun hc => ?_)
        · replace hF := q_t hc hF
          exact X8 _ _ _ (hex _ (Option.some.inj hF).symm) H locs ls hP hD hS (lv_sub hl [] rfl)
        · replace hF := q_f hc hF
          refine lv_aload_n hx hb dX0_arrange_82 rfl (lv_at hl 1 rfl) ?_
          refine lv_iload_n hx hb dX0_arrange_83 rfl (lv_at hl 2 rfl) ?_
          refine lv_iload_n hx hb dX0_arrange_84 rfl (lv_at hl 3 rfl) ?_
          refine lv_aload_n hx hb dX0_arrange_85 rfl (lv_at hl 0 rfl) ?_
          refine q_get (ci := 0) (C := RX0) (T := TX0) (N := 10) hx hb hts eX0_arrange_X0 hown hK hP 0 rfl rfl 4 (Nat.le_of_ble_eq_true rfl) k1 rfl rfl dX0_arrange_86 ?_
          refine lv_aload_n hx hb dX0_arrange_89 rfl (lv_at hl 0 rfl) ?_
          refine q_get (ci := 0) (C := RX0) (T := TX0) (N := 10) hx hb hts eX0_arrange_X0 hown hK hP 0 rfl rfl 7 (Nat.le_of_ble_eq_true rfl) k5 rfl rfl dX0_arrange_90 ?_
          refine lv_iload_n hx hb dX0_arrange_93 rfl (lv_at hl 3 rfl) ?_
          obtain ⟨hn9, hF⟩ := q_ck hF
          refine va_iald hx hb hK hP 11 0 rfl rfl hn9 dX0_arrange_94 ?_
          obtain ⟨hn10, hF⟩ := q_ck hF
          refine va_iald hx hb hK hP 8 0 rfl rfl hn10 dX0_arrange_95 ?_
          obtain ⟨q11_0, q11_1, q11_2, hcq11, hF⟩ := q_bd3 hF
          refine q_Vv (As := [.int p1, .int x3_8, .int (u3_0 (q7_2 x3_8.toNatClampNeg).toNatClampNeg)]) (rest := []) ⟨hx, hb, hml, hown, hts⟩ hA hK hP hD hS (tX4_put l dC dI cI cZ aO H.size O_layers O_size O_rows_8 O_places_8 O_home_8 p1 x3_8 (u3_0 (q7_2 x3_8.toNatClampNeg).toNatClampNeg) (q11_0, q11_1, q11_2) hcq11) (cwV 3 hts gX0_arrange_X4_put rfl rfl rfl uX4_put ⟨Nat.le_of_ble_eq_true rfl, Nat.le_of_ble_eq_true rfl⟩) [12, 13, 14, 15, 16] [(false, 0), (false, 1), (false, 2), (false, 3), (false, 4), (false, 5), (false, 6), (false, 7), (false, 8), (false, 9), (false, 10), (false, 11), (true, 0), (true, 1), (true, 2), (true, 3), (true, 4)] (iX0_arrange aS aO cI cZ P_size P_uppers P_lowers q2_0 q2_1 q2_2 u3_0 q7_0 q7_1 q7_2 q7_3 q1 O_layers O_size q11_0 q11_1 q11_2) rfl rfl rfl rfl rfl 4 0 rfl rfl rfl rfl hl.1 rfl (Nat.le_of_ble_eq_true rfl) dX0_arrange_96 ⟨Nat.zero_le _, Nat.zero_le _⟩ (fun H locs hP hD hS => ?_)
          refine lv_iinc (v := (x3_8 + 1)) (lv' := [(3, .int (x3_8 + 1)), (0, .ref (aS 28)), (1, .ref (aO 0)), (2, .int p1)]) hx hb dX0_arrange_99 hl (k := 3) rfl rfl (by decide) rfl (fun ls hl => ?_)
          refine lv_goto (tgt := 74) hx hb dX0_arrange_102 (by decide) ?_
          exact hin _ (Option.some.inj hF).symm H locs ls hP hD hS (lv_sub hl [1, 2, 3, 0] rfl)
      exact L8 (0, O_rows, O_places, O_home) hc8 H locs ls hP hD hS (lv_sub hl [1, 2, 3, 0] rfl)
    have L3 : ∀ st : Int32 × (Nat → Int32) × (Nat → Int32), q_lo (fun (st : Int32 × (Nat → Int32) × (Nat → Int32)) => bX0_arrange_27 q1 O_layers O_size O_rows p1 st.1 st.2.1 st.2.2) st = some (q3_0, q3_1) → ∀ (H : Heap) (locs : List Loc) (ls : Array Slot), va_P (dC, dI) vwCl (iX0_arrange aS aO cI cZ P_size P_uppers P_lowers q2_0 q2_1 q2_2 st.2.1 st.2.2 B_chosen B_best B_bestCost q1 O_layers O_size O_rows O_places O_home) H → va_D A (iX0_arrange aS aO cI cZ P_size P_uppers P_lowers q2_0 q2_1 q2_2 st.2.1 st.2.2 B_chosen B_best B_bestCost q1 O_layers O_size O_rows O_places O_home) → va_S A s.heap H locs → lv_has ls 4 [(0, .ref (aS 28)), (1, .ref (aO 0)), (2, .int p1), (3, .int st.1)] → W p l e (headSpec wsX0_arrange (rX0_arrange)).room s m args below meth c H locs 0 0 Q (F0 m 27 ls []) := by
      intro st hst
      refine q_walk (Wh := fun st : Int32 × (Nat → Int32) × (Nat → Int32) => ∀ (H : Heap) (locs : List Loc) (ls : Array Slot), va_P (dC, dI) vwCl (iX0_arrange aS aO cI cZ P_size P_uppers P_lowers q2_0 q2_1 q2_2 st.2.1 st.2.2 B_chosen B_best B_bestCost q1 O_layers O_size O_rows O_places O_home) H → va_D A (iX0_arrange aS aO cI cZ P_size P_uppers P_lowers q2_0 q2_1 q2_2 st.2.1 st.2.2 B_chosen B_best B_bestCost q1 O_layers O_size O_rows O_places O_home) → va_S A s.heap H locs → lv_has ls 4 [(0, .ref (aS 28)), (1, .ref (aO 0)), (2, .int p1), (3, .int st.1)] → W p l e (headSpec wsX0_arrange (rX0_arrange)).room s m args below meth c H locs 0 0 Q (F0 m 27 ls [])) ?_ st hst
      clear hst st hF
      intro st o hF hin hex H locs ls hP hD hS hl
      obtain ⟨x3_3, B_codes_3, B_used_3⟩ := st
      replace hF : bX0_arrange_27 q1 O_layers O_size O_rows p1 x3_3 B_codes_3 B_used_3 = some o := hF
      replace hP : va_P (dC, dI) vwCl (iX0_arrange aS aO cI cZ P_size P_uppers P_lowers q2_0 q2_1 q2_2 B_codes_3 B_used_3 B_chosen B_best B_bestCost q1 O_layers O_size O_rows O_places O_home) H := hP
      replace hD : va_D A (iX0_arrange aS aO cI cZ P_size P_uppers P_lowers q2_0 q2_1 q2_2 B_codes_3 B_used_3 B_chosen B_best B_bestCost q1 O_layers O_size O_rows O_places O_home) := hD
      replace hl : lv_has ls 4 [(0, .ref (aS 28)), (1, .ref (aO 0)), (2, .int p1), (3, .int x3_3)] := hl
      unfold bX0_arrange_27 at hF
      refine lv_iload_n hx hb dX0_arrange_27 rfl (lv_at hl 3 rfl) ?_
      refine lv_aload_n hx hb dX0_arrange_28 rfl (lv_at hl 0 rfl) ?_
      refine q_get (ci := 0) (C := RX0) (T := TX0) (N := 10) hx hb hts eX0_arrange_X0 hown hK hP 0 rfl rfl 9 (Nat.le_of_ble_eq_true rfl) k0 rfl rfl dX0_arrange_29 ?_
      refine lv_icmp_ge (tgt := 60) hx hb dX0_arrange_32 (by decide) (fun hc => ?_) (fun hc => ?_)
      · replace hF := q_t hc hF
        exact X3 _ _ (hex _ (Option.some.inj hF).symm) H locs ls hP hD hS (lv_sub hl [0, 1, 2] rfl)
      · replace hF := q_f hc hF
        refine lv_aload_n hx hb dX0_arrange_35 rfl (lv_at hl 0 rfl) ?_
        refine q_get (ci := 0) (C := RX0) (T := TX0) (N := 10) hx hb hts eX0_arrange_X0 hown hK hP 0 rfl rfl 4 (Nat.le_of_ble_eq_true rfl) k1 rfl rfl dX0_arrange_36 ?_
        refine lv_iload_n hx hb dX0_arrange_39 rfl (lv_at hl 3 rfl) ?_
        refine lv_aload_n hx hb dX0_arrange_40 rfl (lv_at hl 1 rfl) ?_
        refine lv_iload_n hx hb dX0_arrange_41 rfl (lv_at hl 2 rfl) ?_
        refine lv_iload_n hx hb dX0_arrange_42 rfl (lv_at hl 3 rfl) ?_
        obtain ⟨q4, hcq4, hF⟩ := q_bd hF
        refine q_Vi (As := [.int p1, .int x3_3]) (rest := [.int x3_3, .ref (aS 32)]) ⟨hx, hb, hml, hown, hts⟩ hA hK hP hD hS (tX4_itemIn l dC dI cI cZ aO H.size O_layers O_size O_rows p1 x3_3 q4 hcq4) (cwV 2 hts gX0_arrange_X4_itemIn rfl rfl rfl uX4_itemIn ⟨Nat.le_of_ble_eq_true rfl, Nat.le_of_ble_eq_true rfl⟩) [12, 13, 14] [(false, 0), (false, 1), (false, 2), (false, 3), (false, 4), (false, 5), (false, 6), (false, 7), (false, 8), (false, 9), (false, 10), (false, 11), (true, 0), (true, 1), (true, 2), (false, 15), (false, 16)] (iX0_arrange aS aO cI cZ P_size P_uppers P_lowers q2_0 q2_1 q2_2 B_codes_3 B_used_3 B_chosen B_best B_bestCost q1 O_layers O_size O_rows O_places O_home) rfl rfl rfl rfl rfl 4 0 rfl rfl rfl rfl hl.1 rfl (Nat.le_of_ble_eq_true rfl) dX0_arrange_43 ⟨Nat.zero_le _, Nat.zero_le _⟩ (fun H locs hP hD hS => ?_)
        obtain ⟨hn5, hF⟩ := q_ck hF
        refine q_iast hx hb hK hP hD hS 8 0 (iX0_arrange aS aO cI cZ P_size P_uppers P_lowers q2_0 q2_1 q2_2 (upd B_codes_3 x3_3.toNatClampNeg q4) B_used_3 B_chosen B_best B_bestCost q1 O_layers O_size O_rows O_places O_home) rfl rfl hn5 rfl dX0_arrange_46 (fun H locs hP hD hS => ?_)
        refine lv_aload_n hx hb dX0_arrange_47 rfl (lv_at hl 0 rfl) ?_
        refine q_get (ci := 0) (C := RX0) (T := TX0) (N := 10) hx hb hts eX0_arrange_X0 hown hK hP 0 rfl rfl 5 (Nat.le_of_ble_eq_true rfl) k2 rfl rfl dX0_arrange_48 ?_
        refine lv_iload_n hx hb dX0_arrange_51 rfl (lv_at hl 3 rfl) ?_
        refine lv_iconst (v := 0) hx hb dX0_arrange_52 (by decide) ?_
        obtain ⟨hn6, hF⟩ := q_ck hF
        refine q_zast hx hb hK hP hD hS 9 1 (iX0_arrange aS aO cI cZ P_size P_uppers P_lowers q2_0 q2_1 q2_2 (upd B_codes_3 x3_3.toNatClampNeg q4) (upd B_used_3 x3_3.toNatClampNeg 0) B_chosen B_best B_bestCost q1 O_layers O_size O_rows O_places O_home) rfl rfl hn6 (Or.inl rfl) rfl dX0_arrange_53 (fun H locs hP hD hS => ?_)
        refine lv_iinc (v := (x3_3 + 1)) (lv' := [(3, .int (x3_3 + 1)), (0, .ref (aS 28)), (1, .ref (aO 0)), (2, .int p1)]) hx hb dX0_arrange_54 hl (k := 3) rfl rfl (by decide) rfl (fun ls hl => ?_)
        refine lv_goto (tgt := 27) hx hb dX0_arrange_57 (by decide) ?_
        exact hin _ (Option.some.inj hF).symm H locs ls hP hD hS (lv_sub hl [1, 2, 3, 0] rfl)
    exact L3 (0, B_codes, B_used) hc3 H locs ls hP hD hS (lv_sub hl [1, 2, 3, 0] rfl)
  · replace hF := q_f hc hF
    exact hret H locs ls 18 _ dX0_arrange_18 (congrArg (fun z : (Nat → Int32) × (Nat → Int32) × (Nat → Int32) × (Nat → Int32) × (Nat → Int32) × (Nat → Int32) × (Nat → Int32) × Int32 × Int32 × (Nat → Int32) × (Nat → Int32) × (Nat → Int32) => (iX0_arrange aS aO cI cZ P_size P_uppers P_lowers z.1 z.2.1 z.2.2.1 z.2.2.2.1 z.2.2.2.2.1 z.2.2.2.2.2.1 z.2.2.2.2.2.2.1 z.2.2.2.2.2.2.2.1 z.2.2.2.2.2.2.2.2.1 O_layers O_size z.2.2.2.2.2.2.2.2.2.1 z.2.2.2.2.2.2.2.2.2.2.1 z.2.2.2.2.2.2.2.2.2.2.2)) (Option.some.inj hF)) hP hD hS
abbrev rX5_isCode : Room := { frames := 0, cells := 0, slots := 0, locals := 0 }
theorem uX5_isCode : yX5_isCode.cls ≠ "java/lang/invoke/MethodHandle" ∧ yX5_isCode.cls ≠ "java/lang/invoke/VarHandle" ∧ (parseMethodDescriptor yX5_isCode.desc).map (fun d => d.parameters.length) = some 1 := by decide +kernel
set_option maxHeartbeats 4000000 in
set_option maxRecDepth 100000 in
theorem tX5_isCode (l : Launch) (dC : Nat → ClassId) (dI : Nat → Nat → Nat) (cI cZ : ClassId) (sz : Nat) (p0 : Int32) (res : Int32) (hF : fX5_isCode p0 = some res) : q_Mi l yX5_isCode wsX5_isCode rX5_isCode (dC, dI) (q_ty cI cZ) [.int p0] (iX5_isCode cI cZ) (iX5_isCode cI cZ) sz res := by
  refine q_metz (cc := cX5_isCode) (maxL := 1) (by decide) rfl (Nat.le_of_ble_eq_true rfl) ?_
  intro p e s m args below meth c Q A H locs ls C hP hD hS hl hret
  obtain ⟨hx, hb, hml, hown, hts, hA, hK⟩ := C
  replace hl : lv_has ls 1 [(0, .int p0)] := hl
  unfold fX5_isCode at hF
  refine lv_iload_n hx hb dX5_isCode_0 rfl (lv_at hl 0 rfl) ?_
  refine lv_if_lt (tgt := 14) hx hb dX5_isCode_1 (by decide) (fun hc => ?_) (fun hc => ?_)
  · replace hF := q_t hc hF
    refine lv_iconst (v := 0) hx hb dX5_isCode_14 (by decide) ?_
    exact hret H locs ls 15 _ _ dX5_isCode_15 (Or.inl rfl) (Option.some.inj hF) rfl hP hD hS
  · replace hF := q_f hc hF
    refine lv_iload_n hx hb dX5_isCode_4 rfl (lv_at hl 0 rfl) ?_
    refine lv_bipush (v := 40) hx hb dX5_isCode_5 (by decide) ?_
    refine lv_icmp_ge (tgt := 14) hx hb dX5_isCode_7 (by decide) (fun hc => ?_) (fun hc => ?_)
    · replace hF := q_t hc hF
      refine lv_iconst (v := 0) hx hb dX5_isCode_14 (by decide) ?_
      exact hret H locs ls 15 _ _ dX5_isCode_15 (Or.inl rfl) (Option.some.inj hF) rfl hP hD hS
    · replace hF := q_f hc hF
      refine lv_iconst (v := 1) hx hb dX5_isCode_10 (by decide) ?_
      refine lv_goto (tgt := 15) hx hb dX5_isCode_11 (by decide) ?_
      exact hret H locs ls 15 _ _ dX5_isCode_15 (Or.inr rfl) (Option.some.inj hF) rfl hP hD hS
