/-! Written by wip/whole/gen.py: walks of X8_share, X8_trackOf, X8_tracksIn, X9_needArrowNumber, X9_needBox, X9_arrow, X9_needBoxNumber, X9_needWhat, X9_at, X9_between, X9_box, X9_toldSum, X9_count, X9_needRounds, X9_prepare, X9_finish, X9_draw. -/
abbrev rX8_share : Room := { frames := 4, cells := 0, slots := 0, locals := 92 }
theorem eX8_share_X8 : ∀ w ∈ u_ws RX8 TX8 8, w ∈ wsX8_share := by decide +kernel
theorem uX8_share : yX8_share.cls = RX8 ∧ yX8_share.cls ≠ "java/lang/invoke/MethodHandle" ∧ yX8_share.cls ≠ "java/lang/invoke/VarHandle" ∧ (parseMethodDescriptor yX8_share.desc).map (fun d => d.parameters.length) = some 1 := by decide +kernel
set_option maxHeartbeats 4000000 in
set_option maxRecDepth 100000 in
theorem tX8_share (l : Launch) (dC : Nat → ClassId) (dI : Nat → Nat → Nat) (cI cZ : ClassId) (aS : Nat → Nat) (aO : Nat → Nat) (sz : Nat) (R_width : Nat → Int32) (P_size : Nat → Int32) (P_arrows : Nat → Int32) (P_uppers : Nat → Int32) (P_lowers : Nat → Int32) (C_x : Nat → Int32) (T_track : Nat → Int32) (T_used : Nat → Int32) (T_left : Nat → Int32) (T_right : Nat → Int32) (T_arrows : Nat → Int32) (T_trackEnd : Nat → Int32) (O_layers : Int32) (res : (Nat → Int32) × (Nat → Int32) × (Nat → Int32) × (Nat → Int32) × (Nat → Int32) × (Nat → Int32)) (hF : fX8_share R_width P_size P_arrows P_uppers P_lowers C_x T_left T_right T_arrows T_trackEnd O_layers = some res) : q_Mv l yX8_share wsX8_share rX8_share (dC, dI) (q_ty cI cZ) [.ref (aS 40), .ref (aO 0)] (iX8_share aS aO cI cZ R_width P_size P_arrows P_uppers P_lowers C_x T_track T_used T_left T_right T_arrows T_trackEnd O_layers) (iX8_share aS aO cI cZ R_width P_size P_arrows P_uppers P_lowers C_x res.1 res.2.1 res.2.2.1 res.2.2.2.1 res.2.2.2.2.1 res.2.2.2.2.2 O_layers) sz := by
  refine q_metv (cc := cX8_share) (maxL := 3) (by decide) rfl (Nat.le_of_ble_eq_true rfl) ?_
  intro p e s m args below meth c Q A H locs ls C hP hD hS hl hret
  obtain ⟨hx, hb, hml, hown, hts, hA, hK⟩ := C
  replace hl : lv_has ls 3 [(0, .ref (aS 40)), (1, .ref (aO 0))] := hl
  have k0 := hts (.fieldLink RX8 9 "RouteLayout$Tracks" "track" "[I") (by decide +kernel)
  have k1 := hts (.fieldLink RX8 15 "RouteLayout$Tracks" "used" "[I") (by decide +kernel)
  unfold fX8_share at hF
  refine lv_aload_n hx hb dX8_share_0 rfl (lv_at hl 0 rfl) ?_
  refine q_get (ci := 8) (C := RX8) (T := TX8) (N := 8) hx hb hts eX8_share_X8 hown hK hP 0 rfl rfl 2 (Nat.le_of_ble_eq_true rfl) k0 rfl rfl dX8_share_1 ?_
  refine lv_iconst (v := (-1)) hx hb dX8_share_4 (by decide) ?_
  refine q_Sv (As := [.ref (aS 41), .int (-1)]) (rest := []) ⟨hx, hb, hml, hown, hts⟩ hA hK hP hD hS (tJ7_fill_53178 l dC dI cI cZ (aS 41) 576 H.size T_track (-1) (by decide)) (va_cwS 2 hts gX8_share_J7_fill_53178 rfl rfl rfl uJ7_fill_53178 ⟨Nat.le_of_ble_eq_true rfl, Nat.le_of_ble_eq_true rfl⟩) [10] [(false, 0), (false, 1), (false, 2), (false, 3), (false, 4), (false, 5), (false, 6), (false, 7), (false, 8), (false, 9), (true, 0), (false, 11), (false, 12), (false, 13), (false, 14), (false, 15), (false, 16)] (iX8_share aS aO cI cZ R_width P_size P_arrows P_uppers P_lowers C_x (fun _ => (-1)) T_used T_left T_right T_arrows T_trackEnd O_layers) rfl rfl rfl rfl rfl rfl hl.1 rfl (Nat.le_of_ble_eq_true rfl) dX8_share_5 ⟨Nat.zero_le _, Nat.zero_le _⟩ (fun H locs hP hD hS => ?_)
  refine lv_aload_n hx hb dX8_share_8 rfl (lv_at hl 0 rfl) ?_
  refine q_get (ci := 8) (C := RX8) (T := TX8) (N := 8) hx hb hts eX8_share_X8 hown hK hP 0 rfl rfl 3 (Nat.le_of_ble_eq_true rfl) k1 rfl rfl dX8_share_9 ?_
  refine lv_iconst (v := 0) hx hb dX8_share_12 (by decide) ?_
  refine q_Sv (As := [.ref (aS 42), .int 0]) (rest := []) ⟨hx, hb, hml, hown, hts⟩ hA hK hP hD hS (tJ7_fill_53178 l dC dI cI cZ (aS 42) 24 H.size T_used 0 (by decide)) (va_cwS 2 hts gX8_share_J7_fill_53178 rfl rfl rfl uJ7_fill_53178 ⟨Nat.le_of_ble_eq_true rfl, Nat.le_of_ble_eq_true rfl⟩) [11] [(false, 0), (false, 1), (false, 2), (false, 3), (false, 4), (false, 5), (false, 6), (false, 7), (false, 8), (false, 9), (false, 10), (true, 0), (false, 12), (false, 13), (false, 14), (false, 15), (false, 16)] (iX8_share aS aO cI cZ R_width P_size P_arrows P_uppers P_lowers C_x (fun _ => (-1)) (fun _ => 0) T_left T_right T_arrows T_trackEnd O_layers) rfl rfl rfl rfl rfl rfl hl.1 rfl (Nat.le_of_ble_eq_true rfl) dX8_share_13 ⟨Nat.zero_le _, Nat.zero_le _⟩ (fun H locs hP hD hS => ?_)
  refine lv_iconst (v := 0) hx hb dX8_share_16 (by decide) ?_
  refine lv_istore_n (lv' := [(2, .int 0), (0, .ref (aS 40)), (1, .ref (aO 0))]) hx hb dX8_share_17 rfl hl (by decide) rfl (fun ls hl => ?_)
  obtain ⟨q1_0, q1_1, q1_2, q1_3, q1_4, q1_5, hc1, hF⟩ := q_bd6 hF
  have X1 : ∀ (u1_0 : Nat → Int32) (u1_1 : Nat → Int32) (u1_2 : Nat → Int32) (u1_3 : Nat → Int32) (u1_4 : Nat → Int32) (u1_5 : Nat → Int32), (u1_0, u1_1, u1_2, u1_3, u1_4, u1_5) = (q1_0, q1_1, q1_2, q1_3, q1_4, q1_5) → ∀ (H : Heap) (locs : List Loc) (ls : Array Slot), va_P (dC, dI) vwCl (iX8_share aS aO cI cZ R_width P_size P_arrows P_uppers P_lowers C_x u1_0 u1_1 u1_2 u1_3 u1_4 u1_5 O_layers) H → va_D A (iX8_share aS aO cI cZ R_width P_size P_arrows P_uppers P_lowers C_x u1_0 u1_1 u1_2 u1_3 u1_4 u1_5 O_layers) → va_S A s.heap H locs → lv_has ls 3 [] → W p l e (headSpec wsX8_share (rX8_share)).room s m args below meth c H locs 0 0 Q (F0 m 44 ls []) := by
    intro u1_0 u1_1 u1_2 u1_3 u1_4 u1_5 hu H locs ls hP hD hS hl
    obtain ⟨e0, e1, e2, e3, e4, e5⟩ := q_inj6 hu
    subst e0 e1 e2 e3 e4 e5
    exact hret H locs ls 44 _ dX8_share_44 (congrArg (fun z : (Nat → Int32) × (Nat → Int32) × (Nat → Int32) × (Nat → Int32) × (Nat → Int32) × (Nat → Int32) => (iX8_share aS aO cI cZ R_width P_size P_arrows P_uppers P_lowers C_x z.1 z.2.1 z.2.2.1 z.2.2.2.1 z.2.2.2.2.1 z.2.2.2.2.2 O_layers)) (Option.some.inj hF)) hP hD hS
  have L1 : ∀ st : Int32 × (Nat → Int32) × (Nat → Int32) × (Nat → Int32) × (Nat → Int32) × (Nat → Int32) × (Nat → Int32), q_lo (fun (st : Int32 × (Nat → Int32) × (Nat → Int32) × (Nat → Int32) × (Nat → Int32) × (Nat → Int32) × (Nat → Int32)) => bX8_share_18 R_width P_size P_arrows P_uppers P_lowers C_x O_layers st.1 st.2.1 st.2.2.1 st.2.2.2.1 st.2.2.2.2.1 st.2.2.2.2.2.1 st.2.2.2.2.2.2) st = some (q1_0, q1_1, q1_2, q1_3, q1_4, q1_5) → ∀ (H : Heap) (locs : List Loc) (ls : Array Slot), va_P (dC, dI) vwCl (iX8_share aS aO cI cZ R_width P_size P_arrows P_uppers P_lowers C_x st.2.1 st.2.2.1 st.2.2.2.1 st.2.2.2.2.1 st.2.2.2.2.2.1 st.2.2.2.2.2.2 O_layers) H → va_D A (iX8_share aS aO cI cZ R_width P_size P_arrows P_uppers P_lowers C_x st.2.1 st.2.2.1 st.2.2.2.1 st.2.2.2.2.1 st.2.2.2.2.2.1 st.2.2.2.2.2.2 O_layers) → va_S A s.heap H locs → lv_has ls 3 [(0, .ref (aS 40)), (1, .ref (aO 0)), (2, .int st.1)] → W p l e (headSpec wsX8_share (rX8_share)).room s m args below meth c H locs 0 0 Q (F0 m 18 ls []) := by
    intro st hst
    refine q_walk (Wh := fun st : Int32 × (Nat → Int32) × (Nat → Int32) × (Nat → Int32) × (Nat → Int32) × (Nat → Int32) × (Nat → Int32) => ∀ (H : Heap) (locs : List Loc) (ls : Array Slot), va_P (dC, dI) vwCl (iX8_share aS aO cI cZ R_width P_size P_arrows P_uppers P_lowers C_x st.2.1 st.2.2.1 st.2.2.2.1 st.2.2.2.2.1 st.2.2.2.2.2.1 st.2.2.2.2.2.2 O_layers) H → va_D A (iX8_share aS aO cI cZ R_width P_size P_arrows P_uppers P_lowers C_x st.2.1 st.2.2.1 st.2.2.2.1 st.2.2.2.2.1 st.2.2.2.2.2.1 st.2.2.2.2.2.2 O_layers) → va_S A s.heap H locs → lv_has ls 3 [(0, .ref (aS 40)), (1, .ref (aO 0)), (2, .int st.1)] → W p l e (headSpec wsX8_share (rX8_share)).room s m args below meth c H locs 0 0 Q (F0 m 18 ls [])) ?_ st hst
    clear hst st hF
    intro st o hF hin hex H locs ls hP hD hS hl
    obtain ⟨x2_1, T_track_1, T_used_1, T_left_1, T_right_1, T_arrows_1, T_trackEnd_1⟩ := st
    replace hF : bX8_share_18 R_width P_size P_arrows P_uppers P_lowers C_x O_layers x2_1 T_track_1 T_used_1 T_left_1 T_right_1 T_arrows_1 T_trackEnd_1 = some o := hF
    replace hP : va_P (dC, dI) vwCl (iX8_share aS aO cI cZ R_width P_size P_arrows P_uppers P_lowers C_x T_track_1 T_used_1 T_left_1 T_right_1 T_arrows_1 T_trackEnd_1 O_layers) H := hP
    replace hD : va_D A (iX8_share aS aO cI cZ R_width P_size P_arrows P_uppers P_lowers C_x T_track_1 T_used_1 T_left_1 T_right_1 T_arrows_1 T_trackEnd_1 O_layers) := hD
    replace hl : lv_has ls 3 [(0, .ref (aS 40)), (1, .ref (aO 0)), (2, .int x2_1)] := hl
    unfold bX8_share_18 at hF
    refine lv_iload_n hx hb dX8_share_18 rfl (lv_at hl 2 rfl) ?_
    refine lv_aload_n hx hb dX8_share_19 rfl (lv_at hl 1 rfl) ?_
    obtain ⟨q2, hcq2, hF⟩ := q_bd hF
    refine q_Vi (As := []) (rest := [.int x2_1]) ⟨hx, hb, hml, hown, hts⟩ hA hK hP hD hS (tX4_layers l dC dI cI cZ aO H.size O_layers q2 hcq2) (cwV 0 hts gX8_share_X4_layers rfl rfl rfl uX4_layers ⟨Nat.le_of_ble_eq_true rfl, Nat.le_of_ble_eq_true rfl⟩) [16] [(false, 0), (false, 1), (false, 2), (false, 3), (false, 4), (false, 5), (false, 6), (false, 7), (false, 8), (false, 9), (false, 10), (false, 11), (false, 12), (false, 13), (false, 14), (false, 15), (true, 0)] (iX8_share aS aO cI cZ R_width P_size P_arrows P_uppers P_lowers C_x T_track_1 T_used_1 T_left_1 T_right_1 T_arrows_1 T_trackEnd_1 O_layers) rfl rfl rfl rfl rfl 4 0 rfl rfl rfl rfl hl.1 rfl (Nat.le_of_ble_eq_true rfl) dX8_share_20 ⟨Nat.zero_le _, Nat.zero_le _⟩ (fun H locs hP hD hS => ?_)
    refine lv_iconst (v := 1) hx hb dX8_share_23 (by decide) ?_
    refine lv_isub hx hb dX8_share_24 ?_
    refine lv_icmp_ge (tgt := 44) hx hb dX8_share_25 (by decide) (fun hc => ?_) (fun hc => ?_)
    · replace hF := q_t hc hF
      exact X1 _ _ _ _ _ _ (hex _ (Option.some.inj hF).symm) H locs ls hP hD hS (lv_sub hl [] rfl)
    · replace hF := q_f hc hF
      refine lv_aload_n hx hb dX8_share_28 rfl (lv_at hl 0 rfl) ?_
      refine lv_iload_n hx hb dX8_share_29 rfl (lv_at hl 2 rfl) ?_
      refine lv_aload_n hx hb dX8_share_30 rfl (lv_at hl 0 rfl) ?_
      refine lv_iload_n hx hb dX8_share_31 rfl (lv_at hl 2 rfl) ?_
      obtain ⟨q3_0, q3_1, q3_2, q3_3, hcq3, hF⟩ := q_bd4 hF
      refine q_Vi (As := [.int x2_1]) (rest := [.int x2_1, .ref (aS 40)]) ⟨hx, hb, hml, hown, hts⟩ hA hK hP hD hS (tX8_gatherParts l dC dI cI cZ aS H.size R_width P_size P_arrows P_uppers P_lowers C_x T_left_1 T_right_1 T_arrows_1 x2_1 (q3_0, q3_1, q3_2, q3_3) hcq3) (cwV 1 hts gX8_share_X8_gatherParts rfl rfl rfl uX8_gatherParts ⟨Nat.le_of_ble_eq_true rfl, Nat.le_of_ble_eq_true rfl⟩) [0, 1, 2, 3, 4, 5, 6, 7, 8, 9, 12, 13, 14] [(true, 0), (true, 1), (true, 2), (true, 3), (true, 4), (true, 5), (true, 6), (true, 7), (true, 8), (true, 9), (false, 10), (false, 11), (true, 10), (true, 11), (true, 12), (false, 15), (false, 16)] (iX8_share aS aO cI cZ R_width P_size P_arrows P_uppers P_lowers C_x T_track_1 T_used_1 q3_1 q3_2 q3_3 T_trackEnd_1 O_layers) rfl rfl rfl rfl rfl 8 0 rfl rfl rfl rfl hl.1 rfl (Nat.le_of_ble_eq_true rfl) dX8_share_32 ⟨Nat.zero_le _, Nat.zero_le _⟩ (fun H locs hP hD hS => ?_)
      obtain ⟨q4_0, q4_1, q4_2, hcq4, hF⟩ := q_bd3 hF
      refine q_Vv (As := [.int x2_1, .int q3_0]) (rest := []) ⟨hx, hb, hml, hown, hts⟩ hA hK hP hD hS (tX8_shareGap l dC dI cI cZ aS H.size T_track_1 T_used_1 q3_1 q3_2 q3_3 T_trackEnd_1 x2_1 q3_0 (q4_0, q4_1, q4_2) hcq4) (cwV 2 hts gX8_share_X8_shareGap rfl rfl rfl uX8_shareGap ⟨Nat.le_of_ble_eq_true rfl, Nat.le_of_ble_eq_true rfl⟩) [0, 10, 11, 12, 13, 14, 15] [(true, 0), (false, 1), (false, 2), (false, 3), (false, 4), (false, 5), (false, 6), (false, 7), (false, 8), (false, 9), (true, 1), (true, 2), (true, 3), (true, 4), (true, 5), (true, 6), (false, 16)] (iX8_share aS aO cI cZ R_width P_size P_arrows P_uppers P_lowers C_x q4_0 q4_1 q3_1 q3_2 q3_3 q4_2 O_layers) rfl rfl rfl rfl rfl 8 0 rfl rfl rfl rfl hl.1 rfl (Nat.le_of_ble_eq_true rfl) dX8_share_35 ⟨Nat.zero_le _, Nat.zero_le _⟩ (fun H locs hP hD hS => ?_)
      refine lv_iinc (v := (x2_1 + 1)) (lv' := [(2, .int (x2_1 + 1)), (0, .ref (aS 40)), (1, .ref (aO 0))]) hx hb dX8_share_38 hl (k := 2) rfl rfl (by decide) rfl (fun ls hl => ?_)
      refine lv_goto (tgt := 18) hx hb dX8_share_41 (by decide) ?_
      exact hin _ (Option.some.inj hF).symm H locs ls hP hD hS (lv_sub hl [1, 2, 0] rfl)
  exact L1 (0, (fun _ => (-1)), (fun _ => 0), T_left, T_right, T_arrows, T_trackEnd) hc1 H locs ls hP hD hS (lv_sub hl [1, 2, 0] rfl)
abbrev rX8_trackOf : Room := { frames := 0, cells := 0, slots := 0, locals := 0 }
theorem eX8_trackOf_X8 : ∀ w ∈ u_ws RX8 TX8 8, w ∈ wsX8_trackOf := by decide +kernel
theorem uX8_trackOf : yX8_trackOf.cls = RX8 ∧ yX8_trackOf.cls ≠ "java/lang/invoke/MethodHandle" ∧ yX8_trackOf.cls ≠ "java/lang/invoke/VarHandle" ∧ (parseMethodDescriptor yX8_trackOf.desc).map (fun d => d.parameters.length) = some 2 := by decide +kernel
set_option maxHeartbeats 4000000 in
set_option maxRecDepth 100000 in
theorem tX8_trackOf (l : Launch) (dC : Nat → ClassId) (dI : Nat → Nat → Nat) (cI cZ : ClassId) (aS : Nat → Nat) (sz : Nat) (T_track : Nat → Int32) (p0 : Int32) (p1 : Int32) (res : Int32) (hF : fX8_trackOf T_track p0 p1 = some res) : q_Mi l yX8_trackOf wsX8_trackOf rX8_trackOf (dC, dI) (q_ty cI cZ) [.ref (aS 40), .int p0, .int p1] (iX8_trackOf aS cI cZ T_track) (iX8_trackOf aS cI cZ T_track) sz res := by
  refine q_meti (cc := cX8_trackOf) (maxL := 4) (by decide) rfl (Nat.le_of_ble_eq_true rfl) ?_
  intro p e s m args below meth c Q A H locs ls C hP hD hS hl hret
  obtain ⟨hx, hb, hml, hown, hts, hA, hK⟩ := C
  replace hl : lv_has ls 4 [(0, .ref (aS 40)), (1, .int p0), (2, .int p1)] := hl
  have k0 := hts (.fieldLink RX8 9 "RouteLayout$Tracks" "track" "[I") (by decide +kernel)
  unfold fX8_trackOf at hF
  have JX8_TRACKOF_25 : ∀ (x1_1 : Int32) (x2_1 : Int32) (s0_1 : Int32), jX8_trackOf_25 T_track x1_1 x2_1 s0_1 = some res → ∀ (H : Heap) (locs : List Loc) (ls : Array Slot), va_P (dC, dI) vwCl (iX8_trackOf aS cI cZ T_track) H → va_D A (iX8_trackOf aS cI cZ T_track) → va_S A s.heap H locs → lv_has ls 4 [(0, .ref (aS 40)), (1, .int x1_1), (2, .int x2_1)] → W p l e (headSpec wsX8_trackOf (rX8_trackOf)).room s m args below meth c H locs 0 0 Q (F0 m 25 ls [.int s0_1]) := by
    intro x1_1 x2_1 s0_1 hF H locs ls hP hD hS hl
    unfold jX8_trackOf_25 at hF
    refine lv_istore_n (lv' := [(3, .int s0_1), (0, .ref (aS 40)), (1, .int x1_1), (2, .int x2_1)]) hx hb dX8_trackOf_25 rfl hl (by decide) rfl (fun ls hl => ?_)
    refine lv_iload_n hx hb dX8_trackOf_26 rfl (lv_at hl 0 rfl) ?_
    refine lv_if_eq (tgt := 44) hx hb dX8_trackOf_27 (by decide) (fun hc => ?_) (fun hc => ?_)
    · replace hF := q_t hc hF
      refine lv_iconst (v := (-1)) hx hb dX8_trackOf_44 (by decide) ?_
      exact hret H locs ls 45 _ _ dX8_trackOf_45 (Option.some.inj hF) rfl hP hD hS
    · replace hF := q_f hc hF
      refine lv_aload_n hx hb dX8_trackOf_30 rfl (lv_at hl 1 rfl) ?_
      refine q_get (ci := 8) (C := RX8) (T := TX8) (N := 8) hx hb hts eX8_trackOf_X8 hown hK hP 0 rfl rfl 2 (Nat.le_of_ble_eq_true rfl) k0 rfl rfl dX8_trackOf_31 ?_
      refine lv_iload_n hx hb dX8_trackOf_34 rfl (lv_at hl 3 rfl) ?_
      refine lv_bipush (v := 24) hx hb dX8_trackOf_35 (by decide) ?_
      refine lv_imul hx hb dX8_trackOf_37 ?_
      refine lv_iload_n hx hb dX8_trackOf_38 rfl (lv_at hl 2 rfl) ?_
      refine lv_iadd hx hb dX8_trackOf_39 ?_
      obtain ⟨hn2, hF⟩ := q_ck hF
      refine va_iald hx hb hK hP 1 0 rfl rfl hn2 dX8_trackOf_40 ?_
      refine lv_goto (tgt := 45) hx hb dX8_trackOf_41 (by decide) ?_
      exact hret H locs ls 45 _ _ dX8_trackOf_45 (Option.some.inj hF) rfl hP hD hS
  have JX8_TRACKOF_24 : ∀ (x1_3 : Int32) (x2_3 : Int32), jX8_trackOf_24 T_track x1_3 x2_3 = some res → ∀ (H : Heap) (locs : List Loc) (ls : Array Slot), va_P (dC, dI) vwCl (iX8_trackOf aS cI cZ T_track) H → va_D A (iX8_trackOf aS cI cZ T_track) → va_S A s.heap H locs → lv_has ls 4 [(0, .ref (aS 40)), (1, .int x1_3), (2, .int x2_3)] → W p l e (headSpec wsX8_trackOf (rX8_trackOf)).room s m args below meth c H locs 0 0 Q (F0 m 24 ls []) := by
    intro x1_3 x2_3 hF H locs ls hP hD hS hl
    unfold jX8_trackOf_24 at hF
    refine lv_iconst (v := 0) hx hb dX8_trackOf_24 (by decide) ?_
    exact JX8_TRACKOF_25 x1_3 x2_3 0 hF H locs ls hP hD hS (lv_sub hl [0, 1, 2] rfl)
  refine lv_iload_n hx hb dX8_trackOf_0 rfl (lv_at hl 1 rfl) ?_
  refine lv_if_lt (tgt := 24) hx hb dX8_trackOf_1 (by decide) (fun hc => ?_) (fun hc => ?_)
  · replace hF := q_t hc hF
    exact JX8_TRACKOF_24 p0 p1 hF H locs ls hP hD hS (lv_sub hl [0, 1, 2] rfl)
  · replace hF := q_f hc hF
    refine lv_iload_n hx hb dX8_trackOf_4 rfl (lv_at hl 1 rfl) ?_
    refine lv_bipush (v := 24) hx hb dX8_trackOf_5 (by decide) ?_
    refine lv_icmp_ge (tgt := 24) hx hb dX8_trackOf_7 (by decide) (fun hc => ?_) (fun hc => ?_)
    · replace hF := q_t hc hF
      exact JX8_TRACKOF_24 p0 p1 hF H locs ls hP hD hS (lv_sub hl [0, 1, 2] rfl)
    · replace hF := q_f hc hF
      refine lv_iload_n hx hb dX8_trackOf_10 rfl (lv_at hl 2 rfl) ?_
      refine lv_if_lt (tgt := 24) hx hb dX8_trackOf_11 (by decide) (fun hc => ?_) (fun hc => ?_)
      · replace hF := q_t hc hF
        exact JX8_TRACKOF_24 p0 p1 hF H locs ls hP hD hS (lv_sub hl [0, 1, 2] rfl)
      · replace hF := q_f hc hF
        refine lv_iload_n hx hb dX8_trackOf_14 rfl (lv_at hl 2 rfl) ?_
        refine lv_bipush (v := 24) hx hb dX8_trackOf_15 (by decide) ?_
        refine lv_icmp_ge (tgt := 24) hx hb dX8_trackOf_17 (by decide) (fun hc => ?_) (fun hc => ?_)
        · replace hF := q_t hc hF
          exact JX8_TRACKOF_24 p0 p1 hF H locs ls hP hD hS (lv_sub hl [0, 1, 2] rfl)
        · replace hF := q_f hc hF
          refine lv_iconst (v := 1) hx hb dX8_trackOf_20 (by decide) ?_
          refine lv_goto (tgt := 25) hx hb dX8_trackOf_21 (by decide) ?_
          exact JX8_TRACKOF_25 p0 p1 1 hF H locs ls hP hD hS (lv_sub hl [0, 1, 2] rfl)
abbrev rX8_tracksIn : Room := { frames := 0, cells := 0, slots := 0, locals := 0 }
theorem eX8_tracksIn_X8 : ∀ w ∈ u_ws RX8 TX8 8, w ∈ wsX8_tracksIn := by decide +kernel
theorem uX8_tracksIn : yX8_tracksIn.cls = RX8 ∧ yX8_tracksIn.cls ≠ "java/lang/invoke/MethodHandle" ∧ yX8_tracksIn.cls ≠ "java/lang/invoke/VarHandle" ∧ (parseMethodDescriptor yX8_tracksIn.desc).map (fun d => d.parameters.length) = some 1 := by decide +kernel
set_option maxHeartbeats 4000000 in
set_option maxRecDepth 100000 in
theorem tX8_tracksIn (l : Launch) (dC : Nat → ClassId) (dI : Nat → Nat → Nat) (cI cZ : ClassId) (aS : Nat → Nat) (sz : Nat) (T_used : Nat → Int32) (p0 : Int32) (res : Int32) (hF : fX8_tracksIn T_used p0 = some res) : q_Mi l yX8_tracksIn wsX8_tracksIn rX8_tracksIn (dC, dI) (q_ty cI cZ) [.ref (aS 40), .int p0] (iX8_tracksIn aS cI cZ T_used) (iX8_tracksIn aS cI cZ T_used) sz res := by
  refine q_meti (cc := cX8_tracksIn) (maxL := 2) (by decide) rfl (Nat.le_of_ble_eq_true rfl) ?_
  intro p e s m args below meth c Q A H locs ls C hP hD hS hl hret
  obtain ⟨hx, hb, hml, hown, hts, hA, hK⟩ := C
  replace hl : lv_has ls 2 [(0, .ref (aS 40)), (1, .int p0)] := hl
  have k0 := hts (.fieldLink RX8 15 "RouteLayout$Tracks" "used" "[I") (by decide +kernel)
  unfold fX8_tracksIn at hF
  refine lv_iload_n hx hb dX8_tracksIn_0 rfl (lv_at hl 1 rfl) ?_
  refine lv_if_lt (tgt := 19) hx hb dX8_tracksIn_1 (by decide) (fun hc => ?_) (fun hc => ?_)
  · replace hF := q_t hc hF
    refine lv_iconst (v := 0) hx hb dX8_tracksIn_19 (by decide) ?_
    exact hret H locs ls 20 _ _ dX8_tracksIn_20 (Option.some.inj hF) rfl hP hD hS
  · replace hF := q_f hc hF
    refine lv_iload_n hx hb dX8_tracksIn_4 rfl (lv_at hl 1 rfl) ?_
    refine lv_bipush (v := 24) hx hb dX8_tracksIn_5 (by decide) ?_
    refine lv_icmp_ge (tgt := 19) hx hb dX8_tracksIn_7 (by decide) (fun hc => ?_) (fun hc => ?_)
    · replace hF := q_t hc hF
      refine lv_iconst (v := 0) hx hb dX8_tracksIn_19 (by decide) ?_
      exact hret H locs ls 20 _ _ dX8_tracksIn_20 (Option.some.inj hF) rfl hP hD hS
    · replace hF := q_f hc hF
      refine lv_aload_n hx hb dX8_tracksIn_10 rfl (lv_at hl 0 rfl) ?_
      refine q_get (ci := 8) (C := RX8) (T := TX8) (N := 8) hx hb hts eX8_tracksIn_X8 hown hK hP 0 rfl rfl 3 (Nat.le_of_ble_eq_true rfl) k0 rfl rfl dX8_tracksIn_11 ?_
      refine lv_iload_n hx hb dX8_tracksIn_14 rfl (lv_at hl 1 rfl) ?_
      obtain ⟨hn1, hF⟩ := q_ck hF
      refine va_iald hx hb hK hP 1 0 rfl rfl hn1 dX8_tracksIn_15 ?_
      refine lv_goto (tgt := 20) hx hb dX8_tracksIn_16 (by decide) ?_
      exact hret H locs ls 20 _ _ dX8_tracksIn_20 (Option.some.inj hF) rfl hP hD hS
abbrev rX9_needArrowNumber : Room := { frames := 0, cells := 0, slots := 0, locals := 0 }
theorem uX9_needArrowNumber : yX9_needArrowNumber.cls ≠ "java/lang/invoke/MethodHandle" ∧ yX9_needArrowNumber.cls ≠ "java/lang/invoke/VarHandle" ∧ (parseMethodDescriptor yX9_needArrowNumber.desc).map (fun d => d.parameters.length) = some 1 := by decide +kernel
set_option maxHeartbeats 4000000 in
set_option maxRecDepth 100000 in
theorem tX9_needArrowNumber (l : Launch) (dC : Nat → ClassId) (dI : Nat → Nat → Nat) (cI cZ : ClassId) (sz : Nat) (p0 : Int32) (res : Unit) (hF : fX9_needArrowNumber p0 = some res) : q_Mv l yX9_needArrowNumber wsX9_needArrowNumber rX9_needArrowNumber (dC, dI) (q_ty cI cZ) [.int p0] (iX9_needArrowNumber cI cZ) (iX9_needArrowNumber cI cZ) sz := by
  refine q_metv (cc := cX9_needArrowNumber) (maxL := 1) (by decide) rfl (Nat.le_of_ble_eq_true rfl) ?_
  intro p e s m args below meth c Q A H locs ls C hP hD hS hl hret
  obtain ⟨hx, hb, hml, hown, hts, hA, hK⟩ := C
  replace hl : lv_has ls 1 [(0, .int p0)] := hl
  unfold fX9_needArrowNumber at hF
  refine lv_iload_n hx hb dX9_needArrowNumber_0 rfl (lv_at hl 0 rfl) ?_
  refine lv_if_lt (tgt := 10) hx hb dX9_needArrowNumber_1 (by decide) (fun hc => ?_) (fun hc => ?_)
  · replace hF := q_t hc hF
    cases hF
  · replace hF := q_f hc hF
    refine lv_iload_n hx hb dX9_needArrowNumber_4 rfl (lv_at hl 0 rfl) ?_
    refine lv_bipush (v := 24) hx hb dX9_needArrowNumber_5 (by decide) ?_
    refine lv_icmp_lt (tgt := 20) hx hb dX9_needArrowNumber_7 (by decide) (fun hc => ?_) (fun hc => ?_)
    · replace hF := q_t hc hF
      exact hret H locs ls 20 _ dX9_needArrowNumber_20 rfl hP hD hS
    · replace hF := q_f hc hF
      cases hF
abbrev rX9_needBox : Room := { frames := 1, cells := 0, slots := 0, locals := 21 }
theorem eX9_needBox_X9 : ∀ w ∈ u_ws RX9 TX9 11, w ∈ wsX9_needBox := by decide +kernel
theorem uX9_needBox : yX9_needBox.cls = RX9 ∧ yX9_needBox.cls ≠ "java/lang/invoke/MethodHandle" ∧ yX9_needBox.cls ≠ "java/lang/invoke/VarHandle" ∧ (parseMethodDescriptor yX9_needBox.desc).map (fun d => d.parameters.length) = some 1 := by decide +kernel
set_option maxHeartbeats 4000000 in
set_option maxRecDepth 100000 in
theorem tX9_needBox (l : Launch) (dC : Nat → ClassId) (dI : Nat → Nat → Nat) (cI cZ : ClassId) (aS : Nat → Nat) (aL : Nat → Nat) (aF : Nat → Nat) (aK : Nat → Nat) (sz : Nat) (M_told : Int32) (R_width : Nat → Int32) (p0 : Int32) (res : Unit) (hF : fX9_needBox R_width p0 = some res) : q_Mv l yX9_needBox wsX9_needBox rX9_needBox (dC, dI) (q_ty cI cZ) [.ref (aS 47), .int p0] (iX9_needBox aS aL aF aK cI cZ M_told R_width) (iX9_needBox aS aL aF aK cI cZ M_told R_width) sz := by
  refine q_metv (cc := cX9_needBox) (maxL := 2) (by decide) rfl (Nat.le_of_ble_eq_true rfl) ?_
  intro p e s m args below meth c Q A H locs ls C hP hD hS hl hret
  obtain ⟨hx, hb, hml, hown, hts, hA, hK⟩ := C
  replace hl : lv_has ls 2 [(0, .ref (aS 47)), (1, .int p0)] := hl
  have k0 := hts (.fieldLink RX9 12 "RouteLayout" "routes" "LRouteLayout$Routes;") (by decide +kernel)
  unfold fX9_needBox at hF
  refine lv_aload_n hx hb dX9_needBox_0 rfl (lv_at hl 0 rfl) ?_
  refine q_get (ci := 9) (C := RX9) (T := TX9) (N := 11) hx hb hts eX9_needBox_X9 hown hK hP 0 rfl rfl 0 (Nat.le_of_ble_eq_true rfl) k0 rfl rfl dX9_needBox_1 ?_
  refine lv_iload_n hx hb dX9_needBox_4 rfl (lv_at hl 1 rfl) ?_
  obtain ⟨q1, hcq1, hF⟩ := q_bd hF
  refine q_Vi (As := [.int p0]) (rest := []) ⟨hx, hb, hml, hown, hts⟩ hA hK hP hD hS (tX7_hasBox l dC dI cI cZ aS H.size R_width p0 q1 hcq1) (cwV 1 hts gX9_needBox_X7_hasBox rfl rfl rfl uX7_hasBox ⟨Nat.le_of_ble_eq_true rfl, Nat.le_of_ble_eq_true rfl⟩) [1, 2] [(false, 0), (true, 0), (true, 1)] (iX9_needBox aS aL aF aK cI cZ M_told R_width) rfl rfl rfl rfl rfl 7 0 rfl rfl rfl rfl hl.1 rfl (Nat.le_of_ble_eq_true rfl) dX9_needBox_5 ⟨Nat.zero_le _, Nat.zero_le _⟩ (fun H locs hP hD hS => ?_)
  refine lv_if_ne (tgt := 21) hx hb dX9_needBox_8 (by decide) (fun hc => ?_) (fun hc => ?_)
  · replace hF := q_f hc hF
    exact hret H locs ls 21 _ dX9_needBox_21 rfl hP hD hS
  · replace hF := q_t hc hF
    cases hF
abbrev rX9_arrow : Room := { frames := 5, cells := 0, slots := 0, locals := 111 }
theorem eX9_arrow_X9 : ∀ w ∈ u_ws RX9 TX9 11, w ∈ wsX9_arrow := by decide +kernel
theorem uX9_arrow : yX9_arrow.cls = RX9 ∧ yX9_arrow.cls ≠ "java/lang/invoke/MethodHandle" ∧ yX9_arrow.cls ≠ "java/lang/invoke/VarHandle" ∧ (parseMethodDescriptor yX9_arrow.desc).map (fun d => d.parameters.length) = some 3 := by decide +kernel
set_option maxHeartbeats 4000000 in
set_option maxRecDepth 100000 in
theorem tX9_arrow (l : Launch) (dC : Nat → ClassId) (dI : Nat → Nat → Nat) (cI cZ : ClassId) (aS : Nat → Nat) (aL : Nat → Nat) (aF : Nat → Nat) (aK : Nat → Nat) (sz : Nat) (M_told : Int32) (R_width : Nat → Int32) (R_from : Nat → Int32) (R_to : Nat → Int32) (R_turned : Nat → Int32) (R_reach : Nat → Int32) (p0 : Int32) (p1 : Int32) (p2 : Int32) (res : Int32 × (Nat → Int32) × (Nat → Int32) × (Nat → Int32) × (Nat → Int32)) (hF : fX9_arrow R_width R_from R_to R_turned R_reach p0 p1 p2 = some res) : q_Mv l yX9_arrow wsX9_arrow rX9_arrow (dC, dI) (q_ty cI cZ) [.ref (aS 47), .int p0, .int p1, .int p2] (iX9_arrow aS aL aF aK cI cZ M_told R_width R_from R_to R_turned R_reach) (iX9_arrow aS aL aF aK cI cZ res.1 R_width res.2.1 res.2.2.1 res.2.2.2.1 res.2.2.2.2) sz := by
  refine q_metv (cc := cX9_arrow) (maxL := 4) (by decide) rfl (Nat.le_of_ble_eq_true rfl) ?_
  intro p e s m args below meth c Q A H locs ls C hP hD hS hl hret
  obtain ⟨hx, hb, hml, hown, hts, hA, hK⟩ := C
  replace hl : lv_has ls 4 [(0, .ref (aS 47)), (1, .int p0), (2, .int p1), (3, .int p2)] := hl
  have k0 := hts (.fieldLink RX9 12 "RouteLayout" "routes" "LRouteLayout$Routes;") (by decide +kernel)
  have k1 := hts (.fieldLink RX9 81 "RouteLayout" "told" "Z") (by decide +kernel)
  unfold fX9_arrow at hF
  refine lv_iload_n hx hb dX9_arrow_0 rfl (lv_at hl 1 rfl) ?_
  obtain ⟨⟨⟩, hcq1, hF⟩ := q_bd hF
  refine q_Sv (As := [.int p0]) (rest := []) ⟨hx, hb, hml, hown, hts⟩ hA hK hP hD hS (tX9_needArrowNumber l dC dI cI cZ H.size p0 () hcq1) (va_cwS 1 hts gX9_arrow_X9_needArrowNumber rfl rfl rfl uX9_needArrowNumber ⟨Nat.le_of_ble_eq_true rfl, Nat.le_of_ble_eq_true rfl⟩) [] [(false, 0), (false, 1), (false, 2), (false, 3), (false, 4), (false, 5), (false, 6)] (iX9_arrow aS aL aF aK cI cZ M_told R_width R_from R_to R_turned R_reach) rfl rfl rfl rfl rfl rfl hl.1 rfl (Nat.le_of_ble_eq_true rfl) dX9_arrow_1 ⟨Nat.zero_le _, Nat.zero_le _⟩ (fun H locs hP hD hS => ?_)
  refine lv_aload_n hx hb dX9_arrow_4 rfl (lv_at hl 0 rfl) ?_
  refine lv_iload_n hx hb dX9_arrow_5 rfl (lv_at hl 2 rfl) ?_
  obtain ⟨⟨⟩, hcq2, hF⟩ := q_bd hF
  refine q_Vv (As := [.int p1]) (rest := []) ⟨hx, hb, hml, hown, hts⟩ hA hK hP hD hS (tX9_needBox l dC dI cI cZ aS aL aF aK H.size M_told R_width p1 () hcq2) (cwV 1 hts gX9_arrow_X9_needBox rfl rfl rfl uX9_needBox ⟨Nat.le_of_ble_eq_true rfl, Nat.le_of_ble_eq_true rfl⟩) [0, 1, 2] [(true, 0), (true, 1), (true, 2), (false, 3), (false, 4), (false, 5), (false, 6)] (iX9_arrow aS aL aF aK cI cZ M_told R_width R_from R_to R_turned R_reach) rfl rfl rfl rfl rfl 9 0 rfl rfl rfl rfl hl.1 rfl (Nat.le_of_ble_eq_true rfl) dX9_arrow_6 ⟨Nat.zero_le _, Nat.zero_le _⟩ (fun H locs hP hD hS => ?_)
  refine lv_aload_n hx hb dX9_arrow_9 rfl (lv_at hl 0 rfl) ?_
  refine lv_iload_n hx hb dX9_arrow_10 rfl (lv_at hl 3 rfl) ?_
  obtain ⟨⟨⟩, hcq3, hF⟩ := q_bd hF
  refine q_Vv (As := [.int p2]) (rest := []) ⟨hx, hb, hml, hown, hts⟩ hA hK hP hD hS (tX9_needBox l dC dI cI cZ aS aL aF aK H.size M_told R_width p2 () hcq3) (cwV 1 hts gX9_arrow_X9_needBox rfl rfl rfl uX9_needBox ⟨Nat.le_of_ble_eq_true rfl, Nat.le_of_ble_eq_true rfl⟩) [0, 1, 2] [(true, 0), (true, 1), (true, 2), (false, 3), (false, 4), (false, 5), (false, 6)] (iX9_arrow aS aL aF aK cI cZ M_told R_width R_from R_to R_turned R_reach) rfl rfl rfl rfl rfl 9 0 rfl rfl rfl rfl hl.1 rfl (Nat.le_of_ble_eq_true rfl) dX9_arrow_11 ⟨Nat.zero_le _, Nat.zero_le _⟩ (fun H locs hP hD hS => ?_)
  refine lv_iload_n hx hb dX9_arrow_14 rfl (lv_at hl 2 rfl) ?_
  refine lv_iload_n hx hb dX9_arrow_15 rfl (lv_at hl 3 rfl) ?_
  refine lv_icmp_ne (tgt := 29) hx hb dX9_arrow_16 (by decide) (fun hc => ?_) (fun hc => ?_)
  · replace hF := q_f hc hF
    refine lv_aload_n hx hb dX9_arrow_29 rfl (lv_at hl 0 rfl) ?_
    refine q_get (ci := 9) (C := RX9) (T := TX9) (N := 11) hx hb hts eX9_arrow_X9 hown hK hP 0 rfl rfl 0 (Nat.le_of_ble_eq_true rfl) k0 rfl rfl dX9_arrow_30 ?_
    refine lv_iload_n hx hb dX9_arrow_33 rfl (lv_at hl 1 rfl) ?_
    refine lv_iload_n hx hb dX9_arrow_34 rfl (lv_at hl 2 rfl) ?_
    refine lv_iload_n hx hb dX9_arrow_35 rfl (lv_at hl 3 rfl) ?_
    obtain ⟨q4_0, q4_1, q4_2, q4_3, hcq4, hF⟩ := q_bd4 hF
    refine q_Vv (As := [.int p0, .int p1, .int p2]) (rest := []) ⟨hx, hb, hml, hown, hts⟩ hA hK hP hD hS (tX7_putArrow l dC dI cI cZ aS H.size R_width R_from R_to R_turned R_reach p0 p1 p2 (q4_0, q4_1, q4_2, q4_3) hcq4) (cwV 3 hts gX9_arrow_X7_putArrow rfl rfl rfl uX7_putArrow ⟨Nat.le_of_ble_eq_true rfl, Nat.le_of_ble_eq_true rfl⟩) [1, 2, 3, 4, 5, 6] [(false, 0), (true, 0), (true, 1), (true, 2), (true, 3), (true, 4), (true, 5)] (iX9_arrow aS aL aF aK cI cZ M_told R_width q4_0 q4_1 q4_2 q4_3) rfl rfl rfl rfl rfl 7 0 rfl rfl rfl rfl hl.1 rfl (Nat.le_of_ble_eq_true rfl) dX9_arrow_36 ⟨Nat.zero_le _, Nat.zero_le _⟩ (fun H locs hP hD hS => ?_)
    refine lv_aload_n hx hb dX9_arrow_39 rfl (lv_at hl 0 rfl) ?_
    refine lv_iconst (v := 0) hx hb dX9_arrow_40 (by decide) ?_
    refine q_put (ci := 9) (C := RX9) (T := TX9) (N := 11) (ty := .boolean) hx hb hts eX9_arrow_X9 tyX9 tyX9_ok nmX9 hown hK hP hD hS 0 (iX9_arrow aS aL aF aK cI cZ 0 R_width q4_0 q4_1 q4_2 q4_3) rfl rfl 10 (Nat.le_of_ble_eq_true rfl) k1 rfl rfl (by decide +kernel) (q_narz (Or.inl rfl)) rfl (Nat.le_of_ble_eq_true rfl) rfl dX9_arrow_41 (fun H locs hP hD hS => ?_)
    exact hret H locs ls 44 _ dX9_arrow_44 (congrArg (fun z : Int32 × (Nat → Int32) × (Nat → Int32) × (Nat → Int32) × (Nat → Int32) => (iX9_arrow aS aL aF aK cI cZ z.1 R_width z.2.1 z.2.2.1 z.2.2.2.1 z.2.2.2.2)) (Option.some.inj hF)) hP hD hS
  · replace hF := q_t hc hF
    cases hF
abbrev rX9_needBoxNumber : Room := { frames := 0, cells := 0, slots := 0, locals := 0 }
theorem uX9_needBoxNumber : yX9_needBoxNumber.cls ≠ "java/lang/invoke/MethodHandle" ∧ yX9_needBoxNumber.cls ≠ "java/lang/invoke/VarHandle" ∧ (parseMethodDescriptor yX9_needBoxNumber.desc).map (fun d => d.parameters.length) = some 1 := by decide +kernel
set_option maxHeartbeats 4000000 in
set_option maxRecDepth 100000 in
theorem tX9_needBoxNumber (l : Launch) (dC : Nat → ClassId) (dI : Nat → Nat → Nat) (cI cZ : ClassId) (sz : Nat) (p0 : Int32) (res : Unit) (hF : fX9_needBoxNumber p0 = some res) : q_Mv l yX9_needBoxNumber wsX9_needBoxNumber rX9_needBoxNumber (dC, dI) (q_ty cI cZ) [.int p0] (iX9_needBoxNumber cI cZ) (iX9_needBoxNumber cI cZ) sz := by
  refine q_metv (cc := cX9_needBoxNumber) (maxL := 1) (by decide) rfl (Nat.le_of_ble_eq_true rfl) ?_
  intro p e s m args below meth c Q A H locs ls C hP hD hS hl hret
  obtain ⟨hx, hb, hml, hown, hts, hA, hK⟩ := C
  replace hl : lv_has ls 1 [(0, .int p0)] := hl
  unfold fX9_needBoxNumber at hF
  refine lv_iload_n hx hb dX9_needBoxNumber_0 rfl (lv_at hl 0 rfl) ?_
  refine lv_if_lt (tgt := 10) hx hb dX9_needBoxNumber_1 (by decide) (fun hc => ?_) (fun hc => ?_)
  · replace hF := q_t hc hF
    cases hF
  · replace hF := q_f hc hF
    refine lv_iload_n hx hb dX9_needBoxNumber_4 rfl (lv_at hl 0 rfl) ?_
    refine lv_bipush (v := 16) hx hb dX9_needBoxNumber_5 (by decide) ?_
    refine lv_icmp_lt (tgt := 20) hx hb dX9_needBoxNumber_7 (by decide) (fun hc => ?_) (fun hc => ?_)
    · replace hF := q_t hc hF
      exact hret H locs ls 20 _ dX9_needBoxNumber_20 rfl hP hD hS
    · replace hF := q_f hc hF
      cases hF
abbrev rX9_needWhat : Room := { frames := 0, cells := 0, slots := 0, locals := 0 }
theorem uX9_needWhat : yX9_needWhat.cls ≠ "java/lang/invoke/MethodHandle" ∧ yX9_needWhat.cls ≠ "java/lang/invoke/VarHandle" ∧ (parseMethodDescriptor yX9_needWhat.desc).map (fun d => d.parameters.length) = some 2 := by decide +kernel
set_option maxHeartbeats 4000000 in
set_option maxRecDepth 100000 in
theorem tX9_needWhat (l : Launch) (dC : Nat → ClassId) (dI : Nat → Nat → Nat) (cI cZ : ClassId) (sz : Nat) (p0 : Int32) (p1 : Int32) (res : Unit) (hF : fX9_needWhat p0 p1 = some res) : q_Mv l yX9_needWhat wsX9_needWhat rX9_needWhat (dC, dI) (q_ty cI cZ) [.int p0, .int p1] (iX9_needWhat cI cZ) (iX9_needWhat cI cZ) sz := by
  refine q_metv (cc := cX9_needWhat) (maxL := 2) (by decide) rfl (Nat.le_of_ble_eq_true rfl) ?_
  intro p e s m args below meth c Q A H locs ls C hP hD hS hl hret
  obtain ⟨hx, hb, hml, hown, hts, hA, hK⟩ := C
  replace hl : lv_has ls 2 [(0, .int p0), (1, .int p1)] := hl
  unfold fX9_needWhat at hF
  refine lv_iload_n hx hb dX9_needWhat_0 rfl (lv_at hl 0 rfl) ?_
  refine lv_if_lt (tgt := 9) hx hb dX9_needWhat_1 (by decide) (fun hc => ?_) (fun hc => ?_)
  · replace hF := q_t hc hF
    cases hF
  · replace hF := q_f hc hF
    refine lv_iload_n hx hb dX9_needWhat_4 rfl (lv_at hl 0 rfl) ?_
    refine lv_iload_n hx hb dX9_needWhat_5 rfl (lv_at hl 1 rfl) ?_
    refine lv_icmp_le (tgt := 19) hx hb dX9_needWhat_6 (by decide) (fun hc => ?_) (fun hc => ?_)
    · replace hF := q_t hc hF
      exact hret H locs ls 19 _ dX9_needWhat_19 rfl hP hD hS
    · replace hF := q_f hc hF
      cases hF
abbrev rX9_at : Room := { frames := 2, cells := 0, slots := 0, locals := 43 }
theorem eX9_at_X9 : ∀ w ∈ u_ws RX9 TX9 11, w ∈ wsX9_at := by decide +kernel
theorem uX9_at : yX9_at.cls = RX9 ∧ yX9_at.cls ≠ "java/lang/invoke/MethodHandle" ∧ yX9_at.cls ≠ "java/lang/invoke/VarHandle" ∧ (parseMethodDescriptor yX9_at.desc).map (fun d => d.parameters.length) = some 2 := by decide +kernel
set_option maxHeartbeats 4000000 in
set_option maxRecDepth 100000 in
theorem tX9_at (l : Launch) (dC : Nat → ClassId) (dI : Nat → Nat → Nat) (cI cZ : ClassId) (aS : Nat → Nat) (aL : Nat → Nat) (aF : Nat → Nat) (aK : Nat → Nat) (sz : Nat) (M_told : Int32) (R_width : Nat → Int32) (L_layer : Nat → Int32) (L_layers : Int32) (C_x : Nat → Int32) (OL_layers : Int32) (OL_places : Nat → Int32) (p0 : Int32) (p1 : Int32) (res : Int32) (hF : fX9_at M_told R_width L_layer C_x OL_places p0 p1 = some res) : q_Mi l yX9_at wsX9_at rX9_at (dC, dI) (q_ty cI cZ) [.ref (aS 47), .int p0, .int p1] (iX9_at aS aL aF aK cI cZ M_told R_width L_layer L_layers C_x OL_layers OL_places) (iX9_at aS aL aF aK cI cZ M_told R_width L_layer L_layers C_x OL_layers OL_places) sz res := by
  refine q_meti (cc := cX9_at) (maxL := 4) (by decide) rfl (Nat.le_of_ble_eq_true rfl) ?_
  intro p e s m args below meth c Q A H locs ls C hP hD hS hl hret
  obtain ⟨hx, hb, hml, hown, hts, hA, hK⟩ := C
  replace hl : lv_has ls 4 [(0, .ref (aS 47)), (1, .int p0), (2, .int p1)] := hl
  have k0 := hts (.fieldLink RX9 81 "RouteLayout" "told" "Z") (by decide +kernel)
  have k1 := hts (.fieldLink RX9 12 "RouteLayout" "routes" "LRouteLayout$Routes;") (by decide +kernel)
  have k2 := hts (.fieldLink RX9 21 "RouteLayout" "levels" "LRouteLayout$Levels;") (by decide +kernel)
  have k3 := hts (.fieldLink RX9 71 "RouteLayout" "latest" "LRouteLayout$Order;") (by decide +kernel)
  have k4 := hts (.fieldLink RX9 55 "RouteLayout" "columns" "LRouteLayout$Columns;") (by decide +kernel)
  unfold fX9_at at hF
  refine lv_iload_n hx hb dX9_at_0 rfl (lv_at hl 1 rfl) ?_
  obtain ⟨⟨⟩, hcq1, hF⟩ := q_bd hF
  refine q_Sv (As := [.int p0]) (rest := []) ⟨hx, hb, hml, hown, hts⟩ hA hK hP hD hS (tX9_needBoxNumber l dC dI cI cZ H.size p0 () hcq1) (va_cwS 1 hts gX9_at_X9_needBoxNumber rfl rfl rfl uX9_needBoxNumber ⟨Nat.le_of_ble_eq_true rfl, Nat.le_of_ble_eq_true rfl⟩) [] [(false, 0), (false, 1), (false, 2), (false, 3), (false, 4), (false, 5), (false, 6), (false, 7), (false, 8)] (iX9_at aS aL aF aK cI cZ M_told R_width L_layer L_layers C_x OL_layers OL_places) rfl rfl rfl rfl rfl rfl hl.1 rfl (Nat.le_of_ble_eq_true rfl) dX9_at_1 ⟨Nat.zero_le _, Nat.zero_le _⟩ (fun H locs hP hD hS => ?_)
  refine lv_iload_n hx hb dX9_at_4 rfl (lv_at hl 2 rfl) ?_
  refine lv_iconst (v := 2) hx hb dX9_at_5 (by decide) ?_
  obtain ⟨⟨⟩, hcq2, hF⟩ := q_bd hF
  refine q_Sv (As := [.int p1, .int 2]) (rest := []) ⟨hx, hb, hml, hown, hts⟩ hA hK hP hD hS (tX9_needWhat l dC dI cI cZ H.size p1 2 () hcq2) (va_cwS 2 hts gX9_at_X9_needWhat rfl rfl rfl uX9_needWhat ⟨Nat.le_of_ble_eq_true rfl, Nat.le_of_ble_eq_true rfl⟩) [] [(false, 0), (false, 1), (false, 2), (false, 3), (false, 4), (false, 5), (false, 6), (false, 7), (false, 8)] (iX9_at aS aL aF aK cI cZ M_told R_width L_layer L_layers C_x OL_layers OL_places) rfl rfl rfl rfl rfl rfl hl.1 rfl (Nat.le_of_ble_eq_true rfl) dX9_at_6 ⟨Nat.zero_le _, Nat.zero_le _⟩ (fun H locs hP hD hS => ?_)
  refine lv_aload_n hx hb dX9_at_9 rfl (lv_at hl 0 rfl) ?_
  refine q_get (ci := 9) (C := RX9) (T := TX9) (N := 11) hx hb hts eX9_at_X9 hown hK hP 0 rfl rfl 10 (Nat.le_of_ble_eq_true rfl) k0 rfl rfl dX9_at_10 ?_
  refine lv_if_eq (tgt := 27) hx hb dX9_at_13 (by decide) (fun hc => ?_) (fun hc => ?_)
  · replace hF := q_t hc hF
    refine lv_iconst (v := (-1)) hx hb dX9_at_27 (by decide) ?_
    exact hret H locs ls 28 _ _ dX9_at_28 (Option.some.inj hF) rfl hP hD hS
  · replace hF := q_f hc hF
    refine lv_aload_n hx hb dX9_at_16 rfl (lv_at hl 0 rfl) ?_
    refine q_get (ci := 9) (C := RX9) (T := TX9) (N := 11) hx hb hts eX9_at_X9 hown hK hP 0 rfl rfl 0 (Nat.le_of_ble_eq_true rfl) k1 rfl rfl dX9_at_17 ?_
    refine lv_iload_n hx hb dX9_at_20 rfl (lv_at hl 1 rfl) ?_
    obtain ⟨q3, hcq3, hF⟩ := q_bd hF
    refine q_Vi (As := [.int p0]) (rest := []) ⟨hx, hb, hml, hown, hts⟩ hA hK hP hD hS (tX7_hasBox l dC dI cI cZ aS H.size R_width p0 q3 hcq3) (cwV 1 hts gX9_at_X7_hasBox rfl rfl rfl uX7_hasBox ⟨Nat.le_of_ble_eq_true rfl, Nat.le_of_ble_eq_true rfl⟩) [1, 2] [(false, 0), (true, 0), (true, 1), (false, 3), (false, 4), (false, 5), (false, 6), (false, 7), (false, 8)] (iX9_at aS aL aF aK cI cZ M_told R_width L_layer L_layers C_x OL_layers OL_places) rfl rfl rfl rfl rfl 7 0 rfl rfl rfl rfl hl.1 rfl (Nat.le_of_ble_eq_true rfl) dX9_at_21 ⟨Nat.zero_le _, Nat.zero_le _⟩ (fun H locs hP hD hS => ?_)
    refine lv_if_ne (tgt := 29) hx hb dX9_at_24 (by decide) (fun hc => ?_) (fun hc => ?_)
    · replace hF := q_f hc hF
      refine lv_aload_n hx hb dX9_at_29 rfl (lv_at hl 0 rfl) ?_
      refine q_get (ci := 9) (C := RX9) (T := TX9) (N := 11) hx hb hts eX9_at_X9 hown hK hP 0 rfl rfl 1 (Nat.le_of_ble_eq_true rfl) k2 rfl rfl dX9_at_30 ?_
      refine lv_iload_n hx hb dX9_at_33 rfl (lv_at hl 1 rfl) ?_
      obtain ⟨q4, hcq4, hF⟩ := q_bd hF
      refine q_Vi (As := [.int p0]) (rest := []) ⟨hx, hb, hml, hown, hts⟩ hA hK hP hD hS (tX3_layerOf l dC dI cI cZ aS H.size L_layer L_layers p0 q4 hcq4) (cwV 1 hts gX9_at_X3_layerOf rfl rfl rfl uX3_layerOf ⟨Nat.le_of_ble_eq_true rfl, Nat.le_of_ble_eq_true rfl⟩) [3, 4] [(false, 0), (false, 1), (false, 2), (true, 0), (true, 1), (false, 5), (false, 6), (false, 7), (false, 8)] (iX9_at aS aL aF aK cI cZ M_told R_width L_layer L_layers C_x OL_layers OL_places) rfl rfl rfl rfl rfl 3 0 rfl rfl rfl rfl hl.1 rfl (Nat.le_of_ble_eq_true rfl) dX9_at_34 ⟨Nat.zero_le _, Nat.zero_le _⟩ (fun H locs hP hD hS => ?_)
      refine lv_istore_n (lv' := [(3, .int q4), (0, .ref (aS 47)), (1, .int p0), (2, .int p1)]) hx hb dX9_at_37 rfl hl (by decide) rfl (fun ls hl => ?_)
      refine lv_iload_n hx hb dX9_at_38 rfl (lv_at hl 3 rfl) ?_
      by_cases hc5 : p1 = 0
      · replace hF := q_t hc5 hF
        refine lv_lookup (off := 25) (tgt := 64) hx hb dX9_at_39 (by decide) (by rw [hc5] <;> rfl) (by decide) ?_
        refine lv_iload_n hx hb dX9_at_64 rfl (lv_at hl 0 rfl) ?_
        exact hret H locs ls 65 _ _ dX9_at_65 (Option.some.inj hF) rfl hP hD hS
      · replace hF := q_f hc5 hF
        by_cases hc6 : p1 = 1
        · replace hF := q_t hc6 hF
          refine lv_lookup (off := 27) (tgt := 66) hx hb dX9_at_39 (by decide) (by rw [hc6] <;> rfl) (by decide) ?_
          refine lv_aload_n hx hb dX9_at_66 rfl (lv_at hl 1 rfl) ?_
          refine q_get (ci := 9) (C := RX9) (T := TX9) (N := 11) hx hb hts eX9_at_X9 hown hK hP 0 rfl rfl 7 (Nat.le_of_ble_eq_true rfl) k3 rfl rfl dX9_at_67 ?_
          refine lv_iload_n hx hb dX9_at_70 rfl (lv_at hl 0 rfl) ?_
          refine lv_iload_n hx hb dX9_at_71 rfl (lv_at hl 2 rfl) ?_
          obtain ⟨q7, hcq7, hF⟩ := q_bd hF
          refine q_Vi (As := [.int q4, .int p0]) (rest := []) ⟨hx, hb, hml, hown, hts⟩ hA hK hP hD hS (tX4_placeIn l dC dI cI cZ aL H.size OL_layers OL_places q4 p0 q7 hcq7) (cwV 2 hts gX9_at_X4_placeIn rfl rfl rfl uX4_placeIn ⟨Nat.le_of_ble_eq_true rfl, Nat.le_of_ble_eq_true rfl⟩) [7, 8] [(false, 0), (false, 1), (false, 2), (false, 3), (false, 4), (false, 5), (false, 6), (true, 0), (true, 1)] (iX9_at aS aL aF aK cI cZ M_told R_width L_layer L_layers C_x OL_layers OL_places) rfl rfl rfl rfl rfl 4 0 rfl rfl rfl rfl hl.1 rfl (Nat.le_of_ble_eq_true rfl) dX9_at_72 ⟨Nat.zero_le _, Nat.zero_le _⟩ (fun H locs hP hD hS => ?_)
          exact hret H locs ls 75 _ _ dX9_at_75 (Option.some.inj hF) rfl hP hD hS
        · replace hF := q_f hc6 hF
          refine lv_lookup (off := 37) (tgt := 76) hx hb dX9_at_39 (by decide) (by show Op.lookupswitch.offset [(0, 25), (1, 27)] _ _ = _; rw [lv_osw (a := 0) hc5 rfl, lv_osw (a := 1) hc6 rfl] <;> rfl) (by decide) ?_
          refine lv_aload_n hx hb dX9_at_76 rfl (lv_at hl 1 rfl) ?_
          refine q_get (ci := 9) (C := RX9) (T := TX9) (N := 11) hx hb hts eX9_at_X9 hown hK hP 0 rfl rfl 5 (Nat.le_of_ble_eq_true rfl) k4 rfl rfl dX9_at_77 ?_
          refine lv_iload_n hx hb dX9_at_80 rfl (lv_at hl 0 rfl) ?_
          refine lv_iload_n hx hb dX9_at_81 rfl (lv_at hl 2 rfl) ?_
          obtain ⟨q8, hcq8, hF⟩ := q_bd hF
          refine q_Vi (As := [.int q4, .int p0]) (rest := []) ⟨hx, hb, hml, hown, hts⟩ hA hK hP hD hS (tX1_leftOf l dC dI cI cZ aS H.size C_x q4 p0 q8 hcq8) (cwV 2 hts gX9_at_X1_leftOf rfl rfl rfl uX1_leftOf ⟨Nat.le_of_ble_eq_true rfl, Nat.le_of_ble_eq_true rfl⟩) [5, 6] [(false, 0), (false, 1), (false, 2), (false, 3), (false, 4), (true, 0), (true, 1), (false, 7), (false, 8)] (iX9_at aS aL aF aK cI cZ M_told R_width L_layer L_layers C_x OL_layers OL_places) rfl rfl rfl rfl rfl 1 0 rfl rfl rfl rfl hl.1 rfl (Nat.le_of_ble_eq_true rfl) dX9_at_82 ⟨Nat.zero_le _, Nat.zero_le _⟩ (fun H locs hP hD hS => ?_)
          exact hret H locs ls 85 _ _ dX9_at_85 (Option.some.inj hF) rfl hP hD hS
    · replace hF := q_t hc hF
      refine lv_iconst (v := (-1)) hx hb dX9_at_27 (by decide) ?_
      exact hret H locs ls 28 _ _ dX9_at_28 (Option.some.inj hF) rfl hP hD hS
abbrev rX9_between : Room := { frames := 2, cells := 0, slots := 0, locals := 67 }
theorem eX9_between_X9 : ∀ w ∈ u_ws RX9 TX9 11, w ∈ wsX9_between := by decide +kernel
theorem uX9_between : yX9_between.cls = RX9 ∧ yX9_between.cls ≠ "java/lang/invoke/MethodHandle" ∧ yX9_between.cls ≠ "java/lang/invoke/VarHandle" ∧ (parseMethodDescriptor yX9_between.desc).map (fun d => d.parameters.length) = some 2 := by decide +kernel
set_option maxHeartbeats 4000000 in
set_option maxRecDepth 100000 in
theorem tX9_between (l : Launch) (dC : Nat → ClassId) (dI : Nat → Nat → Nat) (cI cZ : ClassId) (aS : Nat → Nat) (aL : Nat → Nat) (aF : Nat → Nat) (aK : Nat → Nat) (sz : Nat) (M_told : Int32) (L_layers : Int32) (P_size : Nat → Int32) (P_uppers : Nat → Int32) (P_lowers : Nat → Int32) (X_upper : Nat → Int32) (X_lower : Nat → Int32) (T_used : Nat → Int32) (OL_layers : Int32) (OL_places : Nat → Int32) (p0 : Int32) (p1 : Int32) (res : Int32 × (Nat → Int32) × (Nat → Int32)) (hF : fX9_between M_told L_layers P_size P_uppers P_lowers X_upper X_lower T_used OL_places p0 p1 = some res) : q_Mi l yX9_between wsX9_between rX9_between (dC, dI) (q_ty cI cZ) [.ref (aS 47), .int p0, .int p1] (iX9_between aS aL aF aK cI cZ M_told L_layers P_size P_uppers P_lowers X_upper X_lower T_used OL_layers OL_places) (iX9_between aS aL aF aK cI cZ M_told L_layers P_size P_uppers P_lowers res.2.1 res.2.2 T_used OL_layers OL_places) sz res.1 := by
  refine q_meti (cc := cX9_between) (maxL := 3) (by decide) rfl (Nat.le_of_ble_eq_true rfl) ?_
  intro p e s m args below meth c Q A H locs ls C hP hD hS hl hret
  obtain ⟨hx, hb, hml, hown, hts, hA, hK⟩ := C
  replace hl : lv_has ls 3 [(0, .ref (aS 47)), (1, .int p0), (2, .int p1)] := hl
  have k0 := hts (.fieldLink RX9 81 "RouteLayout" "told" "Z") (by decide +kernel)
  have k1 := hts (.fieldLink RX9 21 "RouteLayout" "levels" "LRouteLayout$Levels;") (by decide +kernel)
  have k2 := hts (.fieldLink RX9 64 "RouteLayout" "tracks" "LRouteLayout$Tracks;") (by decide +kernel)
  have k3 := hts (.fieldLink RX9 37 "RouteLayout" "crossings" "LRouteLayout$Crossings;") (by decide +kernel)
  have k4 := hts (.fieldLink RX9 71 "RouteLayout" "latest" "LRouteLayout$Order;") (by decide +kernel)
  unfold fX9_between at hF
  refine lv_iload_n hx hb dX9_between_0 rfl (lv_at hl 2 rfl) ?_
  refine lv_iconst (v := 1) hx hb dX9_between_1 (by decide) ?_
  obtain ⟨⟨⟩, hcq1, hF⟩ := q_bd hF
  refine q_Sv (As := [.int p1, .int 1]) (rest := []) ⟨hx, hb, hml, hown, hts⟩ hA hK hP hD hS (tX9_needWhat l dC dI cI cZ H.size p1 1 () hcq1) (va_cwS 2 hts gX9_between_X9_needWhat rfl rfl rfl uX9_needWhat ⟨Nat.le_of_ble_eq_true rfl, Nat.le_of_ble_eq_true rfl⟩) [] [(false, 0), (false, 1), (false, 2), (false, 3), (false, 4), (false, 5), (false, 6), (false, 7), (false, 8), (false, 9), (false, 10), (false, 11), (false, 12)] (iX9_between aS aL aF aK cI cZ M_told L_layers P_size P_uppers P_lowers X_upper X_lower T_used OL_layers OL_places) rfl rfl rfl rfl rfl rfl hl.1 rfl (Nat.le_of_ble_eq_true rfl) dX9_between_2 ⟨Nat.zero_le _, Nat.zero_le _⟩ (fun H locs hP hD hS => ?_)
  refine lv_aload_n hx hb dX9_between_5 rfl (lv_at hl 0 rfl) ?_
  refine q_get (ci := 9) (C := RX9) (T := TX9) (N := 11) hx hb hts eX9_between_X9 hown hK hP 0 rfl rfl 10 (Nat.le_of_ble_eq_true rfl) k0 rfl rfl dX9_between_6 ?_
  refine lv_if_eq (tgt := 29) hx hb dX9_between_9 (by decide) (fun hc => ?_) (fun hc => ?_)
  · replace hF := q_t hc hF
    refine lv_iconst (v := (-1)) hx hb dX9_between_29 (by decide) ?_
    exact hret H locs ls 30 _ _ dX9_between_30 (congrArg Prod.fst (Option.some.inj hF)) (congrArg (fun z : Int32 × (Nat → Int32) × (Nat → Int32) => (iX9_between aS aL aF aK cI cZ M_told L_layers P_size P_uppers P_lowers z.2.1 z.2.2 T_used OL_layers OL_places)) (Option.some.inj hF)) hP hD hS
  · replace hF := q_f hc hF
    refine lv_iload_n hx hb dX9_between_12 rfl (lv_at hl 1 rfl) ?_
    refine lv_if_lt (tgt := 29) hx hb dX9_between_13 (by decide) (fun hc => ?_) (fun hc => ?_)
    · replace hF := q_t hc hF
      refine lv_iconst (v := (-1)) hx hb dX9_between_29 (by decide) ?_
      exact hret H locs ls 30 _ _ dX9_between_30 (congrArg Prod.fst (Option.some.inj hF)) (congrArg (fun z : Int32 × (Nat → Int32) × (Nat → Int32) => (iX9_between aS aL aF aK cI cZ M_told L_layers P_size P_uppers P_lowers z.2.1 z.2.2 T_used OL_layers OL_places)) (Option.some.inj hF)) hP hD hS
    · replace hF := q_f hc hF
      refine lv_iload_n hx hb dX9_between_16 rfl (lv_at hl 1 rfl) ?_
      refine lv_aload_n hx hb dX9_between_17 rfl (lv_at hl 0 rfl) ?_
      refine q_get (ci := 9) (C := RX9) (T := TX9) (N := 11) hx hb hts eX9_between_X9 hown hK hP 0 rfl rfl 1 (Nat.le_of_ble_eq_true rfl) k1 rfl rfl dX9_between_18 ?_
      obtain ⟨q2, hcq2, hF⟩ := q_bd hF
      refine q_Vi (As := []) (rest := [.int p0]) ⟨hx, hb, hml, hown, hts⟩ hA hK hP hD hS (tX3_layers l dC dI cI cZ aS H.size L_layers q2 hcq2) (cwV 0 hts gX9_between_X3_layers rfl rfl rfl uX3_layers ⟨Nat.le_of_ble_eq_true rfl, Nat.le_of_ble_eq_true rfl⟩) [1] [(false, 0), (true, 0), (false, 2), (false, 3), (false, 4), (false, 5), (false, 6), (false, 7), (false, 8), (false, 9), (false, 10), (false, 11), (false, 12)] (iX9_between aS aL aF aK cI cZ M_told L_layers P_size P_uppers P_lowers X_upper X_lower T_used OL_layers OL_places) rfl rfl rfl rfl rfl 3 0 rfl rfl rfl rfl hl.1 rfl (Nat.le_of_ble_eq_true rfl) dX9_between_21 ⟨Nat.zero_le _, Nat.zero_le _⟩ (fun H locs hP hD hS => ?_)
      refine lv_iconst (v := 1) hx hb dX9_between_24 (by decide) ?_
      refine lv_isub hx hb dX9_between_25 ?_
      refine lv_icmp_lt (tgt := 31) hx hb dX9_between_26 (by decide) (fun hc => ?_) (fun hc => ?_)
      · replace hF := q_t hc hF
        refine lv_iload_n hx hb dX9_between_31 rfl (lv_at hl 2 rfl) ?_
        refine lv_if_ne (tgt := 50) hx hb dX9_between_32 (by decide) (fun hc => ?_) (fun hc => ?_)
        · replace hF := q_f hc hF
          refine lv_aload_n hx hb dX9_between_50 rfl (lv_at hl 0 rfl) ?_
          refine q_get (ci := 9) (C := RX9) (T := TX9) (N := 11) hx hb hts eX9_between_X9 hown hK hP 0 rfl rfl 6 (Nat.le_of_ble_eq_true rfl) k2 rfl rfl dX9_between_51 ?_
          refine lv_iload_n hx hb dX9_between_54 rfl (lv_at hl 1 rfl) ?_
          obtain ⟨q3, hcq3, hF⟩ := q_bd hF
          refine q_Vi (As := [.int p0]) (rest := []) ⟨hx, hb, hml, hown, hts⟩ hA hK hP hD hS (tX8_tracksIn l dC dI cI cZ aS H.size T_used p0 q3 hcq3) (cwV 1 hts gX9_between_X8_tracksIn rfl rfl rfl uX8_tracksIn ⟨Nat.le_of_ble_eq_true rfl, Nat.le_of_ble_eq_true rfl⟩) [9, 10] [(false, 0), (false, 1), (false, 2), (false, 3), (false, 4), (false, 5), (false, 6), (false, 7), (false, 8), (true, 0), (true, 1), (false, 11), (false, 12)] (iX9_between aS aL aF aK cI cZ M_told L_layers P_size P_uppers P_lowers X_upper X_lower T_used OL_layers OL_places) rfl rfl rfl rfl rfl 8 0 rfl rfl rfl rfl hl.1 rfl (Nat.le_of_ble_eq_true rfl) dX9_between_55 ⟨Nat.zero_le _, Nat.zero_le _⟩ (fun H locs hP hD hS => ?_)
          exact hret H locs ls 58 _ _ dX9_between_58 (congrArg Prod.fst (Option.some.inj hF)) (congrArg (fun z : Int32 × (Nat → Int32) × (Nat → Int32) => (iX9_between aS aL aF aK cI cZ M_told L_layers P_size P_uppers P_lowers z.2.1 z.2.2 T_used OL_layers OL_places)) (Option.some.inj hF)) hP hD hS
        · replace hF := q_t hc hF
          refine lv_aload_n hx hb dX9_between_35 rfl (lv_at hl 0 rfl) ?_
          refine q_get (ci := 9) (C := RX9) (T := TX9) (N := 11) hx hb hts eX9_between_X9 hown hK hP 0 rfl rfl 3 (Nat.le_of_ble_eq_true rfl) k3 rfl rfl dX9_between_36 ?_
          refine lv_aload_n hx hb dX9_between_39 rfl (lv_at hl 0 rfl) ?_
          refine q_get (ci := 9) (C := RX9) (T := TX9) (N := 11) hx hb hts eX9_between_X9 hown hK hP 0 rfl rfl 7 (Nat.le_of_ble_eq_true rfl) k4 rfl rfl dX9_between_40 ?_
          refine lv_iload_n hx hb dX9_between_43 rfl (lv_at hl 1 rfl) ?_
          obtain ⟨q4_0, q4_1, q4_2, hcq4, hF⟩ := q_bd3 hF
          refine q_Vi (As := [.ref (aL 0), .int p0]) (rest := []) ⟨hx, hb, hml, hown, hts⟩ hA hK hP hD hS (tX2_inGap l dC dI cI cZ aS aL H.size P_size P_uppers P_lowers X_upper X_lower OL_layers OL_places p0 (q4_0, q4_1, q4_2) hcq4) (cwV 2 hts gX9_between_X2_inGap rfl rfl rfl uX2_inGap ⟨Nat.le_of_ble_eq_true rfl, Nat.le_of_ble_eq_true rfl⟩) [6, 2, 3, 4, 5, 7, 8, 11, 12] [(false, 0), (false, 1), (true, 1), (true, 2), (true, 3), (true, 4), (true, 0), (true, 5), (true, 6), (false, 9), (false, 10), (true, 7), (true, 8)] (iX9_between aS aL aF aK cI cZ M_told L_layers P_size P_uppers P_lowers q4_1 q4_2 T_used OL_layers OL_places) rfl rfl rfl rfl rfl 2 0 rfl rfl rfl rfl hl.1 rfl (Nat.le_of_ble_eq_true rfl) dX9_between_44 ⟨Nat.zero_le _, Nat.zero_le _⟩ (fun H locs hP hD hS => ?_)
          refine lv_goto (tgt := 58) hx hb dX9_between_47 (by decide) ?_
          exact hret H locs ls 58 _ _ dX9_between_58 (congrArg Prod.fst (Option.some.inj hF)) (congrArg (fun z : Int32 × (Nat → Int32) × (Nat → Int32) => (iX9_between aS aL aF aK cI cZ M_told L_layers P_size P_uppers P_lowers z.2.1 z.2.2 T_used OL_layers OL_places)) (Option.some.inj hF)) hP hD hS
      · replace hF := q_f hc hF
        refine lv_iconst (v := (-1)) hx hb dX9_between_29 (by decide) ?_
        exact hret H locs ls 30 _ _ dX9_between_30 (congrArg Prod.fst (Option.some.inj hF)) (congrArg (fun z : Int32 × (Nat → Int32) × (Nat → Int32) => (iX9_between aS aL aF aK cI cZ M_told L_layers P_size P_uppers P_lowers z.2.1 z.2.2 T_used OL_layers OL_places)) (Option.some.inj hF)) hP hD hS
abbrev rX9_box : Room := { frames := 1, cells := 0, slots := 0, locals := 22 }
theorem eX9_box_X9 : ∀ w ∈ u_ws RX9 TX9 11, w ∈ wsX9_box := by decide +kernel
theorem uX9_box : yX9_box.cls = RX9 ∧ yX9_box.cls ≠ "java/lang/invoke/MethodHandle" ∧ yX9_box.cls ≠ "java/lang/invoke/VarHandle" ∧ (parseMethodDescriptor yX9_box.desc).map (fun d => d.parameters.length) = some 2 := by decide +kernel
set_option maxHeartbeats 4000000 in
set_option maxRecDepth 100000 in
theorem tX9_box (l : Launch) (dC : Nat → ClassId) (dI : Nat → Nat → Nat) (cI cZ : ClassId) (aS : Nat → Nat) (aL : Nat → Nat) (aF : Nat → Nat) (aK : Nat → Nat) (sz : Nat) (M_told : Int32) (R_width : Nat → Int32) (p0 : Int32) (p1 : Int32) (res : Int32 × (Nat → Int32)) (hF : fX9_box R_width p0 p1 = some res) : q_Mv l yX9_box wsX9_box rX9_box (dC, dI) (q_ty cI cZ) [.ref (aS 47), .int p0, .int p1] (iX9_box aS aL aF aK cI cZ M_told R_width) (iX9_box aS aL aF aK cI cZ res.1 res.2) sz := by
  refine q_metv (cc := cX9_box) (maxL := 3) (by decide) rfl (Nat.le_of_ble_eq_true rfl) ?_
  intro p e s m args below meth c Q A H locs ls C hP hD hS hl hret
  obtain ⟨hx, hb, hml, hown, hts, hA, hK⟩ := C
  replace hl : lv_has ls 3 [(0, .ref (aS 47)), (1, .int p0), (2, .int p1)] := hl
  have k0 := hts (.fieldLink RX9 12 "RouteLayout" "routes" "LRouteLayout$Routes;") (by decide +kernel)
  have k1 := hts (.fieldLink RX9 81 "RouteLayout" "told" "Z") (by decide +kernel)
  unfold fX9_box at hF
  refine lv_iload_n hx hb dX9_box_0 rfl (lv_at hl 1 rfl) ?_
  obtain ⟨⟨⟩, hcq1, hF⟩ := q_bd hF
  refine q_Sv (As := [.int p0]) (rest := []) ⟨hx, hb, hml, hown, hts⟩ hA hK hP hD hS (tX9_needBoxNumber l dC dI cI cZ H.size p0 () hcq1) (va_cwS 1 hts gX9_box_X9_needBoxNumber rfl rfl rfl uX9_needBoxNumber ⟨Nat.le_of_ble_eq_true rfl, Nat.le_of_ble_eq_true rfl⟩) [] [(false, 0), (false, 1), (false, 2)] (iX9_box aS aL aF aK cI cZ M_told R_width) rfl rfl rfl rfl rfl rfl hl.1 rfl (Nat.le_of_ble_eq_true rfl) dX9_box_1 ⟨Nat.zero_le _, Nat.zero_le _⟩ (fun H locs hP hD hS => ?_)
  refine lv_iload_n hx hb dX9_box_4 rfl (lv_at hl 2 rfl) ?_
  refine lv_iconst (v := 1) hx hb dX9_box_5 (by decide) ?_
  refine lv_icmp_lt (tgt := 15) hx hb dX9_box_6 (by decide) (fun hc => ?_) (fun hc => ?_)
  · replace hF := q_t hc hF
    cases hF
  · replace hF := q_f hc hF
    refine lv_iload_n hx hb dX9_box_9 rfl (lv_at hl 2 rfl) ?_
    refine lv_bipush (v := 50) hx hb dX9_box_10 (by decide) ?_
    refine lv_icmp_le (tgt := 25) hx hb dX9_box_12 (by decide) (fun hc => ?_) (fun hc => ?_)
    · replace hF := q_t hc hF
      refine lv_aload_n hx hb dX9_box_25 rfl (lv_at hl 0 rfl) ?_
      refine q_get (ci := 9) (C := RX9) (T := TX9) (N := 11) hx hb hts eX9_box_X9 hown hK hP 0 rfl rfl 0 (Nat.le_of_ble_eq_true rfl) k0 rfl rfl dX9_box_26 ?_
      refine lv_iload_n hx hb dX9_box_29 rfl (lv_at hl 1 rfl) ?_
      refine lv_iload_n hx hb dX9_box_30 rfl (lv_at hl 2 rfl) ?_
      obtain ⟨q2, hcq2, hF⟩ := q_bd hF
      refine q_Vv (As := [.int p0, .int p1]) (rest := []) ⟨hx, hb, hml, hown, hts⟩ hA hK hP hD hS (tX7_putBox l dC dI cI cZ aS H.size R_width p0 p1 q2 hcq2) (cwV 2 hts gX9_box_X7_putBox rfl rfl rfl uX7_putBox ⟨Nat.le_of_ble_eq_true rfl, Nat.le_of_ble_eq_true rfl⟩) [1, 2] [(false, 0), (true, 0), (true, 1)] (iX9_box aS aL aF aK cI cZ M_told q2) rfl rfl rfl rfl rfl 7 0 rfl rfl rfl rfl hl.1 rfl (Nat.le_of_ble_eq_true rfl) dX9_box_31 ⟨Nat.zero_le _, Nat.zero_le _⟩ (fun H locs hP hD hS => ?_)
      refine lv_aload_n hx hb dX9_box_34 rfl (lv_at hl 0 rfl) ?_
      refine lv_iconst (v := 0) hx hb dX9_box_35 (by decide) ?_
      refine q_put (ci := 9) (C := RX9) (T := TX9) (N := 11) (ty := .boolean) hx hb hts eX9_box_X9 tyX9 tyX9_ok nmX9 hown hK hP hD hS 0 (iX9_box aS aL aF aK cI cZ 0 q2) rfl rfl 10 (Nat.le_of_ble_eq_true rfl) k1 rfl rfl (by decide +kernel) (q_narz (Or.inl rfl)) rfl (Nat.le_of_ble_eq_true rfl) rfl dX9_box_36 (fun H locs hP hD hS => ?_)
      exact hret H locs ls 39 _ dX9_box_39 (congrArg (fun z : Int32 × (Nat → Int32) => (iX9_box aS aL aF aK cI cZ z.1 z.2)) (Option.some.inj hF)) hP hD hS
    · replace hF := q_f hc hF
      cases hF
abbrev rX9_toldSum : Room := { frames := 4, cells := 0, slots := 0, locals := 90 }
theorem eX9_toldSum_X9 : ∀ w ∈ u_ws RX9 TX9 11, w ∈ wsX9_toldSum := by decide +kernel
theorem uX9_toldSum : yX9_toldSum.cls = RX9 ∧ yX9_toldSum.cls ≠ "java/lang/invoke/MethodHandle" ∧ yX9_toldSum.cls ≠ "java/lang/invoke/VarHandle" ∧ (parseMethodDescriptor yX9_toldSum.desc).map (fun d => d.parameters.length) = some 1 := by decide +kernel
set_option maxHeartbeats 4000000 in
set_option maxRecDepth 100000 in
theorem tX9_toldSum (l : Launch) (dC : Nat → ClassId) (dI : Nat → Nat → Nat) (cI cZ : ClassId) (aS : Nat → Nat) (aL : Nat → Nat) (aF : Nat → Nat) (aK : Nat → Nat) (sz : Nat) (M_told : Int32) (R_width : Nat → Int32) (L_layers : Int32) (P_size : Nat → Int32) (P_uppers : Nat → Int32) (P_lowers : Nat → Int32) (X_upper : Nat → Int32) (X_lower : Nat → Int32) (C_x : Nat → Int32) (T_used : Nat → Int32) (OL_layers : Int32) (OL_size : Nat → Int32) (OL_rows : Nat → Int32) (OL_places : Nat → Int32) (p0 : Int32) (res : Int32 × (Nat → Int32) × (Nat → Int32)) (hF : fX9_toldSum R_width L_layers P_size P_uppers P_lowers X_upper X_lower C_x T_used OL_layers OL_size OL_rows OL_places p0 = some res) : q_Mi l yX9_toldSum wsX9_toldSum rX9_toldSum (dC, dI) (q_ty cI cZ) [.ref (aS 47), .int p0] (iX9_toldSum aS aL aF aK cI cZ M_told R_width L_layers P_size P_uppers P_lowers X_upper X_lower C_x T_used OL_layers OL_size OL_rows OL_places) (iX9_toldSum aS aL aF aK cI cZ M_told R_width L_layers P_size P_uppers P_lowers res.2.1 res.2.2 C_x T_used OL_layers OL_size OL_rows OL_places) sz res.1 := by
  refine q_meti (cc := cX9_toldSum) (maxL := 2) (by decide) rfl (Nat.le_of_ble_eq_true rfl) ?_
  intro p e s m args below meth c Q A H locs ls C hP hD hS hl hret
  obtain ⟨hx, hb, hml, hown, hts, hA, hK⟩ := C
  replace hl : lv_has ls 2 [(0, .ref (aS 47)), (1, .int p0)] := hl
  have k0 := hts (.fieldLink RX9 21 "RouteLayout" "levels" "LRouteLayout$Levels;") (by decide +kernel)
  have k1 := hts (.fieldLink RX9 71 "RouteLayout" "latest" "LRouteLayout$Order;") (by decide +kernel)
  have k2 := hts (.fieldLink RX9 37 "RouteLayout" "crossings" "LRouteLayout$Crossings;") (by decide +kernel)
  have k3 := hts (.fieldLink RX9 55 "RouteLayout" "columns" "LRouteLayout$Columns;") (by decide +kernel)
  have k4 := hts (.fieldLink RX9 64 "RouteLayout" "tracks" "LRouteLayout$Tracks;") (by decide +kernel)
  unfold fX9_toldSum at hF
  refine lv_iload_n hx hb dX9_toldSum_0 rfl (lv_at hl 1 rfl) ?_
  by_cases hc1 : p0 = 3
  · replace hF := q_t hc1 hF
    refine lv_tableIn (tgt := 36) hx hb dX9_toldSum_1 (by rw [hc1] <;> decide) (by rw [hc1] <;> decide) (by rw [hc1] <;> rfl) (by decide) ?_
    refine lv_aload_n hx hb dX9_toldSum_36 rfl (lv_at hl 0 rfl) ?_
    refine q_get (ci := 9) (C := RX9) (T := TX9) (N := 11) hx hb hts eX9_toldSum_X9 hown hK hP 0 rfl rfl 1 (Nat.le_of_ble_eq_true rfl) k0 rfl rfl dX9_toldSum_37 ?_
    obtain ⟨q2, hcq2, hF⟩ := q_bd hF
    refine q_Vi (As := []) (rest := []) ⟨hx, hb, hml, hown, hts⟩ hA hK hP hD hS (tX3_layers l dC dI cI cZ aS H.size L_layers q2 hcq2) (cwV 0 hts gX9_toldSum_X3_layers rfl rfl rfl uX3_layers ⟨Nat.le_of_ble_eq_true rfl, Nat.le_of_ble_eq_true rfl⟩) [3] [(false, 0), (false, 1), (false, 2), (true, 0), (false, 4), (false, 5), (false, 6), (false, 7), (false, 8), (false, 9), (false, 10), (false, 11), (false, 12), (false, 13), (false, 14), (false, 15), (false, 16), (false, 17), (false, 18)] (iX9_toldSum aS aL aF aK cI cZ M_told R_width L_layers P_size P_uppers P_lowers X_upper X_lower C_x T_used OL_layers OL_size OL_rows OL_places) rfl rfl rfl rfl rfl 3 0 rfl rfl rfl rfl hl.1 rfl (Nat.le_of_ble_eq_true rfl) dX9_toldSum_40 ⟨Nat.zero_le _, Nat.zero_le _⟩ (fun H locs hP hD hS => ?_)
    exact hret H locs ls 43 _ _ dX9_toldSum_43 (congrArg Prod.fst (Option.some.inj hF)) (congrArg (fun z : Int32 × (Nat → Int32) × (Nat → Int32) => (iX9_toldSum aS aL aF aK cI cZ M_told R_width L_layers P_size P_uppers P_lowers z.2.1 z.2.2 C_x T_used OL_layers OL_size OL_rows OL_places)) (Option.some.inj hF)) hP hD hS
  · replace hF := q_f hc1 hF
    by_cases hc3 : p0 = 4
    · replace hF := q_t hc3 hF
      refine lv_tableIn (tgt := 44) hx hb dX9_toldSum_1 (by rw [hc3] <;> decide) (by rw [hc3] <;> decide) (by rw [hc3] <;> rfl) (by decide) ?_
      refine lv_aload_n hx hb dX9_toldSum_44 rfl (lv_at hl 0 rfl) ?_
      refine q_get (ci := 9) (C := RX9) (T := TX9) (N := 11) hx hb hts eX9_toldSum_X9 hown hK hP 0 rfl rfl 7 (Nat.le_of_ble_eq_true rfl) k1 rfl rfl dX9_toldSum_45 ?_
      obtain ⟨q4, hcq4, hF⟩ := q_bd hF
      refine q_Vi (As := []) (rest := []) ⟨hx, hb, hml, hown, hts⟩ hA hK hP hD hS (tX4_items l dC dI cI cZ aL H.size OL_layers OL_size q4 hcq4) (cwV 0 hts gX9_toldSum_X4_items rfl rfl rfl uX4_items ⟨Nat.le_of_ble_eq_true rfl, Nat.le_of_ble_eq_true rfl⟩) [15, 16] [(false, 0), (false, 1), (false, 2), (false, 3), (false, 4), (false, 5), (false, 6), (false, 7), (false, 8), (false, 9), (false, 10), (false, 11), (false, 12), (false, 13), (false, 14), (true, 0), (true, 1), (false, 17), (false, 18)] (iX9_toldSum aS aL aF aK cI cZ M_told R_width L_layers P_size P_uppers P_lowers X_upper X_lower C_x T_used OL_layers OL_size OL_rows OL_places) rfl rfl rfl rfl rfl 4 0 rfl rfl rfl rfl hl.1 rfl (Nat.le_of_ble_eq_true rfl) dX9_toldSum_48 ⟨Nat.zero_le _, Nat.zero_le _⟩ (fun H locs hP hD hS => ?_)
      exact hret H locs ls 51 _ _ dX9_toldSum_51 (congrArg Prod.fst (Option.some.inj hF)) (congrArg (fun z : Int32 × (Nat → Int32) × (Nat → Int32) => (iX9_toldSum aS aL aF aK cI cZ M_told R_width L_layers P_size P_uppers P_lowers z.2.1 z.2.2 C_x T_used OL_layers OL_size OL_rows OL_places)) (Option.some.inj hF)) hP hD hS
    · replace hF := q_f hc3 hF
      by_cases hc5 : p0 = 5
      · replace hF := q_t hc5 hF
        refine lv_tableIn (tgt := 52) hx hb dX9_toldSum_1 (by rw [hc5] <;> decide) (by rw [hc5] <;> decide) (by rw [hc5] <;> rfl) (by decide) ?_
        refine lv_aload_n hx hb dX9_toldSum_52 rfl (lv_at hl 0 rfl) ?_
        refine q_get (ci := 9) (C := RX9) (T := TX9) (N := 11) hx hb hts eX9_toldSum_X9 hown hK hP 0 rfl rfl 3 (Nat.le_of_ble_eq_true rfl) k2 rfl rfl dX9_toldSum_53 ?_
        refine lv_aload_n hx hb dX9_toldSum_56 rfl (lv_at hl 0 rfl) ?_
        refine q_get (ci := 9) (C := RX9) (T := TX9) (N := 11) hx hb hts eX9_toldSum_X9 hown hK hP 0 rfl rfl 7 (Nat.le_of_ble_eq_true rfl) k1 rfl rfl dX9_toldSum_57 ?_
        obtain ⟨q6_0, q6_1, q6_2, hcq6, hF⟩ := q_bd3 hF
        refine q_Vi (As := [.ref (aL 0)]) (rest := []) ⟨hx, hb, hml, hown, hts⟩ hA hK hP hD hS (tX2_inAll l dC dI cI cZ aS aL H.size P_size P_uppers P_lowers X_upper X_lower OL_layers OL_places (q6_0, q6_1, q6_2) hcq6) (cwV 1 hts gX9_toldSum_X2_inAll rfl rfl rfl uX2_inAll ⟨Nat.le_of_ble_eq_true rfl, Nat.le_of_ble_eq_true rfl⟩) [8, 4, 5, 6, 7, 9, 10, 15, 18] [(false, 0), (false, 1), (false, 2), (false, 3), (true, 1), (true, 2), (true, 3), (true, 4), (true, 0), (true, 5), (true, 6), (false, 11), (false, 12), (false, 13), (false, 14), (true, 7), (false, 16), (false, 17), (true, 8)] (iX9_toldSum aS aL aF aK cI cZ M_told R_width L_layers P_size P_uppers P_lowers q6_1 q6_2 C_x T_used OL_layers OL_size OL_rows OL_places) rfl rfl rfl rfl rfl 2 0 rfl rfl rfl rfl hl.1 rfl (Nat.le_of_ble_eq_true rfl) dX9_toldSum_60 ⟨Nat.zero_le _, Nat.zero_le _⟩ (fun H locs hP hD hS => ?_)
        exact hret H locs ls 63 _ _ dX9_toldSum_63 (congrArg Prod.fst (Option.some.inj hF)) (congrArg (fun z : Int32 × (Nat → Int32) × (Nat → Int32) => (iX9_toldSum aS aL aF aK cI cZ M_told R_width L_layers P_size P_uppers P_lowers z.2.1 z.2.2 C_x T_used OL_layers OL_size OL_rows OL_places)) (Option.some.inj hF)) hP hD hS
      · replace hF := q_f hc5 hF
        by_cases hc7 : p0 = 6
        · replace hF := q_t hc7 hF
          refine lv_tableIn (tgt := 64) hx hb dX9_toldSum_1 (by rw [hc7] <;> decide) (by rw [hc7] <;> decide) (by rw [hc7] <;> rfl) (by decide) ?_
          refine lv_aload_n hx hb dX9_toldSum_64 rfl (lv_at hl 0 rfl) ?_
          refine q_get (ci := 9) (C := RX9) (T := TX9) (N := 11) hx hb hts eX9_toldSum_X9 hown hK hP 0 rfl rfl 5 (Nat.le_of_ble_eq_true rfl) k3 rfl rfl dX9_toldSum_65 ?_
          refine lv_aload_n hx hb dX9_toldSum_68 rfl (lv_at hl 0 rfl) ?_
          refine q_get (ci := 9) (C := RX9) (T := TX9) (N := 11) hx hb hts eX9_toldSum_X9 hown hK hP 0 rfl rfl 7 (Nat.le_of_ble_eq_true rfl) k1 rfl rfl dX9_toldSum_69 ?_
          obtain ⟨q8, hcq8, hF⟩ := q_bd hF
          refine q_Vi (As := [.ref (aL 0)]) (rest := []) ⟨hx, hb, hml, hown, hts⟩ hA hK hP hD hS (tX1_greatestEnd l dC dI cI cZ aS aL H.size R_width C_x OL_layers OL_size OL_rows q8 hcq8) (cwV 1 hts gX9_toldSum_X1_greatestEnd rfl rfl rfl uX1_greatestEnd ⟨Nat.le_of_ble_eq_true rfl, Nat.le_of_ble_eq_true rfl⟩) [11, 1, 2, 12, 15, 16, 17] [(false, 0), (true, 1), (true, 2), (false, 3), (false, 4), (false, 5), (false, 6), (false, 7), (false, 8), (false, 9), (false, 10), (true, 0), (true, 3), (false, 13), (false, 14), (true, 4), (true, 5), (true, 6), (false, 18)] (iX9_toldSum aS aL aF aK cI cZ M_told R_width L_layers P_size P_uppers P_lowers X_upper X_lower C_x T_used OL_layers OL_size OL_rows OL_places) rfl rfl rfl rfl rfl 1 0 rfl rfl rfl rfl hl.1 rfl (Nat.le_of_ble_eq_true rfl) dX9_toldSum_72 ⟨Nat.zero_le _, Nat.zero_le _⟩ (fun H locs hP hD hS => ?_)
          exact hret H locs ls 75 _ _ dX9_toldSum_75 (congrArg Prod.fst (Option.some.inj hF)) (congrArg (fun z : Int32 × (Nat → Int32) × (Nat → Int32) => (iX9_toldSum aS aL aF aK cI cZ M_told R_width L_layers P_size P_uppers P_lowers z.2.1 z.2.2 C_x T_used OL_layers OL_size OL_rows OL_places)) (Option.some.inj hF)) hP hD hS
        · replace hF := q_f hc7 hF
          by_cases hc9 : p0 = 7
          · replace hF := q_t hc9 hF
            refine lv_tableIn (tgt := 76) hx hb dX9_toldSum_1 (by rw [hc9] <;> decide) (by rw [hc9] <;> decide) (by rw [hc9] <;> rfl) (by decide) ?_
            refine lv_aload_n hx hb dX9_toldSum_76 rfl (lv_at hl 0 rfl) ?_
            refine q_get (ci := 9) (C := RX9) (T := TX9) (N := 11) hx hb hts eX9_toldSum_X9 hown hK hP 0 rfl rfl 6 (Nat.le_of_ble_eq_true rfl) k4 rfl rfl dX9_toldSum_77 ?_
            obtain ⟨q10, hcq10, hF⟩ := q_bd hF
            refine q_Vi (As := []) (rest := []) ⟨hx, hb, hml, hown, hts⟩ hA hK hP hD hS (tX8_mostTracks l dC dI cI cZ aS H.size T_used q10 hcq10) (cwV 0 hts gX9_toldSum_X8_mostTracks rfl rfl rfl uX8_mostTracks ⟨Nat.le_of_ble_eq_true rfl, Nat.le_of_ble_eq_true rfl⟩) [13, 14] [(false, 0), (false, 1), (false, 2), (false, 3), (false, 4), (false, 5), (false, 6), (false, 7), (false, 8), (false, 9), (false, 10), (false, 11), (false, 12), (true, 0), (true, 1), (false, 15), (false, 16), (false, 17), (false, 18)] (iX9_toldSum aS aL aF aK cI cZ M_told R_width L_layers P_size P_uppers P_lowers X_upper X_lower C_x T_used OL_layers OL_size OL_rows OL_places) rfl rfl rfl rfl rfl 8 0 rfl rfl rfl rfl hl.1 rfl (Nat.le_of_ble_eq_true rfl) dX9_toldSum_80 ⟨Nat.zero_le _, Nat.zero_le _⟩ (fun H locs hP hD hS => ?_)
            exact hret H locs ls 83 _ _ dX9_toldSum_83 (congrArg Prod.fst (Option.some.inj hF)) (congrArg (fun z : Int32 × (Nat → Int32) × (Nat → Int32) => (iX9_toldSum aS aL aF aK cI cZ M_told R_width L_layers P_size P_uppers P_lowers z.2.1 z.2.2 C_x T_used OL_layers OL_size OL_rows OL_places)) (Option.some.inj hF)) hP hD hS
          · replace hF := q_f hc9 hF
            refine lv_tableOut (tgt := 84) hx hb dX9_toldSum_1 (by have h0 := lv_neT (a := 3) hc1 rfl; have h1 := lv_neT (a := 4) hc3 rfl; have h2 := lv_neT (a := 5) hc5 rfl; have h3 := lv_neT (a := 6) hc7 rfl; have h4 := lv_neT (a := 7) hc9 rfl; omega) (by decide) ?_
            refine lv_iconst (v := (-1)) hx hb dX9_toldSum_84 (by decide) ?_
            exact hret H locs ls 85 _ _ dX9_toldSum_85 (congrArg Prod.fst (Option.some.inj hF)) (congrArg (fun z : Int32 × (Nat → Int32) × (Nat → Int32) => (iX9_toldSum aS aL aF aK cI cZ M_told R_width L_layers P_size P_uppers P_lowers z.2.1 z.2.2 C_x T_used OL_layers OL_size OL_rows OL_places)) (Option.some.inj hF)) hP hD hS
abbrev rX9_count : Room := { frames := 5, cells := 0, slots := 0, locals := 111 }
theorem eX9_count_X9 : ∀ w ∈ u_ws RX9 TX9 11, w ∈ wsX9_count := by decide +kernel
theorem uX9_count : yX9_count.cls = RX9 ∧ yX9_count.cls ≠ "java/lang/invoke/MethodHandle" ∧ yX9_count.cls ≠ "java/lang/invoke/VarHandle" ∧ (parseMethodDescriptor yX9_count.desc).map (fun d => d.parameters.length) = some 1 := by decide +kernel
set_option maxHeartbeats 4000000 in
set_option maxRecDepth 100000 in
theorem tX9_count (l : Launch) (dC : Nat → ClassId) (dI : Nat → Nat → Nat) (cI cZ : ClassId) (aS : Nat → Nat) (aL : Nat → Nat) (aF : Nat → Nat) (aK : Nat → Nat) (sz : Nat) (M_told : Int32) (R_width : Nat → Int32) (R_from : Nat → Int32) (R_turned : Nat → Int32) (L_layers : Int32) (P_size : Nat → Int32) (P_uppers : Nat → Int32) (P_lowers : Nat → Int32) (X_upper : Nat → Int32) (X_lower : Nat → Int32) (C_x : Nat → Int32) (T_used : Nat → Int32) (OL_layers : Int32) (OL_size : Nat → Int32) (OL_rows : Nat → Int32) (OL_places : Nat → Int32) (p0 : Int32) (res : Int32 × (Nat → Int32) × (Nat → Int32)) (hF : fX9_count M_told R_width R_from R_turned L_layers P_size P_uppers P_lowers X_upper X_lower C_x T_used OL_layers OL_size OL_rows OL_places p0 = some res) : q_Mi l yX9_count wsX9_count rX9_count (dC, dI) (q_ty cI cZ) [.ref (aS 47), .int p0] (iX9_count aS aL aF aK cI cZ M_told R_width R_from R_turned L_layers P_size P_uppers P_lowers X_upper X_lower C_x T_used OL_layers OL_size OL_rows OL_places) (iX9_count aS aL aF aK cI cZ M_told R_width R_from R_turned L_layers P_size P_uppers P_lowers res.2.1 res.2.2 C_x T_used OL_layers OL_size OL_rows OL_places) sz res.1 := by
  refine q_meti (cc := cX9_count) (maxL := 2) (by decide) rfl (Nat.le_of_ble_eq_true rfl) ?_
  intro p e s m args below meth c Q A H locs ls C hP hD hS hl hret
  obtain ⟨hx, hb, hml, hown, hts, hA, hK⟩ := C
  replace hl : lv_has ls 2 [(0, .ref (aS 47)), (1, .int p0)] := hl
  have k0 := hts (.fieldLink RX9 12 "RouteLayout" "routes" "LRouteLayout$Routes;") (by decide +kernel)
  have k1 := hts (.fieldLink RX9 81 "RouteLayout" "told" "Z") (by decide +kernel)
  unfold fX9_count at hF
  refine lv_iload_n hx hb dX9_count_0 rfl (lv_at hl 1 rfl) ?_
  by_cases hc1 : p0 = 0
  · replace hF := q_t hc1 hF
    refine lv_tableIn (tgt := 28) hx hb dX9_count_1 (by rw [hc1] <;> decide) (by rw [hc1] <;> decide) (by rw [hc1] <;> rfl) (by decide) ?_
    refine lv_aload_n hx hb dX9_count_28 rfl (lv_at hl 0 rfl) ?_
    refine q_get (ci := 9) (C := RX9) (T := TX9) (N := 11) hx hb hts eX9_count_X9 hown hK hP 0 rfl rfl 0 (Nat.le_of_ble_eq_true rfl) k0 rfl rfl dX9_count_29 ?_
    obtain ⟨q2, hcq2, hF⟩ := q_bd hF
    refine q_Vi (As := []) (rest := []) ⟨hx, hb, hml, hown, hts⟩ hA hK hP hD hS (tX7_boxes l dC dI cI cZ aS H.size R_width q2 hcq2) (cwV 0 hts gX9_count_X7_boxes rfl rfl rfl uX7_boxes ⟨Nat.le_of_ble_eq_true rfl, Nat.le_of_ble_eq_true rfl⟩) [1, 2] [(false, 0), (true, 0), (true, 1), (false, 3), (false, 4), (false, 5), (false, 6), (false, 7), (false, 8), (false, 9), (false, 10), (false, 11), (false, 12), (false, 13), (false, 14), (false, 15), (false, 16), (false, 17), (false, 18), (false, 19), (false, 20)] (iX9_count aS aL aF aK cI cZ M_told R_width R_from R_turned L_layers P_size P_uppers P_lowers X_upper X_lower C_x T_used OL_layers OL_size OL_rows OL_places) rfl rfl rfl rfl rfl 7 0 rfl rfl rfl rfl hl.1 rfl (Nat.le_of_ble_eq_true rfl) dX9_count_32 ⟨Nat.zero_le _, Nat.zero_le _⟩ (fun H locs hP hD hS => ?_)
    exact hret H locs ls 35 _ _ dX9_count_35 (congrArg Prod.fst (Option.some.inj hF)) (congrArg (fun z : Int32 × (Nat → Int32) × (Nat → Int32) => (iX9_count aS aL aF aK cI cZ M_told R_width R_from R_turned L_layers P_size P_uppers P_lowers z.2.1 z.2.2 C_x T_used OL_layers OL_size OL_rows OL_places)) (Option.some.inj hF)) hP hD hS
  · replace hF := q_f hc1 hF
    by_cases hc3 : p0 = 1
    · replace hF := q_t hc3 hF
      refine lv_tableIn (tgt := 36) hx hb dX9_count_1 (by rw [hc3] <;> decide) (by rw [hc3] <;> decide) (by rw [hc3] <;> rfl) (by decide) ?_
      refine lv_aload_n hx hb dX9_count_36 rfl (lv_at hl 0 rfl) ?_
      refine q_get (ci := 9) (C := RX9) (T := TX9) (N := 11) hx hb hts eX9_count_X9 hown hK hP 0 rfl rfl 0 (Nat.le_of_ble_eq_true rfl) k0 rfl rfl dX9_count_37 ?_
      obtain ⟨q4, hcq4, hF⟩ := q_bd hF
      refine q_Vi (As := []) (rest := []) ⟨hx, hb, hml, hown, hts⟩ hA hK hP hD hS (tX7_arrows l dC dI cI cZ aS H.size R_from q4 hcq4) (cwV 0 hts gX9_count_X7_arrows rfl rfl rfl uX7_arrows ⟨Nat.le_of_ble_eq_true rfl, Nat.le_of_ble_eq_true rfl⟩) [1, 3] [(false, 0), (true, 0), (false, 2), (true, 1), (false, 4), (false, 5), (false, 6), (false, 7), (false, 8), (false, 9), (false, 10), (false, 11), (false, 12), (false, 13), (false, 14), (false, 15), (false, 16), (false, 17), (false, 18), (false, 19), (false, 20)] (iX9_count aS aL aF aK cI cZ M_told R_width R_from R_turned L_layers P_size P_uppers P_lowers X_upper X_lower C_x T_used OL_layers OL_size OL_rows OL_places) rfl rfl rfl rfl rfl 7 0 rfl rfl rfl rfl hl.1 rfl (Nat.le_of_ble_eq_true rfl) dX9_count_40 ⟨Nat.zero_le _, Nat.zero_le _⟩ (fun H locs hP hD hS => ?_)
      exact hret H locs ls 43 _ _ dX9_count_43 (congrArg Prod.fst (Option.some.inj hF)) (congrArg (fun z : Int32 × (Nat → Int32) × (Nat → Int32) => (iX9_count aS aL aF aK cI cZ M_told R_width R_from R_turned L_layers P_size P_uppers P_lowers z.2.1 z.2.2 C_x T_used OL_layers OL_size OL_rows OL_places)) (Option.some.inj hF)) hP hD hS
    · replace hF := q_f hc3 hF
      by_cases hc5 : p0 = 2
      · replace hF := q_t hc5 hF
        refine lv_tableIn (tgt := 44) hx hb dX9_count_1 (by rw [hc5] <;> decide) (by rw [hc5] <;> decide) (by rw [hc5] <;> rfl) (by decide) ?_
        refine lv_aload_n hx hb dX9_count_44 rfl (lv_at hl 0 rfl) ?_
        refine q_get (ci := 9) (C := RX9) (T := TX9) (N := 11) hx hb hts eX9_count_X9 hown hK hP 0 rfl rfl 0 (Nat.le_of_ble_eq_true rfl) k0 rfl rfl dX9_count_45 ?_
        obtain ⟨q6, hcq6, hF⟩ := q_bd hF
        refine q_Vi (As := []) (rest := []) ⟨hx, hb, hml, hown, hts⟩ hA hK hP hD hS (tX7_turnedArrows l dC dI cI cZ aS H.size R_from R_turned q6 hcq6) (cwV 0 hts gX9_count_X7_turnedArrows rfl rfl rfl uX7_turnedArrows ⟨Nat.le_of_ble_eq_true rfl, Nat.le_of_ble_eq_true rfl⟩) [1, 3, 4] [(false, 0), (true, 0), (false, 2), (true, 1), (true, 2), (false, 5), (false, 6), (false, 7), (false, 8), (false, 9), (false, 10), (false, 11), (false, 12), (false, 13), (false, 14), (false, 15), (false, 16), (false, 17), (false, 18), (false, 19), (false, 20)] (iX9_count aS aL aF aK cI cZ M_told R_width R_from R_turned L_layers P_size P_uppers P_lowers X_upper X_lower C_x T_used OL_layers OL_size OL_rows OL_places) rfl rfl rfl rfl rfl 7 0 rfl rfl rfl rfl hl.1 rfl (Nat.le_of_ble_eq_true rfl) dX9_count_48 ⟨Nat.zero_le _, Nat.zero_le _⟩ (fun H locs hP hD hS => ?_)
        exact hret H locs ls 51 _ _ dX9_count_51 (congrArg Prod.fst (Option.some.inj hF)) (congrArg (fun z : Int32 × (Nat → Int32) × (Nat → Int32) => (iX9_count aS aL aF aK cI cZ M_told R_width R_from R_turned L_layers P_size P_uppers P_lowers z.2.1 z.2.2 C_x T_used OL_layers OL_size OL_rows OL_places)) (Option.some.inj hF)) hP hD hS
      · replace hF := q_f hc5 hF
        refine lv_tableOut (tgt := 52) hx hb dX9_count_1 (by have h0 := lv_neT (a := 0) hc1 rfl; have h1 := lv_neT (a := 1) hc3 rfl; have h2 := lv_neT (a := 2) hc5 rfl; omega) (by decide) ?_
        refine lv_aload_n hx hb dX9_count_52 rfl (lv_at hl 0 rfl) ?_
        refine q_get (ci := 9) (C := RX9) (T := TX9) (N := 11) hx hb hts eX9_count_X9 hown hK hP 0 rfl rfl 10 (Nat.le_of_ble_eq_true rfl) k1 rfl rfl dX9_count_53 ?_
        refine lv_if_eq (tgt := 67) hx hb dX9_count_56 (by decide) (fun hc => ?_) (fun hc => ?_)
        · replace hF := q_t hc hF
          refine lv_iconst (v := (-1)) hx hb dX9_count_67 (by decide) ?_
          exact hret H locs ls 68 _ _ dX9_count_68 (congrArg Prod.fst (Option.some.inj hF)) (congrArg (fun z : Int32 × (Nat → Int32) × (Nat → Int32) => (iX9_count aS aL aF aK cI cZ M_told R_width R_from R_turned L_layers P_size P_uppers P_lowers z.2.1 z.2.2 C_x T_used OL_layers OL_size OL_rows OL_places)) (Option.some.inj hF)) hP hD hS
        · replace hF := q_f hc hF
          refine lv_aload_n hx hb dX9_count_59 rfl (lv_at hl 0 rfl) ?_
          refine lv_iload_n hx hb dX9_count_60 rfl (lv_at hl 1 rfl) ?_
          obtain ⟨q7_0, q7_1, q7_2, hcq7, hF⟩ := q_bd3 hF
          refine q_Vi (As := [.int p0]) (rest := []) ⟨hx, hb, hml, hown, hts⟩ hA hK hP hD hS (tX9_toldSum l dC dI cI cZ aS aL aF aK H.size M_told R_width L_layers P_size P_uppers P_lowers X_upper X_lower C_x T_used OL_layers OL_size OL_rows OL_places p0 (q7_0, q7_1, q7_2) hcq7) (cwV 1 hts gX9_count_X9_toldSum rfl rfl rfl uX9_toldSum ⟨Nat.le_of_ble_eq_true rfl, Nat.le_of_ble_eq_true rfl⟩) [0, 1, 2, 5, 6, 7, 8, 9, 10, 11, 12, 13, 14, 15, 16, 17, 18, 19, 20] [(true, 0), (true, 1), (true, 2), (false, 3), (false, 4), (true, 3), (true, 4), (true, 5), (true, 6), (true, 7), (true, 8), (true, 9), (true, 10), (true, 11), (true, 12), (true, 13), (true, 14), (true, 15), (true, 16), (true, 17), (true, 18)] (iX9_count aS aL aF aK cI cZ M_told R_width R_from R_turned L_layers P_size P_uppers P_lowers q7_1 q7_2 C_x T_used OL_layers OL_size OL_rows OL_places) rfl rfl rfl rfl rfl 9 0 rfl rfl rfl rfl hl.1 rfl (Nat.le_of_ble_eq_true rfl) dX9_count_61 ⟨Nat.zero_le _, Nat.zero_le _⟩ (fun H locs hP hD hS => ?_)
          refine lv_goto (tgt := 68) hx hb dX9_count_64 (by decide) ?_
          exact hret H locs ls 68 _ _ dX9_count_68 (congrArg Prod.fst (Option.some.inj hF)) (congrArg (fun z : Int32 × (Nat → Int32) × (Nat → Int32) => (iX9_count aS aL aF aK cI cZ M_told R_width R_from R_turned L_layers P_size P_uppers P_lowers z.2.1 z.2.2 C_x T_used OL_layers OL_size OL_rows OL_places)) (Option.some.inj hF)) hP hD hS
abbrev rX9_needRounds : Room := { frames := 0, cells := 0, slots := 0, locals := 0 }
theorem uX9_needRounds : yX9_needRounds.cls ≠ "java/lang/invoke/MethodHandle" ∧ yX9_needRounds.cls ≠ "java/lang/invoke/VarHandle" ∧ (parseMethodDescriptor yX9_needRounds.desc).map (fun d => d.parameters.length) = some 1 := by decide +kernel
set_option maxHeartbeats 4000000 in
set_option maxRecDepth 100000 in
theorem tX9_needRounds (l : Launch) (dC : Nat → ClassId) (dI : Nat → Nat → Nat) (cI cZ : ClassId) (sz : Nat) (p0 : Int32) (res : Unit) (hF : fX9_needRounds p0 = some res) : q_Mv l yX9_needRounds wsX9_needRounds rX9_needRounds (dC, dI) (q_ty cI cZ) [.int p0] (iX9_needRounds cI cZ) (iX9_needRounds cI cZ) sz := by
  refine q_metv (cc := cX9_needRounds) (maxL := 1) (by decide) rfl (Nat.le_of_ble_eq_true rfl) ?_
  intro p e s m args below meth c Q A H locs ls C hP hD hS hl hret
  obtain ⟨hx, hb, hml, hown, hts, hA, hK⟩ := C
  replace hl : lv_has ls 1 [(0, .int p0)] := hl
  unfold fX9_needRounds at hF
  refine lv_iload_n hx hb dX9_needRounds_0 rfl (lv_at hl 0 rfl) ?_
  refine lv_if_lt (tgt := 9) hx hb dX9_needRounds_1 (by decide) (fun hc => ?_) (fun hc => ?_)
  · replace hF := q_t hc hF
    cases hF
  · replace hF := q_f hc hF
    refine lv_iload_n hx hb dX9_needRounds_4 rfl (lv_at hl 0 rfl) ?_
    refine lv_iconst (v := 4) hx hb dX9_needRounds_5 (by decide) ?_
    refine lv_icmp_le (tgt := 19) hx hb dX9_needRounds_6 (by decide) (fun hc => ?_) (fun hc => ?_)
    · replace hF := q_t hc hF
      exact hret H locs ls 19 _ dX9_needRounds_19 rfl hP hD hS
    · replace hF := q_f hc hF
      cases hF
abbrev rX9_prepare : Room := { frames := 4, cells := 0, slots := 0, locals := 87 }
theorem eX9_prepare_X9 : ∀ w ∈ u_ws RX9 TX9 11, w ∈ wsX9_prepare := by decide +kernel
theorem uX9_prepare : yX9_prepare.cls = RX9 ∧ yX9_prepare.cls ≠ "java/lang/invoke/MethodHandle" ∧ yX9_prepare.cls ≠ "java/lang/invoke/VarHandle" ∧ (parseMethodDescriptor yX9_prepare.desc).map (fun d => d.parameters.length) = some 0 := by decide +kernel
set_option maxHeartbeats 4000000 in
set_option maxRecDepth 100000 in
theorem tX9_prepare (l : Launch) (dC : Nat → ClassId) (dI : Nat → Nat → Nat) (cI cZ : ClassId) (aS : Nat → Nat) (aL : Nat → Nat) (aF : Nat → Nat) (aK : Nat → Nat) (sz : Nat) (M_told : Int32) (R_width : Nat → Int32) (R_pinned : Nat → Int32) (R_from : Nat → Int32) (R_to : Nat → Int32) (R_turned : Nat → Int32) (L_layer : Nat → Int32) (L_tops : Nat → Int32) (L_bottoms : Nat → Int32) (L_layers : Int32) (P_size : Nat → Int32) (P_arrows : Nat → Int32) (P_uppers : Nat → Int32) (P_lowers : Nat → Int32) (res : Int32 × Int32 × (Nat → Int32) × (Nat → Int32) × (Nat → Int32) × Int32 × (Nat → Int32) × (Nat → Int32) × (Nat → Int32) × (Nat → Int32)) (hF : fX9_prepare R_width R_pinned R_from R_to R_turned L_layer L_tops L_bottoms P_size P_arrows P_uppers P_lowers = some res) : q_Mi l yX9_prepare wsX9_prepare rX9_prepare (dC, dI) (q_ty cI cZ) [.ref (aS 47)] (iX9_prepare aS aL aF aK cI cZ M_told R_width R_pinned R_from R_to R_turned L_layer L_tops L_bottoms L_layers P_size P_arrows P_uppers P_lowers) (iX9_prepare aS aL aF aK cI cZ res.2.1 R_width R_pinned R_from R_to R_turned res.2.2.1 res.2.2.2.1 res.2.2.2.2.1 res.2.2.2.2.2.1 res.2.2.2.2.2.2.1 res.2.2.2.2.2.2.2.1 res.2.2.2.2.2.2.2.2.1 res.2.2.2.2.2.2.2.2.2) sz res.1 := by
  refine q_metz (cc := cX9_prepare) (maxL := 1) (by decide) rfl (Nat.le_of_ble_eq_true rfl) ?_
  intro p e s m args below meth c Q A H locs ls C hP hD hS hl hret
  obtain ⟨hx, hb, hml, hown, hts, hA, hK⟩ := C
  replace hl : lv_has ls 1 [(0, .ref (aS 47))] := hl
  have k0 := hts (.fieldLink RX9 81 "RouteLayout" "told" "Z") (by decide +kernel)
  have k1 := hts (.fieldLink RX9 21 "RouteLayout" "levels" "LRouteLayout$Levels;") (by decide +kernel)
  have k2 := hts (.fieldLink RX9 28 "RouteLayout" "pieces" "LRouteLayout$Pieces;") (by decide +kernel)
  unfold fX9_prepare at hF
  refine lv_aload_n hx hb dX9_prepare_0 rfl (lv_at hl 0 rfl) ?_
  refine lv_iconst (v := 0) hx hb dX9_prepare_1 (by decide) ?_
  refine q_put (ci := 9) (C := RX9) (T := TX9) (N := 11) (ty := .boolean) hx hb hts eX9_prepare_X9 tyX9 tyX9_ok nmX9 hown hK hP hD hS 0 (iX9_prepare aS aL aF aK cI cZ 0 R_width R_pinned R_from R_to R_turned L_layer L_tops L_bottoms L_layers P_size P_arrows P_uppers P_lowers) rfl rfl 10 (Nat.le_of_ble_eq_true rfl) k0 rfl rfl (by decide +kernel) (q_narz (Or.inl rfl)) rfl (Nat.le_of_ble_eq_true rfl) rfl dX9_prepare_2 (fun H locs hP hD hS => ?_)
  refine lv_aload_n hx hb dX9_prepare_5 rfl (lv_at hl 0 rfl) ?_
  refine q_get (ci := 9) (C := RX9) (T := TX9) (N := 11) hx hb hts eX9_prepare_X9 hown hK hP 0 rfl rfl 1 (Nat.le_of_ble_eq_true rfl) k1 rfl rfl dX9_prepare_6 ?_
  obtain ⟨q1_0, q1_1, q1_2, q1_3, q1_4, hcq1, hF⟩ := q_bd5 hF
  refine q_Vi (As := []) (rest := []) ⟨hx, hb, hml, hown, hts⟩ hA hK hP hD hS (tX3_settle l dC dI cI cZ aS H.size R_width R_pinned R_from R_to R_turned L_layer L_tops L_bottoms L_layers (q1_0, q1_1, q1_2, q1_3, q1_4) hcq1) (cwV 0 hts gX9_prepare_X3_settle rfl rfl rfl uX3_settle ⟨Nat.le_of_ble_eq_true rfl, Nat.le_of_ble_eq_true rfl⟩) [7, 1, 2, 3, 4, 5, 6, 8, 9, 10] [(false, 0), (true, 1), (true, 2), (true, 3), (true, 4), (true, 5), (true, 6), (true, 0), (true, 7), (true, 8), (true, 9), (false, 11), (false, 12), (false, 13), (false, 14), (false, 15)] (iX9_prepare aS aL aF aK cI cZ 0 R_width R_pinned R_from R_to R_turned q1_1 q1_2 q1_3 q1_4 P_size P_arrows P_uppers P_lowers) rfl rfl rfl rfl rfl 3 0 rfl rfl rfl rfl hl.1 rfl (Nat.le_of_ble_eq_true rfl) dX9_prepare_9 ⟨Nat.zero_le _, Nat.zero_le _⟩ (fun H locs hP hD hS => ?_)
  refine lv_if_ne (tgt := 17) hx hb dX9_prepare_12 (by decide) (fun hc => ?_) (fun hc => ?_)
  · replace hF := q_f hc hF
    refine lv_aload_n hx hb dX9_prepare_17 rfl (lv_at hl 0 rfl) ?_
    refine q_get (ci := 9) (C := RX9) (T := TX9) (N := 11) hx hb hts eX9_prepare_X9 hown hK hP 0 rfl rfl 2 (Nat.le_of_ble_eq_true rfl) k2 rfl rfl dX9_prepare_18 ?_
    refine lv_aload_n hx hb dX9_prepare_21 rfl (lv_at hl 0 rfl) ?_
    refine q_get (ci := 9) (C := RX9) (T := TX9) (N := 11) hx hb hts eX9_prepare_X9 hown hK hP 0 rfl rfl 1 (Nat.le_of_ble_eq_true rfl) k1 rfl rfl dX9_prepare_22 ?_
    obtain ⟨q2_0, q2_1, q2_2, q2_3, hcq2, hF⟩ := q_bd4 hF
    refine q_Vv (As := [.ref (aS 7)]) (rest := []) ⟨hx, hb, hml, hown, hts⟩ hA hK hP hD hS (tX6_collect l dC dI cI cZ aS H.size R_from R_to R_turned q1_2 q1_3 q1_4 P_size P_arrows P_uppers P_lowers (q2_0, q2_1, q2_2, q2_3) hcq2) (cwV 1 hts gX9_prepare_X6_collect rfl rfl rfl uX6_collect ⟨Nat.le_of_ble_eq_true rfl, Nat.le_of_ble_eq_true rfl⟩) [11, 1, 4, 5, 6, 7, 9, 10, 12, 13, 14, 15] [(false, 0), (true, 1), (false, 2), (false, 3), (true, 2), (true, 3), (true, 4), (true, 5), (false, 8), (true, 6), (true, 7), (true, 0), (true, 8), (true, 9), (true, 10), (true, 11)] (iX9_prepare aS aL aF aK cI cZ 0 R_width R_pinned R_from R_to R_turned q1_1 q1_2 q1_3 q1_4 q2_0 q2_1 q2_2 q2_3) rfl rfl rfl rfl rfl 6 0 rfl rfl rfl rfl hl.1 rfl (Nat.le_of_ble_eq_true rfl) dX9_prepare_25 ⟨Nat.zero_le _, Nat.zero_le _⟩ (fun H locs hP hD hS => ?_)
    refine lv_iconst (v := 1) hx hb dX9_prepare_28 (by decide) ?_
    exact hret H locs ls 29 _ _ dX9_prepare_29 (Or.inr rfl) (congrArg Prod.fst (Option.some.inj hF)) (congrArg (fun z : Int32 × Int32 × (Nat → Int32) × (Nat → Int32) × (Nat → Int32) × Int32 × (Nat → Int32) × (Nat → Int32) × (Nat → Int32) × (Nat → Int32) => (iX9_prepare aS aL aF aK cI cZ z.2.1 R_width R_pinned R_from R_to R_turned z.2.2.1 z.2.2.2.1 z.2.2.2.2.1 z.2.2.2.2.2.1 z.2.2.2.2.2.2.1 z.2.2.2.2.2.2.2.1 z.2.2.2.2.2.2.2.2.1 z.2.2.2.2.2.2.2.2.2)) (Option.some.inj hF)) hP hD hS
  · replace hF := q_t hc hF
    refine lv_iconst (v := 0) hx hb dX9_prepare_15 (by decide) ?_
    exact hret H locs ls 16 _ _ dX9_prepare_16 (Or.inl rfl) (congrArg Prod.fst (Option.some.inj hF)) (congrArg (fun z : Int32 × Int32 × (Nat → Int32) × (Nat → Int32) × (Nat → Int32) × Int32 × (Nat → Int32) × (Nat → Int32) × (Nat → Int32) × (Nat → Int32) => (iX9_prepare aS aL aF aK cI cZ z.2.1 R_width R_pinned R_from R_to R_turned z.2.2.1 z.2.2.2.1 z.2.2.2.2.1 z.2.2.2.2.2.1 z.2.2.2.2.2.2.1 z.2.2.2.2.2.2.2.1 z.2.2.2.2.2.2.2.2.1 z.2.2.2.2.2.2.2.2.2)) (Option.some.inj hF)) hP hD hS
abbrev rX9_finish : Room := { frames := 5, cells := 0, slots := 0, locals := 116 }
theorem eX9_finish_X9 : ∀ w ∈ u_ws RX9 TX9 11, w ∈ wsX9_finish := by decide +kernel
theorem uX9_finish : yX9_finish.cls = RX9 ∧ yX9_finish.cls ≠ "java/lang/invoke/MethodHandle" ∧ yX9_finish.cls ≠ "java/lang/invoke/VarHandle" ∧ (parseMethodDescriptor yX9_finish.desc).map (fun d => d.parameters.length) = some 0 := by decide +kernel
set_option maxHeartbeats 4000000 in
set_option maxRecDepth 100000 in
theorem tX9_finish (l : Launch) (dC : Nat → ClassId) (dI : Nat → Nat → Nat) (cI cZ : ClassId) (aS : Nat → Nat) (aL : Nat → Nat) (aF : Nat → Nat) (aK : Nat → Nat) (sz : Nat) (M_told : Int32) (R_width : Nat → Int32) (P_size : Nat → Int32) (P_arrows : Nat → Int32) (P_uppers : Nat → Int32) (P_lowers : Nat → Int32) (C_x : Nat → Int32) (C_sum : Nat → Int32) (C_degree : Nat → Int32) (T_track : Nat → Int32) (T_used : Nat → Int32) (T_left : Nat → Int32) (T_right : Nat → Int32) (T_arrows : Nat → Int32) (T_trackEnd : Nat → Int32) (OL_layers : Int32) (OL_size : Nat → Int32) (OL_rows : Nat → Int32) (res : Int32 × (Nat → Int32) × (Nat → Int32) × (Nat → Int32) × (Nat → Int32) × (Nat → Int32) × (Nat → Int32) × (Nat → Int32) × (Nat → Int32) × (Nat → Int32)) (hF : fX9_finish R_width P_size P_arrows P_uppers P_lowers C_x C_sum C_degree T_left T_right T_arrows T_trackEnd OL_layers OL_size OL_rows = some res) : q_Mv l yX9_finish wsX9_finish rX9_finish (dC, dI) (q_ty cI cZ) [.ref (aS 47)] (iX9_finish aS aL aF aK cI cZ M_told R_width P_size P_arrows P_uppers P_lowers C_x C_sum C_degree T_track T_used T_left T_right T_arrows T_trackEnd OL_layers OL_size OL_rows) (iX9_finish aS aL aF aK cI cZ res.1 R_width P_size P_arrows P_uppers P_lowers res.2.1 res.2.2.1 res.2.2.2.1 res.2.2.2.2.1 res.2.2.2.2.2.1 res.2.2.2.2.2.2.1 res.2.2.2.2.2.2.2.1 res.2.2.2.2.2.2.2.2.1 res.2.2.2.2.2.2.2.2.2 OL_layers OL_size OL_rows) sz := by
  refine q_metv (cc := cX9_finish) (maxL := 1) (by decide) rfl (Nat.le_of_ble_eq_true rfl) ?_
  intro p e s m args below meth c Q A H locs ls C hP hD hS hl hret
  obtain ⟨hx, hb, hml, hown, hts, hA, hK⟩ := C
  replace hl : lv_has ls 1 [(0, .ref (aS 47))] := hl
  have k0 := hts (.fieldLink RX9 55 "RouteLayout" "columns" "LRouteLayout$Columns;") (by decide +kernel)
  have k1 := hts (.fieldLink RX9 71 "RouteLayout" "latest" "LRouteLayout$Order;") (by decide +kernel)
  have k2 := hts (.fieldLink RX9 64 "RouteLayout" "tracks" "LRouteLayout$Tracks;") (by decide +kernel)
  have k3 := hts (.fieldLink RX9 81 "RouteLayout" "told" "Z") (by decide +kernel)
  unfold fX9_finish at hF
  refine lv_aload_n hx hb dX9_finish_0 rfl (lv_at hl 0 rfl) ?_
  refine q_get (ci := 9) (C := RX9) (T := TX9) (N := 11) hx hb hts eX9_finish_X9 hown hK hP 0 rfl rfl 5 (Nat.le_of_ble_eq_true rfl) k0 rfl rfl dX9_finish_1 ?_
  refine lv_aload_n hx hb dX9_finish_4 rfl (lv_at hl 0 rfl) ?_
  refine q_get (ci := 9) (C := RX9) (T := TX9) (N := 11) hx hb hts eX9_finish_X9 hown hK hP 0 rfl rfl 7 (Nat.le_of_ble_eq_true rfl) k1 rfl rfl dX9_finish_5 ?_
  obtain ⟨q1_0, q1_1, q1_2, hcq1, hF⟩ := q_bd3 hF
  refine q_Vv (As := [.ref (aL 0)]) (rest := []) ⟨hx, hb, hml, hown, hts⟩ hA hK hP hD hS (tX1_lay l dC dI cI cZ aS aL H.size R_width P_size P_uppers P_lowers C_x C_sum C_degree OL_layers OL_size OL_rows (q1_0, q1_1, q1_2) hcq1) (cwV 1 hts gX9_finish_X1_lay rfl rfl rfl uX1_lay ⟨Nat.le_of_ble_eq_true rfl, Nat.le_of_ble_eq_true rfl⟩) [8, 1, 2, 3, 4, 6, 7, 9, 10, 11, 19, 20, 21] [(false, 0), (true, 1), (true, 2), (true, 3), (true, 4), (false, 5), (true, 5), (true, 6), (true, 0), (true, 7), (true, 8), (true, 9), (false, 12), (false, 13), (false, 14), (false, 15), (false, 16), (false, 17), (false, 18), (true, 10), (true, 11), (true, 12)] (iX9_finish aS aL aF aK cI cZ M_told R_width P_size P_arrows P_uppers P_lowers q1_0 q1_1 q1_2 T_track T_used T_left T_right T_arrows T_trackEnd OL_layers OL_size OL_rows) rfl rfl rfl rfl rfl 1 0 rfl rfl rfl rfl hl.1 rfl (Nat.le_of_ble_eq_true rfl) dX9_finish_8 ⟨Nat.zero_le _, Nat.zero_le _⟩ (fun H locs hP hD hS => ?_)
  refine lv_aload_n hx hb dX9_finish_11 rfl (lv_at hl 0 rfl) ?_
  refine q_get (ci := 9) (C := RX9) (T := TX9) (N := 11) hx hb hts eX9_finish_X9 hown hK hP 0 rfl rfl 6 (Nat.le_of_ble_eq_true rfl) k2 rfl rfl dX9_finish_12 ?_
  refine lv_aload_n hx hb dX9_finish_15 rfl (lv_at hl 0 rfl) ?_
  refine q_get (ci := 9) (C := RX9) (T := TX9) (N := 11) hx hb hts eX9_finish_X9 hown hK hP 0 rfl rfl 7 (Nat.le_of_ble_eq_true rfl) k1 rfl rfl dX9_finish_16 ?_
  obtain ⟨q2_0, q2_1, q2_2, q2_3, q2_4, q2_5, hcq2, hF⟩ := q_bd6 hF
  refine q_Vv (As := [.ref (aL 0)]) (rest := []) ⟨hx, hb, hml, hown, hts⟩ hA hK hP hD hS (tX8_share l dC dI cI cZ aS aL H.size R_width P_size P_arrows P_uppers P_lowers q1_0 T_track T_used T_left T_right T_arrows T_trackEnd OL_layers (q2_0, q2_1, q2_2, q2_3, q2_4, q2_5) hcq2) (cwV 1 hts gX9_finish_X8_share rfl rfl rfl uX8_share ⟨Nat.le_of_ble_eq_true rfl, Nat.le_of_ble_eq_true rfl⟩) [12, 1, 2, 3, 4, 5, 6, 7, 8, 9, 13, 14, 15, 16, 17, 18, 19] [(false, 0), (true, 1), (true, 2), (true, 3), (true, 4), (true, 5), (true, 6), (true, 7), (true, 8), (true, 9), (false, 10), (false, 11), (true, 0), (true, 10), (true, 11), (true, 12), (true, 13), (true, 14), (true, 15), (true, 16), (false, 20), (false, 21)] (iX9_finish aS aL aF aK cI cZ M_told R_width P_size P_arrows P_uppers P_lowers q1_0 q1_1 q1_2 q2_0 q2_1 q2_2 q2_3 q2_4 q2_5 OL_layers OL_size OL_rows) rfl rfl rfl rfl rfl 8 0 rfl rfl rfl rfl hl.1 rfl (Nat.le_of_ble_eq_true rfl) dX9_finish_19 ⟨Nat.zero_le _, Nat.zero_le _⟩ (fun H locs hP hD hS => ?_)
  refine lv_aload_n hx hb dX9_finish_22 rfl (lv_at hl 0 rfl) ?_
  refine lv_iconst (v := 1) hx hb dX9_finish_23 (by decide) ?_
  refine q_put (ci := 9) (C := RX9) (T := TX9) (N := 11) (ty := .boolean) hx hb hts eX9_finish_X9 tyX9 tyX9_ok nmX9 hown hK hP hD hS 0 (iX9_finish aS aL aF aK cI cZ 1 R_width P_size P_arrows P_uppers P_lowers q1_0 q1_1 q1_2 q2_0 q2_1 q2_2 q2_3 q2_4 q2_5 OL_layers OL_size OL_rows) rfl rfl 10 (Nat.le_of_ble_eq_true rfl) k3 rfl rfl (by decide +kernel) (q_narz (Or.inr rfl)) rfl (Nat.le_of_ble_eq_true rfl) rfl dX9_finish_24 (fun H locs hP hD hS => ?_)
  exact hret H locs ls 27 _ dX9_finish_27 (congrArg (fun z : Int32 × (Nat → Int32) × (Nat → Int32) × (Nat → Int32) × (Nat → Int32) × (Nat → Int32) × (Nat → Int32) × (Nat → Int32) × (Nat → Int32) × (Nat → Int32) => (iX9_finish aS aL aF aK cI cZ z.1 R_width P_size P_arrows P_uppers P_lowers z.2.1 z.2.2.1 z.2.2.2.1 z.2.2.2.2.1 z.2.2.2.2.2.1 z.2.2.2.2.2.2.1 z.2.2.2.2.2.2.2.1 z.2.2.2.2.2.2.2.2.1 z.2.2.2.2.2.2.2.2.2 OL_layers OL_size OL_rows)) (Option.some.inj hF)) hP hD hS
abbrev rX9_draw : Room := { frames := 20, cells := 0, slots := 0, locals := 589 }
theorem eX9_draw_X9 : ∀ w ∈ u_ws RX9 TX9 11, w ∈ wsX9_draw := by decide +kernel
theorem uX9_draw : yX9_draw.cls = RX9 ∧ yX9_draw.cls ≠ "java/lang/invoke/MethodHandle" ∧ yX9_draw.cls ≠ "java/lang/invoke/VarHandle" ∧ (parseMethodDescriptor yX9_draw.desc).map (fun d => d.parameters.length) = some 1 := by decide +kernel
set_option maxHeartbeats 4000000 in
set_option maxRecDepth 100000 in
theorem tX9_draw (l : Launch) (dC : Nat → ClassId) (dI : Nat → Nat → Nat) (cI cZ : ClassId) (aS : Nat → Nat) (aL : Nat → Nat) (aF : Nat → Nat) (aK : Nat → Nat) (sz : Nat) (M_told : Int32) (R_width : Nat → Int32) (R_pinned : Nat → Int32) (R_from : Nat → Int32) (R_to : Nat → Int32) (R_turned : Nat → Int32) (L_layer : Nat → Int32) (L_tops : Nat → Int32) (L_bottoms : Nat → Int32) (L_layers : Int32) (P_size : Nat → Int32) (P_arrows : Nat → Int32) (P_uppers : Nat → Int32) (P_lowers : Nat → Int32) (X_upper : Nat → Int32) (X_lower : Nat → Int32) (Q_own : Nat → Int32) (Q_far : Nat → Int32) (Q_degree : Nat → Int32) (Q_seen : Nat → Int32) (Q_median : Nat → Int32) (Q_stood : Nat → Int32) (Q_sorted : Nat → Int32) (Q_spots : Nat → Int32) (Q_movers : Int32) (B_cost : Nat → Int32) (B_above : Nat → Int32) (B_below : Nat → Int32) (B_codes : Nat → Int32) (B_used : Nat → Int32) (B_chosen : Nat → Int32) (B_best : Nat → Int32) (B_bestCost : Int32) (B_size : Int32) (C_x : Nat → Int32) (C_sum : Nat → Int32) (C_degree : Nat → Int32) (T_track : Nat → Int32) (T_used : Nat → Int32) (T_left : Nat → Int32) (T_right : Nat → Int32) (T_arrows : Nat → Int32) (T_trackEnd : Nat → Int32) (OL_layers : Int32) (OL_size : Nat → Int32) (OL_rows : Nat → Int32) (OL_places : Nat → Int32) (OL_home : Nat → Int32) (OF_layers : Int32) (OF_size : Nat → Int32) (OF_rows : Nat → Int32) (OF_places : Nat → Int32) (OF_home : Nat → Int32) (OK_layers : Int32) (OK_size : Nat → Int32) (OK_rows : Nat → Int32) (OK_places : Nat → Int32) (OK_home : Nat → Int32) (p0 : Int32) (res : Int32 × Int32 × (Nat → Int32) × (Nat → Int32) × (Nat → Int32) × Int32 × (Nat → Int32) × (Nat → Int32) × (Nat → Int32) × (Nat → Int32) × (Nat → Int32) × (Nat → Int32) × (Nat → Int32) × (Nat → Int32) × (Nat → Int32) × (Nat → Int32) × (Nat → Int32) × (Nat → Int32) × (Nat → Int32) × (Nat → Int32) × Int32 × (Nat → Int32) × (Nat → Int32) × (Nat → Int32) × (Nat → Int32) × (Nat → Int32) × (Nat → Int32) × (Nat → Int32) × Int32 × Int32 × (Nat → Int32) × (Nat → Int32) × (Nat → Int32) × (Nat → Int32) × (Nat → Int32) × (Nat → Int32) × (Nat → Int32) × (Nat → Int32) × (Nat → Int32) × Int32 × (Nat → Int32) × (Nat → Int32) × (Nat → Int32) × (Nat → Int32) × Int32 × (Nat → Int32) × (Nat → Int32) × (Nat → Int32) × (Nat → Int32) × Int32 × (Nat → Int32) × (Nat → Int32) × (Nat → Int32) × (Nat → Int32) × Nat) (hF : fX9_draw R_width R_pinned R_from R_to R_turned L_layer L_tops L_bottoms P_size P_arrows P_uppers P_lowers X_upper X_lower Q_own Q_far Q_degree Q_seen Q_median Q_stood Q_sorted Q_spots Q_movers B_cost B_above B_below B_codes B_used B_chosen B_best B_bestCost B_size C_x C_sum C_degree T_track T_used T_left T_right T_arrows T_trackEnd OL_layers OL_size OL_rows OL_places OL_home OF_layers OF_size OF_rows OF_places OF_home OK_layers OK_size OK_rows OK_places OK_home p0 = some res) : q_Mi l yX9_draw wsX9_draw rX9_draw (dC, dI) (q_ty cI cZ) [.ref (aS 47), .int p0] (iX9_draw aS aL aF aK cI cZ M_told R_width R_pinned R_from R_to R_turned L_layer L_tops L_bottoms L_layers P_size P_arrows P_uppers P_lowers X_upper X_lower Q_own Q_far Q_degree Q_seen Q_median Q_stood Q_sorted Q_spots Q_movers B_cost B_above B_below B_codes B_used B_chosen B_best B_bestCost B_size C_x C_sum C_degree T_track T_used T_left T_right T_arrows T_trackEnd OL_layers OL_size OL_rows OL_places OL_home OF_layers OF_size OF_rows OF_places OF_home OK_layers OK_size OK_rows OK_places OK_home) (iX9_draw aS (q_pL res.2.2.2.2.2.2.2.2.2.2.2.2.2.2.2.2.2.2.2.2.2.2.2.2.2.2.2.2.2.2.2.2.2.2.2.2.2.2.2.2.2.2.2.2.2.2.2.2.2.2.2.2.2.2 aL aF aK) (q_pF res.2.2.2.2.2.2.2.2.2.2.2.2.2.2.2.2.2.2.2.2.2.2.2.2.2.2.2.2.2.2.2.2.2.2.2.2.2.2.2.2.2.2.2.2.2.2.2.2.2.2.2.2.2.2 aL aF aK) (q_pK res.2.2.2.2.2.2.2.2.2.2.2.2.2.2.2.2.2.2.2.2.2.2.2.2.2.2.2.2.2.2.2.2.2.2.2.2.2.2.2.2.2.2.2.2.2.2.2.2.2.2.2.2.2.2 aL aF aK) cI cZ res.2.1 R_width R_pinned R_from R_to R_turned res.2.2.1 res.2.2.2.1 res.2.2.2.2.1 res.2.2.2.2.2.1 res.2.2.2.2.2.2.1 res.2.2.2.2.2.2.2.1 res.2.2.2.2.2.2.2.2.1 res.2.2.2.2.2.2.2.2.2.1 res.2.2.2.2.2.2.2.2.2.2.1 res.2.2.2.2.2.2.2.2.2.2.2.1 res.2.2.2.2.2.2.2.2.2.2.2.2.1 res.2.2.2.2.2.2.2.2.2.2.2.2.2.1 res.2.2.2.2.2.2.2.2.2.2.2.2.2.2.1 res.2.2.2.2.2.2.2.2.2.2.2.2.2.2.2.1 res.2.2.2.2.2.2.2.2.2.2.2.2.2.2.2.2.1 res.2.2.2.2.2.2.2.2.2.2.2.2.2.2.2.2.2.1 res.2.2.2.2.2.2.2.2.2.2.2.2.2.2.2.2.2.2.1 res.2.2.2.2.2.2.2.2.2.2.2.2.2.2.2.2.2.2.2.1 res.2.2.2.2.2.2.2.2.2.2.2.2.2.2.2.2.2.2.2.2.1 res.2.2.2.2.2.2.2.2.2.2.2.2.2.2.2.2.2.2.2.2.2.1 res.2.2.2.2.2.2.2.2.2.2.2.2.2.2.2.2.2.2.2.2.2.2.1 res.2.2.2.2.2.2.2.2.2.2.2.2.2.2.2.2.2.2.2.2.2.2.2.1 res.2.2.2.2.2.2.2.2.2.2.2.2.2.2.2.2.2.2.2.2.2.2.2.2.1 res.2.2.2.2.2.2.2.2.2.2.2.2.2.2.2.2.2.2.2.2.2.2.2.2.2.1 res.2.2.2.2.2.2.2.2.2.2.2.2.2.2.2.2.2.2.2.2.2.2.2.2.2.2.1 res.2.2.2.2.2.2.2.2.2.2.2.2.2.2.2.2.2.2.2.2.2.2.2.2.2.2.2.1 res.2.2.2.2.2.2.2.2.2.2.2.2.2.2.2.2.2.2.2.2.2.2.2.2.2.2.2.2.1 res.2.2.2.2.2.2.2.2.2.2.2.2.2.2.2.2.2.2.2.2.2.2.2.2.2.2.2.2.2.1 res.2.2.2.2.2.2.2.2.2.2.2.2.2.2.2.2.2.2.2.2.2.2.2.2.2.2.2.2.2.2.1 res.2.2.2.2.2.2.2.2.2.2.2.2.2.2.2.2.2.2.2.2.2.2.2.2.2.2.2.2.2.2.2.1 res.2.2.2.2.2.2.2.2.2.2.2.2.2.2.2.2.2.2.2.2.2.2.2.2.2.2.2.2.2.2.2.2.1 res.2.2.2.2.2.2.2.2.2.2.2.2.2.2.2.2.2.2.2.2.2.2.2.2.2.2.2.2.2.2.2.2.2.1 res.2.2.2.2.2.2.2.2.2.2.2.2.2.2.2.2.2.2.2.2.2.2.2.2.2.2.2.2.2.2.2.2.2.2.1 res.2.2.2.2.2.2.2.2.2.2.2.2.2.2.2.2.2.2.2.2.2.2.2.2.2.2.2.2.2.2.2.2.2.2.2.1 res.2.2.2.2.2.2.2.2.2.2.2.2.2.2.2.2.2.2.2.2.2.2.2.2.2.2.2.2.2.2.2.2.2.2.2.2.1 res.2.2.2.2.2.2.2.2.2.2.2.2.2.2.2.2.2.2.2.2.2.2.2.2.2.2.2.2.2.2.2.2.2.2.2.2.2.1 res.2.2.2.2.2.2.2.2.2.2.2.2.2.2.2.2.2.2.2.2.2.2.2.2.2.2.2.2.2.2.2.2.2.2.2.2.2.2.1 res.2.2.2.2.2.2.2.2.2.2.2.2.2.2.2.2.2.2.2.2.2.2.2.2.2.2.2.2.2.2.2.2.2.2.2.2.2.2.2.1 res.2.2.2.2.2.2.2.2.2.2.2.2.2.2.2.2.2.2.2.2.2.2.2.2.2.2.2.2.2.2.2.2.2.2.2.2.2.2.2.2.1 res.2.2.2.2.2.2.2.2.2.2.2.2.2.2.2.2.2.2.2.2.2.2.2.2.2.2.2.2.2.2.2.2.2.2.2.2.2.2.2.2.2.1 res.2.2.2.2.2.2.2.2.2.2.2.2.2.2.2.2.2.2.2.2.2.2.2.2.2.2.2.2.2.2.2.2.2.2.2.2.2.2.2.2.2.2.1 res.2.2.2.2.2.2.2.2.2.2.2.2.2.2.2.2.2.2.2.2.2.2.2.2.2.2.2.2.2.2.2.2.2.2.2.2.2.2.2.2.2.2.2.1 res.2.2.2.2.2.2.2.2.2.2.2.2.2.2.2.2.2.2.2.2.2.2.2.2.2.2.2.2.2.2.2.2.2.2.2.2.2.2.2.2.2.2.2.2.1 res.2.2.2.2.2.2.2.2.2.2.2.2.2.2.2.2.2.2.2.2.2.2.2.2.2.2.2.2.2.2.2.2.2.2.2.2.2.2.2.2.2.2.2.2.2.1 res.2.2.2.2.2.2.2.2.2.2.2.2.2.2.2.2.2.2.2.2.2.2.2.2.2.2.2.2.2.2.2.2.2.2.2.2.2.2.2.2.2.2.2.2.2.2.1 res.2.2.2.2.2.2.2.2.2.2.2.2.2.2.2.2.2.2.2.2.2.2.2.2.2.2.2.2.2.2.2.2.2.2.2.2.2.2.2.2.2.2.2.2.2.2.2.1 res.2.2.2.2.2.2.2.2.2.2.2.2.2.2.2.2.2.2.2.2.2.2.2.2.2.2.2.2.2.2.2.2.2.2.2.2.2.2.2.2.2.2.2.2.2.2.2.2.1 res.2.2.2.2.2.2.2.2.2.2.2.2.2.2.2.2.2.2.2.2.2.2.2.2.2.2.2.2.2.2.2.2.2.2.2.2.2.2.2.2.2.2.2.2.2.2.2.2.2.1 res.2.2.2.2.2.2.2.2.2.2.2.2.2.2.2.2.2.2.2.2.2.2.2.2.2.2.2.2.2.2.2.2.2.2.2.2.2.2.2.2.2.2.2.2.2.2.2.2.2.2.1 res.2.2.2.2.2.2.2.2.2.2.2.2.2.2.2.2.2.2.2.2.2.2.2.2.2.2.2.2.2.2.2.2.2.2.2.2.2.2.2.2.2.2.2.2.2.2.2.2.2.2.2.1 res.2.2.2.2.2.2.2.2.2.2.2.2.2.2.2.2.2.2.2.2.2.2.2.2.2.2.2.2.2.2.2.2.2.2.2.2.2.2.2.2.2.2.2.2.2.2.2.2.2.2.2.2.1 res.2.2.2.2.2.2.2.2.2.2.2.2.2.2.2.2.2.2.2.2.2.2.2.2.2.2.2.2.2.2.2.2.2.2.2.2.2.2.2.2.2.2.2.2.2.2.2.2.2.2.2.2.2.1) sz res.1 := by
  refine q_metz (cc := cX9_draw) (maxL := 2) (by decide) rfl (Nat.le_of_ble_eq_true rfl) ?_
  intro p e s m args below meth c Q A H locs ls C hP hD hS hl hret
  obtain ⟨hx, hb, hml, hown, hts, hA, hK⟩ := C
  replace hl : lv_has ls 2 [(0, .ref (aS 47)), (1, .int p0)] := hl
  have k0 := hts (.fieldLink RX9 75 "RouteLayout" "fresh" "LRouteLayout$Order;") (by decide +kernel)
  have k1 := hts (.fieldLink RX9 21 "RouteLayout" "levels" "LRouteLayout$Levels;") (by decide +kernel)
  have k2 := hts (.fieldLink RX9 46 "RouteLayout" "orderer" "LRouteLayout$Orderer;") (by decide +kernel)
  unfold fX9_draw at hF
  refine lv_iload_n hx hb dX9_draw_0 rfl (lv_at hl 1 rfl) ?_
  obtain ⟨⟨⟩, hcq1, hF⟩ := q_bd hF
  refine q_Sv (As := [.int p0]) (rest := []) ⟨hx, hb, hml, hown, hts⟩ hA hK hP hD hS (tX9_needRounds l dC dI cI cZ H.size p0 () hcq1) (va_cwS 1 hts gX9_draw_X9_needRounds rfl rfl rfl uX9_needRounds ⟨Nat.le_of_ble_eq_true rfl, Nat.le_of_ble_eq_true rfl⟩) [] [(false, 0), (false, 1), (false, 2), (false, 3), (false, 4), (false, 5), (false, 6), (false, 7), (false, 8), (false, 9), (false, 10), (false, 11), (false, 12), (false, 13), (false, 14), (false, 15), (false, 16), (false, 17), (false, 18), (false, 19), (false, 20), (false, 21), (false, 22), (false, 23), (false, 24), (false, 25), (false, 26), (false, 27), (false, 28), (false, 29), (false, 30), (false, 31), (false, 32), (false, 33), (false, 34), (false, 35), (false, 36), (false, 37), (false, 38), (false, 39), (false, 40), (false, 41), (false, 42), (false, 43), (false, 44), (false, 45), (false, 46), (false, 47), (false, 48), (false, 49), (false, 50), (false, 51), (false, 52), (false, 53), (false, 54), (false, 55), (false, 56), (false, 57), (false, 58), (false, 59), (false, 60), (false, 61)] (iX9_draw aS aL aF aK cI cZ M_told R_width R_pinned R_from R_to R_turned L_layer L_tops L_bottoms L_layers P_size P_arrows P_uppers P_lowers X_upper X_lower Q_own Q_far Q_degree Q_seen Q_median Q_stood Q_sorted Q_spots Q_movers B_cost B_above B_below B_codes B_used B_chosen B_best B_bestCost B_size C_x C_sum C_degree T_track T_used T_left T_right T_arrows T_trackEnd OL_layers OL_size OL_rows OL_places OL_home OF_layers OF_size OF_rows OF_places OF_home OK_layers OK_size OK_rows OK_places OK_home) rfl rfl rfl rfl rfl rfl hl.1 rfl (Nat.le_of_ble_eq_true rfl) dX9_draw_1 ⟨Nat.zero_le _, Nat.zero_le _⟩ (fun H locs hP hD hS => ?_)
  refine lv_aload_n hx hb dX9_draw_4 rfl (lv_at hl 0 rfl) ?_
  obtain ⟨q2_0, q2_1, q2_2, q2_3, q2_4, q2_5, q2_6, q2_7, q2_8, q2_9, hcq2, hF⟩ := q_bd10 hF
  refine q_Vi (As := []) (rest := []) ⟨hx, hb, hml, hown, hts⟩ hA hK hP hD hS (tX9_prepare l dC dI cI cZ aS aL aF aK H.size M_told R_width R_pinned R_from R_to R_turned L_layer L_tops L_bottoms L_layers P_size P_arrows P_uppers P_lowers (q2_0, q2_1, q2_2, q2_3, q2_4, q2_5, q2_6, q2_7, q2_8, q2_9) hcq2) (cwV 0 hts gX9_draw_X9_prepare rfl rfl rfl uX9_prepare ⟨Nat.le_of_ble_eq_true rfl, Nat.le_of_ble_eq_true rfl⟩) [0, 1, 2, 3, 4, 5, 6, 7, 8, 9, 10, 11, 12, 13, 14, 15] [(true, 0), (true, 1), (true, 2), (true, 3), (true, 4), (true, 5), (true, 6), (true, 7), (true, 8), (true, 9), (true, 10), (true, 11), (true, 12), (true, 13), (true, 14), (true, 15), (false, 16), (false, 17), (false, 18), (false, 19), (false, 20), (false, 21), (false, 22), (false, 23), (false, 24), (false, 25), (false, 26), (false, 27), (false, 28), (false, 29), (false, 30), (false, 31), (false, 32), (false, 33), (false, 34), (false, 35), (false, 36), (false, 37), (false, 38), (false, 39), (false, 40), (false, 41), (false, 42), (false, 43), (false, 44), (false, 45), (false, 46), (false, 47), (false, 48), (false, 49), (false, 50), (false, 51), (false, 52), (false, 53), (false, 54), (false, 55), (false, 56), (false, 57), (false, 58), (false, 59), (false, 60), (false, 61)] (iX9_draw aS aL aF aK cI cZ q2_1 R_width R_pinned R_from R_to R_turned q2_2 q2_3 q2_4 q2_5 q2_6 q2_7 q2_8 q2_9 X_upper X_lower Q_own Q_far Q_degree Q_seen Q_median Q_stood Q_sorted Q_spots Q_movers B_cost B_above B_below B_codes B_used B_chosen B_best B_bestCost B_size C_x C_sum C_degree T_track T_used T_left T_right T_arrows T_trackEnd OL_layers OL_size OL_rows OL_places OL_home OF_layers OF_size OF_rows OF_places OF_home OK_layers OK_size OK_rows OK_places OK_home) rfl rfl rfl rfl rfl 9 0 rfl rfl rfl rfl hl.1 rfl (Nat.le_of_ble_eq_true rfl) dX9_draw_5 ⟨Nat.zero_le _, Nat.zero_le _⟩ (fun H locs hP hD hS => ?_)
  refine lv_if_ne (tgt := 13) hx hb dX9_draw_8 (by decide) (fun hc => ?_) (fun hc => ?_)
  · replace hF := q_f hc hF
    refine lv_aload_n hx hb dX9_draw_13 rfl (lv_at hl 0 rfl) ?_
    refine q_get (ci := 9) (C := RX9) (T := TX9) (N := 11) hx hb hts eX9_draw_X9 hown hK hP 0 rfl rfl 8 (Nat.le_of_ble_eq_true rfl) k0 rfl rfl dX9_draw_14 ?_
    refine lv_aload_n hx hb dX9_draw_17 rfl (lv_at hl 0 rfl) ?_
    refine q_get (ci := 9) (C := RX9) (T := TX9) (N := 11) hx hb hts eX9_draw_X9 hown hK hP 0 rfl rfl 1 (Nat.le_of_ble_eq_true rfl) k1 rfl rfl dX9_draw_18 ?_
    obtain ⟨q3_0, q3_1, q3_2, q3_3, q3_4, hcq3, hF⟩ := q_bd5 hF
    refine q_Vv (As := [.ref (aS 7)]) (rest := []) ⟨hx, hb, hml, hown, hts⟩ hA hK hP hD hS (tX4_startFirst l dC dI cI cZ aS aF H.size R_width q2_2 q2_3 q2_4 q2_5 OF_layers OF_size OF_rows OF_places OF_home (q3_0, q3_1, q3_2, q3_3, q3_4) hcq3) (cwV 1 hts gX9_draw_X4_startFirst rfl rfl rfl uX4_startFirst ⟨Nat.le_of_ble_eq_true rfl, Nat.le_of_ble_eq_true rfl⟩) [52, 1, 2, 7, 8, 9, 10, 53, 54, 55, 56] [(false, 0), (true, 1), (true, 2), (false, 3), (false, 4), (false, 5), (false, 6), (true, 3), (true, 4), (true, 5), (true, 6), (false, 11), (false, 12), (false, 13), (false, 14), (false, 15), (false, 16), (false, 17), (false, 18), (false, 19), (false, 20), (false, 21), (false, 22), (false, 23), (false, 24), (false, 25), (false, 26), (false, 27), (false, 28), (false, 29), (false, 30), (false, 31), (false, 32), (false, 33), (false, 34), (false, 35), (false, 36), (false, 37), (false, 38), (false, 39), (false, 40), (false, 41), (false, 42), (false, 43), (false, 44), (false, 45), (false, 46), (false, 47), (false, 48), (false, 49), (false, 50), (false, 51), (true, 0), (true, 7), (true, 8), (true, 9), (true, 10), (false, 57), (false, 58), (false, 59), (false, 60), (false, 61)] (iX9_draw aS aL aF aK cI cZ q2_1 R_width R_pinned R_from R_to R_turned q2_2 q2_3 q2_4 q2_5 q2_6 q2_7 q2_8 q2_9 X_upper X_lower Q_own Q_far Q_degree Q_seen Q_median Q_stood Q_sorted Q_spots Q_movers B_cost B_above B_below B_codes B_used B_chosen B_best B_bestCost B_size C_x C_sum C_degree T_track T_used T_left T_right T_arrows T_trackEnd OL_layers OL_size OL_rows OL_places OL_home q3_0 q3_1 q3_2 q3_3 q3_4 OK_layers OK_size OK_rows OK_places OK_home) rfl rfl rfl rfl rfl 4 0 rfl rfl rfl rfl hl.1 rfl (Nat.le_of_ble_eq_true rfl) dX9_draw_21 ⟨Nat.zero_le _, Nat.zero_le _⟩ (fun H locs hP hD hS => ?_)
    refine lv_aload_n hx hb dX9_draw_24 rfl (lv_at hl 0 rfl) ?_
    refine q_get (ci := 9) (C := RX9) (T := TX9) (N := 11) hx hb hts eX9_draw_X9 hown hK hP 0 rfl rfl 4 (Nat.le_of_ble_eq_true rfl) k2 rfl rfl dX9_draw_25 ?_
    refine lv_aload_n hx hb dX9_draw_28 rfl (lv_at hl 0 rfl) ?_
    refine q_get (ci := 9) (C := RX9) (T := TX9) (N := 11) hx hb hts eX9_draw_X9 hown hK hP 0 rfl rfl 8 (Nat.le_of_ble_eq_true rfl) k0 rfl rfl dX9_draw_29 ?_
    refine lv_iload_n hx hb dX9_draw_32 rfl (lv_at hl 1 rfl) ?_
    obtain ⟨q4_0, q4_1, q4_2, q4_3, q4_4, q4_5, q4_6, q4_7, q4_8, q4_9, q4_10, q4_11, q4_12, q4_13, q4_14, q4_15, q4_16, q4_17, q4_18, q4_19, q4_20, q4_21, q4_22, hcq4, hF⟩ := q_bd23 hF
    refine q_Vv (As := [.ref (aF 0), .int p0]) (rest := []) ⟨hx, hb, hml, hown, hts⟩ hA hK hP hD hS (tX5_improve l dC dI cI cZ aS aF H.size q2_6 q2_8 q2_9 X_upper X_lower Q_own Q_far Q_degree Q_seen Q_median Q_stood Q_sorted Q_spots Q_movers B_cost B_above B_below B_codes B_used B_chosen B_best B_bestCost B_size q3_0 q3_1 q3_2 q3_3 q3_4 p0 (q4_0, q4_1, q4_2, q4_3, q4_4, q4_5, q4_6, q4_7, q4_8, q4_9, q4_10, q4_11, q4_12, q4_13, q4_14, q4_15, q4_16, q4_17, q4_18, q4_19, q4_20, q4_21, q4_22) hcq4) (cwV 2 hts gX9_draw_X5_improve rfl rfl rfl uX5_improve ⟨Nat.le_of_ble_eq_true rfl, Nat.le_of_ble_eq_true rfl⟩) [19, 11, 12, 14, 15, 16, 17, 18, 20, 21, 22, 23, 24, 25, 26, 27, 28, 29, 30, 31, 32, 33, 34, 35, 52, 53, 54, 55, 56] [(false, 0), (false, 1), (false, 2), (false, 3), (false, 4), (false, 5), (false, 6), (false, 7), (false, 8), (false, 9), (false, 10), (true, 1), (true, 2), (false, 13), (true, 3), (true, 4), (true, 5), (true, 6), (true, 7), (true, 0), (true, 8), (true, 9), (true, 10), (true, 11), (true, 12), (true, 13), (true, 14), (true, 15), (true, 16), (true, 17), (true, 18), (true, 19), (true, 20), (true, 21), (true, 22), (true, 23), (false, 36), (false, 37), (false, 38), (false, 39), (false, 40), (false, 41), (false, 42), (false, 43), (false, 44), (false, 45), (false, 46), (false, 47), (false, 48), (false, 49), (false, 50), (false, 51), (true, 24), (true, 25), (true, 26), (true, 27), (true, 28), (false, 57), (false, 58), (false, 59), (false, 60), (false, 61)] (iX9_draw aS aL aF aK cI cZ q2_1 R_width R_pinned R_from R_to R_turned q2_2 q2_3 q2_4 q2_5 q2_6 q2_7 q2_8 q2_9 q4_0 q4_1 q4_2 q4_3 q4_4 q4_5 q4_6 q4_7 q4_8 q4_9 q4_10 q4_11 q4_12 q4_13 q4_14 q4_15 q4_16 q4_17 q4_18 q4_19 C_x C_sum C_degree T_track T_used T_left T_right T_arrows T_trackEnd OL_layers OL_size OL_rows OL_places OL_home q3_0 q3_1 q4_20 q4_21 q4_22 OK_layers OK_size OK_rows OK_places OK_home) rfl rfl rfl rfl rfl 5 0 rfl rfl rfl rfl hl.1 rfl (Nat.le_of_ble_eq_true rfl) dX9_draw_33 ⟨Nat.zero_le _, Nat.zero_le _⟩ (fun H locs hP hD hS => ?_)
    refine lv_aload_n hx hb dX9_draw_36 rfl (lv_at hl 0 rfl) ?_
    refine q_Vv2 (As := []) (rest := []) ⟨hx, hb, hml, hown, hts⟩ hA hK hP hD hS (tX9_takeFresh l dC dI cI cZ aS aL aF aK H.size q2_1) (cwV 0 hts gX9_draw_X9_takeFresh rfl rfl rfl uX9_takeFresh ⟨Nat.le_of_ble_eq_true rfl, Nat.le_of_ble_eq_true rfl⟩) 0 [0, 1, 2, 3, 4, 5, 6, 7, 8, 9, 10, 11, 12, 13, 14, 15, 16, 17, 18, 19, 20, 21, 22, 23, 24, 25, 26, 27, 28, 29, 30, 31, 32, 33, 34, 35, 36, 37, 38, 39, 40, 41, 42, 43, 44, 45, 46, 52, 53, 54, 55, 56, 47, 48, 49, 50, 51, 57, 58, 59, 60, 61] (iX9_draw aS aF aL aK cI cZ q2_1 R_width R_pinned R_from R_to R_turned q2_2 q2_3 q2_4 q2_5 q2_6 q2_7 q2_8 q2_9 q4_0 q4_1 q4_2 q4_3 q4_4 q4_5 q4_6 q4_7 q4_8 q4_9 q4_10 q4_11 q4_12 q4_13 q4_14 q4_15 q4_16 q4_17 q4_18 q4_19 C_x C_sum C_degree T_track T_used T_left T_right T_arrows T_trackEnd q3_0 q3_1 q4_20 q4_21 q4_22 OL_layers OL_size OL_rows OL_places OL_home OK_layers OK_size OK_rows OK_places OK_home) rfl (by decide) rfl rfl rfl rfl hl.1 rfl (Nat.le_of_ble_eq_true rfl) dX9_draw_37 ⟨Nat.zero_le _, Nat.zero_le _⟩ (fun H locs hP hD hS => ?_)
    refine lv_aload_n hx hb dX9_draw_40 rfl (lv_at hl 0 rfl) ?_
    obtain ⟨q5_0, q5_1, q5_2, q5_3, q5_4, q5_5, q5_6, q5_7, q5_8, q5_9, hcq5, hF⟩ := q_bd10 hF
    refine q_Vv (As := []) (rest := []) ⟨hx, hb, hml, hown, hts⟩ hA hK hP hD hS (tX9_finish l dC dI cI cZ aS aF aL aK H.size q2_1 R_width q2_6 q2_7 q2_8 q2_9 C_x C_sum C_degree T_track T_used T_left T_right T_arrows T_trackEnd q3_0 q3_1 q4_20 (q5_0, q5_1, q5_2, q5_3, q5_4, q5_5, q5_6, q5_7, q5_8, q5_9) hcq5) (cwV 0 hts gX9_draw_X9_finish rfl rfl rfl uX9_finish ⟨Nat.le_of_ble_eq_true rfl, Nat.le_of_ble_eq_true rfl⟩) [0, 1, 2, 11, 12, 13, 14, 15, 36, 37, 38, 39, 40, 41, 42, 43, 44, 45, 46, 47, 48, 49] [(true, 0), (true, 1), (true, 2), (false, 3), (false, 4), (false, 5), (false, 6), (false, 7), (false, 8), (false, 9), (false, 10), (true, 3), (true, 4), (true, 5), (true, 6), (true, 7), (false, 16), (false, 17), (false, 18), (false, 19), (false, 20), (false, 21), (false, 22), (false, 23), (false, 24), (false, 25), (false, 26), (false, 27), (false, 28), (false, 29), (false, 30), (false, 31), (false, 32), (false, 33), (false, 34), (false, 35), (true, 8), (true, 9), (true, 10), (true, 11), (true, 12), (true, 13), (true, 14), (true, 15), (true, 16), (true, 17), (true, 18), (true, 19), (true, 20), (true, 21), (false, 50), (false, 51), (false, 52), (false, 53), (false, 54), (false, 55), (false, 56), (false, 57), (false, 58), (false, 59), (false, 60), (false, 61)] (iX9_draw aS aF aL aK cI cZ q5_0 R_width R_pinned R_from R_to R_turned q2_2 q2_3 q2_4 q2_5 q2_6 q2_7 q2_8 q2_9 q4_0 q4_1 q4_2 q4_3 q4_4 q4_5 q4_6 q4_7 q4_8 q4_9 q4_10 q4_11 q4_12 q4_13 q4_14 q4_15 q4_16 q4_17 q4_18 q4_19 q5_1 q5_2 q5_3 q5_4 q5_5 q5_6 q5_7 q5_8 q5_9 q3_0 q3_1 q4_20 q4_21 q4_22 OL_layers OL_size OL_rows OL_places OL_home OK_layers OK_size OK_rows OK_places OK_home) rfl rfl rfl rfl rfl 9 0 rfl rfl rfl rfl hl.1 rfl (Nat.le_of_ble_eq_true rfl) dX9_draw_41 ⟨Nat.zero_le _, Nat.zero_le _⟩ (fun H locs hP hD hS => ?_)
    refine lv_iconst (v := 1) hx hb dX9_draw_44 (by decide) ?_
    exact hret H locs ls 45 _ _ dX9_draw_45 (Or.inr rfl) (congrArg Prod.fst (Option.some.inj hF)) (congrArg (fun z : Int32 × Int32 × (Nat → Int32) × (Nat → Int32) × (Nat → Int32) × Int32 × (Nat → Int32) × (Nat → Int32) × (Nat → Int32) × (Nat → Int32) × (Nat → Int32) × (Nat → Int32) × (Nat → Int32) × (Nat → Int32) × (Nat → Int32) × (Nat → Int32) × (Nat → Int32) × (Nat → Int32) × (Nat → Int32) × (Nat → Int32) × Int32 × (Nat → Int32) × (Nat → Int32) × (Nat → Int32) × (Nat → Int32) × (Nat → Int32) × (Nat → Int32) × (Nat → Int32) × Int32 × Int32 × (Nat → Int32) × (Nat → Int32) × (Nat → Int32) × (Nat → Int32) × (Nat → Int32) × (Nat → Int32) × (Nat → Int32) × (Nat → Int32) × (Nat → Int32) × Int32 × (Nat → Int32) × (Nat → Int32) × (Nat → Int32) × (Nat → Int32) × Int32 × (Nat → Int32) × (Nat → Int32) × (Nat → Int32) × (Nat → Int32) × Int32 × (Nat → Int32) × (Nat → Int32) × (Nat → Int32) × (Nat → Int32) × Nat => (iX9_draw aS (q_pL z.2.2.2.2.2.2.2.2.2.2.2.2.2.2.2.2.2.2.2.2.2.2.2.2.2.2.2.2.2.2.2.2.2.2.2.2.2.2.2.2.2.2.2.2.2.2.2.2.2.2.2.2.2.2 aL aF aK) (q_pF z.2.2.2.2.2.2.2.2.2.2.2.2.2.2.2.2.2.2.2.2.2.2.2.2.2.2.2.2.2.2.2.2.2.2.2.2.2.2.2.2.2.2.2.2.2.2.2.2.2.2.2.2.2.2 aL aF aK) (q_pK z.2.2.2.2.2.2.2.2.2.2.2.2.2.2.2.2.2.2.2.2.2.2.2.2.2.2.2.2.2.2.2.2.2.2.2.2.2.2.2.2.2.2.2.2.2.2.2.2.2.2.2.2.2.2 aL aF aK) cI cZ z.2.1 R_width R_pinned R_from R_to R_turned z.2.2.1 z.2.2.2.1 z.2.2.2.2.1 z.2.2.2.2.2.1 z.2.2.2.2.2.2.1 z.2.2.2.2.2.2.2.1 z.2.2.2.2.2.2.2.2.1 z.2.2.2.2.2.2.2.2.2.1 z.2.2.2.2.2.2.2.2.2.2.1 z.2.2.2.2.2.2.2.2.2.2.2.1 z.2.2.2.2.2.2.2.2.2.2.2.2.1 z.2.2.2.2.2.2.2.2.2.2.2.2.2.1 z.2.2.2.2.2.2.2.2.2.2.2.2.2.2.1 z.2.2.2.2.2.2.2.2.2.2.2.2.2.2.2.1 z.2.2.2.2.2.2.2.2.2.2.2.2.2.2.2.2.1 z.2.2.2.2.2.2.2.2.2.2.2.2.2.2.2.2.2.1 z.2.2.2.2.2.2.2.2.2.2.2.2.2.2.2.2.2.2.1 z.2.2.2.2.2.2.2.2.2.2.2.2.2.2.2.2.2.2.2.1 z.2.2.2.2.2.2.2.2.2.2.2.2.2.2.2.2.2.2.2.2.1 z.2.2.2.2.2.2.2.2.2.2.2.2.2.2.2.2.2.2.2.2.2.1 z.2.2.2.2.2.2.2.2.2.2.2.2.2.2.2.2.2.2.2.2.2.2.1 z.2.2.2.2.2.2.2.2.2.2.2.2.2.2.2.2.2.2.2.2.2.2.2.1 z.2.2.2.2.2.2.2.2.2.2.2.2.2.2.2.2.2.2.2.2.2.2.2.2.1 z.2.2.2.2.2.2.2.2.2.2.2.2.2.2.2.2.2.2.2.2.2.2.2.2.2.1 z.2.2.2.2.2.2.2.2.2.2.2.2.2.2.2.2.2.2.2.2.2.2.2.2.2.2.1 z.2.2.2.2.2.2.2.2.2.2.2.2.2.2.2.2.2.2.2.2.2.2.2.2.2.2.2.1 z.2.2.2.2.2.2.2.2.2.2.2.2.2.2.2.2.2.2.2.2.2.2.2.2.2.2.2.2.1 z.2.2.2.2.2.2.2.2.2.2.2.2.2.2.2.2.2.2.2.2.2.2.2.2.2.2.2.2.2.1 z.2.2.2.2.2.2.2.2.2.2.2.2.2.2.2.2.2.2.2.2.2.2.2.2.2.2.2.2.2.2.1 z.2.2.2.2.2.2.2.2.2.2.2.2.2.2.2.2.2.2.2.2.2.2.2.2.2.2.2.2.2.2.2.1 z.2.2.2.2.2.2.2.2.2.2.2.2.2.2.2.2.2.2.2.2.2.2.2.2.2.2.2.2.2.2.2.2.1 z.2.2.2.2.2.2.2.2.2.2.2.2.2.2.2.2.2.2.2.2.2.2.2.2.2.2.2.2.2.2.2.2.2.1 z.2.2.2.2.2.2.2.2.2.2.2.2.2.2.2.2.2.2.2.2.2.2.2.2.2.2.2.2.2.2.2.2.2.2.1 z.2.2.2.2.2.2.2.2.2.2.2.2.2.2.2.2.2.2.2.2.2.2.2.2.2.2.2.2.2.2.2.2.2.2.2.1 z.2.2.2.2.2.2.2.2.2.2.2.2.2.2.2.2.2.2.2.2.2.2.2.2.2.2.2.2.2.2.2.2.2.2.2.2.1 z.2.2.2.2.2.2.2.2.2.2.2.2.2.2.2.2.2.2.2.2.2.2.2.2.2.2.2.2.2.2.2.2.2.2.2.2.2.1 z.2.2.2.2.2.2.2.2.2.2.2.2.2.2.2.2.2.2.2.2.2.2.2.2.2.2.2.2.2.2.2.2.2.2.2.2.2.2.1 z.2.2.2.2.2.2.2.2.2.2.2.2.2.2.2.2.2.2.2.2.2.2.2.2.2.2.2.2.2.2.2.2.2.2.2.2.2.2.2.1 z.2.2.2.2.2.2.2.2.2.2.2.2.2.2.2.2.2.2.2.2.2.2.2.2.2.2.2.2.2.2.2.2.2.2.2.2.2.2.2.2.1 z.2.2.2.2.2.2.2.2.2.2.2.2.2.2.2.2.2.2.2.2.2.2.2.2.2.2.2.2.2.2.2.2.2.2.2.2.2.2.2.2.2.1 z.2.2.2.2.2.2.2.2.2.2.2.2.2.2.2.2.2.2.2.2.2.2.2.2.2.2.2.2.2.2.2.2.2.2.2.2.2.2.2.2.2.2.1 z.2.2.2.2.2.2.2.2.2.2.2.2.2.2.2.2.2.2.2.2.2.2.2.2.2.2.2.2.2.2.2.2.2.2.2.2.2.2.2.2.2.2.2.1 z.2.2.2.2.2.2.2.2.2.2.2.2.2.2.2.2.2.2.2.2.2.2.2.2.2.2.2.2.2.2.2.2.2.2.2.2.2.2.2.2.2.2.2.2.1 z.2.2.2.2.2.2.2.2.2.2.2.2.2.2.2.2.2.2.2.2.2.2.2.2.2.2.2.2.2.2.2.2.2.2.2.2.2.2.2.2.2.2.2.2.2.1 z.2.2.2.2.2.2.2.2.2.2.2.2.2.2.2.2.2.2.2.2.2.2.2.2.2.2.2.2.2.2.2.2.2.2.2.2.2.2.2.2.2.2.2.2.2.2.1 z.2.2.2.2.2.2.2.2.2.2.2.2.2.2.2.2.2.2.2.2.2.2.2.2.2.2.2.2.2.2.2.2.2.2.2.2.2.2.2.2.2.2.2.2.2.2.2.1 z.2.2.2.2.2.2.2.2.2.2.2.2.2.2.2.2.2.2.2.2.2.2.2.2.2.2.2.2.2.2.2.2.2.2.2.2.2.2.2.2.2.2.2.2.2.2.2.2.1 z.2.2.2.2.2.2.2.2.2.2.2.2.2.2.2.2.2.2.2.2.2.2.2.2.2.2.2.2.2.2.2.2.2.2.2.2.2.2.2.2.2.2.2.2.2.2.2.2.2.1 z.2.2.2.2.2.2.2.2.2.2.2.2.2.2.2.2.2.2.2.2.2.2.2.2.2.2.2.2.2.2.2.2.2.2.2.2.2.2.2.2.2.2.2.2.2.2.2.2.2.2.1 z.2.2.2.2.2.2.2.2.2.2.2.2.2.2.2.2.2.2.2.2.2.2.2.2.2.2.2.2.2.2.2.2.2.2.2.2.2.2.2.2.2.2.2.2.2.2.2.2.2.2.2.1 z.2.2.2.2.2.2.2.2.2.2.2.2.2.2.2.2.2.2.2.2.2.2.2.2.2.2.2.2.2.2.2.2.2.2.2.2.2.2.2.2.2.2.2.2.2.2.2.2.2.2.2.2.1 z.2.2.2.2.2.2.2.2.2.2.2.2.2.2.2.2.2.2.2.2.2.2.2.2.2.2.2.2.2.2.2.2.2.2.2.2.2.2.2.2.2.2.2.2.2.2.2.2.2.2.2.2.2.1)) (Option.some.inj hF)) hP hD hS
  · replace hF := q_t hc hF
    refine lv_iconst (v := 0) hx hb dX9_draw_11 (by decide) ?_
    exact hret H locs ls 12 _ _ dX9_draw_12 (Or.inl rfl) (congrArg Prod.fst (Option.some.inj hF)) (congrArg (fun z : Int32 × Int32 × (Nat → Int32) × (Nat → Int32) × (Nat → Int32) × Int32 × (Nat → Int32) × (Nat → Int32) × (Nat → Int32) × (Nat → Int32) × (Nat → Int32) × (Nat → Int32) × (Nat → Int32) × (Nat → Int32) × (Nat → Int32) × (Nat → Int32) × (Nat → Int32) × (Nat → Int32) × (Nat → Int32) × (Nat → Int32) × Int32 × (Nat → Int32) × (Nat → Int32) × (Nat → Int32) × (Nat → Int32) × (Nat → Int32) × (Nat → Int32) × (Nat → Int32) × Int32 × Int32 × (Nat → Int32) × (Nat → Int32) × (Nat → Int32) × (Nat → Int32) × (Nat → Int32) × (Nat → Int32) × (Nat → Int32) × (Nat → Int32) × (Nat → Int32) × Int32 × (Nat → Int32) × (Nat → Int32) × (Nat → Int32) × (Nat → Int32) × Int32 × (Nat → Int32) × (Nat → Int32) × (Nat → Int32) × (Nat → Int32) × Int32 × (Nat → Int32) × (Nat → Int32) × (Nat → Int32) × (Nat → Int32) × Nat => (iX9_draw aS (q_pL z.2.2.2.2.2.2.2.2.2.2.2.2.2.2.2.2.2.2.2.2.2.2.2.2.2.2.2.2.2.2.2.2.2.2.2.2.2.2.2.2.2.2.2.2.2.2.2.2.2.2.2.2.2.2 aL aF aK) (q_pF z.2.2.2.2.2.2.2.2.2.2.2.2.2.2.2.2.2.2.2.2.2.2.2.2.2.2.2.2.2.2.2.2.2.2.2.2.2.2.2.2.2.2.2.2.2.2.2.2.2.2.2.2.2.2 aL aF aK) (q_pK z.2.2.2.2.2.2.2.2.2.2.2.2.2.2.2.2.2.2.2.2.2.2.2.2.2.2.2.2.2.2.2.2.2.2.2.2.2.2.2.2.2.2.2.2.2.2.2.2.2.2.2.2.2.2 aL aF aK) cI cZ z.2.1 R_width R_pinned R_from R_to R_turned z.2.2.1 z.2.2.2.1 z.2.2.2.2.1 z.2.2.2.2.2.1 z.2.2.2.2.2.2.1 z.2.2.2.2.2.2.2.1 z.2.2.2.2.2.2.2.2.1 z.2.2.2.2.2.2.2.2.2.1 z.2.2.2.2.2.2.2.2.2.2.1 z.2.2.2.2.2.2.2.2.2.2.2.1 z.2.2.2.2.2.2.2.2.2.2.2.2.1 z.2.2.2.2.2.2.2.2.2.2.2.2.2.1 z.2.2.2.2.2.2.2.2.2.2.2.2.2.2.1 z.2.2.2.2.2.2.2.2.2.2.2.2.2.2.2.1 z.2.2.2.2.2.2.2.2.2.2.2.2.2.2.2.2.1 z.2.2.2.2.2.2.2.2.2.2.2.2.2.2.2.2.2.1 z.2.2.2.2.2.2.2.2.2.2.2.2.2.2.2.2.2.2.1 z.2.2.2.2.2.2.2.2.2.2.2.2.2.2.2.2.2.2.2.1 z.2.2.2.2.2.2.2.2.2.2.2.2.2.2.2.2.2.2.2.2.1 z.2.2.2.2.2.2.2.2.2.2.2.2.2.2.2.2.2.2.2.2.2.1 z.2.2.2.2.2.2.2.2.2.2.2.2.2.2.2.2.2.2.2.2.2.2.1 z.2.2.2.2.2.2.2.2.2.2.2.2.2.2.2.2.2.2.2.2.2.2.2.1 z.2.2.2.2.2.2.2.2.2.2.2.2.2.2.2.2.2.2.2.2.2.2.2.2.1 z.2.2.2.2.2.2.2.2.2.2.2.2.2.2.2.2.2.2.2.2.2.2.2.2.2.1 z.2.2.2.2.2.2.2.2.2.2.2.2.2.2.2.2.2.2.2.2.2.2.2.2.2.2.1 z.2.2.2.2.2.2.2.2.2.2.2.2.2.2.2.2.2.2.2.2.2.2.2.2.2.2.2.1 z.2.2.2.2.2.2.2.2.2.2.2.2.2.2.2.2.2.2.2.2.2.2.2.2.2.2.2.2.1 z.2.2.2.2.2.2.2.2.2.2.2.2.2.2.2.2.2.2.2.2.2.2.2.2.2.2.2.2.2.1 z.2.2.2.2.2.2.2.2.2.2.2.2.2.2.2.2.2.2.2.2.2.2.2.2.2.2.2.2.2.2.1 z.2.2.2.2.2.2.2.2.2.2.2.2.2.2.2.2.2.2.2.2.2.2.2.2.2.2.2.2.2.2.2.1 z.2.2.2.2.2.2.2.2.2.2.2.2.2.2.2.2.2.2.2.2.2.2.2.2.2.2.2.2.2.2.2.2.1 z.2.2.2.2.2.2.2.2.2.2.2.2.2.2.2.2.2.2.2.2.2.2.2.2.2.2.2.2.2.2.2.2.2.1 z.2.2.2.2.2.2.2.2.2.2.2.2.2.2.2.2.2.2.2.2.2.2.2.2.2.2.2.2.2.2.2.2.2.2.1 z.2.2.2.2.2.2.2.2.2.2.2.2.2.2.2.2.2.2.2.2.2.2.2.2.2.2.2.2.2.2.2.2.2.2.2.1 z.2.2.2.2.2.2.2.2.2.2.2.2.2.2.2.2.2.2.2.2.2.2.2.2.2.2.2.2.2.2.2.2.2.2.2.2.1 z.2.2.2.2.2.2.2.2.2.2.2.2.2.2.2.2.2.2.2.2.2.2.2.2.2.2.2.2.2.2.2.2.2.2.2.2.2.1 z.2.2.2.2.2.2.2.2.2.2.2.2.2.2.2.2.2.2.2.2.2.2.2.2.2.2.2.2.2.2.2.2.2.2.2.2.2.2.1 z.2.2.2.2.2.2.2.2.2.2.2.2.2.2.2.2.2.2.2.2.2.2.2.2.2.2.2.2.2.2.2.2.2.2.2.2.2.2.2.1 z.2.2.2.2.2.2.2.2.2.2.2.2.2.2.2.2.2.2.2.2.2.2.2.2.2.2.2.2.2.2.2.2.2.2.2.2.2.2.2.2.1 z.2.2.2.2.2.2.2.2.2.2.2.2.2.2.2.2.2.2.2.2.2.2.2.2.2.2.2.2.2.2.2.2.2.2.2.2.2.2.2.2.2.1 z.2.2.2.2.2.2.2.2.2.2.2.2.2.2.2.2.2.2.2.2.2.2.2.2.2.2.2.2.2.2.2.2.2.2.2.2.2.2.2.2.2.2.1 z.2.2.2.2.2.2.2.2.2.2.2.2.2.2.2.2.2.2.2.2.2.2.2.2.2.2.2.2.2.2.2.2.2.2.2.2.2.2.2.2.2.2.2.1 z.2.2.2.2.2.2.2.2.2.2.2.2.2.2.2.2.2.2.2.2.2.2.2.2.2.2.2.2.2.2.2.2.2.2.2.2.2.2.2.2.2.2.2.2.1 z.2.2.2.2.2.2.2.2.2.2.2.2.2.2.2.2.2.2.2.2.2.2.2.2.2.2.2.2.2.2.2.2.2.2.2.2.2.2.2.2.2.2.2.2.2.1 z.2.2.2.2.2.2.2.2.2.2.2.2.2.2.2.2.2.2.2.2.2.2.2.2.2.2.2.2.2.2.2.2.2.2.2.2.2.2.2.2.2.2.2.2.2.2.1 z.2.2.2.2.2.2.2.2.2.2.2.2.2.2.2.2.2.2.2.2.2.2.2.2.2.2.2.2.2.2.2.2.2.2.2.2.2.2.2.2.2.2.2.2.2.2.2.1 z.2.2.2.2.2.2.2.2.2.2.2.2.2.2.2.2.2.2.2.2.2.2.2.2.2.2.2.2.2.2.2.2.2.2.2.2.2.2.2.2.2.2.2.2.2.2.2.2.1 z.2.2.2.2.2.2.2.2.2.2.2.2.2.2.2.2.2.2.2.2.2.2.2.2.2.2.2.2.2.2.2.2.2.2.2.2.2.2.2.2.2.2.2.2.2.2.2.2.2.1 z.2.2.2.2.2.2.2.2.2.2.2.2.2.2.2.2.2.2.2.2.2.2.2.2.2.2.2.2.2.2.2.2.2.2.2.2.2.2.2.2.2.2.2.2.2.2.2.2.2.2.1 z.2.2.2.2.2.2.2.2.2.2.2.2.2.2.2.2.2.2.2.2.2.2.2.2.2.2.2.2.2.2.2.2.2.2.2.2.2.2.2.2.2.2.2.2.2.2.2.2.2.2.2.1 z.2.2.2.2.2.2.2.2.2.2.2.2.2.2.2.2.2.2.2.2.2.2.2.2.2.2.2.2.2.2.2.2.2.2.2.2.2.2.2.2.2.2.2.2.2.2.2.2.2.2.2.2.1 z.2.2.2.2.2.2.2.2.2.2.2.2.2.2.2.2.2.2.2.2.2.2.2.2.2.2.2.2.2.2.2.2.2.2.2.2.2.2.2.2.2.2.2.2.2.2.2.2.2.2.2.2.2.1)) (Option.some.inj hF)) hP hD hS
