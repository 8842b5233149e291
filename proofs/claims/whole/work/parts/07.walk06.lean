/-! Written by wip/whole/gen.py: walks of X5_sweep, X5_improve, X1_isSpot, X1_leftOf, X1_middleOf, X1_addMiddles, X1_endOf, X1_greatestEnd, X1_move, X1_pack, X1_wanted, X1_straighten. -/
abbrev rX5_sweep : Room := { frames := 4, cells := 0, slots := 0, locals := 113 }
theorem uX5_sweep : yX5_sweep.cls = RX5 ∧ yX5_sweep.cls ≠ "java/lang/invoke/MethodHandle" ∧ yX5_sweep.cls ≠ "java/lang/invoke/VarHandle" ∧ (parseMethodDescriptor yX5_sweep.desc).map (fun d => d.parameters.length) = some 1 := by decide +kernel
set_option maxHeartbeats 4000000 in
set_option maxRecDepth 100000 in
theorem tX5_sweep (l : Launch) (dC : Nat → ClassId) (dI : Nat → Nat → Nat) (cI cZ : ClassId) (aS : Nat → Nat) (aO : Nat → Nat) (sz : Nat) (P_size : Nat → Int32) (P_uppers : Nat → Int32) (P_lowers : Nat → Int32) (X_upper : Nat → Int32) (X_lower : Nat → Int32) (Q_own : Nat → Int32) (Q_far : Nat → Int32) (Q_degree : Nat → Int32) (Q_seen : Nat → Int32) (Q_median : Nat → Int32) (Q_stood : Nat → Int32) (Q_sorted : Nat → Int32) (Q_spots : Nat → Int32) (Q_movers : Int32) (O_layers : Int32) (O_size : Nat → Int32) (O_rows : Nat → Int32) (O_places : Nat → Int32) (O_home : Nat → Int32) (res : (Nat → Int32) × (Nat → Int32) × (Nat → Int32) × (Nat → Int32) × (Nat → Int32) × (Nat → Int32) × (Nat → Int32) × (Nat → Int32) × (Nat → Int32) × (Nat → Int32) × Int32 × (Nat → Int32) × (Nat → Int32) × (Nat → Int32)) (hF : fX5_sweep P_size P_uppers P_lowers X_upper X_lower Q_own Q_far Q_degree Q_seen Q_median Q_stood Q_sorted Q_spots Q_movers O_layers O_size O_rows O_places O_home = some res) : q_Mv l yX5_sweep wsX5_sweep rX5_sweep (dC, dI) (q_ty cI cZ) [.ref (aS 19), .ref (aO 0)] (iX5_sweep aS aO cI cZ P_size P_uppers P_lowers X_upper X_lower Q_own Q_far Q_degree Q_seen Q_median Q_stood Q_sorted Q_spots Q_movers O_layers O_size O_rows O_places O_home) (iX5_sweep aS aO cI cZ P_size P_uppers P_lowers res.1 res.2.1 res.2.2.1 res.2.2.2.1 res.2.2.2.2.1 res.2.2.2.2.2.1 res.2.2.2.2.2.2.1 res.2.2.2.2.2.2.2.1 res.2.2.2.2.2.2.2.2.1 res.2.2.2.2.2.2.2.2.2.1 res.2.2.2.2.2.2.2.2.2.2.1 O_layers O_size res.2.2.2.2.2.2.2.2.2.2.2.1 res.2.2.2.2.2.2.2.2.2.2.2.2.1 res.2.2.2.2.2.2.2.2.2.2.2.2.2) sz := by
  refine q_metv (cc := cX5_sweep) (maxL := 3) (by decide) rfl (Nat.le_of_ble_eq_true rfl) ?_
  intro p e s m args below meth c Q A H locs ls C hP hD hS hl hret
  obtain ⟨hx, hb, hml, hown, hts, hA, hK⟩ := C
  replace hl : lv_has ls 3 [(0, .ref (aS 19)), (1, .ref (aO 0))] := hl
  unfold fX5_sweep at hF
  refine lv_iconst (v := 1) hx hb dX5_sweep_0 (by decide) ?_
  refine lv_istore_n (lv' := [(2, .int 1), (0, .ref (aS 19)), (1, .ref (aO 0))]) hx hb dX5_sweep_1 rfl hl (by decide) rfl (fun ls hl => ?_)
  obtain ⟨q1_0, q1_1, q1_2, q1_3, q1_4, q1_5, q1_6, q1_7, q1_8, q1_9, q1_10, q1_11, q1_12, q1_13, hc1, hF⟩ := q_bd14 hF
  have X1 : ∀ (u1_0 : Nat → Int32) (u1_1 : Nat → Int32) (u1_2 : Nat → Int32) (u1_3 : Nat → Int32) (u1_4 : Nat → Int32) (u1_5 : Nat → Int32) (u1_6 : Nat → Int32) (u1_7 : Nat → Int32) (u1_8 : Nat → Int32) (u1_9 : Nat → Int32) (u1_10 : Int32) (u1_11 : Nat → Int32) (u1_12 : Nat → Int32) (u1_13 : Nat → Int32), (u1_0, u1_1, u1_2, u1_3, u1_4, u1_5, u1_6, u1_7, u1_8, u1_9, u1_10, u1_11, u1_12, u1_13) = (q1_0, q1_1, q1_2, q1_3, q1_4, q1_5, q1_6, q1_7, q1_8, q1_9, q1_10, q1_11, q1_12, q1_13) → ∀ (H : Heap) (locs : List Loc) (ls : Array Slot), va_P (dC, dI) vwCl (iX5_sweep aS aO cI cZ P_size P_uppers P_lowers u1_0 u1_1 u1_2 u1_3 u1_4 u1_5 u1_6 u1_7 u1_8 u1_9 u1_10 O_layers O_size u1_11 u1_12 u1_13) H → va_D A (iX5_sweep aS aO cI cZ P_size P_uppers P_lowers u1_0 u1_1 u1_2 u1_3 u1_4 u1_5 u1_6 u1_7 u1_8 u1_9 u1_10 O_layers O_size u1_11 u1_12 u1_13) → va_S A s.heap H locs → lv_has ls 3 [(0, .ref (aS 19)), (1, .ref (aO 0))] → W p l e (headSpec wsX5_sweep (rX5_sweep)).room s m args below meth c H locs 0 0 Q (F0 m 23 ls []) := by
    intro u1_0 u1_1 u1_2 u1_3 u1_4 u1_5 u1_6 u1_7 u1_8 u1_9 u1_10 u1_11 u1_12 u1_13 hu H locs ls hP hD hS hl
    obtain ⟨e0, e1, e2, e3, e4, e5, e6, e7, e8, e9, e10, e11, e12, e13⟩ := q_inj14 hu
    subst e0 e1 e2 e3 e4 e5 e6 e7 e8 e9 e10 e11 e12 e13
    refine lv_aload_n hx hb dX5_sweep_23 rfl (lv_at hl 1 rfl) ?_
    obtain ⟨q4, hcq4, hF⟩ := q_bd hF
    refine q_Vi (As := []) (rest := []) ⟨hx, hb, hml, hown, hts⟩ hA hK hP hD hS (tX4_layers l dC dI cI cZ aO H.size O_layers q4 hcq4) (cwV 0 hts gX5_sweep_X4_layers rfl rfl rfl uX4_layers ⟨Nat.le_of_ble_eq_true rfl, Nat.le_of_ble_eq_true rfl⟩) [16] [(false, 0), (false, 1), (false, 2), (false, 3), (false, 4), (false, 5), (false, 6), (false, 7), (false, 8), (false, 9), (false, 10), (false, 11), (false, 12), (false, 13), (false, 14), (false, 15), (true, 0), (false, 17), (false, 18), (false, 19), (false, 20)] (iX5_sweep aS aO cI cZ P_size P_uppers P_lowers u1_0 u1_1 u1_2 u1_3 u1_4 u1_5 u1_6 u1_7 u1_8 u1_9 u1_10 O_layers O_size u1_11 u1_12 u1_13) rfl rfl rfl rfl rfl 4 0 rfl rfl rfl rfl hl.1 rfl (Nat.le_of_ble_eq_true rfl) dX5_sweep_24 ⟨Nat.zero_le _, Nat.zero_le _⟩ (fun H locs hP hD hS => ?_)
    refine lv_iconst (v := 2) hx hb dX5_sweep_27 (by decide) ?_
    refine lv_isub hx hb dX5_sweep_28 ?_
    refine lv_istore_n (lv' := [(2, .int (q4 - 2)), (0, .ref (aS 19)), (1, .ref (aO 0))]) hx hb dX5_sweep_29 rfl hl (by decide) rfl (fun ls hl => ?_)
    obtain ⟨q5_0, q5_1, q5_2, q5_3, q5_4, q5_5, q5_6, q5_7, q5_8, q5_9, q5_10, q5_11, q5_12, q5_13, hc5, hF⟩ := q_bd14 hF
    have X5 : ∀ (u5_0 : Nat → Int32) (u5_1 : Nat → Int32) (u5_2 : Nat → Int32) (u5_3 : Nat → Int32) (u5_4 : Nat → Int32) (u5_5 : Nat → Int32) (u5_6 : Nat → Int32) (u5_7 : Nat → Int32) (u5_8 : Nat → Int32) (u5_9 : Nat → Int32) (u5_10 : Int32) (u5_11 : Nat → Int32) (u5_12 : Nat → Int32) (u5_13 : Nat → Int32), (u5_0, u5_1, u5_2, u5_3, u5_4, u5_5, u5_6, u5_7, u5_8, u5_9, u5_10, u5_11, u5_12, u5_13) = (q5_0, q5_1, q5_2, q5_3, q5_4, q5_5, q5_6, q5_7, q5_8, q5_9, q5_10, q5_11, q5_12, q5_13) → ∀ (H : Heap) (locs : List Loc) (ls : Array Slot), va_P (dC, dI) vwCl (iX5_sweep aS aO cI cZ P_size P_uppers P_lowers u5_0 u5_1 u5_2 u5_3 u5_4 u5_5 u5_6 u5_7 u5_8 u5_9 u5_10 O_layers O_size u5_11 u5_12 u5_13) H → va_D A (iX5_sweep aS aO cI cZ P_size P_uppers P_lowers u5_0 u5_1 u5_2 u5_3 u5_4 u5_5 u5_6 u5_7 u5_8 u5_9 u5_10 O_layers O_size u5_11 u5_12 u5_13) → va_S A s.heap H locs → lv_has ls 3 [] → W p l e (headSpec wsX5_sweep (rX5_sweep)).room s m args below meth c H locs 0 0 Q (F0 m 47 ls []) := by
      intro u5_0 u5_1 u5_2 u5_3 u5_4 u5_5 u5_6 u5_7 u5_8 u5_9 u5_10 u5_11 u5_12 u5_13 hu H locs ls hP hD hS hl
      obtain ⟨e0, e1, e2, e3, e4, e5, e6, e7, e8, e9, e10, e11, e12, e13⟩ := q_inj14 hu
      subst e0 e1 e2 e3 e4 e5 e6 e7 e8 e9 e10 e11 e12 e13
      exact hret H locs ls 47 _ dX5_sweep_47 (congrArg (fun z : (Nat → Int32) × (Nat → Int32) × (Nat → Int32) × (Nat → Int32) × (Nat → Int32) × (Nat → Int32) × (Nat → Int32) × (Nat → Int32) × (Nat → Int32) × (Nat → Int32) × Int32 × (Nat → Int32) × (Nat → Int32) × (Nat → Int32) => (iX5_sweep aS aO cI cZ P_size P_uppers P_lowers z.1 z.2.1 z.2.2.1 z.2.2.2.1 z.2.2.2.2.1 z.2.2.2.2.2.1 z.2.2.2.2.2.2.1 z.2.2.2.2.2.2.2.1 z.2.2.2.2.2.2.2.2.1 z.2.2.2.2.2.2.2.2.2.1 z.2.2.2.2.2.2.2.2.2.2.1 O_layers O_size z.2.2.2.2.2.2.2.2.2.2.2.1 z.2.2.2.2.2.2.2.2.2.2.2.2.1 z.2.2.2.2.2.2.2.2.2.2.2.2.2)) (Option.some.inj hF)) hP hD hS
    have L5 : ∀ st : Int32 × (Nat → Int32) × (Nat → Int32) × (Nat → Int32) × (Nat → Int32) × (Nat → Int32) × (Nat → Int32) × (Nat → Int32) × (Nat → Int32) × (Nat → Int32) × (Nat → Int32) × Int32 × (Nat → Int32) × (Nat → Int32) × (Nat → Int32), q_lo (fun (st : Int32 × (Nat → Int32) × (Nat → Int32) × (Nat → Int32) × (Nat → Int32) × (Nat → Int32) × (Nat → Int32) × (Nat → Int32) × (Nat → Int32) × (Nat → Int32) × (Nat → Int32) × Int32 × (Nat → Int32) × (Nat → Int32) × (Nat → Int32)) => bX5_sweep_30 P_size P_uppers P_lowers O_layers O_size st.1 st.2.1 st.2.2.1 st.2.2.2.1 st.2.2.2.2.1 st.2.2.2.2.2.1 st.2.2.2.2.2.2.1 st.2.2.2.2.2.2.2.1 st.2.2.2.2.2.2.2.2.1 st.2.2.2.2.2.2.2.2.2.1 st.2.2.2.2.2.2.2.2.2.2.1 st.2.2.2.2.2.2.2.2.2.2.2.1 st.2.2.2.2.2.2.2.2.2.2.2.2.1 st.2.2.2.2.2.2.2.2.2.2.2.2.2.1 st.2.2.2.2.2.2.2.2.2.2.2.2.2.2) st = some (q5_0, q5_1, q5_2, q5_3, q5_4, q5_5, q5_6, q5_7, q5_8, q5_9, q5_10, q5_11, q5_12, q5_13) → ∀ (H : Heap) (locs : List Loc) (ls : Array Slot), va_P (dC, dI) vwCl (iX5_sweep aS aO cI cZ P_size P_uppers P_lowers st.2.1 st.2.2.1 st.2.2.2.1 st.2.2.2.2.1 st.2.2.2.2.2.1 st.2.2.2.2.2.2.1 st.2.2.2.2.2.2.2.1 st.2.2.2.2.2.2.2.2.1 st.2.2.2.2.2.2.2.2.2.1 st.2.2.2.2.2.2.2.2.2.2.1 st.2.2.2.2.2.2.2.2.2.2.2.1 O_layers O_size st.2.2.2.2.2.2.2.2.2.2.2.2.1 st.2.2.2.2.2.2.2.2.2.2.2.2.2.1 st.2.2.2.2.2.2.2.2.2.2.2.2.2.2) H → va_D A (iX5_sweep aS aO cI cZ P_size P_uppers P_lowers st.2.1 st.2.2.1 st.2.2.2.1 st.2.2.2.2.1 st.2.2.2.2.2.1 st.2.2.2.2.2.2.1 st.2.2.2.2.2.2.2.1 st.2.2.2.2.2.2.2.2.1 st.2.2.2.2.2.2.2.2.2.1 st.2.2.2.2.2.2.2.2.2.2.1 st.2.2.2.2.2.2.2.2.2.2.2.1 O_layers O_size st.2.2.2.2.2.2.2.2.2.2.2.2.1 st.2.2.2.2.2.2.2.2.2.2.2.2.2.1 st.2.2.2.2.2.2.2.2.2.2.2.2.2.2) → va_S A s.heap H locs → lv_has ls 3 [(0, .ref (aS 19)), (1, .ref (aO 0)), (2, .int st.1)] → W p l e (headSpec wsX5_sweep (rX5_sweep)).room s m args below meth c H locs 0 0 Q (F0 m 30 ls []) := by
      intro st hst
      refine q_walk (Wh := fun st : Int32 × (Nat → Int32) × (Nat → Int32) × (Nat → Int32) × (Nat → Int32) × (Nat → Int32) × (Nat → Int32) × (Nat → Int32) × (Nat → Int32) × (Nat → Int32) × (Nat → Int32) × Int32 × (Nat → Int32) × (Nat → Int32) × (Nat → Int32) => ∀ (H : Heap) (locs : List Loc) (ls : Array Slot), va_P (dC, dI) vwCl (iX5_sweep aS aO cI cZ P_size P_uppers P_lowers st.2.1 st.2.2.1 st.2.2.2.1 st.2.2.2.2.1 st.2.2.2.2.2.1 st.2.2.2.2.2.2.1 st.2.2.2.2.2.2.2.1 st.2.2.2.2.2.2.2.2.1 st.2.2.2.2.2.2.2.2.2.1 st.2.2.2.2.2.2.2.2.2.2.1 st.2.2.2.2.2.2.2.2.2.2.2.1 O_layers O_size st.2.2.2.2.2.2.2.2.2.2.2.2.1 st.2.2.2.2.2.2.2.2.2.2.2.2.2.1 st.2.2.2.2.2.2.2.2.2.2.2.2.2.2) H → va_D A (iX5_sweep aS aO cI cZ P_size P_uppers P_lowers st.2.1 st.2.2.1 st.2.2.2.1 st.2.2.2.2.1 st.2.2.2.2.2.1 st.2.2.2.2.2.2.1 st.2.2.2.2.2.2.2.1 st.2.2.2.2.2.2.2.2.1 st.2.2.2.2.2.2.2.2.2.1 st.2.2.2.2.2.2.2.2.2.2.1 st.2.2.2.2.2.2.2.2.2.2.2.1 O_layers O_size st.2.2.2.2.2.2.2.2.2.2.2.2.1 st.2.2.2.2.2.2.2.2.2.2.2.2.2.1 st.2.2.2.2.2.2.2.2.2.2.2.2.2.2) → va_S A s.heap H locs → lv_has ls 3 [(0, .ref (aS 19)), (1, .ref (aO 0)), (2, .int st.1)] → W p l e (headSpec wsX5_sweep (rX5_sweep)).room s m args below meth c H locs 0 0 Q (F0 m 30 ls [])) ?_ st hst
      clear hst st hF
      intro st o hF hin hex H locs ls hP hD hS hl
      obtain ⟨x2_5, X_upper_5, X_lower_5, Q_own_5, Q_far_5, Q_degree_5, Q_seen_5, Q_median_5, Q_stood_5, Q_sorted_5, Q_spots_5, Q_movers_5, O_rows_5, O_places_5, O_home_5⟩ := st
      replace hF : bX5_sweep_30 P_size P_uppers P_lowers O_layers O_size x2_5 X_upper_5 X_lower_5 Q_own_5 Q_far_5 Q_degree_5 Q_seen_5 Q_median_5 Q_stood_5 Q_sorted_5 Q_spots_5 Q_movers_5 O_rows_5 O_places_5 O_home_5 = some o := hF
      replace hP : va_P (dC, dI) vwCl (iX5_sweep aS aO cI cZ P_size P_uppers P_lowers X_upper_5 X_lower_5 Q_own_5 Q_far_5 Q_degree_5 Q_seen_5 Q_median_5 Q_stood_5 Q_sorted_5 Q_spots_5 Q_movers_5 O_layers O_size O_rows_5 O_places_5 O_home_5) H := hP
      replace hD : va_D A (iX5_sweep aS aO cI cZ P_size P_uppers P_lowers X_upper_5 X_lower_5 Q_own_5 Q_far_5 Q_degree_5 Q_seen_5 Q_median_5 Q_stood_5 Q_sorted_5 Q_spots_5 Q_movers_5 O_layers O_size O_rows_5 O_places_5 O_home_5) := hD
      replace hl : lv_has ls 3 [(0, .ref (aS 19)), (1, .ref (aO 0)), (2, .int x2_5)] := hl
      unfold bX5_sweep_30 at hF
      refine lv_iload_n hx hb dX5_sweep_30 rfl (lv_at hl 2 rfl) ?_
      refine lv_if_lt (tgt := 47) hx hb dX5_sweep_31 (by decide) (fun hc => ?_) (fun hc => ?_)
      · replace hF := q_t hc hF
        exact X5 _ _ _ _ _ _ _ _ _ _ _ _ _ _ (hex _ (Option.some.inj hF).symm) H locs ls hP hD hS (lv_sub hl [] rfl)
      · replace hF := q_f hc hF
        refine lv_aload_n hx hb dX5_sweep_34 rfl (lv_at hl 0 rfl) ?_
        refine lv_aload_n hx hb dX5_sweep_35 rfl (lv_at hl 1 rfl) ?_
        refine lv_iload_n hx hb dX5_sweep_36 rfl (lv_at hl 2 rfl) ?_
        refine lv_iconst (v := 0) hx hb dX5_sweep_37 (by decide) ?_
        obtain ⟨q6_0, q6_1, q6_2, q6_3, q6_4, q6_5, q6_6, q6_7, q6_8, q6_9, q6_10, q6_11, q6_12, q6_13, hcq6, hF⟩ := q_bd14 hF
        refine q_Vv (As := [.ref (aO 0), .int x2_5, .int 0]) (rest := []) ⟨hx, hb, hml, hown, hts⟩ hA hK hP hD hS (tX5_step l dC dI cI cZ aS aO H.size P_size P_uppers P_lowers X_upper_5 X_lower_5 Q_own_5 Q_far_5 Q_degree_5 Q_seen_5 Q_median_5 Q_stood_5 Q_sorted_5 Q_spots_5 Q_movers_5 O_layers O_size O_rows_5 O_places_5 O_home_5 x2_5 0 (q6_0, q6_1, q6_2, q6_3, q6_4, q6_5, q6_6, q6_7, q6_8, q6_9, q6_10, q6_11, q6_12, q6_13) hcq6) (cwV 3 hts gX5_sweep_X5_step rfl rfl rfl uX5_step ⟨Nat.le_of_ble_eq_true rfl, Nat.le_of_ble_eq_true rfl⟩) [0, 1, 2, 3, 4, 5, 6, 7, 8, 9, 10, 11, 12, 13, 14, 15, 16, 17, 18, 19, 20] [(true, 0), (true, 1), (true, 2), (true, 3), (true, 4), (true, 5), (true, 6), (true, 7), (true, 8), (true, 9), (true, 10), (true, 11), (true, 12), (true, 13), (true, 14), (true, 15), (true, 16), (true, 17), (true, 18), (true, 19), (true, 20)] (iX5_sweep aS aO cI cZ P_size P_uppers P_lowers q6_0 q6_1 q6_2 q6_3 q6_4 q6_5 q6_6 q6_7 q6_8 q6_9 q6_10 O_layers O_size q6_11 q6_12 q6_13) rfl rfl rfl rfl rfl 5 0 rfl rfl rfl rfl hl.1 rfl (Nat.le_of_ble_eq_true rfl) dX5_sweep_38 ⟨Nat.zero_le _, Nat.zero_le _⟩ (fun H locs hP hD hS => ?_)
        refine lv_iinc (v := (x2_5 + (-1))) (lv' := [(2, .int (x2_5 + (-1))), (0, .ref (aS 19)), (1, .ref (aO 0))]) hx hb dX5_sweep_41 hl (k := 2) rfl rfl (by decide) rfl (fun ls hl => ?_)
        refine lv_goto (tgt := 30) hx hb dX5_sweep_44 (by decide) ?_
        exact hin _ (Option.some.inj hF).symm H locs ls hP hD hS (lv_sub hl [1, 2, 0] rfl)
    exact L5 ((q4 - 2), u1_0, u1_1, u1_2, u1_3, u1_4, u1_5, u1_6, u1_7, u1_8, u1_9, u1_10, u1_11, u1_12, u1_13) hc5 H locs ls hP hD hS (lv_sub hl [1, 2, 0] rfl)
  have L1 : ∀ st : Int32 × (Nat → Int32) × (Nat → Int32) × (Nat → Int32) × (Nat → Int32) × (Nat → Int32) × (Nat → Int32) × (Nat → Int32) × (Nat → Int32) × (Nat → Int32) × (Nat → Int32) × Int32 × (Nat → Int32) × (Nat → Int32) × (Nat → Int32), q_lo (fun (st : Int32 × (Nat → Int32) × (Nat → Int32) × (Nat → Int32) × (Nat → Int32) × (Nat → Int32) × (Nat → Int32) × (Nat → Int32) × (Nat → Int32) × (Nat → Int32) × (Nat → Int32) × Int32 × (Nat → Int32) × (Nat → Int32) × (Nat → Int32)) => bX5_sweep_2 P_size P_uppers P_lowers O_layers O_size st.1 st.2.1 st.2.2.1 st.2.2.2.1 st.2.2.2.2.1 st.2.2.2.2.2.1 st.2.2.2.2.2.2.1 st.2.2.2.2.2.2.2.1 st.2.2.2.2.2.2.2.2.1 st.2.2.2.2.2.2.2.2.2.1 st.2.2.2.2.2.2.2.2.2.2.1 st.2.2.2.2.2.2.2.2.2.2.2.1 st.2.2.2.2.2.2.2.2.2.2.2.2.1 st.2.2.2.2.2.2.2.2.2.2.2.2.2.1 st.2.2.2.2.2.2.2.2.2.2.2.2.2.2) st = some (q1_0, q1_1, q1_2, q1_3, q1_4, q1_5, q1_6, q1_7, q1_8, q1_9, q1_10, q1_11, q1_12, q1_13) → ∀ (H : Heap) (locs : List Loc) (ls : Array Slot), va_P (dC, dI) vwCl (iX5_sweep aS aO cI cZ P_size P_uppers P_lowers st.2.1 st.2.2.1 st.2.2.2.1 st.2.2.2.2.1 st.2.2.2.2.2.1 st.2.2.2.2.2.2.1 st.2.2.2.2.2.2.2.1 st.2.2.2.2.2.2.2.2.1 st.2.2.2.2.2.2.2.2.2.1 st.2.2.2.2.2.2.2.2.2.2.1 st.2.2.2.2.2.2.2.2.2.2.2.1 O_layers O_size st.2.2.2.2.2.2.2.2.2.2.2.2.1 st.2.2.2.2.2.2.2.2.2.2.2.2.2.1 st.2.2.2.2.2.2.2.2.2.2.2.2.2.2) H → va_D A (iX5_sweep aS aO cI cZ P_size P_uppers P_lowers st.2.1 st.2.2.1 st.2.2.2.1 st.2.2.2.2.1 st.2.2.2.2.2.1 st.2.2.2.2.2.2.1 st.2.2.2.2.2.2.2.1 st.2.2.2.2.2.2.2.2.1 st.2.2.2.2.2.2.2.2.2.1 st.2.2.2.2.2.2.2.2.2.2.1 st.2.2.2.2.2.2.2.2.2.2.2.1 O_layers O_size st.2.2.2.2.2.2.2.2.2.2.2.2.1 st.2.2.2.2.2.2.2.2.2.2.2.2.2.1 st.2.2.2.2.2.2.2.2.2.2.2.2.2.2) → va_S A s.heap H locs → lv_has ls 3 [(0, .ref (aS 19)), (1, .ref (aO 0)), (2, .int st.1)] → W p l e (headSpec wsX5_sweep (rX5_sweep)).room s m args below meth c H locs 0 0 Q (F0 m 2 ls []) := by
    intro st hst
    refine q_walk (Wh := fun st : Int32 × (Nat → Int32) × (Nat → Int32) × (Nat → Int32) × (Nat → Int32) × (Nat → Int32) × (Nat → Int32) × (Nat → Int32) × (Nat → Int32) × (Nat → Int32) × (Nat → Int32) × Int32 × (Nat → Int32) × (Nat → Int32) × (Nat → Int32) => ∀ (H : Heap) (locs : List Loc) (ls : Array Slot), va_P (dC, dI) vwCl (iX5_sweep aS aO cI cZ P_size P_uppers P_lowers st.2.1 st.2.2.1 st.2.2.2.1 st.2.2.2.2.1 st.2.2.2.2.2.1 st.2.2.2.2.2.2.1 st.2.2.2.2.2.2.2.1 st.2.2.2.2.2.2.2.2.1 st.2.2.2.2.2.2.2.2.2.1 st.2.2.2.2.2.2.2.2.2.2.1 st.2.2.2.2.2.2.2.2.2.2.2.1 O_layers O_size st.2.2.2.2.2.2.2.2.2.2.2.2.1 st.2.2.2.2.2.2.2.2.2.2.2.2.2.1 st.2.2.2.2.2.2.2.2.2.2.2.2.2.2) H → va_D A (iX5_sweep aS aO cI cZ P_size P_uppers P_lowers st.2.1 st.2.2.1 st.2.2.2.1 st.2.2.2.2.1 st.2.2.2.2.2.1 st.2.2.2.2.2.2.1 st.2.2.2.2.2.2.2.1 st.2.2.2.2.2.2.2.2.1 st.2.2.2.2.2.2.2.2.2.1 st.2.2.2.2.2.2.2.2.2.2.1 st.2.2.2.2.2.2.2.2.2.2.2.1 O_layers O_size st.2.2.2.2.2.2.2.2.2.2.2.2.1 st.2.2.2.2.2.2.2.2.2.2.2.2.2.1 st.2.2.2.2.2.2.2.2.2.2.2.2.2.2) → va_S A s.heap H locs → lv_has ls 3 [(0, .ref (aS 19)), (1, .ref (aO 0)), (2, .int st.1)] → W p l e (headSpec wsX5_sweep (rX5_sweep)).room s m args below meth c H locs 0 0 Q (F0 m 2 ls [])) ?_ st hst
    clear hst st hF
    intro st o hF hin hex H locs ls hP hD hS hl
    obtain ⟨x2_1, X_upper_1, X_lower_1, Q_own_1, Q_far_1, Q_degree_1, Q_seen_1, Q_median_1, Q_stood_1, Q_sorted_1, Q_spots_1, Q_movers_1, O_rows_1, O_places_1, O_home_1⟩ := st
    replace hF : bX5_sweep_2 P_size P_uppers P_lowers O_layers O_size x2_1 X_upper_1 X_lower_1 Q_own_1 Q_far_1 Q_degree_1 Q_seen_1 Q_median_1 Q_stood_1 Q_sorted_1 Q_spots_1 Q_movers_1 O_rows_1 O_places_1 O_home_1 = some o := hF
    replace hP : va_P (dC, dI) vwCl (iX5_sweep aS aO cI cZ P_size P_uppers P_lowers X_upper_1 X_lower_1 Q_own_1 Q_far_1 Q_degree_1 Q_seen_1 Q_median_1 Q_stood_1 Q_sorted_1 Q_spots_1 Q_movers_1 O_layers O_size O_rows_1 O_places_1 O_home_1) H := hP
    replace hD : va_D A (iX5_sweep aS aO cI cZ P_size P_uppers P_lowers X_upper_1 X_lower_1 Q_own_1 Q_far_1 Q_degree_1 Q_seen_1 Q_median_1 Q_stood_1 Q_sorted_1 Q_spots_1 Q_movers_1 O_layers O_size O_rows_1 O_places_1 O_home_1) := hD
    replace hl : lv_has ls 3 [(0, .ref (aS 19)), (1, .ref (aO 0)), (2, .int x2_1)] := hl
    unfold bX5_sweep_2 at hF
    refine lv_iload_n hx hb dX5_sweep_2 rfl (lv_at hl 2 rfl) ?_
    refine lv_aload_n hx hb dX5_sweep_3 rfl (lv_at hl 1 rfl) ?_
    obtain ⟨q2, hcq2, hF⟩ := q_bd hF
    refine q_Vi (As := []) (rest := [.int x2_1]) ⟨hx, hb, hml, hown, hts⟩ hA hK hP hD hS (tX4_layers l dC dI cI cZ aO H.size O_layers q2 hcq2) (cwV 0 hts gX5_sweep_X4_layers rfl rfl rfl uX4_layers ⟨Nat.le_of_ble_eq_true rfl, Nat.le_of_ble_eq_true rfl⟩) [16] [(false, 0), (false, 1), (false, 2), (false, 3), (false, 4), (false, 5), (false, 6), (false, 7), (false, 8), (false, 9), (false, 10), (false, 11), (false, 12), (false, 13), (false, 14), (false, 15), (true, 0), (false, 17), (false, 18), (false, 19), (false, 20)] (iX5_sweep aS aO cI cZ P_size P_uppers P_lowers X_upper_1 X_lower_1 Q_own_1 Q_far_1 Q_degree_1 Q_seen_1 Q_median_1 Q_stood_1 Q_sorted_1 Q_spots_1 Q_movers_1 O_layers O_size O_rows_1 O_places_1 O_home_1) rfl rfl rfl rfl rfl 4 0 rfl rfl rfl rfl hl.1 rfl (Nat.le_of_ble_eq_true rfl) dX5_sweep_4 ⟨Nat.zero_le _, Nat.zero_le _⟩ (fun H locs hP hD hS => ?_)
    refine lv_icmp_ge (tgt := 23) hx hb dX5_sweep_7 (by decide) (fun hc => ?_) (fun hc => ?_)
    · replace hF := q_t hc hF
      exact X1 _ _ _ _ _ _ _ _ _ _ _ _ _ _ (hex _ (Option.some.inj hF).symm) H locs ls hP hD hS (lv_sub hl [0, 1] rfl)
    · replace hF := q_f hc hF
      refine lv_aload_n hx hb dX5_sweep_10 rfl (lv_at hl 0 rfl) ?_
      refine lv_aload_n hx hb dX5_sweep_11 rfl (lv_at hl 1 rfl) ?_
      refine lv_iload_n hx hb dX5_sweep_12 rfl (lv_at hl 2 rfl) ?_
      refine lv_iconst (v := 1) hx hb dX5_sweep_13 (by decide) ?_
      obtain ⟨q3_0, q3_1, q3_2, q3_3, q3_4, q3_5, q3_6, q3_7, q3_8, q3_9, q3_10, q3_11, q3_12, q3_13, hcq3, hF⟩ := q_bd14 hF
      refine q_Vv (As := [.ref (aO 0), .int x2_1, .int 1]) (rest := []) ⟨hx, hb, hml, hown, hts⟩ hA hK hP hD hS (tX5_step l dC dI cI cZ aS aO H.size P_size P_uppers P_lowers X_upper_1 X_lower_1 Q_own_1 Q_far_1 Q_degree_1 Q_seen_1 Q_median_1 Q_stood_1 Q_sorted_1 Q_spots_1 Q_movers_1 O_layers O_size O_rows_1 O_places_1 O_home_1 x2_1 1 (q3_0, q3_1, q3_2, q3_3, q3_4, q3_5, q3_6, q3_7, q3_8, q3_9, q3_10, q3_11, q3_12, q3_13) hcq3) (cwV 3 hts gX5_sweep_X5_step rfl rfl rfl uX5_step ⟨Nat.le_of_ble_eq_true rfl, Nat.le_of_ble_eq_true rfl⟩) [0, 1, 2, 3, 4, 5, 6, 7, 8, 9, 10, 11, 12, 13, 14, 15, 16, 17, 18, 19, 20] [(true, 0), (true, 1), (true, 2), (true, 3), (true, 4), (true, 5), (true, 6), (true, 7), (true, 8), (true, 9), (true, 10), (true, 11), (true, 12), (true, 13), (true, 14), (true, 15), (true, 16), (true, 17), (true, 18), (true, 19), (true, 20)] (iX5_sweep aS aO cI cZ P_size P_uppers P_lowers q3_0 q3_1 q3_2 q3_3 q3_4 q3_5 q3_6 q3_7 q3_8 q3_9 q3_10 O_layers O_size q3_11 q3_12 q3_13) rfl rfl rfl rfl rfl 5 0 rfl rfl rfl rfl hl.1 rfl (Nat.le_of_ble_eq_true rfl) dX5_sweep_14 ⟨Nat.zero_le _, Nat.zero_le _⟩ (fun H locs hP hD hS => ?_)
      refine lv_iinc (v := (x2_1 + 1)) (lv' := [(2, .int (x2_1 + 1)), (0, .ref (aS 19)), (1, .ref (aO 0))]) hx hb dX5_sweep_17 hl (k := 2) rfl rfl (by decide) rfl (fun ls hl => ?_)
      refine lv_goto (tgt := 2) hx hb dX5_sweep_20 (by decide) ?_
      exact hin _ (Option.some.inj hF).symm H locs ls hP hD hS (lv_sub hl [1, 2, 0] rfl)
  exact L1 (1, X_upper, X_lower, Q_own, Q_far, Q_degree, Q_seen, Q_median, Q_stood, Q_sorted, Q_spots, Q_movers, O_rows, O_places, O_home) hc1 H locs ls hP hD hS (lv_sub hl [1, 2, 0] rfl)
abbrev rX5_improve : Room := { frames := 19, cells := 0, slots := 0, locals := 566 }
theorem eX5_improve_X5 : ∀ w ∈ u_ws RX5 TX5 12, w ∈ wsX5_improve := by decide +kernel
theorem uX5_improve : yX5_improve.cls = RX5 ∧ yX5_improve.cls ≠ "java/lang/invoke/MethodHandle" ∧ yX5_improve.cls ≠ "java/lang/invoke/VarHandle" ∧ (parseMethodDescriptor yX5_improve.desc).map (fun d => d.parameters.length) = some 2 := by decide +kernel
set_option maxHeartbeats 4000000 in
set_option maxRecDepth 100000 in
theorem tX5_improve (l : Launch) (dC : Nat → ClassId) (dI : Nat → Nat → Nat) (cI cZ : ClassId) (aS : Nat → Nat) (aO : Nat → Nat) (sz : Nat) (P_size : Nat → Int32) (P_uppers : Nat → Int32) (P_lowers : Nat → Int32) (X_upper : Nat → Int32) (X_lower : Nat → Int32) (Q_own : Nat → Int32) (Q_far : Nat → Int32) (Q_degree : Nat → Int32) (Q_seen : Nat → Int32) (Q_median : Nat → Int32) (Q_stood : Nat → Int32) (Q_sorted : Nat → Int32) (Q_spots : Nat → Int32) (Q_movers : Int32) (B_cost : Nat → Int32) (B_above : Nat → Int32) (B_below : Nat → Int32) (B_codes : Nat → Int32) (B_used : Nat → Int32) (B_chosen : Nat → Int32) (B_best : Nat → Int32) (B_bestCost : Int32) (B_size : Int32) (O_layers : Int32) (O_size : Nat → Int32) (O_rows : Nat → Int32) (O_places : Nat → Int32) (O_home : Nat → Int32) (p1 : Int32) (res : (Nat → Int32) × (Nat → Int32) × (Nat → Int32) × (Nat → Int32) × (Nat → Int32) × (Nat → Int32) × (Nat → Int32) × (Nat → Int32) × (Nat → Int32) × (Nat → Int32) × Int32 × (Nat → Int32) × (Nat → Int32) × (Nat → Int32) × (Nat → Int32) × (Nat → Int32) × (Nat → Int32) × (Nat → Int32) × Int32 × Int32 × (Nat → Int32) × (Nat → Int32) × (Nat → Int32)) (hF : fX5_improve P_size P_uppers P_lowers X_upper X_lower Q_own Q_far Q_degree Q_seen Q_median Q_stood Q_sorted Q_spots Q_movers B_cost B_above B_below B_codes B_used B_chosen B_best B_bestCost B_size O_layers O_size O_rows O_places O_home p1 = some res) : q_Mv l yX5_improve wsX5_improve rX5_improve (dC, dI) (q_ty cI cZ) [.ref (aS 19), .ref (aO 0), .int p1] (iX5_improve aS aO cI cZ P_size P_uppers P_lowers X_upper X_lower Q_own Q_far Q_degree Q_seen Q_median Q_stood Q_sorted Q_spots Q_movers B_cost B_above B_below B_codes B_used B_chosen B_best B_bestCost B_size O_layers O_size O_rows O_places O_home) (iX5_improve aS aO cI cZ P_size P_uppers P_lowers res.1 res.2.1 res.2.2.1 res.2.2.2.1 res.2.2.2.2.1 res.2.2.2.2.2.1 res.2.2.2.2.2.2.1 res.2.2.2.2.2.2.2.1 res.2.2.2.2.2.2.2.2.1 res.2.2.2.2.2.2.2.2.2.1 res.2.2.2.2.2.2.2.2.2.2.1 res.2.2.2.2.2.2.2.2.2.2.2.1 res.2.2.2.2.2.2.2.2.2.2.2.2.1 res.2.2.2.2.2.2.2.2.2.2.2.2.2.1 res.2.2.2.2.2.2.2.2.2.2.2.2.2.2.1 res.2.2.2.2.2.2.2.2.2.2.2.2.2.2.2.1 res.2.2.2.2.2.2.2.2.2.2.2.2.2.2.2.2.1 res.2.2.2.2.2.2.2.2.2.2.2.2.2.2.2.2.2.1 res.2.2.2.2.2.2.2.2.2.2.2.2.2.2.2.2.2.2.1 res.2.2.2.2.2.2.2.2.2.2.2.2.2.2.2.2.2.2.2.1 O_layers O_size res.2.2.2.2.2.2.2.2.2.2.2.2.2.2.2.2.2.2.2.2.1 res.2.2.2.2.2.2.2.2.2.2.2.2.2.2.2.2.2.2.2.2.2.1 res.2.2.2.2.2.2.2.2.2.2.2.2.2.2.2.2.2.2.2.2.2.2) sz := by
  refine q_metv (cc := cX5_improve) (maxL := 4) (by decide) rfl (Nat.le_of_ble_eq_true rfl) ?_
  intro p e s m args below meth c Q A H locs ls C hP hD hS hl hret
  obtain ⟨hx, hb, hml, hown, hts, hA, hK⟩ := C
  replace hl : lv_has ls 4 [(0, .ref (aS 19)), (1, .ref (aO 0)), (2, .int p1)] := hl
  have k0 := hts (.fieldLink RX5 49 "RouteLayout$Orderer" "bestRow" "LRouteLayout$BestRow;") (by decide +kernel)
  unfold fX5_improve at hF
  refine lv_iconst (v := 0) hx hb dX5_improve_0 (by decide) ?_
  refine lv_istore_n (lv' := [(3, .int 0), (0, .ref (aS 19)), (1, .ref (aO 0)), (2, .int p1)]) hx hb dX5_improve_1 rfl hl (by decide) rfl (fun ls hl => ?_)
  obtain ⟨q1_0, q1_1, q1_2, q1_3, q1_4, q1_5, q1_6, q1_7, q1_8, q1_9, q1_10, q1_11, q1_12, q1_13, hc1, hF⟩ := q_bd14 hF
  have X1 : ∀ (u1_0 : Nat → Int32) (u1_1 : Nat → Int32) (u1_2 : Nat → Int32) (u1_3 : Nat → Int32) (u1_4 : Nat → Int32) (u1_5 : Nat → Int32) (u1_6 : Nat → Int32) (u1_7 : Nat → Int32) (u1_8 : Nat → Int32) (u1_9 : Nat → Int32) (u1_10 : Int32) (u1_11 : Nat → Int32) (u1_12 : Nat → Int32) (u1_13 : Nat → Int32), (u1_0, u1_1, u1_2, u1_3, u1_4, u1_5, u1_6, u1_7, u1_8, u1_9, u1_10, u1_11, u1_12, u1_13) = (q1_0, q1_1, q1_2, q1_3, q1_4, q1_5, q1_6, q1_7, q1_8, q1_9, q1_10, q1_11, q1_12, q1_13) → ∀ (H : Heap) (locs : List Loc) (ls : Array Slot), va_P (dC, dI) vwCl (iX5_improve aS aO cI cZ P_size P_uppers P_lowers u1_0 u1_1 u1_2 u1_3 u1_4 u1_5 u1_6 u1_7 u1_8 u1_9 u1_10 B_cost B_above B_below B_codes B_used B_chosen B_best B_bestCost B_size O_layers O_size u1_11 u1_12 u1_13) H → va_D A (iX5_improve aS aO cI cZ P_size P_uppers P_lowers u1_0 u1_1 u1_2 u1_3 u1_4 u1_5 u1_6 u1_7 u1_8 u1_9 u1_10 B_cost B_above B_below B_codes B_used B_chosen B_best B_bestCost B_size O_layers O_size u1_11 u1_12 u1_13) → va_S A s.heap H locs → lv_has ls 4 [(0, .ref (aS 19)), (1, .ref (aO 0))] → W p l e (headSpec wsX5_improve (rX5_improve)).room s m args below meth c H locs 0 0 Q (F0 m 18 ls []) := by
    intro u1_0 u1_1 u1_2 u1_3 u1_4 u1_5 u1_6 u1_7 u1_8 u1_9 u1_10 u1_11 u1_12 u1_13 hu H locs ls hP hD hS hl
    obtain ⟨e0, e1, e2, e3, e4, e5, e6, e7, e8, e9, e10, e11, e12, e13⟩ := q_inj14 hu
    subst e0 e1 e2 e3 e4 e5 e6 e7 e8 e9 e10 e11 e12 e13
    refine lv_iconst (v := 1) hx hb dX5_improve_18 (by decide) ?_
    refine lv_istore_n (lv' := [(3, .int 1), (0, .ref (aS 19)), (1, .ref (aO 0))]) hx hb dX5_improve_19 rfl hl (by decide) rfl (fun ls hl => ?_)
    obtain ⟨q3_0, q3_1, q3_2, q3_3, q3_4, q3_5, q3_6, q3_7, q3_8, q3_9, q3_10, q3_11, hc3, hF⟩ := q_bd12 hF
    have X3 : ∀ (u3_0 : Nat → Int32) (u3_1 : Nat → Int32) (u3_2 : Nat → Int32) (u3_3 : Nat → Int32) (u3_4 : Nat → Int32) (u3_5 : Nat → Int32) (u3_6 : Nat → Int32) (u3_7 : Int32) (u3_8 : Int32) (u3_9 : Nat → Int32) (u3_10 : Nat → Int32) (u3_11 : Nat → Int32), (u3_0, u3_1, u3_2, u3_3, u3_4, u3_5, u3_6, u3_7, u3_8, u3_9, u3_10, u3_11) = (q3_0, q3_1, q3_2, q3_3, q3_4, q3_5, q3_6, q3_7, q3_8, q3_9, q3_10, q3_11) → ∀ (H : Heap) (locs : List Loc) (ls : Array Slot), va_P (dC, dI) vwCl (iX5_improve aS aO cI cZ P_size P_uppers P_lowers u1_0 u1_1 u1_2 u1_3 u1_4 u1_5 u1_6 u1_7 u1_8 u1_9 u1_10 u3_0 u3_1 u3_2 u3_3 u3_4 u3_5 u3_6 u3_7 u3_8 O_layers O_size u3_9 u3_10 u3_11) H → va_D A (iX5_improve aS aO cI cZ P_size P_uppers P_lowers u1_0 u1_1 u1_2 u1_3 u1_4 u1_5 u1_6 u1_7 u1_8 u1_9 u1_10 u3_0 u3_1 u3_2 u3_3 u3_4 u3_5 u3_6 u3_7 u3_8 O_layers O_size u3_9 u3_10 u3_11) → va_S A s.heap H locs → lv_has ls 4 [] → W p l e (headSpec wsX5_improve (rX5_improve)).room s m args below meth c H locs 0 0 Q (F0 m 43 ls []) := by
      intro u3_0 u3_1 u3_2 u3_3 u3_4 u3_5 u3_6 u3_7 u3_8 u3_9 u3_10 u3_11 hu H locs ls hP hD hS hl
      obtain ⟨e0, e1, e2, e3, e4, e5, e6, e7, e8, e9, e10, e11⟩ := q_inj12 hu
      subst e0 e1 e2 e3 e4 e5 e6 e7 e8 e9 e10 e11
      exact hret H locs ls 43 _ dX5_improve_43 (congrArg (fun z : (Nat → Int32) × (Nat → Int32) × (Nat → Int32) × (Nat → Int32) × (Nat → Int32) × (Nat → Int32) × (Nat → Int32) × (Nat → Int32) × (Nat → Int32) × (Nat → Int32) × Int32 × (Nat → Int32) × (Nat → Int32) × (Nat → Int32) × (Nat → Int32) × (Nat → Int32) × (Nat → Int32) × (Nat → Int32) × Int32 × Int32 × (Nat → Int32) × (Nat → Int32) × (Nat → Int32) => (iX5_improve aS aO cI cZ P_size P_uppers P_lowers z.1 z.2.1 z.2.2.1 z.2.2.2.1 z.2.2.2.2.1 z.2.2.2.2.2.1 z.2.2.2.2.2.2.1 z.2.2.2.2.2.2.2.1 z.2.2.2.2.2.2.2.2.1 z.2.2.2.2.2.2.2.2.2.1 z.2.2.2.2.2.2.2.2.2.2.1 z.2.2.2.2.2.2.2.2.2.2.2.1 z.2.2.2.2.2.2.2.2.2.2.2.2.1 z.2.2.2.2.2.2.2.2.2.2.2.2.2.1 z.2.2.2.2.2.2.2.2.2.2.2.2.2.2.1 z.2.2.2.2.2.2.2.2.2.2.2.2.2.2.2.1 z.2.2.2.2.2.2.2.2.2.2.2.2.2.2.2.2.1 z.2.2.2.2.2.2.2.2.2.2.2.2.2.2.2.2.2.1 z.2.2.2.2.2.2.2.2.2.2.2.2.2.2.2.2.2.2.1 z.2.2.2.2.2.2.2.2.2.2.2.2.2.2.2.2.2.2.2.1 O_layers O_size z.2.2.2.2.2.2.2.2.2.2.2.2.2.2.2.2.2.2.2.2.1 z.2.2.2.2.2.2.2.2.2.2.2.2.2.2.2.2.2.2.2.2.2.1 z.2.2.2.2.2.2.2.2.2.2.2.2.2.2.2.2.2.2.2.2.2.2)) (Option.some.inj hF)) hP hD hS
    have L3 : ∀ st : Int32 × (Nat → Int32) × (Nat → Int32) × (Nat → Int32) × (Nat → Int32) × (Nat → Int32) × (Nat → Int32) × (Nat → Int32) × Int32 × Int32 × (Nat → Int32) × (Nat → Int32) × (Nat → Int32), q_lo (fun (st : Int32 × (Nat → Int32) × (Nat → Int32) × (Nat → Int32) × (Nat → Int32) × (Nat → Int32) × (Nat → Int32) × (Nat → Int32) × Int32 × Int32 × (Nat → Int32) × (Nat → Int32) × (Nat → Int32)) => bX5_improve_20 P_size P_uppers P_lowers O_layers O_size st.1 st.2.1 st.2.2.1 st.2.2.2.1 st.2.2.2.2.1 st.2.2.2.2.2.1 st.2.2.2.2.2.2.1 st.2.2.2.2.2.2.2.1 st.2.2.2.2.2.2.2.2.1 st.2.2.2.2.2.2.2.2.2.1 st.2.2.2.2.2.2.2.2.2.2.1 st.2.2.2.2.2.2.2.2.2.2.2.1 st.2.2.2.2.2.2.2.2.2.2.2.2) st = some (q3_0, q3_1, q3_2, q3_3, q3_4, q3_5, q3_6, q3_7, q3_8, q3_9, q3_10, q3_11) → ∀ (H : Heap) (locs : List Loc) (ls : Array Slot), va_P (dC, dI) vwCl (iX5_improve aS aO cI cZ P_size P_uppers P_lowers u1_0 u1_1 u1_2 u1_3 u1_4 u1_5 u1_6 u1_7 u1_8 u1_9 u1_10 st.2.1 st.2.2.1 st.2.2.2.1 st.2.2.2.2.1 st.2.2.2.2.2.1 st.2.2.2.2.2.2.1 st.2.2.2.2.2.2.2.1 st.2.2.2.2.2.2.2.2.1 st.2.2.2.2.2.2.2.2.2.1 O_layers O_size st.2.2.2.2.2.2.2.2.2.2.1 st.2.2.2.2.2.2.2.2.2.2.2.1 st.2.2.2.2.2.2.2.2.2.2.2.2) H → va_D A (iX5_improve aS aO cI cZ P_size P_uppers P_lowers u1_0 u1_1 u1_2 u1_3 u1_4 u1_5 u1_6 u1_7 u1_8 u1_9 u1_10 st.2.1 st.2.2.1 st.2.2.2.1 st.2.2.2.2.1 st.2.2.2.2.2.1 st.2.2.2.2.2.2.1 st.2.2.2.2.2.2.2.1 st.2.2.2.2.2.2.2.2.1 st.2.2.2.2.2.2.2.2.2.1 O_layers O_size st.2.2.2.2.2.2.2.2.2.2.1 st.2.2.2.2.2.2.2.2.2.2.2.1 st.2.2.2.2.2.2.2.2.2.2.2.2) → va_S A s.heap H locs → lv_has ls 4 [(0, .ref (aS 19)), (1, .ref (aO 0)), (3, .int st.1)] → W p l e (headSpec wsX5_improve (rX5_improve)).room s m args below meth c H locs 0 0 Q (F0 m 20 ls []) := by
      intro st hst
      refine q_walk (Wh := fun st : Int32 × (Nat → Int32) × (Nat → Int32) × (Nat → Int32) × (Nat → Int32) × (Nat → Int32) × (Nat → Int32) × (Nat → Int32) × Int32 × Int32 × (Nat → Int32) × (Nat → Int32) × (Nat → Int32) => ∀ (H : Heap) (locs : List Loc) (ls : Array Slot), va_P (dC, dI) vwCl (iX5_improve aS aO cI cZ P_size P_uppers P_lowers u1_0 u1_1 u1_2 u1_3 u1_4 u1_5 u1_6 u1_7 u1_8 u1_9 u1_10 st.2.1 st.2.2.1 st.2.2.2.1 st.2.2.2.2.1 st.2.2.2.2.2.1 st.2.2.2.2.2.2.1 st.2.2.2.2.2.2.2.1 st.2.2.2.2.2.2.2.2.1 st.2.2.2.2.2.2.2.2.2.1 O_layers O_size st.2.2.2.2.2.2.2.2.2.2.1 st.2.2.2.2.2.2.2.2.2.2.2.1 st.2.2.2.2.2.2.2.2.2.2.2.2) H → va_D A (iX5_improve aS aO cI cZ P_size P_uppers P_lowers u1_0 u1_1 u1_2 u1_3 u1_4 u1_5 u1_6 u1_7 u1_8 u1_9 u1_10 st.2.1 st.2.2.1 st.2.2.2.1 st.2.2.2.2.1 st.2.2.2.2.2.1 st.2.2.2.2.2.2.1 st.2.2.2.2.2.2.2.1 st.2.2.2.2.2.2.2.2.1 st.2.2.2.2.2.2.2.2.2.1 O_layers O_size st.2.2.2.2.2.2.2.2.2.2.1 st.2.2.2.2.2.2.2.2.2.2.2.1 st.2.2.2.2.2.2.2.2.2.2.2.2) → va_S A s.heap H locs → lv_has ls 4 [(0, .ref (aS 19)), (1, .ref (aO 0)), (3, .int st.1)] → W p l e (headSpec wsX5_improve (rX5_improve)).room s m args below meth c H locs 0 0 Q (F0 m 20 ls [])) ?_ st hst
      clear hst st hF
      intro st o hF hin hex H locs ls hP hD hS hl
      obtain ⟨x3_3, B_cost_3, B_above_3, B_below_3, B_codes_3, B_used_3, B_chosen_3, B_best_3, B_bestCost_3, B_size_3, O_rows_3, O_places_3, O_home_3⟩ := st
      replace hF : bX5_improve_20 P_size P_uppers P_lowers O_layers O_size x3_3 B_cost_3 B_above_3 B_below_3 B_codes_3 B_used_3 B_chosen_3 B_best_3 B_bestCost_3 B_size_3 O_rows_3 O_places_3 O_home_3 = some o := hF
      replace hP : va_P (dC, dI) vwCl (iX5_improve aS aO cI cZ P_size P_uppers P_lowers u1_0 u1_1 u1_2 u1_3 u1_4 u1_5 u1_6 u1_7 u1_8 u1_9 u1_10 B_cost_3 B_above_3 B_below_3 B_codes_3 B_used_3 B_chosen_3 B_best_3 B_bestCost_3 B_size_3 O_layers O_size O_rows_3 O_places_3 O_home_3) H := hP
      replace hD : va_D A (iX5_improve aS aO cI cZ P_size P_uppers P_lowers u1_0 u1_1 u1_2 u1_3 u1_4 u1_5 u1_6 u1_7 u1_8 u1_9 u1_10 B_cost_3 B_above_3 B_below_3 B_codes_3 B_used_3 B_chosen_3 B_best_3 B_bestCost_3 B_size_3 O_layers O_size O_rows_3 O_places_3 O_home_3) := hD
      replace hl : lv_has ls 4 [(0, .ref (aS 19)), (1, .ref (aO 0)), (3, .int x3_3)] := hl
      unfold bX5_improve_20 at hF
      refine lv_iload_n hx hb dX5_improve_20 rfl (lv_at hl 2 rfl) ?_
      refine lv_aload_n hx hb dX5_improve_21 rfl (lv_at hl 1 rfl) ?_
      obtain ⟨q4, hcq4, hF⟩ := q_bd hF
      refine q_Vi (As := []) (rest := [.int x3_3]) ⟨hx, hb, hml, hown, hts⟩ hA hK hP hD hS (tX4_layers l dC dI cI cZ aO H.size O_layers q4 hcq4) (cwV 0 hts gX5_improve_X4_layers rfl rfl rfl uX4_layers ⟨Nat.le_of_ble_eq_true rfl, Nat.le_of_ble_eq_true rfl⟩) [24] [(false, 0), (false, 1), (false, 2), (false, 3), (false, 4), (false, 5), (false, 6), (false, 7), (false, 8), (false, 9), (false, 10), (false, 11), (false, 12), (false, 13), (false, 14), (false, 15), (false, 16), (false, 17), (false, 18), (false, 19), (false, 20), (false, 21), (false, 22), (false, 23), (true, 0), (false, 25), (false, 26), (false, 27), (false, 28)] (iX5_improve aS aO cI cZ P_size P_uppers P_lowers u1_0 u1_1 u1_2 u1_3 u1_4 u1_5 u1_6 u1_7 u1_8 u1_9 u1_10 B_cost_3 B_above_3 B_below_3 B_codes_3 B_used_3 B_chosen_3 B_best_3 B_bestCost_3 B_size_3 O_layers O_size O_rows_3 O_places_3 O_home_3) rfl rfl rfl rfl rfl 4 0 rfl rfl rfl rfl hl.1 rfl (Nat.le_of_ble_eq_true rfl) dX5_improve_22 ⟨Nat.zero_le _, Nat.zero_le _⟩ (fun H locs hP hD hS => ?_)
      refine lv_icmp_ge (tgt := 43) hx hb dX5_improve_25 (by decide) (fun hc => ?_) (fun hc => ?_)
      · replace hF := q_t hc hF
        exact X3 _ _ _ _ _ _ _ _ _ _ _ _ (hex _ (Option.some.inj hF).symm) H locs ls hP hD hS (lv_sub hl [] rfl)
      · replace hF := q_f hc hF
        refine lv_aload_n hx hb dX5_improve_28 rfl (lv_at hl 0 rfl) ?_
        refine q_get (ci := 5) (C := RX5) (T := TX5) (N := 12) hx hb hts eX5_improve_X5 hown hK hP 0 rfl rfl 2 (Nat.le_of_ble_eq_true rfl) k0 rfl rfl dX5_improve_29 ?_
        refine lv_aload_n hx hb dX5_improve_32 rfl (lv_at hl 1 rfl) ?_
        refine lv_iload_n hx hb dX5_improve_33 rfl (lv_at hl 2 rfl) ?_
        obtain ⟨q5_0, q5_1, q5_2, q5_3, q5_4, q5_5, q5_6, q5_7, q5_8, q5_9, q5_10, q5_11, hcq5, hF⟩ := q_bd12 hF
        refine q_Vv (As := [.ref (aO 0), .int x3_3]) (rest := []) ⟨hx, hb, hml, hown, hts⟩ hA hK hP hD hS (tX0_arrange l dC dI cI cZ aS aO H.size P_size P_uppers P_lowers B_cost_3 B_above_3 B_below_3 B_codes_3 B_used_3 B_chosen_3 B_best_3 B_bestCost_3 B_size_3 O_layers O_size O_rows_3 O_places_3 O_home_3 x3_3 (q5_0, q5_1, q5_2, q5_3, q5_4, q5_5, q5_6, q5_7, q5_8, q5_9, q5_10, q5_11) hcq5) (cwV 2 hts gX5_improve_X0_arrange rfl rfl rfl uX0_arrange ⟨Nat.le_of_ble_eq_true rfl, Nat.le_of_ble_eq_true rfl⟩) [16, 1, 2, 3, 4, 17, 18, 19, 20, 21, 22, 23, 24, 25, 26, 27, 28] [(false, 0), (true, 1), (true, 2), (true, 3), (true, 4), (false, 5), (false, 6), (false, 7), (false, 8), (false, 9), (false, 10), (false, 11), (false, 12), (false, 13), (false, 14), (false, 15), (true, 0), (true, 5), (true, 6), (true, 7), (true, 8), (true, 9), (true, 10), (true, 11), (true, 12), (true, 13), (true, 14), (true, 15), (true, 16)] (iX5_improve aS aO cI cZ P_size P_uppers P_lowers u1_0 u1_1 u1_2 u1_3 u1_4 u1_5 u1_6 u1_7 u1_8 u1_9 u1_10 q5_0 q5_1 q5_2 q5_3 q5_4 q5_5 q5_6 q5_7 q5_8 O_layers O_size q5_9 q5_10 q5_11) rfl rfl rfl rfl rfl 0 0 rfl rfl rfl rfl hl.1 rfl (Nat.le_of_ble_eq_true rfl) dX5_improve_34 ⟨Nat.zero_le _, Nat.zero_le _⟩ (fun H locs hP hD hS => ?_)
        refine lv_iinc (v := (x3_3 + 1)) (lv' := [(3, .int (x3_3 + 1)), (0, .ref (aS 19)), (1, .ref (aO 0))]) hx hb dX5_improve_37 hl (k := 2) rfl rfl (by decide) rfl (fun ls hl => ?_)
        refine lv_goto (tgt := 20) hx hb dX5_improve_40 (by decide) ?_
        exact hin _ (Option.some.inj hF).symm H locs ls hP hD hS (lv_sub hl [1, 2, 0] rfl)
    exact L3 (1, B_cost, B_above, B_below, B_codes, B_used, B_chosen, B_best, B_bestCost, B_size, u1_11, u1_12, u1_13) hc3 H locs ls hP hD hS (lv_sub hl [1, 2, 0] rfl)
  have L1 : ∀ st : Int32 × (Nat → Int32) × (Nat → Int32) × (Nat → Int32) × (Nat → Int32) × (Nat → Int32) × (Nat → Int32) × (Nat → Int32) × (Nat → Int32) × (Nat → Int32) × (Nat → Int32) × Int32 × (Nat → Int32) × (Nat → Int32) × (Nat → Int32), q_lo (fun (st : Int32 × (Nat → Int32) × (Nat → Int32) × (Nat → Int32) × (Nat → Int32) × (Nat → Int32) × (Nat → Int32) × (Nat → Int32) × (Nat → Int32) × (Nat → Int32) × (Nat → Int32) × Int32 × (Nat → Int32) × (Nat → Int32) × (Nat → Int32)) => bX5_improve_2 P_size P_uppers P_lowers O_layers O_size p1 st.1 st.2.1 st.2.2.1 st.2.2.2.1 st.2.2.2.2.1 st.2.2.2.2.2.1 st.2.2.2.2.2.2.1 st.2.2.2.2.2.2.2.1 st.2.2.2.2.2.2.2.2.1 st.2.2.2.2.2.2.2.2.2.1 st.2.2.2.2.2.2.2.2.2.2.1 st.2.2.2.2.2.2.2.2.2.2.2.1 st.2.2.2.2.2.2.2.2.2.2.2.2.1 st.2.2.2.2.2.2.2.2.2.2.2.2.2.1 st.2.2.2.2.2.2.2.2.2.2.2.2.2.2) st = some (q1_0, q1_1, q1_2, q1_3, q1_4, q1_5, q1_6, q1_7, q1_8, q1_9, q1_10, q1_11, q1_12, q1_13) → ∀ (H : Heap) (locs : List Loc) (ls : Array Slot), va_P (dC, dI) vwCl (iX5_improve aS aO cI cZ P_size P_uppers P_lowers st.2.1 st.2.2.1 st.2.2.2.1 st.2.2.2.2.1 st.2.2.2.2.2.1 st.2.2.2.2.2.2.1 st.2.2.2.2.2.2.2.1 st.2.2.2.2.2.2.2.2.1 st.2.2.2.2.2.2.2.2.2.1 st.2.2.2.2.2.2.2.2.2.2.1 st.2.2.2.2.2.2.2.2.2.2.2.1 B_cost B_above B_below B_codes B_used B_chosen B_best B_bestCost B_size O_layers O_size st.2.2.2.2.2.2.2.2.2.2.2.2.1 st.2.2.2.2.2.2.2.2.2.2.2.2.2.1 st.2.2.2.2.2.2.2.2.2.2.2.2.2.2) H → va_D A (iX5_improve aS aO cI cZ P_size P_uppers P_lowers st.2.1 st.2.2.1 st.2.2.2.1 st.2.2.2.2.1 st.2.2.2.2.2.1 st.2.2.2.2.2.2.1 st.2.2.2.2.2.2.2.1 st.2.2.2.2.2.2.2.2.1 st.2.2.2.2.2.2.2.2.2.1 st.2.2.2.2.2.2.2.2.2.2.1 st.2.2.2.2.2.2.2.2.2.2.2.1 B_cost B_above B_below B_codes B_used B_chosen B_best B_bestCost B_size O_layers O_size st.2.2.2.2.2.2.2.2.2.2.2.2.1 st.2.2.2.2.2.2.2.2.2.2.2.2.2.1 st.2.2.2.2.2.2.2.2.2.2.2.2.2.2) → va_S A s.heap H locs → lv_has ls 4 [(0, .ref (aS 19)), (1, .ref (aO 0)), (2, .int p1), (3, .int st.1)] → W p l e (headSpec wsX5_improve (rX5_improve)).room s m args below meth c H locs 0 0 Q (F0 m 2 ls []) := by
    intro st hst
    refine q_walk (Wh := fun st : Int32 × (Nat → Int32) × (Nat → Int32) × (Nat → Int32) × (Nat → Int32) × (Nat → Int32) × (Nat → Int32) × (Nat → Int32) × (Nat → Int32) × (Nat → Int32) × (Nat → Int32) × Int32 × (Nat → Int32) × (Nat → Int32) × (Nat → Int32) => ∀ (H : Heap) (locs : List Loc) (ls : Array Slot), va_P (dC, dI) vwCl (iX5_improve aS aO cI cZ P_size P_uppers P_lowers st.2.1 st.2.2.1 st.2.2.2.1 st.2.2.2.2.1 st.2.2.2.2.2.1 st.2.2.2.2.2.2.1 st.2.2.2.2.2.2.2.1 st.2.2.2.2.2.2.2.2.1 st.2.2.2.2.2.2.2.2.2.1 st.2.2.2.2.2.2.2.2.2.2.1 st.2.2.2.2.2.2.2.2.2.2.2.1 B_cost B_above B_below B_codes B_used B_chosen B_best B_bestCost B_size O_layers O_size st.2.2.2.2.2.2.2.2.2.2.2.2.1 st.2.2.2.2.2.2.2.2.2.2.2.2.2.1 st.2.2.2.2.2.2.2.2.2.2.2.2.2.2) H → va_D A (iX5_improve aS aO cI cZ P_size P_uppers P_lowers st.2.1 st.2.2.1 st.2.2.2.1 st.2.2.2.2.1 st.2.2.2.2.2.1 st.2.2.2.2.2.2.1 st.2.2.2.2.2.2.2.1 st.2.2.2.2.2.2.2.2.1 st.2.2.2.2.2.2.2.2.2.1 st.2.2.2.2.2.2.2.2.2.2.1 st.2.2.2.2.2.2.2.2.2.2.2.1 B_cost B_above B_below B_codes B_used B_chosen B_best B_bestCost B_size O_layers O_size st.2.2.2.2.2.2.2.2.2.2.2.2.1 st.2.2.2.2.2.2.2.2.2.2.2.2.2.1 st.2.2.2.2.2.2.2.2.2.2.2.2.2.2) → va_S A s.heap H locs → lv_has ls 4 [(0, .ref (aS 19)), (1, .ref (aO 0)), (2, .int p1), (3, .int st.1)] → W p l e (headSpec wsX5_improve (rX5_improve)).room s m args below meth c H locs 0 0 Q (F0 m 2 ls [])) ?_ st hst
    clear hst st hF
    intro st o hF hin hex H locs ls hP hD hS hl
    obtain ⟨x3_1, X_upper_1, X_lower_1, Q_own_1, Q_far_1, Q_degree_1, Q_seen_1, Q_median_1, Q_stood_1, Q_sorted_1, Q_spots_1, Q_movers_1, O_rows_1, O_places_1, O_home_1⟩ := st
    replace hF : bX5_improve_2 P_size P_uppers P_lowers O_layers O_size p1 x3_1 X_upper_1 X_lower_1 Q_own_1 Q_far_1 Q_degree_1 Q_seen_1 Q_median_1 Q_stood_1 Q_sorted_1 Q_spots_1 Q_movers_1 O_rows_1 O_places_1 O_home_1 = some o := hF
    replace hP : va_P (dC, dI) vwCl (iX5_improve aS aO cI cZ P_size P_uppers P_lowers X_upper_1 X_lower_1 Q_own_1 Q_far_1 Q_degree_1 Q_seen_1 Q_median_1 Q_stood_1 Q_sorted_1 Q_spots_1 Q_movers_1 B_cost B_above B_below B_codes B_used B_chosen B_best B_bestCost B_size O_layers O_size O_rows_1 O_places_1 O_home_1) H := hP
    replace hD : va_D A (iX5_improve aS aO cI cZ P_size P_uppers P_lowers X_upper_1 X_lower_1 Q_own_1 Q_far_1 Q_degree_1 Q_seen_1 Q_median_1 Q_stood_1 Q_sorted_1 Q_spots_1 Q_movers_1 B_cost B_above B_below B_codes B_used B_chosen B_best B_bestCost B_size O_layers O_size O_rows_1 O_places_1 O_home_1) := hD
    replace hl : lv_has ls 4 [(0, .ref (aS 19)), (1, .ref (aO 0)), (2, .int p1), (3, .int x3_1)] := hl
    unfold bX5_improve_2 at hF
    refine lv_iload_n hx hb dX5_improve_2 rfl (lv_at hl 3 rfl) ?_
    refine lv_iload_n hx hb dX5_improve_3 rfl (lv_at hl 2 rfl) ?_
    refine lv_icmp_ge (tgt := 18) hx hb dX5_improve_4 (by decide) (fun hc => ?_) (fun hc => ?_)
    · replace hF := q_t hc hF
      exact X1 _ _ _ _ _ _ _ _ _ _ _ _ _ _ (hex _ (Option.some.inj hF).symm) H locs ls hP hD hS (lv_sub hl [0, 1] rfl)
    · replace hF := q_f hc hF
      refine lv_aload_n hx hb dX5_improve_7 rfl (lv_at hl 0 rfl) ?_
      refine lv_aload_n hx hb dX5_improve_8 rfl (lv_at hl 1 rfl) ?_
      obtain ⟨q2_0, q2_1, q2_2, q2_3, q2_4, q2_5, q2_6, q2_7, q2_8, q2_9, q2_10, q2_11, q2_12, q2_13, hcq2, hF⟩ := q_bd14 hF
      refine q_Vv (As := [.ref (aO 0)]) (rest := []) ⟨hx, hb, hml, hown, hts⟩ hA hK hP hD hS (tX5_sweep l dC dI cI cZ aS aO H.size P_size P_uppers P_lowers X_upper_1 X_lower_1 Q_own_1 Q_far_1 Q_degree_1 Q_seen_1 Q_median_1 Q_stood_1 Q_sorted_1 Q_spots_1 Q_movers_1 O_layers O_size O_rows_1 O_places_1 O_home_1 (q2_0, q2_1, q2_2, q2_3, q2_4, q2_5, q2_6, q2_7, q2_8, q2_9, q2_10, q2_11, q2_12, q2_13) hcq2) (cwV 1 hts gX5_improve_X5_sweep rfl rfl rfl uX5_sweep ⟨Nat.le_of_ble_eq_true rfl, Nat.le_of_ble_eq_true rfl⟩) [0, 1, 2, 3, 4, 5, 6, 7, 8, 9, 10, 11, 12, 13, 14, 15, 24, 25, 26, 27, 28] [(true, 0), (true, 1), (true, 2), (true, 3), (true, 4), (true, 5), (true, 6), (true, 7), (true, 8), (true, 9), (true, 10), (true, 11), (true, 12), (true, 13), (true, 14), (true, 15), (false, 16), (false, 17), (false, 18), (false, 19), (false, 20), (false, 21), (false, 22), (false, 23), (true, 16), (true, 17), (true, 18), (true, 19), (true, 20)] (iX5_improve aS aO cI cZ P_size P_uppers P_lowers q2_0 q2_1 q2_2 q2_3 q2_4 q2_5 q2_6 q2_7 q2_8 q2_9 q2_10 B_cost B_above B_below B_codes B_used B_chosen B_best B_bestCost B_size O_layers O_size q2_11 q2_12 q2_13) rfl rfl rfl rfl rfl 5 0 rfl rfl rfl rfl hl.1 rfl (Nat.le_of_ble_eq_true rfl) dX5_improve_9 ⟨Nat.zero_le _, Nat.zero_le _⟩ (fun H locs hP hD hS => ?_)
      refine lv_iinc (v := (x3_1 + 1)) (lv' := [(3, .int (x3_1 + 1)), (0, .ref (aS 19)), (1, .ref (aO 0)), (2, .int p1)]) hx hb dX5_improve_12 hl (k := 3) rfl rfl (by decide) rfl (fun ls hl => ?_)
      refine lv_goto (tgt := 2) hx hb dX5_improve_15 (by decide) ?_
      exact hin _ (Option.some.inj hF).symm H locs ls hP hD hS (lv_sub hl [1, 2, 3, 0] rfl)
  exact L1 (0, X_upper, X_lower, Q_own, Q_far, Q_degree, Q_seen, Q_median, Q_stood, Q_sorted, Q_spots, Q_movers, O_rows, O_places, O_home) hc1 H locs ls hP hD hS (lv_sub hl [1, 2, 3, 0] rfl)
abbrev rX1_isSpot : Room := { frames := 0, cells := 0, slots := 0, locals := 0 }
theorem uX1_isSpot : yX1_isSpot.cls ≠ "java/lang/invoke/MethodHandle" ∧ yX1_isSpot.cls ≠ "java/lang/invoke/VarHandle" ∧ (parseMethodDescriptor yX1_isSpot.desc).map (fun d => d.parameters.length) = some 2 := by decide +kernel
set_option maxHeartbeats 4000000 in
set_option maxRecDepth 100000 in
theorem tX1_isSpot (l : Launch) (dC : Nat → ClassId) (dI : Nat → Nat → Nat) (cI cZ : ClassId) (sz : Nat) (p0 : Int32) (p1 : Int32) (res : Int32) (hF : fX1_isSpot p0 p1 = some res) : q_Mi l yX1_isSpot wsX1_isSpot rX1_isSpot (dC, dI) (q_ty cI cZ) [.int p0, .int p1] (iX1_isSpot cI cZ) (iX1_isSpot cI cZ) sz res := by
  refine q_metz (cc := cX1_isSpot) (maxL := 2) (by decide) rfl (Nat.le_of_ble_eq_true rfl) ?_
  intro p e s m args below meth c Q A H locs ls C hP hD hS hl hret
  obtain ⟨hx, hb, hml, hown, hts, hA, hK⟩ := C
  replace hl : lv_has ls 2 [(0, .int p0), (1, .int p1)] := hl
  unfold fX1_isSpot at hF
  refine lv_iload_n hx hb dX1_isSpot_0 rfl (lv_at hl 0 rfl) ?_
  refine lv_if_lt (tgt := 24) hx hb dX1_isSpot_1 (by decide) (fun hc => ?_) (fun hc => ?_)
  · replace hF := q_t hc hF
    refine lv_iconst (v := 0) hx hb dX1_isSpot_24 (by decide) ?_
    exact hret H locs ls 25 _ _ dX1_isSpot_25 (Or.inl rfl) (Option.some.inj hF) rfl hP hD hS
  · replace hF := q_f hc hF
    refine lv_iload_n hx hb dX1_isSpot_4 rfl (lv_at hl 0 rfl) ?_
    refine lv_bipush (v := 24) hx hb dX1_isSpot_5 (by decide) ?_
    refine lv_icmp_ge (tgt := 24) hx hb dX1_isSpot_7 (by decide) (fun hc => ?_) (fun hc => ?_)
    · replace hF := q_t hc hF
      refine lv_iconst (v := 0) hx hb dX1_isSpot_24 (by decide) ?_
      exact hret H locs ls 25 _ _ dX1_isSpot_25 (Or.inl rfl) (Option.some.inj hF) rfl hP hD hS
    · replace hF := q_f hc hF
      refine lv_iload_n hx hb dX1_isSpot_10 rfl (lv_at hl 1 rfl) ?_
      refine lv_if_lt (tgt := 24) hx hb dX1_isSpot_11 (by decide) (fun hc => ?_) (fun hc => ?_)
      · replace hF := q_t hc hF
        refine lv_iconst (v := 0) hx hb dX1_isSpot_24 (by decide) ?_
        exact hret H locs ls 25 _ _ dX1_isSpot_25 (Or.inl rfl) (Option.some.inj hF) rfl hP hD hS
      · replace hF := q_f hc hF
        refine lv_iload_n hx hb dX1_isSpot_14 rfl (lv_at hl 1 rfl) ?_
        refine lv_bipush (v := 40) hx hb dX1_isSpot_15 (by decide) ?_
        refine lv_icmp_ge (tgt := 24) hx hb dX1_isSpot_17 (by decide) (fun hc => ?_) (fun hc => ?_)
        · replace hF := q_t hc hF
          refine lv_iconst (v := 0) hx hb dX1_isSpot_24 (by decide) ?_
          exact hret H locs ls 25 _ _ dX1_isSpot_25 (Or.inl rfl) (Option.some.inj hF) rfl hP hD hS
        · replace hF := q_f hc hF
          refine lv_iconst (v := 1) hx hb dX1_isSpot_20 (by decide) ?_
          refine lv_goto (tgt := 25) hx hb dX1_isSpot_21 (by decide) ?_
          exact hret H locs ls 25 _ _ dX1_isSpot_25 (Or.inr rfl) (Option.some.inj hF) rfl hP hD hS
abbrev rX1_leftOf : Room := { frames := 1, cells := 0, slots := 0, locals := 21 }
theorem eX1_leftOf_X1 : ∀ w ∈ u_ws RX1 TX1 5, w ∈ wsX1_leftOf := by decide +kernel
theorem uX1_leftOf : yX1_leftOf.cls = RX1 ∧ yX1_leftOf.cls ≠ "java/lang/invoke/MethodHandle" ∧ yX1_leftOf.cls ≠ "java/lang/invoke/VarHandle" ∧ (parseMethodDescriptor yX1_leftOf.desc).map (fun d => d.parameters.length) = some 2 := by decide +kernel
set_option maxHeartbeats 4000000 in
set_option maxRecDepth 100000 in
theorem tX1_leftOf (l : Launch) (dC : Nat → ClassId) (dI : Nat → Nat → Nat) (cI cZ : ClassId) (aS : Nat → Nat) (sz : Nat) (C_x : Nat → Int32) (p0 : Int32) (p1 : Int32) (res : Int32) (hF : fX1_leftOf C_x p0 p1 = some res) : q_Mi l yX1_leftOf wsX1_leftOf rX1_leftOf (dC, dI) (q_ty cI cZ) [.ref (aS 36), .int p0, .int p1] (iX1_leftOf aS cI cZ C_x) (iX1_leftOf aS cI cZ C_x) sz res := by
  refine q_meti (cc := cX1_leftOf) (maxL := 3) (by decide) rfl (Nat.le_of_ble_eq_true rfl) ?_
  intro p e s m args below meth c Q A H locs ls C hP hD hS hl hret
  obtain ⟨hx, hb, hml, hown, hts, hA, hK⟩ := C
  replace hl : lv_has ls 3 [(0, .ref (aS 36)), (1, .int p0), (2, .int p1)] := hl
  have k0 := hts (.fieldLink RX1 9 "RouteLayout$Columns" "x" "[I") (by decide +kernel)
  unfold fX1_leftOf at hF
  refine lv_iload_n hx hb dX1_leftOf_0 rfl (lv_at hl 1 rfl) ?_
  refine lv_iload_n hx hb dX1_leftOf_1 rfl (lv_at hl 2 rfl) ?_
  obtain ⟨q1, hcq1, hF⟩ := q_bd hF
  refine q_Si (As := [.int p0, .int p1]) (rest := []) ⟨hx, hb, hml, hown, hts⟩ hA hK hP hD hS (tX1_isSpot l dC dI cI cZ H.size p0 p1 q1 hcq1) (va_cwS 2 hts gX1_leftOf_X1_isSpot rfl rfl rfl uX1_isSpot ⟨Nat.le_of_ble_eq_true rfl, Nat.le_of_ble_eq_true rfl⟩) [] [(false, 0), (false, 1)] (iX1_leftOf aS cI cZ C_x) rfl rfl rfl rfl rfl rfl hl.1 rfl (Nat.le_of_ble_eq_true rfl) dX1_leftOf_2 ⟨Nat.zero_le _, Nat.zero_le _⟩ (fun H locs hP hD hS => ?_)
  refine lv_if_eq (tgt := 22) hx hb dX1_leftOf_5 (by decide) (fun hc => ?_) (fun hc => ?_)
  · replace hF := q_t hc hF
    refine lv_iconst (v := 0) hx hb dX1_leftOf_22 (by decide) ?_
    exact hret H locs ls 23 _ _ dX1_leftOf_23 (Option.some.inj hF) rfl hP hD hS
  · replace hF := q_f hc hF
    refine lv_aload_n hx hb dX1_leftOf_8 rfl (lv_at hl 0 rfl) ?_
    refine q_get (ci := 1) (C := RX1) (T := TX1) (N := 5) hx hb hts eX1_leftOf_X1 hown hK hP 0 rfl rfl 2 (Nat.le_of_ble_eq_true rfl) k0 rfl rfl dX1_leftOf_9 ?_
    refine lv_iload_n hx hb dX1_leftOf_12 rfl (lv_at hl 1 rfl) ?_
    refine lv_bipush (v := 40) hx hb dX1_leftOf_13 (by decide) ?_
    refine lv_imul hx hb dX1_leftOf_15 ?_
    refine lv_iload_n hx hb dX1_leftOf_16 rfl (lv_at hl 2 rfl) ?_
    refine lv_iadd hx hb dX1_leftOf_17 ?_
    obtain ⟨hn2, hF⟩ := q_ck hF
    refine va_iald hx hb hK hP 1 0 rfl rfl hn2 dX1_leftOf_18 ?_
    refine lv_goto (tgt := 23) hx hb dX1_leftOf_19 (by decide) ?_
    exact hret H locs ls 23 _ _ dX1_leftOf_23 (Option.some.inj hF) rfl hP hD hS
abbrev rX1_middleOf : Room := { frames := 2, cells := 0, slots := 0, locals := 43 }
theorem eX1_middleOf_X1 : ∀ w ∈ u_ws RX1 TX1 5, w ∈ wsX1_middleOf := by decide +kernel
theorem uX1_middleOf : yX1_middleOf.cls = RX1 ∧ yX1_middleOf.cls ≠ "java/lang/invoke/MethodHandle" ∧ yX1_middleOf.cls ≠ "java/lang/invoke/VarHandle" ∧ (parseMethodDescriptor yX1_middleOf.desc).map (fun d => d.parameters.length) = some 2 := by decide +kernel
set_option maxHeartbeats 4000000 in
set_option maxRecDepth 100000 in
theorem tX1_middleOf (l : Launch) (dC : Nat → ClassId) (dI : Nat → Nat → Nat) (cI cZ : ClassId) (aS : Nat → Nat) (sz : Nat) (R_width : Nat → Int32) (C_x : Nat → Int32) (p0 : Int32) (p1 : Int32) (res : Int32) (hF : fX1_middleOf R_width C_x p0 p1 = some res) : q_Mi l yX1_middleOf wsX1_middleOf rX1_middleOf (dC, dI) (q_ty cI cZ) [.ref (aS 36), .int p0, .int p1] (iX1_middleOf aS cI cZ R_width C_x) (iX1_middleOf aS cI cZ R_width C_x) sz res := by
  refine q_meti (cc := cX1_middleOf) (maxL := 3) (by decide) rfl (Nat.le_of_ble_eq_true rfl) ?_
  intro p e s m args below meth c Q A H locs ls C hP hD hS hl hret
  obtain ⟨hx, hb, hml, hown, hts, hA, hK⟩ := C
  replace hl : lv_has ls 3 [(0, .ref (aS 36)), (1, .int p0), (2, .int p1)] := hl
  have k0 := hts (.fieldLink RX1 21 "RouteLayout$Columns" "routes" "LRouteLayout$Routes;") (by decide +kernel)
  unfold fX1_middleOf at hF
  refine lv_aload_n hx hb dX1_middleOf_0 rfl (lv_at hl 0 rfl) ?_
  refine lv_iload_n hx hb dX1_middleOf_1 rfl (lv_at hl 1 rfl) ?_
  refine lv_iload_n hx hb dX1_middleOf_2 rfl (lv_at hl 2 rfl) ?_
  obtain ⟨q1, hcq1, hF⟩ := q_bd hF
  refine q_Vi (As := [.int p0, .int p1]) (rest := []) ⟨hx, hb, hml, hown, hts⟩ hA hK hP hD hS (tX1_leftOf l dC dI cI cZ aS H.size C_x p0 p1 q1 hcq1) (cwV 2 hts gX1_middleOf_X1_leftOf rfl rfl rfl uX1_leftOf ⟨Nat.le_of_ble_eq_true rfl, Nat.le_of_ble_eq_true rfl⟩) [0, 3] [(true, 0), (false, 1), (false, 2), (true, 1)] (iX1_middleOf aS cI cZ R_width C_x) rfl rfl rfl rfl rfl 1 0 rfl rfl rfl rfl hl.1 rfl (Nat.le_of_ble_eq_true rfl) dX1_middleOf_3 ⟨Nat.zero_le _, Nat.zero_le _⟩ (fun H locs hP hD hS => ?_)
  refine lv_aload_n hx hb dX1_middleOf_6 rfl (lv_at hl 0 rfl) ?_
  refine q_get (ci := 1) (C := RX1) (T := TX1) (N := 5) hx hb hts eX1_middleOf_X1 hown hK hP 0 rfl rfl 0 (Nat.le_of_ble_eq_true rfl) k0 rfl rfl dX1_middleOf_7 ?_
  refine lv_iload_n hx hb dX1_middleOf_10 rfl (lv_at hl 2 rfl) ?_
  obtain ⟨q2, hcq2, hF⟩ := q_bd hF
  refine q_Vi (As := [.int p1]) (rest := [.int q1]) ⟨hx, hb, hml, hown, hts⟩ hA hK hP hD hS (tX7_widthOf l dC dI cI cZ aS H.size R_width p1 q2 hcq2) (cwV 1 hts gX1_middleOf_X7_widthOf rfl rfl rfl uX7_widthOf ⟨Nat.le_of_ble_eq_true rfl, Nat.le_of_ble_eq_true rfl⟩) [1, 2] [(false, 0), (true, 0), (true, 1), (false, 3)] (iX1_middleOf aS cI cZ R_width C_x) rfl rfl rfl rfl rfl 7 0 rfl rfl rfl rfl hl.1 rfl (Nat.le_of_ble_eq_true rfl) dX1_middleOf_11 ⟨Nat.zero_le _, Nat.zero_le _⟩ (fun H locs hP hD hS => ?_)
  refine lv_iconst (v := 2) hx hb dX1_middleOf_14 (by decide) ?_
  refine lv_idiv hx hb dX1_middleOf_15 (by decide) ?_
  refine lv_iadd hx hb dX1_middleOf_16 ?_
  exact hret H locs ls 17 _ _ dX1_middleOf_17 (Option.some.inj hF) rfl hP hD hS
abbrev rX1_addMiddles : Room := { frames := 3, cells := 0, slots := 0, locals := 65 }
theorem eX1_addMiddles_X1 : ∀ w ∈ u_ws RX1 TX1 5, w ∈ wsX1_addMiddles := by decide +kernel
theorem uX1_addMiddles : yX1_addMiddles.cls = RX1 ∧ yX1_addMiddles.cls ≠ "java/lang/invoke/MethodHandle" ∧ yX1_addMiddles.cls ≠ "java/lang/invoke/VarHandle" ∧ (parseMethodDescriptor yX1_addMiddles.desc).map (fun d => d.parameters.length) = some 2 := by decide +kernel
set_option maxHeartbeats 4000000 in
set_option maxRecDepth 100000 in
theorem tX1_addMiddles (l : Launch) (dC : Nat → ClassId) (dI : Nat → Nat → Nat) (cI cZ : ClassId) (aS : Nat → Nat) (sz : Nat) (R_width : Nat → Int32) (P_size : Nat → Int32) (P_uppers : Nat → Int32) (P_lowers : Nat → Int32) (C_x : Nat → Int32) (C_sum : Nat → Int32) (C_degree : Nat → Int32) (p0 : Int32) (p1 : Int32) (res : (Nat → Int32) × (Nat → Int32)) (hF : fX1_addMiddles R_width P_size P_uppers P_lowers C_x p0 p1 = some res) : q_Mv l yX1_addMiddles wsX1_addMiddles rX1_addMiddles (dC, dI) (q_ty cI cZ) [.ref (aS 36), .int p0, .int p1] (iX1_addMiddles aS cI cZ R_width P_size P_uppers P_lowers C_x C_sum C_degree) (iX1_addMiddles aS cI cZ R_width P_size P_uppers P_lowers C_x res.1 res.2) sz := by
  refine q_metv (cc := cX1_addMiddles) (maxL := 7) (by decide) rfl (Nat.le_of_ble_eq_true rfl) ?_
  intro p e s m args below meth c Q A H locs ls C hP hD hS hl hret
  obtain ⟨hx, hb, hml, hown, hts, hA, hK⟩ := C
  replace hl : lv_has ls 7 [(0, .ref (aS 36)), (1, .int p0), (2, .int p1)] := hl
  have k0 := hts (.fieldLink RX1 15 "RouteLayout$Columns" "sum" "[I") (by decide +kernel)
  have k1 := hts (.fieldLink RX1 25 "RouteLayout$Columns" "pieces" "LRouteLayout$Pieces;") (by decide +kernel)
  have k2 := hts (.fieldLink RX1 18 "RouteLayout$Columns" "degree" "[I") (by decide +kernel)
  unfold fX1_addMiddles at hF
  have JX1_ADDMIDDLES_41 : ∀ (C_sum_1 : Nat → Int32) (C_degree_1 : Nat → Int32) (x2_1 : Int32) (x3_1 : Int32) (s0_1 : Int32), jX1_addMiddles_41 R_width P_size P_uppers P_lowers C_x C_sum_1 C_degree_1 x2_1 x3_1 s0_1 = some res → ∀ (H : Heap) (locs : List Loc) (ls : Array Slot), va_P (dC, dI) vwCl (iX1_addMiddles aS cI cZ R_width P_size P_uppers P_lowers C_x C_sum_1 C_degree_1) H → va_D A (iX1_addMiddles aS cI cZ R_width P_size P_uppers P_lowers C_x C_sum_1 C_degree_1) → va_S A s.heap H locs → lv_has ls 7 [(0, .ref (aS 36)), (2, .int x2_1), (3, .int x3_1)] → W p l e (headSpec wsX1_addMiddles (rX1_addMiddles)).room s m args below meth c H locs 0 0 Q (F0 m 41 ls [.int s0_1]) := by
    intro C_sum_1 C_degree_1 x2_1 x3_1 s0_1 hF H locs ls hP hD hS hl
    unfold jX1_addMiddles_41 at hF
    refine lv_istore (lv' := [(4, .int s0_1), (0, .ref (aS 36)), (2, .int x2_1), (3, .int x3_1)]) hx hb dX1_addMiddles_41 hl (by decide) rfl (fun ls hl => ?_)
    refine lv_iconst (v := 0) hx hb dX1_addMiddles_43 (by decide) ?_
    refine lv_istore (lv' := [(5, .int 0), (4, .int s0_1), (0, .ref (aS 36)), (2, .int x2_1), (3, .int x3_1)]) hx hb dX1_addMiddles_44 hl (by decide) rfl (fun ls hl => ?_)
    obtain ⟨q2_0, q2_1, hc2, hF⟩ := q_bd2 hF
    have X2 : ∀ (u2_0 : Nat → Int32) (u2_1 : Nat → Int32), (u2_0, u2_1) = (q2_0, q2_1) → ∀ (H : Heap) (locs : List Loc) (ls : Array Slot), va_P (dC, dI) vwCl (iX1_addMiddles aS cI cZ R_width P_size P_uppers P_lowers C_x u2_0 u2_1) H → va_D A (iX1_addMiddles aS cI cZ R_width P_size P_uppers P_lowers C_x u2_0 u2_1) → va_S A s.heap H locs → lv_has ls 7 [] → W p l e (headSpec wsX1_addMiddles (rX1_addMiddles)).room s m args below meth c H locs 0 0 Q (F0 m 136 ls []) := by
      intro u2_0 u2_1 hu H locs ls hP hD hS hl
      obtain ⟨e0, e1⟩ := q_inj2 hu
      subst e0 e1
      exact hret H locs ls 136 _ dX1_addMiddles_136 (congrArg (fun z : (Nat → Int32) × (Nat → Int32) => (iX1_addMiddles aS cI cZ R_width P_size P_uppers P_lowers C_x z.1 z.2)) (Option.some.inj hF)) hP hD hS
    have L2 : ∀ st : Int32 × (Nat → Int32) × (Nat → Int32), q_lo (fun (st : Int32 × (Nat → Int32) × (Nat → Int32)) => bX1_addMiddles_46 R_width P_size P_uppers P_lowers C_x x2_1 x3_1 s0_1 st.1 st.2.1 st.2.2) st = some (q2_0, q2_1) → ∀ (H : Heap) (locs : List Loc) (ls : Array Slot), va_P (dC, dI) vwCl (iX1_addMiddles aS cI cZ R_width P_size P_uppers P_lowers C_x st.2.1 st.2.2) H → va_D A (iX1_addMiddles aS cI cZ R_width P_size P_uppers P_lowers C_x st.2.1 st.2.2) → va_S A s.heap H locs → lv_has ls 7 [(0, .ref (aS 36)), (2, .int x2_1), (3, .int x3_1), (4, .int s0_1), (5, .int st.1)] → W p l e (headSpec wsX1_addMiddles (rX1_addMiddles)).room s m args below meth c H locs 0 0 Q (F0 m 46 ls []) := by
      intro st hst
      refine q_walk (Wh := fun st : Int32 × (Nat → Int32) × (Nat → Int32) => ∀ (H : Heap) (locs : List Loc) (ls : Array Slot), va_P (dC, dI) vwCl (iX1_addMiddles aS cI cZ R_width P_size P_uppers P_lowers C_x st.2.1 st.2.2) H → va_D A (iX1_addMiddles aS cI cZ R_width P_size P_uppers P_lowers C_x st.2.1 st.2.2) → va_S A s.heap H locs → lv_has ls 7 [(0, .ref (aS 36)), (2, .int x2_1), (3, .int x3_1), (4, .int s0_1), (5, .int st.1)] → W p l e (headSpec wsX1_addMiddles (rX1_addMiddles)).room s m args below meth c H locs 0 0 Q (F0 m 46 ls [])) ?_ st hst
      clear hst st hF
      intro st o hF hin hex H locs ls hP hD hS hl
      obtain ⟨x5_2, C_sum_2, C_degree_2⟩ := st
      replace hF : bX1_addMiddles_46 R_width P_size P_uppers P_lowers C_x x2_1 x3_1 s0_1 x5_2 C_sum_2 C_degree_2 = some o := hF
      replace hP : va_P (dC, dI) vwCl (iX1_addMiddles aS cI cZ R_width P_size P_uppers P_lowers C_x C_sum_2 C_degree_2) H := hP
      replace hD : va_D A (iX1_addMiddles aS cI cZ R_width P_size P_uppers P_lowers C_x C_sum_2 C_degree_2) := hD
      replace hl : lv_has ls 7 [(0, .ref (aS 36)), (2, .int x2_1), (3, .int x3_1), (4, .int s0_1), (5, .int x5_2)] := hl
      unfold bX1_addMiddles_46 at hF
      have JX1_ADDMIDDLES_130 : ∀ (C_sum_3 : Nat → Int32) (C_degree_3 : Nat → Int32) (x5_3 : Int32), jX1_addMiddles_130 C_sum_3 C_degree_3 x2_1 x3_1 s0_1 x5_3 = some o → ∀ (H : Heap) (locs : List Loc) (ls : Array Slot), va_P (dC, dI) vwCl (iX1_addMiddles aS cI cZ R_width P_size P_uppers P_lowers C_x C_sum_3 C_degree_3) H → va_D A (iX1_addMiddles aS cI cZ R_width P_size P_uppers P_lowers C_x C_sum_3 C_degree_3) → va_S A s.heap H locs → lv_has ls 7 [(0, .ref (aS 36)), (2, .int x2_1), (3, .int x3_1), (4, .int s0_1), (5, .int x5_3)] → W p l e (headSpec wsX1_addMiddles (rX1_addMiddles)).room s m args below meth c H locs 0 0 Q (F0 m 130 ls []) := by
        intro C_sum_3 C_degree_3 x5_3 hF H locs ls hP hD hS hl
        unfold jX1_addMiddles_130 at hF
        refine lv_iinc (v := (x5_3 + 1)) (lv' := [(5, .int (x5_3 + 1)), (0, .ref (aS 36)), (2, .int x2_1), (3, .int x3_1), (4, .int s0_1)]) hx hb dX1_addMiddles_130 hl (k := 4) rfl rfl (by decide) rfl (fun ls hl => ?_)
        refine lv_goto (tgt := 46) hx hb dX1_addMiddles_133 (by decide) ?_
        exact hin _ (Option.some.inj hF).symm H locs ls hP hD hS (lv_sub hl [1, 2, 3, 4, 0] rfl)
      have JX1_ADDMIDDLES_75 : ∀ (C_sum_4 : Nat → Int32) (C_degree_4 : Nat → Int32) (x5_4 : Int32) (s0_4 : Int32) (s1_4 : Int32) (s2_4 : Int32), jX1_addMiddles_75 R_width P_size P_uppers P_lowers C_x C_sum_4 C_degree_4 x2_1 x3_1 s0_1 x5_4 s0_4 s1_4 s2_4 = some o → ∀ (H : Heap) (locs : List Loc) (ls : Array Slot), va_P (dC, dI) vwCl (iX1_addMiddles aS cI cZ R_width P_size P_uppers P_lowers C_x C_sum_4 C_degree_4) H → va_D A (iX1_addMiddles aS cI cZ R_width P_size P_uppers P_lowers C_x C_sum_4 C_degree_4) → va_S A s.heap H locs → lv_has ls 7 [(0, .ref (aS 36)), (2, .int x2_1), (3, .int x3_1), (4, .int s0_1), (5, .int x5_4)] → W p l e (headSpec wsX1_addMiddles (rX1_addMiddles)).room s m args below meth c H locs 0 0 Q (F0 m 75 ls [.int s0_4, .int s1_4, .int s2_4, .ref (aS 11)]) := by
        intro C_sum_4 C_degree_4 x5_4 s0_4 s1_4 s2_4 hF H locs ls hP hD hS hl
        unfold jX1_addMiddles_75 at hF
        obtain ⟨q5, hcq5, hF⟩ := q_bd hF
        refine q_Vi (As := [.int s2_4, .int s1_4, .int s0_4]) (rest := []) ⟨hx, hb, hml, hown, hts⟩ hA hK hP hD hS (tX6_endOf l dC dI cI cZ aS H.size P_size P_uppers P_lowers s2_4 s1_4 s0_4 q5 hcq5) (cwV 3 hts gX1_addMiddles_X6_endOf rfl rfl rfl uX6_endOf ⟨Nat.le_of_ble_eq_true rfl, Nat.le_of_ble_eq_true rfl⟩) [3, 4, 5, 6] [(false, 0), (false, 1), (false, 2), (true, 0), (true, 1), (true, 2), (true, 3), (false, 7), (false, 8), (false, 9)] (iX1_addMiddles aS cI cZ R_width P_size P_uppers P_lowers C_x C_sum_4 C_degree_4) rfl rfl rfl rfl rfl 6 0 rfl rfl rfl rfl hl.1 rfl (Nat.le_of_ble_eq_true rfl) dX1_addMiddles_75 ⟨Nat.zero_le _, Nat.zero_le _⟩ (fun H locs hP hD hS => ?_)
        refine lv_istore (lv' := [(6, .int q5), (0, .ref (aS 36)), (2, .int x2_1), (3, .int x3_1), (4, .int s0_1), (5, .int x5_4)]) hx hb dX1_addMiddles_78 hl (by decide) rfl (fun ls hl => ?_)
        refine lv_iload hx hb dX1_addMiddles_80 (lv_at hl 0 rfl) ?_
        refine lv_if_lt (tgt := 130) hx hb dX1_addMiddles_82 (by decide) (fun hc => ?_) (fun hc => ?_)
        · replace hF := q_t hc hF
          exact JX1_ADDMIDDLES_130 C_sum_4 C_degree_4 x5_4 hF H locs ls hP hD hS (lv_sub hl [1, 2, 3, 4, 5] rfl)
        · replace hF := q_f hc hF
          refine lv_iload hx hb dX1_addMiddles_85 (lv_at hl 0 rfl) ?_
          refine lv_bipush (v := 40) hx hb dX1_addMiddles_87 (by decide) ?_
          refine lv_icmp_ge (tgt := 130) hx hb dX1_addMiddles_89 (by decide) (fun hc => ?_) (fun hc => ?_)
          · replace hF := q_t hc hF
            exact JX1_ADDMIDDLES_130 C_sum_4 C_degree_4 x5_4 hF H locs ls hP hD hS (lv_sub hl [1, 2, 3, 4, 5] rfl)
          · replace hF := q_f hc hF
            refine lv_aload_n hx hb dX1_addMiddles_92 rfl (lv_at hl 1 rfl) ?_
            refine q_get (ci := 1) (C := RX1) (T := TX1) (N := 5) hx hb hts eX1_addMiddles_X1 hown hK hP 0 rfl rfl 3 (Nat.le_of_ble_eq_true rfl) k0 rfl rfl dX1_addMiddles_93 ?_
            refine lv_iload hx hb dX1_addMiddles_96 (lv_at hl 0 rfl) ?_
            refine lv_dup2_11 hx hb dX1_addMiddles_98 rfl rfl ?_
            obtain ⟨hn6, hF⟩ := q_ck hF
            refine va_iald hx hb hK hP 8 0 rfl rfl hn6 dX1_addMiddles_99 ?_
            refine lv_aload_n hx hb dX1_addMiddles_100 rfl (lv_at hl 1 rfl) ?_
            refine lv_iload hx hb dX1_addMiddles_101 (lv_at hl 4 rfl) ?_
            refine lv_aload_n hx hb dX1_addMiddles_103 rfl (lv_at hl 1 rfl) ?_
            refine q_get (ci := 1) (C := RX1) (T := TX1) (N := 5) hx hb hts eX1_addMiddles_X1 hown hK hP 0 rfl rfl 1 (Nat.le_of_ble_eq_true rfl) k1 rfl rfl dX1_addMiddles_104 ?_
            refine lv_iload_n hx hb dX1_addMiddles_107 rfl (lv_at hl 3 rfl) ?_
            refine lv_iload hx hb dX1_addMiddles_108 (lv_at hl 5 rfl) ?_
            refine lv_iload_n hx hb dX1_addMiddles_110 rfl (lv_at hl 2 rfl) ?_
            obtain ⟨q7, hcq7, hF⟩ := q_bd hF
            refine q_Vi (As := [.int x3_1, .int x5_4, .int x2_1]) (rest := [.int s0_1, .ref (aS 36), .int (C_sum_4 q5.toNatClampNeg), .int q5, .ref (aS 38)]) ⟨hx, hb, hml, hown, hts⟩ hA hK hP hD hS (tX6_endOf l dC dI cI cZ aS H.size P_size P_uppers P_lowers x3_1 x5_4 x2_1 q7 hcq7) (cwV 3 hts gX1_addMiddles_X6_endOf rfl rfl rfl uX6_endOf ⟨Nat.le_of_ble_eq_true rfl, Nat.le_of_ble_eq_true rfl⟩) [3, 4, 5, 6] [(false, 0), (false, 1), (false, 2), (true, 0), (true, 1), (true, 2), (true, 3), (false, 7), (false, 8), (false, 9)] (iX1_addMiddles aS cI cZ R_width P_size P_uppers P_lowers C_x C_sum_4 C_degree_4) rfl rfl rfl rfl rfl 6 0 rfl rfl rfl rfl hl.1 rfl (Nat.le_of_ble_eq_true rfl) dX1_addMiddles_111 ⟨Nat.zero_le _, Nat.zero_le _⟩ (fun H locs hP hD hS => ?_)
            obtain ⟨q8, hcq8, hF⟩ := q_bd hF
            refine q_Vi (As := [.int s0_1, .int q7]) (rest := [.int (C_sum_4 q5.toNatClampNeg), .int q5, .ref (aS 38)]) ⟨hx, hb, hml, hown, hts⟩ hA hK hP hD hS (tX1_middleOf l dC dI cI cZ aS H.size R_width C_x s0_1 q7 q8 hcq8) (cwV 2 hts gX1_addMiddles_X1_middleOf rfl rfl rfl uX1_middleOf ⟨Nat.le_of_ble_eq_true rfl, Nat.le_of_ble_eq_true rfl⟩) [0, 1, 2, 7] [(true, 0), (true, 1), (true, 2), (false, 3), (false, 4), (false, 5), (false, 6), (true, 3), (false, 8), (false, 9)] (iX1_addMiddles aS cI cZ R_width P_size P_uppers P_lowers C_x C_sum_4 C_degree_4) rfl rfl rfl rfl rfl 1 0 rfl rfl rfl rfl hl.1 rfl (Nat.le_of_ble_eq_true rfl) dX1_addMiddles_114 ⟨Nat.zero_le _, Nat.zero_le _⟩ (fun H locs hP hD hS => ?_)
            refine lv_iadd hx hb dX1_addMiddles_117 ?_
            obtain ⟨hn9, hF⟩ := q_ck hF
            refine q_iast hx hb hK hP hD hS 8 0 (iX1_addMiddles aS cI cZ R_width P_size P_uppers P_lowers C_x (upd C_sum_4 q5.toNatClampNeg ((C_sum_4 q5.toNatClampNeg) + q8)) C_degree_4) rfl rfl hn9 rfl dX1_addMiddles_118 (fun H locs hP hD hS => ?_)
            refine lv_aload_n hx hb dX1_addMiddles_119 rfl (lv_at hl 1 rfl) ?_
            refine q_get (ci := 1) (C := RX1) (T := TX1) (N := 5) hx hb hts eX1_addMiddles_X1 hown hK hP 0 rfl rfl 4 (Nat.le_of_ble_eq_true rfl) k2 rfl rfl dX1_addMiddles_120 ?_
            refine lv_iload hx hb dX1_addMiddles_123 (lv_at hl 0 rfl) ?_
            refine lv_dup2_11 hx hb dX1_addMiddles_125 rfl rfl ?_
            obtain ⟨hn10, hF⟩ := q_ck hF
            refine va_iald hx hb hK hP 9 0 rfl rfl hn10 dX1_addMiddles_126 ?_
            refine lv_iconst (v := 1) hx hb dX1_addMiddles_127 (by decide) ?_
            refine lv_iadd hx hb dX1_addMiddles_128 ?_
            obtain ⟨hn11, hF⟩ := q_ck hF
            refine q_iast hx hb hK hP hD hS 9 0 (iX1_addMiddles aS cI cZ R_width P_size P_uppers P_lowers C_x (upd C_sum_4 q5.toNatClampNeg ((C_sum_4 q5.toNatClampNeg) + q8)) (upd C_degree_4 q5.toNatClampNeg ((C_degree_4 q5.toNatClampNeg) + 1))) rfl rfl hn11 rfl dX1_addMiddles_129 (fun H locs hP hD hS => ?_)
            exact JX1_ADDMIDDLES_130 (upd C_sum_4 q5.toNatClampNeg ((C_sum_4 q5.toNatClampNeg) + q8)) (upd C_degree_4 q5.toNatClampNeg ((C_degree_4 q5.toNatClampNeg) + 1)) x5_4 hF H locs ls hP hD hS (lv_sub hl [1, 2, 3, 4, 5] rfl)
      refine lv_iload hx hb dX1_addMiddles_46 (lv_at hl 4 rfl) ?_
      refine lv_aload_n hx hb dX1_addMiddles_48 rfl (lv_at hl 0 rfl) ?_
      refine q_get (ci := 1) (C := RX1) (T := TX1) (N := 5) hx hb hts eX1_addMiddles_X1 hown hK hP 0 rfl rfl 1 (Nat.le_of_ble_eq_true rfl) k1 rfl rfl dX1_addMiddles_49 ?_
      refine lv_iload_n hx hb dX1_addMiddles_52 rfl (lv_at hl 2 rfl) ?_
      obtain ⟨q12, hcq12, hF⟩ := q_bd hF
      refine q_Vi (As := [.int x3_1]) (rest := [.int x5_2]) ⟨hx, hb, hml, hown, hts⟩ hA hK hP hD hS (tX6_sizeOf l dC dI cI cZ aS H.size P_size x3_1 q12 hcq12) (cwV 1 hts gX1_addMiddles_X6_sizeOf rfl rfl rfl uX6_sizeOf ⟨Nat.le_of_ble_eq_true rfl, Nat.le_of_ble_eq_true rfl⟩) [3, 4] [(false, 0), (false, 1), (false, 2), (true, 0), (true, 1), (false, 5), (false, 6), (false, 7), (false, 8), (false, 9)] (iX1_addMiddles aS cI cZ R_width P_size P_uppers P_lowers C_x C_sum_2 C_degree_2) rfl rfl rfl rfl rfl 6 0 rfl rfl rfl rfl hl.1 rfl (Nat.le_of_ble_eq_true rfl) dX1_addMiddles_53 ⟨Nat.zero_le _, Nat.zero_le _⟩ (fun H locs hP hD hS => ?_)
      refine lv_icmp_ge (tgt := 136) hx hb dX1_addMiddles_56 (by decide) (fun hc => ?_) (fun hc => ?_)
      · replace hF := q_t hc hF
        exact X2 _ _ (hex _ (Option.some.inj hF).symm) H locs ls hP hD hS (lv_sub hl [] rfl)
      · replace hF := q_f hc hF
        refine lv_aload_n hx hb dX1_addMiddles_59 rfl (lv_at hl 0 rfl) ?_
        refine q_get (ci := 1) (C := RX1) (T := TX1) (N := 5) hx hb hts eX1_addMiddles_X1 hown hK hP 0 rfl rfl 1 (Nat.le_of_ble_eq_true rfl) k1 rfl rfl dX1_addMiddles_60 ?_
        refine lv_iload_n hx hb dX1_addMiddles_63 rfl (lv_at hl 2 rfl) ?_
        refine lv_iload hx hb dX1_addMiddles_64 (lv_at hl 4 rfl) ?_
        refine lv_iload_n hx hb dX1_addMiddles_66 rfl (lv_at hl 1 rfl) ?_
        refine lv_if_ne (tgt := 74) hx hb dX1_addMiddles_67 (by decide) (fun hc => ?_) (fun hc => ?_)
        · replace hF := q_f hc hF
          refine lv_iconst (v := 0) hx hb dX1_addMiddles_74 (by decide) ?_
          exact JX1_ADDMIDDLES_75 C_sum_2 C_degree_2 x5_2 0 x5_2 x3_1 hF H locs ls hP hD hS (lv_sub hl [0, 1, 2, 3, 4] rfl)
        · replace hF := q_t hc hF
          refine lv_iconst (v := 1) hx hb dX1_addMiddles_70 (by decide) ?_
          refine lv_goto (tgt := 75) hx hb dX1_addMiddles_71 (by decide) ?_
          exact JX1_ADDMIDDLES_75 C_sum_2 C_degree_2 x5_2 1 x5_2 x3_1 hF H locs ls hP hD hS (lv_sub hl [0, 1, 2, 3, 4] rfl)
    exact L2 (0, C_sum_1, C_degree_1) hc2 H locs ls hP hD hS (lv_sub hl [2, 3, 4, 1, 0] rfl)
  have JX1_ADDMIDDLES_27 : ∀ (C_sum_13 : Nat → Int32) (C_degree_13 : Nat → Int32) (x1_13 : Int32) (x2_13 : Int32) (s0_13 : Int32), jX1_addMiddles_27 R_width P_size P_uppers P_lowers C_x C_sum_13 C_degree_13 x1_13 x2_13 s0_13 = some res → ∀ (H : Heap) (locs : List Loc) (ls : Array Slot), va_P (dC, dI) vwCl (iX1_addMiddles aS cI cZ R_width P_size P_uppers P_lowers C_x C_sum_13 C_degree_13) H → va_D A (iX1_addMiddles aS cI cZ R_width P_size P_uppers P_lowers C_x C_sum_13 C_degree_13) → va_S A s.heap H locs → lv_has ls 7 [(0, .ref (aS 36)), (1, .int x1_13), (2, .int x2_13)] → W p l e (headSpec wsX1_addMiddles (rX1_addMiddles)).room s m args below meth c H locs 0 0 Q (F0 m 27 ls [.int s0_13]) := by
    intro C_sum_13 C_degree_13 x1_13 x2_13 s0_13 hF H locs ls hP hD hS hl
    unfold jX1_addMiddles_27 at hF
    refine lv_istore_n (lv' := [(3, .int s0_13), (0, .ref (aS 36)), (1, .int x1_13), (2, .int x2_13)]) hx hb dX1_addMiddles_27 rfl hl (by decide) rfl (fun ls hl => ?_)
    refine lv_iload_n hx hb dX1_addMiddles_28 rfl (lv_at hl 3 rfl) ?_
    refine lv_if_eq (tgt := 38) hx hb dX1_addMiddles_29 (by decide) (fun hc => ?_) (fun hc => ?_)
    · replace hF := q_t hc hF
      refine lv_iload_n hx hb dX1_addMiddles_38 rfl (lv_at hl 2 rfl) ?_
      refine lv_iconst (v := 1) hx hb dX1_addMiddles_39 (by decide) ?_
      refine lv_iadd hx hb dX1_addMiddles_40 ?_
      exact JX1_ADDMIDDLES_41 C_sum_13 C_degree_13 x2_13 s0_13 (x1_13 + 1) hF H locs ls hP hD hS (lv_sub hl [1, 3, 0] rfl)
    · replace hF := q_f hc hF
      refine lv_iload_n hx hb dX1_addMiddles_32 rfl (lv_at hl 2 rfl) ?_
      refine lv_iconst (v := 1) hx hb dX1_addMiddles_33 (by decide) ?_
      refine lv_isub hx hb dX1_addMiddles_34 ?_
      refine lv_goto (tgt := 41) hx hb dX1_addMiddles_35 (by decide) ?_
      exact JX1_ADDMIDDLES_41 C_sum_13 C_degree_13 x2_13 s0_13 (x1_13 - 1) hF H locs ls hP hD hS (lv_sub hl [1, 3, 0] rfl)
  refine lv_aload_n hx hb dX1_addMiddles_0 rfl (lv_at hl 0 rfl) ?_
  refine q_get (ci := 1) (C := RX1) (T := TX1) (N := 5) hx hb hts eX1_addMiddles_X1 hown hK hP 0 rfl rfl 3 (Nat.le_of_ble_eq_true rfl) k0 rfl rfl dX1_addMiddles_1 ?_
  refine lv_iconst (v := 0) hx hb dX1_addMiddles_4 (by decide) ?_
  refine q_Sv (As := [.ref (aS 38), .int 0]) (rest := []) ⟨hx, hb, hml, hown, hts⟩ hA hK hP hD hS (tJ7_fill_53178 l dC dI cI cZ (aS 38) 40 H.size C_sum 0 (by decide)) (va_cwS 2 hts gX1_addMiddles_J7_fill_53178 rfl rfl rfl uJ7_fill_53178 ⟨Nat.le_of_ble_eq_true rfl, Nat.le_of_ble_eq_true rfl⟩) [8] [(false, 0), (false, 1), (false, 2), (false, 3), (false, 4), (false, 5), (false, 6), (false, 7), (true, 0), (false, 9)] (iX1_addMiddles aS cI cZ R_width P_size P_uppers P_lowers C_x (fun _ => 0) C_degree) rfl rfl rfl rfl rfl rfl hl.1 rfl (Nat.le_of_ble_eq_true rfl) dX1_addMiddles_5 ⟨Nat.zero_le _, Nat.zero_le _⟩ (fun H locs hP hD hS => ?_)
  refine lv_aload_n hx hb dX1_addMiddles_8 rfl (lv_at hl 0 rfl) ?_
  refine q_get (ci := 1) (C := RX1) (T := TX1) (N := 5) hx hb hts eX1_addMiddles_X1 hown hK hP 0 rfl rfl 4 (Nat.le_of_ble_eq_true rfl) k2 rfl rfl dX1_addMiddles_9 ?_
  refine lv_iconst (v := 0) hx hb dX1_addMiddles_12 (by decide) ?_
  refine q_Sv (As := [.ref (aS 39), .int 0]) (rest := []) ⟨hx, hb, hml, hown, hts⟩ hA hK hP hD hS (tJ7_fill_53178 l dC dI cI cZ (aS 39) 40 H.size C_degree 0 (by decide)) (va_cwS 2 hts gX1_addMiddles_J7_fill_53178 rfl rfl rfl uJ7_fill_53178 ⟨Nat.le_of_ble_eq_true rfl, Nat.le_of_ble_eq_true rfl⟩) [9] [(false, 0), (false, 1), (false, 2), (false, 3), (false, 4), (false, 5), (false, 6), (false, 7), (false, 8), (true, 0)] (iX1_addMiddles aS cI cZ R_width P_size P_uppers P_lowers C_x (fun _ => 0) (fun _ => 0)) rfl rfl rfl rfl rfl rfl hl.1 rfl (Nat.le_of_ble_eq_true rfl) dX1_addMiddles_13 ⟨Nat.zero_le _, Nat.zero_le _⟩ (fun H locs hP hD hS => ?_)
  refine lv_iload_n hx hb dX1_addMiddles_16 rfl (lv_at hl 2 rfl) ?_
  refine lv_if_eq (tgt := 26) hx hb dX1_addMiddles_17 (by decide) (fun hc => ?_) (fun hc => ?_)
  · replace hF := q_t hc hF
    refine lv_iload_n hx hb dX1_addMiddles_26 rfl (lv_at hl 1 rfl) ?_
    exact JX1_ADDMIDDLES_27 (fun _ => 0) (fun _ => 0) p0 p1 p0 hF H locs ls hP hD hS (lv_sub hl [0, 1, 2] rfl)
  · replace hF := q_f hc hF
    refine lv_iload_n hx hb dX1_addMiddles_20 rfl (lv_at hl 1 rfl) ?_
    refine lv_iconst (v := 1) hx hb dX1_addMiddles_21 (by decide) ?_
    refine lv_isub hx hb dX1_addMiddles_22 ?_
    refine lv_goto (tgt := 27) hx hb dX1_addMiddles_23 (by decide) ?_
    exact JX1_ADDMIDDLES_27 (fun _ => 0) (fun _ => 0) p0 p1 (p0 - 1) hF H locs ls hP hD hS (lv_sub hl [0, 1, 2] rfl)
abbrev rX1_endOf : Room := { frames := 2, cells := 0, slots := 0, locals := 43 }
theorem eX1_endOf_X1 : ∀ w ∈ u_ws RX1 TX1 5, w ∈ wsX1_endOf := by decide +kernel
theorem uX1_endOf : yX1_endOf.cls = RX1 ∧ yX1_endOf.cls ≠ "java/lang/invoke/MethodHandle" ∧ yX1_endOf.cls ≠ "java/lang/invoke/VarHandle" ∧ (parseMethodDescriptor yX1_endOf.desc).map (fun d => d.parameters.length) = some 2 := by decide +kernel
set_option maxHeartbeats 4000000 in
set_option maxRecDepth 100000 in
theorem tX1_endOf (l : Launch) (dC : Nat → ClassId) (dI : Nat → Nat → Nat) (cI cZ : ClassId) (aS : Nat → Nat) (sz : Nat) (R_width : Nat → Int32) (C_x : Nat → Int32) (p0 : Int32) (p1 : Int32) (res : Int32) (hF : fX1_endOf R_width C_x p0 p1 = some res) : q_Mi l yX1_endOf wsX1_endOf rX1_endOf (dC, dI) (q_ty cI cZ) [.ref (aS 36), .int p0, .int p1] (iX1_endOf aS cI cZ R_width C_x) (iX1_endOf aS cI cZ R_width C_x) sz res := by
  refine q_meti (cc := cX1_endOf) (maxL := 3) (by decide) rfl (Nat.le_of_ble_eq_true rfl) ?_
  intro p e s m args below meth c Q A H locs ls C hP hD hS hl hret
  obtain ⟨hx, hb, hml, hown, hts, hA, hK⟩ := C
  replace hl : lv_has ls 3 [(0, .ref (aS 36)), (1, .int p0), (2, .int p1)] := hl
  have k0 := hts (.fieldLink RX1 21 "RouteLayout$Columns" "routes" "LRouteLayout$Routes;") (by decide +kernel)
  unfold fX1_endOf at hF
  refine lv_aload_n hx hb dX1_endOf_0 rfl (lv_at hl 0 rfl) ?_
  refine lv_iload_n hx hb dX1_endOf_1 rfl (lv_at hl 1 rfl) ?_
  refine lv_iload_n hx hb dX1_endOf_2 rfl (lv_at hl 2 rfl) ?_
  obtain ⟨q1, hcq1, hF⟩ := q_bd hF
  refine q_Vi (As := [.int p0, .int p1]) (rest := []) ⟨hx, hb, hml, hown, hts⟩ hA hK hP hD hS (tX1_leftOf l dC dI cI cZ aS H.size C_x p0 p1 q1 hcq1) (cwV 2 hts gX1_endOf_X1_leftOf rfl rfl rfl uX1_leftOf ⟨Nat.le_of_ble_eq_true rfl, Nat.le_of_ble_eq_true rfl⟩) [0, 3] [(true, 0), (false, 1), (false, 2), (true, 1)] (iX1_endOf aS cI cZ R_width C_x) rfl rfl rfl rfl rfl 1 0 rfl rfl rfl rfl hl.1 rfl (Nat.le_of_ble_eq_true rfl) dX1_endOf_3 ⟨Nat.zero_le _, Nat.zero_le _⟩ (fun H locs hP hD hS => ?_)
  refine lv_aload_n hx hb dX1_endOf_6 rfl (lv_at hl 0 rfl) ?_
  refine q_get (ci := 1) (C := RX1) (T := TX1) (N := 5) hx hb hts eX1_endOf_X1 hown hK hP 0 rfl rfl 0 (Nat.le_of_ble_eq_true rfl) k0 rfl rfl dX1_endOf_7 ?_
  refine lv_iload_n hx hb dX1_endOf_10 rfl (lv_at hl 2 rfl) ?_
  obtain ⟨q2, hcq2, hF⟩ := q_bd hF
  refine q_Vi (As := [.int p1]) (rest := [.int q1]) ⟨hx, hb, hml, hown, hts⟩ hA hK hP hD hS (tX7_widthOf l dC dI cI cZ aS H.size R_width p1 q2 hcq2) (cwV 1 hts gX1_endOf_X7_widthOf rfl rfl rfl uX7_widthOf ⟨Nat.le_of_ble_eq_true rfl, Nat.le_of_ble_eq_true rfl⟩) [1, 2] [(false, 0), (true, 0), (true, 1), (false, 3)] (iX1_endOf aS cI cZ R_width C_x) rfl rfl rfl rfl rfl 7 0 rfl rfl rfl rfl hl.1 rfl (Nat.le_of_ble_eq_true rfl) dX1_endOf_11 ⟨Nat.zero_le _, Nat.zero_le _⟩ (fun H locs hP hD hS => ?_)
  refine lv_iadd hx hb dX1_endOf_14 ?_
  exact hret H locs ls 15 _ _ dX1_endOf_15 (Option.some.inj hF) rfl hP hD hS
abbrev rX1_greatestEnd : Room := { frames := 3, cells := 0, slots := 0, locals := 65 }
theorem uX1_greatestEnd : yX1_greatestEnd.cls = RX1 ∧ yX1_greatestEnd.cls ≠ "java/lang/invoke/MethodHandle" ∧ yX1_greatestEnd.cls ≠ "java/lang/invoke/VarHandle" ∧ (parseMethodDescriptor yX1_greatestEnd.desc).map (fun d => d.parameters.length) = some 1 := by decide +kernel
set_option maxHeartbeats 4000000 in
set_option maxRecDepth 100000 in
theorem tX1_greatestEnd (l : Launch) (dC : Nat → ClassId) (dI : Nat → Nat → Nat) (cI cZ : ClassId) (aS : Nat → Nat) (aO : Nat → Nat) (sz : Nat) (R_width : Nat → Int32) (C_x : Nat → Int32) (O_layers : Int32) (O_size : Nat → Int32) (O_rows : Nat → Int32) (res : Int32) (hF : fX1_greatestEnd R_width C_x O_layers O_size O_rows = some res) : q_Mi l yX1_greatestEnd wsX1_greatestEnd rX1_greatestEnd (dC, dI) (q_ty cI cZ) [.ref (aS 36), .ref (aO 0)] (iX1_greatestEnd aS aO cI cZ R_width C_x O_layers O_size O_rows) (iX1_greatestEnd aS aO cI cZ R_width C_x O_layers O_size O_rows) sz res := by
  refine q_meti (cc := cX1_greatestEnd) (maxL := 5) (by decide) rfl (Nat.le_of_ble_eq_true rfl) ?_
  intro p e s m args below meth c Q A H locs ls C hP hD hS hl hret
  obtain ⟨hx, hb, hml, hown, hts, hA, hK⟩ := C
  replace hl : lv_has ls 5 [(0, .ref (aS 36)), (1, .ref (aO 0))] := hl
  have k0 := hts (.methodLink RX1 76 Lib.Math.max.name) (by decide +kernel)
  have k1 := hts (.static Lib.Math.max.name) (by decide +kernel)
  have k2 := hts (.initialized "java/lang/Math") (by decide +kernel)
  have k3 := hts (.code Lib.Math.max.name Lib.Math.max.code 2 (some .int)) (by decide +kernel)
  unfold fX1_greatestEnd at hF
  refine lv_iconst (v := 0) hx hb dX1_greatestEnd_0 (by decide) ?_
  refine lv_istore_n (lv' := [(2, .int 0), (0, .ref (aS 36)), (1, .ref (aO 0))]) hx hb dX1_greatestEnd_1 rfl hl (by decide) rfl (fun ls hl => ?_)
  refine lv_iconst (v := 0) hx hb dX1_greatestEnd_2 (by decide) ?_
  refine lv_istore_n (lv' := [(3, .int 0), (2, .int 0), (0, .ref (aS 36)), (1, .ref (aO 0))]) hx hb dX1_greatestEnd_3 rfl hl (by decide) rfl (fun ls hl => ?_)
  obtain ⟨q1, hc1, hF⟩ := q_bd hF
  have X1 : ∀ (u1 : Int32), u1 = q1 → ∀ (H : Heap) (locs : List Loc) (ls : Array Slot), va_P (dC, dI) vwCl (iX1_greatestEnd aS aO cI cZ R_width C_x O_layers O_size O_rows) H → va_D A (iX1_greatestEnd aS aO cI cZ R_width C_x O_layers O_size O_rows) → va_S A s.heap H locs → lv_has ls 5 [(2, .int u1)] → W p l e (headSpec wsX1_greatestEnd (rX1_greatestEnd)).room s m args below meth c H locs 0 0 Q (F0 m 54 ls []) := by
    intro u1 hu H locs ls hP hD hS hl
    subst hu
    refine lv_iload_n hx hb dX1_greatestEnd_54 rfl (lv_at hl 0 rfl) ?_
    exact hret H locs ls 55 _ _ dX1_greatestEnd_55 (Option.some.inj hF) rfl hP hD hS
  have L1 : ∀ st : Int32 × Int32, q_lo (fun (st : Int32 × Int32) => bX1_greatestEnd_4 R_width C_x O_layers O_size O_rows st.1 st.2) st = some q1 → ∀ (H : Heap) (locs : List Loc) (ls : Array Slot), va_P (dC, dI) vwCl (iX1_greatestEnd aS aO cI cZ R_width C_x O_layers O_size O_rows) H → va_D A (iX1_greatestEnd aS aO cI cZ R_width C_x O_layers O_size O_rows) → va_S A s.heap H locs → lv_has ls 5 [(0, .ref (aS 36)), (1, .ref (aO 0)), (2, .int st.1), (3, .int st.2)] → W p l e (headSpec wsX1_greatestEnd (rX1_greatestEnd)).room s m args below meth c H locs 0 0 Q (F0 m 4 ls []) := by
    intro st hst
    refine q_walk (Wh := fun st : Int32 × Int32 => ∀ (H : Heap) (locs : List Loc) (ls : Array Slot), va_P (dC, dI) vwCl (iX1_greatestEnd aS aO cI cZ R_width C_x O_layers O_size O_rows) H → va_D A (iX1_greatestEnd aS aO cI cZ R_width C_x O_layers O_size O_rows) → va_S A s.heap H locs → lv_has ls 5 [(0, .ref (aS 36)), (1, .ref (aO 0)), (2, .int st.1), (3, .int st.2)] → W p l e (headSpec wsX1_greatestEnd (rX1_greatestEnd)).room s m args below meth c H locs 0 0 Q (F0 m 4 ls [])) ?_ st hst
    clear hst st hF
    intro st o hF hin hex H locs ls hP hD hS hl
    obtain ⟨x2_1, x3_1⟩ := st
    replace hF : bX1_greatestEnd_4 R_width C_x O_layers O_size O_rows x2_1 x3_1 = some o := hF
    replace hP : va_P (dC, dI) vwCl (iX1_greatestEnd aS aO cI cZ R_width C_x O_layers O_size O_rows) H := hP
    replace hD : va_D A (iX1_greatestEnd aS aO cI cZ R_width C_x O_layers O_size O_rows) := hD
    replace hl : lv_has ls 5 [(0, .ref (aS 36)), (1, .ref (aO 0)), (2, .int x2_1), (3, .int x3_1)] := hl
    unfold bX1_greatestEnd_4 at hF
    refine lv_iload_n hx hb dX1_greatestEnd_4 rfl (lv_at hl 3 rfl) ?_
    refine lv_aload_n hx hb dX1_greatestEnd_5 rfl (lv_at hl 1 rfl) ?_
    obtain ⟨q2, hcq2, hF⟩ := q_bd hF
    refine q_Vi (As := []) (rest := [.int x3_1]) ⟨hx, hb, hml, hown, hts⟩ hA hK hP hD hS (tX4_layers l dC dI cI cZ aO H.size O_layers q2 hcq2) (cwV 0 hts gX1_greatestEnd_X4_layers rfl rfl rfl uX4_layers ⟨Nat.le_of_ble_eq_true rfl, Nat.le_of_ble_eq_true rfl⟩) [4] [(false, 0), (false, 1), (false, 2), (false, 3), (true, 0), (false, 5), (false, 6)] (iX1_greatestEnd aS aO cI cZ R_width C_x O_layers O_size O_rows) rfl rfl rfl rfl rfl 4 0 rfl rfl rfl rfl hl.1 rfl (Nat.le_of_ble_eq_true rfl) dX1_greatestEnd_6 ⟨Nat.zero_le _, Nat.zero_le _⟩ (fun H locs hP hD hS => ?_)
    refine lv_icmp_ge (tgt := 54) hx hb dX1_greatestEnd_9 (by decide) (fun hc => ?_) (fun hc => ?_)
    · replace hF := q_t hc hF
      exact X1 _ (hex _ (Option.some.inj hF).symm) H locs ls hP hD hS (lv_sub hl [2] rfl)
    · replace hF := q_f hc hF
      refine lv_iconst (v := 0) hx hb dX1_greatestEnd_12 (by decide) ?_
      refine lv_istore (lv' := [(4, .int 0), (0, .ref (aS 36)), (1, .ref (aO 0)), (2, .int x2_1), (3, .int x3_1)]) hx hb dX1_greatestEnd_13 hl (by decide) rfl (fun ls hl => ?_)
      obtain ⟨q3, hc3, hF⟩ := q_bd hF
      have X3 : ∀ (u3 : Int32), u3 = q3 → ∀ (H : Heap) (locs : List Loc) (ls : Array Slot), va_P (dC, dI) vwCl (iX1_greatestEnd aS aO cI cZ R_width C_x O_layers O_size O_rows) H → va_D A (iX1_greatestEnd aS aO cI cZ R_width C_x O_layers O_size O_rows) → va_S A s.heap H locs → lv_has ls 5 [(0, .ref (aS 36)), (1, .ref (aO 0)), (2, .int u3), (3, .int x3_1)] → W p l e (headSpec wsX1_greatestEnd (rX1_greatestEnd)).room s m args below meth c H locs 0 0 Q (F0 m 48 ls []) := by
        intro u3 hu H locs ls hP hD hS hl
        subst hu
        refine lv_iinc (v := (x3_1 + 1)) (lv' := [(3, .int (x3_1 + 1)), (0, .ref (aS 36)), (1, .ref (aO 0)), (2, .int u3)]) hx hb dX1_greatestEnd_48 hl (k := 3) rfl rfl (by decide) rfl (fun ls hl => ?_)
        refine lv_goto (tgt := 4) hx hb dX1_greatestEnd_51 (by decide) ?_
        exact hin _ (Option.some.inj hF).symm H locs ls hP hD hS (lv_sub hl [1, 2, 3, 0] rfl)
      have L3 : ∀ st : Int32 × Int32, q_lo (fun (st : Int32 × Int32) => bX1_greatestEnd_15 R_width C_x O_layers O_size O_rows x3_1 st.1 st.2) st = some q3 → ∀ (H : Heap) (locs : List Loc) (ls : Array Slot), va_P (dC, dI) vwCl (iX1_greatestEnd aS aO cI cZ R_width C_x O_layers O_size O_rows) H → va_D A (iX1_greatestEnd aS aO cI cZ R_width C_x O_layers O_size O_rows) → va_S A s.heap H locs → lv_has ls 5 [(0, .ref (aS 36)), (1, .ref (aO 0)), (2, .int st.1), (3, .int x3_1), (4, .int st.2)] → W p l e (headSpec wsX1_greatestEnd (rX1_greatestEnd)).room s m args below meth c H locs 0 0 Q (F0 m 15 ls []) := by
        intro st hst
        refine q_walk (Wh := fun st : Int32 × Int32 => ∀ (H : Heap) (locs : List Loc) (ls : Array Slot), va_P (dC, dI) vwCl (iX1_greatestEnd aS aO cI cZ R_width C_x O_layers O_size O_rows) H → va_D A (iX1_greatestEnd aS aO cI cZ R_width C_x O_layers O_size O_rows) → va_S A s.heap H locs → lv_has ls 5 [(0, .ref (aS 36)), (1, .ref (aO 0)), (2, .int st.1), (3, .int x3_1), (4, .int st.2)] → W p l e (headSpec wsX1_greatestEnd (rX1_greatestEnd)).room s m args below meth c H locs 0 0 Q (F0 m 15 ls [])) ?_ st hst
        clear hst st hF
        intro st o hF hin hex H locs ls hP hD hS hl
        obtain ⟨x2_3, x4_3⟩ := st
        replace hF : bX1_greatestEnd_15 R_width C_x O_layers O_size O_rows x3_1 x2_3 x4_3 = some o := hF
        replace hP : va_P (dC, dI) vwCl (iX1_greatestEnd aS aO cI cZ R_width C_x O_layers O_size O_rows) H := hP
        replace hD : va_D A (iX1_greatestEnd aS aO cI cZ R_width C_x O_layers O_size O_rows) := hD
        replace hl : lv_has ls 5 [(0, .ref (aS 36)), (1, .ref (aO 0)), (2, .int x2_3), (3, .int x3_1), (4, .int x4_3)] := hl
        unfold bX1_greatestEnd_15 at hF
        refine lv_iload hx hb dX1_greatestEnd_15 (lv_at hl 4 rfl) ?_
        refine lv_aload_n hx hb dX1_greatestEnd_17 rfl (lv_at hl 1 rfl) ?_
        refine lv_iload_n hx hb dX1_greatestEnd_18 rfl (lv_at hl 3 rfl) ?_
        obtain ⟨q4, hcq4, hF⟩ := q_bd hF
        refine q_Vi (As := [.int x3_1]) (rest := [.int x4_3]) ⟨hx, hb, hml, hown, hts⟩ hA hK hP hD hS (tX4_sizeOf l dC dI cI cZ aO H.size O_layers O_size x3_1 q4 hcq4) (cwV 1 hts gX1_greatestEnd_X4_sizeOf rfl rfl rfl uX4_sizeOf ⟨Nat.le_of_ble_eq_true rfl, Nat.le_of_ble_eq_true rfl⟩) [4, 5] [(false, 0), (false, 1), (false, 2), (false, 3), (true, 0), (true, 1), (false, 6)] (iX1_greatestEnd aS aO cI cZ R_width C_x O_layers O_size O_rows) rfl rfl rfl rfl rfl 4 0 rfl rfl rfl rfl hl.1 rfl (Nat.le_of_ble_eq_true rfl) dX1_greatestEnd_19 ⟨Nat.zero_le _, Nat.zero_le _⟩ (fun H locs hP hD hS => ?_)
        refine lv_icmp_ge (tgt := 48) hx hb dX1_greatestEnd_22 (by decide) (fun hc => ?_) (fun hc => ?_)
        · replace hF := q_t hc hF
          exact X3 _ (hex _ (Option.some.inj hF).symm) H locs ls hP hD hS (lv_sub hl [0, 1, 2, 3] rfl)
        · replace hF := q_f hc hF
          refine lv_iload_n hx hb dX1_greatestEnd_25 rfl (lv_at hl 2 rfl) ?_
          refine lv_aload_n hx hb dX1_greatestEnd_26 rfl (lv_at hl 0 rfl) ?_
          refine lv_iload_n hx hb dX1_greatestEnd_27 rfl (lv_at hl 3 rfl) ?_
          refine lv_aload_n hx hb dX1_greatestEnd_28 rfl (lv_at hl 1 rfl) ?_
          refine lv_iload_n hx hb dX1_greatestEnd_29 rfl (lv_at hl 3 rfl) ?_
          refine lv_iload hx hb dX1_greatestEnd_30 (lv_at hl 4 rfl) ?_
          obtain ⟨q5, hcq5, hF⟩ := q_bd hF
          refine q_Vi (As := [.int x3_1, .int x4_3]) (rest := [.int x3_1, .ref (aS 36), .int x2_3]) ⟨hx, hb, hml, hown, hts⟩ hA hK hP hD hS (tX4_itemIn l dC dI cI cZ aO H.size O_layers O_size O_rows x3_1 x4_3 q5 hcq5) (cwV 2 hts gX1_greatestEnd_X4_itemIn rfl rfl rfl uX4_itemIn ⟨Nat.le_of_ble_eq_true rfl, Nat.le_of_ble_eq_true rfl⟩) [4, 5, 6] [(false, 0), (false, 1), (false, 2), (false, 3), (true, 0), (true, 1), (true, 2)] (iX1_greatestEnd aS aO cI cZ R_width C_x O_layers O_size O_rows) rfl rfl rfl rfl rfl 4 0 rfl rfl rfl rfl hl.1 rfl (Nat.le_of_ble_eq_true rfl) dX1_greatestEnd_32 ⟨Nat.zero_le _, Nat.zero_le _⟩ (fun H locs hP hD hS => ?_)
          obtain ⟨q6, hcq6, hF⟩ := q_bd hF
          refine q_Vi (As := [.int x3_1, .int q5]) (rest := [.int x2_3]) ⟨hx, hb, hml, hown, hts⟩ hA hK hP hD hS (tX1_endOf l dC dI cI cZ aS H.size R_width C_x x3_1 q5 q6 hcq6) (cwV 2 hts gX1_greatestEnd_X1_endOf rfl rfl rfl uX1_endOf ⟨Nat.le_of_ble_eq_true rfl, Nat.le_of_ble_eq_true rfl⟩) [0, 1, 2, 3] [(true, 0), (true, 1), (true, 2), (true, 3), (false, 4), (false, 5), (false, 6)] (iX1_greatestEnd aS aO cI cZ R_width C_x O_layers O_size O_rows) rfl rfl rfl rfl rfl 1 0 rfl rfl rfl rfl hl.1 rfl (Nat.le_of_ble_eq_true rfl) dX1_greatestEnd_35 ⟨Nat.zero_le _, Nat.zero_le _⟩ (fun H locs hP hD hS => ?_)
          refine va_mmax hx hb (hml.trans hl.1.symm) hown k0 k1 k2 k3 (Nat.le_of_ble_eq_true rfl) (Nat.le_of_ble_eq_true rfl) (Nat.zero_le _) (Nat.zero_le _) dX1_greatestEnd_38 ?_
          obtain ⟨v7, hv7, hF⟩ := q_letE hF
          refine q_top hv7 ?_
          refine lv_istore_n (lv' := [(2, .int v7), (0, .ref (aS 36)), (1, .ref (aO 0)), (3, .int x3_1), (4, .int x4_3)]) hx hb dX1_greatestEnd_41 rfl hl (by decide) rfl (fun ls hl => ?_)
          refine lv_iinc (v := (x4_3 + 1)) (lv' := [(4, .int (x4_3 + 1)), (2, .int v7), (0, .ref (aS 36)), (1, .ref (aO 0)), (3, .int x3_1)]) hx hb dX1_greatestEnd_42 hl (k := 4) rfl rfl (by decide) rfl (fun ls hl => ?_)
          refine lv_goto (tgt := 15) hx hb dX1_greatestEnd_45 (by decide) ?_
          exact hin _ (Option.some.inj hF).symm H locs ls hP hD hS (lv_sub hl [2, 3, 1, 4, 0] rfl)
      exact L3 (x2_1, 0) hc3 H locs ls hP hD hS (lv_sub hl [1, 2, 3, 4, 0] rfl)
  exact L1 (0, 0) hc1 H locs ls hP hD hS (lv_sub hl [2, 3, 1, 0] rfl)
abbrev rX1_move : Room := { frames := 1, cells := 0, slots := 0, locals := 21 }
theorem eX1_move_X1 : ∀ w ∈ u_ws RX1 TX1 5, w ∈ wsX1_move := by decide +kernel
theorem uX1_move : yX1_move.cls = RX1 ∧ yX1_move.cls ≠ "java/lang/invoke/MethodHandle" ∧ yX1_move.cls ≠ "java/lang/invoke/VarHandle" ∧ (parseMethodDescriptor yX1_move.desc).map (fun d => d.parameters.length) = some 3 := by decide +kernel
set_option maxHeartbeats 4000000 in
set_option maxRecDepth 100000 in
theorem tX1_move (l : Launch) (dC : Nat → ClassId) (dI : Nat → Nat → Nat) (cI cZ : ClassId) (aS : Nat → Nat) (sz : Nat) (C_x : Nat → Int32) (p0 : Int32) (p1 : Int32) (p2 : Int32) (res : (Nat → Int32)) (hF : fX1_move C_x p0 p1 p2 = some res) : q_Mv l yX1_move wsX1_move rX1_move (dC, dI) (q_ty cI cZ) [.ref (aS 36), .int p0, .int p1, .int p2] (iX1_move aS cI cZ C_x) (iX1_move aS cI cZ res) sz := by
  refine q_metv (cc := cX1_move) (maxL := 4) (by decide) rfl (Nat.le_of_ble_eq_true rfl) ?_
  intro p e s m args below meth c Q A H locs ls C hP hD hS hl hret
  obtain ⟨hx, hb, hml, hown, hts, hA, hK⟩ := C
  replace hl : lv_has ls 4 [(0, .ref (aS 36)), (1, .int p0), (2, .int p1), (3, .int p2)] := hl
  have k0 := hts (.fieldLink RX1 9 "RouteLayout$Columns" "x" "[I") (by decide +kernel)
  unfold fX1_move at hF
  refine lv_iload_n hx hb dX1_move_0 rfl (lv_at hl 1 rfl) ?_
  refine lv_iload_n hx hb dX1_move_1 rfl (lv_at hl 2 rfl) ?_
  obtain ⟨q1, hcq1, hF⟩ := q_bd hF
  refine q_Si (As := [.int p0, .int p1]) (rest := []) ⟨hx, hb, hml, hown, hts⟩ hA hK hP hD hS (tX1_isSpot l dC dI cI cZ H.size p0 p1 q1 hcq1) (va_cwS 2 hts gX1_move_X1_isSpot rfl rfl rfl uX1_isSpot ⟨Nat.le_of_ble_eq_true rfl, Nat.le_of_ble_eq_true rfl⟩) [] [(false, 0), (false, 1)] (iX1_move aS cI cZ C_x) rfl rfl rfl rfl rfl rfl hl.1 rfl (Nat.le_of_ble_eq_true rfl) dX1_move_2 ⟨Nat.zero_le _, Nat.zero_le _⟩ (fun H locs hP hD hS => ?_)
  refine lv_if_eq (tgt := 20) hx hb dX1_move_5 (by decide) (fun hc => ?_) (fun hc => ?_)
  · replace hF := q_t hc hF
    exact hret H locs ls 20 _ dX1_move_20 (congrArg (fun z : (Nat → Int32) => (iX1_move aS cI cZ z)) (Option.some.inj hF)) hP hD hS
  · replace hF := q_f hc hF
    refine lv_aload_n hx hb dX1_move_8 rfl (lv_at hl 0 rfl) ?_
    refine q_get (ci := 1) (C := RX1) (T := TX1) (N := 5) hx hb hts eX1_move_X1 hown hK hP 0 rfl rfl 2 (Nat.le_of_ble_eq_true rfl) k0 rfl rfl dX1_move_9 ?_
    refine lv_iload_n hx hb dX1_move_12 rfl (lv_at hl 1 rfl) ?_
    refine lv_bipush (v := 40) hx hb dX1_move_13 (by decide) ?_
    refine lv_imul hx hb dX1_move_15 ?_
    refine lv_iload_n hx hb dX1_move_16 rfl (lv_at hl 2 rfl) ?_
    refine lv_iadd hx hb dX1_move_17 ?_
    refine lv_iload_n hx hb dX1_move_18 rfl (lv_at hl 3 rfl) ?_
    obtain ⟨hn2, hF⟩ := q_ck hF
    refine q_iast hx hb hK hP hD hS 1 0 (iX1_move aS cI cZ (upd C_x ((p0 * 40) + p1).toNatClampNeg p2)) rfl rfl hn2 rfl dX1_move_19 (fun H locs hP hD hS => ?_)
    exact hret H locs ls 20 _ dX1_move_20 (congrArg (fun z : (Nat → Int32) => (iX1_move aS cI cZ z)) (Option.some.inj hF)) hP hD hS
abbrev rX1_pack : Room := { frames := 3, cells := 0, slots := 0, locals := 65 }
theorem uX1_pack : yX1_pack.cls = RX1 ∧ yX1_pack.cls ≠ "java/lang/invoke/MethodHandle" ∧ yX1_pack.cls ≠ "java/lang/invoke/VarHandle" ∧ (parseMethodDescriptor yX1_pack.desc).map (fun d => d.parameters.length) = some 2 := by decide +kernel
set_option maxHeartbeats 4000000 in
set_option maxRecDepth 100000 in
theorem tX1_pack (l : Launch) (dC : Nat → ClassId) (dI : Nat → Nat → Nat) (cI cZ : ClassId) (aS : Nat → Nat) (aO : Nat → Nat) (sz : Nat) (R_width : Nat → Int32) (C_x : Nat → Int32) (O_layers : Int32) (O_size : Nat → Int32) (O_rows : Nat → Int32) (p1 : Int32) (res : (Nat → Int32)) (hF : fX1_pack R_width C_x O_layers O_size O_rows p1 = some res) : q_Mv l yX1_pack wsX1_pack rX1_pack (dC, dI) (q_ty cI cZ) [.ref (aS 36), .ref (aO 0), .int p1] (iX1_pack aS aO cI cZ R_width C_x O_layers O_size O_rows) (iX1_pack aS aO cI cZ R_width res O_layers O_size O_rows) sz := by
  refine q_metv (cc := cX1_pack) (maxL := 6) (by decide) rfl (Nat.le_of_ble_eq_true rfl) ?_
  intro p e s m args below meth c Q A H locs ls C hP hD hS hl hret
  obtain ⟨hx, hb, hml, hown, hts, hA, hK⟩ := C
  replace hl : lv_has ls 6 [(0, .ref (aS 36)), (1, .ref (aO 0)), (2, .int p1)] := hl
  unfold fX1_pack at hF
  refine lv_iconst (v := 0) hx hb dX1_pack_0 (by decide) ?_
  refine lv_istore_n (lv' := [(3, .int 0), (0, .ref (aS 36)), (1, .ref (aO 0)), (2, .int p1)]) hx hb dX1_pack_1 rfl hl (by decide) rfl (fun ls hl => ?_)
  refine lv_iconst (v := 0) hx hb dX1_pack_2 (by decide) ?_
  refine lv_istore (lv' := [(4, .int 0), (3, .int 0), (0, .ref (aS 36)), (1, .ref (aO 0)), (2, .int p1)]) hx hb dX1_pack_3 hl (by decide) rfl (fun ls hl => ?_)
  obtain ⟨q1, hc1, hF⟩ := q_bd hF
  have X1 : ∀ (u1 : Nat → Int32), u1 = q1 → ∀ (H : Heap) (locs : List Loc) (ls : Array Slot), va_P (dC, dI) vwCl (iX1_pack aS aO cI cZ R_width u1 O_layers O_size O_rows) H → va_D A (iX1_pack aS aO cI cZ R_width u1 O_layers O_size O_rows) → va_S A s.heap H locs → lv_has ls 6 [] → W p l e (headSpec wsX1_pack (rX1_pack)).room s m args below meth c H locs 0 0 Q (F0 m 48 ls []) := by
    intro u1 hu H locs ls hP hD hS hl
    subst hu
    exact hret H locs ls 48 _ dX1_pack_48 (congrArg (fun z : (Nat → Int32) => (iX1_pack aS aO cI cZ R_width z O_layers O_size O_rows)) (Option.some.inj hF)) hP hD hS
  have L1 : ∀ st : Int32 × Int32 × (Nat → Int32), q_lo (fun (st : Int32 × Int32 × (Nat → Int32)) => bX1_pack_5 R_width O_layers O_size O_rows p1 st.1 st.2.1 st.2.2) st = some q1 → ∀ (H : Heap) (locs : List Loc) (ls : Array Slot), va_P (dC, dI) vwCl (iX1_pack aS aO cI cZ R_width st.2.2 O_layers O_size O_rows) H → va_D A (iX1_pack aS aO cI cZ R_width st.2.2 O_layers O_size O_rows) → va_S A s.heap H locs → lv_has ls 6 [(0, .ref (aS 36)), (1, .ref (aO 0)), (2, .int p1), (3, .int st.1), (4, .int st.2.1)] → W p l e (headSpec wsX1_pack (rX1_pack)).room s m args below meth c H locs 0 0 Q (F0 m 5 ls []) := by
    intro st hst
    refine q_walk (Wh := fun st : Int32 × Int32 × (Nat → Int32) => ∀ (H : Heap) (locs : List Loc) (ls : Array Slot), va_P (dC, dI) vwCl (iX1_pack aS aO cI cZ R_width st.2.2 O_layers O_size O_rows) H → va_D A (iX1_pack aS aO cI cZ R_width st.2.2 O_layers O_size O_rows) → va_S A s.heap H locs → lv_has ls 6 [(0, .ref (aS 36)), (1, .ref (aO 0)), (2, .int p1), (3, .int st.1), (4, .int st.2.1)] → W p l e (headSpec wsX1_pack (rX1_pack)).room s m args below meth c H locs 0 0 Q (F0 m 5 ls [])) ?_ st hst
    clear hst st hF
    intro st o hF hin hex H locs ls hP hD hS hl
    obtain ⟨x3_1, x4_1, C_x_1⟩ := st
    replace hF : bX1_pack_5 R_width O_layers O_size O_rows p1 x3_1 x4_1 C_x_1 = some o := hF
    replace hP : va_P (dC, dI) vwCl (iX1_pack aS aO cI cZ R_width C_x_1 O_layers O_size O_rows) H := hP
    replace hD : va_D A (iX1_pack aS aO cI cZ R_width C_x_1 O_layers O_size O_rows) := hD
    replace hl : lv_has ls 6 [(0, .ref (aS 36)), (1, .ref (aO 0)), (2, .int p1), (3, .int x3_1), (4, .int x4_1)] := hl
    unfold bX1_pack_5 at hF
    refine lv_iload hx hb dX1_pack_5 (lv_at hl 4 rfl) ?_
    refine lv_aload_n hx hb dX1_pack_7 rfl (lv_at hl 1 rfl) ?_
    refine lv_iload_n hx hb dX1_pack_8 rfl (lv_at hl 2 rfl) ?_
    obtain ⟨q2, hcq2, hF⟩ := q_bd hF
    refine q_Vi (As := [.int p1]) (rest := [.int x4_1]) ⟨hx, hb, hml, hown, hts⟩ hA hK hP hD hS (tX4_sizeOf l dC dI cI cZ aO H.size O_layers O_size p1 q2 hcq2) (cwV 1 hts gX1_pack_X4_sizeOf rfl rfl rfl uX4_sizeOf ⟨Nat.le_of_ble_eq_true rfl, Nat.le_of_ble_eq_true rfl⟩) [4, 5] [(false, 0), (false, 1), (false, 2), (false, 3), (true, 0), (true, 1), (false, 6)] (iX1_pack aS aO cI cZ R_width C_x_1 O_layers O_size O_rows) rfl rfl rfl rfl rfl 4 0 rfl rfl rfl rfl hl.1 rfl (Nat.le_of_ble_eq_true rfl) dX1_pack_9 ⟨Nat.zero_le _, Nat.zero_le _⟩ (fun H locs hP hD hS => ?_)
    refine lv_icmp_ge (tgt := 48) hx hb dX1_pack_12 (by decide) (fun hc => ?_) (fun hc => ?_)
    · replace hF := q_t hc hF
      exact X1 _ (hex _ (Option.some.inj hF).symm) H locs ls hP hD hS (lv_sub hl [] rfl)
    · replace hF := q_f hc hF
      refine lv_aload_n hx hb dX1_pack_15 rfl (lv_at hl 1 rfl) ?_
      refine lv_iload_n hx hb dX1_pack_16 rfl (lv_at hl 2 rfl) ?_
      refine lv_iload hx hb dX1_pack_17 (lv_at hl 4 rfl) ?_
      obtain ⟨q3, hcq3, hF⟩ := q_bd hF
      refine q_Vi (As := [.int p1, .int x4_1]) (rest := []) ⟨hx, hb, hml, hown, hts⟩ hA hK hP hD hS (tX4_itemIn l dC dI cI cZ aO H.size O_layers O_size O_rows p1 x4_1 q3 hcq3) (cwV 2 hts gX1_pack_X4_itemIn rfl rfl rfl uX4_itemIn ⟨Nat.le_of_ble_eq_true rfl, Nat.le_of_ble_eq_true rfl⟩) [4, 5, 6] [(false, 0), (false, 1), (false, 2), (false, 3), (true, 0), (true, 1), (true, 2)] (iX1_pack aS aO cI cZ R_width C_x_1 O_layers O_size O_rows) rfl rfl rfl rfl rfl 4 0 rfl rfl rfl rfl hl.1 rfl (Nat.le_of_ble_eq_true rfl) dX1_pack_19 ⟨Nat.zero_le _, Nat.zero_le _⟩ (fun H locs hP hD hS => ?_)
      refine lv_istore (lv' := [(5, .int q3), (0, .ref (aS 36)), (1, .ref (aO 0)), (2, .int p1), (3, .int x3_1), (4, .int x4_1)]) hx hb dX1_pack_22 hl (by decide) rfl (fun ls hl => ?_)
      refine lv_aload_n hx hb dX1_pack_24 rfl (lv_at hl 1 rfl) ?_
      refine lv_iload_n hx hb dX1_pack_25 rfl (lv_at hl 3 rfl) ?_
      refine lv_iload hx hb dX1_pack_26 (lv_at hl 0 rfl) ?_
      refine lv_iload_n hx hb dX1_pack_28 rfl (lv_at hl 4 rfl) ?_
      obtain ⟨q4, hcq4, hF⟩ := q_bd hF
      refine q_Vv (As := [.int p1, .int q3, .int x3_1]) (rest := []) ⟨hx, hb, hml, hown, hts⟩ hA hK hP hD hS (tX1_move l dC dI cI cZ aS H.size C_x_1 p1 q3 x3_1 q4 hcq4) (cwV 3 hts gX1_pack_X1_move rfl rfl rfl uX1_move ⟨Nat.le_of_ble_eq_true rfl, Nat.le_of_ble_eq_true rfl⟩) [0, 3] [(true, 0), (false, 1), (false, 2), (true, 1), (false, 4), (false, 5), (false, 6)] (iX1_pack aS aO cI cZ R_width q4 O_layers O_size O_rows) rfl rfl rfl rfl rfl 1 0 rfl rfl rfl rfl hl.1 rfl (Nat.le_of_ble_eq_true rfl) dX1_pack_29 ⟨Nat.zero_le _, Nat.zero_le _⟩ (fun H locs hP hD hS => ?_)
      refine lv_aload_n hx hb dX1_pack_32 rfl (lv_at hl 1 rfl) ?_
      refine lv_iload_n hx hb dX1_pack_33 rfl (lv_at hl 3 rfl) ?_
      refine lv_iload hx hb dX1_pack_34 (lv_at hl 0 rfl) ?_
      obtain ⟨q5, hcq5, hF⟩ := q_bd hF
      refine q_Vi (As := [.int p1, .int q3]) (rest := []) ⟨hx, hb, hml, hown, hts⟩ hA hK hP hD hS (tX1_endOf l dC dI cI cZ aS H.size R_width q4 p1 q3 q5 hcq5) (cwV 2 hts gX1_pack_X1_endOf rfl rfl rfl uX1_endOf ⟨Nat.le_of_ble_eq_true rfl, Nat.le_of_ble_eq_true rfl⟩) [0, 1, 2, 3] [(true, 0), (true, 1), (true, 2), (true, 3), (false, 4), (false, 5), (false, 6)] (iX1_pack aS aO cI cZ R_width q4 O_layers O_size O_rows) rfl rfl rfl rfl rfl 1 0 rfl rfl rfl rfl hl.1 rfl (Nat.le_of_ble_eq_true rfl) dX1_pack_36 ⟨Nat.zero_le _, Nat.zero_le _⟩ (fun H locs hP hD hS => ?_)
      refine lv_iconst (v := 4) hx hb dX1_pack_39 (by decide) ?_
      refine lv_iadd hx hb dX1_pack_40 ?_
      refine lv_istore_n (lv' := [(3, .int (q5 + 4)), (5, .int q3), (0, .ref (aS 36)), (1, .ref (aO 0)), (2, .int p1), (4, .int x4_1)]) hx hb dX1_pack_41 rfl hl (by decide) rfl (fun ls hl => ?_)
      refine lv_iinc (v := (x4_1 + 1)) (lv' := [(4, .int (x4_1 + 1)), (3, .int (q5 + 4)), (5, .int q3), (0, .ref (aS 36)), (1, .ref (aO 0)), (2, .int p1)]) hx hb dX1_pack_42 hl (k := 5) rfl rfl (by decide) rfl (fun ls hl => ?_)
      refine lv_goto (tgt := 5) hx hb dX1_pack_45 (by decide) ?_
      exact hin _ (Option.some.inj hF).symm H locs ls hP hD hS (lv_sub hl [3, 4, 5, 1, 0] rfl)
  exact L1 (0, 0, C_x) hc1 H locs ls hP hD hS (lv_sub hl [2, 3, 4, 1, 0] rfl)
abbrev rX1_wanted : Room := { frames := 2, cells := 0, slots := 0, locals := 43 }
theorem eX1_wanted_X1 : ∀ w ∈ u_ws RX1 TX1 5, w ∈ wsX1_wanted := by decide +kernel
theorem uX1_wanted : yX1_wanted.cls = RX1 ∧ yX1_wanted.cls ≠ "java/lang/invoke/MethodHandle" ∧ yX1_wanted.cls ≠ "java/lang/invoke/VarHandle" ∧ (parseMethodDescriptor yX1_wanted.desc).map (fun d => d.parameters.length) = some 2 := by decide +kernel
set_option maxHeartbeats 4000000 in
set_option maxRecDepth 100000 in
theorem tX1_wanted (l : Launch) (dC : Nat → ClassId) (dI : Nat → Nat → Nat) (cI cZ : ClassId) (aS : Nat → Nat) (sz : Nat) (R_width : Nat → Int32) (C_x : Nat → Int32) (C_sum : Nat → Int32) (C_degree : Nat → Int32) (p0 : Int32) (p1 : Int32) (res : Int32) (hF : fX1_wanted R_width C_x C_sum C_degree p0 p1 = some res) : q_Mi l yX1_wanted wsX1_wanted rX1_wanted (dC, dI) (q_ty cI cZ) [.ref (aS 36), .int p0, .int p1] (iX1_wanted aS cI cZ R_width C_x C_sum C_degree) (iX1_wanted aS cI cZ R_width C_x C_sum C_degree) sz res := by
  refine q_meti (cc := cX1_wanted) (maxL := 3) (by decide) rfl (Nat.le_of_ble_eq_true rfl) ?_
  intro p e s m args below meth c Q A H locs ls C hP hD hS hl hret
  obtain ⟨hx, hb, hml, hown, hts, hA, hK⟩ := C
  replace hl : lv_has ls 3 [(0, .ref (aS 36)), (1, .int p0), (2, .int p1)] := hl
  have k0 := hts (.fieldLink RX1 18 "RouteLayout$Columns" "degree" "[I") (by decide +kernel)
  have k1 := hts (.fieldLink RX1 15 "RouteLayout$Columns" "sum" "[I") (by decide +kernel)
  have k2 := hts (.fieldLink RX1 21 "RouteLayout$Columns" "routes" "LRouteLayout$Routes;") (by decide +kernel)
  unfold fX1_wanted at hF
  have JX1_WANTED_19 : ∀ (x1_1 : Int32) (x2_1 : Int32), jX1_wanted_19 C_x x1_1 x2_1 = some res → ∀ (H : Heap) (locs : List Loc) (ls : Array Slot), va_P (dC, dI) vwCl (iX1_wanted aS cI cZ R_width C_x C_sum C_degree) H → va_D A (iX1_wanted aS cI cZ R_width C_x C_sum C_degree) → va_S A s.heap H locs → lv_has ls 3 [(0, .ref (aS 36)), (1, .int x1_1), (2, .int x2_1)] → W p l e (headSpec wsX1_wanted (rX1_wanted)).room s m args below meth c H locs 0 0 Q (F0 m 19 ls []) := by
    intro x1_1 x2_1 hF H locs ls hP hD hS hl
    unfold jX1_wanted_19 at hF
    refine lv_aload_n hx hb dX1_wanted_19 rfl (lv_at hl 0 rfl) ?_
    refine lv_iload_n hx hb dX1_wanted_20 rfl (lv_at hl 1 rfl) ?_
    refine lv_iload_n hx hb dX1_wanted_21 rfl (lv_at hl 2 rfl) ?_
    obtain ⟨q2, hcq2, hF⟩ := q_bd hF
    refine q_Vi (As := [.int x1_1, .int x2_1]) (rest := []) ⟨hx, hb, hml, hown, hts⟩ hA hK hP hD hS (tX1_leftOf l dC dI cI cZ aS H.size C_x x1_1 x2_1 q2 hcq2) (cwV 2 hts gX1_wanted_X1_leftOf rfl rfl rfl uX1_leftOf ⟨Nat.le_of_ble_eq_true rfl, Nat.le_of_ble_eq_true rfl⟩) [0, 3] [(true, 0), (false, 1), (false, 2), (true, 1), (false, 4), (false, 5)] (iX1_wanted aS cI cZ R_width C_x C_sum C_degree) rfl rfl rfl rfl rfl 1 0 rfl rfl rfl rfl hl.1 rfl (Nat.le_of_ble_eq_true rfl) dX1_wanted_22 ⟨Nat.zero_le _, Nat.zero_le _⟩ (fun H locs hP hD hS => ?_)
    exact hret H locs ls 25 _ _ dX1_wanted_25 (Option.some.inj hF) rfl hP hD hS
  refine lv_iload_n hx hb dX1_wanted_0 rfl (lv_at hl 2 rfl) ?_
  refine lv_if_lt (tgt := 19) hx hb dX1_wanted_1 (by decide) (fun hc => ?_) (fun hc => ?_)
  · replace hF := q_t hc hF
    exact JX1_WANTED_19 p0 p1 hF H locs ls hP hD hS (lv_sub hl [0, 1, 2] rfl)
  · replace hF := q_f hc hF
    refine lv_iload_n hx hb dX1_wanted_4 rfl (lv_at hl 2 rfl) ?_
    refine lv_bipush (v := 40) hx hb dX1_wanted_5 (by decide) ?_
    refine lv_icmp_ge (tgt := 19) hx hb dX1_wanted_7 (by decide) (fun hc => ?_) (fun hc => ?_)
    · replace hF := q_t hc hF
      exact JX1_WANTED_19 p0 p1 hF H locs ls hP hD hS (lv_sub hl [0, 1, 2] rfl)
    · replace hF := q_f hc hF
      refine lv_aload_n hx hb dX1_wanted_10 rfl (lv_at hl 0 rfl) ?_
      refine q_get (ci := 1) (C := RX1) (T := TX1) (N := 5) hx hb hts eX1_wanted_X1 hown hK hP 0 rfl rfl 4 (Nat.le_of_ble_eq_true rfl) k0 rfl rfl dX1_wanted_11 ?_
      refine lv_iload_n hx hb dX1_wanted_14 rfl (lv_at hl 2 rfl) ?_
      obtain ⟨hn3, hF⟩ := q_ck hF
      refine va_iald hx hb hK hP 5 0 rfl rfl hn3 dX1_wanted_15 ?_
      refine lv_if_gt (tgt := 26) hx hb dX1_wanted_16 (by decide) (fun hc => ?_) (fun hc => ?_)
      · replace hF := q_t hc hF
        refine lv_aload_n hx hb dX1_wanted_26 rfl (lv_at hl 0 rfl) ?_
        refine q_get (ci := 1) (C := RX1) (T := TX1) (N := 5) hx hb hts eX1_wanted_X1 hown hK hP 0 rfl rfl 3 (Nat.le_of_ble_eq_true rfl) k1 rfl rfl dX1_wanted_27 ?_
        refine lv_iload_n hx hb dX1_wanted_30 rfl (lv_at hl 2 rfl) ?_
        obtain ⟨hn4, hF⟩ := q_ck hF
        refine va_iald hx hb hK hP 4 0 rfl rfl hn4 dX1_wanted_31 ?_
        refine lv_aload_n hx hb dX1_wanted_32 rfl (lv_at hl 0 rfl) ?_
        refine q_get (ci := 1) (C := RX1) (T := TX1) (N := 5) hx hb hts eX1_wanted_X1 hown hK hP 0 rfl rfl 4 (Nat.le_of_ble_eq_true rfl) k0 rfl rfl dX1_wanted_33 ?_
        refine lv_iload_n hx hb dX1_wanted_36 rfl (lv_at hl 2 rfl) ?_
        obtain ⟨hn5, hF⟩ := q_ck hF
        refine va_iald hx hb hK hP 5 0 rfl rfl hn5 dX1_wanted_37 ?_
        obtain ⟨hn6, hF⟩ := q_ck hF
        refine lv_idiv hx hb dX1_wanted_38 hn6 ?_
        refine lv_aload_n hx hb dX1_wanted_39 rfl (lv_at hl 0 rfl) ?_
        refine q_get (ci := 1) (C := RX1) (T := TX1) (N := 5) hx hb hts eX1_wanted_X1 hown hK hP 0 rfl rfl 0 (Nat.le_of_ble_eq_true rfl) k2 rfl rfl dX1_wanted_40 ?_
        refine lv_iload_n hx hb dX1_wanted_43 rfl (lv_at hl 2 rfl) ?_
        obtain ⟨q7, hcq7, hF⟩ := q_bd hF
        refine q_Vi (As := [.int p1]) (rest := [.int ((C_sum p1.toNatClampNeg) / (C_degree p1.toNatClampNeg))]) ⟨hx, hb, hml, hown, hts⟩ hA hK hP hD hS (tX7_widthOf l dC dI cI cZ aS H.size R_width p1 q7 hcq7) (cwV 1 hts gX1_wanted_X7_widthOf rfl rfl rfl uX7_widthOf ⟨Nat.le_of_ble_eq_true rfl, Nat.le_of_ble_eq_true rfl⟩) [1, 2] [(false, 0), (true, 0), (true, 1), (false, 3), (false, 4), (false, 5)] (iX1_wanted aS cI cZ R_width C_x C_sum C_degree) rfl rfl rfl rfl rfl 7 0 rfl rfl rfl rfl hl.1 rfl (Nat.le_of_ble_eq_true rfl) dX1_wanted_44 ⟨Nat.zero_le _, Nat.zero_le _⟩ (fun H locs hP hD hS => ?_)
        refine lv_iconst (v := 2) hx hb dX1_wanted_47 (by decide) ?_
        refine lv_idiv hx hb dX1_wanted_48 (by decide) ?_
        refine lv_isub hx hb dX1_wanted_49 ?_
        exact hret H locs ls 50 _ _ dX1_wanted_50 (Option.some.inj hF) rfl hP hD hS
      · replace hF := q_f hc hF
        exact JX1_WANTED_19 p0 p1 hF H locs ls hP hD hS (lv_sub hl [0, 1, 2] rfl)
abbrev rX1_straighten : Room := { frames := 3, cells := 0, slots := 0, locals := 65 }
theorem uX1_straighten : yX1_straighten.cls = RX1 ∧ yX1_straighten.cls ≠ "java/lang/invoke/MethodHandle" ∧ yX1_straighten.cls ≠ "java/lang/invoke/VarHandle" ∧ (parseMethodDescriptor yX1_straighten.desc).map (fun d => d.parameters.length) = some 2 := by decide +kernel
set_option maxHeartbeats 4000000 in
set_option maxRecDepth 100000 in
theorem tX1_straighten (l : Launch) (dC : Nat → ClassId) (dI : Nat → Nat → Nat) (cI cZ : ClassId) (aS : Nat → Nat) (aO : Nat → Nat) (sz : Nat) (R_width : Nat → Int32) (C_x : Nat → Int32) (C_sum : Nat → Int32) (C_degree : Nat → Int32) (O_layers : Int32) (O_size : Nat → Int32) (O_rows : Nat → Int32) (p1 : Int32) (res : (Nat → Int32)) (hF : fX1_straighten R_width C_x C_sum C_degree O_layers O_size O_rows p1 = some res) : q_Mv l yX1_straighten wsX1_straighten rX1_straighten (dC, dI) (q_ty cI cZ) [.ref (aS 36), .ref (aO 0), .int p1] (iX1_straighten aS aO cI cZ R_width C_x C_sum C_degree O_layers O_size O_rows) (iX1_straighten aS aO cI cZ R_width res C_sum C_degree O_layers O_size O_rows) sz := by
  refine q_metv (cc := cX1_straighten) (maxL := 6) (by decide) rfl (Nat.le_of_ble_eq_true rfl) ?_
  intro p e s m args below meth c Q A H locs ls C hP hD hS hl hret
  obtain ⟨hx, hb, hml, hown, hts, hA, hK⟩ := C
  replace hl : lv_has ls 6 [(0, .ref (aS 36)), (1, .ref (aO 0)), (2, .int p1)] := hl
  have k0 := hts (.constant RX1 100 (-1073741824)) (by decide +kernel)
  have k1 := hts (.methodLink RX1 76 Lib.Math.max.name) (by decide +kernel)
  have k2 := hts (.static Lib.Math.max.name) (by decide +kernel)
  have k3 := hts (.initialized "java/lang/Math") (by decide +kernel)
  have k4 := hts (.code Lib.Math.max.name Lib.Math.max.code 2 (some .int)) (by decide +kernel)
  unfold fX1_straighten at hF
  refine lv_ldc (v := (-1073741824)) hx hb hown k0 dX1_straighten_0 ?_
  refine lv_istore_n (lv' := [(3, .int (-1073741824)), (0, .ref (aS 36)), (1, .ref (aO 0)), (2, .int p1)]) hx hb dX1_straighten_2 rfl hl (by decide) rfl (fun ls hl => ?_)
  refine lv_iconst (v := 0) hx hb dX1_straighten_3 (by decide) ?_
  refine lv_istore (lv' := [(4, .int 0), (3, .int (-1073741824)), (0, .ref (aS 36)), (1, .ref (aO 0)), (2, .int p1)]) hx hb dX1_straighten_4 hl (by decide) rfl (fun ls hl => ?_)
  obtain ⟨q1, hc1, hF⟩ := q_bd hF
  have X1 : ∀ (u1 : Nat → Int32), u1 = q1 → ∀ (H : Heap) (locs : List Loc) (ls : Array Slot), va_P (dC, dI) vwCl (iX1_straighten aS aO cI cZ R_width u1 C_sum C_degree O_layers O_size O_rows) H → va_D A (iX1_straighten aS aO cI cZ R_width u1 C_sum C_degree O_layers O_size O_rows) → va_S A s.heap H locs → lv_has ls 6 [] → W p l e (headSpec wsX1_straighten (rX1_straighten)).room s m args below meth c H locs 0 0 Q (F0 m 59 ls []) := by
    intro u1 hu H locs ls hP hD hS hl
    subst hu
    exact hret H locs ls 59 _ dX1_straighten_59 (congrArg (fun z : (Nat → Int32) => (iX1_straighten aS aO cI cZ R_width z C_sum C_degree O_layers O_size O_rows)) (Option.some.inj hF)) hP hD hS
  have L1 : ∀ st : Int32 × Int32 × (Nat → Int32), q_lo (fun (st : Int32 × Int32 × (Nat → Int32)) => bX1_straighten_6 R_width C_sum C_degree O_layers O_size O_rows p1 st.1 st.2.1 st.2.2) st = some q1 → ∀ (H : Heap) (locs : List Loc) (ls : Array Slot), va_P (dC, dI) vwCl (iX1_straighten aS aO cI cZ R_width st.2.2 C_sum C_degree O_layers O_size O_rows) H → va_D A (iX1_straighten aS aO cI cZ R_width st.2.2 C_sum C_degree O_layers O_size O_rows) → va_S A s.heap H locs → lv_has ls 6 [(0, .ref (aS 36)), (1, .ref (aO 0)), (2, .int p1), (3, .int st.1), (4, .int st.2.1)] → W p l e (headSpec wsX1_straighten (rX1_straighten)).room s m args below meth c H locs 0 0 Q (F0 m 6 ls []) := by
    intro st hst
    refine q_walk (Wh := fun st : Int32 × Int32 × (Nat → Int32) => ∀ (H : Heap) (locs : List Loc) (ls : Array Slot), va_P (dC, dI) vwCl (iX1_straighten aS aO cI cZ R_width st.2.2 C_sum C_degree O_layers O_size O_rows) H → va_D A (iX1_straighten aS aO cI cZ R_width st.2.2 C_sum C_degree O_layers O_size O_rows) → va_S A s.heap H locs → lv_has ls 6 [(0, .ref (aS 36)), (1, .ref (aO 0)), (2, .int p1), (3, .int st.1), (4, .int st.2.1)] → W p l e (headSpec wsX1_straighten (rX1_straighten)).room s m args below meth c H locs 0 0 Q (F0 m 6 ls [])) ?_ st hst
    clear hst st hF
    intro st o hF hin hex H locs ls hP hD hS hl
    obtain ⟨x3_1, x4_1, C_x_1⟩ := st
    replace hF : bX1_straighten_6 R_width C_sum C_degree O_layers O_size O_rows p1 x3_1 x4_1 C_x_1 = some o := hF
    replace hP : va_P (dC, dI) vwCl (iX1_straighten aS aO cI cZ R_width C_x_1 C_sum C_degree O_layers O_size O_rows) H := hP
    replace hD : va_D A (iX1_straighten aS aO cI cZ R_width C_x_1 C_sum C_degree O_layers O_size O_rows) := hD
    replace hl : lv_has ls 6 [(0, .ref (aS 36)), (1, .ref (aO 0)), (2, .int p1), (3, .int x3_1), (4, .int x4_1)] := hl
    unfold bX1_straighten_6 at hF
    refine lv_iload hx hb dX1_straighten_6 (lv_at hl 4 rfl) ?_
    refine lv_aload_n hx hb dX1_straighten_8 rfl (lv_at hl 1 rfl) ?_
    refine lv_iload_n hx hb dX1_straighten_9 rfl (lv_at hl 2 rfl) ?_
    obtain ⟨q2, hcq2, hF⟩ := q_bd hF
    refine q_Vi (As := [.int p1]) (rest := [.int x4_1]) ⟨hx, hb, hml, hown, hts⟩ hA hK hP hD hS (tX4_sizeOf l dC dI cI cZ aO H.size O_layers O_size p1 q2 hcq2) (cwV 1 hts gX1_straighten_X4_sizeOf rfl rfl rfl uX4_sizeOf ⟨Nat.le_of_ble_eq_true rfl, Nat.le_of_ble_eq_true rfl⟩) [6, 7] [(false, 0), (false, 1), (false, 2), (false, 3), (false, 4), (false, 5), (true, 0), (true, 1), (false, 8)] (iX1_straighten aS aO cI cZ R_width C_x_1 C_sum C_degree O_layers O_size O_rows) rfl rfl rfl rfl rfl 4 0 rfl rfl rfl rfl hl.1 rfl (Nat.le_of_ble_eq_true rfl) dX1_straighten_10 ⟨Nat.zero_le _, Nat.zero_le _⟩ (fun H locs hP hD hS => ?_)
    refine lv_icmp_ge (tgt := 59) hx hb dX1_straighten_13 (by decide) (fun hc => ?_) (fun hc => ?_)
    · replace hF := q_t hc hF
      exact X1 _ (hex _ (Option.some.inj hF).symm) H locs ls hP hD hS (lv_sub hl [] rfl)
    · replace hF := q_f hc hF
      refine lv_aload_n hx hb dX1_straighten_16 rfl (lv_at hl 1 rfl) ?_
      refine lv_iload_n hx hb dX1_straighten_17 rfl (lv_at hl 2 rfl) ?_
      refine lv_iload hx hb dX1_straighten_18 (lv_at hl 4 rfl) ?_
      obtain ⟨q3, hcq3, hF⟩ := q_bd hF
      refine q_Vi (As := [.int p1, .int x4_1]) (rest := []) ⟨hx, hb, hml, hown, hts⟩ hA hK hP hD hS (tX4_itemIn l dC dI cI cZ aO H.size O_layers O_size O_rows p1 x4_1 q3 hcq3) (cwV 2 hts gX1_straighten_X4_itemIn rfl rfl rfl uX4_itemIn ⟨Nat.le_of_ble_eq_true rfl, Nat.le_of_ble_eq_true rfl⟩) [6, 7, 8] [(false, 0), (false, 1), (false, 2), (false, 3), (false, 4), (false, 5), (true, 0), (true, 1), (true, 2)] (iX1_straighten aS aO cI cZ R_width C_x_1 C_sum C_degree O_layers O_size O_rows) rfl rfl rfl rfl rfl 4 0 rfl rfl rfl rfl hl.1 rfl (Nat.le_of_ble_eq_true rfl) dX1_straighten_20 ⟨Nat.zero_le _, Nat.zero_le _⟩ (fun H locs hP hD hS => ?_)
      refine lv_istore (lv' := [(5, .int q3), (0, .ref (aS 36)), (1, .ref (aO 0)), (2, .int p1), (3, .int x3_1), (4, .int x4_1)]) hx hb dX1_straighten_23 hl (by decide) rfl (fun ls hl => ?_)
      refine lv_aload_n hx hb dX1_straighten_25 rfl (lv_at hl 1 rfl) ?_
      refine lv_iload_n hx hb dX1_straighten_26 rfl (lv_at hl 3 rfl) ?_
      refine lv_iload hx hb dX1_straighten_27 (lv_at hl 0 rfl) ?_
      refine lv_aload_n hx hb dX1_straighten_29 rfl (lv_at hl 1 rfl) ?_
      refine lv_iload_n hx hb dX1_straighten_30 rfl (lv_at hl 3 rfl) ?_
      refine lv_iload hx hb dX1_straighten_31 (lv_at hl 0 rfl) ?_
      obtain ⟨q4, hcq4, hF⟩ := q_bd hF
      refine q_Vi (As := [.int p1, .int q3]) (rest := [.int q3, .int p1, .ref (aS 36)]) ⟨hx, hb, hml, hown, hts⟩ hA hK hP hD hS (tX1_wanted l dC dI cI cZ aS H.size R_width C_x_1 C_sum C_degree p1 q3 q4 hcq4) (cwV 2 hts gX1_straighten_X1_wanted rfl rfl rfl uX1_wanted ⟨Nat.le_of_ble_eq_true rfl, Nat.le_of_ble_eq_true rfl⟩) [0, 1, 2, 3, 4, 5] [(true, 0), (true, 1), (true, 2), (true, 3), (true, 4), (true, 5), (false, 6), (false, 7), (false, 8)] (iX1_straighten aS aO cI cZ R_width C_x_1 C_sum C_degree O_layers O_size O_rows) rfl rfl rfl rfl rfl 1 0 rfl rfl rfl rfl hl.1 rfl (Nat.le_of_ble_eq_true rfl) dX1_straighten_33 ⟨Nat.zero_le _, Nat.zero_le _⟩ (fun H locs hP hD hS => ?_)
      refine lv_iload_n hx hb dX1_straighten_36 rfl (lv_at hl 4 rfl) ?_
      refine va_mmax hx hb (hml.trans hl.1.symm) hown k1 k2 k3 k4 (Nat.le_of_ble_eq_true rfl) (Nat.le_of_ble_eq_true rfl) (Nat.zero_le _) (Nat.zero_le _) dX1_straighten_37 ?_
      obtain ⟨q5, hcq5, hF⟩ := q_bd hF
      refine q_Vv (As := [.int p1, .int q3, .int (if q4 < x3_1 then x3_1 else q4)]) (rest := []) ⟨hx, hb, hml, hown, hts⟩ hA hK hP hD hS (tX1_move l dC dI cI cZ aS H.size C_x_1 p1 q3 (if q4 < x3_1 then x3_1 else q4) q5 hcq5) (cwV 3 hts gX1_straighten_X1_move rfl rfl rfl uX1_move ⟨Nat.le_of_ble_eq_true rfl, Nat.le_of_ble_eq_true rfl⟩) [0, 3] [(true, 0), (false, 1), (false, 2), (true, 1), (false, 4), (false, 5), (false, 6), (false, 7), (false, 8)] (iX1_straighten aS aO cI cZ R_width q5 C_sum C_degree O_layers O_size O_rows) rfl rfl rfl rfl rfl 1 0 rfl rfl rfl rfl hl.1 rfl (Nat.le_of_ble_eq_true rfl) dX1_straighten_40 ⟨Nat.zero_le _, Nat.zero_le _⟩ (fun H locs hP hD hS => ?_)
      refine lv_aload_n hx hb dX1_straighten_43 rfl (lv_at hl 1 rfl) ?_
      refine lv_iload_n hx hb dX1_straighten_44 rfl (lv_at hl 3 rfl) ?_
      refine lv_iload hx hb dX1_straighten_45 (lv_at hl 0 rfl) ?_
      obtain ⟨q6, hcq6, hF⟩ := q_bd hF
      refine q_Vi (As := [.int p1, .int q3]) (rest := []) ⟨hx, hb, hml, hown, hts⟩ hA hK hP hD hS (tX1_endOf l dC dI cI cZ aS H.size R_width q5 p1 q3 q6 hcq6) (cwV 2 hts gX1_straighten_X1_endOf rfl rfl rfl uX1_endOf ⟨Nat.le_of_ble_eq_true rfl, Nat.le_of_ble_eq_true rfl⟩) [0, 1, 2, 3] [(true, 0), (true, 1), (true, 2), (true, 3), (false, 4), (false, 5), (false, 6), (false, 7), (false, 8)] (iX1_straighten aS aO cI cZ R_width q5 C_sum C_degree O_layers O_size O_rows) rfl rfl rfl rfl rfl 1 0 rfl rfl rfl rfl hl.1 rfl (Nat.le_of_ble_eq_true rfl) dX1_straighten_47 ⟨Nat.zero_le _, Nat.zero_le _⟩ (fun H locs hP hD hS => ?_)
      refine lv_iconst (v := 4) hx hb dX1_straighten_50 (by decide) ?_
      refine lv_iadd hx hb dX1_straighten_51 ?_
      refine lv_istore_n (lv' := [(3, .int (q6 + 4)), (5, .int q3), (0, .ref (aS 36)), (1, .ref (aO 0)), (2, .int p1), (4, .int x4_1)]) hx hb dX1_straighten_52 rfl hl (by decide) rfl (fun ls hl => ?_)
      refine lv_iinc (v := (x4_1 + 1)) (lv' := [(4, .int (x4_1 + 1)), (3, .int (q6 + 4)), (5, .int q3), (0, .ref (aS 36)), (1, .ref (aO 0)), (2, .int p1)]) hx hb dX1_straighten_53 hl (k := 5) rfl rfl (by decide) rfl (fun ls hl => ?_)
      refine lv_goto (tgt := 6) hx hb dX1_straighten_56 (by decide) ?_
      exact hin _ (Option.some.inj hF).symm H locs ls hP hD hS (lv_sub hl [3, 4, 5, 1, 0] rfl)
  exact L1 ((-1073741824), 0, C_x) hc1 H locs ls hP hD hS (lv_sub hl [2, 3, 4, 1, 0] rfl)
