/-! Written by wip/whole/gen.py: walks of X5_gatherMovers, X5_loadEnds, X5_sortMovers, X5_putMovers, X5_step, X5_sweep, X5_improve. -/
abbrev rX5_gatherMovers : Room := { frames := 2, cells := 0, slots := 0, locals := 44 }
theorem eX5_gatherMovers_X5 : ∀ w ∈ u_ws RX5 TX5 12, w ∈ wsX5_gatherMovers := by decide +kernel
theorem uX5_gatherMovers : yX5_gatherMovers.cls = RX5 ∧ yX5_gatherMovers.cls ≠ "java/lang/invoke/MethodHandle" ∧ yX5_gatherMovers.cls ≠ "java/lang/invoke/VarHandle" ∧ (parseMethodDescriptor yX5_gatherMovers.desc).map (fun d => d.parameters.length) = some 2 := by decide +kernel
set_option maxHeartbeats 4000000 in
set_option maxRecDepth 100000 in
theorem tX5_gatherMovers (l : Launch) (dC : Nat → ClassId) (dI : Nat → Nat → Nat) (cI cZ : ClassId) (aS : Nat → Nat) (aO : Nat → Nat) (sz : Nat) (Q_median : Nat → Int32) (Q_stood : Nat → Int32) (Q_spots : Nat → Int32) (Q_movers : Int32) (O_layers : Int32) (O_size : Nat → Int32) (O_rows : Nat → Int32) (p1 : Int32) (res : (Nat → Int32) × (Nat → Int32) × Int32) (hF : fX5_gatherMovers Q_median Q_stood Q_spots O_layers O_size O_rows p1 = some res) : q_Mv l yX5_gatherMovers wsX5_gatherMovers rX5_gatherMovers (dC, dI) (q_ty cI cZ) [.ref (aS 19), .ref (aO 0), .int p1] (iX5_gatherMovers aS aO cI cZ Q_median Q_stood Q_spots Q_movers O_layers O_size O_rows) (iX5_gatherMovers aS aO cI cZ Q_median res.1 res.2.1 res.2.2 O_layers O_size O_rows) sz := by
  refine q_metv (cc := cX5_gatherMovers) (maxL := 6) (by decide) rfl (Nat.le_of_ble_eq_true rfl) ?_
  intro p e s m args below meth c Q A H locs ls C hP hD hS hl hret
  obtain ⟨hx, hb, hml, hown, hts, hA, hK⟩ := C
  replace hl : lv_has ls 6 [(0, .ref (aS 19)), (1, .ref (aO 0)), (2, .int p1)] := hl
  have k0 := hts (.fieldLink RX5 53 "RouteLayout$Orderer" "movers" "I") (by decide +kernel)
  have k1 := hts (.methodLink RX5 106 Lib.Math.min.name) (by decide +kernel)
  have k2 := hts (.static Lib.Math.min.name) (by decide +kernel)
  have k3 := hts (.initialized "java/lang/Math") (by decide +kernel)
  have k4 := hts (.code Lib.Math.min.name Lib.Math.min.code 2 (some .int)) (by decide +kernel)
  have k5 := hts (.fieldLink RX5 24 "RouteLayout$Orderer" "median" "[I") (by decide +kernel)
  have k6 := hts (.fieldLink RX5 27 "RouteLayout$Orderer" "stood" "[I") (by decide +kernel)
  have k7 := hts (.fieldLink RX5 33 "RouteLayout$Orderer" "spots" "[I") (by decide +kernel)
  unfold fX5_gatherMovers at hF
  refine lv_aload_n hx hb dX5_gatherMovers_0 rfl (lv_at hl 0 rfl) ?_
  refine lv_iconst (v := 0) hx hb dX5_gatherMovers_1 (by decide) ?_
  refine q_put (ci := 5) (C := RX5) (T := TX5) (N := 12) (ty := .int) hx hb hts eX5_gatherMovers_X5 tyX5 tyX5_ok nmX5 hown hK hP hD hS 0 (iX5_gatherMovers aS aO cI cZ Q_median Q_stood Q_spots 0 O_layers O_size O_rows) rfl rfl 11 (Nat.le_of_ble_eq_true rfl) k0 rfl rfl (by decide +kernel) rfl rfl (Nat.le_of_ble_eq_true rfl) rfl dX5_gatherMovers_2 (fun H locs hP hD hS => ?_)
  refine lv_aload_n hx hb dX5_gatherMovers_5 rfl (lv_at hl 1 rfl) ?_
  refine lv_iload_n hx hb dX5_gatherMovers_6 rfl (lv_at hl 2 rfl) ?_
  obtain ⟨q1, hcq1, hF⟩ := q_bd hF
  refine q_Vi (As := [.int p1]) (rest := []) ⟨hx, hb, hml, hown, hts⟩ hA hK hP hD hS (tX4_sizeOf l dC dI cI cZ aO H.size O_layers O_size p1 q1 hcq1) (cwV 1 hts gX5_gatherMovers_X4_sizeOf rfl rfl rfl uX4_sizeOf ⟨Nat.le_of_ble_eq_true rfl, Nat.le_of_ble_eq_true rfl⟩) [4, 5] [(false, 0), (false, 1), (false, 2), (false, 3), (true, 0), (true, 1), (false, 6)] (iX5_gatherMovers aS aO cI cZ Q_median Q_stood Q_spots 0 O_layers O_size O_rows) rfl rfl rfl rfl rfl 4 0 rfl rfl rfl rfl hl.1 rfl (Nat.le_of_ble_eq_true rfl) dX5_gatherMovers_7 ⟨Nat.zero_le _, Nat.zero_le _⟩ (fun H locs hP hD hS => ?_)
  refine lv_bipush (v := 40) hx hb dX5_gatherMovers_10 (by decide) ?_
  refine va_mmin hx hb (hml.trans hl.1.symm) hown k1 k2 k3 k4 (Nat.le_of_ble_eq_true rfl) (Nat.le_of_ble_eq_true rfl) (Nat.zero_le _) (Nat.zero_le _) dX5_gatherMovers_12 ?_
  obtain ⟨v2, hv2, hF⟩ := q_letE hF
  refine q_top hv2 ?_
  refine lv_istore_n (lv' := [(3, .int v2), (0, .ref (aS 19)), (1, .ref (aO 0)), (2, .int p1)]) hx hb dX5_gatherMovers_15 rfl hl (by decide) rfl (fun ls hl => ?_)
  refine lv_iconst (v := 0) hx hb dX5_gatherMovers_16 (by decide) ?_
  refine lv_istore (lv' := [(4, .int 0), (3, .int v2), (0, .ref (aS 19)), (1, .ref (aO 0)), (2, .int p1)]) hx hb dX5_gatherMovers_17 hl (by decide) rfl (fun ls hl => ?_)
  obtain ⟨q3_0, q3_1, q3_2, hc3, hF⟩ := q_bd3 hF
  have X3 : ∀ (u3_0 : Nat → Int32) (u3_1 : Nat → Int32) (u3_2 : Int32), (u3_0, u3_1, u3_2) = (q3_0, q3_1, q3_2) → ∀ (H : Heap) (locs : List Loc) (ls : Array Slot), va_P (dC, dI) vwCl (iX5_gatherMovers aS aO cI cZ Q_median u3_0 u3_1 u3_2 O_layers O_size O_rows) H → va_D A (iX5_gatherMovers aS aO cI cZ Q_median u3_0 u3_1 u3_2 O_layers O_size O_rows) → va_S A s.heap H locs → lv_has ls 6 [] → W p l e (headSpec wsX5_gatherMovers (rX5_gatherMovers)).room s m args below meth c H locs 0 0 Q (F0 m 91 ls []) := by
    intro u3_0 u3_1 u3_2 hu H locs ls hP hD hS hl
    obtain ⟨e0, e1, e2⟩ := q_inj3 hu
    subst e0 e1 e2
    exact hret H locs ls 91 _ dX5_gatherMovers_91 (congrArg (fun z : (Nat → Int32) × (Nat → Int32) × Int32 => (iX5_gatherMovers aS aO cI cZ Q_median z.1 z.2.1 z.2.2 O_layers O_size O_rows)) (Option.some.inj hF)) hP hD hS
  have L3 : ∀ st : Int32 × (Nat → Int32) × (Nat → Int32) × Int32, q_lo (fun (st : Int32 × (Nat → Int32) × (Nat → Int32) × Int32) => bX5_gatherMovers_19 Q_median O_layers O_size O_rows p1 v2 st.1 st.2.1 st.2.2.1 st.2.2.2) st = some (q3_0, q3_1, q3_2) → ∀ (H : Heap) (locs : List Loc) (ls : Array Slot), va_P (dC, dI) vwCl (iX5_gatherMovers aS aO cI cZ Q_median st.2.1 st.2.2.1 st.2.2.2 O_layers O_size O_rows) H → va_D A (iX5_gatherMovers aS aO cI cZ Q_median st.2.1 st.2.2.1 st.2.2.2 O_layers O_size O_rows) → va_S A s.heap H locs → lv_has ls 6 [(0, .ref (aS 19)), (1, .ref (aO 0)), (2, .int p1), (3, .int v2), (4, .int st.1)] → W p l e (headSpec wsX5_gatherMovers (rX5_gatherMovers)).room s m args below meth c H locs 0 0 Q (F0 m 19 ls []) := by
    intro st hst
    refine q_walk (Wh := fun st : Int32 × (Nat → Int32) × (Nat → Int32) × Int32 => ∀ (H : Heap) (locs : List Loc) (ls : Array Slot), va_P (dC, dI) vwCl (iX5_gatherMovers aS aO cI cZ Q_median st.2.1 st.2.2.1 st.2.2.2 O_layers O_size O_rows) H → va_D A (iX5_gatherMovers aS aO cI cZ Q_median st.2.1 st.2.2.1 st.2.2.2 O_layers O_size O_rows) → va_S A s.heap H locs → lv_has ls 6 [(0, .ref (aS 19)), (1, .ref (aO 0)), (2, .int p1), (3, .int v2), (4, .int st.1)] → W p l e (headSpec wsX5_gatherMovers (rX5_gatherMovers)).room s m args below meth c H locs 0 0 Q (F0 m 19 ls [])) ?_ st hst
    clear hst st hF
    intro st o hF hin hex H locs ls hP hD hS hl
    obtain ⟨x4_3, Q_stood_3, Q_spots_3, Q_movers_3⟩ := st
    replace hF : bX5_gatherMovers_19 Q_median O_layers O_size O_rows p1 v2 x4_3 Q_stood_3 Q_spots_3 Q_movers_3 = some o := hF
    replace hP : va_P (dC, dI) vwCl (iX5_gatherMovers aS aO cI cZ Q_median Q_stood_3 Q_spots_3 Q_movers_3 O_layers O_size O_rows) H := hP
    replace hD : va_D A (iX5_gatherMovers aS aO cI cZ Q_median Q_stood_3 Q_spots_3 Q_movers_3 O_layers O_size O_rows) := hD
    replace hl : lv_has ls 6 [(0, .ref (aS 19)), (1, .ref (aO 0)), (2, .int p1), (3, .int v2), (4, .int x4_3)] := hl
    unfold bX5_gatherMovers_19 at hF
    have JX5_GATHERMOVERS_85 : ∀ (Q_stood_4 : Nat → Int32) (Q_spots_4 : Nat → Int32) (Q_movers_4 : Int32) (x4_4 : Int32), jX5_gatherMovers_85 Q_stood_4 Q_spots_4 Q_movers_4 p1 v2 x4_4 = some o → ∀ (H : Heap) (locs : List Loc) (ls : Array Slot), va_P (dC, dI) vwCl (iX5_gatherMovers aS aO cI cZ Q_median Q_stood_4 Q_spots_4 Q_movers_4 O_layers O_size O_rows) H → va_D A (iX5_gatherMovers aS aO cI cZ Q_median Q_stood_4 Q_spots_4 Q_movers_4 O_layers O_size O_rows) → va_S A s.heap H locs → lv_has ls 6 [(0, .ref (aS 19)), (1, .ref (aO 0)), (2, .int p1), (3, .int v2), (4, .int x4_4)] → W p l e (headSpec wsX5_gatherMovers (rX5_gatherMovers)).room s m args below meth c H locs 0 0 Q (F0 m 85 ls []) := by
      intro Q_stood_4 Q_spots_4 Q_movers_4 x4_4 hF H locs ls hP hD hS hl
      unfold jX5_gatherMovers_85 at hF
      refine lv_iinc (v := (x4_4 + 1)) (lv' := [(4, .int (x4_4 + 1)), (0, .ref (aS 19)), (1, .ref (aO 0)), (2, .int p1), (3, .int v2)]) hx hb dX5_gatherMovers_85 hl (k := 4) rfl rfl (by decide) rfl (fun ls hl => ?_)
      refine lv_goto (tgt := 19) hx hb dX5_gatherMovers_88 (by decide) ?_
      exact hin _ (Option.some.inj hF).symm H locs ls hP hD hS (lv_sub hl [1, 2, 3, 4, 0] rfl)
    refine lv_iload hx hb dX5_gatherMovers_19 (lv_at hl 4 rfl) ?_
    refine lv_iload_n hx hb dX5_gatherMovers_21 rfl (lv_at hl 3 rfl) ?_
    refine lv_icmp_ge (tgt := 91) hx hb dX5_gatherMovers_22 (by decide) (fun hc => ?_) (fun hc => ?_)
    · replace hF := q_t hc hF
      exact X3 _ _ _ (hex _ (Option.some.inj hF).symm) H locs ls hP hD hS (lv_sub hl [] rfl)
    · replace hF := q_f hc hF
      refine lv_aload_n hx hb dX5_gatherMovers_25 rfl (lv_at hl 1 rfl) ?_
      refine lv_iload_n hx hb dX5_gatherMovers_26 rfl (lv_at hl 2 rfl) ?_
      refine lv_iload hx hb dX5_gatherMovers_27 (lv_at hl 4 rfl) ?_
      obtain ⟨q5, hcq5, hF⟩ := q_bd hF
      refine q_Vi (As := [.int p1, .int x4_3]) (rest := []) ⟨hx, hb, hml, hown, hts⟩ hA hK hP hD hS (tX4_itemIn l dC dI cI cZ aO H.size O_layers O_size O_rows p1 x4_3 q5 hcq5) (cwV 2 hts gX5_gatherMovers_X4_itemIn rfl rfl rfl uX4_itemIn ⟨Nat.le_of_ble_eq_true rfl, Nat.le_of_ble_eq_true rfl⟩) [4, 5, 6] [(false, 0), (false, 1), (false, 2), (false, 3), (true, 0), (true, 1), (true, 2)] (iX5_gatherMovers aS aO cI cZ Q_median Q_stood_3 Q_spots_3 Q_movers_3 O_layers O_size O_rows) rfl rfl rfl rfl rfl 4 0 rfl rfl rfl rfl hl.1 rfl (Nat.le_of_ble_eq_true rfl) dX5_gatherMovers_29 ⟨Nat.zero_le _, Nat.zero_le _⟩ (fun H locs hP hD hS => ?_)
      refine lv_istore (lv' := [(5, .int q5), (0, .ref (aS 19)), (1, .ref (aO 0)), (2, .int p1), (3, .int v2), (4, .int x4_3)]) hx hb dX5_gatherMovers_32 hl (by decide) rfl (fun ls hl => ?_)
      refine lv_iload hx hb dX5_gatherMovers_34 (lv_at hl 0 rfl) ?_
      obtain ⟨q6, hcq6, hF⟩ := q_bd hF
      refine q_Si (As := [.int q5]) (rest := []) ⟨hx, hb, hml, hown, hts⟩ hA hK hP hD hS (tX5_isCode l dC dI cI cZ H.size q5 q6 hcq6) (va_cwS 1 hts gX5_gatherMovers_X5_isCode rfl rfl rfl uX5_isCode ⟨Nat.le_of_ble_eq_true rfl, Nat.le_of_ble_eq_true rfl⟩) [] [(false, 0), (false, 1), (false, 2), (false, 3), (false, 4), (false, 5), (false, 6)] (iX5_gatherMovers aS aO cI cZ Q_median Q_stood_3 Q_spots_3 Q_movers_3 O_layers O_size O_rows) rfl rfl rfl rfl rfl rfl hl.1 rfl (Nat.le_of_ble_eq_true rfl) dX5_gatherMovers_36 ⟨Nat.zero_le _, Nat.zero_le _⟩ (fun H locs hP hD hS => ?_)
      refine lv_if_eq (tgt := 85) hx hb dX5_gatherMovers_39 (by decide) (fun hc => ?_) (fun hc => ?_)
      · replace hF := q_t hc hF
        exact JX5_GATHERMOVERS_85 Q_stood_3 Q_spots_3 Q_movers_3 x4_3 hF H locs ls hP hD hS (lv_sub hl [1, 2, 3, 4, 5] rfl)
      · replace hF := q_f hc hF
        refine lv_aload_n hx hb dX5_gatherMovers_42 rfl (lv_at hl 1 rfl) ?_
        refine q_get (ci := 5) (C := RX5) (T := TX5) (N := 12) hx hb hts eX5_gatherMovers_X5 hown hK hP 0 rfl rfl 7 (Nat.le_of_ble_eq_true rfl) k5 rfl rfl dX5_gatherMovers_43 ?_
        refine lv_iload hx hb dX5_gatherMovers_46 (lv_at hl 0 rfl) ?_
        obtain ⟨hn7, hF⟩ := q_ck hF
        refine va_iald hx hb hK hP 1 0 rfl rfl hn7 dX5_gatherMovers_48 ?_
        refine lv_iconst (v := (-1)) hx hb dX5_gatherMovers_49 (by decide) ?_
        refine lv_icmp_eq (tgt := 85) hx hb dX5_gatherMovers_50 (by decide) (fun hc => ?_) (fun hc => ?_)
        · replace hF := q_t hc hF
          exact JX5_GATHERMOVERS_85 Q_stood_3 Q_spots_3 Q_movers_3 x4_3 hF H locs ls hP hD hS (lv_sub hl [1, 2, 3, 4, 5] rfl)
        · replace hF := q_f hc hF
          refine lv_aload_n hx hb dX5_gatherMovers_53 rfl (lv_at hl 1 rfl) ?_
          refine q_get (ci := 5) (C := RX5) (T := TX5) (N := 12) hx hb hts eX5_gatherMovers_X5 hown hK hP 0 rfl rfl 8 (Nat.le_of_ble_eq_true rfl) k6 rfl rfl dX5_gatherMovers_54 ?_
          refine lv_aload_n hx hb dX5_gatherMovers_57 rfl (lv_at hl 1 rfl) ?_
          refine q_get (ci := 5) (C := RX5) (T := TX5) (N := 12) hx hb hts eX5_gatherMovers_X5 hown hK hP 0 rfl rfl 11 (Nat.le_of_ble_eq_true rfl) k0 rfl rfl dX5_gatherMovers_58 ?_
          refine lv_iload hx hb dX5_gatherMovers_61 (lv_at hl 0 rfl) ?_
          obtain ⟨hn8, hF⟩ := q_ck hF
          refine q_iast hx hb hK hP hD hS 2 0 (iX5_gatherMovers aS aO cI cZ Q_median (upd Q_stood_3 Q_movers_3.toNatClampNeg q5) Q_spots_3 Q_movers_3 O_layers O_size O_rows) rfl rfl hn8 rfl dX5_gatherMovers_63 (fun H locs hP hD hS => ?_)
          refine lv_aload_n hx hb dX5_gatherMovers_64 rfl (lv_at hl 1 rfl) ?_
          refine q_get (ci := 5) (C := RX5) (T := TX5) (N := 12) hx hb hts eX5_gatherMovers_X5 hown hK hP 0 rfl rfl 10 (Nat.le_of_ble_eq_true rfl) k7 rfl rfl dX5_gatherMovers_65 ?_
          refine lv_aload_n hx hb dX5_gatherMovers_68 rfl (lv_at hl 1 rfl) ?_
          refine q_get (ci := 5) (C := RX5) (T := TX5) (N := 12) hx hb hts eX5_gatherMovers_X5 hown hK hP 0 rfl rfl 11 (Nat.le_of_ble_eq_true rfl) k0 rfl rfl dX5_gatherMovers_69 ?_
          refine lv_iload hx hb dX5_gatherMovers_72 (lv_at hl 5 rfl) ?_
          obtain ⟨hn9, hF⟩ := q_ck hF
          refine q_iast hx hb hK hP hD hS 3 0 (iX5_gatherMovers aS aO cI cZ Q_median (upd Q_stood_3 Q_movers_3.toNatClampNeg q5) (upd Q_spots_3 Q_movers_3.toNatClampNeg x4_3) Q_movers_3 O_layers O_size O_rows) rfl rfl hn9 rfl dX5_gatherMovers_74 (fun H locs hP hD hS => ?_)
          refine lv_aload_n hx hb dX5_gatherMovers_75 rfl (lv_at hl 1 rfl) ?_
          refine lv_dup hx hb dX5_gatherMovers_76 rfl ?_
          refine q_get (ci := 5) (C := RX5) (T := TX5) (N := 12) hx hb hts eX5_gatherMovers_X5 hown hK hP 0 rfl rfl 11 (Nat.le_of_ble_eq_true rfl) k0 rfl rfl dX5_gatherMovers_77 ?_
          refine lv_iconst (v := 1) hx hb dX5_gatherMovers_80 (by decide) ?_
          refine lv_iadd hx hb dX5_gatherMovers_81 ?_
          refine q_put (ci := 5) (C := RX5) (T := TX5) (N := 12) (ty := .int) hx hb hts eX5_gatherMovers_X5 tyX5 tyX5_ok nmX5 hown hK hP hD hS 0 (iX5_gatherMovers aS aO cI cZ Q_median (upd Q_stood_3 Q_movers_3.toNatClampNeg q5) (upd Q_spots_3 Q_movers_3.toNatClampNeg x4_3) (Q_movers_3 + 1) O_layers O_size O_rows) rfl rfl 11 (Nat.le_of_ble_eq_true rfl) k0 rfl rfl (by decide +kernel) rfl rfl (Nat.le_of_ble_eq_true rfl) rfl dX5_gatherMovers_82 (fun H locs hP hD hS => ?_)
          exact JX5_GATHERMOVERS_85 (upd Q_stood_3 Q_movers_3.toNatClampNeg q5) (upd Q_spots_3 Q_movers_3.toNatClampNeg x4_3) (Q_movers_3 + 1) x4_3 hF H locs ls hP hD hS (lv_sub hl [1, 2, 3, 4, 5] rfl)
  exact L3 (0, Q_stood, Q_spots, 0) hc3 H locs ls hP hD hS (lv_sub hl [2, 3, 4, 1, 0] rfl)
abbrev rX5_loadEnds : Room := { frames := 1, cells := 0, slots := 0, locals := 40 }
theorem eX5_loadEnds_X5 : ∀ w ∈ u_ws RX5 TX5 12, w ∈ wsX5_loadEnds := by decide +kernel
theorem uX5_loadEnds : yX5_loadEnds.cls = RX5 ∧ yX5_loadEnds.cls ≠ "java/lang/invoke/MethodHandle" ∧ yX5_loadEnds.cls ≠ "java/lang/invoke/VarHandle" ∧ (parseMethodDescriptor yX5_loadEnds.desc).map (fun d => d.parameters.length) = some 3 := by decide +kernel
set_option maxHeartbeats 4000000 in
set_option maxRecDepth 100000 in
theorem tX5_loadEnds (l : Launch) (dC : Nat → ClassId) (dI : Nat → Nat → Nat) (cI cZ : ClassId) (aS : Nat → Nat) (aO : Nat → Nat) (sz : Nat) (P_size : Nat → Int32) (P_uppers : Nat → Int32) (P_lowers : Nat → Int32) (Q_own : Nat → Int32) (Q_far : Nat → Int32) (Q_movers : Int32) (O_layers : Int32) (O_places : Nat → Int32) (p1 : Int32) (p2 : Int32) (res : Int32 × (Nat → Int32) × (Nat → Int32)) (hF : fX5_loadEnds P_size P_uppers P_lowers Q_own Q_far O_places p1 p2 = some res) : q_Mi l yX5_loadEnds wsX5_loadEnds rX5_loadEnds (dC, dI) (q_ty cI cZ) [.ref (aS 19), .ref (aO 0), .int p1, .int p2] (iX5_loadEnds aS aO cI cZ P_size P_uppers P_lowers Q_own Q_far Q_movers O_layers O_places) (iX5_loadEnds aS aO cI cZ P_size P_uppers P_lowers res.2.1 res.2.2 Q_movers O_layers O_places) sz res.1 := by
  refine q_meti (cc := cX5_loadEnds) (maxL := 11) (by decide) rfl (Nat.le_of_ble_eq_true rfl) ?_
  intro p e s m args below meth c Q A H locs ls C hP hD hS hl hret
  obtain ⟨hx, hb, hml, hown, hts, hA, hK⟩ := C
  replace hl : lv_has ls 11 [(0, .ref (aS 19)), (1, .ref (aO 0)), (2, .int p1), (3, .int p2)] := hl
  have k0 := hts (.fieldLink RX5 36 "RouteLayout$Orderer" "pieces" "LRouteLayout$Pieces;") (by decide +kernel)
  have k1 := hts (.methodLink RX5 106 Lib.Math.min.name) (by decide +kernel)
  have k2 := hts (.static Lib.Math.min.name) (by decide +kernel)
  have k3 := hts (.initialized "java/lang/Math") (by decide +kernel)
  have k4 := hts (.code Lib.Math.min.name Lib.Math.min.code 2 (some .int)) (by decide +kernel)
  have k5 := hts (.fieldLink RX5 15 "RouteLayout$Orderer" "far" "[I") (by decide +kernel)
  have k6 := hts (.fieldLink RX5 9 "RouteLayout$Orderer" "own" "[I") (by decide +kernel)
  unfold fX5_loadEnds at hF
  have JX5_LOADENDS_26 : ∀ (Q_own_1 : Nat → Int32) (Q_far_1 : Nat → Int32) (x3_1 : Int32) (x4_1 : Int32) (s0_1 : Int32), jX5_loadEnds_26 P_size P_uppers P_lowers Q_own_1 Q_far_1 O_places x3_1 x4_1 s0_1 = some res → ∀ (H : Heap) (locs : List Loc) (ls : Array Slot), va_P (dC, dI) vwCl (iX5_loadEnds aS aO cI cZ P_size P_uppers P_lowers Q_own_1 Q_far_1 Q_movers O_layers O_places) H → va_D A (iX5_loadEnds aS aO cI cZ P_size P_uppers P_lowers Q_own_1 Q_far_1 Q_movers O_layers O_places) → va_S A s.heap H locs → lv_has ls 11 [(0, .ref (aS 19)), (1, .ref (aO 0)), (3, .int x3_1), (4, .int x4_1)] → W p l e (headSpec wsX5_loadEnds (rX5_loadEnds)).room s m args below meth c H locs 0 0 Q (F0 m 26 ls [.int s0_1]) := by
    intro Q_own_1 Q_far_1 x3_1 x4_1 s0_1 hF H locs ls hP hD hS hl
    unfold jX5_loadEnds_26 at hF
    refine lv_istore (lv' := [(5, .int s0_1), (0, .ref (aS 19)), (1, .ref (aO 0)), (3, .int x3_1), (4, .int x4_1)]) hx hb dX5_loadEnds_26 hl (by decide) rfl (fun ls hl => ?_)
    refine lv_aload_n hx hb dX5_loadEnds_28 rfl (lv_at hl 1 rfl) ?_
    refine q_get (ci := 5) (C := RX5) (T := TX5) (N := 12) hx hb hts eX5_loadEnds_X5 hown hK hP 0 rfl rfl 0 (Nat.le_of_ble_eq_true rfl) k0 rfl rfl dX5_loadEnds_29 ?_
    refine lv_iload hx hb dX5_loadEnds_32 (lv_at hl 4 rfl) ?_
    obtain ⟨q2, hcq2, hF⟩ := q_bd hF
    refine q_Vi (As := [.int x4_1]) (rest := []) ⟨hx, hb, hml, hown, hts⟩ hA hK hP hD hS (tX6_sizeOf l dC dI cI cZ aS H.size P_size x4_1 q2 hcq2) (cwV 1 hts gX5_loadEnds_X6_sizeOf rfl rfl rfl uX6_sizeOf ⟨Nat.le_of_ble_eq_true rfl, Nat.le_of_ble_eq_true rfl⟩) [1, 2] [(false, 0), (true, 0), (true, 1), (false, 3), (false, 4), (false, 5), (false, 6), (false, 7), (false, 8)] (iX5_loadEnds aS aO cI cZ P_size P_uppers P_lowers Q_own_1 Q_far_1 Q_movers O_layers O_places) rfl rfl rfl rfl rfl 6 0 rfl rfl rfl rfl hl.1 rfl (Nat.le_of_ble_eq_true rfl) dX5_loadEnds_34 ⟨Nat.zero_le _, Nat.zero_le _⟩ (fun H locs hP hD hS => ?_)
    refine lv_bipush (v := 24) hx hb dX5_loadEnds_37 (by decide) ?_
    refine va_mmin hx hb (hml.trans hl.1.symm) hown k1 k2 k3 k4 (Nat.le_of_ble_eq_true rfl) (Nat.le_of_ble_eq_true rfl) (Nat.zero_le _) (Nat.zero_le _) dX5_loadEnds_39 ?_
    obtain ⟨v3, hv3, hF⟩ := q_letE hF
    refine q_top hv3 ?_
    refine lv_istore (lv' := [(6, .int v3), (5, .int s0_1), (0, .ref (aS 19)), (1, .ref (aO 0)), (3, .int x3_1), (4, .int x4_1)]) hx hb dX5_loadEnds_42 hl (by decide) rfl (fun ls hl => ?_)
    refine lv_iconst (v := 0) hx hb dX5_loadEnds_44 (by decide) ?_
    refine lv_istore (lv' := [(7, .int 0), (6, .int v3), (5, .int s0_1), (0, .ref (aS 19)), (1, .ref (aO 0)), (3, .int x3_1), (4, .int x4_1)]) hx hb dX5_loadEnds_45 hl (by decide) rfl (fun ls hl => ?_)
    obtain ⟨q4_0, q4_1, hc4, hF⟩ := q_bd2 hF
    have X4 : ∀ (u4_0 : Nat → Int32) (u4_1 : Nat → Int32), (u4_0, u4_1) = (q4_0, q4_1) → ∀ (H : Heap) (locs : List Loc) (ls : Array Slot), va_P (dC, dI) vwCl (iX5_loadEnds aS aO cI cZ P_size P_uppers P_lowers u4_0 u4_1 Q_movers O_layers O_places) H → va_D A (iX5_loadEnds aS aO cI cZ P_size P_uppers P_lowers u4_0 u4_1 Q_movers O_layers O_places) → va_S A s.heap H locs → lv_has ls 11 [(6, .int v3)] → W p l e (headSpec wsX5_loadEnds (rX5_loadEnds)).room s m args below meth c H locs 0 0 Q (F0 m 181 ls []) := by
      intro u4_0 u4_1 hu H locs ls hP hD hS hl
      obtain ⟨e0, e1⟩ := q_inj2 hu
      subst e0 e1
      refine lv_iload hx hb dX5_loadEnds_181 (lv_at hl 0 rfl) ?_
      exact hret H locs ls 183 _ _ dX5_loadEnds_183 (congrArg Prod.fst (Option.some.inj hF)) (congrArg (fun z : Int32 × (Nat → Int32) × (Nat → Int32) => (iX5_loadEnds aS aO cI cZ P_size P_uppers P_lowers z.2.1 z.2.2 Q_movers O_layers O_places)) (Option.some.inj hF)) hP hD hS
    have L4 : ∀ st : Int32 × (Nat → Int32) × (Nat → Int32), q_lo (fun (st : Int32 × (Nat → Int32) × (Nat → Int32)) => bX5_loadEnds_47 P_size P_uppers P_lowers O_places x3_1 x4_1 s0_1 v3 st.1 st.2.1 st.2.2) st = some (q4_0, q4_1) → ∀ (H : Heap) (locs : List Loc) (ls : Array Slot), va_P (dC, dI) vwCl (iX5_loadEnds aS aO cI cZ P_size P_uppers P_lowers st.2.1 st.2.2 Q_movers O_layers O_places) H → va_D A (iX5_loadEnds aS aO cI cZ P_size P_uppers P_lowers st.2.1 st.2.2 Q_movers O_layers O_places) → va_S A s.heap H locs → lv_has ls 11 [(0, .ref (aS 19)), (1, .ref (aO 0)), (3, .int x3_1), (4, .int x4_1), (5, .int s0_1), (6, .int v3), (7, .int st.1)] → W p l e (headSpec wsX5_loadEnds (rX5_loadEnds)).room s m args below meth c H locs 0 0 Q (F0 m 47 ls []) := by
      intro st hst
      refine q_walk (Wh := fun st : Int32 × (Nat → Int32) × (Nat → Int32) => ∀ (H : Heap) (locs : List Loc) (ls : Array Slot), va_P (dC, dI) vwCl (iX5_loadEnds aS aO cI cZ P_size P_uppers P_lowers st.2.1 st.2.2 Q_movers O_layers O_places) H → va_D A (iX5_loadEnds aS aO cI cZ P_size P_uppers P_lowers st.2.1 st.2.2 Q_movers O_layers O_places) → va_S A s.heap H locs → lv_has ls 11 [(0, .ref (aS 19)), (1, .ref (aO 0)), (3, .int x3_1), (4, .int x4_1), (5, .int s0_1), (6, .int v3), (7, .int st.1)] → W p l e (headSpec wsX5_loadEnds (rX5_loadEnds)).room s m args below meth c H locs 0 0 Q (F0 m 47 ls [])) ?_ st hst
      clear hst st hF
      intro st o hF hin hex H locs ls hP hD hS hl
      obtain ⟨x7_4, Q_own_4, Q_far_4⟩ := st
      replace hF : bX5_loadEnds_47 P_size P_uppers P_lowers O_places x3_1 x4_1 s0_1 v3 x7_4 Q_own_4 Q_far_4 = some o := hF
      replace hP : va_P (dC, dI) vwCl (iX5_loadEnds aS aO cI cZ P_size P_uppers P_lowers Q_own_4 Q_far_4 Q_movers O_layers O_places) H := hP
      replace hD : va_D A (iX5_loadEnds aS aO cI cZ P_size P_uppers P_lowers Q_own_4 Q_far_4 Q_movers O_layers O_places) := hD
      replace hl : lv_has ls 11 [(0, .ref (aS 19)), (1, .ref (aO 0)), (3, .int x3_1), (4, .int x4_1), (5, .int s0_1), (6, .int v3), (7, .int x7_4)] := hl
      unfold bX5_loadEnds_47 at hF
      have JX5_LOADENDS_71 : ∀ (Q_own_5 : Nat → Int32) (Q_far_5 : Nat → Int32) (x7_5 : Int32) (s0_5 : Int32) (s1_5 : Int32) (s2_5 : Int32), jX5_loadEnds_71 P_size P_uppers P_lowers Q_own_5 Q_far_5 O_places x3_1 x4_1 s0_1 v3 x7_5 s0_5 s1_5 s2_5 = some o → ∀ (H : Heap) (locs : List Loc) (ls : Array Slot), va_P (dC, dI) vwCl (iX5_loadEnds aS aO cI cZ P_size P_uppers P_lowers Q_own_5 Q_far_5 Q_movers O_layers O_places) H → va_D A (iX5_loadEnds aS aO cI cZ P_size P_uppers P_lowers Q_own_5 Q_far_5 Q_movers O_layers O_places) → va_S A s.heap H locs → lv_has ls 11 [(0, .ref (aS 19)), (1, .ref (aO 0)), (3, .int x3_1), (4, .int x4_1), (5, .int s0_1), (6, .int v3), (7, .int x7_5)] → W p l e (headSpec wsX5_loadEnds (rX5_loadEnds)).room s m args below meth c H locs 0 0 Q (F0 m 71 ls [.int s0_5, .int s1_5, .int s2_5, .ref (aS 11)]) := by
        intro Q_own_5 Q_far_5 x7_5 s0_5 s1_5 s2_5 hF H locs ls hP hD hS hl
        unfold jX5_loadEnds_71 at hF
        obtain ⟨q6, hcq6, hF⟩ := q_bd hF
        refine q_Vi (As := [.int s2_5, .int s1_5, .int s0_5]) (rest := []) ⟨hx, hb, hml, hown, hts⟩ hA hK hP hD hS (tX6_endOf l dC dI cI cZ aS H.size P_size P_uppers P_lowers s2_5 s1_5 s0_5 q6 hcq6) (cwV 3 hts gX5_loadEnds_X6_endOf rfl rfl rfl uX6_endOf ⟨Nat.le_of_ble_eq_true rfl, Nat.le_of_ble_eq_true rfl⟩) [1, 2, 3, 4] [(false, 0), (true, 0), (true, 1), (true, 2), (true, 3), (false, 5), (false, 6), (false, 7), (false, 8)] (iX5_loadEnds aS aO cI cZ P_size P_uppers P_lowers Q_own_5 Q_far_5 Q_movers O_layers O_places) rfl rfl rfl rfl rfl 6 0 rfl rfl rfl rfl hl.1 rfl (Nat.le_of_ble_eq_true rfl) dX5_loadEnds_71 ⟨Nat.zero_le _, Nat.zero_le _⟩ (fun H locs hP hD hS => ?_)
        refine lv_istore (lv' := [(8, .int q6), (0, .ref (aS 19)), (1, .ref (aO 0)), (3, .int x3_1), (4, .int x4_1), (5, .int s0_1), (6, .int v3), (7, .int x7_5)]) hx hb dX5_loadEnds_74 hl (by decide) rfl (fun ls hl => ?_)
        refine lv_aload_n hx hb dX5_loadEnds_76 rfl (lv_at hl 2 rfl) ?_
        refine lv_iload hx hb dX5_loadEnds_77 (lv_at hl 5 rfl) ?_
        refine lv_aload_n hx hb dX5_loadEnds_79 rfl (lv_at hl 1 rfl) ?_
        refine q_get (ci := 5) (C := RX5) (T := TX5) (N := 12) hx hb hts eX5_loadEnds_X5 hown hK hP 0 rfl rfl 0 (Nat.le_of_ble_eq_true rfl) k0 rfl rfl dX5_loadEnds_80 ?_
        refine lv_iload hx hb dX5_loadEnds_83 (lv_at hl 4 rfl) ?_
        refine lv_iload hx hb dX5_loadEnds_85 (lv_at hl 7 rfl) ?_
        refine lv_iload_n hx hb dX5_loadEnds_87 rfl (lv_at hl 3 rfl) ?_
        obtain ⟨q7, hcq7, hF⟩ := q_bd hF
        refine q_Vi (As := [.int x4_1, .int x7_5, .int x3_1]) (rest := [.int s0_1, .ref (aO 0)]) ⟨hx, hb, hml, hown, hts⟩ hA hK hP hD hS (tX6_endOf l dC dI cI cZ aS H.size P_size P_uppers P_lowers x4_1 x7_5 x3_1 q7 hcq7) (cwV 3 hts gX5_loadEnds_X6_endOf rfl rfl rfl uX6_endOf ⟨Nat.le_of_ble_eq_true rfl, Nat.le_of_ble_eq_true rfl⟩) [1, 2, 3, 4] [(false, 0), (true, 0), (true, 1), (true, 2), (true, 3), (false, 5), (false, 6), (false, 7), (false, 8)] (iX5_loadEnds aS aO cI cZ P_size P_uppers P_lowers Q_own_5 Q_far_5 Q_movers O_layers O_places) rfl rfl rfl rfl rfl 6 0 rfl rfl rfl rfl hl.1 rfl (Nat.le_of_ble_eq_true rfl) dX5_loadEnds_88 ⟨Nat.zero_le _, Nat.zero_le _⟩ (fun H locs hP hD hS => ?_)
        obtain ⟨q8, hcq8, hF⟩ := q_bd hF
        refine q_Vi (As := [.int s0_1, .int q7]) (rest := []) ⟨hx, hb, hml, hown, hts⟩ hA hK hP hD hS (tX4_placeIn l dC dI cI cZ aO H.size O_layers O_places s0_1 q7 q8 hcq8) (cwV 2 hts gX5_loadEnds_X4_placeIn rfl rfl rfl uX4_placeIn ⟨Nat.le_of_ble_eq_true rfl, Nat.le_of_ble_eq_true rfl⟩) [7, 8] [(false, 0), (false, 1), (false, 2), (false, 3), (false, 4), (false, 5), (false, 6), (true, 0), (true, 1)] (iX5_loadEnds aS aO cI cZ P_size P_uppers P_lowers Q_own_5 Q_far_5 Q_movers O_layers O_places) rfl rfl rfl rfl rfl 4 0 rfl rfl rfl rfl hl.1 rfl (Nat.le_of_ble_eq_true rfl) dX5_loadEnds_91 ⟨Nat.zero_le _, Nat.zero_le _⟩ (fun H locs hP hD hS => ?_)
        refine lv_istore (lv' := [(9, .int q8), (8, .int q6), (0, .ref (aS 19)), (1, .ref (aO 0)), (3, .int x3_1), (4, .int x4_1), (5, .int s0_1), (6, .int v3), (7, .int x7_5)]) hx hb dX5_loadEnds_94 hl (by decide) rfl (fun ls hl => ?_)
        refine lv_iload hx hb dX5_loadEnds_96 (lv_at hl 8 rfl) ?_
        refine lv_istore (lv' := [(10, .int x7_5), (9, .int q8), (8, .int q6), (0, .ref (aS 19)), (1, .ref (aO 0)), (3, .int x3_1), (4, .int x4_1), (5, .int s0_1), (6, .int v3), (7, .int x7_5)]) hx hb dX5_loadEnds_98 hl (by decide) rfl (fun ls hl => ?_)
        obtain ⟨q9_0, q9_1, q9_2, hc9, hF⟩ := q_bd3 hF
        have X9 : ∀ (u9_0 : Int32) (u9_1 : Nat → Int32) (u9_2 : Nat → Int32), (u9_0, u9_1, u9_2) = (q9_0, q9_1, q9_2) → ∀ (H : Heap) (locs : List Loc) (ls : Array Slot), va_P (dC, dI) vwCl (iX5_loadEnds aS aO cI cZ P_size P_uppers P_lowers u9_1 u9_2 Q_movers O_layers O_places) H → va_D A (iX5_loadEnds aS aO cI cZ P_size P_uppers P_lowers u9_1 u9_2 Q_movers O_layers O_places) → va_S A s.heap H locs → lv_has ls 11 [(0, .ref (aS 19)), (1, .ref (aO 0)), (3, .int x3_1), (4, .int x4_1), (5, .int s0_1), (6, .int v3), (7, .int x7_5), (8, .int q6), (9, .int q8), (10, .int u9_0)] → W p l e (headSpec wsX5_loadEnds (rX5_loadEnds)).room s m args below meth c H locs 0 0 Q (F0 m 157 ls []) := by
          intro u9_0 u9_1 u9_2 hu H locs ls hP hD hS hl
          obtain ⟨e0, e1, e2⟩ := q_inj3 hu
          subst e0 e1 e2
          refine lv_aload_n hx hb dX5_loadEnds_157 rfl (lv_at hl 0 rfl) ?_
          refine q_get (ci := 5) (C := RX5) (T := TX5) (N := 12) hx hb hts eX5_loadEnds_X5 hown hK hP 0 rfl rfl 4 (Nat.le_of_ble_eq_true rfl) k5 rfl rfl dX5_loadEnds_158 ?_
          refine lv_iload hx hb dX5_loadEnds_161 (lv_at hl 9 rfl) ?_
          refine lv_iload hx hb dX5_loadEnds_163 (lv_at hl 8 rfl) ?_
          obtain ⟨hn15, hF⟩ := q_ck hF
          refine q_iast hx hb hK hP hD hS 6 0 (iX5_loadEnds aS aO cI cZ P_size P_uppers P_lowers u9_1 (upd u9_2 u9_0.toNatClampNeg q8) Q_movers O_layers O_places) rfl rfl hn15 rfl dX5_loadEnds_165 (fun H locs hP hD hS => ?_)
          refine lv_aload_n hx hb dX5_loadEnds_166 rfl (lv_at hl 0 rfl) ?_
          refine q_get (ci := 5) (C := RX5) (T := TX5) (N := 12) hx hb hts eX5_loadEnds_X5 hown hK hP 0 rfl rfl 3 (Nat.le_of_ble_eq_true rfl) k6 rfl rfl dX5_loadEnds_167 ?_
          refine lv_iload hx hb dX5_loadEnds_170 (lv_at hl 9 rfl) ?_
          refine lv_iload hx hb dX5_loadEnds_172 (lv_at hl 7 rfl) ?_
          obtain ⟨hn16, hF⟩ := q_ck hF
          refine q_iast hx hb hK hP hD hS 5 0 (iX5_loadEnds aS aO cI cZ P_size P_uppers P_lowers (upd u9_1 u9_0.toNatClampNeg q6) (upd u9_2 u9_0.toNatClampNeg q8) Q_movers O_layers O_places) rfl rfl hn16 rfl dX5_loadEnds_174 (fun H locs hP hD hS => ?_)
          refine lv_iinc (v := (x7_5 + 1)) (lv' := [(7, .int (x7_5 + 1)), (0, .ref (aS 19)), (1, .ref (aO 0)), (3, .int x3_1), (4, .int x4_1), (5, .int s0_1), (6, .int v3), (8, .int q6), (9, .int q8), (10, .int u9_0)]) hx hb dX5_loadEnds_175 hl (k := 6) rfl rfl (by decide) rfl (fun ls hl => ?_)
          refine lv_goto (tgt := 47) hx hb dX5_loadEnds_178 (by decide) ?_
          exact hin _ (Option.some.inj hF).symm H locs ls hP hD hS (lv_sub hl [1, 2, 3, 4, 5, 6, 0] rfl)
        have L9 : ∀ st : Int32 × (Nat → Int32) × (Nat → Int32), q_lo (fun (st : Int32 × (Nat → Int32) × (Nat → Int32)) => bX5_loadEnds_100 q8 st.1 st.2.1 st.2.2) st = some (q9_0, q9_1, q9_2) → ∀ (H : Heap) (locs : List Loc) (ls : Array Slot), va_P (dC, dI) vwCl (iX5_loadEnds aS aO cI cZ P_size P_uppers P_lowers st.2.1 st.2.2 Q_movers O_layers O_places) H → va_D A (iX5_loadEnds aS aO cI cZ P_size P_uppers P_lowers st.2.1 st.2.2 Q_movers O_layers O_places) → va_S A s.heap H locs → lv_has ls 11 [(0, .ref (aS 19)), (1, .ref (aO 0)), (3, .int x3_1), (4, .int x4_1), (5, .int s0_1), (6, .int v3), (7, .int x7_5), (8, .int q6), (9, .int q8), (10, .int st.1)] → W p l e (headSpec wsX5_loadEnds (rX5_loadEnds)).room s m args below meth c H locs 0 0 Q (F0 m 100 ls []) := by
          intro st hst
          refine q_walk (Wh := fun st : Int32 × (Nat → Int32) × (Nat → Int32) => ∀ (H : Heap) (locs : List Loc) (ls : Array Slot), va_P (dC, dI) vwCl (iX5_loadEnds aS aO cI cZ P_size P_uppers P_lowers st.2.1 st.2.2 Q_movers O_layers O_places) H → va_D A (iX5_loadEnds aS aO cI cZ P_size P_uppers P_lowers st.2.1 st.2.2 Q_movers O_layers O_places) → va_S A s.heap H locs → lv_has ls 11 [(0, .ref (aS 19)), (1, .ref (aO 0)), (3, .int x3_1), (4, .int x4_1), (5, .int s0_1), (6, .int v3), (7, .int x7_5), (8, .int q6), (9, .int q8), (10, .int st.1)] → W p l e (headSpec wsX5_loadEnds (rX5_loadEnds)).room s m args below meth c H locs 0 0 Q (F0 m 100 ls [])) ?_ st hst
          clear hst st hF
          intro st o hF hin hex H locs ls hP hD hS hl
          obtain ⟨x10_9, Q_own_9, Q_far_9⟩ := st
          replace hF : bX5_loadEnds_100 q8 x10_9 Q_own_9 Q_far_9 = some o := hF
          replace hP : va_P (dC, dI) vwCl (iX5_loadEnds aS aO cI cZ P_size P_uppers P_lowers Q_own_9 Q_far_9 Q_movers O_layers O_places) H := hP
          replace hD : va_D A (iX5_loadEnds aS aO cI cZ P_size P_uppers P_lowers Q_own_9 Q_far_9 Q_movers O_layers O_places) := hD
          replace hl : lv_has ls 11 [(0, .ref (aS 19)), (1, .ref (aO 0)), (3, .int x3_1), (4, .int x4_1), (5, .int s0_1), (6, .int v3), (7, .int x7_5), (8, .int q6), (9, .int q8), (10, .int x10_9)] := hl
          unfold bX5_loadEnds_100 at hF
          refine lv_iload hx hb dX5_loadEnds_100 (lv_at hl 9 rfl) ?_
          refine lv_if_le (tgt := 157) hx hb dX5_loadEnds_102 (by decide) (fun hc => ?_) (fun hc => ?_)
          · replace hF := q_t hc hF
            exact X9 _ _ _ (hex _ (Option.some.inj hF).symm) H locs ls hP hD hS (lv_sub hl [0, 1, 2, 3, 4, 5, 6, 7, 8, 9] rfl)
          · replace hF := q_f hc hF
            refine lv_aload_n hx hb dX5_loadEnds_105 rfl (lv_at hl 0 rfl) ?_
            refine q_get (ci := 5) (C := RX5) (T := TX5) (N := 12) hx hb hts eX5_loadEnds_X5 hown hK hP 0 rfl rfl 4 (Nat.le_of_ble_eq_true rfl) k5 rfl rfl dX5_loadEnds_106 ?_
            refine lv_iload hx hb dX5_loadEnds_109 (lv_at hl 9 rfl) ?_
            refine lv_iconst (v := 1) hx hb dX5_loadEnds_111 (by decide) ?_
            refine lv_isub hx hb dX5_loadEnds_112 ?_
            obtain ⟨hn10, hF⟩ := q_ck hF
            refine va_iald hx hb hK hP 6 0 rfl rfl hn10 dX5_loadEnds_113 ?_
            refine lv_iload hx hb dX5_loadEnds_114 (lv_at hl 8 rfl) ?_
            refine lv_icmp_le (tgt := 157) hx hb dX5_loadEnds_116 (by decide) (fun hc => ?_) (fun hc => ?_)
            · replace hF := q_t hc hF
              exact X9 _ _ _ (hex _ (Option.some.inj hF).symm) H locs ls hP hD hS (lv_sub hl [0, 1, 2, 3, 4, 5, 6, 7, 8, 9] rfl)
            · replace hF := q_f hc hF
              refine lv_aload_n hx hb dX5_loadEnds_119 rfl (lv_at hl 0 rfl) ?_
              refine q_get (ci := 5) (C := RX5) (T := TX5) (N := 12) hx hb hts eX5_loadEnds_X5 hown hK hP 0 rfl rfl 4 (Nat.le_of_ble_eq_true rfl) k5 rfl rfl dX5_loadEnds_120 ?_
              refine lv_iload hx hb dX5_loadEnds_123 (lv_at hl 9 rfl) ?_
              refine lv_aload_n hx hb dX5_loadEnds_125 rfl (lv_at hl 0 rfl) ?_
              refine q_get (ci := 5) (C := RX5) (T := TX5) (N := 12) hx hb hts eX5_loadEnds_X5 hown hK hP 0 rfl rfl 4 (Nat.le_of_ble_eq_true rfl) k5 rfl rfl dX5_loadEnds_126 ?_
              refine lv_iload hx hb dX5_loadEnds_129 (lv_at hl 9 rfl) ?_
              refine lv_iconst (v := 1) hx hb dX5_loadEnds_131 (by decide) ?_
              refine lv_isub hx hb dX5_loadEnds_132 ?_
              obtain ⟨hn11, hF⟩ := q_ck hF
              refine va_iald hx hb hK hP 6 0 rfl rfl hn11 dX5_loadEnds_133 ?_
              obtain ⟨hn12, hF⟩ := q_ck hF
              refine q_iast hx hb hK hP hD hS 6 0 (iX5_loadEnds aS aO cI cZ P_size P_uppers P_lowers Q_own_9 (upd Q_far_9 x10_9.toNatClampNeg (Q_far_9 (x10_9 - 1).toNatClampNeg)) Q_movers O_layers O_places) rfl rfl hn12 rfl dX5_loadEnds_134 (fun H locs hP hD hS => ?_)
              refine lv_aload_n hx hb dX5_loadEnds_135 rfl (lv_at hl 0 rfl) ?_
              refine q_get (ci := 5) (C := RX5) (T := TX5) (N := 12) hx hb hts eX5_loadEnds_X5 hown hK hP 0 rfl rfl 3 (Nat.le_of_ble_eq_true rfl) k6 rfl rfl dX5_loadEnds_136 ?_
              refine lv_iload hx hb dX5_loadEnds_139 (lv_at hl 9 rfl) ?_
              refine lv_aload_n hx hb dX5_loadEnds_141 rfl (lv_at hl 0 rfl) ?_
              refine q_get (ci := 5) (C := RX5) (T := TX5) (N := 12) hx hb hts eX5_loadEnds_X5 hown hK hP 0 rfl rfl 3 (Nat.le_of_ble_eq_true rfl) k6 rfl rfl dX5_loadEnds_142 ?_
              refine lv_iload hx hb dX5_loadEnds_145 (lv_at hl 9 rfl) ?_
              refine lv_iconst (v := 1) hx hb dX5_loadEnds_147 (by decide) ?_
              refine lv_isub hx hb dX5_loadEnds_148 ?_
              obtain ⟨hn13, hF⟩ := q_ck hF
              refine va_iald hx hb hK hP 5 0 rfl rfl hn13 dX5_loadEnds_149 ?_
              obtain ⟨hn14, hF⟩ := q_ck hF
              refine q_iast hx hb hK hP hD hS 5 0 (iX5_loadEnds aS aO cI cZ P_size P_uppers P_lowers (upd Q_own_9 x10_9.toNatClampNeg (Q_own_9 (x10_9 - 1).toNatClampNeg)) (upd Q_far_9 x10_9.toNatClampNeg (Q_far_9 (x10_9 - 1).toNatClampNeg)) Q_movers O_layers O_places) rfl rfl hn14 rfl dX5_loadEnds_150 (fun H locs hP hD hS => ?_)
              refine lv_iinc (v := (x10_9 + (-1))) (lv' := [(10, .int (x10_9 + (-1))), (0, .ref (aS 19)), (1, .ref (aO 0)), (3, .int x3_1), (4, .int x4_1), (5, .int s0_1), (6, .int v3), (7, .int x7_5), (8, .int q6), (9, .int q8)]) hx hb dX5_loadEnds_151 hl (k := 9) rfl rfl (by decide) rfl (fun ls hl => ?_)
              refine lv_goto (tgt := 100) hx hb dX5_loadEnds_154 (by decide) ?_
              exact hin _ (Option.some.inj hF).symm H locs ls hP hD hS (lv_sub hl [1, 2, 3, 4, 5, 6, 7, 8, 9, 0] rfl)
        exact L9 (x7_5, Q_own_5, Q_far_5) hc9 H locs ls hP hD hS (lv_sub hl [3, 4, 5, 6, 7, 8, 9, 2, 1, 0] rfl)
      refine lv_iload hx hb dX5_loadEnds_47 (lv_at hl 6 rfl) ?_
      refine lv_iload hx hb dX5_loadEnds_49 (lv_at hl 5 rfl) ?_
      refine lv_icmp_ge (tgt := 181) hx hb dX5_loadEnds_51 (by decide) (fun hc => ?_) (fun hc => ?_)
      · replace hF := q_t hc hF
        exact X4 _ _ (hex _ (Option.some.inj hF).symm) H locs ls hP hD hS (lv_sub hl [5] rfl)
      · replace hF := q_f hc hF
        refine lv_aload_n hx hb dX5_loadEnds_54 rfl (lv_at hl 0 rfl) ?_
        refine q_get (ci := 5) (C := RX5) (T := TX5) (N := 12) hx hb hts eX5_loadEnds_X5 hown hK hP 0 rfl rfl 0 (Nat.le_of_ble_eq_true rfl) k0 rfl rfl dX5_loadEnds_55 ?_
        refine lv_iload hx hb dX5_loadEnds_58 (lv_at hl 3 rfl) ?_
        refine lv_iload hx hb dX5_loadEnds_60 (lv_at hl 6 rfl) ?_
        refine lv_iload_n hx hb dX5_loadEnds_62 rfl (lv_at hl 2 rfl) ?_
        refine lv_if_ne (tgt := 70) hx hb dX5_loadEnds_63 (by decide) (fun hc => ?_) (fun hc => ?_)
        · replace hF := q_f hc hF
          refine lv_iconst (v := 0) hx hb dX5_loadEnds_70 (by decide) ?_
          exact JX5_LOADENDS_71 Q_own_4 Q_far_4 x7_4 0 x7_4 x4_1 hF H locs ls hP hD hS (lv_sub hl [0, 1, 2, 3, 4, 5, 6] rfl)
        · replace hF := q_t hc hF
          refine lv_iconst (v := 1) hx hb dX5_loadEnds_66 (by decide) ?_
          refine lv_goto (tgt := 71) hx hb dX5_loadEnds_67 (by decide) ?_
          exact JX5_LOADENDS_71 Q_own_4 Q_far_4 x7_4 1 x7_4 x4_1 hF H locs ls hP hD hS (lv_sub hl [0, 1, 2, 3, 4, 5, 6] rfl)
    exact L4 (0, Q_own_1, Q_far_1) hc4 H locs ls hP hD hS (lv_sub hl [3, 4, 5, 6, 2, 1, 0] rfl)
  have JX5_LOADENDS_11 : ∀ (Q_own_17 : Nat → Int32) (Q_far_17 : Nat → Int32) (x2_17 : Int32) (x3_17 : Int32) (s0_17 : Int32), jX5_loadEnds_11 P_size P_uppers P_lowers Q_own_17 Q_far_17 O_places x2_17 x3_17 s0_17 = some res → ∀ (H : Heap) (locs : List Loc) (ls : Array Slot), va_P (dC, dI) vwCl (iX5_loadEnds aS aO cI cZ P_size P_uppers P_lowers Q_own_17 Q_far_17 Q_movers O_layers O_places) H → va_D A (iX5_loadEnds aS aO cI cZ P_size P_uppers P_lowers Q_own_17 Q_far_17 Q_movers O_layers O_places) → va_S A s.heap H locs → lv_has ls 11 [(0, .ref (aS 19)), (1, .ref (aO 0)), (2, .int x2_17), (3, .int x3_17)] → W p l e (headSpec wsX5_loadEnds (rX5_loadEnds)).room s m args below meth c H locs 0 0 Q (F0 m 11 ls [.int s0_17]) := by
    intro Q_own_17 Q_far_17 x2_17 x3_17 s0_17 hF H locs ls hP hD hS hl
    unfold jX5_loadEnds_11 at hF
    refine lv_istore (lv' := [(4, .int s0_17), (0, .ref (aS 19)), (1, .ref (aO 0)), (2, .int x2_17), (3, .int x3_17)]) hx hb dX5_loadEnds_11 hl (by decide) rfl (fun ls hl => ?_)
    refine lv_iload_n hx hb dX5_loadEnds_13 rfl (lv_at hl 4 rfl) ?_
    refine lv_if_eq (tgt := 23) hx hb dX5_loadEnds_14 (by decide) (fun hc => ?_) (fun hc => ?_)
    · replace hF := q_t hc hF
      refine lv_iload_n hx hb dX5_loadEnds_23 rfl (lv_at hl 3 rfl) ?_
      refine lv_iconst (v := 1) hx hb dX5_loadEnds_24 (by decide) ?_
      refine lv_iadd hx hb dX5_loadEnds_25 ?_
      exact JX5_LOADENDS_26 Q_own_17 Q_far_17 x3_17 s0_17 (x2_17 + 1) hF H locs ls hP hD hS (lv_sub hl [1, 2, 4, 0] rfl)
    · replace hF := q_f hc hF
      refine lv_iload_n hx hb dX5_loadEnds_17 rfl (lv_at hl 3 rfl) ?_
      refine lv_iconst (v := 1) hx hb dX5_loadEnds_18 (by decide) ?_
      refine lv_isub hx hb dX5_loadEnds_19 ?_
      refine lv_goto (tgt := 26) hx hb dX5_loadEnds_20 (by decide) ?_
      exact JX5_LOADENDS_26 Q_own_17 Q_far_17 x3_17 s0_17 (x2_17 - 1) hF H locs ls hP hD hS (lv_sub hl [1, 2, 4, 0] rfl)
  refine lv_iload_n hx hb dX5_loadEnds_0 rfl (lv_at hl 3 rfl) ?_
  refine lv_if_eq (tgt := 10) hx hb dX5_loadEnds_1 (by decide) (fun hc => ?_) (fun hc => ?_)
  · replace hF := q_t hc hF
    refine lv_iload_n hx hb dX5_loadEnds_10 rfl (lv_at hl 2 rfl) ?_
    exact JX5_LOADENDS_11 Q_own Q_far p1 p2 p1 hF H locs ls hP hD hS (lv_sub hl [0, 1, 2, 3] rfl)
  · replace hF := q_f hc hF
    refine lv_iload_n hx hb dX5_loadEnds_4 rfl (lv_at hl 2 rfl) ?_
    refine lv_iconst (v := 1) hx hb dX5_loadEnds_5 (by decide) ?_
    refine lv_isub hx hb dX5_loadEnds_6 ?_
    refine lv_goto (tgt := 11) hx hb dX5_loadEnds_7 (by decide) ?_
    exact JX5_LOADENDS_11 Q_own Q_far p1 p2 (p1 - 1) hF H locs ls hP hD hS (lv_sub hl [0, 1, 2, 3] rfl)
abbrev rX5_sortMovers : Room := { frames := 0, cells := 0, slots := 0, locals := 0 }
theorem eX5_sortMovers_X5 : ∀ w ∈ u_ws RX5 TX5 12, w ∈ wsX5_sortMovers := by decide +kernel
theorem uX5_sortMovers : yX5_sortMovers.cls = RX5 ∧ yX5_sortMovers.cls ≠ "java/lang/invoke/MethodHandle" ∧ yX5_sortMovers.cls ≠ "java/lang/invoke/VarHandle" ∧ (parseMethodDescriptor yX5_sortMovers.desc).map (fun d => d.parameters.length) = some 0 := by decide +kernel
set_option maxHeartbeats 4000000 in
set_option maxRecDepth 100000 in
theorem tX5_sortMovers (l : Launch) (dC : Nat → ClassId) (dI : Nat → Nat → Nat) (cI cZ : ClassId) (aS : Nat → Nat) (sz : Nat) (Q_median : Nat → Int32) (Q_stood : Nat → Int32) (Q_sorted : Nat → Int32) (Q_movers : Int32) (res : Int32 × (Nat → Int32)) (hF : fX5_sortMovers Q_median Q_stood Q_sorted Q_movers = some res) : q_Mi l yX5_sortMovers wsX5_sortMovers rX5_sortMovers (dC, dI) (q_ty cI cZ) [.ref (aS 19)] (iX5_sortMovers aS cI cZ Q_median Q_stood Q_sorted Q_movers) (iX5_sortMovers aS cI cZ Q_median Q_stood res.2 Q_movers) sz res.1 := by
  refine q_metz (cc := cX5_sortMovers) (maxL := 5) (by decide) rfl (Nat.le_of_ble_eq_true rfl) ?_
  intro p e s m args below meth c Q A H locs ls C hP hD hS hl hret
  obtain ⟨hx, hb, hml, hown, hts, hA, hK⟩ := C
  replace hl : lv_has ls 5 [(0, .ref (aS 19))] := hl
  have k0 := hts (.fieldLink RX5 53 "RouteLayout$Orderer" "movers" "I") (by decide +kernel)
  have k1 := hts (.fieldLink RX5 27 "RouteLayout$Orderer" "stood" "[I") (by decide +kernel)
  have k2 := hts (.fieldLink RX5 24 "RouteLayout$Orderer" "median" "[I") (by decide +kernel)
  have k3 := hts (.fieldLink RX5 30 "RouteLayout$Orderer" "sorted" "[I") (by decide +kernel)
  unfold fX5_sortMovers at hF
  refine lv_iconst (v := 0) hx hb dX5_sortMovers_0 (by decide) ?_
  refine lv_istore_n (lv' := [(1, .int 0), (0, .ref (aS 19))]) hx hb dX5_sortMovers_1 rfl hl (by decide) rfl (fun ls hl => ?_)
  refine lv_iconst (v := 0) hx hb dX5_sortMovers_2 (by decide) ?_
  refine lv_istore_n (lv' := [(2, .int 0), (1, .int 0), (0, .ref (aS 19))]) hx hb dX5_sortMovers_3 rfl hl (by decide) rfl (fun ls hl => ?_)
  obtain ⟨q1_0, q1_1, hc1, hF⟩ := q_bd2 hF
  have X1 : ∀ (u1_0 : Int32) (u1_1 : Nat → Int32), (u1_0, u1_1) = (q1_0, q1_1) → ∀ (H : Heap) (locs : List Loc) (ls : Array Slot), va_P (dC, dI) vwCl (iX5_sortMovers aS cI cZ Q_median Q_stood u1_1 Q_movers) H → va_D A (iX5_sortMovers aS cI cZ Q_median Q_stood u1_1 Q_movers) → va_S A s.heap H locs → lv_has ls 5 [(1, .int u1_0)] → W p l e (headSpec wsX5_sortMovers (rX5_sortMovers)).room s m args below meth c H locs 0 0 Q (F0 m 88 ls []) := by
    intro u1_0 u1_1 hu H locs ls hP hD hS hl
    obtain ⟨e0, e1⟩ := q_inj2 hu
    subst e0 e1
    refine lv_iload_n hx hb dX5_sortMovers_88 rfl (lv_at hl 0 rfl) ?_
    obtain ⟨hn11, hF⟩ := q_ck hF
    exact hret H locs ls 89 _ _ dX5_sortMovers_89 hn11 (congrArg Prod.fst (Option.some.inj hF)) (congrArg (fun z : Int32 × (Nat → Int32) => (iX5_sortMovers aS cI cZ Q_median Q_stood z.2 Q_movers)) (Option.some.inj hF)) hP hD hS
  have L1 : ∀ st : Int32 × Int32 × (Nat → Int32), q_lo (fun (st : Int32 × Int32 × (Nat → Int32)) => bX5_sortMovers_4 Q_median Q_stood Q_movers st.1 st.2.1 st.2.2) st = some (q1_0, q1_1) → ∀ (H : Heap) (locs : List Loc) (ls : Array Slot), va_P (dC, dI) vwCl (iX5_sortMovers aS cI cZ Q_median Q_stood st.2.2 Q_movers) H → va_D A (iX5_sortMovers aS cI cZ Q_median Q_stood st.2.2 Q_movers) → va_S A s.heap H locs → lv_has ls 5 [(0, .ref (aS 19)), (1, .int st.1), (2, .int st.2.1)] → W p l e (headSpec wsX5_sortMovers (rX5_sortMovers)).room s m args below meth c H locs 0 0 Q (F0 m 4 ls []) := by
    intro st hst
    refine q_walk (Wh := fun st : Int32 × Int32 × (Nat → Int32) => ∀ (H : Heap) (locs : List Loc) (ls : Array Slot), va_P (dC, dI) vwCl (iX5_sortMovers aS cI cZ Q_median Q_stood st.2.2 Q_movers) H → va_D A (iX5_sortMovers aS cI cZ Q_median Q_stood st.2.2 Q_movers) → va_S A s.heap H locs → lv_has ls 5 [(0, .ref (aS 19)), (1, .int st.1), (2, .int st.2.1)] → W p l e (headSpec wsX5_sortMovers (rX5_sortMovers)).room s m args below meth c H locs 0 0 Q (F0 m 4 ls [])) ?_ st hst
    clear hst st hF
    intro st o hF hin hex H locs ls hP hD hS hl
    obtain ⟨x1_1, x2_1, Q_sorted_1⟩ := st
    replace hF : bX5_sortMovers_4 Q_median Q_stood Q_movers x1_1 x2_1 Q_sorted_1 = some o := hF
    replace hP : va_P (dC, dI) vwCl (iX5_sortMovers aS cI cZ Q_median Q_stood Q_sorted_1 Q_movers) H := hP
    replace hD : va_D A (iX5_sortMovers aS cI cZ Q_median Q_stood Q_sorted_1 Q_movers) := hD
    replace hl : lv_has ls 5 [(0, .ref (aS 19)), (1, .int x1_1), (2, .int x2_1)] := hl
    unfold bX5_sortMovers_4 at hF
    refine lv_iload_n hx hb dX5_sortMovers_4 rfl (lv_at hl 2 rfl) ?_
    refine lv_aload_n hx hb dX5_sortMovers_5 rfl (lv_at hl 0 rfl) ?_
    refine q_get (ci := 5) (C := RX5) (T := TX5) (N := 12) hx hb hts eX5_sortMovers_X5 hown hK hP 0 rfl rfl 11 (Nat.le_of_ble_eq_true rfl) k0 rfl rfl dX5_sortMovers_6 ?_
    refine lv_icmp_ge (tgt := 88) hx hb dX5_sortMovers_9 (by decide) (fun hc => ?_) (fun hc => ?_)
    · replace hF := q_t hc hF
      exact X1 _ _ (hex _ (Option.some.inj hF).symm) H locs ls hP hD hS (lv_sub hl [1] rfl)
    · replace hF := q_f hc hF
      refine lv_aload_n hx hb dX5_sortMovers_12 rfl (lv_at hl 0 rfl) ?_
      refine q_get (ci := 5) (C := RX5) (T := TX5) (N := 12) hx hb hts eX5_sortMovers_X5 hown hK hP 0 rfl rfl 8 (Nat.le_of_ble_eq_true rfl) k1 rfl rfl dX5_sortMovers_13 ?_
      refine lv_iload_n hx hb dX5_sortMovers_16 rfl (lv_at hl 2 rfl) ?_
      obtain ⟨hn2, hF⟩ := q_ck hF
      refine va_iald hx hb hK hP 2 0 rfl rfl hn2 dX5_sortMovers_17 ?_
      obtain ⟨v3, hv3, hF⟩ := q_letE hF
      refine q_top hv3 ?_
      refine lv_istore_n (lv' := [(3, .int v3), (0, .ref (aS 19)), (1, .int x1_1), (2, .int x2_1)]) hx hb dX5_sortMovers_18 rfl hl (by decide) rfl (fun ls hl => ?_)
      refine lv_iload_n hx hb dX5_sortMovers_19 rfl (lv_at hl 3 rfl) ?_
      refine lv_istore (lv' := [(4, .int x2_1), (3, .int v3), (0, .ref (aS 19)), (1, .int x1_1), (2, .int x2_1)]) hx hb dX5_sortMovers_20 hl (by decide) rfl (fun ls hl => ?_)
      obtain ⟨q4_0, q4_1, q4_2, hc4, hF⟩ := q_bd3 hF
      have X4 : ∀ (u4_0 : Int32) (u4_1 : Int32) (u4_2 : Nat → Int32), (u4_0, u4_1, u4_2) = (q4_0, q4_1, q4_2) → ∀ (H : Heap) (locs : List Loc) (ls : Array Slot), va_P (dC, dI) vwCl (iX5_sortMovers aS cI cZ Q_median Q_stood u4_2 Q_movers) H → va_D A (iX5_sortMovers aS cI cZ Q_median Q_stood u4_2 Q_movers) → va_S A s.heap H locs → lv_has ls 5 [(0, .ref (aS 19)), (1, .int u4_0), (2, .int x2_1), (3, .int v3), (4, .int u4_1)] → W p l e (headSpec wsX5_sortMovers (rX5_sortMovers)).room s m args below meth c H locs 0 0 Q (F0 m 74 ls []) := by
        intro u4_0 u4_1 u4_2 hu H locs ls hP hD hS hl
        obtain ⟨e0, e1, e2⟩ := q_inj3 hu
        subst e0 e1 e2
        refine lv_aload_n hx hb dX5_sortMovers_74 rfl (lv_at hl 0 rfl) ?_
        refine q_get (ci := 5) (C := RX5) (T := TX5) (N := 12) hx hb hts eX5_sortMovers_X5 hown hK hP 0 rfl rfl 9 (Nat.le_of_ble_eq_true rfl) k3 rfl rfl dX5_sortMovers_75 ?_
        refine lv_iload hx hb dX5_sortMovers_78 (lv_at hl 4 rfl) ?_
        refine lv_iload_n hx hb dX5_sortMovers_80 rfl (lv_at hl 3 rfl) ?_
        obtain ⟨hn10, hF⟩ := q_ck hF
        refine q_iast hx hb hK hP hD hS 3 0 (iX5_sortMovers aS cI cZ Q_median Q_stood (upd u4_2 u4_1.toNatClampNeg v3) Q_movers) rfl rfl hn10 rfl dX5_sortMovers_81 (fun H locs hP hD hS => ?_)
        refine lv_iinc (v := (x2_1 + 1)) (lv' := [(2, .int (x2_1 + 1)), (0, .ref (aS 19)), (1, .int u4_0), (3, .int v3), (4, .int u4_1)]) hx hb dX5_sortMovers_82 hl (k := 2) rfl rfl (by decide) rfl (fun ls hl => ?_)
        refine lv_goto (tgt := 4) hx hb dX5_sortMovers_85 (by decide) ?_
        exact hin _ (Option.some.inj hF).symm H locs ls hP hD hS (lv_sub hl [1, 2, 0] rfl)
      have L4 : ∀ st : Int32 × Int32 × (Nat → Int32), q_lo (fun (st : Int32 × Int32 × (Nat → Int32)) => bX5_sortMovers_22 Q_median v3 st.1 st.2.1 st.2.2) st = some (q4_0, q4_1, q4_2) → ∀ (H : Heap) (locs : List Loc) (ls : Array Slot), va_P (dC, dI) vwCl (iX5_sortMovers aS cI cZ Q_median Q_stood st.2.2 Q_movers) H → va_D A (iX5_sortMovers aS cI cZ Q_median Q_stood st.2.2 Q_movers) → va_S A s.heap H locs → lv_has ls 5 [(0, .ref (aS 19)), (1, .int st.1), (2, .int x2_1), (3, .int v3), (4, .int st.2.1)] → W p l e (headSpec wsX5_sortMovers (rX5_sortMovers)).room s m args below meth c H locs 0 0 Q (F0 m 22 ls []) := by
        intro st hst
        refine q_walk (Wh := fun st : Int32 × Int32 × (Nat → Int32) => ∀ (H : Heap) (locs : List Loc) (ls : Array Slot), va_P (dC, dI) vwCl (iX5_sortMovers aS cI cZ Q_median Q_stood st.2.2 Q_movers) H → va_D A (iX5_sortMovers aS cI cZ Q_median Q_stood st.2.2 Q_movers) → va_S A s.heap H locs → lv_has ls 5 [(0, .ref (aS 19)), (1, .int st.1), (2, .int x2_1), (3, .int v3), (4, .int st.2.1)] → W p l e (headSpec wsX5_sortMovers (rX5_sortMovers)).room s m args below meth c H locs 0 0 Q (F0 m 22 ls [])) ?_ st hst
        clear hst st hF
        intro st o hF hin hex H locs ls hP hD hS hl
        obtain ⟨x1_4, x4_4, Q_sorted_4⟩ := st
        replace hF : bX5_sortMovers_22 Q_median v3 x1_4 x4_4 Q_sorted_4 = some o := hF
        replace hP : va_P (dC, dI) vwCl (iX5_sortMovers aS cI cZ Q_median Q_stood Q_sorted_4 Q_movers) H := hP
        replace hD : va_D A (iX5_sortMovers aS cI cZ Q_median Q_stood Q_sorted_4 Q_movers) := hD
        replace hl : lv_has ls 5 [(0, .ref (aS 19)), (1, .int x1_4), (2, .int x2_1), (3, .int v3), (4, .int x4_4)] := hl
        unfold bX5_sortMovers_22 at hF
        refine lv_iload hx hb dX5_sortMovers_22 (lv_at hl 4 rfl) ?_
        refine lv_if_le (tgt := 74) hx hb dX5_sortMovers_24 (by decide) (fun hc => ?_) (fun hc => ?_)
        · replace hF := q_t hc hF
          exact X4 _ _ _ (hex _ (Option.some.inj hF).symm) H locs ls hP hD hS (lv_sub hl [0, 1, 2, 3, 4] rfl)
        · replace hF := q_f hc hF
          refine lv_aload_n hx hb dX5_sortMovers_27 rfl (lv_at hl 0 rfl) ?_
          refine q_get (ci := 5) (C := RX5) (T := TX5) (N := 12) hx hb hts eX5_sortMovers_X5 hown hK hP 0 rfl rfl 7 (Nat.le_of_ble_eq_true rfl) k2 rfl rfl dX5_sortMovers_28 ?_
          refine lv_aload_n hx hb dX5_sortMovers_31 rfl (lv_at hl 0 rfl) ?_
          refine q_get (ci := 5) (C := RX5) (T := TX5) (N := 12) hx hb hts eX5_sortMovers_X5 hown hK hP 0 rfl rfl 9 (Nat.le_of_ble_eq_true rfl) k3 rfl rfl dX5_sortMovers_32 ?_
          refine lv_iload hx hb dX5_sortMovers_35 (lv_at hl 4 rfl) ?_
          refine lv_iconst (v := 1) hx hb dX5_sortMovers_37 (by decide) ?_
          refine lv_isub hx hb dX5_sortMovers_38 ?_
          obtain ⟨hn5, hF⟩ := q_ck hF
          refine va_iald hx hb hK hP 3 0 rfl rfl hn5 dX5_sortMovers_39 ?_
          obtain ⟨hn6, hF⟩ := q_ck hF
          refine va_iald hx hb hK hP 1 0 rfl rfl hn6 dX5_sortMovers_40 ?_
          refine lv_aload_n hx hb dX5_sortMovers_41 rfl (lv_at hl 0 rfl) ?_
          refine q_get (ci := 5) (C := RX5) (T := TX5) (N := 12) hx hb hts eX5_sortMovers_X5 hown hK hP 0 rfl rfl 7 (Nat.le_of_ble_eq_true rfl) k2 rfl rfl dX5_sortMovers_42 ?_
          refine lv_iload_n hx hb dX5_sortMovers_45 rfl (lv_at hl 3 rfl) ?_
          obtain ⟨hn7, hF⟩ := q_ck hF
          refine va_iald hx hb hK hP 1 0 rfl rfl hn7 dX5_sortMovers_46 ?_
          refine lv_icmp_le (tgt := 74) hx hb dX5_sortMovers_47 (by decide) (fun hc => ?_) (fun hc => ?_)
          · replace hF := q_t hc hF
            exact X4 _ _ _ (hex _ (Option.some.inj hF).symm) H locs ls hP hD hS (lv_sub hl [0, 1, 2, 3, 4] rfl)
          · replace hF := q_f hc hF
            refine lv_aload_n hx hb dX5_sortMovers_50 rfl (lv_at hl 0 rfl) ?_
            refine q_get (ci := 5) (C := RX5) (T := TX5) (N := 12) hx hb hts eX5_sortMovers_X5 hown hK hP 0 rfl rfl 9 (Nat.le_of_ble_eq_true rfl) k3 rfl rfl dX5_sortMovers_51 ?_
            refine lv_iload hx hb dX5_sortMovers_54 (lv_at hl 4 rfl) ?_
            refine lv_aload_n hx hb dX5_sortMovers_56 rfl (lv_at hl 0 rfl) ?_
            refine q_get (ci := 5) (C := RX5) (T := TX5) (N := 12) hx hb hts eX5_sortMovers_X5 hown hK hP 0 rfl rfl 9 (Nat.le_of_ble_eq_true rfl) k3 rfl rfl dX5_sortMovers_57 ?_
            refine lv_iload hx hb dX5_sortMovers_60 (lv_at hl 4 rfl) ?_
            refine lv_iconst (v := 1) hx hb dX5_sortMovers_62 (by decide) ?_
            refine lv_isub hx hb dX5_sortMovers_63 ?_
            obtain ⟨hn8, hF⟩ := q_ck hF
            refine va_iald hx hb hK hP 3 0 rfl rfl hn8 dX5_sortMovers_64 ?_
            obtain ⟨hn9, hF⟩ := q_ck hF
            refine q_iast hx hb hK hP hD hS 3 0 (iX5_sortMovers aS cI cZ Q_median Q_stood (upd Q_sorted_4 x4_4.toNatClampNeg (Q_sorted_4 (x4_4 - 1).toNatClampNeg)) Q_movers) rfl rfl hn9 rfl dX5_sortMovers_65 (fun H locs hP hD hS => ?_)
            refine lv_iinc (v := (x4_4 + (-1))) (lv' := [(4, .int (x4_4 + (-1))), (0, .ref (aS 19)), (1, .int x1_4), (2, .int x2_1), (3, .int v3)]) hx hb dX5_sortMovers_66 hl (k := 4) rfl rfl (by decide) rfl (fun ls hl => ?_)
            refine lv_iconst (v := 1) hx hb dX5_sortMovers_69 (by decide) ?_
            refine lv_istore_n (lv' := [(1, .int 1), (4, .int (x4_4 + (-1))), (0, .ref (aS 19)), (2, .int x2_1), (3, .int v3)]) hx hb dX5_sortMovers_70 rfl hl (by decide) rfl (fun ls hl => ?_)
            refine lv_goto (tgt := 22) hx hb dX5_sortMovers_71 (by decide) ?_
            exact hin _ (Option.some.inj hF).symm H locs ls hP hD hS (lv_sub hl [2, 0, 3, 4, 1] rfl)
      exact L4 (x1_1, x2_1, Q_sorted_1) hc4 H locs ls hP hD hS (lv_sub hl [2, 3, 4, 1, 0] rfl)
  exact L1 (0, 0, Q_sorted) hc1 H locs ls hP hD hS (lv_sub hl [2, 1, 0] rfl)
abbrev rX5_putMovers : Room := { frames := 2, cells := 0, slots := 0, locals := 44 }
theorem eX5_putMovers_X5 : ∀ w ∈ u_ws RX5 TX5 12, w ∈ wsX5_putMovers := by decide +kernel
theorem uX5_putMovers : yX5_putMovers.cls = RX5 ∧ yX5_putMovers.cls ≠ "java/lang/invoke/MethodHandle" ∧ yX5_putMovers.cls ≠ "java/lang/invoke/VarHandle" ∧ (parseMethodDescriptor yX5_putMovers.desc).map (fun d => d.parameters.length) = some 3 := by decide +kernel
set_option maxHeartbeats 4000000 in
set_option maxRecDepth 100000 in
theorem tX5_putMovers (l : Launch) (dC : Nat → ClassId) (dI : Nat → Nat → Nat) (cI cZ : ClassId) (aS : Nat → Nat) (aO : Nat → Nat) (aV : Nat) (sz : Nat) (Q_spots : Nat → Int32) (Q_movers : Int32) (O_layers : Int32) (O_size : Nat → Int32) (O_rows : Nat → Int32) (O_places : Nat → Int32) (O_home : Nat → Int32) (V_a : Nat → Int32) (p1 : Int32) (res : (Nat → Int32) × (Nat → Int32) × (Nat → Int32)) (hF : fX5_putMovers Q_spots Q_movers O_layers O_size O_rows O_places O_home V_a p1 = some res) : q_Mv l yX5_putMovers wsX5_putMovers rX5_putMovers (dC, dI) (q_ty cI cZ) [.ref (aS 19), .ref (aO 0), .int p1, .ref aV] (iX5_putMovers aS aO aV cI cZ Q_spots Q_movers O_layers O_size O_rows O_places O_home V_a) (iX5_putMovers aS aO aV cI cZ Q_spots Q_movers O_layers O_size res.1 res.2.1 res.2.2 V_a) sz := by
  refine q_metv (cc := cX5_putMovers) (maxL := 5) (by decide) rfl (Nat.le_of_ble_eq_true rfl) ?_
  intro p e s m args below meth c Q A H locs ls C hP hD hS hl hret
  obtain ⟨hx, hb, hml, hown, hts, hA, hK⟩ := C
  replace hl : lv_has ls 5 [(0, .ref (aS 19)), (1, .ref (aO 0)), (2, .int p1), (3, .ref aV)] := hl
  have k0 := hts (.fieldLink RX5 53 "RouteLayout$Orderer" "movers" "I") (by decide +kernel)
  have k1 := hts (.fieldLink RX5 33 "RouteLayout$Orderer" "spots" "[I") (by decide +kernel)
  unfold fX5_putMovers at hF
  refine lv_iconst (v := 0) hx hb dX5_putMovers_0 (by decide) ?_
  refine lv_istore (lv' := [(4, .int 0), (0, .ref (aS 19)), (1, .ref (aO 0)), (2, .int p1), (3, .ref aV)]) hx hb dX5_putMovers_1 hl (by decide) rfl (fun ls hl => ?_)
  obtain ⟨q1_0, q1_1, q1_2, hc1, hF⟩ := q_bd3 hF
  have X1 : ∀ (u1_0 : Nat → Int32) (u1_1 : Nat → Int32) (u1_2 : Nat → Int32), (u1_0, u1_1, u1_2) = (q1_0, q1_1, q1_2) → ∀ (H : Heap) (locs : List Loc) (ls : Array Slot), va_P (dC, dI) vwCl (iX5_putMovers aS aO aV cI cZ Q_spots Q_movers O_layers O_size u1_0 u1_1 u1_2 V_a) H → va_D A (iX5_putMovers aS aO aV cI cZ Q_spots Q_movers O_layers O_size u1_0 u1_1 u1_2 V_a) → va_S A s.heap H locs → lv_has ls 5 [] → W p l e (headSpec wsX5_putMovers (rX5_putMovers)).room s m args below meth c H locs 0 0 Q (F0 m 34 ls []) := by
    intro u1_0 u1_1 u1_2 hu H locs ls hP hD hS hl
    obtain ⟨e0, e1, e2⟩ := q_inj3 hu
    subst e0 e1 e2
    exact hret H locs ls 34 _ dX5_putMovers_34 (congrArg (fun z : (Nat → Int32) × (Nat → Int32) × (Nat → Int32) => (iX5_putMovers aS aO aV cI cZ Q_spots Q_movers O_layers O_size z.1 z.2.1 z.2.2 V_a)) (Option.some.inj hF)) hP hD hS
  have L1 : ∀ st : Int32 × (Nat → Int32) × (Nat → Int32) × (Nat → Int32), q_lo (fun (st : Int32 × (Nat → Int32) × (Nat → Int32) × (Nat → Int32)) => bX5_putMovers_3 Q_spots Q_movers O_layers O_size V_a p1 st.1 st.2.1 st.2.2.1 st.2.2.2) st = some (q1_0, q1_1, q1_2) → ∀ (H : Heap) (locs : List Loc) (ls : Array Slot), va_P (dC, dI) vwCl (iX5_putMovers aS aO aV cI cZ Q_spots Q_movers O_layers O_size st.2.1 st.2.2.1 st.2.2.2 V_a) H → va_D A (iX5_putMovers aS aO aV cI cZ Q_spots Q_movers O_layers O_size st.2.1 st.2.2.1 st.2.2.2 V_a) → va_S A s.heap H locs → lv_has ls 5 [(0, .ref (aS 19)), (1, .ref (aO 0)), (2, .int p1), (3, .ref aV), (4, .int st.1)] → W p l e (headSpec wsX5_putMovers (rX5_putMovers)).room s m args below meth c H locs 0 0 Q (F0 m 3 ls []) := by
    intro st hst
    refine q_walk (Wh := fun st : Int32 × (Nat → Int32) × (Nat → Int32) × (Nat → Int32) => ∀ (H : Heap) (locs : List Loc) (ls : Array Slot), va_P (dC, dI) vwCl (iX5_putMovers aS aO aV cI cZ Q_spots Q_movers O_layers O_size st.2.1 st.2.2.1 st.2.2.2 V_a) H → va_D A (iX5_putMovers aS aO aV cI cZ Q_spots Q_movers O_layers O_size st.2.1 st.2.2.1 st.2.2.2 V_a) → va_S A s.heap H locs → lv_has ls 5 [(0, .ref (aS 19)), (1, .ref (aO 0)), (2, .int p1), (3, .ref aV), (4, .int st.1)] → W p l e (headSpec wsX5_putMovers (rX5_putMovers)).room s m args below meth c H locs 0 0 Q (F0 m 3 ls [])) ?_ st hst
    clear hst st hF
    intro st o hF hin hex H locs ls hP hD hS hl
    obtain ⟨x4_1, O_rows_1, O_places_1, O_home_1⟩ := st
    replace hF : bX5_putMovers_3 Q_spots Q_movers O_layers O_size V_a p1 x4_1 O_rows_1 O_places_1 O_home_1 = some o := hF
    replace hP : va_P (dC, dI) vwCl (iX5_putMovers aS aO aV cI cZ Q_spots Q_movers O_layers O_size O_rows_1 O_places_1 O_home_1 V_a) H := hP
    replace hD : va_D A (iX5_putMovers aS aO aV cI cZ Q_spots Q_movers O_layers O_size O_rows_1 O_places_1 O_home_1 V_a) := hD
    replace hl : lv_has ls 5 [(0, .ref (aS 19)), (1, .ref (aO 0)), (2, .int p1), (3, .ref aV), (4, .int x4_1)] := hl
    unfold bX5_putMovers_3 at hF
    refine lv_iload hx hb dX5_putMovers_3 (lv_at hl 4 rfl) ?_
    refine lv_aload_n hx hb dX5_putMovers_5 rfl (lv_at hl 0 rfl) ?_
    refine q_get (ci := 5) (C := RX5) (T := TX5) (N := 12) hx hb hts eX5_putMovers_X5 hown hK hP 0 rfl rfl 11 (Nat.le_of_ble_eq_true rfl) k0 rfl rfl dX5_putMovers_6 ?_
    refine lv_icmp_ge (tgt := 34) hx hb dX5_putMovers_9 (by decide) (fun hc => ?_) (fun hc => ?_)
    · replace hF := q_t hc hF
      exact X1 _ _ _ (hex _ (Option.some.inj hF).symm) H locs ls hP hD hS (lv_sub hl [] rfl)
    · replace hF := q_f hc hF
      refine lv_aload_n hx hb dX5_putMovers_12 rfl (lv_at hl 1 rfl) ?_
      refine lv_iload_n hx hb dX5_putMovers_13 rfl (lv_at hl 2 rfl) ?_
      refine lv_aload_n hx hb dX5_putMovers_14 rfl (lv_at hl 0 rfl) ?_
      refine q_get (ci := 5) (C := RX5) (T := TX5) (N := 12) hx hb hts eX5_putMovers_X5 hown hK hP 0 rfl rfl 10 (Nat.le_of_ble_eq_true rfl) k1 rfl rfl dX5_putMovers_15 ?_
      refine lv_iload hx hb dX5_putMovers_18 (lv_at hl 4 rfl) ?_
      obtain ⟨hn2, hF⟩ := q_ck hF
      refine va_iald hx hb hK hP 1 0 rfl rfl hn2 dX5_putMovers_20 ?_
      refine lv_aload_n hx hb dX5_putMovers_21 rfl (lv_at hl 3 rfl) ?_
      refine lv_iload hx hb dX5_putMovers_22 (lv_at hl 4 rfl) ?_
      obtain ⟨hn3, hF⟩ := q_ck hF
      refine va_iald hx hb hK hP 7 0 rfl rfl hn3 dX5_putMovers_24 ?_
      obtain ⟨q4_0, q4_1, q4_2, hcq4, hF⟩ := q_bd3 hF
      refine q_Vv (As := [.int p1, .int (Q_spots x4_1.toNatClampNeg), .int (V_a x4_1.toNatClampNeg)]) (rest := []) ⟨hx, hb, hml, hown, hts⟩ hA hK hP hD hS (tX4_put l dC dI cI cZ aO H.size O_layers O_size O_rows_1 O_places_1 O_home_1 p1 (Q_spots x4_1.toNatClampNeg) (V_a x4_1.toNatClampNeg) (q4_0, q4_1, q4_2) hcq4) (cwV 3 hts gX5_putMovers_X4_put rfl rfl rfl uX4_put ⟨Nat.le_of_ble_eq_true rfl, Nat.le_of_ble_eq_true rfl⟩) [2, 3, 4, 5, 6] [(false, 0), (false, 1), (true, 0), (true, 1), (true, 2), (true, 3), (true, 4), (false, 7)] (iX5_putMovers aS aO aV cI cZ Q_spots Q_movers O_layers O_size q4_0 q4_1 q4_2 V_a) rfl rfl rfl rfl rfl 4 0 rfl rfl rfl rfl hl.1 rfl (Nat.le_of_ble_eq_true rfl) dX5_putMovers_25 ⟨Nat.zero_le _, Nat.zero_le _⟩ (fun H locs hP hD hS => ?_)
      refine lv_iinc (v := (x4_1 + 1)) (lv' := [(4, .int (x4_1 + 1)), (0, .ref (aS 19)), (1, .ref (aO 0)), (2, .int p1), (3, .ref aV)]) hx hb dX5_putMovers_28 hl (k := 4) rfl rfl (by decide) rfl (fun ls hl => ?_)
      refine lv_goto (tgt := 3) hx hb dX5_putMovers_31 (by decide) ?_
      exact hin _ (Option.some.inj hF).symm H locs ls hP hD hS (lv_sub hl [1, 2, 3, 4, 0] rfl)
  exact L1 (0, O_rows, O_places, O_home) hc1 H locs ls hP hD hS (lv_sub hl [1, 2, 3, 4, 0] rfl)
abbrev rX5_step : Room := { frames := 3, cells := 0, slots := 0, locals := 89 }
theorem eX5_step_X5 : ∀ w ∈ u_ws RX5 TX5 12, w ∈ wsX5_step := by decide +kernel
theorem uX5_step : yX5_step.cls = RX5 ∧ yX5_step.cls ≠ "java/lang/invoke/MethodHandle" ∧ yX5_step.cls ≠ "java/lang/invoke/VarHandle" ∧ (parseMethodDescriptor yX5_step.desc).map (fun d => d.parameters.length) = some 3 := by decide +kernel
set_option maxHeartbeats 4000000 in
set_option maxRecDepth 100000 in
theorem tX5_step (l : Launch) (dC : Nat → ClassId) (dI : Nat → Nat → Nat) (cI cZ : ClassId) (aS : Nat → Nat) (aO : Nat → Nat) (sz : Nat) (P_size : Nat → Int32) (P_uppers : Nat → Int32) (P_lowers : Nat → Int32) (X_upper : Nat → Int32) (X_lower : Nat → Int32) (Q_own : Nat → Int32) (Q_far : Nat → Int32) (Q_degree : Nat → Int32) (Q_seen : Nat → Int32) (Q_median : Nat → Int32) (Q_stood : Nat → Int32) (Q_sorted : Nat → Int32) (Q_spots : Nat → Int32) (Q_movers : Int32) (O_layers : Int32) (O_size : Nat → Int32) (O_rows : Nat → Int32) (O_places : Nat → Int32) (O_home : Nat → Int32) (p1 : Int32) (p2 : Int32) (res : (Nat → Int32) × (Nat → Int32) × (Nat → Int32) × (Nat → Int32) × (Nat → Int32) × (Nat → Int32) × (Nat → Int32) × (Nat → Int32) × (Nat → Int32) × (Nat → Int32) × Int32 × (Nat → Int32) × (Nat → Int32) × (Nat → Int32)) (hF : fX5_step P_size P_uppers P_lowers X_upper X_lower Q_own Q_far Q_stood Q_sorted Q_spots O_layers O_size O_rows O_places O_home p1 p2 = some res) : q_Mv l yX5_step wsX5_step rX5_step (dC, dI) (q_ty cI cZ) [.ref (aS 19), .ref (aO 0), .int p1, .int p2] (iX5_step aS aO cI cZ P_size P_uppers P_lowers X_upper X_lower Q_own Q_far Q_degree Q_seen Q_median Q_stood Q_sorted Q_spots Q_movers O_layers O_size O_rows O_places O_home) (iX5_step aS aO cI cZ P_size P_uppers P_lowers res.1 res.2.1 res.2.2.1 res.2.2.2.1 res.2.2.2.2.1 res.2.2.2.2.2.1 res.2.2.2.2.2.2.1 res.2.2.2.2.2.2.2.1 res.2.2.2.2.2.2.2.2.1 res.2.2.2.2.2.2.2.2.2.1 res.2.2.2.2.2.2.2.2.2.2.1 O_layers O_size res.2.2.2.2.2.2.2.2.2.2.2.1 res.2.2.2.2.2.2.2.2.2.2.2.2.1 res.2.2.2.2.2.2.2.2.2.2.2.2.2) sz := by
  refine q_metv (cc := cX5_step) (maxL := 5) (by decide) rfl (Nat.le_of_ble_eq_true rfl) ?_
  intro p e s m args below meth c Q A H locs ls C hP hD hS hl hret
  obtain ⟨hx, hb, hml, hown, hts, hA, hK⟩ := C
  replace hl : lv_has ls 5 [(0, .ref (aS 19)), (1, .ref (aO 0)), (2, .int p1), (3, .int p2)] := hl
  have k0 := hts (.fieldLink RX5 40 "RouteLayout$Orderer" "crossings" "LRouteLayout$Crossings;") (by decide +kernel)
  have k1 := hts (.fieldLink RX5 30 "RouteLayout$Orderer" "sorted" "[I") (by decide +kernel)
  have k2 := hts (.fieldLink RX5 27 "RouteLayout$Orderer" "stood" "[I") (by decide +kernel)
  unfold fX5_step at hF
  refine lv_aload_n hx hb dX5_step_0 rfl (lv_at hl 0 rfl) ?_
  refine lv_aload_n hx hb dX5_step_1 rfl (lv_at hl 0 rfl) ?_
  refine lv_aload_n hx hb dX5_step_2 rfl (lv_at hl 1 rfl) ?_
  refine lv_iload_n hx hb dX5_step_3 rfl (lv_at hl 2 rfl) ?_
  refine lv_iload_n hx hb dX5_step_4 rfl (lv_at hl 3 rfl) ?_
  obtain ⟨q1_0, q1_1, q1_2, hcq1, hF⟩ := q_bd3 hF
  refine q_Vi (As := [.ref (aO 0), .int p1, .int p2]) (rest := [.ref (aS 19)]) ⟨hx, hb, hml, hown, hts⟩ hA hK hP hD hS (tX5_loadEnds l dC dI cI cZ aS aO H.size P_size P_uppers P_lowers Q_own Q_far Q_movers O_layers O_places p1 p2 (q1_0, q1_1, q1_2) hcq1) (cwV 3 hts gX5_step_X5_loadEnds rfl rfl rfl uX5_loadEnds ⟨Nat.le_of_ble_eq_true rfl, Nat.le_of_ble_eq_true rfl⟩) [0, 1, 2, 3, 4, 8, 9, 16, 19] [(true, 0), (true, 1), (true, 2), (true, 3), (true, 4), (false, 5), (false, 6), (false, 7), (true, 5), (true, 6), (false, 10), (false, 11), (false, 12), (false, 13), (false, 14), (false, 15), (true, 7), (false, 17), (false, 18), (true, 8), (false, 20)] (iX5_step aS aO cI cZ P_size P_uppers P_lowers X_upper X_lower q1_1 q1_2 Q_degree Q_seen Q_median Q_stood Q_sorted Q_spots Q_movers O_layers O_size O_rows O_places O_home) rfl rfl rfl rfl rfl 5 0 rfl rfl rfl rfl hl.1 rfl (Nat.le_of_ble_eq_true rfl) dX5_step_5 ⟨Nat.zero_le _, Nat.zero_le _⟩ (fun H locs hP hD hS => ?_)
  obtain ⟨q2_0, q2_1, q2_2, hcq2, hF⟩ := q_bd3 hF
  refine q_Vv (As := [.int q1_0]) (rest := []) ⟨hx, hb, hml, hown, hts⟩ hA hK hP hD hS (tX5_findMedians l dC dI cI cZ aS H.size q1_1 q1_2 Q_degree Q_seen Q_median Q_movers q1_0 (q2_0, q2_1, q2_2) hcq2) (cwV 1 hts gX5_step_X5_findMedians rfl rfl rfl uX5_findMedians ⟨Nat.le_of_ble_eq_true rfl, Nat.le_of_ble_eq_true rfl⟩) [0, 8, 9, 10, 11, 12] [(true, 0), (false, 1), (false, 2), (false, 3), (false, 4), (false, 5), (false, 6), (false, 7), (true, 1), (true, 2), (true, 3), (true, 4), (true, 5), (false, 13), (false, 14), (false, 15), (false, 16), (false, 17), (false, 18), (false, 19), (false, 20)] (iX5_step aS aO cI cZ P_size P_uppers P_lowers X_upper X_lower q1_1 q1_2 q2_0 q2_1 q2_2 Q_stood Q_sorted Q_spots Q_movers O_layers O_size O_rows O_places O_home) rfl rfl rfl rfl rfl 5 0 rfl rfl rfl rfl hl.1 rfl (Nat.le_of_ble_eq_true rfl) dX5_step_8 ⟨Nat.zero_le _, Nat.zero_le _⟩ (fun H locs hP hD hS => ?_)
  refine lv_aload_n hx hb dX5_step_11 rfl (lv_at hl 0 rfl) ?_
  refine lv_aload_n hx hb dX5_step_12 rfl (lv_at hl 1 rfl) ?_
  refine lv_iload_n hx hb dX5_step_13 rfl (lv_at hl 2 rfl) ?_
  obtain ⟨q3_0, q3_1, q3_2, hcq3, hF⟩ := q_bd3 hF
  refine q_Vv (As := [.ref (aO 0), .int p1]) (rest := []) ⟨hx, hb, hml, hown, hts⟩ hA hK hP hD hS (tX5_gatherMovers l dC dI cI cZ aS aO H.size q2_2 Q_stood Q_spots Q_movers O_layers O_size O_rows p1 (q3_0, q3_1, q3_2) hcq3) (cwV 2 hts gX5_step_X5_gatherMovers rfl rfl rfl uX5_gatherMovers ⟨Nat.le_of_ble_eq_true rfl, Nat.le_of_ble_eq_true rfl⟩) [0, 12, 13, 15, 16, 17, 18] [(true, 0), (false, 1), (false, 2), (false, 3), (false, 4), (false, 5), (false, 6), (false, 7), (false, 8), (false, 9), (false, 10), (false, 11), (true, 1), (true, 2), (false, 14), (true, 3), (true, 4), (true, 5), (true, 6), (false, 19), (false, 20)] (iX5_step aS aO cI cZ P_size P_uppers P_lowers X_upper X_lower q1_1 q1_2 q2_0 q2_1 q2_2 q3_0 Q_sorted q3_1 q3_2 O_layers O_size O_rows O_places O_home) rfl rfl rfl rfl rfl 5 0 rfl rfl rfl rfl hl.1 rfl (Nat.le_of_ble_eq_true rfl) dX5_step_14 ⟨Nat.zero_le _, Nat.zero_le _⟩ (fun H locs hP hD hS => ?_)
  refine lv_aload_n hx hb dX5_step_17 rfl (lv_at hl 0 rfl) ?_
  obtain ⟨q4_0, q4_1, hcq4, hF⟩ := q_bd2 hF
  refine q_Vi (As := []) (rest := []) ⟨hx, hb, hml, hown, hts⟩ hA hK hP hD hS (tX5_sortMovers l dC dI cI cZ aS H.size q2_2 q3_0 Q_sorted q3_2 (q4_0, q4_1) hcq4) (cwV 0 hts gX5_step_X5_sortMovers rfl rfl rfl uX5_sortMovers ⟨Nat.le_of_ble_eq_true rfl, Nat.le_of_ble_eq_true rfl⟩) [0, 12, 13, 14] [(true, 0), (false, 1), (false, 2), (false, 3), (false, 4), (false, 5), (false, 6), (false, 7), (false, 8), (false, 9), (false, 10), (false, 11), (true, 1), (true, 2), (true, 3), (false, 15), (false, 16), (false, 17), (false, 18), (false, 19), (false, 20)] (iX5_step aS aO cI cZ P_size P_uppers P_lowers X_upper X_lower q1_1 q1_2 q2_0 q2_1 q2_2 q3_0 q4_1 q3_1 q3_2 O_layers O_size O_rows O_places O_home) rfl rfl rfl rfl rfl 5 0 rfl rfl rfl rfl hl.1 rfl (Nat.le_of_ble_eq_true rfl) dX5_step_18 ⟨Nat.zero_le _, Nat.zero_le _⟩ (fun H locs hP hD hS => ?_)
  refine lv_if_ne (tgt := 25) hx hb dX5_step_21 (by decide) (fun hc => ?_) (fun hc => ?_)
  · replace hF := q_f hc hF
    refine lv_aload_n hx hb dX5_step_25 rfl (lv_at hl 0 rfl) ?_
    refine q_get (ci := 5) (C := RX5) (T := TX5) (N := 12) hx hb hts eX5_step_X5 hown hK hP 0 rfl rfl 1 (Nat.le_of_ble_eq_true rfl) k0 rfl rfl dX5_step_26 ?_
    refine lv_aload_n hx hb dX5_step_29 rfl (lv_at hl 1 rfl) ?_
    refine lv_iload_n hx hb dX5_step_30 rfl (lv_at hl 2 rfl) ?_
    obtain ⟨q5_0, q5_1, q5_2, hcq5, hF⟩ := q_bd3 hF
    refine q_Vi (As := [.ref (aO 0), .int p1]) (rest := []) ⟨hx, hb, hml, hown, hts⟩ hA hK hP hD hS (tX2_around l dC dI cI cZ aS aO H.size P_size P_uppers P_lowers X_upper X_lower O_layers O_places p1 (q5_0, q5_1, q5_2) hcq5) (cwV 2 hts gX5_step_X2_around rfl rfl rfl uX2_around ⟨Nat.le_of_ble_eq_true rfl, Nat.le_of_ble_eq_true rfl⟩) [5, 1, 2, 3, 4, 6, 7, 16, 19] [(false, 0), (true, 1), (true, 2), (true, 3), (true, 4), (true, 0), (true, 5), (true, 6), (false, 8), (false, 9), (false, 10), (false, 11), (false, 12), (false, 13), (false, 14), (false, 15), (true, 7), (false, 17), (false, 18), (true, 8), (false, 20)] (iX5_step aS aO cI cZ P_size P_uppers P_lowers q5_1 q5_2 q1_1 q1_2 q2_0 q2_1 q2_2 q3_0 q4_1 q3_1 q3_2 O_layers O_size O_rows O_places O_home) rfl rfl rfl rfl rfl 2 0 rfl rfl rfl rfl hl.1 rfl (Nat.le_of_ble_eq_true rfl) dX5_step_31 ⟨Nat.zero_le _, Nat.zero_le _⟩ (fun H locs hP hD hS => ?_)
    refine lv_istore (lv' := [(4, .int q5_0), (0, .ref (aS 19)), (1, .ref (aO 0)), (2, .int p1), (3, .int p2)]) hx hb dX5_step_34 hl (by decide) rfl (fun ls hl => ?_)
    refine lv_aload_n hx hb dX5_step_36 rfl (lv_at hl 1 rfl) ?_
    refine lv_aload_n hx hb dX5_step_37 rfl (lv_at hl 2 rfl) ?_
    refine lv_iload_n hx hb dX5_step_38 rfl (lv_at hl 3 rfl) ?_
    refine lv_aload_n hx hb dX5_step_39 rfl (lv_at hl 1 rfl) ?_
    refine q_get (ci := 5) (C := RX5) (T := TX5) (N := 12) hx hb hts eX5_step_X5 hown hK hP 0 rfl rfl 9 (Nat.le_of_ble_eq_true rfl) k1 rfl rfl dX5_step_40 ?_
    obtain ⟨q6_0, q6_1, q6_2, hcq6, hF⟩ := q_bd3 hF
    refine q_Vv (As := [.ref (aO 0), .int p1, .ref (aS 26)]) (rest := []) ⟨hx, hb, hml, hown, hts⟩ hA hK hP hD hS (tX5_putMovers l dC dI cI cZ aS aO (aS 26) H.size q3_1 q3_2 O_layers O_size O_rows O_places O_home q4_1 p1 (q6_0, q6_1, q6_2) hcq6) (cwV 3 hts gX5_step_X5_putMovers rfl rfl rfl uX5_putMovers ⟨Nat.le_of_ble_eq_true rfl, Nat.le_of_ble_eq_true rfl⟩) [0, 15, 16, 17, 18, 19, 20, 14] [(true, 0), (false, 1), (false, 2), (false, 3), (false, 4), (false, 5), (false, 6), (false, 7), (false, 8), (false, 9), (false, 10), (false, 11), (false, 12), (false, 13), (true, 7), (true, 1), (true, 2), (true, 3), (true, 4), (true, 5), (true, 6)] (iX5_step aS aO cI cZ P_size P_uppers P_lowers q5_1 q5_2 q1_1 q1_2 q2_0 q2_1 q2_2 q3_0 q4_1 q3_1 q3_2 O_layers O_size q6_0 q6_1 q6_2) rfl rfl rfl rfl rfl 5 0 rfl rfl rfl rfl hl.1 rfl (Nat.le_of_ble_eq_true rfl) dX5_step_43 ⟨Nat.zero_le _, Nat.zero_le _⟩ (fun H locs hP hD hS => ?_)
    refine lv_aload_n hx hb dX5_step_46 rfl (lv_at hl 1 rfl) ?_
    refine q_get (ci := 5) (C := RX5) (T := TX5) (N := 12) hx hb hts eX5_step_X5 hown hK hP 0 rfl rfl 1 (Nat.le_of_ble_eq_true rfl) k0 rfl rfl dX5_step_47 ?_
    refine lv_aload_n hx hb dX5_step_50 rfl (lv_at hl 2 rfl) ?_
    refine lv_iload_n hx hb dX5_step_51 rfl (lv_at hl 3 rfl) ?_
    obtain ⟨q7_0, q7_1, q7_2, hcq7, hF⟩ := q_bd3 hF
    refine q_Vi (As := [.ref (aO 0), .int p1]) (rest := []) ⟨hx, hb, hml, hown, hts⟩ hA hK hP hD hS (tX2_around l dC dI cI cZ aS aO H.size P_size P_uppers P_lowers q5_1 q5_2 O_layers q6_1 p1 (q7_0, q7_1, q7_2) hcq7) (cwV 2 hts gX5_step_X2_around rfl rfl rfl uX2_around ⟨Nat.le_of_ble_eq_true rfl, Nat.le_of_ble_eq_true rfl⟩) [5, 1, 2, 3, 4, 6, 7, 16, 19] [(false, 0), (true, 1), (true, 2), (true, 3), (true, 4), (true, 0), (true, 5), (true, 6), (false, 8), (false, 9), (false, 10), (false, 11), (false, 12), (false, 13), (false, 14), (false, 15), (true, 7), (false, 17), (false, 18), (true, 8), (false, 20)] (iX5_step aS aO cI cZ P_size P_uppers P_lowers q7_1 q7_2 q1_1 q1_2 q2_0 q2_1 q2_2 q3_0 q4_1 q3_1 q3_2 O_layers O_size q6_0 q6_1 q6_2) rfl rfl rfl rfl rfl 2 0 rfl rfl rfl rfl hl.1 rfl (Nat.le_of_ble_eq_true rfl) dX5_step_52 ⟨Nat.zero_le _, Nat.zero_le _⟩ (fun H locs hP hD hS => ?_)
    refine lv_iload hx hb dX5_step_55 (lv_at hl 0 rfl) ?_
    refine lv_icmp_le (tgt := 70) hx hb dX5_step_57 (by decide) (fun hc => ?_) (fun hc => ?_)
    · replace hF := q_t hc hF
      exact hret H locs ls 70 _ dX5_step_70 (congrArg (fun z : (Nat → Int32) × (Nat → Int32) × (Nat → Int32) × (Nat → Int32) × (Nat → Int32) × (Nat → Int32) × (Nat → Int32) × (Nat → Int32) × (Nat → Int32) × (Nat → Int32) × Int32 × (Nat → Int32) × (Nat → Int32) × (Nat → Int32) => (iX5_step aS aO cI cZ P_size P_uppers P_lowers z.1 z.2.1 z.2.2.1 z.2.2.2.1 z.2.2.2.2.1 z.2.2.2.2.2.1 z.2.2.2.2.2.2.1 z.2.2.2.2.2.2.2.1 z.2.2.2.2.2.2.2.2.1 z.2.2.2.2.2.2.2.2.2.1 z.2.2.2.2.2.2.2.2.2.2.1 O_layers O_size z.2.2.2.2.2.2.2.2.2.2.2.1 z.2.2.2.2.2.2.2.2.2.2.2.2.1 z.2.2.2.2.2.2.2.2.2.2.2.2.2)) (Option.some.inj hF)) hP hD hS
    · replace hF := q_f hc hF
      refine lv_aload_n hx hb dX5_step_60 rfl (lv_at hl 1 rfl) ?_
      refine lv_aload_n hx hb dX5_step_61 rfl (lv_at hl 2 rfl) ?_
      refine lv_iload_n hx hb dX5_step_62 rfl (lv_at hl 3 rfl) ?_
      refine lv_aload_n hx hb dX5_step_63 rfl (lv_at hl 1 rfl) ?_
      refine q_get (ci := 5) (C := RX5) (T := TX5) (N := 12) hx hb hts eX5_step_X5 hown hK hP 0 rfl rfl 8 (Nat.le_of_ble_eq_true rfl) k2 rfl rfl dX5_step_64 ?_
      obtain ⟨q8_0, q8_1, q8_2, hcq8, hF⟩ := q_bd3 hF
      refine q_Vv (As := [.ref (aO 0), .int p1, .ref (aS 25)]) (rest := []) ⟨hx, hb, hml, hown, hts⟩ hA hK hP hD hS (tX5_putMovers l dC dI cI cZ aS aO (aS 25) H.size q3_1 q3_2 O_layers O_size q6_0 q6_1 q6_2 q3_0 p1 (q8_0, q8_1, q8_2) hcq8) (cwV 3 hts gX5_step_X5_putMovers rfl rfl rfl uX5_putMovers ⟨Nat.le_of_ble_eq_true rfl, Nat.le_of_ble_eq_true rfl⟩) [0, 15, 16, 17, 18, 19, 20, 13] [(true, 0), (false, 1), (false, 2), (false, 3), (false, 4), (false, 5), (false, 6), (false, 7), (false, 8), (false, 9), (false, 10), (false, 11), (false, 12), (true, 7), (false, 14), (true, 1), (true, 2), (true, 3), (true, 4), (true, 5), (true, 6)] (iX5_step aS aO cI cZ P_size P_uppers P_lowers q7_1 q7_2 q1_1 q1_2 q2_0 q2_1 q2_2 q3_0 q4_1 q3_1 q3_2 O_layers O_size q8_0 q8_1 q8_2) rfl rfl rfl rfl rfl 5 0 rfl rfl rfl rfl hl.1 rfl (Nat.le_of_ble_eq_true rfl) dX5_step_67 ⟨Nat.zero_le _, Nat.zero_le _⟩ (fun H locs hP hD hS => ?_)
      exact hret H locs ls 70 _ dX5_step_70 (congrArg (fun z : (Nat → Int32) × (Nat → Int32) × (Nat → Int32) × (Nat → Int32) × (Nat → Int32) × (Nat → Int32) × (Nat → Int32) × (Nat → Int32) × (Nat → Int32) × (Nat → Int32) × Int32 × (Nat → Int32) × (Nat → Int32) × (Nat → Int32) => (iX5_step aS aO cI cZ P_size P_uppers P_lowers z.1 z.2.1 z.2.2.1 z.2.2.2.1 z.2.2.2.2.1 z.2.2.2.2.2.1 z.2.2.2.2.2.2.1 z.2.2.2.2.2.2.2.1 z.2.2.2.2.2.2.2.2.1 z.2.2.2.2.2.2.2.2.2.1 z.2.2.2.2.2.2.2.2.2.2.1 O_layers O_size z.2.2.2.2.2.2.2.2.2.2.2.1 z.2.2.2.2.2.2.2.2.2.2.2.2.1 z.2.2.2.2.2.2.2.2.2.2.2.2.2)) (Option.some.inj hF)) hP hD hS
  · replace hF := q_t hc hF
    exact hret H locs ls 24 _ dX5_step_24 (congrArg (fun z : (Nat → Int32) × (Nat → Int32) × (Nat → Int32) × (Nat → Int32) × (Nat → Int32) × (Nat → Int32) × (Nat → Int32) × (Nat → Int32) × (Nat → Int32) × (Nat → Int32) × Int32 × (Nat → Int32) × (Nat → Int32) × (Nat → Int32) => (iX5_step aS aO cI cZ P_size P_uppers P_lowers z.1 z.2.1 z.2.2.1 z.2.2.2.1 z.2.2.2.2.1 z.2.2.2.2.2.1 z.2.2.2.2.2.2.1 z.2.2.2.2.2.2.2.1 z.2.2.2.2.2.2.2.2.1 z.2.2.2.2.2.2.2.2.2.1 z.2.2.2.2.2.2.2.2.2.2.1 O_layers O_size z.2.2.2.2.2.2.2.2.2.2.2.1 z.2.2.2.2.2.2.2.2.2.2.2.2.1 z.2.2.2.2.2.2.2.2.2.2.2.2.2)) (Option.some.inj hF)) hP hD hS
abbrev rX5_sweep : Room := { frames := 4, cells := 0, slots := 0, locals := 113 }
theorem uX5_sweep : yX5_sweep.cls = RX5 ∧ yX5_sweep.cls ≠ "java/lang/invoke/MethodHandle" ∧ yX5_sweep.cls ≠ "java/lang/invoke/VarHandle" ∧ (parseMethodDescriptor yX5_sweep.desc).map (fun d => d.parameters.length) = some 1 := by decide +kernel
set_option maxHeartbeats 4000000 in
set_option maxRecDepth 100000 in
theorem tX5_sweep (l : Launch) (dC : Nat → ClassId) (dI : Nat → Nat → Nat) (cI cZ : ClassId) (aS : Nat → Nat) (aO : Nat → Nat) (sz : Nat) (P_size : Nat → Int32) (P_uppers : Nat → Int32) (P_lowers : Nat → Int32) (X_upper : Nat → Int32) (X_lower : Nat → Int32) (Q_own : Nat → Int32) (Q_far : Nat → Int32) (Q_degree : Nat → Int32) (Q_seen : Nat → Int32) (Q_median : Nat → Int32) (Q_stood : Nat → Int32) (Q_sorted : Nat → Int32) (Q_spots : Nat → Int32) (Q_movers : Int32) (O_layers : Int32) (O_size : Nat → Int32) (O_rows : Nat → Int32) (O_places : Nat → Int32) (O_home : Nat → Int32) (res : (Nat → Int32) × (Nat → Int32) × (Nat → Int32) × (Nat → Int32) × (Nat → Int32) × (Nat → Int32) × (Nat → Int32) × (Nat → Int32) × (Nat → Int32) × (Nat → Int32) × Int32 × (Nat → Int32) × (Nat → Int32) × (Nat → Int32)) (hF : fX5_sweep P_size P_uppers P_lowers X_upper X_lower Q_own Q_far Q_degree Q_seen Q_median Q_stood Q_sorted Q_spots Q_movers O_layers O_size O_rows O_places O_home = some res) : q_Mv l yX5_sweep wsX5_sweep rX5_sweep (dC, dI) (q_ty cI cZ) [.ref (aS 19), .ref (aO 0)] (iX5_sweep aS aO cI cZ P_size P_uppers P_lowers X_upper X_lower Q_own Q_far Q_degree Q_seen Q_median Q_stood Q_sorted Q_spots Q_movers O_layers O_size O_rows O_places O_home) (iX5_sweep aS aO cI cZ P_size P_uppers P_lowers res.1 res.2.1 res.2.2.1 res.2.2.2.1 res.2.2.2.2.1 res.2.2.2.2.2.1 res.2.2.2.2.2.2.1 res.2.2.2.2.2.2.2.1 res.2.2.2.2.2.2.2.2.1 res.2.2.2.2.2.2.2.2.2.1 res.2.2.2.2.2.2.2.2.2.2.1 O_layers O_size res.2.2.2.2.2.2.2.2.2.2.2.1 res.2.2.2.2.2.2.2.2.2.2.2.2.1 res.2.2.2.2.2.2.2.2.2.2.2.2.2) sz := by
  refine q_metv (cc := cX5_sweep) (maxL := 3) (by decide) rfl (Nat.le_of_ble_eq_true rfl) ?_
  intro p e s m args below meth c Q A H locs ls C hP hD hS hl hret
  obtain ⟨hx, hb, hml, hown, hts, hA, hK⟩ := C
  replace hl : lv_has ls 3 [(0, .ref (aS 19)), (1, .ref (aO 0))] := hl
  unfold fX5_sweep at hF
  refine lv_iconst (v := 1) hx hb dX5_sweep_0 (by decide) ?_
  refine lv_istore_n (lv' := [(2, .int 1), (0, .ref (aS 19)), (1, .ref (aO 0))]) hx hb dX5_sweep_1 rfl hl (by decide) rfl (fun ls hl => ?_)
  obtain ⟨q1_0, q1_1, q1_2, q1_3, q1_4, q1_5, q1_6, q1_7, q1_8, q1_9, q1_10, q1_11, q1_12, q1_13, hc1, hF⟩ := q_bd14 hF
  have X1 : ∀ (u1_0 : Nat → Int32) (u1_1 : Nat → Int32) (u1_2 : Nat → Int32) (u1_3 : Nat → Int32) (u1_4 : Nat → Int32) (u1_5 : Nat → Int32) (u1_6 : Nat → Int32) (u1_7 : Nat → Int32) (u1_8 : Nat → Int32) (u1_9 : Nat → Int32) (u1_10 : Int32) (u1_11 : Nat → Int32) (u1_12 : Nat → Int32) (u1_13 : Nat → Int32), (u1_0, u1_1, u1_2, u1_3, u1_4, u1_5, u1_6, u1_7, u1_8, u1_9, u1_10, u1_11, u1_12, u1_13) = (q1_0, q1_1, q1_2, q1_3, q1_4, q1_5, q1_6, q1_7, q1_8, q1_9, q1_10, q1_11, q1_12, q1_13) → ∀ (H : Heap) (locs : List Loc) (ls : Array Slot), va_P (dC, dI) vwCl (iX5_sweep aS aO cI cZ P_size P_uppers P_lowers u1_0 u1_1 u1_2 u1_3 u1_4 u1_5 u1_6 u1_7 u1_8 u1_9 u1_10 O_layers O_size u1_11 u1_12 u1_13) H → va_D A (iX5_sweep aS aO cI cZ P_size P_uppers P_lowers u1_0 u1_1 u1_2 u1_3 u1_4 u1_5 u1_6 u1_7 u1_8 u1_9 u1_10 O_layers O_size u1_11 u1_12 u1_13) → va_S A s.heap H locs → lv_has ls 3 [(0, .ref (aS 19)), (1, .ref (aO 0))] → W p l e (headSpec wsX5_sweep (rX5_sweep)).room s m args below meth c H locs 0 0 Q (F0 m 23 ls []) := by
    intro u1_0 u1_1 u1_2 u1_3 u1_4 u1_5 u1_6 u1_7 u1_8 u1_9 u1_10 u1_11 u1_12 u1_13 hu H locs ls hP hD hS hl
    obtain ⟨e0, e1, e2, e3, e4, e5, e6, e7, e8, e9, e10, e11, e12, e13⟩ := q_inj14 hu
    subst e0 e1 e2 e3 e4 e5 e6 e7 e8 e9 e10 e11 e12 e13
    refine lv_aload_n hx hb dX5_sweep_23 rfl (lv_at hl 1 rfl) ?_
    obtain ⟨q4, hcq4, hF⟩ := q_bd hF
    refine q_Vi (As := []) (rest := []) ⟨hx, hb, hml, hown, hts⟩ hA hK hP hD hS (tX4_layers l dC dI cI cZ aO H.size O_layers q4 hcq4) (cwV 0 hts gX5_sweep_X4_layers rfl rfl rfl uX4_layers ⟨Nat.le_of_ble_eq_true rfl, Nat.le_of_ble_eq_true rfl⟩) [16] [(false, 0), (false, 1), (false, 2), (false, 3), (false, 4), (false, 5), (false, 6), (false, 7), (false, 8), (false, 9), (false, 10), (false, 11), (false, 12), (false, 13), (false, 14), (false, 15), (true, 0), (false, 17), (false, 18), (false, 19), (false, 20)] (iX5_sweep aS aO cI cZ P_size P_uppers P_lowers u1_0 u1_1 u1_2 u1_3 u1_4 u1_5 u1_6 u1_7 u1_8 u1_9 u1_10 O_layers O_size u1_11 u1_12 u1_13) rfl rfl rfl rfl rfl 4 0 rfl rfl rfl rfl hl.1 rfl (Nat.le_of_ble_eq_true rfl) dX5_sweep_24 ⟨Nat.zero_le _, Nat.zero_le _⟩ (fun H locs hP hD hS => ?_)
    refine lv_iconst (v := 2) hx hb dX5_sweep_27 (by decide) ?_
    refine lv_isub hx hb dX5_sweep_28 ?_
    refine lv_istore_n (lv' := [(2, .int (q4 - 2)), (0, .ref (aS 19)), (1, .ref (aO 0))]) hx hb dX5_sweep_29 rfl hl (by decide) rfl (fun ls hl => ?_)
    obtain ⟨q5_0, q5_1, q5_2, q5_3, q5_4, q5_5, q5_6, q5_7, q5_8, q5_9, q5_10, q5_11, q5_12, q5_13, hc5, hF⟩ := q_bd14 hF
    have X5 : ∀ (u5_0 : Nat → Int32) (u5_1 : Nat → Int32) (u5_2 : Nat → Int32) (u5_3 : Nat → Int32) (u5_4 : Nat → Int32) (u5_5 : Nat → Int32) (u5_6 : Nat → Int32) (u5_7 : Nat → Int32) (u5_8 : Nat → Int32) (u5_9 : Nat → Int32) (u5_10 : Int32) (u5_11 : Nat → Int32) (u5_12 : Nat → Int32) (u5_13 : Nat → Int32), (u5_0, u5_1, u5_2, u5_3, u5_4, u5_5, u5_6, u5_7, u5_8, u5_9, u5_10, u5_11, u5_12, u5_13) = (q5_0, q5_1, q5_2, q5_3, q5_4, q5_5, q5_6, q5_7, q5_8, q5_9, q5_10, q5_11, q5_12, q5_13) → ∀ (H : Heap) (locs : List Loc) (ls : Array Slot), va_P (dC, dI) vwCl (iX5_sweep aS aO cI cZ P_size P_uppers P_lowers u5_0 u5_1 u5_2 u5_3 u5_4 u5_5 u5_6 u5_7 u5_8 u5_9 u5_10 O_layers O_size u5_11 u5_12 u5_13) H → va_D A (iX5_sweep aS aO cI cZ P_size P_uppers P_lowers u5_0 u5_1 u5_2 u5_3 u5_4 u5_5 u5_6 u5_7 u5_8 u5_9 u5_10 O_layers O_size u5_11 u5_12 u5_13) → va_S A s.heap H locs → lv_has ls 3 [] → W p l e (headSpec wsX5_sweep (rX5_sweep)).room s m args below meth c H locs 0 0 Q (F0 m 47 ls []) := by
      intro u5_0 u5_1 u5_2 u5_3 u5_4 u5_5 u5_6 u5_7 u5_8 u5_9 u5_10 u5_11 u5_12 u5_13 hu H locs ls hP hD hS hl
      obtain ⟨e0, e1, e2, e3, e4, e5, e6, e7, e8, e9, e10, e11, e12, e13⟩ := q_inj14 hu
      subst e0 e1 e2 e3 e4 e5 e6 e7 e8 e9 e10 e11 e12 e13
      exact hret H locs ls 47 _ dX5_sweep_47 (congrArg (fun z : (Nat → Int32) × (Nat → Int32) × (Nat → Int32) × (Nat → Int32) × (Nat → Int32) × (Nat → Int32) × (Nat → Int32) × (Nat → Int32) × (Nat → Int32) × (Nat → Int32) × Int32 × (Nat → Int32) × (Nat → Int32) × (Nat → Int32) => (iX5_sweep aS aO cI cZ P_size P_uppers P_lowers z.1 z.2.1 z.2.2.1 z.2.2.2.1 z.2.2.2.2.1 z.2.2.2.2.2.1 z.2.2.2.2.2.2.1 z.2.2.2.2.2.2.2.1 z.2.2.2.2.2.2.2.2.1 z.2.2.2.2.2.2.2.2.2.1 z.2.2.2.2.2.2.2.2.2.2.1 O_layers O_size z.2.2.2.2.2.2.2.2.2.2.2.1 z.2.2.2.2.2.2.2.2.2.2.2.2.1 z.2.2.2.2.2.2.2.2.2.2.2.2.2)) (Option.some.inj hF)) hP hD hS
    have L5 : ∀ st : Int32 × (Nat → Int32) × (Nat → Int32) × (Nat → Int32) × (Nat → Int32) × (Nat → Int32) × (Nat → Int32) × (Nat → Int32) × (Nat → Int32) × (Nat → Int32) × (Nat → Int32) × Int32 × (Nat → Int32) × (Nat → Int32) × (Nat → Int32), q_lo (fun (st : Int32 × (Nat → Int32) × (Nat → Int32) × (Nat → Int32) × (Nat → Int32) × (Nat → Int32) × (Nat → Int32) × (Nat → Int32) × (Nat → Int32) × (Nat → Int32) × (Nat → Int32) × Int32 × (Nat → Int32) × (Nat → Int32) × (Nat → Int32)) => bX5_sweep_30 P_size P_uppers P_lowers O_layers O_size st.1 st.2.1 st.2.2.1 st.2.2.2.1 st.2.2.2.2.1 st.2.2.2.2.2.1 st.2.2.2.2.2.2.1 st.2.2.2.2.2.2.2.1 st.2.2.2.2.2.2.2.2.1 st.2.2.2.2.2.2.2.2.2.1 st.2.2.2.2.2.2.2.2.2.2.1 st.2.2.2.2.2.2.2.2.2.2.2.1 st.2.2.2.2.2.2.2.2.2.2.2.2.1 st.2.2.2.2.2.2.2.2.2.2.2.2.2.1 st.2.2.2.2.2.2.2.2.2.2.2.2.2.2) st = some (q5_0, q5_1, q5_2, q5_3, q5_4, q5_5, q5_6, q5_7, q5_8, q5_9, q5_10, q5_11, q5_12, q5_13) → ∀ (H : Heap) (locs : List Loc) (ls : Array Slot), va_P (dC, dI) vwCl (iX5_sweep aS aO cI cZ P_size P_uppers P_lowers st.2.1 st.2.2.1 st.2.2.2.1 st.2.2.2.2.1 st.2.2.2.2.2.1 st.2.2.2.2.2.2.1 st.2.2.2.2.2.2.2.1 st.2.2.2.2.2.2.2.2.1 st.2.2.2.2.2.2.2.2.2.1 st.2.2.2.2.2.2.2.2.2.2.1 st.2.2.2.2.2.2.2.2.2.2.2.1 O_layers O_size st.2.2.2.2.2.2.2.2.2.2.2.2.1 st.2.2.2.2.2.2.2.2.2.2.2.2.2.1 st.2.2.2.2.2.2.2.2.2.2.2.2.2.2) H → va_D A (iX5_sweep aS aO cI cZ P_size P_uppers P_lowers st.2.1 st.2.2.1 st.2.2.2.1 st.2.2.2.2.1 st.2.2.2.2.2.1 st.2.2.2.2.2.2.1 st.2.2.2.2.2.2.2.1 st.2.2.2.2.2.2.2.2.1 st.2.2.2.2.2.2.2.2.2.1 st.2.2.2.2.2.2.2.2.2.2.1 st.2.2.2.2.2.2.2.2.2.2.2.1 O_layers O_size st.2.2.2.2.2.2.2.2.2.2.2.2.1 st.2.2.2.2.2.2.2.2.2.2.2.2.2.1 st.2.2.2.2.2.2.2.2.2.2.2.2.2.2) → va_S A s.heap H locs → lv_has ls 3 [(0, .ref (aS 19)), (1, .ref (aO 0)), (2, .int st.1)] → W p l e (headSpec wsX5_sweep (rX5_sweep)).room s m args below meth c H locs 0 0 Q (F0 m 30 ls []) := by
      intro st hst
      refine q_walk (Wh := fun st : Int32 × (Nat → Int32) × (Nat → Int32) × (Nat → Int32) × (Nat → Int32) × (Nat → Int32) × (Nat → Int32) × (Nat → Int32) × (Nat → Int32) × (Nat → Int32) × (Nat → Int32) × Int32 × (Nat → Int32) × (Nat → Int32) × (Nat → Int32) => ∀ (H : Heap) (locs : List Loc) (ls : Array Slot), va_P (dC, dI) vwCl (iX5_sweep aS aO cI cZ P_size P_uppers P_lowers st.2.1 st.2.2.1 st.2.2.2.1 st.2.2.2.2.1 st.2.2.2.2.2.1 st.2.2.2.2.2.2.1 st.2.2.2.2.2.2.2.1 st.2.2.2.2.2.2.2.2.1 st.2.2.2.2.2.2.2.2.2.1 st.2.2.2.2.2.2.2.2.2.2.1 st.2.2.2.2.2.2.2.2.2.2.2.1 O_layers O_size st.2.2.2.2.2.2.2.2.2.2.2.2.1 st.2.2.2.2.2.2.2.2.2.2.2.2.2.1 st.2.2.2.2.2.2.2.2.2.2.2.2.2.2) H → va_D A (iX5_sweep aS aO cI cZ P_size P_uppers P_lowers st.2.1 st.2.2.1 st.2.2.2.1 st.2.2.2.2.1 st.2.2.2.2.2.1 st.2.2.2.2.2.2.1 st.2.2.2.2.2.2.2.1 st.2.2.2.2.2.2.2.2.1 st.2.2.2.2.2.2.2.2.2.1 st.2.2.2.2.2.2.2.2.2.2.1 st.2.2.2.2.2.2.2.2.2.2.2.1 O_layers O_size st.2.2.2.2.2.2.2.2.2.2.2.2.1 st.2.2.2.2.2.2.2.2.2.2.2.2.2.1 st.2.2.2.2.2.2.2.2.2.2.2.2.2.2) → va_S A s.heap H locs → lv_has ls 3 [(0, .ref (aS 19)), (1, .ref (aO 0)), (2, .int st.1)] → W p l e (headSpec wsX5_sweep (rX5_sweep)).room s m args below meth c H locs 0 0 Q (F0 m 30 ls [])) ?_ st hst
      clear hst st hF
      intro st o hF hin hex H locs ls hP hD hS hl
      obtain ⟨x2_5, X_upper_5, X_lower_5, Q_own_5, Q_far_5, Q_degree_5, Q_seen_5, Q_median_5, Q_stood_5, Q_sorted_5, Q_spots_5, Q_movers_5, O_rows_5, O_places_5, O_home_5⟩ := st
      replace hF : bX5_sweep_30 P_size P_uppers P_lowers O_layers O_size x2_5 X_upper_5 X_lower_5 Q_own_5 Q_far_5 Q_degree_5 Q_seen_5 Q_median_5 Q_stood_5 Q_sorted_5 Q_spots_5 Q_movers_5 O_rows_5 O_places_5 O_home_5 = some o := hF
      replace hP : va_P (dC, dI) vwCl (iX5_sweep aS aO cI cZ P_size P_uppers P_lowers X_upper_5 X_lower_5 Q_own_5 Q_far_5 Q_degree_5 Q_seen_5 Q_median_5 Q_stood_5 Q_sorted_5 Q_spots_5 Q_movers_5 O_layers O_size O_rows_5 O_places_5 O_home_5) H := hP
      replace hD : va_D A (iX5_sweep aS aO cI cZ P_size P_uppers P_lowers X_upper_5 X_lower_5 Q_own_5 Q_far_5 Q_degree_5 Q_seen_5 Q_median_5 Q_stood_5 Q_sorted_5 Q_spots_5 Q_movers_5 O_layers O_size O_rows_5 O_places_5 O_home_5) := hD
      replace hl : lv_has ls 3 [(0, .ref (aS 19)), (1, .ref (aO 0)), (2, .int x2_5)] := hl
      unfold bX5_sweep_30 at hF
      refine lv_iload_n hx hb dX5_sweep_30 rfl (lv_at hl 2 rfl) ?_
      refine lv_if_lt (tgt := 47) hx hb dX5_sweep_31 (by decide) (fun hc => ?_) (fun hc => ?_)
      · replace hF := q_t hc hF
        exact X5 _ _ _ _ _ _ _ _ _ _ _ _ _ _ (hex _ (Option.some.inj hF).symm) H locs ls hP hD hS (lv_sub hl [] rfl)
      · replace hF := q_f hc hF
        refine lv_aload_n hx hb dX5_sweep_34 rfl (lv_at hl 0 rfl) ?_
        refine lv_aload_n hx hb dX5_sweep_35 rfl (lv_at hl 1 rfl) ?_
        refine lv_iload_n hx hb dX5_sweep_36 rfl (lv_at hl 2 rfl) ?_
        refine lv_iconst (v := 0) hx hb dX5_sweep_37 (by decide) ?_
        obtain ⟨q6_0, q6_1, q6_2, q6_3, q6_4, q6_5, q6_6, q6_7, q6_8, q6_9, q6_10, q6_11, q6_12, q6_13, hcq6, hF⟩ := q_bd14 hF
        refine q_Vv (As := [.ref (aO 0), .int x2_5, .int 0]) (rest := []) ⟨hx, hb, hml, hown, hts⟩ hA hK hP hD hS (tX5_step l dC dI cI cZ aS aO H.size P_size P_uppers P_lowers X_upper_5 X_lower_5 Q_own_5 Q_far_5 Q_degree_5 Q_seen_5 Q_median_5 Q_stood_5 Q_sorted_5 Q_spots_5 Q_movers_5 O_layers O_size O_rows_5 O_places_5 O_home_5 x2_5 0 (q6_0, q6_1, q6_2, q6_3, q6_4, q6_5, q6_6, q6_7, q6_8, q6_9, q6_10, q6_11, q6_12, q6_13) hcq6) (cwV 3 hts gX5_sweep_X5_step rfl rfl rfl uX5_step ⟨Nat.le_of_ble_eq_true rfl, Nat.le_of_ble_eq_true rfl⟩) [0, 1, 2, 3, 4, 5, 6, 7, 8, 9, 10, 11, 12, 13, 14, 15, 16, 17, 18, 19, 20] [(true, 0), (true, 1), (true, 2), (true, 3), (true, 4), (true, 5), (true, 6), (true, 7), (true, 8), (true, 9), (true, 10), (true, 11), (true, 12), (true, 13), (true, 14), (true, 15), (true, 16), (true, 17), (true, 18), (true, 19), (true, 20)] (iX5_sweep aS aO cI cZ P_size P_uppers P_lowers q6_0 q6_1 q6_2 q6_3 q6_4 q6_5 q6_6 q6_7 q6_8 q6_9 q6_10 O_layers O_size q6_11 q6_12 q6_13) rfl rfl rfl rfl rfl 5 0 rfl rfl rfl rfl hl.1 rfl (Nat.le_of_ble_eq_true rfl) dX5_sweep_38 ⟨Nat.zero_le _, Nat.zero_le _⟩ (fun H locs hP hD hS => ?_)
        refine lv_iinc (v := (x2_5 + (-1))) (lv' := [(2, .int (x2_5 + (-1))), (0, .ref (aS 19)), (1, .ref (aO 0))]) hx hb dX5_sweep_41 hl (k := 2) rfl rfl (by decide) rfl (fun ls hl => ?_)
        refine lv_goto (tgt := 30) hx hb dX5_sweep_44 (by decide) ?_
        exact hin _ (Option.some.inj hF).symm H locs ls hP hD hS (lv_sub hl [1, 2, 0] rfl)
    exact L5 ((q4 - 2), u1_0, u1_1, u1_2, u1_3, u1_4, u1_5, u1_6, u1_7, u1_8, u1_9, u1_10, u1_11, u1_12, u1_13) hc5 H locs ls hP hD hS (lv_sub hl [1, 2, 0] rfl)
  have L1 : ∀ st : Int32 × (Nat → Int32) × (Nat → Int32) × (Nat → Int32) × (Nat → Int32) × (Nat → Int32) × (Nat → Int32) × (Nat → Int32) × (Nat → Int32) × (Nat → Int32) × (Nat → Int32) × Int32 × (Nat → Int32) × (Nat → Int32) × (Nat → Int32), q_lo (fun (st : Int32 × (Nat → Int32) × (Nat → Int32) × (Nat → Int32) × (Nat → Int32) × (Nat → Int32) × (Nat → Int32) × (Nat → Int32) × (Nat → Int32) × (Nat → Int32) × (Nat → Int32) × Int32 × (Nat → Int32) × (Nat → Int32) × (Nat → Int32)) => bX5_sweep_2 P_size P_uppers P_lowers O_layers O_size st.1 st.2.1 st.2.2.1 st.2.2.2.1 st.2.2.2.2.1 st.2.2.2.2.2.1 st.2.2.2.2.2.2.1 st.2.2.2.2.2.2.2.1 st.2.2.2.2.2.2.2.2.1 st.2.2.2.2.2.2.2.2.2.1 st.2.2.2.2.2.2.2.2.2.2.1 st.2.2.2.2.2.2.2.2.2.2.2.1 st.2.2.2.2.2.2.2.2.2.2.2.2.1 st.2.2.2.2.2.2.2.2.2.2.2.2.2.1 st.2.2.2.2.2.2.2.2.2.2.2.2.2.2) st = some (q1_0, q1_1, q1_2, q1_3, q1_4, q1_5, q1_6, q1_7, q1_8, q1_9, q1_10, q1_11, q1_12, q1_13) → ∀ (H : Heap) (locs : List Loc) (ls : Array Slot), va_P (dC, dI) vwCl (iX5_sweep aS aO cI cZ P_size P_uppers P_lowers st.2.1 st.2.2.1 st.2.2.2.1 st.2.2.2.2.1 st.2.2.2.2.2.1 st.2.2.2.2.2.2.1 st.2.2.2.2.2.2.2.1 st.2.2.2.2.2.2.2.2.1 st.2.2.2.2.2.2.2.2.2.1 st.2.2.2.2.2.2.2.2.2.2.1 st.2.2.2.2.2.2.2.2.2.2.2.1 O_layers O_size st.2.2.2.2.2.2.2.2.2.2.2.2.1 st.2.2.2.2.2.2.2.2.2.2.2.2.2.1 st.2.2.2.2.2.2.2.2.2.2.2.2.2.2) H → va_D A (iX5_sweep aS aO cI cZ P_size P_uppers P_lowers st.2.1 st.2.2.1 st.2.2.2.1 st.2.2.2.2.1 st.2.2.2.2.2.1 st.2.2.2.2.2.2.1 st.2.2.2.2.2.2.2.1 st.2.2.2.2.2.2.2.2.1 st.2.2.2.2.2.2.2.2.2.1 st.2.2.2.2.2.2.2.2.2.2.1 st.2.2.2.2.2.2.2.2.2.2.2.1 O_layers O_size st.2.2.2.2.2.2.2.2.2.2.2.2.1 st.2.2.2.2.2.2.2.2.2.2.2.2.2.1 st.2.2.2.2.2.2.2.2.2.2.2.2.2.2) → va_S A s.heap H locs → lv_has ls 3 [(0, .ref (aS 19)), (1, .ref (aO 0)), (2, .int st.1)] → W p l e (headSpec wsX5_sweep (rX5_sweep)).room s m args below meth c H locs 0 0 Q (F0 m 2 ls []) := by
    intro st hst
    refine q_walk (Wh := fun st : Int32 × (Nat → Int32) × (Nat → Int32) × (Nat → Int32) × (Nat → Int32) × (Nat → Int32) × (Nat → Int32) × (Nat → Int32) × (Nat → Int32) × (Nat → Int32) × (Nat → Int32) × Int32 × (Nat → Int32) × (Nat → Int32) × (Nat → Int32) => ∀ (H : Heap) (locs : List Loc) (ls : Array Slot), va_P (dC, dI) vwCl (iX5_sweep aS aO cI cZ P_size P_uppers P_lowers st.2.1 st.2.2.1 st.2.2.2.1 st.2.2.2.2.1 st.2.2.2.2.2.1 st.2.2.2.2.2.2.1 st.2.2.2.2.2.2.2.1 st.2.2.2.2.2.2.2.2.1 st.2.2.2.2.2.2.2.2.2.1 st.2.2.2.2.2.2.2.2.2.2.1 st.2.2.2.2.2.2.2.2.2.2.2.1 O_layers O_size st.2.2.2.2.2.2.2.2.2.2.2.2.1 st.2.2.2.2.2.2.2.2.2.2.2.2.2.1 st.2.2.2.2.2.2.2.2.2.2.2.2.2.2) H → va_D A (iX5_sweep aS aO cI cZ P_size P_uppers P_lowers st.2.1 st.2.2.1 st.2.2.2.1 st.2.2.2.2.1 st.2.2.2.2.2.1 st.2.2.2.2.2.2.1 st.2.2.2.2.2.2.2.1 st.2.2.2.2.2.2.2.2.1 st.2.2.2.2.2.2.2.2.2.1 st.2.2.2.2.2.2.2.2.2.2.1 st.2.2.2.2.2.2.2.2.2.2.2.1 O_layers O_size st.2.2.2.2.2.2.2.2.2.2.2.2.1 st.2.2.2.2.2.2.2.2.2.2.2.2.2.1 st.2.2.2.2.2.2.2.2.2.2.2.2.2.2) → va_S A s.heap H locs → lv_has ls 3 [(0, .ref (aS 19)), (1, .ref (aO 0)), (2, .int st.1)] → W p l e (headSpec wsX5_sweep (rX5_sweep)).room s m args below meth c H locs 0 0 Q (F0 m 2 ls [])) ?_ st hst
    clear hst st hF
    intro st o hF hin hex H locs ls hP hD hS hl
    obtain ⟨x2_1, X_upper_1, X_lower_1, Q_own_1, Q_far_1, Q_degree_1, Q_seen_1, Q_median_1, Q_stood_1, Q_sorted_1, Q_spots_1, Q_movers_1, O_rows_1, O_places_1, O_home_1⟩ := st
    replace hF : bX5_sweep_2 P_size P_uppers P_lowers O_layers O_size x2_1 X_upper_1 X_lower_1 Q_own_1 Q_far_1 Q_degree_1 Q_seen_1 Q_median_1 Q_stood_1 Q_sorted_1 Q_spots_1 Q_movers_1 O_rows_1 O_places_1 O_home_1 = some o := hF
    replace hP : va_P (dC, dI) vwCl (iX5_sweep aS aO cI cZ P_size P_uppers P_lowers X_upper_1 X_lower_1 Q_own_1 Q_far_1 Q_degree_1 Q_seen_1 Q_median_1 Q_stood_1 Q_sorted_1 Q_spots_1 Q_movers_1 O_layers O_size O_rows_1 O_places_1 O_home_1) H := hP
    replace hD : va_D A (iX5_sweep aS aO cI cZ P_size P_uppers P_lowers X_upper_1 X_lower_1 Q_own_1 Q_far_1 Q_degree_1 Q_seen_1 Q_median_1 Q_stood_1 Q_sorted_1 Q_spots_1 Q_movers_1 O_layers O_size O_rows_1 O_places_1 O_home_1) := hD
    replace hl : lv_has ls 3 [(0, .ref (aS 19)), (1, .ref (aO 0)), (2, .int x2_1)] := hl
    unfold bX5_sweep_2 at hF
    refine lv_iload_n hx hb dX5_sweep_2 rfl (lv_at hl 2 rfl) ?_
    refine lv_aload_n hx hb dX5_sweep_3 rfl (lv_at hl 1 rfl) ?_
    obtain ⟨q2, hcq2, hF⟩ := q_bd hF
    refine q_Vi (As := []) (rest := [.int x2_1]) ⟨hx, hb, hml, hown, hts⟩ hA hK hP hD hS (tX4_layers l dC dI cI cZ aO H.size O_layers q2 hcq2) (cwV 0 hts gX5_sweep_X4_layers rfl rfl rfl uX4_layers ⟨Nat.le_of_ble_eq_true rfl, Nat.le_of_ble_eq_true rfl⟩) [16] [(false, 0), (false, 1), (false, 2), (false, 3), (false, 4), (false, 5), (false, 6), (false, 7), (false, 8), (false, 9), (false, 10), (false, 11), (false, 12), (false, 13), (false, 14), (false, 15), (true, 0), (false, 17), (false, 18), (false, 19), (false, 20)] (iX5_sweep aS aO cI cZ P_size P_uppers P_lowers X_upper_1 X_lower_1 Q_own_1 Q_far_1 Q_degree_1 Q_seen_1 Q_median_1 Q_stood_1 Q_sorted_1 Q_spots_1 Q_movers_1 O_layers O_size O_rows_1 O_places_1 O_home_1) rfl rfl rfl rfl rfl 4 0 rfl rfl rfl rfl hl.1 rfl (Nat.le_of_ble_eq_true rfl) dX5_sweep_4 ⟨Nat.zero_le _, Nat.zero_le _⟩ (fun H locs hP hD hS => ?_)
    refine lv_icmp_ge (tgt := 23) hx hb dX5_sweep_7 (by decide) (fun hc => ?_) (fun hc => ?_)
    · replace hF := q_t hc hF
      exact X1 _ _ _ _ _ _ _ _ _ _ _ _ _ _ (hex _ (Option.some.inj hF).symm) H locs ls hP hD hS (lv_sub hl [0, 1] rfl)
    · replace hF := q_f hc hF
      refine lv_aload_n hx hb dX5_sweep_10 rfl (lv_at hl 0 rfl) ?_
      refine lv_aload_n hx hb dX5_sweep_11 rfl (lv_at hl 1 rfl) ?_
      refine lv_iload_n hx hb dX5_sweep_12 rfl (lv_at hl 2 rfl) ?_
      refine lv_iconst (v := 1) hx hb dX5_sweep_13 (by decide) ?_
      obtain ⟨q3_0, q3_1, q3_2, q3_3, q3_4, q3_5, q3_6, q3_7, q3_8, q3_9, q3_10, q3_11, q3_12, q3_13, hcq3, hF⟩ := q_bd14 hF
      refine q_Vv (As := [.ref (aO 0), .int x2_1, .int 1]) (rest := []) ⟨hx, hb, hml, hown, hts⟩ hA hK hP hD hS (tX5_step l dC dI cI cZ aS aO H.size P_size P_uppers P_lowers X_upper_1 X_lower_1 Q_own_1 Q_far_1 Q_degree_1 Q_seen_1 Q_median_1 Q_stood_1 Q_sorted_1 Q_spots_1 Q_movers_1 O_layers O_size O_rows_1 O_places_1 O_home_1 x2_1 1 (q3_0, q3_1, q3_2, q3_3, q3_4, q3_5, q3_6, q3_7, q3_8, q3_9, q3_10, q3_11, q3_12, q3_13) hcq3) (cwV 3 hts gX5_sweep_X5_step rfl rfl rfl uX5_step ⟨Nat.le_of_ble_eq_true rfl, Nat.le_of_ble_eq_true rfl⟩) [0, 1, 2, 3, 4, 5, 6, 7, 8, 9, 10, 11, 12, 13, 14, 15, 16, 17, 18, 19, 20] [(true, 0), (true, 1), (true, 2), (true, 3), (true, 4), (true, 5), (true, 6), (true, 7), (true, 8), (true, 9), (true, 10), (true, 11), (true, 12), (true, 13), (true, 14), (true, 15), (true, 16), (true, 17), (true, 18), (true, 19), (true, 20)] (iX5_sweep aS aO cI cZ P_size P_uppers P_lowers q3_0 q3_1 q3_2 q3_3 q3_4 q3_5 q3_6 q3_7 q3_8 q3_9 q3_10 O_layers O_size q3_11 q3_12 q3_13) rfl rfl rfl rfl rfl 5 0 rfl rfl rfl rfl hl.1 rfl (Nat.le_of_ble_eq_true rfl) dX5_sweep_14 ⟨Nat.zero_le _, Nat.zero_le _⟩ (fun H locs hP hD hS => ?_)
      refine lv_iinc (v := (x2_1 + 1)) (lv' := [(2, .int (x2_1 + 1)), (0, .ref (aS 19)), (1, .ref (aO 0))]) hx hb dX5_sweep_17 hl (k := 2) rfl rfl (by decide) rfl (fun ls hl => ?_)
      refine lv_goto (tgt := 2) hx hb dX5_sweep_20 (by decide) ?_
      exact hin _ (Option.some.inj hF).symm H locs ls hP hD hS (lv_sub hl [1, 2, 0] rfl)
  exact L1 (1, X_upper, X_lower, Q_own, Q_far, Q_degree, Q_seen, Q_median, Q_stood, Q_sorted, Q_spots, Q_movers, O_rows, O_places, O_home) hc1 H locs ls hP hD hS (lv_sub hl [1, 2, 0] rfl)
abbrev rX5_improve : Room := { frames := 11, cells := 0, slots := 0, locals := 326 }
theorem eX5_improve_X5 : ∀ w ∈ u_ws RX5 TX5 12, w ∈ wsX5_improve := by decide +kernel
theorem uX5_improve : yX5_improve.cls = RX5 ∧ yX5_improve.cls ≠ "java/lang/invoke/MethodHandle" ∧ yX5_improve.cls ≠ "java/lang/invoke/VarHandle" ∧ (parseMethodDescriptor yX5_improve.desc).map (fun d => d.parameters.length) = some 2 := by decide +kernel
set_option maxHeartbeats 4000000 in
set_option maxRecDepth 100000 in
theorem tX5_improve (l : Launch) (dC : Nat → ClassId) (dI : Nat → Nat → Nat) (cI cZ : ClassId) (aS : Nat → Nat) (aO : Nat → Nat) (sz : Nat) (P_size : Nat → Int32) (P_uppers : Nat → Int32) (P_lowers : Nat → Int32) (X_upper : Nat → Int32) (X_lower : Nat → Int32) (Q_own : Nat → Int32) (Q_far : Nat → Int32) (Q_degree : Nat → Int32) (Q_seen : Nat → Int32) (Q_median : Nat → Int32) (Q_stood : Nat → Int32) (Q_sorted : Nat → Int32) (Q_spots : Nat → Int32) (Q_movers : Int32) (B_cost : Nat → Int32) (B_above : Nat → Int32) (B_below : Nat → Int32) (B_codes : Nat → Int32) (B_used : Nat → Int32) (B_chosen : Nat → Int32) (B_best : Nat → Int32) (B_bestCost : Int32) (B_size : Int32) (O_layers : Int32) (O_size : Nat → Int32) (O_rows : Nat → Int32) (O_places : Nat → Int32) (O_home : Nat → Int32) (p1 : Int32) (res : (Nat → Int32) × (Nat → Int32) × (Nat → Int32) × (Nat → Int32) × (Nat → Int32) × (Nat → Int32) × (Nat → Int32) × (Nat → Int32) × (Nat → Int32) × (Nat → Int32) × Int32 × (Nat → Int32) × (Nat → Int32) × (Nat → Int32) × (Nat → Int32) × (Nat → Int32) × (Nat → Int32) × (Nat → Int32) × Int32 × Int32 × (Nat → Int32) × (Nat → Int32) × (Nat → Int32)) (hF : fX5_improve P_size P_uppers P_lowers X_upper X_lower Q_own Q_far Q_degree Q_seen Q_median Q_stood Q_sorted Q_spots Q_movers B_cost B_above B_below B_codes B_used B_chosen B_best B_bestCost B_size O_layers O_size O_rows O_places O_home p1 = some res) : q_Mv l yX5_improve wsX5_improve rX5_improve (dC, dI) (q_ty cI cZ) [.ref (aS 19), .ref (aO 0), .int p1] (iX5_improve aS aO cI cZ P_size P_uppers P_lowers X_upper X_lower Q_own Q_far Q_degree Q_seen Q_median Q_stood Q_sorted Q_spots Q_movers B_cost B_above B_below B_codes B_used B_chosen B_best B_bestCost B_size O_layers O_size O_rows O_places O_home) (iX5_improve aS aO cI cZ P_size P_uppers P_lowers res.1 res.2.1 res.2.2.1 res.2.2.2.1 res.2.2.2.2.1 res.2.2.2.2.2.1 res.2.2.2.2.2.2.1 res.2.2.2.2.2.2.2.1 res.2.2.2.2.2.2.2.2.1 res.2.2.2.2.2.2.2.2.2.1 res.2.2.2.2.2.2.2.2.2.2.1 res.2.2.2.2.2.2.2.2.2.2.2.1 res.2.2.2.2.2.2.2.2.2.2.2.2.1 res.2.2.2.2.2.2.2.2.2.2.2.2.2.1 res.2.2.2.2.2.2.2.2.2.2.2.2.2.2.1 res.2.2.2.2.2.2.2.2.2.2.2.2.2.2.2.1 res.2.2.2.2.2.2.2.2.2.2.2.2.2.2.2.2.1 res.2.2.2.2.2.2.2.2.2.2.2.2.2.2.2.2.2.1 res.2.2.2.2.2.2.2.2.2.2.2.2.2.2.2.2.2.2.1 res.2.2.2.2.2.2.2.2.2.2.2.2.2.2.2.2.2.2.2.1 O_layers O_size res.2.2.2.2.2.2.2.2.2.2.2.2.2.2.2.2.2.2.2.2.1 res.2.2.2.2.2.2.2.2.2.2.2.2.2.2.2.2.2.2.2.2.2.1 res.2.2.2.2.2.2.2.2.2.2.2.2.2.2.2.2.2.2.2.2.2.2) sz := by
  refine q_metv (cc := cX5_improve) (maxL := 4) (by decide) rfl (Nat.le_of_ble_eq_true rfl) ?_
  intro p e s m args below meth c Q A H locs ls C hP hD hS hl hret
  obtain ⟨hx, hb, hml, hown, hts, hA, hK⟩ := C
  replace hl : lv_has ls 4 [(0, .ref (aS 19)), (1, .ref (aO 0)), (2, .int p1)] := hl
  have k0 := hts (.fieldLink RX5 49 "RouteLayout$Orderer" "bestRow" "LRouteLayout$BestRow;") (by decide +kernel)
  unfold fX5_improve at hF
  refine lv_iconst (v := 0) hx hb dX5_improve_0 (by decide) ?_
  refine lv_istore_n (lv' := [(3, .int 0), (0, .ref (aS 19)), (1, .ref (aO 0)), (2, .int p1)]) hx hb dX5_improve_1 rfl hl (by decide) rfl (fun ls hl => ?_)
  obtain ⟨q1_0, q1_1, q1_2, q1_3, q1_4, q1_5, q1_6, q1_7, q1_8, q1_9, q1_10, q1_11, q1_12, q1_13, hc1, hF⟩ := q_bd14 hF
  have X1 : ∀ (u1_0 : Nat → Int32) (u1_1 : Nat → Int32) (u1_2 : Nat → Int32) (u1_3 : Nat → Int32) (u1_4 : Nat → Int32) (u1_5 : Nat → Int32) (u1_6 : Nat → Int32) (u1_7 : Nat → Int32) (u1_8 : Nat → Int32) (u1_9 : Nat → Int32) (u1_10 : Int32) (u1_11 : Nat → Int32) (u1_12 : Nat → Int32) (u1_13 : Nat → Int32), (u1_0, u1_1, u1_2, u1_3, u1_4, u1_5, u1_6, u1_7, u1_8, u1_9, u1_10, u1_11, u1_12, u1_13) = (q1_0, q1_1, q1_2, q1_3, q1_4, q1_5, q1_6, q1_7, q1_8, q1_9, q1_10, q1_11, q1_12, q1_13) → ∀ (H : Heap) (locs : List Loc) (ls : Array Slot), va_P (dC, dI) vwCl (iX5_improve aS aO cI cZ P_size P_uppers P_lowers u1_0 u1_1 u1_2 u1_3 u1_4 u1_5 u1_6 u1_7 u1_8 u1_9 u1_10 B_cost B_above B_below B_codes B_used B_chosen B_best B_bestCost B_size O_layers O_size u1_11 u1_12 u1_13) H → va_D A (iX5_improve aS aO cI cZ P_size P_uppers P_lowers u1_0 u1_1 u1_2 u1_3 u1_4 u1_5 u1_6 u1_7 u1_8 u1_9 u1_10 B_cost B_above B_below B_codes B_used B_chosen B_best B_bestCost B_size O_layers O_size u1_11 u1_12 u1_13) → va_S A s.heap H locs → lv_has ls 4 [(0, .ref (aS 19)), (1, .ref (aO 0))] → W p l e (headSpec wsX5_improve (rX5_improve)).room s m args below meth c H locs 0 0 Q (F0 m 18 ls []) := by
    intro u1_0 u1_1 u1_2 u1_3 u1_4 u1_5 u1_6 u1_7 u1_8 u1_9 u1_10 u1_11 u1_12 u1_13 hu H locs ls hP hD hS hl
    obtain ⟨e0, e1, e2, e3, e4, e5, e6, e7, e8, e9, e10, e11, e12, e13⟩ := q_inj14 hu
    subst e0 e1 e2 e3 e4 e5 e6 e7 e8 e9 e10 e11 e12 e13
    refine lv_iconst (v := 1) hx hb dX5_improve_18 (by decide) ?_
    refine lv_istore_n (lv' := [(3, .int 1), (0, .ref (aS 19)), (1, .ref (aO 0))]) hx hb dX5_improve_19 rfl hl (by decide) rfl (fun ls hl => ?_)
    obtain ⟨q3_0, q3_1, q3_2, q3_3, q3_4, q3_5, q3_6, q3_7, q3_8, q3_9, q3_10, q3_11, hc3, hF⟩ := q_bd12 hF
    have X3 : ∀ (u3_0 : Nat → Int32) (u3_1 : Nat → Int32) (u3_2 : Nat → Int32) (u3_3 : Nat → Int32) (u3_4 : Nat → Int32) (u3_5 : Nat → Int32) (u3_6 : Nat → Int32) (u3_7 : Int32) (u3_8 : Int32) (u3_9 : Nat → Int32) (u3_10 : Nat → Int32) (u3_11 : Nat → Int32), (u3_0, u3_1, u3_2, u3_3, u3_4, u3_5, u3_6, u3_7, u3_8, u3_9, u3_10, u3_11) = (q3_0, q3_1, q3_2, q3_3, q3_4, q3_5, q3_6, q3_7, q3_8, q3_9, q3_10, q3_11) → ∀ (H : Heap) (locs : List Loc) (ls : Array Slot), va_P (dC, dI) vwCl (iX5_improve aS aO cI cZ P_size P_uppers P_lowers u1_0 u1_1 u1_2 u1_3 u1_4 u1_5 u1_6 u1_7 u1_8 u1_9 u1_10 u3_0 u3_1 u3_2 u3_3 u3_4 u3_5 u3_6 u3_7 u3_8 O_layers O_size u3_9 u3_10 u3_11) H → va_D A (iX5_improve aS aO cI cZ P_size P_uppers P_lowers u1_0 u1_1 u1_2 u1_3 u1_4 u1_5 u1_6 u1_7 u1_8 u1_9 u1_10 u3_0 u3_1 u3_2 u3_3 u3_4 u3_5 u3_6 u3_7 u3_8 O_layers O_size u3_9 u3_10 u3_11) → va_S A s.heap H locs → lv_has ls 4 [] → W p l e (headSpec wsX5_improve (rX5_improve)).room s m args below meth c H locs 0 0 Q (F0 m 43 ls []) := by
      intro u3_0 u3_1 u3_2 u3_3 u3_4 u3_5 u3_6 u3_7 u3_8 u3_9 u3_10 u3_11 hu H locs ls hP hD hS hl
      obtain ⟨e0, e1, e2, e3, e4, e5, e6, e7, e8, e9, e10, e11⟩ := q_inj12 hu
      subst e0 e1 e2 e3 e4 e5 e6 e7 e8 e9 e10 e11
      exact hret H locs ls 43 _ dX5_improve_43 (congrArg (fun z : (Nat → Int32) × (Nat → Int32) × (Nat → Int32) × (Nat → Int32) × (Nat → Int32) × (Nat → Int32) × (Nat → Int32) × (Nat → Int32) × (Nat → Int32) × (Nat → Int32) × Int32 × (Nat → Int32) × (Nat → Int32) × (Nat → Int32) × (Nat → Int32) × (Nat → Int32) × (Nat → Int32) × (Nat → Int32) × Int32 × Int32 × (Nat → Int32) × (Nat → Int32) × (Nat → Int32) => (iX5_improve aS aO cI cZ P_size P_uppers P_lowers z.1 z.2.1 z.2.2.1 z.2.2.2.1 z.2.2.2.2.1 z.2.2.2.2.2.1 z.2.2.2.2.2.2.1 z.2.2.2.2.2.2.2.1 z.2.2.2.2.2.2.2.2.1 z.2.2.2.2.2.2.2.2.2.1 z.2.2.2.2.2.2.2.2.2.2.1 z.2.2.2.2.2.2.2.2.2.2.2.1 z.2.2.2.2.2.2.2.2.2.2.2.2.1 z.2.2.2.2.2.2.2.2.2.2.2.2.2.1 z.2.2.2.2.2.2.2.2.2.2.2.2.2.2.1 z.2.2.2.2.2.2.2.2.2.2.2.2.2.2.2.1 z.2.2.2.2.2.2.2.2.2.2.2.2.2.2.2.2.1 z.2.2.2.2.2.2.2.2.2.2.2.2.2.2.2.2.2.1 z.2.2.2.2.2.2.2.2.2.2.2.2.2.2.2.2.2.2.1 z.2.2.2.2.2.2.2.2.2.2.2.2.2.2.2.2.2.2.2.1 O_layers O_size z.2.2.2.2.2.2.2.2.2.2.2.2.2.2.2.2.2.2.2.2.1 z.2.2.2.2.2.2.2.2.2.2.2.2.2.2.2.2.2.2.2.2.2.1 z.2.2.2.2.2.2.2.2.2.2.2.2.2.2.2.2.2.2.2.2.2.2)) (Option.some.inj hF)) hP hD hS
    have L3 : ∀ st : Int32 × (Nat → Int32) × (Nat → Int32) × (Nat → Int32) × (Nat → Int32) × (Nat → Int32) × (Nat → Int32) × (Nat → Int32) × Int32 × Int32 × (Nat → Int32) × (Nat → Int32) × (Nat → Int32), q_lo (fun (st : Int32 × (Nat → Int32) × (Nat → Int32) × (Nat → Int32) × (Nat → Int32) × (Nat → Int32) × (Nat → Int32) × (Nat → Int32) × Int32 × Int32 × (Nat → Int32) × (Nat → Int32) × (Nat → Int32)) => bX5_improve_20 P_size P_uppers P_lowers O_layers O_size st.1 st.2.1 st.2.2.1 st.2.2.2.1 st.2.2.2.2.1 st.2.2.2.2.2.1 st.2.2.2.2.2.2.1 st.2.2.2.2.2.2.2.1 st.2.2.2.2.2.2.2.2.1 st.2.2.2.2.2.2.2.2.2.1 st.2.2.2.2.2.2.2.2.2.2.1 st.2.2.2.2.2.2.2.2.2.2.2.1 st.2.2.2.2.2.2.2.2.2.2.2.2) st = some (q3_0, q3_1, q3_2, q3_3, q3_4, q3_5, q3_6, q3_7, q3_8, q3_9, q3_10, q3_11) → ∀ (H : Heap) (locs : List Loc) (ls : Array Slot), va_P (dC, dI) vwCl (iX5_improve aS aO cI cZ P_size P_uppers P_lowers u1_0 u1_1 u1_2 u1_3 u1_4 u1_5 u1_6 u1_7 u1_8 u1_9 u1_10 st.2.1 st.2.2.1 st.2.2.2.1 st.2.2.2.2.1 st.2.2.2.2.2.1 st.2.2.2.2.2.2.1 st.2.2.2.2.2.2.2.1 st.2.2.2.2.2.2.2.2.1 st.2.2.2.2.2.2.2.2.2.1 O_layers O_size st.2.2.2.2.2.2.2.2.2.2.1 st.2.2.2.2.2.2.2.2.2.2.2.1 st.2.2.2.2.2.2.2.2.2.2.2.2) H → va_D A (iX5_improve aS aO cI cZ P_size P_uppers P_lowers u1_0 u1_1 u1_2 u1_3 u1_4 u1_5 u1_6 u1_7 u1_8 u1_9 u1_10 st.2.1 st.2.2.1 st.2.2.2.1 st.2.2.2.2.1 st.2.2.2.2.2.1 st.2.2.2.2.2.2.1 st.2.2.2.2.2.2.2.1 st.2.2.2.2.2.2.2.2.1 st.2.2.2.2.2.2.2.2.2.1 O_layers O_size st.2.2.2.2.2.2.2.2.2.2.1 st.2.2.2.2.2.2.2.2.2.2.2.1 st.2.2.2.2.2.2.2.2.2.2.2.2) → va_S A s.heap H locs → lv_has ls 4 [(0, .ref (aS 19)), (1, .ref (aO 0)), (3, .int st.1)] → W p l e (headSpec wsX5_improve (rX5_improve)).room s m args below meth c H locs 0 0 Q (F0 m 20 ls []) := by
      intro st hst
      refine q_walk (Wh := fun st : Int32 × (Nat → Int32) × (Nat → Int32) × (Nat → Int32) × (Nat → Int32) × (Nat → Int32) × (Nat → Int32) × (Nat → Int32) × Int32 × Int32 × (Nat → Int32) × (Nat → Int32) × (Nat → Int32) => ∀ (H : Heap) (locs : List Loc) (ls : Array Slot), va_P (dC, dI) vwCl (iX5_improve aS aO cI cZ P_size P_uppers P_lowers u1_0 u1_1 u1_2 u1_3 u1_4 u1_5 u1_6 u1_7 u1_8 u1_9 u1_10 st.2.1 st.2.2.1 st.2.2.2.1 st.2.2.2.2.1 st.2.2.2.2.2.1 st.2.2.2.2.2.2.1 st.2.2.2.2.2.2.2.1 st.2.2.2.2.2.2.2.2.1 st.2.2.2.2.2.2.2.2.2.1 O_layers O_size st.2.2.2.2.2.2.2.2.2.2.1 st.2.2.2.2.2.2.2.2.2.2.2.1 st.2.2.2.2.2.2.2.2.2.2.2.2) H → va_D A (iX5_improve aS aO cI cZ P_size P_uppers P_lowers u1_0 u1_1 u1_2 u1_3 u1_4 u1_5 u1_6 u1_7 u1_8 u1_9 u1_10 st.2.1 st.2.2.1 st.2.2.2.1 st.2.2.2.2.1 st.2.2.2.2.2.1 st.2.2.2.2.2.2.1 st.2.2.2.2.2.2.2.1 st.2.2.2.2.2.2.2.2.1 st.2.2.2.2.2.2.2.2.2.1 O_layers O_size st.2.2.2.2.2.2.2.2.2.2.1 st.2.2.2.2.2.2.2.2.2.2.2.1 st.2.2.2.2.2.2.2.2.2.2.2.2) → va_S A s.heap H locs → lv_has ls 4 [(0, .ref (aS 19)), (1, .ref (aO 0)), (3, .int st.1)] → W p l e (headSpec wsX5_improve (rX5_improve)).room s m args below meth c H locs 0 0 Q (F0 m 20 ls [])) ?_ st hst
      clear hst st hF
      intro st o hF hin hex H locs ls hP hD hS hl
      obtain ⟨x3_3, B_cost_3, B_above_3, B_below_3, B_codes_3, B_used_3, B_chosen_3, B_best_3, B_bestCost_3, B_size_3, O_rows_3, O_places_3, O_home_3⟩ := st
      replace hF : bX5_improve_20 P_size P_uppers P_lowers O_layers O_size x3_3 B_cost_3 B_above_3 B_below_3 B_codes_3 B_used_3 B_chosen_3 B_best_3 B_bestCost_3 B_size_3 O_rows_3 O_places_3 O_home_3 = some o := hF
      replace hP : va_P (dC, dI) vwCl (iX5_improve aS aO cI cZ P_size P_uppers P_lowers u1_0 u1_1 u1_2 u1_3 u1_4 u1_5 u1_6 u1_7 u1_8 u1_9 u1_10 B_cost_3 B_above_3 B_below_3 B_codes_3 B_used_3 B_chosen_3 B_best_3 B_bestCost_3 B_size_3 O_layers O_size O_rows_3 O_places_3 O_home_3) H := hP
      replace hD : va_D A (iX5_improve aS aO cI cZ P_size P_uppers P_lowers u1_0 u1_1 u1_2 u1_3 u1_4 u1_5 u1_6 u1_7 u1_8 u1_9 u1_10 B_cost_3 B_above_3 B_below_3 B_codes_3 B_used_3 B_chosen_3 B_best_3 B_bestCost_3 B_size_3 O_layers O_size O_rows_3 O_places_3 O_home_3) := hD
      replace hl : lv_has ls 4 [(0, .ref (aS 19)), (1, .ref (aO 0)), (3, .int x3_3)] := hl
      unfold bX5_improve_20 at hF
      refine lv_iload_n hx hb dX5_improve_20 rfl (lv_at hl 2 rfl) ?_
      refine lv_aload_n hx hb dX5_improve_21 rfl (lv_at hl 1 rfl) ?_
      obtain ⟨q4, hcq4, hF⟩ := q_bd hF
      refine q_Vi (As := []) (rest := [.int x3_3]) ⟨hx, hb, hml, hown, hts⟩ hA hK hP hD hS (tX4_layers l dC dI cI cZ aO H.size O_layers q4 hcq4) (cwV 0 hts gX5_improve_X4_layers rfl rfl rfl uX4_layers ⟨Nat.le_of_ble_eq_true rfl, Nat.le_of_ble_eq_true rfl⟩) [24] [(false, 0), (false, 1), (false, 2), (false, 3), (false, 4), (false, 5), (false, 6), (false, 7), (false, 8), (false, 9), (false, 10), (false, 11), (false, 12), (false, 13), (false, 14), (false, 15), (false, 16), (false, 17), (false, 18), (false, 19), (false, 20), (false, 21), (false, 22), (false, 23), (true, 0), (false, 25), (false, 26), (false, 27), (false, 28)] (iX5_improve aS aO cI cZ P_size P_uppers P_lowers u1_0 u1_1 u1_2 u1_3 u1_4 u1_5 u1_6 u1_7 u1_8 u1_9 u1_10 B_cost_3 B_above_3 B_below_3 B_codes_3 B_used_3 B_chosen_3 B_best_3 B_bestCost_3 B_size_3 O_layers O_size O_rows_3 O_places_3 O_home_3) rfl rfl rfl rfl rfl 4 0 rfl rfl rfl rfl hl.1 rfl (Nat.le_of_ble_eq_true rfl) dX5_improve_22 ⟨Nat.zero_le _, Nat.zero_le _⟩ (fun H locs hP hD hS => ?_)
      refine lv_icmp_ge (tgt := 43) hx hb dX5_improve_25 (by decide) (fun hc => ?_) (fun hc => ?_)
      · replace hF := q_t hc hF
        exact X3 _ _ _ _ _ _ _ _ _ _ _ _ (hex _ (Option.some.inj hF).symm) H locs ls hP hD hS (lv_sub hl [] rfl)
      · replace hF := q_f hc hF
        refine lv_aload_n hx hb dX5_improve_28 rfl (lv_at hl 0 rfl) ?_
        refine q_get (ci := 5) (C := RX5) (T := TX5) (N := 12) hx hb hts eX5_improve_X5 hown hK hP 0 rfl rfl 2 (Nat.le_of_ble_eq_true rfl) k0 rfl rfl dX5_improve_29 ?_
        refine lv_aload_n hx hb dX5_improve_32 rfl (lv_at hl 1 rfl) ?_
        refine lv_iload_n hx hb dX5_improve_33 rfl (lv_at hl 2 rfl) ?_
        obtain ⟨q5_0, q5_1, q5_2, q5_3, q5_4, q5_5, q5_6, q5_7, q5_8, q5_9, q5_10, q5_11, hcq5, hF⟩ := q_bd12 hF
        refine q_Vv (As := [.ref (aO 0), .int x3_3]) (rest := []) ⟨hx, hb, hml, hown, hts⟩ hA hK hP hD hS (tX0_arrange l dC dI cI cZ aS aO H.size P_size P_uppers P_lowers B_cost_3 B_above_3 B_below_3 B_codes_3 B_used_3 B_chosen_3 B_best_3 B_bestCost_3 B_size_3 O_layers O_size O_rows_3 O_places_3 O_home_3 x3_3 (q5_0, q5_1, q5_2, q5_3, q5_4, q5_5, q5_6, q5_7, q5_8, q5_9, q5_10, q5_11) hcq5) (cwV 2 hts gX5_improve_X0_arrange rfl rfl rfl uX0_arrange ⟨Nat.le_of_ble_eq_true rfl, Nat.le_of_ble_eq_true rfl⟩) [16, 1, 2, 3, 4, 17, 18, 19, 20, 21, 22, 23, 24, 25, 26, 27, 28] [(false, 0), (true, 1), (true, 2), (true, 3), (true, 4), (false, 5), (false, 6), (false, 7), (false, 8), (false, 9), (false, 10), (false, 11), (false, 12), (false, 13), (false, 14), (false, 15), (true, 0), (true, 5), (true, 6), (true, 7), (true, 8), (true, 9), (true, 10), (true, 11), (true, 12), (true, 13), (true, 14), (true, 15), (true, 16)] (iX5_improve aS aO cI cZ P_size P_uppers P_lowers u1_0 u1_1 u1_2 u1_3 u1_4 u1_5 u1_6 u1_7 u1_8 u1_9 u1_10 q5_0 q5_1 q5_2 q5_3 q5_4 q5_5 q5_6 q5_7 q5_8 O_layers O_size q5_9 q5_10 q5_11) rfl rfl rfl rfl rfl 0 0 rfl rfl rfl rfl hl.1 rfl (Nat.le_of_ble_eq_true rfl) dX5_improve_34 ⟨Nat.zero_le _, Nat.zero_le _⟩ (fun H locs hP hD hS => ?_)
        refine lv_iinc (v := (x3_3 + 1)) (lv' := [(3, .int (x3_3 + 1)), (0, .ref (aS 19)), (1, .ref (aO 0))]) hx hb dX5_improve_37 hl (k := 2) rfl rfl (by decide) rfl (fun ls hl => ?_)
        refine lv_goto (tgt := 20) hx hb dX5_improve_40 (by decide) ?_
        exact hin _ (Option.some.inj hF).symm H locs ls hP hD hS (lv_sub hl [1, 2, 0] rfl)
    exact L3 (1, B_cost, B_above, B_below, B_codes, B_used, B_chosen, B_best, B_bestCost, B_size, u1_11, u1_12, u1_13) hc3 H locs ls hP hD hS (lv_sub hl [1, 2, 0] rfl)
  have L1 : ∀ st : Int32 × (Nat → Int32) × (Nat → Int32) × (Nat → Int32) × (Nat → Int32) × (Nat → Int32) × (Nat → Int32) × (Nat → Int32) × (Nat → Int32) × (Nat → Int32) × (Nat → Int32) × Int32 × (Nat → Int32) × (Nat → Int32) × (Nat → Int32), q_lo (fun (st : Int32 × (Nat → Int32) × (Nat → Int32) × (Nat → Int32) × (Nat → Int32) × (Nat → Int32) × (Nat → Int32) × (Nat → Int32) × (Nat → Int32) × (Nat → Int32) × (Nat → Int32) × Int32 × (Nat → Int32) × (Nat → Int32) × (Nat → Int32)) => bX5_improve_2 P_size P_uppers P_lowers O_layers O_size p1 st.1 st.2.1 st.2.2.1 st.2.2.2.1 st.2.2.2.2.1 st.2.2.2.2.2.1 st.2.2.2.2.2.2.1 st.2.2.2.2.2.2.2.1 st.2.2.2.2.2.2.2.2.1 st.2.2.2.2.2.2.2.2.2.1 st.2.2.2.2.2.2.2.2.2.2.1 st.2.2.2.2.2.2.2.2.2.2.2.1 st.2.2.2.2.2.2.2.2.2.2.2.2.1 st.2.2.2.2.2.2.2.2.2.2.2.2.2.1 st.2.2.2.2.2.2.2.2.2.2.2.2.2.2) st = some (q1_0, q1_1, q1_2, q1_3, q1_4, q1_5, q1_6, q1_7, q1_8, q1_9, q1_10, q1_11, q1_12, q1_13) → ∀ (H : Heap) (locs : List Loc) (ls : Array Slot), va_P (dC, dI) vwCl (iX5_improve aS aO cI cZ P_size P_uppers P_lowers st.2.1 st.2.2.1 st.2.2.2.1 st.2.2.2.2.1 st.2.2.2.2.2.1 st.2.2.2.2.2.2.1 st.2.2.2.2.2.2.2.1 st.2.2.2.2.2.2.2.2.1 st.2.2.2.2.2.2.2.2.2.1 st.2.2.2.2.2.2.2.2.2.2.1 st.2.2.2.2.2.2.2.2.2.2.2.1 B_cost B_above B_below B_codes B_used B_chosen B_best B_bestCost B_size O_layers O_size st.2.2.2.2.2.2.2.2.2.2.2.2.1 st.2.2.2.2.2.2.2.2.2.2.2.2.2.1 st.2.2.2.2.2.2.2.2.2.2.2.2.2.2) H → va_D A (iX5_improve aS aO cI cZ P_size P_uppers P_lowers st.2.1 st.2.2.1 st.2.2.2.1 st.2.2.2.2.1 st.2.2.2.2.2.1 st.2.2.2.2.2.2.1 st.2.2.2.2.2.2.2.1 st.2.2.2.2.2.2.2.2.1 st.2.2.2.2.2.2.2.2.2.1 st.2.2.2.2.2.2.2.2.2.2.1 st.2.2.2.2.2.2.2.2.2.2.2.1 B_cost B_above B_below B_codes B_used B_chosen B_best B_bestCost B_size O_layers O_size st.2.2.2.2.2.2.2.2.2.2.2.2.1 st.2.2.2.2.2.2.2.2.2.2.2.2.2.1 st.2.2.2.2.2.2.2.2.2.2.2.2.2.2) → va_S A s.heap H locs → lv_has ls 4 [(0, .ref (aS 19)), (1, .ref (aO 0)), (2, .int p1), (3, .int st.1)] → W p l e (headSpec wsX5_improve (rX5_improve)).room s m args below meth c H locs 0 0 Q (F0 m 2 ls []) := by
    intro st hst
    refine q_walk (Wh := fun st : Int32 × (Nat → Int32) × (Nat → Int32) × (Nat → Int32) × (Nat → Int32) × (Nat → Int32) × (Nat → Int32) × (Nat → Int32) × (Nat → Int32) × (Nat → Int32) × (Nat → Int32) × Int32 × (Nat → Int32) × (Nat → Int32) × (Nat → Int32) => ∀ (H : Heap) (locs : List Loc) (ls : Array Slot), va_P (dC, dI) vwCl (iX5_improve aS aO cI cZ P_size P_uppers P_lowers st.2.1 st.2.2.1 st.2.2.2.1 st.2.2.2.2.1 st.2.2.2.2.2.1 st.2.2.2.2.2.2.1 st.2.2.2.2.2.2.2.1 st.2.2.2.2.2.2.2.2.1 st.2.2.2.2.2.2.2.2.2.1 st.2.2.2.2.2.2.2.2.2.2.1 st.2.2.2.2.2.2.2.2.2.2.2.1 B_cost B_above B_below B_codes B_used B_chosen B_best B_bestCost B_size O_layers O_size st.2.2.2.2.2.2.2.2.2.2.2.2.1 st.2.2.2.2.2.2.2.2.2.2.2.2.2.1 st.2.2.2.2.2.2.2.2.2.2.2.2.2.2) H → va_D A (iX5_improve aS aO cI cZ P_size P_uppers P_lowers st.2.1 st.2.2.1 st.2.2.2.1 st.2.2.2.2.1 st.2.2.2.2.2.1 st.2.2.2.2.2.2.1 st.2.2.2.2.2.2.2.1 st.2.2.2.2.2.2.2.2.1 st.2.2.2.2.2.2.2.2.2.1 st.2.2.2.2.2.2.2.2.2.2.1 st.2.2.2.2.2.2.2.2.2.2.2.1 B_cost B_above B_below B_codes B_used B_chosen B_best B_bestCost B_size O_layers O_size st.2.2.2.2.2.2.2.2.2.2.2.2.1 st.2.2.2.2.2.2.2.2.2.2.2.2.2.1 st.2.2.2.2.2.2.2.2.2.2.2.2.2.2) → va_S A s.heap H locs → lv_has ls 4 [(0, .ref (aS 19)), (1, .ref (aO 0)), (2, .int p1), (3, .int st.1)] → W p l e (headSpec wsX5_improve (rX5_improve)).room s m args below meth c H locs 0 0 Q (F0 m 2 ls [])) ?_ st hst
    clear hst st hF
    intro st o hF hin hex H locs ls hP hD hS hl
    obtain ⟨x3_1, X_upper_1, X_lower_1, Q_own_1, Q_far_1, Q_degree_1, Q_seen_1, Q_median_1, Q_stood_1, Q_sorted_1, Q_spots_1, Q_movers_1, O_rows_1, O_places_1, O_home_1⟩ := st
    replace hF : bX5_improve_2 P_size P_uppers P_lowers O_layers O_size p1 x3_1 X_upper_1 X_lower_1 Q_own_1 Q_far_1 Q_degree_1 Q_seen_1 Q_median_1 Q_stood_1 Q_sorted_1 Q_spots_1 Q_movers_1 O_rows_1 O_places_1 O_home_1 = some o := hF
    replace hP : va_P (dC, dI) vwCl (iX5_improve aS aO cI cZ P_size P_uppers P_lowers X_upper_1 X_lower_1 Q_own_1 Q_far_1 Q_degree_1 Q_seen_1 Q_median_1 Q_stood_1 Q_sorted_1 Q_spots_1 Q_movers_1 B_cost B_above B_below B_codes B_used B_chosen B_best B_bestCost B_size O_layers O_size O_rows_1 O_places_1 O_home_1) H := hP
    replace hD : va_D A (iX5_improve aS aO cI cZ P_size P_uppers P_lowers X_upper_1 X_lower_1 Q_own_1 Q_far_1 Q_degree_1 Q_seen_1 Q_median_1 Q_stood_1 Q_sorted_1 Q_spots_1 Q_movers_1 B_cost B_above B_below B_codes B_used B_chosen B_best B_bestCost B_size O_layers O_size O_rows_1 O_places_1 O_home_1) := hD
    replace hl : lv_has ls 4 [(0, .ref (aS 19)), (1, .ref (aO 0)), (2, .int p1), (3, .int x3_1)] := hl
    unfold bX5_improve_2 at hF
    refine lv_iload_n hx hb dX5_improve_2 rfl (lv_at hl 3 rfl) ?_
    refine lv_iload_n hx hb dX5_improve_3 rfl (lv_at hl 2 rfl) ?_
    refine lv_icmp_ge (tgt := 18) hx hb dX5_improve_4 (by decide) (fun hc => ?_) (fun hc => ?_)
    · replace hF := q_t hc hF
      exact X1 _ _ _ _ _ _ _ _ _ _ _ _ _ _ (hex _ (Option.some.inj hF).symm) H locs ls hP hD hS (lv_sub hl [0, 1] rfl)
    · replace hF := q_f hc hF
      refine lv_aload_n hx hb dX5_improve_7 rfl (lv_at hl 0 rfl) ?_
      refine lv_aload_n hx hb dX5_improve_8 rfl (lv_at hl 1 rfl) ?_
      obtain ⟨q2_0, q2_1, q2_2, q2_3, q2_4, q2_5, q2_6, q2_7, q2_8, q2_9, q2_10, q2_11, q2_12, q2_13, hcq2, hF⟩ := q_bd14 hF
      refine q_Vv (As := [.ref (aO 0)]) (rest := []) ⟨hx, hb, hml, hown, hts⟩ hA hK hP hD hS (tX5_sweep l dC dI cI cZ aS aO H.size P_size P_uppers P_lowers X_upper_1 X_lower_1 Q_own_1 Q_far_1 Q_degree_1 Q_seen_1 Q_median_1 Q_stood_1 Q_sorted_1 Q_spots_1 Q_movers_1 O_layers O_size O_rows_1 O_places_1 O_home_1 (q2_0, q2_1, q2_2, q2_3, q2_4, q2_5, q2_6, q2_7, q2_8, q2_9, q2_10, q2_11, q2_12, q2_13) hcq2) (cwV 1 hts gX5_improve_X5_sweep rfl rfl rfl uX5_sweep ⟨Nat.le_of_ble_eq_true rfl, Nat.le_of_ble_eq_true rfl⟩) [0, 1, 2, 3, 4, 5, 6, 7, 8, 9, 10, 11, 12, 13, 14, 15, 24, 25, 26, 27, 28] [(true, 0), (true, 1), (true, 2), (true, 3), (true, 4), (true, 5), (true, 6), (true, 7), (true, 8), (true, 9), (true, 10), (true, 11), (true, 12), (true, 13), (true, 14), (true, 15), (false, 16), (false, 17), (false, 18), (false, 19), (false, 20), (false, 21), (false, 22), (false, 23), (true, 16), (true, 17), (true, 18), (true, 19), (true, 20)] (iX5_improve aS aO cI cZ P_size P_uppers P_lowers q2_0 q2_1 q2_2 q2_3 q2_4 q2_5 q2_6 q2_7 q2_8 q2_9 q2_10 B_cost B_above B_below B_codes B_used B_chosen B_best B_bestCost B_size O_layers O_size q2_11 q2_12 q2_13) rfl rfl rfl rfl rfl 5 0 rfl rfl rfl rfl hl.1 rfl (Nat.le_of_ble_eq_true rfl) dX5_improve_9 ⟨Nat.zero_le _, Nat.zero_le _⟩ (fun H locs hP hD hS => ?_)
      refine lv_iinc (v := (x3_1 + 1)) (lv' := [(3, .int (x3_1 + 1)), (0, .ref (aS 19)), (1, .ref (aO 0)), (2, .int p1)]) hx hb dX5_improve_12 hl (k := 3) rfl rfl (by decide) rfl (fun ls hl => ?_)
      refine lv_goto (tgt := 2) hx hb dX5_improve_15 (by decide) ?_
      exact hin _ (Option.some.inj hF).symm H locs ls hP hD hS (lv_sub hl [1, 2, 3, 0] rfl)
  exact L1 (0, X_upper, X_lower, Q_own, Q_far, Q_degree, Q_seen, Q_median, Q_stood, Q_sorted, Q_spots, Q_movers, O_rows, O_places, O_home) hc1 H locs ls hP hD hS (lv_sub hl [1, 2, 3, 0] rfl)
