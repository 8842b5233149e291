/-! Written by wip/whole/gen.py: walks of X5_findMedians, X5_gatherMovers, X5_loadEnds, X5_sortMovers, X5_putMovers, X5_step. -/
abbrev rX5_findMedians : Room := { frames := 1, cells := 0, slots := 0, locals := 23 }
theorem eX5_findMedians_X5 : ∀ w ∈ u_ws RX5 TX5 12, w ∈ wsX5_findMedians := by decide +kernel
theorem uX5_findMedians : yX5_findMedians.cls = RX5 ∧ yX5_findMedians.cls ≠ "java/lang/invoke/MethodHandle" ∧ yX5_findMedians.cls ≠ "java/lang/invoke/VarHandle" ∧ (parseMethodDescriptor yX5_findMedians.desc).map (fun d => d.parameters.length) = some 1 := by decide +kernel
set_option maxHeartbeats 4000000 in
set_option maxRecDepth 100000 in
theorem tX5_findMedians (l : Launch) (dC : Nat → ClassId) (dI : Nat → Nat → Nat) (cI cZ : ClassId) (aS : Nat → Nat) (sz : Nat) (Q_own : Nat → Int32) (Q_far : Nat → Int32) (Q_degree : Nat → Int32) (Q_seen : Nat → Int32) (Q_median : Nat → Int32) (Q_movers : Int32) (p0 : Int32) (res : (Nat → Int32) × (Nat → Int32) × (Nat → Int32)) (hF : fX5_findMedians Q_own Q_far p0 = some res) : q_Mv l yX5_findMedians wsX5_findMedians rX5_findMedians (dC, dI) (q_ty cI cZ) [.ref (aS 19), .int p0] (iX5_findMedians aS cI cZ Q_own Q_far Q_degree Q_seen Q_median Q_movers) (iX5_findMedians aS cI cZ Q_own Q_far res.1 res.2.1 res.2.2 Q_movers) sz := by
  refine q_metv (cc := cX5_findMedians) (maxL := 4) (by decide) rfl (Nat.le_of_ble_eq_true rfl) ?_
  intro p e s m args below meth c Q A H locs ls C hP hD hS hl hret
  obtain ⟨hx, hb, hml, hown, hts, hA, hK⟩ := C
  replace hl : lv_has ls 4 [(0, .ref (aS 19)), (1, .int p0)] := hl
  have k0 := hts (.fieldLink RX5 18 "RouteLayout$Orderer" "degree" "[I") (by decide +kernel)
  have k1 := hts (.fieldLink RX5 21 "RouteLayout$Orderer" "seen" "[I") (by decide +kernel)
  have k2 := hts (.fieldLink RX5 24 "RouteLayout$Orderer" "median" "[I") (by decide +kernel)
  have k3 := hts (.fieldLink RX5 9 "RouteLayout$Orderer" "own" "[I") (by decide +kernel)
  have k4 := hts (.fieldLink RX5 15 "RouteLayout$Orderer" "far" "[I") (by decide +kernel)
  unfold fX5_findMedians at hF
  refine lv_aload_n hx hb dX5_findMedians_0 rfl (lv_at hl 0 rfl) ?_
  refine q_get (ci := 5) (C := RX5) (T := TX5) (N := 12) hx hb hts eX5_findMedians_X5 hown hK hP 0 rfl rfl 5 (Nat.le_of_ble_eq_true rfl) k0 rfl rfl dX5_findMedians_1 ?_
  refine lv_iconst (v := 0) hx hb dX5_findMedians_4 (by decide) ?_
  refine q_Sv (As := [.ref (aS 22), .int 0]) (rest := []) ⟨hx, hb, hml, hown, hts⟩ hA hK hP hD hS (tJ7_fill_53178 l dC dI cI cZ (aS 22) 40 H.size Q_degree 0 (by decide)) (va_cwS 2 hts gX5_findMedians_J7_fill_53178 rfl rfl rfl uJ7_fill_53178 ⟨Nat.le_of_ble_eq_true rfl, Nat.le_of_ble_eq_true rfl⟩) [3] [(false, 0), (false, 1), (false, 2), (true, 0), (false, 4), (false, 5)] (iX5_findMedians aS cI cZ Q_own Q_far (fun _ => 0) Q_seen Q_median Q_movers) rfl rfl rfl rfl rfl rfl hl.1 rfl (Nat.le_of_ble_eq_true rfl) dX5_findMedians_5 ⟨Nat.zero_le _, Nat.zero_le _⟩ (fun H locs hP hD hS => ?_)
  refine lv_aload_n hx hb dX5_findMedians_8 rfl (lv_at hl 0 rfl) ?_
  refine q_get (ci := 5) (C := RX5) (T := TX5) (N := 12) hx hb hts eX5_findMedians_X5 hown hK hP 0 rfl rfl 6 (Nat.le_of_ble_eq_true rfl) k1 rfl rfl dX5_findMedians_9 ?_
  refine lv_iconst (v := 0) hx hb dX5_findMedians_12 (by decide) ?_
  refine q_Sv (As := [.ref (aS 23), .int 0]) (rest := []) ⟨hx, hb, hml, hown, hts⟩ hA hK hP hD hS (tJ7_fill_53178 l dC dI cI cZ (aS 23) 40 H.size Q_seen 0 (by decide)) (va_cwS 2 hts gX5_findMedians_J7_fill_53178 rfl rfl rfl uJ7_fill_53178 ⟨Nat.le_of_ble_eq_true rfl, Nat.le_of_ble_eq_true rfl⟩) [4] [(false, 0), (false, 1), (false, 2), (false, 3), (true, 0), (false, 5)] (iX5_findMedians aS cI cZ Q_own Q_far (fun _ => 0) (fun _ => 0) Q_median Q_movers) rfl rfl rfl rfl rfl rfl hl.1 rfl (Nat.le_of_ble_eq_true rfl) dX5_findMedians_13 ⟨Nat.zero_le _, Nat.zero_le _⟩ (fun H locs hP hD hS => ?_)
  refine lv_aload_n hx hb dX5_findMedians_16 rfl (lv_at hl 0 rfl) ?_
  refine q_get (ci := 5) (C := RX5) (T := TX5) (N := 12) hx hb hts eX5_findMedians_X5 hown hK hP 0 rfl rfl 7 (Nat.le_of_ble_eq_true rfl) k2 rfl rfl dX5_findMedians_17 ?_
  refine lv_iconst (v := (-1)) hx hb dX5_findMedians_20 (by decide) ?_
  refine q_Sv (As := [.ref (aS 24), .int (-1)]) (rest := []) ⟨hx, hb, hml, hown, hts⟩ hA hK hP hD hS (tJ7_fill_53178 l dC dI cI cZ (aS 24) 40 H.size Q_median (-1) (by decide)) (va_cwS 2 hts gX5_findMedians_J7_fill_53178 rfl rfl rfl uJ7_fill_53178 ⟨Nat.le_of_ble_eq_true rfl, Nat.le_of_ble_eq_true rfl⟩) [5] [(false, 0), (false, 1), (false, 2), (false, 3), (false, 4), (true, 0)] (iX5_findMedians aS cI cZ Q_own Q_far (fun _ => 0) (fun _ => 0) (fun _ => (-1)) Q_movers) rfl rfl rfl rfl rfl rfl hl.1 rfl (Nat.le_of_ble_eq_true rfl) dX5_findMedians_21 ⟨Nat.zero_le _, Nat.zero_le _⟩ (fun H locs hP hD hS => ?_)
  refine lv_iconst (v := 0) hx hb dX5_findMedians_24 (by decide) ?_
  refine lv_istore_n (lv' := [(2, .int 0), (0, .ref (aS 19)), (1, .int p0)]) hx hb dX5_findMedians_25 rfl hl (by decide) rfl (fun ls hl => ?_)
  obtain ⟨q1, hc1, hF⟩ := q_bd hF
  have X1 : ∀ (u1 : Nat → Int32), u1 = q1 → ∀ (H : Heap) (locs : List Loc) (ls : Array Slot), va_P (dC, dI) vwCl (iX5_findMedians aS cI cZ Q_own Q_far u1 (fun _ => 0) (fun _ => (-1)) Q_movers) H → va_D A (iX5_findMedians aS cI cZ Q_own Q_far u1 (fun _ => 0) (fun _ => (-1)) Q_movers) → va_S A s.heap H locs → lv_has ls 4 [(0, .ref (aS 19)), (1, .int p0)] → W p l e (headSpec wsX5_findMedians (rX5_findMedians)).room s m args below meth c H locs 0 0 Q (F0 m 64 ls []) := by
    intro u1 hu H locs ls hP hD hS hl
    subst hu
    refine lv_iconst (v := 0) hx hb dX5_findMedians_64 (by decide) ?_
    refine lv_istore_n (lv' := [(2, .int 0), (0, .ref (aS 19)), (1, .int p0)]) hx hb dX5_findMedians_65 rfl hl (by decide) rfl (fun ls hl => ?_)
    obtain ⟨q8_0, q8_1, hc8, hF⟩ := q_bd2 hF
    have X8 : ∀ (u8_0 : Nat → Int32) (u8_1 : Nat → Int32), (u8_0, u8_1) = (q8_0, q8_1) → ∀ (H : Heap) (locs : List Loc) (ls : Array Slot), va_P (dC, dI) vwCl (iX5_findMedians aS cI cZ Q_own Q_far u1 u8_0 u8_1 Q_movers) H → va_D A (iX5_findMedians aS cI cZ Q_own Q_far u1 u8_0 u8_1 Q_movers) → va_S A s.heap H locs → lv_has ls 4 [] → W p l e (headSpec wsX5_findMedians (rX5_findMedians)).room s m args below meth c H locs 0 0 Q (F0 m 135 ls []) := by
      intro u8_0 u8_1 hu H locs ls hP hD hS hl
      obtain ⟨e0, e1⟩ := q_inj2 hu
      subst e0 e1
      exact hret H locs ls 135 _ dX5_findMedians_135 (congrArg (fun z : (Nat → Int32) × (Nat → Int32) × (Nat → Int32) => (iX5_findMedians aS cI cZ Q_own Q_far z.1 z.2.1 z.2.2 Q_movers)) (Option.some.inj hF)) hP hD hS
    have L8 : ∀ st : Int32 × (Nat → Int32) × (Nat → Int32), q_lo (fun (st : Int32 × (Nat → Int32) × (Nat → Int32)) => bX5_findMedians_66 Q_own Q_far u1 p0 st.1 st.2.1 st.2.2) st = some (q8_0, q8_1) → ∀ (H : Heap) (locs : List Loc) (ls : Array Slot), va_P (dC, dI) vwCl (iX5_findMedians aS cI cZ Q_own Q_far u1 st.2.1 st.2.2 Q_movers) H → va_D A (iX5_findMedians aS cI cZ Q_own Q_far u1 st.2.1 st.2.2 Q_movers) → va_S A s.heap H locs → lv_has ls 4 [(0, .ref (aS 19)), (1, .int p0), (2, .int st.1)] → W p l e (headSpec wsX5_findMedians (rX5_findMedians)).room s m args below meth c H locs 0 0 Q (F0 m 66 ls []) := by
      intro st hst
      refine q_walk (Wh := fun st : Int32 × (Nat → Int32) × (Nat → Int32) => ∀ (H : Heap) (locs : List Loc) (ls : Array Slot), va_P (dC, dI) vwCl (iX5_findMedians aS cI cZ Q_own Q_far u1 st.2.1 st.2.2 Q_movers) H → va_D A (iX5_findMedians aS cI cZ Q_own Q_far u1 st.2.1 st.2.2 Q_movers) → va_S A s.heap H locs → lv_has ls 4 [(0, .ref (aS 19)), (1, .int p0), (2, .int st.1)] → W p l e (headSpec wsX5_findMedians (rX5_findMedians)).room s m args below meth c H locs 0 0 Q (F0 m 66 ls [])) ?_ st hst
      clear hst st hF
      intro st o hF hin hex H locs ls hP hD hS hl
      obtain ⟨x2_8, Q_seen_8, Q_median_8⟩ := st
      replace hF : bX5_findMedians_66 Q_own Q_far u1 p0 x2_8 Q_seen_8 Q_median_8 = some o := hF
      replace hP : va_P (dC, dI) vwCl (iX5_findMedians aS cI cZ Q_own Q_far u1 Q_seen_8 Q_median_8 Q_movers) H := hP
      replace hD : va_D A (iX5_findMedians aS cI cZ Q_own Q_far u1 Q_seen_8 Q_median_8 Q_movers) := hD
      replace hl : lv_has ls 4 [(0, .ref (aS 19)), (1, .int p0), (2, .int x2_8)] := hl
      unfold bX5_findMedians_66 at hF
      have JX5_FINDMEDIANS_129 : ∀ (Q_seen_9 : Nat → Int32) (Q_median_9 : Nat → Int32) (x2_9 : Int32), jX5_findMedians_129 Q_seen_9 Q_median_9 p0 x2_9 = some o → ∀ (H : Heap) (locs : List Loc) (ls : Array Slot), va_P (dC, dI) vwCl (iX5_findMedians aS cI cZ Q_own Q_far u1 Q_seen_9 Q_median_9 Q_movers) H → va_D A (iX5_findMedians aS cI cZ Q_own Q_far u1 Q_seen_9 Q_median_9 Q_movers) → va_S A s.heap H locs → lv_has ls 4 [(0, .ref (aS 19)), (1, .int p0), (2, .int x2_9)] → W p l e (headSpec wsX5_findMedians (rX5_findMedians)).room s m args below meth c H locs 0 0 Q (F0 m 129 ls []) := by
        intro Q_seen_9 Q_median_9 x2_9 hF H locs ls hP hD hS hl
        unfold jX5_findMedians_129 at hF
        refine lv_iinc (v := (x2_9 + 1)) (lv' := [(2, .int (x2_9 + 1)), (0, .ref (aS 19)), (1, .int p0)]) hx hb dX5_findMedians_129 hl (k := 2) rfl rfl (by decide) rfl (fun ls hl => ?_)
        refine lv_goto (tgt := 66) hx hb dX5_findMedians_132 (by decide) ?_
        exact hin _ (Option.some.inj hF).symm H locs ls hP hD hS (lv_sub hl [1, 2, 0] rfl)
      have JX5_FINDMEDIANS_119 : ∀ (Q_seen_10 : Nat → Int32) (Q_median_10 : Nat → Int32) (x2_10 : Int32) (x3_10 : Int32), jX5_findMedians_119 Q_seen_10 Q_median_10 p0 x2_10 x3_10 = some o → ∀ (H : Heap) (locs : List Loc) (ls : Array Slot), va_P (dC, dI) vwCl (iX5_findMedians aS cI cZ Q_own Q_far u1 Q_seen_10 Q_median_10 Q_movers) H → va_D A (iX5_findMedians aS cI cZ Q_own Q_far u1 Q_seen_10 Q_median_10 Q_movers) → va_S A s.heap H locs → lv_has ls 4 [(0, .ref (aS 19)), (1, .int p0), (2, .int x2_10), (3, .int x3_10)] → W p l e (headSpec wsX5_findMedians (rX5_findMedians)).room s m args below meth c H locs 0 0 Q (F0 m 119 ls []) := by
        intro Q_seen_10 Q_median_10 x2_10 x3_10 hF H locs ls hP hD hS hl
        unfold jX5_findMedians_119 at hF
        refine lv_aload_n hx hb dX5_findMedians_119 rfl (lv_at hl 0 rfl) ?_
        refine q_get (ci := 5) (C := RX5) (T := TX5) (N := 12) hx hb hts eX5_findMedians_X5 hown hK hP 0 rfl rfl 6 (Nat.le_of_ble_eq_true rfl) k1 rfl rfl dX5_findMedians_120 ?_
        refine lv_iload_n hx hb dX5_findMedians_123 rfl (lv_at hl 3 rfl) ?_
        refine lv_dup2_11 hx hb dX5_findMedians_124 rfl rfl ?_
        obtain ⟨hn11, hF⟩ := q_ck hF
        refine va_iald hx hb hK hP 4 0 rfl rfl hn11 dX5_findMedians_125 ?_
        refine lv_iconst (v := 1) hx hb dX5_findMedians_126 (by decide) ?_
        refine lv_iadd hx hb dX5_findMedians_127 ?_
        obtain ⟨hn12, hF⟩ := q_ck hF
        refine q_iast hx hb hK hP hD hS 4 0 (iX5_findMedians aS cI cZ Q_own Q_far u1 (upd Q_seen_10 x3_10.toNatClampNeg ((Q_seen_10 x3_10.toNatClampNeg) + 1)) Q_median_10 Q_movers) rfl rfl hn12 rfl dX5_findMedians_128 (fun H locs hP hD hS => ?_)
        exact JX5_FINDMEDIANS_129 (upd Q_seen_10 x3_10.toNatClampNeg ((Q_seen_10 x3_10.toNatClampNeg) + 1)) Q_median_10 x2_10 hF H locs ls hP hD hS (lv_sub hl [0, 1, 2] rfl)
      refine lv_iload_n hx hb dX5_findMedians_66 rfl (lv_at hl 2 rfl) ?_
      refine lv_iload_n hx hb dX5_findMedians_67 rfl (lv_at hl 1 rfl) ?_
      refine lv_icmp_ge (tgt := 135) hx hb dX5_findMedians_68 (by decide) (fun hc => ?_) (fun hc => ?_)
      · replace hF := q_t hc hF
        exact X8 _ _ (hex _ (Option.some.inj hF).symm) H locs ls hP hD hS (lv_sub hl [] rfl)
      · replace hF := q_f hc hF
        refine lv_aload_n hx hb dX5_findMedians_71 rfl (lv_at hl 0 rfl) ?_
        refine q_get (ci := 5) (C := RX5) (T := TX5) (N := 12) hx hb hts eX5_findMedians_X5 hown hK hP 0 rfl rfl 3 (Nat.le_of_ble_eq_true rfl) k3 rfl rfl dX5_findMedians_72 ?_
        refine lv_iload_n hx hb dX5_findMedians_75 rfl (lv_at hl 2 rfl) ?_
        obtain ⟨hn13, hF⟩ := q_ck hF
        refine va_iald hx hb hK hP 1 0 rfl rfl hn13 dX5_findMedians_76 ?_
        refine lv_istore_n (lv' := [(3, .int (Q_own x2_8.toNatClampNeg)), (0, .ref (aS 19)), (1, .int p0), (2, .int x2_8)]) hx hb dX5_findMedians_77 rfl hl (by decide) rfl (fun ls hl => ?_)
        refine lv_iload_n hx hb dX5_findMedians_78 rfl (lv_at hl 0 rfl) ?_
        obtain ⟨q14, hcq14, hF⟩ := q_bd hF
        refine q_Si (As := [.int (Q_own x2_8.toNatClampNeg)]) (rest := []) ⟨hx, hb, hml, hown, hts⟩ hA hK hP hD hS (tX5_isCode l dC dI cI cZ H.size (Q_own x2_8.toNatClampNeg) q14 hcq14) (va_cwS 1 hts gX5_findMedians_X5_isCode rfl rfl rfl uX5_isCode ⟨Nat.le_of_ble_eq_true rfl, Nat.le_of_ble_eq_true rfl⟩) [] [(false, 0), (false, 1), (false, 2), (false, 3), (false, 4), (false, 5)] (iX5_findMedians aS cI cZ Q_own Q_far u1 Q_seen_8 Q_median_8 Q_movers) rfl rfl rfl rfl rfl rfl hl.1 rfl (Nat.le_of_ble_eq_true rfl) dX5_findMedians_79 ⟨Nat.zero_le _, Nat.zero_le _⟩ (fun H locs hP hD hS => ?_)
        refine lv_if_ne (tgt := 88) hx hb dX5_findMedians_82 (by decide) (fun hc => ?_) (fun hc => ?_)
        · replace hF := q_f hc hF
          refine lv_aload_n hx hb dX5_findMedians_88 rfl (lv_at hl 1 rfl) ?_
          refine q_get (ci := 5) (C := RX5) (T := TX5) (N := 12) hx hb hts eX5_findMedians_X5 hown hK hP 0 rfl rfl 6 (Nat.le_of_ble_eq_true rfl) k1 rfl rfl dX5_findMedians_89 ?_
          refine lv_iload_n hx hb dX5_findMedians_92 rfl (lv_at hl 0 rfl) ?_
          obtain ⟨hn15, hF⟩ := q_ck hF
          refine va_iald hx hb hK hP 4 0 rfl rfl hn15 dX5_findMedians_93 ?_
          refine lv_aload_n hx hb dX5_findMedians_94 rfl (lv_at hl 1 rfl) ?_
          refine q_get (ci := 5) (C := RX5) (T := TX5) (N := 12) hx hb hts eX5_findMedians_X5 hown hK hP 0 rfl rfl 5 (Nat.le_of_ble_eq_true rfl) k0 rfl rfl dX5_findMedians_95 ?_
          refine lv_iload_n hx hb dX5_findMedians_98 rfl (lv_at hl 0 rfl) ?_
          obtain ⟨hn16, hF⟩ := q_ck hF
          refine va_iald hx hb hK hP 3 0 rfl rfl hn16 dX5_findMedians_99 ?_
          refine lv_iconst (v := 1) hx hb dX5_findMedians_100 (by decide) ?_
          refine lv_isub hx hb dX5_findMedians_101 ?_
          refine lv_iconst (v := 2) hx hb dX5_findMedians_102 (by decide) ?_
          refine lv_idiv hx hb dX5_findMedians_103 (by decide) ?_
          refine lv_icmp_ne (tgt := 119) hx hb dX5_findMedians_104 (by decide) (fun hc => ?_) (fun hc => ?_)
          · replace hF := q_f hc hF
            exact JX5_FINDMEDIANS_119 Q_seen_8 Q_median_8 x2_8 (Q_own x2_8.toNatClampNeg) hF H locs ls hP hD hS (lv_sub hl [1, 2, 3, 0] rfl)
          · replace hF := q_t hc hF
            refine lv_aload_n hx hb dX5_findMedians_107 rfl (lv_at hl 1 rfl) ?_
            refine q_get (ci := 5) (C := RX5) (T := TX5) (N := 12) hx hb hts eX5_findMedians_X5 hown hK hP 0 rfl rfl 7 (Nat.le_of_ble_eq_true rfl) k2 rfl rfl dX5_findMedians_108 ?_
            refine lv_iload_n hx hb dX5_findMedians_111 rfl (lv_at hl 0 rfl) ?_
            refine lv_aload_n hx hb dX5_findMedians_112 rfl (lv_at hl 1 rfl) ?_
            refine q_get (ci := 5) (C := RX5) (T := TX5) (N := 12) hx hb hts eX5_findMedians_X5 hown hK hP 0 rfl rfl 4 (Nat.le_of_ble_eq_true rfl) k4 rfl rfl dX5_findMedians_113 ?_
            refine lv_iload_n hx hb dX5_findMedians_116 rfl (lv_at hl 3 rfl) ?_
            obtain ⟨hn17, hF⟩ := q_ck hF
            refine va_iald hx hb hK hP 2 0 rfl rfl hn17 dX5_findMedians_117 ?_
            obtain ⟨hn18, hF⟩ := q_ck hF
            refine q_iast hx hb hK hP hD hS 5 0 (iX5_findMedians aS cI cZ Q_own Q_far u1 Q_seen_8 (upd Q_median_8 (Q_own x2_8.toNatClampNeg).toNatClampNeg (Q_far x2_8.toNatClampNeg)) Q_movers) rfl rfl hn18 rfl dX5_findMedians_118 (fun H locs hP hD hS => ?_)
            exact JX5_FINDMEDIANS_119 Q_seen_8 (upd Q_median_8 (Q_own x2_8.toNatClampNeg).toNatClampNeg (Q_far x2_8.toNatClampNeg)) x2_8 (Q_own x2_8.toNatClampNeg) hF H locs ls hP hD hS (lv_sub hl [1, 2, 3, 0] rfl)
        · replace hF := q_t hc hF
          refine lv_goto (tgt := 129) hx hb dX5_findMedians_85 (by decide) ?_
          exact JX5_FINDMEDIANS_129 Q_seen_8 Q_median_8 x2_8 hF H locs ls hP hD hS (lv_sub hl [1, 2, 3] rfl)
    exact L8 (0, (fun _ => 0), (fun _ => (-1))) hc8 H locs ls hP hD hS (lv_sub hl [1, 2, 0] rfl)
  have L1 : ∀ st : Int32 × (Nat → Int32), q_lo (fun (st : Int32 × (Nat → Int32)) => bX5_findMedians_26 Q_own p0 st.1 st.2) st = some q1 → ∀ (H : Heap) (locs : List Loc) (ls : Array Slot), va_P (dC, dI) vwCl (iX5_findMedians aS cI cZ Q_own Q_far st.2 (fun _ => 0) (fun _ => (-1)) Q_movers) H → va_D A (iX5_findMedians aS cI cZ Q_own Q_far st.2 (fun _ => 0) (fun _ => (-1)) Q_movers) → va_S A s.heap H locs → lv_has ls 4 [(0, .ref (aS 19)), (1, .int p0), (2, .int st.1)] → W p l e (headSpec wsX5_findMedians (rX5_findMedians)).room s m args below meth c H locs 0 0 Q (F0 m 26 ls []) := by
    intro st hst
    refine q_walk (Wh := fun st : Int32 × (Nat → Int32) => ∀ (H : Heap) (locs : List Loc) (ls : Array Slot), va_P (dC, dI) vwCl (iX5_findMedians aS cI cZ Q_own Q_far st.2 (fun _ => 0) (fun _ => (-1)) Q_movers) H → va_D A (iX5_findMedians aS cI cZ Q_own Q_far st.2 (fun _ => 0) (fun _ => (-1)) Q_movers) → va_S A s.heap H locs → lv_has ls 4 [(0, .ref (aS 19)), (1, .int p0), (2, .int st.1)] → W p l e (headSpec wsX5_findMedians (rX5_findMedians)).room s m args below meth c H locs 0 0 Q (F0 m 26 ls [])) ?_ st hst
    clear hst st hF
    intro st o hF hin hex H locs ls hP hD hS hl
    obtain ⟨x2_1, Q_degree_1⟩ := st
    replace hF : bX5_findMedians_26 Q_own p0 x2_1 Q_degree_1 = some o := hF
    replace hP : va_P (dC, dI) vwCl (iX5_findMedians aS cI cZ Q_own Q_far Q_degree_1 (fun _ => 0) (fun _ => (-1)) Q_movers) H := hP
    replace hD : va_D A (iX5_findMedians aS cI cZ Q_own Q_far Q_degree_1 (fun _ => 0) (fun _ => (-1)) Q_movers) := hD
    replace hl : lv_has ls 4 [(0, .ref (aS 19)), (1, .int p0), (2, .int x2_1)] := hl
    unfold bX5_findMedians_26 at hF
    have JX5_FINDMEDIANS_58 : ∀ (Q_degree_2 : Nat → Int32) (x2_2 : Int32), jX5_findMedians_58 Q_degree_2 p0 x2_2 = some o → ∀ (H : Heap) (locs : List Loc) (ls : Array Slot), va_P (dC, dI) vwCl (iX5_findMedians aS cI cZ Q_own Q_far Q_degree_2 (fun _ => 0) (fun _ => (-1)) Q_movers) H → va_D A (iX5_findMedians aS cI cZ Q_own Q_far Q_degree_2 (fun _ => 0) (fun _ => (-1)) Q_movers) → va_S A s.heap H locs → lv_has ls 4 [(0, .ref (aS 19)), (1, .int p0), (2, .int x2_2)] → W p l e (headSpec wsX5_findMedians (rX5_findMedians)).room s m args below meth c H locs 0 0 Q (F0 m 58 ls []) := by
      intro Q_degree_2 x2_2 hF H locs ls hP hD hS hl
      unfold jX5_findMedians_58 at hF
      refine lv_iinc (v := (x2_2 + 1)) (lv' := [(2, .int (x2_2 + 1)), (0, .ref (aS 19)), (1, .int p0)]) hx hb dX5_findMedians_58 hl (k := 2) rfl rfl (by decide) rfl (fun ls hl => ?_)
      refine lv_goto (tgt := 26) hx hb dX5_findMedians_61 (by decide) ?_
      exact hin _ (Option.some.inj hF).symm H locs ls hP hD hS (lv_sub hl [1, 2, 0] rfl)
    refine lv_iload_n hx hb dX5_findMedians_26 rfl (lv_at hl 2 rfl) ?_
    refine lv_iload_n hx hb dX5_findMedians_27 rfl (lv_at hl 1 rfl) ?_
    refine lv_icmp_ge (tgt := 64) hx hb dX5_findMedians_28 (by decide) (fun hc => ?_) (fun hc => ?_)
    · replace hF := q_t hc hF
      exact X1 _ (hex _ (Option.some.inj hF).symm) H locs ls hP hD hS (lv_sub hl [0, 1] rfl)
    · replace hF := q_f hc hF
      refine lv_aload_n hx hb dX5_findMedians_31 rfl (lv_at hl 0 rfl) ?_
      refine q_get (ci := 5) (C := RX5) (T := TX5) (N := 12) hx hb hts eX5_findMedians_X5 hown hK hP 0 rfl rfl 3 (Nat.le_of_ble_eq_true rfl) k3 rfl rfl dX5_findMedians_32 ?_
      refine lv_iload_n hx hb dX5_findMedians_35 rfl (lv_at hl 2 rfl) ?_
      obtain ⟨hn3, hF⟩ := q_ck hF
      refine va_iald hx hb hK hP 1 0 rfl rfl hn3 dX5_findMedians_36 ?_
      obtain ⟨q4, hcq4, hF⟩ := q_bd hF
      refine q_Si (As := [.int (Q_own x2_1.toNatClampNeg)]) (rest := []) ⟨hx, hb, hml, hown, hts⟩ hA hK hP hD hS (tX5_isCode l dC dI cI cZ H.size (Q_own x2_1.toNatClampNeg) q4 hcq4) (va_cwS 1 hts gX5_findMedians_X5_isCode rfl rfl rfl uX5_isCode ⟨Nat.le_of_ble_eq_true rfl, Nat.le_of_ble_eq_true rfl⟩) [] [(false, 0), (false, 1), (false, 2), (false, 3), (false, 4), (false, 5)] (iX5_findMedians aS cI cZ Q_own Q_far Q_degree_1 (fun _ => 0) (fun _ => (-1)) Q_movers) rfl rfl rfl rfl rfl rfl hl.1 rfl (Nat.le_of_ble_eq_true rfl) dX5_findMedians_37 ⟨Nat.zero_le _, Nat.zero_le _⟩ (fun H locs hP hD hS => ?_)
      refine lv_if_eq (tgt := 58) hx hb dX5_findMedians_40 (by decide) (fun hc => ?_) (fun hc => ?_)
      · replace hF := q_t hc hF
        exact JX5_FINDMEDIANS_58 Q_degree_1 x2_1 hF H locs ls hP hD hS (lv_sub hl [0, 1, 2] rfl)
      · replace hF := q_f hc hF
        refine lv_aload_n hx hb dX5_findMedians_43 rfl (lv_at hl 0 rfl) ?_
        refine q_get (ci := 5) (C := RX5) (T := TX5) (N := 12) hx hb hts eX5_findMedians_X5 hown hK hP 0 rfl rfl 5 (Nat.le_of_ble_eq_true rfl) k0 rfl rfl dX5_findMedians_44 ?_
        refine lv_aload_n hx hb dX5_findMedians_47 rfl (lv_at hl 0 rfl) ?_
        refine q_get (ci := 5) (C := RX5) (T := TX5) (N := 12) hx hb hts eX5_findMedians_X5 hown hK hP 0 rfl rfl 3 (Nat.le_of_ble_eq_true rfl) k3 rfl rfl dX5_findMedians_48 ?_
        refine lv_iload_n hx hb dX5_findMedians_51 rfl (lv_at hl 2 rfl) ?_
        obtain ⟨hn5, hF⟩ := q_ck hF
        refine va_iald hx hb hK hP 1 0 rfl rfl hn5 dX5_findMedians_52 ?_
        refine lv_dup2_11 hx hb dX5_findMedians_53 rfl rfl ?_
        obtain ⟨hn6, hF⟩ := q_ck hF
        refine va_iald hx hb hK hP 3 0 rfl rfl hn6 dX5_findMedians_54 ?_
        refine lv_iconst (v := 1) hx hb dX5_findMedians_55 (by decide) ?_
        refine lv_iadd hx hb dX5_findMedians_56 ?_
        obtain ⟨hn7, hF⟩ := q_ck hF
        refine q_iast hx hb hK hP hD hS 3 0 (iX5_findMedians aS cI cZ Q_own Q_far (upd Q_degree_1 (Q_own x2_1.toNatClampNeg).toNatClampNeg ((Q_degree_1 (Q_own x2_1.toNatClampNeg).toNatClampNeg) + 1)) (fun _ => 0) (fun _ => (-1)) Q_movers) rfl rfl hn7 rfl dX5_findMedians_57 (fun H locs hP hD hS => ?_)
        exact JX5_FINDMEDIANS_58 (upd Q_degree_1 (Q_own x2_1.toNatClampNeg).toNatClampNeg ((Q_degree_1 (Q_own x2_1.toNatClampNeg).toNatClampNeg) + 1)) x2_1 hF H locs ls hP hD hS (lv_sub hl [0, 1, 2] rfl)
  exact L1 (0, (fun _ => 0)) hc1 H locs ls hP hD hS (lv_sub hl [1, 2, 0] rfl)
abbrev rX5_gatherMovers : Room := { frames := 2, cells := 0, slots := 0, locals := 44 }
theorem eX5_gatherMovers_X5 : ∀ w ∈ u_ws RX5 TX5 12, w ∈ wsX5_gatherMovers := by decide +kernel
theorem uX5_gatherMovers : yX5_gatherMovers.cls = RX5 ∧ yX5_gatherMovers.cls ≠ "java/lang/invoke/MethodHandle" ∧ yX5_gatherMovers.cls ≠ "java/lang/invoke/VarHandle" ∧ (parseMethodDescriptor yX5_gatherMovers.desc).map (fun d => d.parameters.length) = some 2 := by decide +kernel
set_option maxHeartbeats 4000000 in
set_option maxRecDepth 100000 in
theorem tX5_gatherMovers (l : Launch) (dC : Nat → ClassId) (dI : Nat → Nat → Nat) (cI cZ : ClassId) (aS : Nat → Nat) (aO : Nat → Nat) (sz : Nat) (Q_median : Nat → Int32) (Q_stood : Nat → Int32) (Q_spots : Nat → Int32) (Q_movers : Int32) (O_layers : Int32) (O_size : Nat → Int32) (O_rows : Nat → Int32) (p1 : Int32) (res : (Nat → Int32) × (Nat → Int32) × Int32) (hF : fX5_gatherMovers Q_median Q_stood Q_spots O_layers O_size O_rows p1 = some res) : q_Mv l yX5_gatherMovers wsX5_gatherMovers rX5_gatherMovers (dC, dI) (q_ty cI cZ) [.ref (aS 19), .ref (aO 0), .int p1] (iX5_gatherMovers aS aO cI cZ Q_median Q_stood Q_spots Q_movers O_layers O_size O_rows) (iX5_gatherMovers aS aO cI cZ Q_median res.1 res.2.1 res.2.2 O_layers O_size O_rows) sz := by
  refine q_metv (cc := cX5_gatherMovers) (maxL := 6) (by decide) rfl (Nat.le_of_ble_eq_true rfl) ?_
  intro p e s m args below meth c Q A H locs ls C hP hD hS hl hret
  obtain ⟨hx, hb, hml, hown, hts, hA, hK⟩ := C
  replace hl : lv_has ls 6 [(0, .ref (aS 19)), (1, .ref (aO 0)), (2, .int p1)] := hl
  have k0 := hts (.fieldLink RX5 53 "RouteLayout$Orderer" "movers" "I") (by decide +kernel)
  have k1 := hts (.methodLink RX5 106 Lib.Math.min.name) (by decide +kernel)
  have k2 := hts (.static Lib.Math.min.name) (by decide +kernel)
  have k3 := hts (.initialized "java/lang/Math") (by decide +kernel)
  have k4 := hts (.code Lib.Math.min.name Lib.Math.min.code 2 (some .int)) (by decide +kernel)
  have k5 := hts (.fieldLink RX5 24 "RouteLayout$Orderer" "median" "[I") (by decide +kernel)
  have k6 := hts (.fieldLink RX5 27 "RouteLayout$Orderer" "stood" "[I") (by decide +kernel)
  have k7 := hts (.fieldLink RX5 33 "RouteLayout$Orderer" "spots" "[I") (by decide +kernel)
  unfold fX5_gatherMovers at hF
  refine lv_aload_n hx hb dX5_gatherMovers_0 rfl (lv_at hl 0 rfl) ?_
  refine lv_iconst (v := 0) hx hb dX5_gatherMovers_1 (by decide) ?_
  refine q_put (ci := 5) (C := RX5) (T := TX5) (N := 12) (ty := .int) hx hb hts eX5_gatherMovers_X5 tyX5 tyX5_ok nmX5 hown hK hP hD hS 0 (iX5_gatherMovers aS aO cI cZ Q_median Q_stood Q_spots 0 O_layers O_size O_rows) rfl rfl 11 (Nat.le_of_ble_eq_true rfl) k0 rfl rfl (by decide +kernel) rfl rfl (Nat.le_of_ble_eq_true rfl) rfl dX5_gatherMovers_2 (fun H locs hP hD hS => ?_)
  refine lv_aload_n hx hb dX5_gatherMovers_5 rfl (lv_at hl 1 rfl) ?_
  refine lv_iload_n hx hb dX5_gatherMovers_6 rfl (lv_at hl 2 rfl) ?_
  obtain ⟨q1, hcq1, hF⟩ := q_bd hF
  refine q_Vi (As := [.int p1]) (rest := []) ⟨hx, hb, hml, hown, hts⟩ hA hK hP hD hS (tX4_sizeOf l dC dI cI cZ aO H.size O_layers O_size p1 q1 hcq1) (cwV 1 hts gX5_gatherMovers_X4_sizeOf rfl rfl rfl uX4_sizeOf ⟨Nat.le_of_ble_eq_true rfl, Nat.le_of_ble_eq_true rfl⟩) [4, 5] [(false, 0), (false, 1), (false, 2), (false, 3), (true, 0), (true, 1), (false, 6)] (iX5_gatherMovers aS aO cI cZ Q_median Q_stood Q_spots 0 O_layers O_size O_rows) rfl rfl rfl rfl rfl 4 0 rfl rfl rfl rfl hl.1 rfl (Nat.le_of_ble_eq_true rfl) dX5_gatherMovers_7 ⟨Nat.zero_le _, Nat.zero_le _⟩ (fun H locs hP hD hS => ?_)
  refine lv_bipush (v := 40) hx hb dX5_gatherMovers_10 (by decide) ?_
  refine va_mmin hx hb (hml.trans hl.1.symm) hown k1 k2 k3 k4 (Nat.le_of_ble_eq_true rfl) (Nat.le_of_ble_eq_true rfl) (Nat.zero_le _) (Nat.zero_le _) dX5_gatherMovers_12 ?_
  obtain ⟨v2, hv2, hF⟩ := q_letE hF
  refine q_top hv2 ?_
  refine lv_istore_n (lv' := [(3, .int v2), (0, .ref (aS 19)), (1, .ref (aO 0)), (2, .int p1)]) hx hb dX5_gatherMovers_15 rfl hl (by decide) rfl (fun ls hl => ?_)
  refine lv_iconst (v := 0) hx hb dX5_gatherMovers_16 (by decide) ?_
  refine lv_istore (lv' := [(4, .int 0), (3, .int v2), (0, .ref (aS 19)), (1, .ref (aO 0)), (2, .int p1)]) hx hb dX5_gatherMovers_17 hl (by decide) rfl (fun ls hl => ?_)
  obtain ⟨q3_0, q3_1, q3_2, hc3, hF⟩ := q_bd3 hF
  have X3 : ∀ (u3_0 : Nat → Int32) (u3_1 : Nat → Int32) (u3_2 : Int32), (u3_0, u3_1, u3_2) = (q3_0, q3_1, q3_2) → ∀ (H : Heap) (locs : List Loc) (ls : Array Slot), va_P (dC, dI) vwCl (iX5_gatherMovers aS aO cI cZ Q_median u3_0 u3_1 u3_2 O_layers O_size O_rows) H → va_D A (iX5_gatherMovers aS aO cI cZ Q_median u3_0 u3_1 u3_2 O_layers O_size O_rows) → va_S A s.heap H locs → lv_has ls 6 [] → W p l e (headSpec wsX5_gatherMovers (rX5_gatherMovers)).room s m args below meth c H locs 0 0 Q (F0 m 91 ls []) := by
    intro u3_0 u3_1 u3_2 hu H locs ls hP hD hS hl
    obtain ⟨e0, e1, e2⟩ := q_inj3 hu
    subst e0 e1 e2
    exact hret H locs ls 91 _ dX5_gatherMovers_91 (congrArg (fun z : (Nat → Int32) × (Nat → Int32) × Int32 => (iX5_gatherMovers aS aO cI cZ Q_median z.1 z.2.1 z.2.2 O_layers O_size O_rows)) (Option.some.inj hF)) hP hD hS
  have L3 : ∀ st : Int32 × (Nat → Int32) × (Nat → Int32) × Int32, q_lo (fun (st : Int32 × (Nat → Int32) × (Nat → Int32) × Int32) => bX5_gatherMovers_19 Q_median O_layers O_size O_rows p1 v2 st.1 st.2.1 st.2.2.1 st.2.2.2) st = some (q3_0, q3_1, q3_2) → ∀ (H : Heap) (locs : List Loc) (ls : Array Slot), va_P (dC, dI) vwCl (iX5_gatherMovers aS aO cI cZ Q_median st.2.1 st.2.2.1 st.2.2.2 O_layers O_size O_rows) H → va_D A (iX5_gatherMovers aS aO cI cZ Q_median st.2.1 st.2.2.1 st.2.2.2 O_layers O_size O_rows) → va_S A s.heap H locs → lv_has ls 6 [(0, .ref (aS 19)), (1, .ref (aO 0)), (2, .int p1), (3, .int v2), (4, .int st.1)] → W p l e (headSpec wsX5_gatherMovers (rX5_gatherMovers)).room s m args below meth c H locs 0 0 Q (F0 m 19 ls []) := by
    intro st hst
    refine q_walk (Wh := fun st : Int32 × (Nat → Int32) × (Nat → Int32) × Int32 => ∀ (H : Heap) (locs : List Loc) (ls : Array Slot), va_P (dC, dI) vwCl (iX5_gatherMovers aS aO cI cZ Q_median st.2.1 st.2.2.1 st.2.2.2 O_layers O_size O_rows) H → va_D A (iX5_gatherMovers aS aO cI cZ Q_median st.2.1 st.2.2.1 st.2.2.2 O_layers O_size O_rows) → va_S A s.heap H locs → lv_has ls 6 [(0, .ref (aS 19)), (1, .ref (aO 0)), (2, .int p1), (3, .int v2), (4, .int st.1)] → W p l e (headSpec wsX5_gatherMovers (rX5_gatherMovers)).room s m args below meth c H locs 0 0 Q (F0 m 19 ls [])) ?_ st hst
    clear hst st hF
    intro st o hF hin hex H locs ls hP hD hS hl
    obtain ⟨x4_3, Q_stood_3, Q_spots_3, Q_movers_3⟩ := st
    replace hF : bX5_gatherMovers_19 Q_median O_layers O_size O_rows p1 v2 x4_3 Q_stood_3 Q_spots_3 Q_movers_3 = some o := hF
    replace hP : va_P (dC, dI) vwCl (iX5_gatherMovers aS aO cI cZ Q_median Q_stood_3 Q_spots_3 Q_movers_3 O_layers O_size O_rows) H := hP
    replace hD : va_D A (iX5_gatherMovers aS aO cI cZ Q_median Q_stood_3 Q_spots_3 Q_movers_3 O_layers O_size O_rows) := hD
    replace hl : lv_has ls 6 [(0, .ref (aS 19)), (1, .ref (aO 0)), (2, .int p1), (3, .int v2), (4, .int x4_3)] := hl
    unfold bX5_gatherMovers_19 at hF
    have JX5_GATHERMOVERS_85 : ∀ (Q_stood_4 : Nat → Int32) (Q_spots_4 : Nat → Int32) (Q_movers_4 : Int32) (x4_4 : Int32), jX5_gatherMovers_85 Q_stood_4 Q_spots_4 Q_movers_4 p1 v2 x4_4 = some o → ∀ (H : Heap) (locs : List Loc) (ls : Array Slot), va_P (dC, dI) vwCl (iX5_gatherMovers aS aO cI cZ Q_median Q_stood_4 Q_spots_4 Q_movers_4 O_layers O_size O_rows) H → va_D A (iX5_gatherMovers aS aO cI cZ Q_median Q_stood_4 Q_spots_4 Q_movers_4 O_layers O_size O_rows) → va_S A s.heap H locs → lv_has ls 6 [(0, .ref (aS 19)), (1, .ref (aO 0)), (2, .int p1), (3, .int v2), (4, .int x4_4)] → W p l e (headSpec wsX5_gatherMovers (rX5_gatherMovers)).room s m args below meth c H locs 0 0 Q (F0 m 85 ls []) := by
      intro Q_stood_4 Q_spots_4 Q_movers_4 x4_4 hF H locs ls hP hD hS hl
      unfold jX5_gatherMovers_85 at hF
      refine lv_iinc (v := (x4_4 + 1)) (lv' := [(4, .int (x4_4 + 1)), (0, .ref (aS 19)), (1, .ref (aO 0)), (2, .int p1), (3, .int v2)]) hx hb dX5_gatherMovers_85 hl (k := 4) rfl rfl (by decide) rfl (fun ls hl => ?_)
      refine lv_goto (tgt := 19) hx hb dX5_gatherMovers_88 (by decide) ?_
      exact hin _ (Option.some.inj hF).symm H locs ls hP hD hS (lv_sub hl [1, 2, 3, 4, 0] rfl)
    refine lv_iload hx hb dX5_gatherMovers_19 (lv_at hl 4 rfl) ?_
    refine lv_iload_n hx hb dX5_gatherMovers_21 rfl (lv_at hl 3 rfl) ?_
    refine lv_icmp_ge (tgt := 91) hx hb dX5_gatherMovers_22 (by decide) (fun hc => ?_) (fun hc => ?_)
    · replace hF := q_t hc hF
      exact X3 _ _ _ (hex _ (Option.some.inj hF).symm) H locs ls hP hD hS (lv_sub hl [] rfl)
    · replace hF := q_f hc hF
      refine lv_aload_n hx hb dX5_gatherMovers_25 rfl (lv_at hl 1 rfl) ?_
      refine lv_iload_n hx hb dX5_gatherMovers_26 rfl (lv_at hl 2 rfl) ?_
      refine lv_iload hx hb dX5_gatherMovers_27 (lv_at hl 4 rfl) ?_
      obtain ⟨q5, hcq5, hF⟩ := q_bd hF
      refine q_Vi (As := [.int p1, .int x4_3]) (rest := []) ⟨hx, hb, hml, hown, hts⟩ hA hK hP hD hS (tX4_itemIn l dC dI cI cZ aO H.size O_layers O_size O_rows p1 x4_3 q5 hcq5) (cwV 2 hts gX5_gatherMovers_X4_itemIn rfl rfl rfl uX4_itemIn ⟨Nat.le_of_ble_eq_true rfl, Nat.le_of_ble_eq_true rfl⟩) [4, 5, 6] [(false, 0), (false, 1), (false, 2), (false, 3), (true, 0), (true, 1), (true, 2)] (iX5_gatherMovers aS aO cI cZ Q_median Q_stood_3 Q_spots_3 Q_movers_3 O_layers O_size O_rows) rfl rfl rfl rfl rfl 4 0 rfl rfl rfl rfl hl.1 rfl (Nat.le_of_ble_eq_true rfl) dX5_gatherMovers_29 ⟨Nat.zero_le _, Nat.zero_le _⟩ (fun H locs hP hD hS => ?_)
      refine lv_istore (lv' := [(5, .int q5), (0, .ref (aS 19)), (1, .ref (aO 0)), (2, .int p1), (3, .int v2), (4, .int x4_3)]) hx hb dX5_gatherMovers_32 hl (by decide) rfl (fun ls hl => ?_)
      refine lv_iload hx hb dX5_gatherMovers_34 (lv_at hl 0 rfl) ?_
      obtain ⟨q6, hcq6, hF⟩ := q_bd hF
      refine q_Si (As := [.int q5]) (rest := []) ⟨hx, hb, hml, hown, hts⟩ hA hK hP hD hS (tX5_isCode l dC dI cI cZ H.size q5 q6 hcq6) (va_cwS 1 hts gX5_gatherMovers_X5_isCode rfl rfl rfl uX5_isCode ⟨Nat.le_of_ble_eq_true rfl, Nat.le_of_ble_eq_true rfl⟩) [] [(false, 0), (false, 1), (false, 2), (false, 3), (false, 4), (false, 5), (false, 6)] (iX5_gatherMovers aS aO cI cZ Q_median Q_stood_3 Q_spots_3 Q_movers_3 O_layers O_size O_rows) rfl rfl rfl rfl rfl rfl hl.1 rfl (Nat.le_of_ble_eq_true rfl) dX5_gatherMovers_36 ⟨Nat.zero_le _, Nat.zero_le _⟩ (fun H locs hP hD hS => ?_)
      refine lv_if_eq (tgt := 85) hx hb dX5_gatherMovers_39 (by decide) (fun hc => ?_) (fun hc => ?_)
      · replace hF := q_t hc hF
        exact JX5_GATHERMOVERS_85 Q_stood_3 Q_spots_3 Q_movers_3 x4_3 hF H locs ls hP hD hS (lv_sub hl [1, 2, 3, 4, 5] rfl)
      · replace hF := q_f hc hF
        refine lv_aload_n hx hb dX5_gatherMovers_42 rfl (lv_at hl 1 rfl) ?_
        refine q_get (ci := 5) (C := RX5) (T := TX5) (N := 12) hx hb hts eX5_gatherMovers_X5 hown hK hP 0 rfl rfl 7 (Nat.le_of_ble_eq_true rfl) k5 rfl rfl dX5_gatherMovers_43 ?_
        refine lv_iload hx hb dX5_gatherMovers_46 (lv_at hl 0 rfl) ?_
        obtain ⟨hn7, hF⟩ := q_ck hF
        refine va_iald hx hb hK hP 1 0 rfl rfl hn7 dX5_gatherMovers_48 ?_
        refine lv_iconst (v := (-1)) hx hb dX5_gatherMovers_49 (by decide) ?_
        refine lv_icmp_eq (tgt := 85) hx hb dX5_gatherMovers_50 (by decide) (fun hc => ?_) (fun hc => ?_)
        · replace hF := q_t hc hF
          exact JX5_GATHERMOVERS_85 Q_stood_3 Q_spots_3 Q_movers_3 x4_3 hF H locs ls hP hD hS (lv_sub hl [1, 2, 3, 4, 5] rfl)
        · replace hF := q_f hc hF
          refine lv_aload_n hx hb dX5_gatherMovers_53 rfl (lv_at hl 1 rfl) ?_
          refine q_get (ci := 5) (C := RX5) (T := TX5) (N := 12) hx hb hts eX5_gatherMovers_X5 hown hK hP 0 rfl rfl 8 (Nat.le_of_ble_eq_true rfl) k6 rfl rfl dX5_gatherMovers_54 ?_
          refine lv_aload_n hx hb dX5_gatherMovers_57 rfl (lv_at hl 1 rfl) ?_
          refine q_get (ci := 5) (C := RX5) (T := TX5) (N := 12) hx hb hts eX5_gatherMovers_X5 hown hK hP 0 rfl rfl 11 (Nat.le_of_ble_eq_true rfl) k0 rfl rfl dX5_gatherMovers_58 ?_
          refine lv_iload hx hb dX5_gatherMovers_61 (lv_at hl 0 rfl) ?_
          obtain ⟨hn8, hF⟩ := q_ck hF
          refine q_iast hx hb hK hP hD hS 2 0 (iX5_gatherMovers aS aO cI cZ Q_median (upd Q_stood_3 Q_movers_3.toNatClampNeg q5) Q_spots_3 Q_movers_3 O_layers O_size O_rows) rfl rfl hn8 rfl dX5_gatherMovers_63 (fun H locs hP hD hS => ?_)
          refine lv_aload_n hx hb dX5_gatherMovers_64 rfl (lv_at hl 1 rfl) ?_
          refine q_get (ci := 5) (C := RX5) (T := TX5) (N := 12) hx hb hts eX5_gatherMovers_X5 hown hK hP 0 rfl rfl 10 (Nat.le_of_ble_eq_true rfl) k7 rfl rfl dX5_gatherMovers_65 ?_
          refine lv_aload_n hx hb dX5_gatherMovers_68 rfl (lv_at hl 1 rfl) ?_
          refine q_get (ci := 5) (C := RX5) (T := TX5) (N := 12) hx hb hts eX5_gatherMovers_X5 hown hK hP 0 rfl rfl 11 (Nat.le_of_ble_eq_true rfl) k0 rfl rfl dX5_gatherMovers_69 ?_
          refine lv_iload hx hb dX5_gatherMovers_72 (lv_at hl 5 rfl) ?_
          obtain ⟨hn9, hF⟩ := q_ck hF
          refine q_iast hx hb hK hP hD hS 3 0 (iX5_gatherMovers aS aO cI cZ Q_median (upd Q_stood_3 Q_movers_3.toNatClampNeg q5) (upd Q_spots_3 Q_movers_3.toNatClampNeg x4_3) Q_movers_3 O_layers O_size O_rows) rfl rfl hn9 rfl dX5_gatherMovers_74 (fun H locs hP hD hS => ?_)
          refine lv_aload_n hx hb dX5_gatherMovers_75 rfl (lv_at hl 1 rfl) ?_
          refine lv_dup hx hb dX5_gatherMovers_76 rfl ?_
          refine q_get (ci := 5) (C := RX5) (T := TX5) (N := 12) hx hb hts eX5_gatherMovers_X5 hown hK hP 0 rfl rfl 11 (Nat.le_of_ble_eq_true rfl) k0 rfl rfl dX5_gatherMovers_77 ?_
          refine lv_iconst (v := 1) hx hb dX5_gatherMovers_80 (by decide) ?_
          refine lv_iadd hx hb dX5_gatherMovers_81 ?_
          refine q_put (ci := 5) (C := RX5) (T := TX5) (N := 12) (ty := .int) hx hb hts eX5_gatherMovers_X5 tyX5 tyX5_ok nmX5 hown hK hP hD hS 0 (iX5_gatherMovers aS aO cI cZ Q_median (upd Q_stood_3 Q_movers_3.toNatClampNeg q5) (upd Q_spots_3 Q_movers_3.toNatClampNeg x4_3) (Q_movers_3 + 1) O_layers O_size O_rows) rfl rfl 11 (Nat.le_of_ble_eq_true rfl) k0 rfl rfl (by decide +kernel) rfl rfl (Nat.le_of_ble_eq_true rfl) rfl dX5_gatherMovers_82 (fun H locs hP hD hS => ?_)
          exact JX5_GATHERMOVERS_85 (upd Q_stood_3 Q_movers_3.toNatClampNeg q5) (upd Q_spots_3 Q_movers_3.toNatClampNeg x4_3) (Q_movers_3 + 1) x4_3 hF H locs ls hP hD hS (lv_sub hl [1, 2, 3, 4, 5] rfl)
  exact L3 (0, Q_stood, Q_spots, 0) hc3 H locs ls hP hD hS (lv_sub hl [2, 3, 4, 1, 0] rfl)
abbrev rX5_loadEnds : Room := { frames := 1, cells := 0, slots := 0, locals := 40 }
theorem eX5_loadEnds_X5 : ∀ w ∈ u_ws RX5 TX5 12, w ∈ wsX5_loadEnds := by decide +kernel
theorem uX5_loadEnds : yX5_loadEnds.cls = RX5 ∧ yX5_loadEnds.cls ≠ "java/lang/invoke/MethodHandle" ∧ yX5_loadEnds.cls ≠ "java/lang/invoke/VarHandle" ∧ (parseMethodDescriptor yX5_loadEnds.desc).map (fun d => d.parameters.length) = some 3 := by decide +kernel
set_option maxHeartbeats 4000000 in
set_option maxRecDepth 100000 in
theorem tX5_loadEnds (l : Launch) (dC : Nat → ClassId) (dI : Nat → Nat → Nat) (cI cZ : ClassId) (aS : Nat → Nat) (aO : Nat → Nat) (sz : Nat) (P_size : Nat → Int32) (P_uppers : Nat → Int32) (P_lowers : Nat → Int32) (Q_own : Nat → Int32) (Q_far : Nat → Int32) (Q_movers : Int32) (O_layers : Int32) (O_places : Nat → Int32) (p1 : Int32) (p2 : Int32) (res : Int32 × (Nat → Int32) × (Nat → Int32)) (hF : fX5_loadEnds P_size P_uppers P_lowers Q_own Q_far O_places p1 p2 = some res) : q_Mi l yX5_loadEnds wsX5_loadEnds rX5_loadEnds (dC, dI) (q_ty cI cZ) [.ref (aS 19), .ref (aO 0), .int p1, .int p2] (iX5_loadEnds aS aO cI cZ P_size P_uppers P_lowers Q_own Q_far Q_movers O_layers O_places) (iX5_loadEnds aS aO cI cZ P_size P_uppers P_lowers res.2.1 res.2.2 Q_movers O_layers O_places) sz res.1 := by
  refine q_meti (cc := cX5_loadEnds) (maxL := 11) (by decide) rfl (Nat.le_of_ble_eq_true rfl) ?_
  intro p e s m args below meth c Q A H locs ls C hP hD hS hl hret
  obtain ⟨hx, hb, hml, hown, hts, hA, hK⟩ := C
  replace hl : lv_has ls 11 [(0, .ref (aS 19)), (1, .ref (aO 0)), (2, .int p1), (3, .int p2)] := hl
  have k0 := hts (.fieldLink RX5 36 "RouteLayout$Orderer" "pieces" "LRouteLayout$Pieces;") (by decide +kernel)
  have k1 := hts (.methodLink RX5 106 Lib.Math.min.name) (by decide +kernel)
  have k2 := hts (.static Lib.Math.min.name) (by decide +kernel)
  have k3 := hts (.initialized "java/lang/Math") (by decide +kernel)
  have k4 := hts (.code Lib.Math.min.name Lib.Math.min.code 2 (some .int)) (by decide +kernel)
  have k5 := hts (.fieldLink RX5 15 "RouteLayout$Orderer" "far" "[I") (by decide +kernel)
  have k6 := hts (.fieldLink RX5 9 "RouteLayout$Orderer" "own" "[I") (by decide +kernel)
  unfold fX5_loadEnds at hF
  have JX5_LOADENDS_26 : ∀ (Q_own_1 : Nat → Int32) (Q_far_1 : Nat → Int32) (x3_1 : Int32) (x4_1 : Int32) (s0_1 : Int32), jX5_loadEnds_26 P_size P_uppers P_lowers Q_own_1 Q_far_1 O_places x3_1 x4_1 s0_1 = some res → ∀ (H : Heap) (locs : List Loc) (ls : Array Slot), va_P (dC, dI) vwCl (iX5_loadEnds aS aO cI cZ P_size P_uppers P_lowers Q_own_1 Q_far_1 Q_movers O_layers O_places) H → va_D A (iX5_loadEnds aS aO cI cZ P_size P_uppers P_lowers Q_own_1 Q_far_1 Q_movers O_layers O_places) → va_S A s.heap H locs → lv_has ls 11 [(0, .ref (aS 19)), (1, .ref (aO 0)), (3, .int x3_1), (4, .int x4_1)] → W p l e (headSpec wsX5_loadEnds (rX5_loadEnds)).room s m args below meth c H locs 0 0 Q (F0 m 26 ls [.int s0_1]) := by
    intro Q_own_1 Q_far_1 x3_1 x4_1 s0_1 hF H locs ls hP hD hS hl
    unfold jX5_loadEnds_26 at hF
    refine lv_istore (lv' := [(5, .int s0_1), (0, .ref (aS 19)), (1, .ref (aO 0)), (3, .int x3_1), (4, .int x4_1)]) hx hb dX5_loadEnds_26 hl (by decide) rfl (fun ls hl => ?_)
    refine lv_aload_n hx hb dX5_loadEnds_28 rfl (lv_at hl 1 rfl) ?_
    refine q_get (ci := 5) (C := RX5) (T := TX5) (N := 12) hx hb hts eX5_loadEnds_X5 hown hK hP 0 rfl rfl 0 (Nat.le_of_ble_eq_true rfl) k0 rfl rfl dX5_loadEnds_29 ?_
    refine lv_iload hx hb dX5_loadEnds_32 (lv_at hl 4 rfl) ?_
    obtain ⟨q2, hcq2, hF⟩ := q_bd hF
    refine q_Vi (As := [.int x4_1]) (rest := []) ⟨hx, hb, hml, hown, hts⟩ hA hK hP hD hS (tX6_sizeOf l dC dI cI cZ aS H.size P_size x4_1 q2 hcq2) (cwV 1 hts gX5_loadEnds_X6_sizeOf rfl rfl rfl uX6_sizeOf ⟨Nat.le_of_ble_eq_true rfl, Nat.le_of_ble_eq_true rfl⟩) [1, 2] [(false, 0), (true, 0), (true, 1), (false, 3), (false, 4), (false, 5), (false, 6), (false, 7), (false, 8)] (iX5_loadEnds aS aO cI cZ P_size P_uppers P_lowers Q_own_1 Q_far_1 Q_movers O_layers O_places) rfl rfl rfl rfl rfl 6 0 rfl rfl rfl rfl hl.1 rfl (Nat.le_of_ble_eq_true rfl) dX5_loadEnds_34 ⟨Nat.zero_le _, Nat.zero_le _⟩ (fun H locs hP hD hS => ?_)
    refine lv_bipush (v := 24) hx hb dX5_loadEnds_37 (by decide) ?_
    refine va_mmin hx hb (hml.trans hl.1.symm) hown k1 k2 k3 k4 (Nat.le_of_ble_eq_true rfl) (Nat.le_of_ble_eq_true rfl) (Nat.zero_le _) (Nat.zero_le _) dX5_loadEnds_39 ?_
    obtain ⟨v3, hv3, hF⟩ := q_letE hF
    refine q_top hv3 ?_
    refine lv_istore (lv' := [(6, .int v3), (5, .int s0_1), (0, .ref (aS 19)), (1, .ref (aO 0)), (3, .int x3_1), (4, .int x4_1)]) hx hb dX5_loadEnds_42 hl (by decide) rfl (fun ls hl => ?_)
    refine lv_iconst (v := 0) hx hb dX5_loadEnds_44 (by decide) ?_
    refine lv_istore (lv' := [(7, .int 0), (6, .int v3), (5, .int s0_1), (0, .ref (aS 19)), (1, .ref (aO 0)), (3, .int x3_1), (4, .int x4_1)]) hx hb dX5_loadEnds_45 hl (by decide) rfl (fun ls hl => ?_)
    obtain ⟨q4_0, q4_1, hc4, hF⟩ := q_bd2 hF
    have X4 : ∀ (u4_0 : Nat → Int32) (u4_1 : Nat → Int32), (u4_0, u4_1) = (q4_0, q4_1) → ∀ (H : Heap) (locs : List Loc) (ls : Array Slot), va_P (dC, dI) vwCl (iX5_loadEnds aS aO cI cZ P_size P_uppers P_lowers u4_0 u4_1 Q_movers O_layers O_places) H → va_D A (iX5_loadEnds aS aO cI cZ P_size P_uppers P_lowers u4_0 u4_1 Q_movers O_layers O_places) → va_S A s.heap H locs → lv_has ls 11 [(6, .int v3)] → W p l e (headSpec wsX5_loadEnds (rX5_loadEnds)).room s m args below meth c H locs 0 0 Q (F0 m 181 ls []) := by
      intro u4_0 u4_1 hu H locs ls hP hD hS hl
      obtain ⟨e0, e1⟩ := q_inj2 hu
      subst e0 e1
      refine lv_iload hx hb dX5_loadEnds_181 (lv_at hl 0 rfl) ?_
      exact hret H locs ls 183 _ _ dX5_loadEnds_183 (congrArg Prod.fst (Option.some.inj hF)) (congrArg (fun z : Int32 × (Nat → Int32) × (Nat → Int32) => (iX5_loadEnds aS aO cI cZ P_size P_uppers P_lowers z.2.1 z.2.2 Q_movers O_layers O_places)) (Option.some.inj hF)) hP hD hS
    have L4 : ∀ st : Int32 × (Nat → Int32) × (Nat → Int32), q_lo (fun (st : Int32 × (Nat → Int32) × (Nat → Int32)) => bX5_loadEnds_47 P_size P_uppers P_lowers O_places x3_1 x4_1 s0_1 v3 st.1 st.2.1 st.2.2) st = some (q4_0, q4_1) → ∀ (H : Heap) (locs : List Loc) (ls : Array Slot), va_P (dC, dI) vwCl (iX5_loadEnds aS aO cI cZ P_size P_uppers P_lowers st.2.1 st.2.2 Q_movers O_layers O_places) H → va_D A (iX5_loadEnds aS aO cI cZ P_size P_uppers P_lowers st.2.1 st.2.2 Q_movers O_layers O_places) → va_S A s.heap H locs → lv_has ls 11 [(0, .ref (aS 19)), (1, .ref (aO 0)), (3, .int x3_1), (4, .int x4_1), (5, .int s0_1), (6, .int v3), (7, .int st.1)] → W p l e (headSpec wsX5_loadEnds (rX5_loadEnds)).room s m args below meth c H locs 0 0 Q (F0 m 47 ls []) := by
      intro st hst
      refine q_walk (Wh := fun st : Int32 × (Nat → Int32) × (Nat → Int32) => ∀ (H : Heap) (locs : List Loc) (ls : Array Slot), va_P (dC, dI) vwCl (iX5_loadEnds aS aO cI cZ P_size P_uppers P_lowers st.2.1 st.2.2 Q_movers O_layers O_places) H → va_D A (iX5_loadEnds aS aO cI cZ P_size P_uppers P_lowers st.2.1 st.2.2 Q_movers O_layers O_places) → va_S A s.heap H locs → lv_has ls 11 [(0, .ref (aS 19)), (1, .ref (aO 0)), (3, .int x3_1), (4, .int x4_1), (5, .int s0_1), (6, .int v3), (7, .int st.1)] → W p l e (headSpec wsX5_loadEnds (rX5_loadEnds)).room s m args below meth c H locs 0 0 Q (F0 m 47 ls [])) ?_ st hst
      clear hst st hF
      intro st o hF hin hex H locs ls hP hD hS hl
      obtain ⟨x7_4, Q_own_4, Q_far_4⟩ := st
      replace hF : bX5_loadEnds_47 P_size P_uppers P_lowers O_places x3_1 x4_1 s0_1 v3 x7_4 Q_own_4 Q_far_4 = some o := hF
      replace hP : va_P (dC, dI) vwCl (iX5_loadEnds aS aO cI cZ P_size P_uppers P_lowers Q_own_4 Q_far_4 Q_movers O_layers O_places) H := hP
      replace hD : va_D A (iX5_loadEnds aS aO cI cZ P_size P_uppers P_lowers Q_own_4 Q_far_4 Q_movers O_layers O_places) := hD
      replace hl : lv_has ls 11 [(0, .ref (aS 19)), (1, .ref (aO 0)), (3, .int x3_1), (4, .int x4_1), (5, .int s0_1), (6, .int v3), (7, .int x7_4)] := hl
      unfold bX5_loadEnds_47 at hF
      have JX5_LOADENDS_71 : ∀ (Q_own_5 : Nat → Int32) (Q_far_5 : Nat → Int32) (x7_5 : Int32) (s0_5 : Int32) (s1_5 : Int32) (s2_5 : Int32), jX5_loadEnds_71 P_size P_uppers P_lowers Q_own_5 Q_far_5 O_places x3_1 x4_1 s0_1 v3 x7_5 s0_5 s1_5 s2_5 = some o → ∀ (H : Heap) (locs : List Loc) (ls : Array Slot), va_P (dC, dI) vwCl (iX5_loadEnds aS aO cI cZ P_size P_uppers P_lowers Q_own_5 Q_far_5 Q_movers O_layers O_places) H → va_D A (iX5_loadEnds aS aO cI cZ P_size P_uppers P_lowers Q_own_5 Q_far_5 Q_movers O_layers O_places) → va_S A s.heap H locs → lv_has ls 11 [(0, .ref (aS 19)), (1, .ref (aO 0)), (3, .int x3_1), (4, .int x4_1), (5, .int s0_1), (6, .int v3), (7, .int x7_5)] → W p l e (headSpec wsX5_loadEnds (rX5_loadEnds)).room s m args below meth c H locs 0 0 Q (F0 m 71 ls [.int s0_5, .int s1_5, .int s2_5, .ref (aS 11)]) := by
        intro Q_own_5 Q_far_5 x7_5 s0_5 s1_5 s2_5 hF H locs ls hP hD hS hl
        unfold jX5_loadEnds_71 at hF
        obtain ⟨q6, hcq6, hF⟩ := q_bd hF
        refine q_Vi (As := [.int s2_5, .int s1_5, .int s0_5]) (rest := []) ⟨hx, hb, hml, hown, hts⟩ hA hK hP hD hS (tX6_endOf l dC dI cI cZ aS H.size P_size P_uppers P_lowers s2_5 s1_5 s0_5 q6 hcq6) (cwV 3 hts gX5_loadEnds_X6_endOf rfl rfl rfl uX6_endOf ⟨Nat.le_of_ble_eq_true rfl, Nat.le_of_ble_eq_true rfl⟩) [1, 2, 3, 4] [(false, 0), (true, 0), (true, 1), (true, 2), (true, 3), (false, 5), (false, 6), (false, 7), (false, 8)] (iX5_loadEnds aS aO cI cZ P_size P_uppers P_lowers Q_own_5 Q_far_5 Q_movers O_layers O_places) rfl rfl rfl rfl rfl 6 0 rfl rfl rfl rfl hl.1 rfl (Nat.le_of_ble_eq_true rfl) dX5_loadEnds_71 ⟨Nat.zero_le _, Nat.zero_le _⟩ (fun H locs hP hD hS => ?_)
        refine lv_istore (lv' := [(8, .int q6), (0, .ref (aS 19)), (1, .ref (aO 0)), (3, .int x3_1), (4, .int x4_1), (5, .int s0_1), (6, .int v3), (7, .int x7_5)]) hx hb dX5_loadEnds_74 hl (by decide) rfl (fun ls hl => ?_)
        refine lv_aload_n hx hb dX5_loadEnds_76 rfl (lv_at hl 2 rfl) ?_
        refine lv_iload hx hb dX5_loadEnds_77 (lv_at hl 5 rfl) ?_
        refine lv_aload_n hx hb dX5_loadEnds_79 rfl (lv_at hl 1 rfl) ?_
        refine q_get (ci := 5) (C := RX5) (T := TX5) (N := 12) hx hb hts eX5_loadEnds_X5 hown hK hP 0 rfl rfl 0 (Nat.le_of_ble_eq_true rfl) k0 rfl rfl dX5_loadEnds_80 ?_
        refine lv_iload hx hb dX5_loadEnds_83 (lv_at hl 4 rfl) ?_
        refine lv_iload hx hb dX5_loadEnds_85 (lv_at hl 7 rfl) ?_
        refine lv_iload_n hx hb dX5_loadEnds_87 rfl (lv_at hl 3 rfl) ?_
        obtain ⟨q7, hcq7, hF⟩ := q_bd hF
        refine q_Vi (As := [.int x4_1, .int x7_5, .int x3_1]) (rest := [.int s0_1, .ref (aO 0)]) ⟨hx, hb, hml, hown, hts⟩ hA hK hP hD hS (tX6_endOf l dC dI cI cZ aS H.size P_size P_uppers P_lowers x4_1 x7_5 x3_1 q7 hcq7) (cwV 3 hts gX5_loadEnds_X6_endOf rfl rfl rfl uX6_endOf ⟨Nat.le_of_ble_eq_true rfl, Nat.le_of_ble_eq_true rfl⟩) [1, 2, 3, 4] [(false, 0), (true, 0), (true, 1), (true, 2), (true, 3), (false, 5), (false, 6), (false, 7), (false, 8)] (iX5_loadEnds aS aO cI cZ P_size P_uppers P_lowers Q_own_5 Q_far_5 Q_movers O_layers O_places) rfl rfl rfl rfl rfl 6 0 rfl rfl rfl rfl hl.1 rfl (Nat.le_of_ble_eq_true rfl) dX5_loadEnds_88 ⟨Nat.zero_le _, Nat.zero_le _⟩ (fun H locs hP hD hS => ?_)
        obtain ⟨q8, hcq8, hF⟩ := q_bd hF
        refine q_Vi (As := [.int s0_1, .int q7]) (rest := []) ⟨hx, hb, hml, hown, hts⟩ hA hK hP hD hS (tX4_placeIn l dC dI cI cZ aO H.size O_layers O_places s0_1 q7 q8 hcq8) (cwV 2 hts gX5_loadEnds_X4_placeIn rfl rfl rfl uX4_placeIn ⟨Nat.le_of_ble_eq_true rfl, Nat.le_of_ble_eq_true rfl⟩) [7, 8] [(false, 0), (false, 1), (false, 2), (false, 3), (false, 4), (false, 5), (false, 6), (true, 0), (true, 1)] (iX5_loadEnds aS aO cI cZ P_size P_uppers P_lowers Q_own_5 Q_far_5 Q_movers O_layers O_places) rfl rfl rfl rfl rfl 4 0 rfl rfl rfl rfl hl.1 rfl (Nat.le_of_ble_eq_true rfl) dX5_loadEnds_91 ⟨Nat.zero_le _, Nat.zero_le _⟩ (fun H locs hP hD hS => ?_)
        refine lv_istore (lv' := [(9, .int q8), (8, .int q6), (0, .ref (aS 19)), (1, .ref (aO 0)), (3, .int x3_1), (4, .int x4_1), (5, .int s0_1), (6, .int v3), (7, .int x7_5)]) hx hb dX5_loadEnds_94 hl (by decide) rfl (fun ls hl => ?_)
        refine lv_iload hx hb dX5_loadEnds_96 (lv_at hl 8 rfl) ?_
        refine lv_istore (lv' := [(10, .int x7_5), (9, .int q8), (8, .int q6), (0, .ref (aS 19)), (1, .ref (aO 0)), (3, .int x3_1), (4, .int x4_1), (5, .int s0_1), (6, .int v3), (7, .int x7_5)]) hx hb dX5_loadEnds_98 hl (by decide) rfl (fun ls hl => ?_)
        obtain ⟨q9_0, q9_1, q9_2, hc9, hF⟩ := q_bd3 hF
        have X9 : ∀ (u9_0 : Int32) (u9_1 : Nat → Int32) (u9_2 : Nat → Int32), (u9_0, u9_1, u9_2) = (q9_0, q9_1, q9_2) → ∀ (H : Heap) (locs : List Loc) (ls : Array Slot), va_P (dC, dI) vwCl (iX5_loadEnds aS aO cI cZ P_size P_uppers P_lowers u9_1 u9_2 Q_movers O_layers O_places) H → va_D A (iX5_loadEnds aS aO cI cZ P_size P_uppers P_lowers u9_1 u9_2 Q_movers O_layers O_places) → va_S A s.heap H locs → lv_has ls 11 [(0, .ref (aS 19)), (1, .ref (aO 0)), (3, .int x3_1), (4, .int x4_1), (5, .int s0_1), (6, .int v3), (7, .int x7_5), (8, .int q6), (9, .int q8), (10, .int u9_0)] → W p l e (headSpec wsX5_loadEnds (rX5_loadEnds)).room s m args below meth c H locs 0 0 Q (F0 m 157 ls []) := by
          intro u9_0 u9_1 u9_2 hu H locs ls hP hD hS hl
          obtain ⟨e0, e1, e2⟩ := q_inj3 hu
          subst e0 e1 e2
          refine lv_aload_n hx hb dX5_loadEnds_157 rfl (lv_at hl 0 rfl) ?_
          refine q_get (ci := 5) (C := RX5) (T := TX5) (N := 12) hx hb hts eX5_loadEnds_X5 hown hK hP 0 rfl rfl 4 (Nat.le_of_ble_eq_true rfl) k5 rfl rfl dX5_loadEnds_158 ?_
          refine lv_iload hx hb dX5_loadEnds_161 (lv_at hl 9 rfl) ?_
          refine lv_iload hx hb dX5_loadEnds_163 (lv_at hl 8 rfl) ?_
          obtain ⟨hn15, hF⟩ := q_ck hF
          refine q_iast hx hb hK hP hD hS 6 0 (iX5_loadEnds aS aO cI cZ P_size P_uppers P_lowers u9_1 (upd u9_2 u9_0.toNatClampNeg q8) Q_movers O_layers O_places) rfl rfl hn15 rfl dX5_loadEnds_165 (fun H locs hP hD hS => ?_)
          refine lv_aload_n hx hb dX5_loadEnds_166 rfl (lv_at hl 0 rfl) ?_
          refine q_get (ci := 5) (C := RX5) (T := TX5) (N := 12) hx hb hts eX5_loadEnds_X5 hown hK hP 0 rfl rfl 3 (Nat.le_of_ble_eq_true rfl) k6 rfl rfl dX5_loadEnds_167 ?_
          refine lv_iload hx hb dX5_loadEnds_170 (lv_at hl 9 rfl) ?_
          refine lv_iload hx hb dX5_loadEnds_172 (lv_at hl 7 rfl) ?_
          obtain ⟨hn16, hF⟩ := q_ck hF
          refine q_iast hx hb hK hP hD hS 5 0 (iX5_loadEnds aS aO cI cZ P_size P_uppers P_lowers (upd u9_1 u9_0.toNatClampNeg q6) (upd u9_2 u9_0.toNatClampNeg q8) Q_movers O_layers O_places) rfl rfl hn16 rfl dX5_loadEnds_174 (fun H locs hP hD hS => ?_)
          refine lv_iinc (v := (x7_5 + 1)) (lv' := [(7, .int (x7_5 + 1)), (0, .ref (aS 19)), (1, .ref (aO 0)), (3, .int x3_1), (4, .int x4_1), (5, .int s0_1), (6, .int v3), (8, .int q6), (9, .int q8), (10, .int u9_0)]) hx hb dX5_loadEnds_175 hl (k := 6) rfl rfl (by decide) rfl (fun ls hl => ?_)
          refine lv_goto (tgt := 47) hx hb dX5_loadEnds_178 (by decide) ?_
          exact hin _ (Option.some.inj hF).symm H locs ls hP hD hS (lv_sub hl [1, 2, 3, 4, 5, 6, 0] rfl)
        have L9 : ∀ st : Int32 × (Nat → Int32) × (Nat → Int32), q_lo (fun (st : Int32 × (Nat → Int32) × (Nat → Int32)) => bX5_loadEnds_100 q8 st.1 st.2.1 st.2.2) st = some (q9_0, q9_1, q9_2) → ∀ (H : Heap) (locs : List Loc) (ls : Array Slot), va_P (dC, dI) vwCl (iX5_loadEnds aS aO cI cZ P_size P_uppers P_lowers st.2.1 st.2.2 Q_movers O_layers O_places) H → va_D A (iX5_loadEnds aS aO cI cZ P_size P_uppers P_lowers st.2.1 st.2.2 Q_movers O_layers O_places) → va_S A s.heap H locs → lv_has ls 11 [(0, .ref (aS 19)), (1, .ref (aO 0)), (3, .int x3_1), (4, .int x4_1), (5, .int s0_1), (6, .int v3), (7, .int x7_5), (8, .int q6), (9, .int q8), (10, .int st.1)] → W p l e (headSpec wsX5_loadEnds (rX5_loadEnds)).room s m args below meth c H locs 0 0 Q (F0 m 100 ls []) := by
          intro st hst
          refine q_walk (Wh := fun st : Int32 × (Nat → Int32) × (Nat → Int32) => ∀ (H : Heap) (locs : List Loc) (ls : Array Slot), va_P (dC, dI) vwCl (iX5_loadEnds aS aO cI cZ P_size P_uppers P_lowers st.2.1 st.2.2 Q_movers O_layers O_places) H → va_D A (iX5_loadEnds aS aO cI cZ P_size P_uppers P_lowers st.2.1 st.2.2 Q_movers O_layers O_places) → va_S A s.heap H locs → lv_has ls 11 [(0, .ref (aS 19)), (1, .ref (aO 0)), (3, .int x3_1), (4, .int x4_1), (5, .int s0_1), (6, .int v3), (7, .int x7_5), (8, .int q6), (9, .int q8), (10, .int st.1)] → W p l e (headSpec wsX5_loadEnds (rX5_loadEnds)).room s m args below meth c H locs 0 0 Q (F0 m 100 ls [])) ?_ st hst
          clear hst st hF
          intro st o hF hin hex H locs ls hP hD hS hl
          obtain ⟨x10_9, Q_own_9, Q_far_9⟩ := st
          replace hF : bX5_loadEnds_100 q8 x10_9 Q_own_9 Q_far_9 = some o := hF
          replace hP : va_P (dC, dI) vwCl (iX5_loadEnds aS aO cI cZ P_size P_uppers P_lowers Q_own_9 Q_far_9 Q_movers O_layers O_places) H := hP
          replace hD : va_D A (iX5_loadEnds aS aO cI cZ P_size P_uppers P_lowers Q_own_9 Q_far_9 Q_movers O_layers O_places) := hD
          replace hl : lv_has ls 11 [(0, .ref (aS 19)), (1, .ref (aO 0)), (3, .int x3_1), (4, .int x4_1), (5, .int s0_1), (6, .int v3), (7, .int x7_5), (8, .int q6), (9, .int q8), (10, .int x10_9)] := hl
          unfold bX5_loadEnds_100 at hF
          refine lv_iload hx hb dX5_loadEnds_100 (lv_at hl 9 rfl) ?_
          refine lv_if_le (tgt := 157) hx hb dX5_loadEnds_102 (by decide) (fun hc => ?_) (fun hc => ?_)
          · replace hF := q_t hc hF
            exact X9 _ _ _ (hex _ (Option.some.inj hF).symm) H locs ls hP hD hS (lv_sub hl [0, 1, 2, 3, 4, 5, 6, 7, 8, 9] rfl)
          · replace hF := q_f hc hF
            refine lv_aload_n hx hb dX5_loadEnds_105 rfl (lv_at hl 0 rfl) ?_
            refine q_get (ci := 5) (C := RX5) (T := TX5) (N := 12) hx hb hts eX5_loadEnds_X5 hown hK hP 0 rfl rfl 4 (Nat.le_of_ble_eq_true rfl) k5 rfl rfl dX5_loadEnds_106 ?_
            refine lv_iload hx hb dX5_loadEnds_109 (lv_at hl 9 rfl) ?_
            refine lv_iconst (v := 1) hx hb dX5_loadEnds_111 (by decide) ?_
            refine lv_isub hx hb dX5_loadEnds_112 ?_
            obtain ⟨hn10, hF⟩ := q_ck hF
            refine va_iald hx hb hK hP 6 0 rfl rfl hn10 dX5_loadEnds_113 ?_
            refine lv_iload hx hb dX5_loadEnds_114 (lv_at hl 8 rfl) ?_
            refine lv_icmp_le (tgt := 157) hx hb dX5_loadEnds_116 (by decide) (fun hc => ?_) (fun hc => ?_)
            · replace hF := q_t hc hF
              exact X9 _ _ _ (hex _ (Option.some.inj hF).symm) H locs ls hP hD hS (lv_sub hl [0, 1, 2, 3, 4, 5, 6, 7, 8, 9] rfl)
            · replace hF := q_f hc hF
              refine lv_aload_n hx hb dX5_loadEnds_119 rfl (lv_at hl 0 rfl) ?_
              refine q_get (ci := 5) (C := RX5) (T := TX5) (N := 12) hx hb hts eX5_loadEnds_X5 hown hK hP 0 rfl rfl 4 (Nat.le_of_ble_eq_true rfl) k5 rfl rfl dX5_loadEnds_120 ?_
              refine lv_iload hx hb dX5_loadEnds_123 (lv_at hl 9 rfl) ?_
              refine lv_aload_n hx hb dX5_loadEnds_125 rfl (lv_at hl 0 rfl) ?_
              refine q_get (ci := 5) (C := RX5) (T := TX5) (N := 12) hx hb hts eX5_loadEnds_X5 hown hK hP 0 rfl rfl 4 (Nat.le_of_ble_eq_true rfl) k5 rfl rfl dX5_loadEnds_126 ?_
              refine lv_iload hx hb dX5_loadEnds_129 (lv_at hl 9 rfl) ?_
              refine lv_iconst (v := 1) hx hb dX5_loadEnds_131 (by decide) ?_
              refine lv_isub hx hb dX5_loadEnds_132 ?_
              obtain ⟨hn11, hF⟩ := q_ck hF
              refine va_iald hx hb hK hP 6 0 rfl rfl hn11 dX5_loadEnds_133 ?_
              obtain ⟨hn12, hF⟩ := q_ck hF
              refine q_iast hx hb hK hP hD hS 6 0 (iX5_loadEnds aS aO cI cZ P_size P_uppers P_lowers Q_own_9 (upd Q_far_9 x10_9.toNatClampNeg (Q_far_9 (x10_9 - 1).toNatClampNeg)) Q_movers O_layers O_places) rfl rfl hn12 rfl dX5_loadEnds_134 (fun H locs hP hD hS => ?_)
              refine lv_aload_n hx hb dX5_loadEnds_135 rfl (lv_at hl 0 rfl) ?_
              refine q_get (ci := 5) (C := RX5) (T := TX5) (N := 12) hx hb hts eX5_loadEnds_X5 hown hK hP 0 rfl rfl 3 (Nat.le_of_ble_eq_true rfl) k6 rfl rfl dX5_loadEnds_136 ?_
              refine lv_iload hx hb dX5_loadEnds_139 (lv_at hl 9 rfl) ?_
              refine lv_aload_n hx hb dX5_loadEnds_141 rfl (lv_at hl 0 rfl) ?_
              refine q_get (ci := 5) (C := RX5) (T := TX5) (N := 12) hx hb hts eX5_loadEnds_X5 hown hK hP 0 rfl rfl 3 (Nat.le_of_ble_eq_true rfl) k6 rfl rfl dX5_loadEnds_142 ?_
              refine lv_iload hx hb dX5_loadEnds_145 (lv_at hl 9 rfl) ?_
              refine lv_iconst (v := 1) hx hb dX5_loadEnds_147 (by decide) ?_
              refine lv_isub hx hb dX5_loadEnds_148 ?_
              obtain ⟨hn13, hF⟩ := q_ck hF
              refine va_iald hx hb hK hP 5 0 rfl rfl hn13 dX5_loadEnds_149 ?_
              obtain ⟨hn14, hF⟩ := q_ck hF
              refine q_iast hx hb hK hP hD hS 5 0 (iX5_loadEnds aS aO cI cZ P_size P_uppers P_lowers (upd Q_own_9 x10_9.toNatClampNeg (Q_own_9 (x10_9 - 1).toNatClampNeg)) (upd Q_far_9 x10_9.toNatClampNeg (Q_far_9 (x10_9 - 1).toNatClampNeg)) Q_movers O_layers O_places) rfl rfl hn14 rfl dX5_loadEnds_150 (fun H locs hP hD hS => ?_)
              refine lv_iinc (v := (x10_9 + (-1))) (lv' := [(10, .int (x10_9 + (-1))), (0, .ref (aS 19)), (1, .ref (aO 0)), (3, .int x3_1), (4, .int x4_1), (5, .int s0_1), (6, .int v3), (7, .int x7_5), (8, .int q6), (9, .int q8)]) hx hb dX5_loadEnds_151 hl (k := 9) rfl rfl (by decide) rfl (fun ls hl => ?_)
              refine lv_goto (tgt := 100) hx hb dX5_loadEnds_154 (by decide) ?_
              exact hin _ (Option.some.inj hF).symm H locs ls hP hD hS (lv_sub hl [1, 2, 3, 4, 5, 6, 7, 8, 9, 0] rfl)
        exact L9 (x7_5, Q_own_5, Q_far_5) hc9 H locs ls hP hD hS (lv_sub hl [3, 4, 5, 6, 7, 8, 9, 2, 1, 0] rfl)
      refine lv_iload hx hb dX5_loadEnds_47 (lv_at hl 6 rfl) ?_
      refine lv_iload hx hb dX5_loadEnds_49 (lv_at hl 5 rfl) ?_
      refine lv_icmp_ge (tgt := 181) hx hb dX5_loadEnds_51 (by decide) (fun hc => ?_) (fun hc => ?_)
      · replace hF := q_t hc hF
        exact X4 _ _ (hex _ (Option.some.inj hF).symm) H locs ls hP hD hS (lv_sub hl [5] rfl)
      · replace hF := q_f hc hF
        refine lv_aload_n hx hb dX5_loadEnds_54 rfl (lv_at hl 0 rfl) ?_
        refine q_get (ci := 5) (C := RX5) (T := TX5) (N := 12) hx hb hts eX5_loadEnds_X5 hown hK hP 0 rfl rfl 0 (Nat.le_of_ble_eq_true rfl) k0 rfl rfl dX5_loadEnds_55 ?_
        refine lv_iload hx hb dX5_loadEnds_58 (lv_at hl 3 rfl) ?_
        refine lv_iload hx hb dX5_loadEnds_60 (lv_at hl 6 rfl) ?_
        refine lv_iload_n hx hb dX5_loadEnds_62 rfl (lv_at hl 2 rfl) ?_
        refine lv_if_ne (tgt := 70) hx hb dX5_loadEnds_63 (by decide) (fun hc => ?_) (fun hc => ?_)
        · replace hF := q_f hc hF
          refine lv_iconst (v := 0) hx hb dX5_loadEnds_70 (by decide) ?_
          exact JX5_LOADENDS_71 Q_own_4 Q_far_4 x7_4 0 x7_4 x4_1 hF H locs ls hP hD hS (lv_sub hl [0, 1, 2, 3, 4, 5, 6] rfl)
        · replace hF := q_t hc hF
          refine lv_iconst (v := 1) hx hb dX5_loadEnds_66 (by decide) ?_
          refine lv_goto (tgt := 71) hx hb dX5_loadEnds_67 (by decide) ?_
          exact JX5_LOADENDS_71 Q_own_4 Q_far_4 x7_4 1 x7_4 x4_1 hF H locs ls hP hD hS (lv_sub hl [0, 1, 2, 3, 4, 5, 6] rfl)
    exact L4 (0, Q_own_1, Q_far_1) hc4 H locs ls hP hD hS (lv_sub hl [3, 4, 5, 6, 2, 1, 0] rfl)
  have JX5_LOADENDS_11 : ∀ (Q_own_17 : Nat → Int32) (Q_far_17 : Nat → Int32) (x2_17 : Int32) (x3_17 : Int32) (s0_17 : Int32), jX5_loadEnds_11 P_size P_uppers P_lowers Q_own_17 Q_far_17 O_places x2_17 x3_17 s0_17 = some res → ∀ (H : Heap) (locs : List Loc) (ls : Array Slot), va_P (dC, dI) vwCl (iX5_loadEnds aS aO cI cZ P_size P_uppers P_lowers Q_own_17 Q_far_17 Q_movers O_layers O_places) H → va_D A (iX5_loadEnds aS aO cI cZ P_size P_uppers P_lowers Q_own_17 Q_far_17 Q_movers O_layers O_places) → va_S A s.heap H locs → lv_has ls 11 [(0, .ref (aS 19)), (1, .ref (aO 0)), (2, .int x2_17), (3, .int x3_17)] → W p l e (headSpec wsX5_loadEnds (rX5_loadEnds)).room s m args below meth c H locs 0 0 Q (F0 m 11 ls [.int s0_17]) := by
    intro Q_own_17 Q_far_17 x2_17 x3_17 s0_17 hF H locs ls hP hD hS hl
    unfold jX5_loadEnds_11 at hF
    refine lv_istore (lv' := [(4, .int s0_17), (0, .ref (aS 19)), (1, .ref (aO 0)), (2, .int x2_17), (3, .int x3_17)]) hx hb dX5_loadEnds_11 hl (by decide) rfl (fun ls hl => ?_)
    refine lv_iload_n hx hb dX5_loadEnds_13 rfl (lv_at hl 4 rfl) ?_
    refine lv_if_eq (tgt := 23) hx hb dX5_loadEnds_14 (by decide) (fun hc => ?_) (fun hc => ?_)
    · replace hF := q_t hc hF
      refine lv_iload_n hx hb dX5_loadEnds_23 rfl (lv_at hl 3 rfl) ?_
      refine lv_iconst (v := 1) hx hb dX5_loadEnds_24 (by decide) ?_
      refine lv_iadd hx hb dX5_loadEnds_25 ?_
      exact JX5_LOADENDS_26 Q_own_17 Q_far_17 x3_17 s0_17 (x2_17 + 1) hF H locs ls hP hD hS (lv_sub hl [1, 2, 4, 0] rfl)
    · replace hF := q_f hc hF
      refine lv_iload_n hx hb dX5_loadEnds_17 rfl (lv_at hl 3 rfl) ?_
      refine lv_iconst (v := 1) hx hb dX5_loadEnds_18 (by decide) ?_
      refine lv_isub hx hb dX5_loadEnds_19 ?_
      refine lv_goto (tgt := 26) hx hb dX5_loadEnds_20 (by decide) ?_
      exact JX5_LOADENDS_26 Q_own_17 Q_far_17 x3_17 s0_17 (x2_17 - 1) hF H locs ls hP hD hS (lv_sub hl [1, 2, 4, 0] rfl)
  refine lv_iload_n hx hb dX5_loadEnds_0 rfl (lv_at hl 3 rfl) ?_
  refine lv_if_eq (tgt := 10) hx hb dX5_loadEnds_1 (by decide) (fun hc => ?_) (fun hc => ?_)
  · replace hF := q_t hc hF
    refine lv_iload_n hx hb dX5_loadEnds_10 rfl (lv_at hl 2 rfl) ?_
    exact JX5_LOADENDS_11 Q_own Q_far p1 p2 p1 hF H locs ls hP hD hS (lv_sub hl [0, 1, 2, 3] rfl)
  · replace hF := q_f hc hF
    refine lv_iload_n hx hb dX5_loadEnds_4 rfl (lv_at hl 2 rfl) ?_
    refine lv_iconst (v := 1) hx hb dX5_loadEnds_5 (by decide) ?_
    refine lv_isub hx hb dX5_loadEnds_6 ?_
    refine lv_goto (tgt := 11) hx hb dX5_loadEnds_7 (by decide) ?_
    exact JX5_LOADENDS_11 Q_own Q_far p1 p2 (p1 - 1) hF H locs ls hP hD hS (lv_sub hl [0, 1, 2, 3] rfl)
abbrev rX5_sortMovers : Room := { frames := 0, cells := 0, slots := 0, locals := 0 }
theorem eX5_sortMovers_X5 : ∀ w ∈ u_ws RX5 TX5 12, w ∈ wsX5_sortMovers := by decide +kernel
theorem uX5_sortMovers : yX5_sortMovers.cls = RX5 ∧ yX5_sortMovers.cls ≠ "java/lang/invoke/MethodHandle" ∧ yX5_sortMovers.cls ≠ "java/lang/invoke/VarHandle" ∧ (parseMethodDescriptor yX5_sortMovers.desc).map (fun d => d.parameters.length) = some 0 := by decide +kernel
set_option maxHeartbeats 4000000 in
set_option maxRecDepth 100000 in
theorem tX5_sortMovers (l : Launch) (dC : Nat → ClassId) (dI : Nat → Nat → Nat) (cI cZ : ClassId) (aS : Nat → Nat) (sz : Nat) (Q_median : Nat → Int32) (Q_stood : Nat → Int32) (Q_sorted : Nat → Int32) (Q_movers : Int32) (res : Int32 × (Nat → Int32)) (hF : fX5_sortMovers Q_median Q_stood Q_sorted Q_movers = some res) : q_Mi l yX5_sortMovers wsX5_sortMovers rX5_sortMovers (dC, dI) (q_ty cI cZ) [.ref (aS 19)] (iX5_sortMovers aS cI cZ Q_median Q_stood Q_sorted Q_movers) (iX5_sortMovers aS cI cZ Q_median Q_stood res.2 Q_movers) sz res.1 := by
  refine q_metz (cc := cX5_sortMovers) (maxL := 5) (by decide) rfl (Nat.le_of_ble_eq_true rfl) ?_
  intro p e s m args below meth c Q A H locs ls C hP hD hS hl hret
  obtain ⟨hx, hb, hml, hown, hts, hA, hK⟩ := C
  replace hl : lv_has ls 5 [(0, .ref (aS 19))] := hl
  have k0 := hts (.fieldLink RX5 53 "RouteLayout$Orderer" "movers" "I") (by decide +kernel)
  have k1 := hts (.fieldLink RX5 27 "RouteLayout$Orderer" "stood" "[I") (by decide +kernel)
  have k2 := hts (.fieldLink RX5 24 "RouteLayout$Orderer" "median" "[I") (by decide +kernel)
  have k3 := hts (.fieldLink RX5 30 "RouteLayout$Orderer" "sorted" "[I") (by decide +kernel)
  unfold fX5_sortMovers at hF
  refine lv_iconst (v := 0) hx hb dX5_sortMovers_0 (by decide) ?_
  refine lv_istore_n (lv' := [(1, .int 0), (0, .ref (aS 19))]) hx hb dX5_sortMovers_1 rfl hl (by decide) rfl (fun ls hl => ?_)
  refine lv_iconst (v := 0) hx hb dX5_sortMovers_2 (by decide) ?_
  refine lv_istore_n (lv' := [(2, .int 0), (1, .int 0), (0, .ref (aS 19))]) hx hb dX5_sortMovers_3 rfl hl (by decide) rfl (fun ls hl => ?_)
  obtain ⟨q1_0, q1_1, hc1, hF⟩ := q_bd2 hF
  have X1 : ∀ (u1_0 : Int32) (u1_1 : Nat → Int32), (u1_0, u1_1) = (q1_0, q1_1) → ∀ (H : Heap) (locs : List Loc) (ls : Array Slot), va_P (dC, dI) vwCl (iX5_sortMovers aS cI cZ Q_median Q_stood u1_1 Q_movers) H → va_D A (iX5_sortMovers aS cI cZ Q_median Q_stood u1_1 Q_movers) → va_S A s.heap H locs → lv_has ls 5 [(1, .int u1_0)] → W p l e (headSpec wsX5_sortMovers (rX5_sortMovers)).room s m args below meth c H locs 0 0 Q (F0 m 88 ls []) := by
    intro u1_0 u1_1 hu H locs ls hP hD hS hl
    obtain ⟨e0, e1⟩ := q_inj2 hu
    subst e0 e1
    refine lv_iload_n hx hb dX5_sortMovers_88 rfl (lv_at hl 0 rfl) ?_
    obtain ⟨hn11, hF⟩ := q_ck hF
    exact hret H locs ls 89 _ _ dX5_sortMovers_89 hn11 (congrArg Prod.fst (Option.some.inj hF)) (congrArg (fun z : Int32 × (Nat → Int32) => (iX5_sortMovers aS cI cZ Q_median Q_stood z.2 Q_movers)) (Option.some.inj hF)) hP hD hS
  have L1 : ∀ st : Int32 × Int32 × (Nat → Int32), q_lo (fun (st : Int32 × Int32 × (Nat → Int32)) => bX5_sortMovers_4 Q_median Q_stood Q_movers st.1 st.2.1 st.2.2) st = some (q1_0, q1_1) → ∀ (H : Heap) (locs : List Loc) (ls : Array Slot), va_P (dC, dI) vwCl (iX5_sortMovers aS cI cZ Q_median Q_stood st.2.2 Q_movers) H → va_D A (iX5_sortMovers aS cI cZ Q_median Q_stood st.2.2 Q_movers) → va_S A s.heap H locs → lv_has ls 5 [(0, .ref (aS 19)), (1, .int st.1), (2, .int st.2.1)] → W p l e (headSpec wsX5_sortMovers (rX5_sortMovers)).room s m args below meth c H locs 0 0 Q (F0 m 4 ls []) := by
    intro st hst
    refine q_walk (Wh := fun st : Int32 × Int32 × (Nat → Int32) => ∀ (H : Heap) (locs : List Loc) (ls : Array Slot), va_P (dC, dI) vwCl (iX5_sortMovers aS cI cZ Q_median Q_stood st.2.2 Q_movers) H → va_D A (iX5_sortMovers aS cI cZ Q_median Q_stood st.2.2 Q_movers) → va_S A s.heap H locs → lv_has ls 5 [(0, .ref (aS 19)), (1, .int st.1), (2, .int st.2.1)] → W p l e (headSpec wsX5_sortMovers (rX5_sortMovers)).room s m args below meth c H locs 0 0 Q (F0 m 4 ls [])) ?_ st hst
    clear hst st hF
    intro st o hF hin hex H locs ls hP hD hS hl
    obtain ⟨x1_1, x2_1, Q_sorted_1⟩ := st
    replace hF : bX5_sortMovers_4 Q_median Q_stood Q_movers x1_1 x2_1 Q_sorted_1 = some o := hF
    replace hP : va_P (dC, dI) vwCl (iX5_sortMovers aS cI cZ Q_median Q_stood Q_sorted_1 Q_movers) H := hP
    replace hD : va_D A (iX5_sortMovers aS cI cZ Q_median Q_stood Q_sorted_1 Q_movers) := hD
    replace hl : lv_has ls 5 [(0, .ref (aS 19)), (1, .int x1_1), (2, .int x2_1)] := hl
    unfold bX5_sortMovers_4 at hF
    refine lv_iload_n hx hb dX5_sortMovers_4 rfl (lv_at hl 2 rfl) ?_
    refine lv_aload_n hx hb dX5_sortMovers_5 rfl (lv_at hl 0 rfl) ?_
    refine q_get (ci := 5) (C := RX5) (T := TX5) (N := 12) hx hb hts eX5_sortMovers_X5 hown hK hP 0 rfl rfl 11 (Nat.le_of_ble_eq_true rfl) k0 rfl rfl dX5_sortMovers_6 ?_
    refine lv_icmp_ge (tgt := 88) hx hb dX5_sortMovers_9 (by decide) (fun hc => ?_) (fun hc => ?_)
    · replace hF := q_t hc hF
      exact X1 _ _ (hex _ (Option.some.inj hF).symm) H locs ls hP hD hS (lv_sub hl [1] rfl)
    · replace hF := q_f hc hF
      refine lv_aload_n hx hb dX5_sortMovers_12 rfl (lv_at hl 0 rfl) ?_
      refine q_get (ci := 5) (C := RX5) (T := TX5) (N := 12) hx hb hts eX5_sortMovers_X5 hown hK hP 0 rfl rfl 8 (Nat.le_of_ble_eq_true rfl) k1 rfl rfl dX5_sortMovers_13 ?_
      refine lv_iload_n hx hb dX5_sortMovers_16 rfl (lv_at hl 2 rfl) ?_
      obtain ⟨hn2, hF⟩ := q_ck hF
      refine va_iald hx hb hK hP 2 0 rfl rfl hn2 dX5_sortMovers_17 ?_
      obtain ⟨v3, hv3, hF⟩ := q_letE hF
      refine q_top hv3 ?_
      refine lv_istore_n (lv' := [(3, .int v3), (0, .ref (aS 19)), (1, .int x1_1), (2, .int x2_1)]) hx hb dX5_sortMovers_18 rfl hl (by decide) rfl (fun ls hl => ?_)
      refine lv_iload_n hx hb dX5_sortMovers_19 rfl (lv_at hl 3 rfl) ?_
      refine lv_istore (lv' := [(4, .int x2_1), (3, .int v3), (0, .ref (aS 19)), (1, .int x1_1), (2, .int x2_1)]) hx hb dX5_sortMovers_20 hl (by decide) rfl (fun ls hl => ?_)
      obtain ⟨q4_0, q4_1, q4_2, hc4, hF⟩ := q_bd3 hF
      have X4 : ∀ (u4_0 : Int32) (u4_1 : Int32) (u4_2 : Nat → Int32), (u4_0, u4_1, u4_2) = (q4_0, q4_1, q4_2) → ∀ (H : Heap) (locs : List Loc) (ls : Array Slot), va_P (dC, dI) vwCl (iX5_sortMovers aS cI cZ Q_median Q_stood u4_2 Q_movers) H → va_D A (iX5_sortMovers aS cI cZ Q_median Q_stood u4_2 Q_movers) → va_S A s.heap H locs → lv_has ls 5 [(0, .ref (aS 19)), (1, .int u4_0), (2, .int x2_1), (3, .int v3), (4, .int u4_1)] → W p l e (headSpec wsX5_sortMovers (rX5_sortMovers)).room s m args below meth c H locs 0 0 Q (F0 m 74 ls []) := by
        intro u4_0 u4_1 u4_2 hu H locs ls hP hD hS hl
        obtain ⟨e0, e1, e2⟩ := q_inj3 hu
        subst e0 e1 e2
        refine lv_aload_n hx hb dX5_sortMovers_74 rfl (lv_at hl 0 rfl) ?_
        refine q_get (ci := 5) (C := RX5) (T := TX5) (N := 12) hx hb hts eX5_sortMovers_X5 hown hK hP 0 rfl rfl 9 (Nat.le_of_ble_eq_true rfl) k3 rfl rfl dX5_sortMovers_75 ?_
        refine lv_iload hx hb dX5_sortMovers_78 (lv_at hl 4 rfl) ?_
        refine lv_iload_n hx hb dX5_sortMovers_80 rfl (lv_at hl 3 rfl) ?_
        obtain ⟨hn10, hF⟩ := q_ck hF
        refine q_iast hx hb hK hP hD hS 3 0 (iX5_sortMovers aS cI cZ Q_median Q_stood (upd u4_2 u4_1.toNatClampNeg v3) Q_movers) rfl rfl hn10 rfl dX5_sortMovers_81 (fun H locs hP hD hS => ?_)
        refine lv_iinc (v := (x2_1 + 1)) (lv' := [(2, .int (x2_1 + 1)), (0, .ref (aS 19)), (1, .int u4_0), (3, .int v3), (4, .int u4_1)]) hx hb dX5_sortMovers_82 hl (k := 2) rfl rfl (by decide) rfl (fun ls hl => ?_)
        refine lv_goto (tgt := 4) hx hb dX5_sortMovers_85 (by decide) ?_
        exact hin _ (Option.some.inj hF).symm H locs ls hP hD hS (lv_sub hl [1, 2, 0] rfl)
      have L4 : ∀ st : Int32 × Int32 × (Nat → Int32), q_lo (fun (st : Int32 × Int32 × (Nat → Int32)) => bX5_sortMovers_22 Q_median v3 st.1 st.2.1 st.2.2) st = some (q4_0, q4_1, q4_2) → ∀ (H : Heap) (locs : List Loc) (ls : Array Slot), va_P (dC, dI) vwCl (iX5_sortMovers aS cI cZ Q_median Q_stood st.2.2 Q_movers) H → va_D A (iX5_sortMovers aS cI cZ Q_median Q_stood st.2.2 Q_movers) → va_S A s.heap H locs → lv_has ls 5 [(0, .ref (aS 19)), (1, .int st.1), (2, .int x2_1), (3, .int v3), (4, .int st.2.1)] → W p l e (headSpec wsX5_sortMovers (rX5_sortMovers)).room s m args below meth c H locs 0 0 Q (F0 m 22 ls []) := by
        intro st hst
        refine q_walk (Wh := fun st : Int32 × Int32 × (Nat → Int32) => ∀ (H : Heap) (locs : List Loc) (ls : Array Slot), va_P (dC, dI) vwCl (iX5_sortMovers aS cI cZ Q_median Q_stood st.2.2 Q_movers) H → va_D A (iX5_sortMovers aS cI cZ Q_median Q_stood st.2.2 Q_movers) → va_S A s.heap H locs → lv_has ls 5 [(0, .ref (aS 19)), (1, .int st.1), (2, .int x2_1), (3, .int v3), (4, .int st.2.1)] → W p l e (headSpec wsX5_sortMovers (rX5_sortMovers)).room s m args below meth c H locs 0 0 Q (F0 m 22 ls [])) ?_ st hst
        clear hst st hF
        intro st o hF hin hex H locs ls hP hD hS hl
        obtain ⟨x1_4, x4_4, Q_sorted_4⟩ := st
        replace hF : bX5_sortMovers_22 Q_median v3 x1_4 x4_4 Q_sorted_4 = some o := hF
        replace hP : va_P (dC, dI) vwCl (iX5_sortMovers aS cI cZ Q_median Q_stood Q_sorted_4 Q_movers) H := hP
        replace hD : va_D A (iX5_sortMovers aS cI cZ Q_median Q_stood Q_sorted_4 Q_movers) := hD
        replace hl : lv_has ls 5 [(0, .ref (aS 19)), (1, .int x1_4), (2, .int x2_1), (3, .int v3), (4, .int x4_4)] := hl
        unfold bX5_sortMovers_22 at hF
        refine lv_iload hx hb dX5_sortMovers_22 (lv_at hl 4 rfl) ?_
        refine lv_if_le (tgt := 74) hx hb dX5_sortMovers_24 (by decide) (fun hc => ?_) (fun hc => ?_)
        · replace hF := q_t hc hF
          exact X4 _ _ _ (hex _ (Option.some.inj hF).symm) H locs ls hP hD hS (lv_sub hl [0, 1, 2, 3, 4] rfl)
        · replace hF := q_f hc hF
          refine lv_aload_n hx hb dX5_sortMovers_27 rfl (lv_at hl 0 rfl) ?_
          refine q_get (ci := 5) (C := RX5) (T := TX5) (N := 12) hx hb hts eX5_sortMovers_X5 hown hK hP 0 rfl rfl 7 (Nat.le_of_ble_eq_true rfl) k2 rfl rfl dX5_sortMovers_28 ?_
          refine lv_aload_n hx hb dX5_sortMovers_31 rfl (lv_at hl 0 rfl) ?_
          refine q_get (ci := 5) (C := RX5) (T := TX5) (N := 12) hx hb hts eX5_sortMovers_X5 hown hK hP 0 rfl rfl 9 (Nat.le_of_ble_eq_true rfl) k3 rfl rfl dX5_sortMovers_32 ?_
          refine lv_iload hx hb dX5_sortMovers_35 (lv_at hl 4 rfl) ?_
          refine lv_iconst (v := 1) hx hb dX5_sortMovers_37 (by decide) ?_
          refine lv_isub hx hb dX5_sortMovers_38 ?_
          obtain ⟨hn5, hF⟩ := q_ck hF
          refine va_iald hx hb hK hP 3 0 rfl rfl hn5 dX5_sortMovers_39 ?_
          obtain ⟨hn6, hF⟩ := q_ck hF
          refine va_iald hx hb hK hP 1 0 rfl rfl hn6 dX5_sortMovers_40 ?_
          refine lv_aload_n hx hb dX5_sortMovers_41 rfl (lv_at hl 0 rfl) ?_
          refine q_get (ci := 5) (C := RX5) (T := TX5) (N := 12) hx hb hts eX5_sortMovers_X5 hown hK hP 0 rfl rfl 7 (Nat.le_of_ble_eq_true rfl) k2 rfl rfl dX5_sortMovers_42 ?_
          refine lv_iload_n hx hb dX5_sortMovers_45 rfl (lv_at hl 3 rfl) ?_
          obtain ⟨hn7, hF⟩ := q_ck hF
          refine va_iald hx hb hK hP 1 0 rfl rfl hn7 dX5_sortMovers_46 ?_
          refine lv_icmp_le (tgt := 74) hx hb dX5_sortMovers_47 (by decide) (fun hc => ?_) (fun hc => ?_)
          · replace hF := q_t hc hF
            exact X4 _ _ _ (hex _ (Option.some.inj hF).symm) H locs ls hP hD hS (lv_sub hl [0, 1, 2, 3, 4] rfl)
          · replace hF := q_f hc hF
            refine lv_aload_n hx hb dX5_sortMovers_50 rfl (lv_at hl 0 rfl) ?_
            refine q_get (ci := 5) (C := RX5) (T := TX5) (N := 12) hx hb hts eX5_sortMovers_X5 hown hK hP 0 rfl rfl 9 (Nat.le_of_ble_eq_true rfl) k3 rfl rfl dX5_sortMovers_51 ?_
            refine lv_iload hx hb dX5_sortMovers_54 (lv_at hl 4 rfl) ?_
            refine lv_aload_n hx hb dX5_sortMovers_56 rfl (lv_at hl 0 rfl) ?_
            refine q_get (ci := 5) (C := RX5) (T := TX5) (N := 12) hx hb hts eX5_sortMovers_X5 hown hK hP 0 rfl rfl 9 (Nat.le_of_ble_eq_true rfl) k3 rfl rfl dX5_sortMovers_57 ?_
            refine lv_iload hx hb dX5_sortMovers_60 (lv_at hl 4 rfl) ?_
            refine lv_iconst (v := 1) hx hb dX5_sortMovers_62 (by decide) ?_
            refine lv_isub hx hb dX5_sortMovers_63 ?_
            obtain ⟨hn8, hF⟩ := q_ck hF
            refine va_iald hx hb hK hP 3 0 rfl rfl hn8 dX5_sortMovers_64 ?_
            obtain ⟨hn9, hF⟩ := q_ck hF
            refine q_iast hx hb hK hP hD hS 3 0 (iX5_sortMovers aS cI cZ Q_median Q_stood (upd Q_sorted_4 x4_4.toNatClampNeg (Q_sorted_4 (x4_4 - 1).toNatClampNeg)) Q_movers) rfl rfl hn9 rfl dX5_sortMovers_65 (fun H locs hP hD hS => ?_)
            refine lv_iinc (v := (x4_4 + (-1))) (lv' := [(4, .int (x4_4 + (-1))), (0, .ref (aS 19)), (1, .int x1_4), (2, .int x2_1), (3, .int v3)]) hx hb dX5_sortMovers_66 hl (k := 4) rfl rfl (by decide) rfl (fun ls hl => ?_)
            refine lv_iconst (v := 1) hx hb dX5_sortMovers_69 (by decide) ?_
            refine lv_istore_n (lv' := [(1, .int 1), (4, .int (x4_4 + (-1))), (0, .ref (aS 19)), (2, .int x2_1), (3, .int v3)]) hx hb dX5_sortMovers_70 rfl hl (by decide) rfl (fun ls hl => ?_)
            refine lv_goto (tgt := 22) hx hb dX5_sortMovers_71 (by decide) ?_
            exact hin _ (Option.some.inj hF).symm H locs ls hP hD hS (lv_sub hl [2, 0, 3, 4, 1] rfl)
      exact L4 (x1_1, x2_1, Q_sorted_1) hc4 H locs ls hP hD hS (lv_sub hl [2, 3, 4, 1, 0] rfl)
  exact L1 (0, 0, Q_sorted) hc1 H locs ls hP hD hS (lv_sub hl [2, 1, 0] rfl)
abbrev rX5_putMovers : Room := { frames := 2, cells := 0, slots := 0, locals := 44 }
theorem eX5_putMovers_X5 : ∀ w ∈ u_ws RX5 TX5 12, w ∈ wsX5_putMovers := by decide +kernel
theorem uX5_putMovers : yX5_putMovers.cls = RX5 ∧ yX5_putMovers.cls ≠ "java/lang/invoke/MethodHandle" ∧ yX5_putMovers.cls ≠ "java/lang/invoke/VarHandle" ∧ (parseMethodDescriptor yX5_putMovers.desc).map (fun d => d.parameters.length) = some 3 := by decide +kernel
set_option maxHeartbeats 4000000 in
set_option maxRecDepth 100000 in
theorem tX5_putMovers (l : Launch) (dC : Nat → ClassId) (dI : Nat → Nat → Nat) (cI cZ : ClassId) (aS : Nat → Nat) (aO : Nat → Nat) (aV : Nat) (sz : Nat) (Q_spots : Nat → Int32) (Q_movers : Int32) (O_layers : Int32) (O_size : Nat → Int32) (O_rows : Nat → Int32) (O_places : Nat → Int32) (O_home : Nat → Int32) (V_a : Nat → Int32) (p1 : Int32) (res : (Nat → Int32) × (Nat → Int32) × (Nat → Int32)) (hF : fX5_putMovers Q_spots Q_movers O_layers O_size O_rows O_places O_home V_a p1 = some res) : q_Mv l yX5_putMovers wsX5_putMovers rX5_putMovers (dC, dI) (q_ty cI cZ) [.ref (aS 19), .ref (aO 0), .int p1, .ref aV] (iX5_putMovers aS aO aV cI cZ Q_spots Q_movers O_layers O_size O_rows O_places O_home V_a) (iX5_putMovers aS aO aV cI cZ Q_spots Q_movers O_layers O_size res.1 res.2.1 res.2.2 V_a) sz := by
  refine q_metv (cc := cX5_putMovers) (maxL := 5) (by decide) rfl (Nat.le_of_ble_eq_true rfl) ?_
  intro p e s m args below meth c Q A H locs ls C hP hD hS hl hret
  obtain ⟨hx, hb, hml, hown, hts, hA, hK⟩ := C
  replace hl : lv_has ls 5 [(0, .ref (aS 19)), (1, .ref (aO 0)), (2, .int p1), (3, .ref aV)] := hl
  have k0 := hts (.fieldLink RX5 53 "RouteLayout$Orderer" "movers" "I") (by decide +kernel)
  have k1 := hts (.fieldLink RX5 33 "RouteLayout$Orderer" "spots" "[I") (by decide +kernel)
  unfold fX5_putMovers at hF
  refine lv_iconst (v := 0) hx hb dX5_putMovers_0 (by decide) ?_
  refine lv_istore (lv' := [(4, .int 0), (0, .ref (aS 19)), (1, .ref (aO 0)), (2, .int p1), (3, .ref aV)]) hx hb dX5_putMovers_1 hl (by decide) rfl (fun ls hl => ?_)
  obtain ⟨q1_0, q1_1, q1_2, hc1, hF⟩ := q_bd3 hF
  have X1 : ∀ (u1_0 : Nat → Int32) (u1_1 : Nat → Int32) (u1_2 : Nat → Int32), (u1_0, u1_1, u1_2) = (q1_0, q1_1, q1_2) → ∀ (H : Heap) (locs : List Loc) (ls : Array Slot), va_P (dC, dI) vwCl (iX5_putMovers aS aO aV cI cZ Q_spots Q_movers O_layers O_size u1_0 u1_1 u1_2 V_a) H → va_D A (iX5_putMovers aS aO aV cI cZ Q_spots Q_movers O_layers O_size u1_0 u1_1 u1_2 V_a) → va_S A s.heap H locs → lv_has ls 5 [] → W p l e (headSpec wsX5_putMovers (rX5_putMovers)).room s m args below meth c H locs 0 0 Q (F0 m 34 ls []) := by
    intro u1_0 u1_1 u1_2 hu H locs ls hP hD hS hl
    obtain ⟨e0, e1, e2⟩ := q_inj3 hu
    subst e0 e1 e2
    exact hret H locs ls 34 _ dX5_putMovers_34 (congrArg (fun z : (Nat → Int32) × (Nat → Int32) × (Nat → Int32) => (iX5_putMovers aS aO aV cI cZ Q_spots Q_movers O_layers O_size z.1 z.2.1 z.2.2 V_a)) (Option.some.inj hF)) hP hD hS
  have L1 : ∀ st : Int32 × (Nat → Int32) × (Nat → Int32) × (Nat → Int32), q_lo (fun (st : Int32 × (Nat → Int32) × (Nat → Int32) × (Nat → Int32)) => bX5_putMovers_3 Q_spots Q_movers O_layers O_size V_a p1 st.1 st.2.1 st.2.2.1 st.2.2.2) st = some (q1_0, q1_1, q1_2) → ∀ (H : Heap) (locs : List Loc) (ls : Array Slot), va_P (dC, dI) vwCl (iX5_putMovers aS aO aV cI cZ Q_spots Q_movers O_layers O_size st.2.1 st.2.2.1 st.2.2.2 V_a) H → va_D A (iX5_putMovers aS aO aV cI cZ Q_spots Q_movers O_layers O_size st.2.1 st.2.2.1 st.2.2.2 V_a) → va_S A s.heap H locs → lv_has ls 5 [(0, .ref (aS 19)), (1, .ref (aO 0)), (2, .int p1), (3, .ref aV), (4, .int st.1)] → W p l e (headSpec wsX5_putMovers (rX5_putMovers)).room s m args below meth c H locs 0 0 Q (F0 m 3 ls []) := by
    intro st hst
    refine q_walk (Wh := fun st : Int32 × (Nat → Int32) × (Nat → Int32) × (Nat → Int32) => ∀ (H : Heap) (locs : List Loc) (ls : Array Slot), va_P (dC, dI) vwCl (iX5_putMovers aS aO aV cI cZ Q_spots Q_movers O_layers O_size st.2.1 st.2.2.1 st.2.2.2 V_a) H → va_D A (iX5_putMovers aS aO aV cI cZ Q_spots Q_movers O_layers O_size st.2.1 st.2.2.1 st.2.2.2 V_a) → va_S A s.heap H locs → lv_has ls 5 [(0, .ref (aS 19)), (1, .ref (aO 0)), (2, .int p1), (3, .ref aV), (4, .int st.1)] → W p l e (headSpec wsX5_putMovers (rX5_putMovers)).room s m args below meth c H locs 0 0 Q (F0 m 3 ls [])) ?_ st hst
    clear hst st hF
    intro st o hF hin hex H locs ls hP hD hS hl
    obtain ⟨x4_1, O_rows_1, O_places_1, O_home_1⟩ := st
    replace hF : bX5_putMovers_3 Q_spots Q_movers O_layers O_size V_a p1 x4_1 O_rows_1 O_places_1 O_home_1 = some o := hF
    replace hP : va_P (dC, dI) vwCl (iX5_putMovers aS aO aV cI cZ Q_spots Q_movers O_layers O_size O_rows_1 O_places_1 O_home_1 V_a) H := hP
    replace hD : va_D A (iX5_putMovers aS aO aV cI cZ Q_spots Q_movers O_layers O_size O_rows_1 O_places_1 O_home_1 V_a) := hD
    replace hl : lv_has ls 5 [(0, .ref (aS 19)), (1, .ref (aO 0)), (2, .int p1), (3, .ref aV), (4, .int x4_1)] := hl
    unfold bX5_putMovers_3 at hF
    refine lv_iload hx hb dX5_putMovers_3 (lv_at hl 4 rfl) ?_
    refine lv_aload_n hx hb dX5_putMovers_5 rfl (lv_at hl 0 rfl) ?_
    refine q_get (ci := 5) (C := RX5) (T := TX5) (N := 12) hx hb hts eX5_putMovers_X5 hown hK hP 0 rfl rfl 11 (Nat.le_of_ble_eq_true rfl) k0 rfl rfl dX5_putMovers_6 ?_
    refine lv_icmp_ge (tgt := 34) hx hb dX5_putMovers_9 (by decide) (fun hc => ?_) (fun hc => ?_)
    · replace hF := q_t hc hF
      exact X1 _ _ _ (hex _ (Option.some.inj hF).symm) H locs ls hP hD hS (lv_sub hl [] rfl)
    · replace hF := q_f hc hF
      refine lv_aload_n hx hb dX5_putMovers_12 rfl (lv_at hl 1 rfl) ?_
      refine lv_iload_n hx hb dX5_putMovers_13 rfl (lv_at hl 2 rfl) ?_
      refine lv_aload_n hx hb dX5_putMovers_14 rfl (lv_at hl 0 rfl) ?_
      refine q_get (ci := 5) (C := RX5) (T := TX5) (N := 12) hx hb hts eX5_putMovers_X5 hown hK hP 0 rfl rfl 10 (Nat.le_of_ble_eq_true rfl) k1 rfl rfl dX5_putMovers_15 ?_
      refine lv_iload hx hb dX5_putMovers_18 (lv_at hl 4 rfl) ?_
      obtain ⟨hn2, hF⟩ := q_ck hF
      refine va_iald hx hb hK hP 1 0 rfl rfl hn2 dX5_putMovers_20 ?_
      refine lv_aload_n hx hb dX5_putMovers_21 rfl (lv_at hl 3 rfl) ?_
      refine lv_iload hx hb dX5_putMovers_22 (lv_at hl 4 rfl) ?_
      obtain ⟨hn3, hF⟩ := q_ck hF
      refine va_iald hx hb hK hP 7 0 rfl rfl hn3 dX5_putMovers_24 ?_
      obtain ⟨q4_0, q4_1, q4_2, hcq4, hF⟩ := q_bd3 hF
      refine q_Vv (As := [.int p1, .int (Q_spots x4_1.toNatClampNeg), .int (V_a x4_1.toNatClampNeg)]) (rest := []) ⟨hx, hb, hml, hown, hts⟩ hA hK hP hD hS (tX4_put l dC dI cI cZ aO H.size O_layers O_size O_rows_1 O_places_1 O_home_1 p1 (Q_spots x4_1.toNatClampNeg) (V_a x4_1.toNatClampNeg) (q4_0, q4_1, q4_2) hcq4) (cwV 3 hts gX5_putMovers_X4_put rfl rfl rfl uX4_put ⟨Nat.le_of_ble_eq_true rfl, Nat.le_of_ble_eq_true rfl⟩) [2, 3, 4, 5, 6] [(false, 0), (false, 1), (true, 0), (true, 1), (true, 2), (true, 3), (true, 4), (false, 7)] (iX5_putMovers aS aO aV cI cZ Q_spots Q_movers O_layers O_size q4_0 q4_1 q4_2 V_a) rfl rfl rfl rfl rfl 4 0 rfl rfl rfl rfl hl.1 rfl (Nat.le_of_ble_eq_true rfl) dX5_putMovers_25 ⟨Nat.zero_le _, Nat.zero_le _⟩ (fun H locs hP hD hS => ?_)
      refine lv_iinc (v := (x4_1 + 1)) (lv' := [(4, .int (x4_1 + 1)), (0, .ref (aS 19)), (1, .ref (aO 0)), (2, .int p1), (3, .ref aV)]) hx hb dX5_putMovers_28 hl (k := 4) rfl rfl (by decide) rfl (fun ls hl => ?_)
      refine lv_goto (tgt := 3) hx hb dX5_putMovers_31 (by decide) ?_
      exact hin _ (Option.some.inj hF).symm H locs ls hP hD hS (lv_sub hl [1, 2, 3, 4, 0] rfl)
  exact L1 (0, O_rows, O_places, O_home) hc1 H locs ls hP hD hS (lv_sub hl [1, 2, 3, 4, 0] rfl)
abbrev rX5_step : Room := { frames := 3, cells := 0, slots := 0, locals := 89 }
theorem eX5_step_X5 : ∀ w ∈ u_ws RX5 TX5 12, w ∈ wsX5_step := by decide +kernel
theorem uX5_step : yX5_step.cls = RX5 ∧ yX5_step.cls ≠ "java/lang/invoke/MethodHandle" ∧ yX5_step.cls ≠ "java/lang/invoke/VarHandle" ∧ (parseMethodDescriptor yX5_step.desc).map (fun d => d.parameters.length) = some 3 := by decide +kernel
set_option maxHeartbeats 4000000 in
set_option maxRecDepth 100000 in
theorem tX5_step (l : Launch) (dC : Nat → ClassId) (dI : Nat → Nat → Nat) (cI cZ : ClassId) (aS : Nat → Nat) (aO : Nat → Nat) (sz : Nat) (P_size : Nat → Int32) (P_uppers : Nat → Int32) (P_lowers : Nat → Int32) (X_upper : Nat → Int32) (X_lower : Nat → Int32) (Q_own : Nat → Int32) (Q_far : Nat → Int32) (Q_degree : Nat → Int32) (Q_seen : Nat → Int32) (Q_median : Nat → Int32) (Q_stood : Nat → Int32) (Q_sorted : Nat → Int32) (Q_spots : Nat → Int32) (Q_movers : Int32) (O_layers : Int32) (O_size : Nat → Int32) (O_rows : Nat → Int32) (O_places : Nat → Int32) (O_home : Nat → Int32) (p1 : Int32) (p2 : Int32) (res : (Nat → Int32) × (Nat → Int32) × (Nat → Int32) × (Nat → Int32) × (Nat → Int32) × (Nat → Int32) × (Nat → Int32) × (Nat → Int32) × (Nat → Int32) × (Nat → Int32) × Int32 × (Nat → Int32) × (Nat → Int32) × (Nat → Int32)) (hF : fX5_step P_size P_uppers P_lowers X_upper X_lower Q_own Q_far Q_stood Q_sorted Q_spots O_layers O_size O_rows O_places O_home p1 p2 = some res) : q_Mv l yX5_step wsX5_step rX5_step (dC, dI) (q_ty cI cZ) [.ref (aS 19), .ref (aO 0), .int p1, .int p2] (iX5_step aS aO cI cZ P_size P_uppers P_lowers X_upper X_lower Q_own Q_far Q_degree Q_seen Q_median Q_stood Q_sorted Q_spots Q_movers O_layers O_size O_rows O_places O_home) (iX5_step aS aO cI cZ P_size P_uppers P_lowers res.1 res.2.1 res.2.2.1 res.2.2.2.1 res.2.2.2.2.1 res.2.2.2.2.2.1 res.2.2.2.2.2.2.1 res.2.2.2.2.2.2.2.1 res.2.2.2.2.2.2.2.2.1 res.2.2.2.2.2.2.2.2.2.1 res.2.2.2.2.2.2.2.2.2.2.1 O_layers O_size res.2.2.2.2.2.2.2.2.2.2.2.1 res.2.2.2.2.2.2.2.2.2.2.2.2.1 res.2.2.2.2.2.2.2.2.2.2.2.2.2) sz := by
  refine q_metv (cc := cX5_step) (maxL := 5) (by decide) rfl (Nat.le_of_ble_eq_true rfl) ?_
  intro p e s m args below meth c Q A H locs ls C hP hD hS hl hret
  obtain ⟨hx, hb, hml, hown, hts, hA, hK⟩ := C
  replace hl : lv_has ls 5 [(0, .ref (aS 19)), (1, .ref (aO 0)), (2, .int p1), (3, .int p2)] := hl
  have k0 := hts (.fieldLink RX5 40 "RouteLayout$Orderer" "crossings" "LRouteLayout$Crossings;") (by decide +kernel)
  have k1 := hts (.fieldLink RX5 30 "RouteLayout$Orderer" "sorted" "[I") (by decide +kernel)
  have k2 := hts (.fieldLink RX5 27 "RouteLayout$Orderer" "stood" "[I") (by decide +kernel)
  unfold fX5_step at hF
  refine lv_aload_n hx hb dX5_step_0 rfl (lv_at hl 0 rfl) ?_
  refine lv_aload_n hx hb dX5_step_1 rfl (lv_at hl 0 rfl) ?_
  refine lv_aload_n hx hb dX5_step_2 rfl (lv_at hl 1 rfl) ?_
  refine lv_iload_n hx hb dX5_step_3 rfl (lv_at hl 2 rfl) ?_
  refine lv_iload_n hx hb dX5_step_4 rfl (lv_at hl 3 rfl) ?_
  obtain ⟨q1_0, q1_1, q1_2, hcq1, hF⟩ := q_bd3 hF
  refine q_Vi (As := [.ref (aO 0), .int p1, .int p2]) (rest := [.ref (aS 19)]) ⟨hx, hb, hml, hown, hts⟩ hA hK hP hD hS (tX5_loadEnds l dC dI cI cZ aS aO H.size P_size P_uppers P_lowers Q_own Q_far Q_movers O_layers O_places p1 p2 (q1_0, q1_1, q1_2) hcq1) (cwV 3 hts gX5_step_X5_loadEnds rfl rfl rfl uX5_loadEnds ⟨Nat.le_of_ble_eq_true rfl, Nat.le_of_ble_eq_true rfl⟩) [0, 1, 2, 3, 4, 8, 9, 16, 19] [(true, 0), (true, 1), (true, 2), (true, 3), (true, 4), (false, 5), (false, 6), (false, 7), (true, 5), (true, 6), (false, 10), (false, 11), (false, 12), (false, 13), (false, 14), (false, 15), (true, 7), (false, 17), (false, 18), (true, 8), (false, 20)] (iX5_step aS aO cI cZ P_size P_uppers P_lowers X_upper X_lower q1_1 q1_2 Q_degree Q_seen Q_median Q_stood Q_sorted Q_spots Q_movers O_layers O_size O_rows O_places O_home) rfl rfl rfl rfl rfl 5 0 rfl rfl rfl rfl hl.1 rfl (Nat.le_of_ble_eq_true rfl) dX5_step_5 ⟨Nat.zero_le _, Nat.zero_le _⟩ (fun H locs hP hD hS => ?_)
  obtain ⟨q2_0, q2_1, q2_2, hcq2, hF⟩ := q_bd3 hF
  refine q_Vv (As := [.int q1_0]) (rest := []) ⟨hx, hb, hml, hown, hts⟩ hA hK hP hD hS (tX5_findMedians l dC dI cI cZ aS H.size q1_1 q1_2 Q_degree Q_seen Q_median Q_movers q1_0 (q2_0, q2_1, q2_2) hcq2) (cwV 1 hts gX5_step_X5_findMedians rfl rfl rfl uX5_findMedians ⟨Nat.le_of_ble_eq_true rfl, Nat.le_of_ble_eq_true rfl⟩) [0, 8, 9, 10, 11, 12] [(true, 0), (false, 1), (false, 2), (false, 3), (false, 4), (false, 5), (false, 6), (false, 7), (true, 1), (true, 2), (true, 3), (true, 4), (true, 5), (false, 13), (false, 14), (false, 15), (false, 16), (false, 17), (false, 18), (false, 19), (false, 20)] (iX5_step aS aO cI cZ P_size P_uppers P_lowers X_upper X_lower q1_1 q1_2 q2_0 q2_1 q2_2 Q_stood Q_sorted Q_spots Q_movers O_layers O_size O_rows O_places O_home) rfl rfl rfl rfl rfl 5 0 rfl rfl rfl rfl hl.1 rfl (Nat.le_of_ble_eq_true rfl) dX5_step_8 ⟨Nat.zero_le _, Nat.zero_le _⟩ (fun H locs hP hD hS => ?_)
  refine lv_aload_n hx hb dX5_step_11 rfl (lv_at hl 0 rfl) ?_
  refine lv_aload_n hx hb dX5_step_12 rfl (lv_at hl 1 rfl) ?_
  refine lv_iload_n hx hb dX5_step_13 rfl (lv_at hl 2 rfl) ?_
  obtain ⟨q3_0, q3_1, q3_2, hcq3, hF⟩ := q_bd3 hF
  refine q_Vv (As := [.ref (aO 0), .int p1]) (rest := []) ⟨hx, hb, hml, hown, hts⟩ hA hK hP hD hS (tX5_gatherMovers l dC dI cI cZ aS aO H.size q2_2 Q_stood Q_spots Q_movers O_layers O_size O_rows p1 (q3_0, q3_1, q3_2) hcq3) (cwV 2 hts gX5_step_X5_gatherMovers rfl rfl rfl uX5_gatherMovers ⟨Nat.le_of_ble_eq_true rfl, Nat.le_of_ble_eq_true rfl⟩) [0, 12, 13, 15, 16, 17, 18] [(true, 0), (false, 1), (false, 2), (false, 3), (false, 4), (false, 5), (false, 6), (false, 7), (false, 8), (false, 9), (false, 10), (false, 11), (true, 1), (true, 2), (false, 14), (true, 3), (true, 4), (true, 5), (true, 6), (false, 19), (false, 20)] (iX5_step aS aO cI cZ P_size P_uppers P_lowers X_upper X_lower q1_1 q1_2 q2_0 q2_1 q2_2 q3_0 Q_sorted q3_1 q3_2 O_layers O_size O_rows O_places O_home) rfl rfl rfl rfl rfl 5 0 rfl rfl rfl rfl hl.1 rfl (Nat.le_of_ble_eq_true rfl) dX5_step_14 ⟨Nat.zero_le _, Nat.zero_le _⟩ (fun H locs hP hD hS => ?_)
  refine lv_aload_n hx hb dX5_step_17 rfl (lv_at hl 0 rfl) ?_
  obtain ⟨q4_0, q4_1, hcq4, hF⟩ := q_bd2 hF
  refine q_Vi (As := []) (rest := []) ⟨hx, hb, hml, hown, hts⟩ hA hK hP hD hS (tX5_sortMovers l dC dI cI cZ aS H.size q2_2 q3_0 Q_sorted q3_2 (q4_0, q4_1) hcq4) (cwV 0 hts gX5_step_X5_sortMovers rfl rfl rfl uX5_sortMovers ⟨Nat.le_of_ble_eq_true rfl, Nat.le_of_ble_eq_true rfl⟩) [0, 12, 13, 14] [(true, 0), (false, 1), (false, 2), (false, 3), (false, 4), (false, 5), (false, 6), (false, 7), (false, 8), (false, 9), (false, 10), (false, 11), (true, 1), (true, 2), (true, 3), (false, 15), (false, 16), (false, 17), (false, 18), (false, 19), (false, 20)] (iX5_step aS aO cI cZ P_size P_uppers P_lowers X_upper X_lower q1_1 q1_2 q2_0 q2_1 q2_2 q3_0 q4_1 q3_1 q3_2 O_layers O_size O_rows O_places O_home) rfl rfl rfl rfl rfl 5 0 rfl rfl rfl rfl hl.1 rfl (Nat.le_of_ble_eq_true rfl) dX5_step_18 ⟨Nat.zero_le _, Nat.zero_le _⟩ (fun H locs hP hD hS => ?_)
  refine lv_if_ne (tgt := 25) hx hb dX5_step_21 (by decide) (fun hc => ?_) (fun hc => ?_)
  · replace hF := q_f hc hF
    refine lv_aload_n hx hb dX5_step_25 rfl (lv_at hl 0 rfl) ?_
    refine q_get (ci := 5) (C := RX5) (T := TX5) (N := 12) hx hb hts eX5_step_X5 hown hK hP 0 rfl rfl 1 (Nat.le_of_ble_eq_true rfl) k0 rfl rfl dX5_step_26 ?_
    refine lv_aload_n hx hb dX5_step_29 rfl (lv_at hl 1 rfl) ?_
    refine lv_iload_n hx hb dX5_step_30 rfl (lv_at hl 2 rfl) ?_
    obtain ⟨q5_0, q5_1, q5_2, hcq5, hF⟩ := q_bd3 hF
    refine q_Vi (As := [.ref (aO 0), .int p1]) (rest := []) ⟨hx, hb, hml, hown, hts⟩ hA hK hP hD hS (tX2_around l dC dI cI cZ aS aO H.size P_size P_uppers P_lowers X_upper X_lower O_layers O_places p1 (q5_0, q5_1, q5_2) hcq5) (cwV 2 hts gX5_step_X2_around rfl rfl rfl uX2_around ⟨Nat.le_of_ble_eq_true rfl, Nat.le_of_ble_eq_true rfl⟩) [5, 1, 2, 3, 4, 6, 7, 16, 19] [(false, 0), (true, 1), (true, 2), (true, 3), (true, 4), (true, 0), (true, 5), (true, 6), (false, 8), (false, 9), (false, 10), (false, 11), (false, 12), (false, 13), (false, 14), (false, 15), (true, 7), (false, 17), (false, 18), (true, 8), (false, 20)] (iX5_step aS aO cI cZ P_size P_uppers P_lowers q5_1 q5_2 q1_1 q1_2 q2_0 q2_1 q2_2 q3_0 q4_1 q3_1 q3_2 O_layers O_size O_rows O_places O_home) rfl rfl rfl rfl rfl 2 0 rfl rfl rfl rfl hl.1 rfl (Nat.le_of_ble_eq_true rfl) dX5_step_31 ⟨Nat.zero_le _, Nat.zero_le _⟩ (fun H locs hP hD hS => ?_)
    refine lv_istore (lv' := [(4, .int q5_0), (0, .ref (aS 19)), (1, .ref (aO 0)), (2, .int p1), (3, .int p2)]) hx hb dX5_step_34 hl (by decide) rfl (fun ls hl => ?_)
    refine lv_aload_n hx hb dX5_step_36 rfl (lv_at hl 1 rfl) ?_
    refine lv_aload_n hx hb dX5_step_37 rfl (lv_at hl 2 rfl) ?_
    refine lv_iload_n hx hb dX5_step_38 rfl (lv_at hl 3 rfl) ?_
    refine lv_aload_n hx hb dX5_step_39 rfl (lv_at hl 1 rfl) ?_
    refine q_get (ci := 5) (C := RX5) (T := TX5) (N := 12) hx hb hts eX5_step_X5 hown hK hP 0 rfl rfl 9 (Nat.le_of_ble_eq_true rfl) k1 rfl rfl dX5_step_40 ?_
    obtain ⟨q6_0, q6_1, q6_2, hcq6, hF⟩ := q_bd3 hF
    refine q_Vv (As := [.ref (aO 0), .int p1, .ref (aS 26)]) (rest := []) ⟨hx, hb, hml, hown, hts⟩ hA hK hP hD hS (tX5_putMovers l dC dI cI cZ aS aO (aS 26) H.size q3_1 q3_2 O_layers O_size O_rows O_places O_home q4_1 p1 (q6_0, q6_1, q6_2) hcq6) (cwV 3 hts gX5_step_X5_putMovers rfl rfl rfl uX5_putMovers ⟨Nat.le_of_ble_eq_true rfl, Nat.le_of_ble_eq_true rfl⟩) [0, 15, 16, 17, 18, 19, 20, 14] [(true, 0), (false, 1), (false, 2), (false, 3), (false, 4), (false, 5), (false, 6), (false, 7), (false, 8), (false, 9), (false, 10), (false, 11), (false, 12), (false, 13), (true, 7), (true, 1), (true, 2), (true, 3), (true, 4), (true, 5), (true, 6)] (iX5_step aS aO cI cZ P_size P_uppers P_lowers q5_1 q5_2 q1_1 q1_2 q2_0 q2_1 q2_2 q3_0 q4_1 q3_1 q3_2 O_layers O_size q6_0 q6_1 q6_2) rfl rfl rfl rfl rfl 5 0 rfl rfl rfl rfl hl.1 rfl (Nat.le_of_ble_eq_true rfl) dX5_step_43 ⟨Nat.zero_le _, Nat.zero_le _⟩ (fun H locs hP hD hS => ?_)
    refine lv_aload_n hx hb dX5_step_46 rfl (lv_at hl 1 rfl) ?_
    refine q_get (ci := 5) (C := RX5) (T := TX5) (N := 12) hx hb hts eX5_step_X5 hown hK hP 0 rfl rfl 1 (Nat.le_of_ble_eq_true rfl) k0 rfl rfl dX5_step_47 ?_
    refine lv_aload_n hx hb dX5_step_50 rfl (lv_at hl 2 rfl) ?_
    refine lv_iload_n hx hb dX5_step_51 rfl (lv_at hl 3 rfl) ?_
    obtain ⟨q7_0, q7_1, q7_2, hcq7, hF⟩ := q_bd3 hF
    refine q_Vi (As := [.ref (aO 0), .int p1]) (rest := []) ⟨hx, hb, hml, hown, hts⟩ hA hK hP hD hS (tX2_around l dC dI cI cZ aS aO H.size P_size P_uppers P_lowers q5_1 q5_2 O_layers q6_1 p1 (q7_0, q7_1, q7_2) hcq7) (cwV 2 hts gX5_step_X2_around rfl rfl rfl uX2_around ⟨Nat.le_of_ble_eq_true rfl, Nat.le_of_ble_eq_true rfl⟩) [5, 1, 2, 3, 4, 6, 7, 16, 19] [(false, 0), (true, 1), (true, 2), (true, 3), (true, 4), (true, 0), (true, 5), (true, 6), (false, 8), (false, 9), (false, 10), (false, 11), (false, 12), (false, 13), (false, 14), (false, 15), (true, 7), (false, 17), (false, 18), (true, 8), (false, 20)] (iX5_step aS aO cI cZ P_size P_uppers P_lowers q7_1 q7_2 q1_1 q1_2 q2_0 q2_1 q2_2 q3_0 q4_1 q3_1 q3_2 O_layers O_size q6_0 q6_1 q6_2) rfl rfl rfl rfl rfl 2 0 rfl rfl rfl rfl hl.1 rfl (Nat.le_of_ble_eq_true rfl) dX5_step_52 ⟨Nat.zero_le _, Nat.zero_le _⟩ (fun H locs hP hD hS => ?_)
    refine lv_iload hx hb dX5_step_55 (lv_at hl 0 rfl) ?_
    refine lv_icmp_le (tgt := 70) hx hb dX5_step_57 (by decide) (fun hc => ?_) (fun hc => ?_)
    · replace hF := q_t hc hF
      exact hret H locs ls 70 _ dX5_step_70 (congrArg (fun z : (Nat → Int32) × (Nat → Int32) × (Nat → Int32) × (Nat → Int32) × (Nat → Int32) × (Nat → Int32) × (Nat → Int32) × (Nat → Int32) × (Nat → Int32) × (Nat → Int32) × Int32 × (Nat → Int32) × (Nat → Int32) × (Nat → Int32) => (iX5_step aS aO cI cZ P_size P_uppers P_lowers z.1 z.2.1 z.2.2.1 z.2.2.2.1 z.2.2.2.2.1 z.2.2.2.2.2.1 z.2.2.2.2.2.2.1 z.2.2.2.2.2.2.2.1 z.2.2.2.2.2.2.2.2.1 z.2.2.2.2.2.2.2.2.2.1 z.2.2.2.2.2.2.2.2.2.2.1 O_layers O_size z.2.2.2.2.2.2.2.2.2.2.2.1 z.2.2.2.2.2.2.2.2.2.2.2.2.1 z.2.2.2.2.2.2.2.2.2.2.2.2.2)) (Option.some.inj hF)) hP hD hS
    · replace hF := q_f hc hF
      refine lv_aload_n hx hb dX5_step_60 rfl (lv_at hl 1 rfl) ?_
      refine lv_aload_n hx hb dX5_step_61 rfl (lv_at hl 2 rfl) ?_
      refine lv_iload_n hx hb dX5_step_62 rfl (lv_at hl 3 rfl) ?_
      refine lv_aload_n hx hb dX5_step_63 rfl (lv_at hl 1 rfl) ?_
      refine q_get (ci := 5) (C := RX5) (T := TX5) (N := 12) hx hb hts eX5_step_X5 hown hK hP 0 rfl rfl 8 (Nat.le_of_ble_eq_true rfl) k2 rfl rfl dX5_step_64 ?_
      obtain ⟨q8_0, q8_1, q8_2, hcq8, hF⟩ := q_bd3 hF
      refine q_Vv (As := [.ref (aO 0), .int p1, .ref (aS 25)]) (rest := []) ⟨hx, hb, hml, hown, hts⟩ hA hK hP hD hS (tX5_putMovers l dC dI cI cZ aS aO (aS 25) H.size q3_1 q3_2 O_layers O_size q6_0 q6_1 q6_2 q3_0 p1 (q8_0, q8_1, q8_2) hcq8) (cwV 3 hts gX5_step_X5_putMovers rfl rfl rfl uX5_putMovers ⟨Nat.le_of_ble_eq_true rfl, Nat.le_of_ble_eq_true rfl⟩) [0, 15, 16, 17, 18, 19, 20, 13] [(true, 0), (false, 1), (false, 2), (false, 3), (false, 4), (false, 5), (false, 6), (false, 7), (false, 8), (false, 9), (false, 10), (false, 11), (false, 12), (true, 7), (false, 14), (true, 1), (true, 2), (true, 3), (true, 4), (true, 5), (true, 6)] (iX5_step aS aO cI cZ P_size P_uppers P_lowers q7_1 q7_2 q1_1 q1_2 q2_0 q2_1 q2_2 q3_0 q4_1 q3_1 q3_2 O_layers O_size q8_0 q8_1 q8_2) rfl rfl rfl rfl rfl 5 0 rfl rfl rfl rfl hl.1 rfl (Nat.le_of_ble_eq_true rfl) dX5_step_67 ⟨Nat.zero_le _, Nat.zero_le _⟩ (fun H locs hP hD hS => ?_)
      exact hret H locs ls 70 _ dX5_step_70 (congrArg (fun z : (Nat → Int32) × (Nat → Int32) × (Nat → Int32) × (Nat → Int32) × (Nat → Int32) × (Nat → Int32) × (Nat → Int32) × (Nat → Int32) × (Nat → Int32) × (Nat → Int32) × Int32 × (Nat → Int32) × (Nat → Int32) × (Nat → Int32) => (iX5_step aS aO cI cZ P_size P_uppers P_lowers z.1 z.2.1 z.2.2.1 z.2.2.2.1 z.2.2.2.2.1 z.2.2.2.2.2.1 z.2.2.2.2.2.2.1 z.2.2.2.2.2.2.2.1 z.2.2.2.2.2.2.2.2.1 z.2.2.2.2.2.2.2.2.2.1 z.2.2.2.2.2.2.2.2.2.2.1 O_layers O_size z.2.2.2.2.2.2.2.2.2.2.2.1 z.2.2.2.2.2.2.2.2.2.2.2.2.1 z.2.2.2.2.2.2.2.2.2.2.2.2.2)) (Option.some.inj hF)) hP hD hS
  · replace hF := q_t hc hF
    exact hret H locs ls 24 _ dX5_step_24 (congrArg (fun z : (Nat → Int32) × (Nat → Int32) × (Nat → Int32) × (Nat → Int32) × (Nat → Int32) × (Nat → Int32) × (Nat → Int32) × (Nat → Int32) × (Nat → Int32) × (Nat → Int32) × Int32 × (Nat → Int32) × (Nat → Int32) × (Nat → Int32) => (iX5_step aS aO cI cZ P_size P_uppers P_lowers z.1 z.2.1 z.2.2.1 z.2.2.2.1 z.2.2.2.2.1 z.2.2.2.2.2.1 z.2.2.2.2.2.2.1 z.2.2.2.2.2.2.2.1 z.2.2.2.2.2.2.2.2.1 z.2.2.2.2.2.2.2.2.2.1 z.2.2.2.2.2.2.2.2.2.2.1 O_layers O_size z.2.2.2.2.2.2.2.2.2.2.2.1 z.2.2.2.2.2.2.2.2.2.2.2.2.1 z.2.2.2.2.2.2.2.2.2.2.2.2.2)) (Option.some.inj hF)) hP hD hS
