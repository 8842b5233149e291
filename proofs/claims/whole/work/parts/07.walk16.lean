/-! Written by wip/whole/gen.py: walks of X10_remove, X10_reversed, X10_thrown. -/
abbrev rX10_remove : Room := { frames := 1, cells := 0, slots := 0, locals := 22 }
theorem eX10_remove_X10 : ∀ w ∈ u_ws RX10 TX10 24, w ∈ wsX10_remove := by decide +kernel
theorem uX10_remove : yX10_remove.cls = RX10 ∧ yX10_remove.cls ≠ "java/lang/invoke/MethodHandle" ∧ yX10_remove.cls ≠ "java/lang/invoke/VarHandle" ∧ (parseMethodDescriptor yX10_remove.desc).map (fun d => d.parameters.length) = some 1 := by decide +kernel
set_option maxHeartbeats 4000000 in
set_option maxRecDepth 100000 in
theorem tX10_remove (l : Launch) (dC : Nat → ClassId) (dI : Nat → Nat → Nat) (cI cZ : ClassId) (aZ : Nat → Nat) (sz : Nat) (Z_code : Int32) (Z_isBox : Nat → Int32) (Z_isArrow : Nat → Int32) (Z_from : Nat → Int32) (Z_to : Nat → Int32) (Z_told : Int32) (Z_layers : Int32) (p0 : Int32) (res : Int32 × Int32 × (Nat → Int32) × (Nat → Int32) × Int32) (hF : fX10_remove Z_isBox Z_isArrow Z_from Z_to Z_told p0 = some res) : q_Mi l yX10_remove wsX10_remove rX10_remove (dC, dI) (q_ty cI cZ) [.ref (aZ 0), .int p0] (iX10_remove aZ cI cZ Z_code Z_isBox Z_isArrow Z_from Z_to Z_told Z_layers) (iX10_remove aZ cI cZ res.2.1 res.2.2.1 res.2.2.2.1 Z_from Z_to res.2.2.2.2 Z_layers) sz res.1 := by
  refine q_metz (cc := cX10_remove) (maxL := 3) (by decide) rfl (Nat.le_of_ble_eq_true rfl) ?_
  intro p e s m args below meth c Q A H locs ls C hP hD hS hl hret
  obtain ⟨hx, hb, hml, hown, hts, hA, hK⟩ := C
  replace hl : lv_has ls 3 [(0, .ref (aZ 0)), (1, .int p0)] := hl
  have k0 := hts (.fieldLink RX10 74 "RouteLayoutModel" "code" "I") (by decide +kernel)
  have k1 := hts (.fieldLink RX10 7 "RouteLayoutModel" "isBox" "[Z") (by decide +kernel)
  have k2 := hts (.fieldLink RX10 20 "RouteLayoutModel" "isArrow" "[Z") (by decide +kernel)
  have k3 := hts (.fieldLink RX10 23 "RouteLayoutModel" "from" "[I") (by decide +kernel)
  have k4 := hts (.fieldLink RX10 26 "RouteLayoutModel" "to" "[I") (by decide +kernel)
  have k5 := hts (.fieldLink RX10 82 "RouteLayoutModel" "told" "Z") (by decide +kernel)
  unfold fX10_remove at hF
  have JX10_REMOVE_16 : ∀ (Z_code_1 : Int32) (Z_isBox_1 : Nat → Int32) (Z_isArrow_1 : Nat → Int32) (Z_told_1 : Int32) (x1_1 : Int32) (s0_1 : Int32), jX10_remove_16 Z_isBox_1 Z_isArrow_1 Z_from Z_to Z_told_1 x1_1 s0_1 = some res → ∀ (H : Heap) (locs : List Loc) (ls : Array Slot), va_P (dC, dI) vwCl (iX10_remove aZ cI cZ Z_code_1 Z_isBox_1 Z_isArrow_1 Z_from Z_to Z_told_1 Z_layers) H → va_D A (iX10_remove aZ cI cZ Z_code_1 Z_isBox_1 Z_isArrow_1 Z_from Z_to Z_told_1 Z_layers) → va_S A s.heap H locs → lv_has ls 3 [(0, .ref (aZ 0)), (1, .int x1_1)] → W p l e (headSpec wsX10_remove (rX10_remove)).room s m args below meth c H locs 0 0 Q (F0 m 16 ls [.int s0_1, .ref (aZ 0)]) := by
    intro Z_code_1 Z_isBox_1 Z_isArrow_1 Z_told_1 x1_1 s0_1 hF H locs ls hP hD hS hl
    unfold jX10_remove_16 at hF
    refine q_put (ci := 10) (C := RX10) (T := TX10) (N := 24) (ty := .int) hx hb hts eX10_remove_X10 tyX10 tyX10_ok nmX10 hown hK hP hD hS 0 (iX10_remove aZ cI cZ s0_1 Z_isBox_1 Z_isArrow_1 Z_from Z_to Z_told_1 Z_layers) rfl rfl 0 (Nat.le_of_ble_eq_true rfl) k0 rfl rfl (by decide +kernel) rfl rfl (Nat.le_of_ble_eq_true rfl) rfl dX10_remove_16 (fun H locs hP hD hS => ?_)
    refine lv_aload_n hx hb dX10_remove_19 rfl (lv_at hl 0 rfl) ?_
    refine q_get (ci := 10) (C := RX10) (T := TX10) (N := 24) hx hb hts eX10_remove_X10 hown hK hP 0 rfl rfl 0 (Nat.le_of_ble_eq_true rfl) k0 rfl rfl dX10_remove_20 ?_
    refine lv_if_gt (tgt := 35) hx hb dX10_remove_23 (by decide) (fun hc => ?_) (fun hc => ?_)
    · replace hF := q_t hc hF
      refine lv_iconst (v := 0) hx hb dX10_remove_35 (by decide) ?_
      exact hret H locs ls 36 _ _ dX10_remove_36 (Or.inl rfl) (congrArg Prod.fst (Option.some.inj hF)) (congrArg (fun z : Int32 × Int32 × (Nat → Int32) × (Nat → Int32) × Int32 => (iX10_remove aZ cI cZ z.2.1 z.2.2.1 z.2.2.2.1 Z_from Z_to z.2.2.2.2 Z_layers)) (Option.some.inj hF)) hP hD hS
    · replace hF := q_f hc hF
      refine lv_aload_n hx hb dX10_remove_26 rfl (lv_at hl 0 rfl) ?_
      refine q_get (ci := 10) (C := RX10) (T := TX10) (N := 24) hx hb hts eX10_remove_X10 hown hK hP 0 rfl rfl 1 (Nat.le_of_ble_eq_true rfl) k1 rfl rfl dX10_remove_27 ?_
      refine lv_iload_n hx hb dX10_remove_30 rfl (lv_at hl 1 rfl) ?_
      obtain ⟨hn2, hF⟩ := q_ck hF
      refine va_zald hx hb hK hP 1 1 rfl rfl hn2 dX10_remove_31 ?_
      refine lv_if_ne (tgt := 37) hx hb dX10_remove_32 (by decide) (fun hc => ?_) (fun hc => ?_)
      · replace hF := q_f hc hF
        refine lv_aload_n hx hb dX10_remove_37 rfl (lv_at hl 0 rfl) ?_
        refine q_get (ci := 10) (C := RX10) (T := TX10) (N := 24) hx hb hts eX10_remove_X10 hown hK hP 0 rfl rfl 1 (Nat.le_of_ble_eq_true rfl) k1 rfl rfl dX10_remove_38 ?_
        refine lv_iload_n hx hb dX10_remove_41 rfl (lv_at hl 1 rfl) ?_
        refine lv_iconst (v := 0) hx hb dX10_remove_42 (by decide) ?_
        obtain ⟨hn3, hF⟩ := q_ck hF
        refine q_zast hx hb hK hP hD hS 1 1 (iX10_remove aZ cI cZ s0_1 (upd Z_isBox_1 x1_1.toNatClampNeg 0) Z_isArrow_1 Z_from Z_to Z_told_1 Z_layers) rfl rfl hn3 (Or.inl rfl) rfl dX10_remove_43 (fun H locs hP hD hS => ?_)
        refine lv_iconst (v := 0) hx hb dX10_remove_44 (by decide) ?_
        refine lv_istore_n (lv' := [(2, .int 0), (0, .ref (aZ 0)), (1, .int x1_1)]) hx hb dX10_remove_45 rfl hl (by decide) rfl (fun ls hl => ?_)
        obtain ⟨q4, hc4, hF⟩ := q_bd hF
        have X4 : ∀ (u4 : Nat → Int32), u4 = q4 → ∀ (H : Heap) (locs : List Loc) (ls : Array Slot), va_P (dC, dI) vwCl (iX10_remove aZ cI cZ s0_1 (upd Z_isBox_1 x1_1.toNatClampNeg 0) u4 Z_from Z_to Z_told_1 Z_layers) H → va_D A (iX10_remove aZ cI cZ s0_1 (upd Z_isBox_1 x1_1.toNatClampNeg 0) u4 Z_from Z_to Z_told_1 Z_layers) → va_S A s.heap H locs → lv_has ls 3 [(0, .ref (aZ 0))] → W p l e (headSpec wsX10_remove (rX10_remove)).room s m args below meth c H locs 0 0 Q (F0 m 85 ls []) := by
          intro u4 hu H locs ls hP hD hS hl
          subst hu
          refine lv_aload_n hx hb dX10_remove_85 rfl (lv_at hl 0 rfl) ?_
          refine lv_iconst (v := 0) hx hb dX10_remove_86 (by decide) ?_
          refine q_put (ci := 10) (C := RX10) (T := TX10) (N := 24) (ty := .boolean) hx hb hts eX10_remove_X10 tyX10 tyX10_ok nmX10 hown hK hP hD hS 0 (iX10_remove aZ cI cZ s0_1 (upd Z_isBox_1 x1_1.toNatClampNeg 0) u4 Z_from Z_to 0 Z_layers) rfl rfl 8 (Nat.le_of_ble_eq_true rfl) k5 rfl rfl (by decide +kernel) (q_narz (Or.inl rfl)) rfl (Nat.le_of_ble_eq_true rfl) rfl dX10_remove_87 (fun H locs hP hD hS => ?_)
          refine lv_iconst (v := 1) hx hb dX10_remove_90 (by decide) ?_
          exact hret H locs ls 91 _ _ dX10_remove_91 (Or.inr rfl) (congrArg Prod.fst (Option.some.inj hF)) (congrArg (fun z : Int32 × Int32 × (Nat → Int32) × (Nat → Int32) × Int32 => (iX10_remove aZ cI cZ z.2.1 z.2.2.1 z.2.2.2.1 Z_from Z_to z.2.2.2.2 Z_layers)) (Option.some.inj hF)) hP hD hS
        have L4 : ∀ st : Int32 × (Nat → Int32), q_lo (fun (st : Int32 × (Nat → Int32)) => bX10_remove_46 Z_from Z_to x1_1 st.1 st.2) st = some q4 → ∀ (H : Heap) (locs : List Loc) (ls : Array Slot), va_P (dC, dI) vwCl (iX10_remove aZ cI cZ s0_1 (upd Z_isBox_1 x1_1.toNatClampNeg 0) st.2 Z_from Z_to Z_told_1 Z_layers) H → va_D A (iX10_remove aZ cI cZ s0_1 (upd Z_isBox_1 x1_1.toNatClampNeg 0) st.2 Z_from Z_to Z_told_1 Z_layers) → va_S A s.heap H locs → lv_has ls 3 [(0, .ref (aZ 0)), (1, .int x1_1), (2, .int st.1)] → W p l e (headSpec wsX10_remove (rX10_remove)).room s m args below meth c H locs 0 0 Q (F0 m 46 ls []) := by
          intro st hst
          refine q_walk (Wh := fun st : Int32 × (Nat → Int32) => ∀ (H : Heap) (locs : List Loc) (ls : Array Slot), va_P (dC, dI) vwCl (iX10_remove aZ cI cZ s0_1 (upd Z_isBox_1 x1_1.toNatClampNeg 0) st.2 Z_from Z_to Z_told_1 Z_layers) H → va_D A (iX10_remove aZ cI cZ s0_1 (upd Z_isBox_1 x1_1.toNatClampNeg 0) st.2 Z_from Z_to Z_told_1 Z_layers) → va_S A s.heap H locs → lv_has ls 3 [(0, .ref (aZ 0)), (1, .int x1_1), (2, .int st.1)] → W p l e (headSpec wsX10_remove (rX10_remove)).room s m args below meth c H locs 0 0 Q (F0 m 46 ls [])) ?_ st hst
          clear hst st hF
          intro st o hF hin hex H locs ls hP hD hS hl
          obtain ⟨x2_4, Z_isArrow_4⟩ := st
          replace hF : bX10_remove_46 Z_from Z_to x1_1 x2_4 Z_isArrow_4 = some o := hF
          replace hP : va_P (dC, dI) vwCl (iX10_remove aZ cI cZ s0_1 (upd Z_isBox_1 x1_1.toNatClampNeg 0) Z_isArrow_4 Z_from Z_to Z_told_1 Z_layers) H := hP
          replace hD : va_D A (iX10_remove aZ cI cZ s0_1 (upd Z_isBox_1 x1_1.toNatClampNeg 0) Z_isArrow_4 Z_from Z_to Z_told_1 Z_layers) := hD
          replace hl : lv_has ls 3 [(0, .ref (aZ 0)), (1, .int x1_1), (2, .int x2_4)] := hl
          unfold bX10_remove_46 at hF
          have JX10_REMOVE_79 : ∀ (Z_isArrow_5 : Nat → Int32) (x2_5 : Int32), jX10_remove_79 Z_isArrow_5 x1_1 x2_5 = some o → ∀ (H : Heap) (locs : List Loc) (ls : Array Slot), va_P (dC, dI) vwCl (iX10_remove aZ cI cZ s0_1 (upd Z_isBox_1 x1_1.toNatClampNeg 0) Z_isArrow_5 Z_from Z_to Z_told_1 Z_layers) H → va_D A (iX10_remove aZ cI cZ s0_1 (upd Z_isBox_1 x1_1.toNatClampNeg 0) Z_isArrow_5 Z_from Z_to Z_told_1 Z_layers) → va_S A s.heap H locs → lv_has ls 3 [(0, .ref (aZ 0)), (1, .int x1_1), (2, .int x2_5)] → W p l e (headSpec wsX10_remove (rX10_remove)).room s m args below meth c H locs 0 0 Q (F0 m 79 ls []) := by
            intro Z_isArrow_5 x2_5 hF H locs ls hP hD hS hl
            unfold jX10_remove_79 at hF
            refine lv_iinc (v := (x2_5 + 1)) (lv' := [(2, .int (x2_5 + 1)), (0, .ref (aZ 0)), (1, .int x1_1)]) hx hb dX10_remove_79 hl (k := 2) rfl rfl (by decide) rfl (fun ls hl => ?_)
            refine lv_goto (tgt := 46) hx hb dX10_remove_82 (by decide) ?_
            exact hin _ (Option.some.inj hF).symm H locs ls hP hD hS (lv_sub hl [1, 2, 0] rfl)
          have JX10_REMOVE_72 : ∀ (Z_isArrow_6 : Nat → Int32) (x2_6 : Int32), jX10_remove_72 Z_isArrow_6 x1_1 x2_6 = some o → ∀ (H : Heap) (locs : List Loc) (ls : Array Slot), va_P (dC, dI) vwCl (iX10_remove aZ cI cZ s0_1 (upd Z_isBox_1 x1_1.toNatClampNeg 0) Z_isArrow_6 Z_from Z_to Z_told_1 Z_layers) H → va_D A (iX10_remove aZ cI cZ s0_1 (upd Z_isBox_1 x1_1.toNatClampNeg 0) Z_isArrow_6 Z_from Z_to Z_told_1 Z_layers) → va_S A s.heap H locs → lv_has ls 3 [(0, .ref (aZ 0)), (1, .int x1_1), (2, .int x2_6)] → W p l e (headSpec wsX10_remove (rX10_remove)).room s m args below meth c H locs 0 0 Q (F0 m 72 ls []) := by
            intro Z_isArrow_6 x2_6 hF H locs ls hP hD hS hl
            unfold jX10_remove_72 at hF
            refine lv_aload_n hx hb dX10_remove_72 rfl (lv_at hl 0 rfl) ?_
            refine q_get (ci := 10) (C := RX10) (T := TX10) (N := 24) hx hb hts eX10_remove_X10 hown hK hP 0 rfl rfl 4 (Nat.le_of_ble_eq_true rfl) k2 rfl rfl dX10_remove_73 ?_
            refine lv_iload_n hx hb dX10_remove_76 rfl (lv_at hl 2 rfl) ?_
            refine lv_iconst (v := 0) hx hb dX10_remove_77 (by decide) ?_
            obtain ⟨hn7, hF⟩ := q_ck hF
            refine q_zast hx hb hK hP hD hS 2 1 (iX10_remove aZ cI cZ s0_1 (upd Z_isBox_1 x1_1.toNatClampNeg 0) (upd Z_isArrow_6 x2_6.toNatClampNeg 0) Z_from Z_to Z_told_1 Z_layers) rfl rfl hn7 (Or.inl rfl) rfl dX10_remove_78 (fun H locs hP hD hS => ?_)
            exact JX10_REMOVE_79 (upd Z_isArrow_6 x2_6.toNatClampNeg 0) x2_6 hF H locs ls hP hD hS (lv_sub hl [0, 1, 2] rfl)
          refine lv_iload_n hx hb dX10_remove_46 rfl (lv_at hl 2 rfl) ?_
          refine lv_bipush (v := 24) hx hb dX10_remove_47 (by decide) ?_
          refine lv_icmp_ge (tgt := 85) hx hb dX10_remove_49 (by decide) (fun hc => ?_) (fun hc => ?_)
          · replace hF := q_t hc hF
            exact X4 _ (hex _ (Option.some.inj hF).symm) H locs ls hP hD hS (lv_sub hl [0] rfl)
          · replace hF := q_f hc hF
            refine lv_aload_n hx hb dX10_remove_52 rfl (lv_at hl 0 rfl) ?_
            refine q_get (ci := 10) (C := RX10) (T := TX10) (N := 24) hx hb hts eX10_remove_X10 hown hK hP 0 rfl rfl 5 (Nat.le_of_ble_eq_true rfl) k3 rfl rfl dX10_remove_53 ?_
            refine lv_iload_n hx hb dX10_remove_56 rfl (lv_at hl 2 rfl) ?_
            obtain ⟨hn8, hF⟩ := q_ck hF
            refine va_iald hx hb hK hP 3 0 rfl rfl hn8 dX10_remove_57 ?_
            refine lv_iload_n hx hb dX10_remove_58 rfl (lv_at hl 1 rfl) ?_
            refine lv_icmp_eq (tgt := 72) hx hb dX10_remove_59 (by decide) (fun hc => ?_) (fun hc => ?_)
            · replace hF := q_t hc hF
              exact JX10_REMOVE_72 Z_isArrow_4 x2_4 hF H locs ls hP hD hS (lv_sub hl [0, 1, 2] rfl)
            · replace hF := q_f hc hF
              refine lv_aload_n hx hb dX10_remove_62 rfl (lv_at hl 0 rfl) ?_
              refine q_get (ci := 10) (C := RX10) (T := TX10) (N := 24) hx hb hts eX10_remove_X10 hown hK hP 0 rfl rfl 6 (Nat.le_of_ble_eq_true rfl) k4 rfl rfl dX10_remove_63 ?_
              refine lv_iload_n hx hb dX10_remove_66 rfl (lv_at hl 2 rfl) ?_
              obtain ⟨hn9, hF⟩ := q_ck hF
              refine va_iald hx hb hK hP 4 0 rfl rfl hn9 dX10_remove_67 ?_
              refine lv_iload_n hx hb dX10_remove_68 rfl (lv_at hl 1 rfl) ?_
              refine lv_icmp_ne (tgt := 79) hx hb dX10_remove_69 (by decide) (fun hc => ?_) (fun hc => ?_)
              · replace hF := q_f hc hF
                exact JX10_REMOVE_79 Z_isArrow_4 x2_4 hF H locs ls hP hD hS (lv_sub hl [0, 1, 2] rfl)
              · replace hF := q_t hc hF
                exact JX10_REMOVE_72 Z_isArrow_4 x2_4 hF H locs ls hP hD hS (lv_sub hl [0, 1, 2] rfl)
        exact L4 (0, Z_isArrow_1) hc4 H locs ls hP hD hS (lv_sub hl [1, 2, 0] rfl)
      · replace hF := q_t hc hF
        refine lv_iconst (v := 0) hx hb dX10_remove_35 (by decide) ?_
        exact hret H locs ls 36 _ _ dX10_remove_36 (Or.inl rfl) (congrArg Prod.fst (Option.some.inj hF)) (congrArg (fun z : Int32 × Int32 × (Nat → Int32) × (Nat → Int32) × Int32 => (iX10_remove aZ cI cZ z.2.1 z.2.2.1 z.2.2.2.1 Z_from Z_to z.2.2.2.2 Z_layers)) (Option.some.inj hF)) hP hD hS
  refine lv_aload_n hx hb dX10_remove_0 rfl (lv_at hl 0 rfl) ?_
  refine lv_iload_n hx hb dX10_remove_1 rfl (lv_at hl 1 rfl) ?_
  refine lv_iconst (v := 0) hx hb dX10_remove_2 (by decide) ?_
  refine lv_bipush (v := 15) hx hb dX10_remove_3 (by decide) ?_
  obtain ⟨q10, hcq10, hF⟩ := q_bd hF
  refine q_Si (As := [.int p0, .int 0, .int 15]) (rest := [.ref (aZ 0)]) ⟨hx, hb, hml, hown, hts⟩ hA hK hP hD hS (tX10_in l dC dI cI cZ H.size p0 0 15 q10 hcq10) (va_cwS 3 hts gX10_remove_X10_in rfl rfl rfl uX10_in ⟨Nat.le_of_ble_eq_true rfl, Nat.le_of_ble_eq_true rfl⟩) [] [(false, 0), (false, 1), (false, 2), (false, 3), (false, 4)] (iX10_remove aZ cI cZ Z_code Z_isBox Z_isArrow Z_from Z_to Z_told Z_layers) rfl rfl rfl rfl rfl rfl hl.1 rfl (Nat.le_of_ble_eq_true rfl) dX10_remove_5 ⟨Nat.zero_le _, Nat.zero_le _⟩ (fun H locs hP hD hS => ?_)
  refine lv_if_eq (tgt := 15) hx hb dX10_remove_8 (by decide) (fun hc => ?_) (fun hc => ?_)
  · replace hF := q_t hc hF
    refine lv_iconst (v := 1) hx hb dX10_remove_15 (by decide) ?_
    exact JX10_REMOVE_16 Z_code Z_isBox Z_isArrow Z_told p0 1 hF H locs ls hP hD hS (lv_sub hl [0, 1] rfl)
  · replace hF := q_f hc hF
    refine lv_iconst (v := 0) hx hb dX10_remove_11 (by decide) ?_
    refine lv_goto (tgt := 16) hx hb dX10_remove_12 (by decide) ?_
    exact JX10_REMOVE_16 Z_code Z_isBox Z_isArrow Z_told p0 0 hF H locs ls hP hD hS (lv_sub hl [0, 1] rfl)
abbrev rX10_reversed : Room := { frames := 2, cells := 0, slots := 0, locals := 46 }
theorem eX10_reversed_X10 : ∀ w ∈ u_ws RX10 TX10 24, w ∈ wsX10_reversed := by decide +kernel
theorem uX10_reversed : yX10_reversed.cls = RX10 ∧ yX10_reversed.cls ≠ "java/lang/invoke/MethodHandle" ∧ yX10_reversed.cls ≠ "java/lang/invoke/VarHandle" ∧ (parseMethodDescriptor yX10_reversed.desc).map (fun d => d.parameters.length) = some 1 := by decide +kernel
set_option maxHeartbeats 4000000 in
set_option maxRecDepth 100000 in
theorem tX10_reversed (l : Launch) (dC : Nat → ClassId) (dI : Nat → Nat → Nat) (cI cZ : ClassId) (aZ : Nat → Nat) (sz : Nat) (Z_code : Int32) (Z_isArrow : Nat → Int32) (Z_from : Nat → Int32) (Z_to : Nat → Int32) (Z_turned : Nat → Int32) (Z_told : Int32) (Z_layers : Int32) (Z_come : Nat → Int32) (p0 : Int32) (res : Int32 × Int32 × (Nat → Int32) × (Nat → Int32)) (hF : fX10_reversed Z_isArrow Z_from Z_to Z_turned Z_come p0 = some res) : q_Mi l yX10_reversed wsX10_reversed rX10_reversed (dC, dI) (q_ty cI cZ) [.ref (aZ 0), .int p0] (iX10_reversed aZ cI cZ Z_code Z_isArrow Z_from Z_to Z_turned Z_told Z_layers Z_come) (iX10_reversed aZ cI cZ res.2.1 Z_isArrow Z_from Z_to res.2.2.1 Z_told Z_layers res.2.2.2) sz res.1 := by
  refine q_meti (cc := cX10_reversed) (maxL := 2) (by decide) rfl (Nat.le_of_ble_eq_true rfl) ?_
  intro p e s m args below meth c Q A H locs ls C hP hD hS hl hret
  obtain ⟨hx, hb, hml, hown, hts, hA, hK⟩ := C
  replace hl : lv_has ls 2 [(0, .ref (aZ 0)), (1, .int p0)] := hl
  have k0 := hts (.fieldLink RX10 74 "RouteLayoutModel" "code" "I") (by decide +kernel)
  have k1 := hts (.fieldLink RX10 20 "RouteLayoutModel" "isArrow" "[Z") (by decide +kernel)
  have k2 := hts (.fieldLink RX10 29 "RouteLayoutModel" "turned" "[Z") (by decide +kernel)
  unfold fX10_reversed at hF
  have JX10_REVERSED_16 : ∀ (Z_code_1 : Int32) (Z_turned_1 : Nat → Int32) (Z_come_1 : Nat → Int32) (x1_1 : Int32) (s0_1 : Int32), jX10_reversed_16 Z_isArrow Z_from Z_to Z_turned_1 Z_come_1 x1_1 s0_1 = some res → ∀ (H : Heap) (locs : List Loc) (ls : Array Slot), va_P (dC, dI) vwCl (iX10_reversed aZ cI cZ Z_code_1 Z_isArrow Z_from Z_to Z_turned_1 Z_told Z_layers Z_come_1) H → va_D A (iX10_reversed aZ cI cZ Z_code_1 Z_isArrow Z_from Z_to Z_turned_1 Z_told Z_layers Z_come_1) → va_S A s.heap H locs → lv_has ls 2 [(0, .ref (aZ 0)), (1, .int x1_1)] → W p l e (headSpec wsX10_reversed (rX10_reversed)).room s m args below meth c H locs 0 0 Q (F0 m 16 ls [.int s0_1, .ref (aZ 0)]) := by
    intro Z_code_1 Z_turned_1 Z_come_1 x1_1 s0_1 hF H locs ls hP hD hS hl
    unfold jX10_reversed_16 at hF
    refine q_put (ci := 10) (C := RX10) (T := TX10) (N := 24) (ty := .int) hx hb hts eX10_reversed_X10 tyX10 tyX10_ok nmX10 hown hK hP hD hS 0 (iX10_reversed aZ cI cZ s0_1 Z_isArrow Z_from Z_to Z_turned_1 Z_told Z_layers Z_come_1) rfl rfl 0 (Nat.le_of_ble_eq_true rfl) k0 rfl rfl (by decide +kernel) rfl rfl (Nat.le_of_ble_eq_true rfl) rfl dX10_reversed_16 (fun H locs hP hD hS => ?_)
    refine lv_aload_n hx hb dX10_reversed_19 rfl (lv_at hl 0 rfl) ?_
    refine q_get (ci := 10) (C := RX10) (T := TX10) (N := 24) hx hb hts eX10_reversed_X10 hown hK hP 0 rfl rfl 0 (Nat.le_of_ble_eq_true rfl) k0 rfl rfl dX10_reversed_20 ?_
    refine lv_if_le (tgt := 28) hx hb dX10_reversed_23 (by decide) (fun hc => ?_) (fun hc => ?_)
    · replace hF := q_t hc hF
      refine lv_aload_n hx hb dX10_reversed_28 rfl (lv_at hl 0 rfl) ?_
      obtain ⟨q2_0, q2_1, hcq2, hF⟩ := q_bd2 hF
      refine q_Vv (As := []) (rest := []) ⟨hx, hb, hml, hown, hts⟩ hA hK hP hD hS (tX10_turn l dC dI cI cZ aZ H.size s0_1 Z_isArrow Z_from Z_to Z_turned_1 Z_told Z_layers Z_come_1 (q2_0, q2_1) hcq2) (cwV 0 hts gX10_reversed_X10_turn rfl rfl rfl uX10_turn ⟨Nat.le_of_ble_eq_true rfl, Nat.le_of_ble_eq_true rfl⟩) [0, 1, 2, 3, 4, 5] [(true, 0), (true, 1), (true, 2), (true, 3), (true, 4), (true, 5)] (iX10_reversed aZ cI cZ s0_1 Z_isArrow Z_from Z_to q2_0 Z_told Z_layers q2_1) rfl rfl rfl rfl rfl 10 0 rfl rfl rfl rfl hl.1 rfl (Nat.le_of_ble_eq_true rfl) dX10_reversed_29 ⟨Nat.zero_le _, Nat.zero_le _⟩ (fun H locs hP hD hS => ?_)
      refine lv_aload_n hx hb dX10_reversed_32 rfl (lv_at hl 0 rfl) ?_
      refine q_get (ci := 10) (C := RX10) (T := TX10) (N := 24) hx hb hts eX10_reversed_X10 hown hK hP 0 rfl rfl 4 (Nat.le_of_ble_eq_true rfl) k1 rfl rfl dX10_reversed_33 ?_
      refine lv_iload_n hx hb dX10_reversed_36 rfl (lv_at hl 1 rfl) ?_
      obtain ⟨hn3, hF⟩ := q_ck hF
      refine va_zald hx hb hK hP 1 1 rfl rfl hn3 dX10_reversed_37 ?_
      refine lv_if_ne (tgt := 45) hx hb dX10_reversed_38 (by decide) (fun hc => ?_) (fun hc => ?_)
      · replace hF := q_f hc hF
        refine lv_aload_n hx hb dX10_reversed_45 rfl (lv_at hl 0 rfl) ?_
        refine q_get (ci := 10) (C := RX10) (T := TX10) (N := 24) hx hb hts eX10_reversed_X10 hown hK hP 0 rfl rfl 7 (Nat.le_of_ble_eq_true rfl) k2 rfl rfl dX10_reversed_46 ?_
        refine lv_iload_n hx hb dX10_reversed_49 rfl (lv_at hl 1 rfl) ?_
        obtain ⟨hn4, hF⟩ := q_ck hF
        refine va_zald hx hb hK hP 4 1 rfl rfl hn4 dX10_reversed_50 ?_
        refine lv_if_eq (tgt := 58) hx hb dX10_reversed_51 (by decide) (fun hc => ?_) (fun hc => ?_)
        · replace hF := q_t hc hF
          refine lv_iconst (v := 0) hx hb dX10_reversed_58 (by decide) ?_
          exact hret H locs ls 59 _ _ dX10_reversed_59 (congrArg Prod.fst (Option.some.inj hF)) (congrArg (fun z : Int32 × Int32 × (Nat → Int32) × (Nat → Int32) => (iX10_reversed aZ cI cZ z.2.1 Z_isArrow Z_from Z_to z.2.2.1 Z_told Z_layers z.2.2.2)) (Option.some.inj hF)) hP hD hS
        · replace hF := q_f hc hF
          refine lv_iconst (v := 1) hx hb dX10_reversed_54 (by decide) ?_
          refine lv_goto (tgt := 59) hx hb dX10_reversed_55 (by decide) ?_
          exact hret H locs ls 59 _ _ dX10_reversed_59 (congrArg Prod.fst (Option.some.inj hF)) (congrArg (fun z : Int32 × Int32 × (Nat → Int32) × (Nat → Int32) => (iX10_reversed aZ cI cZ z.2.1 Z_isArrow Z_from Z_to z.2.2.1 Z_told Z_layers z.2.2.2)) (Option.some.inj hF)) hP hD hS
      · replace hF := q_t hc hF
        refine lv_iconst (v := (-1)) hx hb dX10_reversed_41 (by decide) ?_
        refine lv_goto (tgt := 59) hx hb dX10_reversed_42 (by decide) ?_
        exact hret H locs ls 59 _ _ dX10_reversed_59 (congrArg Prod.fst (Option.some.inj hF)) (congrArg (fun z : Int32 × Int32 × (Nat → Int32) × (Nat → Int32) => (iX10_reversed aZ cI cZ z.2.1 Z_isArrow Z_from Z_to z.2.2.1 Z_told Z_layers z.2.2.2)) (Option.some.inj hF)) hP hD hS
    · replace hF := q_f hc hF
      refine lv_iconst (v := 0) hx hb dX10_reversed_26 (by decide) ?_
      exact hret H locs ls 27 _ _ dX10_reversed_27 (congrArg Prod.fst (Option.some.inj hF)) (congrArg (fun z : Int32 × Int32 × (Nat → Int32) × (Nat → Int32) => (iX10_reversed aZ cI cZ z.2.1 Z_isArrow Z_from Z_to z.2.2.1 Z_told Z_layers z.2.2.2)) (Option.some.inj hF)) hP hD hS
  refine lv_aload_n hx hb dX10_reversed_0 rfl (lv_at hl 0 rfl) ?_
  refine lv_iload_n hx hb dX10_reversed_1 rfl (lv_at hl 1 rfl) ?_
  refine lv_iconst (v := 0) hx hb dX10_reversed_2 (by decide) ?_
  refine lv_bipush (v := 23) hx hb dX10_reversed_3 (by decide) ?_
  obtain ⟨q5, hcq5, hF⟩ := q_bd hF
  refine q_Si (As := [.int p0, .int 0, .int 23]) (rest := [.ref (aZ 0)]) ⟨hx, hb, hml, hown, hts⟩ hA hK hP hD hS (tX10_in l dC dI cI cZ H.size p0 0 23 q5 hcq5) (va_cwS 3 hts gX10_reversed_X10_in rfl rfl rfl uX10_in ⟨Nat.le_of_ble_eq_true rfl, Nat.le_of_ble_eq_true rfl⟩) [] [(false, 0), (false, 1), (false, 2), (false, 3), (false, 4), (false, 5)] (iX10_reversed aZ cI cZ Z_code Z_isArrow Z_from Z_to Z_turned Z_told Z_layers Z_come) rfl rfl rfl rfl rfl rfl hl.1 rfl (Nat.le_of_ble_eq_true rfl) dX10_reversed_5 ⟨Nat.zero_le _, Nat.zero_le _⟩ (fun H locs hP hD hS => ?_)
  refine lv_if_eq (tgt := 15) hx hb dX10_reversed_8 (by decide) (fun hc => ?_) (fun hc => ?_)
  · replace hF := q_t hc hF
    refine lv_iconst (v := 1) hx hb dX10_reversed_15 (by decide) ?_
    exact JX10_REVERSED_16 Z_code Z_turned Z_come p0 1 hF H locs ls hP hD hS (lv_sub hl [0, 1] rfl)
  · replace hF := q_f hc hF
    refine lv_iconst (v := 0) hx hb dX10_reversed_11 (by decide) ?_
    refine lv_goto (tgt := 16) hx hb dX10_reversed_12 (by decide) ?_
    exact JX10_REVERSED_16 Z_code Z_turned Z_come p0 0 hF H locs ls hP hD hS (lv_sub hl [0, 1] rfl)
abbrev rX10_thrown : Room := { frames := 0, cells := 0, slots := 0, locals := 0 }
theorem eX10_thrown_X10 : ∀ w ∈ u_ws RX10 TX10 24, w ∈ wsX10_thrown := by decide +kernel
theorem uX10_thrown : yX10_thrown.cls = RX10 ∧ yX10_thrown.cls ≠ "java/lang/invoke/MethodHandle" ∧ yX10_thrown.cls ≠ "java/lang/invoke/VarHandle" ∧ (parseMethodDescriptor yX10_thrown.desc).map (fun d => d.parameters.length) = some 0 := by decide +kernel
set_option maxHeartbeats 4000000 in
set_option maxRecDepth 100000 in
theorem tX10_thrown (l : Launch) (dC : Nat → ClassId) (dI : Nat → Nat → Nat) (cI cZ : ClassId) (aZ : Nat → Nat) (sz : Nat) (Z_code : Int32) (Z_told : Int32) (Z_layers : Int32) (res : Int32) (hF : fX10_thrown Z_code = some res) : q_Mi l yX10_thrown wsX10_thrown rX10_thrown (dC, dI) (q_ty cI cZ) [.ref (aZ 0)] (iX10_thrown aZ cI cZ Z_code Z_told Z_layers) (iX10_thrown aZ cI cZ Z_code Z_told Z_layers) sz res := by
  refine q_meti (cc := cX10_thrown) (maxL := 1) (by decide) rfl (Nat.le_of_ble_eq_true rfl) ?_
  intro p e s m args below meth c Q A H locs ls C hP hD hS hl hret
  obtain ⟨hx, hb, hml, hown, hts, hA, hK⟩ := C
  replace hl : lv_has ls 1 [(0, .ref (aZ 0))] := hl
  have k0 := hts (.fieldLink RX10 74 "RouteLayoutModel" "code" "I") (by decide +kernel)
  unfold fX10_thrown at hF
  refine lv_aload_n hx hb dX10_thrown_0 rfl (lv_at hl 0 rfl) ?_
  refine q_get (ci := 10) (C := RX10) (T := TX10) (N := 24) hx hb hts eX10_thrown_X10 hown hK hP 0 rfl rfl 0 (Nat.le_of_ble_eq_true rfl) k0 rfl rfl dX10_thrown_1 ?_
  exact hret H locs ls 4 _ _ dX10_thrown_4 (Option.some.inj hF) rfl hP hD hS
