/-! PURE: whole numbers below zero. -/
def iI (z : Int) : Int32 := Int32.ofInt z
theorem iI_nat (n : Nat) : nI n = iI (n : Int) := Int32.ofInt_eq_ofNat.symm
theorem iI_add (a b : Int) : iI a + iI b = iI (a + b) := (Int32.ofInt_add a b).symm
theorem iI_sub (a b : Int) : iI a - iI b = iI (a - b) := (Int32.ofInt_sub a b).symm
theorem iI_int {z : Int} (h1 : -2147483648 ≤ z) (h2 : z < 2147483648) : (iI z).toInt = z := Int32.toInt_ofInt_of_le (by simpa using h1) (by simpa using h2)
theorem iI_le {a b : Int} (ha : -2147483648 ≤ a) (ha' : a < 2147483648) (hb : -2147483648 ≤ b) (hb' : b < 2147483648) : (iI a ≤ iI b) = (a ≤ b) := by
  rw [Int32.le_iff_toInt_le, iI_int ha ha', iI_int hb hb']
theorem iI_lt {a b : Int} (ha : -2147483648 ≤ a) (ha' : a < 2147483648) (hb : -2147483648 ≤ b) (hb' : b < 2147483648) : (iI a < iI b) = (a < b) := by
  rw [Int32.lt_iff_toInt_lt, iI_int ha ha', iI_int hb hb']
theorem iI_eq {a b : Int} (ha : -2147483648 ≤ a) (ha' : a < 2147483648) (hb : -2147483648 ≤ b) (hb' : b < 2147483648) : (iI a = iI b) = (a = b) := by
  apply propext
  constructor
  · intro h
    have := congrArg Int32.toInt h
    rwa [iI_int ha ha', iI_int hb hb'] at this
  · intro h
    rw [h]
theorem iI_0 : (0 : Int32) = iI 0 := rfl
theorem s_d0 (x y : Nat) : nI x - nI y = iI ((x : Int) - (y : Int)) := by rw [iI_nat, iI_nat, iI_sub]
theorem s_d1 {x y : Nat} (hx : x < 2147483648) (hy : y < 2147483648) : ((0 : Int32) ≤ nI x - nI y) = (y ≤ x) := by
  rw [s_d0, iI_0, iI_le (by omega) (by omega) (by omega) (by omega)]
  exact propext ⟨fun h => by omega, fun h => by omega⟩
theorem s_d2 {x y : Nat} (hx : x < 2147483648) (hy : y < 2147483648) : ((0 : Int32) < nI x - nI y) = (y < x) := by
  rw [s_d0, iI_0, iI_lt (by omega) (by omega) (by omega) (by omega)]
  exact propext ⟨fun h => by omega, fun h => by omega⟩
theorem s_d3 {x y : Nat} (hx : x < 2147483648) (hy : y < 2147483648) : (nI x - nI y ≤ 0) = (x ≤ y) := by
  rw [s_d0, iI_0, iI_le (by omega) (by omega) (by omega) (by omega)]
  exact propext ⟨fun h => by omega, fun h => by omega⟩
/-! PURE: the reference's crossings. -/
section MC
variable {ex bx : Nat → Bool} {up lo lay : Nat → Nat} {N : Nat} {row : Nat → List Nat} {A F T U L S I P D : Nat → Int32}
theorem p_mup (hG : g_G ex up lo bx lay N) (hV : g_V ex up lo bx lay N row) (hA : m_A ex up lo A F T U) (hL : m_L bx lay L) (hO : m_O N row S I P D) {a l : Nat} (ha : a < 24) (hp : g_pc ex up lo lay a l = true) : fX10_upperPlace F T U L P D (nI a) (nI l) = some (nI (g_pu up lay row l a)) ∧ g_pu up lay row l a < 40 := by
  have hn := g_pc_N hG ha hp
  have hm := g_uc_mem hG hV ha hp
  have hN := hG.1
  obtain ⟨he, h1, h2⟩ := g_pc_iff.mp hp
  obtain ⟨G1, G2, G3⟩ := id hG
  obtain ⟨u1, u2, u3, u4, u5⟩ := G3 a ha he
  have b1 := G2 _ u1 u3
  obtain ⟨a3, a4⟩ := (hA a ha).2 he
  obtain ⟨o1, o2, o3, o4⟩ := hO l (by omega)
  obtain ⟨i1, i2, i3, i4⟩ := o4 _ _ (g_at_get hm)
  have hlt := g_at_lt hm
  refine ⟨?_, by unfold g_pu; omega⟩
  unfold fX10_upperPlace g_pu
  by_cases hc : lay (up a) = l
  · have hu : g_uc up lay a l = up a := if_pos hc.symm
    rw [hu] at i3 ⊢
    simp (disch := omega) only [s_in, s_cl, s_leL, s_ltL, s_eqL, s_leR, s_ltR, s_eqR, s_le, s_lt, s_eq, s_addL, s_addL', s_mulL, s_mulL', s_mul, nI_add, s_subL, s_sub, s_m1, s_m1', s_lm1, s_ltm1, s_m1lt, s_m1le, s_m1p, s_10, s_let, s_el, s_er, s_b2, s_b3, s_b4, s_b5, s_b6, s_b7, s_b8, s_b9, s_b10, s_b11, s_b12, s_bind, eq_self, if_pos, if_neg, ite_true, ite_false, if_true, if_false, Bool.false_eq_true, reduceIte, a3, hL _ u1 u3, hc, i3 u1]
  · have hu : g_uc up lay a l = 16 + a := if_neg (fun h => hc h.symm)
    rw [hu] at i4 ⊢
    have i5 := i4 (by omega)
    rw [show 16 + a - 16 = a by omega] at i5
    simp (disch := omega) only [s_in, s_cl, s_leL, s_ltL, s_eqL, s_leR, s_ltR, s_eqR, s_le, s_lt, s_eq, s_addL, s_addL', s_mulL, s_mulL', s_mul, nI_add, s_subL, s_sub, s_m1, s_m1', s_lm1, s_ltm1, s_m1lt, s_m1le, s_m1p, s_10, s_let, s_el, s_er, s_b2, s_b3, s_b4, s_b5, s_b6, s_b7, s_b8, s_b9, s_b10, s_b11, s_b12, s_bind, eq_self, if_pos, if_neg, ite_true, ite_false, if_true, if_false, Bool.false_eq_true, reduceIte, a3, hL _ u1 u3, hc, i5]
theorem p_mdn (hG : g_G ex up lo bx lay N) (hV : g_V ex up lo bx lay N row) (hA : m_A ex up lo A F T U) (hL : m_L bx lay L) (hO : m_O N row S I P D) {a l : Nat} (ha : a < 24) (hp : g_pc ex up lo lay a l = true) : fX10_lowerPlace F T U L P D (nI a) (nI l) = some (nI (g_pd lo lay row l a)) ∧ g_pd lo lay row l a < 40 := by
  have hn := g_pc_N hG ha hp
  have hm := g_lc_mem hG hV ha hp
  have hN := hG.1
  obtain ⟨he, h1, h2⟩ := g_pc_iff.mp hp
  obtain ⟨G1, G2, G3⟩ := id hG
  obtain ⟨u1, u2, u3, u4, u5⟩ := G3 a ha he
  have b1 := G2 _ u2 u4
  obtain ⟨a3, a4⟩ := (hA a ha).2 he
  obtain ⟨o1, o2, o3, o4⟩ := hO (l + 1) (by omega)
  obtain ⟨i1, i2, i3, i4⟩ := o4 _ _ (g_at_get hm)
  have hlt := g_at_lt hm
  refine ⟨?_, by unfold g_pd; omega⟩
  unfold fX10_lowerPlace g_pd
  by_cases hc : lay (lo a) = l + 1
  · have hu : g_lc lo lay a l = lo a := if_pos hc.symm
    rw [hu] at i3 ⊢
    simp (disch := omega) only [s_in, s_cl, s_leL, s_ltL, s_eqL, s_leR, s_ltR, s_eqR, s_le, s_lt, s_eq, s_addL, s_addL', s_mulL, s_mulL', s_mul, nI_add, s_subL, s_sub, s_m1, s_m1', s_lm1, s_ltm1, s_m1lt, s_m1le, s_m1p, s_10, s_let, s_el, s_er, s_b2, s_b3, s_b4, s_b5, s_b6, s_b7, s_b8, s_b9, s_b10, s_b11, s_b12, s_bind, eq_self, if_pos, if_neg, ite_true, ite_false, if_true, if_false, Bool.false_eq_true, reduceIte, a4, hL _ u2 u4, hc, i3 u2]
  · have hu : g_lc lo lay a l = 16 + a := if_neg (fun h => hc h.symm)
    rw [hu] at i4 ⊢
    have i5 := i4 (by omega)
    rw [show 16 + a - 16 = a by omega, ← Nat.add_assoc] at i5
    simp (disch := omega) only [s_in, s_cl, s_leL, s_ltL, s_eqL, s_leR, s_ltR, s_eqR, s_le, s_lt, s_eq, s_addL, s_addL', s_mulL, s_mulL', s_mul, nI_add, s_subL, s_sub, s_m1, s_m1', s_lm1, s_ltm1, s_m1lt, s_m1le, s_m1p, s_10, s_let, s_el, s_er, s_b2, s_b3, s_b4, s_b5, s_b6, s_b7, s_b8, s_b9, s_b10, s_b11, s_b12, s_bind, eq_self, if_pos, if_neg, ite_true, ite_false, if_true, if_false, Bool.false_eq_true, reduceIte, a4, hL _ u2 u4, hc, i5]
theorem p_mcr (hG : g_G ex up lo bx lay N) (hV : g_V ex up lo bx lay N row) (hA : m_A ex up lo A F T U) (hL : m_L bx lay L) (hO : m_O N row S I P D) {l : Nat} (hl : l < 24) : fX10_crossings A F T U (nI N) L P D (nI l) = some (nI (g_cr ex up lo lay row l)) := by
  have hN := hG.1
  unfold fX10_crossings
  by_cases hN1 : l + 1 < N
  · have H9 : ∃ e, q_lo (fun (st : Int32 × Int32) => bX10_crossings_20 A F T U L P D (nI l) st.1 st.2) (0, 0) = some e ∧ e = nI (g_cr ex up lo lay row l) := by
      refine q_inv (fun a (st : Int32 × Int32) => st.2 = nI a ∧ st.1 = nI (g_xs (g_xx (g_pu up lay row l) (g_pd lo lay row l)) (g_ps ex up lo lay a l))) 24 ?_ ?_ _ ⟨rfl, by rw [show g_ps ex up lo lay 0 l = [] from rfl, g_xs_nil]; rfl⟩
      · rintro a ⟨s, x⟩ ha ⟨hx, hs⟩
        dsimp only at hx hs
        subst hx
        subst hs
        have hg := g_xs_b (g_xx (g_pu up lay row l) (g_pd lo lay row l)) (L := g_ps ex up lo lay a l) (by have := g_ps_len (ex := ex) (up := up) (lo := lo) (lay := lay) a l; omega)
        have H8 : ∃ e, q_lo (fun (st : Int32 × Int32) => bX10_crossings_29 A F T U L P D (nI l) (nI a) st.1 st.2) (nI (g_xs (g_xx (g_pu up lay row l) (g_pd lo lay row l)) (g_ps ex up lo lay a l)), 0) = some e ∧ e = nI (g_xs (g_xx (g_pu up lay row l) (g_pd lo lay row l)) (g_ps ex up lo lay (a + 1) l)) := by
          refine q_inv (fun b (st : Int32 × Int32) => st.2 = nI b ∧ st.1 = nI (g_xs (g_xx (g_pu up lay row l) (g_pd lo lay row l)) (g_ps ex up lo lay a l) + if g_pc ex up lo lay a l = true then (g_ps ex up lo lay b l).countP (g_xx (g_pu up lay row l) (g_pd lo lay row l) a) else 0)) a ?_ ?_ _ ⟨rfl, ?_⟩
          · rintro b ⟨s, x⟩ hb ⟨hx, hs⟩
            dsimp only at hx hs
            subst hx
            subst hs
            have hpsb := g_ps_len (ex := ex) (up := up) (lo := lo) (lay := lay) b l
            have hcb := List.countP_le_length (p := g_xx (g_pu up lay row l) (g_pd lo lay row l) a) (l := g_ps ex up lo lay b l)
            have m1 := p_mhasPiece hG hA hL ha (show l < 2147483648 by omega)
            have m2 := p_mhasPiece hG hA hL (show b < 24 by omega) (show l < 2147483648 by omega)
            show ∃ t9, bX10_crossings_29 A F T U L P D (nI l) (nI a) (nI (g_xs (g_xx (g_pu up lay row l) (g_pd lo lay row l)) (g_ps ex up lo lay a l) + if g_pc ex up lo lay a l = true then (g_ps ex up lo lay b l).countP (g_xx (g_pu up lay row l) (g_pd lo lay row l) a) else 0)) (nI b) = some (.inl t9) ∧ _
            unfold bX10_crossings_29 jX10_crossings_99 jX10_crossings_109 jX10_crossings_112
            by_cases hpa : g_pc ex up lo lay a l = true
            · by_cases hpb : g_pc ex up lo lay b l = true
              · have hcnt : (g_ps ex up lo lay (b + 1) l).countP (g_xx (g_pu up lay row l) (g_pd lo lay row l) a) = (g_ps ex up lo lay b l).countP (g_xx (g_pu up lay row l) (g_pd lo lay row l) a) + (if g_xx (g_pu up lay row l) (g_pd lo lay row l) a b then 1 else 0) := by
                  rw [g_ps_succ, if_pos hpb, List.countP_append, List.countP_cons, List.countP_nil, Nat.zero_add]
                rw [hcnt, if_pos hpa, if_pos hpa]
                rw [if_pos hpa] at m1
                rw [if_pos hpb] at m2
                obtain ⟨w1, v1⟩ := p_mup hG hV hA hL hO ha hpa
                obtain ⟨w2, v2⟩ := p_mup hG hV hA hL hO (show b < 24 by omega) hpb
                obtain ⟨w3, v3⟩ := p_mdn hG hV hA hL hO ha hpa
                obtain ⟨w4, v4⟩ := p_mdn hG hV hA hL hO (show b < 24 by omega) hpb
                generalize hX : g_xx (g_pu up lay row l) (g_pd lo lay row l) a b = X
                cases X
                · have hX' := fun h => Bool.false_ne_true (hX.symm.trans (g_xx_iff.mpr h))
                  rcases Nat.lt_trichotomy (g_pu up lay row l a) (g_pu up lay row l b) with h | h | h <;> rcases Nat.lt_trichotomy (g_pd lo lay row l a) (g_pd lo lay row l b) with h' | h' | h'
                  all_goals first
                    | exact (hX' (.inl ⟨h, h'⟩)).elim
                    | exact (hX' (.inr ⟨h, h'⟩)).elim
                    | (simp (disch := omega) only [s_in, s_cl, s_leL, s_ltL, s_eqL, s_leR, s_ltR, s_eqR, s_le, s_lt, s_eq, s_addL, s_addL', s_mulL, s_mulL', s_mul, nI_add, s_subL, s_sub, s_m1, s_m1', s_lm1, s_ltm1, s_m1lt, s_m1le, s_m1p, s_10, s_let, s_el, s_er, s_b2, s_b3, s_b4, s_b5, s_b6, s_b7, s_b8, s_b9, s_b10, s_b11, s_b12, s_bind, eq_self, if_pos, if_neg, ite_true, ite_false, if_true, if_false, Bool.false_eq_true, reduceIte, m1, m2, w1, w2, w3, w4, s_d1, s_d2, s_d3]
                       exact ⟨_, rfl, rfl, congrArg nI (by omega)⟩)
                · rcases g_xx_iff.mp hX with ⟨h, h'⟩ | ⟨h, h'⟩
                  all_goals
                    simp (disch := omega) only [s_in, s_cl, s_leL, s_ltL, s_eqL, s_leR, s_ltR, s_eqR, s_le, s_lt, s_eq, s_addL, s_addL', s_mulL, s_mulL', s_mul, nI_add, s_subL, s_sub, s_m1, s_m1', s_lm1, s_ltm1, s_m1lt, s_m1le, s_m1p, s_10, s_let, s_el, s_er, s_b2, s_b3, s_b4, s_b5, s_b6, s_b7, s_b8, s_b9, s_b10, s_b11, s_b12, s_bind, eq_self, if_pos, if_neg, ite_true, ite_false, if_true, if_false, Bool.false_eq_true, reduceIte, m1, m2, w1, w2, w3, w4, s_d1, s_d2, s_d3]
                    exact ⟨_, rfl, rfl, congrArg nI (by omega)⟩
              · have hcnt : g_ps ex up lo lay (b + 1) l = g_ps ex up lo lay b l := by rw [g_ps_succ, if_neg hpb]
                rw [hcnt, if_pos hpa]
                rw [if_pos hpa] at m1
                rw [if_neg hpb] at m2
                simp (disch := omega) only [s_in, s_cl, s_leL, s_ltL, s_eqL, s_leR, s_ltR, s_eqR, s_le, s_lt, s_eq, s_addL, s_addL', s_mulL, s_mulL', s_mul, nI_add, s_subL, s_sub, s_m1, s_m1', s_lm1, s_ltm1, s_m1lt, s_m1le, s_m1p, s_10, s_let, s_el, s_er, s_b2, s_b3, s_b4, s_b5, s_b6, s_b7, s_b8, s_b9, s_b10, s_b11, s_b12, s_bind, eq_self, if_pos, if_neg, ite_true, ite_false, if_true, if_false, Bool.false_eq_true, reduceIte, m1, m2]
                exact ⟨_, rfl, rfl, congrArg nI (by omega)⟩
            · rw [if_neg hpa, if_neg hpa]
              rw [if_neg hpa] at m1
              simp (disch := omega) only [s_in, s_cl, s_leL, s_ltL, s_eqL, s_leR, s_ltR, s_eqR, s_le, s_lt, s_eq, s_addL, s_addL', s_mulL, s_mulL', s_mul, nI_add, s_subL, s_sub, s_m1, s_m1', s_lm1, s_ltm1, s_m1lt, s_m1le, s_m1p, s_10, s_let, s_el, s_er, s_b2, s_b3, s_b4, s_b5, s_b6, s_b7, s_b8, s_b9, s_b10, s_b11, s_b12, s_bind, eq_self, if_pos, if_neg, ite_true, ite_false, if_true, if_false, Bool.false_eq_true, reduceIte, m1]
              exact ⟨_, rfl, rfl, congrArg nI (by omega)⟩
          · rintro ⟨s, x⟩ ⟨hx, hs⟩
            dsimp only at hx hs
            subst hx
            subst hs
            refine ⟨nI (g_xs (g_xx (g_pu up lay row l) (g_pd lo lay row l)) (g_ps ex up lo lay a l) + if g_pc ex up lo lay a l = true then (g_ps ex up lo lay a l).countP (g_xx (g_pu up lay row l) (g_pd lo lay row l) a) else 0), ?_, ?_⟩
            · show bX10_crossings_29 A F T U L P D (nI l) (nI a) _ (nI a) = _
              unfold bX10_crossings_29
              simp (disch := omega) only [s_in, s_cl, s_leL, s_ltL, s_eqL, s_leR, s_ltR, s_eqR, s_le, s_lt, s_eq, s_addL, s_addL', s_mulL, s_mulL', s_mul, nI_add, s_subL, s_sub, s_m1, s_m1', s_lm1, s_ltm1, s_m1lt, s_m1le, s_m1p, s_10, s_let, s_el, s_er, s_b2, s_b3, s_b4, s_b5, s_b6, s_b7, s_b8, s_b9, s_b10, s_b11, s_b12, s_bind, eq_self, if_pos, if_neg, ite_true, ite_false, if_true, if_false, Bool.false_eq_true, reduceIte]
            · rw [g_ps_succ]
              by_cases hpa : g_pc ex up lo lay a l = true
              · rw [if_pos hpa, if_pos hpa, g_xs_snoc]
              · rw [if_neg hpa, if_neg hpa, Nat.add_zero]
          · show nI (g_xs (g_xx (g_pu up lay row l) (g_pd lo lay row l)) (g_ps ex up lo lay a l)) = _
            by_cases hpa : g_pc ex up lo lay a l = true
            · rw [if_pos hpa, show g_ps ex up lo lay 0 l = [] from rfl, List.countP_nil, Nat.add_zero]
            · rw [if_neg hpa, Nat.add_zero]
        obtain ⟨e8, h8, h9⟩ := H8
        show ∃ t9, bX10_crossings_20 A F T U L P D (nI l) (nI (g_xs (g_xx (g_pu up lay row l) (g_pd lo lay row l)) (g_ps ex up lo lay a l))) (nI a) = some (.inl t9) ∧ _
        unfold bX10_crossings_20
        simp (disch := omega) only [s_in, s_cl, s_leL, s_ltL, s_eqL, s_leR, s_ltR, s_eqR, s_le, s_lt, s_eq, s_addL, s_addL', s_mulL, s_mulL', s_mul, nI_add, s_subL, s_sub, s_m1, s_m1', s_lm1, s_ltm1, s_m1lt, s_m1le, s_m1p, s_10, s_let, s_el, s_er, s_b2, s_b3, s_b4, s_b5, s_b6, s_b7, s_b8, s_b9, s_b10, s_b11, s_b12, s_bind, eq_self, if_pos, if_neg, ite_true, ite_false, if_true, if_false, Bool.false_eq_true, reduceIte, h8]
        exact ⟨_, rfl, rfl, h9⟩
      · rintro ⟨s, x⟩ ⟨hx, hs⟩
        dsimp only at hx hs
        subst hx
        subst hs
        refine ⟨_, ?_, rfl⟩
        show bX10_crossings_20 A F T U L P D (nI l) _ (nI 24) = _
        unfold bX10_crossings_20 g_cr
        simp (disch := omega) only [s_in, s_cl, s_leL, s_ltL, s_eqL, s_leR, s_ltR, s_eqR, s_le, s_lt, s_eq, s_addL, s_addL', s_mulL, s_mulL', s_mul, nI_add, s_subL, s_sub, s_m1, s_m1', s_lm1, s_ltm1, s_m1lt, s_m1le, s_m1p, s_10, s_let, s_el, s_er, s_b2, s_b3, s_b4, s_b5, s_b6, s_b7, s_b8, s_b9, s_b10, s_b11, s_b12, s_bind, eq_self, if_pos, if_neg, ite_true, ite_false, if_true, if_false, Bool.false_eq_true, reduceIte]
    obtain ⟨e, h8, h9⟩ := H9
    subst h9
    simp (disch := omega) only [s_in, s_cl, s_leL, s_ltL, s_eqL, s_leR, s_ltR, s_eqR, s_le, s_lt, s_eq, s_addL, s_addL', s_mulL, s_mulL', s_mul, nI_add, s_subL, s_sub, s_m1, s_m1', s_lm1, s_ltm1, s_m1lt, s_m1le, s_m1p, s_10, s_let, s_el, s_er, s_b2, s_b3, s_b4, s_b5, s_b6, s_b7, s_b8, s_b9, s_b10, s_b11, s_b12, s_bind, eq_self, if_pos, if_neg, ite_true, ite_false, if_true, if_false, Bool.false_eq_true, reduceIte, h8]
  · simp (disch := omega) only [s_in, s_cl, s_leL, s_ltL, s_eqL, s_leR, s_ltR, s_eqR, s_le, s_lt, s_eq, s_addL, s_addL', s_mulL, s_mulL', s_mul, nI_add, s_subL, s_sub, s_m1, s_m1', s_lm1, s_ltm1, s_m1lt, s_m1le, s_m1p, s_10, s_let, s_el, s_er, s_b2, s_b3, s_b4, s_b5, s_b6, s_b7, s_b8, s_b9, s_b10, s_b11, s_b12, s_bind, eq_self, if_pos, if_neg, ite_true, ite_false, if_true, if_false, Bool.false_eq_true, reduceIte]
    rw [g_cr_0 hG (by omega)]
    rfl
theorem p_mcrN : fX10_crossings A F T U (nI N) L P D (-1) = some 0 := by
  unfold fX10_crossings
  rw [if_pos (by decide)]
theorem p_mca (hG : g_G ex up lo bx lay N) (hV : g_V ex up lo bx lay N row) (hA : m_A ex up lo A F T U) (hL : m_L bx lay L) (hO : m_O N row S I P D) {l : Nat} (hl : l < 24) : ∃ x y, fX10_crossings A F T U (nI N) L P D (nI l - 1) = some (nI x) ∧ fX10_crossings A F T U (nI N) L P D (nI l) = some (nI y) ∧ x + y = g_ca ex up lo lay row l := by
  unfold g_ca
  by_cases h0 : l = 0
  · subst h0
    exact ⟨0, _, by rw [s_01, p_mcrN]; rfl, p_mcr hG hV hA hL hO hl, by rw [if_pos rfl]⟩
  · refine ⟨g_cr ex up lo lay row (l - 1), _, ?_, p_mcr hG hV hA hL hO hl, by rw [if_neg h0]⟩
    simp (disch := omega) only [s_in, s_cl, s_leL, s_ltL, s_eqL, s_leR, s_ltR, s_eqR, s_le, s_lt, s_eq, s_addL, s_addL', s_mulL, s_mulL', s_mul, nI_add, s_subL, s_sub, s_m1, s_m1', s_lm1, s_ltm1, s_m1lt, s_m1le, s_m1p, s_10, s_let, s_el, s_er, s_b2, s_b3, s_b4, s_b5, s_b6, s_b7, s_b8, s_b9, s_b10, s_b11, s_b12, s_bind, eq_self, if_pos, if_neg, ite_true, ite_false, if_true, if_false, Bool.false_eq_true, reduceIte, p_mcr hG hV hA hL hO (show l - 1 < 24 by omega)]
theorem p_mtot (hG : g_G ex up lo bx lay N) (hV : g_V ex up lo bx lay N row) (hA : m_A ex up lo A F T U) (hL : m_L bx lay L) (hO : m_O N row S I P D) : fX10_allCrossings A F T U (nI N) L P D = some (nI (g_tot ex up lo lay row N)) := by
  have hN := hG.1
  unfold fX10_allCrossings
  have H9 : ∃ e, q_lo (fun (st : Int32 × Int32) => bX10_allCrossings_4 A F T U (nI N) L P D st.1 st.2) (0, 0) = some e ∧ e = nI (g_tot ex up lo lay row N) := by
    refine q_inv (fun k (st : Int32 × Int32) => st.2 = nI k ∧ st.1 = nI (g_tot ex up lo lay row k)) N ?_ ?_ _ ⟨rfl, rfl⟩
    · rintro k ⟨s, x⟩ hk ⟨hx, hs⟩
      dsimp only at hx hs
      subst hx
      subst hs
      show ∃ t9, bX10_allCrossings_4 A F T U (nI N) L P D (nI (g_tot ex up lo lay row k)) (nI k) = some (.inl t9) ∧ _
      unfold bX10_allCrossings_4
      simp (disch := omega) only [s_in, s_cl, s_leL, s_ltL, s_eqL, s_leR, s_ltR, s_eqR, s_le, s_lt, s_eq, s_addL, s_addL', s_mulL, s_mulL', s_mul, nI_add, s_subL, s_sub, s_m1, s_m1', s_lm1, s_ltm1, s_m1lt, s_m1le, s_m1p, s_10, s_let, s_el, s_er, s_b2, s_b3, s_b4, s_b5, s_b6, s_b7, s_b8, s_b9, s_b10, s_b11, s_b12, s_bind, eq_self, if_pos, if_neg, ite_true, ite_false, if_true, if_false, Bool.false_eq_true, reduceIte, p_mcr hG hV hA hL hO (show k < 24 by omega)]
      exact ⟨_, rfl, rfl, congrArg nI (by rw [g_tot])⟩
    · rintro ⟨s, x⟩ ⟨hx, hs⟩
      dsimp only at hx hs
      subst hx
      subst hs
      refine ⟨_, ?_, rfl⟩
      show bX10_allCrossings_4 A F T U (nI N) L P D _ (nI N) = _
      unfold bX10_allCrossings_4
      simp (disch := omega) only [s_in, s_cl, s_leL, s_ltL, s_eqL, s_leR, s_ltR, s_eqR, s_le, s_lt, s_eq, s_addL, s_addL', s_mulL, s_mulL', s_mul, nI_add, s_subL, s_sub, s_m1, s_m1', s_lm1, s_ltm1, s_m1lt, s_m1le, s_m1p, s_10, s_let, s_el, s_er, s_b2, s_b3, s_b4, s_b5, s_b6, s_b7, s_b8, s_b9, s_b10, s_b11, s_b12, s_bind, eq_self, if_pos, if_neg, ite_true, ite_false, if_true, if_false, Bool.false_eq_true, reduceIte]
  obtain ⟨e, h8, h9⟩ := H9
  subst h9
  rw [h8]
  rfl
end MC
