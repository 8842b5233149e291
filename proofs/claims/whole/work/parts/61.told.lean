/-! PURE: what is told: at, item, piece, between. -/
theorem n_nn {p : Int32} (h : ¬ p < 0) : ∃ n, n < 2147483648 ∧ p = nI n := by
  have h1 := Int32.toInt_lt p
  have h2 : 0 ≤ p.toInt := by
    rw [Int32.lt_iff_toInt_lt] at h
    have h5 : (0 : Int32).toInt = 0 := by decide
    omega
  refine ⟨p.toInt.toNat, by omega, ?_⟩
  rw [iI_nat, show ((p.toInt.toNat : Nat) : Int) = p.toInt by omega]
  exact (Int32.ofInt_toInt p).symm
theorem s_m1n : (nI 0 - 2 : Int32) = -2 := by decide
section TQ
variable {M_told : Int32} {R_width : Nat → Int32} {R_pinned : Nat → Int32} {R_from : Nat → Int32} {R_to : Nat → Int32} {R_turned : Nat → Int32} {L_layer : Nat → Int32} {L_tops : Nat → Int32} {L_bottoms : Nat → Int32} {L_layers : Int32} {P_size : Nat → Int32} {P_arrows : Nat → Int32} {P_uppers : Nat → Int32} {P_lowers : Nat → Int32} {C_x : Nat → Int32} {T_track : Nat → Int32} {T_used : Nat → Int32} {OL_layers : Int32} {OL_size : Nat → Int32} {OL_rows : Nat → Int32} {OL_places : Nat → Int32} {OL_home : Nat → Int32} {Z_isBox : Nat → Int32} {Z_width : Nat → Int32} {Z_pinned : Nat → Int32} {Z_isArrow : Nat → Int32} {Z_from : Nat → Int32} {Z_to : Nat → Int32} {Z_turned : Nat → Int32} {Z_told : Int32} {Z_layers : Int32} {Z_layer : Nat → Int32} {Z_sizes : Nat → Int32} {Z_items : Nat → Int32} {Z_place : Nat → Int32} {Z_dummyPlace : Nat → Int32} {Z_xs : Nat → Int32} {Z_oldLayer : Nat → Int32} {Z_oldPlace : Nat → Int32} {Z_oldDummy : Nat → Int32}
theorem k_opAt (hI : k_I M_told R_width R_pinned R_from R_to R_turned L_layer L_tops L_bottoms L_layers P_size P_arrows P_uppers P_lowers C_x T_track T_used OL_layers OL_size OL_rows OL_places OL_home Z_isBox Z_width Z_pinned Z_isArrow Z_from Z_to Z_turned Z_told Z_layers Z_layer Z_sizes Z_items Z_place Z_dummyPlace Z_xs Z_oldLayer Z_oldPlace Z_oldDummy) (p0 p1 : Int32) :
    (hX9_at p0 p1 = some () ∧ fX10_at Z_isBox Z_told Z_layer Z_place Z_xs p0 p1 = some (0, 1)) ∨ ∃ r, fX9_at M_told R_width L_layer C_x OL_places p0 p1 = some r ∧ fX10_at Z_isBox Z_told Z_layer Z_place Z_xs p0 p1 = some (r, 0) := by
  obtain ⟨ex, bx, pn, tn, fr, to, pv, wv, N, old, hS, hM, hO, hOld, hT⟩ := id hI
  rcases n_cases p0 16 (by omega) with hb | ⟨b, hb, rfl⟩
  · left
    obtain ⟨e1, e2⟩ := k_needBoxNumberF hb
    have e3 : fX10_in p0 0 15 = some 0 := k_inF 15 (by omega) hb
    refine ⟨by unfold hX9_at; rw [e1, s_thrN]; exact e2, ?_⟩
    unfold fX10_at jX10_at_24 jX10_at_25
    rw [e3, s_bind, if_pos rfl, if_neg s_1le0]
  have e0 := k_needBoxNumberT hb
  have e3 : fX10_in (nI b) 0 15 = some 1 := k_inT (n := 15) (by omega) (by omega)
  rcases n_cases p1 3 (by omega) with hp | ⟨v, hv, rfl⟩
  · left
    obtain ⟨e1, e2⟩ := k_whatF 2 (by omega) hp
    have e4 : fX10_in p1 0 2 = some 0 := k_inF 2 (by omega) hp
    have e5 : fX9_needWhat p1 2 = none := e1
    refine ⟨by unfold hX9_at; rw [e0, s_thrS, e5, s_thrN]; exact e2, ?_⟩
    unfold fX10_at jX10_at_24 jX10_at_25
    rw [e3, s_bind, if_neg (by decide), e4, s_bind, if_pos rfl, if_neg s_1le0]
  · right
    have e4 : fX10_in (nI v) 0 2 = some 1 := k_inT (n := 2) (by omega) (by omega)
    have e5 : fX9_needWhat (nI v) 2 = some () := k_whatT (n := 2) (by omega) (by omega)
    have c1 := k_box hS hb
    have c2 := (hM.2.1 b hb).1
    rcases hT with ⟨rfl, rfl⟩ | ⟨rfl, rfl, lay, m, Lp, hD⟩
    · refine ⟨-1, ?_, ?_⟩
      · unfold fX9_at
        rw [e0, s_bind, e5, s_bind, if_pos rfl]
      · unfold fX10_at jX10_at_25
        rw [e3, s_bind, if_neg (by decide), e4, s_bind, if_neg (by decide), if_pos s_0le0, if_pos rfl]
    · obtain ⟨d1, d2, d3, d4, d5, d6, d7, d8, d9, d10, d11, d12, d13, d14, d15⟩ := hD
      by_cases hbx : bx b = true
      · rw [if_pos hbx] at c1 c2
        have hN := d1.1
        obtain ⟨j1, j2⟩ := k_in d1 d2 hb hbx
        have f1 := d3 b hb
        rw [hbx, if_pos rfl] at f1
        have f2 := d12 b hb hbx
        obtain ⟨o1, o2, o3, o4⟩ := d14 (lay b) j1
        have f3 := (o4 _ _ (g_at_get j2)).2.2.1 hb
        have f4 := g_at_lt j2
        obtain ⟨f5, f6, -⟩ := p_place hO (show lay b < 24 by omega) j2
        have f7 := d8 (lay b) j1 b j2
        have f8 := d15 (lay b) j1 _ _ (g_at_get j2)
        have hv3 : v = 0 ∨ v = 1 ∨ v = 2 := by omega
        rcases hv3 with rfl | rfl | rfl
        · refine ⟨nI (lay b), ?_, ?_⟩
          · unfold fX9_at
            rw [e0, s_bind, e5, s_bind, if_neg (by decide), c1, s_bind, if_neg (by decide), p_layerOf hb, s_bind, if_pos (by decide), f1]
          · unfold fX10_at jX10_at_25
            rw [e3, s_bind, if_neg (by decide), e4, s_bind, if_neg (by decide), if_pos s_0le0, if_neg (by decide)]
            simp (disch := omega) only [s_in, s_cl, s_leL, s_ltL, s_eqL, s_leR, s_ltR, s_eqR, s_le, s_lt, s_eq, s_addL, s_addL', s_mulL, s_mulL', s_mul, nI_add, s_subL, s_sub, s_m1, s_m1', s_lm1, s_ltm1, s_m1lt, s_m1le, s_m1p, s_10, s_let, s_el, s_er, s_b2, s_b3, s_b4, s_b5, s_b6, s_b7, s_b8, s_b9, s_b10, s_b11, s_b12, s_bind, eq_self, if_pos, if_neg, ite_true, ite_false, if_true, if_false, Bool.false_eq_true, reduceIte, c2, f2]
        · refine ⟨nI (g_at old (lay b) b), ?_, ?_⟩
          · unfold fX9_at
            rw [e0, s_bind, e5, s_bind, if_neg (by decide), c1, s_bind, if_neg (by decide), p_layerOf hb, s_bind, if_neg (by decide), if_pos (by decide), f1, f5, s_bind]
          · unfold fX10_at jX10_at_25
            rw [e3, s_bind, if_neg (by decide), e4, s_bind, if_neg (by decide), if_pos s_0le0, if_neg (by decide)]
            simp (disch := omega) only [s_in, s_cl, s_leL, s_ltL, s_eqL, s_leR, s_ltR, s_eqR, s_le, s_lt, s_eq, s_addL, s_addL', s_mulL, s_mulL', s_mul, nI_add, s_subL, s_sub, s_m1, s_m1', s_lm1, s_ltm1, s_m1lt, s_m1le, s_m1p, s_10, s_let, s_el, s_er, s_b2, s_b3, s_b4, s_b5, s_b6, s_b7, s_b8, s_b9, s_b10, s_b11, s_b12, s_bind, eq_self, if_pos, if_neg, ite_true, ite_false, if_true, if_false, Bool.false_eq_true, reduceIte, c2, f3]
        · refine ⟨C_x (lay b * 40 + b), ?_, ?_⟩
          · unfold fX9_at
            rw [e0, s_bind, e5, s_bind, if_neg (by decide), c1, s_bind, if_neg (by decide), p_layerOf hb, s_bind, if_neg (by decide), if_neg (by decide), f1, p_leftOf (by omega) (by omega), s_bind]
          · unfold fX10_at jX10_at_25
            rw [e3, s_bind, if_neg (by decide), e4, s_bind, if_neg (by decide), if_pos s_0le0, if_neg (by decide)]
            simp (disch := omega) only [s_in, s_cl, s_leL, s_ltL, s_eqL, s_leR, s_ltR, s_eqR, s_le, s_lt, s_eq, s_addL, s_addL', s_mulL, s_mulL', s_mul, nI_add, s_subL, s_sub, s_m1, s_m1', s_lm1, s_ltm1, s_m1lt, s_m1le, s_m1p, s_10, s_let, s_el, s_er, s_b2, s_b3, s_b4, s_b5, s_b6, s_b7, s_b8, s_b9, s_b10, s_b11, s_b12, s_bind, eq_self, if_pos, if_neg, ite_true, ite_false, if_true, if_false, Bool.false_eq_true, reduceIte, c2, f2, f3, f8, f7]
      · rw [if_neg hbx] at c1 c2
        refine ⟨-1, ?_, ?_⟩
        · unfold fX9_at
          rw [e0, s_bind, e5, s_bind, if_neg (by decide), c1, s_bind, if_pos rfl]
        · unfold fX10_at jX10_at_25
          rw [e3, s_bind, if_neg (by decide), e4, s_bind, if_neg (by decide), if_pos s_0le0, if_neg (by decide)]
          simp (disch := omega) only [s_in, s_cl, s_leL, s_ltL, s_eqL, s_leR, s_ltR, s_eqR, s_le, s_lt, s_eq, s_addL, s_addL', s_mulL, s_mulL', s_mul, nI_add, s_subL, s_sub, s_m1, s_m1', s_lm1, s_ltm1, s_m1lt, s_m1le, s_m1p, s_10, s_let, s_el, s_er, s_b2, s_b3, s_b4, s_b5, s_b6, s_b7, s_b8, s_b9, s_b10, s_b11, s_b12, s_bind, eq_self, if_pos, if_neg, ite_true, ite_false, if_true, if_false, Bool.false_eq_true, reduceIte, c2]
theorem k_opItem (hI : k_I M_told R_width R_pinned R_from R_to R_turned L_layer L_tops L_bottoms L_layers P_size P_arrows P_uppers P_lowers C_x T_track T_used OL_layers OL_size OL_rows OL_places OL_home Z_isBox Z_width Z_pinned Z_isArrow Z_from Z_to Z_turned Z_told Z_layers Z_layer Z_sizes Z_items Z_place Z_dummyPlace Z_xs Z_oldLayer Z_oldPlace Z_oldDummy) (p0 p1 : Int32) : ∃ r, fX9_item M_told OL_layers OL_size OL_rows p0 p1 = some r ∧ fX10_item Z_told Z_layers Z_sizes Z_items p0 p1 = some (r, 0) := by
  obtain ⟨ex, bx, pn, tn, fr, to, pv, wv, N, old, hS, hM, hO, hOld, hT⟩ := id hI
  rcases hT with ⟨rfl, rfl⟩ | ⟨rfl, rfl, lay, m, Lp, hD⟩
  · refine ⟨-1, ?_, ?_⟩
    · unfold fX9_item
      rw [if_pos rfl]
    · unfold fX10_item
      rw [if_pos rfl]
  · obtain ⟨d1, d2, d3, d4, d5, d6, d7, d8, d9, d10, d11, d12, d13, d14, d15⟩ := hD
    have hN := d1.1
    have hly := hO.1
    rcases n_cases p0 N (by omega) with hb | ⟨l, hl, rfl⟩
    · refine ⟨-1, ?_, ?_⟩
      · have e1 : fX4_sizeOf OL_layers OL_size p0 = some 0 := by
          unfold fX4_sizeOf
          rw [hly]
          rcases hb with h | h
          · rw [if_pos h]
          · by_cases h0 : p0 < 0
            · rw [if_pos h0]
            · rw [if_neg h0, if_pos h]
        have e2 : fX4_itemIn OL_layers OL_size OL_rows p0 p1 = some (-1) := by
          unfold fX4_itemIn jX4_itemIn_17 jX4_itemIn_18
          by_cases h0 : p1 < 0
          · rw [if_pos h0, if_pos rfl]
          · rw [if_neg h0, e1, s_bind, if_pos (Int32.not_lt.mp h0), if_pos rfl]
        unfold fX9_item
        rw [if_neg (by decide), e2, s_bind, if_neg (by decide)]
      · have e1 : fX10_in p0 0 (Z_layers - 1) = some 0 := by
          unfold fX10_in
          by_cases h0 : p0 < 0
          · rw [if_pos h0]
          · rw [if_neg h0, if_pos]
            rcases hb with h | h
            · exact absurd h h0
            · obtain ⟨n, hn, rfl⟩ := n_nn h0
              rw [s_le (by omega) (by omega)] at h
              rw [d13]
              by_cases hN0 : N = 0
              · rw [hN0, s_01, s_m1lt (by omega)]
                trivial
              · rw [s_subL (by omega), s_lt (by omega) (by omega)]
                omega
        unfold fX10_item
        rw [if_neg (by decide), e1, s_bind, if_pos rfl]
    · obtain ⟨o1, o2, o3, o4⟩ := d14 l hl
      have e1 : fX10_in (nI l) 0 (Z_layers - 1) = some 1 := by
        rw [d13, s_subL (by omega)]
        exact k_inT (by omega) (by omega)
      have e2 := p_sizeO hO (show l < 24 by omega)
      rcases n_cases p1 (old l).length (by omega) with hb | ⟨k, hk, rfl⟩
      · refine ⟨-1, ?_, ?_⟩
        · have e3 : fX4_itemIn OL_layers OL_size OL_rows (nI l) p1 = some (-1) := by
            unfold fX4_itemIn jX4_itemIn_17 jX4_itemIn_18
            by_cases h0 : p1 < 0
            · rw [if_pos h0, if_pos rfl]
            · rw [if_neg h0, e2, s_bind, if_pos (hb.resolve_left h0), if_pos rfl]
          unfold fX9_item
          rw [if_neg (by decide), e3, s_bind, if_neg (by decide)]
        · have e3 : fX10_in p1 0 (nI (old l).length - 1) = some 0 := by
            unfold fX10_in
            by_cases h0 : p1 < 0
            · rw [if_pos h0]
            · rw [if_neg h0, if_pos]
              have h := hb.resolve_left h0
              obtain ⟨n, hn, rfl⟩ := n_nn h0
              rw [s_le (by omega) (by omega)] at h
              by_cases hN0 : (old l).length = 0
              · rw [hN0, s_01, s_m1lt (by omega)]
                trivial
              · rw [s_subL (by omega), s_lt (by omega) (by omega)]
                omega
          unfold fX10_item
          rw [if_neg (by decide), e1, s_bind, if_neg (by decide), if_pos (n_in (show l < 24 by omega) (by decide)), s_cl (by omega), o3, e3, s_bind, if_pos rfl]
      · obtain ⟨c, hc⟩ : ∃ c, (old l)[k]? = some c := ⟨_, List.getElem?_eq_getElem hk⟩
        have hc40 := (o4 k c hc).1
        have e3 : fX10_in (nI k) 0 (nI (old l).length - 1) = some 1 := by
          rw [s_subL (by omega)]
          exact k_inT (by omega) (by omega)
        refine ⟨nI (g_nm c), ?_, ?_⟩
        · unfold fX9_item g_nm
          rw [if_neg (by decide), p_itemIn hO (show l < 24 by omega) hc, s_bind]
          by_cases h16 : c < 16
          · rw [if_neg (by rw [n_lit 16, s_le (by omega) (by omega)]; omega), if_pos h16]
          · rw [if_pos (by rw [n_lit 16, s_le (by omega) (by omega)]; omega), if_neg h16, s_addL', s_subL (by omega)]
            exact congrArg (fun x => some (nI x)) (by omega)
        · unfold fX10_item
          rw [if_neg (by decide), e1, s_bind, if_neg (by decide), if_pos (n_in (show l < 24 by omega) (by decide)), s_cl (by omega), o3, e3, s_bind, if_neg (by decide), p_item0 o4.I (by omega) o1 hc, s_bind]
theorem k_opPiece (hI : k_I M_told R_width R_pinned R_from R_to R_turned L_layer L_tops L_bottoms L_layers P_size P_arrows P_uppers P_lowers C_x T_track T_used OL_layers OL_size OL_rows OL_places OL_home Z_isBox Z_width Z_pinned Z_isArrow Z_from Z_to Z_turned Z_told Z_layers Z_layer Z_sizes Z_items Z_place Z_dummyPlace Z_xs Z_oldLayer Z_oldPlace Z_oldDummy) (Z_ends : Nat → Int32) (p0 p1 p2 : Int32) :
    (hX9_piece p0 p1 p2 = some () ∧ fX10_piece Z_width Z_isArrow Z_from Z_to Z_turned Z_told Z_layer Z_items Z_place Z_dummyPlace Z_xs Z_ends p0 p1 p2 = some (0, 1, Z_ends)) ∨ ∃ r en', fX9_piece M_told R_width R_from R_to R_turned L_tops L_bottoms C_x T_track p0 p1 p2 = some r ∧ fX10_piece Z_width Z_isArrow Z_from Z_to Z_turned Z_told Z_layer Z_items Z_place Z_dummyPlace Z_xs Z_ends p0 p1 p2 = some (r, 0, en') := by
  obtain ⟨ex, bx, pn, tn, fr, to, pv, wv, N, old, hS, hM, hO, hOld, hT⟩ := id hI
  rcases n_cases p0 24 (by omega) with hb | ⟨a, ha, rfl⟩
  · left
    obtain ⟨e1, e2⟩ := k_needArrowNumberF hb
    have e3 : fX10_in p0 0 23 = some 0 := k_inF 23 (by omega) hb
    refine ⟨by unfold hX9_piece; rw [e1, s_thrN]; exact e2, ?_⟩
    unfold fX10_piece jX10_piece_24 jX10_piece_25
    rw [e3, s_bind, if_pos rfl, if_neg s_1le0]
  have e0 := k_needArrowNumberT ha
  have e3 : fX10_in (nI a) 0 23 = some 1 := k_inT (n := 23) (by omega) (by omega)
  rcases n_cases p2 3 (by omega) with hp | ⟨v, hv, rfl⟩
  · left
    obtain ⟨e1, e2⟩ := k_whatF 2 (by omega) hp
    have e4 : fX10_in p2 0 2 = some 0 := k_inF 2 (by omega) hp
    have e5 : fX9_needWhat p2 2 = none := e1
    refine ⟨by unfold hX9_piece; rw [e0, s_thrS, e5, s_thrN]; exact e2, ?_⟩
    unfold fX10_piece jX10_piece_24 jX10_piece_25
    rw [e3, s_bind, if_neg (by decide), e4, s_bind, if_pos rfl, if_neg s_1le0]
  · right
    have e4 : fX10_in (nI v) 0 2 = some 1 := k_inT (n := 2) (by omega) (by omega)
    have e5 : fX9_needWhat (nI v) 2 = some () := k_whatT (n := 2) (by omega) (by omega)
    rcases hT with ⟨rfl, rfl⟩ | ⟨rfl, rfl, lay, m, Lp, hD⟩
    · refine ⟨-1, Z_ends, ?_, ?_⟩
      · unfold fX9_piece
        rw [e0, s_bind, e5, s_bind, if_pos rfl]
      · unfold fX10_piece jX10_piece_25
        rw [e3, s_bind, if_neg (by decide), e4, s_bind, if_neg (by decide), if_pos s_0le0, if_pos rfl]
    · obtain ⟨d1, d2, d3, d4, d5, d6, d7, d8, d9, d10, d11, d12, d13, d14, d15⟩ := hD
      have hN := d1.1
      have hA := k_A hM d11
      have none0 : fX3_hasPiece L_tops L_bottoms (nI a) p1 = some 0 → fX10_hasPiece Z_isArrow Z_from Z_to Z_turned Z_layer (nI a) p1 = some 0 → ∃ r en', fX9_piece 1 R_width R_from R_to R_turned L_tops L_bottoms C_x T_track (nI a) p1 (nI v) = some r ∧ fX10_piece Z_width Z_isArrow Z_from Z_to Z_turned 1 Z_layer Z_items Z_place Z_dummyPlace Z_xs Z_ends (nI a) p1 (nI v) = some (r, 0, en') := by
        intro h1 h2
        refine ⟨-1, Z_ends, ?_, ?_⟩
        · unfold fX9_piece
          rw [e0, s_bind, e5, s_bind, if_neg (by decide), h1, s_bind, if_pos rfl]
        · unfold fX10_piece jX10_piece_25
          rw [e3, s_bind, if_neg (by decide), e4, s_bind, if_neg (by decide), if_pos s_0le0, if_neg (by decide), h2, s_bind, if_pos rfl]
      obtain ⟨t1, t2⟩ := d4 a ha
      by_cases h0 : p1 < 0
      · apply none0
        · unfold fX3_hasPiece
          rw [p_top ha, s_bind]
          cases he : ex a
          · rw [he, if_neg (by decide)] at t1 t2
            rw [t1]
            by_cases h1 : p1 < -1
            · rw [if_pos h1]
            · rw [if_neg h1, p_bottom ha, s_bind, t2, if_pos (Int32.not_lt.mp h1)]
          · rw [he, if_pos rfl] at t1 t2
            obtain ⟨u1, u2, u3, u4, u5⟩ := d1.2.2 a ha he
            have b1 := d1.2.1 _ u1 u3
            rw [t1, if_pos (Int32.lt_of_lt_of_le h0 (nI_pos' (by omega)))]
        · unfold fX10_hasPiece
          rw [if_pos (n_in ha (by decide)), s_cl (by omega)]
          obtain ⟨a1, a2⟩ := hA a ha
          cases he : ex a
          · rw [he, if_neg (by decide)] at a1
            rw [if_pos a1]
          · rw [he, if_pos rfl] at a1
            obtain ⟨u1, u2, u3, u4, u5⟩ := d1.2.2 a ha he
            have b1 := d1.2.1 _ u1 u3
            rw [if_neg (by rw [a1]; decide), (a2 he).1, s_bind, if_pos (n_in u1 (by decide)), s_cl (by omega), d12 _ u1 u3, if_pos (Int32.lt_of_lt_of_le h0 (nI_pos' (by omega)))]
      · obtain ⟨n, hn, rfl⟩ := n_nn h0
        have f1 := p_hasPiece d1 d4 ha hn
        have f2 := p_mhasPiece d1 hA d12 ha hn
        by_cases hpc : g_pc ex (g_up fr to tn) (g_lo fr to tn) lay a n = true
        · rw [if_pos hpc] at f1 f2
          have hnN := g_pc_N d1 ha hpc
          have hn24 : n < 24 := by omega
          have hps : a ∈ g_ps ex (g_up fr to tn) (g_lo fr to tn) lay 24 n := g_ps_mem.mpr ⟨ha, hpc⟩
          have hW := k_WD hS hN d2
          have hmW := k_mWD hM hN d2
          have hwd := k_wd' hS
          have h40 : ∀ i, i < N → (old i).length ≤ 40 := fun i hi => (d14 i hi).1
          have hXB := g_X_XB d1 d2 hwd h40 d7
          have hu := g_uc_mem d1 d2 ha hpc
          have hl := g_lc_mem d1 d2 ha hpc
          have hv3 : v = 0 ∨ v = 1 ∨ v = 2 := by omega
          rcases hv3 with rfl | rfl | rfl
          · refine ⟨iI (g_um (g_up fr to tn) lay (g_wd wv) (g_X ex (g_up fr to tn) (g_lo fr to tn) lay old (g_wd wv) N m) n a), Z_ends, ?_, ?_⟩
            · unfold fX9_piece
              rw [e0, s_bind, e5, s_bind, if_neg (by decide), f1, s_bind, if_neg (by decide), if_pos (by decide), p_itemU d1 (fun a ha => k_U hS ha) d4 ha hpc, s_bind, p_middleOf hn24 (hW n (by omega) _ hu).1 (hwd _).2 (hW n (by omega) _ hu).2 (d8 n (by omega) _ hu), s_bind]
              rfl
            · unfold fX10_piece jX10_piece_25
              rw [e3, s_bind, if_neg (by decide), e4, s_bind, if_neg (by decide), if_pos s_0le0, if_neg (by decide), f2, s_bind, if_neg (by decide), if_neg (by decide), if_pos (by decide), (p_mup d1 d2 hA d12 d14 ha hpc).1, s_bind]
              have := p_mmid hN d14 hmW hwd d15 (show n < N by omega) (g_at_get hu)
              unfold g_pu
              rw [this, s_bind]
              rfl
          · refine ⟨iI (g_lm (g_lo fr to tn) lay (g_wd wv) (g_X ex (g_up fr to tn) (g_lo fr to tn) lay old (g_wd wv) N m) n a), Z_ends, ?_, ?_⟩
            · unfold fX9_piece
              rw [e0, s_bind, e5, s_bind, if_neg (by decide), f1, s_bind, if_neg (by decide), if_neg (by decide), if_pos (by decide), s_addL, p_itemL d1 (fun a ha => k_Lo hS ha) d4 ha hpc, s_bind, p_middleOf (by omega) (hW (n + 1) (by omega) _ hl).1 (hwd _).2 (hW (n + 1) (by omega) _ hl).2 (d8 (n + 1) (by omega) _ hl), s_bind]
              rfl
            · unfold fX10_piece jX10_piece_25
              rw [e3, s_bind, if_neg (by decide), e4, s_bind, if_neg (by decide), if_pos s_0le0, if_neg (by decide), f2, s_bind, if_neg (by decide), if_neg (by decide), if_neg (by decide), (p_mdn d1 d2 hA d12 d14 ha hpc).1, s_bind, s_addL]
              have := p_mmid hN d14 hmW hwd d15 hnN (g_at_get hl)
              unfold g_pd
              rw [this, s_bind]
              rfl
          · obtain ⟨en', g1⟩ := (p_mtrack d1 d2 hA d12 d14 hmW hwd d15 hXB (by omega) hn24 (d9 n hnN) Z_ends).2 a ha
            have g2 := ((d10 n hn24).1 hnN).2 a ha
            refine ⟨T_track (n * 24 + a), en', ?_, ?_⟩
            · unfold fX9_piece fX8_trackOf jX8_trackOf_25
              rw [e0, s_bind, e5, s_bind, if_neg (by decide), f1, s_bind, if_neg (by decide), if_neg (by decide), if_neg (by decide)]
              simp (disch := omega) only [s_in, s_cl, s_leL, s_ltL, s_eqL, s_leR, s_ltR, s_eqR, s_le, s_lt, s_eq, s_addL, s_addL', s_mulL, s_mulL', s_mul, nI_add, s_subL, s_sub, s_m1, s_m1', s_lm1, s_ltm1, s_m1lt, s_m1le, s_m1p, s_10, s_let, s_el, s_er, s_b2, s_b3, s_b4, s_b5, s_b6, s_b7, s_b8, s_b9, s_b10, s_b11, s_b12, s_bind, eq_self, if_pos, if_neg, ite_true, ite_false, if_true, if_false, Bool.false_eq_true, reduceIte]
            · unfold fX10_piece jX10_piece_25
              rw [e3, s_bind, if_neg (by decide), e4, s_bind, if_neg (by decide), if_pos s_0le0, if_neg (by decide), f2, s_bind, if_neg (by decide), if_pos (by decide), g1, s_b2, g2]
              rfl
        · rw [if_neg hpc] at f1 f2
          exact none0 f1 f2
theorem k_opBetween (hI : k_I M_told R_width R_pinned R_from R_to R_turned L_layer L_tops L_bottoms L_layers P_size P_arrows P_uppers P_lowers C_x T_track T_used OL_layers OL_size OL_rows OL_places OL_home Z_isBox Z_width Z_pinned Z_isArrow Z_from Z_to Z_turned Z_told Z_layers Z_layer Z_sizes Z_items Z_place Z_dummyPlace Z_xs Z_oldLayer Z_oldPlace Z_oldDummy) (X_upper X_lower Z_ends : Nat → Int32) (p0 p1 : Int32) :
    (hX9_between p0 p1 = some () ∧ fX10_between Z_width Z_isArrow Z_from Z_to Z_turned Z_told Z_layers Z_layer Z_items Z_place Z_dummyPlace Z_xs Z_ends p0 p1 = some (0, 1, Z_ends)) ∨ ∃ r xu' xl' en', fX9_between M_told L_layers P_size P_uppers P_lowers X_upper X_lower T_used OL_places p0 p1 = some (r, xu', xl') ∧ fX10_between Z_width Z_isArrow Z_from Z_to Z_turned Z_told Z_layers Z_layer Z_items Z_place Z_dummyPlace Z_xs Z_ends p0 p1 = some (r, 0, en') := by
  obtain ⟨ex, bx, pn, tn, fr, to, pv, wv, N, old, hS, hM, hO, hOld, hT⟩ := id hI
  rcases n_cases p1 2 (by omega) with hp | ⟨v, hv, rfl⟩
  · left
    obtain ⟨e1, e2⟩ := k_whatF 1 (by omega) hp
    have e4 : fX10_in p1 0 1 = some 0 := k_inF 1 (by omega) hp
    have e5 : fX9_needWhat p1 1 = none := e1
    refine ⟨by unfold hX9_between; rw [e5, s_thrN]; exact e2, ?_⟩
    unfold fX10_between jX10_between_15
    rw [e4, s_bind, if_pos rfl, if_neg s_1le0]
  · right
    have e4 : fX10_in (nI v) 0 1 = some 1 := k_inT (n := 1) (by omega) (by omega)
    have e5 : fX9_needWhat (nI v) 1 = some () := k_whatT (n := 1) (by omega) (by omega)
    rcases hT with ⟨rfl, rfl⟩ | ⟨rfl, rfl, lay, m, Lp, hD⟩
    · refine ⟨-1, X_upper, X_lower, Z_ends, ?_, ?_⟩
      · unfold fX9_between
        rw [e5, s_bind, if_pos rfl]
      · unfold fX10_between jX10_between_15
        rw [e4, s_bind, if_neg (by decide), if_pos s_0le0, if_pos rfl]
    · obtain ⟨d1, d2, d3, d4, d5, d6, d7, d8, d9, d10, d11, d12, d13, d14, d15⟩ := hD
      have hN := d1.1
      have hA := k_A hM d11
      have hly := hO.1
      subst hly
      have none0 : (p0 < 0 ∨ ∃ n, n < 2147483648 ∧ p0 = nI n ∧ N ≤ n + 1) → ∃ r xu' xl' en', fX9_between 1 L_layers P_size P_uppers P_lowers X_upper X_lower T_used OL_places p0 (nI v) = some (r, xu', xl') ∧ fX10_between Z_width Z_isArrow Z_from Z_to Z_turned 1 Z_layers Z_layer Z_items Z_place Z_dummyPlace Z_xs Z_ends p0 (nI v) = some (r, 0, en') := by
        intro h
        refine ⟨-1, X_upper, X_lower, Z_ends, ?_, ?_⟩
        · unfold fX9_between fX3_layers
          rw [e5, s_bind, if_neg (by decide)]
          by_cases h0 : p0 < 0
          · rw [if_pos h0]
          · obtain ⟨n, hn, rfl, hNn⟩ := h.resolve_left h0
            rw [if_neg h0, s_bind, d5, if_neg]
            by_cases hN0 : N = 0
            · rw [hN0, s_01, s_ltm1 (by omega)]
              exact id
            · rw [s_subL (by omega), s_lt (by omega) (by omega)]
              omega
        · have e6 : fX10_in p0 0 (Z_layers - 2) = some 0 := by
            unfold fX10_in
            by_cases h0 : p0 < 0
            · rw [if_pos h0]
            · obtain ⟨n, hn, rfl, hNn⟩ := h.resolve_left h0
              rw [if_neg h0, if_pos]
              rw [d13, s_im2, iI_nat, iI_lt (by omega) (by omega) (by omega) (by omega)]
              omega
          unfold fX10_between jX10_between_15
          rw [e4, s_bind, if_neg (by decide), if_pos s_0le0, if_neg (by decide), e6, s_bind, if_pos rfl]
      by_cases h0 : p0 < 0
      · exact none0 (.inl h0)
      · obtain ⟨n, hn, rfl⟩ := n_nn h0
        by_cases hNn : N ≤ n + 1
        · exact none0 (.inr ⟨n, hn, rfl, hNn⟩)
        · have hn24 : n < 24 := by omega
          have e6 : fX10_in (nI n) 0 (Z_layers - 2) = some 1 := by
            rw [d13, s_subL (by omega)]
            exact k_inT (by omega) (by omega)
          have e7 : nI n < L_layers - 1 := by
            rw [d5, s_subL (by omega), s_lt (by omega) (by omega)]
            omega
          have hwd := k_wd' hS
          have h40 : ∀ i, i < N → (old i).length ≤ 40 := fun i hi => (d14 i hi).1
          have hXB := g_X_XB d1 d2 hwd h40 d7
          have hv2 : v = 0 ∨ v = 1 := by omega
          rcases hv2 with rfl | rfl
          · obtain ⟨xu', xl', g1⟩ := p_cr d1 d2 d6 hO hn24 X_upper X_lower
            have g2 := p_mcr d1 d2 hA d12 d14 hn24
            refine ⟨nI (g_cr ex (g_up fr to tn) (g_lo fr to tn) lay old n), xu', xl', Z_ends, ?_, ?_⟩
            · unfold fX9_between fX3_layers
              rw [e5, s_bind, if_neg (by decide), if_neg h0, s_bind, if_pos e7, if_pos (by decide), g1, s_b3]
            · unfold fX10_between jX10_between_15
              rw [e4, s_bind, if_neg (by decide), if_pos s_0le0, if_neg (by decide), e6, s_bind, if_neg (by decide), if_pos (by decide), d13, g2, s_bind]
          · obtain ⟨en', g1⟩ := (p_mtrack d1 d2 hA d12 d14 (k_mWD hM hN d2) hwd d15 hXB (by omega) hn24 (d9 n (by omega)) Z_ends).1
            have g2 := ((d10 n hn24).1 (by omega)).1
            refine ⟨nI (g_tm (g_up fr to tn) (g_lo fr to tn) lay (g_wd wv) (g_X ex (g_up fr to tn) (g_lo fr to tn) lay old (g_wd wv) N m) Lp n).1, X_upper, X_lower, en', ?_, ?_⟩
            · unfold fX9_between fX3_layers fX8_tracksIn
              rw [e5, s_bind, if_neg (by decide), if_neg h0, s_bind, if_pos e7, if_neg (by decide), if_neg h0, if_neg (by rw [n_lit 24, s_le (by omega) (by omega)]; omega), if_pos (n_in hn24 (by decide)), s_cl (by omega), g2, s_bind]
            · unfold fX10_between jX10_between_15
              rw [e4, s_bind, if_neg (by decide), if_pos s_0le0, if_neg (by decide), e6, s_bind, if_neg (by decide), if_neg (by decide), g1, s_b2]
              rfl
end TQ
