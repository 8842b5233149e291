/-! PURE: draw and redraw. -/
theorem s_b23 {A0 A1 A2 A3 A4 A5 A6 A7 A8 A9 A10 A11 A12 A13 A14 A15 A16 A17 A18 A19 A20 A21 A22 B : Type} (x0 : A0) (x1 : A1) (x2 : A2) (x3 : A3) (x4 : A4) (x5 : A5) (x6 : A6) (x7 : A7) (x8 : A8) (x9 : A9) (x10 : A10) (x11 : A11) (x12 : A12) (x13 : A13) (x14 : A14) (x15 : A15) (x16 : A16) (x17 : A17) (x18 : A18) (x19 : A19) (x20 : A20) (x21 : A21) (x22 : A22) (f : A0 → A1 → A2 → A3 → A4 → A5 → A6 → A7 → A8 → A9 → A10 → A11 → A12 → A13 → A14 → A15 → A16 → A17 → A18 → A19 → A20 → A21 → A22 → Option B) : q_b23 (some (x0, x1, x2, x3, x4, x5, x6, x7, x8, x9, x10, x11, x12, x13, x14, x15, x16, x17, x18, x19, x20, x21, x22)) f = f x0 x1 x2 x3 x4 x5 x6 x7 x8 x9 x10 x11 x12 x13 x14 x15 x16 x17 x18 x19 x20 x21 x22 := rfl
theorem k_lay {ex bx pn tn : Nat → Bool} {fr to pv wv : Nat → Nat} {w p f t T : Nat → Int32} {X W p' A F T' : Nat → Int32} (hS : k_S ex bx pn tn fr to pv wv w p f t T) (hM : k_M ex bx pn fr to pv wv X W p' A F T') (L0 tp0 bo0 U0 zL0 zc0 : Nat → Int32) :
    ∃ r lay N L tp bo U zL zc, fX3_settle w p f t T L0 tp0 bo0 = some (r, L, tp, bo, nI N) ∧ fX10_layOut X p' A F T' U0 zL0 zc0 = some (r, U, nI N, zL, zc) ∧ c_T tn U ∧ (r = 0 ∨ (r = 1 ∧ g_G ex (g_up fr to tn) (g_lo fr to tn) bx lay N ∧ c_L bx lay L ∧ c_E ex (g_up fr to tn) (g_lo fr to tn) lay tp bo ∧ m_L bx lay zL)) := by
  obtain ⟨rk, hrk15, hrk⟩ := k_rank hS
  obtain ⟨hG, hT, hB, hgT, hw⟩ := id hS
  obtain ⟨mG, mB, mW⟩ := id hM
  obtain ⟨r, L, tp, bo, a1, a2, a3, a4⟩ := p_settle hG hT hB hrk hrk15 L0 tp0 bo0
  obtain ⟨r', U, zL, zc, b1, b2, b3, b4⟩ := p_layOut mG mB (k_ends hS) hgT hrk hrk15 U0 zL0 zc0
  have hu : ∀ a, a < 24 → ex a = true → g_up fr to tn a < 16 ∧ g_lo fr to tn a < 16 ∧ bx (g_up fr to tn a) = true ∧ bx (g_lo fr to tn a) = true := by
    intro a ha he
    obtain ⟨e1, e2, -⟩ := (hG a ha).2 he
    obtain ⟨c1, c2⟩ := k_ends hS a ha he
    unfold g_up g_lo
    cases tn a
    · exact ⟨e1, e2, c1, c2⟩
    · exact ⟨e2, e1, c2, c1⟩
  have hbd := g_lay_bound (ex := ex) (pn := pn) (lay := g_l0 pn pv) hrk (fun a ha he => ⟨(hu a ha he).1, (hu a ha he).2.1⟩) (fun b hb => by
    have := (hB b hb).2.2
    unfold g_l0
    split <;> omega) 16
  generalize g_lay ex (g_up fr to tn) (g_lo fr to tn) pn (g_l0 pn pv) 16 = lay at a1 a2 a3 a4 b1 b3 b4 hbd
  have hlb : ∀ b, b < 16 → lay b < 24 := fun b hb => by
    have := hbd b hb
    have := hrk15 b hb
    omega
  have hrr : r = r' := by
    rcases a4 with ⟨h1, h2⟩ | ⟨h1, h2⟩
    · rcases b4 with ⟨h3, h4⟩ | ⟨h3, h4⟩
      · rw [h1, h3]
      · exact absurd h2 h4
    · rcases b4 with ⟨h3, h4⟩ | ⟨h3, h4⟩
      · exact absurd h4 h2
      · rw [h1, h3]
  subst hrr
  refine ⟨r, lay, g_cnt bx lay 16, L, tp, bo, U, zL, zc, a1, b1, b2, ?_⟩
  rcases a4 with ⟨h1, h2⟩ | ⟨h1, h2⟩
  · right
    refine ⟨h1, ⟨g_cnt_le 16 (fun b hb _ => hlb b hb), fun b hb hx => g_cnt_ge 16 b hb hx, fun a ha he => ?_⟩, a2, a3, b3⟩
    obtain ⟨k1, k2, k3, k4⟩ := hu a ha he
    exact ⟨k1, k2, k3, k4, h2 a ha he⟩
  · exact .inl h1
section DR
variable {M_told : Int32} {R_width : Nat → Int32} {R_pinned : Nat → Int32} {R_from : Nat → Int32} {R_to : Nat → Int32} {R_turned : Nat → Int32} {L_layer : Nat → Int32} {L_tops : Nat → Int32} {L_bottoms : Nat → Int32} {L_layers : Int32} {P_size : Nat → Int32} {P_arrows : Nat → Int32} {P_uppers : Nat → Int32} {P_lowers : Nat → Int32} {C_x : Nat → Int32} {T_track : Nat → Int32} {T_used : Nat → Int32} {OL_layers : Int32} {OL_size : Nat → Int32} {OL_rows : Nat → Int32} {OL_places : Nat → Int32} {OL_home : Nat → Int32} {Z_isBox : Nat → Int32} {Z_width : Nat → Int32} {Z_pinned : Nat → Int32} {Z_isArrow : Nat → Int32} {Z_from : Nat → Int32} {Z_to : Nat → Int32} {Z_turned : Nat → Int32} {Z_told : Int32} {Z_layers : Int32} {Z_layer : Nat → Int32} {Z_sizes : Nat → Int32} {Z_items : Nat → Int32} {Z_place : Nat → Int32} {Z_dummyPlace : Nat → Int32} {Z_xs : Nat → Int32} {Z_oldLayer : Nat → Int32} {Z_oldPlace : Nat → Int32} {Z_oldDummy : Nat → Int32} {X_upper : Nat → Int32} {X_lower : Nat → Int32} {Q_own : Nat → Int32} {Q_far : Nat → Int32} {Q_degree : Nat → Int32} {Q_seen : Nat → Int32} {Q_median : Nat → Int32} {Q_stood : Nat → Int32} {Q_sorted : Nat → Int32} {Q_spots : Nat → Int32} {Q_movers : Int32} {B_cost : Nat → Int32} {B_above : Nat → Int32} {B_below : Nat → Int32} {B_codes : Nat → Int32} {B_used : Nat → Int32} {B_chosen : Nat → Int32} {B_best : Nat → Int32} {B_bestCost : Int32} {B_size : Int32} {C_sum : Nat → Int32} {C_degree : Nat → Int32} {T_left : Nat → Int32} {T_right : Nat → Int32} {T_arrows : Nat → Int32} {T_trackEnd : Nat → Int32} {OF_layers : Int32} {OF_size : Nat → Int32} {OF_rows : Nat → Int32} {OF_places : Nat → Int32} {OF_home : Nat → Int32} {OK_layers : Int32} {OK_size : Nat → Int32} {OK_rows : Nat → Int32} {OK_places : Nat → Int32} {OK_home : Nat → Int32} {Z_spare : Nat → Int32} {Z_row : Nat → Int32} {Z_ends : Nat → Int32} {Z_near : Nat → Int32} {Z_come : Nat → Int32}
theorem k_opDraw (hI : k_I M_told R_width R_pinned R_from R_to R_turned L_layer L_tops L_bottoms L_layers P_size P_arrows P_uppers P_lowers C_x T_track T_used OL_layers OL_size OL_rows OL_places OL_home Z_isBox Z_width Z_pinned Z_isArrow Z_from Z_to Z_turned Z_told Z_layers Z_layer Z_sizes Z_items Z_place Z_dummyPlace Z_xs Z_oldLayer Z_oldPlace Z_oldDummy) (p0 : Int32) :
    (hX9_draw p0 = some () ∧ fX10_draw Z_isBox Z_width Z_pinned Z_isArrow Z_from Z_to Z_turned Z_told Z_layers Z_layer Z_sizes Z_items Z_place Z_dummyPlace Z_xs Z_oldLayer Z_oldPlace Z_oldDummy Z_row Z_ends Z_near Z_come p0 = some (0, 1, Z_turned, Z_told, Z_layers, Z_layer, Z_sizes, Z_items, Z_place, Z_dummyPlace, Z_xs, Z_oldLayer, Z_oldPlace, Z_oldDummy, Z_row, Z_ends, Z_near, Z_come)) ∨ ∃ rr ytold yL_layer yL_tops yL_bottoms yL_layers yP_size yP_arrows yP_uppers yP_lowers yX_upper yX_lower yQ_own yQ_far yQ_degree yQ_seen yQ_median yQ_stood yQ_sorted yQ_spots yQ_movers yB_cost yB_above yB_below yB_codes yB_used yB_chosen yB_best yB_bestCost yB_size yC_x yC_sum yC_degree yT_track yT_used yT_left yT_right yT_arrows yT_trackEnd yOL_layers yOL_size yOL_rows yOL_places yOL_home yOF_layers yOF_size yOF_rows yOF_places yOF_home yOK_layers yOK_size yOK_rows yOK_places yOK_home wh yZ_turned yZ_told yZ_layers yZ_layer yZ_sizes yZ_items yZ_place yZ_dummyPlace yZ_xs yZ_oldLayer yZ_oldPlace yZ_oldDummy yZ_row yZ_ends yZ_near yZ_come, fX9_draw R_width R_pinned R_from R_to R_turned L_layer L_tops L_bottoms P_size P_arrows P_uppers P_lowers X_upper X_lower Q_own Q_far Q_degree Q_seen Q_median Q_stood Q_sorted Q_spots Q_movers B_cost B_above B_below B_codes B_used B_chosen B_best B_bestCost B_size C_x C_sum C_degree T_track T_used T_left T_right T_arrows T_trackEnd OL_layers OL_size OL_rows OL_places OL_home OF_layers OF_size OF_rows OF_places OF_home OK_layers OK_size OK_rows OK_places OK_home p0 = some (rr, ytold, yL_layer, yL_tops, yL_bottoms, yL_layers, yP_size, yP_arrows, yP_uppers, yP_lowers, yX_upper, yX_lower, yQ_own, yQ_far, yQ_degree, yQ_seen, yQ_median, yQ_stood, yQ_sorted, yQ_spots, yQ_movers, yB_cost, yB_above, yB_below, yB_codes, yB_used, yB_chosen, yB_best, yB_bestCost, yB_size, yC_x, yC_sum, yC_degree, yT_track, yT_used, yT_left, yT_right, yT_arrows, yT_trackEnd, yOL_layers, yOL_size, yOL_rows, yOL_places, yOL_home, yOF_layers, yOF_size, yOF_rows, yOF_places, yOF_home, yOK_layers, yOK_size, yOK_rows, yOK_places, yOK_home, wh) ∧ fX10_draw Z_isBox Z_width Z_pinned Z_isArrow Z_from Z_to Z_turned Z_told Z_layers Z_layer Z_sizes Z_items Z_place Z_dummyPlace Z_xs Z_oldLayer Z_oldPlace Z_oldDummy Z_row Z_ends Z_near Z_come p0 = some (rr, 0, yZ_turned, yZ_told, yZ_layers, yZ_layer, yZ_sizes, yZ_items, yZ_place, yZ_dummyPlace, yZ_xs, yZ_oldLayer, yZ_oldPlace, yZ_oldDummy, yZ_row, yZ_ends, yZ_near, yZ_come) ∧ k_I ytold R_width R_pinned R_from R_to R_turned yL_layer yL_tops yL_bottoms yL_layers yP_size yP_arrows yP_uppers yP_lowers yC_x yT_track yT_used yOL_layers yOL_size yOL_rows yOL_places yOL_home Z_isBox Z_width Z_pinned Z_isArrow Z_from Z_to yZ_turned yZ_told yZ_layers yZ_layer yZ_sizes yZ_items yZ_place yZ_dummyPlace yZ_xs yZ_oldLayer yZ_oldPlace yZ_oldDummy := by
  obtain ⟨ex, bx, pn, tn, fr, to, pv, wv, N0, old, hS, hM, hO, hOld, hT⟩ := id hI
  rcases n_cases p0 5 (by omega) with hb | ⟨r0, hr0, rfl⟩
  · left
    obtain ⟨e1, e2⟩ := k_needRoundsF hb
    have e3 : fX10_in p0 0 4 = some 0 := k_inF 4 (by omega) hb
    refine ⟨by unfold hX9_draw; rw [e1, s_thrN]; exact e2, ?_⟩
    unfold fX10_draw jX10_draw_15
    rw [e3, s_bind, if_pos rfl, if_neg s_1le0]
  · right
    have e0 := k_needRoundsT hr0
    have e3 : fX10_in (nI r0) 0 4 = some 1 := k_inT (n := 4) (by omega) (by omega)
    obtain ⟨r, lay, N, L, tp, bo, U, zL, zc, a1, a2, a3, a4⟩ := k_lay hS hM L_layer L_tops L_bottoms Z_turned Z_layer Z_come
    rcases a4 with rfl | ⟨rfl, hG, hL, hE, hmL⟩
    · refine ⟨0, 0, L, tp, bo, nI N, P_size, P_arrows, P_uppers, P_lowers, X_upper, X_lower, Q_own, Q_far, Q_degree, Q_seen, Q_median, Q_stood, Q_sorted, Q_spots, Q_movers, B_cost, B_above, B_below, B_codes, B_used, B_chosen, B_best, B_bestCost, B_size, C_x, C_sum, C_degree, T_track, T_used, T_left, T_right, T_arrows, T_trackEnd, OL_layers, OL_size, OL_rows, OL_places, OL_home, OF_layers, OF_size, OF_rows, OF_places, OF_home, OK_layers, OK_size, OK_rows, OK_places, OK_home, 0, U, 0, nI N, zL, Z_sizes, Z_items, Z_place, Z_dummyPlace, Z_xs, Z_oldLayer, Z_oldPlace, Z_oldDummy, Z_row, Z_ends, Z_near, zc, ?_, ?_, ex, bx, pn, tn, fr, to, pv, wv, N0, old, hS, hM, hO, hOld, .inl ⟨rfl, rfl⟩⟩
      · unfold fX9_draw fX9_prepare
        rw [e0, s_bind, a1, s_b5, if_pos rfl, s_b10, if_pos rfl]
      · unfold fX10_draw jX10_draw_15
        rw [e3, s_bind, if_neg (by decide), if_pos s_0le0, a2, s_b5, if_pos rfl]
    · have hN := hG.1
      have hWb : ∀ b, b < 16 → (bx b = true ↔ ¬ R_width b ≤ 0) := fun b hb => (hS.2.2.1 b hb).1
      obtain ⟨sz, ar, uu, ll, b1, hP⟩ := p_collect hG (fun a ha => k_U hS ha) (fun a ha => k_Lo hS ha) hE P_arrows P_uppers P_lowers
      obtain ⟨so, rw1, pl1, hm1, b2, hO1⟩ := p_startFirst hG hWb hL hE OF_rows
      obtain ⟨xu', xl', ow', fa', dg', sn', md', sd', sr', sp', mv', co', ab', be', cd', us', ch', bs', bc', bz', rw2, pl2, b3, hO2⟩ := p_improve hG (g_V_first hN) hP hO1 (r := r0) (by omega) X_upper X_lower Q_own Q_far Q_degree Q_seen Q_median Q_stood Q_sorted Q_spots Q_movers B_cost B_above B_below B_codes B_used B_chosen B_best B_bestCost B_size
      have hV2 := g_V_dro (r := r0) hN (g_V_first (ex := ex) (up := g_up fr to tn) (lo := g_lo fr to tn) (bx := bx) (lay := lay) hN)
      obtain ⟨C', sm', dg2, tr, us, q', r', z', te', m, Lp, b4, b5, b6, b7, b8⟩ := k_fin hS hG hV2 hP hO2 C_x C_sum C_degree T_left T_right T_arrows T_trackEnd
      have hX : m_X bx Z_isBox := fun b hb => (hM.2.1 b hb).1
      obtain ⟨S', I', P', D', zr', ze', zn', c1, hmO⟩ := p_mdraw hG hX (k_A hM a3) hmL (r := r0) (by omega) Z_sizes Z_items Z_place Z_dummyPlace Z_row Z_ends Z_near
      obtain ⟨Z', oL', oP', oD', m', c2, c3, c4, c5⟩ := k_made hS hM hG hV2 a3 hmL hmO Z_xs Z_oldLayer Z_oldPlace Z_oldDummy
      have hmm := g_isM_one b5 c3
      subst hmm
      refine ⟨1, 1, L, tp, bo, nI N, sz, ar, uu, ll, xu', xl', ow', fa', dg', sn', md', sd', sr', sp', mv', co', ab', be', cd', us', ch', bs', bc', bz', C', sm', dg2, tr, us, q', r', z', te', nI N, so, rw2, pl2, hm1, OL_layers, OL_size, OL_rows, OL_places, OL_home, OK_layers, OK_size, OK_rows, OK_places, OK_home, 1, U, 1, nI N, zL, S', I', P', D', Z', oL', oP', oD', zr', ze', zn', zc, ?_, ?_, ex, bx, pn, tn, fr, to, pv, wv, N, _, hS, hM, hO2, c5, .inr ⟨rfl, rfl, lay, m, Lp, hG, hV2, hL, hE, rfl, hP, b5, b6, b7, b8, a3, hmL, rfl, hmO, c4⟩⟩
      · unfold fX9_draw fX9_prepare
        rw [e0, s_bind, a1, s_b5, if_neg (by decide), b1, s_b4, s_b10, if_neg (by decide), b2, s_b5, b3, s_b23, b4, s_b10]
      · unfold fX10_draw jX10_draw_15
        rw [e3, s_bind, if_neg (by decide), if_pos s_0le0, a2, s_b5, if_neg (by decide), c1, s_b7, c2, s_b5]
end DR
