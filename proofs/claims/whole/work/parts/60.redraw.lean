/-! PURE: redraw. -/
section RN
variable {ex bx : Nat → Bool} {up lo lay : Nat → Nat} {N : Nat} {row : Nat → List Nat} {S I : Nat → Int32}
theorem p_copy63 (I sp : Nat → Int32) : ∃ sp', q_lo (fun (st : Int32 × (Nat → Int32)) => bX10_redraw_63 I st.1 st.2) (0, sp) = some sp' ∧ ∀ k, k < 960 → sp' k = I k := by
  refine q_inv (fun n (st : Int32 × (Nat → Int32)) => st.1 = nI n ∧ ∀ k, k < n → st.2 k = I k) 960 ?_ ?_ _ ⟨rfl, fun k h => by omega⟩
  · rintro n ⟨x, q⟩ hn ⟨h1, h2⟩
    dsimp only at h1 h2
    subst h1
    show ∃ t9, bX10_redraw_63 I (nI n) q = some (.inl t9) ∧ _
    unfold bX10_redraw_63
    simp (disch := omega) only [s_in, s_cl, s_leL, s_ltL, s_eqL, s_leR, s_ltR, s_eqR, s_le, s_lt, s_eq, s_addL, s_addL', s_mulL, s_mulL', s_mul, nI_add, s_subL, s_sub, s_m1, s_m1', s_lm1, s_ltm1, s_m1lt, s_m1le, s_m1p, s_10, s_let, s_el, s_er, s_b2, s_b3, s_b4, s_b5, s_b6, s_b7, s_b8, s_b9, s_b10, s_b11, s_b12, s_bind, eq_self, if_pos, if_neg, ite_true, ite_false, if_true, if_false, Bool.false_eq_true, reduceIte]
    refine ⟨_, rfl, rfl, fun k hk => ?_⟩
    dsimp only
    by_cases hkn : k = n
    · subst hkn
      rw [pk_us]
    · rw [pk_un hkn]
      exact h2 k (by omega)
  · rintro ⟨x, q⟩ ⟨h1, h2⟩
    dsimp only at h1 h2
    subst h1
    refine ⟨q, ?_, h2⟩
    show bX10_redraw_63 I (nI 960) q = _
    unfold bX10_redraw_63
    rw [if_pos (by decide)]
theorem p_copy109 (sp I : Nat → Int32) : ∃ I', q_lo (fun (st : Int32 × (Nat → Int32)) => bX10_redraw_109 sp st.1 st.2) (0, I) = some I' ∧ ∀ k, k < 960 → I' k = sp k := p_copy63 sp I
theorem p_mnotes (hG : g_G ex up lo bx lay N) (hV : g_V ex up lo bx lay N row) (hl : ∀ l, l < N → m_I (row l) l I ∧ (row l).length ≤ 40 ∧ S l = nI (row l).length) (P D : Nat → Int32) : ∃ P' D', q_lo (fun (st : Int32 × (Nat → Int32) × (Nat → Int32)) => bX10_redraw_140 (nI N) S I st.1 st.2.1 st.2.2) (0, P, D) = some (P', D') ∧ m_O N row S I P' D' := by
  have hN := hG.1
  have H9 : ∃ e : (Nat → Int32) × (Nat → Int32), q_lo (fun (st : Int32 × (Nat → Int32) × (Nat → Int32)) => bX10_redraw_140 (nI N) S I st.1 st.2.1 st.2.2) (0, P, D) = some e ∧ m_O N row S I e.1 e.2 := by
    refine q_inv (fun n (st : Int32 × (Nat → Int32) × (Nat → Int32)) => st.1 = nI n ∧ m_O n row S I st.2.1 st.2.2) N ?_ ?_ _ ⟨rfl, fun l hl => by omega⟩
    · rintro n ⟨x, P1, D1⟩ hn ⟨h1, h2⟩
      dsimp only at h1 h2
      subst h1
      obtain ⟨i1, i2, i3⟩ := hl n hn
      have hnd := (hV n (by omega)).1
      obtain ⟨P2, D2, k1, k2, k3, k4⟩ := p_note (S := S) i1 (by omega) i2 hnd i3 P1 D1
      show ∃ t9, bX10_redraw_140 (nI N) S I (nI n) P1 D1 = some (.inl t9) ∧ _
      unfold bX10_redraw_140
      rw [if_neg (by rw [s_le (by omega) (by omega)]; omega), k1, s_b2, s_addL]
      refine ⟨_, rfl, rfl, ?_⟩
      intro i hi
      dsimp only
      by_cases hin : i = n
      · subst hin
        exact ⟨i2, hnd, i3, k2⟩
      · refine m_O_note (N := n) (n := n) (l := n) (R := row n) (row := row) (by omega) (fun i hi => by omega) (by omega) (fun i hi _ => h2 i hi) (fun _ _ => rfl) (fun _ _ _ _ => rfl) ?_ k3 k4 i (by omega) hin
        intro i hi hil b hb hm hm2
        rw [(hV n (by omega)).2] at hm2
        rw [(hV i (by omega)).2] at hm
        exact hil (g_hd_box hb hm2.2.2 hm.2.2)
    · rintro ⟨x, P1, D1⟩ ⟨h1, h2⟩
      dsimp only at h1 h2
      subst h1
      refine ⟨(P1, D1), ?_, h2⟩
      show bX10_redraw_140 (nI N) S I (nI N) P1 D1 = _
      unfold bX10_redraw_140
      rw [if_pos (Int32.le_refl _)]
  obtain ⟨⟨z1, z2⟩, h8, h9⟩ := H9
  exact ⟨z1, z2, h8, h9⟩
theorem g_V_keep {old : Nat → List Nat} (ho : ∀ l, l < 24 → (old l).Nodup ∧ ∀ c, c ∈ old l → c < 40) : g_V ex up lo bx lay N (g_all (g_hd ex up lo bx lay) (g_keep (g_hd ex up lo bx lay) old N) N) := by
  intro l hl
  unfold g_all g_keep
  by_cases h : l < N
  · rw [if_pos h, if_pos h]
    refine ⟨g_ms_nd' ((ho l hl).1.filter _) 40, fun c => ?_⟩
    rw [g_ms_mem, List.mem_filter]
    constructor
    · rintro (h1 | h1)
      · exact ⟨h, (ho l hl).2 c h1.1, h1.2⟩
      · exact ⟨h, h1.1, h1.2⟩
    · rintro ⟨-, h1, h2⟩
      exact .inr ⟨h1, h2⟩
  · rw [if_neg h, if_neg h]
    refine ⟨List.nodup_nil, fun c => ?_⟩
    constructor
    · intro h1
      simp at h1
    · rintro ⟨h1, -⟩
      exact absurd h1 h
theorem g_V_len {row2 : Nat → List Nat} (hV : g_V ex up lo bx lay N row) (hV2 : g_V ex up lo bx lay N row2) {l : Nat} (hl : l < 24) : (row l).length = (row2 l).length := by
  refine List.Perm.length_eq ?_
  rw [List.perm_ext_iff_of_nodup (hV l hl).1 (hV2 l hl).1]
  intro c
  rw [(hV l hl).2, (hV2 l hl).2]
end RN
section RD
variable {M_told : Int32} {R_width : Nat → Int32} {R_pinned : Nat → Int32} {R_from : Nat → Int32} {R_to : Nat → Int32} {R_turned : Nat → Int32} {L_layer : Nat → Int32} {L_tops : Nat → Int32} {L_bottoms : Nat → Int32} {L_layers : Int32} {P_size : Nat → Int32} {P_arrows : Nat → Int32} {P_uppers : Nat → Int32} {P_lowers : Nat → Int32} {C_x : Nat → Int32} {T_track : Nat → Int32} {T_used : Nat → Int32} {OL_layers : Int32} {OL_size : Nat → Int32} {OL_rows : Nat → Int32} {OL_places : Nat → Int32} {OL_home : Nat → Int32} {Z_isBox : Nat → Int32} {Z_width : Nat → Int32} {Z_pinned : Nat → Int32} {Z_isArrow : Nat → Int32} {Z_from : Nat → Int32} {Z_to : Nat → Int32} {Z_turned : Nat → Int32} {Z_told : Int32} {Z_layers : Int32} {Z_layer : Nat → Int32} {Z_sizes : Nat → Int32} {Z_items : Nat → Int32} {Z_place : Nat → Int32} {Z_dummyPlace : Nat → Int32} {Z_xs : Nat → Int32} {Z_oldLayer : Nat → Int32} {Z_oldPlace : Nat → Int32} {Z_oldDummy : Nat → Int32} {X_upper : Nat → Int32} {X_lower : Nat → Int32} {Q_own : Nat → Int32} {Q_far : Nat → Int32} {Q_degree : Nat → Int32} {Q_seen : Nat → Int32} {Q_median : Nat → Int32} {Q_stood : Nat → Int32} {Q_sorted : Nat → Int32} {Q_spots : Nat → Int32} {Q_movers : Int32} {B_cost : Nat → Int32} {B_above : Nat → Int32} {B_below : Nat → Int32} {B_codes : Nat → Int32} {B_used : Nat → Int32} {B_chosen : Nat → Int32} {B_best : Nat → Int32} {B_bestCost : Int32} {B_size : Int32} {C_sum : Nat → Int32} {C_degree : Nat → Int32} {T_left : Nat → Int32} {T_right : Nat → Int32} {T_arrows : Nat → Int32} {T_trackEnd : Nat → Int32} {OF_layers : Int32} {OF_size : Nat → Int32} {OF_rows : Nat → Int32} {OF_places : Nat → Int32} {OF_home : Nat → Int32} {OK_layers : Int32} {OK_size : Nat → Int32} {OK_rows : Nat → Int32} {OK_places : Nat → Int32} {OK_home : Nat → Int32} {Z_spare : Nat → Int32} {Z_row : Nat → Int32} {Z_ends : Nat → Int32} {Z_near : Nat → Int32} {Z_come : Nat → Int32}
theorem k_opRedraw (hI : k_I M_told R_width R_pinned R_from R_to R_turned L_layer L_tops L_bottoms L_layers P_size P_arrows P_uppers P_lowers C_x T_track T_used OL_layers OL_size OL_rows OL_places OL_home Z_isBox Z_width Z_pinned Z_isArrow Z_from Z_to Z_turned Z_told Z_layers Z_layer Z_sizes Z_items Z_place Z_dummyPlace Z_xs Z_oldLayer Z_oldPlace Z_oldDummy) (p0 p1 : Int32) :
    (hX9_redraw p0 p1 = some () ∧ fX10_redraw Z_isBox Z_width Z_pinned Z_isArrow Z_from Z_to Z_turned Z_told Z_layers Z_layer Z_sizes Z_items Z_place Z_dummyPlace Z_xs Z_oldLayer Z_oldPlace Z_oldDummy Z_spare Z_row Z_ends Z_near Z_come p0 p1 = some (0, 1, Z_turned, Z_told, Z_layers, Z_layer, Z_sizes, Z_items, Z_place, Z_dummyPlace, Z_xs, Z_oldLayer, Z_oldPlace, Z_oldDummy, Z_spare, Z_row, Z_ends, Z_near, Z_come)) ∨ ∃ rr ytold yL_layer yL_tops yL_bottoms yL_layers yP_size yP_arrows yP_uppers yP_lowers yX_upper yX_lower yQ_own yQ_far yQ_degree yQ_seen yQ_median yQ_stood yQ_sorted yQ_spots yQ_movers yB_cost yB_above yB_below yB_codes yB_used yB_chosen yB_best yB_bestCost yB_size yC_x yC_sum yC_degree yT_track yT_used yT_left yT_right yT_arrows yT_trackEnd yOL_layers yOL_size yOL_rows yOL_places yOL_home yOF_layers yOF_size yOF_rows yOF_places yOF_home yOK_layers yOK_size yOK_rows yOK_places yOK_home wh yZ_turned yZ_told yZ_layers yZ_layer yZ_sizes yZ_items yZ_place yZ_dummyPlace yZ_xs yZ_oldLayer yZ_oldPlace yZ_oldDummy yZ_spare yZ_row yZ_ends yZ_near yZ_come, fX9_redraw R_width R_pinned R_from R_to R_turned L_layer L_tops L_bottoms P_size P_arrows P_uppers P_lowers X_upper X_lower Q_own Q_far Q_degree Q_seen Q_median Q_stood Q_sorted Q_spots Q_movers B_cost B_above B_below B_codes B_used B_chosen B_best B_bestCost B_size C_x C_sum C_degree T_track T_used T_left T_right T_arrows T_trackEnd OL_layers OL_size OL_rows OL_places OL_home OF_layers OF_size OF_rows OF_places OF_home OK_layers OK_size OK_rows OK_places OK_home p0 p1 = some (rr, ytold, yL_layer, yL_tops, yL_bottoms, yL_layers, yP_size, yP_arrows, yP_uppers, yP_lowers, yX_upper, yX_lower, yQ_own, yQ_far, yQ_degree, yQ_seen, yQ_median, yQ_stood, yQ_sorted, yQ_spots, yQ_movers, yB_cost, yB_above, yB_below, yB_codes, yB_used, yB_chosen, yB_best, yB_bestCost, yB_size, yC_x, yC_sum, yC_degree, yT_track, yT_used, yT_left, yT_right, yT_arrows, yT_trackEnd, yOL_layers, yOL_size, yOL_rows, yOL_places, yOL_home, yOF_layers, yOF_size, yOF_rows, yOF_places, yOF_home, yOK_layers, yOK_size, yOK_rows, yOK_places, yOK_home, wh) ∧ fX10_redraw Z_isBox Z_width Z_pinned Z_isArrow Z_from Z_to Z_turned Z_told Z_layers Z_layer Z_sizes Z_items Z_place Z_dummyPlace Z_xs Z_oldLayer Z_oldPlace Z_oldDummy Z_spare Z_row Z_ends Z_near Z_come p0 p1 = some (rr, 0, yZ_turned, yZ_told, yZ_layers, yZ_layer, yZ_sizes, yZ_items, yZ_place, yZ_dummyPlace, yZ_xs, yZ_oldLayer, yZ_oldPlace, yZ_oldDummy, yZ_spare, yZ_row, yZ_ends, yZ_near, yZ_come) ∧ k_I ytold R_width R_pinned R_from R_to R_turned yL_layer yL_tops yL_bottoms yL_layers yP_size yP_arrows yP_uppers yP_lowers yC_x yT_track yT_used yOL_layers yOL_size yOL_rows yOL_places yOL_home Z_isBox Z_width Z_pinned Z_isArrow Z_from Z_to yZ_turned yZ_told yZ_layers yZ_layer yZ_sizes yZ_items yZ_place yZ_dummyPlace yZ_xs yZ_oldLayer yZ_oldPlace yZ_oldDummy := by
  obtain ⟨ex, bx, pn, tn, fr, to, pv, wv, N0, old, hS, hM, hO, hOld, hT⟩ := id hI
  have bad : ∀ {x : Option (Int32 × Int32 × (Nat → Int32) × Int32 × Int32 × (Nat → Int32) × (Nat → Int32) × (Nat → Int32) × (Nat → Int32) × (Nat → Int32) × (Nat → Int32) × (Nat → Int32) × (Nat → Int32) × (Nat → Int32) × (Nat → Int32) × (Nat → Int32) × (Nat → Int32) × (Nat → Int32) × (Nat → Int32))}, x = jX10_redraw_24 Z_isBox Z_width Z_pinned Z_isArrow Z_from Z_to Z_turned Z_told Z_layers Z_layer Z_sizes Z_items Z_place Z_dummyPlace Z_xs Z_oldLayer Z_oldPlace Z_oldDummy Z_spare Z_row Z_ends Z_near Z_come p0 p1 → x = some (0, 1, Z_turned, Z_told, Z_layers, Z_layer, Z_sizes, Z_items, Z_place, Z_dummyPlace, Z_xs, Z_oldLayer, Z_oldPlace, Z_oldDummy, Z_spare, Z_row, Z_ends, Z_near, Z_come) := by
    rintro x rfl
    unfold jX10_redraw_24 jX10_redraw_25
    rw [if_neg s_1le0]
  rcases n_cases p0 5 (by omega) with hb | ⟨r0, hr0, rfl⟩
  · left
    obtain ⟨e1, e2⟩ := k_needRoundsF hb
    have e3 : fX10_in p0 0 4 = some 0 := k_inF 4 (by omega) hb
    refine ⟨by unfold hX9_redraw; rw [e1, s_thrN]; exact e2, bad ?_⟩
    unfold fX10_redraw
    rw [e3, s_bind, if_pos rfl]
  have e0 := k_needRoundsT hr0
  have e3 : fX10_in (nI r0) 0 4 = some 1 := k_inT (n := 4) (by omega) (by omega)
  rcases n_cases p1 100001 (by omega) with hb | ⟨t0, ht0, rfl⟩
  · left
    have e4 : fX10_in p1 0 100000 = some 0 := k_inF 100000 (by omega) hb
    refine ⟨?_, bad ?_⟩
    · unfold hX9_redraw
      rw [e0, s_thrS]
      by_cases h0 : p1 < 0
      · rw [if_pos h0]
      · rw [if_neg h0, if_neg]
        rcases hb with h | h
        · exact absurd h h0
        · exact Int32.not_le.mpr (s_15 100000 (by omega) h)
    · unfold fX10_redraw
      rw [e3, s_bind, if_neg (by decide), e4, s_bind, if_pos rfl]
  · right
    have e4 : fX10_in (nI t0) 0 100000 = some 1 := k_inT (n := 100000) (by omega) (by omega)
    have e5 : ¬ nI t0 < 0 := nI_pos (by omega)
    have e6 : nI t0 ≤ 100000 := by rw [n_lit 100000, s_le (by omega) (by omega)]; omega
    obtain ⟨r, lay, N, L, tp, bo, U, zL, zc, a1, a2, a3, a4⟩ := k_lay hS hM L_layer L_tops L_bottoms Z_turned Z_layer Z_come
    rcases a4 with rfl | ⟨rfl, hG, hL, hE, hmL⟩
    · refine ⟨-1, 0, L, tp, bo, nI N, P_size, P_arrows, P_uppers, P_lowers, X_upper, X_lower, Q_own, Q_far, Q_degree, Q_seen, Q_median, Q_stood, Q_sorted, Q_spots, Q_movers, B_cost, B_above, B_below, B_codes, B_used, B_chosen, B_best, B_bestCost, B_size, C_x, C_sum, C_degree, T_track, T_used, T_left, T_right, T_arrows, T_trackEnd, OL_layers, OL_size, OL_rows, OL_places, OL_home, OF_layers, OF_size, OF_rows, OF_places, OF_home, OK_layers, OK_size, OK_rows, OK_places, OK_home, 0, U, 0, nI N, zL, Z_sizes, Z_items, Z_place, Z_dummyPlace, Z_xs, Z_oldLayer, Z_oldPlace, Z_oldDummy, Z_spare, Z_row, Z_ends, Z_near, zc, ?_, ?_, ex, bx, pn, tn, fr, to, pv, wv, N0, old, hS, hM, hO, hOld, .inl ⟨rfl, rfl⟩⟩
      · unfold fX9_redraw fX9_prepare
        rw [e0, s_bind, if_neg e5, if_pos e6, a1, s_b5, if_pos rfl, s_b10, if_pos rfl]
      · unfold fX10_redraw jX10_redraw_25
        rw [e3, s_bind, if_neg (by decide), e4, s_bind, if_neg (by decide), if_pos s_0le0, a2, s_b5, if_pos rfl]
    · have hN := hG.1
      have hWb : ∀ b, b < 16 → (bx b = true ↔ ¬ R_width b ≤ 0) := fun b hb => (hS.2.2.1 b hb).1
      have hoN : g_oN old := fun l hl => ⟨(hO.2.2.1 l hl).2.1, (hO.2.2.1 l hl).2.2.1⟩
      have hob : ∀ l, l < 24 → (old l).Nodup ∧ ∀ c, c ∈ old l → c < 40 := fun l hl => ⟨(hO.2.2.1 l hl).2.1, fun c hc => by
        obtain ⟨k, hk⟩ := List.mem_iff_getElem?.mp hc
        exact ((hO.2.2.1 l hl).2.2.2.2.1 k c hk).1⟩
      obtain ⟨sz, ar, uu, ll, b1, hP⟩ := p_collect hG (fun a ha => k_U hS ha) (fun a ha => k_Lo hS ha) hE P_arrows P_uppers P_lowers
      obtain ⟨so, rw1, pl1, hm1, b2, hO1⟩ := p_startFirst hG hWb hL hE OF_rows
      obtain ⟨xu', xl', ow', fa', dg', sn', md', sd', sr', sp', mv', co', ab', be', cd', us', ch', bs', bc', bz', rw2, pl2, b3, hO2⟩ := p_improve hG (g_V_first hN) hP hO1 (r := r0) (by omega) X_upper X_lower Q_own Q_far Q_degree Q_seen Q_median Q_stood Q_sorted Q_spots Q_movers B_cost B_above B_below B_codes B_used B_chosen B_best B_bestCost B_size
      have hV2 := g_V_dro (r := r0) hN (g_V_first (ex := ex) (up := g_up fr to tn) (lo := g_lo fr to tn) (bx := bx) (lay := lay) hN)
      have hV3 := g_V_keep (ex := ex) (up := g_up fr to tn) (lo := g_lo fr to tn) (bx := bx) (lay := lay) (N := N) hob
      obtain ⟨so3, rw3, pl3, hm3, b4, hO3⟩ := p_startLike hG hWb hL hE OK_rows hO
      obtain ⟨xu3, xl3, b5⟩ := p_inAll hG hV3 hP hO3 xu' xl'
      obtain ⟨xu4, xl4, b6⟩ := p_inAll hG hV2 hP hO2 xu3 xl3
      have hX : m_X bx Z_isBox := fun b hb => (hM.2.1 b hb).1
      have hA := k_A hM a3
      obtain ⟨S1, I1, P1, D1, zr1, c1, hmO1⟩ := p_mold hG hX hA hmL hOld hoN Z_sizes Z_items Z_place Z_dummyPlace Z_row
      have c2 := p_mtot hG hV3 hA hmL hmO1
      obtain ⟨sp1, c3, c4⟩ := p_copy63 I1 Z_spare
      obtain ⟨S2, I2, P2, D2, zr2, ze2, zn2, c5, hmO2⟩ := p_mdraw hG hX hA hmL (r := r0) (by omega) S1 I1 P1 D1 zr1 Z_ends Z_near
      have c6 := p_mtot hG hV2 hA hmL hmO2
      have bd1 := g_tot_b (ex := ex) (up := g_up fr to tn) (lo := g_lo fr to tn) (lay := lay) (row := g_all (g_hd ex (g_up fr to tn) (g_lo fr to tn) bx lay) (g_keep (g_hd ex (g_up fr to tn) (g_lo fr to tn) bx lay) old N) N) N
      have bd2 := g_tot_b (ex := ex) (up := g_up fr to tn) (lo := g_lo fr to tn) (lay := lay) (row := g_dro ex (g_up fr to tn) (g_lo fr to tn) lay N (g_all (g_hd ex (g_up fr to tn) (g_lo fr to tn) bx lay) (fun _ => []) N) r0) N
      generalize hrow3 : g_all (g_hd ex (g_up fr to tn) (g_lo fr to tn) bx lay) (g_keep (g_hd ex (g_up fr to tn) (g_lo fr to tn) bx lay) old N) N = row3 at hV3 hO3 b5 hmO1 c2 bd1
      generalize hrow2 : g_dro ex (g_up fr to tn) (g_lo fr to tn) lay N (g_all (g_hd ex (g_up fr to tn) (g_lo fr to tn) bx lay) (fun _ => []) N) r0 = row2 at hV2 hO2 b6 hmO2 c6 bd2
      generalize hx3 : g_tot ex (g_up fr to tn) (g_lo fr to tn) lay row3 N = x3 at b5 c2 bd1
      generalize hx2 : g_tot ex (g_up fr to tn) (g_lo fr to tn) lay row2 N = x2 at b6 c6 bd2
      have hcond : (nI x3 - nI x2 ≤ nI t0) = (x3 ≤ x2 + t0) := by
        rw [s_d0, iI_nat, iI_le (by omega) (by omega) (by omega) (by omega)]
        exact propext ⟨fun h => by omega, fun h => by omega⟩
      by_cases hc : x3 ≤ x2 + t0
      · obtain ⟨C', sm', dg2, tr, us, q', r', z', te', m, Lp, f1, f2, f3, f4, f5⟩ := k_fin hS hG hV3 hP hO3 C_x C_sum C_degree T_left T_right T_arrows T_trackEnd
        have f6 := k_moved hS hG hV3 hO3 hO
        obtain ⟨I3, d1, d2⟩ := p_copy109 sp1 I2
        have hm3l : ∀ l, l < N → m_I (row3 l) l I3 ∧ (row3 l).length ≤ 40 ∧ S2 l = nI (row3 l).length := by
          intro l hl
          obtain ⟨o1, o2, o3, o4⟩ := hmO1 l hl
          refine ⟨?_, o1, ?_⟩
          · intro k c hk
            have hkl := g_lt_len hk
            obtain ⟨i1, i2⟩ := o4.I k c hk
            exact ⟨i1, by rw [d2 _ (by omega), c4 _ (by omega)]; exact i2⟩
          · rw [(hmO2 l hl).2.2.1, g_V_len hV2 hV3 (by omega)]
        obtain ⟨P3, D3, d3, d4⟩ := p_mnotes hG hV3 hm3l P2 D2
        have d5 := k_mmoved hM hG hV3 hmL d4 hOld hoN
        obtain ⟨Z', oL', oP', oD', m', d6, d7, d8, d9⟩ := k_made hS hM hG hV3 a3 hmL d4 Z_xs Z_oldLayer Z_oldPlace Z_oldDummy
        have hmm := g_isM_one f2 d7
        subst hmm
        refine ⟨nI (g_ct (g_mb bx lay old row3) 16), 1, L, tp, bo, nI N, sz, ar, uu, ll, xu4, xl4, ow', fa', dg', sn', md', sd', sr', sp', mv', co', ab', be', cd', us', ch', bs', bc', bz', C', sm', dg2, tr, us, q', r', z', te', nI N, so3, rw3, pl3, hm3, nI N, so, rw2, pl2, hm1, OL_layers, OL_size, OL_rows, OL_places, OL_home, 2, U, 1, nI N, zL, S2, I3, P3, D3, Z', oL', oP', oD', sp1, zr2, ze2, zn2, zc, ?_, ?_, ex, bx, pn, tn, fr, to, pv, wv, N, row3, hS, hM, hO3, d9, .inr ⟨rfl, rfl, lay, m, Lp, hG, hV3, hL, hE, rfl, hP, f2, f3, f4, f5, a3, hmL, rfl, d4, d8⟩⟩
        · unfold fX9_redraw fX9_prepare jX9_redraw_103 jX9_redraw_123
          rw [e0, s_bind, if_neg e5, if_pos e6, a1, s_b5, if_neg (by decide), b1, s_b4, s_b10, if_neg (by decide), b2, s_b5, b3, s_b23, b4, s_b5, b5, s_b3, b6, s_b3, if_pos (by rw [hcond]; exact hc), if_pos rfl, f6, s_bind, if_pos rfl, f1, s_b10]
        · unfold fX10_redraw jX10_redraw_25 jX10_redraw_161
          rw [e3, s_bind, if_neg (by decide), e4, s_bind, if_neg (by decide), if_pos s_0le0, a2, s_b5, if_neg (by decide), c1, s_b5, c2, s_bind, c3, s_bind, c5, s_b7, c6, s_bind, nI_add, if_neg (by rw [s_lt (by omega) (by omega)]; omega), d1, s_bind, d3, s_b2, d5, s_bind, d6, s_b5]
      · obtain ⟨C', sm', dg2, tr, us, q', r', z', te', m, Lp, f1, f2, f3, f4, f5⟩ := k_fin hS hG hV2 hP hO2 C_x C_sum C_degree T_left T_right T_arrows T_trackEnd
        have f6 := k_moved hS hG hV2 hO2 hO
        have d5 := k_mmoved hM hG hV2 hmL hmO2 hOld hoN
        obtain ⟨Z', oL', oP', oD', m', d6, d7, d8, d9⟩ := k_made hS hM hG hV2 a3 hmL hmO2 Z_xs Z_oldLayer Z_oldPlace Z_oldDummy
        have hmm := g_isM_one f2 d7
        subst hmm
        refine ⟨nI (g_ct (g_mb bx lay old row2) 16), 1, L, tp, bo, nI N, sz, ar, uu, ll, xu4, xl4, ow', fa', dg', sn', md', sd', sr', sp', mv', co', ab', be', cd', us', ch', bs', bc', bz', C', sm', dg2, tr, us, q', r', z', te', nI N, so, rw2, pl2, hm1, OL_layers, OL_size, OL_rows, OL_places, OL_home, nI N, so3, rw3, pl3, hm3, 1, U, 1, nI N, zL, S2, I2, P2, D2, Z', oL', oP', oD', sp1, zr2, ze2, zn2, zc, ?_, ?_, ex, bx, pn, tn, fr, to, pv, wv, N, row2, hS, hM, hO2, d9, .inr ⟨rfl, rfl, lay, m, Lp, hG, hV2, hL, hE, rfl, hP, f2, f3, f4, f5, a3, hmL, rfl, hmO2, d8⟩⟩
        · unfold fX9_redraw fX9_prepare jX9_redraw_103 jX9_redraw_123
          rw [e0, s_bind, if_neg e5, if_pos e6, a1, s_b5, if_neg (by decide), b1, s_b4, s_b10, if_neg (by decide), b2, s_b5, b3, s_b23, b4, s_b5, b5, s_b3, b6, s_b3, if_neg (by rw [hcond]; exact hc), if_neg (by decide), f6, s_bind, if_neg (by decide), f1, s_b10]
        · unfold fX10_redraw jX10_redraw_25 jX10_redraw_161
          rw [e3, s_bind, if_neg (by decide), e4, s_bind, if_neg (by decide), if_pos s_0le0, a2, s_b5, if_neg (by decide), c1, s_b5, c2, s_bind, c3, s_bind, c5, s_b7, c6, s_bind, nI_add, if_pos (by rw [s_lt (by omega) (by omega)]; omega), d5, s_bind, d6, s_b5]
end RD
