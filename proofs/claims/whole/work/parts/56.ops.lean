/-! PURE: calls that change boxes and arrows, and reversed. -/
theorem k_needBoxNumberF {p0 : Int32} (hb : p0 < 0 ∨ nI 16 ≤ p0) : fX9_needBoxNumber p0 = none ∧ hX9_needBoxNumber p0 = some () := by
  unfold fX9_needBoxNumber hX9_needBoxNumber
  by_cases h0 : p0 < 0
  · rw [if_pos h0, if_pos h0]
    exact ⟨rfl, rfl⟩
  · have h1 : ¬ p0 < 16 := by
      rcases hb with h | h
      · exact absurd h h0
      · exact Int32.not_lt.mpr h
    rw [if_neg h0, if_neg h0, if_neg h1, if_neg h1]
    exact ⟨rfl, rfl⟩
theorem k_needBoxNumberT {k : Nat} (hk : k < 16) : fX9_needBoxNumber (nI k) = some () := by
  unfold fX9_needBoxNumber
  simp (disch := omega) only [s_in, s_cl, s_leL, s_ltL, s_eqL, s_leR, s_ltR, s_eqR, s_le, s_lt, s_eq, s_addL, s_addL', s_mulL, s_mulL', s_mul, nI_add, s_subL, s_sub, s_m1, s_m1', s_lm1, s_ltm1, s_m1lt, s_m1le, s_m1p, s_10, s_let, s_el, s_er, s_b2, s_b3, s_b4, s_b5, s_b6, s_b7, s_b8, s_b9, s_b10, s_b11, s_b12, s_bind, eq_self, if_pos, if_neg, ite_true, ite_false, if_true, if_false, Bool.false_eq_true, reduceIte]
theorem k_needArrowNumberF {p0 : Int32} (hb : p0 < 0 ∨ nI 24 ≤ p0) : fX9_needArrowNumber p0 = none ∧ hX9_needArrowNumber p0 = some () := by
  unfold fX9_needArrowNumber hX9_needArrowNumber
  by_cases h0 : p0 < 0
  · rw [if_pos h0, if_pos h0]
    exact ⟨rfl, rfl⟩
  · have h1 : ¬ p0 < 24 := by
      rcases hb with h | h
      · exact absurd h h0
      · exact Int32.not_lt.mpr h
    rw [if_neg h0, if_neg h0, if_neg h1, if_neg h1]
    exact ⟨rfl, rfl⟩
theorem k_needArrowNumberT {k : Nat} (hk : k < 24) : fX9_needArrowNumber (nI k) = some () := by
  unfold fX9_needArrowNumber
  simp (disch := omega) only [s_in, s_cl, s_leL, s_ltL, s_eqL, s_leR, s_ltR, s_eqR, s_le, s_lt, s_eq, s_addL, s_addL', s_mulL, s_mulL', s_mul, nI_add, s_subL, s_sub, s_m1, s_m1', s_lm1, s_ltm1, s_m1lt, s_m1le, s_m1p, s_10, s_let, s_el, s_er, s_b2, s_b3, s_b4, s_b5, s_b6, s_b7, s_b8, s_b9, s_b10, s_b11, s_b12, s_bind, eq_self, if_pos, if_neg, ite_true, ite_false, if_true, if_false, Bool.false_eq_true, reduceIte]
theorem k_needRoundsF {p0 : Int32} (hb : p0 < 0 ∨ nI 5 ≤ p0) : fX9_needRounds p0 = none ∧ hX9_needRounds p0 = some () := by
  unfold fX9_needRounds hX9_needRounds
  by_cases h0 : p0 < 0
  · rw [if_pos h0, if_pos h0]
    exact ⟨rfl, rfl⟩
  · have h1 : ¬ p0 ≤ 4 := by
      rcases hb with h | h
      · exact absurd h h0
      · exact Int32.not_le.mpr (s_15 4 (by omega) h)
    rw [if_neg h0, if_neg h0, if_neg h1, if_neg h1]
    exact ⟨rfl, rfl⟩
theorem k_needRoundsT {k : Nat} (hk : k < 5) : fX9_needRounds (nI k) = some () := by
  unfold fX9_needRounds
  simp (disch := omega) only [s_in, s_cl, s_leL, s_ltL, s_eqL, s_leR, s_ltR, s_eqR, s_le, s_lt, s_eq, s_addL, s_addL', s_mulL, s_mulL', s_mul, nI_add, s_subL, s_sub, s_m1, s_m1', s_lm1, s_ltm1, s_m1lt, s_m1le, s_m1p, s_10, s_let, s_el, s_er, s_b2, s_b3, s_b4, s_b5, s_b6, s_b7, s_b8, s_b9, s_b10, s_b11, s_b12, s_bind, eq_self, if_pos, if_neg, ite_true, ite_false, if_true, if_false, Bool.false_eq_true, reduceIte]
theorem k_whatF {p0 : Int32} (n : Nat) (hn : n + 1 < 2147483648) (hb : p0 < 0 ∨ nI (n + 1) ≤ p0) : fX9_needWhat p0 (nI n) = none ∧ hX9_needWhat p0 (nI n) = some () := by
  unfold fX9_needWhat hX9_needWhat
  by_cases h0 : p0 < 0
  · rw [if_pos h0, if_pos h0]
    exact ⟨rfl, rfl⟩
  · have h1 : ¬ p0 ≤ nI n := by
      rcases hb with h | h
      · exact absurd h h0
      · exact Int32.not_le.mpr (s_15 n hn h)
    rw [if_neg h0, if_neg h0, if_neg h1, if_neg h1]
    exact ⟨rfl, rfl⟩
theorem k_whatT {k n : Nat} (hn : n < 2147483648) (hk : k ≤ n) : fX9_needWhat (nI k) (nI n) = some () := by
  unfold fX9_needWhat
  rw [if_neg (nI_pos (by omega)), if_pos (by rw [s_le (by omega) (by omega)]; exact hk)]
theorem k_nbF {w : Nat → Int32} {p0 : Int32} (h : fX7_hasBox w p0 = some 0) : fX9_needBox w p0 = none ∧ hX9_needBox w p0 = some () := by
  unfold fX9_needBox hX9_needBox
  rw [h, s_bind, s_bind, if_pos rfl, if_pos rfl]
  exact ⟨rfl, rfl⟩
theorem k_nbT {w : Nat → Int32} {p0 : Int32} (h : fX7_hasBox w p0 = some 1) : fX9_needBox w p0 = some () := by
  unfold fX9_needBox
  rw [h, s_bind, if_neg (by decide)]
theorem s_thrN {α β : Type} {k : α → Option β} {y : Option β} : q_thr none k y = y := rfl
theorem s_thrS {α β : Type} {a : α} {k : α → Option β} {y : Option β} : q_thr (some a) k y = k a := rfl
theorem s_0le0 : ((0 : Int32) ≤ 0) := by decide
theorem s_1le0 : ¬ ((1 : Int32) ≤ 0) := by decide
def g_u1 {α : Type} (f : Nat → α) (b : Nat) (v : α) : Nat → α := fun i => if i = b then v else f i
theorem g_u1s {α : Type} {f : Nat → α} {b : Nat} {v : α} : g_u1 f b v b = v := if_pos rfl
theorem g_u1n {α : Type} {f : Nat → α} {b i : Nat} {v : α} (h : i ≠ b) : g_u1 f b v i = f i := if_neg h
section OP
variable {M_told : Int32} {R_width : Nat → Int32} {R_pinned : Nat → Int32} {R_from : Nat → Int32} {R_to : Nat → Int32} {R_turned : Nat → Int32} {L_layer : Nat → Int32} {L_tops : Nat → Int32} {L_bottoms : Nat → Int32} {L_layers : Int32} {P_size : Nat → Int32} {P_arrows : Nat → Int32} {P_uppers : Nat → Int32} {P_lowers : Nat → Int32} {C_x : Nat → Int32} {T_track : Nat → Int32} {T_used : Nat → Int32} {OL_layers : Int32} {OL_size : Nat → Int32} {OL_rows : Nat → Int32} {OL_places : Nat → Int32} {OL_home : Nat → Int32} {Z_isBox : Nat → Int32} {Z_width : Nat → Int32} {Z_pinned : Nat → Int32} {Z_isArrow : Nat → Int32} {Z_from : Nat → Int32} {Z_to : Nat → Int32} {Z_turned : Nat → Int32} {Z_told : Int32} {Z_layers : Int32} {Z_layer : Nat → Int32} {Z_sizes : Nat → Int32} {Z_items : Nat → Int32} {Z_place : Nat → Int32} {Z_dummyPlace : Nat → Int32} {Z_xs : Nat → Int32} {Z_oldLayer : Nat → Int32} {Z_oldPlace : Nat → Int32} {Z_oldDummy : Nat → Int32}
theorem k_opBox (hI : k_I M_told R_width R_pinned R_from R_to R_turned L_layer L_tops L_bottoms L_layers P_size P_arrows P_uppers P_lowers C_x T_track T_used OL_layers OL_size OL_rows OL_places OL_home Z_isBox Z_width Z_pinned Z_isArrow Z_from Z_to Z_turned Z_told Z_layers Z_layer Z_sizes Z_items Z_place Z_dummyPlace Z_xs Z_oldLayer Z_oldPlace Z_oldDummy) (p0 p1 : Int32) :
    (hX9_box p0 p1 = some () ∧ fX10_box Z_isBox Z_width Z_pinned Z_told p0 p1 = some (1, Z_isBox, Z_width, Z_pinned, Z_told)) ∨ ∃ w' zx zw zp, fX9_box R_width p0 p1 = some (0, w') ∧ fX10_box Z_isBox Z_width Z_pinned Z_told p0 p1 = some (0, zx, zw, zp, 0) ∧ k_I 0 w' R_pinned R_from R_to R_turned L_layer L_tops L_bottoms L_layers P_size P_arrows P_uppers P_lowers C_x T_track T_used OL_layers OL_size OL_rows OL_places OL_home zx zw zp Z_isArrow Z_from Z_to Z_turned 0 Z_layers Z_layer Z_sizes Z_items Z_place Z_dummyPlace Z_xs Z_oldLayer Z_oldPlace Z_oldDummy := by
  obtain ⟨ex, bx, pn, tn, fr, to, pv, wv, N, old, hS, hM, hO, hOld, hT⟩ := hI
  rcases n_cases p0 16 (by omega) with hb | ⟨b, hb, rfl⟩
  · left
    obtain ⟨e1, e2⟩ := k_needBoxNumberF hb
    unfold hX9_box fX10_box jX10_box_25 jX10_box_26
    have e3 : fX10_in p0 0 15 = some 0 := k_inF 15 (by omega) hb
    rw [e1, s_thrN, e3, s_bind, if_pos rfl, if_neg s_1le0]
    exact ⟨e2, rfl⟩
  · have e0 := k_needBoxNumberT hb
    have e3 : fX10_in (nI b) 0 15 = some 1 := k_inT (n := 15) (by omega) (by omega)
    have bad : (p1 < 1 ∨ nI 51 ≤ p1) → hX9_box (nI b) p1 = some () ∧ fX10_box Z_isBox Z_width Z_pinned Z_told (nI b) p1 = some (1, Z_isBox, Z_width, Z_pinned, Z_told) := by
      intro hp
      unfold hX9_box fX10_box jX10_box_25 jX10_box_26
      have e4 : fX10_in p1 1 50 = some 0 := by
        unfold fX10_in
        rcases hp with h | h
        · rw [if_pos h]
        · by_cases h1 : p1 < 1
          · rw [if_pos h1]
          · rw [if_neg h1, if_pos (show (50 : Int32) < p1 from s_15 50 (by omega) h)]
      refine ⟨?_, by rw [e3, s_bind, if_neg (by decide), e4, s_bind, if_pos rfl, if_neg s_1le0]⟩
      rw [e0, s_thrS]
      rcases hp with h | h
      · rw [if_pos h]
      · by_cases h1 : p1 < 1
        · rw [if_pos h1]
        · rw [if_neg h1, if_neg (show ¬ p1 ≤ 50 from Int32.not_le.mpr (s_15 50 (by omega) h))]
    rcases n_cases p1 51 (by omega) with hp | ⟨v, hv, rfl⟩
    · left
      refine bad ?_
      rcases hp with h | h
      · exact .inl (Int32.lt_trans h (by decide))
      · exact .inr h
    · by_cases hv0 : v = 0
      · left
        exact bad (.inl (by rw [hv0]; decide))
      · right
        have e4 : fX10_in (nI v) 1 50 = some 1 := by
          unfold fX10_in
          simp (disch := omega) only [s_in, s_cl, s_leL, s_ltL, s_eqL, s_leR, s_ltR, s_eqR, s_le, s_lt, s_eq, s_addL, s_addL', s_mulL, s_mulL', s_mul, nI_add, s_subL, s_sub, s_m1, s_m1', s_lm1, s_ltm1, s_m1lt, s_m1le, s_m1p, s_10, s_let, s_el, s_er, s_b2, s_b3, s_b4, s_b5, s_b6, s_b7, s_b8, s_b9, s_b10, s_b11, s_b12, s_bind, eq_self, if_pos, if_neg, ite_true, ite_false, if_true, if_false, Bool.false_eq_true, reduceIte]
        obtain ⟨hG, hTt, hB, hgT, hw⟩ := id hS
        obtain ⟨mG, mB, mW⟩ := id hM
        have hX := (mB b hb).1
        have hS' : k_S ex (g_u1 bx b true) (g_u1 pn b (bx b && pn b)) tn fr to pv (g_u1 wv b v) (upd R_width b (nI v)) R_pinned R_from R_to R_turned := by
          refine ⟨?_, hTt, ?_, hgT, ?_⟩
          · intro a ha
            refine ⟨(hG a ha).1, fun he => ?_⟩
            obtain ⟨k1, k2, k3, k4, k5, k6, k7⟩ := (hG a ha).2 he
            have key : ∀ i, ¬ R_width i ≤ 0 → ¬ upd R_width b (nI v) i ≤ 0 := by
              intro i hi
              by_cases h : i = b
              · subst h
                rw [pk_us, n_lit 0, s_le (by omega) (by omega)]
                omega
              · rw [pk_un h]
                exact hi
            exact ⟨k1, k2, k3, k4, k5, key _ k6, key _ k7⟩
          · intro i hi
            obtain ⟨k1, k2, k3⟩ := hB i hi
            by_cases h : i = b
            · subst h
              rw [g_u1s, g_u1s, pk_us]
              refine ⟨⟨fun _ => by rw [n_lit 0, s_le (by omega) (by omega)]; omega, fun _ => rfl⟩, fun _ => ?_, k3⟩
              cases hbx : bx i
              · rw [(hw i hi).2.1 hbx]
                rfl
              · rw [k2 hbx]
                rfl
            · rw [g_u1n h, g_u1n h, pk_un h]
              exact ⟨k1, k2, k3⟩
          · intro i hi
            obtain ⟨k1, k2, k3, k4⟩ := hw i hi
            by_cases h : i = b
            · subst h
              rw [g_u1s, g_u1s, pk_us]
              exact ⟨fun _ => rfl, fun h => by simp at h, by omega, by omega⟩
            · rw [g_u1n h, g_u1n h, pk_un h]
              exact ⟨k1, k2, k3, k4⟩
        have e5 : fX9_box R_width (nI b) (nI v) = some (0, upd R_width b (nI v)) := by
          unfold fX9_box fX7_putBox
          rw [e0, s_bind]
          simp (disch := omega) only [s_in, s_cl, s_leL, s_ltL, s_eqL, s_leR, s_ltR, s_eqR, s_le, s_lt, s_eq, s_addL, s_addL', s_mulL, s_mulL', s_mul, nI_add, s_subL, s_sub, s_m1, s_m1', s_lm1, s_ltm1, s_m1lt, s_m1le, s_m1p, s_10, s_let, s_el, s_er, s_b2, s_b3, s_b4, s_b5, s_b6, s_b7, s_b8, s_b9, s_b10, s_b11, s_b12, s_bind, eq_self, if_pos, if_neg, ite_true, ite_false, if_true, if_false, Bool.false_eq_true, reduceIte]
        have hM' : ∀ zp, (bx b = true → zp = Z_pinned) → (bx b = false → zp = upd Z_pinned b (-1)) → k_M ex (g_u1 bx b true) (g_u1 pn b (bx b && pn b)) fr to pv (g_u1 wv b v) (upd Z_isBox b 1) (upd Z_width b (nI v)) zp Z_isArrow Z_from Z_to := by
          intro zp z1 z2
          refine ⟨mG, ?_, ?_⟩
          · intro i hi
            obtain ⟨k1, k2, k3⟩ := mB i hi
            by_cases h : i = b
            · subst h
              rw [g_u1s, g_u1s, pk_us]
              refine ⟨rfl, fun _ => ?_, k3⟩
              cases hbx : bx i
              · rw [z2 hbx, pk_us]
                rfl
              · rw [z1 hbx, k2 hbx]
                rfl
            · rw [g_u1n h, g_u1n h, pk_un h]
              refine ⟨k1, fun hh => ?_, k3⟩
              rw [← k2 hh]
              cases hbx : bx b
              · rw [z2 hbx, pk_un h]
              · rw [z1 hbx]
          · intro i hi hx
            by_cases h : i = b
            · subst h
              rw [g_u1s, pk_us]
            · rw [g_u1n h] at hx
              rw [g_u1n h, pk_un h]
              exact mW i hi hx
        cases hbx : bx b
        · refine ⟨_, _, _, upd Z_pinned b (-1), e5, ?_, _, _, _, tn, _, _, _, _, N, old, hS', hM' _ (fun h => by rw [hbx] at h; cases h) (fun _ => rfl), hO, hOld, .inl ⟨rfl, rfl⟩⟩
          unfold fX10_box jX10_box_26 jX10_box_53
          rw [e3, s_bind, if_neg (by decide), e4, s_bind, if_neg (by decide), if_pos s_0le0]
          simp (disch := omega) only [s_in, s_cl, s_leL, s_ltL, s_eqL, s_leR, s_ltR, s_eqR, s_le, s_lt, s_eq, s_addL, s_addL', s_mulL, s_mulL', s_mul, nI_add, s_subL, s_sub, s_m1, s_m1', s_lm1, s_ltm1, s_m1lt, s_m1le, s_m1p, s_10, s_let, s_el, s_er, s_b2, s_b3, s_b4, s_b5, s_b6, s_b7, s_b8, s_b9, s_b10, s_b11, s_b12, s_bind, eq_self, if_pos, if_neg, ite_true, ite_false, if_true, if_false, Bool.false_eq_true, reduceIte, hX, hbx]
        · refine ⟨_, _, _, Z_pinned, e5, ?_, _, _, _, tn, _, _, _, _, N, old, hS', hM' _ (fun _ => rfl) (fun h => by rw [hbx] at h; cases h), hO, hOld, .inl ⟨rfl, rfl⟩⟩
          unfold fX10_box jX10_box_26 jX10_box_53
          rw [e3, s_bind, if_neg (by decide), e4, s_bind, if_neg (by decide), if_pos s_0le0]
          simp (disch := omega) only [s_in, s_cl, s_leL, s_ltL, s_eqL, s_leR, s_ltR, s_eqR, s_le, s_lt, s_eq, s_addL, s_addL', s_mulL, s_mulL', s_mul, nI_add, s_subL, s_sub, s_m1, s_m1', s_lm1, s_ltm1, s_m1lt, s_m1le, s_m1p, s_10, s_let, s_el, s_er, s_b2, s_b3, s_b4, s_b5, s_b6, s_b7, s_b8, s_b9, s_b10, s_b11, s_b12, s_bind, eq_self, if_pos, if_neg, ite_true, ite_false, if_true, if_false, Bool.false_eq_true, reduceIte, hX, hbx]
theorem k_opPin (hI : k_I M_told R_width R_pinned R_from R_to R_turned L_layer L_tops L_bottoms L_layers P_size P_arrows P_uppers P_lowers C_x T_track T_used OL_layers OL_size OL_rows OL_places OL_home Z_isBox Z_width Z_pinned Z_isArrow Z_from Z_to Z_turned Z_told Z_layers Z_layer Z_sizes Z_items Z_place Z_dummyPlace Z_xs Z_oldLayer Z_oldPlace Z_oldDummy) (p0 p1 : Int32) :
    (hX9_pin R_width p0 p1 = some () ∧ fX10_pin Z_isBox Z_pinned Z_told p0 p1 = some (1, Z_pinned, Z_told)) ∨ ∃ p' zp, fX9_pin R_width R_pinned p0 p1 = some (0, p') ∧ fX10_pin Z_isBox Z_pinned Z_told p0 p1 = some (0, zp, 0) ∧ k_I 0 R_width p' R_from R_to R_turned L_layer L_tops L_bottoms L_layers P_size P_arrows P_uppers P_lowers C_x T_track T_used OL_layers OL_size OL_rows OL_places OL_home Z_isBox Z_width zp Z_isArrow Z_from Z_to Z_turned 0 Z_layers Z_layer Z_sizes Z_items Z_place Z_dummyPlace Z_xs Z_oldLayer Z_oldPlace Z_oldDummy := by
  obtain ⟨ex, bx, pn, tn, fr, to, pv, wv, N, old, hS, hM, hO, hOld, hT⟩ := hI
  have nobox : fX7_hasBox R_width p0 = some 0 → fX10_hasBox Z_isBox p0 = some 0 → hX9_pin R_width p0 p1 = some () ∧ fX10_pin Z_isBox Z_pinned Z_told p0 p1 = some (1, Z_pinned, Z_told) := by
    intro h1 h2
    obtain ⟨e1, e2⟩ := k_nbF h1
    unfold hX9_pin fX10_pin jX10_pin_23 jX10_pin_24
    rw [e1, s_thrN, h2, s_bind, if_pos rfl, if_neg s_1le0]
    exact ⟨e2, rfl⟩
  rcases n_cases p0 16 (by omega) with hb | ⟨b, hb, rfl⟩
  · exact .inl (nobox (k_out hb) (k_mout hb))
  · have c1 := k_box hS hb
    have c2 := k_mbox hM hb
    cases hbx : bx b
    · rw [hbx] at c1 c2
      exact .inl (nobox c1 c2)
    · rw [hbx] at c1 c2
      rw [if_pos rfl] at c1 c2
      have e0 := k_nbT c1
      have bad : (p1 < -1 ∨ nI 9 ≤ p1) → hX9_pin R_width (nI b) p1 = some () ∧ fX10_pin Z_isBox Z_pinned Z_told (nI b) p1 = some (1, Z_pinned, Z_told) := by
        intro hp
        have e4 : fX10_in p1 (-1) 8 = some 0 := by
          unfold fX10_in
          rcases hp with h | h
          · rw [if_pos h]
          · by_cases h1 : p1 < -1
            · rw [if_pos h1]
            · rw [if_neg h1, if_pos (show (8 : Int32) < p1 from s_15 8 (by omega) h)]
        unfold hX9_pin fX10_pin jX10_pin_23 jX10_pin_24
        refine ⟨?_, by rw [c2, s_bind, if_neg (by decide), e4, s_bind, if_pos rfl, if_neg s_1le0]⟩
        rw [e0, s_thrS]
        rcases hp with h | h
        · rw [if_pos h]
        · by_cases h1 : p1 < -1
          · rw [if_pos h1]
          · rw [if_neg h1, if_neg (show ¬ p1 ≤ 8 from Int32.not_le.mpr (s_15 8 (by omega) h))]
      have good : ∀ (q : Bool) (v : Nat), v ≤ 8 → p1 = (if q then nI v else -1) → ¬ p1 < -1 → p1 ≤ 8 → ∃ p' zp, fX9_pin R_width R_pinned (nI b) p1 = some (0, p') ∧ fX10_pin Z_isBox Z_pinned Z_told (nI b) p1 = some (0, zp, 0) ∧ k_I 0 R_width p' R_from R_to R_turned L_layer L_tops L_bottoms L_layers P_size P_arrows P_uppers P_lowers C_x T_track T_used OL_layers OL_size OL_rows OL_places OL_home Z_isBox Z_width zp Z_isArrow Z_from Z_to Z_turned 0 Z_layers Z_layer Z_sizes Z_items Z_place Z_dummyPlace Z_xs Z_oldLayer Z_oldPlace Z_oldDummy := by
        intro q v hv hp1 g1 g2
        obtain ⟨hG, hTt, hB, hgT, hw⟩ := id hS
        obtain ⟨mG, mB, mW⟩ := id hM
        have e4 : fX10_in p1 (-1) 8 = some 1 := by
          unfold fX10_in
          rw [if_neg g1, if_neg (Int32.not_lt.mpr g2)]
        refine ⟨upd R_pinned b p1, upd Z_pinned b p1, ?_, ?_, ex, bx, (g_u1 pn b q), tn, fr, to, (g_u1 pv b v), wv, N, old, ⟨hG, hTt, ?_, hgT, ?_⟩, ⟨mG, ?_, mW⟩, hO, hOld, .inl ⟨rfl, rfl⟩⟩
        · unfold fX9_pin fX7_pinBox
          rw [e0, s_bind, if_neg g1, if_pos g2, c1, s_bind, if_neg (by decide), if_pos (n_in hb (by decide)), s_cl (by omega), s_bind]
        · unfold fX10_pin jX10_pin_24
          rw [c2, s_bind, if_neg (by decide), e4, s_bind, if_neg (by decide), if_pos (by decide), if_pos (n_in hb (by decide)), s_cl (by omega)]
        · intro i hi
          obtain ⟨k1, k2, k3⟩ := hB i hi
          by_cases h : i = b
          · subst h
            rw [g_u1s, g_u1s, pk_us]
            exact ⟨k1, fun _ => hp1, hv⟩
          · rw [g_u1n h, g_u1n h, pk_un h]
            exact ⟨k1, k2, k3⟩
        · intro i hi
          obtain ⟨k1, k2, k3, k4⟩ := hw i hi
          by_cases h : i = b
          · subst h
            exact ⟨k1, (fun h => by rw [hbx] at h; cases h), k3, k4⟩
          · rw [pk_un h]
            exact ⟨k1, k2, k3, k4⟩
        · intro i hi
          obtain ⟨k1, k2, k3⟩ := mB i hi
          by_cases h : i = b
          · subst h
            rw [g_u1s, g_u1s, pk_us]
            exact ⟨k1, fun _ => hp1, hv⟩
          · rw [g_u1n h, g_u1n h, pk_un h]
            exact ⟨k1, k2, k3⟩
      rcases n_cases p1 9 (by omega) with hp | ⟨v, hv, rfl⟩
      · rcases hp with h | h
        · by_cases h1 : p1 = -1
          · right
            refine good false 0 (by omega) (by rw [h1]; rfl) (by rw [h1]; decide) (by rw [h1]; decide)
          · left
            refine bad (.inl ?_)
            rw [Int32.lt_iff_toInt_lt] at h ⊢
            have h3 : p1.toInt ≠ (-1 : Int32).toInt := fun e => h1 (Int32.toInt_inj.mp e)
            have h4 : (-1 : Int32).toInt = -1 := by decide
            have h5 : (0 : Int32).toInt = 0 := by decide
            omega
        · exact .inl (bad (.inr h))
      · right
        refine good true v (by omega) rfl (by rw [s_ltm1 (by omega)]; exact id) (by rw [n_lit 8, s_le (by omega) (by omega)]; omega)
end OP
