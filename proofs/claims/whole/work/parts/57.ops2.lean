/-! PURE: remove, arrow, drop, reversed. -/
def g_rm (ex : Nat → Bool) (fr to : Nat → Nat) (b a : Nat) : Bool := ex a && !(decide (fr a = b) || decide (to a = b))
theorem g_rm_iff {ex : Nat → Bool} {fr to : Nat → Nat} {b a : Nat} : g_rm ex fr to b a = true ↔ ex a = true ∧ fr a ≠ b ∧ to a ≠ b := by
  unfold g_rm
  simp
section OQ
variable {M_told : Int32} {R_width : Nat → Int32} {R_pinned : Nat → Int32} {R_from : Nat → Int32} {R_to : Nat → Int32} {R_turned : Nat → Int32} {L_layer : Nat → Int32} {L_tops : Nat → Int32} {L_bottoms : Nat → Int32} {L_layers : Int32} {P_size : Nat → Int32} {P_arrows : Nat → Int32} {P_uppers : Nat → Int32} {P_lowers : Nat → Int32} {C_x : Nat → Int32} {T_track : Nat → Int32} {T_used : Nat → Int32} {OL_layers : Int32} {OL_size : Nat → Int32} {OL_rows : Nat → Int32} {OL_places : Nat → Int32} {OL_home : Nat → Int32} {Z_isBox : Nat → Int32} {Z_width : Nat → Int32} {Z_pinned : Nat → Int32} {Z_isArrow : Nat → Int32} {Z_from : Nat → Int32} {Z_to : Nat → Int32} {Z_turned : Nat → Int32} {Z_told : Int32} {Z_layers : Int32} {Z_layer : Nat → Int32} {Z_sizes : Nat → Int32} {Z_items : Nat → Int32} {Z_place : Nat → Int32} {Z_dummyPlace : Nat → Int32} {Z_xs : Nat → Int32} {Z_oldLayer : Nat → Int32} {Z_oldPlace : Nat → Int32} {Z_oldDummy : Nat → Int32}
theorem k_opRemove (hI : k_I M_told R_width R_pinned R_from R_to R_turned L_layer L_tops L_bottoms L_layers P_size P_arrows P_uppers P_lowers C_x T_track T_used OL_layers OL_size OL_rows OL_places OL_home Z_isBox Z_width Z_pinned Z_isArrow Z_from Z_to Z_turned Z_told Z_layers Z_layer Z_sizes Z_items Z_place Z_dummyPlace Z_xs Z_oldLayer Z_oldPlace Z_oldDummy) (R_reach : Nat → Int32) (p0 : Int32) :
    (hX9_remove p0 = some () ∧ fX10_remove Z_isBox Z_isArrow Z_from Z_to Z_told p0 = some (0, 1, Z_isBox, Z_isArrow, Z_told)) ∨ (fX9_remove M_told R_width R_pinned R_from R_to R_turned R_reach p0 = some (0, M_told, R_width, R_pinned, R_from, R_to, R_turned, R_reach) ∧ fX10_remove Z_isBox Z_isArrow Z_from Z_to Z_told p0 = some (0, 0, Z_isBox, Z_isArrow, Z_told)) ∨ ∃ w' p' f' t' T' r' zx za, fX9_remove M_told R_width R_pinned R_from R_to R_turned R_reach p0 = some (1, 0, w', p', f', t', T', r') ∧ fX10_remove Z_isBox Z_isArrow Z_from Z_to Z_told p0 = some (1, 0, zx, za, 0) ∧ k_I 0 w' p' f' t' T' L_layer L_tops L_bottoms L_layers P_size P_arrows P_uppers P_lowers C_x T_track T_used OL_layers OL_size OL_rows OL_places OL_home zx Z_width Z_pinned za Z_from Z_to Z_turned 0 Z_layers Z_layer Z_sizes Z_items Z_place Z_dummyPlace Z_xs Z_oldLayer Z_oldPlace Z_oldDummy := by
  obtain ⟨ex, bx, pn, tn, fr, to, pv, wv, N, old, hS, hM, hO, hOld, hT⟩ := id hI
  rcases n_cases p0 16 (by omega) with hb | ⟨b, hb, rfl⟩
  · left
    obtain ⟨e1, e2⟩ := k_needBoxNumberF hb
    have e3 : fX10_in p0 0 15 = some 0 := k_inF 15 (by omega) hb
    refine ⟨?_, ?_⟩
    · unfold hX9_remove
      rw [e1, s_thrN]
      exact e2
    · unfold fX10_remove jX10_remove_16
      rw [e3, s_bind, if_pos rfl, if_pos (by decide)]
  · right
    have e0 := k_needBoxNumberT hb
    have e3 : fX10_in (nI b) 0 15 = some 1 := k_inT (n := 15) (by omega) (by omega)
    have c1 := k_box hS hb
    obtain ⟨hG, hTt, hB, hgT, hw⟩ := id hS
    obtain ⟨mG, mB, mW⟩ := id hM
    have hX := (mB b hb).1
    cases hbx : bx b
    · left
      rw [hbx, if_neg (by decide)] at c1 hX
      refine ⟨?_, ?_⟩
      · unfold fX9_remove
        rw [e0, s_bind, c1, s_bind, if_pos rfl]
      · unfold fX10_remove jX10_remove_16
        rw [e3, s_bind, if_neg (by decide), if_neg (by decide)]
        simp (disch := omega) only [s_in, s_cl, s_leL, s_ltL, s_eqL, s_leR, s_ltR, s_eqR, s_le, s_lt, s_eq, s_addL, s_addL', s_mulL, s_mulL', s_mul, nI_add, s_subL, s_sub, s_m1, s_m1', s_lm1, s_ltm1, s_m1lt, s_m1le, s_m1p, s_10, s_let, s_el, s_er, s_b2, s_b3, s_b4, s_b5, s_b6, s_b7, s_b8, s_b9, s_b10, s_b11, s_b12, s_bind, eq_self, if_pos, if_neg, ite_true, ite_false, if_true, if_false, Bool.false_eq_true, reduceIte, hX]
    · right
      rw [hbx, if_pos rfl] at c1 hX
      have H1 : ∃ e : (Nat → Int32) × (Nat → Int32), q_lo (fun (st : Int32 × (Nat → Int32) × (Nat → Int32)) => bX7_takeBox_25 (nI b) st.1 st.2.1 st.2.2) (0, R_from, R_to) = some e ∧ ∀ a, a < 24 → (R_from a = nI b ∨ R_to a = nI b → e.1 a = -1) ∧ (¬ (R_from a = nI b ∨ R_to a = nI b) → e.1 a = R_from a ∧ e.2 a = R_to a) := by
        refine q_inv (fun n (st : Int32 × (Nat → Int32) × (Nat → Int32)) => st.1 = nI n ∧ ∀ a, a < 24 → (a < n → (R_from a = nI b ∨ R_to a = nI b → st.2.1 a = -1) ∧ (¬ (R_from a = nI b ∨ R_to a = nI b) → st.2.1 a = R_from a ∧ st.2.2 a = R_to a)) ∧ (n ≤ a → st.2.1 a = R_from a ∧ st.2.2 a = R_to a)) 24 ?_ ?_ _ ⟨rfl, fun a _ => ⟨fun h => by omega, fun _ => ⟨rfl, rfl⟩⟩⟩
        · rintro n ⟨x, q, r⟩ hn ⟨h1, h2⟩
          dsimp only at h1 h2
          subst h1
          obtain ⟨q1, q2⟩ := (h2 n hn).2 (Nat.le_refl _)
          have put : ∃ t9 : Int32 × (Nat → Int32) × (Nat → Int32), (R_from n = nI b ∨ R_to n = nI b → some (Sum.inl (α := Int32 × (Nat → Int32) × (Nat → Int32)) (β := (Nat → Int32) × (Nat → Int32)) (nI (n + 1), upd q n (-1), upd r n (-1))) = some (.inl t9)) ∧ (R_from n = nI b ∨ R_to n = nI b → t9.1 = nI (n + 1) ∧ ∀ a, a < 24 → (a < n + 1 → (R_from a = nI b ∨ R_to a = nI b → t9.2.1 a = -1) ∧ (¬ (R_from a = nI b ∨ R_to a = nI b) → t9.2.1 a = R_from a ∧ t9.2.2 a = R_to a)) ∧ (n + 1 ≤ a → t9.2.1 a = R_from a ∧ t9.2.2 a = R_to a)) := by
            refine ⟨(nI (n + 1), upd q n (-1), upd r n (-1)), fun _ => rfl, fun hh => ⟨rfl, fun a ha => ?_⟩⟩
            dsimp only
            by_cases han : a = n
            · subst han
              rw [pk_us, pk_us]
              exact ⟨fun _ => ⟨fun _ => rfl, fun h => absurd hh h⟩, fun h => by omega⟩
            · rw [pk_un han, pk_un han]
              exact ⟨fun h => (h2 a ha).1 (by omega), fun h => (h2 a ha).2 (by omega)⟩
          obtain ⟨t9, t1, t2⟩ := put
          show ∃ t9, bX7_takeBox_25 (nI b) (nI n) q r = some (.inl t9) ∧ _
          unfold bX7_takeBox_25 jX7_takeBox_51 jX7_takeBox_65
          by_cases hc1 : R_from n = nI b
          · simp (disch := omega) only [s_in, s_cl, s_leL, s_ltL, s_eqL, s_leR, s_ltR, s_eqR, s_le, s_lt, s_eq, s_addL, s_addL', s_mulL, s_mulL', s_mul, nI_add, s_subL, s_sub, s_m1, s_m1', s_lm1, s_ltm1, s_m1lt, s_m1le, s_m1p, s_10, s_let, s_el, s_er, s_b2, s_b3, s_b4, s_b5, s_b6, s_b7, s_b8, s_b9, s_b10, s_b11, s_b12, s_bind, eq_self, if_pos, if_neg, ite_true, ite_false, if_true, if_false, Bool.false_eq_true, reduceIte, q1, hc1]
            exact ⟨t9, t1 (.inl hc1), t2 (.inl hc1)⟩
          · by_cases hc2 : R_to n = nI b
            · simp (disch := omega) only [s_in, s_cl, s_leL, s_ltL, s_eqL, s_leR, s_ltR, s_eqR, s_le, s_lt, s_eq, s_addL, s_addL', s_mulL, s_mulL', s_mul, nI_add, s_subL, s_sub, s_m1, s_m1', s_lm1, s_ltm1, s_m1lt, s_m1le, s_m1p, s_10, s_let, s_el, s_er, s_b2, s_b3, s_b4, s_b5, s_b6, s_b7, s_b8, s_b9, s_b10, s_b11, s_b12, s_bind, eq_self, if_pos, if_neg, ite_true, ite_false, if_true, if_false, Bool.false_eq_true, reduceIte, q1, q2, hc1, hc2]
              exact ⟨t9, t1 (.inr hc2), t2 (.inr hc2)⟩
            · simp (disch := omega) only [s_in, s_cl, s_leL, s_ltL, s_eqL, s_leR, s_ltR, s_eqR, s_le, s_lt, s_eq, s_addL, s_addL', s_mulL, s_mulL', s_mul, nI_add, s_subL, s_sub, s_m1, s_m1', s_lm1, s_ltm1, s_m1lt, s_m1le, s_m1p, s_10, s_let, s_el, s_er, s_b2, s_b3, s_b4, s_b5, s_b6, s_b7, s_b8, s_b9, s_b10, s_b11, s_b12, s_bind, eq_self, if_pos, if_neg, ite_true, ite_false, if_true, if_false, Bool.false_eq_true, reduceIte, q1, q2, hc1, hc2]
              refine ⟨_, rfl, rfl, fun a ha => ⟨fun h => ?_, fun h => (h2 a ha).2 (by omega)⟩⟩
              by_cases han : a = n
              · subst han
                exact ⟨fun h => absurd h (by rintro (h | h); exact hc1 h; exact hc2 h), fun _ => ⟨q1, q2⟩⟩
              · exact (h2 a ha).1 (by omega)
        · rintro ⟨x, q, r⟩ ⟨h1, h2⟩
          dsimp only at h1 h2
          subst h1
          refine ⟨(q, r), ?_, fun a ha => (h2 a ha).1 ha⟩
          show bX7_takeBox_25 (nI b) (nI 24) q r = _
          unfold bX7_takeBox_25
          rw [if_pos (by decide)]
      obtain ⟨⟨f', t'⟩, a1, a2⟩ := H1
      dsimp only at a2
      have hsame : ∀ a, a < 24 → ex a = true → ((R_from a = nI b ∨ R_to a = nI b) ↔ (fr a = b ∨ to a = b)) := by
        intro a ha he
        obtain ⟨k1, k2, k3, k4, k5, -⟩ := (hG a ha).2 he
        rw [k4, k5, s_eq (by omega) (by omega), s_eq (by omega) (by omega)]
      have hG' : c_G (g_rm ex fr to b) fr to (upd R_width b 0) f' t' := by
        intro a ha
        by_cases hc : R_from a = nI b ∨ R_to a = nI b
        · refine ⟨fun _ => (a2 a ha).1 hc, fun he => ?_⟩
          rw [g_rm_iff] at he
          have := (hsame a ha he.1).mp hc
          omega
        · obtain ⟨k1, k2⟩ := (a2 a ha).2 hc
          rw [k1, k2]
          refine ⟨fun he => ?_, fun he => ?_⟩
          · cases hea : ex a
            · exact (hG a ha).1 hea
            · exfalso
              have h9 := fun h => hc ((hsame a ha hea).mpr h)
              have h12 : g_rm ex fr to b a = true := g_rm_iff.mpr ⟨hea, fun h => h9 (.inl h), fun h => h9 (.inr h)⟩
              rw [he] at h12
              cases h12
          · rw [g_rm_iff] at he
            obtain ⟨j1, j2, j3, j4, j5, j6, j7⟩ := (hG a ha).2 he.1
            have h10 : fr a ≠ b := fun h => hc ((hsame a ha he.1).mpr (.inl h))
            have h11 : to a ≠ b := fun h => hc ((hsame a ha he.1).mpr (.inr h))
            exact ⟨j1, j2, j3, j4, j5, by rw [pk_un h10]; exact j6, by rw [pk_un h11]; exact j7⟩
      obtain ⟨T', r', tn', b1, b2, b3, b4⟩ := p_turnArrows R_turned hG'
      have H2 : ∃ e : Nat → Int32, q_lo (fun (st : Int32 × (Nat → Int32)) => bX10_remove_46 Z_from Z_to (nI b) st.1 st.2) (0, Z_isArrow) = some e ∧ ∀ a, a < 24 → e a = if Z_from a = nI b ∨ Z_to a = nI b then 0 else Z_isArrow a := by
        refine q_inv (fun n (st : Int32 × (Nat → Int32)) => st.1 = nI n ∧ ∀ a, a < 24 → (a < n → st.2 a = if Z_from a = nI b ∨ Z_to a = nI b then 0 else Z_isArrow a) ∧ (n ≤ a → st.2 a = Z_isArrow a)) 24 ?_ ?_ _ ⟨rfl, fun a _ => ⟨fun h => by omega, fun _ => rfl⟩⟩
        · rintro n ⟨x, q⟩ hn ⟨h1, h2⟩
          dsimp only at h1 h2
          subst h1
          have fin : ∀ v : Int32, (v = if Z_from n = nI b ∨ Z_to n = nI b then 0 else Z_isArrow n) → ∀ a, a < 24 → (a < n + 1 → upd q n v a = if Z_from a = nI b ∨ Z_to a = nI b then 0 else Z_isArrow a) ∧ (n + 1 ≤ a → upd q n v a = Z_isArrow a) := by
            intro v hv a ha
            by_cases han : a = n
            · subst han
              rw [pk_us]
              exact ⟨fun _ => hv, fun h => by omega⟩
            · rw [pk_un han]
              exact ⟨fun h => (h2 a ha).1 (by omega), fun h => (h2 a ha).2 (by omega)⟩
          show ∃ t9, bX10_remove_46 Z_from Z_to (nI b) (nI n) q = some (.inl t9) ∧ _
          unfold bX10_remove_46 jX10_remove_72 jX10_remove_79
          by_cases hc1 : Z_from n = nI b
          · simp (disch := omega) only [s_in, s_cl, s_leL, s_ltL, s_eqL, s_leR, s_ltR, s_eqR, s_le, s_lt, s_eq, s_addL, s_addL', s_mulL, s_mulL', s_mul, nI_add, s_subL, s_sub, s_m1, s_m1', s_lm1, s_ltm1, s_m1lt, s_m1le, s_m1p, s_10, s_let, s_el, s_er, s_b2, s_b3, s_b4, s_b5, s_b6, s_b7, s_b8, s_b9, s_b10, s_b11, s_b12, s_bind, eq_self, if_pos, if_neg, ite_true, ite_false, if_true, if_false, Bool.false_eq_true, reduceIte, hc1]
            exact ⟨_, rfl, rfl, fin 0 (by rw [if_pos (.inl hc1)])⟩
          · by_cases hc2 : Z_to n = nI b
            · simp (disch := omega) only [s_in, s_cl, s_leL, s_ltL, s_eqL, s_leR, s_ltR, s_eqR, s_le, s_lt, s_eq, s_addL, s_addL', s_mulL, s_mulL', s_mul, nI_add, s_subL, s_sub, s_m1, s_m1', s_lm1, s_ltm1, s_m1lt, s_m1le, s_m1p, s_10, s_let, s_el, s_er, s_b2, s_b3, s_b4, s_b5, s_b6, s_b7, s_b8, s_b9, s_b10, s_b11, s_b12, s_bind, eq_self, if_pos, if_neg, ite_true, ite_false, if_true, if_false, Bool.false_eq_true, reduceIte, hc1, hc2]
              exact ⟨_, rfl, rfl, fin 0 (by rw [if_pos (.inr hc2)])⟩
            · simp (disch := omega) only [s_in, s_cl, s_leL, s_ltL, s_eqL, s_leR, s_ltR, s_eqR, s_le, s_lt, s_eq, s_addL, s_addL', s_mulL, s_mulL', s_mul, nI_add, s_subL, s_sub, s_m1, s_m1', s_lm1, s_ltm1, s_m1lt, s_m1le, s_m1p, s_10, s_let, s_el, s_er, s_b2, s_b3, s_b4, s_b5, s_b6, s_b7, s_b8, s_b9, s_b10, s_b11, s_b12, s_bind, eq_self, if_pos, if_neg, ite_true, ite_false, if_true, if_false, Bool.false_eq_true, reduceIte, hc1, hc2]
              refine ⟨_, rfl, rfl, fun a ha => ⟨fun h => ?_, fun h => (h2 a ha).2 (by omega)⟩⟩
              by_cases han : a = n
              · subst han
                rw [if_neg (by rintro (h | h); exact hc1 h; exact hc2 h)]
                exact (h2 a ha).2 (Nat.le_refl _)
              · exact (h2 a ha).1 (by omega)
        · rintro ⟨x, q⟩ ⟨h1, h2⟩
          dsimp only at h1 h2
          subst h1
          refine ⟨q, ?_, fun a ha => (h2 a ha).1 ha⟩
          show bX10_remove_46 Z_from Z_to (nI b) (nI 24) q = _
          unfold bX10_remove_46
          rw [if_pos (by decide)]
      obtain ⟨za, d1, d2⟩ := H2
      refine ⟨upd R_width b 0, upd R_pinned b (-1), f', t', T', r', upd Z_isBox b 0, za, ?_, ?_, (g_rm ex fr to b), g_u1 bx b false, pn, tn', fr, to, pv, wv, N, old, ⟨hG', b3, ?_, b2, ?_⟩, ⟨?_, ?_, ?_⟩, hO, hOld, .inl ⟨rfl, rfl⟩⟩
      · unfold fX9_remove fX7_takeBox
        rw [e0, s_bind, c1, s_bind, if_neg (by decide), s_bind, if_neg (by decide), if_pos (n_in hb (by decide)), if_pos (n_in hb (by decide)), s_cl (by omega), a1, s_b2, b1, s_b2, s_b6]
      · unfold fX10_remove jX10_remove_16
        rw [e3, s_bind, if_neg (by decide), if_neg (by decide)]
        simp (disch := omega) only [s_in, s_cl, s_leL, s_ltL, s_eqL, s_leR, s_ltR, s_eqR, s_le, s_lt, s_eq, s_addL, s_addL', s_mulL, s_mulL', s_mul, nI_add, s_subL, s_sub, s_m1, s_m1', s_lm1, s_ltm1, s_m1lt, s_m1le, s_m1p, s_10, s_let, s_el, s_er, s_b2, s_b3, s_b4, s_b5, s_b6, s_b7, s_b8, s_b9, s_b10, s_b11, s_b12, s_bind, eq_self, if_pos, if_neg, ite_true, ite_false, if_true, if_false, Bool.false_eq_true, reduceIte, hX, d1]
      · intro i hi
        obtain ⟨k1, k2, k3⟩ := hB i hi
        by_cases h : i = b
        · subst h
          rw [g_u1s, pk_us]
          exact ⟨⟨(fun h => by cases h), fun h => absurd s_0le0 h⟩, (fun h => by cases h), k3⟩
        · rw [g_u1n h, pk_un h, pk_un h]
          exact ⟨k1, k2, k3⟩
      · intro i hi
        obtain ⟨k1, k2, k3, k4⟩ := hw i hi
        by_cases h : i = b
        · subst h
          rw [g_u1s, pk_us, pk_us]
          exact ⟨(fun h => by cases h), (fun _ => rfl), k3, k4⟩
        · rw [g_u1n h, pk_un h, pk_un h]
          exact ⟨k1, k2, k3, k4⟩
      · intro a ha
        obtain ⟨k1, k2⟩ := mG a ha
        rw [d2 a ha, k1]
        cases hea : ex a
        · have h12 : g_rm ex fr to b a = false := by
            cases h : g_rm ex fr to b a
            · rfl
            · rw [(g_rm_iff.mp h).1] at hea
              cases hea
          rw [h12]
          refine ⟨?_, fun h => by cases h⟩
          split <;> rfl
        · obtain ⟨j1, j2, j3, j4, j5⟩ := k2 hea
          have hiff : (Z_from a = nI b ∨ Z_to a = nI b) ↔ (fr a = b ∨ to a = b) := by rw [j4, j5, s_eq (by omega) (by omega), s_eq (by omega) (by omega)]
          refine ⟨?_, fun _ => ⟨j1, j2, j3, j4, j5⟩⟩
          by_cases h10 : fr a = b ∨ to a = b
          · have h12 : g_rm ex fr to b a = false := by
              cases h : g_rm ex fr to b a
              · rfl
              · have := g_rm_iff.mp h
                omega
            rw [h12, if_pos (hiff.mpr h10)]
            rfl
          · have h12 : g_rm ex fr to b a = true := g_rm_iff.mpr ⟨hea, fun h => h10 (.inl h), fun h => h10 (.inr h)⟩
            rw [h12, if_neg (fun h => h10 (hiff.mp h))]
      · intro i hi
        obtain ⟨k1, k2, k3⟩ := mB i hi
        by_cases h : i = b
        · subst h
          rw [g_u1s, pk_us]
          exact ⟨rfl, (fun h => by cases h), k3⟩
        · rw [g_u1n h, pk_un h]
          exact ⟨k1, k2, k3⟩
      · intro i hi hh
        by_cases h : i = b
        · subst h
          rw [g_u1s] at hh
          cases hh
        · rw [g_u1n h] at hh
          exact mW i hi hh
theorem k_opArrow (hI : k_I M_told R_width R_pinned R_from R_to R_turned L_layer L_tops L_bottoms L_layers P_size P_arrows P_uppers P_lowers C_x T_track T_used OL_layers OL_size OL_rows OL_places OL_home Z_isBox Z_width Z_pinned Z_isArrow Z_from Z_to Z_turned Z_told Z_layers Z_layer Z_sizes Z_items Z_place Z_dummyPlace Z_xs Z_oldLayer Z_oldPlace Z_oldDummy) (R_reach : Nat → Int32) (p0 p1 p2 : Int32) :
    (hX9_arrow R_width p0 p1 p2 = some () ∧ fX10_arrow Z_isBox Z_isArrow Z_from Z_to Z_told p0 p1 p2 = some (1, Z_isArrow, Z_from, Z_to, Z_told)) ∨ ∃ f' t' T' r' za zf zt, fX9_arrow R_width R_from R_to R_turned R_reach p0 p1 p2 = some (0, f', t', T', r') ∧ fX10_arrow Z_isBox Z_isArrow Z_from Z_to Z_told p0 p1 p2 = some (0, za, zf, zt, 0) ∧ k_I 0 R_width R_pinned f' t' T' L_layer L_tops L_bottoms L_layers P_size P_arrows P_uppers P_lowers C_x T_track T_used OL_layers OL_size OL_rows OL_places OL_home Z_isBox Z_width Z_pinned za zf zt Z_turned 0 Z_layers Z_layer Z_sizes Z_items Z_place Z_dummyPlace Z_xs Z_oldLayer Z_oldPlace Z_oldDummy := by
  obtain ⟨ex, bx, pn, tn, fr, to, pv, wv, N, old, hS, hM, hO, hOld, hT⟩ := id hI
  have bx2 : ∀ q : Int32, (fX7_hasBox R_width q = some 0 ∧ fX10_hasBox Z_isBox q = some 0) ∨ ∃ b, b < 16 ∧ q = nI b ∧ bx b = true ∧ fX7_hasBox R_width q = some 1 ∧ fX10_hasBox Z_isBox q = some 1 := by
    intro q
    rcases n_cases q 16 (by omega) with hb | ⟨b, hb, rfl⟩
    · exact .inl ⟨k_out hb, k_mout hb⟩
    · have c1 := k_box hS hb
      have c2 := k_mbox hM hb
      cases hbx : bx b
      · rw [hbx, if_neg (by decide)] at c1 c2
        exact .inl ⟨c1, c2⟩
      · rw [hbx, if_pos rfl] at c1 c2
        exact .inr ⟨b, hb, rfl, hbx, c1, c2⟩
  have jbad : ∀ {x : Option (Int32 × (Nat → Int32) × (Nat → Int32) × (Nat → Int32) × Int32)}, x = jX10_arrow_36 Z_isArrow Z_from Z_to Z_told p0 p1 p2 → x = some (1, Z_isArrow, Z_from, Z_to, Z_told) := by
    rintro x rfl
    unfold jX10_arrow_36 jX10_arrow_37
    rw [if_neg s_1le0]
  rcases n_cases p0 24 (by omega) with hb | ⟨a, ha, rfl⟩
  · left
    obtain ⟨e1, e2⟩ := k_needArrowNumberF hb
    have e3 : fX10_in p0 0 23 = some 0 := k_inF 23 (by omega) hb
    refine ⟨by unfold hX9_arrow; rw [e1, s_thrN]; exact e2, jbad ?_⟩
    unfold fX10_arrow
    rw [e3, s_bind, if_pos rfl]
  · have e0 := k_needArrowNumberT ha
    have e3 : fX10_in (nI a) 0 23 = some 1 := k_inT (n := 23) (by omega) (by omega)
    rcases bx2 p1 with ⟨c1, c2⟩ | ⟨x, hx, rfl, hxb, c1, c2⟩
    · left
      obtain ⟨e1, e2⟩ := k_nbF c1
      refine ⟨by unfold hX9_arrow; rw [e0, s_thrS, e1, s_thrN]; exact e2, jbad ?_⟩
      unfold fX10_arrow
      rw [e3, s_bind, if_neg (by decide), c2, s_bind, if_pos rfl]
    · have e4 := k_nbT c1
      rcases bx2 p2 with ⟨c3, c4⟩ | ⟨y, hy, rfl, hyb, c3, c4⟩
      · left
        obtain ⟨e1, e2⟩ := k_nbF c3
        refine ⟨by unfold hX9_arrow; rw [e0, s_thrS, e4, s_thrS, e1, s_thrN]; exact e2, jbad ?_⟩
        unfold fX10_arrow
        rw [e3, s_bind, if_neg (by decide), c2, s_bind, if_neg (by decide), c4, s_bind, if_pos rfl]
      · have e5 := k_nbT c3
        by_cases hxy : x = y
        · left
          subst hxy
          refine ⟨by unfold hX9_arrow; rw [e0, s_thrS, e4, s_thrS, s_thrS, if_pos rfl], jbad ?_⟩
          unfold fX10_arrow
          rw [e3, s_bind, if_neg (by decide), c2, s_bind, if_neg (by decide), s_bind, if_neg (by decide), if_pos rfl]
        · right
          have hne : ¬ nI x = nI y := by rw [s_eq (by omega) (by omega)]; exact hxy
          obtain ⟨hG, hTt, hB, hgT, hw⟩ := id hS
          obtain ⟨mG, mB, mW⟩ := id hM
          have hG' : c_G (g_u1 ex a true) (g_u1 fr a x) (g_u1 to a y) R_width (upd R_from a (nI x)) (upd R_to a (nI y)) := by
            intro i hi
            by_cases h : i = a
            · subst h
              rw [g_u1s, g_u1s, g_u1s, pk_us, pk_us]
              exact ⟨(fun h => by cases h), fun _ => ⟨hx, hy, hxy, rfl, rfl, (hB x hx).1.mp hxb, (hB y hy).1.mp hyb⟩⟩
            · rw [g_u1n h, g_u1n h, g_u1n h, pk_un h, pk_un h]
              exact hG i hi
          obtain ⟨T', r', tn', b1, b2, b3, b4⟩ := p_turnArrows R_turned hG'
          refine ⟨upd R_from a (nI x), upd R_to a (nI y), T', r', upd Z_isArrow a 1, upd Z_from a (nI x), upd Z_to a (nI y), ?_, ?_, g_u1 ex a true, bx, pn, tn', g_u1 fr a x, g_u1 to a y, pv, wv, N, old, ⟨hG', b3, hB, b2, hw⟩, ⟨?_, mB, mW⟩, hO, hOld, .inl ⟨rfl, rfl⟩⟩
          · unfold fX9_arrow fX7_putArrow
            rw [e0, s_bind, e4, s_bind, e5, s_bind, if_neg hne, if_neg (nI_pos (by omega)), if_neg (by rw [n_lit 24, s_le (by omega) (by omega)]; omega), c1, s_bind, if_neg (by decide), c3, s_bind, if_neg (by decide), if_pos (n_in ha (by decide)), if_pos (n_in ha (by decide)), s_cl (by omega), b1, s_b2, s_b4]
          · unfold fX10_arrow jX10_arrow_37
            rw [e3, s_bind, if_neg (by decide), c2, s_bind, if_neg (by decide), c4, s_bind, if_neg (by decide), if_neg hne, if_pos s_0le0, if_pos (n_in ha (by decide)), if_pos (n_in ha (by decide)), if_pos (n_in ha (by decide)), s_cl (by omega)]
          · intro i hi
            by_cases h : i = a
            · subst h
              rw [g_u1s, g_u1s, g_u1s, pk_us, pk_us, pk_us]
              exact ⟨rfl, fun _ => ⟨hx, hy, hxy, rfl, rfl⟩⟩
            · rw [g_u1n h, g_u1n h, g_u1n h, pk_un h, pk_un h, pk_un h]
              exact mG i hi
theorem k_opDrop (hI : k_I M_told R_width R_pinned R_from R_to R_turned L_layer L_tops L_bottoms L_layers P_size P_arrows P_uppers P_lowers C_x T_track T_used OL_layers OL_size OL_rows OL_places OL_home Z_isBox Z_width Z_pinned Z_isArrow Z_from Z_to Z_turned Z_told Z_layers Z_layer Z_sizes Z_items Z_place Z_dummyPlace Z_xs Z_oldLayer Z_oldPlace Z_oldDummy) (R_reach : Nat → Int32) (p0 : Int32) :
    (hX9_drop p0 = some () ∧ fX10_drop Z_isArrow Z_told p0 = some (0, 1, Z_isArrow, Z_told)) ∨ (fX9_drop M_told R_width R_from R_to R_turned R_reach p0 = some (0, M_told, R_from, R_to, R_turned, R_reach) ∧ fX10_drop Z_isArrow Z_told p0 = some (0, 0, Z_isArrow, Z_told)) ∨ ∃ f' t' T' r' za, fX9_drop M_told R_width R_from R_to R_turned R_reach p0 = some (1, 0, f', t', T', r') ∧ fX10_drop Z_isArrow Z_told p0 = some (1, 0, za, 0) ∧ k_I 0 R_width R_pinned f' t' T' L_layer L_tops L_bottoms L_layers P_size P_arrows P_uppers P_lowers C_x T_track T_used OL_layers OL_size OL_rows OL_places OL_home Z_isBox Z_width Z_pinned za Z_from Z_to Z_turned 0 Z_layers Z_layer Z_sizes Z_items Z_place Z_dummyPlace Z_xs Z_oldLayer Z_oldPlace Z_oldDummy := by
  obtain ⟨ex, bx, pn, tn, fr, to, pv, wv, N, old, hS, hM, hO, hOld, hT⟩ := id hI
  rcases n_cases p0 24 (by omega) with hb | ⟨a, ha, rfl⟩
  · left
    obtain ⟨e1, e2⟩ := k_needArrowNumberF hb
    have e3 : fX10_in p0 0 23 = some 0 := k_inF 23 (by omega) hb
    refine ⟨by unfold hX9_drop; rw [e1, s_thrN]; exact e2, ?_⟩
    unfold fX10_drop jX10_drop_16
    rw [e3, s_bind, if_pos rfl, if_pos (by decide)]
  · right
    have e0 := k_needArrowNumberT ha
    have e3 : fX10_in (nI a) 0 23 = some 1 := k_inT (n := 23) (by omega) (by omega)
    have c1 := k_arr hS ha
    obtain ⟨hG, hTt, hB, hgT, hw⟩ := id hS
    obtain ⟨mG, mB, mW⟩ := id hM
    have hA := (mG a ha).1
    cases hea : ex a
    · left
      rw [hea, if_neg (by decide)] at c1 hA
      refine ⟨?_, ?_⟩
      · unfold fX9_drop
        rw [e0, s_bind, c1, s_bind, if_pos rfl]
      · unfold fX10_drop jX10_drop_16
        rw [e3, s_bind, if_neg (by decide), if_neg (by decide)]
        simp (disch := omega) only [s_in, s_cl, s_leL, s_ltL, s_eqL, s_leR, s_ltR, s_eqR, s_le, s_lt, s_eq, s_addL, s_addL', s_mulL, s_mulL', s_mul, nI_add, s_subL, s_sub, s_m1, s_m1', s_lm1, s_ltm1, s_m1lt, s_m1le, s_m1p, s_10, s_let, s_el, s_er, s_b2, s_b3, s_b4, s_b5, s_b6, s_b7, s_b8, s_b9, s_b10, s_b11, s_b12, s_bind, eq_self, if_pos, if_neg, ite_true, ite_false, if_true, if_false, Bool.false_eq_true, reduceIte, hA]
    · right
      rw [hea, if_pos rfl] at c1 hA
      have hG' : c_G (g_u1 ex a false) fr to R_width (upd R_from a (-1)) (upd R_to a (-1)) := by
        intro i hi
        by_cases h : i = a
        · subst h
          rw [g_u1s, pk_us, pk_us]
          exact ⟨fun _ => rfl, fun h => by cases h⟩
        · rw [g_u1n h, pk_un h, pk_un h]
          exact hG i hi
      obtain ⟨T', r', tn', b1, b2, b3, b4⟩ := p_turnArrows R_turned hG'
      refine ⟨upd R_from a (-1), upd R_to a (-1), T', r', upd Z_isArrow a 0, ?_, ?_, g_u1 ex a false, bx, pn, tn', fr, to, pv, wv, N, old, ⟨hG', b3, hB, b2, hw⟩, ⟨?_, mB, mW⟩, hO, hOld, .inl ⟨rfl, rfl⟩⟩
      · unfold fX9_drop fX7_takeArrow
        rw [e0, s_bind, c1, s_bind, if_neg (by decide), s_bind, if_neg (by decide), if_pos (n_in ha (by decide)), if_pos (n_in ha (by decide)), s_cl (by omega), b1, s_b2, s_b4]
      · unfold fX10_drop jX10_drop_16
        rw [e3, s_bind, if_neg (by decide), if_neg (by decide)]
        simp (disch := omega) only [s_in, s_cl, s_leL, s_ltL, s_eqL, s_leR, s_ltR, s_eqR, s_le, s_lt, s_eq, s_addL, s_addL', s_mulL, s_mulL', s_mul, nI_add, s_subL, s_sub, s_m1, s_m1', s_lm1, s_ltm1, s_m1lt, s_m1le, s_m1p, s_10, s_let, s_el, s_er, s_b2, s_b3, s_b4, s_b5, s_b6, s_b7, s_b8, s_b9, s_b10, s_b11, s_b12, s_bind, eq_self, if_pos, if_neg, ite_true, ite_false, if_true, if_false, Bool.false_eq_true, reduceIte, hA]
      · intro i hi
        by_cases h : i = a
        · subst h
          rw [g_u1s, pk_us]
          exact ⟨rfl, fun h => by cases h⟩
        · rw [g_u1n h, pk_un h]
          exact mG i hi
theorem k_turn (hI : k_I M_told R_width R_pinned R_from R_to R_turned L_layer L_tops L_bottoms L_layers P_size P_arrows P_uppers P_lowers C_x T_track T_used OL_layers OL_size OL_rows OL_places OL_home Z_isBox Z_width Z_pinned Z_isArrow Z_from Z_to Z_turned Z_told Z_layers Z_layer Z_sizes Z_items Z_place Z_dummyPlace Z_xs Z_oldLayer Z_oldPlace Z_oldDummy) (Z_come : Nat → Int32) : ∃ zU zc, fX10_turn Z_isArrow Z_from Z_to Z_turned Z_come = some (zU, zc) ∧ k_I M_told R_width R_pinned R_from R_to R_turned L_layer L_tops L_bottoms L_layers P_size P_arrows P_uppers P_lowers C_x T_track T_used OL_layers OL_size OL_rows OL_places OL_home Z_isBox Z_width Z_pinned Z_isArrow Z_from Z_to zU Z_told Z_layers Z_layer Z_sizes Z_items Z_place Z_dummyPlace Z_xs Z_oldLayer Z_oldPlace Z_oldDummy ∧ ∀ a, a < 24 → (fX7_hasArrow R_from (nI a) = some 0 ∧ Z_isArrow a = 0 ∧ zU a = 0) ∨ (fX7_hasArrow R_from (nI a) = some 1 ∧ Z_isArrow a = 1 ∧ R_turned a = zU a ∧ (zU a = 0 ∨ zU a = 1)) := by
  obtain ⟨ex, bx, pn, tn, fr, to, pv, wv, N, old, hS, hM, hO, hOld, hT⟩ := id hI
  obtain ⟨hG, hTt, hB, hgT, hw⟩ := id hS
  obtain ⟨mG, mB, mW⟩ := id hM
  obtain ⟨zU, zc, tn', e1, e2, e3⟩ := p_turn mG Z_turned Z_come
  have e4 : c_T tn zU := by
    intro a ha
    rw [e3 a ha, g_one e2 hgT a ha]
  refine ⟨zU, zc, e1, ⟨ex, bx, pn, tn, fr, to, pv, wv, N, old, hS, hM, hO, hOld, ?_⟩, ?_⟩
  · rcases hT with h | ⟨h1, h2, lay, m, Lp, h3⟩
    · exact .inl h
    · obtain ⟨d1, d2, d3, d4, d5, d6, d7, d8, d9, d10, d11, d12⟩ := h3
      exact .inr ⟨h1, h2, lay, m, Lp, d1, d2, d3, d4, d5, d6, d7, d8, d9, d10, e4, d12⟩
  · intro a ha
    have c1 := k_arr hS ha
    have c2 := (mG a ha).1
    cases hea : ex a
    · left
      rw [hea, if_neg (by decide)] at c1 c2
      refine ⟨c1, c2, ?_⟩
      rw [e4 a ha]
      cases htn : tn a
      · rfl
      · have := ((hgT a ha).mp htn).1
        rw [hea] at this
        cases this
    · right
      rw [hea, if_pos rfl] at c1 c2
      refine ⟨c1, c2, by rw [hTt a ha, e4 a ha], ?_⟩
      rw [e4 a ha]
      cases tn a
      · exact .inl rfl
      · exact .inr rfl
theorem k_opReversed (hI : k_I M_told R_width R_pinned R_from R_to R_turned L_layer L_tops L_bottoms L_layers P_size P_arrows P_uppers P_lowers C_x T_track T_used OL_layers OL_size OL_rows OL_places OL_home Z_isBox Z_width Z_pinned Z_isArrow Z_from Z_to Z_turned Z_told Z_layers Z_layer Z_sizes Z_items Z_place Z_dummyPlace Z_xs Z_oldLayer Z_oldPlace Z_oldDummy) (Z_come : Nat → Int32) (p0 : Int32) :
    (hX9_reversed p0 = some () ∧ fX10_reversed Z_isArrow Z_from Z_to Z_turned Z_come p0 = some (0, 1, Z_turned, Z_come)) ∨ ∃ r zU zc, fX9_reversed R_from R_turned p0 = some r ∧ fX10_reversed Z_isArrow Z_from Z_to Z_turned Z_come p0 = some (r, 0, zU, zc) ∧ k_I M_told R_width R_pinned R_from R_to R_turned L_layer L_tops L_bottoms L_layers P_size P_arrows P_uppers P_lowers C_x T_track T_used OL_layers OL_size OL_rows OL_places OL_home Z_isBox Z_width Z_pinned Z_isArrow Z_from Z_to zU Z_told Z_layers Z_layer Z_sizes Z_items Z_place Z_dummyPlace Z_xs Z_oldLayer Z_oldPlace Z_oldDummy := by
  rcases n_cases p0 24 (by omega) with hb | ⟨a, ha, rfl⟩
  · left
    obtain ⟨e1, e2⟩ := k_needArrowNumberF hb
    have e3 : fX10_in p0 0 23 = some 0 := k_inF 23 (by omega) hb
    refine ⟨by unfold hX9_reversed; rw [e1, s_thrN]; exact e2, ?_⟩
    unfold fX10_reversed jX10_reversed_16
    rw [e3, s_bind, if_pos rfl, if_neg s_1le0]
  · right
    have e0 := k_needArrowNumberT ha
    have e3 : fX10_in (nI a) 0 23 = some 1 := k_inT (n := 23) (by omega) (by omega)
    obtain ⟨zU, zc, e4, e5, e6⟩ := k_turn hI Z_come
    rcases e6 a ha with ⟨c1, c2, c3⟩ | ⟨c1, c2, c3, c4⟩
    · refine ⟨-1, zU, zc, ?_, ?_, e5⟩
      · unfold fX9_reversed
        rw [e0, s_bind, c1, s_bind, if_pos rfl]
      · unfold fX10_reversed jX10_reversed_16
        rw [e3, s_bind, if_neg (by decide), if_pos s_0le0, e4, s_b2]
        simp (disch := omega) only [s_in, s_cl, s_leL, s_ltL, s_eqL, s_leR, s_ltR, s_eqR, s_le, s_lt, s_eq, s_addL, s_addL', s_mulL, s_mulL', s_mul, nI_add, s_subL, s_sub, s_m1, s_m1', s_lm1, s_ltm1, s_m1lt, s_m1le, s_m1p, s_10, s_let, s_el, s_er, s_b2, s_b3, s_b4, s_b5, s_b6, s_b7, s_b8, s_b9, s_b10, s_b11, s_b12, s_bind, eq_self, if_pos, if_neg, ite_true, ite_false, if_true, if_false, Bool.false_eq_true, reduceIte, c2]
    · refine ⟨zU a, zU, zc, ?_, ?_, e5⟩
      · unfold fX9_reversed fX7_isTurned
        rw [e0, s_bind, c1, s_bind, if_neg (by decide), s_bind, if_neg (by decide)]
        rcases c4 with h | h
        · rw [h] at c3
          simp (disch := omega) only [s_in, s_cl, s_leL, s_ltL, s_eqL, s_leR, s_ltR, s_eqR, s_le, s_lt, s_eq, s_addL, s_addL', s_mulL, s_mulL', s_mul, nI_add, s_subL, s_sub, s_m1, s_m1', s_lm1, s_ltm1, s_m1lt, s_m1le, s_m1p, s_10, s_let, s_el, s_er, s_b2, s_b3, s_b4, s_b5, s_b6, s_b7, s_b8, s_b9, s_b10, s_b11, s_b12, s_bind, eq_self, if_pos, if_neg, ite_true, ite_false, if_true, if_false, Bool.false_eq_true, reduceIte, c3, h]
        · rw [h] at c3
          simp (disch := omega) only [s_in, s_cl, s_leL, s_ltL, s_eqL, s_leR, s_ltR, s_eqR, s_le, s_lt, s_eq, s_addL, s_addL', s_mulL, s_mulL', s_mul, nI_add, s_subL, s_sub, s_m1, s_m1', s_lm1, s_ltm1, s_m1lt, s_m1le, s_m1p, s_10, s_let, s_el, s_er, s_b2, s_b3, s_b4, s_b5, s_b6, s_b7, s_b8, s_b9, s_b10, s_b11, s_b12, s_bind, eq_self, if_pos, if_neg, ite_true, ite_false, if_true, if_false, Bool.false_eq_true, reduceIte, c3, h]
      · unfold fX10_reversed jX10_reversed_16
        rw [e3, s_bind, if_neg (by decide), if_pos s_0le0, e4, s_b2]
        rcases c4 with h | h
        · simp (disch := omega) only [s_in, s_cl, s_leL, s_ltL, s_eqL, s_leR, s_ltR, s_eqR, s_le, s_lt, s_eq, s_addL, s_addL', s_mulL, s_mulL', s_mul, nI_add, s_subL, s_sub, s_m1, s_m1', s_lm1, s_ltm1, s_m1lt, s_m1le, s_m1p, s_10, s_let, s_el, s_er, s_b2, s_b3, s_b4, s_b5, s_b6, s_b7, s_b8, s_b9, s_b10, s_b11, s_b12, s_bind, eq_self, if_pos, if_neg, ite_true, ite_false, if_true, if_false, Bool.false_eq_true, reduceIte, c2, h]
        · simp (disch := omega) only [s_in, s_cl, s_leL, s_ltL, s_eqL, s_leR, s_ltR, s_eqR, s_le, s_lt, s_eq, s_addL, s_addL', s_mulL, s_mulL', s_mul, nI_add, s_subL, s_sub, s_m1, s_m1', s_lm1, s_ltm1, s_m1lt, s_m1le, s_m1p, s_10, s_let, s_el, s_er, s_b2, s_b3, s_b4, s_b5, s_b6, s_b7, s_b8, s_b9, s_b10, s_b11, s_b12, s_bind, eq_self, if_pos, if_neg, ite_true, ite_false, if_true, if_false, Bool.false_eq_true, reduceIte, c2, h]
end OQ
