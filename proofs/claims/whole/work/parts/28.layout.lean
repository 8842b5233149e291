/-! PURE: the reference's layers, whole. -/
theorem p_layOut {ex bx pn : Nat → Bool} {fr to pv : Nat → Nat} {tn : Nat → Bool} {X p A F T : Nat → Int32} (hG : m_G ex fr to A F T) (hB : m_B bx pn pv X p) (hE : ∀ a, a < 24 → ex a = true → bx (fr a) = true ∧ bx (to a) = true) (hTn : g_T ex fr to tn 24) {rk : Nat → Nat} (hrk : ∀ a, a < 24 → ex a = true → rk (g_up fr to tn a) < rk (g_lo fr to tn a)) (hrk15 : ∀ b, b < 16 → rk b ≤ 15) (U0 L0 c0 : Nat → Int32) :
    ∃ r U L c, fX10_layOut X p A F T U0 L0 c0 = some (r, U, nI (g_cnt bx (g_lay ex (g_up fr to tn) (g_lo fr to tn) pn (g_l0 pn pv) 16) 16), L, c) ∧ c_T tn U ∧ m_L bx (g_lay ex (g_up fr to tn) (g_lo fr to tn) pn (g_l0 pn pv) 16) L ∧
      ((r = 1 ∧ ∀ a, a < 24 → ex a = true → g_lay ex (g_up fr to tn) (g_lo fr to tn) pn (g_l0 pn pv) 16 (g_up fr to tn a) < g_lay ex (g_up fr to tn) (g_lo fr to tn) pn (g_l0 pn pv) 16 (g_lo fr to tn a)) ∨ (r = 0 ∧ ¬ ∀ a, a < 24 → ex a = true → g_lay ex (g_up fr to tn) (g_lo fr to tn) pn (g_l0 pn pv) 16 (g_up fr to tn a) < g_lay ex (g_up fr to tn) (g_lo fr to tn) pn (g_l0 pn pv) 16 (g_lo fr to tn a))) := by
  have hu : ∀ a, a < 24 → ex a = true → g_up fr to tn a < 16 ∧ g_lo fr to tn a < 16 ∧ bx (g_up fr to tn a) = true ∧ bx (g_lo fr to tn a) = true := by
    intro a ha he
    obtain ⟨e1, e2, -⟩ := (hG a ha).2 he
    obtain ⟨b1, b2⟩ := hE a ha he
    unfold g_up g_lo
    cases tn a
    · exact ⟨e1, e2, b1, b2⟩
    · exact ⟨e2, e1, b2, b1⟩
  have hl0 : ∀ b, b < 16 → g_l0 pn pv b ≤ 8 + rk b := by
    intro b hb
    have := (hB b hb).2.2
    unfold g_l0
    split <;> omega
  have hbd := g_lay_bound (pn := pn) hrk (fun a ha he => ⟨(hu a ha he).1, (hu a ha he).2.1⟩) hl0
  obtain ⟨U, c, tn', h0, hT', hU'⟩ := p_turn hG U0 c0
  have hU : c_T tn U := fun a ha => by rw [hU' a ha, g_one hT' hTn a ha]
  obtain ⟨L1, h1, hL1⟩ := p_mlift hB L0
  have H9 : ∃ e, q_lo (fun (st : Int32 × (Nat → Int32)) => bX10_layOut_45 p A F T U st.1 st.2) (0, L1) = some e ∧ m_L bx (g_lay ex (g_up fr to tn) (g_lo fr to tn) pn (g_l0 pn pv) 16) e := by
    refine q_inv (fun k (st : Int32 × (Nat → Int32)) => st.1 = nI k ∧ m_L bx (g_lay ex (g_up fr to tn) (g_lo fr to tn) pn (g_l0 pn pv) k) st.2) 16 ?_ ?_ _ ⟨rfl, hL1⟩
    · rintro k ⟨x, q⟩ hk ⟨hx, hq⟩
      dsimp only at hx hq
      subst hx
      obtain ⟨L', h2, h3⟩ := p_msink hG hU hB hE hrk hrk15 (hbd k) hq (nI k)
      show ∃ t9, bX10_layOut_45 p A F T U (nI k) q = some (.inl t9) ∧ _
      unfold bX10_layOut_45
      simp (disch := omega) only [s_in, s_cl, s_leL, s_ltL, s_eqL, s_leR, s_ltR, s_eqR, s_le, s_lt, s_eq, s_addL, s_addL', s_mulL, s_mulL', s_mul, nI_add, s_subL, s_sub, s_m1, s_m1', s_lm1, s_ltm1, s_m1lt, s_m1le, s_m1p, s_10, s_let, s_el, s_er, s_b2, s_b3, s_b4, s_b5, s_b6, s_b7, s_b8, s_b9, s_b10, s_b11, s_b12, s_bind, eq_self, if_pos, if_neg, ite_true, ite_false, if_true, if_false, Bool.false_eq_true, reduceIte, h2]
      exact ⟨_, rfl, rfl, h3⟩
    · rintro ⟨x, q⟩ ⟨hx, hq⟩
      dsimp only at hx hq
      subst hx
      refine ⟨q, ?_, hq⟩
      show bX10_layOut_45 p A F T U (nI 16) q = _
      unfold bX10_layOut_45
      simp (disch := omega) only [s_in, s_cl, s_leL, s_ltL, s_eqL, s_leR, s_ltR, s_eqR, s_le, s_lt, s_eq, s_addL, s_addL', s_mulL, s_mulL', s_mul, nI_add, s_subL, s_sub, s_m1, s_m1', s_lm1, s_ltm1, s_m1lt, s_m1le, s_m1p, s_10, s_let, s_el, s_er, s_b2, s_b3, s_b4, s_b5, s_b6, s_b7, s_b8, s_b9, s_b10, s_b11, s_b12, s_bind, eq_self, if_pos, if_neg, ite_true, ite_false, if_true, if_false, Bool.false_eq_true, reduceIte]
  obtain ⟨L, h2, hL⟩ := H9
  generalize hlay : g_lay ex (g_up fr to tn) (g_lo fr to tn) pn (g_l0 pn pv) 16 = lay at hL
  have hlb : ∀ b, b < 16 → lay b < 24 := fun b hb => by
    have := hbd 16 b hb
    rw [hlay] at this
    have := hrk15 b hb
    omega
  have H8 : ∃ e, q_lo (fun (st : Int32 × Int32) => bX10_layOut_141 X L st.1 st.2) (0, 0) = some e ∧ e = nI (g_cnt bx lay 16) := by
    refine q_inv (fun k (st : Int32 × Int32) => st = (nI k, nI (g_cnt bx lay k))) 16 ?_ ?_ (0, 0) rfl
    · rintro k st hk rfl
      have h1 := g_cnt_le (M := 24) (lay := lay) k (bx := bx) (fun b hb' _ => hlb b (by omega))
      refine ⟨_, ?_, rfl⟩
      show bX10_layOut_141 X L (nI k) (nI (g_cnt bx lay k)) = _
      unfold bX10_layOut_141 jX10_layOut_181
      rw [g_cnt]
      cases hx : bx k
      · simp (disch := omega) only [s_in, s_cl, s_leL, s_ltL, s_eqL, s_leR, s_ltR, s_eqR, s_le, s_lt, s_eq, s_addL, s_addL', s_mulL, s_mulL', s_mul, nI_add, s_subL, s_sub, s_m1, s_m1', s_lm1, s_ltm1, s_m1lt, s_m1le, s_m1p, s_10, s_let, s_el, s_er, s_b2, s_b3, s_b4, s_b5, s_b6, s_b7, s_b8, s_b9, s_b10, s_b11, s_b12, s_bind, eq_self, if_pos, if_neg, ite_true, ite_false, if_true, if_false, Bool.false_eq_true, reduceIte, (hB k hk).1, hx]
      · have := hlb k hk
        have e9 : ¬ (if true = true then (1 : Int32) else 0) = 0 := by decide
        simp (disch := omega) only [s_in, s_cl, s_leL, s_ltL, s_eqL, s_leR, s_ltR, s_eqR, s_le, s_lt, s_eq, s_addL, s_addL', s_mulL, s_mulL', s_mul, nI_add, s_subL, s_sub, s_m1, s_m1', s_lm1, s_ltm1, s_m1lt, s_m1le, s_m1p, s_10, s_let, s_el, s_er, s_b2, s_b3, s_b4, s_b5, s_b6, s_b7, s_b8, s_b9, s_b10, s_b11, s_b12, s_bind, eq_self, if_pos, if_neg, ite_true, ite_false, if_true, if_false, Bool.false_eq_true, reduceIte, (hB k hk).1, hx, hL k hk hx, e9]
        by_cases hc : lay k < g_cnt bx lay k
        · simp (disch := omega) only [s_in, s_cl, s_leL, s_ltL, s_eqL, s_leR, s_ltR, s_eqR, s_le, s_lt, s_eq, s_addL, s_addL', s_mulL, s_mulL', s_mul, nI_add, s_subL, s_sub, s_m1, s_m1', s_lm1, s_ltm1, s_m1lt, s_m1le, s_m1p, s_10, s_let, s_el, s_er, s_b2, s_b3, s_b4, s_b5, s_b6, s_b7, s_b8, s_b9, s_b10, s_b11, s_b12, s_bind, eq_self, if_pos, if_neg, ite_true, ite_false, if_true, if_false, Bool.false_eq_true, reduceIte, hc, n_max]
        · simp (disch := omega) only [s_in, s_cl, s_leL, s_ltL, s_eqL, s_leR, s_ltR, s_eqR, s_le, s_lt, s_eq, s_addL, s_addL', s_mulL, s_mulL', s_mul, nI_add, s_subL, s_sub, s_m1, s_m1', s_lm1, s_ltm1, s_m1lt, s_m1le, s_m1p, s_10, s_let, s_el, s_er, s_b2, s_b3, s_b4, s_b5, s_b6, s_b7, s_b8, s_b9, s_b10, s_b11, s_b12, s_bind, eq_self, if_pos, if_neg, ite_true, ite_false, if_true, if_false, Bool.false_eq_true, reduceIte, hc, n_max]
    · rintro st rfl
      refine ⟨_, ?_, rfl⟩
      show bX10_layOut_141 X L (nI 16) _ = _
      unfold bX10_layOut_141
      simp (disch := omega) only [s_in, s_cl, s_leL, s_ltL, s_eqL, s_leR, s_ltR, s_eqR, s_le, s_lt, s_eq, s_addL, s_addL', s_mulL, s_mulL', s_mul, nI_add, s_subL, s_sub, s_m1, s_m1', s_lm1, s_ltm1, s_m1lt, s_m1le, s_m1p, s_10, s_let, s_el, s_er, s_b2, s_b3, s_b4, s_b5, s_b6, s_b7, s_b8, s_b9, s_b10, s_b11, s_b12, s_bind, eq_self, if_pos, if_neg, ite_true, ite_false, if_true, if_false, Bool.false_eq_true, reduceIte]
  obtain ⟨e8, h3, h4⟩ := H8
  have H7 : ∃ e : Unit ⊕ Unit, q_lo (fun (st : Int32) => bX10_layOut_189 A F T U L st) 0 = some e ∧ ((e = .inl () ∧ ∀ a, a < 24 → ex a = true → lay (g_up fr to tn a) < lay (g_lo fr to tn a)) ∨ (e = .inr () ∧ ¬ ∀ a, a < 24 → ex a = true → lay (g_up fr to tn a) < lay (g_lo fr to tn a))) := by
    refine q_invx (fun k (st : Int32) => st = nI k ∧ ∀ a, a < k → ex a = true → lay (g_up fr to tn a) < lay (g_lo fr to tn a)) 24 ?_ ?_ _ ⟨rfl, fun a ha => by omega⟩
    · rintro k st hk ⟨rfl, hq⟩
      show (∃ t9, bX10_layOut_189 A F T U L (nI k) = some (.inl t9) ∧ _) ∨ ∃ e, bX10_layOut_189 A F T U L (nI k) = some (.inr e) ∧ _
      unfold bX10_layOut_189 jX10_layOut_229
      cases he : ex k
      · left
        simp (disch := omega) only [s_in, s_cl, s_leL, s_ltL, s_eqL, s_leR, s_ltR, s_eqR, s_le, s_lt, s_eq, s_addL, s_addL', s_mulL, s_mulL', s_mul, nI_add, s_subL, s_sub, s_m1, s_m1', s_lm1, s_ltm1, s_m1lt, s_m1le, s_m1p, s_10, s_let, s_el, s_er, s_b2, s_b3, s_b4, s_b5, s_b6, s_b7, s_b8, s_b9, s_b10, s_b11, s_b12, s_bind, eq_self, if_pos, if_neg, ite_true, ite_false, if_true, if_false, Bool.false_eq_true, reduceIte, (hG k hk).1, he]
        refine ⟨_, rfl, rfl, fun a ha hx => ?_⟩
        by_cases hak : a = k
        · subst hak; rw [he] at hx; cases hx
        · exact hq a (by omega) hx
      · have e9 : ¬ (if true = true then (1 : Int32) else 0) = 0 := by decide
        obtain ⟨u1, u2, u3, u4⟩ := hu k hk he
        have b1 := hlb _ u1
        have b2 := hlb _ u2
        by_cases hc : lay (g_up fr to tn k) < lay (g_lo fr to tn k)
        · left
          simp (disch := omega) only [s_in, s_cl, s_leL, s_ltL, s_eqL, s_leR, s_ltR, s_eqR, s_le, s_lt, s_eq, s_addL, s_addL', s_mulL, s_mulL', s_mul, nI_add, s_subL, s_sub, s_m1, s_m1', s_lm1, s_ltm1, s_m1lt, s_m1le, s_m1p, s_10, s_let, s_el, s_er, s_b2, s_b3, s_b4, s_b5, s_b6, s_b7, s_b8, s_b9, s_b10, s_b11, s_b12, s_bind, eq_self, if_pos, if_neg, ite_true, ite_false, if_true, if_false, Bool.false_eq_true, reduceIte, (hG k hk).1, he, e9, p_mupper hG hU hk he, p_mlower hG hU hk he, hL _ u1 u3, hL _ u2 u4, hc]
          refine ⟨_, rfl, rfl, fun a ha hx => ?_⟩
          by_cases hak : a = k
          · subst hak; exact hc
          · exact hq a (by omega) hx
        · right
          simp (disch := omega) only [s_in, s_cl, s_leL, s_ltL, s_eqL, s_leR, s_ltR, s_eqR, s_le, s_lt, s_eq, s_addL, s_addL', s_mulL, s_mulL', s_mul, nI_add, s_subL, s_sub, s_m1, s_m1', s_lm1, s_ltm1, s_m1lt, s_m1le, s_m1p, s_10, s_let, s_el, s_er, s_b2, s_b3, s_b4, s_b5, s_b6, s_b7, s_b8, s_b9, s_b10, s_b11, s_b12, s_bind, eq_self, if_pos, if_neg, ite_true, ite_false, if_true, if_false, Bool.false_eq_true, reduceIte, (hG k hk).1, he, e9, p_mupper hG hU hk he, p_mlower hG hU hk he, hL _ u1 u3, hL _ u2 u4, hc]
          exact ⟨_, rfl, .inr ⟨rfl, fun h => hc (h k hk he)⟩⟩
    · rintro st ⟨rfl, hq⟩
      refine ⟨.inl (), ?_, .inl ⟨rfl, hq⟩⟩
      show bX10_layOut_189 A F T U L (nI 24) = _
      unfold bX10_layOut_189
      simp (disch := omega) only [s_in, s_cl, s_leL, s_ltL, s_eqL, s_leR, s_ltR, s_eqR, s_le, s_lt, s_eq, s_addL, s_addL', s_mulL, s_mulL', s_mul, nI_add, s_subL, s_sub, s_m1, s_m1', s_lm1, s_ltm1, s_m1lt, s_m1le, s_m1p, s_10, s_let, s_el, s_er, s_b2, s_b3, s_b4, s_b5, s_b6, s_b7, s_b8, s_b9, s_b10, s_b11, s_b12, s_bind, eq_self, if_pos, if_neg, ite_true, ite_false, if_true, if_false, Bool.false_eq_true, reduceIte]
  obtain ⟨e7, h5, h6⟩ := H7
  unfold fX10_layOut
  rw [h0]
  show ∃ r U' L c, Option.bind (q_lo (fun (st : Int32 × (Nat → Int32)) => bX10_layOut_6 p st.1 st.2) (0, L0)) _ = _ ∧ _
  rw [h1, s_bind, h2, s_bind, h3, s_bind, h5, s_bind]
  rcases h6 with ⟨rfl, h6⟩ | ⟨rfl, h6⟩
  · exact ⟨1, U, L, c, by rw [h4]; rfl, hU, hL, .inl ⟨rfl, h6⟩⟩
  · exact ⟨0, U, L, c, by rw [h4]; rfl, hU, hL, .inr ⟨rfl, h6⟩⟩
