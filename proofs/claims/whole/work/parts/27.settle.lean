/-! PURE: layers found, class and reference. -/
/-- a loop by an invariant that may leave early -/
theorem q_invx {S E : Type} {B : S → Option (S ⊕ E)} {Post : E → Prop} (I : Nat → S → Prop) (N : Nat) (hs : ∀ i s, i < N → I i s → (∃ t, B s = some (.inl t) ∧ I (i + 1) t) ∨ ∃ e, B s = some (.inr e) ∧ Post e) (he : ∀ s, I N s → ∃ e, B s = some (.inr e) ∧ Post e) (s : S) (h0 : I 0 s) : ∃ e, q_lo B s = some e ∧ Post e := by
  have key : ∀ k i s, i + k = N → I i s → ∃ e, q_lo B s = some e ∧ Post e := by
    intro k
    induction k with
    | zero =>
      intro i s hi h
      have : i = N := by omega
      subst this
      obtain ⟨e, h1, h2⟩ := he s h
      exact ⟨e, q_lo_end h1, h2⟩
    | succ k ih =>
      intro i s hi h
      rcases hs i s (by omega) h with ⟨t, h1, h2⟩ | ⟨e, h1, h2⟩
      · obtain ⟨e, h3, h4⟩ := ih (i + 1) t (by omega) h2
        exact ⟨e, q_lo_on h1 h3, h4⟩
      · exact ⟨e, q_lo_end h1, h2⟩
  exact key N 0 s (by omega) h0
/-- ends of the arrows, as the class keeps them -/
def c_E (ex : Nat → Bool) (up lo lay : Nat → Nat) (tp bo : Nat → Int32) : Prop := ∀ a, a < 24 → tp a = (if ex a then nI (lay (up a)) else -1) ∧ bo a = (if ex a then nI (lay (lo a)) else -1)
theorem p_markEnds {ex bx : Nat → Bool} {up lo lay : Nat → Nat} {f t T L : Nat → Int32}
    (hU : ∀ a, a < 24 → fX7_upperBox f t T (nI a) = some (if ex a then nI (up a) else -1)) (hD : ∀ a, a < 24 → fX7_lowerBox f t T (nI a) = some (if ex a then nI (lo a) else -1))
    (hu : ∀ a, a < 24 → ex a = true → up a < 16 ∧ lo a < 16 ∧ bx (up a) = true ∧ bx (lo a) = true) (hL : c_L bx lay L) (tp bo : Nat → Int32) : ∃ tp' bo', fX3_markEnds f t T L tp bo = some (tp', bo') ∧ c_E ex up lo lay tp' bo' := by
  unfold fX3_markEnds
  have H9 : ∃ e : (Nat → Int32) × (Nat → Int32), q_lo (fun (st : Int32 × (Nat → Int32) × (Nat → Int32)) => bX3_markEnds_2 f t T L st.1 st.2.1 st.2.2) (0, tp, bo) = some e ∧ c_E ex up lo lay e.1 e.2 := by
    refine q_inv (fun k (st : Int32 × (Nat → Int32) × (Nat → Int32)) => st.1 = nI k ∧ ∀ a, a < k → st.2.1 a = (if ex a then nI (lay (up a)) else -1) ∧ st.2.2 a = (if ex a then nI (lay (lo a)) else -1)) 24 ?_ ?_ _ ⟨rfl, fun a ha => by omega⟩
    · rintro k ⟨x, q, r⟩ hk ⟨hx, hq⟩
      dsimp only at hx hq
      subst hx
      show ∃ t9, bX3_markEnds_2 f t T L (nI k) q r = some (.inl t9) ∧ _
      unfold bX3_markEnds_2
      have fin : ∀ v w, v = (if ex k then nI (lay (up k)) else -1) → w = (if ex k then nI (lay (lo k)) else -1) → ∀ a, a < k + 1 → upd q k v a = (if ex a then nI (lay (up a)) else -1) ∧ upd r k w a = (if ex a then nI (lay (lo a)) else -1) := by
        intro v w hv hw a ha
        by_cases hak : a = k
        · subst hak; rw [pk_us, pk_us]; exact ⟨hv, hw⟩
        · rw [pk_un hak, pk_un hak]; exact hq a (by omega)
      cases he : ex k
      · simp (disch := omega) only [s_in, s_cl, s_leL, s_ltL, s_eqL, s_leR, s_ltR, s_eqR, s_le, s_lt, s_eq, s_addL, s_addL', s_mulL, s_mulL', s_mul, nI_add, s_subL, s_sub, s_m1, s_m1', s_lm1, s_ltm1, s_m1lt, s_m1le, s_m1p, s_10, s_let, s_el, s_er, s_b2, s_b3, s_b4, s_b5, s_b6, s_b7, s_b8, s_b9, s_b10, s_b11, s_b12, s_bind, eq_self, if_pos, if_neg, ite_true, ite_false, if_true, if_false, Bool.false_eq_true, reduceIte, hU k hk, hD k hk, he, p_layerOfN]
        exact ⟨_, rfl, rfl, fin _ _ (by rw [he]; rfl) (by rw [he]; rfl)⟩
      · obtain ⟨u1, u2, u3, u4⟩ := hu k hk he
        simp (disch := omega) only [s_in, s_cl, s_leL, s_ltL, s_eqL, s_leR, s_ltR, s_eqR, s_le, s_lt, s_eq, s_addL, s_addL', s_mulL, s_mulL', s_mul, nI_add, s_subL, s_sub, s_m1, s_m1', s_lm1, s_ltm1, s_m1lt, s_m1le, s_m1p, s_10, s_let, s_el, s_er, s_b2, s_b3, s_b4, s_b5, s_b6, s_b7, s_b8, s_b9, s_b10, s_b11, s_b12, s_bind, eq_self, if_pos, if_neg, ite_true, ite_false, if_true, if_false, Bool.false_eq_true, reduceIte, hU k hk, hD k hk, he, p_layerOf u1, p_layerOf u2]
        refine ⟨_, rfl, rfl, fin _ _ ?_ ?_⟩
        · rw [he, hL _ u1, u3]
        · rw [he, hL _ u2, u4]
    · rintro ⟨x, q, r⟩ ⟨hx, hq⟩
      dsimp only at hx hq
      subst hx
      refine ⟨(q, r), ?_, hq⟩
      show bX3_markEnds_2 f t T L (nI 24) q r = _
      unfold bX3_markEnds_2
      simp (disch := omega) only [s_in, s_cl, s_leL, s_ltL, s_eqL, s_leR, s_ltR, s_eqR, s_le, s_lt, s_eq, s_addL, s_addL', s_mulL, s_mulL', s_mul, nI_add, s_subL, s_sub, s_m1, s_m1', s_lm1, s_ltm1, s_m1lt, s_m1le, s_m1p, s_10, s_let, s_el, s_er, s_b2, s_b3, s_b4, s_b5, s_b6, s_b7, s_b8, s_b9, s_b10, s_b11, s_b12, s_bind, eq_self, if_pos, if_neg, ite_true, ite_false, if_true, if_false, Bool.false_eq_true, reduceIte]
  obtain ⟨⟨e1, e2⟩, h1, h2⟩ := H9
  exact ⟨e1, e2, by rw [h1]; rfl, h2⟩
theorem p_pinsAgree {ex : Nat → Bool} {up lo lay : Nat → Nat} {f tp bo : Nat → Int32} (hf : ∀ a, a < 24 → (f a = -1 ↔ ex a = false)) (hE : c_E ex up lo lay tp bo) (hl : ∀ a, a < 24 → ex a = true → lay (up a) < 24 ∧ lay (lo a) < 24) :
    ∃ r, fX3_pinsAgree f tp bo = some r ∧ ((r = 1 ∧ ∀ a, a < 24 → ex a = true → lay (up a) < lay (lo a)) ∨ (r = 0 ∧ ¬ ∀ a, a < 24 → ex a = true → lay (up a) < lay (lo a))) := by
  unfold fX3_pinsAgree
  have H9 : ∃ e : Unit ⊕ Unit, q_lo (fun (st : Int32) => bX3_pinsAgree_2 f tp bo st) 0 = some e ∧ ((e = .inl () ∧ ∀ a, a < 24 → ex a = true → lay (up a) < lay (lo a)) ∨ (e = .inr () ∧ ¬ ∀ a, a < 24 → ex a = true → lay (up a) < lay (lo a))) := by
    refine q_invx (fun k (st : Int32) => st = nI k ∧ ∀ a, a < k → ex a = true → lay (up a) < lay (lo a)) 24 ?_ ?_ _ ⟨rfl, fun a ha => by omega⟩
    · rintro k st hk ⟨rfl, hq⟩
      show (∃ t9, bX3_pinsAgree_2 f tp bo (nI k) = some (.inl t9) ∧ _) ∨ ∃ e, bX3_pinsAgree_2 f tp bo (nI k) = some (.inr e) ∧ _
      unfold bX3_pinsAgree_2 jX3_pinsAgree_34
      cases he : ex k
      · left
        simp (disch := omega) only [s_in, s_cl, s_leL, s_ltL, s_eqL, s_leR, s_ltR, s_eqR, s_le, s_lt, s_eq, s_addL, s_addL', s_mulL, s_mulL', s_mul, nI_add, s_subL, s_sub, s_m1, s_m1', s_lm1, s_ltm1, s_m1lt, s_m1le, s_m1p, s_10, s_let, s_el, s_er, s_b2, s_b3, s_b4, s_b5, s_b6, s_b7, s_b8, s_b9, s_b10, s_b11, s_b12, s_bind, eq_self, if_pos, if_neg, ite_true, ite_false, if_true, if_false, Bool.false_eq_true, reduceIte, p_hasArrow hk, (hf k hk).mpr he]
        refine ⟨_, rfl, rfl, fun a ha hx => ?_⟩
        by_cases hak : a = k
        · subst hak; rw [he] at hx; cases hx
        · exact hq a (by omega) hx
      · have h1 : ¬ f k = -1 := fun h => by rw [(hf k hk).mp h] at he; cases he
        obtain ⟨h2, h3⟩ := hE k hk
        obtain ⟨h4, h5⟩ := hl k hk he
        rw [he] at h2 h3
        by_cases hc : lay (up k) < lay (lo k)
        · left
          simp (disch := omega) only [s_in, s_cl, s_leL, s_ltL, s_eqL, s_leR, s_ltR, s_eqR, s_le, s_lt, s_eq, s_addL, s_addL', s_mulL, s_mulL', s_mul, nI_add, s_subL, s_sub, s_m1, s_m1', s_lm1, s_ltm1, s_m1lt, s_m1le, s_m1p, s_10, s_let, s_el, s_er, s_b2, s_b3, s_b4, s_b5, s_b6, s_b7, s_b8, s_b9, s_b10, s_b11, s_b12, s_bind, eq_self, if_pos, if_neg, ite_true, ite_false, if_true, if_false, Bool.false_eq_true, reduceIte, p_hasArrow hk, h1, p_bottom hk, p_top hk, h2, h3, hc, (by decide : ¬ ((1 : Int32) = 0))]
          refine ⟨_, rfl, rfl, fun a ha hx => ?_⟩
          by_cases hak : a = k
          · subst hak; exact hc
          · exact hq a (by omega) hx
        · right
          simp (disch := omega) only [s_in, s_cl, s_leL, s_ltL, s_eqL, s_leR, s_ltR, s_eqR, s_le, s_lt, s_eq, s_addL, s_addL', s_mulL, s_mulL', s_mul, nI_add, s_subL, s_sub, s_m1, s_m1', s_lm1, s_ltm1, s_m1lt, s_m1le, s_m1p, s_10, s_let, s_el, s_er, s_b2, s_b3, s_b4, s_b5, s_b6, s_b7, s_b8, s_b9, s_b10, s_b11, s_b12, s_bind, eq_self, if_pos, if_neg, ite_true, ite_false, if_true, if_false, Bool.false_eq_true, reduceIte, p_hasArrow hk, h1, p_bottom hk, p_top hk, h2, h3, hc, (by decide : ¬ ((1 : Int32) = 0))]
          exact ⟨_, rfl, .inr ⟨rfl, fun h => hc (h k hk he)⟩⟩
    · rintro st ⟨rfl, hq⟩
      refine ⟨.inl (), ?_, .inl ⟨rfl, hq⟩⟩
      show bX3_pinsAgree_2 f tp bo (nI 24) = _
      unfold bX3_pinsAgree_2
      simp (disch := omega) only [s_in, s_cl, s_leL, s_ltL, s_eqL, s_leR, s_ltR, s_eqR, s_le, s_lt, s_eq, s_addL, s_addL', s_mulL, s_mulL', s_mul, nI_add, s_subL, s_sub, s_m1, s_m1', s_lm1, s_ltm1, s_m1lt, s_m1le, s_m1p, s_10, s_let, s_el, s_er, s_b2, s_b3, s_b4, s_b5, s_b6, s_b7, s_b8, s_b9, s_b10, s_b11, s_b12, s_bind, eq_self, if_pos, if_neg, ite_true, ite_false, if_true, if_false, Bool.false_eq_true, reduceIte]
  obtain ⟨e, h1, h2⟩ := H9
  rcases h2 with ⟨rfl, h2⟩ | ⟨rfl, h2⟩
  · exact ⟨1, by rw [h1]; rfl, .inl ⟨rfl, h2⟩⟩
  · exact ⟨0, by rw [h1]; rfl, .inr ⟨rfl, h2⟩⟩
/-- what holds of a drawing's layers -/
def g_G (ex : Nat → Bool) (up lo : Nat → Nat) (bx : Nat → Bool) (lay : Nat → Nat) (N : Nat) : Prop :=
  N ≤ 24 ∧ (∀ b, b < 16 → bx b = true → lay b < N) ∧ ∀ a, a < 24 → ex a = true → up a < 16 ∧ lo a < 16 ∧ bx (up a) = true ∧ bx (lo a) = true ∧ lay (up a) < lay (lo a)
theorem g_cnt_ge {bx : Nat → Bool} {lay : Nat → Nat} : ∀ k b, b < k → bx b = true → lay b < g_cnt bx lay k := by
  intro k
  induction k with
  | zero => intro b h; omega
  | succ k ih =>
    intro b hb hx
    unfold g_cnt
    by_cases hbk : b = k
    · subst hbk; rw [hx]; simp; omega
    · have := ih b (by omega) hx
      split <;> omega
theorem p_settle {ex bx pn : Nat → Bool} {fr to pv : Nat → Nat} {tn : Nat → Bool} {w p f t T : Nat → Int32} (hG : c_G ex fr to w f t) (hT : c_T tn T) (hB : c_B bx pn pv w p) {rk : Nat → Nat} (hrk : ∀ a, a < 24 → ex a = true → rk (g_up fr to tn a) < rk (g_lo fr to tn a)) (hrk15 : ∀ b, b < 16 → rk b ≤ 15) (L0 tp0 bo0 : Nat → Int32) :
    ∃ r L tp bo, fX3_settle w p f t T L0 tp0 bo0 = some (r, L, tp, bo, nI (g_cnt bx (g_lay ex (g_up fr to tn) (g_lo fr to tn) pn (g_l0 pn pv) 16) 16)) ∧ c_L bx (g_lay ex (g_up fr to tn) (g_lo fr to tn) pn (g_l0 pn pv) 16) L ∧ c_E ex (g_up fr to tn) (g_lo fr to tn) (g_lay ex (g_up fr to tn) (g_lo fr to tn) pn (g_l0 pn pv) 16) tp bo ∧
      ((r = 1 ∧ ∀ a, a < 24 → ex a = true → g_lay ex (g_up fr to tn) (g_lo fr to tn) pn (g_l0 pn pv) 16 (g_up fr to tn a) < g_lay ex (g_up fr to tn) (g_lo fr to tn) pn (g_l0 pn pv) 16 (g_lo fr to tn a)) ∨ (r = 0 ∧ ¬ ∀ a, a < 24 → ex a = true → g_lay ex (g_up fr to tn) (g_lo fr to tn) pn (g_l0 pn pv) 16 (g_up fr to tn a) < g_lay ex (g_up fr to tn) (g_lo fr to tn) pn (g_l0 pn pv) 16 (g_lo fr to tn a))) := by
  have hu : ∀ a, a < 24 → ex a = true → g_up fr to tn a < 16 ∧ g_lo fr to tn a < 16 ∧ bx (g_up fr to tn a) = true ∧ bx (g_lo fr to tn a) = true := by
    intro a ha he
    obtain ⟨e1, e2, e3, e4, e5, e6, e7⟩ := (hG a ha).2 he
    have b1 := (hB _ e1).1.mpr e6
    have b2 := (hB _ e2).1.mpr e7
    unfold g_up g_lo
    cases tn a
    · exact ⟨e1, e2, b1, b2⟩
    · exact ⟨e2, e1, b2, b1⟩
  have hl0 : ∀ b, b < 16 → g_l0 pn pv b ≤ 8 + rk b := by
    intro b hb
    have := (hB b hb).2.2
    unfold g_l0
    split <;> omega
  have hbd := g_lay_bound (pn := pn) hrk (fun a ha he => ⟨(hu a ha he).1, (hu a ha he).2.1⟩) hl0
  unfold fX3_settle
  obtain ⟨L1, h1, hL1⟩ := p_lift hB L0
  have H9 : ∃ e, q_lo (fun (st : Int32 × (Nat → Int32)) => bX3_settle_6 w p f t T st.1 st.2) (0, L1) = some e ∧ c_L bx (g_lay ex (g_up fr to tn) (g_lo fr to tn) pn (g_l0 pn pv) 16) e := by
    refine q_inv (fun k (st : Int32 × (Nat → Int32)) => st.1 = nI k ∧ c_L bx (g_lay ex (g_up fr to tn) (g_lo fr to tn) pn (g_l0 pn pv) k) st.2) 16 ?_ ?_ _ ⟨rfl, hL1⟩
    · rintro k ⟨x, q⟩ hk ⟨hx, hq⟩
      dsimp only at hx hq
      subst hx
      obtain ⟨L', h2, h3⟩ := p_sink hG hT hB hrk hrk15 (hbd k) hq
      show ∃ t9, bX3_settle_6 w p f t T (nI k) q = some (.inl t9) ∧ _
      unfold bX3_settle_6
      simp (disch := omega) only [s_in, s_cl, s_leL, s_ltL, s_eqL, s_leR, s_ltR, s_eqR, s_le, s_lt, s_eq, s_addL, s_addL', s_mulL, s_mulL', s_mul, nI_add, s_subL, s_sub, s_m1, s_m1', s_lm1, s_ltm1, s_m1lt, s_m1le, s_m1p, s_10, s_let, s_el, s_er, s_b2, s_b3, s_b4, s_b5, s_b6, s_b7, s_b8, s_b9, s_b10, s_b11, s_b12, s_bind, eq_self, if_pos, if_neg, ite_true, ite_false, if_true, if_false, Bool.false_eq_true, reduceIte, h2]
      exact ⟨_, rfl, rfl, h3⟩
    · rintro ⟨x, q⟩ ⟨hx, hq⟩
      dsimp only at hx hq
      subst hx
      refine ⟨q, ?_, hq⟩
      show bX3_settle_6 w p f t T (nI 16) q = _
      unfold bX3_settle_6
      simp (disch := omega) only [s_in, s_cl, s_leL, s_ltL, s_eqL, s_leR, s_ltR, s_eqR, s_le, s_lt, s_eq, s_addL, s_addL', s_mulL, s_mulL', s_mul, nI_add, s_subL, s_sub, s_m1, s_m1', s_lm1, s_ltm1, s_m1lt, s_m1le, s_m1p, s_10, s_let, s_el, s_er, s_b2, s_b3, s_b4, s_b5, s_b6, s_b7, s_b8, s_b9, s_b10, s_b11, s_b12, s_bind, eq_self, if_pos, if_neg, ite_true, ite_false, if_true, if_false, Bool.false_eq_true, reduceIte]
  obtain ⟨L, h2, hL⟩ := H9
  generalize hlay : g_lay ex (g_up fr to tn) (g_lo fr to tn) pn (g_l0 pn pv) 16 = lay at hL
  have hlb : ∀ b, b < 16 → lay b < 24 := fun b hb => by
    have := hbd 16 b hb
    rw [hlay] at this
    have := hrk15 b hb
    omega
  obtain ⟨tp, bo, h4, hE⟩ := p_markEnds (fun a ha => p_upperBox hG hT ha) (fun a ha => p_lowerBox hG hT ha) hu hL tp0 bo0
  obtain ⟨r, h5, h6⟩ := p_pinsAgree (f := f) (fun a ha => ⟨fun h => by
    cases he : ex a
    · rfl
    · rw [((hG a ha).2 he).2.2.2.1] at h
      exact absurd h (n_m1 (by have := ((hG a ha).2 he).1; omega)), fun h => (hG a ha).1 h⟩) hE (fun a ha he => ⟨hlb _ (hu a ha he).1, hlb _ (hu a ha he).2.1⟩)
  refine ⟨r, L, tp, bo, ?_, hL, hE, h6⟩
  rw [h1, s_bind, h2, s_bind, p_countLayers hL (fun b hb _ => hlb b hb), s_bind, h4]
  show Option.bind (fX3_pinsAgree f tp bo) _ = _
  rw [h5, s_bind, if_pos]
  rcases h6 with ⟨rfl, -⟩ | ⟨rfl, -⟩
  · exact n_tf1
  · exact n_tf0
