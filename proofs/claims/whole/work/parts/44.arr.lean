/-! PURE: the class's best row. -/
theorem p_isPlace {c : Nat} (h : c < 6) : fX0_isPlace (nI c) = some 1 := by
  unfold fX0_isPlace
  simp (disch := omega) only [s_in, s_cl, s_leL, s_ltL, s_eqL, s_leR, s_ltR, s_eqR, s_le, s_lt, s_eq, s_addL, s_addL', s_mulL, s_mulL', s_mul, nI_add, s_subL, s_sub, s_m1, s_m1', s_lm1, s_ltm1, s_m1lt, s_m1le, s_m1p, s_10, s_let, s_el, s_er, s_b2, s_b3, s_b4, s_b5, s_b6, s_b7, s_b8, s_b9, s_b10, s_b11, s_b12, s_bind, eq_self, if_pos, if_neg, ite_true, ite_false, if_true, if_false, Bool.false_eq_true, reduceIte]
theorem p_addCost {cA ab be : Nat → Int32} {x y ux uy px py : Nat} (hx : x < 24) (hy : y < 24) (h1 : ab x = nI ux) (h2 : ab y = nI uy) (h3 : be x = nI px) (h4 : be y = nI py) (hux : ux < 40) (huy : uy < 40) (hpx : px < 6) (hpy : py < 6) : fX0_addCost cA ab be (nI x) (nI y) = some (if uy < ux then upd cA (px * 6 + py) (cA (px * 6 + py) + 1) else cA) := by
  unfold fX0_addCost jX0_addCost_28 jX0_addCost_29
  by_cases hc : uy < ux
  · rw [if_pos hc]
    simp (disch := omega) only [s_in, s_cl, s_leL, s_ltL, s_eqL, s_leR, s_ltR, s_eqR, s_le, s_lt, s_eq, s_addL, s_addL', s_mulL, s_mulL', s_mul, nI_add, s_subL, s_sub, s_m1, s_m1', s_lm1, s_ltm1, s_m1lt, s_m1le, s_m1p, s_10, s_let, s_el, s_er, s_b2, s_b3, s_b4, s_b5, s_b6, s_b7, s_b8, s_b9, s_b10, s_b11, s_b12, s_bind, eq_self, if_pos, if_neg, ite_true, ite_false, if_true, if_false, Bool.false_eq_true, reduceIte, h1, h2, h3, h4, p_isPlace hpx, p_isPlace hpy]
  · rw [if_neg hc]
    simp (disch := omega) only [s_in, s_cl, s_leL, s_ltL, s_eqL, s_leR, s_ltR, s_eqR, s_le, s_lt, s_eq, s_addL, s_addL', s_mulL, s_mulL', s_mul, nI_add, s_subL, s_sub, s_m1, s_m1', s_lm1, s_ltm1, s_m1lt, s_m1le, s_m1p, s_10, s_let, s_el, s_er, s_b2, s_b3, s_b4, s_b5, s_b6, s_b7, s_b8, s_b9, s_b10, s_b11, s_b12, s_bind, eq_self, if_pos, if_neg, ite_true, ite_false, if_true, if_false, Bool.false_eq_true, reduceIte, h1, h2, h3, h4, p_isPlace hpx, p_isPlace hpy]
theorem p_fc86 {K : List Nat} {U B : Nat → Nat} (hK : K.length ≤ 24) (hU : ∀ a : Nat, a ∈ K → U a < 40) (hB : ∀ a : Nat, a ∈ K → B a < 6) {k a : Nat} (hk : K[k]? = some a) {ab be cA : Nat → Int32} (hab : ∀ j b : Nat, j ≤ k → K[j]? = some b → ab j = nI (U b) ∧ be j = nI (B b)) (hc : ∀ p q : Nat, p < 6 → q < 6 → cA (p * 6 + q) = nI (g_cs U B (K.take k) p q)) :
    ∃ cA', q_lo (fun (st : Int32 × (Nat → Int32)) => bX0_findCosts_86 ab be (nI k) st.1 st.2) (0, cA) = some cA' ∧ ∀ p q : Nat, p < 6 → q < 6 → cA' (p * 6 + q) = nI (g_cs U B (K.take (k + 1)) p q) := by
  have hkl := g_lt_len hk
  have ha := g_mem_get hk
  obtain ⟨a1, a2⟩ := hab k a (Nat.le_refl _) hk
  refine q_inv (fun j (st : Int32 × (Nat → Int32)) => st.1 = nI j ∧ ∀ p q : Nat, p < 6 → q < 6 → st.2 (p * 6 + q) = nI (g_cs U B (K.take k) p q + (K.take j).countP (g_xc U B p q a))) k ?_ ?_ _ ⟨rfl, fun p q hp hq => by rw [List.take_zero, List.countP_nil, Nat.add_zero]; exact hc p q hp hq⟩
  · rintro j ⟨x, c1⟩ hj ⟨h1, h2⟩
    dsimp only at h1 h2
    subst h1
    obtain ⟨b, hb⟩ : ∃ b, K[j]? = some b := ⟨_, List.getElem?_eq_getElem (by omega)⟩
    have hbm := g_mem_get hb
    obtain ⟨b1, b2⟩ := hab j b (by omega) hb
    have ua := hU a ha
    have ub := hU b hbm
    have pa := hB a ha
    have pb := hB b hbm
    have e1 := p_addCost (cA := c1) (show k < 24 by omega) (show j < 24 by omega) a1 b1 a2 b2 ua ub pa pb
    show ∃ t9, bX0_findCosts_86 ab be (nI k) (nI j) c1 = some (.inl t9) ∧ _
    unfold bX0_findCosts_86
    rw [if_neg (by rw [s_le (by omega) (by omega)]; omega), e1, s_bind, p_addCost (show j < 24 by omega) (show k < 24 by omega) b1 a1 b2 a2 ub ua pb pa, s_bind, s_addL]
    refine ⟨_, rfl, rfl, ?_⟩
    intro p q hp hq
    dsimp only
    rw [g_cnt1 hb]
    have h3 := h2 p q hp hq
    rcases Nat.lt_trichotomy (U a) (U b) with h | h | h
    · rw [if_neg (show ¬ U b < U a by omega), if_pos h]
      have hx : g_xc U B p q a b = decide (B b = p ∧ B a = q) := by
        unfold g_xc
        simp [h, show ¬ U b < U a by omega]
      rw [hx]
      by_cases hpq : B b = p ∧ B a = q
      · obtain ⟨rfl, rfl⟩ := hpq
        rw [pk_us, h3, if_pos (by simp), s_addL]
        exact congrArg nI (by omega)
      · rw [pk_un (by omega), h3, if_neg (by simpa using hpq)]
        exact congrArg nI (by omega)
    · rw [if_neg (show ¬ U b < U a by omega), if_neg (show ¬ U a < U b by omega)]
      have hx : g_xc U B p q a b = false := by
        unfold g_xc
        simp [show ¬ U a < U b by omega, show ¬ U b < U a by omega]
      rw [hx, h3]
      exact congrArg nI (by simp)
    · rw [if_pos h, if_neg (show ¬ U a < U b by omega)]
      have hx : g_xc U B p q a b = decide (B a = p ∧ B b = q) := by
        unfold g_xc
        simp [h, show ¬ U a < U b by omega]
      rw [hx]
      by_cases hpq : B a = p ∧ B b = q
      · obtain ⟨rfl, rfl⟩ := hpq
        rw [pk_us, h3, if_pos (by simp), s_addL]
        exact congrArg nI (by omega)
      · rw [pk_un (by omega), h3, if_neg (by simpa using hpq)]
        exact congrArg nI (by omega)
  · rintro ⟨x, c1⟩ ⟨h1, h2⟩
    dsimp only at h1 h2
    subst h1
    refine ⟨c1, ?_, ?_⟩
    · show bX0_findCosts_86 ab be (nI k) (nI k) c1 = _
      unfold bX0_findCosts_86
      rw [if_pos (Int32.le_refl _)]
    · intro p q hp hq
      rw [h2 p q hp hq]
      unfold g_cs
      rw [g_take1 hk, g_xs_snoc]
section AR
variable {ex bx : Nat → Bool} {up lo lay : Nat → Nat} {N : Nat} {row : Nat → List Nat} {sz ar uu ll : Nat → Int32} {so rw pl hm : Nat → Int32}
theorem p_findCosts (hG : g_G ex up lo bx lay N) (hV : g_V ex up lo bx lay N row) (hP : c_P up lo lay (g_ps ex up lo lay 24) sz ar uu ll) (hO : c_O N row (nI N) so rw pl hm) {l : Nat} (hl : l < N) (hl1 : 1 ≤ l) (h6 : (row l).length ≤ 6) (ab be : Nat → Int32) :
    ∃ cA' ab' be', fX0_findCosts sz uu ll ab be pl (nI l) = some (cA', ab', be') ∧ ∀ p q : Nat, p < 6 → q < 6 → cA' (p * 6 + q) = nI (g_cs (g_pu up lay row (l - 1)) (g_pd lo lay row (l - 1)) (g_ps ex up lo lay 24 (l - 1)) p q) := by
  have hN := hG.1
  have hK := g_ps_len (ex := ex) (up := up) (lo := lo) (lay := lay) 24 (l - 1)
  have hE : ∀ a : Nat, a ∈ g_ps ex up lo lay 24 (l - 1) → fX4_placeIn pl (nI (l - 1)) (nI (g_uc up lay a (l - 1))) = some (nI (g_pu up lay row (l - 1) a)) ∧ g_pu up lay row (l - 1) a < 40 ∧ fX4_placeIn pl (nI l) (nI (g_lc lo lay a (l - 1))) = some (nI (g_pd lo lay row (l - 1) a)) ∧ g_pd lo lay row (l - 1) a < 6 := by
    intro a ha
    obtain ⟨h1, h2⟩ := g_ps_mem.mp ha
    have h3 := p_place hO (show l - 1 < 24 by omega) (g_uc_mem hG hV h1 h2)
    have h4 := g_lc_mem hG hV h1 h2
    have h5 := p_place hO (show l - 1 + 1 < 24 by omega) h4
    have h7 := g_at_lt h4
    refine ⟨h3.1, h3.2.1, ?_, ?_⟩
    · have := h5.1
      rw [show l - 1 + 1 = l by omega] at this
      unfold g_pd
      rw [show l - 1 + 1 = l by omega]
      exact this
    · unfold g_pd
      rw [show l - 1 + 1 = l by omega] at h7 ⊢
      omega
  generalize hU : g_pu up lay row (l - 1) = U at hE
  generalize hB : g_pd lo lay row (l - 1) = B at hE
  have H9 : ∃ e : (Nat → Int32) × (Nat → Int32) × (Nat → Int32), q_lo (fun (st : Int32 × (Nat → Int32) × (Nat → Int32) × (Nat → Int32)) => bX0_findCosts_30 sz uu ll pl (nI l) (nI (l - 1)) (nI (g_ps ex up lo lay 24 (l - 1)).length) st.1 st.2.1 st.2.2.1 st.2.2.2) (0, (fun _ => 0), ab, be) = some e ∧ ∀ p q : Nat, p < 6 → q < 6 → e.1 (p * 6 + q) = nI (g_cs U B (g_ps ex up lo lay 24 (l - 1)) p q) := by
    refine q_inv (fun k (st : Int32 × (Nat → Int32) × (Nat → Int32) × (Nat → Int32)) => st.1 = nI k ∧ (∀ p q : Nat, p < 6 → q < 6 → st.2.1 (p * 6 + q) = nI (g_cs U B ((g_ps ex up lo lay 24 (l - 1)).take k) p q)) ∧ ∀ j b : Nat, j < k → (g_ps ex up lo lay 24 (l - 1))[j]? = some b → st.2.2.1 j = nI (U b) ∧ st.2.2.2 j = nI (B b)) (g_ps ex up lo lay 24 (l - 1)).length ?_ ?_ _ ⟨rfl, fun p q _ _ => rfl, fun j b h => by omega⟩
    · rintro k ⟨x, c1, a1, b1⟩ hk ⟨h1, h2, h3⟩
      dsimp only at h1 h2 h3
      subst h1
      obtain ⟨a, ha⟩ : ∃ a, (g_ps ex up lo lay 24 (l - 1))[k]? = some a := ⟨_, List.getElem?_eq_getElem hk⟩
      obtain ⟨e1, e2, e3, e4⟩ := hE a (g_mem_get ha)
      have hab : ∀ j b : Nat, j ≤ k → (g_ps ex up lo lay 24 (l - 1))[j]? = some b → upd a1 k (nI (U a)) j = nI (U b) ∧ upd b1 k (nI (B a)) j = nI (B b) := by
        intro j b hj hb
        by_cases hjk : j = k
        · subst hjk
          rw [ha] at hb
          cases hb
          rw [pk_us, pk_us]
          exact ⟨rfl, rfl⟩
        · rw [pk_un hjk, pk_un hjk]
          exact h3 j b (by omega) hb
      obtain ⟨c2, k1, k2⟩ := p_fc86 hK (fun a ha => (hE a ha).2.1) (fun a ha => (hE a ha).2.2.2) ha hab h2
      show ∃ t9, bX0_findCosts_30 sz uu ll pl (nI l) (nI (l - 1)) (nI (g_ps ex up lo lay 24 (l - 1)).length) (nI k) c1 a1 b1 = some (.inl t9) ∧ _
      unfold bX0_findCosts_30
      simp (disch := omega) only [s_in, s_cl, s_leL, s_ltL, s_eqL, s_leR, s_ltR, s_eqR, s_le, s_lt, s_eq, s_addL, s_addL', s_mulL, s_mulL', s_mul, nI_add, s_subL, s_sub, s_m1, s_m1', s_lm1, s_ltm1, s_m1lt, s_m1le, s_m1p, s_10, s_let, s_el, s_er, s_b2, s_b3, s_b4, s_b5, s_b6, s_b7, s_b8, s_b9, s_b10, s_b11, s_b12, s_bind, eq_self, if_pos, if_neg, ite_true, ite_false, if_true, if_false, Bool.false_eq_true, reduceIte, p_endU hP (show l - 1 < 24 by omega) ha, p_endL hP (show l - 1 < 24 by omega) ha, e1, e3, k1]
      exact ⟨_, rfl, rfl, k2, fun j b hj hb => hab j b (by omega) hb⟩
    · rintro ⟨x, c1, a1, b1⟩ ⟨h1, h2, h3⟩
      dsimp only at h1 h2 h3
      subst h1
      rw [List.take_length] at h2
      refine ⟨(c1, a1, b1), ?_, h2⟩
      show bX0_findCosts_30 sz uu ll pl (nI l) (nI (l - 1)) (nI (g_ps ex up lo lay 24 (l - 1)).length) (nI (g_ps ex up lo lay 24 (l - 1)).length) c1 a1 b1 = _
      unfold bX0_findCosts_30
      simp (disch := omega) only [s_in, s_cl, s_leL, s_ltL, s_eqL, s_leR, s_ltR, s_eqR, s_le, s_lt, s_eq, s_addL, s_addL', s_mulL, s_mulL', s_mul, nI_add, s_subL, s_sub, s_m1, s_m1', s_lm1, s_ltm1, s_m1lt, s_m1le, s_m1p, s_10, s_let, s_el, s_er, s_b2, s_b3, s_b4, s_b5, s_b6, s_b7, s_b8, s_b9, s_b10, s_b11, s_b12, s_bind, eq_self, if_pos, if_neg, ite_true, ite_false, if_true, if_false, Bool.false_eq_true, reduceIte]
  obtain ⟨⟨z1, z2, z3⟩, h8, h9⟩ := H9
  refine ⟨z1, z2, z3, ?_, h9⟩
  unfold fX0_findCosts
  simp (disch := omega) only [s_in, s_cl, s_leL, s_ltL, s_eqL, s_leR, s_ltR, s_eqR, s_le, s_lt, s_eq, s_addL, s_addL', s_mulL, s_mulL', s_mul, nI_add, s_subL, s_sub, s_m1, s_m1', s_lm1, s_ltm1, s_m1lt, s_m1le, s_m1p, s_10, s_let, s_el, s_er, s_b2, s_b3, s_b4, s_b5, s_b6, s_b7, s_b8, s_b9, s_b10, s_b11, s_b12, s_bind, eq_self, if_pos, if_neg, ite_true, ite_false, if_true, if_false, Bool.false_eq_true, reduceIte, p_sizeOf hP (show l - 1 < 24 by omega), h8]
theorem p_arrange (hG : g_G ex up lo bx lay N) (hV : g_V ex up lo bx lay N row) (hP : c_P up lo lay (g_ps ex up lo lay 24) sz ar uu ll) (hO : c_O N row (nI N) so rw pl hm) {l : Nat} (hl : l < N) (hl1 : 1 ≤ l) (co ab be cd us ch bs : Nat → Int32) (bc : Int32) :
    ∃ co' ab' be' cd' us' ch' bs' bc' sz' rw' pl', fX0_arrange sz uu ll co ab be cd us ch bs bc (nI N) so rw pl hm (nI l) = some (co', ab', be', cd', us', ch', bs', bc', sz', rw', pl', hm) ∧ c_O N (g_exa ex up lo lay row l) (nI N) so rw' pl' hm := by
  have hN := hG.1
  have hl24 : l < 24 := by omega
  obtain ⟨o1, o2, o3, o4, o5⟩ := id hO
  obtain ⟨g1, g2, g3, g4, g5, g6⟩ := o3 l hl24
  unfold fX0_arrange g_exa
  rw [p_sizeO hO hl24, s_bind]
  by_cases h6 : (row l).length ≤ 6
  · rw [if_pos (by rw [n_lit 6, s_le (by omega) (by omega)]; exact h6), if_pos h6]
    obtain ⟨cA, ab', be', a1, a2⟩ := p_findCosts hG hV hP hO hl hl1 h6 ab be
    have H1 : ∃ e : (Nat → Int32) × (Nat → Int32), q_lo (fun (st : Int32 × (Nat → Int32) × (Nat → Int32)) => bX0_arrange_27 (nI (row l).length) (nI N) so rw (nI l) st.1 st.2.1 st.2.2) (0, cd, us) = some e ∧ (∀ j c : Nat, (row l)[j]? = some c → e.1 j = nI c) ∧ ∀ j : Nat, j < (row l).length → e.2 j = 0 := by
      refine q_inv (fun k (st : Int32 × (Nat → Int32) × (Nat → Int32)) => st.1 = nI k ∧ (∀ j c : Nat, j < k → (row l)[j]? = some c → st.2.1 j = nI c) ∧ ∀ j : Nat, j < k → st.2.2 j = 0) (row l).length ?_ ?_ _ ⟨rfl, fun j c h => by omega, fun j h => by omega⟩
      · rintro k ⟨x, c1, u1⟩ hk ⟨h1, h2, h3⟩
        dsimp only at h1 h2 h3
        subst h1
        obtain ⟨c, hc⟩ : ∃ c, (row l)[k]? = some c := ⟨_, List.getElem?_eq_getElem hk⟩
        show ∃ t9, bX0_arrange_27 (nI (row l).length) (nI N) so rw (nI l) (nI k) c1 u1 = some (.inl t9) ∧ _
        unfold bX0_arrange_27
        simp (disch := omega) only [s_in, s_cl, s_leL, s_ltL, s_eqL, s_leR, s_ltR, s_eqR, s_le, s_lt, s_eq, s_addL, s_addL', s_mulL, s_mulL', s_mul, nI_add, s_subL, s_sub, s_m1, s_m1', s_lm1, s_ltm1, s_m1lt, s_m1le, s_m1p, s_10, s_let, s_el, s_er, s_b2, s_b3, s_b4, s_b5, s_b6, s_b7, s_b8, s_b9, s_b10, s_b11, s_b12, s_bind, eq_self, if_pos, if_neg, ite_true, ite_false, if_true, if_false, Bool.false_eq_true, reduceIte, p_itemIn hO hl24 hc]
        refine ⟨_, rfl, rfl, ?_, ?_⟩
        · intro j d hj hd
          dsimp only
          by_cases hjk : j = k
          · subst hjk
            rw [hc] at hd
            cases hd
            rw [pk_us]
          · rw [pk_un hjk]
            exact h2 j d (by omega) hd
        · intro j hj
          dsimp only
          by_cases hjk : j = k
          · subst hjk
            rw [pk_us]
          · rw [pk_un hjk]
            exact h3 j (by omega)
      · rintro ⟨x, c1, u1⟩ ⟨h1, h2, h3⟩
        dsimp only at h1 h2 h3
        subst h1
        refine ⟨(c1, u1), ?_, fun j c hj => h2 j c (g_lt_len hj) hj, h3⟩
        show bX0_arrange_27 (nI (row l).length) (nI N) so rw (nI l) (nI (row l).length) c1 u1 = _
        unfold bX0_arrange_27
        simp (disch := omega) only [s_in, s_cl, s_leL, s_ltL, s_eqL, s_leR, s_ltR, s_eqR, s_le, s_lt, s_eq, s_addL, s_addL', s_mulL, s_mulL', s_mul, nI_add, s_subL, s_sub, s_m1, s_m1', s_lm1, s_ltm1, s_m1lt, s_m1le, s_m1p, s_10, s_let, s_el, s_er, s_b2, s_b3, s_b4, s_b5, s_b6, s_b7, s_b8, s_b9, s_b10, s_b11, s_b12, s_bind, eq_self, if_pos, if_neg, ite_true, ite_false, if_true, if_false, Bool.false_eq_true, reduceIte]
    obtain ⟨⟨cd', us'⟩, b1, b2, b3⟩ := H1
    dsimp only at b2 b3
    obtain ⟨us2, ch2, bs2, c1, c2, c3, c4⟩ := p_choose h6 (cst := g_cs (g_pu up lay row (l - 1)) (g_pd lo lay row (l - 1)) (g_ps ex up lo lay 24 (l - 1))) (fun p q hp hq => a2 p q (by omega) (by omega)) (fun p q => g_xs_b _ (g_ps_len 24 _)) 8 0 [] 0 us' ch bs 1073741824 [] (by omega) (by omega) rfl List.nodup_nil (fun p h => by simp at h) (fun p hp => by rw [b3 p hp, if_neg (by simp)]) (fun j p h => by simp at h) (by omega) (by omega) (fun j p h => by simp at h)
    have e1 : (g_fb (1073741824, []) (g_lv (g_cs (g_pu up lay row (l - 1)) (g_pd lo lay row (l - 1)) (g_ps ex up lo lay 24 (l - 1))) 0 [] ((row l).length - 0) (g_rem (row l).length []))).2 = g_exb ex up lo lay row l := by
      unfold g_exb
      have hr : g_rem (row l).length [] = List.range (row l).length := by
        unfold g_rem
        rw [List.filter_eq_self]
        intro a _
        simp
      rw [hr, Nat.sub_zero]
      congr 2
      unfold g_lv
      apply List.map_congr_left
      intro π hπ
      rw [g_exc_co hG hV hl24 hl1 (g_pm_perm _ _ List.nodup_range List.length_range π hπ), Nat.zero_add]
      rfl
    rw [e1] at c4
    have hperm := g_exb_perm (ex := ex) (up := up) (lo := lo) (lay := lay) (row := row) l
    generalize hπ : g_exb ex up lo lay row l = π at c4 hperm
    have hπl : π.length = (row l).length := by rw [hperm.length_eq, List.length_range]
    have hπb : ∀ p : Nat, p ∈ π → p < (row l).length := fun p h => List.mem_range.mp (hperm.mem_iff.mp h)
    obtain ⟨n1, n2⟩ := g_ar_perm g2 hperm
    have hset : ∀ c : Nat, c ∈ g_ar (row l) π ↔ ∃ s, s ∈ List.range (row l).length ∧ (row l)[s]? = some c := by
      intro c
      rw [n2]
      constructor
      · intro h
        obtain ⟨k, hk⟩ := List.mem_iff_getElem?.mp h
        exact ⟨k, List.mem_range.mpr (g_lt_len hk), hk⟩
      · rintro ⟨s, -, h⟩
        exact g_mem_get h
    have H2 : ∃ e : (Nat → Int32) × (Nat → Int32) × (Nat → Int32), q_lo (fun (st : Int32 × (Nat → Int32) × (Nat → Int32) × (Nat → Int32)) => bX0_arrange_74 cd' bs2 (nI (row l).length) (nI N) so (nI l) st.1 st.2.1 st.2.2.1 st.2.2.2) (0, rw, pl, hm) = some e ∧ c_W l (row l).length (List.range (row l).length) (g_ar (row l) π) rw pl e.1 e.2.1 ∧ e.2.2 = hm := by
      refine q_inv (fun n (st : Int32 × (Nat → Int32) × (Nat → Int32) × (Nat → Int32)) => st.1 = nI n ∧ c_W l n (List.range (row l).length) (g_ar (row l) π) rw pl st.2.1 st.2.2.1 ∧ st.2.2.2 = hm) (row l).length ?_ ?_ _ ⟨rfl, c_W_0, rfl⟩
      · rintro n ⟨x, q, r, h⟩ hn ⟨hx, hw, hh⟩
        dsimp only at hx hw hh
        subst hx
        subst hh
        obtain ⟨p, hp⟩ : ∃ p, π[n]? = some p := ⟨_, List.getElem?_eq_getElem (by omega)⟩
        have hpl := hπb p (g_mem_get hp)
        obtain ⟨c, hc⟩ : ∃ c, (row l)[p]? = some c := ⟨_, List.getElem?_eq_getElem hpl⟩
        have hc40 := (g5 p c hc).1
        have hput := p_put (sz := so) (rw := q) (pl := r) (hm := h) hl o2 g4 hn g3 hc40
        have hh : (if c < 16 then upd h c (nI l) else h) = h := by
          split
          · next h16 => exact s_upd_self (o4 l hl24 c h16 (g_mem_get hc))
          · rfl
        rw [hh] at hput
        show ∃ t9, bX0_arrange_74 cd' bs2 (nI (row l).length) (nI N) so (nI l) (nI n) q r h = some (.inl t9) ∧ _
        unfold bX0_arrange_74
        simp (disch := omega) only [s_in, s_cl, s_leL, s_ltL, s_eqL, s_leR, s_ltR, s_eqR, s_le, s_lt, s_eq, s_addL, s_addL', s_mulL, s_mulL', s_mul, nI_add, s_subL, s_sub, s_m1, s_m1', s_lm1, s_ltm1, s_m1lt, s_m1le, s_m1p, s_10, s_let, s_el, s_er, s_b2, s_b3, s_b4, s_b5, s_b6, s_b7, s_b8, s_b9, s_b10, s_b11, s_b12, s_bind, eq_self, if_pos, if_neg, ite_true, ite_false, if_true, if_false, Bool.false_eq_true, reduceIte, c4 n p hp, b2 p c hc, hput]
        exact ⟨_, rfl, rfl, c_W_on List.nodup_range n1 (by rw [List.getElem?_range hn]) (g_ar_at hp hc) hw, rfl⟩
      · rintro ⟨x, q, r, h⟩ ⟨hx, hw, hh⟩
        dsimp only at hx hw hh
        subst hx
        refine ⟨(q, r, h), ?_, hw, hh⟩
        show bX0_arrange_74 cd' bs2 (nI (row l).length) (nI N) so (nI l) (nI (row l).length) q r h = _
        unfold bX0_arrange_74
        rw [if_pos (Int32.le_refl _)]
    obtain ⟨⟨rw', pl', hm'⟩, d1, d2, d3⟩ := H2
    dsimp only at d2 d3
    subst d3
    have hlen : (g_ar (row l) π).length = (row l).length := by rw [g_ar_len, hπl]
    have hPt : g_Pt (row l) (List.range (row l).length) (g_ar (row l) π) (g_ar (row l) π) := by
      refine ⟨hlen, ?_, ?_⟩
      · intro j s c hj hc
        have hjl := g_lt_len hj
        rw [List.length_range] at hjl
        rw [List.getElem?_range hjl] at hj
        cases hj
        exact hc
      · intro k hk
        rw [List.mem_range] at hk
        rw [List.getElem?_eq_none (by omega), List.getElem?_eq_none (by omega)]
    have hfin := c_W_end (sp := List.range (row l).length) (cs := g_ar (row l) π) hO hl24 n1 (by rw [hlen, List.length_range]) (by rw [List.length_range]; exact d2) (fun s hs => List.mem_range.mp hs) hPt hset
    rw [a1, s_b3, b1, s_b2]
    have c5 : fX0_choose 8 cA us' ch bs 1073741824 (nI (row l).length) 0 0 = _ := c1
    rw [c5, s_b4, d1, s_b3]
    exact ⟨_, _, _, _, _, _, _, _, _, _, _, rfl, hfin⟩
  · rw [if_neg (by rw [n_lit 6, s_le (by omega) (by omega)]; exact h6), if_neg h6]
    exact ⟨_, _, _, _, _, _, _, _, _, _, _, rfl, hO⟩
end AR
