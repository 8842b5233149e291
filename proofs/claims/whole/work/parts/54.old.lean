/-! PURE: the reference's kept orders. -/
/-- the reference's latest drawing -/
def m_Old (old : Nat → List Nat) (OL OP OD : Nat → Int32) : Prop := (∀ l, l < 24 → ∀ k c : Nat, (old l)[k]? = some c → c < 40 ∧ (c < 16 → OL c = nI l ∧ OP c = nI k) ∧ (16 ≤ c → OD (24 * (c - 16) + l) = nI k)) ∧ (∀ b, b < 16 → (∀ l, l < 24 → b ∉ old l) → OL b = -1) ∧ ∀ a l, a < 24 → l < 24 → 16 + a ∉ old l → OD (24 * a + l) = -1
def g_oN (old : Nat → List Nat) : Prop := ∀ l, l < 24 → (old l).Nodup ∧ (old l).length ≤ 40
theorem p_oldPlace {old : Nat → List Nat} {OL OP OD : Nat → Int32} (hM : m_Old old OL OP OD) (hN : g_oN old) {l c : Nat} (hl : l < 24) (hc : c < 40) : fX10_oldPlaceOf OL OP OD (nI (g_nm c)) (nI l) = some (if c ∈ old l then nI ((old l).idxOf c) else -1) := by
  obtain ⟨h1, h2, h3⟩ := hM
  unfold fX10_oldPlaceOf
  by_cases h16 : c < 16
  · have hnm : g_nm c = c := if_pos h16
    rw [hnm]
    by_cases hm : c ∈ old l
    · obtain ⟨-, k2, -⟩ := h1 l hl _ _ (g_idx_get hm)
      obtain ⟨k3, k4⟩ := k2 h16
      rw [if_pos hm]
      simp (disch := omega) only [s_in, s_cl, s_leL, s_ltL, s_eqL, s_leR, s_ltR, s_eqR, s_le, s_lt, s_eq, s_addL, s_addL', s_mulL, s_mulL', s_mul, nI_add, s_subL, s_sub, s_m1, s_m1', s_lm1, s_ltm1, s_m1lt, s_m1le, s_m1p, s_10, s_let, s_el, s_er, s_b2, s_b3, s_b4, s_b5, s_b6, s_b7, s_b8, s_b9, s_b10, s_b11, s_b12, s_bind, eq_self, if_pos, if_neg, ite_true, ite_false, if_true, if_false, Bool.false_eq_true, reduceIte, k3, k4]
    · have hne : ¬ OL c = nI l := by
        intro e
        by_cases hex : ∃ i, i < 24 ∧ c ∈ old i
        · obtain ⟨i, hi, hmi⟩ := hex
          obtain ⟨-, k2, -⟩ := h1 i hi _ _ (g_idx_get hmi)
          rw [(k2 h16).1, s_eq (by omega) (by omega)] at e
          subst e
          exact hm hmi
        · have := h2 c h16 (fun i hi hmi => hex ⟨i, hi, hmi⟩)
          rw [this] at e
          exact n_m1 (show l < 2 ^ 31 by omega) e.symm
      rw [if_neg hm]
      simp (disch := omega) only [s_in, s_cl, s_leL, s_ltL, s_eqL, s_leR, s_ltR, s_eqR, s_le, s_lt, s_eq, s_addL, s_addL', s_mulL, s_mulL', s_mul, nI_add, s_subL, s_sub, s_m1, s_m1', s_lm1, s_ltm1, s_m1lt, s_m1le, s_m1p, s_10, s_let, s_el, s_er, s_b2, s_b3, s_b4, s_b5, s_b6, s_b7, s_b8, s_b9, s_b10, s_b11, s_b12, s_bind, eq_self, if_pos, if_neg, ite_true, ite_false, if_true, if_false, Bool.false_eq_true, reduceIte, hne]
  · have hnm : g_nm c = 84 + c := if_neg h16
    rw [hnm]
    have e1 : 84 + c - 100 = c - 16 := by omega
    by_cases hm : c ∈ old l
    · obtain ⟨-, -, k2⟩ := h1 l hl _ _ (g_idx_get hm)
      rw [if_pos hm]
      simp (disch := omega) only [s_in, s_cl, s_leL, s_ltL, s_eqL, s_leR, s_ltR, s_eqR, s_le, s_lt, s_eq, s_addL, s_addL', s_mulL, s_mulL', s_mul, nI_add, s_subL, s_sub, s_m1, s_m1', s_lm1, s_ltm1, s_m1lt, s_m1le, s_m1p, s_10, s_let, s_el, s_er, s_b2, s_b3, s_b4, s_b5, s_b6, s_b7, s_b8, s_b9, s_b10, s_b11, s_b12, s_bind, eq_self, if_pos, if_neg, ite_true, ite_false, if_true, if_false, Bool.false_eq_true, reduceIte, e1, k2 (by omega)]
    · have k2 := h3 (c - 16) l (by omega) hl (by rw [show 16 + (c - 16) = c by omega]; exact hm)
      rw [if_neg hm]
      simp (disch := omega) only [s_in, s_cl, s_leL, s_ltL, s_eqL, s_leR, s_ltR, s_eqR, s_le, s_lt, s_eq, s_addL, s_addL', s_mulL, s_mulL', s_mul, nI_add, s_subL, s_sub, s_m1, s_m1', s_lm1, s_ltm1, s_m1lt, s_m1le, s_m1p, s_10, s_let, s_el, s_er, s_b2, s_b3, s_b4, s_b5, s_b6, s_b7, s_b8, s_b9, s_b10, s_b11, s_b12, s_bind, eq_self, if_pos, if_neg, ite_true, ite_false, if_true, if_false, Bool.false_eq_true, reduceIte, e1, k2]
theorem g_ms_nd' {H : Nat → Bool} {R : List Nat} (hR : R.Nodup) (n : Nat) : (g_ms H R n).Nodup := by
  unfold g_ms
  rw [List.nodup_append]
  refine ⟨hR, List.nodup_range.filter _, ?_⟩
  intro a ha b hb e
  subst e
  have := (List.mem_filter.mp hb).2
  simp [ha] at this
def g_mix (f g : Nat → List Nat) (n : Nat) : Nat → List Nat := fun l => if l < n then f l else g l
theorem g_mix_lt {f g : Nat → List Nat} {n l : Nat} (h : l < n) : g_mix f g n l = f l := if_pos h
theorem g_mix_ge {f g : Nat → List Nat} {n l : Nat} (h : ¬ l < n) : g_mix f g n l = g l := if_neg h
section OM
variable {ex bx : Nat → Bool} {up lo lay : Nat → Nat} {N : Nat} {row : Nat → List Nat} {X A F T U L S I P D OL OP OD : Nat → Int32} {old : Nat → List Nat}
theorem p_mo27 {R O : List Nat} {l : Nat} {H : Nat → Bool} (hl : l < 24) (hR : ∀ c, c ∈ R ↔ c < 40 ∧ H c = true) (hRn : R.Nodup) (hR40 : R.length ≤ 40) (hOn : O.Nodup) (hO40 : O.length ≤ 40) (hOb : ∀ c, c ∈ O → c < 40) (hI : m_I R l I) (hS : S l = nI R.length) (hpl : ∀ c, c < 40 → fX10_oldPlaceOf OL OP OD (nI (g_nm c)) (nI l) = some (if c ∈ O then nI (O.idxOf c) else -1)) {p : Nat} (hp : p < 40) {rw : Nat → Int32} (hr : ∀ j c : Nat, ((O.take p).filter H)[j]? = some c → rw j = nI (g_nm c)) :
    ∃ rw', q_lo (fun (st : Int32 × Int32 × (Nat → Int32)) => bX10_oldOrders_27 S I OL OP OD (nI l) (nI p) st.1 st.2.1 st.2.2) (nI ((O.take p).filter H).length, 0, rw) = some (nI ((O.take (p + 1)).filter H).length, rw') ∧ ∀ j c : Nat, ((O.take (p + 1)).filter H)[j]? = some c → rw' j = nI (g_nm c) := by
  have hcmp : ∀ c, c < 40 → ((if c ∈ O then nI (O.idxOf c) else -1) = nI p ↔ O[p]? = some c) := by
    intro c hc
    by_cases hm : c ∈ O
    · have h1 := List.idxOf_lt_length_of_mem hm
      rw [if_pos hm, s_eq (by omega) (by omega)]
      constructor
      · intro e
        have := g_idx_get hm
        rw [e] at this
        exact this
      · intro e
        exact g_idx_of hOn e
    · rw [if_neg hm]
      exact ⟨fun e => absurd e.symm (n_m1 (by omega)), fun e => absurd (g_mem_get e) hm⟩
  by_cases hex : ∃ c, O[p]? = some c ∧ H c = true
  · obtain ⟨c, hc, hHc⟩ := hex
    have hcR : c ∈ R := (hR c).mpr ⟨hOb c (g_mem_get hc), hHc⟩
    obtain ⟨kc, hkc⟩ := List.mem_iff_getElem?.mp hcR
    have hkl := g_lt_len hkc
    have hQ : (O.take (p + 1)).filter H = (O.take p).filter H ++ [c] := by
      rw [g_take1 hc, List.filter_append]
      simp [hHc]
    have hQl : ((O.take p).filter H).length < 40 := by
      have h1 : ((O.take (p + 1)).filter H).length ≤ 40 := Nat.le_trans (List.length_filter_le _ _) (by rw [List.length_take]; omega)
      rw [hQ, List.length_append, List.length_singleton] at h1
      omega
    rw [hQ]
    have H9 : ∃ e : Int32 × (Nat → Int32), q_lo (fun (st : Int32 × Int32 × (Nat → Int32)) => bX10_oldOrders_27 S I OL OP OD (nI l) (nI p) st.1 st.2.1 st.2.2) (nI ((O.take p).filter H).length, 0, rw) = some e ∧ e.1 = nI ((O.take p).filter H ++ [c]).length ∧ ∀ j d : Nat, ((O.take p).filter H ++ [c])[j]? = some d → e.2 j = nI (g_nm d) := by
      refine q_inv (fun k (st : Int32 × Int32 × (Nat → Int32)) => st.2.1 = nI k ∧ (k ≤ kc → st.1 = nI ((O.take p).filter H).length ∧ ∀ j d : Nat, ((O.take p).filter H)[j]? = some d → st.2.2 j = nI (g_nm d)) ∧ (kc < k → st.1 = nI ((O.take p).filter H ++ [c]).length ∧ ∀ j d : Nat, ((O.take p).filter H ++ [c])[j]? = some d → st.2.2 j = nI (g_nm d))) R.length ?_ ?_ _ ⟨rfl, fun _ => ⟨rfl, hr⟩, fun h => by omega⟩
      · rintro k ⟨x, y, q⟩ hk ⟨h1, h2, h3⟩
        dsimp only at h1 h2 h3
        subst h1
        obtain ⟨d, hd⟩ : ∃ d, R[k]? = some d := ⟨_, List.getElem?_eq_getElem hk⟩
        have hdb := ((hR d).mp (g_mem_get hd)).1
        have hit := p_item0 hI hl hR40 hd
        show ∃ t9, bX10_oldOrders_27 S I OL OP OD (nI l) (nI p) x (nI k) q = some (.inl t9) ∧ _
        unfold bX10_oldOrders_27 jX10_oldOrders_73
        by_cases hkk : k = kc
        · subst hkk
          rw [hkc] at hd
          cases hd
          have e1 := (hcmp c hdb).mpr hc
          obtain ⟨h4, h5⟩ := h2 (Nat.le_refl _)
          subst h4
          simp (disch := omega) only [s_in, s_cl, s_leL, s_ltL, s_eqL, s_leR, s_ltR, s_eqR, s_le, s_lt, s_eq, s_addL, s_addL', s_mulL, s_mulL', s_mul, nI_add, s_subL, s_sub, s_m1, s_m1', s_lm1, s_ltm1, s_m1lt, s_m1le, s_m1p, s_10, s_let, s_el, s_er, s_b2, s_b3, s_b4, s_b5, s_b6, s_b7, s_b8, s_b9, s_b10, s_b11, s_b12, s_bind, eq_self, if_pos, if_neg, ite_true, ite_false, if_true, if_false, Bool.false_eq_true, reduceIte, hS, hit, hpl c hdb, e1]
          refine ⟨_, rfl, rfl, fun h => by omega, fun _ => ⟨by rw [List.length_append]; rfl, ?_⟩⟩
          intro j d hj
          dsimp only
          rw [List.getElem?_append] at hj
          split at hj
          · rw [pk_un (by omega)]
            exact h5 j d hj
          · have hj1 := g_lt_len hj
            simp at hj1
            have hj2 : j = ((O.take p).filter H).length := by omega
            subst hj2
            rw [Nat.sub_self] at hj
            simp at hj
            subst hj
            rw [pk_us]
        · have e1 : ¬ (if d ∈ O then nI (O.idxOf d) else -1) = nI p := fun e => hkk (by
            have := (hcmp d hdb).mp e
            rw [hc] at this
            cases this
            exact g_nd_inj hRn hd hkc)
          simp (disch := omega) only [s_in, s_cl, s_leL, s_ltL, s_eqL, s_leR, s_ltR, s_eqR, s_le, s_lt, s_eq, s_addL, s_addL', s_mulL, s_mulL', s_mul, nI_add, s_subL, s_sub, s_m1, s_m1', s_lm1, s_ltm1, s_m1lt, s_m1le, s_m1p, s_10, s_let, s_el, s_er, s_b2, s_b3, s_b4, s_b5, s_b6, s_b7, s_b8, s_b9, s_b10, s_b11, s_b12, s_bind, eq_self, if_pos, if_neg, ite_true, ite_false, if_true, if_false, Bool.false_eq_true, reduceIte, hS, hit, hpl d hdb, e1]
          exact ⟨_, rfl, rfl, fun h => h2 (by omega), fun h => h3 (by omega)⟩
      · rintro ⟨x, y, q⟩ ⟨h1, h2, h3⟩
        dsimp only at h1 h2 h3
        subst h1
        refine ⟨(x, q), ?_, h3 hkl⟩
        show bX10_oldOrders_27 S I OL OP OD (nI l) (nI p) x (nI R.length) q = _
        unfold bX10_oldOrders_27
        rw [if_pos (n_in hl (by decide)), s_cl (by omega), hS, if_pos (Int32.le_refl _)]
    obtain ⟨⟨z1, z2⟩, h8, h9, h10⟩ := H9
    dsimp only at h9 h10
    subst h9
    exact ⟨z2, h8, h10⟩
  · have hQ : (O.take (p + 1)).filter H = (O.take p).filter H := by
      cases ho : O[p]? with
      | none =>
        rw [List.getElem?_eq_none_iff] at ho
        rw [List.take_of_length_le (by omega), List.take_of_length_le (by omega)]
      | some c =>
        have hHc : H c = false := by
          cases hh : H c
          · rfl
          · exact absurd ⟨c, ho, hh⟩ hex
        rw [g_take1 ho, List.filter_append]
        simp [hHc]
    rw [hQ]
    have H9 : ∃ e : Int32 × (Nat → Int32), q_lo (fun (st : Int32 × Int32 × (Nat → Int32)) => bX10_oldOrders_27 S I OL OP OD (nI l) (nI p) st.1 st.2.1 st.2.2) (nI ((O.take p).filter H).length, 0, rw) = some e ∧ e = (nI ((O.take p).filter H).length, rw) := by
      refine q_inv (fun k (st : Int32 × Int32 × (Nat → Int32)) => st = (nI ((O.take p).filter H).length, nI k, rw)) R.length ?_ ?_ _ rfl
      · rintro k st hk rfl
        obtain ⟨d, hd⟩ : ∃ d, R[k]? = some d := ⟨_, List.getElem?_eq_getElem hk⟩
        obtain ⟨hdb, hdH⟩ := (hR d).mp (g_mem_get hd)
        have hit := p_item0 hI hl hR40 hd
        have e1 : ¬ (if d ∈ O then nI (O.idxOf d) else -1) = nI p := fun e => hex ⟨d, (hcmp d hdb).mp e, hdH⟩
        refine ⟨_, ?_, rfl⟩
        show bX10_oldOrders_27 S I OL OP OD (nI l) (nI p) (nI ((O.take p).filter H).length) (nI k) rw = _
        unfold bX10_oldOrders_27 jX10_oldOrders_73
        simp (disch := omega) only [s_in, s_cl, s_leL, s_ltL, s_eqL, s_leR, s_ltR, s_eqR, s_le, s_lt, s_eq, s_addL, s_addL', s_mulL, s_mulL', s_mul, nI_add, s_subL, s_sub, s_m1, s_m1', s_lm1, s_ltm1, s_m1lt, s_m1le, s_m1p, s_10, s_let, s_el, s_er, s_b2, s_b3, s_b4, s_b5, s_b6, s_b7, s_b8, s_b9, s_b10, s_b11, s_b12, s_bind, eq_self, if_pos, if_neg, ite_true, ite_false, if_true, if_false, Bool.false_eq_true, reduceIte, hS, hit, hpl d hdb, e1]
      · rintro st rfl
        refine ⟨_, ?_, rfl⟩
        show bX10_oldOrders_27 S I OL OP OD (nI l) (nI p) _ (nI R.length) rw = _
        unfold bX10_oldOrders_27
        rw [if_pos (n_in hl (by decide)), s_cl (by omega), hS, if_pos (Int32.le_refl _)]
    obtain ⟨e, h8, rfl⟩ := H9
    exact ⟨rw, h8, hr⟩
theorem p_mo18 {R O : List Nat} {l : Nat} {H : Nat → Bool} (hl : l < 24) (hR : ∀ c, c ∈ R ↔ c < 40 ∧ H c = true) (hRn : R.Nodup) (hR40 : R.length ≤ 40) (hOn : O.Nodup) (hO40 : O.length ≤ 40) (hOb : ∀ c, c ∈ O → c < 40) (hI : m_I R l I) (hS : S l = nI R.length) (hpl : ∀ c, c < 40 → fX10_oldPlaceOf OL OP OD (nI (g_nm c)) (nI l) = some (if c ∈ O then nI (O.idxOf c) else -1)) (rw : Nat → Int32) :
    ∃ rw', q_lo (fun (st : Int32 × Int32 × (Nat → Int32)) => bX10_oldOrders_18 S I OL OP OD (nI l) st.1 st.2.1 st.2.2) (0, 0, rw) = some (nI (O.filter H).length, rw') ∧ ∀ j c : Nat, (O.filter H)[j]? = some c → rw' j = nI (g_nm c) := by
  have H9 : ∃ e : Int32 × (Nat → Int32), q_lo (fun (st : Int32 × Int32 × (Nat → Int32)) => bX10_oldOrders_18 S I OL OP OD (nI l) st.1 st.2.1 st.2.2) (0, 0, rw) = some e ∧ e.1 = nI (O.filter H).length ∧ ∀ j c : Nat, (O.filter H)[j]? = some c → e.2 j = nI (g_nm c) := by
    refine q_inv (fun p (st : Int32 × Int32 × (Nat → Int32)) => st.2.1 = nI p ∧ st.1 = nI ((O.take p).filter H).length ∧ ∀ j c : Nat, ((O.take p).filter H)[j]? = some c → st.2.2 j = nI (g_nm c)) 40 ?_ ?_ _ ⟨rfl, rfl, fun j c h => by simp at h⟩
    · rintro p ⟨x, y, q⟩ hp ⟨h1, h2, h3⟩
      dsimp only at h1 h2 h3
      subst h1
      subst h2
      obtain ⟨q', k1, k2⟩ := p_mo27 hl hR hRn hR40 hOn hO40 hOb hI hS hpl hp h3
      show ∃ t9, bX10_oldOrders_18 S I OL OP OD (nI l) (nI ((O.take p).filter H).length) (nI p) q = some (.inl t9) ∧ _
      unfold bX10_oldOrders_18
      rw [if_neg (by rw [n_lit 40, s_le (by omega) (by omega)]; omega), k1, s_b2, s_addL]
      exact ⟨_, rfl, rfl, rfl, k2⟩
    · rintro ⟨x, y, q⟩ ⟨h1, h2, h3⟩
      dsimp only at h1 h2 h3
      subst h1
      rw [List.take_of_length_le hO40] at h2 h3
      refine ⟨(x, q), ?_, h2, h3⟩
      show bX10_oldOrders_18 S I OL OP OD (nI l) x (nI 40) q = _
      unfold bX10_oldOrders_18
      rw [if_pos (by decide)]
  obtain ⟨⟨z1, z2⟩, h8, h9, h10⟩ := H9
  dsimp only at h9 h10
  subst h9
  exact ⟨z2, h8, h10⟩
theorem p_mo87 {R O Q : List Nat} {l : Nat} (hl : l < 24) (hRb : ∀ c, c ∈ R → c < 40) (hR40 : R.length ≤ 40) (hQ40 : (Q ++ R.filter (fun c => decide (c ∉ O))).length ≤ 40) (hO40 : O.length ≤ 40) (hI : m_I R l I) (hS : S l = nI R.length) (hpl : ∀ c, c < 40 → fX10_oldPlaceOf OL OP OD (nI (g_nm c)) (nI l) = some (if c ∈ O then nI (O.idxOf c) else -1)) {rw : Nat → Int32} (hr : ∀ j c : Nat, Q[j]? = some c → rw j = nI (g_nm c)) :
    ∃ rw', q_lo (fun (st : Int32 × Int32 × (Nat → Int32)) => bX10_oldOrders_87 S I OL OP OD (nI l) st.1 st.2.1 st.2.2) (nI Q.length, 0, rw) = some (nI (Q ++ R.filter (fun c => decide (c ∉ O))).length, rw') ∧ ∀ j c : Nat, (Q ++ R.filter (fun c => decide (c ∉ O)))[j]? = some c → rw' j = nI (g_nm c) := by
  have H9 : ∃ e : Int32 × (Nat → Int32), q_lo (fun (st : Int32 × Int32 × (Nat → Int32)) => bX10_oldOrders_87 S I OL OP OD (nI l) st.1 st.2.1 st.2.2) (nI Q.length, 0, rw) = some e ∧ e.1 = nI (Q ++ R.filter (fun c => decide (c ∉ O))).length ∧ ∀ j c : Nat, (Q ++ R.filter (fun c => decide (c ∉ O)))[j]? = some c → e.2 j = nI (g_nm c) := by
    refine q_inv (fun k (st : Int32 × Int32 × (Nat → Int32)) => st.2.1 = nI k ∧ st.1 = nI (Q ++ (R.take k).filter (fun c => decide (c ∉ O))).length ∧ ∀ j c : Nat, (Q ++ (R.take k).filter (fun c => decide (c ∉ O)))[j]? = some c → st.2.2 j = nI (g_nm c)) R.length ?_ ?_ _ ⟨rfl, by simp, fun j c h => hr j c (by simpa using h)⟩
    · rintro k ⟨x, y, q⟩ hk ⟨h1, h2, h3⟩
      dsimp only at h1 h2 h3
      subst h1
      subst h2
      obtain ⟨d, hd⟩ : ∃ d, R[k]? = some d := ⟨_, List.getElem?_eq_getElem hk⟩
      have hdb := hRb d (g_mem_get hd)
      have hit := p_item0 hI hl hR40 hd
      have hbound : (Q ++ (R.take (k + 1)).filter (fun c => decide (c ∉ O))).length ≤ 40 := by
        have h4 := ((List.take_prefix (k + 1) R).filter (fun c => decide (c ∉ O))).length_le
        rw [List.length_append] at hQ40 ⊢
        omega
      show ∃ t9, bX10_oldOrders_87 S I OL OP OD (nI l) (nI (Q ++ (R.take k).filter (fun c => decide (c ∉ O))).length) (nI k) q = some (.inl t9) ∧ _
      rw [g_take1 hd, List.filter_append] at hbound ⊢
      unfold bX10_oldOrders_87 jX10_oldOrders_129
      by_cases hm : d ∈ O
      · have e1 : ¬ (if d ∈ O then nI (O.idxOf d) else -1) < 0 := by
          rw [if_pos hm]
          have := List.idxOf_lt_length_of_mem hm
          exact nI_pos (by omega)
        have e2 : [d].filter (fun c => decide (c ∉ O)) = [] := by simp [hm]
        rw [e2, List.append_nil]
        rw [if_pos (n_in hl (by decide)), s_cl (by omega), hS, if_neg (by rw [s_le (by omega) (by omega)]; omega), hit, s_bind, hpl d hdb, s_bind, if_neg e1, s_addL]
        exact ⟨_, rfl, rfl, rfl, h3⟩
      · have e1 : (if d ∈ O then nI (O.idxOf d) else -1) < 0 := by
          rw [if_neg hm]
          decide
        have e2 : [d].filter (fun c => decide (c ∉ O)) = [d] := by simp [hm]
        rw [e2, ← List.append_assoc] at hbound ⊢
        rw [List.length_append, List.length_singleton] at hbound
        simp (disch := omega) only [s_in, s_cl, s_leL, s_ltL, s_eqL, s_leR, s_ltR, s_eqR, s_le, s_lt, s_eq, s_addL, s_addL', s_mulL, s_mulL', s_mul, nI_add, s_subL, s_sub, s_m1, s_m1', s_lm1, s_ltm1, s_m1lt, s_m1le, s_m1p, s_10, s_let, s_el, s_er, s_b2, s_b3, s_b4, s_b5, s_b6, s_b7, s_b8, s_b9, s_b10, s_b11, s_b12, s_bind, eq_self, if_pos, if_neg, ite_true, ite_false, if_true, if_false, Bool.false_eq_true, reduceIte, hS, hit, hpl d hdb, e1]
        refine ⟨_, rfl, rfl, by rw [List.length_append (bs := [d])]; rfl, ?_⟩
        intro j c hj
        dsimp only
        rw [List.getElem?_append] at hj
        split at hj
        · rw [pk_un (by omega)]
          exact h3 j c hj
        · have hj1 := g_lt_len hj
          simp only [List.length_singleton] at hj1
          have hj2 : j = (Q ++ (R.take k).filter (fun c => decide (c ∉ O))).length := by omega
          subst hj2
          rw [Nat.sub_self] at hj
          simp only [List.getElem?_cons_zero, Option.some.injEq] at hj
          subst hj
          rw [pk_us]
    · rintro ⟨x, y, q⟩ ⟨h1, h2, h3⟩
      dsimp only at h1 h2 h3
      subst h1
      rw [List.take_length] at h2 h3
      refine ⟨(x, q), ?_, h2, h3⟩
      show bX10_oldOrders_87 S I OL OP OD (nI l) x (nI R.length) q = _
      unfold bX10_oldOrders_87
      rw [if_pos (n_in hl (by decide)), s_cl (by omega), hS, if_pos (Int32.le_refl _)]
  obtain ⟨⟨z1, z2⟩, h8, h9, h10⟩ := H9
  dsimp only at h9 h10
  subst h9
  exact ⟨z2, h8, h10⟩
theorem g_keep_ms {H : Nat → Bool} {O : List Nat} (hOb : ∀ c, c ∈ O → c < 40) : g_ms H (O.filter H) 40 = O.filter H ++ (g_ms H [] 40).filter (fun c => decide (c ∉ O)) := by
  unfold g_ms
  rw [List.nil_append, List.filter_filter]
  congr 1
  apply List.filter_congr
  intro c _
  by_cases h1 : H c = true
  · by_cases h2 : c ∈ O
    · simp [h1, h2]
    · simp [h1, h2]
  · simp [h1]
theorem p_mold (hG : g_G ex up lo bx lay N) (hX : m_X bx X) (hA : m_A ex up lo A F T U) (hL : m_L bx lay L) (hM : m_Old old OL OP OD) (hON : g_oN old) (S I P D rw : Nat → Int32) :
    ∃ S' I' P' D' rw', fX10_oldOrders X A F T U (nI N) L S I P D OL OP OD rw = some (S', I', P', D', rw') ∧ m_O N (g_all (g_hd ex up lo bx lay) (g_keep (g_hd ex up lo bx lay) old N) N) S' I' P' D' := by
  have hN := hG.1
  obtain ⟨S1, I1, P1, D1, a1, a2⟩ := p_firstOrders hG hX hA hL S I P D
  have hOb : ∀ l, l < 24 → ∀ c, c ∈ old l → c < 40 := fun l hl c hc => by
    obtain ⟨k, hk⟩ := List.mem_iff_getElem?.mp hc
    exact (hM.1 l hl k c hk).1
  have hfr : ∀ l, l < N → g_all (g_hd ex up lo bx lay) (fun _ => []) N l = g_ms (g_hd ex up lo bx lay l) [] 40 := fun l hl => if_pos hl
  have htg : ∀ l, l < N → g_all (g_hd ex up lo bx lay) (g_keep (g_hd ex up lo bx lay) old N) N l = g_ms (g_hd ex up lo bx lay l) ((old l).filter (g_hd ex up lo bx lay l)) 40 := by
    intro l hl
    unfold g_all g_keep
    rw [if_pos hl, if_pos hl]
  have hrm : ∀ l, ∀ c, c ∈ g_ms (g_hd ex up lo bx lay l) [] 40 ↔ c < 40 ∧ g_hd ex up lo bx lay l c = true := by
    intro l c
    rw [g_ms_mem]
    simp
  have htm : ∀ l, l < 24 → ∀ c, c ∈ g_ms (g_hd ex up lo bx lay l) ((old l).filter (g_hd ex up lo bx lay l)) 40 ↔ c < 40 ∧ g_hd ex up lo bx lay l c = true := by
    intro l hl c
    rw [g_ms_mem, List.mem_filter]
    constructor
    · rintro (h | h)
      · exact ⟨hOb l hl c h.1, h.2⟩
      · exact h
    · exact fun h => .inr h
  have htn : ∀ l, l < 24 → (g_ms (g_hd ex up lo bx lay l) ((old l).filter (g_hd ex up lo bx lay l)) 40).Nodup := fun l hl => g_ms_nd' ((hON l hl).1.filter _) 40
  have htl : ∀ l, l < 24 → (g_ms (g_hd ex up lo bx lay l) ((old l).filter (g_hd ex up lo bx lay l)) 40).length = (g_ms (g_hd ex up lo bx lay l) [] 40).length := by
    intro l hl
    refine List.Perm.length_eq ?_
    rw [List.perm_ext_iff_of_nodup (htn l hl) (g_ms_nd 40)]
    intro c
    rw [htm l hl, hrm]
  generalize htgt : (fun l => g_ms (g_hd ex up lo bx lay l) ((old l).filter (g_hd ex up lo bx lay l)) 40) = tgt
  have htgt2 : ∀ l, tgt l = g_ms (g_hd ex up lo bx lay l) ((old l).filter (g_hd ex up lo bx lay l)) 40 := fun l => by rw [← htgt]
  have H9 : ∃ e : t_O, q_lo (fun (st : Int32 × (Nat → Int32) × (Nat → Int32) × (Nat → Int32) × (Nat → Int32)) => bX10_oldOrders_6 (nI N) S1 OL OP OD st.1 st.2.1 st.2.2.1 st.2.2.2.1 st.2.2.2.2) (0, I1, P1, D1, rw) = some e ∧ m_O N (g_mix tgt (g_all (g_hd ex up lo bx lay) (fun _ => []) N) N) S1 e.1 e.2.1 e.2.2.1 := by
    refine q_inv (fun n (st : Int32 × (Nat → Int32) × (Nat → Int32) × (Nat → Int32) × (Nat → Int32)) => st.1 = nI n ∧ m_O N (g_mix tgt (g_all (g_hd ex up lo bx lay) (fun _ => []) N) n) S1 st.2.1 st.2.2.1 st.2.2.2.1) N ?_ ?_ _ ⟨rfl, by have e0 : g_mix tgt (g_all (g_hd ex up lo bx lay) (fun _ => []) N) 0 = g_all (g_hd ex up lo bx lay) (fun _ => []) N := (funext fun l => g_mix_ge (Nat.not_lt_zero l)); rw [e0]; exact a2⟩
    · rintro n ⟨x, I2, P2, D2, rw2⟩ hn ⟨h1, h2⟩
      dsimp only at h1 h2
      subst h1
      have hVn : g_V ex up lo bx lay N (g_mix tgt (g_all (g_hd ex up lo bx lay) (fun _ => []) N) n) := by
        intro l hl
        by_cases hln : l < n
        · rw [g_mix_lt hln, htgt2]
          refine ⟨htn l hl, fun c => ?_⟩
          rw [htm l hl]
          exact ⟨fun h => ⟨by omega, h⟩, fun h => h.2⟩
        · rw [g_mix_ge hln]
          exact g_V_first hN l hl
      obtain ⟨o1, o2, o3, o4⟩ := h2 n hn
      rw [g_mix_ge (Nat.lt_irrefl n), hfr n hn] at o1 o2 o3 o4
      have hpl : ∀ c, c < 40 → fX10_oldPlaceOf OL OP OD (nI (g_nm c)) (nI n) = some (if c ∈ old n then nI ((old n).idxOf c) else -1) := fun c hc => p_oldPlace hM hON (by omega) hc
      obtain ⟨rw3, b1, b2⟩ := p_mo18 (show n < 24 by omega) (hrm n) o2 o1 (hON n (by omega)).1 (hON n (by omega)).2 (hOb n (by omega)) o4.I o3 hpl rw2
      have hkm := g_keep_ms (H := g_hd ex up lo bx lay n) (hOb n (by omega))
      have hl40 : ((old n).filter (g_hd ex up lo bx lay n) ++ (g_ms (g_hd ex up lo bx lay n) [] 40).filter (fun c => decide (c ∉ old n))).length ≤ 40 := by
        rw [← hkm, htl n (by omega)]
        exact g_ms_len 40
      obtain ⟨rw4, c1, c2⟩ := p_mo87 (show n < 24 by omega) (fun c hc => ((hrm n c).mp hc).1) o1 hl40 (hON n (by omega)).2 o4.I o3 hpl b2
      rw [← hkm] at c1 c2 hl40
      obtain ⟨I3, d1, d2, d3⟩ := p_ms181 (rw := rw4) hl40 (show n < 24 by omega) (fun j c hj => ⟨((htm n (by omega) c).mp (g_mem_get hj)).1, c2 j c hj⟩) I2
      obtain ⟨P3, D3, e1, e2⟩ := m_O_set hG hVn h2 hn (htn n (by omega)) (fun c => by rw [g_mix_ge (Nat.lt_irrefl n), hfr n hn, hrm, htm n (by omega)]) (by rw [g_mix_ge (Nat.lt_irrefl n), hfr n hn, htl n (by omega)]) d2 d3
      have d4 : q_lo (fun (st : Int32 × (Nat → Int32)) => bX10_oldOrders_137 rw4 (nI n) (nI (g_ms (g_hd ex up lo bx lay n) ((old n).filter (g_hd ex up lo bx lay n)) 40).length) st.1 st.2) (0, I2) = some I3 := d1
      show ∃ t9, bX10_oldOrders_6 (nI N) S1 OL OP OD (nI n) I2 P2 D2 rw2 = some (.inl t9) ∧ _
      unfold bX10_oldOrders_6
      rw [if_neg (by rw [s_le (by omega) (by omega)]; omega), b1, s_b2, c1, s_b2, d4, s_bind, e1, s_b2, s_addL]
      refine ⟨_, rfl, rfl, ?_⟩
      have hset : g_set (g_mix tgt (g_all (g_hd ex up lo bx lay) (fun _ => []) N) n) n (g_ms (g_hd ex up lo bx lay n) ((old n).filter (g_hd ex up lo bx lay n)) 40) = (g_mix tgt (g_all (g_hd ex up lo bx lay) (fun _ => []) N) (n + 1)) := by
        funext i
        by_cases hi : i = n
        · subst hi
          rw [g_set_at, g_mix_lt (by omega), htgt2]
        · rw [g_set_ne hi]
          by_cases hi2 : i < n
          · rw [g_mix_lt hi2, g_mix_lt (by omega)]
          · rw [g_mix_ge hi2, g_mix_ge (by omega)]
      rw [hset] at e2
      exact e2
    · rintro ⟨x, I2, P2, D2, rw2⟩ ⟨h1, h2⟩
      dsimp only at h1 h2
      subst h1
      refine ⟨(I2, P2, D2, rw2), ?_, h2⟩
      show bX10_oldOrders_6 (nI N) S1 OL OP OD (nI N) I2 P2 D2 rw2 = _
      unfold bX10_oldOrders_6
      rw [if_pos (Int32.le_refl _)]
  obtain ⟨⟨z1, z2, z3, z4⟩, h8, h9⟩ := H9
  refine ⟨S1, z1, z2, z3, z4, ?_, ?_⟩
  · unfold fX10_oldOrders
    rw [a1, s_b4, h8, s_b4]
  · intro l hl
    have := h9 l hl
    rw [g_mix_lt hl, htgt2] at this
    rw [htg l hl]
    exact this
end OM
