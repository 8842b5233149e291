/-! PURE: the reference's best row. -/
theorem s_div {a b : Nat} (ha : a < 2147483648) (hb : b < 2147483648) : nI a / nI b = nI (a / b) := (Int32.ofNat_div (by omega) (by omega)).symm
theorem g_flt_cut {L : List Nat} {k x : Nat} (hn : L.Nodup) (h : L[k]? = some x) : L.filter (fun y => decide (y ≠ x)) = L.take k ++ L.drop (k + 1) := by
  have hk := g_lt_len h
  have e : L = L.take k ++ x :: L.drop (k + 1) := by
    have h1 : L.drop k = x :: L.drop (k + 1) := by
      rw [List.getElem?_eq_getElem hk] at h
      rw [List.drop_eq_getElem_cons hk, Option.some.inj h]
    rw [← h1, List.take_append_drop]
  have hn2 := hn
  rw [e, List.nodup_append, List.nodup_cons] at hn2
  have h1 : (L.take k).filter (fun y => decide (y ≠ x)) = L.take k := by
    rw [List.filter_eq_self]
    intro a ha
    have := hn2.2.2 a ha x (by simp)
    simpa using this
  have h2 : (L.drop (k + 1)).filter (fun y => decide (y ≠ x)) = L.drop (k + 1) := by
    rw [List.filter_eq_self]
    intro a ha
    have : a ≠ x := fun e => hn2.2.1.1 (e ▸ ha)
    simpa using this
  have h3 : L.filter (fun y => decide (y ≠ x)) = (L.take k ++ x :: L.drop (k + 1)).filter (fun y => decide (y ≠ x)) := by rw [← e]
  rw [h3, List.filter_append, List.filter_cons, h1, h2]
  simp
theorem g_cut_get {L : List Nat} {k j y : Nat} (hk : k < L.length) (h : (L.take k ++ L.drop (k + 1))[j]? = some y) : (j < k ∧ L[j]? = some y) ∨ (k ≤ j ∧ L[j + 1]? = some y) := by
  have hl : (L.take k).length = k := by rw [List.length_take]; omega
  rw [List.getElem?_append, hl] at h
  split at h
  · exact .inl (g_take_get h)
  · next hj =>
    rw [List.getElem?_drop, show k + 1 + (j - k) = j + 1 by omega] at h
    exact .inr ⟨by omega, h⟩
theorem p_ma91 {n p k : Nat} (hn : n ≤ 6) (hp : p < n) (hk : k < n - p) (nr : Nat → Int32) : ∃ nr', q_lo (fun (st : Int32 × (Nat → Int32)) => bX10_arrange_91 (nI n) (nI p) st.1 st.2) (nI k, nr) = some nr' ∧ (∀ j : Nat, j < k → nr' j = nr j) ∧ ∀ j : Nat, k ≤ j → j + 1 < n - p → nr' j = nr (j + 1) := by
  refine q_inv (fun i (st : Int32 × (Nat → Int32)) => st.1 = nI (k + i) ∧ (∀ j : Nat, j < k → st.2 j = nr j) ∧ (∀ j : Nat, k ≤ j → j < k + i → st.2 j = nr (j + 1)) ∧ ∀ j : Nat, k + i ≤ j → st.2 j = nr j) (n - p - 1 - k) ?_ ?_ _ ⟨rfl, fun _ _ => rfl, fun j h1 h2 => by omega, fun _ _ => rfl⟩
  · rintro i ⟨x, q⟩ hi ⟨h1, h2, h3, h4⟩
    dsimp only at h1 h2 h3 h4
    subst h1
    show ∃ t9, bX10_arrange_91 (nI n) (nI p) (nI (k + i)) q = some (.inl t9) ∧ _
    unfold bX10_arrange_91
    simp (disch := omega) only [s_in, s_cl, s_leL, s_ltL, s_eqL, s_leR, s_ltR, s_eqR, s_le, s_lt, s_eq, s_addL, s_addL', s_mulL, s_mulL', s_mul, nI_add, s_subL, s_sub, s_m1, s_m1', s_lm1, s_ltm1, s_m1lt, s_m1le, s_m1p, s_10, s_let, s_el, s_er, s_b2, s_b3, s_b4, s_b5, s_b6, s_b7, s_b8, s_b9, s_b10, s_b11, s_b12, s_bind, eq_self, if_pos, if_neg, ite_true, ite_false, if_true, if_false, Bool.false_eq_true, reduceIte]
    refine ⟨_, rfl, congrArg nI (by omega), ?_, ?_, ?_⟩
    · intro j hj
      dsimp only
      rw [pk_un (by omega)]
      exact h2 j hj
    · intro j hj1 hj2
      dsimp only
      by_cases hjk : j = k + i
      · subst hjk
        rw [pk_us]
        exact h4 _ (by omega)
      · rw [pk_un hjk]
        exact h3 j hj1 (by omega)
    · intro j hj
      dsimp only
      rw [pk_un (by omega)]
      exact h4 j (by omega)
  · rintro ⟨x, q⟩ ⟨h1, h2, h3, h4⟩
    dsimp only at h1 h2 h3 h4
    subst h1
    refine ⟨q, ?_, h2, fun j hj1 hj2 => h3 j hj1 (by omega)⟩
    show bX10_arrange_91 (nI n) (nI p) (nI (k + (n - p - 1 - k))) q = _
    unfold bX10_arrange_91
    simp (disch := omega) only [s_in, s_cl, s_leL, s_ltL, s_eqL, s_leR, s_ltR, s_eqR, s_le, s_lt, s_eq, s_addL, s_addL', s_mulL, s_mulL', s_mul, nI_add, s_subL, s_sub, s_m1, s_m1', s_lm1, s_ltm1, s_m1lt, s_m1le, s_m1p, s_10, s_let, s_el, s_er, s_b2, s_b3, s_b4, s_b5, s_b6, s_b7, s_b8, s_b9, s_b10, s_b11, s_b12, s_bind, eq_self, if_pos, if_neg, ite_true, ite_false, if_true, if_false, Bool.false_eq_true, reduceIte]
theorem g_fac_b : ∀ n : Nat, n ≤ 6 → g_fac n ≤ 720 := by
  intro n h
  have : n = 0 ∨ n = 1 ∨ n = 2 ∨ n = 3 ∨ n = 4 ∨ n = 5 ∨ n = 6 := by omega
  rcases this with rfl | rfl | rfl | rfl | rfl | rfl | rfl <;> decide
theorem p_ma34 {R π : List Nat} (h6 : R.length ≤ 6) {l : Nat} (hl : l < 24) {rwA : Nat → Int32} (hr : ∀ j c : Nat, R[j]? = some c → rwA j = nI (g_nm c)) {q : Nat} (hq : (g_pm R.length (List.range R.length))[q]? = some π) {nr : Nat → Int32} (hnr : ∀ j : Nat, j < R.length → nr j = nI j) (I : Nat → Int32) :
    ∃ I' nr', q_lo (fun (st : Int32 × Int32 × Int32 × (Nat → Int32) × (Nat → Int32)) => bX10_arrange_34 rwA (nI l) (nI R.length) st.1 st.2.1 st.2.2.1 st.2.2.2.1 st.2.2.2.2) (nI q, nI (g_fac R.length), 0, I, nr) = some (I', nr') ∧ (∀ j c : Nat, (g_ar R π)[j]? = some c → I' (40 * l + j) = nI (g_nm c)) ∧ ∀ i k : Nat, i ≠ l → k < 40 → I' (40 * i + k) = I (40 * i + k) := by
  have hperm := g_pm_perm _ _ List.nodup_range List.length_range π (g_mem_get hq)
  have hπl : π.length = R.length := by rw [hperm.length_eq, List.length_range]
  have hπb : ∀ p : Nat, p ∈ π → p < R.length := fun p h => List.mem_range.mp (hperm.mem_iff.mp h)
  have hql : q < g_fac R.length := by
    have := g_lt_len hq
    rw [g_pm_len _ _ List.nodup_range List.length_range] at this
    exact this
  have H9 : ∃ e : (Nat → Int32) × (Nat → Int32), q_lo (fun (st : Int32 × Int32 × Int32 × (Nat → Int32) × (Nat → Int32)) => bX10_arrange_34 rwA (nI l) (nI R.length) st.1 st.2.1 st.2.2.1 st.2.2.2.1 st.2.2.2.2) (nI q, nI (g_fac R.length), 0, I, nr) = some e ∧ (∀ j y c : Nat, j < R.length → π[j]? = some y → R[y]? = some c → e.1 (40 * l + j) = nI (g_nm c)) ∧ ∀ i k : Nat, i ≠ l → k < 40 → e.1 (40 * i + k) = I (40 * i + k) := by
    refine q_inv (fun p (st : Int32 × Int32 × Int32 × (Nat → Int32) × (Nat → Int32)) => st.2.2.1 = nI p ∧ st.2.1 = nI (g_fac (R.length - p)) ∧ (∃ (Lp : List Nat) (left : Nat), Lp.length = R.length - p ∧ Lp.Nodup ∧ (∀ x : Nat, x ∈ Lp → x < R.length) ∧ st.1 = nI left ∧ left < g_fac (R.length - p) ∧ (g_pm (R.length - p) Lp)[left]? = some (π.drop p) ∧ ∀ j x : Nat, Lp[j]? = some x → st.2.2.2.2 j = nI x) ∧ (∀ j y c : Nat, j < p → π[j]? = some y → R[y]? = some c → st.2.2.2.1 (40 * l + j) = nI (g_nm c)) ∧ ∀ i k : Nat, i ≠ l → k < 40 → st.2.2.2.1 (40 * i + k) = I (40 * i + k)) R.length ?_ ?_ _ ⟨rfl, rfl, ⟨List.range R.length, q, List.length_range, List.nodup_range, fun x h => List.mem_range.mp h, rfl, hql, by rw [List.drop_zero]; exact hq, ?_⟩, fun j y c h => by omega, fun _ _ _ _ => rfl⟩
    · rintro p ⟨x5, x6, x7, I1, n1⟩ hp ⟨h1, h2, ⟨Lp, left, a1, a2, a3, a4, a5, a6, a7⟩, h4, h5⟩
      dsimp only at h1 h2 h4 h5 a4 a7
      subst h1
      subst h2
      subst a4
      obtain ⟨d, hd⟩ : ∃ d, R.length - p = d + 1 := ⟨R.length - p - 1, by omega⟩
      have hd2 : R.length - (p + 1) = d := by omega
      rw [hd2]
      rw [hd] at a1 a5 a6 ⊢
      have hfp := g_fac_pos d
      have hfb := g_fac_b (d + 1) (by omega)
      have hfb2 := g_fac_b d (by omega)
      have hk : left / g_fac d < d + 1 := by
        rw [Nat.div_lt_iff_lt_mul hfp]
        rw [g_fac] at a5
        exact a5
      obtain ⟨x, hx⟩ : ∃ x, Lp[left / g_fac d]? = some x := ⟨_, List.getElem?_eq_getElem (by omega)⟩
      have hxR := a3 x (g_mem_get hx)
      rw [g_pm_nth a2 a1, hx, Option.bind_some, Option.map_eq_some_iff] at a6
      obtain ⟨r, r1, r2⟩ := a6
      have hpx : π[p]? = some x := by
        have := congrArg (fun L : List Nat => L[0]?) r2
        simp only [List.getElem?_cons_zero, List.getElem?_drop, Nat.add_zero] at this
        exact this.symm
      have hpr : π.drop (p + 1) = r := by
        have := congrArg (fun L : List Nat => L.drop 1) r2
        simp only [List.drop_succ_cons, List.drop_zero, List.drop_drop] at this
        exact this.symm
      obtain ⟨c, hc⟩ : ∃ c, R[x]? = some c := ⟨_, List.getElem?_eq_getElem hxR⟩
      obtain ⟨n2, b1, b2, b3⟩ := p_ma91 h6 hp (k := left / g_fac d) (by omega) n1
      have hg : g_fac (d + 1) / (d + 1) = g_fac d := by rw [g_fac, Nat.mul_div_cancel_left _ (Nat.succ_pos d)]
      have hnp : nI R.length - nI p = nI (d + 1) := by rw [s_sub (by omega), hd]
      have hgrp : nI (g_fac (d + 1)) / nI (d + 1) = nI (g_fac d) := by rw [s_div (by omega) (by omega), hg]
      have hkk : nI left / nI (g_fac d) = nI (left / g_fac d) := s_div (by omega) (by omega)
      have hmod : nI left - nI (left / g_fac d) * nI (g_fac d) = nI (left % g_fac d) := by
        rw [s_mul, s_sub (Nat.div_mul_le_self _ _)]
        congr 1
        have := Nat.div_add_mod left (g_fac d)
        rw [Nat.mul_comm] at this
        omega
      show ∃ t9, bX10_arrange_34 rwA (nI l) (nI R.length) (nI left) (nI (g_fac (d + 1))) (nI p) I1 n1 = some (.inl t9) ∧ _
      unfold bX10_arrange_34
      rw [hnp, hgrp, hkk, hmod]
      have z1 : ¬ nI (d + 1) = 0 := by rw [n_lit 0, s_eq (by omega) (by omega)]; omega
      have z2 : ¬ nI (g_fac d) = 0 := by rw [n_lit 0, s_eq (by omega) (by omega)]; omega
      rw [if_neg (by rw [s_le (by omega) (by omega)]; omega), if_pos z1, if_pos z2, if_pos z2, s_let]
      simp (disch := omega) only [s_in, s_cl, s_leL, s_ltL, s_eqL, s_leR, s_ltR, s_eqR, s_le, s_lt, s_eq, s_addL, s_addL', s_mulL, s_mulL', s_mul, nI_add, s_subL, s_sub, s_m1, s_m1', s_lm1, s_ltm1, s_m1lt, s_m1le, s_m1p, s_10, s_let, s_el, s_er, s_b2, s_b3, s_b4, s_b5, s_b6, s_b7, s_b8, s_b9, s_b10, s_b11, s_b12, s_bind, eq_self, if_pos, if_neg, ite_true, ite_false, if_true, if_false, Bool.false_eq_true, reduceIte, a7 _ x hx, hr x c hc, b1]
      refine ⟨_, rfl, rfl, rfl, ⟨Lp.filter (fun y => decide (y ≠ x)), left % g_fac d, ?_, a2.filter _, fun y hy => a3 y (List.mem_filter.mp hy).1, rfl, Nat.mod_lt _ hfp, by rw [hpr]; exact r1, ?_⟩, ?_, ?_⟩
      · have := g_flt_len a2 (g_mem_get hx)
        omega
      · intro j y hj
        dsimp only
        rw [g_flt_cut a2 hx] at hj
        rcases g_cut_get (by omega) hj with ⟨j1, j2⟩ | ⟨j1, j2⟩
        · rw [b2 j j1]
          exact a7 j y j2
        · have := g_lt_len j2
          rw [b3 j j1 (by omega)]
          exact a7 _ y j2
      · intro j y e hj hy he
        dsimp only
        by_cases hjp : j = p
        · subst hjp
          rw [hpx] at hy
          cases hy
          rw [hc] at he
          cases he
          rw [pk_us]
        · rw [pk_un (by omega)]
          exact h4 j y e (by omega) hy he
      · intro i k hi hk
        dsimp only
        rw [pk_un (by omega)]
        exact h5 i k hi hk
    · rintro ⟨x5, x6, x7, I1, n1⟩ ⟨h1, h2, -, h4, h5⟩
      dsimp only at h1 h2 h4 h5
      subst h1
      refine ⟨(I1, n1), ?_, h4, h5⟩
      show bX10_arrange_34 rwA (nI l) (nI R.length) x5 x6 (nI R.length) I1 n1 = _
      unfold bX10_arrange_34
      rw [if_pos (Int32.le_refl _)]
    · intro j x hj
      have hjl := g_lt_len hj
      rw [List.length_range] at hjl
      rw [List.getElem?_range hjl] at hj
      cases hj
      exact hnr j hjl
  obtain ⟨⟨I', nr'⟩, h8, h9, h10⟩ := H9
  refine ⟨I', nr', h8, ?_, h10⟩
  intro j c hj
  obtain ⟨p, k1, k2⟩ := g_ar_get hπb hj
  exact h9 j p c (by have := g_lt_len k1; omega) k1 k2
section ME
variable {ex bx : Nat → Bool} {up lo lay : Nat → Nat} {N : Nat} {row : Nat → List Nat} {A F T U L S I P D : Nat → Int32}
theorem p_marr (hG : g_G ex up lo bx lay N) (hV : g_V ex up lo bx lay N row) (hO : m_O N row S I P D) {l : Nat} (hl : l < N) {R : List Nat} (hRn : R.Nodup) (hRm : ∀ c : Nat, c ∈ R ↔ c ∈ row l) (hRl : R.length = (row l).length) (h6 : R.length ≤ 6) {rwA : Nat → Int32} (hr : ∀ j c : Nat, R[j]? = some c → rwA j = nI (g_nm c)) {q : Nat} {π : List Nat} (hq : (g_pm R.length (List.range R.length))[q]? = some π) (nr : Nat → Int32) :
    ∃ I' P' D' nr', fX10_arrange S I P D rwA nr (nI l) (nI R.length) (nI q) (nI (g_fac R.length)) = some (I', P', D', nr') ∧ m_O N (g_set row l (g_ar R π)) S I' P' D' := by
  have hN := hG.1
  have hperm := g_pm_perm _ _ List.nodup_range List.length_range π (g_mem_get hq)
  have hπl : π.length = R.length := by rw [hperm.length_eq, List.length_range]
  have hπb : ∀ p : Nat, p ∈ π → p < R.length := fun p h => List.mem_range.mp (hperm.mem_iff.mp h)
  obtain ⟨n1, n2⟩ := g_ar_perm hRn hperm
  have H1 : ∃ e : Nat → Int32, q_lo (fun (st : Int32 × (Nat → Int32)) => bX10_arrange_10 (nI R.length) st.1 st.2) (0, nr) = some e ∧ ∀ j : Nat, j < R.length → e j = nI j := by
    refine q_inv (fun k (st : Int32 × (Nat → Int32)) => st.1 = nI k ∧ ∀ j : Nat, j < k → st.2 j = nI j) R.length ?_ ?_ _ ⟨rfl, fun j h => by omega⟩
    · rintro k ⟨x, q⟩ hk ⟨h1, h2⟩
      dsimp only at h1 h2
      subst h1
      show ∃ t9, bX10_arrange_10 (nI R.length) (nI k) q = some (.inl t9) ∧ _
      unfold bX10_arrange_10
      simp (disch := omega) only [s_in, s_cl, s_leL, s_ltL, s_eqL, s_leR, s_ltR, s_eqR, s_le, s_lt, s_eq, s_addL, s_addL', s_mulL, s_mulL', s_mul, nI_add, s_subL, s_sub, s_m1, s_m1', s_lm1, s_ltm1, s_m1lt, s_m1le, s_m1p, s_10, s_let, s_el, s_er, s_b2, s_b3, s_b4, s_b5, s_b6, s_b7, s_b8, s_b9, s_b10, s_b11, s_b12, s_bind, eq_self, if_pos, if_neg, ite_true, ite_false, if_true, if_false, Bool.false_eq_true, reduceIte]
      refine ⟨_, rfl, rfl, ?_⟩
      intro j hj
      dsimp only
      by_cases hjk : j = k
      · subst hjk
        rw [pk_us]
      · rw [pk_un hjk]
        exact h2 j (by omega)
    · rintro ⟨x, q⟩ ⟨h1, h2⟩
      dsimp only at h1 h2
      subst h1
      refine ⟨q, ?_, h2⟩
      show bX10_arrange_10 (nI R.length) (nI R.length) q = _
      unfold bX10_arrange_10
      rw [if_pos (Int32.le_refl _)]
  obtain ⟨nr1, a1, a2⟩ := H1
  obtain ⟨I', nr', b1, b2, b3⟩ := p_ma34 h6 (show l < 24 by omega) hr hq a2 I
  have hI : m_I (g_ar R π) l I' := by
    intro k c hk
    refine ⟨?_, b2 k c hk⟩
    have h1 := (n2 c).mp (g_mem_get hk)
    rw [hRm, (hV l (by omega)).2] at h1
    exact h1.2.1
  obtain ⟨P', D', c1, c2⟩ := m_O_set hG hV hO hl n1 (fun c => by rw [n2, hRm]) (by rw [g_ar_len, hπl, hRl]) hI b3
  refine ⟨I', P', D', nr', ?_, c2⟩
  unfold fX10_arrange
  rw [a1, s_bind, b1, s_b2, c1, s_b2]
theorem p_mexact (hG : g_G ex up lo bx lay N) (hV : g_V ex up lo bx lay N row) (hA : m_A ex up lo A F T U) (hL : m_L bx lay L) (hO : m_O N row S I P D) {l : Nat} (hl : l < N) (hl1 : 1 ≤ l) (rw nr : Nat → Int32) :
    ∃ I' P' D' rw' nr', fX10_exact A F T U (nI N) L S I P D rw nr (nI l) = some (I', P', D', rw', nr') ∧ m_O N (g_exa ex up lo lay row l) S I' P' D' := by
  have hN := hG.1
  have hl24 : l < 24 := by omega
  obtain ⟨o1, o2, o3, o4⟩ := hO l hl
  unfold fX10_exact g_exa
  rw [if_pos (n_in (show l < 24 by omega) (by decide)), s_let, s_cl (by omega), o3]
  by_cases h6 : (row l).length ≤ 6
  · rw [if_pos (by rw [n_lit 6, s_le (by omega) (by omega)]; exact h6), if_pos h6]
    have H1 : ∃ e : Nat → Int32, q_lo (fun (st : Int32 × (Nat → Int32)) => bX10_exact_16 I (nI l) (nI (row l).length) st.1 st.2) (0, rw) = some e ∧ ∀ j c : Nat, (row l)[j]? = some c → e j = nI (g_nm c) := by
      refine q_inv (fun k (st : Int32 × (Nat → Int32)) => st.1 = nI k ∧ ∀ j c : Nat, j < k → (row l)[j]? = some c → st.2 j = nI (g_nm c)) (row l).length ?_ ?_ _ ⟨rfl, fun j c h => by omega⟩
      · rintro k ⟨x, q⟩ hk ⟨h1, h2⟩
        dsimp only at h1 h2
        subst h1
        obtain ⟨c, hc⟩ : ∃ c, (row l)[k]? = some c := ⟨_, List.getElem?_eq_getElem hk⟩
        show ∃ t9, bX10_exact_16 I (nI l) (nI (row l).length) (nI k) q = some (.inl t9) ∧ _
        unfold bX10_exact_16
        simp (disch := omega) only [s_in, s_cl, s_leL, s_ltL, s_eqL, s_leR, s_ltR, s_eqR, s_le, s_lt, s_eq, s_addL, s_addL', s_mulL, s_mulL', s_mul, nI_add, s_subL, s_sub, s_m1, s_m1', s_lm1, s_ltm1, s_m1lt, s_m1le, s_m1p, s_10, s_let, s_el, s_er, s_b2, s_b3, s_b4, s_b5, s_b6, s_b7, s_b8, s_b9, s_b10, s_b11, s_b12, s_bind, eq_self, if_pos, if_neg, ite_true, ite_false, if_true, if_false, Bool.false_eq_true, reduceIte, p_item0 o4.I hl24 o1 hc]
        refine ⟨_, rfl, rfl, ?_⟩
        intro j d hj hd
        dsimp only
        by_cases hjk : j = k
        · subst hjk
          rw [hc] at hd
          cases hd
          rw [pk_us]
        · rw [pk_un hjk]
          exact h2 j d (by omega) hd
      · rintro ⟨x, q⟩ ⟨h1, h2⟩
        dsimp only at h1 h2
        subst h1
        refine ⟨q, ?_, fun j c hj => h2 j c (g_lt_len hj) hj⟩
        show bX10_exact_16 I (nI l) (nI (row l).length) (nI (row l).length) q = _
        unfold bX10_exact_16
        rw [if_pos (Int32.le_refl _)]
    obtain ⟨rw1, a1, a2⟩ := H1
    have H2 : ∃ e : Int32, q_lo (fun (st : Int32 × Int32) => bX10_exact_44 (nI (row l).length) st.1 st.2) (1, 2) = some e ∧ e = nI (g_fac (row l).length) := by
      refine q_inv (fun i (st : Int32 × Int32) => st.1 = nI (g_fac (1 + i)) ∧ st.2 = nI (2 + i)) ((row l).length - 1) ?_ ?_ _ ⟨rfl, rfl⟩
      · rintro i ⟨x, y⟩ hi ⟨h1, h2⟩
        dsimp only at h1 h2
        subst h1
        subst h2
        show ∃ t9, bX10_exact_44 (nI (row l).length) (nI (g_fac (1 + i))) (nI (2 + i)) = some (.inl t9) ∧ _
        unfold bX10_exact_44
        rw [if_neg (by rw [s_lt (by omega) (by omega)]; omega), s_mul, s_addL]
        refine ⟨_, rfl, congrArg nI ?_, congrArg nI (by omega)⟩
        rw [show 1 + (i + 1) = (1 + i) + 1 by omega, g_fac, Nat.mul_comm, show 2 + i = 1 + i + 1 by omega]
      · rintro ⟨x, y⟩ ⟨h1, h2⟩
        dsimp only at h1 h2
        subst h1
        subst h2
        refine ⟨_, ?_, rfl⟩
        show bX10_exact_44 (nI (row l).length) (nI (g_fac (1 + ((row l).length - 1)))) (nI (2 + ((row l).length - 1))) = _
        unfold bX10_exact_44
        rw [if_pos (by rw [s_lt (by omega) (by omega)]; omega)]
        by_cases h0 : (row l).length = 0
        · rw [h0]; rfl
        · rw [show 1 + ((row l).length - 1) = (row l).length by omega]
    obtain ⟨mn, b1, rfl⟩ := H2
    have hfb := g_fac_b _ h6
    have hfp := g_fac_pos (row l).length
    have hPl := g_pm_len _ _ (List.nodup_range (n := (row l).length)) List.length_range
    have H3 : ∃ e : Int32 × (Nat → Int32) × (Nat → Int32) × (Nat → Int32) × (Nat → Int32), q_lo (fun (st : Int32 × Int32 × Int32 × (Nat → Int32) × (Nat → Int32) × (Nat → Int32) × (Nat → Int32)) => bX10_exact_70 A F T U (nI N) L S rw1 (nI l) (nI (row l).length) (nI (g_fac (row l).length)) st.1 st.2.1 st.2.2.1 st.2.2.2.1 st.2.2.2.2.1 st.2.2.2.2.2.1 st.2.2.2.2.2.2) (0, (-1), 0, I, P, D, nr) = some e ∧ (∃ R0 : List Nat, R0.Nodup ∧ (∀ c : Nat, c ∈ R0 ↔ c ∈ row l) ∧ R0.length = (row l).length ∧ m_O N (g_set row l R0) S e.2.1 e.2.2.1 e.2.2.2.1) ∧ ∃ bq : Nat, e.1 = nI bq ∧ (g_pm (row l).length (List.range (row l).length))[bq]? = some (g_exb ex up lo lay row l) := by
      refine q_inv (fun q (st : Int32 × Int32 × Int32 × (Nat → Int32) × (Nat → Int32) × (Nat → Int32) × (Nat → Int32)) => st.2.2.1 = nI q ∧ (∃ R0 : List Nat, R0.Nodup ∧ (∀ c : Nat, c ∈ R0 ↔ c ∈ row l) ∧ R0.length = (row l).length ∧ m_O N (g_set row l R0) S st.2.2.2.1 st.2.2.2.2.1 st.2.2.2.2.2.1) ∧ ((q = 0 ∧ st.2.1 = -1) ∨ (0 < q ∧ ∃ bq : Nat, st.1 = nI bq ∧ (g_pm (row l).length (List.range (row l).length))[bq]? = some (g_fb (1073741824, []) (((g_pm (row l).length (List.range (row l).length)).take q).map (fun π => (g_exc ex up lo lay row l π, π)))).2 ∧ st.2.1 = nI (g_fb (1073741824, []) (((g_pm (row l).length (List.range (row l).length)).take q).map (fun π => (g_exc ex up lo lay row l π, π)))).1 ∧ (g_fb (1073741824, []) (((g_pm (row l).length (List.range (row l).length)).take q).map (fun π => (g_exc ex up lo lay row l π, π)))).1 ≤ 576))) (g_fac (row l).length) ?_ ?_ _ ⟨rfl, ⟨row l, o2, fun _ => Iff.rfl, rfl, by rw [g_set_self]; exact hO⟩, .inl ⟨rfl, rfl⟩⟩
      · rintro q ⟨x4, x5, x6, I1, P1, D1, n1⟩ hq ⟨h1, ⟨R0, r1, r2, r3, r4⟩, h3⟩
        dsimp only at h1 h3 r4
        subst h1
        obtain ⟨π, hπ⟩ : ∃ π, (g_pm (row l).length (List.range (row l).length))[q]? = some π := ⟨_, List.getElem?_eq_getElem (by omega)⟩
        have hperm := g_pm_perm _ _ List.nodup_range List.length_range π (g_mem_get hπ)
        have hV0 : g_V ex up lo bx lay N (g_set row l R0) := g_V_set hV r1 r2
        obtain ⟨I2, P2, D2, n2, c1, c2⟩ := p_marr hG hV0 r4 hl (R := row l) o2 (fun c => by rw [g_set_at, r2]) (by rw [g_set_at, r3]) h6 a2 hπ n1
        rw [g_set_set] at c2
        have hV1 := g_V_ar hV hl24 hperm
        have c3 := p_mcr hG hV1 hA hL c2 (show l - 1 < 24 by omega)
        rw [← s_subL (n := 1) (b := l) hl1] at c3
        have c4 : fX10_crossings A F T U (nI N) L P2 D2 (nI l - 1) = some (nI (g_exc ex up lo lay row l π)) := c3
        have hcb := g_exc_b (ex := ex) (up := up) (lo := lo) (lay := lay) (row := row) l π
        have hR2 : ∃ R0 : List Nat, R0.Nodup ∧ (∀ c : Nat, c ∈ R0 ↔ c ∈ row l) ∧ R0.length = (row l).length ∧ m_O N (g_set row l R0) S I2 P2 D2 := by
          obtain ⟨k1, k2⟩ := g_ar_perm o2 hperm
          exact ⟨_, k1, k2, by rw [g_ar_len, hperm.length_eq, List.length_range], c2⟩
        have hfold : g_fb (1073741824, []) (((g_pm (row l).length (List.range (row l).length)).take (q + 1)).map (fun π => (g_exc ex up lo lay row l π, π))) = if g_exc ex up lo lay row l π < (g_fb (1073741824, []) (((g_pm (row l).length (List.range (row l).length)).take q).map (fun π => (g_exc ex up lo lay row l π, π)))).1 then (g_exc ex up lo lay row l π, π) else g_fb (1073741824, []) (((g_pm (row l).length (List.range (row l).length)).take q).map (fun π => (g_exc ex up lo lay row l π, π))) := by
          rw [g_take1 hπ, List.map_append, g_fb_app]
          rfl
        rw [hfold]
        show ∃ t9, bX10_exact_70 A F T U (nI N) L S rw1 (nI l) (nI (row l).length) (nI (g_fac (row l).length)) x4 x5 (nI q) I1 P1 D1 n1 = some (.inl t9) ∧ _
        unfold bX10_exact_70 jX10_exact_109 jX10_exact_117
        rw [if_neg (by rw [s_le (by omega) (by omega)]; omega), c1, s_b4, c4, s_bind, s_addL]
        rcases h3 with ⟨rfl, rfl⟩ | ⟨h0, bq, rfl, h4, rfl, h5⟩
        · rw [if_pos (by decide)]
          refine ⟨_, rfl, rfl, hR2, .inr ⟨by omega, 0, rfl, ?_⟩⟩
          have hlt9 : g_exc ex up lo lay row l π < (g_fb (1073741824, []) (List.map (fun π => (g_exc ex up lo lay row l π, π)) [])).1 := by
            show g_exc ex up lo lay row l π < 1073741824
            omega
          rw [List.take_zero, if_pos hlt9]
          exact ⟨hπ, rfl, hcb⟩
        · rw [if_neg (nI_pos (by omega))]
          by_cases hc : g_exc ex up lo lay row l π < (g_fb (1073741824, []) (((g_pm (row l).length (List.range (row l).length)).take q).map (fun π => (g_exc ex up lo lay row l π, π)))).1
          · rw [if_pos (by rw [s_lt (by omega) (by omega)]; exact hc), if_pos hc]
            exact ⟨_, rfl, rfl, hR2, .inr ⟨by omega, q, rfl, hπ, rfl, hcb⟩⟩
          · rw [if_neg (by rw [s_lt (by omega) (by omega)]; exact hc), if_neg hc]
            exact ⟨_, rfl, rfl, hR2, .inr ⟨by omega, bq, rfl, h4, rfl, h5⟩⟩
      · rintro ⟨x4, x5, x6, I1, P1, D1, n1⟩ ⟨h1, h2, h3⟩
        dsimp only at h1 h2 h3
        subst h1
        refine ⟨(x4, I1, P1, D1, n1), ?_, h2, ?_⟩
        · show bX10_exact_70 A F T U (nI N) L S rw1 (nI l) (nI (row l).length) (nI (g_fac (row l).length)) x4 x5 (nI (g_fac (row l).length)) I1 P1 D1 n1 = _
          unfold bX10_exact_70
          rw [if_pos (Int32.le_refl _)]
        · rcases h3 with ⟨h0, -⟩ | ⟨h0, bq, h4, h5, -⟩
          · omega
          · rw [List.take_of_length_le (by omega)] at h5
            exact ⟨bq, h4, h5⟩
    obtain ⟨⟨bqA, I1, P1, D1, n1⟩, c1, ⟨R0, r1, r2, r3, r4⟩, bq, c2, c3⟩ := H3
    dsimp only at r4 c2
    subst c2
    have hV0 : g_V ex up lo bx lay N (g_set row l R0) := g_V_set hV r1 r2
    obtain ⟨I2, P2, D2, n2, d1, d2⟩ := p_marr hG hV0 r4 hl (R := row l) o2 (fun c => by rw [g_set_at, r2]) (by rw [g_set_at, r3]) h6 a2 c3 n1
    rw [g_set_set] at d2
    rw [a1, s_bind, b1, s_bind, c1, s_b5, d1, s_b4]
    exact ⟨_, _, _, _, _, rfl, d2⟩
  · rw [if_neg (by rw [n_lit 6, s_le (by omega) (by omega)]; exact h6), if_neg h6]
    exact ⟨_, _, _, _, _, rfl, hO⟩
end ME
