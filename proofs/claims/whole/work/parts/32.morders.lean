/-! PURE: the reference's orders. -/
def g_nm (c : Nat) : Nat := if c < 16 then c else 84 + c
theorem g_nm_lt {c : Nat} (h : c < 40) : g_nm c < 124 := by unfold g_nm; split <;> omega
/-- one layer of the reference: items, and places -/
def m_R (R : List Nat) (l : Nat) (I P D : Nat → Int32) : Prop := ∀ k c, R[k]? = some c → c < 40 ∧ I (40 * l + k) = nI (g_nm c) ∧ (c < 16 → P c = nI k) ∧ (16 ≤ c → D (24 * (c - 16) + l) = nI k)
def m_I (R : List Nat) (l : Nat) (I : Nat → Int32) : Prop := ∀ k c, R[k]? = some c → c < 40 ∧ I (40 * l + k) = nI (g_nm c)
theorem p_item0 {R : List Nat} {l : Nat} {I : Nat → Int32} (h : m_I R l I) (hl : l < 24) (h40 : R.length ≤ 40) {k c : Nat} (hk : R[k]? = some c) : fX10_item0 I (nI l) (nI k) = some (nI (g_nm c)) := by
  have := g_lt_len hk
  unfold fX10_item0
  simp (disch := omega) only [s_in, s_cl, s_leL, s_ltL, s_eqL, s_leR, s_ltR, s_eqR, s_le, s_lt, s_eq, s_addL, s_addL', s_mulL, s_mulL', s_mul, nI_add, s_subL, s_sub, s_m1, s_m1', s_lm1, s_ltm1, s_m1lt, s_m1le, s_m1p, s_10, s_let, s_el, s_er, s_b2, s_b3, s_b4, s_b5, s_b6, s_b7, s_b8, s_b9, s_b10, s_b11, s_b12, s_bind, eq_self, if_pos, if_neg, ite_true, ite_false, if_true, if_false, Bool.false_eq_true, reduceIte, (h k c hk).2]
theorem g_take1 {α : Type} {l : List α} {k : Nat} {c : α} (h : l[k]? = some c) : l.take (k + 1) = l.take k ++ [c] := by rw [List.take_add_one, h]; rfl
theorem g_take_get {α : Type} {l : List α} {n k : Nat} {c : α} (h : (l.take n)[k]? = some c) : k < n ∧ l[k]? = some c := by
  rw [List.getElem?_take] at h
  split at h
  · exact ⟨by assumption, h⟩
  · cases h
theorem g_nd_inj {α : Type} {l : List α} (h : l.Nodup) {i j : Nat} {c : α} (hi : l[i]? = some c) (hj : l[j]? = some c) : i = j := by
  have h1 := g_lt_len hi
  have h2 := g_lt_len hj
  rcases Nat.lt_trichotomy i j with hc | hc | hc
  · exfalso
    have := (List.pairwise_iff_getElem.mp h) i j h1 h2 hc
    rw [List.getElem?_eq_getElem h1] at hi
    rw [List.getElem?_eq_getElem h2] at hj
    exact this (Option.some.inj (hi.trans hj.symm))
  · exact hc
  · exfalso
    have := (List.pairwise_iff_getElem.mp h) j i h2 h1 hc
    rw [List.getElem?_eq_getElem h1] at hi
    rw [List.getElem?_eq_getElem h2] at hj
    exact this (Option.some.inj (hj.trans hi.symm))
theorem p_note {R : List Nat} {l : Nat} {S I : Nat → Int32} (h : m_I R l I) (hl : l < 24) (h40 : R.length ≤ 40) (hnd : R.Nodup) (hS : S l = nI R.length) (P D : Nat → Int32) :
    ∃ P' D', fX10_note S I P D (nI l) = some (P', D') ∧ m_R R l I P' D' ∧ (∀ b, b ∉ R → P' b = P b) ∧ (∀ a i, i < 24 → i ≠ l → D' (24 * a + i) = D (24 * a + i)) := by
  unfold fX10_note
  have H9 : ∃ e : (Nat → Int32) × (Nat → Int32), q_lo (fun (st : Int32 × (Nat → Int32) × (Nat → Int32)) => bX10_note_2 S I (nI l) st.1 st.2.1 st.2.2) (0, P, D) = some e ∧ m_R R l I e.1 e.2 ∧ (∀ b, b ∉ R → e.1 b = P b) ∧ (∀ a i, i < 24 → i ≠ l → e.2 (24 * a + i) = D (24 * a + i)) := by
    refine q_inv (fun n (st : Int32 × (Nat → Int32) × (Nat → Int32)) => st.1 = nI n ∧ (∀ k c, k < n → R[k]? = some c → (c < 16 → st.2.1 c = nI k) ∧ (16 ≤ c → st.2.2 (24 * (c - 16) + l) = nI k)) ∧ (∀ b, b ∉ R → st.2.1 b = P b) ∧ (∀ a i, i < 24 → i ≠ l → st.2.2 (24 * a + i) = D (24 * a + i))) R.length ?_ ?_ _ ⟨rfl, fun k c hk => by omega, fun _ _ => rfl, fun _ _ _ _ => rfl⟩
    · rintro n ⟨x, P1, D1⟩ hn ⟨hx, h1, h2, h3⟩
      dsimp only at hx h1 h2 h3
      subst hx
      show ∃ t9, bX10_note_2 S I (nI l) (nI n) P1 D1 = some (.inl t9) ∧ _
      obtain ⟨c, hc⟩ : ∃ c, R[n]? = some c := ⟨_, List.getElem?_eq_getElem hn⟩
      obtain ⟨i1, i2⟩ := h n c hc
      have hit := p_item0 h hl h40 hc
      unfold bX10_note_2 jX10_note_50
      by_cases h16 : c < 16
      · have hnm : g_nm c = c := if_pos h16
        rw [hnm] at hit
        simp (disch := omega) only [s_in, s_cl, s_leL, s_ltL, s_eqL, s_leR, s_ltR, s_eqR, s_le, s_lt, s_eq, s_addL, s_addL', s_mulL, s_mulL', s_mul, nI_add, s_subL, s_sub, s_m1, s_m1', s_lm1, s_ltm1, s_m1lt, s_m1le, s_m1p, s_10, s_let, s_el, s_er, s_b2, s_b3, s_b4, s_b5, s_b6, s_b7, s_b8, s_b9, s_b10, s_b11, s_b12, s_bind, eq_self, if_pos, if_neg, ite_true, ite_false, if_true, if_false, Bool.false_eq_true, reduceIte, hS, hit]
        refine ⟨_, rfl, rfl, ?_, ?_, h3⟩
        · intro k d hk hkd
          dsimp only
          by_cases hdc : d = c
          · subst hdc
            have := g_nd_inj hnd hkd hc
            subst this
            exact ⟨fun _ => pk_us, fun hh => by omega⟩
          · have hkn : k ≠ n := fun e => hdc (by subst e; rw [hkd] at hc; exact Option.some.inj hc)
            exact ⟨fun hh => by rw [pk_un hdc]; exact (h1 k d (by omega) hkd).1 hh, (h1 k d (by omega) hkd).2⟩
        · intro b hb
          show upd P1 c (nI n) b = _
          rw [pk_un (show b ≠ c from fun e => hb (e.symm ▸ List.mem_iff_getElem?.mpr ⟨n, hc⟩))]
          exact h2 b hb
      · have hnm : g_nm c = 84 + c := if_neg h16
        rw [hnm] at hit
        simp (disch := omega) only [s_in, s_cl, s_leL, s_ltL, s_eqL, s_leR, s_ltR, s_eqR, s_le, s_lt, s_eq, s_addL, s_addL', s_mulL, s_mulL', s_mul, nI_add, s_subL, s_sub, s_m1, s_m1', s_lm1, s_ltm1, s_m1lt, s_m1le, s_m1p, s_10, s_let, s_el, s_er, s_b2, s_b3, s_b4, s_b5, s_b6, s_b7, s_b8, s_b9, s_b10, s_b11, s_b12, s_bind, eq_self, if_pos, if_neg, ite_true, ite_false, if_true, if_false, Bool.false_eq_true, reduceIte, hS, hit]
        refine ⟨_, rfl, rfl, ?_, h2, ?_⟩
        · intro k d hk hkd
          dsimp only
          rw [show 84 + c - 100 = c - 16 by omega]
          by_cases hdc : d = c
          · subst hdc
            have := g_nd_inj hnd hkd hc
            subst this
            exact ⟨fun hh => by omega, fun _ => pk_us⟩
          · have hkn : k ≠ n := fun e => hdc (by subst e; rw [hkd] at hc; exact Option.some.inj hc)
            exact ⟨(h1 k d (by omega) hkd).1, fun hh => by rw [pk_un (by omega)]; exact (h1 k d (by omega) hkd).2 hh⟩
        · intro a i hi hil
          show upd D1 _ (nI n) _ = _
          rw [pk_un (by omega)]
          exact h3 a i hi hil
    · rintro ⟨x, P1, D1⟩ ⟨hx, h1, h2, h3⟩
      dsimp only at hx h1 h2 h3
      subst hx
      refine ⟨(P1, D1), ?_, ?_, h2, h3⟩
      · show bX10_note_2 S I (nI l) (nI R.length) P1 D1 = _
        unfold bX10_note_2
        simp (disch := omega) only [s_in, s_cl, s_leL, s_ltL, s_eqL, s_leR, s_ltR, s_eqR, s_le, s_lt, s_eq, s_addL, s_addL', s_mulL, s_mulL', s_mul, nI_add, s_subL, s_sub, s_m1, s_m1', s_lm1, s_ltm1, s_m1lt, s_m1le, s_m1p, s_10, s_let, s_el, s_er, s_b2, s_b3, s_b4, s_b5, s_b6, s_b7, s_b8, s_b9, s_b10, s_b11, s_b12, s_bind, eq_self, if_pos, if_neg, ite_true, ite_false, if_true, if_false, Bool.false_eq_true, reduceIte, hS]
      · intro k c hk
        exact ⟨(h k c hk).1, (h k c hk).2, h1 k c (g_lt_len hk) hk⟩
  obtain ⟨⟨z1, z2⟩, h8, h9⟩ := H9
  exact ⟨z1, z2, by rw [h8]; rfl, h9⟩
/-- the reference's orders -/
def m_O (N : Nat) (row : Nat → List Nat) (S I P D : Nat → Int32) : Prop := ∀ l, l < N → (row l).length ≤ 40 ∧ (row l).Nodup ∧ S l = nI (row l).length ∧ m_R (row l) l I P D
theorem m_R.I {R : List Nat} {l : Nat} {I P D : Nat → Int32} (h : m_R R l I P D) : m_I R l I := fun k c hk => ⟨(h k c hk).1, (h k c hk).2.1⟩
/-- a layer newly noted: the others stay -/
theorem m_O_note {N n : Nat} {row : Nat → List Nat} {S S' I I' P P' D D' : Nat → Int32} (hn : n ≤ 24) (hln : ∀ i, i < N → i < 24) {l : Nat} (hl : l < 24) {R : List Nat} (h : ∀ i, i < N → i ≠ l → (row i).length ≤ 40 ∧ (row i).Nodup ∧ S i = nI (row i).length ∧ m_R (row i) i I P D) (hS : ∀ i, i ≠ l → S' i = S i) (hI : ∀ i k, i ≠ l → k < 40 → I' (40 * i + k) = I (40 * i + k)) (hd : ∀ i, i < N → i ≠ l → ∀ b, b < 16 → b ∈ row i → b ∉ R) (hP : ∀ b, b ∉ R → P' b = P b) (hD : ∀ a i, i < 24 → i ≠ l → D' (24 * a + i) = D (24 * a + i)) :
    ∀ i, i < N → i ≠ l → (row i).length ≤ 40 ∧ (row i).Nodup ∧ S' i = nI (row i).length ∧ m_R (row i) i I' P' D' := by
  intro i hi hil
  obtain ⟨h1, h2, h3, h4⟩ := h i hi hil
  refine ⟨h1, h2, by rw [hS i hil, h3], ?_⟩
  intro k c hk
  obtain ⟨j1, j2, j3, j4⟩ := h4 k c hk
  have := g_lt_len hk
  refine ⟨j1, by rw [hI i k hil (by omega)]; exact j2, fun h16 => ?_, fun h16 => ?_⟩
  · rw [hP c (hd i hi hil c h16 (List.mem_iff_getElem?.mpr ⟨k, hk⟩))]
    exact j3 h16
  · rw [hD (c - 16) i (hln i hi) hil]
    exact j4 h16
section MO
variable {ex bx : Nat → Bool} {up lo lay : Nat → Nat} {N : Nat} {X A F T U L : Nat → Int32}
def m_X (bx : Nat → Bool) (X : Nat → Int32) : Prop := ∀ b, b < 16 → X b = if bx b then 1 else 0
def m_A (ex : Nat → Bool) (up lo : Nat → Nat) (A F T U : Nat → Int32) : Prop := ∀ a, a < 24 → A a = (if ex a then 1 else 0) ∧ (ex a = true → fX10_upper F T U (nI a) = some (nI (up a)) ∧ fX10_lower F T U (nI a) = some (nI (lo a)))
theorem p_hasDummy (hG : g_G ex up lo bx lay N) (hA : m_A ex up lo A F T U) (hL : m_L bx lay L) {a l : Nat} (ha : a < 24) (hl : l < 24) : fX10_hasDummy A F T U L (nI a) (nI l) = some (if g_hd ex up lo bx lay l (16 + a) then 1 else 0) := by
  obtain ⟨G1, G2, G3⟩ := hG
  obtain ⟨a1, a2⟩ := hA a ha
  unfold fX10_hasDummy g_hd
  rw [show 16 + a - 16 = a by omega]
  cases he : ex a
  · simp (disch := omega) only [s_in, s_cl, s_leL, s_ltL, s_eqL, s_leR, s_ltR, s_eqR, s_le, s_lt, s_eq, s_addL, s_addL', s_mulL, s_mulL', s_mul, nI_add, s_subL, s_sub, s_m1, s_m1', s_lm1, s_ltm1, s_m1lt, s_m1le, s_m1p, s_10, s_let, s_el, s_er, s_b2, s_b3, s_b4, s_b5, s_b6, s_b7, s_b8, s_b9, s_b10, s_b11, s_b12, s_bind, eq_self, if_pos, if_neg, ite_true, ite_false, if_true, if_false, Bool.false_eq_true, reduceIte, a1, he]
    simp
  · obtain ⟨u1, u2, u3, u4, u5⟩ := G3 a ha he
    have b1 := G2 _ u1 u3
    have b2 := G2 _ u2 u4
    obtain ⟨a3, a4⟩ := a2 he
    by_cases h1 : l ≤ lay (up a)
    · simp (disch := omega) only [s_in, s_cl, s_leL, s_ltL, s_eqL, s_leR, s_ltR, s_eqR, s_le, s_lt, s_eq, s_addL, s_addL', s_mulL, s_mulL', s_mul, nI_add, s_subL, s_sub, s_m1, s_m1', s_lm1, s_ltm1, s_m1lt, s_m1le, s_m1p, s_10, s_let, s_el, s_er, s_b2, s_b3, s_b4, s_b5, s_b6, s_b7, s_b8, s_b9, s_b10, s_b11, s_b12, s_bind, eq_self, if_pos, if_neg, ite_true, ite_false, if_true, if_false, Bool.false_eq_true, reduceIte, a1, he, a3, a4, hL _ u1 u3, hL _ u2 u4, h1]
      simp; omega
    · by_cases h2 : lay (lo a) ≤ l
      · simp (disch := omega) only [s_in, s_cl, s_leL, s_ltL, s_eqL, s_leR, s_ltR, s_eqR, s_le, s_lt, s_eq, s_addL, s_addL', s_mulL, s_mulL', s_mul, nI_add, s_subL, s_sub, s_m1, s_m1', s_lm1, s_ltm1, s_m1lt, s_m1le, s_m1p, s_10, s_let, s_el, s_er, s_b2, s_b3, s_b4, s_b5, s_b6, s_b7, s_b8, s_b9, s_b10, s_b11, s_b12, s_bind, eq_self, if_pos, if_neg, ite_true, ite_false, if_true, if_false, Bool.false_eq_true, reduceIte, a1, he, a3, a4, hL _ u1 u3, hL _ u2 u4, h1, h2]
        simp; omega
      · simp (disch := omega) only [s_in, s_cl, s_leL, s_ltL, s_eqL, s_leR, s_ltR, s_eqR, s_le, s_lt, s_eq, s_addL, s_addL', s_mulL, s_mulL', s_mul, nI_add, s_subL, s_sub, s_m1, s_m1', s_lm1, s_ltm1, s_m1lt, s_m1le, s_m1p, s_10, s_let, s_el, s_er, s_b2, s_b3, s_b4, s_b5, s_b6, s_b7, s_b8, s_b9, s_b10, s_b11, s_b12, s_bind, eq_self, if_pos, if_neg, ite_true, ite_false, if_true, if_false, Bool.false_eq_true, reduceIte, a1, he, a3, a4, hL _ u1 u3, hL _ u2 u4, h1, h2]
        simp; omega
theorem p_mhasPiece (hG : g_G ex up lo bx lay N) (hA : m_A ex up lo A F T U) (hL : m_L bx lay L) {a l : Nat} (ha : a < 24) (hl : l < 2147483648) : fX10_hasPiece A F T U L (nI a) (nI l) = some (if g_pc ex up lo lay a l then 1 else 0) := by
  obtain ⟨G1, G2, G3⟩ := hG
  obtain ⟨a1, a2⟩ := hA a ha
  unfold fX10_hasPiece g_pc
  cases he : ex a
  · simp (disch := omega) only [s_in, s_cl, s_leL, s_ltL, s_eqL, s_leR, s_ltR, s_eqR, s_le, s_lt, s_eq, s_addL, s_addL', s_mulL, s_mulL', s_mul, nI_add, s_subL, s_sub, s_m1, s_m1', s_lm1, s_ltm1, s_m1lt, s_m1le, s_m1p, s_10, s_let, s_el, s_er, s_b2, s_b3, s_b4, s_b5, s_b6, s_b7, s_b8, s_b9, s_b10, s_b11, s_b12, s_bind, eq_self, if_pos, if_neg, ite_true, ite_false, if_true, if_false, Bool.false_eq_true, reduceIte, a1, he]
    simp
  · obtain ⟨u1, u2, u3, u4, u5⟩ := G3 a ha he
    have b1 := G2 _ u1 u3
    have b2 := G2 _ u2 u4
    obtain ⟨a3, a4⟩ := a2 he
    by_cases h1 : l < lay (up a)
    · simp (disch := omega) only [s_in, s_cl, s_leL, s_ltL, s_eqL, s_leR, s_ltR, s_eqR, s_le, s_lt, s_eq, s_addL, s_addL', s_mulL, s_mulL', s_mul, nI_add, s_subL, s_sub, s_m1, s_m1', s_lm1, s_ltm1, s_m1lt, s_m1le, s_m1p, s_10, s_let, s_el, s_er, s_b2, s_b3, s_b4, s_b5, s_b6, s_b7, s_b8, s_b9, s_b10, s_b11, s_b12, s_bind, eq_self, if_pos, if_neg, ite_true, ite_false, if_true, if_false, Bool.false_eq_true, reduceIte, a1, he, a3, a4, hL _ u1 u3, hL _ u2 u4, h1]
      simp; omega
    · by_cases h2 : lay (lo a) ≤ l
      · simp (disch := omega) only [s_in, s_cl, s_leL, s_ltL, s_eqL, s_leR, s_ltR, s_eqR, s_le, s_lt, s_eq, s_addL, s_addL', s_mulL, s_mulL', s_mul, nI_add, s_subL, s_sub, s_m1, s_m1', s_lm1, s_ltm1, s_m1lt, s_m1le, s_m1p, s_10, s_let, s_el, s_er, s_b2, s_b3, s_b4, s_b5, s_b6, s_b7, s_b8, s_b9, s_b10, s_b11, s_b12, s_bind, eq_self, if_pos, if_neg, ite_true, ite_false, if_true, if_false, Bool.false_eq_true, reduceIte, a1, he, a3, a4, hL _ u1 u3, hL _ u2 u4, h1, h2]
        simp; omega
      · simp (disch := omega) only [s_in, s_cl, s_leL, s_ltL, s_eqL, s_leR, s_ltR, s_eqR, s_le, s_lt, s_eq, s_addL, s_addL', s_mulL, s_mulL', s_mul, nI_add, s_subL, s_sub, s_m1, s_m1', s_lm1, s_ltm1, s_m1lt, s_m1le, s_m1p, s_10, s_let, s_el, s_er, s_b2, s_b3, s_b4, s_b5, s_b6, s_b7, s_b8, s_b9, s_b10, s_b11, s_b12, s_bind, eq_self, if_pos, if_neg, ite_true, ite_false, if_true, if_false, Bool.false_eq_true, reduceIte, a1, he, a3, a4, hL _ u1 u3, hL _ u2 u4, h1, h2]
        simp; omega
theorem g_ms_len {H : Nat → Bool} (n : Nat) : (g_ms H [] n).length ≤ n := by
  have := List.length_filter_le (fun c => H c && !List.contains [] c) (List.range n)
  rw [List.length_range] at this
  unfold g_ms
  rw [List.nil_append]
  exact this
theorem g_ms_nd {H : Nat → Bool} (n : Nat) : (g_ms H [] n).Nodup := by
  have := (List.nodup_range (n := n)).filter (fun c => H c && !List.contains [] c)
  unfold g_ms
  rw [List.nil_append]
  exact this
theorem p_madd {R : List Nat} {l c : Nat} {S I : Nat → Int32} (h : m_I R l I) (hl : l < 24) (h40 : R.length < 40) (hS : S l = nI R.length) (hc : c < 40) :
    fX10_add S I (nI l) (nI (g_nm c)) = some (upd S l (nI (R.length + 1)), upd I (40 * l + R.length) (nI (g_nm c))) ∧ m_I (R ++ [c]) l (upd I (40 * l + R.length) (nI (g_nm c))) := by
  constructor
  · unfold fX10_add
    simp (disch := omega) only [s_in, s_cl, s_leL, s_ltL, s_eqL, s_leR, s_ltR, s_eqR, s_le, s_lt, s_eq, s_addL, s_addL', s_mulL, s_mulL', s_mul, nI_add, s_subL, s_sub, s_m1, s_m1', s_lm1, s_ltm1, s_m1lt, s_m1le, s_m1p, s_10, s_let, s_el, s_er, s_b2, s_b3, s_b4, s_b5, s_b6, s_b7, s_b8, s_b9, s_b10, s_b11, s_b12, s_bind, eq_self, if_pos, if_neg, ite_true, ite_false, if_true, if_false, Bool.false_eq_true, reduceIte, hS]
  · intro k d hk
    rw [List.getElem?_append] at hk
    split at hk
    · rw [pk_un (by omega)]
      exact h k d hk
    · have hk1 := g_lt_len hk
      simp at hk1
      have hk2 : k = R.length := by omega
      subst hk2
      rw [Nat.sub_self] at hk
      simp at hk
      subst hk
      exact ⟨hc, pk_us⟩
theorem p_first1 (hG : g_G ex up lo bx lay N) (hX : m_X bx X) (hA : m_A ex up lo A F T U) (hL : m_L bx lay L) {l : Nat} (hl : l < 24) (S I : Nat → Int32) (hS0 : S l = 0) :
    ∃ S1 I1 S2 I2, q_lo (fun (st : Int32 × (Nat → Int32) × (Nat → Int32)) => bX10_firstOrders_19 X L (nI l) st.1 st.2.1 st.2.2) (0, S, I) = some (S1, I1) ∧ q_lo (fun (st : Int32 × (Nat → Int32) × (Nat → Int32)) => bX10_firstOrders_58 A F T U L (nI l) st.1 st.2.1 st.2.2) (0, S1, I1) = some (S2, I2) ∧
      S2 l = nI (g_ms (g_hd ex up lo bx lay l) [] 40).length ∧ m_I (g_ms (g_hd ex up lo bx lay l) [] 40) l I2 ∧ (∀ i, i ≠ l → S2 i = S i) ∧ (∀ i k, i ≠ l → k < 40 → I2 (40 * i + k) = I (40 * i + k)) := by
  obtain ⟨G1, G2, G3⟩ := id hG
  have H9 : ∃ e : (Nat → Int32) × (Nat → Int32), q_lo (fun (st : Int32 × (Nat → Int32) × (Nat → Int32)) => bX10_firstOrders_19 X L (nI l) st.1 st.2.1 st.2.2) (0, S, I) = some e ∧ (e.1 l = nI (g_ms (g_hd ex up lo bx lay l) [] 16).length ∧ m_I (g_ms (g_hd ex up lo bx lay l) [] 16) l e.2 ∧ (∀ i, i ≠ l → e.1 i = S i) ∧ (∀ i k, i ≠ l → k < 40 → e.2 (40 * i + k) = I (40 * i + k))) := by
    refine q_inv (fun n (st : Int32 × (Nat → Int32) × (Nat → Int32)) => st.1 = nI n ∧ (st.2.1 l = nI (g_ms (g_hd ex up lo bx lay l) [] n).length ∧ m_I (g_ms (g_hd ex up lo bx lay l) [] n) l st.2.2 ∧ (∀ i, i ≠ l → st.2.1 i = S i) ∧ (∀ i k, i ≠ l → k < 40 → st.2.2 (40 * i + k) = I (40 * i + k)))) 16 ?_ ?_ _ ⟨rfl, ?_, ?_, fun _ _ => rfl, fun _ _ _ _ => rfl⟩
    · rintro n ⟨x, S1, I1⟩ hn ⟨hx, h1, h2, h3, h4⟩
      dsimp only at hx h1 h2 h3 h4
      subst hx
      show ∃ t9, bX10_firstOrders_19 X L (nI l) (nI n) S1 I1 = some (.inl t9) ∧ _
      have hlen := g_ms_len (H := g_hd ex up lo bx lay l) n
      rw [g_ms_succ]
      unfold bX10_firstOrders_19 jX10_firstOrders_50
      have hnm : g_nm n = n := if_pos hn
      obtain ⟨h6, h7⟩ := p_madd (c := n) h2 hl (by omega) h1 (by omega)
      rw [hnm] at h6
      cases hb : bx n
      · have hh : g_hd ex up lo bx lay l n = false := by unfold g_hd; rw [if_pos hn, hb]; rfl
        simp (disch := omega) only [s_in, s_cl, s_leL, s_ltL, s_eqL, s_leR, s_ltR, s_eqR, s_le, s_lt, s_eq, s_addL, s_addL', s_mulL, s_mulL', s_mul, nI_add, s_subL, s_sub, s_m1, s_m1', s_lm1, s_ltm1, s_m1lt, s_m1le, s_m1p, s_10, s_let, s_el, s_er, s_b2, s_b3, s_b4, s_b5, s_b6, s_b7, s_b8, s_b9, s_b10, s_b11, s_b12, s_bind, eq_self, if_pos, if_neg, ite_true, ite_false, if_true, if_false, Bool.false_eq_true, reduceIte, hX n hn, hb]
        rw [if_neg (by rw [hh]; simp)]
        exact ⟨_, rfl, rfl, h1, h2, h3, h4⟩
      · have := G2 n hn hb
        by_cases hc : lay n = l
        · have hh : g_hd ex up lo bx lay l n = true := by unfold g_hd; rw [if_pos hn, hb, hc]; simp
          simp (disch := omega) only [s_in, s_cl, s_leL, s_ltL, s_eqL, s_leR, s_ltR, s_eqR, s_le, s_lt, s_eq, s_addL, s_addL', s_mulL, s_mulL', s_mul, nI_add, s_subL, s_sub, s_m1, s_m1', s_lm1, s_ltm1, s_m1lt, s_m1le, s_m1p, s_10, s_let, s_el, s_er, s_b2, s_b3, s_b4, s_b5, s_b6, s_b7, s_b8, s_b9, s_b10, s_b11, s_b12, s_bind, eq_self, if_pos, if_neg, ite_true, ite_false, if_true, if_false, Bool.false_eq_true, reduceIte, hX n hn, hb, hL n hn hb, hc, h6]
          rw [if_pos (by rw [hh]; simp)]
          refine ⟨_, rfl, rfl, ?_, by rw [hnm] at h7; exact h7, ?_, ?_⟩
          · show upd S1 l _ l = _
            rw [pk_us, List.length_append]; rfl
          · intro i hi
            show upd S1 l _ i = _
            rw [pk_un hi]; exact h3 i hi
          · intro i k hi hk
            show upd I1 _ _ _ = _
            rw [pk_un (by omega)]
            exact h4 i k hi hk
        · have hh : g_hd ex up lo bx lay l n = false := by unfold g_hd; rw [if_pos hn, hb]; simp [hc]
          simp (disch := omega) only [s_in, s_cl, s_leL, s_ltL, s_eqL, s_leR, s_ltR, s_eqR, s_le, s_lt, s_eq, s_addL, s_addL', s_mulL, s_mulL', s_mul, nI_add, s_subL, s_sub, s_m1, s_m1', s_lm1, s_ltm1, s_m1lt, s_m1le, s_m1p, s_10, s_let, s_el, s_er, s_b2, s_b3, s_b4, s_b5, s_b6, s_b7, s_b8, s_b9, s_b10, s_b11, s_b12, s_bind, eq_self, if_pos, if_neg, ite_true, ite_false, if_true, if_false, Bool.false_eq_true, reduceIte, hX n hn, hb, hL n hn hb, hc]
          rw [if_neg (by rw [hh]; simp)]
          exact ⟨_, rfl, rfl, h1, h2, h3, h4⟩
    · rintro ⟨x, S1, I1⟩ ⟨hx, h1⟩
      dsimp only at hx h1
      subst hx
      refine ⟨(S1, I1), ?_, h1⟩
      show bX10_firstOrders_19 X L (nI l) (nI 16) S1 I1 = _
      unfold bX10_firstOrders_19
      simp (disch := omega) only [s_in, s_cl, s_leL, s_ltL, s_eqL, s_leR, s_ltR, s_eqR, s_le, s_lt, s_eq, s_addL, s_addL', s_mulL, s_mulL', s_mul, nI_add, s_subL, s_sub, s_m1, s_m1', s_lm1, s_ltm1, s_m1lt, s_m1le, s_m1p, s_10, s_let, s_el, s_er, s_b2, s_b3, s_b4, s_b5, s_b6, s_b7, s_b8, s_b9, s_b10, s_b11, s_b12, s_bind, eq_self, if_pos, if_neg, ite_true, ite_false, if_true, if_false, Bool.false_eq_true, reduceIte]
    · show S l = _
      rw [hS0, g_ms_0]; rfl
    · intro k c h
      rw [g_ms_0] at h
      simp at h
  obtain ⟨⟨S1, I1⟩, h8, h9, h10, h11, h12⟩ := H9
  dsimp only at h8 h9 h10 h11 h12
  have H9 : ∃ e : (Nat → Int32) × (Nat → Int32), q_lo (fun (st : Int32 × (Nat → Int32) × (Nat → Int32)) => bX10_firstOrders_58 A F T U L (nI l) st.1 st.2.1 st.2.2) (0, S1, I1) = some e ∧ (e.1 l = nI (g_ms (g_hd ex up lo bx lay l) [] 40).length ∧ m_I (g_ms (g_hd ex up lo bx lay l) [] 40) l e.2 ∧ (∀ i, i ≠ l → e.1 i = S i) ∧ (∀ i k, i ≠ l → k < 40 → e.2 (40 * i + k) = I (40 * i + k))) := by
    refine q_inv (fun n (st : Int32 × (Nat → Int32) × (Nat → Int32)) => st.1 = nI n ∧ (st.2.1 l = nI (g_ms (g_hd ex up lo bx lay l) [] (16 + n)).length ∧ m_I (g_ms (g_hd ex up lo bx lay l) [] (16 + n)) l st.2.2 ∧ (∀ i, i ≠ l → st.2.1 i = S i) ∧ (∀ i k, i ≠ l → k < 40 → st.2.2 (40 * i + k) = I (40 * i + k)))) 24 ?_ ?_ _ ⟨rfl, h9, h10, h11, h12⟩
    · rintro n ⟨x, S1, I1⟩ hn ⟨hx, h1, h2, h3, h4⟩
      dsimp only at hx h1 h2 h3 h4
      subst hx
      show ∃ t9, bX10_firstOrders_58 A F T U L (nI l) (nI n) S1 I1 = some (.inl t9) ∧ _
      have hlen := g_ms_len (H := g_hd ex up lo bx lay l) (16 + n)
      rw [← Nat.add_assoc, g_ms_succ]
      unfold bX10_firstOrders_58 jX10_firstOrders_82
      have hnm : g_nm (16 + n) = 100 + n := by unfold g_nm; rw [if_neg (by omega)]; omega
      obtain ⟨h6, h7⟩ := p_madd (c := 16 + n) h2 hl (by omega) h1 (by omega)
      rw [hnm] at h6
      cases hh : g_hd ex up lo bx lay l (16 + n)
      · simp (disch := omega) only [s_in, s_cl, s_leL, s_ltL, s_eqL, s_leR, s_ltR, s_eqR, s_le, s_lt, s_eq, s_addL, s_addL', s_mulL, s_mulL', s_mul, nI_add, s_subL, s_sub, s_m1, s_m1', s_lm1, s_ltm1, s_m1lt, s_m1le, s_m1p, s_10, s_let, s_el, s_er, s_b2, s_b3, s_b4, s_b5, s_b6, s_b7, s_b8, s_b9, s_b10, s_b11, s_b12, s_bind, eq_self, if_pos, if_neg, ite_true, ite_false, if_true, if_false, Bool.false_eq_true, reduceIte, p_hasDummy hG hA hL hn hl, hh]
        rw [if_neg (by simp)]
        exact ⟨_, rfl, rfl, h1, h2, h3, h4⟩
      · simp (disch := omega) only [s_in, s_cl, s_leL, s_ltL, s_eqL, s_leR, s_ltR, s_eqR, s_le, s_lt, s_eq, s_addL, s_addL', s_mulL, s_mulL', s_mul, nI_add, s_subL, s_sub, s_m1, s_m1', s_lm1, s_ltm1, s_m1lt, s_m1le, s_m1p, s_10, s_let, s_el, s_er, s_b2, s_b3, s_b4, s_b5, s_b6, s_b7, s_b8, s_b9, s_b10, s_b11, s_b12, s_bind, eq_self, if_pos, if_neg, ite_true, ite_false, if_true, if_false, Bool.false_eq_true, reduceIte, p_hasDummy hG hA hL hn hl, hh, h6]
        rw [if_pos (by simp)]
        refine ⟨_, rfl, rfl, ?_, by rw [hnm] at h7; exact h7, ?_, ?_⟩
        · show upd S1 l _ l = _
          rw [pk_us, List.length_append]; rfl
        · intro i hi
          show upd S1 l _ i = _
          rw [pk_un hi]; exact h3 i hi
        · intro i k hi hk
          show upd I1 _ _ _ = _
          rw [pk_un (by omega)]
          exact h4 i k hi hk
    · rintro ⟨x, S1, I1⟩ ⟨hx, h1⟩
      dsimp only at hx h1
      subst hx
      refine ⟨(S1, I1), ?_, h1⟩
      show bX10_firstOrders_58 A F T U L (nI l) (nI 24) S1 I1 = _
      unfold bX10_firstOrders_58
      simp (disch := omega) only [s_in, s_cl, s_leL, s_ltL, s_eqL, s_leR, s_ltR, s_eqR, s_le, s_lt, s_eq, s_addL, s_addL', s_mulL, s_mulL', s_mul, nI_add, s_subL, s_sub, s_m1, s_m1', s_lm1, s_ltm1, s_m1lt, s_m1le, s_m1p, s_10, s_let, s_el, s_er, s_b2, s_b3, s_b4, s_b5, s_b6, s_b7, s_b8, s_b9, s_b10, s_b11, s_b12, s_bind, eq_self, if_pos, if_neg, ite_true, ite_false, if_true, if_false, Bool.false_eq_true, reduceIte]
  obtain ⟨⟨S2, I2⟩, k8, k9, k10, k11, k12⟩ := H9
  exact ⟨S1, I1, S2, I2, h8, k8, k9, k10, k11, k12⟩
theorem p_firstOrders (hG : g_G ex up lo bx lay N) (hX : m_X bx X) (hA : m_A ex up lo A F T U) (hL : m_L bx lay L) (S I P D : Nat → Int32) :
    ∃ S' I' P' D', fX10_firstOrders X A F T U (nI N) L S I P D = some (S', I', P', D') ∧ m_O N (g_all (g_hd ex up lo bx lay) (fun _ => []) N) S' I' P' D' := by
  have hN := hG.1
  unfold fX10_firstOrders
  have H9 : ∃ e : t_O, q_lo (fun (st : Int32 × (Nat → Int32) × (Nat → Int32) × (Nat → Int32) × (Nat → Int32)) => bX10_firstOrders_2 X A F T U (nI N) L st.1 st.2.1 st.2.2.1 st.2.2.2.1 st.2.2.2.2) (0, S, I, P, D) = some e ∧ m_O N (fun l => g_ms (g_hd ex up lo bx lay l) [] 40) e.1 e.2.1 e.2.2.1 e.2.2.2 := by
    refine q_inv (fun n (st : Int32 × (Nat → Int32) × (Nat → Int32) × (Nat → Int32) × (Nat → Int32)) => st.1 = nI n ∧ m_O n (fun l => g_ms (g_hd ex up lo bx lay l) [] 40) st.2.1 st.2.2.1 st.2.2.2.1 st.2.2.2.2) N ?_ ?_ _ ⟨rfl, fun l hl => by omega⟩
    · rintro n ⟨x, S, I, P, D⟩ hn ⟨hx, h1⟩
      dsimp only at hx h1
      subst hx
      show ∃ t9, bX10_firstOrders_2 X A F T U (nI N) L (nI n) S I P D = some (.inl t9) ∧ _
      obtain ⟨S1, I1, S2, I2, k1, k2, k3, k4, k5, k6⟩ := p_first1 hG hX hA hL (l := n) (by omega) (upd S n 0) I pk_us
      obtain ⟨P2, D2, k7, k8, k9, k10⟩ := p_note (S := S2) k4 (by omega) (g_ms_len 40) (g_ms_nd 40) k3 P D
      unfold bX10_firstOrders_2
      simp (disch := omega) only [s_in, s_cl, s_leL, s_ltL, s_eqL, s_leR, s_ltR, s_eqR, s_le, s_lt, s_eq, s_addL, s_addL', s_mulL, s_mulL', s_mul, nI_add, s_subL, s_sub, s_m1, s_m1', s_lm1, s_ltm1, s_m1lt, s_m1le, s_m1p, s_10, s_let, s_el, s_er, s_b2, s_b3, s_b4, s_b5, s_b6, s_b7, s_b8, s_b9, s_b10, s_b11, s_b12, s_bind, eq_self, if_pos, if_neg, ite_true, ite_false, if_true, if_false, Bool.false_eq_true, reduceIte, k1, k2, k7]
      refine ⟨_, rfl, rfl, ?_⟩
      intro i hi
      dsimp only
      by_cases hin : i = n
      · subst hin
        exact ⟨g_ms_len 40, g_ms_nd 40, k3, k8⟩
      · refine m_O_note (N := n) (n := n) (l := n) (R := g_ms (g_hd ex up lo bx lay n) [] 40) (row := fun l => g_ms (g_hd ex up lo bx lay l) [] 40) (by omega) (fun i hi => by omega) (by omega) (fun i hi _ => h1 i hi) (fun i hil => by rw [k5 i hil, pk_un hil]) k6 ?_ k9 k10 i (by omega) hin
        intro i hi hil b hb hm hm2
        rcases g_ms_mem.mp hm with h | h
        · simp at h
        · rcases g_ms_mem.mp hm2 with h' | h'
          · simp at h'
          · exact hil (g_hd_box hb h'.2 h.2)
    · rintro ⟨x, S, I, P, D⟩ ⟨hx, h1⟩
      dsimp only at hx h1
      subst hx
      refine ⟨(S, I, P, D), ?_, h1⟩
      show bX10_firstOrders_2 X A F T U (nI N) L (nI N) S I P D = _
      unfold bX10_firstOrders_2
      simp (disch := omega) only [s_in, s_cl, s_leL, s_ltL, s_eqL, s_leR, s_ltR, s_eqR, s_le, s_lt, s_eq, s_addL, s_addL', s_mulL, s_mulL', s_mul, nI_add, s_subL, s_sub, s_m1, s_m1', s_lm1, s_ltm1, s_m1lt, s_m1le, s_m1p, s_10, s_let, s_el, s_er, s_b2, s_b3, s_b4, s_b5, s_b6, s_b7, s_b8, s_b9, s_b10, s_b11, s_b12, s_bind, eq_self, if_pos, if_neg, ite_true, ite_false, if_true, if_false, Bool.false_eq_true, reduceIte]
  obtain ⟨⟨z1, z2, z3, z4⟩, h8, h9⟩ := H9
  refine ⟨z1, z2, z3, z4, by rw [h8]; rfl, ?_⟩
  intro l hl
  unfold g_all
  rw [if_pos hl]
  exact h9 l hl
end MO
