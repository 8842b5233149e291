/-! PURE: the reference's medians. -/
theorem g_ost_ex {F : List Nat} {f : Nat → Nat} (h : F ≠ []) : ∃ k a : Nat, F[k]? = some a ∧ g_ost F f (f a) = true := by
  have hp := List.mergeSort_perm F (fun a b => decide (f a ≤ f b))
  have hs := List.pairwise_mergeSort (le := fun a b => decide (f a ≤ f b)) (fun a b c h1 h2 => by
    simp only [decide_eq_true_eq] at h1 h2 ⊢
    omega) (fun a b => by
    simp only [Bool.or_eq_true, decide_eq_true_eq]
    omega) F
  have hs' : (F.mergeSort (fun a b => decide (f a ≤ f b))).Pairwise (fun a b => f a ≤ f b) := hs.imp (fun h => by simpa using h)
  have hl := hp.length_eq
  have hpos : 0 < F.length := List.length_pos_iff.mpr h
  obtain ⟨a, ha⟩ : ∃ a, (F.mergeSort (fun a b => decide (f a ≤ f b)))[((F.mergeSort (fun a b => decide (f a ≤ f b))).length - 1) / 2]? = some a := ⟨_, List.getElem?_eq_getElem (by omega)⟩
  have h1 := g_ost_sorted hs' ha
  rw [g_ost_perm hp] at h1
  obtain ⟨k, hk⟩ := List.mem_iff_getElem?.mp (hp.mem_iff.mp (g_mem_get ha))
  exact ⟨k, a, hk, h1⟩
theorem g_cnt_le_eq {f : Nat → Nat} {v : Nat} : ∀ F : List Nat, F.countP (fun a => decide (f a < v)) + F.countP (fun a => decide (f a = v)) = F.countP (fun a => decide (f a ≤ v))
  | [] => rfl
  | a :: F => by
    have ih := g_cnt_le_eq (f := f) (v := v) F
    rw [List.countP_cons, List.countP_cons, List.countP_cons]
    rcases Nat.lt_trichotomy (f a) v with h | h | h
    · rw [if_pos (by simpa using h), if_neg (by simp; omega), if_pos (by simp; omega)]
      omega
    · rw [if_neg (by simp; omega), if_pos (by simpa using h), if_pos (by simp; omega)]
      omega
    · rw [if_neg (by simp; omega), if_neg (by simp; omega), if_neg (by simp; omega)]
      omega
theorem p_m139 {F : List Nat} {far : Nat → Nat} {nr : Nat → Int32} (hF : F.length ≤ 24) (hb : ∀ a : Nat, a ∈ F → far a < 40) (hA : ∀ j a : Nat, F[j]? = some a → nr j = nI (far a)) {k a : Nat} (hk : F[k]? = some a) :
    q_lo (fun (st : Int32 × Int32 × Int32) => bX10_median_139 nr (nI F.length) (nI k) st.1 st.2.1 st.2.2) (0, 0, 0) = some (nI (F.countP (fun b => decide (far b < far a))), nI (F.countP (fun b => decide (far b = far a)))) := by
  have hkl := g_lt_len hk
  have ha := hb a (g_mem_get hk)
  have H9 : ∃ e : Int32 × Int32, q_lo (fun (st : Int32 × Int32 × Int32) => bX10_median_139 nr (nI F.length) (nI k) st.1 st.2.1 st.2.2) (0, 0, 0) = some e ∧ e = (nI (F.countP (fun b => decide (far b < far a))), nI (F.countP (fun b => decide (far b = far a)))) := by
    refine q_inv (fun i (st : Int32 × Int32 × Int32) => st.2.2 = nI i ∧ st.1 = nI ((F.take i).countP (fun b => decide (far b < far a))) ∧ st.2.1 = nI ((F.take i).countP (fun b => decide (far b = far a)))) F.length ?_ ?_ _ ⟨rfl, rfl, rfl⟩
    · rintro i ⟨x, y, z⟩ hi ⟨h1, h2, h3⟩
      dsimp only at h1 h2 h3
      subst h1
      subst h2
      subst h3
      obtain ⟨b, hib⟩ : ∃ b, F[i]? = some b := ⟨_, List.getElem?_eq_getElem hi⟩
      have hbb := hb b (g_mem_get hib)
      have c1 := g_cnt1 (X := fun b => decide (far b < far a)) hib
      have c2 := g_cnt1 (X := fun b => decide (far b = far a)) hib
      show ∃ t9, bX10_median_139 nr (nI F.length) (nI k) (nI ((F.take i).countP (fun b => decide (far b < far a)))) (nI ((F.take i).countP (fun b => decide (far b = far a)))) (nI i) = some (.inl t9) ∧ _
      unfold bX10_median_139 jX10_median_170 jX10_median_197
      rcases Nat.lt_trichotomy (far b) (far a) with h | h | h
      · rw [if_pos (by simpa using h)] at c1
        rw [if_neg (by simp; omega)] at c2
        rw [c1, c2]
        simp (disch := omega) only [s_in, s_cl, s_leL, s_ltL, s_eqL, s_leR, s_ltR, s_eqR, s_le, s_lt, s_eq, s_addL, s_addL', s_mulL, s_mulL', s_mul, nI_add, s_subL, s_sub, s_m1, s_m1', s_lm1, s_ltm1, s_m1lt, s_m1le, s_m1p, s_10, s_let, s_el, s_er, s_b2, s_b3, s_b4, s_b5, s_b6, s_b7, s_b8, s_b9, s_b10, s_b11, s_b12, s_bind, eq_self, if_pos, if_neg, ite_true, ite_false, if_true, if_false, Bool.false_eq_true, reduceIte, hA i b hib, hA k a hk]
        exact ⟨_, rfl, rfl, rfl, rfl⟩
      · rw [if_neg (by simp; omega)] at c1
        rw [if_pos (by simpa using h)] at c2
        rw [c1, c2]
        simp (disch := omega) only [s_in, s_cl, s_leL, s_ltL, s_eqL, s_leR, s_ltR, s_eqR, s_le, s_lt, s_eq, s_addL, s_addL', s_mulL, s_mulL', s_mul, nI_add, s_subL, s_sub, s_m1, s_m1', s_lm1, s_ltm1, s_m1lt, s_m1le, s_m1p, s_10, s_let, s_el, s_er, s_b2, s_b3, s_b4, s_b5, s_b6, s_b7, s_b8, s_b9, s_b10, s_b11, s_b12, s_bind, eq_self, if_pos, if_neg, ite_true, ite_false, if_true, if_false, Bool.false_eq_true, reduceIte, hA i b hib, hA k a hk, h]
        exact ⟨_, rfl, rfl, rfl, rfl⟩
      · rw [if_neg (by simp; omega)] at c1
        rw [if_neg (by simp; omega)] at c2
        rw [c1, c2]
        simp (disch := omega) only [s_in, s_cl, s_leL, s_ltL, s_eqL, s_leR, s_ltR, s_eqR, s_le, s_lt, s_eq, s_addL, s_addL', s_mulL, s_mulL', s_mul, nI_add, s_subL, s_sub, s_m1, s_m1', s_lm1, s_ltm1, s_m1lt, s_m1le, s_m1p, s_10, s_let, s_el, s_er, s_b2, s_b3, s_b4, s_b5, s_b6, s_b7, s_b8, s_b9, s_b10, s_b11, s_b12, s_bind, eq_self, if_pos, if_neg, ite_true, ite_false, if_true, if_false, Bool.false_eq_true, reduceIte, hA i b hib, hA k a hk]
        exact ⟨_, rfl, rfl, rfl, rfl⟩
    · rintro ⟨x, y, z⟩ ⟨h1, h2, h3⟩
      dsimp only at h1 h2 h3
      subst h1
      subst h2
      subst h3
      rw [List.take_length]
      refine ⟨_, ?_, rfl⟩
      show bX10_median_139 nr (nI F.length) (nI k) _ _ (nI F.length) = _
      unfold bX10_median_139
      simp (disch := omega) only [s_in, s_cl, s_leL, s_ltL, s_eqL, s_leR, s_ltR, s_eqR, s_le, s_lt, s_eq, s_addL, s_addL', s_mulL, s_mulL', s_mul, nI_add, s_subL, s_sub, s_m1, s_m1', s_lm1, s_ltm1, s_m1lt, s_m1le, s_m1p, s_10, s_let, s_el, s_er, s_b2, s_b3, s_b4, s_b5, s_b6, s_b7, s_b8, s_b9, s_b10, s_b11, s_b12, s_bind, eq_self, if_pos, if_neg, ite_true, ite_false, if_true, if_false, Bool.false_eq_true, reduceIte]
  obtain ⟨e, h8, h9⟩ := H9
  rw [h8, h9]
theorem p_m123 {F : List Nat} {far : Nat → Nat} {nr : Nat → Int32} (hF : F.length ≤ 24) (h0 : F ≠ []) (hb : ∀ a : Nat, a ∈ F → far a < 40) (hA : ∀ j a : Nat, F[j]? = some a → nr j = nI (far a)) :
    ∃ k a : Nat, q_lo (fun (st : Int32) => bX10_median_123 nr (nI F.length) st) 0 = some (.inr (nI k)) ∧ F[k]? = some a ∧ g_ost F far (far a) = true := by
  have hpos : 0 < F.length := List.length_pos_iff.mpr h0
  have H9 : ∃ e : Unit ⊕ Int32, q_lo (fun (st : Int32) => bX10_median_123 nr (nI F.length) st) 0 = some e ∧ ∃ k a : Nat, e = .inr (nI k) ∧ F[k]? = some a ∧ g_ost F far (far a) = true := by
    refine q_invx (fun k (st : Int32) => st = nI k ∧ ∀ j b : Nat, j < k → F[j]? = some b → g_ost F far (far b) = false) F.length ?_ ?_ _ ⟨rfl, fun j b hj => by omega⟩
    · rintro k st hk ⟨rfl, hq⟩
      obtain ⟨a, ha⟩ : ∃ a, F[k]? = some a := ⟨_, List.getElem?_eq_getElem hk⟩
      have hm := p_m139 hF hb hA ha
      have e1 := g_cnt_le_eq (f := far) (v := far a) F
      have e2 := List.countP_le_length (p := fun b => decide (far b < far a)) (l := F)
      have e3 := List.countP_le_length (p := fun b => decide (far b = far a)) (l := F)
      show (∃ t9, bX10_median_123 nr (nI F.length) (nI k) = some (.inl t9) ∧ _) ∨ ∃ e, bX10_median_123 nr (nI F.length) (nI k) = some (.inr e) ∧ _
      unfold bX10_median_123 jX10_median_239
      cases ho : g_ost F far (far a) with
      | true =>
        right
        obtain ⟨o1, o2⟩ := g_ost_iff.mp ho
        simp (disch := omega) only [s_in, s_cl, s_leL, s_ltL, s_eqL, s_leR, s_ltR, s_eqR, s_le, s_lt, s_eq, s_addL, s_addL', s_mulL, s_mulL', s_mul, nI_add, s_subL, s_sub, s_m1, s_m1', s_lm1, s_ltm1, s_m1lt, s_m1le, s_m1p, s_10, s_let, s_el, s_er, s_b2, s_b3, s_b4, s_b5, s_b6, s_b7, s_b8, s_b9, s_b10, s_b11, s_b12, s_bind, eq_self, if_pos, if_neg, ite_true, ite_false, if_true, if_false, Bool.false_eq_true, reduceIte, hm, s_divL]
        exact ⟨_, rfl, k, a, rfl, ha, ho⟩
      | false =>
        left
        have ho2 : ¬ (F.countP (fun b => decide (far b < far a)) ≤ (F.length - 1) / 2 ∧ (F.length - 1) / 2 < F.countP (fun b => decide (far b ≤ far a))) := by
          rw [← g_ost_iff, ho]
          exact Bool.false_ne_true
        have hn : ∃ t9 : Int32, some (Sum.inl (α := Int32) (β := Unit ⊕ Int32) (nI (k + 1))) = some (.inl t9) ∧ t9 = nI (k + 1) ∧ ∀ j b : Nat, j < k + 1 → F[j]? = some b → g_ost F far (far b) = false := by
          refine ⟨_, rfl, rfl, fun j b hj hjb => ?_⟩
          by_cases hjk : j = k
          · subst hjk
            rw [ha] at hjb
            cases hjb
            exact ho
          · exact hq j b (by omega) hjb
        by_cases hc : (F.length - 1) / 2 < F.countP (fun b => decide (far b < far a))
        · simp (disch := omega) only [s_in, s_cl, s_leL, s_ltL, s_eqL, s_leR, s_ltR, s_eqR, s_le, s_lt, s_eq, s_addL, s_addL', s_mulL, s_mulL', s_mul, nI_add, s_subL, s_sub, s_m1, s_m1', s_lm1, s_ltm1, s_m1lt, s_m1le, s_m1p, s_10, s_let, s_el, s_er, s_b2, s_b3, s_b4, s_b5, s_b6, s_b7, s_b8, s_b9, s_b10, s_b11, s_b12, s_bind, eq_self, if_pos, if_neg, ite_true, ite_false, if_true, if_false, Bool.false_eq_true, reduceIte, hm, s_divL, hc]
          exact hn
        · simp (disch := omega) only [s_in, s_cl, s_leL, s_ltL, s_eqL, s_leR, s_ltR, s_eqR, s_le, s_lt, s_eq, s_addL, s_addL', s_mulL, s_mulL', s_mul, nI_add, s_subL, s_sub, s_m1, s_m1', s_lm1, s_ltm1, s_m1lt, s_m1le, s_m1p, s_10, s_let, s_el, s_er, s_b2, s_b3, s_b4, s_b5, s_b6, s_b7, s_b8, s_b9, s_b10, s_b11, s_b12, s_bind, eq_self, if_pos, if_neg, ite_true, ite_false, if_true, if_false, Bool.false_eq_true, reduceIte, hm, s_divL, hc]
          exact hn
    · rintro st ⟨rfl, hq⟩
      obtain ⟨k, a, h1, h2⟩ := g_ost_ex (f := far) h0
      rw [hq k a (g_lt_len h1) h1] at h2
      cases h2
  obtain ⟨e, h8, k, a, rfl, h9, h10⟩ := H9
  exact ⟨k, a, h8, h9, h10⟩
section MM
variable {ex bx : Nat → Bool} {up lo lay : Nat → Nat} {N : Nat} {row : Nat → List Nat} {A F T U L S I P D : Nat → Int32}
theorem g_at_eq {l p c d : Nat} (hn : (row l).Nodup) (hp : (row l)[p]? = some c) (hd : d ∈ row l) : g_at row l d = p ↔ d = c := by
  constructor
  · intro h
    have := g_at_get hd
    rw [h, hp] at this
    exact (Option.some.inj this).symm
  · intro h
    subst h
    exact g_at_of hn hp
theorem p_mmed6 (hG : g_G ex up lo bx lay N) (hV : g_V ex up lo bx lay N row) (hA : m_A ex up lo A F T U) (hL : m_L bx lay L) (hO : m_O N row S I P D) {l p c : Nat} (hl : l < N) (hp : (row l)[p]? = some c) (s : Bool) (hs : s = true → 1 ≤ l) (nr : Nat → Int32) :
    ∃ nr', q_lo (fun (st : Int32 × Int32 × (Nat → Int32)) => bX10_median_6 A F T U L P D (nI l) (nI p) (if s then 1 else 0) st.1 st.2.1 st.2.2) (0, 0, nr) = some (nI ((g_Kl ex up lo lay s l).filter (fun a => decide (g_own up lo lay s l a = c))).length, nr') ∧ ∀ j a : Nat, ((g_Kl ex up lo lay s l).filter (fun a => decide (g_own up lo lay s l a = c)))[j]? = some a → nr' j = nI (g_far up lo lay row s l a) := by
  have hN := hG.1
  have hnd := (hV l (by omega)).1
  have hp40 : p < 40 := by
    have := g_lt_len hp
    have := (hO l hl).1
    omega
  have H9 : ∃ e : Int32 × (Nat → Int32), q_lo (fun (st : Int32 × Int32 × (Nat → Int32)) => bX10_median_6 A F T U L P D (nI l) (nI p) (if s then 1 else 0) st.1 st.2.1 st.2.2) (0, 0, nr) = some e ∧ e.1 = nI ((g_Kl ex up lo lay s l).filter (fun a => decide (g_own up lo lay s l a = c))).length ∧ ∀ j a : Nat, ((g_Kl ex up lo lay s l).filter (fun a => decide (g_own up lo lay s l a = c)))[j]? = some a → e.2 j = nI (g_far up lo lay row s l a) := by
    refine q_inv (fun n (st : Int32 × Int32 × (Nat → Int32)) => st.2.1 = nI n ∧ st.1 = nI ((g_ps ex up lo lay n (if s = true then l - 1 else l)).filter (fun a => decide (g_own up lo lay s l a = c))).length ∧ ∀ j a : Nat, ((g_ps ex up lo lay n (if s = true then l - 1 else l)).filter (fun a => decide (g_own up lo lay s l a = c)))[j]? = some a → st.2.2 j = nI (g_far up lo lay row s l a)) 24 ?_ ?_ _ ⟨rfl, rfl, fun j a h => by simp [g_ps] at h⟩
    · rintro n ⟨x, y, q⟩ hn ⟨h1, h2, h3⟩
      dsimp only at h1 h2 h3
      subst h1
      subst h2
      have hlen := List.length_filter_le (fun a => decide (g_own up lo lay s l a = c)) (g_ps ex up lo lay n (if s = true then l - 1 else l))
      have hlen2 := g_ps_len (ex := ex) (up := up) (lo := lo) (lay := lay) n (if s = true then l - 1 else l)
      rw [g_ps_succ]
      show ∃ t9, bX10_median_6 A F T U L P D (nI l) (nI p) (if s then 1 else 0) (nI ((g_ps ex up lo lay n (if s = true then l - 1 else l)).filter (fun a => decide (g_own up lo lay s l a = c))).length) (nI n) q = some (.inl t9) ∧ _
      have hb1 : ∃ b, (if s = true then l - 1 else l) = b ∧ b < 24 ∧ (s = true → b = l - 1) ∧ (s = false → b = l) := by
        cases s
        · exact ⟨l, rfl, by omega, (fun h => by cases h), fun _ => rfl⟩
        · exact ⟨l - 1, rfl, by omega, (fun _ => rfl), fun h => by cases h⟩
      obtain ⟨b, hb2, hb3, hb4, hb5⟩ := hb1
      rw [hb2] at hlen hlen2 h3 ⊢
      have m1 := p_mhasPiece hG hA hL hn (show b < 2147483648 by omega)
      have stay : ∀ Q : List Nat, Q = g_ps ex up lo lay n b → ∃ t9 : Int32 × Int32 × (Nat → Int32), some (Sum.inl (α := Int32 × Int32 × (Nat → Int32)) (β := Int32 × (Nat → Int32)) (nI ((g_ps ex up lo lay n b).filter (fun a => decide (g_own up lo lay s l a = c))).length, nI (n + 1), q)) = some (.inl t9) ∧ t9.2.1 = nI (n + 1) ∧ t9.1 = nI (Q.filter (fun a => decide (g_own up lo lay s l a = c))).length ∧ ∀ j a : Nat, (Q.filter (fun a => decide (g_own up lo lay s l a = c)))[j]? = some a → t9.2.2 j = nI (g_far up lo lay row s l a) := by
        rintro Q rfl
        exact ⟨_, rfl, rfl, rfl, h3⟩
      by_cases hpc : g_pc ex up lo lay n b = true
      · rw [if_pos hpc] at m1 ⊢
        obtain ⟨w1, v1⟩ := p_mup hG hV hA hL hO hn hpc
        obtain ⟨w2, v2⟩ := p_mdn hG hV hA hL hO hn hpc
        rw [List.filter_append]
        have k0 : ∀ fv : Nat, g_far up lo lay row s l n = fv → g_own up lo lay s l n = c → ∃ t9 : Int32 × Int32 × (Nat → Int32), some (Sum.inl (α := Int32 × Int32 × (Nat → Int32)) (β := Int32 × (Nat → Int32)) (nI (((g_ps ex up lo lay n b).filter (fun a => decide (g_own up lo lay s l a = c))).length + 1), nI (n + 1), upd q ((g_ps ex up lo lay n b).filter (fun a => decide (g_own up lo lay s l a = c))).length (nI fv))) = some (.inl t9) ∧ t9.2.1 = nI (n + 1) ∧ t9.1 = nI ((g_ps ex up lo lay n b).filter (fun a => decide (g_own up lo lay s l a = c)) ++ [n].filter (fun a => decide (g_own up lo lay s l a = c))).length ∧ ∀ j a : Nat, ((g_ps ex up lo lay n b).filter (fun a => decide (g_own up lo lay s l a = c)) ++ [n].filter (fun a => decide (g_own up lo lay s l a = c)))[j]? = some a → t9.2.2 j = nI (g_far up lo lay row s l a) := by
          rintro fv rfl ho
          have e1 : [n].filter (fun a => decide (g_own up lo lay s l a = c)) = [n] := by simp [ho]
          rw [e1]
          refine ⟨_, rfl, rfl, by rw [List.length_append]; rfl, ?_⟩
          intro j a hj
          dsimp only
          rw [List.getElem?_append] at hj
          split at hj
          · rw [pk_un (by omega)]
            exact h3 j a hj
          · have hj1 := g_lt_len hj
            simp at hj1
            have hj2 : j = ((g_ps ex up lo lay n b).filter (fun a => decide (g_own up lo lay s l a = c))).length := by omega
            subst hj2
            rw [Nat.sub_self] at hj
            simp at hj
            subst hj
            rw [pk_us]
        have k1 : g_own up lo lay s l n ≠ c → (g_ps ex up lo lay n b).filter (fun a => decide (g_own up lo lay s l a = c)) ++ [n].filter (fun a => decide (g_own up lo lay s l a = c)) = (g_ps ex up lo lay n b).filter (fun a => decide (g_own up lo lay s l a = c)) := by
          intro ho
          simp [ho]
        unfold bX10_median_6 jX10_median_24 jX10_median_63 jX10_median_103 jX10_median_107
        cases s with
        | false =>
          have hbl := hb5 rfl
          subst hbl
          have key : g_pu up lay row b n = p ↔ g_own up lo lay false b n = c := g_at_eq hnd hp (g_uc_mem hG hV hn hpc)
          by_cases ho : g_own up lo lay false b n = c
          · have ho2 := key.mpr ho
            simp (disch := omega) only [s_in, s_cl, s_leL, s_ltL, s_eqL, s_leR, s_ltR, s_eqR, s_le, s_lt, s_eq, s_addL, s_addL', s_mulL, s_mulL', s_mul, nI_add, s_subL, s_sub, s_m1, s_m1', s_lm1, s_ltm1, s_m1lt, s_m1le, s_m1p, s_10, s_let, s_el, s_er, s_b2, s_b3, s_b4, s_b5, s_b6, s_b7, s_b8, s_b9, s_b10, s_b11, s_b12, s_bind, eq_self, if_pos, if_neg, ite_true, ite_false, if_true, if_false, Bool.false_eq_true, reduceIte, m1, w1, w2, ho2]
            exact k0 _ rfl ho
          · have ho2 : ¬ g_pu up lay row b n = p := fun h => ho (key.mp h)
            simp (disch := omega) only [s_in, s_cl, s_leL, s_ltL, s_eqL, s_leR, s_ltR, s_eqR, s_le, s_lt, s_eq, s_addL, s_addL', s_mulL, s_mulL', s_mul, nI_add, s_subL, s_sub, s_m1, s_m1', s_lm1, s_ltm1, s_m1lt, s_m1le, s_m1p, s_10, s_let, s_el, s_er, s_b2, s_b3, s_b4, s_b5, s_b6, s_b7, s_b8, s_b9, s_b10, s_b11, s_b12, s_bind, eq_self, if_pos, if_neg, ite_true, ite_false, if_true, if_false, Bool.false_eq_true, reduceIte, m1, w1, w2, ho2]
            rw [k1 ho]
            exact ⟨_, rfl, rfl, rfl, h3⟩
        | true =>
          have hbl := hb4 rfl
          have hl1 := hs rfl
          have hb6 : b + 1 = l := by omega
          have key : g_pd lo lay row b n = p ↔ g_own up lo lay true l n = c := by
            have h7 := g_lc_mem hG hV hn hpc
            rw [hb6] at h7
            have h8 := g_at_eq hnd hp h7
            unfold g_pd g_own
            rw [hb6, if_pos rfl, ← hbl]
            exact h8
          have hfar : g_far up lo lay row true l n = g_pu up lay row b n := by unfold g_far; rw [if_pos rfl, hbl]
          have hlb : nI l - 1 = nI b := by rw [hbl]; exact s_subL hl1
          by_cases ho : g_own up lo lay true l n = c
          · have ho2 := key.mpr ho
            simp (disch := omega) only [s_in, s_cl, s_leL, s_ltL, s_eqL, s_leR, s_ltR, s_eqR, s_le, s_lt, s_eq, s_addL, s_addL', s_mulL, s_mulL', s_mul, nI_add, s_subL, s_sub, s_m1, s_m1', s_lm1, s_ltm1, s_m1lt, s_m1le, s_m1p, s_10, s_let, s_el, s_er, s_b2, s_b3, s_b4, s_b5, s_b6, s_b7, s_b8, s_b9, s_b10, s_b11, s_b12, s_bind, eq_self, if_pos, if_neg, ite_true, ite_false, if_true, if_false, Bool.false_eq_true, reduceIte, hlb, m1, w1, w2, ho2]
            exact k0 _ hfar ho
          · have ho2 : ¬ g_pd lo lay row b n = p := fun h => ho (key.mp h)
            simp (disch := omega) only [s_in, s_cl, s_leL, s_ltL, s_eqL, s_leR, s_ltR, s_eqR, s_le, s_lt, s_eq, s_addL, s_addL', s_mulL, s_mulL', s_mul, nI_add, s_subL, s_sub, s_m1, s_m1', s_lm1, s_ltm1, s_m1lt, s_m1le, s_m1p, s_10, s_let, s_el, s_er, s_b2, s_b3, s_b4, s_b5, s_b6, s_b7, s_b8, s_b9, s_b10, s_b11, s_b12, s_bind, eq_self, if_pos, if_neg, ite_true, ite_false, if_true, if_false, Bool.false_eq_true, reduceIte, hlb, m1, w1, w2, ho2]
            rw [k1 ho]
            exact ⟨_, rfl, rfl, rfl, h3⟩
      · rw [if_neg hpc] at m1 ⊢
        unfold bX10_median_6 jX10_median_24 jX10_median_107
        cases s with
        | false =>
          have hbl := hb5 rfl
          subst hbl
          simp (disch := omega) only [s_in, s_cl, s_leL, s_ltL, s_eqL, s_leR, s_ltR, s_eqR, s_le, s_lt, s_eq, s_addL, s_addL', s_mulL, s_mulL', s_mul, nI_add, s_subL, s_sub, s_m1, s_m1', s_lm1, s_ltm1, s_m1lt, s_m1le, s_m1p, s_10, s_let, s_el, s_er, s_b2, s_b3, s_b4, s_b5, s_b6, s_b7, s_b8, s_b9, s_b10, s_b11, s_b12, s_bind, eq_self, if_pos, if_neg, ite_true, ite_false, if_true, if_false, Bool.false_eq_true, reduceIte, m1]
          exact stay _ rfl
        | true =>
          have hbl := hb4 rfl
          have hl1 := hs rfl
          have hlb : nI l - 1 = nI b := by rw [hbl]; exact s_subL hl1
          simp (disch := omega) only [s_in, s_cl, s_leL, s_ltL, s_eqL, s_leR, s_ltR, s_eqR, s_le, s_lt, s_eq, s_addL, s_addL', s_mulL, s_mulL', s_mul, nI_add, s_subL, s_sub, s_m1, s_m1', s_lm1, s_ltm1, s_m1lt, s_m1le, s_m1p, s_10, s_let, s_el, s_er, s_b2, s_b3, s_b4, s_b5, s_b6, s_b7, s_b8, s_b9, s_b10, s_b11, s_b12, s_bind, eq_self, if_pos, if_neg, ite_true, ite_false, if_true, if_false, Bool.false_eq_true, reduceIte, hlb, m1]
          exact stay _ rfl
    · rintro ⟨x, y, q⟩ ⟨h1, h2, h3⟩
      dsimp only at h1 h2 h3
      subst h1
      subst h2
      refine ⟨(_, q), ?_, rfl, h3⟩
      show bX10_median_6 A F T U L P D (nI l) (nI p) _ _ (nI 24) q = _
      unfold bX10_median_6
      simp (disch := omega) only [s_in, s_cl, s_leL, s_ltL, s_eqL, s_leR, s_ltR, s_eqR, s_le, s_lt, s_eq, s_addL, s_addL', s_mulL, s_mulL', s_mul, nI_add, s_subL, s_sub, s_m1, s_m1', s_lm1, s_ltm1, s_m1lt, s_m1le, s_m1p, s_10, s_let, s_el, s_er, s_b2, s_b3, s_b4, s_b5, s_b6, s_b7, s_b8, s_b9, s_b10, s_b11, s_b12, s_bind, eq_self, if_pos, if_neg, ite_true, ite_false, if_true, if_false, Bool.false_eq_true, reduceIte]
      rfl
  obtain ⟨⟨e1, e2⟩, h8, h9, h10⟩ := H9
  dsimp only at h9 h10
  subst h9
  exact ⟨e2, h8, h10⟩
theorem p_mmed (hG : g_G ex up lo bx lay N) (hV : g_V ex up lo bx lay N row) (hA : m_A ex up lo A F T U) (hL : m_L bx lay L) (hO : m_O N row S I P D) {l p c : Nat} (hl : l < N) (hp : (row l)[p]? = some c) (s : Bool) (hs : s = true → 1 ≤ l) (nr : Nat → Int32) :
    ∃ nr', fX10_median A F T U L P D nr (nI l) (nI p) (if s then 1 else 0) = some ((g_mc ex up lo lay row s l c).elim (-1) nI, nr') := by
  have hN := hG.1
  obtain ⟨nr', h1, h2⟩ := p_mmed6 hG hV hA hL hO hl hp s hs nr
  have hK : (g_Kl ex up lo lay s l).length ≤ 24 := g_ps_len 24 _
  have hlen := List.length_filter_le (fun a => decide (g_own up lo lay s l a = c)) (g_Kl ex up lo lay s l)
  have hb : ∀ a : Nat, a ∈ (g_Kl ex up lo lay s l).filter (fun a => decide (g_own up lo lay s l a = c)) → g_far up lo lay row s l a < 40 := by
    intro a ha
    obtain ⟨k1, k2⟩ := g_ps_mem.mp (List.mem_filter.mp ha).1
    unfold g_far
    cases s with
    | false => exact (p_mdn hG hV hA hL hO k1 k2).2
    | true => exact (p_mup hG hV hA hL hO k1 k2).2
  unfold fX10_median g_mc
  rw [h1, s_b2]
  generalize hF : (g_Kl ex up lo lay s l).filter (fun a => decide (g_own up lo lay s l a = c)) = Fl at h2 hlen hb
  by_cases h0 : Fl = []
  · subst h0
    rw [g_med_nil]
    refine ⟨nr', ?_⟩
    rw [if_pos (show nI ([] : List Nat).length = 0 from rfl)]
    rfl
  · have hpos : 0 < Fl.length := List.length_pos_iff.mpr h0
    obtain ⟨k, a, h3, h4, h5⟩ := p_m123 (by omega) h0 hb h2
    have := g_lt_len h4
    rw [g_med_some (hb a (g_mem_get h4)) h5]
    refine ⟨nr', ?_⟩
    simp (disch := omega) only [s_in, s_cl, s_leL, s_ltL, s_eqL, s_leR, s_ltR, s_eqR, s_le, s_lt, s_eq, s_addL, s_addL', s_mulL, s_mulL', s_mul, nI_add, s_subL, s_sub, s_m1, s_m1', s_lm1, s_ltm1, s_m1lt, s_m1le, s_m1p, s_10, s_let, s_el, s_er, s_b2, s_b3, s_b4, s_b5, s_b6, s_b7, s_b8, s_b9, s_b10, s_b11, s_b12, s_bind, eq_self, if_pos, if_neg, ite_true, ite_false, if_true, if_false, Bool.false_eq_true, reduceIte, h3, h2 k a h4]
    rfl
end MM
