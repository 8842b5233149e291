/-! PURE: the reference's step is g_stp. -/
theorem s_0m1 : ((0 : Int32) ≤ -1) = False := by decide
def g_sb (M : Nat → Option Nat) (R : List Nat) (m : Nat) : List Nat := (List.range m).flatMap (fun m => (g_mv M R).filter (fun c => decide (g_ky M c = m)))
def g_sk (M : Nat → Option Nat) (R : List Nat) (m p : Nat) : List Nat := g_sb M R m ++ (g_mv M (R.take p)).filter (fun c => decide (g_ky M c = m))
section SK
variable {M : Nat → Option Nat} {R : List Nat}
theorem g_sb_succ (m : Nat) : g_sb M R (m + 1) = g_sb M R m ++ (g_mv M R).filter (fun c => decide (g_ky M c = m)) := by
  unfold g_sb
  rw [List.range_succ, List.flatMap_append, List.flatMap_cons, List.flatMap_nil, List.append_nil]
theorem g_sk_0 (m : Nat) : g_sk M R m 0 = g_sb M R m := by
  unfold g_sk
  rw [List.take_zero]
  exact List.append_nil _
theorem g_sk_all (m : Nat) : g_sk M R m R.length = g_sb M R (m + 1) := by
  rw [g_sb_succ]
  unfold g_sk
  rw [List.take_length]
theorem g_ky_iff {c m : Nat} : M c = some m ↔ (M c).isSome = true ∧ g_ky M c = m := by
  unfold g_ky
  cases M c with
  | none => simp
  | some v => simp
theorem g_sk_succ {m p c : Nat} (h : R[p]? = some c) : g_sk M R m (p + 1) = if M c = some m then g_sk M R m p ++ [c] else g_sk M R m p := by
  unfold g_sk
  rw [g_mv_succ h]
  by_cases h1 : (M c).isSome = true
  · rw [if_pos h1, List.filter_append]
    by_cases h2 : g_ky M c = m
    · rw [if_pos (g_ky_iff.mpr ⟨h1, h2⟩), List.append_assoc]
      congr 2
      simp [h2]
    · rw [if_neg (fun h => h2 (g_ky_iff.mp h).2)]
      congr 1
      simp [h2]
  · rw [if_neg h1, if_neg (fun h => h1 (g_ky_iff.mp h).1)]
theorem g_sb_pre : ∀ k m : Nat, m + k = 40 → g_sb M R m <+: g_so M R
  | 0, m, h => by
    have : m = 40 := by omega
    subst this
    exact List.prefix_refl _
  | k + 1, m, h => by
    refine List.IsPrefix.trans ?_ (g_sb_pre k (m + 1) (by omega))
    rw [g_sb_succ]
    exact List.prefix_append _ _
theorem g_sk_pre {m p : Nat} (hm : m < 40) : g_sk M R m p <+: g_so M R := by
  refine List.IsPrefix.trans ?_ (g_sb_pre (39 - m) (m + 1) (by omega))
  rw [g_sb_succ]
  unfold g_sk
  rw [List.prefix_append_right_inj]
  unfold g_mv
  exact ((List.take_prefix p R).filter _).filter _
theorem g_sp_mono {n i j a b : Nat} (hi : (g_sp M R n)[i]? = some a) (hj : (g_sp M R n)[j]? = some b) : i < j ↔ a < b := by
  have hp : (g_sp M R n).Pairwise (· < ·) := List.pairwise_lt_range.filter _
  have key : ∀ {i j a b : Nat}, (g_sp M R n)[i]? = some a → (g_sp M R n)[j]? = some b → i < j → a < b := by
    intro i j a b hi hj h
    have e1 := g_lt_len hi
    have e2 := g_lt_len hj
    have e3 := (List.pairwise_iff_getElem.mp hp) i j e1 e2 h
    rw [List.getElem?_eq_getElem e1] at hi
    rw [List.getElem?_eq_getElem e2] at hj
    rw [Option.some.inj hi, Option.some.inj hj] at e3
    exact e3
  constructor
  · exact key hi hj
  · intro h
    rcases Nat.lt_trichotomy i j with h1 | h1 | h1
    · exact h1
    · subst h1
      rw [hi] at hj
      cases hj
      omega
    · have := key hj hi h1
      omega
end SK
/-- items set anew at some places of a layer -/
def m_W (l : Nat) (sp Lc : List Nat) (I0 I1 : Nat → Int32) : Prop := (∀ j s c : Nat, sp[j]? = some s → Lc[j]? = some c → I1 (40 * l + s) = nI (g_nm c)) ∧ ∀ x : Nat, (∀ j s : Nat, j < Lc.length → sp[j]? = some s → x ≠ 40 * l + s) → I1 x = I0 x
theorem m_W_0 {l : Nat} {sp : List Nat} {I : Nat → Int32} : m_W l sp [] I I := ⟨fun j s c _ h => by simp at h, fun _ _ => rfl⟩
theorem m_W_on {l s c : Nat} {sp Lc : List Nat} {I0 I1 : Nat → Int32} (hnd : sp.Nodup) (hs : sp[Lc.length]? = some s) (h : m_W l sp Lc I0 I1) : m_W l sp (Lc ++ [c]) I0 (upd I1 (40 * l + s) (nI (g_nm c))) := by
  obtain ⟨h1, h2⟩ := h
  refine ⟨?_, ?_⟩
  · intro j s' c' hj hc
    rw [List.getElem?_append] at hc
    split at hc
    · next hlt =>
      rw [pk_un (fun e => by
        have e2 : s' = s := by omega
        subst e2
        have := g_nd_inj hnd hj hs
        omega)]
      exact h1 j s' c' hj hc
    · have hj1 := g_lt_len hc
      simp at hj1
      have hj2 : j = Lc.length := by omega
      subst hj2
      rw [Nat.sub_self] at hc
      simp at hc
      subst hc
      rw [hs] at hj
      cases hj
      rw [pk_us]
  · intro x hx
    rw [pk_un (hx _ s (by rw [List.length_append]; simp) hs)]
    exact h2 x (fun j s' hj => hx j s' (by rw [List.length_append]; omega))
theorem p_ms105 {en : Nat → Int32} {sj t v : Nat} (h1 : t ≤ sj) (h2 : sj < 40) (h3 : ∀ k : Nat, t ≤ k → k < sj → en k = -1) (h4 : en sj = nI v) (hv : v < 40) : q_lo (fun (st : Int32) => bX10_step_105 en st) (nI t) = some (nI sj) := by
  have H9 : ∃ e : Int32, q_lo (fun (st : Int32) => bX10_step_105 en st) (nI t) = some e ∧ e = nI sj := by
    refine q_inv (fun i (st : Int32) => st = nI (t + i)) (sj - t) ?_ ?_ _ rfl
    · rintro i st hi rfl
      show ∃ t9, bX10_step_105 en (nI (t + i)) = some (.inl t9) ∧ _
      unfold bX10_step_105
      simp (disch := omega) only [s_in, s_cl, s_leL, s_ltL, s_eqL, s_leR, s_ltR, s_eqR, s_le, s_lt, s_eq, s_addL, s_addL', s_mulL, s_mulL', s_mul, nI_add, s_subL, s_sub, s_m1, s_m1', s_lm1, s_ltm1, s_m1lt, s_m1le, s_m1p, s_10, s_let, s_el, s_er, s_b2, s_b3, s_b4, s_b5, s_b6, s_b7, s_b8, s_b9, s_b10, s_b11, s_b12, s_bind, eq_self, if_pos, if_neg, ite_true, ite_false, if_true, if_false, Bool.false_eq_true, reduceIte, h3 (t + i) (by omega) (by omega), s_0m1]
      exact ⟨_, rfl, rfl⟩
    · rintro st rfl
      rw [show t + (sj - t) = sj by omega]
      refine ⟨_, ?_, rfl⟩
      show bX10_step_105 en (nI sj) = _
      unfold bX10_step_105
      simp (disch := omega) only [s_in, s_cl, s_leL, s_ltL, s_eqL, s_leR, s_ltR, s_eqR, s_le, s_lt, s_eq, s_addL, s_addL', s_mulL, s_mulL', s_mul, nI_add, s_subL, s_sub, s_m1, s_m1', s_lm1, s_ltm1, s_m1lt, s_m1le, s_m1p, s_10, s_let, s_el, s_er, s_b2, s_b3, s_b4, s_b5, s_b6, s_b7, s_b8, s_b9, s_b10, s_b11, s_b12, s_bind, eq_self, if_pos, if_neg, ite_true, ite_false, if_true, if_false, Bool.false_eq_true, reduceIte, h4]
  obtain ⟨e, h8, rfl⟩ := H9
  exact h8
section MB
variable {M : Nat → Option Nat} {R : List Nat} {rw en : Nat → Int32} {l : Nat}
def g_sep (sp : List Nat) (j t : Nat) : Prop := ∀ k s : Nat, sp[k]? = some s → (k < j ↔ s < t)
theorem p_ms83 (hM : ∀ c v : Nat, M c = some v → v < 40) (hR40 : R.length ≤ 40) (hl : l < 24) (hr : ∀ j c : Nat, R[j]? = some c → rw j = nI (g_nm c) ∧ en j = (M c).elim (-1) nI) {m : Nat} (hm : m < 40) (x3 : Int32) (I0 I1 : Nat → Int32) {t : Nat} (ht : t ≤ 40) (hW : m_W l (g_sp M R R.length) (g_sb M R m) I0 I1) (hsep : g_sep (g_sp M R R.length) (g_sb M R m).length t) :
    ∃ t' I2, q_lo (fun (st : Int32 × Int32 × (Nat → Int32)) => bX10_step_83 rw en (nI l) x3 (nI R.length) (nI m) st.1 st.2.1 st.2.2) (nI t, 0, I1) = some (nI t', I2) ∧ t' ≤ 40 ∧ m_W l (g_sp M R R.length) (g_sb M R (m + 1)) I0 I2 ∧ g_sep (g_sp M R R.length) (g_sb M R (m + 1)).length t' := by
  have H9 : ∃ e : Int32 × (Nat → Int32), q_lo (fun (st : Int32 × Int32 × (Nat → Int32)) => bX10_step_83 rw en (nI l) x3 (nI R.length) (nI m) st.1 st.2.1 st.2.2) (nI t, 0, I1) = some e ∧ m_W l (g_sp M R R.length) (g_sb M R (m + 1)) I0 e.2 ∧ ∃ t', e.1 = nI t' ∧ t' ≤ 40 ∧ g_sep (g_sp M R R.length) (g_sb M R (m + 1)).length t' := by
    refine q_inv (fun p (st : Int32 × Int32 × (Nat → Int32)) => st.2.1 = nI p ∧ m_W l (g_sp M R R.length) (g_sk M R m p) I0 st.2.2 ∧ ∃ t', st.1 = nI t' ∧ t' ≤ 40 ∧ g_sep (g_sp M R R.length) (g_sk M R m p).length t') R.length ?_ ?_ _ ⟨rfl, by rw [g_sk_0]; exact hW, t, rfl, ht, by rw [g_sk_0]; exact hsep⟩
    · rintro p ⟨x, y, q⟩ hp ⟨h1, h2, t', h3, h4, h5⟩
      dsimp only at h1 h2 h3
      subst h1
      subst h3
      obtain ⟨c, hc⟩ : ∃ c, R[p]? = some c := ⟨_, List.getElem?_eq_getElem hp⟩
      obtain ⟨r1, r2⟩ := hr p c hc
      rw [g_sk_succ hc]
      show ∃ t9, bX10_step_83 rw en (nI l) x3 (nI R.length) (nI m) (nI t') (nI p) q = some (.inl t9) ∧ _
      unfold bX10_step_83 jX10_step_143
      by_cases hMc : M c = some m
      · rw [if_pos hMc]
        have hpre : g_sk M R m p ++ [c] <+: g_so M R := by
          have := g_sk_pre (M := M) (R := R) (p := p + 1) hm
          rw [g_sk_succ hc, if_pos hMc] at this
          exact this
        have hlen := hpre.length_le
        rw [List.length_append, List.length_singleton, g_so_len hM] at hlen
        obtain ⟨sj, hsj⟩ : ∃ sj, (g_sp M R R.length)[(g_sk M R m p).length]? = some sj := ⟨_, List.getElem?_eq_getElem (by omega)⟩
        have hsjR := g_sp_lt (g_mem_get hsj)
        obtain ⟨d, hd1, hd2⟩ := g_sp_mem.mp (g_mem_get hsj)
        have htle : t' ≤ sj := by
          have := h5 _ _ hsj
          omega
        obtain ⟨v, hv⟩ := Option.isSome_iff_exists.mp hd2
        have hv40 := hM d v hv
        have e1 : en p = nI m := by rw [r2, hMc]; rfl
        have e2 : en sj = nI v := by rw [(hr sj d hd1).2, hv]; rfl
        have e3 : ∀ k : Nat, t' ≤ k → k < sj → en k = -1 := by
          intro k hk1 hk2
          obtain ⟨d', hd'⟩ : ∃ d', R[k]? = some d' := ⟨_, List.getElem?_eq_getElem (by omega)⟩
          rw [(hr k d' hd').2]
          cases hMd : M d' with
          | none => rfl
          | some w =>
            exfalso
            have hks : k ∈ g_sp M R R.length := g_sp_mem.mpr ⟨d', hd', by rw [hMd]; rfl⟩
            obtain ⟨i, hi⟩ := List.mem_iff_getElem?.mp hks
            have h6 := h5 i k hi
            have h7 := g_sp_mono hi hsj
            omega
        have e4 := p_ms105 htle (by omega) e3 e2 hv40
        simp (disch := omega) only [s_in, s_cl, s_leL, s_ltL, s_eqL, s_leR, s_ltR, s_eqR, s_le, s_lt, s_eq, s_addL, s_addL', s_mulL, s_mulL', s_mul, nI_add, s_subL, s_sub, s_m1, s_m1', s_lm1, s_ltm1, s_m1lt, s_m1le, s_m1p, s_10, s_let, s_el, s_er, s_b2, s_b3, s_b4, s_b5, s_b6, s_b7, s_b8, s_b9, s_b10, s_b11, s_b12, s_bind, eq_self, if_pos, if_neg, ite_true, ite_false, if_true, if_false, Bool.false_eq_true, reduceIte, e1, e4, r1]
        refine ⟨_, rfl, rfl, m_W_on (g_sp_nd _) hsj h2, sj + 1, rfl, by omega, ?_⟩
        intro k s hk
        have h7 := g_sp_mono hk hsj
        have h8 := g_sp_mono hsj hk
        rw [List.length_append, List.length_singleton]
        omega
      · rw [if_neg hMc]
        have e1 : ¬ en p = nI m := by
          rw [r2]
          cases hMd : M c with
          | none => exact fun h => n_m1 (by omega) h.symm
          | some w =>
            intro h
            have hw := hM c w hMd
            have h' : nI w = nI m := h
            rw [s_eq (by omega) (by omega)] at h'
            exact hMc (by rw [hMd, h'])
        simp (disch := omega) only [s_in, s_cl, s_leL, s_ltL, s_eqL, s_leR, s_ltR, s_eqR, s_le, s_lt, s_eq, s_addL, s_addL', s_mulL, s_mulL', s_mul, nI_add, s_subL, s_sub, s_m1, s_m1', s_lm1, s_ltm1, s_m1lt, s_m1le, s_m1p, s_10, s_let, s_el, s_er, s_b2, s_b3, s_b4, s_b5, s_b6, s_b7, s_b8, s_b9, s_b10, s_b11, s_b12, s_bind, eq_self, if_pos, if_neg, ite_true, ite_false, if_true, if_false, Bool.false_eq_true, reduceIte, e1]
        exact ⟨_, rfl, rfl, h2, t', rfl, h4, h5⟩
    · rintro ⟨x, y, q⟩ ⟨h1, h2, t', h3, h4, h5⟩
      dsimp only at h1 h2 h3
      subst h1
      subst h3
      rw [g_sk_all] at h2 h5
      refine ⟨(nI t', q), ?_, h2, t', rfl, h4, h5⟩
      show bX10_step_83 rw en (nI l) x3 (nI R.length) (nI m) (nI t') (nI R.length) q = _
      unfold bX10_step_83
      simp (disch := omega) only [s_in, s_cl, s_leL, s_ltL, s_eqL, s_leR, s_ltR, s_eqR, s_le, s_lt, s_eq, s_addL, s_addL', s_mulL, s_mulL', s_mul, nI_add, s_subL, s_sub, s_m1, s_m1', s_lm1, s_ltm1, s_m1lt, s_m1le, s_m1p, s_10, s_let, s_el, s_er, s_b2, s_b3, s_b4, s_b5, s_b6, s_b7, s_b8, s_b9, s_b10, s_b11, s_b12, s_bind, eq_self, if_pos, if_neg, ite_true, ite_false, if_true, if_false, Bool.false_eq_true, reduceIte]
  obtain ⟨⟨e1, e2⟩, h8, h9, t', h10, h11, h12⟩ := H9
  dsimp only at h9 h10
  subst h10
  exact ⟨t', e2, h8, h11, h9, h12⟩
theorem p_ms73 (hM : ∀ c v : Nat, M c = some v → v < 40) (hR40 : R.length ≤ 40) (hRb : ∀ c : Nat, c ∈ R → c < 40) (hl : l < 24) (hr : ∀ j c : Nat, R[j]? = some c → rw j = nI (g_nm c) ∧ en j = (M c).elim (-1) nI) (x3 : Int32) {I0 : Nat → Int32} (hI : m_I R l I0) :
    ∃ I2, q_lo (fun (st : Int32 × Int32 × (Nat → Int32)) => bX10_step_73 rw en (nI l) x3 (nI R.length) st.1 st.2.1 st.2.2) (0, 0, I0) = some I2 ∧ m_I (g_nw M R) l I2 ∧ ∀ i k : Nat, i ≠ l → k < 40 → I2 (40 * i + k) = I0 (40 * i + k) := by
  have H9 : ∃ e : Nat → Int32, q_lo (fun (st : Int32 × Int32 × (Nat → Int32)) => bX10_step_73 rw en (nI l) x3 (nI R.length) st.1 st.2.1 st.2.2) (0, 0, I0) = some e ∧ m_W l (g_sp M R R.length) (g_so M R) I0 e := by
    refine q_inv (fun m (st : Int32 × Int32 × (Nat → Int32)) => st.2.1 = nI m ∧ m_W l (g_sp M R R.length) (g_sb M R m) I0 st.2.2 ∧ ∃ t, st.1 = nI t ∧ t ≤ 40 ∧ g_sep (g_sp M R R.length) (g_sb M R m).length t) 40 ?_ ?_ _ ⟨rfl, m_W_0, 0, rfl, by omega, fun k s _ => ⟨fun h => absurd h (Nat.not_lt_zero _), fun h => absurd h (Nat.not_lt_zero _)⟩⟩
    · rintro m ⟨x, y, q⟩ hm ⟨h1, h2, t, h3, h4, h5⟩
      dsimp only at h1 h2 h3
      subst h1
      subst h3
      obtain ⟨t', I2, k1, k2, k3, k4⟩ := p_ms83 hM hR40 hl hr hm x3 I0 q h4 h2 h5
      show ∃ t9, bX10_step_73 rw en (nI l) x3 (nI R.length) (nI t) (nI m) q = some (.inl t9) ∧ _
      unfold bX10_step_73
      simp (disch := omega) only [s_in, s_cl, s_leL, s_ltL, s_eqL, s_leR, s_ltR, s_eqR, s_le, s_lt, s_eq, s_addL, s_addL', s_mulL, s_mulL', s_mul, nI_add, s_subL, s_sub, s_m1, s_m1', s_lm1, s_ltm1, s_m1lt, s_m1le, s_m1p, s_10, s_let, s_el, s_er, s_b2, s_b3, s_b4, s_b5, s_b6, s_b7, s_b8, s_b9, s_b10, s_b11, s_b12, s_bind, eq_self, if_pos, if_neg, ite_true, ite_false, if_true, if_false, Bool.false_eq_true, reduceIte, k1]
      exact ⟨_, rfl, rfl, k3, t', rfl, k2, k4⟩
    · rintro ⟨x, y, q⟩ ⟨h1, h2, -⟩
      dsimp only at h1 h2
      subst h1
      refine ⟨q, ?_, h2⟩
      show bX10_step_73 rw en (nI l) x3 (nI R.length) x (nI 40) q = _
      unfold bX10_step_73
      simp (disch := omega) only [s_in, s_cl, s_leL, s_ltL, s_eqL, s_leR, s_ltR, s_eqR, s_le, s_lt, s_eq, s_addL, s_addL', s_mulL, s_mulL', s_mul, nI_add, s_subL, s_sub, s_m1, s_m1', s_lm1, s_ltm1, s_m1lt, s_m1le, s_m1p, s_10, s_let, s_el, s_er, s_b2, s_b3, s_b4, s_b5, s_b6, s_b7, s_b8, s_b9, s_b10, s_b11, s_b12, s_bind, eq_self, if_pos, if_neg, ite_true, ite_false, if_true, if_false, Bool.false_eq_true, reduceIte]
  obtain ⟨I2, h8, h9, h10⟩ := H9
  refine ⟨I2, h8, ?_, ?_⟩
  · obtain ⟨n1, n2, n3⟩ := g_nw_Pt (M := M) (R := R)
    intro k c hk
    by_cases hks : k ∈ g_sp M R R.length
    · obtain ⟨j, hj⟩ := List.mem_iff_getElem?.mp hks
      have hjl := g_lt_len hj
      have hsl := g_so_len (R := R) hM
      obtain ⟨d, hd⟩ : ∃ d, (g_so M R)[j]? = some d := ⟨_, List.getElem?_eq_getElem (by omega)⟩
      have := n2 j k d hj hd
      rw [hk] at this
      cases this
      obtain ⟨s, -, hs⟩ := (g_so_set hM).mp (g_mem_get hd)
      exact ⟨hRb c (g_mem_get hs), h9 j k c hj hd⟩
    · rw [n3 k hks] at hk
      obtain ⟨i1, i2⟩ := hI k c hk
      refine ⟨i1, ?_⟩
      rw [h10 _ (fun j s _ hj e => hks (by rw [show k = s by omega]; exact g_mem_get hj))]
      exact i2
  · intro i k hi hk
    refine h10 _ (fun j s _ hj e => ?_)
    have := g_sp_lt (g_mem_get hj)
    omega
theorem p_ms181 (hR40 : R.length ≤ 40) (hl : l < 24) (hr : ∀ j c : Nat, R[j]? = some c → c < 40 ∧ rw j = nI (g_nm c)) (I0 : Nat → Int32) :
    ∃ I2, q_lo (fun (st : Int32 × (Nat → Int32)) => bX10_step_181 rw (nI l) (nI R.length) st.1 st.2) (0, I0) = some I2 ∧ m_I R l I2 ∧ ∀ i k : Nat, i ≠ l → k < 40 → I2 (40 * i + k) = I0 (40 * i + k) := by
  have H9 : ∃ e : Nat → Int32, q_lo (fun (st : Int32 × (Nat → Int32)) => bX10_step_181 rw (nI l) (nI R.length) st.1 st.2) (0, I0) = some e ∧ m_I R l e ∧ ∀ i k : Nat, i ≠ l → k < 40 → e (40 * i + k) = I0 (40 * i + k) := by
    refine q_inv (fun n (st : Int32 × (Nat → Int32)) => st.1 = nI n ∧ (∀ k c : Nat, k < n → R[k]? = some c → st.2 (40 * l + k) = nI (g_nm c)) ∧ ∀ i k : Nat, i ≠ l → k < 40 → st.2 (40 * i + k) = I0 (40 * i + k)) R.length ?_ ?_ _ ⟨rfl, fun k c h => by omega, fun _ _ _ _ => rfl⟩
    · rintro n ⟨x, q⟩ hn ⟨h1, h2, h3⟩
      dsimp only at h1 h2 h3
      subst h1
      obtain ⟨c, hc⟩ : ∃ c, R[n]? = some c := ⟨_, List.getElem?_eq_getElem hn⟩
      obtain ⟨r1, r2⟩ := hr n c hc
      show ∃ t9, bX10_step_181 rw (nI l) (nI R.length) (nI n) q = some (.inl t9) ∧ _
      unfold bX10_step_181
      simp (disch := omega) only [s_in, s_cl, s_leL, s_ltL, s_eqL, s_leR, s_ltR, s_eqR, s_le, s_lt, s_eq, s_addL, s_addL', s_mulL, s_mulL', s_mul, nI_add, s_subL, s_sub, s_m1, s_m1', s_lm1, s_ltm1, s_m1lt, s_m1le, s_m1p, s_10, s_let, s_el, s_er, s_b2, s_b3, s_b4, s_b5, s_b6, s_b7, s_b8, s_b9, s_b10, s_b11, s_b12, s_bind, eq_self, if_pos, if_neg, ite_true, ite_false, if_true, if_false, Bool.false_eq_true, reduceIte, r2]
      refine ⟨_, rfl, rfl, ?_, ?_⟩
      · intro k d hk hd
        dsimp only
        by_cases hkn : k = n
        · subst hkn
          rw [hc] at hd
          cases hd
          rw [pk_us]
        · rw [pk_un (by omega)]
          exact h2 k d (by omega) hd
      · intro i k hi hk
        dsimp only
        rw [pk_un (by omega)]
        exact h3 i k hi hk
    · rintro ⟨x, q⟩ ⟨h1, h2, h3⟩
      dsimp only at h1 h2 h3
      subst h1
      refine ⟨q, ?_, fun k c hk => ⟨(hr k c hk).1, h2 k c (g_lt_len hk) hk⟩, h3⟩
      show bX10_step_181 rw (nI l) (nI R.length) (nI R.length) q = _
      unfold bX10_step_181
      simp (disch := omega) only [s_in, s_cl, s_leL, s_ltL, s_eqL, s_leR, s_ltR, s_eqR, s_le, s_lt, s_eq, s_addL, s_addL', s_mulL, s_mulL', s_mul, nI_add, s_subL, s_sub, s_m1, s_m1', s_lm1, s_ltm1, s_m1lt, s_m1le, s_m1p, s_10, s_let, s_el, s_er, s_b2, s_b3, s_b4, s_b5, s_b6, s_b7, s_b8, s_b9, s_b10, s_b11, s_b12, s_bind, eq_self, if_pos, if_neg, ite_true, ite_false, if_true, if_false, Bool.false_eq_true, reduceIte]
  exact H9
end MB
section MS
variable {ex bx : Nat → Bool} {up lo lay : Nat → Nat} {N : Nat} {row : Nat → List Nat} {A F T U L S I P D : Nat → Int32}
theorem m_O_set (hG : g_G ex up lo bx lay N) (hV : g_V ex up lo bx lay N row) (hO : m_O N row S I P D) {l : Nat} (hl : l < N) {R' : List Nat} (h1 : R'.Nodup) (h2 : ∀ c : Nat, c ∈ R' ↔ c ∈ row l) (h3 : R'.length = (row l).length) {I' : Nat → Int32} (hI : m_I R' l I') (hI2 : ∀ i k : Nat, i ≠ l → k < 40 → I' (40 * i + k) = I (40 * i + k)) :
    ∃ P' D', fX10_note S I' P D (nI l) = some (P', D') ∧ m_O N (g_set row l R') S I' P' D' := by
  have hN := hG.1
  obtain ⟨o1, o2, o3, o4⟩ := hO l hl
  obtain ⟨P', D', k1, k2, k3, k4⟩ := p_note (S := S) hI (by omega) (by omega) h1 (by rw [o3, h3]) P D
  refine ⟨P', D', k1, ?_⟩
  intro i hi
  by_cases hil : i = l
  · subst hil
    rw [g_set_at]
    exact ⟨by omega, h1, by rw [h3]; exact o3, k2⟩
  · rw [g_set_ne hil]
    refine m_O_note (N := N) (n := N) (row := row) (S := S) (S' := S) (I := I) (l := l) (R := R') hN (fun i hi => by omega) (by omega) (fun i hi _ => hO i hi) (fun _ _ => rfl) hI2 ?_ k3 k4 i hi hil
    intro i hi hil b hb hm hm2
    rw [h2, (hV l (by omega)).2] at hm2
    rw [(hV i (by omega)).2] at hm
    exact hil (g_hd_box hb hm2.2.2 hm.2.2)
theorem p_ms25 (hG : g_G ex up lo bx lay N) (hV : g_V ex up lo bx lay N row) (hA : m_A ex up lo A F T U) (hL : m_L bx lay L) (hO : m_O N row S I P D) {l : Nat} (hl : l < N) (s : Bool) (hs : s = true → 1 ≤ l) (rw en nr : Nat → Int32) :
    ∃ rw' en' nr', q_lo (fun (st : Int32 × (Nat → Int32) × (Nat → Int32) × (Nat → Int32)) => bX10_step_25 A F T U L I P D (nI l) (if s then 1 else 0) (nI (row l).length) st.1 st.2.1 st.2.2.1 st.2.2.2) (0, rw, en, nr) = some (rw', en', nr') ∧ ∀ j c : Nat, (row l)[j]? = some c → rw' j = nI (g_nm c) ∧ en' j = (g_mc ex up lo lay row s l c).elim (-1) nI := by
  have hN := hG.1
  obtain ⟨o1, o2, o3, o4⟩ := hO l hl
  have H9 : ∃ e : (Nat → Int32) × (Nat → Int32) × (Nat → Int32), q_lo (fun (st : Int32 × (Nat → Int32) × (Nat → Int32) × (Nat → Int32)) => bX10_step_25 A F T U L I P D (nI l) (if s then 1 else 0) (nI (row l).length) st.1 st.2.1 st.2.2.1 st.2.2.2) (0, rw, en, nr) = some e ∧ ∀ j c : Nat, (row l)[j]? = some c → e.1 j = nI (g_nm c) ∧ e.2.1 j = (g_mc ex up lo lay row s l c).elim (-1) nI := by
    refine q_inv (fun n (st : Int32 × (Nat → Int32) × (Nat → Int32) × (Nat → Int32)) => st.1 = nI n ∧ ∀ j c : Nat, j < n → (row l)[j]? = some c → st.2.1 j = nI (g_nm c) ∧ st.2.2.1 j = (g_mc ex up lo lay row s l c).elim (-1) nI) (row l).length ?_ ?_ _ ⟨rfl, fun j c h => by omega⟩
    · rintro n ⟨x, q, r, z⟩ hn ⟨h1, h2⟩
      dsimp only at h1 h2
      subst h1
      obtain ⟨c, hc⟩ : ∃ c, (row l)[n]? = some c := ⟨_, List.getElem?_eq_getElem hn⟩
      obtain ⟨nr', h3⟩ := p_mmed hG hV hA hL hO hl hc s hs z
      show ∃ t9, bX10_step_25 A F T U L I P D (nI l) (if s then 1 else 0) (nI (row l).length) (nI n) q r z = some (.inl t9) ∧ _
      unfold bX10_step_25
      rw [h3]
      simp (disch := omega) only [s_in, s_cl, s_leL, s_ltL, s_eqL, s_leR, s_ltR, s_eqR, s_le, s_lt, s_eq, s_addL, s_addL', s_mulL, s_mulL', s_mul, nI_add, s_subL, s_sub, s_m1, s_m1', s_lm1, s_ltm1, s_m1lt, s_m1le, s_m1p, s_10, s_let, s_el, s_er, s_b2, s_b3, s_b4, s_b5, s_b6, s_b7, s_b8, s_b9, s_b10, s_b11, s_b12, s_bind, eq_self, if_pos, if_neg, ite_true, ite_false, if_true, if_false, Bool.false_eq_true, reduceIte, p_item0 o4.I (show l < 24 by omega) o1 hc]
      refine ⟨_, rfl, rfl, ?_⟩
      intro j d hj hd
      dsimp only
      by_cases hjn : j = n
      · subst hjn
        rw [hc] at hd
        cases hd
        rw [pk_us, pk_us]
        exact ⟨rfl, rfl⟩
      · rw [pk_un hjn, pk_un hjn]
        exact h2 j d (by omega) hd
    · rintro ⟨x, q, r, z⟩ ⟨h1, h2⟩
      dsimp only at h1 h2
      subst h1
      refine ⟨(q, r, z), ?_, fun j c hj => h2 j c (g_lt_len hj) hj⟩
      show bX10_step_25 A F T U L I P D (nI l) (if s then 1 else 0) (nI (row l).length) (nI (row l).length) q r z = _
      unfold bX10_step_25
      rw [if_pos (Int32.le_refl _)]
  obtain ⟨⟨z1, z2, z3⟩, h8, h9⟩ := H9
  exact ⟨z1, z2, z3, h8, h9⟩
theorem p_mstep (hG : g_G ex up lo bx lay N) (hV : g_V ex up lo bx lay N row) (hA : m_A ex up lo A F T U) (hL : m_L bx lay L) (hO : m_O N row S I P D) {l : Nat} (hl : l < N) (s : Bool) (hs : s = true → 1 ≤ l) (rw en nr : Nat → Int32) :
    ∃ I' P' D' rw' en' nr', fX10_step A F T U (nI N) L S I P D rw en nr (nI l) (if s then 1 else 0) = some (I', P', D', rw', en', nr') ∧ m_O N (g_stp ex up lo lay row s l) S I' P' D' := by
  have hN := hG.1
  have hl24 : l < 24 := by omega
  obtain ⟨o1, o2, o3, o4⟩ := hO l hl
  have hVl := hV l hl24
  obtain ⟨x1, y1, a1, a2, a3⟩ := p_mca hG hV hA hL hO hl24
  obtain ⟨rw', en', nr', b1, b2⟩ := p_ms25 hG hV hA hL hO hl s hs rw en nr
  have hM : ∀ c v : Nat, g_mc ex up lo lay row s l c = some v → v < 40 := g_mc_lt
  obtain ⟨I1, c1, c2, c3⟩ := p_ms73 hM o1 (fun c hc => ((hVl.2 c).mp hc).2.1) hl24 b2 (nI (g_ca ex up lo lay row l)) o4.I
  obtain ⟨n1, n2⟩ := g_nw_perm (M := g_mc ex up lo lay row s l) hM o2
  have hlen := (g_nw_Pt (M := g_mc ex up lo lay row s l) (R := row l)).1
  obtain ⟨P1, D1, d1, d2⟩ := m_O_set hG hV hO hl n1 n2 hlen c2 c3
  have hV2 := g_V_nr hV s hl24
  obtain ⟨x2, y2, e1, e2, e3⟩ := p_mca hG hV2 hA hL (show m_O N (g_nr ex up lo lay row s l) S I1 P1 D1 from d2) hl24
  have hb1 := g_ca_b (ex := ex) (up := up) (lo := lo) (lay := lay) (row := row) l
  have hb2 := g_ca_b (ex := ex) (up := up) (lo := lo) (lay := lay) (row := g_nr ex up lo lay row s l) l
  unfold fX10_step
  rw [a1, s_bind, a2, s_bind, if_pos (n_in (show l < 24 by omega) (by decide)), s_let, s_cl (by omega), o3, b1, s_b3, nI_add, a3, c1, s_bind, d1, s_b2, e1, s_bind, e2, s_bind, nI_add, e3]
  unfold g_stp
  by_cases hc : g_ca ex up lo lay (g_nr ex up lo lay row s l) l ≤ g_ca ex up lo lay row l
  · rw [if_neg (by rw [s_lt (by omega) (by omega)]; omega), if_pos hc]
    exact ⟨_, _, _, _, _, _, rfl, d2⟩
  · rw [if_pos (by rw [s_lt (by omega) (by omega)]; omega), if_neg hc]
    obtain ⟨I2, f1, f2, f3⟩ := p_ms181 o1 hl24 (fun j c hj => ⟨((hVl.2 c).mp (g_mem_get hj)).2.1, (b2 j c hj).1⟩) I1
    have hrl : g_nr ex up lo lay row s l l = g_nw (g_mc ex up lo lay row s l) (row l) := g_set_at
    obtain ⟨P2, D2, h1, h2⟩ := m_O_set hG hV2 (show m_O N (g_nr ex up lo lay row s l) S I1 P1 D1 from d2) hl o2 (fun c => by rw [hrl]; exact (n2 c).symm) (by rw [hrl, hlen]) f2 f3
    have hback : g_set (g_nr ex up lo lay row s l) l (row l) = row := by
      unfold g_nr
      rw [g_set_set, g_set_self]
    rw [hback] at h2
    rw [f1, s_bind, h1, s_b2]
    exact ⟨_, _, _, _, _, _, rfl, h2⟩
end MS
