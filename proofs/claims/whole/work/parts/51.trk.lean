/-! PURE: tracks, and the class's. -/
def g_lx (lf : Nat → Int) (a b : Nat) : Prop := lf a < lf b ∨ (lf a = lf b ∧ a < b)
def g_fit (te : Nat → Int) (x : Int) (m : Nat) : Nat := ((List.range m).find? (fun t => decide (te t < x))).getD m
def g_t1 (lf rt : Nat → Int) (st : Nat × (Nat → Int) × (Nat → Nat)) (a : Nat) : Nat × (Nat → Int) × (Nat → Nat) :=
  (max st.1 (g_fit st.2.1 (lf a) st.1 + 1), (fun t => if t = g_fit st.2.1 (lf a) st.1 then rt a else st.2.1 t), (fun b => if b = a then g_fit st.2.1 (lf a) st.1 else st.2.2 b))
def g_ts (lf rt : Nat → Int) (L : List Nat) : Nat × (Nat → Int) × (Nat → Nat) := L.foldl (g_t1 lf rt) (0, (fun _ => 0), (fun _ => 0))
theorem g_ts_snoc {lf rt : Nat → Int} {L : List Nat} {a : Nat} : g_ts lf rt (L ++ [a]) = g_t1 lf rt (g_ts lf rt L) a := by
  unfold g_ts
  rw [List.foldl_append]
  rfl
theorem g_fit_le (te : Nat → Int) (x : Int) (m : Nat) : g_fit te x m ≤ m := by
  unfold g_fit
  cases h : (List.range m).find? (fun t => decide (te t < x)) with
  | none => exact Nat.le_refl _
  | some t =>
    have := List.mem_range.mp (List.mem_of_find?_eq_some h)
    show t ≤ m
    omega
theorem g_fit_of {te : Nat → Int} {x : Int} {m t : Nat} (h1 : ∀ i, i < t → ¬ te i < x) (h2 : t ≤ m) (h3 : t = m ∨ te t < x) : g_fit te x m = t := by
  unfold g_fit
  cases h : (List.range m).find? (fun t => decide (te t < x)) with
  | none =>
    rw [List.find?_eq_none] at h
    show m = t
    rcases h3 with h3 | h3
    · exact h3.symm
    · by_cases h4 : t = m
      · exact h4.symm
      · exact absurd h3 (by simpa using h t (List.mem_range.mpr (by omega)))
  | some i =>
    show i = t
    rw [List.find?_range_eq_some] at h
    obtain ⟨k1, k2, k3⟩ := h
    have hi := List.mem_range.mp k2
    rcases Nat.lt_trichotomy i t with h4 | h4 | h4
    · exact absurd (by simpa using k1) (h1 i h4)
    · exact h4
    · have h5 := k3 t h4
      rcases h3 with h3 | h3
      · omega
      · simp [h3] at h5
theorem g_fit_at {te : Nat → Int} {x : Int} {m : Nat} : (∀ i, i < g_fit te x m → ¬ te i < x) ∧ (g_fit te x m = m ∨ te (g_fit te x m) < x) := by
  unfold g_fit
  cases h : (List.range m).find? (fun t => decide (te t < x)) with
  | none =>
    rw [List.find?_eq_none] at h
    exact ⟨fun i hi => by simpa using h i (List.mem_range.mpr hi), .inl rfl⟩
  | some t =>
    rw [List.find?_range_eq_some] at h
    obtain ⟨k1, k2, k3⟩ := h
    exact ⟨fun i hi => by simpa using k3 i hi, .inr (by simpa using k1)⟩
theorem g_ts_len {lf rt : Nat → Int} : ∀ k (L : List Nat), L.length = k → (g_ts lf rt L).1 ≤ L.length := by
  intro k
  induction k with
  | zero =>
    intro L h
    rw [List.eq_nil_of_length_eq_zero h]
    exact Nat.le_refl _
  | succ k ih =>
    intro L h
    have hne : L ≠ [] := fun e => by rw [e] at h; simp at h
    rw [← List.dropLast_concat_getLast hne, g_ts_snoc, List.length_append, List.length_singleton]
    have h1 := ih L.dropLast (by rw [List.length_dropLast]; omega)
    have h2 := g_fit_le (g_ts lf rt L.dropLast).2.1 (lf (L.getLast hne)) (g_ts lf rt L.dropLast).1
    show max _ _ ≤ _
    omega
/-- ends lie among the right ends -/
theorem g_ts_te {lf rt : Nat → Int} {M : Int} : ∀ k (L : List Nat), L.length = k → (∀ a, a ∈ L → 0 ≤ rt a ∧ rt a ≤ M) → ∀ t, t < (g_ts lf rt L).1 → 0 ≤ (g_ts lf rt L).2.1 t ∧ (g_ts lf rt L).2.1 t ≤ M := by
  intro k
  induction k with
  | zero =>
    intro L h _ t ht
    rw [List.eq_nil_of_length_eq_zero h] at ht
    exact absurd ht (Nat.not_lt_zero t)
  | succ k ih =>
    intro L h hr t ht
    have hne : L ≠ [] := fun e => by rw [e] at h; simp at h
    have h1 := ih L.dropLast (by rw [List.length_dropLast]; omega) (fun a ha => hr a ((List.dropLast_sublist L).subset ha))
    have h2 := g_fit_le (g_ts lf rt L.dropLast).2.1 (lf (L.getLast hne)) (g_ts lf rt L.dropLast).1
    rw [← List.dropLast_concat_getLast hne, g_ts_snoc] at ht ⊢
    have ht2 : t < max (g_ts lf rt L.dropLast).1 (g_fit (g_ts lf rt L.dropLast).2.1 (lf (L.getLast hne)) (g_ts lf rt L.dropLast).1 + 1) := ht
    show 0 ≤ (if t = _ then _ else _) ∧ (if t = _ then _ else _) ≤ M
    split
    · exact hr _ (List.getLast_mem hne)
    · exact h1 t (by omega)
theorem g_ts_tr {lf rt : Nat → Int} {L : List Nat} {a b : Nat} (h : b ≠ a) : (g_ts lf rt (L ++ [a])).2.2 b = (g_ts lf rt L).2.2 b := by
  rw [g_ts_snoc]
  exact if_neg h
theorem g_ins_lex {lf : Nat → Int} {L : List Nat} {s x : Nat} (hL : L.Pairwise (g_lx lf)) (h1 : ∀ j a : Nat, s ≤ j → L[j]? = some a → lf x < lf a) (h2 : s = 0 ∨ ∃ a, L[s - 1]? = some a ∧ lf a ≤ lf x) (h3 : ∀ a, a ∈ L → a < x) : (g_ins L s x).Pairwise (g_lx lf) := by
  unfold g_ins
  have hL' := hL
  rw [← List.take_append_drop s L, List.pairwise_append] at hL'
  obtain ⟨p1, p2, p3⟩ := hL'
  rw [List.pairwise_append, List.pairwise_cons]
  have key : ∀ i j a b : Nat, i ≤ j → L[i]? = some a → L[j]? = some b → lf a ≤ lf b := by
    intro i j a b hij hi hj
    by_cases e : i = j
    · subst e
      rw [hi] at hj
      cases hj
      exact Int.le_refl _
    · have e1 := g_lt_len hi
      have e2 := g_lt_len hj
      have e3 := (List.pairwise_iff_getElem.mp hL) i j e1 e2 (by omega)
      rw [List.getElem?_eq_getElem e1] at hi
      rw [List.getElem?_eq_getElem e2] at hj
      rw [Option.some.inj hi, Option.some.inj hj] at e3
      unfold g_lx at e3
      omega
  refine ⟨p1, ⟨?_, p2⟩, ?_⟩
  · intro b hb
    obtain ⟨k, hk⟩ := List.mem_iff_getElem?.mp hb
    rw [List.getElem?_drop] at hk
    exact .inl (h1 _ _ (by omega) hk)
  · intro a ha b hb
    rcases List.mem_cons.mp hb with hb | hb
    · subst hb
      obtain ⟨k, hk⟩ := List.mem_iff_getElem?.mp ha
      obtain ⟨hk1, hk2⟩ := g_take_get hk
      have h4 := h3 a (g_mem_get hk2)
      rcases h2 with h2 | ⟨d, h2, h5⟩
      · omega
      · have := key k (s - 1) a d (by omega) hk2 h2
        unfold g_lx
        omega
    · exact p3 a ha b hb
section TC
variable {ex bx : Nat → Bool} {up lo lay : Nat → Nat} {N : Nat} {row : Nat → List Nat} {wd : Nat → Nat} {X : Nat → Nat → Int} {w sz ar uu ll C : Nat → Int32}
def g_um (up lay wd : Nat → Nat) (X : Nat → Nat → Int) (l a : Nat) : Int := g_mid wd X l (g_uc up lay a l)
def g_lm (lo lay wd : Nat → Nat) (X : Nat → Nat → Int) (l a : Nat) : Int := g_mid wd X (l + 1) (g_lc lo lay a l)
def g_lft (up lo lay wd : Nat → Nat) (X : Nat → Nat → Int) (l a : Nat) : Int := min (g_um up lay wd X l a) (g_lm lo lay wd X l a)
def g_rt (up lo lay wd : Nat → Nat) (X : Nat → Nat → Int) (l a : Nat) : Int := max (g_um up lay wd X l a) (g_lm lo lay wd X l a)
/-- the level parts of a gap -/
def g_prt (ex : Nat → Bool) (up lo lay wd : Nat → Nat) (X : Nat → Nat → Int) (n l : Nat) : List Nat := (g_ps ex up lo lay n l).filter (fun a => decide (g_um up lay wd X l a ≠ g_lm lo lay wd X l a))
/-- as they are taken -/
def g_Lp (ex : Nat → Bool) (up lo lay wd : Nat → Nat) (X : Nat → Nat → Int) (l : Nat) (Lp : List Nat) : Prop := Lp.Perm (g_prt ex up lo lay wd X 24 l) ∧ Lp.Pairwise (g_lx (g_lft up lo lay wd X l))
theorem p_spot {L : List Nat} {lf rt : Nat → Int} {a : Nat} (hL : L.length < 24) (hb : ∀ b, b ∈ L → 0 ≤ lf b ∧ lf b ≤ 1000000) (ha : 0 ≤ lf a ∧ lf a ≤ 1000000) {q r z : Nat → Int32} (hq : ∀ j b : Nat, L[j]? = some b → q j = iI (lf b) ∧ r j = iI (rt b) ∧ z j = nI b) :
    ∃ s q' r' z', fX8_openSpot q r z (nI L.length) (iI (lf a)) = some (nI s, q', r', z') ∧ s ≤ L.length ∧ c_sh L.length s q q' ∧ c_sh L.length s r r' ∧ c_sh L.length s z z' ∧ (∀ j b : Nat, s ≤ j → L[j]? = some b → lf a < lf b) ∧ (s = 0 ∨ ∃ b, L[s - 1]? = some b ∧ lf b ≤ lf a) := by
  have H8 : ∃ e : Int32 × (Nat → Int32) × (Nat → Int32) × (Nat → Int32), q_lo (fun (st : Int32 × (Nat → Int32) × (Nat → Int32) × (Nat → Int32)) => bX8_openSpot_2 (iI (lf a)) st.1 st.2.1 st.2.2.1 st.2.2.2) (nI L.length, q, r, z) = some e ∧ ∃ s, s ≤ L.length ∧ e.1 = nI s ∧ c_sh L.length s q e.2.1 ∧ c_sh L.length s r e.2.2.1 ∧ c_sh L.length s z e.2.2.2 ∧ (∀ j b : Nat, s ≤ j → L[j]? = some b → lf a < lf b) ∧ (s = 0 ∨ ∃ b, L[s - 1]? = some b ∧ lf b ≤ lf a) := by
    refine q_invx (fun i (st : Int32 × (Nat → Int32) × (Nat → Int32) × (Nat → Int32)) => st.1 = nI (L.length - i) ∧ c_sh L.length (L.length - i) q st.2.1 ∧ c_sh L.length (L.length - i) r st.2.2.1 ∧ c_sh L.length (L.length - i) z st.2.2.2 ∧ ∀ j b : Nat, L.length - i ≤ j → L[j]? = some b → lf a < lf b) L.length ?_ ?_ _ ⟨rfl, c_sh_0, c_sh_0, c_sh_0, fun j b hj hb => by have := g_lt_len hb; omega⟩
    · rintro i ⟨x, q1, r1, z1⟩ hi ⟨hx, t1, t2, t4, t3⟩
      dsimp only at hx t1 t2 t4
      subst hx
      obtain ⟨s, hs⟩ : ∃ s, L.length - i = s + 1 := ⟨L.length - i - 1, by omega⟩
      have hs2 : L.length - (i + 1) = s := by omega
      rw [hs] at t1 t2 t3 t4
      rw [hs2]
      obtain ⟨b, hb1⟩ : ∃ b, L[s]? = some b := ⟨_, List.getElem?_eq_getElem (by omega)⟩
      have hbb := hb b (g_mem_get hb1)
      have b3 : q1 s = iI (lf b) := by rw [t1.1 s (by omega)]; exact (hq s b hb1).1
      show (∃ t9, bX8_openSpot_2 (iI (lf a)) (nI (L.length - i)) q1 r1 z1 = some (.inl t9) ∧ _) ∨ ∃ e, bX8_openSpot_2 (iI (lf a)) (nI (L.length - i)) q1 r1 z1 = some (.inr e) ∧ _
      rw [hs]
      unfold bX8_openSpot_2
      by_cases hc : lf b ≤ lf a
      · right
        have hc2 : iI (lf b) ≤ iI (lf a) := by rw [iI_le (by omega) (by omega) (by omega) (by omega)]; exact hc
        simp (disch := omega) only [s_in, s_cl, s_leL, s_ltL, s_eqL, s_leR, s_ltR, s_eqR, s_le, s_lt, s_eq, s_addL, s_addL', s_mulL, s_mulL', s_mul, nI_add, s_subL, s_sub, s_m1, s_m1', s_lm1, s_ltm1, s_m1lt, s_m1le, s_m1p, s_10, s_let, s_el, s_er, s_b2, s_b3, s_b4, s_b5, s_b6, s_b7, s_b8, s_b9, s_b10, s_b11, s_b12, s_bind, eq_self, if_pos, if_neg, ite_true, ite_false, if_true, if_false, Bool.false_eq_true, reduceIte, Nat.add_sub_cancel, b3, hc2]
        exact ⟨_, rfl, s + 1, by omega, rfl, t1, t2, t4, t3, .inr ⟨b, by rw [Nat.add_sub_cancel]; exact hb1, hc⟩⟩
      · left
        have hc2 : ¬ iI (lf b) ≤ iI (lf a) := by rw [iI_le (by omega) (by omega) (by omega) (by omega)]; exact hc
        simp (disch := omega) only [s_in, s_cl, s_leL, s_ltL, s_eqL, s_leR, s_ltR, s_eqR, s_le, s_lt, s_eq, s_addL, s_addL', s_mulL, s_mulL', s_mul, nI_add, s_subL, s_sub, s_m1, s_m1', s_lm1, s_ltm1, s_m1lt, s_m1le, s_m1p, s_10, s_let, s_el, s_er, s_b2, s_b3, s_b4, s_b5, s_b6, s_b7, s_b8, s_b9, s_b10, s_b11, s_b12, s_bind, eq_self, if_pos, if_neg, ite_true, ite_false, if_true, if_false, Bool.false_eq_true, reduceIte, Nat.add_sub_cancel, b3, hc2, s_dec]
        refine ⟨_, rfl, rfl, ?_, c_sh_on t2, c_sh_on t4, ?_⟩
        · have := c_sh_on t1
          rw [b3] at this
          exact this
        · intro j d hj hd
          by_cases hjs : j = s
          · subst hjs
            rw [hb1] at hd
            cases hd
            omega
          · exact t3 j d (by omega) hd
    · rintro ⟨x, q1, r1, z1⟩ ⟨hx, t1, t2, t4, t3⟩
      dsimp only at hx t1 t2 t4
      rw [Nat.sub_self] at hx t1 t2 t3 t4
      subst hx
      refine ⟨(nI 0, q1, r1, z1), ?_, 0, by omega, rfl, t1, t2, t4, t3, .inl rfl⟩
      show bX8_openSpot_2 (iI (lf a)) (nI 0) q1 r1 z1 = _
      unfold bX8_openSpot_2
      rw [if_pos (by decide)]
  obtain ⟨⟨z1, z2, z3, z4⟩, h8, s, hs, y1, y2⟩ := H8
  dsimp only at y1 y2
  subst y1
  refine ⟨s, z2, z3, z4, ?_, hs, y2⟩
  unfold fX8_openSpot
  rw [h8, s_b4]
theorem g_ps_sorted {l n : Nat} : (g_ps ex up lo lay n l).Pairwise (· < ·) := List.pairwise_lt_range.filter _
theorem g_mid_b (hG : g_G ex up lo bx lay N) (hV : g_V ex up lo bx lay N row) {M : Int} (hB : g_XB N row wd X M) {l a : Nat} (ha : a ∈ g_ps ex up lo lay 24 l) : (0 ≤ g_um up lay wd X l a ∧ g_um up lay wd X l a ≤ M) ∧ 0 ≤ g_lm lo lay wd X l a ∧ g_lm lo lay wd X l a ≤ M := by
  obtain ⟨h1, h2⟩ := g_ps_mem.mp ha
  have h3 := g_pc_N hG h1 h2
  exact ⟨hB l (by omega) _ (g_uc_mem hG hV h1 h2), hB (l + 1) h3 _ (g_lc_mem hG hV h1 h2)⟩
theorem g_lft_b (hG : g_G ex up lo bx lay N) (hV : g_V ex up lo bx lay N row) {M : Int} (hB : g_XB N row wd X M) {l a : Nat} (ha : a ∈ g_ps ex up lo lay 24 l) : (0 ≤ g_lft up lo lay wd X l a ∧ g_lft up lo lay wd X l a ≤ M) ∧ 0 ≤ g_rt up lo lay wd X l a ∧ g_rt up lo lay wd X l a ≤ M := by
  have := g_mid_b hG hV hB ha
  unfold g_lft g_rt
  omega
theorem p_gatherP (hG : g_G ex up lo bx lay N) (hV : g_V ex up lo bx lay N row) (hP : c_P up lo lay (g_ps ex up lo lay 24) sz ar uu ll) (hW : c_WD N row wd w) (hwd : ∀ c, 1 ≤ wd c ∧ wd c ≤ 50) (hX : c_X N row X C) {M : Int} (hB : g_XB N row wd X M) (hM : M ≤ 1000000) {l : Nat} (hl : l < 24) (q r z : Nat → Int32) :
    ∃ Lp q' r' z', fX8_gatherParts w sz ar uu ll C q r z (nI l) = some (nI Lp.length, q', r', z') ∧ g_Lp ex up lo lay wd X l Lp ∧ ∀ j a : Nat, Lp[j]? = some a → q' j = iI (g_lft up lo lay wd X l a) ∧ r' j = iI (g_rt up lo lay wd X l a) ∧ z' j = nI a := by
  have hN := hG.1
  have hK := g_ps_len (ex := ex) (up := up) (lo := lo) (lay := lay) 24 l
  have hmid : ∀ a : Nat, a ∈ g_ps ex up lo lay 24 l → fX1_middleOf w C (nI l) (nI (g_uc up lay a l)) = some (iI (g_um up lay wd X l a)) ∧ fX1_middleOf w C (nI (l + 1)) (nI (g_lc lo lay a l)) = some (iI (g_lm lo lay wd X l a)) := by
    intro a ha
    obtain ⟨h1, h2⟩ := g_ps_mem.mp ha
    have h3 := g_pc_N hG h1 h2
    have h4 := g_uc_mem hG hV h1 h2
    have h5 := g_lc_mem hG hV h1 h2
    obtain ⟨w1, w2⟩ := hW l (by omega) _ h4
    obtain ⟨w3, w4⟩ := hW (l + 1) h3 _ h5
    exact ⟨p_middleOf hl w1 (hwd _).2 w2 (hX l (by omega) _ h4), p_middleOf (by omega) w3 (hwd _).2 w4 (hX (l + 1) h3 _ h5)⟩
  have H9 : ∃ e : Int32 × (Nat → Int32) × (Nat → Int32) × (Nat → Int32), q_lo (fun (st : Int32 × Int32 × (Nat → Int32) × (Nat → Int32) × (Nat → Int32)) => bX8_gatherParts_19 w sz ar uu ll C (nI l) (nI (g_ps ex up lo lay 24 l).length) st.1 st.2.1 st.2.2.1 st.2.2.2.1 st.2.2.2.2) (0, 0, q, r, z) = some e ∧ ∃ Lp : List Nat, e.1 = nI Lp.length ∧ Lp.Perm (g_prt ex up lo lay wd X 24 l) ∧ Lp.Pairwise (g_lx (g_lft up lo lay wd X l)) ∧ ∀ j a : Nat, Lp[j]? = some a → e.2.1 j = iI (g_lft up lo lay wd X l a) ∧ e.2.2.1 j = iI (g_rt up lo lay wd X l a) ∧ e.2.2.2 j = nI a := by
    refine q_inv (fun k (st : Int32 × Int32 × (Nat → Int32) × (Nat → Int32) × (Nat → Int32)) => st.2.1 = nI k ∧ ∃ Lp : List Nat, st.1 = nI Lp.length ∧ Lp.Perm (((g_ps ex up lo lay 24 l).take k).filter (fun a => decide (g_um up lay wd X l a ≠ g_lm lo lay wd X l a))) ∧ Lp.Pairwise (g_lx (g_lft up lo lay wd X l)) ∧ ∀ j a : Nat, Lp[j]? = some a → st.2.2.1 j = iI (g_lft up lo lay wd X l a) ∧ st.2.2.2.1 j = iI (g_rt up lo lay wd X l a) ∧ st.2.2.2.2 j = nI a) (g_ps ex up lo lay 24 l).length ?_ ?_ _ ⟨rfl, [], rfl, List.Perm.refl _, List.Pairwise.nil, fun j a h => by simp at h⟩
    · rintro k ⟨x, y, q, r, z⟩ hk ⟨hx, Lp, hy, s1, s2, s3⟩
      dsimp only at hx hy s3
      subst hx
      subst hy
      obtain ⟨a, ha⟩ : ∃ a, (g_ps ex up lo lay 24 l)[k]? = some a := ⟨_, List.getElem?_eq_getElem hk⟩
      have ham := g_mem_get ha
      obtain ⟨m1, m2⟩ := hmid a ham
      obtain ⟨b1, b2⟩ := g_mid_b hG hV hB ham
      have hsub : ∀ b, b ∈ Lp → b ∈ g_ps ex up lo lay 24 l ∧ b < a := by
        intro b hb
        have h1 := (List.mem_filter.mp (s1.mem_iff.mp hb)).1
        obtain ⟨j, hj⟩ := List.mem_iff_getElem?.mp h1
        obtain ⟨j1, j2⟩ := g_take_get hj
        refine ⟨g_mem_get j2, ?_⟩
        have e1 := g_lt_len j2
        have e3 := (List.pairwise_iff_getElem.mp (g_ps_sorted (ex := ex) (up := up) (lo := lo) (lay := lay) (n := 24) (l := l))) j k e1 hk (by omega)
        rw [List.getElem?_eq_getElem e1] at j2
        rw [List.getElem?_eq_getElem hk] at ha
        rw [Option.some.inj j2, Option.some.inj ha] at e3
        exact e3
      have hlen : Lp.length ≤ k := by
        have h1 := s1.length_eq
        have h2 := List.length_filter_le (fun a => decide (g_um up lay wd X l a ≠ g_lm lo lay wd X l a)) ((g_ps ex up lo lay 24 l).take k)
        rw [List.length_take] at h2
        omega
      have htk := g_take1 ha
      show ∃ t9, bX8_gatherParts_19 w sz ar uu ll C (nI l) (nI (g_ps ex up lo lay 24 l).length) (nI Lp.length) (nI k) q r z = some (.inl t9) ∧ _
      unfold bX8_gatherParts_19 jX8_gatherParts_138
      by_cases hne : g_um up lay wd X l a = g_lm lo lay wd X l a
      · have hne2 : iI (g_um up lay wd X l a) = iI (g_lm lo lay wd X l a) := by rw [hne]
        simp (disch := omega) only [s_in, s_cl, s_leL, s_ltL, s_eqL, s_leR, s_ltR, s_eqR, s_le, s_lt, s_eq, s_addL, s_addL', s_mulL, s_mulL', s_mul, nI_add, s_subL, s_sub, s_m1, s_m1', s_lm1, s_ltm1, s_m1lt, s_m1le, s_m1p, s_10, s_let, s_el, s_er, s_b2, s_b3, s_b4, s_b5, s_b6, s_b7, s_b8, s_b9, s_b10, s_b11, s_b12, s_bind, eq_self, if_pos, if_neg, ite_true, ite_false, if_true, if_false, Bool.false_eq_true, reduceIte, p_endU hP hl ha, p_endL hP hl ha, m1, m2, hne2]
        refine ⟨_, rfl, rfl, Lp, rfl, ?_, s2, s3⟩
        rw [htk, List.filter_append]
        simpa [hne] using s1
      · have hne2 : ¬ iI (g_um up lay wd X l a) = iI (g_lm lo lay wd X l a) := by
          rw [iI_eq (by omega) (by omega) (by omega) (by omega)]
          exact hne
        have hlf : (if iI (g_lm lo lay wd X l a) < iI (g_um up lay wd X l a) then iI (g_lm lo lay wd X l a) else iI (g_um up lay wd X l a)) = iI (g_lft up lo lay wd X l a) := by
          unfold g_lft
          by_cases hc : g_lm lo lay wd X l a < g_um up lay wd X l a
          · rw [if_pos (by rw [iI_lt (by omega) (by omega) (by omega) (by omega)]; exact hc)]
            congr 1
            omega
          · rw [if_neg (by rw [iI_lt (by omega) (by omega) (by omega) (by omega)]; exact hc)]
            congr 1
            omega
        have hrt : (if iI (g_um up lay wd X l a) < iI (g_lm lo lay wd X l a) then iI (g_lm lo lay wd X l a) else iI (g_um up lay wd X l a)) = iI (g_rt up lo lay wd X l a) := by
          unfold g_rt
          by_cases hc : g_um up lay wd X l a < g_lm lo lay wd X l a
          · rw [if_pos (by rw [iI_lt (by omega) (by omega) (by omega) (by omega)]; exact hc)]
            congr 1
            omega
          · rw [if_neg (by rw [iI_lt (by omega) (by omega) (by omega) (by omega)]; exact hc)]
            congr 1
            omega
        obtain ⟨s, q1, r1, z1, e1, e2, e3, e4, e5, e6, e7⟩ := p_spot (L := Lp) (lf := g_lft up lo lay wd X l) (rt := g_rt up lo lay wd X l) (a := a) (by omega) (fun b hb => by have := (g_lft_b hG hV hB (hsub b hb).1).1; omega) (by have := (g_lft_b hG hV hB ham).1; omega) s3
        simp (disch := omega) only [s_in, s_cl, s_leL, s_ltL, s_eqL, s_leR, s_ltR, s_eqR, s_le, s_lt, s_eq, s_addL, s_addL', s_mulL, s_mulL', s_mul, nI_add, s_subL, s_sub, s_m1, s_m1', s_lm1, s_ltm1, s_m1lt, s_m1le, s_m1p, s_10, s_let, s_el, s_er, s_b2, s_b3, s_b4, s_b5, s_b6, s_b7, s_b8, s_b9, s_b10, s_b11, s_b12, s_bind, eq_self, if_pos, if_neg, ite_true, ite_false, if_true, if_false, Bool.false_eq_true, reduceIte, p_endU hP hl ha, p_endL hP hl ha, m1, m2, hne2, hlf, hrt, e1, p_arrowOf hP hl ha]
        refine ⟨_, rfl, rfl, g_ins Lp s a, by rw [g_ins_len e2], ?_, g_ins_lex s2 e6 e7 (fun b hb => (hsub b hb).2), ?_⟩
        · rw [htk, List.filter_append]
          have e8 : [a].filter (fun a => decide (g_um up lay wd X l a ≠ g_lm lo lay wd X l a)) = [a] := by simp [hne]
          rw [e8]
          exact (g_ins_perm Lp s a).trans (s1.append_right [a])
        · intro j b hj
          exact ⟨c_sh_end (f := fun a => iI (g_lft up lo lay wd X l a)) e2 e3 (fun j a h => (s3 j a h).1) j b hj, c_sh_end (f := fun a => iI (g_rt up lo lay wd X l a)) e2 e4 (fun j a h => (s3 j a h).2.1) j b hj, c_sh_end (f := fun a => nI a) e2 e5 (fun j a h => (s3 j a h).2.2) j b hj⟩
    · rintro ⟨x, y, q, r, z⟩ ⟨hx, Lp, hy, s1, s2, s3⟩
      dsimp only at hx hy s3
      subst hx
      rw [List.take_length] at s1
      refine ⟨(x, q, r, z), ?_, Lp, hy, s1, s2, s3⟩
      show bX8_gatherParts_19 w sz ar uu ll C (nI l) (nI (g_ps ex up lo lay 24 l).length) x (nI (g_ps ex up lo lay 24 l).length) q r z = _
      unfold bX8_gatherParts_19
      rw [if_pos (Int32.le_refl _)]
  obtain ⟨⟨z1, z2, z3, z4⟩, h8, Lp, h9, h10, h11, h12⟩ := H9
  dsimp only at h9 h12
  subst h9
  refine ⟨Lp, z2, z3, z4, ?_, ⟨h10, h11⟩, h12⟩
  unfold fX8_gatherParts
  simp (disch := omega) only [s_in, s_cl, s_leL, s_ltL, s_eqL, s_leR, s_ltR, s_eqR, s_le, s_lt, s_eq, s_addL, s_addL', s_mulL, s_mulL', s_mul, nI_add, s_subL, s_sub, s_m1, s_m1', s_lm1, s_ltm1, s_m1lt, s_m1le, s_m1p, s_10, s_let, s_el, s_er, s_b2, s_b3, s_b4, s_b5, s_b6, s_b7, s_b8, s_b9, s_b10, s_b11, s_b12, s_bind, eq_self, if_pos, if_neg, ite_true, ite_false, if_true, if_false, Bool.false_eq_true, reduceIte, p_sizeOf hP hl, h8]
theorem p_shareGap {L : List Nat} {lf rt : Nat → Int} (hL : L.length ≤ 24) (hnd : L.Nodup) (h24 : ∀ a, a ∈ L → a < 24) (hb : ∀ a, a ∈ L → (0 ≤ lf a ∧ lf a ≤ 1000000) ∧ 0 ≤ rt a ∧ rt a ≤ 1000000) {l : Nat} (hl : l < 24) {q r z : Nat → Int32} (hq : ∀ j a : Nat, L[j]? = some a → q j = iI (lf a) ∧ r j = iI (rt a) ∧ z j = nI a) (tr us te : Nat → Int32) (hus : us l = 0) :
    ∃ tr' us' te', fX8_shareGap tr us q r z te (nI l) (nI L.length) = some (tr', us', te') ∧ us' l = nI (g_ts lf rt L).1 ∧ (∀ i, i ≠ l → us' i = us i) ∧ (∀ a, a ∈ L → tr' (l * 24 + a) = nI ((g_ts lf rt L).2.2 a)) ∧ ∀ x : Nat, (∀ a, a ∈ L → x ≠ l * 24 + a) → tr' x = tr x := by
  have H9 : ∃ e : (Nat → Int32) × (Nat → Int32) × (Nat → Int32), q_lo (fun (st : Int32 × (Nat → Int32) × (Nat → Int32) × (Nat → Int32)) => bX8_shareGap_13 q r z (nI l) (nI L.length) st.1 st.2.1 st.2.2.1 st.2.2.2) (0, tr, us, te) = some e ∧ e.2.1 l = nI (g_ts lf rt L).1 ∧ (∀ i, i ≠ l → e.2.1 i = us i) ∧ (∀ a, a ∈ L → e.1 (l * 24 + a) = nI ((g_ts lf rt L).2.2 a)) ∧ ∀ x : Nat, (∀ a, a ∈ L → x ≠ l * 24 + a) → e.1 x = tr x := by
    refine q_inv (fun k (st : Int32 × (Nat → Int32) × (Nat → Int32) × (Nat → Int32)) => st.1 = nI k ∧ st.2.2.1 l = nI (g_ts lf rt (L.take k)).1 ∧ (∀ i, i ≠ l → st.2.2.1 i = us i) ∧ (∀ a, a ∈ L.take k → st.2.1 (l * 24 + a) = nI ((g_ts lf rt (L.take k)).2.2 a)) ∧ (∀ x : Nat, (∀ a, a ∈ L → x ≠ l * 24 + a) → st.2.1 x = tr x) ∧ ∀ t, t < (g_ts lf rt (L.take k)).1 → st.2.2.2 t = iI ((g_ts lf rt (L.take k)).2.1 t)) L.length ?_ ?_ _ ⟨rfl, hus, fun _ _ => rfl, fun a h => by simp at h, fun _ _ => rfl, fun t h => absurd h (Nat.not_lt_zero t)⟩
    · rintro k ⟨x, tr1, us1, te1⟩ hk ⟨h1, h2, h3, h4, h5, h6⟩
      dsimp only at h1 h2 h3 h4 h5 h6
      subst h1
      obtain ⟨a, ha⟩ : ∃ a, L[k]? = some a := ⟨_, List.getElem?_eq_getElem hk⟩
      obtain ⟨q1, q2, q3⟩ := hq k a ha
      obtain ⟨b1, b2⟩ := hb a (g_mem_get ha)
      have ha24 := h24 a (g_mem_get ha)
      have hm := g_ts_len (lf := lf) (rt := rt) _ (L.take k) rfl
      rw [List.length_take] at hm
      have hte := g_ts_te (lf := lf) (rt := rt) (M := 1000000) _ (L.take k) rfl (fun b hb' => (hb b (List.mem_of_mem_take hb')).2)
      have hfl := g_fit_le (g_ts lf rt (L.take k)).2.1 (lf a) (g_ts lf rt (L.take k)).1
      have hfa := g_fit_at (te := (g_ts lf rt (L.take k)).2.1) (x := lf a) (m := (g_ts lf rt (L.take k)).1)
      have hnot := g_not_take hnd ha
      have htk : g_ts lf rt (L.take (k + 1)) = g_t1 lf rt (g_ts lf rt (L.take k)) a := by rw [g_take1 ha, g_ts_snoc]
      rw [htk]
      generalize hst : g_ts lf rt (L.take k) = st at h2 h4 h6 hm hte hfl hfa
      obtain ⟨m, ten, trn⟩ := st
      dsimp only at h2 h4 h6 hm hte hfl hfa
      have H8 : ∃ e : Int32, q_lo (fun (st : Int32) => bX8_shareGap_21 us1 q te1 (nI l) (nI k) st) 0 = some e ∧ e = nI (g_fit ten (lf a) m) := by
        refine q_inv (fun i (st : Int32) => st = nI i) (g_fit ten (lf a) m) ?_ ?_ _ rfl
        · rintro i st hi rfl
          have hti := hte i (by omega)
          have hnl := hfa.1 i hi
          have hlt2 : ¬ iI (ten i) < iI (lf a) := by rw [iI_lt (by omega) (by omega) (by omega) (by omega)]; exact hnl
          show ∃ t9, bX8_shareGap_21 us1 q te1 (nI l) (nI k) (nI i) = some (.inl t9) ∧ _
          unfold bX8_shareGap_21
          simp (disch := omega) only [s_in, s_cl, s_leL, s_ltL, s_eqL, s_leR, s_ltR, s_eqR, s_le, s_lt, s_eq, s_addL, s_addL', s_mulL, s_mulL', s_mul, nI_add, s_subL, s_sub, s_m1, s_m1', s_lm1, s_ltm1, s_m1lt, s_m1le, s_m1p, s_10, s_let, s_el, s_er, s_b2, s_b3, s_b4, s_b5, s_b6, s_b7, s_b8, s_b9, s_b10, s_b11, s_b12, s_bind, eq_self, if_pos, if_neg, ite_true, ite_false, if_true, if_false, Bool.false_eq_true, reduceIte, h2, h6 i (by omega), q1, hlt2]
          exact ⟨_, rfl, rfl⟩
        · rintro st rfl
          refine ⟨_, ?_, rfl⟩
          show bX8_shareGap_21 us1 q te1 (nI l) (nI k) (nI (g_fit ten (lf a) m)) = _
          unfold bX8_shareGap_21
          by_cases hfm : g_fit ten (lf a) m = m
          · simp (disch := omega) only [s_in, s_cl, s_leL, s_ltL, s_eqL, s_leR, s_ltR, s_eqR, s_le, s_lt, s_eq, s_addL, s_addL', s_mulL, s_mulL', s_mul, nI_add, s_subL, s_sub, s_m1, s_m1', s_lm1, s_ltm1, s_m1lt, s_m1le, s_m1p, s_10, s_let, s_el, s_er, s_b2, s_b3, s_b4, s_b5, s_b6, s_b7, s_b8, s_b9, s_b10, s_b11, s_b12, s_bind, eq_self, if_pos, if_neg, ite_true, ite_false, if_true, if_false, Bool.false_eq_true, reduceIte, h2, hfm]
          · have hlt := hfa.2.resolve_left hfm
            have hti := hte (g_fit ten (lf a) m) (by omega)
            have hlt2 : iI (ten (g_fit ten (lf a) m)) < iI (lf a) := by rw [iI_lt (by omega) (by omega) (by omega) (by omega)]; exact hlt
            simp (disch := omega) only [s_in, s_cl, s_leL, s_ltL, s_eqL, s_leR, s_ltR, s_eqR, s_le, s_lt, s_eq, s_addL, s_addL', s_mulL, s_mulL', s_mul, nI_add, s_subL, s_sub, s_m1, s_m1', s_lm1, s_ltm1, s_m1lt, s_m1le, s_m1p, s_10, s_let, s_el, s_er, s_b2, s_b3, s_b4, s_b5, s_b6, s_b7, s_b8, s_b9, s_b10, s_b11, s_b12, s_bind, eq_self, if_pos, if_neg, ite_true, ite_false, if_true, if_false, Bool.false_eq_true, reduceIte, h2, h6 (g_fit ten (lf a) m) (by omega), q1, hlt2]
      obtain ⟨e, e1, rfl⟩ := H8
      have hmax : (if nI m < nI (g_fit ten (lf a) m + 1) then nI (g_fit ten (lf a) m + 1) else nI m) = nI (max m (g_fit ten (lf a) m + 1)) := by
        by_cases hc : m < g_fit ten (lf a) m + 1
        · rw [if_pos (by rw [s_lt (by omega) (by omega)]; exact hc)]
          congr 1
          omega
        · rw [if_neg (by rw [s_lt (by omega) (by omega)]; exact hc)]
          congr 1
          omega
      show ∃ t9, bX8_shareGap_13 q r z (nI l) (nI L.length) (nI k) tr1 us1 te1 = some (.inl t9) ∧ _
      unfold bX8_shareGap_13 jX8_shareGap_124
      generalize hf : g_fit ten (lf a) m = f at e1 hmax hfl hfa
      have ht1 : g_t1 lf rt (m, ten, trn) a = (max m (f + 1), (fun t => if t = f then rt a else ten t), (fun b => if b = a then f else trn b)) := by
        unfold g_t1
        dsimp only
        rw [hf]
      rw [ht1]
      simp (disch := omega) only [s_in, s_cl, s_leL, s_ltL, s_eqL, s_leR, s_ltR, s_eqR, s_le, s_lt, s_eq, s_addL, s_addL', s_mulL, s_mulL', s_mul, nI_add, s_subL, s_sub, s_m1, s_m1', s_lm1, s_ltm1, s_m1lt, s_m1le, s_m1p, s_10, s_let, s_el, s_er, s_b2, s_b3, s_b4, s_b5, s_b6, s_b7, s_b8, s_b9, s_b10, s_b11, s_b12, s_bind, eq_self, if_pos, if_neg, ite_true, ite_false, if_true, if_false, Bool.false_eq_true, reduceIte, e1, h2, q2, q3]
      have hz : ¬ nI a < 0 := nI_pos (by omega)
      refine ⟨_, rfl, rfl, ?_, ?_, ?_, ?_, ?_⟩
      · dsimp only
        rw [pk_us]
        have := hmax
        rw [n_lit 0] at *
        by_cases hc : m < f + 1
        · rw [if_pos hc]
          congr 1
          omega
        · rw [if_neg hc]
          congr 1
          omega
      · intro i hi
        dsimp only
        rw [pk_un hi]
        exact h3 i hi
      · intro b hb'
        dsimp only
        rw [g_take1 ha] at hb'
        by_cases hba : b = a
        · subst hba
          rw [pk_us, if_pos rfl]
        · rw [pk_un (by omega), if_neg hba]
          refine h4 b ?_
          rcases List.mem_append.mp hb' with h | h
          · exact h
          · simp at h; exact absurd h hba
      · intro x hx
        dsimp only
        rw [pk_un (hx a (g_mem_get ha))]
        exact h5 x hx
      · intro t ht
        dsimp only at ht ⊢
        by_cases htf : t = f
        · subst htf
          rw [pk_us, if_pos rfl]
        · rw [pk_un htf, if_neg htf]
          exact h6 t (by omega)
    · rintro ⟨x, tr1, us1, te1⟩ ⟨h1, h2, h3, h4, h5, h6⟩
      dsimp only at h1 h2 h3 h4 h5 h6
      subst h1
      rw [List.take_length] at h2 h4
      refine ⟨(tr1, us1, te1), ?_, h2, h3, h4, h5⟩
      show bX8_shareGap_13 q r z (nI l) (nI L.length) (nI L.length) tr1 us1 te1 = _
      unfold bX8_shareGap_13
      rw [if_pos (Int32.le_refl _)]
  obtain ⟨⟨z1, z2, z3⟩, h8, h9⟩ := H9
  refine ⟨z1, z2, z3, ?_, h9⟩
  unfold fX8_shareGap
  rw [if_neg (nI_pos (by omega)), if_pos (by rw [n_lit 24, s_lt (by omega) (by omega)]; omega), h8, s_b3]
end TC
