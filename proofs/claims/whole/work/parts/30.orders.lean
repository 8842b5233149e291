/-! PURE: the class's orders. -/
def g_hd (ex : Nat → Bool) (up lo : Nat → Nat) (bx : Nat → Bool) (lay : Nat → Nat) (l c : Nat) : Bool := if c < 16 then bx c && decide (lay c = l) else ex (c - 16) && (decide (lay (up (c - 16)) < l) && decide (l < lay (lo (c - 16))))
def c_O (N : Nat) (row : Nat → List Nat) (ly : Int32) (sz rw pl hm : Nat → Int32) : Prop :=
  ly = nI N ∧ N ≤ 24 ∧ (∀ l, l < 24 → (N ≤ l → row l = []) ∧ (row l).Nodup ∧ (row l).length ≤ 40 ∧ sz l = nI (row l).length ∧ (∀ k c, (row l)[k]? = some c → c < 40 ∧ rw (l * 40 + k) = nI c ∧ pl (l * 40 + c) = nI k) ∧ (∀ c, c < 40 → c ∉ row l → pl (l * 40 + c) = -1)) ∧ (∀ l, l < 24 → ∀ b, b < 16 → b ∈ row l → hm b = nI l) ∧ (∀ b, b < 16 → (∀ l, l < 24 → b ∉ row l) → hm b = -1)
def g_ap (row : Nat → List Nat) (l c : Nat) : Nat → List Nat := fun i => if i = l then row l ++ [c] else row i
theorem g_pigeon : ∀ (n : Nat) (l : List Nat), l.Nodup → (∀ x, x ∈ l → x < n) → l.length ≤ n := by
  intro n
  induction n with
  | zero =>
    intro l h1 h2
    cases l with
    | nil => simp
    | cons a l => exact absurd (h2 a (by simp)) (by omega)
  | succ n ih =>
    intro l h1 h2
    by_cases hn : n ∈ l
    · have h3 := ih (l.erase n) (h1.erase n) (fun x hx => by
        have h4 := (h1.mem_erase_iff).mp hx
        have := h2 x h4.2
        have := h4.1
        omega)
      rw [List.length_erase_of_mem hn] at h3
      omega
    · have h3 := ih l h1 (fun x hx => by
        have h4 := h2 x hx
        have : x ≠ n := fun e => hn (e ▸ hx)
        omega)
      omega
section CO
variable {N : Nat} {row : Nat → List Nat} {ly : Int32} {sz rw pl hm : Nat → Int32}
theorem p_sizeO (hO : c_O N row ly sz rw pl hm) {l : Nat} (hl : l < 24) : fX4_sizeOf ly sz (nI l) = some (nI (row l).length) := by
  obtain ⟨h1, h2, h3, -⟩ := hO
  obtain ⟨g1, g2, g3, g4, -⟩ := h3 l hl
  unfold fX4_sizeOf
  by_cases hc : N ≤ l
  · simp (disch := omega) only [s_in, s_cl, s_leL, s_ltL, s_eqL, s_leR, s_ltR, s_eqR, s_le, s_lt, s_eq, s_addL, s_addL', s_mulL, s_mulL', s_mul, nI_add, s_subL, s_sub, s_m1, s_m1', s_lm1, s_ltm1, s_m1lt, s_m1le, s_m1p, s_10, s_let, s_el, s_er, s_b2, s_b3, s_b4, s_b5, s_b6, s_b7, s_b8, s_b9, s_b10, s_b11, s_b12, s_bind, eq_self, if_pos, if_neg, ite_true, ite_false, if_true, if_false, Bool.false_eq_true, reduceIte, h1, hc, g1 hc]
    rfl
  · simp (disch := omega) only [s_in, s_cl, s_leL, s_ltL, s_eqL, s_leR, s_ltR, s_eqR, s_le, s_lt, s_eq, s_addL, s_addL', s_mulL, s_mulL', s_mul, nI_add, s_subL, s_sub, s_m1, s_m1', s_lm1, s_ltm1, s_m1lt, s_m1le, s_m1p, s_10, s_let, s_el, s_er, s_b2, s_b3, s_b4, s_b5, s_b6, s_b7, s_b8, s_b9, s_b10, s_b11, s_b12, s_bind, eq_self, if_pos, if_neg, ite_true, ite_false, if_true, if_false, Bool.false_eq_true, reduceIte, h1, hc, g4]
theorem p_itemIn (hO : c_O N row ly sz rw pl hm) {l k c : Nat} (hl : l < 24) (hk : (row l)[k]? = some c) : fX4_itemIn ly sz rw (nI l) (nI k) = some (nI c) := by
  have h9 := p_sizeO hO hl
  obtain ⟨h1, h2, h3, -⟩ := hO
  obtain ⟨g1, g2, g3, g4, g5, -⟩ := h3 l hl
  have g6 := g_lt_len hk
  obtain ⟨i1, i2, i3⟩ := g5 k c hk
  unfold fX4_itemIn jX4_itemIn_17 jX4_itemIn_18
  simp (disch := omega) only [s_in, s_cl, s_leL, s_ltL, s_eqL, s_leR, s_ltR, s_eqR, s_le, s_lt, s_eq, s_addL, s_addL', s_mulL, s_mulL', s_mul, nI_add, s_subL, s_sub, s_m1, s_m1', s_lm1, s_ltm1, s_m1lt, s_m1le, s_m1p, s_10, s_let, s_el, s_er, s_b2, s_b3, s_b4, s_b5, s_b6, s_b7, s_b8, s_b9, s_b10, s_b11, s_b12, s_bind, eq_self, if_pos, if_neg, ite_true, ite_false, if_true, if_false, Bool.false_eq_true, reduceIte, h9, i2]
theorem p_placeIn {l c : Nat} (hl : l < 24) (hc : c < 40) : fX4_placeIn pl (nI l) (nI c) = some (pl (l * 40 + c)) := by
  unfold fX4_placeIn jX4_placeIn_24 jX4_placeIn_25
  simp (disch := omega) only [s_in, s_cl, s_leL, s_ltL, s_eqL, s_leR, s_ltR, s_eqR, s_le, s_lt, s_eq, s_addL, s_addL', s_mulL, s_mulL', s_mul, nI_add, s_subL, s_sub, s_m1, s_m1', s_lm1, s_ltm1, s_m1lt, s_m1le, s_m1p, s_10, s_let, s_el, s_er, s_b2, s_b3, s_b4, s_b5, s_b6, s_b7, s_b8, s_b9, s_b10, s_b11, s_b12, s_bind, eq_self, if_pos, if_neg, ite_true, ite_false, if_true, if_false, Bool.false_eq_true, reduceIte]
theorem p_put {l k c n : Nat} (hl : l < N) (hN : N ≤ 24) (hn : sz l = nI n) (hk : k < n) (hn2 : n ≤ 40) (hc : c < 40) : fX4_put (nI N) sz rw pl hm (nI l) (nI k) (nI c) = some (upd rw (l * 40 + k) (nI c), upd pl (l * 40 + c) (nI k), if c < 16 then upd hm c (nI l) else hm) := by
  unfold fX4_put fX4_sizeOf
  by_cases h : c < 16
  · simp (disch := omega) only [s_in, s_cl, s_leL, s_ltL, s_eqL, s_leR, s_ltR, s_eqR, s_le, s_lt, s_eq, s_addL, s_addL', s_mulL, s_mulL', s_mul, nI_add, s_subL, s_sub, s_m1, s_m1', s_lm1, s_ltm1, s_m1lt, s_m1le, s_m1p, s_10, s_let, s_el, s_er, s_b2, s_b3, s_b4, s_b5, s_b6, s_b7, s_b8, s_b9, s_b10, s_b11, s_b12, s_bind, eq_self, if_pos, if_neg, ite_true, ite_false, if_true, if_false, Bool.false_eq_true, reduceIte, hn, h]
  · simp (disch := omega) only [s_in, s_cl, s_leL, s_ltL, s_eqL, s_leR, s_ltR, s_eqR, s_le, s_lt, s_eq, s_addL, s_addL', s_mulL, s_mulL', s_mul, nI_add, s_subL, s_sub, s_m1, s_m1', s_lm1, s_ltm1, s_m1lt, s_m1le, s_m1p, s_10, s_let, s_el, s_er, s_b2, s_b3, s_b4, s_b5, s_b6, s_b7, s_b8, s_b9, s_b10, s_b11, s_b12, s_bind, eq_self, if_pos, if_neg, ite_true, ite_false, if_true, if_false, Bool.false_eq_true, reduceIte, hn, h]
theorem p_append (hO : c_O N row ly sz rw pl hm) {l c : Nat} (hl : l < N) (hc : c < 40) (hn : c ∉ row l) (hx : c < 16 → ∀ i, i < 24 → i ≠ l → c ∉ row i) :
    ∃ sz' rw' pl' hm', fX4_append ly sz rw pl hm (nI l) (nI c) = some (sz', rw', pl', hm') ∧ c_O N (g_ap row l c) ly sz' rw' pl' hm' := by
  obtain ⟨h1, h2, h3, h4, h5⟩ := hO
  subst h1
  obtain ⟨g1, g2, g3, g4, g5, g6⟩ := h3 l (by omega)
  have hnd : (row l ++ [c]).Nodup := by
    rw [List.nodup_append]
    refine ⟨g2, by simp, ?_⟩
    intro a ha b hb
    simp at hb
    subst hb
    exact fun e => hn (e ▸ ha)
  have hlen : (row l).length < 40 := by
    have := g_pigeon 40 _ hnd (fun x hx => by
      rcases List.mem_append.mp hx with hx | hx
      · obtain ⟨k, hk⟩ := List.mem_iff_getElem?.mp hx
        exact (g5 k x hk).1
      · simp at hx; omega)
    simp at this
    omega
  have h9 := p_put (sz := upd sz l (nI ((row l).length + 1))) (rw := rw) (pl := pl) (hm := hm) hl h2 pk_us (Nat.lt_succ_self _) (by omega) hc
  unfold fX4_append
  simp (disch := omega) only [s_in, s_cl, s_leL, s_ltL, s_eqL, s_leR, s_ltR, s_eqR, s_le, s_lt, s_eq, s_addL, s_addL', s_mulL, s_mulL', s_mul, nI_add, s_subL, s_sub, s_m1, s_m1', s_lm1, s_ltm1, s_m1lt, s_m1le, s_m1p, s_10, s_let, s_el, s_er, s_b2, s_b3, s_b4, s_b5, s_b6, s_b7, s_b8, s_b9, s_b10, s_b11, s_b12, s_bind, eq_self, if_pos, if_neg, ite_true, ite_false, if_true, if_false, Bool.false_eq_true, reduceIte, g4, pk_us]
  rw [show (row l).length + 1 - 1 = (row l).length by omega, h9, s_b3]
  refine ⟨_, _, _, _, rfl, rfl, h2, ?_, ?_, ?_⟩
  · intro i hi
    obtain ⟨k1, k2, k3, k4, k5, k6⟩ := h3 i hi
    unfold g_ap
    by_cases hil : i = l
    · subst hil
      rw [if_pos rfl, pk_us]
      refine ⟨fun h => by omega, hnd, by simp; omega, by simp, ?_, ?_⟩
      · intro k d hk
        rw [List.getElem?_append] at hk
        split at hk
        · have hd : d ≠ c := fun e => hn (e ▸ List.mem_iff_getElem?.mpr ⟨k, hk⟩)
          obtain ⟨j1, j2, j3⟩ := k5 k d hk
          rw [pk_un (by omega), pk_un (by omega)]
          exact ⟨j1, j2, j3⟩
        · have hk1 := g_lt_len hk
          simp at hk1
          have hk2 : k = (row i).length := by omega
          subst hk2
          rw [Nat.sub_self] at hk
          simp at hk
          subst hk
          rw [pk_us, pk_us]
          exact ⟨hc, rfl, rfl⟩
      · intro d hd hm'
        simp at hm'
        rw [pk_un (by omega)]
        exact k6 d hd hm'.1
    · rw [if_neg hil, pk_un hil]
      refine ⟨k1, k2, k3, k4, ?_, ?_⟩
      · intro k d hk
        have := g_lt_len hk
        obtain ⟨j1, j2, j3⟩ := k5 k d hk
        rw [pk_un (by omega), pk_un (by omega)]
        exact ⟨j1, j2, j3⟩
      · intro d hd hm'
        rw [pk_un (by omega)]
        exact k6 d hd hm'
  · intro i hi b hb hm'
    unfold g_ap at hm'
    by_cases hil : i = l
    · subst hil
      rw [if_pos rfl] at hm'
      by_cases hbc : b = c
      · subst hbc
        rw [if_pos hb, pk_us]
      · have : b ∈ row i := by
          rcases List.mem_append.mp hm' with h | h
          · exact h
          · simp at h; exact absurd h hbc
        have h8 := h4 i hi b hb this
        split
        · rw [pk_un hbc]; exact h8
        · exact h8
    · rw [if_neg hil] at hm'
      have hbc : b ≠ c := fun e => hx (e ▸ hb) i hi hil (e ▸ hm')
      have h8 := h4 i hi b hb hm'
      split
      · rw [pk_un hbc]; exact h8
      · exact h8
  · intro b hb hm'
    have hbc : b ≠ c := fun e => hm' l (by omega) (by unfold g_ap; rw [if_pos rfl]; simp [e])
    have h8 := h5 b hb (fun i hi hr => hm' i hi (by
      unfold g_ap
      split
      · next e => subst e; exact List.mem_append_left _ hr
      · exact hr))
    split
    · rw [pk_un hbc]; exact h8
    · exact h8
end CO
theorem p_holds {ex bx : Nat → Bool} {up lo lay : Nat → Nat} {N : Nat} {w L tp bo : Nat → Int32} (hG : g_G ex up lo bx lay N) (hW : ∀ b, b < 16 → (bx b = true ↔ ¬ w b ≤ 0)) (hL : c_L bx lay L) (hE : c_E ex up lo lay tp bo) {l c : Nat} (hl : l < 24) (hc : c < 40) : fX3_holds w L tp bo (nI l) (nI c) = some (if g_hd ex up lo bx lay l c then 1 else 0) := by
  obtain ⟨G1, G2, G3⟩ := hG
  unfold fX3_holds g_hd
  by_cases h : c < 16
  · cases hb : bx c
    · have hw0 : w c ≤ 0 := Classical.byContradiction fun h' => by rw [(hW c h).mpr h'] at hb; cases hb
      simp (disch := omega) only [s_in, s_cl, s_leL, s_ltL, s_eqL, s_leR, s_ltR, s_eqR, s_le, s_lt, s_eq, s_addL, s_addL', s_mulL, s_mulL', s_mul, nI_add, s_subL, s_sub, s_m1, s_m1', s_lm1, s_ltm1, s_m1lt, s_m1le, s_m1p, s_10, s_let, s_el, s_er, s_b2, s_b3, s_b4, s_b5, s_b6, s_b7, s_b8, s_b9, s_b10, s_b11, s_b12, s_bind, eq_self, if_pos, if_neg, ite_true, ite_false, if_true, if_false, Bool.false_eq_true, reduceIte, p_hasBox h, hw0]
      simp [h]
    · have h2 := G2 c h hb
      by_cases h3 : lay c = l
      · simp (disch := omega) only [s_in, s_cl, s_leL, s_ltL, s_eqL, s_leR, s_ltR, s_eqR, s_le, s_lt, s_eq, s_addL, s_addL', s_mulL, s_mulL', s_mul, nI_add, s_subL, s_sub, s_m1, s_m1', s_lm1, s_ltm1, s_m1lt, s_m1le, s_m1p, s_10, s_let, s_el, s_er, s_b2, s_b3, s_b4, s_b5, s_b6, s_b7, s_b8, s_b9, s_b10, s_b11, s_b12, s_bind, eq_self, if_pos, if_neg, ite_true, ite_false, if_true, if_false, Bool.false_eq_true, reduceIte, p_hasBox h, (hW c h).mp hb, p_layerOf h, hL c h, hb, h3]
        simp
      · simp (disch := omega) only [s_in, s_cl, s_leL, s_ltL, s_eqL, s_leR, s_ltR, s_eqR, s_le, s_lt, s_eq, s_addL, s_addL', s_mulL, s_mulL', s_mul, nI_add, s_subL, s_sub, s_m1, s_m1', s_lm1, s_ltm1, s_m1lt, s_m1le, s_m1p, s_10, s_let, s_el, s_er, s_b2, s_b3, s_b4, s_b5, s_b6, s_b7, s_b8, s_b9, s_b10, s_b11, s_b12, s_bind, eq_self, if_pos, if_neg, ite_true, ite_false, if_true, if_false, Bool.false_eq_true, reduceIte, p_hasBox h, (hW c h).mp hb, p_layerOf h, hL c h, hb, h3]
        simp
  · obtain ⟨e1, e2⟩ := hE (c - 16) (by omega)
    cases hb : ex (c - 16)
    · rw [hb] at e1 e2
      simp (disch := omega) only [s_in, s_cl, s_leL, s_ltL, s_eqL, s_leR, s_ltR, s_eqR, s_le, s_lt, s_eq, s_addL, s_addL', s_mulL, s_mulL', s_mul, nI_add, s_subL, s_sub, s_m1, s_m1', s_lm1, s_ltm1, s_m1lt, s_m1le, s_m1p, s_10, s_let, s_el, s_er, s_b2, s_b3, s_b4, s_b5, s_b6, s_b7, s_b8, s_b9, s_b10, s_b11, s_b12, s_bind, eq_self, if_pos, if_neg, ite_true, ite_false, if_true, if_false, Bool.false_eq_true, reduceIte, p_top (show c - 16 < 24 by omega), p_bottom (show c - 16 < 24 by omega), e1, e2]
      simp [h]
    · obtain ⟨u1, u2, u3, u4, u5⟩ := G3 _ (by omega) hb
      have b1 := G2 _ u1 u3
      have b2 := G2 _ u2 u4
      rw [hb] at e1 e2
      by_cases h3 : l ≤ lay (up (c - 16))
      · simp (disch := omega) only [s_in, s_cl, s_leL, s_ltL, s_eqL, s_leR, s_ltR, s_eqR, s_le, s_lt, s_eq, s_addL, s_addL', s_mulL, s_mulL', s_mul, nI_add, s_subL, s_sub, s_m1, s_m1', s_lm1, s_ltm1, s_m1lt, s_m1le, s_m1p, s_10, s_let, s_el, s_er, s_b2, s_b3, s_b4, s_b5, s_b6, s_b7, s_b8, s_b9, s_b10, s_b11, s_b12, s_bind, eq_self, if_pos, if_neg, ite_true, ite_false, if_true, if_false, Bool.false_eq_true, reduceIte, p_top (show c - 16 < 24 by omega), p_bottom (show c - 16 < 24 by omega), e1, e2, h3]
        simp; omega
      · by_cases h4 : lay (lo (c - 16)) ≤ l
        · simp (disch := omega) only [s_in, s_cl, s_leL, s_ltL, s_eqL, s_leR, s_ltR, s_eqR, s_le, s_lt, s_eq, s_addL, s_addL', s_mulL, s_mulL', s_mul, nI_add, s_subL, s_sub, s_m1, s_m1', s_lm1, s_ltm1, s_m1lt, s_m1le, s_m1p, s_10, s_let, s_el, s_er, s_b2, s_b3, s_b4, s_b5, s_b6, s_b7, s_b8, s_b9, s_b10, s_b11, s_b12, s_bind, eq_self, if_pos, if_neg, ite_true, ite_false, if_true, if_false, Bool.false_eq_true, reduceIte, p_top (show c - 16 < 24 by omega), p_bottom (show c - 16 < 24 by omega), e1, e2, h3, h4]
          simp; omega
        · simp (disch := omega) only [s_in, s_cl, s_leL, s_ltL, s_eqL, s_leR, s_ltR, s_eqR, s_le, s_lt, s_eq, s_addL, s_addL', s_mulL, s_mulL', s_mul, nI_add, s_subL, s_sub, s_m1, s_m1', s_lm1, s_ltm1, s_m1lt, s_m1le, s_m1p, s_10, s_let, s_el, s_er, s_b2, s_b3, s_b4, s_b5, s_b6, s_b7, s_b8, s_b9, s_b10, s_b11, s_b12, s_bind, eq_self, if_pos, if_neg, ite_true, ite_false, if_true, if_false, Bool.false_eq_true, reduceIte, p_top (show c - 16 < 24 by omega), p_bottom (show c - 16 < 24 by omega), e1, e2, h3, h4]
          simp; omega
