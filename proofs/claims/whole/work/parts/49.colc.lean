/-! PURE: the class's columns. -/
theorem p_isSpot {l c : Nat} (hl : l < 24) (hc : c < 40) : fX1_isSpot (nI l) (nI c) = some 1 := by
  unfold fX1_isSpot
  simp (disch := omega) only [s_in, s_cl, s_leL, s_ltL, s_eqL, s_leR, s_ltR, s_eqR, s_le, s_lt, s_eq, s_addL, s_addL', s_mulL, s_mulL', s_mul, nI_add, s_subL, s_sub, s_m1, s_m1', s_lm1, s_ltm1, s_m1lt, s_m1le, s_m1p, s_10, s_let, s_el, s_er, s_b2, s_b3, s_b4, s_b5, s_b6, s_b7, s_b8, s_b9, s_b10, s_b11, s_b12, s_bind, eq_self, if_pos, if_neg, ite_true, ite_false, if_true, if_false, Bool.false_eq_true, reduceIte]
theorem p_leftOf {C : Nat → Int32} {l c : Nat} (hl : l < 24) (hc : c < 40) : fX1_leftOf C (nI l) (nI c) = some (C (l * 40 + c)) := by
  unfold fX1_leftOf
  simp (disch := omega) only [s_in, s_cl, s_leL, s_ltL, s_eqL, s_leR, s_ltR, s_eqR, s_le, s_lt, s_eq, s_addL, s_addL', s_mulL, s_mulL', s_mul, nI_add, s_subL, s_sub, s_m1, s_m1', s_lm1, s_ltm1, s_m1lt, s_m1le, s_m1p, s_10, s_let, s_el, s_er, s_b2, s_b3, s_b4, s_b5, s_b6, s_b7, s_b8, s_b9, s_b10, s_b11, s_b12, s_bind, eq_self, if_pos, if_neg, ite_true, ite_false, if_true, if_false, Bool.false_eq_true, reduceIte, p_isSpot hl hc]
theorem p_move {C : Nat → Int32} {l c : Nat} (hl : l < 24) (hc : c < 40) (v : Int32) : fX1_move C (nI l) (nI c) v = some (upd C (l * 40 + c) v) := by
  unfold fX1_move
  simp (disch := omega) only [s_in, s_cl, s_leL, s_ltL, s_eqL, s_leR, s_ltR, s_eqR, s_le, s_lt, s_eq, s_addL, s_addL', s_mulL, s_mulL', s_mul, nI_add, s_subL, s_sub, s_m1, s_m1', s_lm1, s_ltm1, s_m1lt, s_m1le, s_m1p, s_10, s_let, s_el, s_er, s_b2, s_b3, s_b4, s_b5, s_b6, s_b7, s_b8, s_b9, s_b10, s_b11, s_b12, s_bind, eq_self, if_pos, if_neg, ite_true, ite_false, if_true, if_false, Bool.false_eq_true, reduceIte, p_isSpot hl hc]
theorem p_endOf {w C : Nat → Int32} {l c wc : Nat} {x : Int} (hl : l < 24) (hc : c < 40) (hw : fX7_widthOf w (nI c) = some (nI wc)) (hx : C (l * 40 + c) = iI x) : fX1_endOf w C (nI l) (nI c) = some (iI (x + (wc : Int))) := by
  unfold fX1_endOf
  rw [p_leftOf hl hc, s_bind, hw, s_bind, hx, s_iadd]
theorem p_middleOf {w C : Nat → Int32} {l c wc : Nat} {x : Int} (hl : l < 24) (hc : c < 40) (hwb : wc ≤ 50) (hw : fX7_widthOf w (nI c) = some (nI wc)) (hx : C (l * 40 + c) = iI x) : fX1_middleOf w C (nI l) (nI c) = some (iI (x + ((wc / 2 : Nat) : Int))) := by
  unfold fX1_middleOf
  rw [p_leftOf hl hc, s_bind, hw, s_bind, hx, s_divL (by omega) (by omega), s_iadd]
theorem p_am46 {K : List Nat} (hK : K.length ≤ 24) {w sz uu ll C : Nat → Int32} {fl fo xg xb : Int32} (hfl : (fl = 0 ∧ fo = 1) ∨ (fl = 1 ∧ fo = 0)) {own oth : Nat → Nat} {om : Nat → Int} (hsz : fX6_sizeOf sz xg = some (nI K.length))
    (hE : ∀ k a : Nat, K[k]? = some a → fX6_endOf sz uu ll xg (nI k) fo = some (nI (own a)) ∧ own a < 40 ∧ fX6_endOf sz uu ll xg (nI k) fl = some (nI (oth a)) ∧ fX1_middleOf w C xb (nI (oth a)) = some (iI (om a))) :
    ∃ sm dg, q_lo (fun (st : Int32 × (Nat → Int32) × (Nat → Int32)) => bX1_addMiddles_46 w sz uu ll C fl xg xb st.1 st.2.1 st.2.2) (0, (fun _ => 0), (fun _ => 0)) = some (sm, dg) ∧ ∀ c : Nat, c < 40 → sm c = iI (g_sm om (g_nb own K c)) ∧ dg c = nI (g_nb own K c).length := by
  have H9 : ∃ e : (Nat → Int32) × (Nat → Int32), q_lo (fun (st : Int32 × (Nat → Int32) × (Nat → Int32)) => bX1_addMiddles_46 w sz uu ll C fl xg xb st.1 st.2.1 st.2.2) (0, (fun _ => 0), (fun _ => 0)) = some e ∧ ∀ c : Nat, c < 40 → e.1 c = iI (g_sm om (g_nb own K c)) ∧ e.2 c = nI (g_nb own K c).length := by
    refine q_inv (fun k (st : Int32 × (Nat → Int32) × (Nat → Int32)) => st.1 = nI k ∧ ∀ c : Nat, c < 40 → st.2.1 c = iI (g_sm om (g_nb own (K.take k) c)) ∧ st.2.2 c = nI (g_nb own (K.take k) c).length) K.length ?_ ?_ _ ⟨rfl, fun c _ => ⟨rfl, rfl⟩⟩
    · rintro k ⟨x, q, r⟩ hk ⟨hx, h2⟩
      dsimp only at hx h2
      subst hx
      obtain ⟨a, ha⟩ : ∃ a, K[k]? = some a := ⟨_, List.getElem?_eq_getElem hk⟩
      obtain ⟨e1, e2, e3, e4⟩ := hE k a ha
      obtain ⟨f1, f2⟩ := h2 _ e2
      have hn : ∃ t9 : Int32 × (Nat → Int32) × (Nat → Int32), some (Sum.inl (α := Int32 × (Nat → Int32) × (Nat → Int32)) (β := (Nat → Int32) × (Nat → Int32)) (nI (k + 1), upd q (own a) (q (own a) + iI (om a)), upd r (own a) (r (own a) + 1))) = some (.inl t9) ∧ t9.1 = nI (k + 1) ∧ ∀ c : Nat, c < 40 → t9.2.1 c = iI (g_sm om (g_nb own (K.take (k + 1)) c)) ∧ t9.2.2 c = nI (g_nb own (K.take (k + 1)) c).length := by
        refine ⟨_, rfl, rfl, ?_⟩
        intro c hc
        dsimp only
        rw [g_nb_succ ha]
        by_cases e : own a = c
        · subst e
          rw [pk_us, pk_us, if_pos rfl, f1, f2, iI_add, g_sm_snoc, List.length_append]
          refine ⟨rfl, ?_⟩
          rw [s_addL]
          rfl
        · rw [pk_un (fun h => e h.symm), pk_un (fun h => e h.symm), if_neg e]
          exact h2 c hc
      show ∃ t9, bX1_addMiddles_46 w sz uu ll C fl xg xb (nI k) q r = some (.inl t9) ∧ _
      unfold bX1_addMiddles_46 jX1_addMiddles_75 jX1_addMiddles_130
      rcases hfl with ⟨rfl, rfl⟩ | ⟨rfl, rfl⟩
      · simp (disch := omega) only [s_in, s_cl, s_leL, s_ltL, s_eqL, s_leR, s_ltR, s_eqR, s_le, s_lt, s_eq, s_addL, s_addL', s_mulL, s_mulL', s_mul, nI_add, s_subL, s_sub, s_m1, s_m1', s_lm1, s_ltm1, s_m1lt, s_m1le, s_m1p, s_10, s_let, s_el, s_er, s_b2, s_b3, s_b4, s_b5, s_b6, s_b7, s_b8, s_b9, s_b10, s_b11, s_b12, s_bind, eq_self, if_pos, if_neg, ite_true, ite_false, if_true, if_false, Bool.false_eq_true, reduceIte, hsz, e1, e3, e4]
        exact hn
      · simp (disch := omega) only [s_in, s_cl, s_leL, s_ltL, s_eqL, s_leR, s_ltR, s_eqR, s_le, s_lt, s_eq, s_addL, s_addL', s_mulL, s_mulL', s_mul, nI_add, s_subL, s_sub, s_m1, s_m1', s_lm1, s_ltm1, s_m1lt, s_m1le, s_m1p, s_10, s_let, s_el, s_er, s_b2, s_b3, s_b4, s_b5, s_b6, s_b7, s_b8, s_b9, s_b10, s_b11, s_b12, s_bind, eq_self, if_pos, if_neg, ite_true, ite_false, if_true, if_false, Bool.false_eq_true, reduceIte, hsz, e1, e3, e4]
        exact hn
    · rintro ⟨x, q, r⟩ ⟨hx, h2⟩
      dsimp only at hx h2
      subst hx
      rw [List.take_length] at h2
      refine ⟨(q, r), ?_, h2⟩
      show bX1_addMiddles_46 w sz uu ll C fl xg xb (nI K.length) q r = _
      unfold bX1_addMiddles_46
      rw [hsz, s_bind, if_pos (Int32.le_refl _)]
  obtain ⟨⟨sm, dg⟩, h8, h9⟩ := H9
  exact ⟨sm, dg, h8, h9⟩
theorem c_X_congr {N : Nat} {row : Nat → List Nat} {X Y : Nat → Nat → Int} {C : Nat → Int32} (h : ∀ l, l < N → ∀ c, c ∈ row l → X l c = Y l c) (hX : c_X N row X C) : c_X N row Y C := fun l hl c hc => by rw [← h l hl c hc]; exact hX l hl c hc
/-- the least among some items -/
def g_mS (X : Nat → Nat → Int) (Q : Nat → Nat → Prop) (x x0 : Int32) : Prop := ((∀ i c, ¬ Q i c) ∧ x = x0) ∨ ∃ m, x = iI m ∧ (∀ i c, Q i c → m ≤ X i c) ∧ ∃ i c, Q i c ∧ X i c = m
def g_Q (row : Nat → List Nat) (l k : Nat) : Nat → Nat → Prop := fun i c => (i < l ∧ c ∈ row i) ∨ (i = l ∧ c ∈ (row l).take k)
theorem g_Q_on {row : Nat → List Nat} {l k c : Nat} (hk : (row l)[k]? = some c) (i d : Nat) : g_Q row l (k + 1) i d ↔ g_Q row l k i d ∨ (i = l ∧ d = c) := by
  unfold g_Q
  rw [g_take1 hk]
  simp only [List.mem_append, List.mem_singleton]
  constructor
  · rintro (h | ⟨h1, h2 | h2⟩)
    · exact .inl (.inl h)
    · exact .inl (.inr ⟨h1, h2⟩)
    · exact .inr ⟨h1, h2⟩
  · rintro ((h | ⟨h1, h2⟩) | ⟨h1, h2⟩)
    · exact .inl h
    · exact .inr ⟨h1, .inl h2⟩
    · exact .inr ⟨h1, .inr h2⟩
theorem g_Q_next {row : Nat → List Nat} {l : Nat} (i d : Nat) : g_Q row l (row l).length i d ↔ g_Q row (l + 1) 0 i d := by
  unfold g_Q
  rw [List.take_length, List.take_zero]
  constructor
  · rintro (⟨h1, h2⟩ | ⟨h1, h2⟩)
    · exact .inl ⟨by omega, h2⟩
    · subst h1; exact .inl ⟨by omega, h2⟩
  · rintro (⟨h1, h2⟩ | ⟨h1, h2⟩)
    · by_cases e : i = l
      · subst e; exact .inr ⟨rfl, h2⟩
      · exact .inl ⟨by omega, h2⟩
    · simp at h2
theorem g_mS_congr {X : Nat → Nat → Int} {Q Q' : Nat → Nat → Prop} {x x0 : Int32} (h : ∀ i c, Q i c ↔ Q' i c) (hm : g_mS X Q x x0) : g_mS X Q' x x0 := by
  rcases hm with ⟨h1, h2⟩ | ⟨m, h1, h2, i, c, h3, h4⟩
  · exact .inl ⟨fun i c hq => h1 i c ((h i c).mpr hq), h2⟩
  · exact .inr ⟨m, h1, fun i c hq => h2 i c ((h i c).mpr hq), i, c, (h i c).mp h3, h4⟩
theorem g_mS_on {X : Nat → Nat → Int} {row : Nat → List Nat} {l k c : Nat} {x x0 : Int32} (hk : (row l)[k]? = some c) (hb : ∀ i d, g_Q row l k i d → -100000000 ≤ X i d ∧ X i d ≤ 100000000) (hc : -100000000 ≤ X l c ∧ X l c ≤ 100000000) (hm : g_mS X (g_Q row l k) x x0) (h0 : x = x0 → (∀ i d, ¬ g_Q row l k i d) → ∃ y : Int32, (if iI (X l c) < x then iI (X l c) else x) = y ∧ y = iI (X l c)) : g_mS X (g_Q row l (k + 1)) (if iI (X l c) < x then iI (X l c) else x) x0 := by
  rcases hm with ⟨h1, h2⟩ | ⟨m, h1, h2, i, d, h3, h4⟩
  · obtain ⟨y, e1, e2⟩ := h0 h2 h1
    rw [e1]
    refine .inr ⟨X l c, e2, ?_, l, c, (g_Q_on hk l c).mpr (.inr ⟨rfl, rfl⟩), rfl⟩
    intro i d hq
    rcases (g_Q_on hk i d).mp hq with h | ⟨rfl, rfl⟩
    · exact absurd h (h1 i d)
    · exact Int.le_refl _
  · subst h1
    have hmb := hb i d h3
    rw [h4] at hmb
    by_cases hlt : X l c < m
    · rw [if_pos (by rw [iI_lt (by omega) (by omega) (by omega) (by omega)]; exact hlt)]
      refine .inr ⟨X l c, rfl, ?_, l, c, (g_Q_on hk l c).mpr (.inr ⟨rfl, rfl⟩), rfl⟩
      intro i' d' hq
      rcases (g_Q_on hk i' d').mp hq with h | ⟨rfl, rfl⟩
      · have := h2 i' d' h
        omega
      · exact Int.le_refl _
    · rw [if_neg (by rw [iI_lt (by omega) (by omega) (by omega) (by omega)]; exact hlt)]
      refine .inr ⟨m, rfl, ?_, i, d, (g_Q_on hk i d).mpr (.inl h3), h4⟩
      intro i' d' hq
      rcases (g_Q_on hk i' d').mp hq with h | ⟨rfl, rfl⟩
      · exact h2 i' d' h
      · omega
theorem g_mS_end {N : Nat} {row : Nat → List Nat} {X : Nat → Nat → Int} {x x0 : Int32} (hm : g_mS X (g_Q row N 0) x x0) : ∃ m, g_isM N row X m ∧ ((∀ l, l < N → row l = []) ∨ x = iI m) := by
  have hQ : ∀ i c, g_Q row N 0 i c ↔ i < N ∧ c ∈ row i := by
    intro i c
    unfold g_Q
    rw [List.take_zero]
    simp
  rcases hm with ⟨h1, h2⟩ | ⟨m, h1, h2, i, c, h3, h4⟩
  · have h5 : ∀ l, l < N → row l = [] := fun l hl => by
      rw [List.eq_nil_iff_forall_not_mem]
      intro c hc
      exact h1 l c ((hQ l c).mpr ⟨hl, hc⟩)
    exact ⟨0, ⟨fun l hl c hc => by rw [h5 l hl] at hc; simp at hc, .inr ⟨h5, rfl⟩⟩, .inl h5⟩
  · obtain ⟨k1, k2⟩ := (hQ i c).mp h3
    exact ⟨m, ⟨fun l hl c hc => h2 l c ((hQ l c).mpr ⟨hl, hc⟩), .inl ⟨i, c, k1, k2, h4⟩⟩, .inr h1⟩
section CC
variable {ex bx : Nat → Bool} {up lo lay : Nat → Nat} {N : Nat} {row : Nat → List Nat} {wd : Nat → Nat} {X : Nat → Nat → Int} {w sz ar uu ll C : Nat → Int32} {so rw pl hm : Nat → Int32}
def c_WD (N : Nat) (row : Nat → List Nat) (wd : Nat → Nat) (w : Nat → Int32) : Prop := ∀ l, l < N → ∀ c, c ∈ row l → c < 40 ∧ fX7_widthOf w (nI c) = some (nI (wd c))
theorem p_pack (hO : c_O N row (nI N) so rw pl hm) (hW : c_WD N row wd w) {l : Nat} (hl : l < N) (C : Nat → Int32) : ∃ C', fX1_pack w C (nI N) so rw (nI l) = some C' ∧ (∀ k c : Nat, (row l)[k]? = some c → C' (l * 40 + c) = iI (g_pk wd (row l) k)) ∧ ∀ i c : Nat, i ≠ l → c < 40 → C' (i * 40 + c) = C (i * 40 + c) := by
  obtain ⟨o1, o2, o3, -⟩ := id hO
  obtain ⟨g1, g2, g3, g4, g5, g6⟩ := o3 l (by omega)
  have H9 : ∃ e : Nat → Int32, q_lo (fun (st : Int32 × Int32 × (Nat → Int32)) => bX1_pack_5 w (nI N) so rw (nI l) st.1 st.2.1 st.2.2) (0, 0, C) = some e ∧ (∀ k c : Nat, (row l)[k]? = some c → e (l * 40 + c) = iI (g_pk wd (row l) k)) ∧ ∀ i c : Nat, i ≠ l → c < 40 → e (i * 40 + c) = C (i * 40 + c) := by
    refine q_inv (fun n (st : Int32 × Int32 × (Nat → Int32)) => st.1 = iI (g_pk wd (row l) n) ∧ st.2.1 = nI n ∧ (∀ k c : Nat, k < n → (row l)[k]? = some c → st.2.2 (l * 40 + c) = iI (g_pk wd (row l) k)) ∧ ∀ i c : Nat, i ≠ l → c < 40 → st.2.2 (i * 40 + c) = C (i * 40 + c)) (row l).length ?_ ?_ _ ⟨rfl, rfl, fun k c h => by omega, fun _ _ _ _ => rfl⟩
    · rintro n ⟨x, y, C1⟩ hn ⟨h1, h2, h3, h4⟩
      dsimp only at h1 h2 h3 h4
      subst h1
      subst h2
      obtain ⟨c, hc⟩ : ∃ c, (row l)[n]? = some c := ⟨_, List.getElem?_eq_getElem hn⟩
      obtain ⟨w1, w2⟩ := hW l hl c (g_mem_get hc)
      have e1 := p_move (C := C1) (show l < 24 by omega) w1 (iI (g_pk wd (row l) n))
      have e2 := p_endOf (C := upd C1 (l * 40 + c) (iI (g_pk wd (row l) n))) (show l < 24 by omega) w1 w2 pk_us
      show ∃ t9, bX1_pack_5 w (nI N) so rw (nI l) (iI (g_pk wd (row l) n)) (nI n) C1 = some (.inl t9) ∧ _
      unfold bX1_pack_5
      rw [p_sizeO hO (by omega), s_bind, if_neg (by rw [s_le (by omega) (by omega)]; omega), p_itemIn hO (by omega) hc, s_bind, e1, s_bind, e2, s_bind, s_iaddL, s_addL]
      refine ⟨_, rfl, ?_, rfl, ?_, ?_⟩
      · show iI _ = iI _
        rw [g_pk, g_getD hc]
        rfl
      · intro k d hk hd
        dsimp only
        by_cases hdc : d = c
        · subst hdc
          rw [pk_us, g_nd_inj g2 hd hc]
        · have hkn : k ≠ n := fun e => hdc (by subst e; rw [hd] at hc; exact Option.some.inj hc)
          rw [pk_un (by omega)]
          exact h3 k d (by omega) hd
      · intro i d hi hd
        dsimp only
        rw [pk_un (by omega)]
        exact h4 i d hi hd
    · rintro ⟨x, y, C1⟩ ⟨h1, h2, h3, h4⟩
      dsimp only at h1 h2 h3 h4
      subst h2
      refine ⟨C1, ?_, fun k c hk => h3 k c (g_lt_len hk) hk, h4⟩
      show bX1_pack_5 w (nI N) so rw (nI l) x (nI (row l).length) C1 = _
      unfold bX1_pack_5
      rw [p_sizeO hO (by omega), s_bind, if_pos (Int32.le_refl _)]
  obtain ⟨e, h8, h9⟩ := H9
  refine ⟨e, ?_, h9⟩
  unfold fX1_pack
  rw [h8]
  rfl
theorem p_packs (hV : g_V ex up lo bx lay N row) (hO : c_O N row (nI N) so rw pl hm) (hW : c_WD N row wd w) (C : Nat → Int32) : ∃ C', q_lo (fun (st : Int32 × (Nat → Int32)) => bX1_lay_2 w (nI N) so rw st.1 st.2) (0, C) = some C' ∧ c_X N row (g_xpk row wd (fun _ _ => 0) N) C' := by
  obtain ⟨o1, o2, o3, -⟩ := id hO
  refine q_inv (fun n (st : Int32 × (Nat → Int32)) => st.1 = nI n ∧ c_X n row (g_xpk row wd (fun _ _ => 0) n) st.2) N ?_ ?_ _ ⟨rfl, fun l hl => by omega⟩
  · rintro n ⟨x, C1⟩ hn ⟨h1, h2⟩
    dsimp only at h1 h2
    subst h1
    obtain ⟨C2, e1, e2, e3⟩ := p_pack hO hW hn C1
    show ∃ t9, bX1_lay_2 w (nI N) so rw (nI n) C1 = some (.inl t9) ∧ _
    unfold bX1_lay_2 fX4_layers
    rw [s_bind, if_neg (by rw [s_le (by omega) (by omega)]; omega), e1, s_bind, s_addL]
    refine ⟨_, rfl, rfl, ?_⟩
    intro l hl c hc
    dsimp only
    rw [g_xpk]
    by_cases hln : l = n
    · subst hln
      obtain ⟨k, hk⟩ := List.mem_iff_getElem?.mp hc
      rw [g_xu_new (hV l (by omega)).1 hk (g_lt_len hk)]
      exact e2 k c hk
    · rw [g_xu_ne hln, e3 l c hln (hW l (by omega) c hc).1]
      exact h2 l (by omega) c hc
  · rintro ⟨x, C1⟩ ⟨h1, h2⟩
    dsimp only at h1 h2
    subst h1
    refine ⟨C1, ?_, h2⟩
    show bX1_lay_2 w (nI N) so rw (nI N) C1 = _
    unfold bX1_lay_2 fX4_layers
    rw [s_bind, if_pos (Int32.le_refl _)]
theorem p_addM (hG : g_G ex up lo bx lay N) (hV : g_V ex up lo bx lay N row) (hP : c_P up lo lay (g_ps ex up lo lay 24) sz ar uu ll) (hW : c_WD N row wd w) (hwd : ∀ c, 1 ≤ wd c ∧ wd c ≤ 50) (hX : c_X N row X C) {l : Nat} (hl : l < N) (s : Bool) :
    ∃ sm dg, fX1_addMiddles w sz uu ll C (nI l) (if s then 1 else 0) = some (sm, dg) ∧ ∀ c : Nat, c < 40 → sm c = iI (g_sm (g_om up lo lay wd X s l) (g_nb (g_own up lo lay s l) (g_Kx ex up lo lay s l) c)) ∧ dg c = nI (g_nb (g_own up lo lay s l) (g_Kx ex up lo lay s l) c).length := by
  have hN := hG.1
  have hmid : ∀ a : Nat, a ∈ g_Kx ex up lo lay s l → fX1_middleOf w C (nI (g_bey s l)) (nI (g_oth up lo lay s l a)) = some (iI (g_om up lo lay wd X s l a)) ∧ g_own up lo lay s l a < 40 := by
    intro a ha
    obtain ⟨h1, h2, h3⟩ := g_oth_mem hG hV ha
    obtain ⟨w1, w2⟩ := hW _ h1 _ h2
    exact ⟨p_middleOf (by omega) w1 (hwd _).2 w2 (hX _ h1 _ h2), (hW l hl _ h3).1⟩
  cases s with
  | false =>
    have hKx : g_Kx ex up lo lay false l = g_ps ex up lo lay 24 l := by
      unfold g_Kx
      rw [if_neg (by simp)]
      rfl
    obtain ⟨sm, dg, h1, h2⟩ := p_am46 (K := g_Kx ex up lo lay false l) g_Kx_len (fl := 0) (fo := 1) (xg := nI l) (xb := nI (l + 1)) (.inl ⟨rfl, rfl⟩) (own := g_own up lo lay false l) (oth := g_oth up lo lay false l) (om := g_om up lo lay wd X false l) (w := w) (sz := sz) (uu := uu) (ll := ll) (C := C) (by rw [hKx]; exact p_sizeOf hP (by omega)) (by
      intro k a hk
      have hm := hmid a (g_mem_get hk)
      rw [hKx] at hk
      exact ⟨p_endU hP (by omega) hk, hm.2, p_endL hP (by omega) hk, hm.1⟩)
    refine ⟨sm, dg, ?_, h2⟩
    unfold fX1_addMiddles jX1_addMiddles_27 jX1_addMiddles_41
    simp (disch := omega) only [s_in, s_cl, s_leL, s_ltL, s_eqL, s_leR, s_ltR, s_eqR, s_le, s_lt, s_eq, s_addL, s_addL', s_mulL, s_mulL', s_mul, nI_add, s_subL, s_sub, s_m1, s_m1', s_lm1, s_ltm1, s_m1lt, s_m1le, s_m1p, s_10, s_let, s_el, s_er, s_b2, s_b3, s_b4, s_b5, s_b6, s_b7, s_b8, s_b9, s_b10, s_b11, s_b12, s_bind, eq_self, if_pos, if_neg, ite_true, ite_false, if_true, if_false, Bool.false_eq_true, reduceIte, h1]
  | true =>
    by_cases h0 : l = 0
    · subst h0
      have hKx : g_Kx ex up lo lay true 0 = [] := by
        unfold g_Kx
        rw [if_pos ⟨rfl, rfl⟩]
      obtain ⟨sm, dg, h1, h2⟩ := p_am46 (K := g_Kx ex up lo lay true 0) g_Kx_len (fl := 1) (fo := 0) (xg := -1) (xb := -1) (.inr ⟨rfl, rfl⟩) (own := g_own up lo lay true 0) (oth := g_oth up lo lay true 0) (om := g_om up lo lay wd X true 0) (w := w) (sz := sz) (uu := uu) (ll := ll) (C := C) (by rw [hKx]; exact p_sizeOfN) (by
        intro k a hk
        rw [hKx] at hk
        simp at hk)
      refine ⟨sm, dg, ?_, h2⟩
      unfold fX1_addMiddles jX1_addMiddles_27 jX1_addMiddles_41
      rw [s_01, if_pos rfl, if_neg (by decide), if_neg (by decide), h1]
      rfl
    · have hKx : g_Kx ex up lo lay true l = g_ps ex up lo lay 24 (l - 1) := by
        unfold g_Kx
        rw [if_neg (by simp [h0])]
        rfl
      obtain ⟨sm, dg, h1, h2⟩ := p_am46 (K := g_Kx ex up lo lay true l) g_Kx_len (fl := 1) (fo := 0) (xg := nI (l - 1)) (xb := nI (l - 1)) (.inr ⟨rfl, rfl⟩) (own := g_own up lo lay true l) (oth := g_oth up lo lay true l) (om := g_om up lo lay wd X true l) (w := w) (sz := sz) (uu := uu) (ll := ll) (C := C) (by rw [hKx]; exact p_sizeOf hP (by omega)) (by
        intro k a hk
        have hm := hmid a (g_mem_get hk)
        rw [hKx] at hk
        exact ⟨p_endL hP (by omega) hk, hm.2, p_endU hP (by omega) hk, hm.1⟩)
      refine ⟨sm, dg, ?_, h2⟩
      unfold fX1_addMiddles jX1_addMiddles_27 jX1_addMiddles_41
      simp (disch := omega) only [s_in, s_cl, s_leL, s_ltL, s_eqL, s_leR, s_ltR, s_eqR, s_le, s_lt, s_eq, s_addL, s_addL', s_mulL, s_mulL', s_mul, nI_add, s_subL, s_sub, s_m1, s_m1', s_lm1, s_ltm1, s_m1lt, s_m1le, s_m1p, s_10, s_let, s_el, s_er, s_b2, s_b3, s_b4, s_b5, s_b6, s_b7, s_b8, s_b9, s_b10, s_b11, s_b12, s_bind, eq_self, if_pos, if_neg, ite_true, ite_false, if_true, if_false, Bool.false_eq_true, reduceIte, h1]
theorem p_wanted (hG : g_G ex up lo bx lay N) (hV : g_V ex up lo bx lay N row) (hW : c_WD N row wd w) (hwd : ∀ c, 1 ≤ wd c ∧ wd c ≤ 50) {M : Int} (hB : g_XB N row wd X M) (hM : M ≤ 1000000) {l c : Nat} (hl : l < N) (hc : c ∈ row l) {s : Bool} {sm dg : Nat → Int32} (hs : sm c = iI (g_sm (g_om up lo lay wd X s l) (g_nb (g_own up lo lay s l) (g_Kx ex up lo lay s l) c)) ∧ dg c = nI (g_nb (g_own up lo lay s l) (g_Kx ex up lo lay s l) c).length) (hC : C (l * 40 + c) = iI (X l c)) :
    fX1_wanted w C sm dg (nI l) (nI c) = some (iI (g_wn ex up lo lay wd X s l c)) := by
  have hN := hG.1
  obtain ⟨w1, w2⟩ := hW l hl c hc
  have hwc := hwd c
  have hsb := g_sm_b (om := g_om up lo lay wd X s l) (M := M) (g_nb (g_own up lo lay s l) (g_Kx ex up lo lay s l) c) (fun a ha => by
    obtain ⟨k1, k2, -⟩ := g_oth_mem hG hV (List.mem_filter.mp ha).1
    exact hB _ k1 _ k2)
  have hlen : (g_nb (g_own up lo lay s l) (g_Kx ex up lo lay s l) c).length ≤ 24 := Nat.le_trans (List.length_filter_le _ _) g_Kx_len
  obtain ⟨s1, s2⟩ := hs
  unfold fX1_wanted jX1_wanted_19 g_wn
  generalize g_sm (g_om up lo lay wd X s l) (g_nb (g_own up lo lay s l) (g_Kx ex up lo lay s l) c) = S at hsb s1
  generalize (g_nb (g_own up lo lay s l) (g_Kx ex up lo lay s l) c).length = n at hsb hlen s2
  by_cases h0 : n = 0
  · subst h0
    rw [if_pos rfl]
    simp (disch := omega) only [s_in, s_cl, s_leL, s_ltL, s_eqL, s_leR, s_ltR, s_eqR, s_le, s_lt, s_eq, s_addL, s_addL', s_mulL, s_mulL', s_mul, nI_add, s_subL, s_sub, s_m1, s_m1', s_lm1, s_ltm1, s_m1lt, s_m1le, s_m1p, s_10, s_let, s_el, s_er, s_b2, s_b3, s_b4, s_b5, s_b6, s_b7, s_b8, s_b9, s_b10, s_b11, s_b12, s_bind, eq_self, if_pos, if_neg, ite_true, ite_false, if_true, if_false, Bool.false_eq_true, reduceIte, s2, p_leftOf (C := C) (show l < 24 by omega) w1, hC]
  · rw [if_neg h0]
    have hS : S < 2147483648 := by
      have h1 : (n : Int) * M ≤ 24 * 1000000 := by
        have h2 : (0 : Int) ≤ M := by
          have := hB l hl c hc
          omega
        exact Int.mul_le_mul (by omega) hM h2 (by omega)
      omega
    have e1 : iI S / nI n = iI (S / (n : Int)) := s_idiv hsb.1 hS (by omega)
    simp (disch := omega) only [s_in, s_cl, s_leL, s_ltL, s_eqL, s_leR, s_ltR, s_eqR, s_le, s_lt, s_eq, s_addL, s_addL', s_mulL, s_mulL', s_mul, nI_add, s_subL, s_sub, s_m1, s_m1', s_lm1, s_ltm1, s_m1lt, s_m1le, s_m1p, s_10, s_let, s_el, s_er, s_b2, s_b3, s_b4, s_b5, s_b6, s_b7, s_b8, s_b9, s_b10, s_b11, s_b12, s_bind, eq_self, if_pos, if_neg, ite_true, ite_false, if_true, if_false, Bool.false_eq_true, reduceIte, s1, s2, w2, e1, s_divL, s_isubn]
theorem p_strt (hG : g_G ex up lo bx lay N) (hV : g_V ex up lo bx lay N row) (hO : c_O N row (nI N) so rw pl hm) (hW : c_WD N row wd w) (hwd : ∀ c, 1 ≤ wd c ∧ wd c ≤ 50) {M : Int} (hB : g_XB N row wd X M) (hM : M ≤ 1000000) (hX : c_X N row X C) {l : Nat} (hl : l < N) {s : Bool} {sm dg : Nat → Int32} (hs : ∀ c : Nat, c < 40 → sm c = iI (g_sm (g_om up lo lay wd X s l) (g_nb (g_own up lo lay s l) (g_Kx ex up lo lay s l) c)) ∧ dg c = nI (g_nb (g_own up lo lay s l) (g_Kx ex up lo lay s l) c).length) :
    ∃ C', fX1_straighten w C sm dg (nI N) so rw (nI l) = some C' ∧ c_X N row (g_xp ex up lo lay row wd s l X) C' := by
  obtain ⟨o1, o2, o3, -⟩ := id hO
  obtain ⟨g1, g2, g3, g4, g5, g6⟩ := o3 l (by omega)
  have hwn := g_wn_b hG hV hB (s := s) hl
  have hxk := g_xk_b (W := g_wn ex up lo lay wd X s l) hwd hwn
  have H9 : ∃ e : Nat → Int32, q_lo (fun (st : Int32 × Int32 × (Nat → Int32)) => bX1_straighten_6 w sm dg (nI N) so rw (nI l) st.1 st.2.1 st.2.2) ((-1073741824), 0, C) = some e ∧ c_X N row (g_xp ex up lo lay row wd s l X) e := by
    refine q_inv (fun n (st : Int32 × Int32 × (Nat → Int32)) => st.2.1 = nI n ∧ c_X N row (g_xu X l (row l) (g_xk (g_wn ex up lo lay wd X s l) wd (row l)) n) st.2.2 ∧ (n = 0 → st.1 = -1073741824) ∧ ∀ j d : Nat, n = j + 1 → (row l)[j]? = some d → st.1 = iI (g_xk (g_wn ex up lo lay wd X s l) wd (row l) j + (wd d : Int) + 4)) (row l).length ?_ ?_ _ ⟨rfl, by rw [g_xu_0]; exact hX, fun _ => rfl, fun j d h => by omega⟩
    · rintro n ⟨x, y, C1⟩ hn ⟨h1, h2, h3, h4⟩
      dsimp only at h1 h2 h3 h4
      subst h1
      obtain ⟨c, hc⟩ : ∃ c, (row l)[n]? = some c := ⟨_, List.getElem?_eq_getElem hn⟩
      obtain ⟨w1, w2⟩ := hW l hl c (g_mem_get hc)
      have hC1 : C1 (l * 40 + c) = iI (X l c) := by
        rw [h2 l hl c (g_mem_get hc), g_xu_old g2 hc]
      have e0 := p_wanted hG hV hW hwd hB hM hl (g_mem_get hc) (hs c w1) hC1
      have hwc := hwd c
      have k1 := hwn c (g_mem_get hc)
      have hv : (if iI (g_wn ex up lo lay wd X s l c) < x then x else iI (g_wn ex up lo lay wd X s l c)) = iI (g_xk (g_wn ex up lo lay wd X s l) wd (row l) n) := by
        cases n with
        | zero =>
          rw [h3 rfl, if_neg, g_xk, g_getD hc]
          rw [show (-1073741824 : Int32) = iI (-1073741824) by decide, iI_lt (by omega) (by omega) (by omega) (by omega)]
          omega
        | succ j =>
          obtain ⟨d, hd⟩ : ∃ d, (row l)[j]? = some d := ⟨_, List.getElem?_eq_getElem (by omega)⟩
          have k2 := hxk j d hd
          have hwdd := hwd d
          rw [h4 j d rfl hd, g_xk, g_getD hc, g_getD hd]
          by_cases hlt : g_wn ex up lo lay wd X s l c < g_xk (g_wn ex up lo lay wd X s l) wd (row l) j + (wd d : Int) + 4
          · rw [if_pos (by rw [iI_lt (by omega) (by omega) (by omega) (by omega)]; exact hlt)]
            congr 1
            omega
          · rw [if_neg (by rw [iI_lt (by omega) (by omega) (by omega) (by omega)]; exact hlt)]
            congr 1
            omega
      have e1 := p_move (C := C1) (show l < 24 by omega) w1 (iI (g_xk (g_wn ex up lo lay wd X s l) wd (row l) n))
      have e2 := p_endOf (C := upd C1 (l * 40 + c) (iI (g_xk (g_wn ex up lo lay wd X s l) wd (row l) n))) (show l < 24 by omega) w1 w2 pk_us
      show ∃ t9, bX1_straighten_6 w sm dg (nI N) so rw (nI l) x (nI n) C1 = some (.inl t9) ∧ _
      unfold bX1_straighten_6
      rw [p_sizeO hO (by omega), s_bind, if_neg (by rw [s_le (by omega) (by omega)]; omega), p_itemIn hO (by omega) hc, s_bind, e0, s_bind, hv, e1, s_bind, e2, s_bind, s_iaddL, s_addL]
      refine ⟨_, rfl, rfl, c_X_upd g2 (fun i hi c hc => (hW i hi c hc).1) hl hc h2, fun h => by omega, ?_⟩
      intro j d hj hd
      have : j = n := by omega
      subst this
      rw [hc] at hd
      cases hd
      rfl
    · rintro ⟨x, y, C1⟩ ⟨h1, h2, h3, h4⟩
      dsimp only at h1 h2 h3 h4
      subst h1
      refine ⟨C1, ?_, h2⟩
      show bX1_straighten_6 w sm dg (nI N) so rw (nI l) x (nI (row l).length) C1 = _
      unfold bX1_straighten_6
      rw [p_sizeO hO (by omega), s_bind, if_pos (Int32.le_refl _)]
  obtain ⟨e, h8, h9⟩ := H9
  refine ⟨e, ?_, h9⟩
  unfold fX1_straighten
  rw [h8]
  rfl
theorem p_lay44 (hG : g_G ex up lo bx lay N) (hV : g_V ex up lo bx lay N row) (hP : c_P up lo lay (g_ps ex up lo lay 24) sz ar uu ll) (hO : c_O N row (nI N) so rw pl hm) (hW : c_WD N row wd w) (hwd : ∀ c, 1 ≤ wd c ∧ wd c ≤ 50) {M : Int} (hB : g_XB N row wd X M) (hM : M ≤ 900000) (hX : c_X N row X C) (s : Bool) (x2 : Int32) (sm dg : Nat → Int32) :
    ∃ C' sm' dg', q_lo (fun (st : Int32 × (Nat → Int32) × (Nat → Int32) × (Nat → Int32)) => bX1_lay_44 w sz uu ll (nI N) so rw x2 (if s then 1 else 0) st.1 st.2.1 st.2.2.1 st.2.2.2) (0, C, sm, dg) = some (C', sm', dg') ∧ c_X N row (g_xa ex up lo lay row wd N s X N) C' := by
  have hN := hG.1
  obtain ⟨o1, o2, o3, -⟩ := id hO
  have h40 : ∀ i, i < N → (row i).length ≤ 40 := fun i hi => (o3 i (by omega)).2.2.1
  have H9 : ∃ e : (Nat → Int32) × (Nat → Int32) × (Nat → Int32), q_lo (fun (st : Int32 × (Nat → Int32) × (Nat → Int32) × (Nat → Int32)) => bX1_lay_44 w sz uu ll (nI N) so rw x2 (if s then 1 else 0) st.1 st.2.1 st.2.2.1 st.2.2.2) (0, C, sm, dg) = some e ∧ c_X N row (g_xa ex up lo lay row wd N s X N) e.1 := by
    refine q_inv (fun k (st : Int32 × (Nat → Int32) × (Nat → Int32) × (Nat → Int32)) => st.1 = nI k ∧ c_X N row (g_xa ex up lo lay row wd N s X k) st.2.1) N ?_ ?_ _ ⟨rfl, hX⟩
    · rintro k ⟨x, C1, sm1, dg1⟩ hk ⟨h1, h2⟩
      dsimp only at h1 h2
      subst h1
      have hBk := g_XB_xa hG hV hwd h40 hB s k (by omega)
      obtain ⟨sm2, dg2, e1, e2⟩ := p_addM hG hV hP hW hwd h2 (l := if s = true then k else N - 1 - k) (by split <;> omega) s
      obtain ⟨C2, e3, e4⟩ := p_strt hG hV hO hW hwd hBk (by omega) h2 (l := if s = true then k else N - 1 - k) (by split <;> omega) e2
      show ∃ t9, bX1_lay_44 w sz uu ll (nI N) so rw x2 (if s then 1 else 0) (nI k) C1 sm1 dg1 = some (.inl t9) ∧ _
      unfold bX1_lay_44 jX1_lay_71 fX4_layers
      cases s with
      | false =>
        rw [if_neg (by decide)] at e1 e3
        rw [if_neg (show ¬ (false = true) by decide)] at e1
        have e5 : nI N - 1 - nI k = nI (N - 1 - k) := by rw [s_subL (by omega), s_sub (by omega)]
        rw [s_bind, if_neg (by rw [s_le (by omega) (by omega)]; omega), if_pos (by rfl), s_bind, if_neg (show ¬ (false = true) by decide), e5, e1, s_b2, e3, s_bind, s_addL]
        exact ⟨_, rfl, rfl, e4⟩
      | true =>
        rw [if_pos rfl] at e1 e3
        rw [if_pos rfl] at e1
        rw [s_bind, if_neg (by rw [s_le (by omega) (by omega)]; omega), if_neg (by decide), if_pos rfl, e1, s_b2, e3, s_bind, s_addL]
        exact ⟨_, rfl, rfl, e4⟩
    · rintro ⟨x, C1, sm1, dg1⟩ ⟨h1, h2⟩
      dsimp only at h1 h2
      subst h1
      refine ⟨(C1, sm1, dg1), ?_, h2⟩
      show bX1_lay_44 w sz uu ll (nI N) so rw x2 (if s then 1 else 0) (nI N) C1 sm1 dg1 = _
      unfold bX1_lay_44 fX4_layers
      rw [s_bind, if_pos (Int32.le_refl _)]
  obtain ⟨⟨z1, z2, z3⟩, h8, h9⟩ := H9
  exact ⟨z1, z2, z3, h8, h9⟩
theorem p_lay24 (hG : g_G ex up lo bx lay N) (hV : g_V ex up lo bx lay N row) (hP : c_P up lo lay (g_ps ex up lo lay 24) sz ar uu ll) (hO : c_O N row (nI N) so rw pl hm) (hW : c_WD N row wd w) (hwd : ∀ c, 1 ≤ wd c ∧ wd c ≤ 50) {M : Int} (hB : g_XB N row wd X M) (hM : M ≤ 10000) (hX : c_X N row X C) (sm dg : Nat → Int32) :
    ∃ C' sm' dg', q_lo (fun (st : Int32 × (Nat → Int32) × (Nat → Int32) × (Nat → Int32)) => bX1_lay_24 w sz uu ll (nI N) so rw st.1 st.2.1 st.2.2.1 st.2.2.2) (0, C, sm, dg) = some (C', sm', dg') ∧ c_X N row (g_x4 ex up lo lay row wd N X 4) C' := by
  have hN := hG.1
  obtain ⟨o1, o2, o3, -⟩ := id hO
  have h40 : ∀ i, i < N → (row i).length ≤ 40 := fun i hi => (o3 i (by omega)).2.2.1
  have H9 : ∃ e : (Nat → Int32) × (Nat → Int32) × (Nat → Int32), q_lo (fun (st : Int32 × (Nat → Int32) × (Nat → Int32) × (Nat → Int32)) => bX1_lay_24 w sz uu ll (nI N) so rw st.1 st.2.1 st.2.2.1 st.2.2.2) (0, C, sm, dg) = some e ∧ c_X N row (g_x4 ex up lo lay row wd N X 4) e.1 := by
    refine q_inv (fun n (st : Int32 × (Nat → Int32) × (Nat → Int32) × (Nat → Int32)) => st.1 = nI n ∧ c_X N row (g_x4 ex up lo lay row wd N X n) st.2.1) 4 ?_ ?_ _ ⟨rfl, hX⟩
    · rintro n ⟨x, C1, sm1, dg1⟩ hn ⟨h1, h2⟩
      dsimp only at h1 h2
      subst h1
      have hBn := g_XB_x4 hG hV hwd h40 hB n
      obtain ⟨C2, sm2, dg2, e1, e2⟩ := p_lay44 hG hV hP hO hW hwd hBn (by omega) h2 (decide (n % 2 = 0)) (nI n) sm1 dg1
      have e3 : nI n - nI n / 2 * 2 = nI (n % 2) := by
        rw [s_divL (by omega) (by omega), s_mulL, s_sub (by omega)]
        congr 1
        omega
      show ∃ t9, bX1_lay_24 w sz uu ll (nI N) so rw (nI n) C1 sm1 dg1 = some (.inl t9) ∧ _
      unfold bX1_lay_24 jX1_lay_40
      rw [e3, if_neg (by rw [n_lit 4, s_le (by omega) (by omega)]; omega)]
      by_cases hc : n % 2 = 0
      · rw [if_pos (by rw [hc]; rfl)]
        have e4 : (if decide (n % 2 = 0) = true then (1 : Int32) else 0) = 1 := if_pos (by simpa using hc)
        rw [e4] at e1
        rw [e1, s_b3, s_addL]
        exact ⟨_, rfl, rfl, e2⟩
      · rw [if_neg (by rw [n_lit 0, s_eq (by omega) (by omega)]; omega)]
        have e4 : (if decide (n % 2 = 0) = true then (1 : Int32) else 0) = 0 := if_neg (by simpa using hc)
        rw [e4] at e1
        rw [e1, s_b3, s_addL]
        exact ⟨_, rfl, rfl, e2⟩
    · rintro ⟨x, C1, sm1, dg1⟩ ⟨h1, h2⟩
      dsimp only at h1 h2
      subst h1
      refine ⟨(C1, sm1, dg1), ?_, h2⟩
      show bX1_lay_24 w sz uu ll (nI N) so rw (nI 4) C1 sm1 dg1 = _
      unfold bX1_lay_24
      rw [if_pos (by decide)]
  obtain ⟨⟨z1, z2, z3⟩, h8, h9⟩ := H9
  exact ⟨z1, z2, z3, h8, h9⟩
theorem p_leastX (hO : c_O N row (nI N) so rw pl hm) (hc40 : ∀ l, l < N → ∀ c, c ∈ row l → c < 40) (hb : ∀ l, l < N → ∀ c, c ∈ row l → -100000000 ≤ X l c ∧ X l c ≤ 100000000) (hX : c_X N row X C) :
    ∃ x m, fX1_leastX C (nI N) so rw = some x ∧ g_isM N row X m ∧ ((∀ l, l < N → row l = []) ∨ x = iI m) := by
  obtain ⟨o1, o2, o3, -⟩ := id hO
  have H9 : ∃ e : Int32, q_lo (fun (st : Int32 × Int32) => bX1_leastX_5 C (nI N) so rw st.1 st.2) (1073741824, 0) = some e ∧ g_mS X (g_Q row N 0) e 1073741824 := by
    refine q_inv (fun n (st : Int32 × Int32) => st.2 = nI n ∧ g_mS X (g_Q row n 0) st.1 1073741824) N ?_ ?_ _ ⟨rfl, .inl ⟨fun i c h => by unfold g_Q at h; simp at h, rfl⟩⟩
    · rintro n ⟨x, y⟩ hn ⟨h1, h2⟩
      dsimp only at h1 h2
      subst h1
      have H8 : ∃ e : Int32, q_lo (fun (st : Int32 × Int32) => bX1_leastX_16 C (nI N) so rw (nI n) st.1 st.2) (x, 0) = some e ∧ g_mS X (g_Q row (n + 1) 0) e 1073741824 := by
        refine q_inv (fun k (st : Int32 × Int32) => st.2 = nI k ∧ g_mS X (g_Q row n k) st.1 1073741824) (row n).length ?_ ?_ _ ⟨rfl, h2⟩
        · rintro k ⟨x, y⟩ hk ⟨h1, h2⟩
          dsimp only at h1 h2
          subst h1
          obtain ⟨c, hc⟩ : ∃ c, (row n)[k]? = some c := ⟨_, List.getElem?_eq_getElem hk⟩
          have hkl := (o3 n (by omega)).2.2.1
          have hcb := hb n hn c (g_mem_get hc)
          show ∃ t9, bX1_leastX_16 C (nI N) so rw (nI n) x (nI k) = some (.inl t9) ∧ _
          unfold bX1_leastX_16
          rw [p_sizeO hO (by omega), s_bind, if_neg (by rw [s_le (by omega) (by omega)]; omega), p_itemIn hO (by omega) hc, s_bind, p_leftOf (by omega) (hc40 n hn c (g_mem_get hc)), s_bind, hX n hn c (g_mem_get hc), s_let, s_addL]
          refine ⟨_, rfl, rfl, g_mS_on hc (fun i d hq => ?_) hcb h2 (fun hx _ => ⟨_, rfl, ?_⟩)⟩
          · rcases hq with ⟨q1, q2⟩ | ⟨q1, q2⟩
            · exact hb i (by omega) d q2
            · subst q1
              exact hb i hn d (List.mem_of_mem_take q2)
          · rw [hx, if_pos]
            rw [show (1073741824 : Int32) = iI 1073741824 by decide, iI_lt (by omega) (by omega) (by omega) (by omega)]
            omega
        · rintro ⟨x, y⟩ ⟨h1, h2⟩
          dsimp only at h1 h2
          subst h1
          refine ⟨x, ?_, g_mS_congr g_Q_next h2⟩
          show bX1_leastX_16 C (nI N) so rw (nI n) x (nI (row n).length) = _
          unfold bX1_leastX_16
          rw [p_sizeO hO (by omega), s_bind, if_pos (Int32.le_refl _)]
      obtain ⟨e, h8, h9⟩ := H8
      show ∃ t9, bX1_leastX_5 C (nI N) so rw x (nI n) = some (.inl t9) ∧ _
      unfold bX1_leastX_5 fX4_layers
      rw [s_bind, if_neg (by rw [s_le (by omega) (by omega)]; omega), h8, s_bind, s_addL]
      exact ⟨_, rfl, rfl, h9⟩
    · rintro ⟨x, y⟩ ⟨h1, h2⟩
      dsimp only at h1 h2
      subst h1
      refine ⟨x, ?_, h2⟩
      show bX1_leastX_5 C (nI N) so rw x (nI N) = _
      unfold bX1_leastX_5 fX4_layers
      rw [s_bind, if_pos (Int32.le_refl _)]
  obtain ⟨e, h8, h9⟩ := H9
  obtain ⟨m, h10, h11⟩ := g_mS_end h9
  refine ⟨e, m, ?_, h10, h11⟩
  unfold fX1_leastX
  rw [h8]
  rfl
theorem p_shift (hV : g_V ex up lo bx lay N row) (hO : c_O N row (nI N) so rw pl hm) (hc40 : ∀ l, l < N → ∀ c, c ∈ row l → c < 40) (hX : c_X N row X C) {x : Int32} {m : Int} (hx : (∀ l, l < N → row l = []) ∨ x = iI m) :
    ∃ C', fX1_shift C (nI N) so rw x = some C' ∧ c_X N row (g_xs0 X m) C' := by
  obtain ⟨o1, o2, o3, -⟩ := id hO
  have H9 : ∃ e : Nat → Int32, q_lo (fun (st : Int32 × (Nat → Int32)) => bX1_shift_2 (nI N) so rw x st.1 st.2) (0, C) = some e ∧ c_X N row (g_xs0 X m) e := by
    refine q_inv (fun n (st : Int32 × (Nat → Int32)) => st.1 = nI n ∧ c_X N row (fun i c => if i < n then X i c - m else X i c) st.2) N ?_ ?_ _ ⟨rfl, c_X_congr (fun l hl c hc => by simp) hX⟩
    · rintro n ⟨y, C1⟩ hn ⟨h1, h2⟩
      dsimp only at h1 h2
      subst h1
      obtain ⟨g1, g2, g3, g4, g5, g6⟩ := o3 n (by omega)
      have H8 : ∃ e : Nat → Int32, q_lo (fun (st : Int32 × (Nat → Int32)) => bX1_shift_13 (nI N) so rw x (nI n) st.1 st.2) (0, C1) = some e ∧ c_X N row (g_xu (fun i c => if i < n then X i c - m else X i c) n (row n) (fun k => X n ((row n).getD k 0) - m) (row n).length) e := by
        refine q_inv (fun k (st : Int32 × (Nat → Int32)) => st.1 = nI k ∧ c_X N row (g_xu (fun i c => if i < n then X i c - m else X i c) n (row n) (fun k => X n ((row n).getD k 0) - m) k) st.2) (row n).length ?_ ?_ _ ⟨rfl, by rw [g_xu_0]; exact h2⟩
        · rintro k ⟨y, C2⟩ hk ⟨h1, h3⟩
          dsimp only at h1 h3
          subst h1
          obtain ⟨c, hc⟩ : ∃ c, (row n)[k]? = some c := ⟨_, List.getElem?_eq_getElem hk⟩
          have hxm : x = iI m := by
            rcases hx with h | h
            · have := g_mem_get hc
              rw [h n hn] at this
              simp at this
            · exact h
          have hC2 : C2 (n * 40 + c) = iI (X n c) := by
            rw [h3 n hn c (g_mem_get hc), g_xu_old g2 hc]
            simp
          have hc4 := hc40 n hn c (g_mem_get hc)
          have hup := c_X_upd g2 hc40 hn hc h3
          rw [g_getD hc] at hup
          show ∃ t9, bX1_shift_13 (nI N) so rw x (nI n) (nI k) C2 = some (.inl t9) ∧ _
          unfold bX1_shift_13
          rw [p_sizeO hO (by omega), s_bind, if_neg (by rw [s_le (by omega) (by omega)]; omega), p_itemIn hO (by omega) hc, s_bind, p_leftOf (by omega) hc4, s_bind, hC2, hxm, iI_sub, p_move (by omega) hc4, s_bind, s_addL]
          exact ⟨_, rfl, rfl, hup⟩
        · rintro ⟨y, C2⟩ ⟨h1, h3⟩
          dsimp only at h1 h3
          subst h1
          refine ⟨C2, ?_, h3⟩
          show bX1_shift_13 (nI N) so rw x (nI n) (nI (row n).length) C2 = _
          unfold bX1_shift_13
          rw [p_sizeO hO (by omega), s_bind, if_pos (Int32.le_refl _)]
      obtain ⟨e, h8, h9⟩ := H8
      show ∃ t9, bX1_shift_2 (nI N) so rw x (nI n) C1 = some (.inl t9) ∧ _
      unfold bX1_shift_2 fX4_layers
      rw [s_bind, if_neg (by rw [s_le (by omega) (by omega)]; omega), h8, s_bind, s_addL]
      refine ⟨_, rfl, rfl, c_X_congr (fun l hl c hc => ?_) h9⟩
      by_cases hln : l = n
      · subst hln
        obtain ⟨k, hk⟩ := List.mem_iff_getElem?.mp hc
        rw [g_xu_new g2 hk (g_lt_len hk), g_getD hk, if_pos (by omega)]
      · rw [g_xu_ne hln]
        by_cases hl2 : l < n
        · rw [if_pos hl2, if_pos (by omega)]
        · rw [if_neg hl2, if_neg (by omega)]
    · rintro ⟨y, C1⟩ ⟨h1, h2⟩
      dsimp only at h1 h2
      subst h1
      refine ⟨C1, ?_, c_X_congr (fun l hl c hc => if_pos hl) h2⟩
      show bX1_shift_2 (nI N) so rw x (nI N) C1 = _
      unfold bX1_shift_2 fX4_layers
      rw [s_bind, if_pos (Int32.le_refl _)]
  obtain ⟨e, h8, h9⟩ := H9
  refine ⟨e, ?_, h9⟩
  unfold fX1_shift
  rw [h8]
  rfl
/-- the columns ahead of the shift -/
def g_xf (ex : Nat → Bool) (up lo lay : Nat → Nat) (row : Nat → List Nat) (wd : Nat → Nat) (N : Nat) : Nat → Nat → Int := g_x4 ex up lo lay row wd N (g_xpk row wd (fun _ _ => 0) N) 4
theorem g_xf_b (hG : g_G ex up lo bx lay N) (hV : g_V ex up lo bx lay N row) (hwd : ∀ c, 1 ≤ wd c ∧ wd c ≤ 50) (h40 : ∀ i, i < N → (row i).length ≤ 40) : ∀ l, l < N → ∀ c, c ∈ row l → -25 ≤ g_xf ex up lo lay row wd N l c ∧ g_xf ex up lo lay row wd N l c ≤ 210000 := by
  intro l hl c hc
  have h1 := g_XB_x4 hG hV hwd h40 (g_XB_pk (X := fun _ _ => 0) hV hG.1 hwd h40) 4 l hl c hc
  have h2 := hwd c
  unfold g_mid at h1
  unfold g_xf
  omega
theorem p_lay (hG : g_G ex up lo bx lay N) (hV : g_V ex up lo bx lay N row) (hP : c_P up lo lay (g_ps ex up lo lay 24) sz ar uu ll) (hO : c_O N row (nI N) so rw pl hm) (hW : c_WD N row wd w) (hwd : ∀ c, 1 ≤ wd c ∧ wd c ≤ 50) (C sm dg : Nat → Int32) :
    ∃ C' sm' dg' m, fX1_lay w sz uu ll C sm dg (nI N) so rw = some (C', sm', dg') ∧ g_isM N row (g_xf ex up lo lay row wd N) m ∧ c_X N row (g_xs0 (g_xf ex up lo lay row wd N) m) C' := by
  have hN := hG.1
  obtain ⟨o1, o2, o3, -⟩ := id hO
  have h40 : ∀ i, i < N → (row i).length ≤ 40 := fun i hi => (o3 i (by omega)).2.2.1
  have hc40 : ∀ l, l < N → ∀ c, c ∈ row l → c < 40 := fun l hl c hc => (hW l hl c hc).1
  obtain ⟨C1, a1, a2⟩ := p_packs hV hO hW C
  obtain ⟨C2, sm2, dg2, b1, b2⟩ := p_lay24 hG hV hP hO hW hwd (g_XB_pk (X := fun _ _ => 0) hV hN hwd h40) (by omega) a2 sm dg
  obtain ⟨x, m, c1, c2, c3⟩ := p_leastX hO hc40 (fun l hl c hc => by have := g_xf_b hG hV hwd h40 l hl c hc; unfold g_xf at this; omega) b2
  obtain ⟨C3, d1, d2⟩ := p_shift hV hO hc40 b2 c3
  refine ⟨C3, sm2, dg2, m, ?_, c2, d2⟩
  unfold fX1_lay
  rw [a1, s_bind, b1, s_b3, c1, s_bind, d1, s_bind]
end CC
