/-! PURE: what holds between calls. -/
theorem n_cases (p : Int32) (n : Nat) (hn : n < 2147483648) : (p < 0 ∨ nI n ≤ p) ∨ ∃ k, k < n ∧ p = nI k := by
  have h1 := Int32.le_toInt p
  have h2 := Int32.toInt_lt p
  have e : p = iI p.toInt := (Int32.ofInt_toInt p).symm
  by_cases h0 : p.toInt < 0
  · left; left
    rw [Int32.lt_iff_toInt_lt]
    exact h0
  · by_cases h3 : (n : Int) ≤ p.toInt
    · left; right
      rw [Int32.le_iff_toInt_le, iI_nat, iI_int (by omega) (by omega)]
      exact h3
    · right
      refine ⟨p.toInt.toNat, by omega, ?_⟩
      rw [iI_nat, show ((p.toInt.toNat : Nat) : Int) = p.toInt by omega]
      exact e
def g_wd (wv : Nat → Nat) (c : Nat) : Nat := if c < 16 then wv c else 1
/-- the class's boxes and arrows -/
def k_S (ex bx pn tn : Nat → Bool) (fr to pv wv : Nat → Nat) (w p f t T : Nat → Int32) : Prop := c_G ex fr to w f t ∧ c_T tn T ∧ c_B bx pn pv w p ∧ g_T ex fr to tn 24 ∧ ∀ b, b < 16 → (bx b = true → w b = nI (wv b)) ∧ (bx b = false → p b = -1) ∧ 1 ≤ wv b ∧ wv b ≤ 50
/-- the reference's -/
def k_M (ex bx pn : Nat → Bool) (fr to pv wv : Nat → Nat) (X W p A F T : Nat → Int32) : Prop := m_G ex fr to A F T ∧ m_B bx pn pv X p ∧ ∀ b, b < 16 → bx b = true → W b = nI (wv b)
def g_X (ex : Nat → Bool) (up lo lay : Nat → Nat) (old : Nat → List Nat) (wd : Nat → Nat) (N : Nat) (m : Int) : Nat → Nat → Int := g_xs0 (g_xf ex up lo lay old wd N) m
/-- a drawing that is told -/
def k_D (ex bx tn : Nat → Bool) (fr to wv : Nat → Nat) (N : Nat) (old : Nat → List Nat) (lay : Nat → Nat) (m : Int) (Lp : Nat → List Nat) (L tp bo : Nat → Int32) (ly : Int32) (sz ar uu ll C tr us U : Nat → Int32) (zly : Int32) (zL S I P D Z : Nat → Int32) : Prop :=
  g_G ex (g_up fr to tn) (g_lo fr to tn) bx lay N ∧ g_V ex (g_up fr to tn) (g_lo fr to tn) bx lay N old ∧ c_L bx lay L ∧ c_E ex (g_up fr to tn) (g_lo fr to tn) lay tp bo ∧ ly = nI N ∧ c_P (g_up fr to tn) (g_lo fr to tn) lay (g_ps ex (g_up fr to tn) (g_lo fr to tn) lay 24) sz ar uu ll ∧
  g_isM N old (g_xf ex (g_up fr to tn) (g_lo fr to tn) lay old (g_wd wv) N) m ∧ c_X N old (g_X ex (g_up fr to tn) (g_lo fr to tn) lay old (g_wd wv) N m) C ∧ (∀ l, l + 1 < N → g_Lp ex (g_up fr to tn) (g_lo fr to tn) lay (g_wd wv) (g_X ex (g_up fr to tn) (g_lo fr to tn) lay old (g_wd wv) N m) l (Lp l)) ∧ c_Tr N (g_up fr to tn) (g_lo fr to tn) lay (g_wd wv) (g_X ex (g_up fr to tn) (g_lo fr to tn) lay old (g_wd wv) N m) Lp tr us ∧
  c_T tn U ∧ m_L bx lay zL ∧ zly = nI N ∧ m_O N old S I P D ∧ m_Xs N old (g_X ex (g_up fr to tn) (g_lo fr to tn) lay old (g_wd wv) N m) Z
def k_I (M_told : Int32) (R_width : Nat → Int32) (R_pinned : Nat → Int32) (R_from : Nat → Int32) (R_to : Nat → Int32) (R_turned : Nat → Int32) (L_layer : Nat → Int32) (L_tops : Nat → Int32) (L_bottoms : Nat → Int32) (L_layers : Int32) (P_size : Nat → Int32) (P_arrows : Nat → Int32) (P_uppers : Nat → Int32) (P_lowers : Nat → Int32) (C_x : Nat → Int32) (T_track : Nat → Int32) (T_used : Nat → Int32) (OL_layers : Int32) (OL_size : Nat → Int32) (OL_rows : Nat → Int32) (OL_places : Nat → Int32) (OL_home : Nat → Int32) (Z_isBox : Nat → Int32) (Z_width : Nat → Int32) (Z_pinned : Nat → Int32) (Z_isArrow : Nat → Int32) (Z_from : Nat → Int32) (Z_to : Nat → Int32) (Z_turned : Nat → Int32) (Z_told : Int32) (Z_layers : Int32) (Z_layer : Nat → Int32) (Z_sizes : Nat → Int32) (Z_items : Nat → Int32) (Z_place : Nat → Int32) (Z_dummyPlace : Nat → Int32) (Z_xs : Nat → Int32) (Z_oldLayer : Nat → Int32) (Z_oldPlace : Nat → Int32) (Z_oldDummy : Nat → Int32) : Prop :=
  ∃ (ex bx pn tn : Nat → Bool) (fr to pv wv : Nat → Nat) (N : Nat) (old : Nat → List Nat), k_S ex bx pn tn fr to pv wv R_width R_pinned R_from R_to R_turned ∧ k_M ex bx pn fr to pv wv Z_isBox Z_width Z_pinned Z_isArrow Z_from Z_to ∧ c_O N old OL_layers OL_size OL_rows OL_places OL_home ∧ m_Old old Z_oldLayer Z_oldPlace Z_oldDummy ∧ ((M_told = 0 ∧ Z_told = 0) ∨ (M_told = 1 ∧ Z_told = 1 ∧ ∃ lay m Lp, k_D ex bx tn fr to wv N old lay m Lp L_layer L_tops L_bottoms L_layers P_size P_arrows P_uppers P_lowers C_x T_track T_used Z_turned Z_layers Z_layer Z_sizes Z_items Z_place Z_dummyPlace Z_xs))
section KI
variable {ex bx pn tn : Nat → Bool} {fr to pv wv : Nat → Nat} {w p f t T : Nat → Int32} {X W p' A F T' U : Nat → Int32}
theorem k_box (hS : k_S ex bx pn tn fr to pv wv w p f t T) {b : Nat} (hb : b < 16) : fX7_hasBox w (nI b) = some (if bx b = true then 1 else 0) := by
  obtain ⟨-, -, hB, -⟩ := hS
  rw [p_hasBox hb]
  have := (hB b hb).1
  by_cases h : bx b = true
  · rw [if_pos h, if_neg (this.mp h)]
  · rw [if_neg h, if_pos (Classical.byContradiction fun h' => h (this.mpr h'))]
theorem k_arr (hS : k_S ex bx pn tn fr to pv wv w p f t T) {a : Nat} (ha : a < 24) : fX7_hasArrow f (nI a) = some (if ex a = true then 1 else 0) := by
  obtain ⟨hG, -⟩ := hS
  rw [p_hasArrow ha]
  obtain ⟨h1, h2⟩ := hG a ha
  by_cases h : ex a = true
  · obtain ⟨e1, e2, e3, e4, -⟩ := h2 h
    rw [if_pos h, if_neg (by rw [e4]; exact n_m1 (by omega))]
  · rw [if_neg h, if_pos (h1 (by simpa using h))]
theorem k_out {w : Nat → Int32} {p0 : Int32} (hb : p0 < 0 ∨ nI 16 ≤ p0) : fX7_hasBox w p0 = some 0 := by
  unfold fX7_hasBox
  rcases hb with h | h
  · rw [if_pos h]
  · by_cases h0 : p0 < 0
    · rw [if_pos h0]
    · rw [if_neg h0, if_pos (show (16 : Int32) ≤ p0 from h)]
theorem k_mbox (hM : k_M ex bx pn fr to pv wv X W p' A F T') {b : Nat} (hb : b < 16) : fX10_hasBox X (nI b) = some (if bx b = true then 1 else 0) := by
  obtain ⟨-, hB, -⟩ := hM
  have h1 := (hB b hb).1
  unfold fX10_hasBox fX10_in
  cases h : bx b
  · simp (disch := omega) only [s_in, s_cl, s_leL, s_ltL, s_eqL, s_leR, s_ltR, s_eqR, s_le, s_lt, s_eq, s_addL, s_addL', s_mulL, s_mulL', s_mul, nI_add, s_subL, s_sub, s_m1, s_m1', s_lm1, s_ltm1, s_m1lt, s_m1le, s_m1p, s_10, s_let, s_el, s_er, s_b2, s_b3, s_b4, s_b5, s_b6, s_b7, s_b8, s_b9, s_b10, s_b11, s_b12, s_bind, eq_self, if_pos, if_neg, ite_true, ite_false, if_true, if_false, Bool.false_eq_true, reduceIte, h1, h]
  · simp (disch := omega) only [s_in, s_cl, s_leL, s_ltL, s_eqL, s_leR, s_ltR, s_eqR, s_le, s_lt, s_eq, s_addL, s_addL', s_mulL, s_mulL', s_mul, nI_add, s_subL, s_sub, s_m1, s_m1', s_lm1, s_ltm1, s_m1lt, s_m1le, s_m1p, s_10, s_let, s_el, s_er, s_b2, s_b3, s_b4, s_b5, s_b6, s_b7, s_b8, s_b9, s_b10, s_b11, s_b12, s_bind, eq_self, if_pos, if_neg, ite_true, ite_false, if_true, if_false, Bool.false_eq_true, reduceIte, h1, h]
theorem s_15 {p : Int32} (n : Nat) (hn : n + 1 < 2147483648) (h : nI (n + 1) ≤ p) : nI n < p := by
  rw [Int32.lt_iff_toInt_lt]
  rw [Int32.le_iff_toInt_le, iI_nat, iI_int (by omega) (by omega)] at h
  rw [iI_nat, iI_int (by omega) (by omega)]
  omega
theorem k_mout {p0 : Int32} (hb : p0 < 0 ∨ nI 16 ≤ p0) : fX10_hasBox X p0 = some 0 := by
  unfold fX10_hasBox fX10_in
  rcases hb with h | h
  · rw [if_pos h, s_bind, if_pos rfl]
  · by_cases h0 : p0 < 0
    · rw [if_pos h0, s_bind, if_pos rfl]
    · rw [if_neg h0, if_pos (show (15 : Int32) < p0 from s_15 15 (by omega) h), s_bind, if_pos rfl]
theorem k_inF {p0 : Int32} (n : Nat) (hn : n + 1 < 2147483648) (hb : p0 < 0 ∨ nI (n + 1) ≤ p0) : fX10_in p0 0 (nI n) = some 0 := by
  unfold fX10_in
  rcases hb with h | h
  · rw [if_pos h]
  · by_cases h0 : p0 < 0
    · rw [if_pos h0]
    · rw [if_neg h0, if_pos (s_15 n hn h)]
theorem k_inT {k n : Nat} (hn : n < 2147483648) (hk : k ≤ n) : fX10_in (nI k) 0 (nI n) = some 1 := by
  unfold fX10_in
  rw [if_neg (nI_pos (by omega)), if_neg (by rw [s_lt (by omega) (by omega)]; omega)]
theorem k_ends (hS : k_S ex bx pn tn fr to pv wv w p f t T) : ∀ a, a < 24 → ex a = true → bx (fr a) = true ∧ bx (to a) = true := by
  obtain ⟨hG, -, hB, -⟩ := hS
  intro a ha he
  obtain ⟨e1, e2, e3, e4, e5, e6, e7⟩ := (hG a ha).2 he
  exact ⟨(hB _ e1).1.mpr e6, (hB _ e2).1.mpr e7⟩
theorem k_A (hM : k_M ex bx pn fr to pv wv X W p' A F T') (hU : c_T tn U) : m_A ex (g_up fr to tn) (g_lo fr to tn) A F T' U := by
  obtain ⟨hG, -, -⟩ := hM
  intro a ha
  exact ⟨(hG a ha).1, fun he => ⟨p_mupper hG hU ha he, p_mlower hG hU ha he⟩⟩
theorem k_U (hS : k_S ex bx pn tn fr to pv wv w p f t T) {a : Nat} (ha : a < 24) : fX7_upperBox f t T (nI a) = some (if ex a then nI (g_up fr to tn a) else -1) := p_upperBox hS.1 hS.2.1 ha
theorem k_Lo (hS : k_S ex bx pn tn fr to pv wv w p f t T) {a : Nat} (ha : a < 24) : fX7_lowerBox f t T (nI a) = some (if ex a then nI (g_lo fr to tn a) else -1) := p_lowerBox hS.1 hS.2.1 ha
theorem k_wd' (hS : k_S ex bx pn tn fr to pv wv w p f t T) : ∀ c, 1 ≤ g_wd wv c ∧ g_wd wv c ≤ 50 := by
  intro c
  unfold g_wd
  by_cases h : c < 16
  · rw [if_pos h]
    exact (hS.2.2.2.2 c h).2.2
  · rw [if_neg h]
    omega
theorem k_WD (hS : k_S ex bx pn tn fr to pv wv w p f t T) {up lo lay : Nat → Nat} {N : Nat} {row : Nat → List Nat} (hN : N ≤ 24) (hV : g_V ex up lo bx lay N row) : c_WD N row (g_wd wv) w := by
  intro l hl c hc
  obtain ⟨-, h2, h3⟩ := ((hV l (by omega)).2 c).mp hc
  refine ⟨h2, ?_⟩
  unfold fX7_widthOf g_wd
  by_cases h : c < 16
  · have hb : bx c = true := by
      unfold g_hd at h3
      rw [if_pos h, Bool.and_eq_true] at h3
      exact h3.1
    have hw := (hS.2.2.2.2 c h).1 hb
    rw [k_box hS h, if_pos hb, if_pos h]
    simp (disch := omega) only [s_in, s_cl, s_leL, s_ltL, s_eqL, s_leR, s_ltR, s_eqR, s_le, s_lt, s_eq, s_addL, s_addL', s_mulL, s_mulL', s_mul, nI_add, s_subL, s_sub, s_m1, s_m1', s_lm1, s_ltm1, s_m1lt, s_m1le, s_m1p, s_10, s_let, s_el, s_er, s_b2, s_b3, s_b4, s_b5, s_b6, s_b7, s_b8, s_b9, s_b10, s_b11, s_b12, s_bind, eq_self, if_pos, if_neg, ite_true, ite_false, if_true, if_false, Bool.false_eq_true, reduceIte, hw]
  · rw [if_neg h, k_out (.inr (by rw [s_le (by omega) (by omega)]; omega))]
    rfl
theorem k_mWD (hM : k_M ex bx pn fr to pv wv X W p' A F T') {up lo lay : Nat → Nat} {N : Nat} {row : Nat → List Nat} (hN : N ≤ 24) (hV : g_V ex up lo bx lay N row) : m_WD N row (g_wd wv) W := by
  intro l hl c hc
  obtain ⟨-, h2, h3⟩ := ((hV l (by omega)).2 c).mp hc
  unfold fX10_widthOf g_wd
  by_cases h : c < 16
  · have hb : bx c = true := by
      unfold g_hd at h3
      rw [if_pos h, Bool.and_eq_true] at h3
      exact h3.1
    have hnm : g_nm c = c := if_pos h
    rw [hnm, if_pos h]
    simp (disch := omega) only [s_in, s_cl, s_leL, s_ltL, s_eqL, s_leR, s_ltR, s_eqR, s_le, s_lt, s_eq, s_addL, s_addL', s_mulL, s_mulL', s_mul, nI_add, s_subL, s_sub, s_m1, s_m1', s_lm1, s_ltm1, s_m1lt, s_m1le, s_m1p, s_10, s_let, s_el, s_er, s_b2, s_b3, s_b4, s_b5, s_b6, s_b7, s_b8, s_b9, s_b10, s_b11, s_b12, s_bind, eq_self, if_pos, if_neg, ite_true, ite_false, if_true, if_false, Bool.false_eq_true, reduceIte, hM.2.2 c h hb]
  · have hnm : g_nm c = 84 + c := if_neg h
    rw [hnm, if_neg h]
    simp (disch := omega) only [s_in, s_cl, s_leL, s_ltL, s_eqL, s_leR, s_ltR, s_eqR, s_le, s_lt, s_eq, s_addL, s_addL', s_mulL, s_mulL', s_mul, nI_add, s_subL, s_sub, s_m1, s_m1', s_lm1, s_ltm1, s_m1lt, s_m1le, s_m1p, s_10, s_let, s_el, s_er, s_b2, s_b3, s_b4, s_b5, s_b6, s_b7, s_b8, s_b9, s_b10, s_b11, s_b12, s_bind, eq_self, if_pos, if_neg, ite_true, ite_false, if_true, if_false, Bool.false_eq_true, reduceIte]
    rfl
theorem k_rank (hS : k_S ex bx pn tn fr to pv wv w p f t T) : ∃ rk : Nat → Nat, (∀ b, b < 16 → rk b ≤ 15) ∧ ∀ a, a < 24 → ex a = true → rk (g_up fr to tn a) < rk (g_lo fr to tn a) := by
  obtain ⟨hG, -, -, hT, -⟩ := hS
  refine g_rank hT (fun a ha he => ?_) (r := fun i j => @decide (g_R ex fr to tn 24 i j) (Classical.propDecidable _)) (fun i _ j _ => ?_)
  · obtain ⟨e1, e2, e3, -⟩ := (hG a ha).2 he
    exact ⟨e1, e2, e3⟩
  · exact @decide_eq_true_iff _ (Classical.propDecidable _)
end KI
