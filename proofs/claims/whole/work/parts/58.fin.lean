/-! PURE: a drawing is finished. -/
section FI
variable {ex bx pn tn : Nat → Bool} {fr to pv wv : Nat → Nat} {w p f t T : Nat → Int32} {X W p' A F T' U : Nat → Int32} {lay : Nat → Nat} {N : Nat} {row : Nat → List Nat} {sz ar uu ll : Nat → Int32} {so rw pl hm : Nat → Int32} {zL S I P D : Nat → Int32}
theorem g_X_b {up lo : Nat → Nat} {wd : Nat → Nat} (hG : g_G ex up lo bx lay N) (hV : g_V ex up lo bx lay N row) (hwd : ∀ c, 1 ≤ wd c ∧ wd c ≤ 50) (h40 : ∀ i, i < N → (row i).length ≤ 40) {m : Int} (hm : g_isM N row (g_xf ex up lo lay row wd N) m) : ∀ l, l < N → ∀ c, c ∈ row l → 0 ≤ g_X ex up lo lay row wd N m l c ∧ g_X ex up lo lay row wd N m l c ≤ 210025 := by
  intro l hl c hc
  have h1 := hm.1 l hl c hc
  have h2 := g_xf_b hG hV hwd h40 l hl c hc
  have h3 : -25 ≤ m := by
    rcases hm.2 with ⟨i, d, k1, k2, k3⟩ | ⟨k1, k2⟩
    · have := g_xf_b hG hV hwd h40 i k1 d k2
      omega
    · omega
  show 0 ≤ g_xf ex up lo lay row wd N l c - m ∧ g_xf ex up lo lay row wd N l c - m ≤ 210025
  omega
theorem g_X_XB {up lo : Nat → Nat} {wd : Nat → Nat} (hG : g_G ex up lo bx lay N) (hV : g_V ex up lo bx lay N row) (hwd : ∀ c, 1 ≤ wd c ∧ wd c ≤ 50) (h40 : ∀ i, i < N → (row i).length ≤ 40) {m : Int} (hm : g_isM N row (g_xf ex up lo lay row wd N) m) : g_XB N row wd (g_X ex up lo lay row wd N m) 300000 := by
  intro l hl c hc
  have h1 := g_X_b hG hV hwd h40 hm l hl c hc
  have h2 := hwd c
  unfold g_mid
  omega
theorem k_fin (hS : k_S ex bx pn tn fr to pv wv w p f t T) (hG : g_G ex (g_up fr to tn) (g_lo fr to tn) bx lay N) (hV : g_V ex (g_up fr to tn) (g_lo fr to tn) bx lay N row) (hP : c_P (g_up fr to tn) (g_lo fr to tn) lay (g_ps ex (g_up fr to tn) (g_lo fr to tn) lay 24) sz ar uu ll) (hO : c_O N row (nI N) so rw pl hm) (C sm dg q r z te : Nat → Int32) :
    ∃ C' sm' dg' tr us q' r' z' te' m Lp, fX9_finish w sz ar uu ll C sm dg q r z te (nI N) so rw = some (1, C', sm', dg', tr, us, q', r', z', te') ∧ g_isM N row (g_xf ex (g_up fr to tn) (g_lo fr to tn) lay row (g_wd wv) N) m ∧ c_X N row (g_X ex (g_up fr to tn) (g_lo fr to tn) lay row (g_wd wv) N m) C' ∧ (∀ l, l + 1 < N → g_Lp ex (g_up fr to tn) (g_lo fr to tn) lay (g_wd wv) (g_X ex (g_up fr to tn) (g_lo fr to tn) lay row (g_wd wv) N m) l (Lp l)) ∧ c_Tr N (g_up fr to tn) (g_lo fr to tn) lay (g_wd wv) (g_X ex (g_up fr to tn) (g_lo fr to tn) lay row (g_wd wv) N m) Lp tr us := by
  have hN := hG.1
  have hW := k_WD hS hN hV
  have hwd := k_wd' hS
  have h40 : ∀ i, i < N → (row i).length ≤ 40 := fun i hi => (hO.2.2.1 i (by omega)).2.2.1
  obtain ⟨C', sm', dg', m, a1, a2, a3⟩ := p_lay hG hV hP hO hW hwd C sm dg
  obtain ⟨tr, us, q', r', z', te', Lp, b1, b2, b3⟩ := p_share hG hV hP hW hwd a3 (g_X_XB hG hV hwd h40 a2) (by omega) q r z te
  refine ⟨C', sm', dg', tr, us, q', r', z', te', m, Lp, ?_, a2, a3, b2, b3⟩
  unfold fX9_finish
  rw [a1, s_b3, b1, s_b6]
theorem k_made (hS : k_S ex bx pn tn fr to pv wv w p f t T) (hM : k_M ex bx pn fr to pv wv X W p' A F T') (hG : g_G ex (g_up fr to tn) (g_lo fr to tn) bx lay N) (hV : g_V ex (g_up fr to tn) (g_lo fr to tn) bx lay N row) (hU : c_T tn U) (hL : m_L bx lay zL) (hO : m_O N row S I P D) (Z oL oP oD : Nat → Int32) :
    ∃ Z' oL' oP' oD' m, fX10_made X W A F T' U (nI N) zL S I P D Z oL oP oD = some (1, Z', oL', oP', oD') ∧ g_isM N row (g_xf ex (g_up fr to tn) (g_lo fr to tn) lay row (g_wd wv) N) m ∧ m_Xs N row (g_X ex (g_up fr to tn) (g_lo fr to tn) lay row (g_wd wv) N m) Z' ∧ m_Old row oL' oP' oD' := by
  have hN := hG.1
  have hA := k_A hM hU
  obtain ⟨Z', m, a1, a2, a3⟩ := p_mstr hG hV hA hL hO (k_mWD hM hN hV) (k_wd' hS) Z
  have hXb := hM.2.1
  have H1 : ∃ e : (Nat → Int32) × (Nat → Int32), q_lo (fun (st : Int32 × (Nat → Int32) × (Nat → Int32)) => bX10_made_11 X zL P st.1 st.2.1 st.2.2) (0, oL, oP) = some e ∧ ∀ b, b < 16 → e.1 b = (if bx b = true then nI (lay b) else -1) ∧ e.2 b = P b := by
    refine q_inv (fun n (st : Int32 × (Nat → Int32) × (Nat → Int32)) => st.1 = nI n ∧ ∀ b, b < n → st.2.1 b = (if bx b = true then nI (lay b) else -1) ∧ st.2.2 b = P b) 16 ?_ ?_ _ ⟨rfl, fun b h => by omega⟩
    · rintro n ⟨x, q, r⟩ hn ⟨h1, h2⟩
      dsimp only at h1 h2
      subst h1
      have hx := (hXb n hn).1
      have fin : ∀ v : Int32, v = (if bx n = true then nI (lay n) else -1) → ∀ b, b < n + 1 → upd q n v b = (if bx b = true then nI (lay b) else -1) ∧ upd r n (P n) b = P b := by
        intro v hv b hb
        by_cases hbn : b = n
        · subst hbn
          rw [pk_us, pk_us]
          exact ⟨hv, rfl⟩
        · rw [pk_un hbn, pk_un hbn]
          exact h2 b (by omega)
      show ∃ t9, bX10_made_11 X zL P (nI n) q r = some (.inl t9) ∧ _
      unfold bX10_made_11 jX10_made_41
      cases hbx : bx n
      · rw [hbx, if_neg (by decide)] at hx
        simp (disch := omega) only [s_in, s_cl, s_leL, s_ltL, s_eqL, s_leR, s_ltR, s_eqR, s_le, s_lt, s_eq, s_addL, s_addL', s_mulL, s_mulL', s_mul, nI_add, s_subL, s_sub, s_m1, s_m1', s_lm1, s_ltm1, s_m1lt, s_m1le, s_m1p, s_10, s_let, s_el, s_er, s_b2, s_b3, s_b4, s_b5, s_b6, s_b7, s_b8, s_b9, s_b10, s_b11, s_b12, s_bind, eq_self, if_pos, if_neg, ite_true, ite_false, if_true, if_false, Bool.false_eq_true, reduceIte, hx]
        exact ⟨_, rfl, rfl, fin (-1) (by rw [hbx]; rfl)⟩
      · rw [hbx, if_pos rfl] at hx
        simp (disch := omega) only [s_in, s_cl, s_leL, s_ltL, s_eqL, s_leR, s_ltR, s_eqR, s_le, s_lt, s_eq, s_addL, s_addL', s_mulL, s_mulL', s_mul, nI_add, s_subL, s_sub, s_m1, s_m1', s_lm1, s_ltm1, s_m1lt, s_m1le, s_m1p, s_10, s_let, s_el, s_er, s_b2, s_b3, s_b4, s_b5, s_b6, s_b7, s_b8, s_b9, s_b10, s_b11, s_b12, s_bind, eq_self, if_pos, if_neg, ite_true, ite_false, if_true, if_false, Bool.false_eq_true, reduceIte, hx, hL n hn hbx]
        exact ⟨_, rfl, rfl, fin _ (by rw [hbx]; rfl)⟩
    · rintro ⟨x, q, r⟩ ⟨h1, h2⟩
      dsimp only at h1 h2
      subst h1
      refine ⟨(q, r), ?_, h2⟩
      show bX10_made_11 X zL P (nI 16) q r = _
      unfold bX10_made_11
      rw [if_pos (by decide)]
  obtain ⟨⟨oL', oP'⟩, b1, b2⟩ := H1
  dsimp only at b2
  have H2 : ∃ e : Nat → Int32, q_lo (fun (st : Int32 × (Nat → Int32)) => bX10_made_62 A F T' U zL D st.1 st.2) (0, oD) = some e ∧ ∀ k, k < 576 → e k = if g_hd ex (g_up fr to tn) (g_lo fr to tn) bx lay (k % 24) (16 + k / 24) = true then D k else -1 := by
    refine q_inv (fun n (st : Int32 × (Nat → Int32)) => st.1 = nI n ∧ ∀ k, k < n → st.2 k = if g_hd ex (g_up fr to tn) (g_lo fr to tn) bx lay (k % 24) (16 + k / 24) = true then D k else -1) 576 ?_ ?_ _ ⟨rfl, fun k h => by omega⟩
    · rintro n ⟨x, q⟩ hn ⟨h1, h2⟩
      dsimp only at h1 h2
      subst h1
      have hdv : n / 24 < 24 := by omega
      have hmd : n % 24 < 24 := by omega
      have hd := p_hasDummy hG hA hL hdv hmd
      have e1 : nI n / 24 = nI (n / 24) := s_divL (by omega) (by omega)
      have e2 : nI n - nI (n / 24) * 24 = nI (n % 24) := by
        rw [s_mulL, s_sub (by omega)]
        congr 1
        omega
      have fin : ∀ v : Int32, v = (if g_hd ex (g_up fr to tn) (g_lo fr to tn) bx lay (n % 24) (16 + n / 24) = true then D n else -1) → ∀ k, k < n + 1 → upd q n v k = if g_hd ex (g_up fr to tn) (g_lo fr to tn) bx lay (k % 24) (16 + k / 24) = true then D k else -1 := by
        intro v hv k hk
        by_cases hkn : k = n
        · subst hkn
          rw [pk_us]
          exact hv
        · rw [pk_un hkn]
          exact h2 k (by omega)
      show ∃ t9, bX10_made_62 A F T' U zL D (nI n) q = some (.inl t9) ∧ _
      unfold bX10_made_62 jX10_made_99
      rw [e1, e2, if_neg (by rw [n_lit 576, s_le (by omega) (by omega)]; omega), hd, s_bind]
      cases hh : g_hd ex (g_up fr to tn) (g_lo fr to tn) bx lay (n % 24) (16 + n / 24)
      · rw [if_pos (by decide), if_pos (n_in hn (by decide)), s_cl (by omega), s_addL]
        exact ⟨_, rfl, rfl, fin (-1) (by rw [hh]; rfl)⟩
      · rw [if_pos rfl, if_neg (by decide), if_pos (n_in hn (by decide)), if_pos (n_in hn (by decide)), s_cl (by omega), s_addL]
        exact ⟨_, rfl, rfl, fin _ (by rw [hh]; rfl)⟩
    · rintro ⟨x, q⟩ ⟨h1, h2⟩
      dsimp only at h1 h2
      subst h1
      refine ⟨q, ?_, h2⟩
      show bX10_made_62 A F T' U zL D (nI 576) q = _
      unfold bX10_made_62
      rw [if_pos (by decide)]
  obtain ⟨oD', c1, c2⟩ := H2
  refine ⟨Z', oL', oP', oD', m, ?_, a2, a3, ?_, ?_, ?_⟩
  · unfold fX10_made
    rw [a1, s_bind, b1, s_b2, c1, s_bind]
  · intro l hl k c hk
    obtain ⟨hlN, hc40, hhd⟩ := ((hV l hl).2 c).mp (g_mem_get hk)
    obtain ⟨o1, o2, o3, o4⟩ := hO l hlN
    obtain ⟨-, -, i3, i4⟩ := o4 k c hk
    refine ⟨hc40, fun h16 => ?_, fun h16 => ?_⟩
    · obtain ⟨k1, k2⟩ := b2 c h16
      unfold g_hd at hhd
      rw [if_pos h16, Bool.and_eq_true, decide_eq_true_eq] at hhd
      rw [k1, k2, if_pos hhd.1, hhd.2]
      exact ⟨rfl, i3 h16⟩
    · rw [c2 _ (by omega), show (24 * (c - 16) + l) % 24 = l by omega, show 16 + (24 * (c - 16) + l) / 24 = c by omega, if_pos hhd]
      exact i4 h16
  · intro b hb hno
    rw [(b2 b hb).1, if_neg]
    intro hbx
    have h1 := hG.2.1 b hb hbx
    refine hno (lay b) (by omega) (((hV (lay b) (by omega)).2 b).mpr ⟨h1, by omega, ?_⟩)
    unfold g_hd
    rw [if_pos hb, hbx]
    simp
  · intro a l ha hl hno
    rw [c2 _ (by omega), show (24 * a + l) % 24 = l by omega, show 16 + (24 * a + l) / 24 = 16 + a by omega, if_neg]
    intro hhd
    refine hno (((hV l hl).2 (16 + a)).mpr ⟨?_, by omega, hhd⟩)
    unfold g_hd at hhd
    rw [if_neg (by omega), show 16 + a - 16 = a by omega, Bool.and_eq_true, Bool.and_eq_true, decide_eq_true_eq, decide_eq_true_eq] at hhd
    obtain ⟨u1, u2, u3, u4, u5⟩ := hG.2.2 a ha hhd.1
    have := hG.2.1 _ u2 u4
    omega
/-! boxes that have moved -/
def g_mp (bx : Nat → Bool) (lay : Nat → Nat) (old row : Nat → List Nat) (b : Nat) : Prop := bx b = true ∧ (∃ l, l < 24 ∧ b ∈ old l) ∧ ¬ (b ∈ old (lay b) ∧ (old (lay b)).idxOf b = (row (lay b)).idxOf b)
noncomputable def g_mb (bx : Nat → Bool) (lay : Nat → Nat) (old row : Nat → List Nat) (b : Nat) : Bool := @decide (g_mp bx lay old row b) (Classical.propDecidable _)
theorem g_mbT {lay : Nat → Nat} {old : Nat → List Nat} {b : Nat} (h : g_mp bx lay old row b) : g_mb bx lay old row b = true := (@decide_eq_true_iff _ (Classical.propDecidable _)).mpr h
theorem g_mbF {lay : Nat → Nat} {old : Nat → List Nat} {b : Nat} (h : ¬ g_mp bx lay old row b) : g_mb bx lay old row b = false := (@decide_eq_false_iff_not _ (Classical.propDecidable _)).mpr h
theorem g_ct_s (q : Nat → Bool) (n : Nat) : g_ct q (n + 1) = g_ct q n + if q n = true then 1 else 0 := by
  rw [g_ct]
theorem k_in (hG : g_G ex (g_up fr to tn) (g_lo fr to tn) bx lay N) (hV : g_V ex (g_up fr to tn) (g_lo fr to tn) bx lay N row) {b : Nat} (hb : b < 16) (hbx : bx b = true) : lay b < N ∧ b ∈ row (lay b) := by
  have hN := hG.1
  have h1 := hG.2.1 b hb hbx
  refine ⟨h1, ((hV (lay b) (by omega)).2 b).mpr ⟨h1, by omega, ?_⟩⟩
  unfold g_hd
  rw [if_pos hb, hbx]
  simp
theorem k_moved (hS : k_S ex bx pn tn fr to pv wv w p f t T) (hG : g_G ex (g_up fr to tn) (g_lo fr to tn) bx lay N) (hV : g_V ex (g_up fr to tn) (g_lo fr to tn) bx lay N row) (hO : c_O N row (nI N) so rw pl hm) {N2 : Nat} {old : Nat → List Nat} {ly2 : Int32} {so2 rw2 pl2 hm2 : Nat → Int32} (hO2 : c_O N2 old ly2 so2 rw2 pl2 hm2) : fX9_movedBoxes w pl hm pl2 hm2 = some (nI (g_ct (g_mb bx lay old row) 16)) := by
  have hN := hG.1
  obtain ⟨-, -, o3, o4, o5⟩ := id hO
  obtain ⟨-, -, q3, q4, q5⟩ := id hO2
  have H9 : ∃ e : Int32, q_lo (fun (st : Int32 × Int32) => bX9_movedBoxes_4 w pl hm pl2 hm2 st.1 st.2) (0, 0) = some e ∧ e = nI (g_ct (g_mb bx lay old row) 16) := by
    refine q_inv (fun n (st : Int32 × Int32) => st = (nI (g_ct (g_mb bx lay old row) n), nI n)) 16 ?_ ?_ _ rfl
    · rintro n st hn rfl
      have c1 := k_box hS hn
      refine ⟨_, ?_, rfl⟩
      rw [g_ct_s]
      show bX9_movedBoxes_4 w pl hm pl2 hm2 (nI (g_ct (g_mb bx lay old row) n)) (nI n) = _
      unfold bX9_movedBoxes_4 jX9_movedBoxes_47
      by_cases hbx : bx n = true
      · rw [if_pos hbx] at c1
        by_cases hex : ∃ l, l < 24 ∧ n ∈ old l
        · obtain ⟨l0, hl0, hm0⟩ := id hex
          have e1 := q4 l0 hl0 n hn hm0
          obtain ⟨j1, j2⟩ := k_in hG hV hn hbx
          have e2 := o4 (lay n) (by omega) n hn j2
          have e3 := ((o3 (lay n) (by omega)).2.2.2.2.1 _ _ (g_idx_get j2)).2.2
          have e3b := List.idxOf_lt_length_of_mem j2
          have e3c := (o3 (lay n) (by omega)).2.2.1
          by_cases hll : lay n = l0
          · subst hll
            have e4 := ((q3 (lay n) (by omega)).2.2.2.2.1 _ _ (g_idx_get hm0)).2.2
            have e4b := List.idxOf_lt_length_of_mem hm0
            have e4c := (q3 (lay n) (by omega)).2.2.1
            by_cases hpp : (row (lay n)).idxOf n = (old (lay n)).idxOf n
            · rw [g_mbF (fun h => h.2.2 ⟨hm0, hpp.symm⟩)]
              unfold fX4_holdsBox fX4_sameSpot fX4_homeOf
              simp (disch := omega) only [s_in, s_cl, s_leL, s_ltL, s_eqL, s_leR, s_ltR, s_eqR, s_le, s_lt, s_eq, s_addL, s_addL', s_mulL, s_mulL', s_mul, nI_add, s_subL, s_sub, s_m1, s_m1', s_lm1, s_ltm1, s_m1lt, s_m1le, s_m1p, s_10, s_let, s_el, s_er, s_b2, s_b3, s_b4, s_b5, s_b6, s_b7, s_b8, s_b9, s_b10, s_b11, s_b12, s_bind, eq_self, if_pos, if_neg, ite_true, ite_false, if_true, if_false, Bool.false_eq_true, reduceIte, c1, e1, e2, p_placeIn (show lay n < 24 by omega) (show n < 40 by omega), e3, e4, hpp]
              rfl
            · rw [g_mbT ⟨hbx, hex, fun h => hpp h.2.symm⟩]
              unfold fX4_holdsBox fX4_sameSpot fX4_homeOf
              simp (disch := omega) only [s_in, s_cl, s_leL, s_ltL, s_eqL, s_leR, s_ltR, s_eqR, s_le, s_lt, s_eq, s_addL, s_addL', s_mulL, s_mulL', s_mul, nI_add, s_subL, s_sub, s_m1, s_m1', s_lm1, s_ltm1, s_m1lt, s_m1le, s_m1p, s_10, s_let, s_el, s_er, s_b2, s_b3, s_b4, s_b5, s_b6, s_b7, s_b8, s_b9, s_b10, s_b11, s_b12, s_bind, eq_self, if_pos, if_neg, ite_true, ite_false, if_true, if_false, Bool.false_eq_true, reduceIte, c1, e1, e2, p_placeIn (show lay n < 24 by omega) (show n < 40 by omega), e3, e4, hpp]
          · have hno : ¬ (n ∈ old (lay n) ∧ (old (lay n)).idxOf n = (row (lay n)).idxOf n) := by
              rintro ⟨h1, -⟩
              have := q4 (lay n) (by omega) n hn h1
              rw [e1, s_eq (by omega) (by omega)] at this
              exact hll this.symm
            rw [g_mbT ⟨hbx, hex, hno⟩]
            unfold fX4_holdsBox fX4_sameSpot fX4_homeOf
            simp (disch := omega) only [s_in, s_cl, s_leL, s_ltL, s_eqL, s_leR, s_ltR, s_eqR, s_le, s_lt, s_eq, s_addL, s_addL', s_mulL, s_mulL', s_mul, nI_add, s_subL, s_sub, s_m1, s_m1', s_lm1, s_ltm1, s_m1lt, s_m1le, s_m1p, s_10, s_let, s_el, s_er, s_b2, s_b3, s_b4, s_b5, s_b6, s_b7, s_b8, s_b9, s_b10, s_b11, s_b12, s_bind, eq_self, if_pos, if_neg, ite_true, ite_false, if_true, if_false, Bool.false_eq_true, reduceIte, c1, e1, e2, hll]
        · have e1 := q5 n hn (fun l hl h => hex ⟨l, hl, h⟩)
          rw [g_mbF (fun h => hex h.2.1)]
          unfold fX4_holdsBox fX4_homeOf
          simp (disch := omega) only [s_in, s_cl, s_leL, s_ltL, s_eqL, s_leR, s_ltR, s_eqR, s_le, s_lt, s_eq, s_addL, s_addL', s_mulL, s_mulL', s_mul, nI_add, s_subL, s_sub, s_m1, s_m1', s_lm1, s_ltm1, s_m1lt, s_m1le, s_m1p, s_10, s_let, s_el, s_er, s_b2, s_b3, s_b4, s_b5, s_b6, s_b7, s_b8, s_b9, s_b10, s_b11, s_b12, s_bind, eq_self, if_pos, if_neg, ite_true, ite_false, if_true, if_false, Bool.false_eq_true, reduceIte, c1, e1]
          rfl
      · rw [if_neg hbx] at c1
        rw [g_mbF (fun h => hbx h.1)]
        simp (disch := omega) only [s_in, s_cl, s_leL, s_ltL, s_eqL, s_leR, s_ltR, s_eqR, s_le, s_lt, s_eq, s_addL, s_addL', s_mulL, s_mulL', s_mul, nI_add, s_subL, s_sub, s_m1, s_m1', s_lm1, s_ltm1, s_m1lt, s_m1le, s_m1p, s_10, s_let, s_el, s_er, s_b2, s_b3, s_b4, s_b5, s_b6, s_b7, s_b8, s_b9, s_b10, s_b11, s_b12, s_bind, eq_self, if_pos, if_neg, ite_true, ite_false, if_true, if_false, Bool.false_eq_true, reduceIte, c1]
        rfl
    · rintro st rfl
      refine ⟨_, ?_, rfl⟩
      show bX9_movedBoxes_4 w pl hm pl2 hm2 _ (nI 16) = _
      unfold bX9_movedBoxes_4
      rw [if_pos (by decide)]
  obtain ⟨e, h8, rfl⟩ := H9
  unfold fX9_movedBoxes
  rw [h8]
  rfl
theorem k_mmoved (hM : k_M ex bx pn fr to pv wv X W p' A F T') (hG : g_G ex (g_up fr to tn) (g_lo fr to tn) bx lay N) (hV : g_V ex (g_up fr to tn) (g_lo fr to tn) bx lay N row) (hL : m_L bx lay zL) (hO : m_O N row S I P D) {old : Nat → List Nat} {oL oP oD : Nat → Int32} (hOld : m_Old old oL oP oD) (hoN : g_oN old) : q_lo (fun (st : Int32 × Int32) => bX10_redraw_167 X zL P oL oP st.1 st.2) (0, 0) = some (nI (g_ct (g_mb bx lay old row) 16)) := by
  have hN := hG.1
  have H9 : ∃ e : Int32, q_lo (fun (st : Int32 × Int32) => bX10_redraw_167 X zL P oL oP st.1 st.2) (0, 0) = some e ∧ e = nI (g_ct (g_mb bx lay old row) 16) := by
    refine q_inv (fun n (st : Int32 × Int32) => st = (nI (g_ct (g_mb bx lay old row) n), nI n)) 16 ?_ ?_ _ rfl
    · rintro n st hn rfl
      have c1 := (hM.2.1 n hn).1
      refine ⟨_, ?_, rfl⟩
      rw [g_ct_s]
      show bX10_redraw_167 X zL P oL oP (nI (g_ct (g_mb bx lay old row) n)) (nI n) = _
      unfold bX10_redraw_167 jX10_redraw_228 jX10_redraw_231
      by_cases hbx : bx n = true
      · rw [if_pos hbx] at c1
        by_cases hex : ∃ l, l < 24 ∧ n ∈ old l
        · obtain ⟨l0, hl0, hm0⟩ := id hex
          obtain ⟨-, k2, -⟩ := hOld.1 l0 hl0 _ _ (g_idx_get hm0)
          obtain ⟨e1, e1b⟩ := k2 hn
          have e1c := List.idxOf_lt_length_of_mem hm0
          have e1d := (hoN l0 hl0).2
          obtain ⟨j1, j2⟩ := k_in hG hV hn hbx
          have e2 := hL n hn hbx
          obtain ⟨o1, o2, o3, o4⟩ := hO (lay n) j1
          obtain ⟨-, -, i3, -⟩ := o4 _ _ (g_idx_get j2)
          have e3 := i3 hn
          have e3b := List.idxOf_lt_length_of_mem j2
          by_cases hll : l0 = lay n
          · subst hll
            by_cases hpp : (old (lay n)).idxOf n = (row (lay n)).idxOf n
            · rw [g_mbF (fun h => h.2.2 ⟨hm0, hpp⟩)]
              simp (disch := omega) only [s_in, s_cl, s_leL, s_ltL, s_eqL, s_leR, s_ltR, s_eqR, s_le, s_lt, s_eq, s_addL, s_addL', s_mulL, s_mulL', s_mul, nI_add, s_subL, s_sub, s_m1, s_m1', s_lm1, s_ltm1, s_m1lt, s_m1le, s_m1p, s_10, s_let, s_el, s_er, s_b2, s_b3, s_b4, s_b5, s_b6, s_b7, s_b8, s_b9, s_b10, s_b11, s_b12, s_bind, eq_self, if_pos, if_neg, ite_true, ite_false, if_true, if_false, Bool.false_eq_true, reduceIte, c1, e1, e1b, e2, e3, hpp]
              rfl
            · rw [g_mbT ⟨hbx, hex, fun h => hpp h.2⟩]
              simp (disch := omega) only [s_in, s_cl, s_leL, s_ltL, s_eqL, s_leR, s_ltR, s_eqR, s_le, s_lt, s_eq, s_addL, s_addL', s_mulL, s_mulL', s_mul, nI_add, s_subL, s_sub, s_m1, s_m1', s_lm1, s_ltm1, s_m1lt, s_m1le, s_m1p, s_10, s_let, s_el, s_er, s_b2, s_b3, s_b4, s_b5, s_b6, s_b7, s_b8, s_b9, s_b10, s_b11, s_b12, s_bind, eq_self, if_pos, if_neg, ite_true, ite_false, if_true, if_false, Bool.false_eq_true, reduceIte, c1, e1, e1b, e2, e3, hpp]
          · have hno : ¬ (n ∈ old (lay n) ∧ (old (lay n)).idxOf n = (row (lay n)).idxOf n) := by
              rintro ⟨h1, -⟩
              obtain ⟨-, k2, -⟩ := hOld.1 (lay n) (by omega) _ _ (g_idx_get h1)
              have := (k2 hn).1
              rw [e1, s_eq (by omega) (by omega)] at this
              exact hll this
            rw [g_mbT ⟨hbx, hex, hno⟩]
            simp (disch := omega) only [s_in, s_cl, s_leL, s_ltL, s_eqL, s_leR, s_ltR, s_eqR, s_le, s_lt, s_eq, s_addL, s_addL', s_mulL, s_mulL', s_mul, nI_add, s_subL, s_sub, s_m1, s_m1', s_lm1, s_ltm1, s_m1lt, s_m1le, s_m1p, s_10, s_let, s_el, s_er, s_b2, s_b3, s_b4, s_b5, s_b6, s_b7, s_b8, s_b9, s_b10, s_b11, s_b12, s_bind, eq_self, if_pos, if_neg, ite_true, ite_false, if_true, if_false, Bool.false_eq_true, reduceIte, c1, e1, e2, hll]
        · have e1 := hOld.2.1 n hn (fun l hl h => hex ⟨l, hl, h⟩)
          rw [g_mbF (fun h => hex h.2.1)]
          have e2 : oL n < 0 := by rw [e1]; decide
          simp (disch := omega) only [s_in, s_cl, s_leL, s_ltL, s_eqL, s_leR, s_ltR, s_eqR, s_le, s_lt, s_eq, s_addL, s_addL', s_mulL, s_mulL', s_mul, nI_add, s_subL, s_sub, s_m1, s_m1', s_lm1, s_ltm1, s_m1lt, s_m1le, s_m1p, s_10, s_let, s_el, s_er, s_b2, s_b3, s_b4, s_b5, s_b6, s_b7, s_b8, s_b9, s_b10, s_b11, s_b12, s_bind, eq_self, if_pos, if_neg, ite_true, ite_false, if_true, if_false, Bool.false_eq_true, reduceIte, c1, e2]
          rfl
      · rw [if_neg hbx] at c1
        rw [g_mbF (fun h => hbx h.1)]
        simp (disch := omega) only [s_in, s_cl, s_leL, s_ltL, s_eqL, s_leR, s_ltR, s_eqR, s_le, s_lt, s_eq, s_addL, s_addL', s_mulL, s_mulL', s_mul, nI_add, s_subL, s_sub, s_m1, s_m1', s_lm1, s_ltm1, s_m1lt, s_m1le, s_m1p, s_10, s_let, s_el, s_er, s_b2, s_b3, s_b4, s_b5, s_b6, s_b7, s_b8, s_b9, s_b10, s_b11, s_b12, s_bind, eq_self, if_pos, if_neg, ite_true, ite_false, if_true, if_false, Bool.false_eq_true, reduceIte, c1]
        rfl
    · rintro st rfl
      refine ⟨_, ?_, rfl⟩
      show bX10_redraw_167 X zL P oL oP _ (nI 16) = _
      unfold bX10_redraw_167
      rw [if_pos (by decide)]
  obtain ⟨e, h8, rfl⟩ := H9
  exact h8
end FI
