/-! PURE: the reference's columns. -/
theorem p_down {S : Int} {n : Nat} (h0 : 0 ≤ S) (h1 : S < 2147483648) (hn : 0 < n) (hn2 : n < 2147483648) : fX10_down (iI S) (nI n) = some (iI (S / (n : Int))) := by
  obtain ⟨m, rfl⟩ : ∃ m : Nat, S = (m : Int) := ⟨S.toNat, by omega⟩
  have e1 : iI ((m : Int) / (n : Int)) = nI (m / n) := by rw [iI_nat, Int.natCast_ediv]
  have e2 : m / n * n ≤ m := Nat.div_mul_le_self m n
  have e3 : m / n ≤ m := Nat.div_le_self m n
  unfold fX10_down
  rw [← iI_nat, e1, s_div (by omega) hn2, s_mul, if_pos (by rw [n_lit 0, s_eq (by omega) (by omega)]; omega), if_pos (by rw [s_le (by omega) (by omega)]; exact e2)]
theorem m_X_congr {N : Nat} {row : Nat → List Nat} {X Y : Nat → Nat → Int} {Z : Nat → Int32} (h : ∀ l, l < N → ∀ c, c ∈ row l → X l c = Y l c) (hX : m_Xs N row X Z) : m_Xs N row Y Z := fun l hl k c hk => by rw [← h l hl c (g_mem_get hk)]; exact hX l hl k c hk
/-- the least among some items, with a flag -/
def g_mF (X : Nat → Nat → Int) (Q : Nat → Nat → Prop) (x1 x2 : Int32) : Prop := ((∀ i c, ¬ Q i c) ∧ x1 = 0) ∨ (x1 = 1 ∧ ∃ m, x2 = iI m ∧ (∀ i c, Q i c → m ≤ X i c) ∧ ∃ i c, Q i c ∧ X i c = m)
theorem g_mF_congr {X : Nat → Nat → Int} {Q Q' : Nat → Nat → Prop} {x x0 : Int32} (h : ∀ i c, Q i c ↔ Q' i c) (hm : g_mF X Q x x0) : g_mF X Q' x x0 := by
  rcases hm with ⟨h1, h2⟩ | ⟨h0, m, h1, h2, i, c, h3, h4⟩
  · exact .inl ⟨fun i c hq => h1 i c ((h i c).mpr hq), h2⟩
  · exact .inr ⟨h0, m, h1, fun i c hq => h2 i c ((h i c).mpr hq), i, c, (h i c).mp h3, h4⟩
theorem g_mF_end {N : Nat} {row : Nat → List Nat} {X : Nat → Nat → Int} {x x0 : Int32} (hm : g_mF X (g_Q row N 0) x x0) : ∃ m, g_isM N row X m ∧ ((∀ l, l < N → row l = []) ∨ x0 = iI m) := by
  refine g_mS_end (x0 := x0) ?_
  rcases hm with ⟨h1, h2⟩ | ⟨h0, h1⟩
  · exact .inl ⟨h1, rfl⟩
  · exact .inr h1
section CM
variable {ex bx : Nat → Bool} {up lo lay : Nat → Nat} {N : Nat} {row : Nat → List Nat} {wd : Nat → Nat} {X : Nat → Nat → Int} {W A F T U L S I P D Z : Nat → Int32}
def m_WD (N : Nat) (row : Nat → List Nat) (wd : Nat → Nat) (W : Nat → Int32) : Prop := ∀ l, l < N → ∀ c, c ∈ row l → fX10_widthOf W (nI (g_nm c)) = some (nI (wd c))
theorem p_mmid (hN : N ≤ 24) (hO : m_O N row S I P D) (hW : m_WD N row wd W) (hwd : ∀ c, 1 ≤ wd c ∧ wd c ≤ 50) (hX : m_Xs N row X Z) {l k c : Nat} (hl : l < N) (hk : (row l)[k]? = some c) : fX10_middle W I Z (nI l) (nI k) = some (iI (g_mid wd X l c)) := by
  obtain ⟨o1, o2, o3, o4⟩ := hO l hl
  have h1 := g_lt_len hk
  have h2 := hwd c
  unfold fX10_middle g_mid
  simp (disch := omega) only [s_in, s_cl, s_leL, s_ltL, s_eqL, s_leR, s_ltR, s_eqR, s_le, s_lt, s_eq, s_addL, s_addL', s_mulL, s_mulL', s_mul, nI_add, s_subL, s_sub, s_m1, s_m1', s_lm1, s_ltm1, s_m1lt, s_m1le, s_m1p, s_10, s_let, s_el, s_er, s_b2, s_b3, s_b4, s_b5, s_b6, s_b7, s_b8, s_b9, s_b10, s_b11, s_b12, s_bind, eq_self, if_pos, if_neg, ite_true, ite_false, if_true, if_false, Bool.false_eq_true, reduceIte, p_item0 o4.I (show l < 24 by omega) o1 hk, hW l hl c (g_mem_get hk), hX l hl k c hk, s_divL, s_iadd]
theorem p_mp25 (hG : g_G ex up lo bx lay N) (hV : g_V ex up lo bx lay N row) (hA : m_A ex up lo A F T U) (hL : m_L bx lay L) (hO : m_O N row S I P D) (hW : m_WD N row wd W) (hwd : ∀ c, 1 ≤ wd c ∧ wd c ≤ 50) (hX : m_Xs N row X Z) {l p c : Nat} (hl : l < N) (hp : (row l)[p]? = some c) (s : Bool) (x3 : Int32) :
    q_lo (fun (st : Int32 × Int32 × Int32) => bX10_pass_25 W A F T U L I P D Z (nI l) (if s then 1 else 0) x3 (nI p) st.1 st.2.1 st.2.2) (0, 0, 0) = some (nI (g_nb (g_own up lo lay s l) (g_Kx ex up lo lay s l) c).length, iI (g_sm (g_om up lo lay wd X s l) (g_nb (g_own up lo lay s l) (g_Kx ex up lo lay s l) c))) := by
  have hN := hG.1
  have hnd := (hV l (by omega)).1
  have hp40 : p < 40 := by
    have := g_lt_len hp
    have := (hO l hl).1
    omega
  have H9 : ∃ e : Int32 × Int32, q_lo (fun (st : Int32 × Int32 × Int32) => bX10_pass_25 W A F T U L I P D Z (nI l) (if s then 1 else 0) x3 (nI p) st.1 st.2.1 st.2.2) (0, 0, 0) = some e ∧ e = (nI (g_nb (g_own up lo lay s l) (g_Kx ex up lo lay s l) c).length, iI (g_sm (g_om up lo lay wd X s l) (g_nb (g_own up lo lay s l) (g_Kx ex up lo lay s l) c))) := by
    by_cases hs0 : s = true ∧ l = 0
    · obtain ⟨rfl, rfl⟩ := hs0
      have hKx : g_Kx ex up lo lay true 0 = [] := by
        unfold g_Kx
        rw [if_pos ⟨rfl, rfl⟩]
      rw [hKx]
      refine q_inv (fun n (st : Int32 × Int32 × Int32) => st = (0, 0, nI n)) 24 ?_ ?_ _ rfl
      · rintro n st hn rfl
        refine ⟨_, ?_, rfl⟩
        show bX10_pass_25 W A F T U L I P D Z (nI 0) (if true = true then 1 else 0) x3 (nI p) 0 0 (nI n) = _
        unfold bX10_pass_25 jX10_pass_43 jX10_pass_140
        rw [s_01, if_neg (by rw [n_lit 24, s_le (by omega) (by omega)]; omega), if_pos rfl, if_neg (by decide), if_pos (by decide), s_addL]
      · rintro st rfl
        refine ⟨_, ?_, rfl⟩
        show bX10_pass_25 W A F T U L I P D Z (nI 0) (if true = true then 1 else 0) x3 (nI p) 0 0 (nI 24) = _
        unfold bX10_pass_25
        rw [if_pos (by decide)]
        rfl
    · have hKx : ∀ n, n = 24 → g_Kx ex up lo lay s l = g_ps ex up lo lay n (if s = true then l - 1 else l) := by
        rintro n rfl
        unfold g_Kx
        rw [if_neg hs0]
        rfl
      have hs : s = true → 1 ≤ l := by
        intro h
        by_cases h0 : l = 0
        · exact absurd ⟨h, h0⟩ hs0
        · omega
      refine q_inv (fun n (st : Int32 × Int32 × Int32) => st = (nI (g_nb (g_own up lo lay s l) (g_ps ex up lo lay n (if s = true then l - 1 else l)) c).length, iI (g_sm (g_om up lo lay wd X s l) (g_nb (g_own up lo lay s l) (g_ps ex up lo lay n (if s = true then l - 1 else l)) c)), nI n)) 24 ?_ ?_ _ rfl
      · rintro n st hn rfl
        have hb1 : ∃ b, (if s = true then l - 1 else l) = b ∧ b < 24 ∧ (s = true → b = l - 1) ∧ (s = false → b = l) := by
          cases s
          · exact ⟨l, rfl, by omega, (fun h => by cases h), fun _ => rfl⟩
          · exact ⟨l - 1, rfl, by omega, (fun _ => rfl), fun h => by cases h⟩
        obtain ⟨b, hb2, hb3, hb4, hb5⟩ := hb1
        rw [hb2]
        have m1 := p_mhasPiece hG hA hL hn (show b < 2147483648 by omega)
        have hsucc : g_nb (g_own up lo lay s l) (g_ps ex up lo lay (n + 1) b) c = if g_pc ex up lo lay n b = true ∧ g_own up lo lay s l n = c then g_nb (g_own up lo lay s l) (g_ps ex up lo lay n b) c ++ [n] else g_nb (g_own up lo lay s l) (g_ps ex up lo lay n b) c := by
          unfold g_nb
          rw [g_ps_succ]
          by_cases h1 : g_pc ex up lo lay n b = true
          · rw [if_pos h1, List.filter_append]
            by_cases h2 : g_own up lo lay s l n = c
            · rw [if_pos ⟨h1, h2⟩]
              simp [h2]
            · rw [if_neg (fun h => h2 h.2)]
              simp [h2]
          · rw [if_neg h1, if_neg (fun h => h1 h.1)]
        have hlen : (g_nb (g_own up lo lay s l) (g_ps ex up lo lay n b) c).length ≤ 24 := Nat.le_trans (List.length_filter_le _ _) (Nat.le_trans (g_ps_len n b) (by omega))
        refine ⟨_, ?_, rfl⟩
        rw [hsucc]
        generalize g_nb (g_own up lo lay s l) (g_ps ex up lo lay n b) c = Q at hlen
        show bX10_pass_25 W A F T U L I P D Z (nI l) (if s then 1 else 0) x3 (nI p) (nI Q.length) (iI (g_sm (g_om up lo lay wd X s l) Q)) (nI n) = _
        by_cases hpc : g_pc ex up lo lay n b = true
        · rw [if_pos hpc] at m1
          obtain ⟨w1, v1⟩ := p_mup hG hV hA hL hO hn hpc
          obtain ⟨w2, v2⟩ := p_mdn hG hV hA hL hO hn hpc
          have hbN := g_pc_N hG hn hpc
          unfold bX10_pass_25 jX10_pass_43 jX10_pass_87 jX10_pass_134 jX10_pass_140
          cases s with
          | false =>
            have hbl := hb5 rfl
            subst hbl
            have key : g_pu up lay row b n = p ↔ g_own up lo lay false b n = c := g_at_eq hnd hp (g_uc_mem hG hV hn hpc)
            have hmid := p_mmid hN hO hW hwd hX hbN (g_at_get (g_lc_mem hG hV hn hpc))
            have hmid2 : fX10_middle W I Z (nI (b + 1)) (nI (g_pd lo lay row b n)) = some (iI (g_om up lo lay wd X false b n)) := hmid
            by_cases ho : g_own up lo lay false b n = c
            · have ho2 := key.mpr ho
              rw [if_pos (show g_pc ex up lo lay n b = true ∧ g_own up lo lay false b n = c from ⟨hpc, ho⟩), List.length_append, g_sm_snoc]
              simp (disch := omega) only [s_in, s_cl, s_leL, s_ltL, s_eqL, s_leR, s_ltR, s_eqR, s_le, s_lt, s_eq, s_addL, s_addL', s_mulL, s_mulL', s_mul, nI_add, s_subL, s_sub, s_m1, s_m1', s_lm1, s_ltm1, s_m1lt, s_m1le, s_m1p, s_10, s_let, s_el, s_er, s_b2, s_b3, s_b4, s_b5, s_b6, s_b7, s_b8, s_b9, s_b10, s_b11, s_b12, s_bind, eq_self, if_pos, if_neg, ite_true, ite_false, if_true, if_false, Bool.false_eq_true, reduceIte, m1, w1, w2, ho2, hmid2, iI_add]
              rfl
            · have ho2 : ¬ g_pu up lay row b n = p := fun h => ho (key.mp h)
              rw [if_neg (show ¬ (g_pc ex up lo lay n b = true ∧ g_own up lo lay false b n = c) from fun h => ho h.2)]
              simp (disch := omega) only [s_in, s_cl, s_leL, s_ltL, s_eqL, s_leR, s_ltR, s_eqR, s_le, s_lt, s_eq, s_addL, s_addL', s_mulL, s_mulL', s_mul, nI_add, s_subL, s_sub, s_m1, s_m1', s_lm1, s_ltm1, s_m1lt, s_m1le, s_m1p, s_10, s_let, s_el, s_er, s_b2, s_b3, s_b4, s_b5, s_b6, s_b7, s_b8, s_b9, s_b10, s_b11, s_b12, s_bind, eq_self, if_pos, if_neg, ite_true, ite_false, if_true, if_false, Bool.false_eq_true, reduceIte, m1, w1, w2, ho2]
          | true =>
            have hbl := hb4 rfl
            have hl1 := hs rfl
            have hb6 : b + 1 = l := by omega
            have key : g_pd lo lay row b n = p ↔ g_own up lo lay true l n = c := by
              have h7 := g_lc_mem hG hV hn hpc
              rw [hb6] at h7
              have h8 := g_at_eq hnd hp h7
              unfold g_pd g_own
              rw [hb6, if_pos rfl, ← hbl]
              exact h8
            have hmid := p_mmid hN hO hW hwd hX (show b < N by omega) (g_at_get (g_uc_mem hG hV hn hpc))
            have hom : g_om up lo lay wd X true l n = g_mid wd X b (g_uc up lay n b) := by
              unfold g_om g_bey g_oth
              rw [if_pos rfl, if_pos rfl, hbl]
            rw [← hom] at hmid
            have hmid2 : fX10_middle W I Z (nI b) (nI (g_pu up lay row b n)) = some (iI (g_om up lo lay wd X true l n)) := hmid
            have hlb : nI l - 1 = nI b := by rw [hbl]; exact s_subL hl1
            by_cases ho : g_own up lo lay true l n = c
            · have ho2 := key.mpr ho
              rw [if_pos (show g_pc ex up lo lay n b = true ∧ g_own up lo lay true l n = c from ⟨hpc, ho⟩), List.length_append, g_sm_snoc]
              simp (disch := omega) only [s_in, s_cl, s_leL, s_ltL, s_eqL, s_leR, s_ltR, s_eqR, s_le, s_lt, s_eq, s_addL, s_addL', s_mulL, s_mulL', s_mul, nI_add, s_subL, s_sub, s_m1, s_m1', s_lm1, s_ltm1, s_m1lt, s_m1le, s_m1p, s_10, s_let, s_el, s_er, s_b2, s_b3, s_b4, s_b5, s_b6, s_b7, s_b8, s_b9, s_b10, s_b11, s_b12, s_bind, eq_self, if_pos, if_neg, ite_true, ite_false, if_true, if_false, Bool.false_eq_true, reduceIte, hlb, m1, w1, w2, ho2, hmid2, iI_add]
              rfl
            · have ho2 : ¬ g_pd lo lay row b n = p := fun h => ho (key.mp h)
              rw [if_neg (show ¬ (g_pc ex up lo lay n b = true ∧ g_own up lo lay true l n = c) from fun h => ho h.2)]
              simp (disch := omega) only [s_in, s_cl, s_leL, s_ltL, s_eqL, s_leR, s_ltR, s_eqR, s_le, s_lt, s_eq, s_addL, s_addL', s_mulL, s_mulL', s_mul, nI_add, s_subL, s_sub, s_m1, s_m1', s_lm1, s_ltm1, s_m1lt, s_m1le, s_m1p, s_10, s_let, s_el, s_er, s_b2, s_b3, s_b4, s_b5, s_b6, s_b7, s_b8, s_b9, s_b10, s_b11, s_b12, s_bind, eq_self, if_pos, if_neg, ite_true, ite_false, if_true, if_false, Bool.false_eq_true, reduceIte, hlb, m1, w1, w2, ho2]
        · rw [if_neg hpc] at m1
          rw [if_neg (show ¬ (g_pc ex up lo lay n b = true ∧ g_own up lo lay s l n = c) from fun h => hpc h.1)]
          unfold bX10_pass_25 jX10_pass_43 jX10_pass_140
          cases s with
          | false =>
            have hbl := hb5 rfl
            subst hbl
            simp (disch := omega) only [s_in, s_cl, s_leL, s_ltL, s_eqL, s_leR, s_ltR, s_eqR, s_le, s_lt, s_eq, s_addL, s_addL', s_mulL, s_mulL', s_mul, nI_add, s_subL, s_sub, s_m1, s_m1', s_lm1, s_ltm1, s_m1lt, s_m1le, s_m1p, s_10, s_let, s_el, s_er, s_b2, s_b3, s_b4, s_b5, s_b6, s_b7, s_b8, s_b9, s_b10, s_b11, s_b12, s_bind, eq_self, if_pos, if_neg, ite_true, ite_false, if_true, if_false, Bool.false_eq_true, reduceIte, m1]
          | true =>
            have hbl := hb4 rfl
            have hl1 := hs rfl
            have hlb : nI l - 1 = nI b := by rw [hbl]; exact s_subL hl1
            simp (disch := omega) only [s_in, s_cl, s_leL, s_ltL, s_eqL, s_leR, s_ltR, s_eqR, s_le, s_lt, s_eq, s_addL, s_addL', s_mulL, s_mulL', s_mul, nI_add, s_subL, s_sub, s_m1, s_m1', s_lm1, s_ltm1, s_m1lt, s_m1le, s_m1p, s_10, s_let, s_el, s_er, s_b2, s_b3, s_b4, s_b5, s_b6, s_b7, s_b8, s_b9, s_b10, s_b11, s_b12, s_bind, eq_self, if_pos, if_neg, ite_true, ite_false, if_true, if_false, Bool.false_eq_true, reduceIte, hlb, m1]
      · rintro st rfl
        rw [hKx 24 rfl]
        refine ⟨_, ?_, rfl⟩
        show bX10_pass_25 W A F T U L I P D Z (nI l) _ x3 (nI p) _ _ (nI 24) = _
        unfold bX10_pass_25
        rw [if_pos (by decide)]
  obtain ⟨e, h8, rfl⟩ := H9
  exact h8
theorem p_mpass (hG : g_G ex up lo bx lay N) (hV : g_V ex up lo bx lay N row) (hA : m_A ex up lo A F T U) (hL : m_L bx lay L) (hO : m_O N row S I P D) (hW : m_WD N row wd W) (hwd : ∀ c, 1 ≤ wd c ∧ wd c ≤ 50) {M : Int} (hB : g_XB N row wd X M) (hM : M ≤ 1000000) (hX : m_Xs N row X Z) {l : Nat} (hl : l < N) (s : Bool) :
    ∃ Z', fX10_pass W A F T U L S I P D Z (nI l) (if s then 1 else 0) = some Z' ∧ m_Xs N row (g_xp ex up lo lay row wd s l X) Z' := by
  have hN := hG.1
  obtain ⟨o1, o2, o3, o4⟩ := hO l hl
  have h40 : ∀ i, i < N → (row i).length ≤ 40 := fun i hi => (hO i hi).1
  have hwn := g_wn_b hG hV hB (s := s) hl
  have hxk := g_xk_b (W := g_wn ex up lo lay wd X s l) hwd hwn
  have H9 : ∃ e : Nat → Int32, q_lo (fun (st : Int32 × Int32 × (Nat → Int32)) => bX10_pass_5 W A F T U L S I P D (nI l) (if s then 1 else 0) st.1 st.2.1 st.2.2) (0, 0, Z) = some e ∧ m_Xs N row (g_xp ex up lo lay row wd s l X) e := by
    refine q_inv (fun n (st : Int32 × Int32 × (Nat → Int32)) => st.2.1 = nI n ∧ m_Xs N row (g_xu X l (row l) (g_xk (g_wn ex up lo lay wd X s l) wd (row l)) n) st.2.2 ∧ ∀ j d : Nat, n = j + 1 → (row l)[j]? = some d → st.1 = iI (g_xk (g_wn ex up lo lay wd X s l) wd (row l) j + (wd d : Int))) (row l).length ?_ ?_ _ ⟨rfl, by rw [g_xu_0]; exact hX, fun j d h => by omega⟩
    · rintro n ⟨x, y, Z1⟩ hn ⟨h1, h2, h4⟩
      dsimp only at h1 h2 h4
      subst h1
      obtain ⟨c, hc⟩ : ∃ c, (row l)[n]? = some c := ⟨_, List.getElem?_eq_getElem hn⟩
      have w2 := hW l hl c (g_mem_get hc)
      have hwc := hwd c
      have k1 := hwn c (g_mem_get hc)
      have hZ1 : Z1 (40 * l + n) = iI (X l c) := by
        rw [h2 l hl n c hc, g_xu_old o2 hc]
      have hsum := p_mp25 hG hV hA hL hO hW hwd h2 hl hc s x
      have hom : g_sm (g_om up lo lay wd (g_xu X l (row l) (g_xk (g_wn ex up lo lay wd X s l) wd (row l)) n) s l) (g_nb (g_own up lo lay s l) (g_Kx ex up lo lay s l) c) = g_sm (g_om up lo lay wd X s l) (g_nb (g_own up lo lay s l) (g_Kx ex up lo lay s l) c) := by
        unfold g_sm
        congr 1
        apply List.map_congr_left
        intro a ha
        obtain ⟨-, -, h6⟩ := g_Kx_mem (List.mem_filter.mp ha).1
        unfold g_om g_mid
        rw [g_xu_ne]
        unfold g_bey
        cases s with
        | false => rw [if_neg (by decide)]; omega
        | true => have := h6 rfl; rw [if_pos rfl]; omega
      rw [hom] at hsum
      have hsb := g_sm_b (om := g_om up lo lay wd X s l) (M := M) (g_nb (g_own up lo lay s l) (g_Kx ex up lo lay s l) c) (fun a ha => by
        obtain ⟨k1, k2, -⟩ := g_oth_mem hG hV (List.mem_filter.mp ha).1
        exact hB _ k1 _ k2)
      have hlen : (g_nb (g_own up lo lay s l) (g_Kx ex up lo lay s l) c).length ≤ 24 := Nat.le_trans (List.length_filter_le _ _) g_Kx_len
      have hM0 : (0 : Int) ≤ M := by
        have := hB l hl c (g_mem_get hc)
        omega
      have hnew : ∀ v : Int, v = g_wn ex up lo lay wd X s l c → ∃ t9, jX10_pass_191 Z1 (nI l) (if s then 1 else 0) x (nI n) (nI (wd c)) (iI v) = some (.inl t9) ∧ t9.2.1 = nI (n + 1) ∧ m_Xs N row (g_xu X l (row l) (g_xk (g_wn ex up lo lay wd X s l) wd (row l)) (n + 1)) t9.2.2 ∧ ∀ j d : Nat, n + 1 = j + 1 → (row l)[j]? = some d → t9.1 = iI (g_xk (g_wn ex up lo lay wd X s l) wd (row l) j + (wd d : Int)) := by
        rintro v rfl
        have fin : ∀ z : Int, z = g_xk (g_wn ex up lo lay wd X s l) wd (row l) n → ∃ t9, jX10_pass_211 Z1 (nI l) (if s then 1 else 0) (nI n) (nI (wd c)) (iI z) = some (.inl t9) ∧ t9.2.1 = nI (n + 1) ∧ m_Xs N row (g_xu X l (row l) (g_xk (g_wn ex up lo lay wd X s l) wd (row l)) (n + 1)) t9.2.2 ∧ ∀ j d : Nat, n + 1 = j + 1 → (row l)[j]? = some d → t9.1 = iI (g_xk (g_wn ex up lo lay wd X s l) wd (row l) j + (wd d : Int)) := by
          rintro z rfl
          unfold jX10_pass_211
          simp (disch := omega) only [s_in, s_cl, s_leL, s_ltL, s_eqL, s_leR, s_ltR, s_eqR, s_le, s_lt, s_eq, s_addL, s_addL', s_mulL, s_mulL', s_mul, nI_add, s_subL, s_sub, s_m1, s_m1', s_lm1, s_ltm1, s_m1lt, s_m1le, s_m1p, s_10, s_let, s_el, s_er, s_b2, s_b3, s_b4, s_b5, s_b6, s_b7, s_b8, s_b9, s_b10, s_b11, s_b12, s_bind, eq_self, if_pos, if_neg, ite_true, ite_false, if_true, if_false, Bool.false_eq_true, reduceIte, s_iadd]
          refine ⟨_, rfl, rfl, m_X_upd o2 h40 hl hc h2, ?_⟩
          intro j d hj hd
          have : j = n := by omega
          subst this
          rw [hc] at hd
          cases hd
          rfl
        unfold jX10_pass_191
        cases n with
        | zero =>
          rw [if_pos (by decide)]
          exact fin _ (by rw [g_xk, g_getD hc])
        | succ j =>
          obtain ⟨d, hd⟩ : ∃ d, (row l)[j]? = some d := ⟨_, List.getElem?_eq_getElem (by omega)⟩
          have k2 := hxk j d hd
          have hwdd := hwd d
          have hxk1 : g_xk (g_wn ex up lo lay wd X s l) wd (row l) (j + 1) = max (g_wn ex up lo lay wd X s l c) (g_xk (g_wn ex up lo lay wd X s l) wd (row l) j + (wd d : Int) + 4) := by rw [g_xk, g_getD hc, g_getD hd]
          rw [if_neg (by rw [n_lit 0, s_le (by omega) (by omega)]; omega), h4 j d rfl hd, s_iaddL]
          by_cases hle : g_xk (g_wn ex up lo lay wd X s l) wd (row l) j + (wd d : Int) + 4 ≤ g_wn ex up lo lay wd X s l c
          · rw [if_pos (by rw [iI_le (by omega) (by omega) (by omega) (by omega)]; exact hle)]
            exact fin _ (by rw [hxk1]; omega)
          · rw [if_neg (by rw [iI_le (by omega) (by omega) (by omega) (by omega)]; exact hle)]
            exact fin _ (by rw [hxk1]; show _ + (4 : Int) = _; omega)
      show ∃ t9, bX10_pass_5 W A F T U L S I P D (nI l) (if s then 1 else 0) x (nI n) Z1 = some (.inl t9) ∧ _
      unfold bX10_pass_5
      rw [if_pos (n_in (show l < 24 by omega) (by decide)), s_cl (by omega), o3, if_neg (by rw [s_le (by omega) (by omega)]; omega), hsum, s_b2, p_item0 o4.I (by omega) o1 hc, s_bind, w2, s_bind]
      have hwdef : g_wn ex up lo lay wd X s l c = if (g_nb (g_own up lo lay s l) (g_Kx ex up lo lay s l) c).length = 0 then X l c else g_sm (g_om up lo lay wd X s l) (g_nb (g_own up lo lay s l) (g_Kx ex up lo lay s l) c) / ((g_nb (g_own up lo lay s l) (g_Kx ex up lo lay s l) c).length : Int) - ((wd c / 2 : Nat) : Int) := rfl
      generalize g_sm (g_om up lo lay wd X s l) (g_nb (g_own up lo lay s l) (g_Kx ex up lo lay s l) c) = Sm at hsb hwdef
      generalize (g_nb (g_own up lo lay s l) (g_Kx ex up lo lay s l) c).length = nn at hsb hlen hwdef
      by_cases h0 : nn = 0
      · subst h0
        rw [if_pos rfl] at hwdef
        rw [if_pos (show nI 0 = 0 from rfl), s_mulL', nI_add, if_pos (n_in (show 40 * l + n < 960 by omega) (by decide)), s_cl (by omega), hZ1]
        exact hnew _ hwdef.symm
      · rw [if_neg h0] at hwdef
        have hS : Sm < 2147483648 := by
          have h1 : (nn : Int) * M ≤ 24 * 1000000 := Int.mul_le_mul (by omega) hM hM0 (by omega)
          omega
        rw [if_neg (by rw [n_lit 0, s_eq (by omega) (by omega)]; omega), p_down hsb.1 hS (by omega) (by omega), s_bind, s_divL (by omega) (by omega), s_isubn]
        exact hnew _ hwdef.symm
    · rintro ⟨x, y, Z1⟩ ⟨h1, h2, h4⟩
      dsimp only at h1 h2 h4
      subst h1
      refine ⟨Z1, ?_, h2⟩
      show bX10_pass_5 W A F T U L S I P D (nI l) (if s then 1 else 0) x (nI (row l).length) Z1 = _
      unfold bX10_pass_5
      rw [if_pos (n_in (show l < 24 by omega) (by decide)), s_cl (by omega), o3, if_pos (Int32.le_refl _)]
  obtain ⟨e, h8, h9⟩ := H9
  refine ⟨e, ?_, h9⟩
  unfold fX10_pass
  rw [h8]
  rfl
theorem p_mpack (hV : g_V ex up lo bx lay N row) (hN : N ≤ 24) (hO : m_O N row S I P D) (hW : m_WD N row wd W) (Z : Nat → Int32) : ∃ Z', q_lo (fun (st : Int32 × (Nat → Int32)) => bX10_straighten_2 W (nI N) S I st.1 st.2) (0, Z) = some Z' ∧ m_Xs N row (g_xpk row wd (fun _ _ => 0) N) Z' := by
  refine q_inv (fun n (st : Int32 × (Nat → Int32)) => st.1 = nI n ∧ m_Xs n row (g_xpk row wd (fun _ _ => 0) n) st.2) N ?_ ?_ _ ⟨rfl, fun l hl => by omega⟩
  · rintro n ⟨x, Z1⟩ hn ⟨h1, h2⟩
    dsimp only at h1 h2
    subst h1
    obtain ⟨o1, o2, o3, o4⟩ := hO n hn
    have H8 : ∃ e : Nat → Int32, q_lo (fun (st : Int32 × Int32 × (Nat → Int32)) => bX10_straighten_14 W S I (nI n) st.1 st.2.1 st.2.2) (0, 0, Z1) = some e ∧ (∀ k c : Nat, (row n)[k]? = some c → e (40 * n + k) = iI (g_pk wd (row n) k)) ∧ ∀ i k : Nat, i ≠ n → k < 40 → e (40 * i + k) = Z1 (40 * i + k) := by
      refine q_inv (fun k (st : Int32 × Int32 × (Nat → Int32)) => st.1 = iI (g_pk wd (row n) k) ∧ st.2.1 = nI k ∧ (∀ j c : Nat, j < k → (row n)[j]? = some c → st.2.2 (40 * n + j) = iI (g_pk wd (row n) j)) ∧ ∀ i k : Nat, i ≠ n → k < 40 → st.2.2 (40 * i + k) = Z1 (40 * i + k)) (row n).length ?_ ?_ _ ⟨rfl, rfl, fun j c h => by omega, fun _ _ _ _ => rfl⟩
      · rintro k ⟨x, y, Z2⟩ hk ⟨h1, h2, h3, h4⟩
        dsimp only at h1 h2 h3 h4
        subst h1
        subst h2
        obtain ⟨c, hc⟩ : ∃ c, (row n)[k]? = some c := ⟨_, List.getElem?_eq_getElem hk⟩
        show ∃ t9, bX10_straighten_14 W S I (nI n) (iI (g_pk wd (row n) k)) (nI k) Z2 = some (.inl t9) ∧ _
        unfold bX10_straighten_14
        simp (disch := omega) only [s_in, s_cl, s_leL, s_ltL, s_eqL, s_leR, s_ltR, s_eqR, s_le, s_lt, s_eq, s_addL, s_addL', s_mulL, s_mulL', s_mul, nI_add, s_subL, s_sub, s_m1, s_m1', s_lm1, s_ltm1, s_m1lt, s_m1le, s_m1p, s_10, s_let, s_el, s_er, s_b2, s_b3, s_b4, s_b5, s_b6, s_b7, s_b8, s_b9, s_b10, s_b11, s_b12, s_bind, eq_self, if_pos, if_neg, ite_true, ite_false, if_true, if_false, Bool.false_eq_true, reduceIte, o3, p_item0 o4.I (show n < 24 by omega) o1 hc, hW n hn c (g_mem_get hc), s_iadd]
        refine ⟨_, rfl, ?_, rfl, ?_, ?_⟩
        · show iI _ = iI _
          rw [g_pk, g_getD hc]
          congr 1
          omega
        · intro j d hj hd
          dsimp only
          by_cases hjk : j = k
          · subst hjk
            rw [pk_us]
          · rw [pk_un (by omega)]
            exact h3 j d (by omega) hd
        · intro i j hi hj
          dsimp only
          rw [pk_un (by omega)]
          exact h4 i j hi hj
      · rintro ⟨x, y, Z2⟩ ⟨h1, h2, h3, h4⟩
        dsimp only at h1 h2 h3 h4
        subst h2
        refine ⟨Z2, ?_, fun k c hk => h3 k c (g_lt_len hk) hk, h4⟩
        show bX10_straighten_14 W S I (nI n) x (nI (row n).length) Z2 = _
        unfold bX10_straighten_14
        rw [if_pos (n_in (show n < 24 by omega) (by decide)), s_cl (by omega), o3, if_pos (Int32.le_refl _)]
    obtain ⟨Z2, e1, e2, e3⟩ := H8
    show ∃ t9, bX10_straighten_2 W (nI N) S I (nI n) Z1 = some (.inl t9) ∧ _
    unfold bX10_straighten_2
    rw [if_neg (by rw [s_le (by omega) (by omega)]; omega), e1, s_bind, s_addL]
    refine ⟨_, rfl, rfl, ?_⟩
    intro l hl k c hk
    dsimp only
    rw [g_xpk]
    by_cases hln : l = n
    · subst hln
      rw [g_xu_new o2 hk (g_lt_len hk)]
      exact e2 k c hk
    · have hk40 := (hO l (by omega)).1
      have hkl := g_lt_len hk
      rw [g_xu_ne hln, e3 l k hln (by omega)]
      exact h2 l (by omega) k c hk
  · rintro ⟨x, Z1⟩ ⟨h1, h2⟩
    dsimp only at h1 h2
    subst h1
    refine ⟨Z1, ?_, h2⟩
    show bX10_straighten_2 W (nI N) S I (nI N) Z1 = _
    unfold bX10_straighten_2
    rw [if_pos (Int32.le_refl _)]
theorem p_mst72 (hG : g_G ex up lo bx lay N) (hV : g_V ex up lo bx lay N row) (hA : m_A ex up lo A F T U) (hL : m_L bx lay L) (hO : m_O N row S I P D) (hW : m_WD N row wd W) (hwd : ∀ c, 1 ≤ wd c ∧ wd c ≤ 50) {M : Int} (hB : g_XB N row wd X M) (hM : M ≤ 900000) (hX : m_Xs N row X Z) {n : Nat} (hn : n < 4) :
    ∃ Z', q_lo (fun (st : Int32 × (Nat → Int32)) => bX10_straighten_72 W A F T U (nI N) L S I P D (nI n) st.1 st.2) (0, Z) = some Z' ∧ m_Xs N row (g_xa ex up lo lay row wd N (decide (n % 2 = 0)) X N) Z' := by
  have hN := hG.1
  have h40 : ∀ i, i < N → (row i).length ≤ 40 := fun i hi => (hO i hi).1
  have e3 : nI n - nI n / 2 * 2 = nI (n % 2) := by
    rw [s_divL (by omega) (by omega), s_mulL, s_sub (by omega)]
    congr 1
    omega
  refine q_inv (fun k (st : Int32 × (Nat → Int32)) => st.1 = nI k ∧ m_Xs N row (g_xa ex up lo lay row wd N (decide (n % 2 = 0)) X k) st.2) N ?_ ?_ _ ⟨rfl, hX⟩
  · rintro k ⟨x, Z1⟩ hk ⟨h1, h2⟩
    dsimp only at h1 h2
    subst h1
    have hBk := g_XB_xa hG hV hwd h40 hB (decide (n % 2 = 0)) k (by omega)
    obtain ⟨Z2, e4, e5⟩ := p_mpass hG hV hA hL hO hW hwd hBk (by omega) h2 (l := if decide (n % 2 = 0) = true then k else N - 1 - k) (by split <;> omega) (decide (n % 2 = 0))
    show ∃ t9, bX10_straighten_72 W A F T U (nI N) L S I P D (nI n) (nI k) Z1 = some (.inl t9) ∧ _
    unfold bX10_straighten_72 jX10_straighten_99 jX10_straighten_110
    rw [e3, if_neg (by rw [s_le (by omega) (by omega)]; omega)]
    by_cases hc : n % 2 = 0
    · have hd : decide (n % 2 = 0) = true := by simpa using hc
      have e6 : fX10_pass W A F T U L S I P D Z1 (nI k) 1 = some Z2 := by
        have := e4
        rw [if_pos hd, if_pos hd] at this
        exact this
      rw [if_pos (by rw [hc]; rfl), if_pos (by rw [hc]; rfl), e6, s_bind, s_addL]
      exact ⟨_, rfl, rfl, e5⟩
    · have hd : ¬ decide (n % 2 = 0) = true := by simpa using hc
      have e6 : fX10_pass W A F T U L S I P D Z1 (nI (N - 1 - k)) 0 = some Z2 := by
        have := e4
        rw [if_neg hd, if_neg hd] at this
        exact this
      have e7 : nI N - 1 - nI k = nI (N - 1 - k) := by rw [s_subL (by omega), s_sub (by omega)]
      have e8 : ¬ nI (n % 2) = 0 := by rw [n_lit 0, s_eq (by omega) (by omega)]; omega
      rw [if_neg e8, if_neg e8, e7, e6, s_bind, s_addL]
      exact ⟨_, rfl, rfl, e5⟩
  · rintro ⟨x, Z1⟩ ⟨h1, h2⟩
    dsimp only at h1 h2
    subst h1
    refine ⟨Z1, ?_, h2⟩
    show bX10_straighten_72 W A F T U (nI N) L S I P D (nI n) (nI N) Z1 = _
    unfold bX10_straighten_72
    rw [if_pos (Int32.le_refl _)]
theorem p_mst65 (hG : g_G ex up lo bx lay N) (hV : g_V ex up lo bx lay N row) (hA : m_A ex up lo A F T U) (hL : m_L bx lay L) (hO : m_O N row S I P D) (hW : m_WD N row wd W) (hwd : ∀ c, 1 ≤ wd c ∧ wd c ≤ 50) {M : Int} (hB : g_XB N row wd X M) (hM : M ≤ 10000) (hX : m_Xs N row X Z) :
    ∃ Z', q_lo (fun (st : Int32 × (Nat → Int32)) => bX10_straighten_65 W A F T U (nI N) L S I P D st.1 st.2) (0, Z) = some Z' ∧ m_Xs N row (g_x4 ex up lo lay row wd N X 4) Z' := by
  have h40 : ∀ i, i < N → (row i).length ≤ 40 := fun i hi => (hO i hi).1
  refine q_inv (fun n (st : Int32 × (Nat → Int32)) => st.1 = nI n ∧ m_Xs N row (g_x4 ex up lo lay row wd N X n) st.2) 4 ?_ ?_ _ ⟨rfl, hX⟩
  · rintro n ⟨x, Z1⟩ hn ⟨h1, h2⟩
    dsimp only at h1 h2
    subst h1
    have hBn := g_XB_x4 hG hV hwd h40 hB n
    obtain ⟨Z2, e1, e2⟩ := p_mst72 hG hV hA hL hO hW hwd hBn (by omega) h2 hn
    show ∃ t9, bX10_straighten_65 W A F T U (nI N) L S I P D (nI n) Z1 = some (.inl t9) ∧ _
    unfold bX10_straighten_65
    rw [if_neg (by rw [n_lit 4, s_le (by omega) (by omega)]; omega), e1, s_bind, s_addL]
    exact ⟨_, rfl, rfl, e2⟩
  · rintro ⟨x, Z1⟩ ⟨h1, h2⟩
    dsimp only at h1 h2
    subst h1
    refine ⟨Z1, ?_, h2⟩
    show bX10_straighten_65 W A F T U (nI N) L S I P D (nI 4) Z1 = _
    unfold bX10_straighten_65
    rw [if_pos (by decide)]
theorem p_mleast (hN : N ≤ 24) (hO : m_O N row S I P D) (hb : ∀ l, l < N → ∀ c, c ∈ row l → -100000000 ≤ X l c ∧ X l c ≤ 100000000) (hX : m_Xs N row X Z) :
    ∃ x m, q_lo (fun (st : Int32 × Int32 × Int32) => bX10_straighten_131 (nI N) S Z st.1 st.2.1 st.2.2) (0, 0, 0) = some x ∧ g_isM N row X m ∧ ((∀ l, l < N → row l = []) ∨ x = iI m) := by
  have H9 : ∃ e : Int32, q_lo (fun (st : Int32 × Int32 × Int32) => bX10_straighten_131 (nI N) S Z st.1 st.2.1 st.2.2) (0, 0, 0) = some e ∧ ∃ f, g_mF X (g_Q row N 0) f e := by
    refine q_inv (fun n (st : Int32 × Int32 × Int32) => st.2.2 = nI n ∧ g_mF X (g_Q row n 0) st.1 st.2.1) N ?_ ?_ _ ⟨rfl, .inl ⟨fun i c h => by unfold g_Q at h; simp at h, rfl⟩⟩
    · rintro n ⟨f, x, y⟩ hn ⟨h1, h2⟩
      dsimp only at h1 h2
      subst h1
      obtain ⟨o1, o2, o3, o4⟩ := hO n hn
      have H8 : ∃ e : Int32 × Int32, q_lo (fun (st : Int32 × Int32 × Int32) => bX10_straighten_142 S Z (nI n) st.1 st.2.1 st.2.2) (f, x, 0) = some e ∧ g_mF X (g_Q row (n + 1) 0) e.1 e.2 := by
        refine q_inv (fun k (st : Int32 × Int32 × Int32) => st.2.2 = nI k ∧ g_mF X (g_Q row n k) st.1 st.2.1) (row n).length ?_ ?_ _ ⟨rfl, h2⟩
        · rintro k ⟨f, x, y⟩ hk ⟨h1, h2⟩
          dsimp only at h1 h2
          subst h1
          obtain ⟨c, hc⟩ : ∃ c, (row n)[k]? = some c := ⟨_, List.getElem?_eq_getElem hk⟩
          have hcb := hb n hn c (g_mem_get hc)
          have hz := hX n hn k c hc
          have hQb : ∀ i d, g_Q row n k i d → -100000000 ≤ X i d ∧ X i d ≤ 100000000 := by
            intro i d hq
            rcases hq with ⟨q1, q2⟩ | ⟨q1, q2⟩
            · exact hb i (by omega) d q2
            · subst q1
              exact hb i hn d (List.mem_of_mem_take q2)
          show ∃ t9, bX10_straighten_142 S Z (nI n) f x (nI k) = some (.inl t9) ∧ _
          unfold bX10_straighten_142 jX10_straighten_173 jX10_straighten_186
          rcases h2 with ⟨h3, rfl⟩ | ⟨rfl, m, rfl, h3, i, d, h4, h5⟩
          · simp (disch := omega) only [s_in, s_cl, s_leL, s_ltL, s_eqL, s_leR, s_ltR, s_eqR, s_le, s_lt, s_eq, s_addL, s_addL', s_mulL, s_mulL', s_mul, nI_add, s_subL, s_sub, s_m1, s_m1', s_lm1, s_ltm1, s_m1lt, s_m1le, s_m1p, s_10, s_let, s_el, s_er, s_b2, s_b3, s_b4, s_b5, s_b6, s_b7, s_b8, s_b9, s_b10, s_b11, s_b12, s_bind, eq_self, if_pos, if_neg, ite_true, ite_false, if_true, if_false, Bool.false_eq_true, reduceIte, o3, hz]
            refine ⟨_, rfl, rfl, .inr ⟨rfl, X n c, rfl, ?_, n, c, (g_Q_on hc n c).mpr (.inr ⟨rfl, rfl⟩), rfl⟩⟩
            intro i d hq
            rcases (g_Q_on hc i d).mp hq with h | ⟨rfl, rfl⟩
            · exact absurd h (h3 i d)
            · exact Int.le_refl _
          · have hmb := hQb i d h4
            rw [h5] at hmb
            by_cases hle : m ≤ X n c
            · have hle2 : iI m ≤ iI (X n c) := by rw [iI_le (by omega) (by omega) (by omega) (by omega)]; exact hle
              simp (disch := omega) only [s_in, s_cl, s_leL, s_ltL, s_eqL, s_leR, s_ltR, s_eqR, s_le, s_lt, s_eq, s_addL, s_addL', s_mulL, s_mulL', s_mul, nI_add, s_subL, s_sub, s_m1, s_m1', s_lm1, s_ltm1, s_m1lt, s_m1le, s_m1p, s_10, s_let, s_el, s_er, s_b2, s_b3, s_b4, s_b5, s_b6, s_b7, s_b8, s_b9, s_b10, s_b11, s_b12, s_bind, eq_self, if_pos, if_neg, ite_true, ite_false, if_true, if_false, Bool.false_eq_true, reduceIte, o3, hz, hle2]
              refine ⟨_, rfl, rfl, .inr ⟨rfl, m, rfl, ?_, i, d, (g_Q_on hc i d).mpr (.inl h4), h5⟩⟩
              intro i' d' hq
              rcases (g_Q_on hc i' d').mp hq with h | ⟨rfl, rfl⟩
              · exact h3 i' d' h
              · exact hle
            · have hle2 : ¬ iI m ≤ iI (X n c) := by rw [iI_le (by omega) (by omega) (by omega) (by omega)]; exact hle
              simp (disch := omega) only [s_in, s_cl, s_leL, s_ltL, s_eqL, s_leR, s_ltR, s_eqR, s_le, s_lt, s_eq, s_addL, s_addL', s_mulL, s_mulL', s_mul, nI_add, s_subL, s_sub, s_m1, s_m1', s_lm1, s_ltm1, s_m1lt, s_m1le, s_m1p, s_10, s_let, s_el, s_er, s_b2, s_b3, s_b4, s_b5, s_b6, s_b7, s_b8, s_b9, s_b10, s_b11, s_b12, s_bind, eq_self, if_pos, if_neg, ite_true, ite_false, if_true, if_false, Bool.false_eq_true, reduceIte, o3, hz, hle2]
              refine ⟨_, rfl, rfl, .inr ⟨rfl, X n c, rfl, ?_, n, c, (g_Q_on hc n c).mpr (.inr ⟨rfl, rfl⟩), rfl⟩⟩
              intro i' d' hq
              rcases (g_Q_on hc i' d').mp hq with h | ⟨rfl, rfl⟩
              · have := h3 i' d' h
                omega
              · exact Int.le_refl _
        · rintro ⟨f, x, y⟩ ⟨h1, h2⟩
          dsimp only at h1 h2
          subst h1
          refine ⟨(f, x), ?_, g_mF_congr g_Q_next h2⟩
          show bX10_straighten_142 S Z (nI n) f x (nI (row n).length) = _
          unfold bX10_straighten_142
          rw [if_pos (n_in (show n < 24 by omega) (by decide)), s_cl (by omega), o3, if_pos (Int32.le_refl _)]
      obtain ⟨⟨f2, x2⟩, h8, h9⟩ := H8
      show ∃ t9, bX10_straighten_131 (nI N) S Z f x (nI n) = some (.inl t9) ∧ _
      unfold bX10_straighten_131
      rw [if_neg (by rw [s_le (by omega) (by omega)]; omega), h8, s_b2, s_addL]
      exact ⟨_, rfl, rfl, h9⟩
    · rintro ⟨f, x, y⟩ ⟨h1, h2⟩
      dsimp only at h1 h2
      subst h1
      refine ⟨x, ?_, f, h2⟩
      show bX10_straighten_131 (nI N) S Z f x (nI N) = _
      unfold bX10_straighten_131
      rw [if_pos (Int32.le_refl _)]
  obtain ⟨e, h8, f, h9⟩ := H9
  obtain ⟨m, h10, h11⟩ := g_mF_end h9
  exact ⟨e, m, h8, h10, h11⟩
theorem p_mshift (hN : N ≤ 24) (hO : m_O N row S I P D) (hX : m_Xs N row X Z) {x : Int32} {m : Int} (hx : (∀ l, l < N → row l = []) ∨ x = iI m) :
    ∃ Z', q_lo (fun (st : Int32 × (Nat → Int32)) => bX10_straighten_202 (nI N) S x st.1 st.2) (0, Z) = some Z' ∧ m_Xs N row (g_xs0 X m) Z' := by
  have h40 : ∀ i, i < N → (row i).length ≤ 40 := fun i hi => (hO i hi).1
  refine q_inv (fun n (st : Int32 × (Nat → Int32)) => st.1 = nI n ∧ m_Xs N row (fun i c => if i < n then X i c - m else X i c) st.2) N ?_ ?_ _ ⟨rfl, m_X_congr (fun l hl c hc => by simp) hX⟩
  · rintro n ⟨y, Z1⟩ hn ⟨h1, h2⟩
    dsimp only at h1 h2
    subst h1
    obtain ⟨o1, o2, o3, o4⟩ := hO n hn
    have H8 : ∃ e : Nat → Int32, q_lo (fun (st : Int32 × (Nat → Int32)) => bX10_straighten_213 S x (nI n) st.1 st.2) (0, Z1) = some e ∧ m_Xs N row (g_xu (fun i c => if i < n then X i c - m else X i c) n (row n) (fun k => X n ((row n).getD k 0) - m) (row n).length) e := by
      refine q_inv (fun k (st : Int32 × (Nat → Int32)) => st.1 = nI k ∧ m_Xs N row (g_xu (fun i c => if i < n then X i c - m else X i c) n (row n) (fun k => X n ((row n).getD k 0) - m) k) st.2) (row n).length ?_ ?_ _ ⟨rfl, by rw [g_xu_0]; exact h2⟩
      · rintro k ⟨y, Z2⟩ hk ⟨h1, h3⟩
        dsimp only at h1 h3
        subst h1
        obtain ⟨c, hc⟩ : ∃ c, (row n)[k]? = some c := ⟨_, List.getElem?_eq_getElem hk⟩
        have hxm : x = iI m := by
          rcases hx with h | h
          · have := g_mem_get hc
            rw [h n hn] at this
            simp at this
          · exact h
        have hZ2 : Z2 (40 * n + k) = iI (X n c) := by
          rw [h3 n hn k c hc, g_xu_old o2 hc]
          simp
        have hup := m_X_upd o2 h40 hn hc h3
        rw [g_getD hc] at hup
        show ∃ t9, bX10_straighten_213 S x (nI n) (nI k) Z2 = some (.inl t9) ∧ _
        unfold bX10_straighten_213
        simp (disch := omega) only [s_in, s_cl, s_leL, s_ltL, s_eqL, s_leR, s_ltR, s_eqR, s_le, s_lt, s_eq, s_addL, s_addL', s_mulL, s_mulL', s_mul, nI_add, s_subL, s_sub, s_m1, s_m1', s_lm1, s_ltm1, s_m1lt, s_m1le, s_m1p, s_10, s_let, s_el, s_er, s_b2, s_b3, s_b4, s_b5, s_b6, s_b7, s_b8, s_b9, s_b10, s_b11, s_b12, s_bind, eq_self, if_pos, if_neg, ite_true, ite_false, if_true, if_false, Bool.false_eq_true, reduceIte, o3, hZ2, hxm, iI_sub]
        exact ⟨_, rfl, rfl, hup⟩
      · rintro ⟨y, Z2⟩ ⟨h1, h3⟩
        dsimp only at h1 h3
        subst h1
        refine ⟨Z2, ?_, h3⟩
        show bX10_straighten_213 S x (nI n) (nI (row n).length) Z2 = _
        unfold bX10_straighten_213
        rw [if_pos (n_in (show n < 24 by omega) (by decide)), s_cl (by omega), o3, if_pos (Int32.le_refl _)]
    obtain ⟨e, h8, h9⟩ := H8
    show ∃ t9, bX10_straighten_202 (nI N) S x (nI n) Z1 = some (.inl t9) ∧ _
    unfold bX10_straighten_202
    rw [if_neg (by rw [s_le (by omega) (by omega)]; omega), h8, s_bind, s_addL]
    refine ⟨_, rfl, rfl, m_X_congr (fun l hl c hc => ?_) h9⟩
    by_cases hln : l = n
    · subst hln
      obtain ⟨k, hk⟩ := List.mem_iff_getElem?.mp hc
      rw [g_xu_new o2 hk (g_lt_len hk), g_getD hk, if_pos (by omega)]
    · rw [g_xu_ne hln]
      by_cases hl2 : l < n
      · rw [if_pos hl2, if_pos (by omega)]
      · rw [if_neg hl2, if_neg (by omega)]
  · rintro ⟨y, Z1⟩ ⟨h1, h2⟩
    dsimp only at h1 h2
    subst h1
    refine ⟨Z1, ?_, m_X_congr (fun l hl c hc => if_pos hl) h2⟩
    show bX10_straighten_202 (nI N) S x (nI N) Z1 = _
    unfold bX10_straighten_202
    rw [if_pos (Int32.le_refl _)]
theorem p_mstr (hG : g_G ex up lo bx lay N) (hV : g_V ex up lo bx lay N row) (hA : m_A ex up lo A F T U) (hL : m_L bx lay L) (hO : m_O N row S I P D) (hW : m_WD N row wd W) (hwd : ∀ c, 1 ≤ wd c ∧ wd c ≤ 50) (Z : Nat → Int32) :
    ∃ Z' m, fX10_straighten W A F T U (nI N) L S I P D Z = some Z' ∧ g_isM N row (g_xf ex up lo lay row wd N) m ∧ m_Xs N row (g_xs0 (g_xf ex up lo lay row wd N) m) Z' := by
  have hN := hG.1
  have h40 : ∀ i, i < N → (row i).length ≤ 40 := fun i hi => (hO i hi).1
  obtain ⟨Z1, a1, a2⟩ := p_mpack hV hN hO hW Z
  obtain ⟨Z2, b1, b2⟩ := p_mst65 hG hV hA hL hO hW hwd (g_XB_pk (X := fun _ _ => 0) hV hN hwd h40) (by omega) a2
  obtain ⟨x, m, c1, c2, c3⟩ := p_mleast hN hO (fun l hl c hc => by have := g_xf_b hG hV hwd h40 l hl c hc; unfold g_xf at this; omega) b2
  obtain ⟨Z3, d1, d2⟩ := p_mshift hN hO b2 c3
  refine ⟨Z3, m, ?_, c2, d2⟩
  unfold fX10_straighten
  rw [a1, s_bind, b1, s_bind, c1, s_bind, d1, s_bind]
end CM
