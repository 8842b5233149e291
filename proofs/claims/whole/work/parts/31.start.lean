/-! PURE: the class's first and kept orders. -/
/-- what a layer lacks, behind what it has -/
def g_ms (H : Nat → Bool) (R : List Nat) (n : Nat) : List Nat := R ++ (List.range n).filter (fun c => H c && !R.contains c)
theorem g_ms_0 {H : Nat → Bool} {R : List Nat} : g_ms H R 0 = R := by simp [g_ms]
theorem g_ms_succ {H : Nat → Bool} {R : List Nat} {n : Nat} : g_ms H R (n + 1) = if H n = true ∧ n ∉ R then g_ms H R n ++ [n] else g_ms H R n := by
  unfold g_ms
  rw [List.range_succ, List.filter_append]
  by_cases h1 : H n = true
  · by_cases h2 : n ∈ R
    · simp [h1, h2]
    · simp [h1, h2]
  · simp [h1]
theorem g_ms_mem {H : Nat → Bool} {R : List Nat} {n c : Nat} : c ∈ g_ms H R n ↔ c ∈ R ∨ (c < n ∧ H c = true) := by
  unfold g_ms
  simp
  constructor
  · rintro (h | ⟨h1, h2, h3⟩)
    · exact .inl h
    · exact .inr ⟨h1, h2⟩
  · rintro (h | ⟨h1, h2⟩)
    · exact .inl h
    · by_cases h3 : c ∈ R
      · exact .inl h3
      · exact .inr ⟨h1, h2, h3⟩
def g_all (H : Nat → Nat → Bool) (row : Nat → List Nat) (N : Nat) : Nat → List Nat := fun l => if l < N then g_ms (H l) (row l) 40 else row l
abbrev t_O := (Nat → Int32) × (Nat → Int32) × (Nat → Int32) × (Nat → Int32)
section ST
variable {ex bx : Nat → Bool} {up lo lay : Nat → Nat} {N : Nat} {w L tp bo : Nat → Int32}
theorem g_hd_box {l i c : Nat} (h : c < 16) (h1 : g_hd ex up lo bx lay l c = true) (h2 : g_hd ex up lo bx lay i c = true) : i = l := by
  unfold g_hd at h1 h2
  simp [h] at h1 h2
  omega
theorem p_missing (hG : g_G ex up lo bx lay N) (hW : ∀ b, b < 16 → (bx b = true ↔ ¬ w b ≤ 0)) (hL : c_L bx lay L) (hE : c_E ex up lo lay tp bo) {row : Nat → List Nat} {ly : Int32} {sz rw pl hm : Nat → Int32} (hO : c_O N row ly sz rw pl hm) (hH : ∀ l, l < 24 → ∀ c, c ∈ row l → g_hd ex up lo bx lay l c = true) :
    ∃ sz' rw' pl' hm', fX4_appendMissing w L tp bo ly sz rw pl hm = some (sz', rw', pl', hm') ∧ c_O N (g_all (g_hd ex up lo bx lay) row N) ly sz' rw' pl' hm' := by
  have hN := hG.1
  have hly : ly = nI N := hO.1
  unfold fX4_appendMissing
  have H9 : ∃ e : t_O, q_lo (fun (st : Int32 × (Nat → Int32) × (Nat → Int32) × (Nat → Int32) × (Nat → Int32)) => bX4_appendMissing_2 w L tp bo ly st.1 st.2.1 st.2.2.1 st.2.2.2.1 st.2.2.2.2) (0, sz, rw, pl, hm) = some e ∧ c_O N (g_all (g_hd ex up lo bx lay) row N) ly e.1 e.2.1 e.2.2.1 e.2.2.2 := by
    refine q_inv (fun k (st : Int32 × (Nat → Int32) × (Nat → Int32) × (Nat → Int32) × (Nat → Int32)) => st.1 = nI k ∧ c_O N (fun l => if l < k then g_ms (g_hd ex up lo bx lay l) (row l) 40 else row l) ly st.2.1 st.2.2.1 st.2.2.2.1 st.2.2.2.2) N ?_ ?_ _ ⟨rfl, by simpa using hO⟩
    · rintro n ⟨x, sz, rw, pl, hm⟩ hn ⟨hx, hq⟩
      dsimp only at hx hq
      subst hx
      show ∃ t9, bX4_appendMissing_2 w L tp bo ly (nI n) sz rw pl hm = some (.inl t9) ∧ _
      have H8 : ∃ e : t_O, q_lo (fun (st : Int32 × (Nat → Int32) × (Nat → Int32) × (Nat → Int32) × (Nat → Int32)) => bX4_appendMissing_12 w L tp bo ly (nI n) st.1 st.2.1 st.2.2.1 st.2.2.2.1 st.2.2.2.2) (0, sz, rw, pl, hm) = some e ∧ c_O N (fun l => if l < n + 1 then g_ms (g_hd ex up lo bx lay l) (row l) 40 else row l) ly e.1 e.2.1 e.2.2.1 e.2.2.2 := by
        refine q_inv (fun k (st : Int32 × (Nat → Int32) × (Nat → Int32) × (Nat → Int32) × (Nat → Int32)) => st.1 = nI k ∧ c_O N (fun l => if l < n then g_ms (g_hd ex up lo bx lay l) (row l) 40 else if l = n then g_ms (g_hd ex up lo bx lay l) (row l) k else row l) ly st.2.1 st.2.2.1 st.2.2.2.1 st.2.2.2.2) 40 ?_ ?_ _ ⟨rfl, ?_⟩
        · rintro c ⟨x, sz, rw, pl, hm⟩ hc ⟨hx, hq⟩
          dsimp only at hx hq
          subst hx
          show ∃ t9, bX4_appendMissing_12 w L tp bo ly (nI n) (nI c) sz rw pl hm = some (.inl t9) ∧ _
          have e1 : ∀ k, (fun l => if l < n then g_ms (g_hd ex up lo bx lay l) (row l) 40 else if l = n then g_ms (g_hd ex up lo bx lay l) (row l) k else row l) n = g_ms (g_hd ex up lo bx lay n) (row n) k := by
            intro k; simp
          obtain ⟨-, -, hq3, -⟩ := id hq
          obtain ⟨g1, g2, g3, g4, g5, g6⟩ := hq3 n (by omega)
          rw [e1] at g1 g2 g3 g4 g5 g6
          have key : c ∈ g_ms (g_hd ex up lo bx lay n) (row n) c ↔ c ∈ row n := by rw [g_ms_mem]; constructor <;> intro h <;> (first | exact .inl h | (rcases h with h | h; exact h; omega))
          unfold bX4_appendMissing_12 jX4_appendMissing_43
          cases hh : g_hd ex up lo bx lay n c
          · simp (disch := omega) only [s_in, s_cl, s_leL, s_ltL, s_eqL, s_leR, s_ltR, s_eqR, s_le, s_lt, s_eq, s_addL, s_addL', s_mulL, s_mulL', s_mul, nI_add, s_subL, s_sub, s_m1, s_m1', s_lm1, s_ltm1, s_m1lt, s_m1le, s_m1p, s_10, s_let, s_el, s_er, s_b2, s_b3, s_b4, s_b5, s_b6, s_b7, s_b8, s_b9, s_b10, s_b11, s_b12, s_bind, eq_self, if_pos, if_neg, ite_true, ite_false, if_true, if_false, Bool.false_eq_true, reduceIte, p_holds hG hW hL hE (show n < 24 by omega) hc, hh]
            refine ⟨_, rfl, rfl, ?_⟩
            have : (fun l => if l < n then g_ms (g_hd ex up lo bx lay l) (row l) 40 else if l = n then g_ms (g_hd ex up lo bx lay l) (row l) (c + 1) else row l) = (fun l => if l < n then g_ms (g_hd ex up lo bx lay l) (row l) 40 else if l = n then g_ms (g_hd ex up lo bx lay l) (row l) c else row l) := by
              funext l
              by_cases hl : l = n
              · subst hl; simp [g_ms_succ, hh]
              · simp [hl]
            rw [this]
            exact hq
          · by_cases hm9 : c ∈ row n
            · obtain ⟨k, hk⟩ := List.mem_iff_getElem?.mp (key.mpr hm9)
              have hkl := g_lt_len hk
              simp (disch := omega) only [s_in, s_cl, s_leL, s_ltL, s_eqL, s_leR, s_ltR, s_eqR, s_le, s_lt, s_eq, s_addL, s_addL', s_mulL, s_mulL', s_mul, nI_add, s_subL, s_sub, s_m1, s_m1', s_lm1, s_ltm1, s_m1lt, s_m1le, s_m1p, s_10, s_let, s_el, s_er, s_b2, s_b3, s_b4, s_b5, s_b6, s_b7, s_b8, s_b9, s_b10, s_b11, s_b12, s_bind, eq_self, if_pos, if_neg, ite_true, ite_false, if_true, if_false, Bool.false_eq_true, reduceIte, p_holds hG hW hL hE (show n < 24 by omega) hc, hh, p_placeIn (show n < 24 by omega) hc, (g5 k c hk).2.2]
              refine ⟨_, rfl, rfl, ?_⟩
              have : (fun l => if l < n then g_ms (g_hd ex up lo bx lay l) (row l) 40 else if l = n then g_ms (g_hd ex up lo bx lay l) (row l) (c + 1) else row l) = (fun l => if l < n then g_ms (g_hd ex up lo bx lay l) (row l) 40 else if l = n then g_ms (g_hd ex up lo bx lay l) (row l) c else row l) := by
                funext l
                by_cases hl : l = n
                · subst hl; simp [g_ms_succ, hm9]
                · simp [hl]
              rw [this]
              exact hq
            · have hpl := g6 c hc (fun h => hm9 (key.mp h))
              obtain ⟨sz', rw', pl', hm', h6, h7⟩ := p_append hq hn hc (fun h => hm9 (key.mp (by rw [if_neg (Nat.lt_irrefl _), if_pos rfl] at h; exact h))) (fun h16 i hi hin hmem => hin (by
                have : g_hd ex up lo bx lay i c = true := by
                  split at hmem
                  · rcases g_ms_mem.mp hmem with h | h
                    · exact hH i hi c h
                    · exact h.2
                  · exact hH i hi c hmem
                exact g_hd_box h16 hh this))
              simp (disch := omega) only [s_in, s_cl, s_leL, s_ltL, s_eqL, s_leR, s_ltR, s_eqR, s_le, s_lt, s_eq, s_addL, s_addL', s_mulL, s_mulL', s_mul, nI_add, s_subL, s_sub, s_m1, s_m1', s_lm1, s_ltm1, s_m1lt, s_m1le, s_m1p, s_10, s_let, s_el, s_er, s_b2, s_b3, s_b4, s_b5, s_b6, s_b7, s_b8, s_b9, s_b10, s_b11, s_b12, s_bind, eq_self, if_pos, if_neg, ite_true, ite_false, if_true, if_false, Bool.false_eq_true, reduceIte, p_holds hG hW hL hE (show n < 24 by omega) hc, hh, p_placeIn (show n < 24 by omega) hc, hpl, h6]
              refine ⟨_, rfl, rfl, ?_⟩
              have : (fun l => if l < n then g_ms (g_hd ex up lo bx lay l) (row l) 40 else if l = n then g_ms (g_hd ex up lo bx lay l) (row l) (c + 1) else row l) = g_ap (fun l => if l < n then g_ms (g_hd ex up lo bx lay l) (row l) 40 else if l = n then g_ms (g_hd ex up lo bx lay l) (row l) c else row l) n c := by
                funext l
                unfold g_ap
                by_cases hl : l = n
                · subst hl; simp [g_ms_succ, hh, hm9]
                · simp [hl]
              rw [this]
              exact h7
        · rintro ⟨x, sz, rw, pl, hm⟩ ⟨hx, hq⟩
          dsimp only at hx hq
          subst hx
          refine ⟨(sz, rw, pl, hm), ?_, ?_⟩
          · show bX4_appendMissing_12 w L tp bo ly (nI n) (nI 40) sz rw pl hm = _
            unfold bX4_appendMissing_12
            simp (disch := omega) only [s_in, s_cl, s_leL, s_ltL, s_eqL, s_leR, s_ltR, s_eqR, s_le, s_lt, s_eq, s_addL, s_addL', s_mulL, s_mulL', s_mul, nI_add, s_subL, s_sub, s_m1, s_m1', s_lm1, s_ltm1, s_m1lt, s_m1le, s_m1p, s_10, s_let, s_el, s_er, s_b2, s_b3, s_b4, s_b5, s_b6, s_b7, s_b8, s_b9, s_b10, s_b11, s_b12, s_bind, eq_self, if_pos, if_neg, ite_true, ite_false, if_true, if_false, Bool.false_eq_true, reduceIte]
          · have : (fun l => if l < n + 1 then g_ms (g_hd ex up lo bx lay l) (row l) 40 else row l) = (fun l => if l < n then g_ms (g_hd ex up lo bx lay l) (row l) 40 else if l = n then g_ms (g_hd ex up lo bx lay l) (row l) 40 else row l) := by
              funext l
              by_cases h1 : l < n
              · rw [if_pos (by omega), if_pos h1]
              · by_cases h2 : l = n
                · rw [if_pos (by omega), if_neg h1, if_pos h2]
                · rw [if_neg (by omega), if_neg h1, if_neg h2]
            rw [this]
            exact hq
        · have : (fun l => if l < n then g_ms (g_hd ex up lo bx lay l) (row l) 40 else if l = n then g_ms (g_hd ex up lo bx lay l) (row l) 0 else row l) = (fun l => if l < n then g_ms (g_hd ex up lo bx lay l) (row l) 40 else row l) := by
            funext l
            by_cases h1 : l < n
            · rw [if_pos h1, if_pos h1]
            · rw [if_neg h1, if_neg h1, g_ms_0]
              split <;> rfl
          rw [this]
          exact hq
      obtain ⟨⟨z1, z2, z3, z4⟩, h8, h9⟩ := H8
      unfold bX4_appendMissing_2
      simp (disch := omega) only [s_in, s_cl, s_leL, s_ltL, s_eqL, s_leR, s_ltR, s_eqR, s_le, s_lt, s_eq, s_addL, s_addL', s_mulL, s_mulL', s_mul, nI_add, s_subL, s_sub, s_m1, s_m1', s_lm1, s_ltm1, s_m1lt, s_m1le, s_m1p, s_10, s_let, s_el, s_er, s_b2, s_b3, s_b4, s_b5, s_b6, s_b7, s_b8, s_b9, s_b10, s_b11, s_b12, s_bind, eq_self, if_pos, if_neg, ite_true, ite_false, if_true, if_false, Bool.false_eq_true, reduceIte, h8, hly]
      rw [← hly]
      simp (disch := omega) only [s_in, s_cl, s_leL, s_ltL, s_eqL, s_leR, s_ltR, s_eqR, s_le, s_lt, s_eq, s_addL, s_addL', s_mulL, s_mulL', s_mul, nI_add, s_subL, s_sub, s_m1, s_m1', s_lm1, s_ltm1, s_m1lt, s_m1le, s_m1p, s_10, s_let, s_el, s_er, s_b2, s_b3, s_b4, s_b5, s_b6, s_b7, s_b8, s_b9, s_b10, s_b11, s_b12, s_bind, eq_self, if_pos, if_neg, ite_true, ite_false, if_true, if_false, Bool.false_eq_true, reduceIte, h8]
      exact ⟨_, rfl, rfl, h9⟩
    · rintro ⟨x, sz, rw, pl, hm⟩ ⟨hx, hq⟩
      dsimp only at hx hq
      subst hx
      refine ⟨(sz, rw, pl, hm), ?_, hq⟩
      show bX4_appendMissing_2 w L tp bo ly (nI N) sz rw pl hm = _
      unfold bX4_appendMissing_2
      simp (disch := omega) only [s_in, s_cl, s_leL, s_ltL, s_eqL, s_leR, s_ltR, s_eqR, s_le, s_lt, s_eq, s_addL, s_addL', s_mulL, s_mulL', s_mul, nI_add, s_subL, s_sub, s_m1, s_m1', s_lm1, s_ltm1, s_m1lt, s_m1le, s_m1p, s_10, s_let, s_el, s_er, s_b2, s_b3, s_b4, s_b5, s_b6, s_b7, s_b8, s_b9, s_b10, s_b11, s_b12, s_bind, eq_self, if_pos, if_neg, ite_true, ite_false, if_true, if_false, Bool.false_eq_true, reduceIte, hly]
  obtain ⟨⟨z1, z2, z3, z4⟩, h8, h9⟩ := H9
  exact ⟨z1, z2, z3, z4, by rw [h8]; rfl, h9⟩
theorem c_O_empty (hN : N ≤ 24) (rw : Nat → Int32) : c_O N (fun _ => []) (nI N) (fun _ => 0) rw (fun _ => -1) (fun _ => -1) := by
  refine ⟨rfl, hN, ?_, ?_, ?_⟩
  · intro l hl
    exact ⟨fun _ => rfl, by simp, by simp, rfl, by intro k c h; simp at h, fun _ _ _ => rfl⟩
  · intro l hl b hb h; simp at h
  · intro b hb _; rfl
theorem p_empty (hN : N ≤ 24) : fX4_empty (nI N) = some (nI N, (fun _ => 0), (fun _ => -1), (fun _ => -1)) := by
  unfold fX4_empty
  simp (disch := omega) only [s_in, s_cl, s_leL, s_ltL, s_eqL, s_leR, s_ltR, s_eqR, s_le, s_lt, s_eq, s_addL, s_addL', s_mulL, s_mulL', s_mul, nI_add, s_subL, s_sub, s_m1, s_m1', s_lm1, s_ltm1, s_m1lt, s_m1le, s_m1p, s_10, s_let, s_el, s_er, s_b2, s_b3, s_b4, s_b5, s_b6, s_b7, s_b8, s_b9, s_b10, s_b11, s_b12, s_bind, eq_self, if_pos, if_neg, ite_true, ite_false, if_true, if_false, Bool.false_eq_true, reduceIte]
theorem p_startFirst (hG : g_G ex up lo bx lay N) (hW : ∀ b, b < 16 → (bx b = true ↔ ¬ w b ≤ 0)) (hL : c_L bx lay L) (hE : c_E ex up lo lay tp bo) (rw : Nat → Int32) :
    ∃ sz' rw' pl' hm', fX4_startFirst w L tp bo (nI N) rw = some (nI N, sz', rw', pl', hm') ∧ c_O N (g_all (g_hd ex up lo bx lay) (fun _ => []) N) (nI N) sz' rw' pl' hm' := by
  obtain ⟨sz', rw', pl', hm', h1, h2⟩ := p_missing hG hW hL hE (c_O_empty hG.1 rw) (fun l hl c h => by simp at h)
  refine ⟨sz', rw', pl', hm', ?_, h2⟩
  unfold fX4_startFirst fX3_layers
  simp (disch := omega) only [s_in, s_cl, s_leL, s_ltL, s_eqL, s_leR, s_ltR, s_eqR, s_le, s_lt, s_eq, s_addL, s_addL', s_mulL, s_mulL', s_mul, nI_add, s_subL, s_sub, s_m1, s_m1', s_lm1, s_ltm1, s_m1lt, s_m1le, s_m1p, s_10, s_let, s_el, s_er, s_b2, s_b3, s_b4, s_b5, s_b6, s_b7, s_b8, s_b9, s_b10, s_b11, s_b12, s_bind, eq_self, if_pos, if_neg, ite_true, ite_false, if_true, if_false, Bool.false_eq_true, reduceIte, p_empty hG.1, h1]
def g_keep (H : Nat → Nat → Bool) (old : Nat → List Nat) (N : Nat) : Nat → List Nat := fun l => if l < N then (old l).filter (H l) else []
theorem p_startLike (hG : g_G ex up lo bx lay N) (hW : ∀ b, b < 16 → (bx b = true ↔ ¬ w b ≤ 0)) (hL : c_L bx lay L) (hE : c_E ex up lo lay tp bo) (rw : Nat → Int32) {N' : Nat} {old : Nat → List Nat} {ly2 : Int32} {sz2 rw2 pl2 hm2 : Nat → Int32} (hO2 : c_O N' old ly2 sz2 rw2 pl2 hm2) :
    ∃ sz' rw' pl' hm', fX4_startLike w L tp bo (nI N) rw ly2 sz2 rw2 = some (nI N, sz', rw', pl', hm') ∧ c_O N (g_all (g_hd ex up lo bx lay) (g_keep (g_hd ex up lo bx lay) old N) N) (nI N) sz' rw' pl' hm' := by
  have hN := hG.1
  have H9 : ∃ e : t_O, q_lo (fun (st : Int32 × (Nat → Int32) × (Nat → Int32) × (Nat → Int32) × (Nat → Int32)) => bX4_startLike_10 w L tp bo (nI N) ly2 sz2 rw2 st.1 st.2.1 st.2.2.1 st.2.2.2.1 st.2.2.2.2) (0, (fun _ => 0), rw, (fun _ => -1), (fun _ => -1)) = some e ∧ c_O N (g_keep (g_hd ex up lo bx lay) old N) (nI N) e.1 e.2.1 e.2.2.1 e.2.2.2 := by
    refine q_inv (fun k (st : Int32 × (Nat → Int32) × (Nat → Int32) × (Nat → Int32) × (Nat → Int32)) => st.1 = nI k ∧ c_O N (fun l => if l < k then (old l).filter (g_hd ex up lo bx lay l) else []) (nI N) st.2.1 st.2.2.1 st.2.2.2.1 st.2.2.2.2) N ?_ ?_ _ ⟨rfl, by simpa using c_O_empty hG.1 rw⟩
    · rintro n ⟨x, sz, rw, pl, hm⟩ hn ⟨hx, hq⟩
      dsimp only at hx hq
      subst hx
      show ∃ t9, bX4_startLike_10 w L tp bo (nI N) ly2 sz2 rw2 (nI n) sz rw pl hm = some (.inl t9) ∧ _
      have hsz := p_sizeO hO2 (show n < 24 by omega)
      obtain ⟨-, -, ho3, -⟩ := id hO2
      obtain ⟨f1, f2, f3, f4, f5, f6⟩ := ho3 n (by omega)
      have H8 : ∃ e : t_O, q_lo (fun (st : Int32 × (Nat → Int32) × (Nat → Int32) × (Nat → Int32) × (Nat → Int32)) => bX4_startLike_21 w L tp bo (nI N) ly2 sz2 rw2 (nI n) st.1 st.2.1 st.2.2.1 st.2.2.2.1 st.2.2.2.2) (0, sz, rw, pl, hm) = some e ∧ c_O N (fun l => if l < n + 1 then (old l).filter (g_hd ex up lo bx lay l) else []) (nI N) e.1 e.2.1 e.2.2.1 e.2.2.2 := by
        refine q_inv (fun k (st : Int32 × (Nat → Int32) × (Nat → Int32) × (Nat → Int32) × (Nat → Int32)) => st.1 = nI k ∧ c_O N (fun l => if l < n then (old l).filter (g_hd ex up lo bx lay l) else if l = n then ((old l).take k).filter (g_hd ex up lo bx lay l) else []) (nI N) st.2.1 st.2.2.1 st.2.2.2.1 st.2.2.2.2) (old n).length ?_ ?_ _ ⟨rfl, ?_⟩
        · rintro k ⟨x, sz, rw, pl, hm⟩ hk ⟨hx, hq⟩
          dsimp only at hx hq
          subst hx
          show ∃ t9, bX4_startLike_21 w L tp bo (nI N) ly2 sz2 rw2 (nI n) (nI k) sz rw pl hm = some (.inl t9) ∧ _
          obtain ⟨c, hkc⟩ : ∃ c, (old n)[k]? = some c := ⟨_, List.getElem?_eq_getElem hk⟩
          obtain ⟨hc, -, -⟩ := f5 k c hkc
          have htk : (old n).take (k + 1) = (old n).take k ++ [c] := by rw [List.take_add_one, hkc]; rfl
          have hnot : c ∉ (old n).take k := by
            intro h
            have h2 := f2
            rw [← List.take_append_drop (k + 1) (old n), htk] at h2
            rw [List.append_assoc, List.nodup_append] at h2
            exact h2.2.2 c h c (by simp) rfl
          unfold bX4_startLike_21 jX4_startLike_57
          cases hh : g_hd ex up lo bx lay n c
          · simp (disch := omega) only [s_in, s_cl, s_leL, s_ltL, s_eqL, s_leR, s_ltR, s_eqR, s_le, s_lt, s_eq, s_addL, s_addL', s_mulL, s_mulL', s_mul, nI_add, s_subL, s_sub, s_m1, s_m1', s_lm1, s_ltm1, s_m1lt, s_m1le, s_m1p, s_10, s_let, s_el, s_er, s_b2, s_b3, s_b4, s_b5, s_b6, s_b7, s_b8, s_b9, s_b10, s_b11, s_b12, s_bind, eq_self, if_pos, if_neg, ite_true, ite_false, if_true, if_false, Bool.false_eq_true, reduceIte, hsz, p_itemIn hO2 (show n < 24 by omega) hkc, p_holds hG hW hL hE (show n < 24 by omega) hc, hh]
            refine ⟨_, rfl, rfl, ?_⟩
            have : (fun l => if l < n then (old l).filter (g_hd ex up lo bx lay l) else if l = n then ((old l).take (k + 1)).filter (g_hd ex up lo bx lay l) else []) = (fun l => if l < n then (old l).filter (g_hd ex up lo bx lay l) else if l = n then ((old l).take k).filter (g_hd ex up lo bx lay l) else []) := by
              funext l
              by_cases hl : l = n
              · subst hl; simp only [Nat.lt_irrefl, if_false, if_true]; rw [htk, List.filter_append]; simp [hh]
              · simp [hl]
            rw [this]
            exact hq
          · have e1 : (fun l => if l < n then (old l).filter (g_hd ex up lo bx lay l) else if l = n then ((old l).take k).filter (g_hd ex up lo bx lay l) else []) n = ((old n).take k).filter (g_hd ex up lo bx lay n) := by simp
            obtain ⟨sz', rw', pl', hm', h6, h7⟩ := p_append hq hn hc (fun h => hnot (by rw [if_neg (Nat.lt_irrefl _), if_pos rfl] at h; exact (List.mem_filter.mp h).1)) (fun h16 i hi hin hmem => hin (by
              have : g_hd ex up lo bx lay i c = true := by
                split at hmem
                · exact (List.mem_filter.mp hmem).2
                · simp at hmem
              exact g_hd_box h16 hh this))
            simp (disch := omega) only [s_in, s_cl, s_leL, s_ltL, s_eqL, s_leR, s_ltR, s_eqR, s_le, s_lt, s_eq, s_addL, s_addL', s_mulL, s_mulL', s_mul, nI_add, s_subL, s_sub, s_m1, s_m1', s_lm1, s_ltm1, s_m1lt, s_m1le, s_m1p, s_10, s_let, s_el, s_er, s_b2, s_b3, s_b4, s_b5, s_b6, s_b7, s_b8, s_b9, s_b10, s_b11, s_b12, s_bind, eq_self, if_pos, if_neg, ite_true, ite_false, if_true, if_false, Bool.false_eq_true, reduceIte, hsz, p_itemIn hO2 (show n < 24 by omega) hkc, p_holds hG hW hL hE (show n < 24 by omega) hc, hh, h6]
            refine ⟨_, rfl, rfl, ?_⟩
            have : (fun l => if l < n then (old l).filter (g_hd ex up lo bx lay l) else if l = n then ((old l).take (k + 1)).filter (g_hd ex up lo bx lay l) else []) = g_ap (fun l => if l < n then (old l).filter (g_hd ex up lo bx lay l) else if l = n then ((old l).take k).filter (g_hd ex up lo bx lay l) else []) n c := by
              funext l
              unfold g_ap
              by_cases hl : l = n
              · subst hl; simp only [Nat.lt_irrefl, if_false, if_true]; rw [htk, List.filter_append]; simp [hh]
              · simp [hl]
            rw [this]
            exact h7
        · rintro ⟨x, sz, rw, pl, hm⟩ ⟨hx, hq⟩
          dsimp only at hx hq
          subst hx
          refine ⟨(sz, rw, pl, hm), ?_, ?_⟩
          · show bX4_startLike_21 w L tp bo (nI N) ly2 sz2 rw2 (nI n) (nI (old n).length) sz rw pl hm = _
            unfold bX4_startLike_21
            simp (disch := omega) only [s_in, s_cl, s_leL, s_ltL, s_eqL, s_leR, s_ltR, s_eqR, s_le, s_lt, s_eq, s_addL, s_addL', s_mulL, s_mulL', s_mul, nI_add, s_subL, s_sub, s_m1, s_m1', s_lm1, s_ltm1, s_m1lt, s_m1le, s_m1p, s_10, s_let, s_el, s_er, s_b2, s_b3, s_b4, s_b5, s_b6, s_b7, s_b8, s_b9, s_b10, s_b11, s_b12, s_bind, eq_self, if_pos, if_neg, ite_true, ite_false, if_true, if_false, Bool.false_eq_true, reduceIte, hsz]
          · have : (fun l => if l < n + 1 then (old l).filter (g_hd ex up lo bx lay l) else []) = (fun l => if l < n then (old l).filter (g_hd ex up lo bx lay l) else if l = n then ((old l).take (old n).length).filter (g_hd ex up lo bx lay l) else []) := by
              funext l
              by_cases h1 : l < n
              · rw [if_pos (by omega), if_pos h1]
              · by_cases h2 : l = n
                · subst h2; rw [if_pos (by omega), if_neg h1, if_pos rfl, List.take_length]
                · rw [if_neg (by omega), if_neg h1, if_neg h2]
            rw [this]
            exact hq
        · have : (fun l => if l < n then (old l).filter (g_hd ex up lo bx lay l) else if l = n then ((old l).take 0).filter (g_hd ex up lo bx lay l) else []) = (fun l => if l < n then (old l).filter (g_hd ex up lo bx lay l) else []) := by
            funext l
            by_cases h1 : l < n
            · rw [if_pos h1, if_pos h1]
            · rw [if_neg h1, if_neg h1]
              split <;> simp
          rw [this]
          exact hq
      obtain ⟨⟨z1, z2, z3, z4⟩, h8, h9⟩ := H8
      unfold bX4_startLike_10
      simp (disch := omega) only [s_in, s_cl, s_leL, s_ltL, s_eqL, s_leR, s_ltR, s_eqR, s_le, s_lt, s_eq, s_addL, s_addL', s_mulL, s_mulL', s_mul, nI_add, s_subL, s_sub, s_m1, s_m1', s_lm1, s_ltm1, s_m1lt, s_m1le, s_m1p, s_10, s_let, s_el, s_er, s_b2, s_b3, s_b4, s_b5, s_b6, s_b7, s_b8, s_b9, s_b10, s_b11, s_b12, s_bind, eq_self, if_pos, if_neg, ite_true, ite_false, if_true, if_false, Bool.false_eq_true, reduceIte, h8]
      exact ⟨_, rfl, rfl, h9⟩
    · rintro ⟨x, sz, rw, pl, hm⟩ ⟨hx, hq⟩
      dsimp only at hx hq
      subst hx
      refine ⟨(sz, rw, pl, hm), ?_, hq⟩
      show bX4_startLike_10 w L tp bo (nI N) ly2 sz2 rw2 (nI N) sz rw pl hm = _
      unfold bX4_startLike_10
      simp (disch := omega) only [s_in, s_cl, s_leL, s_ltL, s_eqL, s_leR, s_ltR, s_eqR, s_le, s_lt, s_eq, s_addL, s_addL', s_mulL, s_mulL', s_mul, nI_add, s_subL, s_sub, s_m1, s_m1', s_lm1, s_ltm1, s_m1lt, s_m1le, s_m1p, s_10, s_let, s_el, s_er, s_b2, s_b3, s_b4, s_b5, s_b6, s_b7, s_b8, s_b9, s_b10, s_b11, s_b12, s_bind, eq_self, if_pos, if_neg, ite_true, ite_false, if_true, if_false, Bool.false_eq_true, reduceIte]
  obtain ⟨⟨z1, z2, z3, z4⟩, h8, h9⟩ := H9
  obtain ⟨sz', rw', pl', hm', h1, h2⟩ := p_missing hG hW hL hE h9 (fun l hl c h => by
    unfold g_keep at h
    split at h
    · exact (List.mem_filter.mp h).2
    · simp at h)
  refine ⟨sz', rw', pl', hm', ?_, h2⟩
  unfold fX4_startLike fX3_layers
  simp (disch := omega) only [s_in, s_cl, s_leL, s_ltL, s_eqL, s_leR, s_ltR, s_eqR, s_le, s_lt, s_eq, s_addL, s_addL', s_mulL, s_mulL', s_mul, nI_add, s_subL, s_sub, s_m1, s_m1', s_lm1, s_ltm1, s_m1lt, s_m1le, s_m1p, s_10, s_let, s_el, s_er, s_b2, s_b3, s_b4, s_b5, s_b6, s_b7, s_b8, s_b9, s_b10, s_b11, s_b12, s_bind, eq_self, if_pos, if_neg, ite_true, ite_false, if_true, if_false, Bool.false_eq_true, reduceIte, p_empty hG.1, h8, h1]
end ST
