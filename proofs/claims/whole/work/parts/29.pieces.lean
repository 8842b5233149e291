/-! PURE: pieces. -/
def g_pc (ex : Nat → Bool) (up lo lay : Nat → Nat) (a l : Nat) : Bool := ex a && (decide (lay (up a) ≤ l) && decide (l < lay (lo a)))
def g_uc (up lay : Nat → Nat) (a l : Nat) : Nat := if l = lay (up a) then up a else 16 + a
def g_lc (lo lay : Nat → Nat) (a l : Nat) : Nat := if l + 1 = lay (lo a) then lo a else 16 + a
def g_ps (ex : Nat → Bool) (up lo lay : Nat → Nat) (n l : Nat) : List Nat := (List.range n).filter (fun a => g_pc ex up lo lay a l)
theorem g_pc_iff {ex : Nat → Bool} {up lo lay : Nat → Nat} {a l : Nat} : g_pc ex up lo lay a l = true ↔ ex a = true ∧ lay (up a) ≤ l ∧ l < lay (lo a) := by
  unfold g_pc
  simp
theorem g_ps_succ {ex : Nat → Bool} {up lo lay : Nat → Nat} {n l : Nat} : g_ps ex up lo lay (n + 1) l = if g_pc ex up lo lay n l then g_ps ex up lo lay n l ++ [n] else g_ps ex up lo lay n l := by
  unfold g_ps
  rw [List.range_succ, List.filter_append]
  cases h : g_pc ex up lo lay n l <;> simp [h]
theorem g_ps_len {ex : Nat → Bool} {up lo lay : Nat → Nat} (n l : Nat) : (g_ps ex up lo lay n l).length ≤ n := by
  have := List.length_filter_le (fun a => g_pc ex up lo lay a l) (List.range n)
  rw [List.length_range] at this
  exact this
theorem g_ps_mem {ex : Nat → Bool} {up lo lay : Nat → Nat} {n l a : Nat} : a ∈ g_ps ex up lo lay n l ↔ a < n ∧ g_pc ex up lo lay a l = true := by
  unfold g_ps
  rw [List.mem_filter, List.mem_range]
/-- the class's pieces -/
def c_P (up lo lay : Nat → Nat) (ps : Nat → List Nat) (sz ar uu ll : Nat → Int32) : Prop := ∀ l, l < 24 → (ps l).length ≤ 24 ∧ sz l = nI (ps l).length ∧ ∀ k a, (ps l)[k]? = some a → ar (l * 24 + k) = nI a ∧ uu (l * 24 + k) = nI (g_uc up lay a l) ∧ ll (l * 24 + k) = nI (g_lc lo lay a l)
theorem g_lt_len {α : Type} {l : List α} {k : Nat} {a : α} (h : l[k]? = some a) : k < l.length := (List.getElem?_eq_some_iff.mp h).1
theorem p_add {up lo lay : Nat → Nat} {ps : Nat → List Nat} {sz ar uu ll : Nat → Int32} (hP : c_P up lo lay ps sz ar uu ll) {l : Nat} (hl : l < 24) (hn : (ps l).length < 24) (a : Nat) :
    ∃ sz' ar' uu' ll', fX6_add sz ar uu ll (nI l) (nI a) (nI (g_uc up lay a l)) (nI (g_lc lo lay a l)) = some (sz', ar', uu', ll') ∧ c_P up lo lay (fun i => if i = l then ps l ++ [a] else ps i) sz' ar' uu' ll' := by
  obtain ⟨h1, h2, h3⟩ := hP l hl
  unfold fX6_add
  simp (disch := omega) only [s_in, s_cl, s_leL, s_ltL, s_eqL, s_leR, s_ltR, s_eqR, s_le, s_lt, s_eq, s_addL, s_addL', s_mulL, s_mulL', s_mul, nI_add, s_subL, s_sub, s_m1, s_m1', s_lm1, s_ltm1, s_m1lt, s_m1le, s_m1p, s_10, s_let, s_el, s_er, s_b2, s_b3, s_b4, s_b5, s_b6, s_b7, s_b8, s_b9, s_b10, s_b11, s_b12, s_bind, eq_self, if_pos, if_neg, ite_true, ite_false, if_true, if_false, Bool.false_eq_true, reduceIte, h2]
  refine ⟨_, _, _, _, rfl, ?_⟩
  · intro i hi
    obtain ⟨g1, g2, g3⟩ := hP i hi
    dsimp only
    by_cases hil : i = l
    · subst hil
      rw [if_pos rfl, pk_us, List.length_append]
      refine ⟨by simp; omega, by simp, ?_⟩
      intro k b hk
      rw [List.getElem?_append] at hk
      split at hk
      · have : k ≠ (ps i).length := by omega
        rw [pk_un (by omega), pk_un (by omega), pk_un (by omega)]
        exact g3 k b hk
      · have hk1 := g_lt_len hk
        simp at hk1
        have hk2 : k = (ps i).length := by omega
        subst hk2
        rw [Nat.sub_self] at hk
        simp at hk
        subst hk
        rw [pk_us, pk_us, pk_us]
        exact ⟨rfl, rfl, rfl⟩
    · rw [if_neg hil, pk_un hil]
      refine ⟨g1, g2, ?_⟩
      intro k b hk
      have := g_lt_len hk
      rw [pk_un (by omega), pk_un (by omega), pk_un (by omega)]
      exact g3 k b hk
section PC
variable {ex bx : Nat → Bool} {up lo lay : Nat → Nat} {N : Nat} {f t T tp bo : Nat → Int32}
theorem p_itemU (hG : g_G ex up lo bx lay N) (hU : ∀ a, a < 24 → fX7_upperBox f t T (nI a) = some (if ex a then nI (up a) else -1)) (hE : c_E ex up lo lay tp bo) {a l : Nat} (ha : a < 24) (hp : g_pc ex up lo lay a l = true) : fX3_itemOf f t T tp bo (nI a) (nI l) = some (nI (g_uc up lay a l)) := by
  obtain ⟨he, h1, h2⟩ := g_pc_iff.mp hp
  obtain ⟨G1, G2, G3⟩ := hG
  obtain ⟨u1, u2, u3, u4, u5⟩ := G3 a ha he
  have b1 := G2 _ u1 u3
  have b2 := G2 _ u2 u4
  obtain ⟨e1, e2⟩ := hE a ha
  rw [he] at e1 e2
  unfold fX3_itemOf g_uc
  by_cases hc : l = lay (up a)
  · simp (disch := omega) only [s_in, s_cl, s_leL, s_ltL, s_eqL, s_leR, s_ltR, s_eqR, s_le, s_lt, s_eq, s_addL, s_addL', s_mulL, s_mulL', s_mul, nI_add, s_subL, s_sub, s_m1, s_m1', s_lm1, s_ltm1, s_m1lt, s_m1le, s_m1p, s_10, s_let, s_el, s_er, s_b2, s_b3, s_b4, s_b5, s_b6, s_b7, s_b8, s_b9, s_b10, s_b11, s_b12, s_bind, eq_self, if_pos, if_neg, ite_true, ite_false, if_true, if_false, Bool.false_eq_true, reduceIte, p_top ha, e1, hc, hU a ha, he]
  · simp (disch := omega) only [s_in, s_cl, s_leL, s_ltL, s_eqL, s_leR, s_ltR, s_eqR, s_le, s_lt, s_eq, s_addL, s_addL', s_mulL, s_mulL', s_mul, nI_add, s_subL, s_sub, s_m1, s_m1', s_lm1, s_ltm1, s_m1lt, s_m1le, s_m1p, s_10, s_let, s_el, s_er, s_b2, s_b3, s_b4, s_b5, s_b6, s_b7, s_b8, s_b9, s_b10, s_b11, s_b12, s_bind, eq_self, if_pos, if_neg, ite_true, ite_false, if_true, if_false, Bool.false_eq_true, reduceIte, p_top ha, p_bottom ha, e1, e2, hc]
theorem p_itemL (hG : g_G ex up lo bx lay N) (hD : ∀ a, a < 24 → fX7_lowerBox f t T (nI a) = some (if ex a then nI (lo a) else -1)) (hE : c_E ex up lo lay tp bo) {a l : Nat} (ha : a < 24) (hp : g_pc ex up lo lay a l = true) : fX3_itemOf f t T tp bo (nI a) (nI (l + 1)) = some (nI (g_lc lo lay a l)) := by
  obtain ⟨he, h1, h2⟩ := g_pc_iff.mp hp
  obtain ⟨G1, G2, G3⟩ := hG
  obtain ⟨u1, u2, u3, u4, u5⟩ := G3 a ha he
  have b1 := G2 _ u1 u3
  have b2 := G2 _ u2 u4
  obtain ⟨e1, e2⟩ := hE a ha
  rw [he] at e1 e2
  unfold fX3_itemOf g_lc
  by_cases hc : l + 1 = lay (lo a)
  · simp (disch := omega) only [s_in, s_cl, s_leL, s_ltL, s_eqL, s_leR, s_ltR, s_eqR, s_le, s_lt, s_eq, s_addL, s_addL', s_mulL, s_mulL', s_mul, nI_add, s_subL, s_sub, s_m1, s_m1', s_lm1, s_ltm1, s_m1lt, s_m1le, s_m1p, s_10, s_let, s_el, s_er, s_b2, s_b3, s_b4, s_b5, s_b6, s_b7, s_b8, s_b9, s_b10, s_b11, s_b12, s_bind, eq_self, if_pos, if_neg, ite_true, ite_false, if_true, if_false, Bool.false_eq_true, reduceIte, p_top ha, p_bottom ha, e1, e2, hc, hD a ha, he]
  · simp (disch := omega) only [s_in, s_cl, s_leL, s_ltL, s_eqL, s_leR, s_ltR, s_eqR, s_le, s_lt, s_eq, s_addL, s_addL', s_mulL, s_mulL', s_mul, nI_add, s_subL, s_sub, s_m1, s_m1', s_lm1, s_ltm1, s_m1lt, s_m1le, s_m1p, s_10, s_let, s_el, s_er, s_b2, s_b3, s_b4, s_b5, s_b6, s_b7, s_b8, s_b9, s_b10, s_b11, s_b12, s_bind, eq_self, if_pos, if_neg, ite_true, ite_false, if_true, if_false, Bool.false_eq_true, reduceIte, p_top ha, p_bottom ha, e1, e2, hc]
theorem p_hasPiece (hG : g_G ex up lo bx lay N) (hE : c_E ex up lo lay tp bo) {a l : Nat} (ha : a < 24) (hl : l < 2147483648) : fX3_hasPiece tp bo (nI a) (nI l) = some (if g_pc ex up lo lay a l then 1 else 0) := by
  obtain ⟨G1, G2, G3⟩ := hG
  obtain ⟨e1, e2⟩ := hE a ha
  unfold fX3_hasPiece g_pc
  cases he : ex a
  · rw [he] at e1 e2
    simp (disch := omega) only [s_in, s_cl, s_leL, s_ltL, s_eqL, s_leR, s_ltR, s_eqR, s_le, s_lt, s_eq, s_addL, s_addL', s_mulL, s_mulL', s_mul, nI_add, s_subL, s_sub, s_m1, s_m1', s_lm1, s_ltm1, s_m1lt, s_m1le, s_m1p, s_10, s_let, s_el, s_er, s_b2, s_b3, s_b4, s_b5, s_b6, s_b7, s_b8, s_b9, s_b10, s_b11, s_b12, s_bind, eq_self, if_pos, if_neg, ite_true, ite_false, if_true, if_false, Bool.false_eq_true, reduceIte, p_top ha, p_bottom ha, e1, e2]
    simp
  · obtain ⟨u1, u2, u3, u4, u5⟩ := G3 a ha he
    have b1 := G2 _ u1 u3
    have b2 := G2 _ u2 u4
    rw [he] at e1 e2
    by_cases hc : l < lay (up a)
    · simp (disch := omega) only [s_in, s_cl, s_leL, s_ltL, s_eqL, s_leR, s_ltR, s_eqR, s_le, s_lt, s_eq, s_addL, s_addL', s_mulL, s_mulL', s_mul, nI_add, s_subL, s_sub, s_m1, s_m1', s_lm1, s_ltm1, s_m1lt, s_m1le, s_m1p, s_10, s_let, s_el, s_er, s_b2, s_b3, s_b4, s_b5, s_b6, s_b7, s_b8, s_b9, s_b10, s_b11, s_b12, s_bind, eq_self, if_pos, if_neg, ite_true, ite_false, if_true, if_false, Bool.false_eq_true, reduceIte, p_top ha, p_bottom ha, e1, e2, hc]
      simp; omega
    · by_cases hc2 : lay (lo a) ≤ l
      · simp (disch := omega) only [s_in, s_cl, s_leL, s_ltL, s_eqL, s_leR, s_ltR, s_eqR, s_le, s_lt, s_eq, s_addL, s_addL', s_mulL, s_mulL', s_mul, nI_add, s_subL, s_sub, s_m1, s_m1', s_lm1, s_ltm1, s_m1lt, s_m1le, s_m1p, s_10, s_let, s_el, s_er, s_b2, s_b3, s_b4, s_b5, s_b6, s_b7, s_b8, s_b9, s_b10, s_b11, s_b12, s_bind, eq_self, if_pos, if_neg, ite_true, ite_false, if_true, if_false, Bool.false_eq_true, reduceIte, p_top ha, p_bottom ha, e1, e2, hc, hc2]
        simp; omega
      · simp (disch := omega) only [s_in, s_cl, s_leL, s_ltL, s_eqL, s_leR, s_ltR, s_eqR, s_le, s_lt, s_eq, s_addL, s_addL', s_mulL, s_mulL', s_mul, nI_add, s_subL, s_sub, s_m1, s_m1', s_lm1, s_ltm1, s_m1lt, s_m1le, s_m1p, s_10, s_let, s_el, s_er, s_b2, s_b3, s_b4, s_b5, s_b6, s_b7, s_b8, s_b9, s_b10, s_b11, s_b12, s_bind, eq_self, if_pos, if_neg, ite_true, ite_false, if_true, if_false, Bool.false_eq_true, reduceIte, p_top ha, p_bottom ha, e1, e2, hc, hc2]
        simp; omega
theorem p_collect (hG : g_G ex up lo bx lay N) (hU : ∀ a, a < 24 → fX7_upperBox f t T (nI a) = some (if ex a then nI (up a) else -1)) (hD : ∀ a, a < 24 → fX7_lowerBox f t T (nI a) = some (if ex a then nI (lo a) else -1)) (hE : c_E ex up lo lay tp bo) (ar uu ll : Nat → Int32) :
    ∃ sz' ar' uu' ll', fX6_collect f t T tp bo ar uu ll = some (sz', ar', uu', ll') ∧ c_P up lo lay (g_ps ex up lo lay 24) sz' ar' uu' ll' := by
  unfold fX6_collect
  have H9 : ∃ e : (Nat → Int32) × (Nat → Int32) × (Nat → Int32) × (Nat → Int32), q_lo (fun (st : Int32 × (Nat → Int32) × (Nat → Int32) × (Nat → Int32) × (Nat → Int32)) => bX6_collect_10 f t T tp bo st.1 st.2.1 st.2.2.1 st.2.2.2.1 st.2.2.2.2) (0, (fun _ => 0), ar, uu, ll) = some e ∧ c_P up lo lay (g_ps ex up lo lay 24) e.1 e.2.1 e.2.2.1 e.2.2.2 := by
    refine q_inv (fun k (st : Int32 × (Nat → Int32) × (Nat → Int32) × (Nat → Int32) × (Nat → Int32)) => st.1 = nI k ∧ c_P up lo lay (g_ps ex up lo lay k) st.2.1 st.2.2.1 st.2.2.2.1 st.2.2.2.2) 24 ?_ ?_ _ ⟨rfl, ?_⟩
    · rintro n ⟨x, sz, ar, uu, ll⟩ hn ⟨hx, hq⟩
      dsimp only at hx hq
      subst hx
      show ∃ t9, bX6_collect_10 f t T tp bo (nI n) sz ar uu ll = some (.inl t9) ∧ _
      obtain ⟨e1, e2⟩ := hE n hn
      cases he : ex n
      · rw [he] at e1 e2
        have h8 : bX6_collect_22 f t T tp bo (nI n) (-1) sz ar uu ll = some (.inr (sz, ar, uu, ll)) := by
          unfold bX6_collect_22
          simp (disch := omega) only [s_in, s_cl, s_leL, s_ltL, s_eqL, s_leR, s_ltR, s_eqR, s_le, s_lt, s_eq, s_addL, s_addL', s_mulL, s_mulL', s_mul, nI_add, s_subL, s_sub, s_m1, s_m1', s_lm1, s_ltm1, s_m1lt, s_m1le, s_m1p, s_10, s_let, s_el, s_er, s_b2, s_b3, s_b4, s_b5, s_b6, s_b7, s_b8, s_b9, s_b10, s_b11, s_b12, s_bind, eq_self, if_pos, if_neg, ite_true, ite_false, if_true, if_false, Bool.false_eq_true, reduceIte, p_bottom hn, e2]
          rw [if_pos (by decide)]
        have h9 : q_lo (fun (st : Int32 × (Nat → Int32) × (Nat → Int32) × (Nat → Int32) × (Nat → Int32)) => bX6_collect_22 f t T tp bo (nI n) st.1 st.2.1 st.2.2.1 st.2.2.2.1 st.2.2.2.2) (-1, sz, ar, uu, ll) = some (sz, ar, uu, ll) := q_lo_end h8
        unfold bX6_collect_10
        simp (disch := omega) only [s_in, s_cl, s_leL, s_ltL, s_eqL, s_leR, s_ltR, s_eqR, s_le, s_lt, s_eq, s_addL, s_addL', s_mulL, s_mulL', s_mul, nI_add, s_subL, s_sub, s_m1, s_m1', s_lm1, s_ltm1, s_m1lt, s_m1le, s_m1p, s_10, s_let, s_el, s_er, s_b2, s_b3, s_b4, s_b5, s_b6, s_b7, s_b8, s_b9, s_b10, s_b11, s_b12, s_bind, eq_self, if_pos, if_neg, ite_true, ite_false, if_true, if_false, Bool.false_eq_true, reduceIte, p_top hn, e1, h9]
        refine ⟨_, rfl, rfl, ?_⟩
        have : g_ps ex up lo lay (n + 1) = g_ps ex up lo lay n := by
          funext l
          rw [g_ps_succ, if_neg]
          rw [g_pc_iff, he]
          simp
        rw [this]
        exact hq
      · obtain ⟨G1, G2, G3⟩ := id hG
        obtain ⟨u1, u2, u3, u4, u5⟩ := G3 n hn he
        have b1 := G2 _ u1 u3
        have b2 := G2 _ u2 u4
        rw [he] at e1 e2
        have H8 : ∃ e : (Nat → Int32) × (Nat → Int32) × (Nat → Int32) × (Nat → Int32), q_lo (fun (st : Int32 × (Nat → Int32) × (Nat → Int32) × (Nat → Int32) × (Nat → Int32)) => bX6_collect_22 f t T tp bo (nI n) st.1 st.2.1 st.2.2.1 st.2.2.2.1 st.2.2.2.2) (nI (lay (up n)), sz, ar, uu, ll) = some e ∧ c_P up lo lay (g_ps ex up lo lay (n + 1)) e.1 e.2.1 e.2.2.1 e.2.2.2 := by
          refine q_inv (fun k (st : Int32 × (Nat → Int32) × (Nat → Int32) × (Nat → Int32) × (Nat → Int32)) => st.1 = nI (lay (up n) + k) ∧ c_P up lo lay (fun l => if l < lay (up n) + k then g_ps ex up lo lay (n + 1) l else g_ps ex up lo lay n l) st.2.1 st.2.2.1 st.2.2.2.1 st.2.2.2.2) (lay (lo n) - lay (up n)) ?_ ?_ _ ⟨rfl, ?_⟩
          · rintro j ⟨x, sz, ar, uu, ll⟩ hj ⟨hx, hq⟩
            dsimp only at hx hq
            subst hx
            show ∃ t9, bX6_collect_22 f t T tp bo (nI n) (nI (lay (up n) + j)) sz ar uu ll = some (.inl t9) ∧ _
            have hp : g_pc ex up lo lay n (lay (up n) + j) = true := g_pc_iff.mpr ⟨he, by omega, by omega⟩
            have hlen := g_ps_len (ex := ex) (up := up) (lo := lo) (lay := lay) n (lay (up n) + j)
            obtain ⟨sz', ar', uu', ll', h6, h7⟩ := p_add hq (l := lay (up n) + j) (by omega) (by rw [if_neg (by omega)]; omega) n
            unfold bX6_collect_22
            simp (disch := omega) only [s_in, s_cl, s_leL, s_ltL, s_eqL, s_leR, s_ltR, s_eqR, s_le, s_lt, s_eq, s_addL, s_addL', s_mulL, s_mulL', s_mul, nI_add, s_subL, s_sub, s_m1, s_m1', s_lm1, s_ltm1, s_m1lt, s_m1le, s_m1p, s_10, s_let, s_el, s_er, s_b2, s_b3, s_b4, s_b5, s_b6, s_b7, s_b8, s_b9, s_b10, s_b11, s_b12, s_bind, eq_self, if_pos, if_neg, ite_true, ite_false, if_true, if_false, Bool.false_eq_true, reduceIte, p_bottom hn, e2, p_itemU hG hU hE hn hp, p_itemL hG hD hE hn hp, h6]
            refine ⟨_, rfl, rfl, ?_⟩
            have e7 : (fun i => if i = lay (up n) + j then (if lay (up n) + j < lay (up n) + j then g_ps ex up lo lay (n + 1) (lay (up n) + j) else g_ps ex up lo lay n (lay (up n) + j)) ++ [n] else if i < lay (up n) + j then g_ps ex up lo lay (n + 1) i else g_ps ex up lo lay n i) = fun l => if l < lay (up n) + (j + 1) then g_ps ex up lo lay (n + 1) l else g_ps ex up lo lay n l := by
              funext i
              by_cases hi : i = lay (up n) + j
              · subst hi
                rw [if_pos rfl, if_neg (by omega), if_pos (by omega), g_ps_succ, if_pos hp]
              · rw [if_neg hi]
                by_cases hi2 : i < lay (up n) + j
                · rw [if_pos hi2, if_pos (by omega)]
                · rw [if_neg hi2, if_neg (by omega)]
            rw [← e7]
            exact h7
          · rintro ⟨x, sz, ar, uu, ll⟩ ⟨hx, hq⟩
            dsimp only at hx hq
            subst hx
            refine ⟨(sz, ar, uu, ll), ?_, ?_⟩
            · show bX6_collect_22 f t T tp bo (nI n) (nI (lay (up n) + (lay (lo n) - lay (up n)))) sz ar uu ll = _
              unfold bX6_collect_22
              simp (disch := omega) only [s_in, s_cl, s_leL, s_ltL, s_eqL, s_leR, s_ltR, s_eqR, s_le, s_lt, s_eq, s_addL, s_addL', s_mulL, s_mulL', s_mul, nI_add, s_subL, s_sub, s_m1, s_m1', s_lm1, s_ltm1, s_m1lt, s_m1le, s_m1p, s_10, s_let, s_el, s_er, s_b2, s_b3, s_b4, s_b5, s_b6, s_b7, s_b8, s_b9, s_b10, s_b11, s_b12, s_bind, eq_self, if_pos, if_neg, ite_true, ite_false, if_true, if_false, Bool.false_eq_true, reduceIte, p_bottom hn, e2]
            · have e7 : (fun l => if l < lay (up n) + (lay (lo n) - lay (up n)) then g_ps ex up lo lay (n + 1) l else g_ps ex up lo lay n l) = g_ps ex up lo lay (n + 1) := by
                funext i
                by_cases hi : i < lay (up n) + (lay (lo n) - lay (up n))
                · rw [if_pos hi]
                · rw [if_neg hi, g_ps_succ, if_neg]
                  rw [g_pc_iff]
                  omega
              rw [← e7]
              exact hq
          · have e7 : (fun l => if l < lay (up n) + 0 then g_ps ex up lo lay (n + 1) l else g_ps ex up lo lay n l) = g_ps ex up lo lay n := by
              funext i
              by_cases hi : i < lay (up n) + 0
              · rw [if_pos hi, g_ps_succ, if_neg]
                rw [g_pc_iff]
                omega
              · rw [if_neg hi]
            rw [e7]
            exact hq
        obtain ⟨⟨z1, z2, z3, z4⟩, h8, h9⟩ := H8
        unfold bX6_collect_10
        simp (disch := omega) only [s_in, s_cl, s_leL, s_ltL, s_eqL, s_leR, s_ltR, s_eqR, s_le, s_lt, s_eq, s_addL, s_addL', s_mulL, s_mulL', s_mul, nI_add, s_subL, s_sub, s_m1, s_m1', s_lm1, s_ltm1, s_m1lt, s_m1le, s_m1p, s_10, s_let, s_el, s_er, s_b2, s_b3, s_b4, s_b5, s_b6, s_b7, s_b8, s_b9, s_b10, s_b11, s_b12, s_bind, eq_self, if_pos, if_neg, ite_true, ite_false, if_true, if_false, Bool.false_eq_true, reduceIte, p_top hn, e1, h8]
        exact ⟨_, rfl, rfl, h9⟩
    · rintro ⟨x, sz, ar, uu, ll⟩ ⟨hx, hq⟩
      dsimp only at hx hq
      subst hx
      refine ⟨(sz, ar, uu, ll), ?_, hq⟩
      show bX6_collect_10 f t T tp bo (nI 24) sz ar uu ll = _
      unfold bX6_collect_10
      simp (disch := omega) only [s_in, s_cl, s_leL, s_ltL, s_eqL, s_leR, s_ltR, s_eqR, s_le, s_lt, s_eq, s_addL, s_addL', s_mulL, s_mulL', s_mul, nI_add, s_subL, s_sub, s_m1, s_m1', s_lm1, s_ltm1, s_m1lt, s_m1le, s_m1p, s_10, s_let, s_el, s_er, s_b2, s_b3, s_b4, s_b5, s_b6, s_b7, s_b8, s_b9, s_b10, s_b11, s_b12, s_bind, eq_self, if_pos, if_neg, ite_true, ite_false, if_true, if_false, Bool.false_eq_true, reduceIte]
    · intro l hl
      refine ⟨by simp [g_ps], by simp [g_ps]; rfl, ?_⟩
      intro k a h
      simp [g_ps] at h
  obtain ⟨⟨z1, z2, z3, z4⟩, h8, h9⟩ := H9
  exact ⟨z1, z2, z3, z4, by rw [h8]; rfl, h9⟩
end PC
theorem p_sizeOf {up lo lay : Nat → Nat} {ps : Nat → List Nat} {sz ar uu ll : Nat → Int32} (hP : c_P up lo lay ps sz ar uu ll) {l : Nat} (hl : l < 24) : fX6_sizeOf sz (nI l) = some (nI (ps l).length) := by
  unfold fX6_sizeOf
  simp (disch := omega) only [s_in, s_cl, s_leL, s_ltL, s_eqL, s_leR, s_ltR, s_eqR, s_le, s_lt, s_eq, s_addL, s_addL', s_mulL, s_mulL', s_mul, nI_add, s_subL, s_sub, s_m1, s_m1', s_lm1, s_ltm1, s_m1lt, s_m1le, s_m1p, s_10, s_let, s_el, s_er, s_b2, s_b3, s_b4, s_b5, s_b6, s_b7, s_b8, s_b9, s_b10, s_b11, s_b12, s_bind, eq_self, if_pos, if_neg, ite_true, ite_false, if_true, if_false, Bool.false_eq_true, reduceIte, (hP l hl).2.1]
theorem p_sizeOfN {sz : Nat → Int32} : fX6_sizeOf sz (-1) = some 0 := by
  unfold fX6_sizeOf
  rw [if_pos (by decide)]
theorem p_endU {up lo lay : Nat → Nat} {ps : Nat → List Nat} {sz ar uu ll : Nat → Int32} (hP : c_P up lo lay ps sz ar uu ll) {l k a : Nat} (hl : l < 24) (hk : (ps l)[k]? = some a) : fX6_endOf sz uu ll (nI l) (nI k) 1 = some (nI (g_uc up lay a l)) := by
  have h1 := g_lt_len hk
  obtain ⟨h2, h3, h4⟩ := hP l hl
  unfold fX6_endOf
  simp (disch := omega) only [s_in, s_cl, s_leL, s_ltL, s_eqL, s_leR, s_ltR, s_eqR, s_le, s_lt, s_eq, s_addL, s_addL', s_mulL, s_mulL', s_mul, nI_add, s_subL, s_sub, s_m1, s_m1', s_lm1, s_ltm1, s_m1lt, s_m1le, s_m1p, s_10, s_let, s_el, s_er, s_b2, s_b3, s_b4, s_b5, s_b6, s_b7, s_b8, s_b9, s_b10, s_b11, s_b12, s_bind, eq_self, if_pos, if_neg, ite_true, ite_false, if_true, if_false, Bool.false_eq_true, reduceIte, h3, (h4 k a hk).2.1]
theorem p_endL {up lo lay : Nat → Nat} {ps : Nat → List Nat} {sz ar uu ll : Nat → Int32} (hP : c_P up lo lay ps sz ar uu ll) {l k a : Nat} (hl : l < 24) (hk : (ps l)[k]? = some a) : fX6_endOf sz uu ll (nI l) (nI k) 0 = some (nI (g_lc lo lay a l)) := by
  have h1 := g_lt_len hk
  obtain ⟨h2, h3, h4⟩ := hP l hl
  unfold fX6_endOf
  simp (disch := omega) only [s_in, s_cl, s_leL, s_ltL, s_eqL, s_leR, s_ltR, s_eqR, s_le, s_lt, s_eq, s_addL, s_addL', s_mulL, s_mulL', s_mul, nI_add, s_subL, s_sub, s_m1, s_m1', s_lm1, s_ltm1, s_m1lt, s_m1le, s_m1p, s_10, s_let, s_el, s_er, s_b2, s_b3, s_b4, s_b5, s_b6, s_b7, s_b8, s_b9, s_b10, s_b11, s_b12, s_bind, eq_self, if_pos, if_neg, ite_true, ite_false, if_true, if_false, Bool.false_eq_true, reduceIte, h3, (h4 k a hk).2.2]
theorem p_arrowOf {up lo lay : Nat → Nat} {ps : Nat → List Nat} {sz ar uu ll : Nat → Int32} (hP : c_P up lo lay ps sz ar uu ll) {l k a : Nat} (hl : l < 24) (hk : (ps l)[k]? = some a) : fX6_arrowOf sz ar (nI l) (nI k) = some (nI a) := by
  have h1 := g_lt_len hk
  obtain ⟨h2, h3, h4⟩ := hP l hl
  unfold fX6_arrowOf jX6_arrowOf_28 jX6_arrowOf_29
  simp (disch := omega) only [s_in, s_cl, s_leL, s_ltL, s_eqL, s_leR, s_ltR, s_eqR, s_le, s_lt, s_eq, s_addL, s_addL', s_mulL, s_mulL', s_mul, nI_add, s_subL, s_sub, s_m1, s_m1', s_lm1, s_ltm1, s_m1lt, s_m1le, s_m1p, s_10, s_let, s_el, s_er, s_b2, s_b3, s_b4, s_b5, s_b6, s_b7, s_b8, s_b9, s_b10, s_b11, s_b12, s_bind, eq_self, if_pos, if_neg, ite_true, ite_false, if_true, if_false, Bool.false_eq_true, reduceIte, h3, (h4 k a hk).1]
