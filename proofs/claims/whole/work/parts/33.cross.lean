/-! PURE: places and crossings. -/
def g_at (row : Nat → List Nat) (l c : Nat) : Nat := (row l).idxOf c
theorem g_at_lt {row : Nat → List Nat} {l c : Nat} (h : c ∈ row l) : g_at row l c < (row l).length := List.idxOf_lt_length_of_mem h
theorem g_at_get {row : Nat → List Nat} {l c : Nat} (h : c ∈ row l) : (row l)[g_at row l c]? = some c := by
  have h1 := g_at_lt h
  unfold g_at at h1 ⊢
  rw [List.getElem?_eq_getElem h1, List.getElem_idxOf h1]
theorem g_at_of {row : Nat → List Nat} {l c k : Nat} (hn : (row l).Nodup) (h : (row l)[k]? = some c) : g_at row l c = k := g_nd_inj hn (g_at_get (List.mem_iff_getElem?.mpr ⟨k, h⟩)) h
theorem g_at_inj {row : Nat → List Nat} {l c d : Nat} (hc : c ∈ row l) (hd : d ∈ row l) (h : g_at row l c = g_at row l d) : c = d := by
  have h1 := g_at_get hc
  rw [h, g_at_get hd] at h1
  exact (Option.some.inj h1).symm
/-- rows that hold what the layers hold -/
def g_V (ex : Nat → Bool) (up lo : Nat → Nat) (bx : Nat → Bool) (lay : Nat → Nat) (N : Nat) (row : Nat → List Nat) : Prop := ∀ l, l < 24 → (row l).Nodup ∧ ∀ c, c ∈ row l ↔ l < N ∧ c < 40 ∧ g_hd ex up lo bx lay l c = true
/-- pairs of a list, counted -/
def g_xr (X : Nat → Nat → Bool) : List Nat → Nat
  | [] => 0
  | a :: L => g_xr X L + L.countP (X a)
def g_xs (X : Nat → Nat → Bool) (L : List Nat) : Nat := g_xr X L.reverse
theorem g_xs_nil (X : Nat → Nat → Bool) : g_xs X [] = 0 := rfl
theorem g_xs_snoc {X : Nat → Nat → Bool} {L : List Nat} {a : Nat} : g_xs X (L ++ [a]) = g_xs X L + L.countP (X a) := by
  unfold g_xs
  rw [List.reverse_append]
  show g_xr X (a :: L.reverse) = _
  rw [g_xr, List.countP_reverse]
theorem g_xr_le (X : Nat → Nat → Bool) : ∀ L : List Nat, g_xr X L ≤ L.length * L.length
  | [] => Nat.le_refl _
  | a :: L => by
    have h1 := g_xr_le X L
    have h2 := List.countP_le_length (p := X a) (l := L)
    rw [g_xr, List.length_cons, Nat.succ_mul, Nat.mul_succ]
    omega
theorem g_xs_le (X : Nat → Nat → Bool) (L : List Nat) : g_xs X L ≤ L.length * L.length := by
  have := g_xr_le X L.reverse
  rw [List.length_reverse] at this
  exact this
theorem g_xs_b (X : Nat → Nat → Bool) {L : List Nat} (h : L.length ≤ 24) : g_xs X L ≤ 576 := by
  have h1 := g_xs_le X L
  have h2 := Nat.mul_le_mul h h
  omega
/-- two pieces cross: by the places of their upper and lower ends -/
def g_xx (U D : Nat → Nat) (a b : Nat) : Bool := (decide (U a < U b) && decide (D b < D a)) || (decide (U b < U a) && decide (D a < D b))
theorem g_xx_iff {U D : Nat → Nat} {a b : Nat} : g_xx U D a b = true ↔ (U a < U b ∧ D b < D a) ∨ (U b < U a ∧ D a < D b) := by
  unfold g_xx
  simp
theorem g_cnt1 {X : Nat → Bool} {L : List Nat} {j b : Nat} (h : L[j]? = some b) : (L.take (j + 1)).countP X = (L.take j).countP X + (if X b then 1 else 0) := by
  rw [g_take1 h, List.countP_append, List.countP_cons, List.countP_nil, Nat.zero_add]
theorem s_c1 : ((0 : Int32) ≤ -1 * -1) = True := by decide
theorem s_c2 : ((0 : Int32) ≤ -1 * 0) = True := by decide
theorem s_c3 : ((0 : Int32) ≤ -1 * 1) = False := by decide
theorem s_c4 : ((0 : Int32) ≤ 0 * -1) = True := by decide
theorem s_c5 : ((0 : Int32) ≤ 0 * 0) = True := by decide
theorem s_c6 : ((0 : Int32) ≤ 0 * 1) = True := by decide
theorem s_c7 : ((0 : Int32) ≤ 1 * -1) = False := by decide
theorem s_c8 : ((0 : Int32) ≤ 1 * 0) = True := by decide
theorem s_c9 : ((0 : Int32) ≤ 1 * 1) = True := by decide
theorem p_cmpL {a b : Nat} (ha : a < 40) (hb : b < 40) (h : a < b) : fJ6_compare_7cf53 (nI a) (nI b) = some (-1) := by
  unfold fJ6_compare_7cf53
  rw [if_neg (by rw [s_le (by omega) (by omega)]; omega)]
theorem p_cmpE {a b : Nat} (h : a = b) : fJ6_compare_7cf53 (nI a) (nI b) = some 0 := by
  subst h
  unfold fJ6_compare_7cf53
  rw [if_pos (Int32.le_refl _), if_pos rfl]
theorem p_cmpG {a b : Nat} (ha : a < 40) (hb : b < 40) (h : b < a) : fJ6_compare_7cf53 (nI a) (nI b) = some 1 := by
  unfold fJ6_compare_7cf53
  rw [if_pos (by rw [s_le (by omega) (by omega)]; omega), if_neg (by rw [s_eq (by omega) (by omega)]; omega)]
theorem p_inGap {up lo lay : Nat → Nat} {ps : Nat → List Nat} {sz ar uu ll pl : Nat → Int32} (hP : c_P up lo lay ps sz ar uu ll) {l : Nat} (hl : l < 24) {U D : Nat → Nat}
    (hU : ∀ a, a ∈ ps l → fX4_placeIn pl (nI l) (nI (g_uc up lay a l)) = some (nI (U a)) ∧ U a < 40) (hD : ∀ a, a ∈ ps l → fX4_placeIn pl (nI (l + 1)) (nI (g_lc lo lay a l)) = some (nI (D a)) ∧ D a < 40) (xu xl : Nat → Int32) :
    ∃ xu' xl', fX2_inGap sz uu ll xu xl pl (nI l) = some (nI (g_xs (g_xx U D) (ps l)), xu', xl') := by
  obtain ⟨h1, h2, h3⟩ := hP l hl
  have H9 : ∃ e : Int32 × (Nat → Int32) × (Nat → Int32), q_lo (fun (st : Int32 × Int32 × (Nat → Int32) × (Nat → Int32)) => bX2_inGap_20 sz uu ll pl (nI l) (nI (ps l).length) st.1 st.2.1 st.2.2.1 st.2.2.2) (0, 0, xu, xl) = some e ∧ e.1 = nI (g_xs (g_xx U D) (ps l)) := by
    refine q_inv (fun k (st : Int32 × Int32 × (Nat → Int32) × (Nat → Int32)) => st.2.1 = nI k ∧ st.1 = nI (g_xs (g_xx U D) ((ps l).take k)) ∧ ∀ j a, j < k → (ps l)[j]? = some a → st.2.2.1 j = nI (U a) ∧ st.2.2.2 j = nI (D a)) (ps l).length ?_ ?_ _ ⟨rfl, by rw [List.take_zero, g_xs_nil]; rfl, fun j a hj => by omega⟩
    · rintro k ⟨s, x, q, r⟩ hk ⟨hx, hs, hq⟩
      dsimp only at hx hs hq
      subst hx
      subst hs
      obtain ⟨a, ha⟩ : ∃ a, (ps l)[k]? = some a := ⟨_, List.getElem?_eq_getElem hk⟩
      have ham : a ∈ ps l := List.mem_iff_getElem?.mpr ⟨k, ha⟩
      obtain ⟨u1, u2⟩ := hU a ham
      obtain ⟨d1, d2⟩ := hD a ham
      have hg := g_xs_b (g_xx U D) (L := (ps l).take k) (by rw [List.length_take]; omega)
      have H8 : ∃ e, q_lo (fun (st : Int32 × Int32) => bX2_inGap_77 (upd q k (nI (U a))) (upd r k (nI (D a))) (nI l) (nI (ps l).length) (nI k) st.1 st.2) (nI (g_xs (g_xx U D) ((ps l).take k)), 0) = some e ∧ e = nI (g_xs (g_xx U D) ((ps l).take (k + 1))) := by
        refine q_inv (fun j (st : Int32 × Int32) => st.2 = nI j ∧ st.1 = nI (g_xs (g_xx U D) ((ps l).take k) + ((ps l).take j).countP (g_xx U D a))) k ?_ ?_ _ ⟨rfl, by rw [List.take_zero, List.countP_nil, Nat.add_zero]⟩
        · rintro j ⟨s, x⟩ hj ⟨hx, hs⟩
          dsimp only at hx hs
          subst hx
          subst hs
          obtain ⟨b, hb⟩ : ∃ b, (ps l)[j]? = some b := ⟨_, List.getElem?_eq_getElem (by omega)⟩
          obtain ⟨q1, q2⟩ := hq j b hj hb
          obtain ⟨-, v2⟩ := hU b (List.mem_iff_getElem?.mpr ⟨j, hb⟩)
          obtain ⟨-, w2⟩ := hD b (List.mem_iff_getElem?.mpr ⟨j, hb⟩)
          have hjk : j ≠ k := by omega
          show ∃ t9, bX2_inGap_77 (upd q k (nI (U a))) (upd r k (nI (D a))) (nI l) (nI (ps l).length) (nI k) (nI (g_xs (g_xx U D) ((ps l).take k) + ((ps l).take j).countP (g_xx U D a))) (nI j) = some (.inl t9) ∧ _
          have hcmp : ∃ c1 c2, fJ6_compare_7cf53 (nI (U a)) (nI (U b)) = some c1 ∧ fJ6_compare_7cf53 (nI (D a)) (nI (D b)) = some c2 ∧ (0 ≤ c1 * c2 ↔ g_xx U D a b = false) := by
            have hX' : g_xx U D a b = false ↔ ¬ ((U a < U b ∧ D b < D a) ∨ (U b < U a ∧ D a < D b)) := by rw [← g_xx_iff]; simp
            rw [hX']
            rcases Nat.lt_trichotomy (U a) (U b) with h | h | h <;> rcases Nat.lt_trichotomy (D a) (D b) with h' | h' | h'
            · exact ⟨_, _, p_cmpL u2 v2 h, p_cmpL d2 w2 h', ⟨fun _ => by omega, fun _ => by decide⟩⟩
            · exact ⟨_, _, p_cmpL u2 v2 h, p_cmpE h', ⟨fun _ => by omega, fun _ => by decide⟩⟩
            · exact ⟨_, _, p_cmpL u2 v2 h, p_cmpG d2 w2 h', ⟨fun e => absurd e (by decide), fun e => absurd (.inl ⟨h, h'⟩) e⟩⟩
            · exact ⟨_, _, p_cmpE h, p_cmpL d2 w2 h', ⟨fun _ => by omega, fun _ => by decide⟩⟩
            · exact ⟨_, _, p_cmpE h, p_cmpE h', ⟨fun _ => by omega, fun _ => by decide⟩⟩
            · exact ⟨_, _, p_cmpE h, p_cmpG d2 w2 h', ⟨fun _ => by omega, fun _ => by decide⟩⟩
            · exact ⟨_, _, p_cmpG u2 v2 h, p_cmpL d2 w2 h', ⟨fun e => absurd e (by decide), fun e => absurd (.inr ⟨h, h'⟩) e⟩⟩
            · exact ⟨_, _, p_cmpG u2 v2 h, p_cmpE h', ⟨fun _ => by omega, fun _ => by decide⟩⟩
            · exact ⟨_, _, p_cmpG u2 v2 h, p_cmpG d2 w2 h', ⟨fun _ => by omega, fun _ => by decide⟩⟩
          obtain ⟨c1, c2, hc1, hc2, hc3⟩ := hcmp
          unfold bX2_inGap_77 jX2_inGap_129
          rw [g_cnt1 hb]
          generalize hX : g_xx U D a b = X at hc3
          cases X
          · have hc4 := hc3.mpr rfl
            simp (disch := omega) only [s_in, s_cl, s_leL, s_ltL, s_eqL, s_leR, s_ltR, s_eqR, s_le, s_lt, s_eq, s_addL, s_addL', s_mulL, s_mulL', s_mul, nI_add, s_subL, s_sub, s_m1, s_m1', s_lm1, s_ltm1, s_m1lt, s_m1le, s_m1p, s_10, s_let, s_el, s_er, s_b2, s_b3, s_b4, s_b5, s_b6, s_b7, s_b8, s_b9, s_b10, s_b11, s_b12, s_bind, eq_self, if_pos, if_neg, ite_true, ite_false, if_true, if_false, Bool.false_eq_true, reduceIte, pk_us, pk_un hjk, q1, q2, hc1, hc2, hc4]
            exact ⟨_, rfl, rfl, congrArg nI (by omega)⟩
          · have hc4 : ¬ 0 ≤ c1 * c2 := fun e => by cases hc3.mp e
            simp (disch := omega) only [s_in, s_cl, s_leL, s_ltL, s_eqL, s_leR, s_ltR, s_eqR, s_le, s_lt, s_eq, s_addL, s_addL', s_mulL, s_mulL', s_mul, nI_add, s_subL, s_sub, s_m1, s_m1', s_lm1, s_ltm1, s_m1lt, s_m1le, s_m1p, s_10, s_let, s_el, s_er, s_b2, s_b3, s_b4, s_b5, s_b6, s_b7, s_b8, s_b9, s_b10, s_b11, s_b12, s_bind, eq_self, if_pos, if_neg, ite_true, ite_false, if_true, if_false, Bool.false_eq_true, reduceIte, pk_us, pk_un hjk, q1, q2, hc1, hc2, hc4]
            exact ⟨_, rfl, rfl, congrArg nI (by omega)⟩
        · rintro ⟨s, x⟩ ⟨hx, hs⟩
          dsimp only at hx hs
          subst hx
          subst hs
          refine ⟨_, ?_, by rw [g_take1 ha, g_xs_snoc]⟩
          show bX2_inGap_77 _ _ (nI l) (nI (ps l).length) (nI k) _ (nI k) = _
          unfold bX2_inGap_77
          simp (disch := omega) only [s_in, s_cl, s_leL, s_ltL, s_eqL, s_leR, s_ltR, s_eqR, s_le, s_lt, s_eq, s_addL, s_addL', s_mulL, s_mulL', s_mul, nI_add, s_subL, s_sub, s_m1, s_m1', s_lm1, s_ltm1, s_m1lt, s_m1le, s_m1p, s_10, s_let, s_el, s_er, s_b2, s_b3, s_b4, s_b5, s_b6, s_b7, s_b8, s_b9, s_b10, s_b11, s_b12, s_bind, eq_self, if_pos, if_neg, ite_true, ite_false, if_true, if_false, Bool.false_eq_true, reduceIte]
      obtain ⟨e8, h8, h9⟩ := H8
      show ∃ t9, bX2_inGap_20 sz uu ll pl (nI l) (nI (ps l).length) (nI (g_xs (g_xx U D) ((ps l).take k))) (nI k) q r = some (.inl t9) ∧ _
      unfold bX2_inGap_20
      simp (disch := omega) only [s_in, s_cl, s_leL, s_ltL, s_eqL, s_leR, s_ltR, s_eqR, s_le, s_lt, s_eq, s_addL, s_addL', s_mulL, s_mulL', s_mul, nI_add, s_subL, s_sub, s_m1, s_m1', s_lm1, s_ltm1, s_m1lt, s_m1le, s_m1p, s_10, s_let, s_el, s_er, s_b2, s_b3, s_b4, s_b5, s_b6, s_b7, s_b8, s_b9, s_b10, s_b11, s_b12, s_bind, eq_self, if_pos, if_neg, ite_true, ite_false, if_true, if_false, Bool.false_eq_true, reduceIte, p_endU hP hl ha, p_endL hP hl ha, u1, d1, h8]
      refine ⟨_, rfl, rfl, h9, ?_⟩
      intro j b hj hb
      dsimp only
      by_cases hjk : j = k
      · subst hjk
        rw [ha] at hb
        cases hb
        rw [pk_us, pk_us]
        exact ⟨rfl, rfl⟩
      · rw [pk_un hjk, pk_un hjk]
        exact hq j b (by omega) hb
    · rintro ⟨s, x, q, r⟩ ⟨hx, hs, hq⟩
      dsimp only at hx hs hq
      subst hx
      subst hs
      refine ⟨(nI (g_xs (g_xx U D) ((ps l).take (ps l).length)), q, r), ?_, by rw [List.take_length]⟩
      show bX2_inGap_20 sz uu ll pl (nI l) (nI (ps l).length) _ (nI (ps l).length) q r = _
      unfold bX2_inGap_20
      simp (disch := omega) only [s_in, s_cl, s_leL, s_ltL, s_eqL, s_leR, s_ltR, s_eqR, s_le, s_lt, s_eq, s_addL, s_addL', s_mulL, s_mulL', s_mul, nI_add, s_subL, s_sub, s_m1, s_m1', s_lm1, s_ltm1, s_m1lt, s_m1le, s_m1p, s_10, s_let, s_el, s_er, s_b2, s_b3, s_b4, s_b5, s_b6, s_b7, s_b8, s_b9, s_b10, s_b11, s_b12, s_bind, eq_self, if_pos, if_neg, ite_true, ite_false, if_true, if_false, Bool.false_eq_true, reduceIte]
  obtain ⟨⟨e1, e2, e3⟩, h8, h9⟩ := H9
  dsimp only at h9
  subst h9
  refine ⟨e2, e3, ?_⟩
  unfold fX2_inGap
  simp (disch := omega) only [s_in, s_cl, s_leL, s_ltL, s_eqL, s_leR, s_ltR, s_eqR, s_le, s_lt, s_eq, s_addL, s_addL', s_mulL, s_mulL', s_mul, nI_add, s_subL, s_sub, s_m1, s_m1', s_lm1, s_ltm1, s_m1lt, s_m1le, s_m1p, s_10, s_let, s_el, s_er, s_b2, s_b3, s_b4, s_b5, s_b6, s_b7, s_b8, s_b9, s_b10, s_b11, s_b12, s_bind, eq_self, if_pos, if_neg, ite_true, ite_false, if_true, if_false, Bool.false_eq_true, reduceIte, p_sizeOf hP hl, h8]
section CR
variable {ex bx : Nat → Bool} {up lo lay : Nat → Nat} {N : Nat} {row : Nat → List Nat}
theorem g_pc_N (hG : g_G ex up lo bx lay N) {a l : Nat} (ha : a < 24) (hp : g_pc ex up lo lay a l = true) : l + 1 < N := by
  obtain ⟨he, h1, h2⟩ := g_pc_iff.mp hp
  obtain ⟨G1, G2, G3⟩ := hG
  obtain ⟨u1, u2, u3, u4, u5⟩ := G3 a ha he
  have := G2 _ u2 u4
  omega
theorem g_uc_mem (hG : g_G ex up lo bx lay N) (hV : g_V ex up lo bx lay N row) {a l : Nat} (ha : a < 24) (hp : g_pc ex up lo lay a l = true) : g_uc up lay a l ∈ row l := by
  have hn := g_pc_N hG ha hp
  obtain ⟨he, h1, h2⟩ := g_pc_iff.mp hp
  obtain ⟨G1, G2, G3⟩ := hG
  obtain ⟨u1, u2, u3, u4, u5⟩ := G3 a ha he
  rw [(hV l (by omega)).2]
  unfold g_uc g_hd
  by_cases hc : l = lay (up a)
  · rw [if_pos hc]
    refine ⟨by omega, by omega, ?_⟩
    rw [if_pos u1, u3, hc]
    simp
  · rw [if_neg hc]
    refine ⟨by omega, by omega, ?_⟩
    rw [if_neg (by omega), show 16 + a - 16 = a by omega, he]
    simp
    omega
theorem g_lc_mem (hG : g_G ex up lo bx lay N) (hV : g_V ex up lo bx lay N row) {a l : Nat} (ha : a < 24) (hp : g_pc ex up lo lay a l = true) : g_lc lo lay a l ∈ row (l + 1) := by
  have hn := g_pc_N hG ha hp
  obtain ⟨he, h1, h2⟩ := g_pc_iff.mp hp
  obtain ⟨G1, G2, G3⟩ := hG
  obtain ⟨u1, u2, u3, u4, u5⟩ := G3 a ha he
  rw [(hV (l + 1) (by omega)).2]
  unfold g_lc g_hd
  by_cases hc : l + 1 = lay (lo a)
  · rw [if_pos hc]
    refine ⟨by omega, by omega, ?_⟩
    rw [if_pos u2, u4, hc]
    simp
  · rw [if_neg hc]
    refine ⟨by omega, by omega, ?_⟩
    rw [if_neg (by omega), show 16 + a - 16 = a by omega, he]
    simp
    omega
def g_pu (up lay : Nat → Nat) (row : Nat → List Nat) (l a : Nat) : Nat := g_at row l (g_uc up lay a l)
def g_pd (lo lay : Nat → Nat) (row : Nat → List Nat) (l a : Nat) : Nat := g_at row (l + 1) (g_lc lo lay a l)
/-- crossings of a layer and the next -/
def g_cr (ex : Nat → Bool) (up lo lay : Nat → Nat) (row : Nat → List Nat) (l : Nat) : Nat := g_xs (g_xx (g_pu up lay row l) (g_pd lo lay row l)) (g_ps ex up lo lay 24 l)
/-- crossings on both sides -/
def g_ca (ex : Nat → Bool) (up lo lay : Nat → Nat) (row : Nat → List Nat) (l : Nat) : Nat := (if l = 0 then 0 else g_cr ex up lo lay row (l - 1)) + g_cr ex up lo lay row l
/-- crossings of the first gaps -/
def g_tot (ex : Nat → Bool) (up lo lay : Nat → Nat) (row : Nat → List Nat) : Nat → Nat
  | 0 => 0
  | n + 1 => g_tot ex up lo lay row n + g_cr ex up lo lay row n
theorem g_cr_b (l : Nat) : g_cr ex up lo lay row l ≤ 576 := g_xs_b _ (g_ps_len 24 l)
theorem g_ca_b (l : Nat) : g_ca ex up lo lay row l ≤ 1152 := by
  have h1 := g_cr_b (ex := ex) (up := up) (lo := lo) (lay := lay) (row := row) (l - 1)
  have h2 := g_cr_b (ex := ex) (up := up) (lo := lo) (lay := lay) (row := row) l
  unfold g_ca
  split <;> omega
theorem g_tot_b : ∀ n, g_tot ex up lo lay row n ≤ n * 576
  | 0 => Nat.le_refl _
  | n + 1 => by
    have h1 := g_tot_b n
    have h2 := g_cr_b (ex := ex) (up := up) (lo := lo) (lay := lay) (row := row) n
    rw [g_tot]
    omega
theorem g_ps_nil (hG : g_G ex up lo bx lay N) {l : Nat} (h : N ≤ l + 1) : g_ps ex up lo lay 24 l = [] := by
  rw [List.eq_nil_iff_forall_not_mem]
  intro a ha
  obtain ⟨h1, h2⟩ := g_ps_mem.mp ha
  have := g_pc_N hG h1 h2
  omega
theorem g_cr_0 (hG : g_G ex up lo bx lay N) {l : Nat} (h : N ≤ l + 1) : g_cr ex up lo lay row l = 0 := by
  unfold g_cr
  rw [g_ps_nil hG h]
  rfl
variable {sz ar uu ll : Nat → Int32} {ly : Int32} {so rw pl hm : Nat → Int32}
theorem p_place (hO : c_O N row ly so rw pl hm) {l c : Nat} (hl : l < 24) (hc : c ∈ row l) : fX4_placeIn pl (nI l) (nI c) = some (nI (g_at row l c)) ∧ g_at row l c < 40 ∧ c < 40 := by
  obtain ⟨-, -, h3, -⟩ := hO
  obtain ⟨g1, g2, g3, g4, g5, g6⟩ := h3 l hl
  obtain ⟨i1, i2, i3⟩ := g5 _ _ (g_at_get hc)
  have := g_at_lt hc
  exact ⟨by rw [p_placeIn hl i1, i3], by omega, i1⟩
theorem p_cr (hG : g_G ex up lo bx lay N) (hV : g_V ex up lo bx lay N row) (hP : c_P up lo lay (g_ps ex up lo lay 24) sz ar uu ll) (hO : c_O N row ly so rw pl hm) {l : Nat} (hl : l < 24) (xu xl : Nat → Int32) :
    ∃ xu' xl', fX2_inGap sz uu ll xu xl pl (nI l) = some (nI (g_cr ex up lo lay row l), xu', xl') := by
  have hN := hG.1
  refine p_inGap hP hl (U := g_pu up lay row l) (D := g_pd lo lay row l) ?_ ?_ xu xl
  · intro a ha
    obtain ⟨h1, h2⟩ := g_ps_mem.mp ha
    have := p_place hO hl (g_uc_mem hG hV h1 h2)
    exact ⟨this.1, this.2.1⟩
  · intro a ha
    obtain ⟨h1, h2⟩ := g_ps_mem.mp ha
    have h3 := g_pc_N hG h1 h2
    have := p_place hO (show l + 1 < 24 by omega) (g_lc_mem hG hV h1 h2)
    exact ⟨this.1, this.2.1⟩
theorem s_01 : nI 0 - 1 = (-1 : Int32) := by decide
theorem p_inGapN {sz uu ll pl : Nat → Int32} (xu xl : Nat → Int32) : fX2_inGap sz uu ll xu xl pl (-1) = some (0, xu, xl) := by
  have h : bX2_inGap_20 sz uu ll pl (-1) 0 0 0 xu xl = some (.inr (0, xu, xl)) := by
    unfold bX2_inGap_20
    rw [if_pos (by decide)]
  have h9 : q_lo (fun (st : Int32 × Int32 × (Nat → Int32) × (Nat → Int32)) => bX2_inGap_20 sz uu ll pl (-1) 0 st.1 st.2.1 st.2.2.1 st.2.2.2) (0, 0, xu, xl) = some (0, xu, xl) := q_lo_end h
  unfold fX2_inGap
  rw [p_sizeOfN, s_bind, s_let, if_neg (by decide), h9]
  rfl
theorem p_around (hG : g_G ex up lo bx lay N) (hV : g_V ex up lo bx lay N row) (hP : c_P up lo lay (g_ps ex up lo lay 24) sz ar uu ll) (hO : c_O N row ly so rw pl hm) {l : Nat} (hl : l < 24) (xu xl : Nat → Int32) :
    ∃ xu' xl', fX2_around sz uu ll xu xl pl (nI l) = some (nI (g_ca ex up lo lay row l), xu', xl') := by
  unfold fX2_around g_ca
  by_cases h0 : l = 0
  · subst h0
    obtain ⟨x1, x2, h1⟩ := p_cr hG hV hP hO hl xu xl
    rw [s_01, p_inGapN, s_b3, h1, s_b3, if_pos rfl]
    exact ⟨_, _, by rw [show (0 : Int32) = nI 0 from rfl, nI_add]⟩
  · obtain ⟨x1, x2, h1⟩ := p_cr hG hV hP hO (show l - 1 < 24 by omega) xu xl
    obtain ⟨x3, x4, h2⟩ := p_cr hG hV hP hO hl x1 x2
    simp (disch := omega) only [s_in, s_cl, s_leL, s_ltL, s_eqL, s_leR, s_ltR, s_eqR, s_le, s_lt, s_eq, s_addL, s_addL', s_mulL, s_mulL', s_mul, nI_add, s_subL, s_sub, s_m1, s_m1', s_lm1, s_ltm1, s_m1lt, s_m1le, s_m1p, s_10, s_let, s_el, s_er, s_b2, s_b3, s_b4, s_b5, s_b6, s_b7, s_b8, s_b9, s_b10, s_b11, s_b12, s_bind, eq_self, if_pos, if_neg, ite_true, ite_false, if_true, if_false, Bool.false_eq_true, reduceIte, h1, h2]
    exact ⟨_, _, rfl⟩
theorem p_inAll (hG : g_G ex up lo bx lay N) (hV : g_V ex up lo bx lay N row) (hP : c_P up lo lay (g_ps ex up lo lay 24) sz ar uu ll) (hO : c_O N row (nI N) so rw pl hm) (xu xl : Nat → Int32) :
    ∃ xu' xl', fX2_inAll sz uu ll xu xl (nI N) pl = some (nI (g_tot ex up lo lay row N), xu', xl') := by
  have hN := hG.1
  unfold fX2_inAll
  by_cases h0 : N = 0
  · subst h0
    have h : bX2_inAll_4 sz uu ll (nI 0) pl 0 0 xu xl = some (.inr (0, xu, xl)) := by
      unfold bX2_inAll_4 fX4_layers
      rw [s_bind, if_pos (by decide)]
    have h9 : q_lo (fun (st : Int32 × Int32 × (Nat → Int32) × (Nat → Int32)) => bX2_inAll_4 sz uu ll (nI 0) pl st.1 st.2.1 st.2.2.1 st.2.2.2) (0, 0, xu, xl) = some (0, xu, xl) := q_lo_end h
    exact ⟨xu, xl, by rw [h9]; rfl⟩
  · have H9 : ∃ e : Int32 × (Nat → Int32) × (Nat → Int32), q_lo (fun (st : Int32 × Int32 × (Nat → Int32) × (Nat → Int32)) => bX2_inAll_4 sz uu ll (nI N) pl st.1 st.2.1 st.2.2.1 st.2.2.2) (0, 0, xu, xl) = some e ∧ e.1 = nI (g_tot ex up lo lay row N) := by
      refine q_inv (fun k (st : Int32 × Int32 × (Nat → Int32) × (Nat → Int32)) => st.2.1 = nI k ∧ st.1 = nI (g_tot ex up lo lay row k)) (N - 1) ?_ ?_ _ ⟨rfl, rfl⟩
      · rintro k ⟨s, x, q, r⟩ hk ⟨hx, hs⟩
        dsimp only at hx hs
        subst hx
        subst hs
        obtain ⟨x1, x2, h1⟩ := p_cr hG hV hP hO (show k < 24 by omega) q r
        show ∃ t9, bX2_inAll_4 sz uu ll (nI N) pl (nI (g_tot ex up lo lay row k)) (nI k) q r = some (.inl t9) ∧ _
        unfold bX2_inAll_4 fX4_layers
        simp (disch := omega) only [s_in, s_cl, s_leL, s_ltL, s_eqL, s_leR, s_ltR, s_eqR, s_le, s_lt, s_eq, s_addL, s_addL', s_mulL, s_mulL', s_mul, nI_add, s_subL, s_sub, s_m1, s_m1', s_lm1, s_ltm1, s_m1lt, s_m1le, s_m1p, s_10, s_let, s_el, s_er, s_b2, s_b3, s_b4, s_b5, s_b6, s_b7, s_b8, s_b9, s_b10, s_b11, s_b12, s_bind, eq_self, if_pos, if_neg, ite_true, ite_false, if_true, if_false, Bool.false_eq_true, reduceIte, h1]
        exact ⟨_, rfl, rfl, congrArg nI (by rw [g_tot])⟩
      · rintro ⟨s, x, q, r⟩ ⟨hx, hs⟩
        dsimp only at hx hs
        subst hx
        subst hs
        refine ⟨(nI (g_tot ex up lo lay row (N - 1)), q, r), ?_, ?_⟩
        · show bX2_inAll_4 sz uu ll (nI N) pl (nI (g_tot ex up lo lay row (N - 1))) (nI (N - 1)) q r = _
          unfold bX2_inAll_4 fX4_layers
          simp (disch := omega) only [s_in, s_cl, s_leL, s_ltL, s_eqL, s_leR, s_ltR, s_eqR, s_le, s_lt, s_eq, s_addL, s_addL', s_mulL, s_mulL', s_mul, nI_add, s_subL, s_sub, s_m1, s_m1', s_lm1, s_ltm1, s_m1lt, s_m1le, s_m1p, s_10, s_let, s_el, s_er, s_b2, s_b3, s_b4, s_b5, s_b6, s_b7, s_b8, s_b9, s_b10, s_b11, s_b12, s_bind, eq_self, if_pos, if_neg, ite_true, ite_false, if_true, if_false, Bool.false_eq_true, reduceIte]
        · dsimp only
          obtain ⟨M, rfl⟩ : ∃ M, N = M + 1 := ⟨N - 1, by omega⟩
          rw [g_tot, g_cr_0 hG (by omega)]
          rfl
    obtain ⟨⟨e1, e2, e3⟩, h8, h9⟩ := H9
    dsimp only at h9
    subst h9
    exact ⟨e2, e3, by rw [h8]; rfl⟩
end CR
