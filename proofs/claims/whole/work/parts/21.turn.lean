/-! PURE: which arrows are reversed. ex a: the arrow is there; fr, to: its ends; tn: reversed. -/
def g_K (ex : Nat → Bool) (fr to : Nat → Nat) (tn : Nat → Bool) (n u v : Nat) : Prop := ∃ b, b < n ∧ ex b = true ∧ tn b = false ∧ fr b = u ∧ to b = v
abbrev g_R (ex : Nat → Bool) (fr to : Nat → Nat) (tn : Nat → Bool) (n u v : Nat) : Prop := Relation.TransGen (g_K ex fr to tn n) u v
def g_T (ex : Nat → Bool) (fr to : Nat → Nat) (tn : Nat → Bool) (N : Nat) : Prop := ∀ a, a < N → (tn a = true ↔ ex a = true ∧ g_R ex fr to tn a (to a) (fr a))
theorem g_mono {r r' : Nat → Nat → Prop} (h : ∀ a b, r a b → r' a b) {a b : Nat} (t : Relation.TransGen r a b) : Relation.TransGen r' a b := by
  induction t with
  | single h1 => exact .single (h _ _ h1)
  | tail _ h1 ih => exact .tail ih (h _ _ h1)
theorem g_K_congr {ex : Nat → Bool} {fr to : Nat → Nat} {tn tn' : Nat → Bool} {n u v : Nat} (h : ∀ b, b < n → tn b = tn' b) (k : g_K ex fr to tn n u v) : g_K ex fr to tn' n u v := by
  obtain ⟨b, h1, h2, h3, h4⟩ := k
  exact ⟨b, h1, h2, by rw [← h b h1]; exact h3, h4⟩
theorem g_R_congr {ex : Nat → Bool} {fr to : Nat → Nat} {tn tn' : Nat → Bool} {n u v : Nat} (h : ∀ b, b < n → tn b = tn' b) : g_R ex fr to tn n u v ↔ g_R ex fr to tn' n u v :=
  ⟨g_mono (fun _ _ => g_K_congr h), g_mono (fun _ _ => g_K_congr (fun b hb => (h b hb).symm))⟩
theorem g_one {ex : Nat → Bool} {fr to : Nat → Nat} {tn tn' : Nat → Bool} {N : Nat} (h1 : g_T ex fr to tn N) (h2 : g_T ex fr to tn' N) : ∀ a, a < N → tn a = tn' a := by
  intro a
  induction a using Nat.strongRecOn with
  | _ a ih =>
    intro ha
    have e := g_R_congr (ex := ex) (fr := fr) (to := to) (u := to a) (v := fr a) (fun b hb => ih b hb (by omega) : ∀ b, b < a → tn b = tn' b)
    have k1 := h1 a ha
    have k2 := h2 a ha
    rw [e, ← k2] at k1
    cases h : tn a <;> cases h' : tn' a
    · rfl
    · rw [h, h'] at k1; exact absurd (k1.mpr rfl) (by decide)
    · rw [h, h'] at k1; exact absurd (k1.mp rfl) (by decide)
    · rfl
theorem g_add {K : Nat → Nat → Prop} {s e i j : Nat} : Relation.TransGen (fun u v => K u v ∨ (u = s ∧ v = e)) i j ↔ Relation.TransGen K i j ∨ ((i = s ∨ Relation.TransGen K i s) ∧ (j = e ∨ Relation.TransGen K e j)) := by
  constructor
  · intro t
    induction t with
    | single h =>
      rcases h with h | ⟨h1, h2⟩
      · exact Or.inl (.single h)
      · exact Or.inr ⟨Or.inl h1, Or.inl h2⟩
    | tail _ h ih =>
      rcases h with h | ⟨h1, h2⟩
      · rcases ih with ih | ⟨i1, i2⟩
        · exact Or.inl (.tail ih h)
        · refine Or.inr ⟨i1, Or.inr ?_⟩
          rcases i2 with i2 | i2
          · subst i2; exact .single h
          · exact .tail i2 h
      · subst h1; subst h2
        rcases ih with ih | ⟨i1, -⟩
        · exact Or.inr ⟨Or.inr ih, Or.inl rfl⟩
        · exact Or.inr ⟨i1, Or.inl rfl⟩
  · intro h
    have up : ∀ {a b : Nat}, Relation.TransGen K a b → Relation.TransGen (fun u v => K u v ∨ (u = s ∧ v = e)) a b := fun t => g_mono (fun _ _ h => Or.inl h) t
    have ed : Relation.TransGen (fun u v => K u v ∨ (u = s ∧ v = e)) s e := .single (Or.inr ⟨rfl, rfl⟩)
    rcases h with h | ⟨h1, h2⟩
    · exact up h
    · have a1 : Relation.TransGen (fun u v => K u v ∨ (u = s ∧ v = e)) i e := by
        rcases h1 with h1 | h1
        · subst h1; exact ed
        · exact .trans (up h1) ed
      rcases h2 with h2 | h2
      · subst h2; exact a1
      · exact .trans a1 (up h2)
theorem g_K_keep {ex : Nat → Bool} {fr to : Nat → Nat} {tn : Nat → Bool} {n : Nat} (h1 : ex n = true) (h2 : tn n = false) (i j : Nat) : g_R ex fr to tn (n + 1) i j ↔ g_R ex fr to tn n i j ∨ ((i = fr n ∨ g_R ex fr to tn n i (fr n)) ∧ (j = to n ∨ g_R ex fr to tn n (to n) j)) := by
  rw [← g_add]
  constructor
  · refine g_mono (fun u v h => ?_)
    obtain ⟨b, k1, k2, k3, k4, k5⟩ := h
    by_cases hb : b = n
    · subst hb; exact Or.inr ⟨k4.symm, k5.symm⟩
    · exact Or.inl ⟨b, by omega, k2, k3, k4, k5⟩
  · refine g_mono (fun u v h => ?_)
    rcases h with ⟨b, k1, k2, k3, k4, k5⟩ | ⟨k1, k2⟩
    · exact ⟨b, by omega, k2, k3, k4, k5⟩
    · exact ⟨n, by omega, h1, h2, k1.symm, k2.symm⟩
theorem g_K_skip {ex : Nat → Bool} {fr to : Nat → Nat} {tn : Nat → Bool} {n : Nat} (h : ex n = true → tn n = true) (i j : Nat) : g_R ex fr to tn (n + 1) i j ↔ g_R ex fr to tn n i j := by
  constructor
  · refine g_mono (fun u v k => ?_)
    obtain ⟨b, k1, k2, k3, k4⟩ := k
    by_cases hb : b = n
    · subst hb; rw [h k2] at k3; cases k3
    · exact ⟨b, by omega, k2, k3, k4⟩
  · exact g_mono (fun u v ⟨b, k1, k2⟩ => ⟨b, by omega, k2⟩)
theorem g_src {ex : Nat → Bool} {fr to : Nat → Nat} {tn : Nat → Bool} {n i j : Nat} (t : g_R ex fr to tn n i j) : ∃ b, b < n ∧ ex b = true ∧ fr b = i := by
  induction t with
  | single h => obtain ⟨b, h1, h2, h3, h4, h5⟩ := h; exact ⟨b, h1, h2, h4⟩
  | tail _ _ ih => exact ih
theorem g_dst {ex : Nat → Bool} {fr to : Nat → Nat} {tn : Nat → Bool} {n i j : Nat} (t : g_R ex fr to tn n i j) : ∃ b, b < n ∧ ex b = true ∧ to b = j := by
  cases t with
  | single h => obtain ⟨b, h1, h2, h3, h4, h5⟩ := h; exact ⟨b, h1, h2, h5⟩
  | tail _ h => obtain ⟨b, h1, h2, h3, h4, h5⟩ := h; exact ⟨b, h1, h2, h5⟩
/-! the class's Routes and the graph -/
def c_G (ex : Nat → Bool) (fr to : Nat → Nat) (w f t : Nat → Int32) : Prop := ∀ a, a < 24 → (ex a = false → f a = -1) ∧ (ex a = true → fr a < 16 ∧ to a < 16 ∧ fr a ≠ to a ∧ f a = nI (fr a) ∧ t a = nI (to a) ∧ ¬ w (fr a) ≤ 0 ∧ ¬ w (to a) ≤ 0)
theorem n_m1 {i : Nat} (h : i < 2 ^ 31) : ¬ nI i = -1 := by
  intro e
  have h1 := nI_pos h
  rw [e] at h1
  exact h1 (by decide)
theorem bt_one {x : Int32} : (x &&& 1) = 0 ↔ bt x 0 = false := by
  have one : ∀ i, i < 32 → bt 1 i = decide (i = 0) := by decide +kernel
  constructor
  · intro h
    have h2 : bt (x &&& 1) 0 = false := by rw [h]; exact b_0 0
    rw [b_and, one 0 (by omega)] at h2
    simpa using h2
  · intro h
    refine b_ext (fun i hi => ?_)
    rw [b_and, b_0, one i hi]
    by_cases h0 : i = 0
    · subst h0; rw [h]; rfl
    · simp [h0]
theorem p_reaches {w r : Nat → Int32} {i j : Nat} (hi : i < 16) (hj : j < 16) (hw : ¬ w i ≤ 0) : fX7_reaches w r (nI i) (nI j) = some (if bt (r i) j then 1 else 0) := by
  unfold fX7_reaches
  rw [p_hasBox hi, if_neg hw]
  simp only [Option.bind_some]
  rw [if_neg (by decide), if_pos (n_in hi (by decide)), nI_clamp (by omega)]
  have e : (r i >>> (nI j &&& 31) &&& 1) = 0 ↔ bt (r i) j = false := by
    rw [bt_one, b_sshr j (by omega) _ (by omega), if_pos (by omega)]
    rfl
  cases hb : bt (r i) j with
  | true => rw [if_neg (fun h => by rw [e.mp h] at hb; cases hb)]; rfl
  | false => rw [if_pos (e.mpr hb)]; rfl
theorem p_reaches0 {w r : Nat → Int32} {i j : Nat} (hi : i < 16) (hw : w i ≤ 0) : fX7_reaches w r (nI i) (nI j) = some 0 := by
  unfold fX7_reaches
  rw [p_hasBox hi, if_pos hw]
  rfl
theorem bt_shl1 {j i : Nat} (hj : j < 16) (hi : i < 16) : bt ((1 : Int32) <<< (nI j &&& 31)) i = decide (i = j) := by
  have one : ∀ i, i < 32 → bt 1 i = decide (i = 0) := by decide +kernel
  rw [b_shl j (by omega) _ (by omega), one _ (by omega)]
  by_cases h : i = j
  · subst h; simp
  · by_cases h2 : j ≤ i
    · simp [h, h2]; omega
    · simp [h, h2]
theorem p_keep {w r : Nat → Int32} {s e : Nat} (hs : s < 16) (he : e < 16) (hwe : ¬ w e ≤ 0) : ∃ r', fX7_keepArrow w r (nI s) (nI e) = some r' ∧ ∀ i, i < 16 → ∀ j, j < 16 → (bt (r' i) j = true ↔ bt (r i) j = true ∨ ((i = s ∨ (¬ w i ≤ 0 ∧ bt (r i) s = true)) ∧ (j = e ∨ bt (r e) j = true))) := by
  unfold fX7_keepArrow q_let
  rw [p_hasBox he, if_neg hwe]
  simp only [Option.bind_some]
  rw [if_neg (by decide), if_pos (n_in he (by decide)), nI_clamp (by omega)]
  have hgb : ∀ j, j < 16 → (bt (r e ||| (1 : Int32) <<< (nI e &&& 31)) j = true ↔ j = e ∨ bt (r e) j = true) := by
    intro j hj
    rw [b_or, bt_shl1 he hj, Bool.or_eq_true, decide_eq_true_eq, Or.comm]
  generalize hg : (r e ||| (1 : Int32) <<< (nI e &&& 31)) = g at hgb
  have H9 : ∃ e, q_lo (fun (st : Int32 × (Nat → Int32)) => bX7_keepArrow_23 w (nI s) g st.1 st.2) (0, r) = some e ∧ (fun r' => ∀ i, i < 16 → r' i = if (i = s ∨ (¬ w i ≤ 0 ∧ bt (r i) s = true)) then r i ||| g else r i) e := by
    refine q_inv (B := fun (st : Int32 × (Nat → Int32)) => bX7_keepArrow_23 w (nI s) g st.1 st.2)
      (Post := fun r' => ∀ i, i < 16 → r' i = if (i = s ∨ (¬ w i ≤ 0 ∧ bt (r i) s = true)) then r i ||| g else r i)
      (fun k st => st.1 = nI k ∧ ∀ i, i < 16 → st.2 i = if i < k ∧ (i = s ∨ (¬ w i ≤ 0 ∧ bt (r i) s = true)) then r i ||| g else r i) 16 ?_ ?_ (0, r) ⟨rfl, fun i _ => by simp⟩
    · rintro k ⟨x, q⟩ hk ⟨hx, hq⟩
      dsimp only at hx hq
      subst hx
      have hup : ∀ i, i < 16 → upd q k (q k ||| g) i = if i = k then q k ||| g else q i := fun i _ => by
        by_cases hik : i = k
        · subst hik; rw [pk_us, if_pos rfl]
        · rw [pk_un hik, if_neg hik]
      have hqk : q k = r k := by rw [hq k hk, if_neg (by omega)]
      have fin1 : (k = s ∨ (¬ w k ≤ 0 ∧ bt (r k) s = true)) → ∀ i, i < 16 → upd q k (q k ||| g) i = if i < k + 1 ∧ (i = s ∨ (¬ w i ≤ 0 ∧ bt (r i) s = true)) then r i ||| g else r i := by
        intro hc i hi
        rw [hup i hi]
        by_cases hik : i = k
        · subst hik; rw [if_pos rfl, if_pos ⟨by omega, hc⟩, hqk]
        · rw [if_neg hik, hq i hi]
          by_cases h3 : i < k ∧ (i = s ∨ (¬ w i ≤ 0 ∧ bt (r i) s = true))
          · rw [if_pos h3, if_pos ⟨by omega, h3.2⟩]
          · rw [if_neg h3, if_neg (fun h4 => h3 ⟨by omega, h4.2⟩)]
      have fin2 : ¬ (k = s ∨ (¬ w k ≤ 0 ∧ bt (r k) s = true)) → ∀ i, i < 16 → q i = if i < k + 1 ∧ (i = s ∨ (¬ w i ≤ 0 ∧ bt (r i) s = true)) then r i ||| g else r i := by
        intro hc i hi
        rw [hq i hi]
        by_cases hik : i = k
        · subst hik; rw [if_neg (by omega), if_neg (fun h => hc h.2)]
        · by_cases h3 : i < k ∧ (i = s ∨ (¬ w i ≤ 0 ∧ bt (r i) s = true))
          · rw [if_pos h3, if_pos ⟨by omega, h3.2⟩]
          · rw [if_neg h3, if_neg (fun h4 => h3 ⟨by omega, h4.2⟩)]
      show ∃ t, bX7_keepArrow_23 w (nI s) g (nI k) q = some (.inl t) ∧ _
      unfold bX7_keepArrow_23 jX7_keepArrow_46 jX7_keepArrow_57
      simp only [nI_clamp (show k < 2 ^ 31 by omega)]
      rw [n_lit 16, if_neg (by rw [n_le (by omega) (by omega)]; omega)]
      have hks' : (nI k = nI s) ↔ k = s := nI_eq (by omega) (by omega)
      by_cases hks : k = s
      · rw [if_pos (hks'.mpr hks), if_pos (n_in hk (by decide)), if_pos (n_in hk (by decide))]
        exact ⟨_, rfl, nI_1 k, fin1 (Or.inl hks)⟩
      · rw [if_neg (fun h => hks (hks'.mp h))]
        by_cases hwk : w k ≤ 0
        · rw [p_reaches0 hk hwk]
          simp only [Option.bind_some]
          rw [if_pos trivial]
          exact ⟨_, rfl, nI_1 k, fin2 (by rintro (h | ⟨h, -⟩) <;> contradiction)⟩
        · rw [p_reaches hk hs hwk, hqk]
          simp only [Option.bind_some]
          cases hb : bt (r k) s with
          | true =>
            rw [if_neg (by decide), if_pos (n_in hk (by decide)), if_pos (n_in hk (by decide)), ← hqk]
            exact ⟨_, rfl, nI_1 k, fin1 (Or.inr ⟨hwk, hb⟩)⟩
          | false =>
            rw [if_pos (by decide)]
            exact ⟨_, rfl, nI_1 k, fin2 (by rintro (h | ⟨-, h⟩); exact hks h; rw [hb] at h; cases h)⟩
    · rintro ⟨x, q⟩ ⟨hx, hq⟩
      dsimp only at hx hq
      subst hx
      refine ⟨q, ?_, fun i hi => ?_⟩
      · show bX7_keepArrow_23 w (nI s) g (nI 16) q = _
        unfold bX7_keepArrow_23
        rw [n_lit 16, if_pos (by rw [n_le (by omega) (by omega)]; omega)]
      · rw [hq i hi]
        by_cases hc : (i = s ∨ (¬ w i ≤ 0 ∧ bt (r i) s = true))
        · rw [if_pos hc, if_pos ⟨hi, hc⟩]
        · rw [if_neg hc, if_neg (fun h => hc h.2)]
  obtain ⟨r', h1, h2⟩ := H9
  refine ⟨r', by rw [show (0 : Int32) = nI 0 from rfl] at h1; rw [show (0 : Int32) = nI 0 from rfl]; rw [h1]; rfl, fun i hi j hj => ?_⟩
  rw [h2 i hi]
  by_cases hc : (i = s ∨ (¬ w i ≤ 0 ∧ bt (r i) s = true))
  · rw [if_pos hc, b_or, Bool.or_eq_true, hgb j hj]
    constructor
    · rintro (h | h)
      · exact Or.inl h
      · exact Or.inr ⟨hc, h⟩
    · rintro (h | ⟨-, h⟩)
      · exact Or.inl h
      · exact Or.inr h
  · rw [if_neg hc]
    constructor
    · exact Or.inl
    · rintro (h | ⟨h, -⟩)
      · exact h
      · exact absurd h hc
theorem n_tf1 : q_tf 1 := Or.inr rfl
theorem n_tf0 : q_tf 0 := Or.inl rfl
/-- the class's arrows, reversed as they must be, and its reach -/
theorem p_turnArrows {ex : Nat → Bool} {fr to : Nat → Nat} {w f t : Nat → Int32} (T0 : Nat → Int32) (hG : c_G ex fr to w f t) : ∃ T' r' tn, fX7_turnArrows w f t T0 = some (T', r') ∧ g_T ex fr to tn 24 ∧ (∀ a, a < 24 → T' a = if tn a then 1 else 0) ∧ ∀ i, i < 16 → ∀ j, j < 16 → (bt (r' i) j = true ↔ g_R ex fr to tn 24 i j) := by
  unfold fX7_turnArrows
  have H9 : ∃ e, q_lo (fun (st : Int32 × (Nat → Int32) × (Nat → Int32)) => bX7_turnArrows_10 w f t st.1 st.2.1 st.2.2) (0, T0, fun _ => 0) = some e ∧ (fun e => ∃ tn, g_T ex fr to tn 24 ∧ (∀ a, a < 24 → e.1 a = if tn a then 1 else 0) ∧ ∀ i, i < 16 → ∀ j, j < 16 → (bt (e.2 i) j = true ↔ g_R ex fr to tn 24 i j)) e := by
    refine q_inv (B := fun (st : Int32 × (Nat → Int32) × (Nat → Int32)) => bX7_turnArrows_10 w f t st.1 st.2.1 st.2.2)
      (Post := fun e => ∃ tn, g_T ex fr to tn 24 ∧ (∀ a, a < 24 → e.1 a = if tn a then 1 else 0) ∧ ∀ i, i < 16 → ∀ j, j < 16 → (bt (e.2 i) j = true ↔ g_R ex fr to tn 24 i j))
      (fun k st => st.1 = nI k ∧ ∃ tn, g_T ex fr to tn k ∧ (∀ a, a < k → st.2.1 a = if tn a then 1 else 0) ∧ ∀ i, i < 16 → ∀ j, j < 16 → (bt (st.2.2 i) j = true ↔ g_R ex fr to tn k i j)) 24 ?_ ?_ (0, T0, fun _ => 0) ?_
    · rintro k ⟨x, T, r⟩ hk ⟨hx, tn, g1, g2, g3⟩
      dsimp only at hx g2 g3
      subst hx
      obtain ⟨hn, hy⟩ := hG k hk
      -- what the next reversals are
      have ext : ∀ v : Bool, (∀ b, b < k → tn b = (fun b => if b = k then v else tn b) b) := fun v b hb => by simp [Nat.ne_of_lt hb]
      have nextT : ∀ v : Bool, (v = true ↔ ex k = true ∧ g_R ex fr to tn k (to k) (fr k)) → g_T ex fr to (fun b => if b = k then v else tn b) (k + 1) := by
        intro v hv a ha
        by_cases hak : a = k
        · subst hak
          show (if a = a then v else tn a) = true ↔ _
          rw [if_pos rfl, hv, g_R_congr (ext v)]
        · show (if a = k then v else tn a) = true ↔ _
          rw [if_neg hak, g1 a (by omega), g_R_congr (fun b hb => ext v b (by omega))]
      have nextR : ∀ v : Bool, ∀ a, a < k + 1 → upd T k (if v then 1 else 0) a = if (fun b => if b = k then v else tn b) a then 1 else 0 := by
        intro v a ha
        by_cases hak : a = k
        · subst hak; rw [pk_us]; simp
        · rw [pk_un hak, g2 a (by omega)]; simp [hak]
      show ∃ t9, bX7_turnArrows_10 w f t (nI k) T r = some (.inl t9) ∧ _
      unfold bX7_turnArrows_10 jX7_turnArrows_52 jX7_turnArrows_53 jX7_turnArrows_87
      simp only [nI_clamp (show k < 2 ^ 31 by omega)]
      rw [n_lit 24, if_neg (by rw [n_le (by omega) (by omega)]; omega), p_hasArrow hk]
      simp only [Option.bind_some]
      have hin : q_in (nI k) 24 := n_in hk (by decide)
      cases hex : ex k with
      | false =>
        rw [if_pos (hn hex), if_pos rfl, if_pos hin, if_pos n_tf0, if_pos rfl]
        refine ⟨_, rfl, nI_1 k, fun b => if b = k then false else tn b, nextT false (by simp [hex]), nextR false, fun i hi j hj => ?_⟩
        show bt (r i) j = true ↔ _
        rw [g_K_skip (by rw [hex]; intro h; cases h), ← g_R_congr (ext false)]
        exact g3 i hi j hj
      | true =>
        obtain ⟨e1, e2, e3, e4, e5, e6, e7⟩ := hy hex
        have hfk : ¬ f k = -1 := by rw [e4]; exact n_m1 (by omega)
        rw [if_neg hfk, if_neg (by decide), if_pos hin, if_pos hin, e4, e5, p_reaches e2 e1 e7]
        simp only [Option.bind_some]
        cases hb : bt (r (to k)) (fr k) with
        | true =>
          rw [if_neg (by decide), if_pos hin, if_pos n_tf1, if_neg (by decide), if_pos hin, pk_us, if_neg (by decide)]
          refine ⟨_, rfl, nI_1 k, fun b => if b = k then true else tn b, nextT true ⟨fun _ => ⟨hex, (g3 _ e2 _ e1).mp hb⟩, fun _ => rfl⟩, nextR true, fun i hi j hj => ?_⟩
          show bt (r i) j = true ↔ _
          rw [g_K_skip (by intro _; simp), ← g_R_congr (ext true)]
          exact g3 i hi j hj
        | false =>
          rw [if_pos (by decide), if_pos hin, if_pos n_tf0, if_neg (by decide), if_pos hin, pk_us, if_pos rfl, if_pos hin, if_pos hin]
          obtain ⟨r2, k1, k2⟩ := p_keep (w := w) (r := r) e1 e2 e7
          rw [k1]
          simp only [Option.bind_some]
          refine ⟨_, rfl, nI_1 k, fun b => if b = k then false else tn b, nextT false ⟨(fun h => by cases h), (fun h => by have h2 := (g3 _ e2 _ e1).mpr h.2; rw [hb] at h2; cases h2)⟩, nextR false, fun i hi j hj => ?_⟩
          show bt (r2 i) j = true ↔ _
          rw [g_K_keep hex (by simp), k2 i hi j hj, ← g_R_congr (ext false), ← g_R_congr (ext false), ← g_R_congr (ext false), g3 i hi j hj, g3 (to k) e2 j hj]
          have e8 : (i = fr k ∨ (¬ w i ≤ 0 ∧ bt (r i) (fr k) = true)) ↔ (i = fr k ∨ g_R ex fr to tn k i (fr k)) := by
            rw [g3 i hi _ e1]
            constructor
            · rintro (h | ⟨-, h⟩)
              · exact Or.inl h
              · exact Or.inr h
            · rintro (h | h)
              · exact Or.inl h
              · obtain ⟨b, b1, b2, b3⟩ := g_src h
                obtain ⟨-, hy2⟩ := hG b (by omega)
                obtain ⟨-, -, -, -, -, b4, -⟩ := hy2 b2
                rw [b3] at b4
                exact Or.inr ⟨b4, h⟩
          rw [e8]
    · rintro ⟨x, T, r⟩ ⟨hx, tn, g1, g2, g3⟩
      dsimp only at hx g2 g3
      subst hx
      refine ⟨(T, r), ?_, tn, g1, g2, g3⟩
      show bX7_turnArrows_10 w f t (nI 24) T r = _
      unfold bX7_turnArrows_10
      rw [n_lit 24, if_pos (by rw [n_le (by omega) (by omega)]; omega)]
    · refine ⟨rfl, fun _ => false, fun a ha => by omega, fun a ha => by omega, fun i _ j _ => ?_⟩
      show bt 0 j = true ↔ _
      rw [b_0]
      constructor
      · intro h; cases h
      · intro h
        obtain ⟨b, hb, -⟩ := g_src h
        omega
  obtain ⟨⟨T', r'⟩, h1, tn, h2, h3, h4⟩ := H9
  refine ⟨T', r', tn, ?_, h2, h3, h4⟩
  unfold q_b2
  rw [h1]
  rfl