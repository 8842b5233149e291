/-! PURE: the reference's own search. -/
def m_G (ex : Nat → Bool) (fr to : Nat → Nat) (A F T : Nat → Int32) : Prop := ∀ a, a < 24 → A a = (if ex a then 1 else 0) ∧ (ex a = true → fr a < 16 ∧ to a < 16 ∧ fr a ≠ to a ∧ F a = nI (fr a) ∧ T a = nI (to a))
theorem n_tf_not {x : Int32} (h : q_tf x) (h0 : ¬ x = 0) : x = 1 := h.elim (fun e => absurd e h0) id
theorem p_round {ex : Nat → Bool} {fr to : Nat → Nat} {tn : Nat → Bool} {A F T U : Nat → Int32} (hG : m_G ex fr to A F T) {n : Nat} (hn : n ≤ 24) (hU : ∀ b, b < n → U b = if tn b then 1 else 0) (c : Nat → Int32) (hc : ∀ j, j < 16 → q_tf (c j)) (x2 x4 : Int32) :
    ∃ c', q_lo (fun (st : Int32 × (Nat → Int32)) => bX10_leads_47 A F T U x2 (nI n) x4 st.1 st.2) (0, c) = some c' ∧ (∀ j, j < 16 → q_tf (c' j)) ∧ (∀ j, j < 16 → c j = 1 → c' j = 1) ∧
      (∀ S : Nat → Prop, (∀ j, j < 16 → c j = 1 → S j) → (∀ u v, g_K ex fr to tn n u v → S u → S v) → ∀ j, j < 16 → c' j = 1 → S j) ∧ (∀ b, b < n → ex b = true → tn b = false → c (fr b) = 1 → c' (to b) = 1) := by
  refine q_inv (B := fun (st : Int32 × (Nat → Int32)) => bX10_leads_47 A F T U x2 (nI n) x4 st.1 st.2)
    (fun i st => st.1 = nI i ∧ (∀ j, j < 16 → q_tf (st.2 j)) ∧ (∀ j, j < 16 → c j = 1 → st.2 j = 1) ∧
      (∀ S : Nat → Prop, (∀ j, j < 16 → c j = 1 → S j) → (∀ u v, g_K ex fr to tn n u v → S u → S v) → ∀ j, j < 16 → st.2 j = 1 → S j) ∧ (∀ b, b < i → ex b = true → tn b = false → c (fr b) = 1 → st.2 (to b) = 1)) n ?_ ?_ (0, c) ⟨rfl, hc, fun _ _ h => h, fun S h _ => h, fun b hb => by omega⟩
  · rintro i ⟨x, q⟩ hi ⟨hx, h1, h2, h3, h4⟩
    dsimp only at hx h1 h2 h3 h4
    subst hx
    obtain ⟨hA, hE⟩ := hG i (by omega)
    have hin : q_in (nI i) 24 := n_in (by omega) (by decide)
    show ∃ t, bX10_leads_47 A F T U x2 (nI n) x4 (nI i) q = some (.inl t) ∧ _
    unfold bX10_leads_47 jX10_leads_101
    simp only [nI_clamp (show i < 2 ^ 31 by omega)]
    rw [if_neg (by rw [n_le (by omega) (by omega)]; omega), if_pos hin]
    cases hex : ex i with
    | false =>
      rw [if_pos (by rw [hA, hex]; rfl)]
      refine ⟨_, rfl, nI_1 i, h1, h2, h3, fun b hb e1 e2 e3 => ?_⟩
      by_cases hbi : b = i
      · subst hbi; rw [hex] at e1; cases e1
      · exact h4 b (by omega) e1 e2 e3
    | true =>
      obtain ⟨e1, e2, -, e4, e5⟩ := hE hex
      rw [if_neg (by rw [hA, hex]; decide), if_pos hin]
      cases htn : tn i with
      | true =>
        rw [if_neg (by rw [hU i hi, htn]; decide)]
        refine ⟨_, rfl, nI_1 i, h1, h2, h3, fun b hb f1 f2 f3 => ?_⟩
        by_cases hbi : b = i
        · subst hbi; rw [htn] at f2; cases f2
        · exact h4 b (by omega) f1 f2 f3
      | false =>
        rw [if_pos (by rw [hU i hi, htn]; rfl), if_pos hin, e4, if_pos (n_in e1 (by decide)), nI_clamp (by omega)]
        by_cases hq : q (fr i) = 0
        · rw [if_pos hq]
          refine ⟨_, rfl, nI_1 i, h1, h2, h3, fun b hb f1 f2 f3 => ?_⟩
          by_cases hbi : b = i
          · subst hbi
            have := h2 _ e1 f3
            rw [hq] at this
            exact absurd this (by decide)
          · exact h4 b (by omega) f1 f2 f3
        · have hq1 := n_tf_not (h1 _ e1) hq
          rw [if_neg hq, if_pos hin, e5, if_pos (n_in e2 (by decide)), nI_clamp (by omega)]
          refine ⟨_, rfl, nI_1 i, fun j hj => ?_, fun j hj hcj => ?_, fun S s1 s2 j hj hj1 => ?_, fun b hb f1 f2 f3 => ?_⟩
          · show q_tf (upd q (to i) 1 j)
            by_cases hji : j = to i
            · subst hji; rw [pk_us]; exact n_tf1
            · rw [pk_un hji]; exact h1 j hj
          · show upd q (to i) 1 j = 1
            by_cases hji : j = to i
            · subst hji; rw [pk_us]
            · rw [pk_un hji]; exact h2 j hj hcj
          · have hj2 : upd q (to i) 1 j = 1 := hj1
            by_cases hji : j = to i
            · subst hji; exact s2 (fr i) (to i) ⟨i, hi, hex, htn, rfl, rfl⟩ (h3 S s1 s2 (fr i) e1 hq1)
            · rw [pk_un hji] at hj2; exact h3 S s1 s2 j hj hj2
          · show upd q (to i) 1 (to b) = 1
            by_cases hji : to b = to i
            · rw [hji, pk_us]
            · rw [pk_un hji]
              exact h4 b (by rcases Nat.lt_or_ge b i with h | h; exact h; exact absurd (by rw [show b = i by omega]) hji) f1 f2 f3
  · rintro ⟨x, q⟩ ⟨hx, h1, h2, h3, h4⟩
    dsimp only at hx h1 h2 h3 h4
    subst hx
    refine ⟨q, ?_, h1, h2, h3, h4⟩
    show bX10_leads_47 A F T U x2 (nI n) x4 (nI n) q = _
    unfold bX10_leads_47
    rw [if_pos (Int32.le_refl _)]
/-- how many of the first n have p -/
def g_ct (p : Nat → Bool) : Nat → Nat
  | 0 => 0
  | n + 1 => g_ct p n + (if p n then 1 else 0)
theorem g_ct_le (p : Nat → Bool) : ∀ n, g_ct p n ≤ n
  | 0 => Nat.le_refl _
  | n + 1 => by
    have := g_ct_le p n
    unfold g_ct
    split <;> omega
theorem g_ct_mono {p q : Nat → Bool} : ∀ {n : Nat}, (∀ k, k < n → p k = true → q k = true) → g_ct p n ≤ g_ct q n
  | 0, _ => Nat.le_refl _
  | n + 1, h => by
    have h1 := g_ct_mono (fun k hk => h k (by omega) : ∀ k, k < n → p k = true → q k = true)
    have h2 := h n (by omega)
    unfold g_ct
    cases hp : p n
    · simp; omega
    · rw [h2 hp]; simp; omega
theorem g_ct_lt {p q : Nat → Bool} : ∀ {n : Nat} (k : Nat), k < n → (∀ k, k < n → p k = true → q k = true) → p k = false → q k = true → g_ct p n < g_ct q n
  | 0, k, hk, _, _, _ => by omega
  | n + 1, k, hk, h, h1, h2 => by
    unfold g_ct
    by_cases hkn : k = n
    · subst hkn
      have h3 := g_ct_mono (fun j hj => h j (by omega) : ∀ j, j < k → p j = true → q j = true)
      rw [h1, h2]; simp; omega
    · have h3 := g_ct_lt (n := n) k (by omega) (fun j hj => h j (by omega)) h1 h2
      have h4 := h n (by omega)
      cases hp : p n
      · simp; omega
      · rw [h4 hp]; simp; omega
theorem p_leads {ex : Nat → Bool} {fr to : Nat → Nat} {tn : Nat → Bool} {A F T U : Nat → Int32} (hG : m_G ex fr to A F T) {n x y : Nat} (hn : n ≤ 24) (hx : x < 16) (hy : y < 16) (hU : ∀ b, b < n → U b = if tn b then 1 else 0) (c0 : Nat → Int32) :
    ∃ v c', fX10_leads A F T U c0 (nI x) (nI y) (nI n) = some (v, c') ∧ q_tf v ∧ (v = 1 ↔ x = y ∨ g_R ex fr to tn n x y) := by
  unfold fX10_leads
  -- the first marks
  obtain ⟨c1, a1, a2⟩ := q_inv (B := fun (st : Int32 × (Nat → Int32)) => bX10_leads_3 (nI x) (nI y) (nI n) st.1 st.2)
    (Post := fun c => ∀ j, j < 16 → c j = if j = x then 1 else 0)
    (fun i st => st.1 = nI i ∧ ∀ j, j < i → st.2 j = if j = x then 1 else 0) 16 (by
      rintro i ⟨z, q⟩ hi ⟨hz, h1⟩
      dsimp only at hz h1
      subst hz
      show ∃ t, bX10_leads_3 (nI x) (nI y) (nI n) (nI i) q = some (.inl t) ∧ _
      unfold bX10_leads_3 jX10_leads_27
      have hin : q_in (nI i) 16 := n_in hi (by decide)
      simp only [nI_clamp (show i < 2 ^ 31 by omega)]
      have hix' : (nI i = nI x) ↔ i = x := nI_eq (by omega) (by omega)
      rw [n_lit 16, if_neg (by rw [n_le (by omega) (by omega)]; omega), if_pos hin, if_pos hin, if_pos n_tf1, if_pos n_tf0]
      by_cases hix : i = x
      · rw [if_pos (hix'.mpr hix)]
        refine ⟨_, rfl, nI_1 i, fun j hj => ?_⟩
        show upd q i 1 j = _
        by_cases hji : j = i
        · subst hji; rw [pk_us, if_pos hix]
        · rw [pk_un hji, h1 j (by omega)]
      · rw [if_neg (fun h => hix (hix'.mp h))]
        refine ⟨_, rfl, nI_1 i, fun j hj => ?_⟩
        show upd q i 0 j = _
        by_cases hji : j = i
        · subst hji; rw [pk_us, if_neg hix]
        · rw [pk_un hji, h1 j (by omega)]) (by
      rintro ⟨z, q⟩ ⟨hz, h1⟩
      dsimp only at hz h1
      subst hz
      refine ⟨q, ?_, h1⟩
      show bX10_leads_3 (nI x) (nI y) (nI n) (nI 16) q = _
      unfold bX10_leads_3
      rw [n_lit 16, if_pos (by rw [n_le (by omega) (by omega)]; omega)]) (0, c0) ⟨rfl, fun j hj => by omega⟩
  rw [a1]
  simp only [Option.bind_some]
  -- the rounds
  obtain ⟨c2, b1, b2, b3, b4, b5⟩ := q_inv (B := fun (st : Int32 × (Nat → Int32)) => bX10_leads_37 A F T U (nI y) (nI n) st.1 st.2)
    (Post := fun c => (∀ j, j < 16 → q_tf (c j)) ∧ c x = 1 ∧ (∀ j, j < 16 → c j = 1 → x = j ∨ g_R ex fr to tn n x j) ∧ ∀ b, b < n → ex b = true → tn b = false → c (fr b) = 1 → c (to b) = 1)
    (fun r st => st.1 = nI r ∧ (∀ j, j < 16 → q_tf (st.2 j)) ∧ st.2 x = 1 ∧ (∀ j, j < 16 → st.2 j = 1 → x = j ∨ g_R ex fr to tn n x j) ∧ ((∀ b, b < n → ex b = true → tn b = false → st.2 (fr b) = 1 → st.2 (to b) = 1) ∨ r + 1 ≤ g_ct (fun j => decide (st.2 j = 1)) 16)) 16 (by
      rintro r ⟨z, q⟩ hr ⟨hz, h1, h2, h3, h4⟩
      dsimp only at hz h1 h2 h3 h4
      subst hz
      show ∃ t, bX10_leads_37 A F T U (nI y) (nI n) (nI r) q = some (.inl t) ∧ _
      unfold bX10_leads_37
      rw [n_lit 16, if_neg (by rw [n_le (by omega) (by omega)]; omega)]
      obtain ⟨q2, d1, d2, d3, d4, d5⟩ := p_round hG hn hU q h1 (nI y) (nI r)
      rw [d1]
      simp only [Option.bind_some]
      have hgr : ∀ b, b < n → ex b = true → fr b < 16 ∧ to b < 16 := fun b hb he => ⟨((hG b (by omega)).2 he).1, ((hG b (by omega)).2 he).2.1⟩
      refine ⟨_, rfl, nI_1 r, d2, d3 x hx h2, fun j hj hj1 => ?_, ?_⟩
      · refine d4 (fun j => x = j ∨ g_R ex fr to tn n x j) h3 (fun u v k hu => ?_) j hj hj1
        rcases hu with hu | hu
        · subst hu; exact Or.inr (.single k)
        · exact Or.inr (.tail hu k)
      · show (∀ b, b < n → ex b = true → tn b = false → q2 (fr b) = 1 → q2 (to b) = 1) ∨ r + 1 + 1 ≤ g_ct (fun j => decide (q2 j = 1)) 16
        by_cases hcl : ∀ b, b < n → ex b = true → tn b = false → q (fr b) = 1 → q (to b) = 1
        · left
          have same : ∀ j, j < 16 → q2 j = 1 → q j = 1 := by
            intro j hj hj1
            have := d4 (fun j => j < 16 → q j = 1) (fun j _ h _ => h) (fun u v k hu hv => by
              obtain ⟨b, k1, k2, k3, k4, k5⟩ := k
              obtain ⟨l1, l2⟩ := hgr b k1 k2
              rw [← k5]
              exact hcl b k1 k2 k3 (by rw [k4]; exact hu (by rw [← k4]; exact l1))) j hj hj1
            exact this hj
          intro b hb f1 f2 f3
          obtain ⟨l1, l2⟩ := hgr b hb f1
          exact d5 b hb f1 f2 (same _ l1 f3)
        · right
          rcases h4 with h4 | h4
          · exact absurd h4 hcl
          · have : ∃ b, b < n ∧ ex b = true ∧ tn b = false ∧ q (fr b) = 1 ∧ ¬ q (to b) = 1 := by
              apply Classical.byContradiction
              intro hno
              exact hcl (fun b k1 k2 k3 k4 => Classical.byContradiction (fun k5 => hno ⟨b, k1, k2, k3, k4, k5⟩))
            obtain ⟨b, k1, k2, k3, k4, k5⟩ := this
            obtain ⟨l1, l2⟩ := hgr b k1 k2
            have := g_ct_lt (p := fun j => decide (q j = 1)) (q := fun j => decide (q2 j = 1)) (n := 16) (to b) l2 (fun j hj h => by
              simp only [decide_eq_true_eq] at h ⊢
              exact d3 j hj h) (by simpa using k5) (by simpa using d5 b k1 k2 k3 k4)
            omega) (by
      rintro ⟨z, q⟩ ⟨hz, h1, h2, h3, h4⟩
      dsimp only at hz h1 h2 h3 h4
      subst hz
      refine ⟨q, ?_, h1, h2, h3, ?_⟩
      · show bX10_leads_37 A F T U (nI y) (nI n) (nI 16) q = _
        unfold bX10_leads_37
        rw [n_lit 16, if_pos (by rw [n_le (by omega) (by omega)]; omega)]
      · rcases h4 with h4 | h4
        · exact h4
        · have := g_ct_le (fun j => decide (q j = 1)) 16
          omega) (0, c1) ⟨rfl, fun j hj => by
        show q_tf (c1 j)
        rw [a2 j hj]
        by_cases hjx : j = x
        · rw [if_pos hjx]; exact n_tf1
        · rw [if_neg hjx]; exact n_tf0, by show c1 x = 1; rw [a2 x hx, if_pos rfl], fun j hj h => by
        have h' : c1 j = 1 := h
        rw [a2 j hj] at h'
        by_cases hjx : j = x
        · exact Or.inl hjx.symm
        · rw [if_neg hjx] at h'; exact absurd h' (by decide), Or.inr (by
        show 0 + 1 ≤ g_ct (fun j => decide (c1 j = 1)) 16
        have := g_ct_lt (p := fun _ => false) (q := fun j => decide (c1 j = 1)) (n := 16) x hx (fun _ _ h => by cases h) rfl (by simp [a2 x hx])
        omega)⟩
  rw [b1]
  simp only [Option.bind_some]
  rw [if_pos (n_in hy (by decide)), nI_clamp (by omega), if_pos (b2 y hy)]
  refine ⟨_, _, rfl, b2 y hy, fun h => b4 y hy h, ?_⟩
  rintro (h | h)
  · subst h; exact b3
  · have key : ∀ j, g_R ex fr to tn n x j → c2 j = 1 := by
      intro j t
      induction t with
      | single k =>
        obtain ⟨b, k1, k2, k3, k4, k5⟩ := k
        rw [← k5]
        exact b5 b k1 k2 k3 (by rw [k4]; exact b3)
      | tail _ k ih =>
        obtain ⟨b, k1, k2, k3, k4, k5⟩ := k
        rw [← k5]
        exact b5 b k1 k2 k3 (by rw [k4]; exact ih)
    exact key y h
theorem p_turn {ex : Nat → Bool} {fr to : Nat → Nat} {A F T : Nat → Int32} (hG : m_G ex fr to A F T) (U0 c0 : Nat → Int32) : ∃ U' c' tn, fX10_turn A F T U0 c0 = some (U', c') ∧ g_T ex fr to tn 24 ∧ ∀ a, a < 24 → U' a = if tn a then 1 else 0 := by
  unfold fX10_turn
  have H9 : ∃ e, q_lo (fun (st : Int32 × (Nat → Int32) × (Nat → Int32)) => bX10_turn_2 A F T st.1 st.2.1 st.2.2) (0, U0, c0) = some e ∧ (fun e => ∃ tn, g_T ex fr to tn 24 ∧ ∀ a, a < 24 → e.1 a = if tn a then 1 else 0) e := by
    refine q_inv (B := fun (st : Int32 × (Nat → Int32) × (Nat → Int32)) => bX10_turn_2 A F T st.1 st.2.1 st.2.2)
      (Post := fun e => ∃ tn, g_T ex fr to tn 24 ∧ ∀ a, a < 24 → e.1 a = if tn a then 1 else 0)
      (fun k st => st.1 = nI k ∧ ∃ tn, g_T ex fr to tn k ∧ ∀ a, a < k → st.2.1 a = if tn a then 1 else 0) 24 ?_ ?_ (0, U0, c0) ⟨rfl, fun _ => false, fun a ha => by omega, fun a ha => by omega⟩
    · rintro k ⟨x, U, c⟩ hk ⟨hx, tn, g1, g2⟩
      dsimp only at hx g2
      subst hx
      obtain ⟨hA, hE⟩ := hG k hk
      have hin : q_in (nI k) 24 := n_in hk (by decide)
      have ext : ∀ v : Bool, (∀ b, b < k → tn b = (fun b => if b = k then v else tn b) b) := fun v b hb => by simp [Nat.ne_of_lt hb]
      have nextT : ∀ v : Bool, (v = true ↔ ex k = true ∧ g_R ex fr to tn k (to k) (fr k)) → g_T ex fr to (fun b => if b = k then v else tn b) (k + 1) := by
        intro v hv a ha
        by_cases hak : a = k
        · subst hak
          show (if a = a then v else tn a) = true ↔ _
          rw [if_pos rfl, hv, g_R_congr (ext v)]
        · show (if a = k then v else tn a) = true ↔ _
          rw [if_neg hak, g1 a (by omega), g_R_congr (fun b hb => ext v b (by omega))]
      have nextR : ∀ v : Bool, ∀ a, a < k + 1 → upd U k (if v then 1 else 0) a = if (fun b => if b = k then v else tn b) a then 1 else 0 := by
        intro v a ha
        by_cases hak : a = k
        · subst hak; rw [pk_us]; simp
        · rw [pk_un hak, g2 a (by omega)]; simp [hak]
      show ∃ t9, bX10_turn_2 A F T (nI k) U c = some (.inl t9) ∧ _
      unfold bX10_turn_2 jX10_turn_46 jX10_turn_47
      simp only [nI_clamp (show k < 2 ^ 31 by omega)]
      rw [n_lit 24, if_neg (by rw [n_le (by omega) (by omega)]; omega), if_pos hin]
      cases hex : ex k with
      | false =>
        rw [if_pos (by rw [hA, hex]; rfl), if_pos hin, if_pos n_tf0]
        exact ⟨_, rfl, nI_1 k, fun b => if b = k then false else tn b, nextT false (by simp [hex]), nextR false⟩
      | true =>
        obtain ⟨e1, e2, e3, e4, e5⟩ := hE hex
        obtain ⟨v, c2, l1, l2, l3⟩ := p_leads hG (n := k) (x := to k) (y := fr k) (by omega) e2 e1 g2 c
        rw [if_neg (by rw [hA, hex]; decide), if_pos hin, if_pos hin, e4, e5, l1]
        unfold q_b2
        simp only [Option.bind_some]
        by_cases hv : v = 0
        · rw [if_pos hv, if_pos hin, if_pos n_tf0]
          refine ⟨_, rfl, nI_1 k, fun b => if b = k then false else tn b, nextT false ⟨(fun h => by cases h), fun h => ?_⟩, nextR false⟩
          have := l3.mpr (Or.inr h.2)
          rw [hv] at this
          exact absurd this (by decide)
        · rw [if_neg hv, if_pos hin, if_pos n_tf1]
          refine ⟨_, rfl, nI_1 k, fun b => if b = k then true else tn b, nextT true ⟨fun _ => ⟨hex, ?_⟩, fun _ => rfl⟩, nextR true⟩
          rcases l3.mp (n_tf_not l2 hv) with h | h
          · exact absurd h.symm e3
          · exact h
    · rintro ⟨x, U, c⟩ ⟨hx, tn, g1, g2⟩
      dsimp only at hx g2
      subst hx
      refine ⟨(U, c), ?_, tn, g1, g2⟩
      show bX10_turn_2 A F T (nI 24) U c = _
      unfold bX10_turn_2
      rw [n_lit 24, if_pos (by rw [n_le (by omega) (by omega)]; omega)]
  obtain ⟨⟨U', c'⟩, h1, tn, h2, h3⟩ := H9
  refine ⟨U', c', tn, ?_, h2, h3⟩
  unfold q_b2
  rw [h1]
  rfl