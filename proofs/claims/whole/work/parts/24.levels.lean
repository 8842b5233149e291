/-! PURE: the class's layers. bx: a box is there; pn, pv: pinned, and where. -/
theorem p_layerOf {L : Nat → Int32} {i : Nat} (hi : i < 16) : fX3_layerOf L (nI i) = some (L i) := by
  unfold fX3_layerOf
  simp only [nI_clamp (show i < 2 ^ 31 by omega)]
  rw [if_neg (nI_pos (by omega)), n_lit 16, if_neg (by rw [n_le (by omega) (by omega)]; omega), if_pos (n_in hi (by decide))]
theorem p_layerOfN {L : Nat → Int32} : fX3_layerOf L (-1) = some (-1) := by
  unfold fX3_layerOf
  rw [if_pos (by decide)]
theorem p_top {L : Nat → Int32} {i : Nat} (hi : i < 24) : fX3_top L (nI i) = some (L i) := by
  unfold fX3_top
  simp only [nI_clamp (show i < 2 ^ 31 by omega)]
  rw [if_neg (nI_pos (by omega)), n_lit 24, if_neg (by rw [n_le (by omega) (by omega)]; omega), if_pos (n_in hi (by decide))]
theorem p_bottom {L : Nat → Int32} {i : Nat} (hi : i < 24) : fX3_bottom L (nI i) = some (L i) := by
  unfold fX3_bottom
  simp only [nI_clamp (show i < 2 ^ 31 by omega)]
  rw [if_neg (nI_pos (by omega)), n_lit 24, if_neg (by rw [n_le (by omega) (by omega)]; omega), if_pos (n_in hi (by decide))]
/-- the class's arrows with their reversals -/
def c_T (tn : Nat → Bool) (T : Nat → Int32) : Prop := ∀ a, a < 24 → T a = if tn a then 1 else 0
theorem p_upperBox {ex : Nat → Bool} {fr to : Nat → Nat} {tn : Nat → Bool} {w f t T : Nat → Int32} (hG : c_G ex fr to w f t) (hT : c_T tn T) {a : Nat} (ha : a < 24) : fX7_upperBox f t T (nI a) = some (if ex a then nI (g_up fr to tn a) else -1) := by
  unfold fX7_upperBox g_up
  simp only [nI_clamp (show a < 2 ^ 31 by omega)]
  obtain ⟨h1, h2⟩ := hG a ha
  have hin : q_in (nI a) 24 := n_in ha (by decide)
  rw [p_hasArrow ha]
  simp only [Option.bind_some]
  cases he : ex a with
  | false => rw [if_pos (h1 he), if_pos rfl]; rfl
  | true =>
    obtain ⟨e1, e2, e3, e4, e5, e6, e7⟩ := h2 he
    have hfa : ¬ f a = -1 := by rw [e4]; exact n_m1 (by omega)
    rw [if_neg hfa, if_neg (by decide), if_pos hin, hT a ha]
    cases htn : tn a with
    | true => rw [if_neg (by decide), if_pos hin, e5]; rfl
    | false => rw [if_pos (by decide), if_pos hin, e4]; rfl
theorem p_lowerBox {ex : Nat → Bool} {fr to : Nat → Nat} {tn : Nat → Bool} {w f t T : Nat → Int32} (hG : c_G ex fr to w f t) (hT : c_T tn T) {a : Nat} (ha : a < 24) : fX7_lowerBox f t T (nI a) = some (if ex a then nI (g_lo fr to tn a) else -1) := by
  unfold fX7_lowerBox g_lo
  simp only [nI_clamp (show a < 2 ^ 31 by omega)]
  obtain ⟨h1, h2⟩ := hG a ha
  have hin : q_in (nI a) 24 := n_in ha (by decide)
  rw [p_hasArrow ha]
  simp only [Option.bind_some]
  cases he : ex a with
  | false => rw [if_pos (h1 he), if_pos rfl]; rfl
  | true =>
    obtain ⟨e1, e2, e3, e4, e5, e6, e7⟩ := h2 he
    have hfa : ¬ f a = -1 := by rw [e4]; exact n_m1 (by omega)
    rw [if_neg hfa, if_neg (by decide), if_pos hin, hT a ha]
    cases htn : tn a with
    | true => rw [if_neg (by decide), if_pos hin, e4]; rfl
    | false => rw [if_pos (by decide), if_pos hin, e5]; rfl
/-- the class's boxes and pins -/
def c_B (bx pn : Nat → Bool) (pv : Nat → Nat) (w p : Nat → Int32) : Prop := ∀ b, b < 16 → (bx b = true ↔ ¬ w b ≤ 0) ∧ (bx b = true → p b = if pn b then nI (pv b) else -1) ∧ pv b ≤ 8
theorem p_isPinned {bx pn : Nat → Bool} {pv : Nat → Nat} {w p : Nat → Int32} (hB : c_B bx pn pv w p) {b : Nat} (hb : b < 16) : fX7_isPinned w p (nI b) = some (if bx b && pn b then 1 else 0) := by
  unfold fX7_isPinned
  simp only [nI_clamp (show b < 2 ^ 31 by omega)]
  obtain ⟨h1, h2, h3⟩ := hB b hb
  rw [p_hasBox hb]
  simp only [Option.bind_some]
  cases hbx : bx b with
  | false =>
    have hw0 : w b ≤ 0 := Classical.byContradiction fun h => by rw [h1.mpr h] at hbx; cases hbx
    rw [if_pos hw0, if_pos rfl]
    rfl
  | true =>
    rw [if_neg (h1.mp hbx), if_neg (by decide), if_pos (n_in hb (by decide)), h2 hbx]
    cases hpn : pn b with
    | true =>
      have h9 : ¬ (if true = true then nI (pv b) else -1) = -1 := n_m1 (by omega)
      rw [if_neg h9]; rfl
    | false => rw [if_pos (by simp)]; rfl
theorem p_pinOf {bx pn : Nat → Bool} {pv : Nat → Nat} {w p : Nat → Int32} (hB : c_B bx pn pv w p) {b : Nat} (hb : b < 16) (hbx : bx b = true) : fX7_pinOf w p (nI b) = some (if pn b then nI (pv b) else -1) := by
  unfold fX7_pinOf
  simp only [nI_clamp (show b < 2 ^ 31 by omega)]
  obtain ⟨h1, h2, h3⟩ := hB b hb
  rw [p_hasBox hb]
  simp only [Option.bind_some]
  rw [if_neg (h1.mp hbx), if_neg (by decide), if_pos (n_in hb (by decide)), h2 hbx]
def g_l0 (pn : Nat → Bool) (pv : Nat → Nat) (b : Nat) : Nat := if pn b then pv b else 0
/-- the class's table of layers -/
def c_L (bx : Nat → Bool) (lay : Nat → Nat) (L : Nat → Int32) : Prop := ∀ b, b < 16 → L b = if bx b then nI (lay b) else -1
theorem p_lift {bx pn : Nat → Bool} {pv : Nat → Nat} {w p : Nat → Int32} (hB : c_B bx pn pv w p) (L0 : Nat → Int32) : ∃ L', fX3_lift w p L0 = some L' ∧ c_L bx (g_l0 pn pv) L' := by
  unfold fX3_lift
  have H9 : ∃ e, q_lo (fun (st : Int32 × (Nat → Int32)) => bX3_lift_2 w p st.1 st.2) (0, L0) = some e ∧ c_L bx (g_l0 pn pv) e := by
    refine q_inv (fun k (st : Int32 × (Nat → Int32)) => st.1 = nI k ∧ ∀ b, b < k → st.2 b = if bx b then nI (g_l0 pn pv b) else -1) 16 ?_ ?_ (0, L0) ⟨rfl, fun b hb => by omega⟩
    · rintro k ⟨x, L⟩ hk ⟨hx, hL⟩
      dsimp only at hx hL
      subst hx
      show ∃ t, bX3_lift_2 w p (nI k) L = some (.inl t) ∧ _
      unfold bX3_lift_2 jX3_lift_24 jX3_lift_53
      simp only [nI_clamp (show k < 2 ^ 31 by omega)]
      obtain ⟨h1, h2, h3⟩ := hB k hk
      have hin : q_in (nI k) 16 := n_in hk (by decide)
      have fin : ∀ v, v = (if bx k then nI (g_l0 pn pv k) else -1) → ∀ b, b < k + 1 → upd L k v b = if bx b then nI (g_l0 pn pv b) else -1 := by
        intro v hv b hb
        by_cases hbk : b = k
        · subst hbk; rw [pk_us, hv]
        · rw [pk_un hbk]; exact hL b (by omega)
      rw [n_lit 16, if_neg (by rw [n_le (by omega) (by omega)]; omega), p_hasBox hk, p_isPinned hB hk]
      simp only [Option.bind_some]
      cases hbx : bx k with
      | false =>
        have hw0 : w k ≤ 0 := Classical.byContradiction fun h => by rw [h1.mpr h] at hbx; cases hbx
        rw [if_pos hw0, if_pos rfl, if_pos (by simp), if_pos hin]
        exact ⟨_, rfl, nI_1 k, fin _ (by rw [hbx]; rfl)⟩
      | true =>
        rw [if_neg (h1.mp hbx), if_neg (by decide), p_pinOf hB hk hbx]
        simp only [Option.bind_some]
        cases hpn : pn k with
        | true =>
          rw [if_neg (by simp), if_pos hin]
          exact ⟨_, rfl, nI_1 k, fin _ (by rw [hbx]; simp [g_l0, hpn])⟩
        | false =>
          rw [if_pos (by simp), if_pos hin]
          exact ⟨_, rfl, nI_1 k, fin _ (by rw [hbx]; simp [g_l0, hpn]; rfl)⟩
    · rintro ⟨x, L⟩ ⟨hx, hL⟩
      dsimp only at hx hL
      subst hx
      refine ⟨L, ?_, hL⟩
      show bX3_lift_2 w p (nI 16) L = _
      unfold bX3_lift_2
      rw [n_lit 16, if_pos (by rw [n_le (by omega) (by omega)]; omega)]
  obtain ⟨e, h1, h2⟩ := H9
  exact ⟨e, by rw [h1]; rfl, h2⟩
theorem p_sink {ex bx pn : Nat → Bool} {fr to pv : Nat → Nat} {tn : Nat → Bool} {w p f t T : Nat → Int32} (hG : c_G ex fr to w f t) (hT : c_T tn T) (hB : c_B bx pn pv w p) {rk lay : Nat → Nat} (hrk : ∀ a, a < 24 → ex a = true → rk (g_up fr to tn a) < rk (g_lo fr to tn a)) (hrk15 : ∀ b, b < 16 → rk b ≤ 15) (hlay : ∀ b, b < 16 → lay b ≤ 8 + rk b) {L : Nat → Int32} (hL : c_L bx lay L) :
    ∃ L', fX3_sink w p f t T L = some L' ∧ c_L bx (g_sink ex (g_up fr to tn) (g_lo fr to tn) pn lay 24) L' := by
  have hu : ∀ a, a < 24 → ex a = true → g_up fr to tn a < 16 ∧ g_lo fr to tn a < 16 ∧ bx (g_up fr to tn a) = true ∧ bx (g_lo fr to tn a) = true := by
    intro a ha he
    obtain ⟨e1, e2, e3, e4, e5, e6, e7⟩ := (hG a ha).2 he
    have b1 := (hB _ e1).1.mpr e6
    have b2 := (hB _ e2).1.mpr e7
    unfold g_up g_lo
    cases tn a
    · exact ⟨e1, e2, b1, b2⟩
    · exact ⟨e2, e1, b2, b1⟩
  unfold fX3_sink
  have H9 : ∃ e, q_lo (fun (st : Int32 × (Nat → Int32)) => bX3_sink_2 w p f t T st.1 st.2) (0, L) = some e ∧ c_L bx (g_sink ex (g_up fr to tn) (g_lo fr to tn) pn lay 24) e := by
    refine q_inv (fun k (st : Int32 × (Nat → Int32)) => st.1 = nI k ∧ c_L bx (g_sink ex (g_up fr to tn) (g_lo fr to tn) pn lay k) st.2) 24 ?_ ?_ (0, L) ⟨rfl, hL⟩
    · rintro k ⟨x, q⟩ hk ⟨hx, hq⟩
      dsimp only at hx hq
      subst hx
      have hbd := g_sink_bound (pn := pn) hrk (fun a ha he => ⟨(hu a ha he).1, (hu a ha he).2.1⟩) hlay k (by omega)
      show ∃ t9, bX3_sink_2 w p f t T (nI k) q = some (.inl t9) ∧ _
      unfold bX3_sink_2 jX3_sink_58 jX3_sink_59 jX3_sink_89
      rw [n_lit 24, if_neg (by rw [n_le (by omega) (by omega)]; omega), p_lowerBox hG hT hk, p_upperBox hG hT hk]
      simp only [Option.bind_some]
      show ∃ t9 : Int32 × (Nat → Int32), _ ∧ t9.1 = nI (k + 1) ∧ c_L bx (g_s1 ex (g_up fr to tn) (g_lo fr to tn) pn (g_sink ex (g_up fr to tn) (g_lo fr to tn) pn lay k) k) t9.2
      generalize g_sink ex (g_up fr to tn) (g_lo fr to tn) pn lay k = l at hq hbd
      cases he : ex k with
      | false =>
        rw [if_neg (by simp), if_neg (by simp), p_layerOfN]
        simp only [Option.bind_some]
        rw [p_hasBoxN]
        simp only [Option.bind_some]
        rw [if_pos trivial, if_pos trivial]
        refine ⟨_, rfl, nI_1 k, ?_⟩
        have : g_s1 ex (g_up fr to tn) (g_lo fr to tn) pn l k = l := by unfold g_s1; rw [if_neg (by rw [he]; simp)]
        rw [this]
        exact hq
      | true =>
        obtain ⟨u1, u2, u3, u4⟩ := hu k hk he
        generalize hup : g_up fr to tn k = u at u1 u3
        generalize hlo : g_lo fr to tn k = v at u2 u4
        rw [if_pos rfl, if_pos rfl, p_layerOf u1]
        simp only [Option.bind_some]
        rw [p_hasBox u2, if_neg ((hB v u2).1.mp u4), p_isPinned hB u2, hq u u1, u3]
        simp only [Option.bind_some, nI_clamp (show v < 2 ^ 31 by omega)]
        have hg : g_s1 ex (g_up fr to tn) (g_lo fr to tn) pn l k = if pn v = false ∧ l v < l u + 1 then (fun b => if b = v then l u + 1 else l b) else l := by
          unfold g_s1
          rw [hup, hlo]
          simp [he]
        have hin : q_in (nI v) 16 := n_in u2 (by decide)
        have hqv : q v = nI (l v) := by rw [hq v u2, u4]; rfl
        have b1 := hbd u u1
        have b2 := hbd v u2
        have b3 := hrk15 u u1
        have b4 := hrk15 v u2
        have hrk' := hrk k hk he
        rw [hup, hlo] at hrk'
        rw [if_neg (by decide), u4]
        cases hpn : pn v with
        | true =>
          rw [if_neg (by simp), if_pos trivial]
          refine ⟨_, rfl, nI_1 k, ?_⟩
          rw [hg, if_neg (by rw [hpn]; simp)]
          exact hq
        | false =>
          rw [if_pos (by simp), if_neg (by decide), if_pos hin, hqv]
          rw [if_pos trivial, nI_1]
          by_cases hc : l u + 1 ≤ l v
          · rw [if_pos (by rw [n_le (by omega) (by omega)]; exact hc)]
            refine ⟨_, rfl, nI_1 k, ?_⟩
            rw [hg, if_neg (by omega)]
            exact hq
          · rw [if_neg (by rw [n_le (by omega) (by omega)]; exact hc), if_neg (by rw [n_le (by omega) (by omega)]; omega), if_pos hin]
            refine ⟨_, rfl, nI_1 k, ?_⟩
            rw [hg, if_pos ⟨hpn, by omega⟩]
            intro b hb
            show upd q v (nI (l u + 1)) b = _
            by_cases hbv : b = v
            · subst hbv; rw [pk_us, u4]; simp
            · rw [pk_un hbv, hq b hb]; simp [hbv]
    · rintro ⟨x, q⟩ ⟨hx, hq⟩
      dsimp only at hx hq
      subst hx
      refine ⟨q, ?_, hq⟩
      show bX3_sink_2 w p f t T (nI 24) q = _
      unfold bX3_sink_2
      rw [n_lit 24, if_pos (by rw [n_le (by omega) (by omega)]; omega)]
  obtain ⟨e, h1, h2⟩ := H9
  exact ⟨e, by rw [h1]; rfl, h2⟩
