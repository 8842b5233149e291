/-! PURE: the reference's layers. -/
def m_B (bx pn : Nat → Bool) (pv : Nat → Nat) (X p : Nat → Int32) : Prop := ∀ b, b < 16 → X b = (if bx b then 1 else 0) ∧ (bx b = true → p b = if pn b then nI (pv b) else -1) ∧ pv b ≤ 8
def m_L (bx : Nat → Bool) (lay : Nat → Nat) (L : Nat → Int32) : Prop := ∀ b, b < 16 → bx b = true → L b = nI (lay b)
theorem p_mupper {ex : Nat → Bool} {fr to : Nat → Nat} {tn : Nat → Bool} {A F T U : Nat → Int32} (hG : m_G ex fr to A F T) (hU : c_T tn U) {a : Nat} (ha : a < 24) (he : ex a = true) : fX10_upper F T U (nI a) = some (nI (g_up fr to tn a)) := by
  unfold fX10_upper g_up
  simp only [nI_clamp (show a < 2 ^ 31 by omega)]
  obtain ⟨e1, e2, e3, e4, e5⟩ := (hG a ha).2 he
  have hin : q_in (nI a) 24 := n_in ha (by decide)
  rw [if_pos hin, hU a ha]
  cases htn : tn a with
  | true => rw [if_neg (by decide), if_pos hin, e5]; rfl
  | false => rw [if_pos (by decide), if_pos hin, e4]; rfl
theorem p_mlower {ex : Nat → Bool} {fr to : Nat → Nat} {tn : Nat → Bool} {A F T U : Nat → Int32} (hG : m_G ex fr to A F T) (hU : c_T tn U) {a : Nat} (ha : a < 24) (he : ex a = true) : fX10_lower F T U (nI a) = some (nI (g_lo fr to tn a)) := by
  unfold fX10_lower g_lo
  simp only [nI_clamp (show a < 2 ^ 31 by omega)]
  obtain ⟨e1, e2, e3, e4, e5⟩ := (hG a ha).2 he
  have hin : q_in (nI a) 24 := n_in ha (by decide)
  rw [if_pos hin, hU a ha]
  cases htn : tn a with
  | true => rw [if_neg (by decide), if_pos hin, e4]; rfl
  | false => rw [if_pos (by decide), if_pos hin, e5]; rfl
theorem p_mlift {bx pn : Nat → Bool} {pv : Nat → Nat} {X p : Nat → Int32} (hB : m_B bx pn pv X p) (L0 : Nat → Int32) : ∃ e, q_lo (fun (st : Int32 × (Nat → Int32)) => bX10_layOut_6 p st.1 st.2) (0, L0) = some e ∧ m_L bx (g_l0 pn pv) e := by
  refine q_inv (fun k (st : Int32 × (Nat → Int32)) => st.1 = nI k ∧ ∀ b, b < k → bx b = true → st.2 b = nI (g_l0 pn pv b)) 16 ?_ ?_ (0, L0) ⟨rfl, fun b hb => by omega⟩
  · rintro k ⟨x, L⟩ hk ⟨hx, hL⟩
    dsimp only at hx hL
    subst hx
    show ∃ t, bX10_layOut_6 p (nI k) L = some (.inl t) ∧ _
    unfold bX10_layOut_6 jX10_layOut_36
    simp only [nI_clamp (show k < 2 ^ 31 by omega)]
    obtain ⟨h1, h2, h3⟩ := hB k hk
    have hin : q_in (nI k) 16 := n_in hk (by decide)
    have fin : ∀ v, (bx k = true → v = nI (g_l0 pn pv k)) → ∀ b, b < k + 1 → bx b = true → upd L k v b = nI (g_l0 pn pv b) := by
      intro v hv b hb hbx
      by_cases hbk : b = k
      · subst hbk; rw [pk_us, hv hbx]
      · rw [pk_un hbk]; exact hL b (by omega) hbx
    rw [n_lit 16, if_neg (by rw [n_le (by omega) (by omega)]; omega), if_pos hin]
    by_cases hc : 0 ≤ p k
    · rw [if_pos hc, if_pos hin, if_pos hin]
      refine ⟨_, rfl, nI_1 k, fin _ (fun hbx => ?_)⟩
      rw [h2 hbx] at hc ⊢
      cases hpn : pn k with
      | true => simp [g_l0, hpn]
      | false => rw [hpn] at hc; exact absurd (show (0 : Int32) ≤ -1 from hc) (by decide)
    · rw [if_neg hc, if_pos hin]
      refine ⟨_, rfl, nI_1 k, fin _ (fun hbx => ?_)⟩
      rw [h2 hbx] at hc
      cases hpn : pn k with
      | true => rw [hpn] at hc; exact absurd (nI_pos' (by omega)) hc
      | false => simp [g_l0, hpn]; rfl
  · rintro ⟨x, L⟩ ⟨hx, hL⟩
    dsimp only at hx hL
    subst hx
    refine ⟨L, ?_, hL⟩
    show bX10_layOut_6 p (nI 16) L = _
    unfold bX10_layOut_6
    rw [n_lit 16, if_pos (by rw [n_le (by omega) (by omega)]; omega)]
theorem p_msink {ex bx pn : Nat → Bool} {fr to pv : Nat → Nat} {tn : Nat → Bool} {X p A F T U : Nat → Int32} (hG : m_G ex fr to A F T) (hU : c_T tn U) (hB : m_B bx pn pv X p) (hE : ∀ a, a < 24 → ex a = true → bx (fr a) = true ∧ bx (to a) = true) {rk lay : Nat → Nat} (hrk : ∀ a, a < 24 → ex a = true → rk (g_up fr to tn a) < rk (g_lo fr to tn a)) (hrk15 : ∀ b, b < 16 → rk b ≤ 15) (hlay : ∀ b, b < 16 → lay b ≤ 8 + rk b) {L : Nat → Int32} (hL : m_L bx lay L) (x1 : Int32) :
    ∃ e, q_lo (fun (st : Int32 × (Nat → Int32)) => bX10_layOut_53 p A F T U x1 st.1 st.2) (0, L) = some e ∧ m_L bx (g_sink ex (g_up fr to tn) (g_lo fr to tn) pn lay 24) e := by
  have hu : ∀ a, a < 24 → ex a = true → g_up fr to tn a < 16 ∧ g_lo fr to tn a < 16 ∧ bx (g_up fr to tn a) = true ∧ bx (g_lo fr to tn a) = true := by
    intro a ha he
    obtain ⟨e1, e2, -⟩ := (hG a ha).2 he
    obtain ⟨b1, b2⟩ := hE a ha he
    unfold g_up g_lo
    cases tn a
    · exact ⟨e1, e2, b1, b2⟩
    · exact ⟨e2, e1, b2, b1⟩
  refine q_inv (fun k (st : Int32 × (Nat → Int32)) => st.1 = nI k ∧ m_L bx (g_sink ex (g_up fr to tn) (g_lo fr to tn) pn lay k) st.2) 24 ?_ ?_ (0, L) ⟨rfl, hL⟩
  · rintro k ⟨x, q⟩ hk ⟨hx, hq⟩
    dsimp only at hx hq
    subst hx
    have hbd := g_sink_bound (pn := pn) hrk (fun a ha he => ⟨(hu a ha he).1, (hu a ha he).2.1⟩) hlay k (by omega)
    show ∃ t9, bX10_layOut_53 p A F T U x1 (nI k) q = some (.inl t9) ∧ _
    unfold bX10_layOut_53 jX10_layOut_122 q_let
    simp only [nI_clamp (show k < 2 ^ 31 by omega)]
    have hin : q_in (nI k) 24 := n_in hk (by decide)
    rw [n_lit 24, if_neg (by rw [n_le (by omega) (by omega)]; omega), if_pos hin, (hG k hk).1]
    show ∃ t9 : Int32 × (Nat → Int32), _ ∧ t9.1 = nI (k + 1) ∧ m_L bx (g_s1 ex (g_up fr to tn) (g_lo fr to tn) pn (g_sink ex (g_up fr to tn) (g_lo fr to tn) pn lay k) k) t9.2
    generalize g_sink ex (g_up fr to tn) (g_lo fr to tn) pn lay k = l at hq hbd
    cases he : ex k with
    | false =>
      rw [if_pos (by decide)]
      refine ⟨_, rfl, nI_1 k, ?_⟩
      have : g_s1 ex (g_up fr to tn) (g_lo fr to tn) pn l k = l := by unfold g_s1; rw [if_neg (by rw [he]; simp)]
      rw [this]
      exact hq
    | true =>
      obtain ⟨u1, u2, u3, u4⟩ := hu k hk he
      rw [if_neg (by decide), p_mlower hG hU hk he, p_mupper hG hU hk he]
      generalize hup : g_up fr to tn k = u at u1 u3
      generalize hlo : g_lo fr to tn k = v at u2 u4
      simp only [Option.bind_some, nI_clamp (show v < 2 ^ 31 by omega), nI_clamp (show u < 2 ^ 31 by omega)]
      have hg : g_s1 ex (g_up fr to tn) (g_lo fr to tn) pn l k = if pn v = false ∧ l v < l u + 1 then (fun b => if b = v then l u + 1 else l b) else l := by
        unfold g_s1
        rw [hup, hlo]
        simp [he]
      have hv : q_in (nI v) 16 := n_in u2 (by decide)
      have hu' : q_in (nI u) 16 := n_in u1 (by decide)
      have b1 := hbd u u1
      have b2 := hbd v u2
      have b3 := hrk15 u u1
      have b4 := hrk15 v u2
      rw [if_pos hv, (hB v u2).2.1 u4]
      cases hpn : pn v with
      | true =>
        have h9 : ¬ (if true = true then nI (pv v) else -1) < 0 := nI_pos (by have := (hB v u2).2.2; omega)
        rw [if_neg h9]
        refine ⟨_, rfl, nI_1 k, ?_⟩
        rw [hg, if_neg (by rw [hpn]; simp)]
        exact hq
      | false =>
        have h9 : (if false = true then nI (pv v) else -1) < 0 := (by decide : (-1 : Int32) < 0)
        rw [if_pos h9, if_pos hu', if_pos hv, hq u u1 u3, hq v u2 u4, nI_1]
        by_cases hc : l u + 1 ≤ l v
        · rw [if_pos (by rw [n_le (by omega) (by omega)]; exact hc)]
          refine ⟨_, rfl, nI_1 k, ?_⟩
          rw [hg, if_neg (by omega)]
          exact hq
        · rw [if_neg (by rw [n_le (by omega) (by omega)]; exact hc), if_pos hv]
          refine ⟨_, rfl, nI_1 k, ?_⟩
          rw [hg, if_pos ⟨hpn, by omega⟩]
          intro b hb hbx
          show upd q v (nI (l u + 1)) b = _
          by_cases hbv : b = v
          · subst hbv; rw [pk_us]; simp
          · rw [pk_un hbv, hq b hb hbx]; simp [hbv]
  · rintro ⟨x, q⟩ ⟨hx, hq⟩
    dsimp only at hx hq
    subst hx
    refine ⟨q, ?_, hq⟩
    show bX10_layOut_53 p A F T U x1 (nI 24) q = _
    unfold bX10_layOut_53
    rw [n_lit 24, if_pos (by rw [n_le (by omega) (by omega)]; omega)]
