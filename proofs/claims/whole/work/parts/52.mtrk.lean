/-! PURE: all tracks of the class; the reference's tracks. -/
section TS
variable {ex bx : Nat → Bool} {up lo lay : Nat → Nat} {N : Nat} {row : Nat → List Nat} {wd : Nat → Nat} {X : Nat → Nat → Int} {w sz ar uu ll C : Nat → Int32}
def g_tm (up lo lay wd : Nat → Nat) (X : Nat → Nat → Int) (Lp : Nat → List Nat) (l : Nat) : Nat × (Nat → Int) × (Nat → Nat) := g_ts (g_lft up lo lay wd X l) (g_rt up lo lay wd X l) (Lp l)
def c_Tr (N : Nat) (up lo lay wd : Nat → Nat) (X : Nat → Nat → Int) (Lp : Nat → List Nat) (tr us : Nat → Int32) : Prop := ∀ l, l < 24 → (l + 1 < N → us l = nI (g_tm up lo lay wd X Lp l).1 ∧ ∀ a, a < 24 → tr (l * 24 + a) = if a ∈ Lp l then nI ((g_tm up lo lay wd X Lp l).2.2 a) else -1) ∧ (N ≤ l + 1 → us l = 0)
theorem g_Lp_sub {l : Nat} {Lp : List Nat} (h : g_Lp ex up lo lay wd X l Lp) : ∀ a, a ∈ Lp → a ∈ g_ps ex up lo lay 24 l ∧ a < 24 ∧ g_um up lay wd X l a ≠ g_lm lo lay wd X l a := by
  intro a ha
  have h1 := List.mem_filter.mp (h.1.mem_iff.mp ha)
  exact ⟨h1.1, (g_ps_mem.mp h1.1).1, by simpa using h1.2⟩
theorem g_Lp_nd {l : Nat} {Lp : List Nat} (h : g_Lp ex up lo lay wd X l Lp) : Lp.Nodup := h.1.symm.nodup ((List.nodup_range.filter _).filter _)
theorem g_Lp_len {l : Nat} {Lp : List Nat} (h : g_Lp ex up lo lay wd X l Lp) : Lp.length ≤ 24 := by
  rw [h.1.length_eq]
  exact Nat.le_trans (List.length_filter_le _ _) (g_ps_len 24 l)
theorem p_share (hG : g_G ex up lo bx lay N) (hV : g_V ex up lo bx lay N row) (hP : c_P up lo lay (g_ps ex up lo lay 24) sz ar uu ll) (hW : c_WD N row wd w) (hwd : ∀ c, 1 ≤ wd c ∧ wd c ≤ 50) (hX : c_X N row X C) {M : Int} (hB : g_XB N row wd X M) (hM : M ≤ 1000000) (q r z te : Nat → Int32) :
    ∃ tr us q' r' z' te' Lp, fX8_share w sz ar uu ll C q r z te (nI N) = some (tr, us, q', r', z', te') ∧ (∀ l, l + 1 < N → g_Lp ex up lo lay wd X l (Lp l)) ∧ c_Tr N up lo lay wd X Lp tr us := by
  have hN := hG.1
  have H9 : ∃ e : (Nat → Int32) × (Nat → Int32) × (Nat → Int32) × (Nat → Int32) × (Nat → Int32) × (Nat → Int32), q_lo (fun (st : Int32 × (Nat → Int32) × (Nat → Int32) × (Nat → Int32) × (Nat → Int32) × (Nat → Int32) × (Nat → Int32)) => bX8_share_18 w sz ar uu ll C (nI N) st.1 st.2.1 st.2.2.1 st.2.2.2.1 st.2.2.2.2.1 st.2.2.2.2.2.1 st.2.2.2.2.2.2) (0, (fun _ => (-1)), (fun _ => 0), q, r, z, te) = some e ∧ ∃ Lp : Nat → List Nat, (∀ l, l + 1 < N → g_Lp ex up lo lay wd X l (Lp l)) ∧ c_Tr N up lo lay wd X Lp e.1 e.2.1 := by
    refine q_inv (fun k (st : Int32 × (Nat → Int32) × (Nat → Int32) × (Nat → Int32) × (Nat → Int32) × (Nat → Int32) × (Nat → Int32)) => st.1 = nI k ∧ ∃ Lp : Nat → List Nat, (∀ l, l < k → g_Lp ex up lo lay wd X l (Lp l)) ∧ ∀ l, l < 24 → (l < k → st.2.2.1 l = nI (g_tm up lo lay wd X Lp l).1 ∧ ∀ a, a < 24 → st.2.1 (l * 24 + a) = if a ∈ Lp l then nI ((g_tm up lo lay wd X Lp l).2.2 a) else -1) ∧ (k ≤ l → st.2.2.1 l = 0 ∧ ∀ a, a < 24 → st.2.1 (l * 24 + a) = -1)) (N - 1) ?_ ?_ _ ⟨rfl, fun _ => [], fun l hl => by omega, fun l hl => ⟨fun h => by omega, fun _ => ⟨rfl, fun _ _ => rfl⟩⟩⟩
    · rintro k ⟨x, tr, us, q, r, z, te⟩ hk ⟨h1, Lp, h2, h3⟩
      dsimp only at h1 h2 h3
      subst h1
      obtain ⟨L1, q1, r1, z1, a1, a2, a3⟩ := p_gatherP hG hV hP hW hwd hX hB hM (l := k) (by omega) q r z
      obtain ⟨tr1, us1, te1, b1, b2, b3, b4, b5⟩ := p_shareGap (lf := g_lft up lo lay wd X k) (rt := g_rt up lo lay wd X k) (g_Lp_len a2) (g_Lp_nd a2) (fun a ha => (g_Lp_sub a2 a ha).2.1) (fun a ha => by have := g_lft_b hG hV hB (g_Lp_sub a2 a ha).1; omega) (show k < 24 by omega) a3 tr us te ((h3 k (by omega)).2 (Nat.le_refl _)).1
      show ∃ t9, bX8_share_18 w sz ar uu ll C (nI N) (nI k) tr us q r z te = some (.inl t9) ∧ _
      unfold bX8_share_18 fX4_layers
      rw [s_bind, s_subL (by omega), if_neg (by rw [s_le (by omega) (by omega)]; omega), a1, s_b4, b1, s_b3, s_addL]
      obtain ⟨Lq, hp1, hp2⟩ : ∃ Lq : Nat → List Nat, Lq k = L1 ∧ ∀ i, i ≠ k → Lq i = Lp i := ⟨fun i => if i = k then L1 else Lp i, if_pos rfl, fun i hi => if_neg hi⟩
      refine ⟨_, rfl, rfl, Lq, ?_, ?_⟩
      · intro l hl
        by_cases hlk : l = k
        · subst hlk
          rw [hp1]
          exact a2
        · rw [hp2 l hlk]
          exact h2 l (by omega)
      · intro l hl
        dsimp only
        by_cases hlk : l = k
        · subst hlk
          refine ⟨fun _ => ?_, fun h => by omega⟩
          unfold g_tm
          rw [hp1]
          refine ⟨b2, fun a ha => ?_⟩
          by_cases hm : a ∈ L1
          · rw [if_pos hm]
            exact b4 a hm
          · rw [if_neg hm, b5 _ (fun b hb e => hm (by have := (g_Lp_sub a2 b hb).2.1; rw [show a = b by omega]; exact hb))]
            exact ((h3 l hl).2 (Nat.le_refl _)).2 a ha
        · unfold g_tm
          rw [hp2 l hlk, b3 l hlk]
          have hst : ∀ a, a < 24 → tr1 (l * 24 + a) = tr (l * 24 + a) := fun a ha => b5 _ (fun b hb e => by have := (g_Lp_sub a2 b hb).2.1; omega)
          refine ⟨fun h => ⟨((h3 l hl).1 (by omega)).1, fun a ha => ?_⟩, fun h => ⟨((h3 l hl).2 (by omega)).1, fun a ha => ?_⟩⟩
          · rw [hst a ha]
            exact ((h3 l hl).1 (by omega)).2 a ha
          · rw [hst a ha]
            exact ((h3 l hl).2 (by omega)).2 a ha
    · rintro ⟨x, tr, us, q, r, z, te⟩ ⟨h1, Lp, h2, h3⟩
      dsimp only at h1 h2 h3
      subst h1
      refine ⟨(tr, us, q, r, z, te), ?_, Lp, fun l hl => h2 l (by omega), fun l hl => ⟨fun h => (h3 l hl).1 (by omega), fun h => ((h3 l hl).2 (by omega)).1⟩⟩
      show bX8_share_18 w sz ar uu ll C (nI N) (nI (N - 1)) tr us q r z te = _
      unfold bX8_share_18 fX4_layers
      by_cases h0 : N = 0
      · subst h0
        rw [s_bind, s_01, if_pos (by decide)]
      · rw [s_bind, s_subL (by omega), if_pos (Int32.le_refl _)]
  obtain ⟨⟨z1, z2, z3, z4, z5, z6⟩, h8, Lp, h9, h10⟩ := H9
  refine ⟨z1, z2, z3, z4, z5, z6, Lp, ?_, h9, h10⟩
  unfold fX8_share
  rw [h8, s_b6]
end TS
theorem g_lx_irr {lf : Nat → Int} {a : Nat} : ¬ g_lx lf a a := by
  unfold g_lx
  omega
theorem g_lx_asym {lf : Nat → Int} {a b : Nat} (h : g_lx lf a b) : ¬ g_lx lf b a := by
  unfold g_lx at *
  omega
theorem g_lx_at {lf : Nat → Int} {L : List Nat} (h : L.Pairwise (g_lx lf)) {i j a b : Nat} (hi : L[i]? = some a) (hj : L[j]? = some b) (hij : i < j) : g_lx lf a b := by
  have e1 := g_lt_len hi
  have e2 := g_lt_len hj
  have e3 := (List.pairwise_iff_getElem.mp h) i j e1 e2 hij
  rw [List.getElem?_eq_getElem e1] at hi
  rw [List.getElem?_eq_getElem e2] at hj
  rw [Option.some.inj hi, Option.some.inj hj] at e3
  exact e3
/-- behind those that are taken -/
def g_bh (lf : Nat → Int) (L : List Nat) (i a : Nat) : Prop := i = 0 ∨ ∃ b, L[i - 1]? = some b ∧ g_lx lf b a
theorem g_bh_iff {lf : Nat → Int} {L : List Nat} (h : L.Pairwise (g_lx lf)) {i j a : Nat} (hi : i ≤ L.length) (hj : L[j]? = some a) : g_bh lf L i a ↔ i ≤ j := by
  constructor
  · rintro (h0 | ⟨b, h1, h2⟩)
    · omega
    · rcases Nat.lt_or_ge j i with hlt | hge
      · exfalso
        by_cases e : j = i - 1
        · subst e
          rw [hj] at h1
          cases h1
          exact g_lx_irr h2
        · exact g_lx_asym h2 (g_lx_at h hj h1 (by omega))
      · exact hge
  · intro hij
    by_cases h0 : i = 0
    · exact .inl h0
    · obtain ⟨b, hb⟩ : ∃ b, L[i - 1]? = some b := ⟨_, List.getElem?_eq_getElem (by omega)⟩
      exact .inr ⟨b, hb, g_lx_at h hb hj (by omega)⟩
section TM
variable {ex bx : Nat → Bool} {up lo lay : Nat → Nat} {N : Nat} {row : Nat → List Nat} {wd : Nat → Nat} {X : Nat → Nat → Int} {W A F T U L S I P D Z : Nat → Int32}
theorem p_mleft (hG : g_G ex up lo bx lay N) (hV : g_V ex up lo bx lay N row) (hA : m_A ex up lo A F T U) (hL : m_L bx lay L) (hO : m_O N row S I P D) (hW : m_WD N row wd W) (hwd : ∀ c, 1 ≤ wd c ∧ wd c ≤ 50) (hX : m_Xs N row X Z) {M : Int} (hB : g_XB N row wd X M) (hM : M ≤ 1000000) {l a : Nat} (ha : a ∈ g_ps ex up lo lay 24 l) :
    fX10_left W F T U L I P D Z (nI a) (nI l) = some (iI (g_lft up lo lay wd X l a)) ∧ fX10_right W F T U L I P D Z (nI a) (nI l) = some (iI (g_rt up lo lay wd X l a)) := by
  have hN := hG.1
  obtain ⟨h1, h2⟩ := g_ps_mem.mp ha
  have h3 := g_pc_N hG h1 h2
  have m1 := p_mmid hN hO hW hwd hX (show l < N by omega) (g_at_get (g_uc_mem hG hV h1 h2))
  have m2 := p_mmid hN hO hW hwd hX h3 (g_at_get (g_lc_mem hG hV h1 h2))
  obtain ⟨u1, u2⟩ := p_mup hG hV hA hL hO h1 h2
  obtain ⟨d1, d2⟩ := p_mdn hG hV hA hL hO h1 h2
  obtain ⟨b1, b2⟩ := g_mid_b hG hV hB ha
  have m3 : fX10_middle W I Z (nI l) (nI (g_pu up lay row l a)) = some (iI (g_um up lay wd X l a)) := m1
  have m4 : fX10_middle W I Z (nI (l + 1)) (nI (g_pd lo lay row l a)) = some (iI (g_lm lo lay wd X l a)) := m2
  unfold fX10_left fX10_right g_lft g_rt
  rw [u1, s_bind, s_bind, m3, s_bind, s_bind, d1, s_bind, s_bind, s_addL, m4, s_bind, s_bind]
  by_cases hc : g_lm lo lay wd X l a ≤ g_um up lay wd X l a
  · rw [if_pos (by rw [iI_le (by omega) (by omega) (by omega) (by omega)]; exact hc), if_pos (by rw [iI_le (by omega) (by omega) (by omega) (by omega)]; exact hc)]
    exact ⟨congrArg (fun z => some (iI z)) (by omega), congrArg (fun z => some (iI z)) (by omega)⟩
  · rw [if_neg (by rw [iI_le (by omega) (by omega) (by omega) (by omega)]; exact hc), if_neg (by rw [iI_le (by omega) (by omega) (by omega) (by omega)]; exact hc)]
    exact ⟨congrArg (fun z => some (iI z)) (by omega), congrArg (fun z => some (iI z)) (by omega)⟩
theorem p_mt25 (hG : g_G ex up lo bx lay N) (hV : g_V ex up lo bx lay N row) (hA : m_A ex up lo A F T U) (hL : m_L bx lay L) (hO : m_O N row S I P D) (hW : m_WD N row wd W) (hwd : ∀ c, 1 ≤ wd c ∧ wd c ≤ 50) (hX : m_Xs N row X Z) {M : Int} (hB : g_XB N row wd X M) (hM : M ≤ 1000000) {l : Nat} (hl : l < 24) {Bh : Nat → Prop} {x1 x3 x4 x5 x6 : Int32} (hbh : ∀ a, a ∈ g_ps ex up lo lay 24 l → ((x5 < iI (g_lft up lo lay wd X l a) ∨ (iI (g_lft up lo lay wd X l a) = x5 ∧ ¬ nI a ≤ x6)) ↔ Bh a)) :
    ∃ e, q_lo (fun (st : Int32 × Int32) => bX10_track_25 W A F T U L I P D Z x1 (nI l) x3 x4 x5 x6 st.1 st.2) ((-1), 0) = some e ∧ ((e = -1 ∧ ∀ a, a ∈ g_prt ex up lo lay wd X 24 l → ¬ Bh a) ∨ ∃ b, e = nI b ∧ b ∈ g_prt ex up lo lay wd X 24 l ∧ Bh b ∧ ∀ a, a ∈ g_prt ex up lo lay wd X 24 l → Bh a → a = b ∨ g_lx (g_lft up lo lay wd X l) b a) := by
  have hprt : ∀ a, a ∈ g_prt ex up lo lay wd X 24 l ↔ a ∈ g_ps ex up lo lay 24 l ∧ g_um up lay wd X l a ≠ g_lm lo lay wd X l a := by
    intro a
    unfold g_prt
    rw [List.mem_filter]
    simp
  refine q_inv (fun n (st : Int32 × Int32) => st.2 = nI n ∧ ((st.1 = -1 ∧ ∀ a, a < n → a ∈ g_prt ex up lo lay wd X 24 l → ¬ Bh a) ∨ ∃ b, b < n ∧ st.1 = nI b ∧ b ∈ g_prt ex up lo lay wd X 24 l ∧ Bh b ∧ ∀ a, a < n → a ∈ g_prt ex up lo lay wd X 24 l → Bh a → a = b ∨ g_lx (g_lft up lo lay wd X l) b a)) 24 ?_ ?_ _ ⟨rfl, .inl ⟨rfl, fun a h => by omega⟩⟩
  · rintro n ⟨x8, x9⟩ hn ⟨h1, h2⟩
    dsimp only at h1 h2
    subst h1
    have skip : (¬ (n ∈ g_prt ex up lo lay wd X 24 l ∧ Bh n)) → ∃ t9 : Int32 × Int32, some (Sum.inl (α := Int32 × Int32) (β := Int32) (x8, nI (n + 1))) = some (.inl t9) ∧ t9.2 = nI (n + 1) ∧ ((t9.1 = -1 ∧ ∀ a, a < n + 1 → a ∈ g_prt ex up lo lay wd X 24 l → ¬ Bh a) ∨ ∃ b, b < n + 1 ∧ t9.1 = nI b ∧ b ∈ g_prt ex up lo lay wd X 24 l ∧ Bh b ∧ ∀ a, a < n + 1 → a ∈ g_prt ex up lo lay wd X 24 l → Bh a → a = b ∨ g_lx (g_lft up lo lay wd X l) b a) := by
      intro hno
      refine ⟨_, rfl, rfl, ?_⟩
      rcases h2 with ⟨k1, k2⟩ | ⟨b, k1, k2, k3, k4, k5⟩
      · refine .inl ⟨k1, fun a ha hp hb => ?_⟩
        by_cases e : a = n
        · subst e; exact hno ⟨hp, hb⟩
        · exact k2 a (by omega) hp hb
      · refine .inr ⟨b, by omega, k2, k3, k4, fun a ha hp hb => ?_⟩
        by_cases e : a = n
        · subst e; exact absurd ⟨hp, hb⟩ hno
        · exact k5 a (by omega) hp hb
    have m1 := p_mhasPiece hG hA hL hn (show l < 2147483648 by omega)
    show ∃ t9, bX10_track_25 W A F T U L I P D Z x1 (nI l) x3 x4 x5 x6 x8 (nI n) = some (.inl t9) ∧ _
    unfold bX10_track_25 jX10_track_92 jX10_track_96 jX10_track_97 jX10_track_121 jX10_track_125
    by_cases hpc : g_pc ex up lo lay n l = true
    · rw [if_pos hpc] at m1
      have hps : n ∈ g_ps ex up lo lay 24 l := g_ps_mem.mpr ⟨hn, hpc⟩
      obtain ⟨e1, e2⟩ := p_mleft hG hV hA hL hO hW hwd hX hB hM hps
      obtain ⟨⟨b1, b2⟩, b3, b4⟩ := g_lft_b hG hV hB hps
      by_cases hne : g_um up lay wd X l n = g_lm lo lay wd X l n
      · have hlr : iI (g_lft up lo lay wd X l n) = iI (g_rt up lo lay wd X l n) := by
          have h9 : g_lft up lo lay wd X l n = g_rt up lo lay wd X l n := by
            unfold g_lft g_rt
            omega
          rw [h9]
        have hno : ¬ (n ∈ g_prt ex up lo lay wd X 24 l ∧ Bh n) := fun h => ((hprt n).mp h.1).2 hne
        simp (disch := omega) only [s_in, s_cl, s_leL, s_ltL, s_eqL, s_leR, s_ltR, s_eqR, s_le, s_lt, s_eq, s_addL, s_addL', s_mulL, s_mulL', s_mul, nI_add, s_subL, s_sub, s_m1, s_m1', s_lm1, s_ltm1, s_m1lt, s_m1le, s_m1p, s_10, s_let, s_el, s_er, s_b2, s_b3, s_b4, s_b5, s_b6, s_b7, s_b8, s_b9, s_b10, s_b11, s_b12, s_bind, eq_self, if_pos, if_neg, ite_true, ite_false, if_true, if_false, Bool.false_eq_true, reduceIte, m1, e1, e2, hlr]
        exact skip hno
      · have hlr : ¬ iI (g_lft up lo lay wd X l n) = iI (g_rt up lo lay wd X l n) := by
          rw [iI_eq (by omega) (by omega) (by omega) (by omega)]
          unfold g_lft g_rt
          omega
        have hnp : n ∈ g_prt ex up lo lay wd X 24 l := (hprt n).mpr ⟨hps, hne⟩
        have take : Bh n → ∃ t9 : Int32 × Int32, (if x8 < 0 then some (Sum.inl (α := Int32 × Int32) (β := Int32) (nI n, nI (n + 1))) else Option.bind (fX10_left W F T U L I P D Z x8 (nI l)) (fun q15 => if q15 ≤ iI (g_lft up lo lay wd X l n) then some (Sum.inl (x8, nI (n + 1))) else some (Sum.inl (nI n, nI (n + 1))))) = some (.inl t9) ∧ t9.2 = nI (n + 1) ∧ ((t9.1 = -1 ∧ ∀ a, a < n + 1 → a ∈ g_prt ex up lo lay wd X 24 l → ¬ Bh a) ∨ ∃ b, b < n + 1 ∧ t9.1 = nI b ∧ b ∈ g_prt ex up lo lay wd X 24 l ∧ Bh b ∧ ∀ a, a < n + 1 → a ∈ g_prt ex up lo lay wd X 24 l → Bh a → a = b ∨ g_lx (g_lft up lo lay wd X l) b a) := by
          intro hb
          rcases h2 with ⟨k1, k2⟩ | ⟨b, k1, k2, k3, k4, k5⟩
          · rw [k1, if_pos (by decide)]
            refine ⟨_, rfl, rfl, .inr ⟨n, by omega, rfl, hnp, hb, fun a ha hp hba => ?_⟩⟩
            by_cases e : a = n
            · exact .inl e
            · exact absurd hba (k2 a (by omega) hp)
          · have hbps := ((hprt b).mp k3).1
            obtain ⟨f1, -⟩ := p_mleft hG hV hA hL hO hW hwd hX hB hM hbps
            obtain ⟨⟨c1, c2⟩, -⟩ := g_lft_b hG hV hB hbps
            rw [k2, if_neg (nI_pos (by omega)), f1, s_bind]
            by_cases hle : g_lft up lo lay wd X l b ≤ g_lft up lo lay wd X l n
            · rw [if_pos (by rw [iI_le (by omega) (by omega) (by omega) (by omega)]; exact hle)]
              refine ⟨_, rfl, rfl, .inr ⟨b, by omega, rfl, k3, k4, fun a ha hp hba => ?_⟩⟩
              by_cases e : a = n
              · subst e
                right
                unfold g_lx
                omega
              · exact k5 a (by omega) hp hba
            · rw [if_neg (by rw [iI_le (by omega) (by omega) (by omega) (by omega)]; exact hle)]
              refine ⟨_, rfl, rfl, .inr ⟨n, by omega, rfl, hnp, hb, fun a ha hp hba => ?_⟩⟩
              by_cases e : a = n
              · exact .inl e
              · right
                rcases k5 a (by omega) hp hba with h | h
                · subst h
                  unfold g_lx
                  omega
                · unfold g_lx at h ⊢
                  omega
        have hb := hbh n hps
        by_cases hc1 : x5 < iI (g_lft up lo lay wd X l n)
        · simp (disch := omega) only [s_in, s_cl, s_leL, s_ltL, s_eqL, s_leR, s_ltR, s_eqR, s_le, s_lt, s_eq, s_addL, s_addL', s_mulL, s_mulL', s_mul, nI_add, s_subL, s_sub, s_m1, s_m1', s_lm1, s_ltm1, s_m1lt, s_m1le, s_m1p, s_10, s_let, s_el, s_er, s_b2, s_b3, s_b4, s_b5, s_b6, s_b7, s_b8, s_b9, s_b10, s_b11, s_b12, s_bind, eq_self, if_pos, if_neg, ite_true, ite_false, if_true, if_false, Bool.false_eq_true, reduceIte, m1, e1, e2, hlr, hc1]
          exact take (hb.mp (.inl hc1))
        · by_cases hc2 : iI (g_lft up lo lay wd X l n) = x5
          · subst hc2
            by_cases hc3 : nI n ≤ x6
            · have hno : ¬ (n ∈ g_prt ex up lo lay wd X 24 l ∧ Bh n) := fun h => by
                rcases hb.mpr h.2 with h | h
                · exact hc1 h
                · exact h.2 hc3
              simp (disch := omega) only [s_in, s_cl, s_leL, s_ltL, s_eqL, s_leR, s_ltR, s_eqR, s_le, s_lt, s_eq, s_addL, s_addL', s_mulL, s_mulL', s_mul, nI_add, s_subL, s_sub, s_m1, s_m1', s_lm1, s_ltm1, s_m1lt, s_m1le, s_m1p, s_10, s_let, s_el, s_er, s_b2, s_b3, s_b4, s_b5, s_b6, s_b7, s_b8, s_b9, s_b10, s_b11, s_b12, s_bind, eq_self, if_pos, if_neg, ite_true, ite_false, if_true, if_false, Bool.false_eq_true, reduceIte, m1, e1, e2, hlr, hc1, hc3]
              exact skip hno
            · have htake := take (hb.mp (.inr ⟨rfl, hc3⟩))
              simp (disch := omega) only [s_in, s_cl, s_leL, s_ltL, s_eqL, s_leR, s_ltR, s_eqR, s_le, s_lt, s_eq, s_addL, s_addL', s_mulL, s_mulL', s_mul, nI_add, s_subL, s_sub, s_m1, s_m1', s_lm1, s_ltm1, s_m1lt, s_m1le, s_m1p, s_10, s_let, s_el, s_er, s_b2, s_b3, s_b4, s_b5, s_b6, s_b7, s_b8, s_b9, s_b10, s_b11, s_b12, s_bind, eq_self, if_pos, if_neg, ite_true, ite_false, if_true, if_false, Bool.false_eq_true, reduceIte, m1, e1, e2, hlr, hc1, hc3]
              exact htake
          · have hno : ¬ (n ∈ g_prt ex up lo lay wd X 24 l ∧ Bh n) := fun h => by
              rcases hb.mpr h.2 with h | h
              · exact hc1 h
              · exact hc2 h.1
            simp (disch := omega) only [s_in, s_cl, s_leL, s_ltL, s_eqL, s_leR, s_ltR, s_eqR, s_le, s_lt, s_eq, s_addL, s_addL', s_mulL, s_mulL', s_mul, nI_add, s_subL, s_sub, s_m1, s_m1', s_lm1, s_ltm1, s_m1lt, s_m1le, s_m1p, s_10, s_let, s_el, s_er, s_b2, s_b3, s_b4, s_b5, s_b6, s_b7, s_b8, s_b9, s_b10, s_b11, s_b12, s_bind, eq_self, if_pos, if_neg, ite_true, ite_false, if_true, if_false, Bool.false_eq_true, reduceIte, m1, e1, e2, hlr, hc1, hc2]
            exact skip hno
    · rw [if_neg hpc] at m1
      have hno : ¬ (n ∈ g_prt ex up lo lay wd X 24 l ∧ Bh n) := fun h => hpc (g_ps_mem.mp ((hprt n).mp h.1).1).2
      simp (disch := omega) only [s_in, s_cl, s_leL, s_ltL, s_eqL, s_leR, s_ltR, s_eqR, s_le, s_lt, s_eq, s_addL, s_addL', s_mulL, s_mulL', s_mul, nI_add, s_subL, s_sub, s_m1, s_m1', s_lm1, s_ltm1, s_m1lt, s_m1le, s_m1p, s_10, s_let, s_el, s_er, s_b2, s_b3, s_b4, s_b5, s_b6, s_b7, s_b8, s_b9, s_b10, s_b11, s_b12, s_bind, eq_self, if_pos, if_neg, ite_true, ite_false, if_true, if_false, Bool.false_eq_true, reduceIte, m1]
      exact skip hno
  · rintro ⟨x8, x9⟩ ⟨h1, h2⟩
    dsimp only at h1 h2
    subst h1
    refine ⟨x8, ?_, ?_⟩
    · show bX10_track_25 W A F T U L I P D Z x1 (nI l) x3 x4 x5 x6 x8 (nI 24) = _
      unfold bX10_track_25
      rw [if_pos (by decide)]
    · have h24 : ∀ a, a ∈ g_prt ex up lo lay wd X 24 l → a < 24 := fun a ha => (g_ps_mem.mp ((hprt a).mp ha).1).1
      rcases h2 with ⟨k1, k2⟩ | ⟨b, k1, k2, k3, k4, k5⟩
      · exact .inl ⟨k1, fun a ha => k2 a (h24 a ha) ha⟩
      · exact .inr ⟨b, k2, k3, k4, fun a ha => k5 a (h24 a ha) ha⟩
end TM
