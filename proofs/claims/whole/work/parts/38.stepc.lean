/-! PURE: the class's step is g_stp. -/
section SC
variable {ex bx : Nat → Bool} {up lo lay : Nat → Nat} {N : Nat} {row : Nat → List Nat} {sz ar uu ll : Nat → Int32} {so rw pl hm : Nat → Int32}
theorem p_load (hG : g_G ex up lo bx lay N) (hV : g_V ex up lo bx lay N row) (hP : c_P up lo lay (g_ps ex up lo lay 24) sz ar uu ll) (hO : c_O N row (nI N) so rw pl hm) {l : Nat} (hl : l < N) (s : Bool) (hs : s = true → 1 ≤ l) (ow fa : Nat → Int32) :
    ∃ (ow' fa' : Nat → Int32) (Sx : List Nat), fX5_loadEnds sz uu ll ow fa pl (nI l) (if s then 1 else 0) = some (nI Sx.length, ow', fa') ∧ Sx.Perm (g_Kl ex up lo lay s l) ∧ Sx.Pairwise (fun a b => g_far up lo lay row s l a ≤ g_far up lo lay row s l b) ∧ (∀ j a : Nat, Sx[j]? = some a → ow' j = nI (g_own up lo lay s l a) ∧ fa' j = nI (g_far up lo lay row s l a)) ∧ ∀ a : Nat, a ∈ Sx → g_own up lo lay s l a < 40 ∧ g_far up lo lay row s l a < 40 := by
  have hN := hG.1
  cases s with
  | false =>
    have hK := g_ps_len (ex := ex) (up := up) (lo := lo) (lay := lay) 24 l
    have hE : ∀ k a : Nat, (g_ps ex up lo lay 24 l)[k]? = some a → fX6_endOf sz uu ll (nI l) (nI k) 1 = some (nI (g_uc up lay a l)) ∧ fX6_endOf sz uu ll (nI l) (nI k) 0 = some (nI (g_lc lo lay a l)) ∧ fX4_placeIn pl (nI (l + 1)) (nI (g_lc lo lay a l)) = some (nI (g_pd lo lay row l a)) ∧ g_pd lo lay row l a < 40 := by
      intro k a hk
      obtain ⟨h1, h2⟩ := g_ps_mem.mp (g_mem_get hk)
      have h3 := g_pc_N hG h1 h2
      have h4 := p_place hO (show l + 1 < 24 by omega) (g_lc_mem hG hV h1 h2)
      exact ⟨p_endU hP (by omega) hk, p_endL hP (by omega) hk, h4.1, h4.2.1⟩
    obtain ⟨ow', fa', Sx, h1, h2, h3, h4⟩ := p_load47 (K := g_ps ex up lo lay 24 l) hK (fl := 0) (fo := 1) (.inl ⟨rfl, rfl⟩) hE ow fa
    refine ⟨ow', fa', Sx, ?_, h2, h3, h4, ?_⟩
    · unfold fX5_loadEnds jX5_loadEnds_11 jX5_loadEnds_26
      rw [h2.length_eq]
      simp (disch := omega) only [s_in, s_cl, s_leL, s_ltL, s_eqL, s_leR, s_ltR, s_eqR, s_le, s_lt, s_eq, s_addL, s_addL', s_mulL, s_mulL', s_mul, nI_add, s_subL, s_sub, s_m1, s_m1', s_lm1, s_ltm1, s_m1lt, s_m1le, s_m1p, s_10, s_let, s_el, s_er, s_b2, s_b3, s_b4, s_b5, s_b6, s_b7, s_b8, s_b9, s_b10, s_b11, s_b12, s_bind, eq_self, if_pos, if_neg, ite_true, ite_false, if_true, if_false, Bool.false_eq_true, reduceIte, p_sizeOf hP (show l < 24 by omega), h1]
    · intro a ha
      have ha2 := h2.mem_iff.mp ha
      obtain ⟨k, hk⟩ := List.mem_iff_getElem?.mp ha2
      obtain ⟨k1, k2⟩ := g_ps_mem.mp ha2
      exact ⟨(p_place hO (show l < 24 by omega) (g_uc_mem hG hV k1 k2)).2.2, (hE k a hk).2.2.2⟩
  | true =>
    have hl1 := hs rfl
    have hK := g_ps_len (ex := ex) (up := up) (lo := lo) (lay := lay) 24 (l - 1)
    have hE : ∀ k a : Nat, (g_ps ex up lo lay 24 (l - 1))[k]? = some a → fX6_endOf sz uu ll (nI (l - 1)) (nI k) 0 = some (nI (g_lc lo lay a (l - 1))) ∧ fX6_endOf sz uu ll (nI (l - 1)) (nI k) 1 = some (nI (g_uc up lay a (l - 1))) ∧ fX4_placeIn pl (nI (l - 1)) (nI (g_uc up lay a (l - 1))) = some (nI (g_pu up lay row (l - 1) a)) ∧ g_pu up lay row (l - 1) a < 40 := by
      intro k a hk
      obtain ⟨h1, h2⟩ := g_ps_mem.mp (g_mem_get hk)
      have h4 := p_place hO (show l - 1 < 24 by omega) (g_uc_mem hG hV h1 h2)
      exact ⟨p_endL hP (by omega) hk, p_endU hP (by omega) hk, h4.1, h4.2.1⟩
    obtain ⟨ow', fa', Sx, h1, h2, h3, h4⟩ := p_load47 (K := g_ps ex up lo lay 24 (l - 1)) hK (fl := 1) (fo := 0) (.inr ⟨rfl, rfl⟩) hE ow fa
    refine ⟨ow', fa', Sx, ?_, h2, h3, h4, ?_⟩
    · unfold fX5_loadEnds jX5_loadEnds_11 jX5_loadEnds_26
      rw [h2.length_eq]
      simp (disch := omega) only [s_in, s_cl, s_leL, s_ltL, s_eqL, s_leR, s_ltR, s_eqR, s_le, s_lt, s_eq, s_addL, s_addL', s_mulL, s_mulL', s_mul, nI_add, s_subL, s_sub, s_m1, s_m1', s_lm1, s_ltm1, s_m1lt, s_m1le, s_m1p, s_10, s_let, s_el, s_er, s_b2, s_b3, s_b4, s_b5, s_b6, s_b7, s_b8, s_b9, s_b10, s_b11, s_b12, s_bind, eq_self, if_pos, if_neg, ite_true, ite_false, if_true, if_false, Bool.false_eq_true, reduceIte, p_sizeOf hP (show l - 1 < 24 by omega), h1]
    · intro a ha
      have ha2 := h2.mem_iff.mp ha
      obtain ⟨k, hk⟩ := List.mem_iff_getElem?.mp ha2
      obtain ⟨k1, k2⟩ := g_ps_mem.mp ha2
      have k3 := g_lc_mem hG hV k1 k2
      rw [show l - 1 + 1 = l by omega] at k3
      exact ⟨(p_place hO (show l < 24 by omega) k3).2.2, (hE k a hk).2.2.2⟩
theorem g_nw_set {M : Nat → Option Nat} {R : List Nat} (hM : ∀ c v : Nat, M c = some v → v < 40) {c : Nat} : c ∈ g_mv M R ↔ ∃ s, s ∈ g_sp M R R.length ∧ (g_nw M R)[s]? = some c := by
  obtain ⟨h1, h2, h3⟩ := g_nw_Pt (M := M) (R := R)
  have hl := g_so_len (R := R) hM
  rw [← (g_so_perm (R := R) hM).mem_iff]
  constructor
  · intro h
    obtain ⟨j, hj⟩ := List.mem_iff_getElem?.mp h
    have := g_lt_len hj
    obtain ⟨s, hs⟩ : ∃ s, (g_sp M R R.length)[j]? = some s := ⟨_, List.getElem?_eq_getElem (by omega)⟩
    exact ⟨s, g_mem_get hs, h2 j s c hs hj⟩
  · rintro ⟨s, hs, hc⟩
    obtain ⟨j, hj⟩ := List.mem_iff_getElem?.mp hs
    have := g_lt_len hj
    obtain ⟨d, hd⟩ : ∃ d, (g_so M R)[j]? = some d := ⟨_, List.getElem?_eq_getElem (by omega)⟩
    have := h2 j s d hj hd
    rw [hc] at this
    cases this
    exact g_mem_get hd
theorem p_step (hG : g_G ex up lo bx lay N) (hV : g_V ex up lo bx lay N row) (hP : c_P up lo lay (g_ps ex up lo lay 24) sz ar uu ll) (hO : c_O N row (nI N) so rw pl hm) {l : Nat} (hl : l < N) (s : Bool) (hs : s = true → 1 ≤ l) (xu xl ow fa sd sr sp : Nat → Int32) :
    ∃ xu' xl' ow' fa' dg sn md sd' sr' sp' mv rw' pl', fX5_step sz uu ll xu xl ow fa sd sr sp (nI N) so rw pl hm (nI l) (if s then 1 else 0) = some (xu', xl', ow', fa', dg, sn, md, sd', sr', sp', mv, rw', pl', hm) ∧ c_O N (g_stp ex up lo lay row s l) (nI N) so rw' pl' hm := by
  have hN := hG.1
  have hl24 : l < 24 := by omega
  obtain ⟨o1, o2, o3, -⟩ := id hO
  obtain ⟨g1, g2, g3, g4, g5, g6⟩ := o3 l hl24
  obtain ⟨ow', fa', Sx, a1, a2, a3, a4, a5⟩ := p_load hG hV hP hO hl s hs ow fa
  have hSx : Sx.length ≤ 24 := by
    rw [a2.length_eq]
    exact g_ps_len 24 _
  obtain ⟨dg, sn, md, b1, b2⟩ := p_find hSx a5 a3 a4
  have hM : ∀ c v : Nat, g_mc ex up lo lay row s l c = some v → v < 40 := g_mc_lt
  have hmd : ∀ c : Nat, c < 40 → md c = (g_mc ex up lo lay row s l c).elim (-1) nI := by
    intro c hc
    rw [b2 c hc]
    unfold g_mc
    rw [g_med_perm (a2.filter _)]
  obtain ⟨sd', sp', c1, c2, c3⟩ := p_gather hO hl24 hM hmd sd sp
  generalize hMg : g_mc ex up lo lay row s l = M at hM hmd c1 c2 c3
  have hmvb : ∀ c : Nat, c ∈ g_mv M (row l) → c < 40 ∧ (M c).isSome = true := by
    intro c hc
    obtain ⟨h1, h2⟩ := g_mv_mem.mp hc
    obtain ⟨k, hk⟩ := List.mem_iff_getElem?.mp h1
    exact ⟨(g5 k c hk).1, h2⟩
  have hmvl : (g_mv M (row l)).length ≤ 40 := by
    have := List.length_filter_le (fun c => (M c).isSome) (row l)
    unfold g_mv
    omega
  obtain ⟨fl, sr', Q, d1, d2, d3, d4, d5⟩ := p_sortM hmvb hmvl hM hmd c2 sr
  have hQ : Q = g_so M (row l) := d4
  subst hQ
  have hnr : g_nr ex up lo lay row s l = g_set row l (g_nw M (row l)) := by unfold g_nr; rw [hMg]
  unfold fX5_step
  rw [a1, s_b3, b1, s_b3, c1, s_b3]
  rw [g_sp_len] at c1 ⊢
  rw [d1, s_b2]
  by_cases hf : fl = 0
  · rw [if_pos hf]
    have h1 : g_nr ex up lo lay row s l = row := by rw [hnr, g_nw_same (d3 hf), g_set_self]
    have h2 : g_stp ex up lo lay row s l = row := by
      unfold g_stp
      rw [h1]
      split <;> rfl
    rw [h2]
    exact ⟨_, _, _, _, _, _, _, _, _, _, _, _, _, rfl, hO⟩
  · rw [if_neg hf]
    obtain ⟨xu1, xl1, e1⟩ := p_around hG hV hP hO hl24 xu xl
    obtain ⟨rw1, pl1, e2, e3⟩ := p_putM hO hl (sp := g_sp M (row l) (row l).length) (cs := g_so M (row l)) (R' := g_nw M (row l)) (g_sp_nd _) (g_so_nd hM g2) (g_so_len hM) (fun s hs => g_sp_lt hs) g_nw_Pt (fun c => g_so_set hM) c3 d5
    rw [← hnr] at e3
    have hV2 := g_V_nr hV s hl24
    obtain ⟨xu2, xl2, e4⟩ := p_around hG hV2 hP e3 hl24 xu1 xl1
    rw [g_sp_len] at e2
    rw [e1, s_b3, e2, s_b3, e4, s_b3]
    have hb1 := g_ca_b (ex := ex) (up := up) (lo := lo) (lay := lay) (row := row) l
    have hb2 := g_ca_b (ex := ex) (up := up) (lo := lo) (lay := lay) (row := g_nr ex up lo lay row s l) l
    unfold g_stp
    by_cases hc : g_ca ex up lo lay (g_nr ex up lo lay row s l) l ≤ g_ca ex up lo lay row l
    · rw [if_pos (by rw [s_le (by omega) (by omega)]; exact hc), if_pos hc]
      exact ⟨_, _, _, _, _, _, _, _, _, _, _, _, _, rfl, e3⟩
    · rw [if_neg (by rw [s_le (by omega) (by omega)]; exact hc), if_neg hc]
      have hrl : g_nr ex up lo lay row s l l = g_nw M (row l) := by rw [hnr, g_set_at]
      obtain ⟨rw2, pl2, e5, e6⟩ := p_putM e3 hl (sp := g_sp M (row l) (row l).length) (cs := g_mv M (row l)) (R' := row l) (g_sp_nd _) (g2.filter _) g_sp_len.symm (fun s hs => by rw [hrl, (g_nw_Pt (M := M) (R := row l)).1]; exact g_sp_lt hs) (by rw [hrl]; exact g_nw_back) (fun c => by rw [hrl]; exact g_nw_set hM) c3 c2
      rw [hnr, g_set_set, g_set_self] at e6
      rw [g_sp_len] at e5
      rw [e5, s_b3]
      exact ⟨_, _, _, _, _, _, _, _, _, _, _, _, _, rfl, e6⟩
end SC
