/-! PURE: sweeps and rounds. -/
theorem s_b13 {A0 A1 A2 A3 A4 A5 A6 A7 A8 A9 A10 A11 A12 B : Type} (x0 : A0) (x1 : A1) (x2 : A2) (x3 : A3) (x4 : A4) (x5 : A5) (x6 : A6) (x7 : A7) (x8 : A8) (x9 : A9) (x10 : A10) (x11 : A11) (x12 : A12) (f : A0 → A1 → A2 → A3 → A4 → A5 → A6 → A7 → A8 → A9 → A10 → A11 → A12 → Option B) : q_b13 (some (x0, x1, x2, x3, x4, x5, x6, x7, x8, x9, x10, x11, x12)) f = f x0 x1 x2 x3 x4 x5 x6 x7 x8 x9 x10 x11 x12 := rfl
theorem s_b14 {A0 A1 A2 A3 A4 A5 A6 A7 A8 A9 A10 A11 A12 A13 B : Type} (x0 : A0) (x1 : A1) (x2 : A2) (x3 : A3) (x4 : A4) (x5 : A5) (x6 : A6) (x7 : A7) (x8 : A8) (x9 : A9) (x10 : A10) (x11 : A11) (x12 : A12) (x13 : A13) (f : A0 → A1 → A2 → A3 → A4 → A5 → A6 → A7 → A8 → A9 → A10 → A11 → A12 → A13 → Option B) : q_b14 (some (x0, x1, x2, x3, x4, x5, x6, x7, x8, x9, x10, x11, x12, x13)) f = f x0 x1 x2 x3 x4 x5 x6 x7 x8 x9 x10 x11 x12 x13 := rfl
theorem s_b15 {A0 A1 A2 A3 A4 A5 A6 A7 A8 A9 A10 A11 A12 A13 A14 B : Type} (x0 : A0) (x1 : A1) (x2 : A2) (x3 : A3) (x4 : A4) (x5 : A5) (x6 : A6) (x7 : A7) (x8 : A8) (x9 : A9) (x10 : A10) (x11 : A11) (x12 : A12) (x13 : A13) (x14 : A14) (f : A0 → A1 → A2 → A3 → A4 → A5 → A6 → A7 → A8 → A9 → A10 → A11 → A12 → A13 → A14 → Option B) : q_b15 (some (x0, x1, x2, x3, x4, x5, x6, x7, x8, x9, x10, x11, x12, x13, x14)) f = f x0 x1 x2 x3 x4 x5 x6 x7 x8 x9 x10 x11 x12 x13 x14 := rfl
theorem s_iN {z : Int} {n : Nat} (h : z = (n : Int)) : iI z = nI n := by rw [h, iI_nat]
theorem s_im1 (z : Int) : iI z + (-1) = iI (z - 1) := by
  rw [show (-1 : Int32) = iI (-1) by decide, iI_add]
  rfl
theorem s_im2 (n : Nat) : nI n - 2 = iI ((n : Int) - 2) := by
  rw [show (2 : Int32) = iI 2 by decide, iI_nat, iI_sub]
theorem s_ineg {z : Int} (h1 : -2147483648 ≤ z) (h2 : z < 2147483648) : (iI z < 0) = (z < 0) := by rw [iI_0, iI_lt h1 h2 (by decide) (by decide)]
def g_swu (ex : Nat → Bool) (up lo lay : Nat → Nat) (row : Nat → List Nat) : Nat → Nat → List Nat
  | 0 => row
  | k + 1 => g_stp ex up lo lay (g_swu ex up lo lay row k) true (k + 1)
def g_swd (ex : Nat → Bool) (up lo lay : Nat → Nat) (N : Nat) (row : Nat → List Nat) : Nat → Nat → List Nat
  | 0 => row
  | k + 1 => g_stp ex up lo lay (g_swd ex up lo lay N row k) false (N - 2 - k)
def g_swp (ex : Nat → Bool) (up lo lay : Nat → Nat) (N : Nat) (row : Nat → List Nat) : Nat → List Nat := g_swd ex up lo lay N (g_swu ex up lo lay row (N - 1)) (N - 1)
def g_rnd (ex : Nat → Bool) (up lo lay : Nat → Nat) (N : Nat) (row : Nat → List Nat) : Nat → Nat → List Nat
  | 0 => row
  | k + 1 => g_swp ex up lo lay N (g_rnd ex up lo lay N row k)
section SW
variable {ex bx : Nat → Bool} {up lo lay : Nat → Nat} {N : Nat} {row : Nat → List Nat} {sz ar uu ll : Nat → Int32} {so rw pl hm : Nat → Int32} {A F T U L S I P D : Nat → Int32}
theorem g_V_swu (hV : g_V ex up lo bx lay N row) : ∀ k : Nat, k < 24 → g_V ex up lo bx lay N (g_swu ex up lo lay row k)
  | 0, _ => hV
  | k + 1, h => g_V_stp (g_V_swu hV k (by omega)) true (by omega)
theorem g_V_swd (hN : N ≤ 24) (hV : g_V ex up lo bx lay N row) : ∀ k : Nat, g_V ex up lo bx lay N (g_swd ex up lo lay N row k)
  | 0 => hV
  | k + 1 => g_V_stp (g_V_swd hN hV k) false (by omega)
theorem g_V_swp (hN : N ≤ 24) (hV : g_V ex up lo bx lay N row) : g_V ex up lo bx lay N (g_swp ex up lo lay N row) := g_V_swd hN (g_V_swu hV _ (by omega)) _
theorem g_V_rnd (hN : N ≤ 24) (hV : g_V ex up lo bx lay N row) : ∀ k : Nat, g_V ex up lo bx lay N (g_rnd ex up lo lay N row k)
  | 0 => hV
  | k + 1 => g_V_swp hN (g_V_rnd hN hV k)
theorem p_swu (hG : g_G ex up lo bx lay N) (hV : g_V ex up lo bx lay N row) (hP : c_P up lo lay (g_ps ex up lo lay 24) sz ar uu ll) (hO : c_O N row (nI N) so rw pl hm)  (xu xl ow fa dg sn md sd sr sp : Nat → Int32) (mv : Int32) :
    ∃ xu' xl' ow' fa' dg' sn' md' sd' sr' sp' mv' rw' pl', q_lo (fun (st : Int32 × (Nat → Int32) × (Nat → Int32) × (Nat → Int32) × (Nat → Int32) × (Nat → Int32) × (Nat → Int32) × (Nat → Int32) × (Nat → Int32) × (Nat → Int32) × (Nat → Int32) × Int32 × (Nat → Int32) × (Nat → Int32) × (Nat → Int32)) => bX5_sweep_2 sz uu ll (nI N) so st.1 st.2.1 st.2.2.1 st.2.2.2.1 st.2.2.2.2.1 st.2.2.2.2.2.1 st.2.2.2.2.2.2.1 st.2.2.2.2.2.2.2.1 st.2.2.2.2.2.2.2.2.1 st.2.2.2.2.2.2.2.2.2.1 st.2.2.2.2.2.2.2.2.2.2.1 st.2.2.2.2.2.2.2.2.2.2.2.1 st.2.2.2.2.2.2.2.2.2.2.2.2.1 st.2.2.2.2.2.2.2.2.2.2.2.2.2.1 st.2.2.2.2.2.2.2.2.2.2.2.2.2.2) (1, xu, xl, ow, fa, dg, sn, md, sd, sr, sp, mv, rw, pl, hm) = some (xu', xl', ow', fa', dg', sn', md', sd', sr', sp', mv', rw', pl', hm) ∧ c_O N (g_swu ex up lo lay row (N - 1)) (nI N) so rw' pl' hm := by
  have hN := hG.1
  have H9 : ∃ e : (Nat → Int32) × (Nat → Int32) × (Nat → Int32) × (Nat → Int32) × (Nat → Int32) × (Nat → Int32) × (Nat → Int32) × (Nat → Int32) × (Nat → Int32) × (Nat → Int32) × Int32 × (Nat → Int32) × (Nat → Int32) × (Nat → Int32), q_lo (fun (st : Int32 × (Nat → Int32) × (Nat → Int32) × (Nat → Int32) × (Nat → Int32) × (Nat → Int32) × (Nat → Int32) × (Nat → Int32) × (Nat → Int32) × (Nat → Int32) × (Nat → Int32) × Int32 × (Nat → Int32) × (Nat → Int32) × (Nat → Int32)) => bX5_sweep_2 sz uu ll (nI N) so st.1 st.2.1 st.2.2.1 st.2.2.2.1 st.2.2.2.2.1 st.2.2.2.2.2.1 st.2.2.2.2.2.2.1 st.2.2.2.2.2.2.2.1 st.2.2.2.2.2.2.2.2.1 st.2.2.2.2.2.2.2.2.2.1 st.2.2.2.2.2.2.2.2.2.2.1 st.2.2.2.2.2.2.2.2.2.2.2.1 st.2.2.2.2.2.2.2.2.2.2.2.2.1 st.2.2.2.2.2.2.2.2.2.2.2.2.2.1 st.2.2.2.2.2.2.2.2.2.2.2.2.2.2) (1, xu, xl, ow, fa, dg, sn, md, sd, sr, sp, mv, rw, pl, hm) = some e ∧ c_O N (g_swu ex up lo lay row (N - 1)) (nI N) so e.2.2.2.2.2.2.2.2.2.2.2.1 e.2.2.2.2.2.2.2.2.2.2.2.2.1 hm ∧ e.2.2.2.2.2.2.2.2.2.2.2.2.2 = hm := by
    refine q_inv (fun k (st : Int32 × (Nat → Int32) × (Nat → Int32) × (Nat → Int32) × (Nat → Int32) × (Nat → Int32) × (Nat → Int32) × (Nat → Int32) × (Nat → Int32) × (Nat → Int32) × (Nat → Int32) × Int32 × (Nat → Int32) × (Nat → Int32) × (Nat → Int32)) => st.1 = nI (1 + k) ∧ c_O N (g_swu ex up lo lay row k) (nI N) so st.2.2.2.2.2.2.2.2.2.2.2.2.1 st.2.2.2.2.2.2.2.2.2.2.2.2.2.1 hm ∧ st.2.2.2.2.2.2.2.2.2.2.2.2.2.2 = hm) (N - 1) ?_ ?_ _ ⟨rfl, hO, rfl⟩
    · rintro k ⟨x, xu, xl, ow, fa, dg, sn, md, sd, sr, sp, mv, rw, pl, hm1⟩ hk ⟨h1, h2, h3⟩
      dsimp only at h1 h2 h3
      subst h1
      subst h3
      obtain ⟨xu', xl', ow', fa', dg', sn', md', sd', sr', sp', mv', rw', pl', e1, e2⟩ := p_step hG (g_V_swu hV k (by omega)) hP h2 (show 1 + k < N by omega) true (fun _ => by omega) xu xl ow fa sd sr sp
      rw [if_pos rfl] at e1
      show ∃ t9, bX5_sweep_2 sz uu ll (nI N) so (nI (1 + k)) xu xl ow fa dg sn md sd sr sp mv rw pl hm1 = some (.inl t9) ∧ _
      unfold bX5_sweep_2 fX4_layers
      rw [s_bind, if_neg (by rw [s_le (by omega) (by omega)]; omega), e1, s_b14, s_addL]
      refine ⟨_, rfl, congrArg nI (by show 1 + k + 1 = 1 + (k + 1); omega), ?_, rfl⟩
      rw [show 1 + k = k + 1 by omega] at e2
      exact e2
    · rintro ⟨x, xu, xl, ow, fa, dg, sn, md, sd, sr, sp, mv, rw, pl, hm1⟩ ⟨h1, h2, h3⟩
      dsimp only at h1 h2 h3
      subst h1
      subst h3
      refine ⟨(xu, xl, ow, fa, dg, sn, md, sd, sr, sp, mv, rw, pl, hm1), ?_, h2, rfl⟩
      show bX5_sweep_2 sz uu ll (nI N) so (nI (1 + (N - 1))) xu xl ow fa dg sn md sd sr sp mv rw pl hm1 = _
      unfold bX5_sweep_2 fX4_layers
      rw [s_bind, if_pos (by rw [s_le (by omega) (by omega)]; omega)]
  obtain ⟨⟨z0, z1, z2, z3, z4, z5, z6, z7, z8, z9, z10, z11, z12, z13⟩, h8, h9, h10⟩ := H9
  dsimp only at h9 h10
  subst h10
  exact ⟨_, _, _, _, _, _, _, _, _, _, _, _, _, h8, h9⟩
theorem p_swd (hG : g_G ex up lo bx lay N) (hV : g_V ex up lo bx lay N row) (hP : c_P up lo lay (g_ps ex up lo lay 24) sz ar uu ll) (hO : c_O N row (nI N) so rw pl hm)  (xu xl ow fa dg sn md sd sr sp : Nat → Int32) (mv : Int32) :
    ∃ xu' xl' ow' fa' dg' sn' md' sd' sr' sp' mv' rw' pl', q_lo (fun (st : Int32 × (Nat → Int32) × (Nat → Int32) × (Nat → Int32) × (Nat → Int32) × (Nat → Int32) × (Nat → Int32) × (Nat → Int32) × (Nat → Int32) × (Nat → Int32) × (Nat → Int32) × Int32 × (Nat → Int32) × (Nat → Int32) × (Nat → Int32)) => bX5_sweep_30 sz uu ll (nI N) so st.1 st.2.1 st.2.2.1 st.2.2.2.1 st.2.2.2.2.1 st.2.2.2.2.2.1 st.2.2.2.2.2.2.1 st.2.2.2.2.2.2.2.1 st.2.2.2.2.2.2.2.2.1 st.2.2.2.2.2.2.2.2.2.1 st.2.2.2.2.2.2.2.2.2.2.1 st.2.2.2.2.2.2.2.2.2.2.2.1 st.2.2.2.2.2.2.2.2.2.2.2.2.1 st.2.2.2.2.2.2.2.2.2.2.2.2.2.1 st.2.2.2.2.2.2.2.2.2.2.2.2.2.2) (nI N - 2, xu, xl, ow, fa, dg, sn, md, sd, sr, sp, mv, rw, pl, hm) = some (xu', xl', ow', fa', dg', sn', md', sd', sr', sp', mv', rw', pl', hm) ∧ c_O N (g_swd ex up lo lay N row (N - 1)) (nI N) so rw' pl' hm := by
  have hN := hG.1
  have H9 : ∃ e : (Nat → Int32) × (Nat → Int32) × (Nat → Int32) × (Nat → Int32) × (Nat → Int32) × (Nat → Int32) × (Nat → Int32) × (Nat → Int32) × (Nat → Int32) × (Nat → Int32) × Int32 × (Nat → Int32) × (Nat → Int32) × (Nat → Int32), q_lo (fun (st : Int32 × (Nat → Int32) × (Nat → Int32) × (Nat → Int32) × (Nat → Int32) × (Nat → Int32) × (Nat → Int32) × (Nat → Int32) × (Nat → Int32) × (Nat → Int32) × (Nat → Int32) × Int32 × (Nat → Int32) × (Nat → Int32) × (Nat → Int32)) => bX5_sweep_30 sz uu ll (nI N) so st.1 st.2.1 st.2.2.1 st.2.2.2.1 st.2.2.2.2.1 st.2.2.2.2.2.1 st.2.2.2.2.2.2.1 st.2.2.2.2.2.2.2.1 st.2.2.2.2.2.2.2.2.1 st.2.2.2.2.2.2.2.2.2.1 st.2.2.2.2.2.2.2.2.2.2.1 st.2.2.2.2.2.2.2.2.2.2.2.1 st.2.2.2.2.2.2.2.2.2.2.2.2.1 st.2.2.2.2.2.2.2.2.2.2.2.2.2.1 st.2.2.2.2.2.2.2.2.2.2.2.2.2.2) (nI N - 2, xu, xl, ow, fa, dg, sn, md, sd, sr, sp, mv, rw, pl, hm) = some e ∧ c_O N (g_swd ex up lo lay N row (N - 1)) (nI N) so e.2.2.2.2.2.2.2.2.2.2.2.1 e.2.2.2.2.2.2.2.2.2.2.2.2.1 hm ∧ e.2.2.2.2.2.2.2.2.2.2.2.2.2 = hm := by
    refine q_inv (fun k (st : Int32 × (Nat → Int32) × (Nat → Int32) × (Nat → Int32) × (Nat → Int32) × (Nat → Int32) × (Nat → Int32) × (Nat → Int32) × (Nat → Int32) × (Nat → Int32) × (Nat → Int32) × Int32 × (Nat → Int32) × (Nat → Int32) × (Nat → Int32)) => st.1 = iI ((N : Int) - 2 - k) ∧ c_O N (g_swd ex up lo lay N row k) (nI N) so st.2.2.2.2.2.2.2.2.2.2.2.2.1 st.2.2.2.2.2.2.2.2.2.2.2.2.2.1 hm ∧ st.2.2.2.2.2.2.2.2.2.2.2.2.2.2 = hm) (N - 1) ?_ ?_ _ ⟨by show nI N - 2 = _; rw [s_im2]; congr 1; omega, hO, rfl⟩
    · rintro k ⟨x, xu, xl, ow, fa, dg, sn, md, sd, sr, sp, mv, rw, pl, hm1⟩ hk ⟨h1, h2, h3⟩
      dsimp only at h1 h2 h3
      subst h1
      subst h3
      have hz : iI ((N : Int) - 2 - k) = nI (N - 2 - k) := s_iN (by omega)
      obtain ⟨xu', xl', ow', fa', dg', sn', md', sd', sr', sp', mv', rw', pl', e1, e2⟩ := p_step hG (g_V_swd hN hV k) hP h2 (show N - 2 - k < N by omega) false (fun h => by cases h) xu xl ow fa sd sr sp
      rw [if_neg (by decide)] at e1
      show ∃ t9, bX5_sweep_30 sz uu ll (nI N) so (iI ((N : Int) - 2 - k)) xu xl ow fa dg sn md sd sr sp mv rw pl hm1 = some (.inl t9) ∧ _
      unfold bX5_sweep_30
      rw [if_neg (by rw [s_ineg (by omega) (by omega)]; omega), hz, e1, s_b14]
      refine ⟨_, rfl, ?_, e2, rfl⟩
      show nI (N - 2 - k) + (-1) = _
      rw [← hz, s_im1]
      congr 1
      omega
    · rintro ⟨x, xu, xl, ow, fa, dg, sn, md, sd, sr, sp, mv, rw, pl, hm1⟩ ⟨h1, h2, h3⟩
      dsimp only at h1 h2 h3
      subst h1
      subst h3
      refine ⟨(xu, xl, ow, fa, dg, sn, md, sd, sr, sp, mv, rw, pl, hm1), ?_, h2, rfl⟩
      show bX5_sweep_30 sz uu ll (nI N) so (iI ((N : Int) - 2 - (N - 1 : Nat))) xu xl ow fa dg sn md sd sr sp mv rw pl hm1 = _
      unfold bX5_sweep_30
      rw [if_pos (by rw [s_ineg (by omega) (by omega)]; omega)]
  obtain ⟨⟨z0, z1, z2, z3, z4, z5, z6, z7, z8, z9, z10, z11, z12, z13⟩, h8, h9, h10⟩ := H9
  dsimp only at h9 h10
  subst h10
  exact ⟨_, _, _, _, _, _, _, _, _, _, _, _, _, h8, h9⟩
theorem p_sweep (hG : g_G ex up lo bx lay N) (hV : g_V ex up lo bx lay N row) (hP : c_P up lo lay (g_ps ex up lo lay 24) sz ar uu ll) (hO : c_O N row (nI N) so rw pl hm) (xu xl ow fa dg sn md sd sr sp : Nat → Int32) (mv : Int32) :
    ∃ xu' xl' ow' fa' dg' sn' md' sd' sr' sp' mv' rw' pl', fX5_sweep sz uu ll xu xl ow fa dg sn md sd sr sp mv (nI N) so rw pl hm = some (xu', xl', ow', fa', dg', sn', md', sd', sr', sp', mv', rw', pl', hm) ∧ c_O N (g_swp ex up lo lay N row) (nI N) so rw' pl' hm := by
  have hN := hG.1
  obtain ⟨a0, a1, a2, a3, a4, a5, a6, a7, a8, a9, a10, a11, a12, h1, h2⟩ := p_swu hG hV hP hO xu xl ow fa dg sn md sd sr sp mv
  obtain ⟨b0, b1, b2, b3, b4, b5, b6, b7, b8, b9, b10, b11, b12, h3, h4⟩ := p_swd hG (g_V_swu hV _ (by omega)) hP h2 a0 a1 a2 a3 a4 a5 a6 a7 a8 a9 a10
  unfold fX5_sweep fX4_layers
  rw [h1, s_b14, s_bind, h3, s_b14]
  exact ⟨_, _, _, _, _, _, _, _, _, _, _, _, _, rfl, h4⟩
theorem p_rnds (hG : g_G ex up lo bx lay N) (hV : g_V ex up lo bx lay N row) (hP : c_P up lo lay (g_ps ex up lo lay 24) sz ar uu ll) (hO : c_O N row (nI N) so rw pl hm) {r : Nat} (hr : r ≤ 4) (xu xl ow fa dg sn md sd sr sp : Nat → Int32) (mv : Int32) :
    ∃ xu' xl' ow' fa' dg' sn' md' sd' sr' sp' mv' rw' pl', q_lo (fun (st : Int32 × (Nat → Int32) × (Nat → Int32) × (Nat → Int32) × (Nat → Int32) × (Nat → Int32) × (Nat → Int32) × (Nat → Int32) × (Nat → Int32) × (Nat → Int32) × (Nat → Int32) × Int32 × (Nat → Int32) × (Nat → Int32) × (Nat → Int32)) => bX5_improve_2 sz uu ll (nI N) so (nI r) st.1 st.2.1 st.2.2.1 st.2.2.2.1 st.2.2.2.2.1 st.2.2.2.2.2.1 st.2.2.2.2.2.2.1 st.2.2.2.2.2.2.2.1 st.2.2.2.2.2.2.2.2.1 st.2.2.2.2.2.2.2.2.2.1 st.2.2.2.2.2.2.2.2.2.2.1 st.2.2.2.2.2.2.2.2.2.2.2.1 st.2.2.2.2.2.2.2.2.2.2.2.2.1 st.2.2.2.2.2.2.2.2.2.2.2.2.2.1 st.2.2.2.2.2.2.2.2.2.2.2.2.2.2) (0, xu, xl, ow, fa, dg, sn, md, sd, sr, sp, mv, rw, pl, hm) = some (xu', xl', ow', fa', dg', sn', md', sd', sr', sp', mv', rw', pl', hm) ∧ c_O N (g_rnd ex up lo lay N row r) (nI N) so rw' pl' hm := by
  have hN := hG.1
  have H9 : ∃ e : (Nat → Int32) × (Nat → Int32) × (Nat → Int32) × (Nat → Int32) × (Nat → Int32) × (Nat → Int32) × (Nat → Int32) × (Nat → Int32) × (Nat → Int32) × (Nat → Int32) × Int32 × (Nat → Int32) × (Nat → Int32) × (Nat → Int32), q_lo (fun (st : Int32 × (Nat → Int32) × (Nat → Int32) × (Nat → Int32) × (Nat → Int32) × (Nat → Int32) × (Nat → Int32) × (Nat → Int32) × (Nat → Int32) × (Nat → Int32) × (Nat → Int32) × Int32 × (Nat → Int32) × (Nat → Int32) × (Nat → Int32)) => bX5_improve_2 sz uu ll (nI N) so (nI r) st.1 st.2.1 st.2.2.1 st.2.2.2.1 st.2.2.2.2.1 st.2.2.2.2.2.1 st.2.2.2.2.2.2.1 st.2.2.2.2.2.2.2.1 st.2.2.2.2.2.2.2.2.1 st.2.2.2.2.2.2.2.2.2.1 st.2.2.2.2.2.2.2.2.2.2.1 st.2.2.2.2.2.2.2.2.2.2.2.1 st.2.2.2.2.2.2.2.2.2.2.2.2.1 st.2.2.2.2.2.2.2.2.2.2.2.2.2.1 st.2.2.2.2.2.2.2.2.2.2.2.2.2.2) (0, xu, xl, ow, fa, dg, sn, md, sd, sr, sp, mv, rw, pl, hm) = some e ∧ c_O N (g_rnd ex up lo lay N row r) (nI N) so e.2.2.2.2.2.2.2.2.2.2.2.1 e.2.2.2.2.2.2.2.2.2.2.2.2.1 hm ∧ e.2.2.2.2.2.2.2.2.2.2.2.2.2 = hm := by
    refine q_inv (fun k (st : Int32 × (Nat → Int32) × (Nat → Int32) × (Nat → Int32) × (Nat → Int32) × (Nat → Int32) × (Nat → Int32) × (Nat → Int32) × (Nat → Int32) × (Nat → Int32) × (Nat → Int32) × Int32 × (Nat → Int32) × (Nat → Int32) × (Nat → Int32)) => st.1 = nI k ∧ c_O N (g_rnd ex up lo lay N row k) (nI N) so st.2.2.2.2.2.2.2.2.2.2.2.2.1 st.2.2.2.2.2.2.2.2.2.2.2.2.2.1 hm ∧ st.2.2.2.2.2.2.2.2.2.2.2.2.2.2 = hm) r ?_ ?_ _ ⟨rfl, hO, rfl⟩
    · rintro k ⟨x, xu, xl, ow, fa, dg, sn, md, sd, sr, sp, mv, rw, pl, hm1⟩ hk ⟨h1, h2, h3⟩
      dsimp only at h1 h2 h3
      subst h1
      subst h3
      obtain ⟨xu', xl', ow', fa', dg', sn', md', sd', sr', sp', mv', rw', pl', e1, e2⟩ := p_sweep hG (g_V_rnd hN hV k) hP h2 xu xl ow fa dg sn md sd sr sp mv
      show ∃ t9, bX5_improve_2 sz uu ll (nI N) so (nI r) (nI k) xu xl ow fa dg sn md sd sr sp mv rw pl hm1 = some (.inl t9) ∧ _
      unfold bX5_improve_2
      rw [if_neg (by rw [s_le (by omega) (by omega)]; omega), e1, s_b14, s_addL]
      exact ⟨_, rfl, rfl, e2, rfl⟩
    · rintro ⟨x, xu, xl, ow, fa, dg, sn, md, sd, sr, sp, mv, rw, pl, hm1⟩ ⟨h1, h2, h3⟩
      dsimp only at h1 h2 h3
      subst h1
      subst h3
      refine ⟨(xu, xl, ow, fa, dg, sn, md, sd, sr, sp, mv, rw, pl, hm1), ?_, h2, rfl⟩
      show bX5_improve_2 sz uu ll (nI N) so (nI r) (nI r) xu xl ow fa dg sn md sd sr sp mv rw pl hm1 = _
      unfold bX5_improve_2
      rw [if_pos (by rw [s_le (by omega) (by omega)]; omega)]
  obtain ⟨⟨z0, z1, z2, z3, z4, z5, z6, z7, z8, z9, z10, z11, z12, z13⟩, h8, h9, h10⟩ := H9
  dsimp only at h9 h10
  subst h10
  exact ⟨_, _, _, _, _, _, _, _, _, _, _, _, _, h8, h9⟩
theorem p_mswu (hG : g_G ex up lo bx lay N) (hV : g_V ex up lo bx lay N row) (hA : m_A ex up lo A F T U) (hL : m_L bx lay L) (hO : m_O N row S I P D)  (rw en nr : Nat → Int32) :
    ∃ I' P' D' rw' en' nr', q_lo (fun (st : Int32 × (Nat → Int32) × (Nat → Int32) × (Nat → Int32) × (Nat → Int32) × (Nat → Int32) × (Nat → Int32)) => bX10_drawOrders_13 A F T U (nI N) L S st.1 st.2.1 st.2.2.1 st.2.2.2.1 st.2.2.2.2.1 st.2.2.2.2.2.1 st.2.2.2.2.2.2) (1, I, P, D, rw, en, nr) = some (I', P', D', rw', en', nr') ∧ m_O N (g_swu ex up lo lay row (N - 1)) S I' P' D' := by
  have hN := hG.1
  have H9 : ∃ e : (Nat → Int32) × (Nat → Int32) × (Nat → Int32) × (Nat → Int32) × (Nat → Int32) × (Nat → Int32), q_lo (fun (st : Int32 × (Nat → Int32) × (Nat → Int32) × (Nat → Int32) × (Nat → Int32) × (Nat → Int32) × (Nat → Int32)) => bX10_drawOrders_13 A F T U (nI N) L S st.1 st.2.1 st.2.2.1 st.2.2.2.1 st.2.2.2.2.1 st.2.2.2.2.2.1 st.2.2.2.2.2.2) (1, I, P, D, rw, en, nr) = some e ∧ m_O N (g_swu ex up lo lay row (N - 1)) S e.1 e.2.1 e.2.2.1 := by
    refine q_inv (fun k (st : Int32 × (Nat → Int32) × (Nat → Int32) × (Nat → Int32) × (Nat → Int32) × (Nat → Int32) × (Nat → Int32)) => st.1 = nI (1 + k) ∧ m_O N (g_swu ex up lo lay row k) S st.2.1 st.2.2.1 st.2.2.2.1) (N - 1) ?_ ?_ _ ⟨rfl, hO⟩
    · rintro k ⟨x, I, P, D, rw, en, nr⟩ hk ⟨h1, h2⟩
      dsimp only at h1 h2
      subst h1
      obtain ⟨I', P', D', rw', en', nr', e1, e2⟩ := p_mstep hG (g_V_swu hV k (by omega)) hA hL h2 (show 1 + k < N by omega) true (fun _ => by omega) rw en nr
      rw [if_pos rfl] at e1
      show ∃ t9, bX10_drawOrders_13 A F T U (nI N) L S (nI (1 + k)) I P D rw en nr = some (.inl t9) ∧ _
      unfold bX10_drawOrders_13
      rw [if_neg (by rw [s_le (by omega) (by omega)]; omega), e1, s_b6, s_addL]
      refine ⟨_, rfl, congrArg nI (by show 1 + k + 1 = 1 + (k + 1); omega), ?_⟩
      rw [show 1 + k = k + 1 by omega] at e2
      exact e2
    · rintro ⟨x, I, P, D, rw, en, nr⟩ ⟨h1, h2⟩
      dsimp only at h1 h2
      subst h1
      refine ⟨(I, P, D, rw, en, nr), ?_, h2⟩
      show bX10_drawOrders_13 A F T U (nI N) L S (nI (1 + (N - 1))) I P D rw en nr = _
      unfold bX10_drawOrders_13
      rw [if_pos (by rw [s_le (by omega) (by omega)]; omega)]
  obtain ⟨⟨z0, z1, z2, z3, z4, z5⟩, h8, h9⟩ := H9
  exact ⟨_, _, _, _, _, _, h8, h9⟩
theorem p_mswd (hG : g_G ex up lo bx lay N) (hV : g_V ex up lo bx lay N row) (hA : m_A ex up lo A F T U) (hL : m_L bx lay L) (hO : m_O N row S I P D)  (rw en nr : Nat → Int32) :
    ∃ I' P' D' rw' en' nr', q_lo (fun (st : Int32 × (Nat → Int32) × (Nat → Int32) × (Nat → Int32) × (Nat → Int32) × (Nat → Int32) × (Nat → Int32)) => bX10_drawOrders_40 A F T U (nI N) L S st.1 st.2.1 st.2.2.1 st.2.2.2.1 st.2.2.2.2.1 st.2.2.2.2.2.1 st.2.2.2.2.2.2) (nI N - 2, I, P, D, rw, en, nr) = some (I', P', D', rw', en', nr') ∧ m_O N (g_swd ex up lo lay N row (N - 1)) S I' P' D' := by
  have hN := hG.1
  have H9 : ∃ e : (Nat → Int32) × (Nat → Int32) × (Nat → Int32) × (Nat → Int32) × (Nat → Int32) × (Nat → Int32), q_lo (fun (st : Int32 × (Nat → Int32) × (Nat → Int32) × (Nat → Int32) × (Nat → Int32) × (Nat → Int32) × (Nat → Int32)) => bX10_drawOrders_40 A F T U (nI N) L S st.1 st.2.1 st.2.2.1 st.2.2.2.1 st.2.2.2.2.1 st.2.2.2.2.2.1 st.2.2.2.2.2.2) (nI N - 2, I, P, D, rw, en, nr) = some e ∧ m_O N (g_swd ex up lo lay N row (N - 1)) S e.1 e.2.1 e.2.2.1 := by
    refine q_inv (fun k (st : Int32 × (Nat → Int32) × (Nat → Int32) × (Nat → Int32) × (Nat → Int32) × (Nat → Int32) × (Nat → Int32)) => st.1 = iI ((N : Int) - 2 - k) ∧ m_O N (g_swd ex up lo lay N row k) S st.2.1 st.2.2.1 st.2.2.2.1) (N - 1) ?_ ?_ _ ⟨by show nI N - 2 = _; rw [s_im2]; congr 1; omega, hO⟩
    · rintro k ⟨x, I, P, D, rw, en, nr⟩ hk ⟨h1, h2⟩
      dsimp only at h1 h2
      subst h1
      have hz : iI ((N : Int) - 2 - k) = nI (N - 2 - k) := s_iN (by omega)
      obtain ⟨I', P', D', rw', en', nr', e1, e2⟩ := p_mstep hG (g_V_swd hN hV k) hA hL h2 (show N - 2 - k < N by omega) false (fun h => by cases h) rw en nr
      rw [if_neg (by decide)] at e1
      show ∃ t9, bX10_drawOrders_40 A F T U (nI N) L S (iI ((N : Int) - 2 - k)) I P D rw en nr = some (.inl t9) ∧ _
      unfold bX10_drawOrders_40
      rw [if_neg (by rw [s_ineg (by omega) (by omega)]; omega), hz, e1, s_b6]
      refine ⟨_, rfl, ?_, e2⟩
      show nI (N - 2 - k) + (-1) = _
      rw [← hz, s_im1]
      congr 1
      omega
    · rintro ⟨x, I, P, D, rw, en, nr⟩ ⟨h1, h2⟩
      dsimp only at h1 h2
      subst h1
      refine ⟨(I, P, D, rw, en, nr), ?_, h2⟩
      show bX10_drawOrders_40 A F T U (nI N) L S (iI ((N : Int) - 2 - (N - 1 : Nat))) I P D rw en nr = _
      unfold bX10_drawOrders_40
      rw [if_pos (by rw [s_ineg (by omega) (by omega)]; omega)]
  obtain ⟨⟨z0, z1, z2, z3, z4, z5⟩, h8, h9⟩ := H9
  exact ⟨_, _, _, _, _, _, h8, h9⟩
theorem p_mrnds (hG : g_G ex up lo bx lay N) (hV : g_V ex up lo bx lay N row) (hA : m_A ex up lo A F T U) (hL : m_L bx lay L) (hO : m_O N row S I P D) {r : Nat} (hr : r ≤ 4) (rw en nr : Nat → Int32) :
    ∃ I' P' D' rw' en' nr', q_lo (fun (st : Int32 × (Nat → Int32) × (Nat → Int32) × (Nat → Int32) × (Nat → Int32) × (Nat → Int32) × (Nat → Int32)) => bX10_drawOrders_6 A F T U (nI N) L S (nI r) st.1 st.2.1 st.2.2.1 st.2.2.2.1 st.2.2.2.2.1 st.2.2.2.2.2.1 st.2.2.2.2.2.2) (0, I, P, D, rw, en, nr) = some (I', P', D', rw', en', nr') ∧ m_O N (g_rnd ex up lo lay N row r) S I' P' D' := by
  have hN := hG.1
  have H9 : ∃ e : (Nat → Int32) × (Nat → Int32) × (Nat → Int32) × (Nat → Int32) × (Nat → Int32) × (Nat → Int32), q_lo (fun (st : Int32 × (Nat → Int32) × (Nat → Int32) × (Nat → Int32) × (Nat → Int32) × (Nat → Int32) × (Nat → Int32)) => bX10_drawOrders_6 A F T U (nI N) L S (nI r) st.1 st.2.1 st.2.2.1 st.2.2.2.1 st.2.2.2.2.1 st.2.2.2.2.2.1 st.2.2.2.2.2.2) (0, I, P, D, rw, en, nr) = some e ∧ m_O N (g_rnd ex up lo lay N row r) S e.1 e.2.1 e.2.2.1 := by
    refine q_inv (fun k (st : Int32 × (Nat → Int32) × (Nat → Int32) × (Nat → Int32) × (Nat → Int32) × (Nat → Int32) × (Nat → Int32)) => st.1 = nI k ∧ m_O N (g_rnd ex up lo lay N row k) S st.2.1 st.2.2.1 st.2.2.2.1) r ?_ ?_ _ ⟨rfl, hO⟩
    · rintro k ⟨x, I, P, D, rw, en, nr⟩ hk ⟨h1, h2⟩
      dsimp only at h1 h2
      subst h1
      obtain ⟨a0, a1, a2, a3, a4, a5, e1, e2⟩ := p_mswu hG (g_V_rnd hN hV k) hA hL h2 rw en nr
      obtain ⟨b0, b1, b2, b3, b4, b5, e3, e4⟩ := p_mswd hG (g_V_swu (g_V_rnd hN hV k) _ (by omega)) hA hL e2 a3 a4 a5
      show ∃ t9, bX10_drawOrders_6 A F T U (nI N) L S (nI r) (nI k) I P D rw en nr = some (.inl t9) ∧ _
      unfold bX10_drawOrders_6
      rw [if_neg (by rw [s_le (by omega) (by omega)]; omega), e1, s_b6, e3, s_b6, s_addL]
      exact ⟨_, rfl, rfl, e4⟩
    · rintro ⟨x, I, P, D, rw, en, nr⟩ ⟨h1, h2⟩
      dsimp only at h1 h2
      subst h1
      refine ⟨(I, P, D, rw, en, nr), ?_, h2⟩
      show bX10_drawOrders_6 A F T U (nI N) L S (nI r) (nI r) I P D rw en nr = _
      unfold bX10_drawOrders_6
      rw [if_pos (by rw [s_le (by omega) (by omega)]; omega)]
  obtain ⟨⟨z0, z1, z2, z3, z4, z5⟩, h8, h9⟩ := H9
  exact ⟨_, _, _, _, _, _, h8, h9⟩
end SW
