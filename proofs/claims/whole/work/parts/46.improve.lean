/-! PURE: a drawing's orders, of class and reference. -/
def g_exs (ex : Nat → Bool) (up lo lay : Nat → Nat) (row : Nat → List Nat) : Nat → Nat → List Nat
  | 0 => row
  | k + 1 => g_exa ex up lo lay (g_exs ex up lo lay row k) (k + 1)
def g_dro (ex : Nat → Bool) (up lo lay : Nat → Nat) (N : Nat) (row : Nat → List Nat) (r : Nat) : Nat → List Nat := g_exs ex up lo lay (g_rnd ex up lo lay N row r) (N - 1)
section IM
variable {ex bx : Nat → Bool} {up lo lay : Nat → Nat} {N : Nat} {row : Nat → List Nat} {sz ar uu ll : Nat → Int32} {so rw pl hm : Nat → Int32} {X A F T U L S I P D : Nat → Int32}
theorem g_V_exs (hV : g_V ex up lo bx lay N row) : ∀ k : Nat, k < 24 → g_V ex up lo bx lay N (g_exs ex up lo lay row k)
  | 0, _ => hV
  | k + 1, h => g_V_exa (g_V_exs hV k (by omega)) (by omega)
theorem g_V_dro (hN : N ≤ 24) (hV : g_V ex up lo bx lay N row) (r : Nat) : g_V ex up lo bx lay N (g_dro ex up lo lay N row r) := g_V_exs (g_V_rnd hN hV r) _ (by omega)
theorem p_exs (hG : g_G ex up lo bx lay N) (hV : g_V ex up lo bx lay N row) (hP : c_P up lo lay (g_ps ex up lo lay 24) sz ar uu ll) (hO : c_O N row (nI N) so rw pl hm) (co ab be cd us ch bs : Nat → Int32) (bc bz : Int32) :
    ∃ co' ab' be' cd' us' ch' bs' bc' bz' rw' pl', q_lo (fun (st : Int32 × (Nat → Int32) × (Nat → Int32) × (Nat → Int32) × (Nat → Int32) × (Nat → Int32) × (Nat → Int32) × (Nat → Int32) × Int32 × Int32 × (Nat → Int32) × (Nat → Int32) × (Nat → Int32)) => bX5_improve_20 sz uu ll (nI N) so st.1 st.2.1 st.2.2.1 st.2.2.2.1 st.2.2.2.2.1 st.2.2.2.2.2.1 st.2.2.2.2.2.2.1 st.2.2.2.2.2.2.2.1 st.2.2.2.2.2.2.2.2.1 st.2.2.2.2.2.2.2.2.2.1 st.2.2.2.2.2.2.2.2.2.2.1 st.2.2.2.2.2.2.2.2.2.2.2.1 st.2.2.2.2.2.2.2.2.2.2.2.2) (1, co, ab, be, cd, us, ch, bs, bc, bz, rw, pl, hm) = some (co', ab', be', cd', us', ch', bs', bc', bz', rw', pl', hm) ∧ c_O N (g_exs ex up lo lay row (N - 1)) (nI N) so rw' pl' hm := by
  have hN := hG.1
  have H9 : ∃ e : (Nat → Int32) × (Nat → Int32) × (Nat → Int32) × (Nat → Int32) × (Nat → Int32) × (Nat → Int32) × (Nat → Int32) × Int32 × Int32 × (Nat → Int32) × (Nat → Int32) × (Nat → Int32), q_lo (fun (st : Int32 × (Nat → Int32) × (Nat → Int32) × (Nat → Int32) × (Nat → Int32) × (Nat → Int32) × (Nat → Int32) × (Nat → Int32) × Int32 × Int32 × (Nat → Int32) × (Nat → Int32) × (Nat → Int32)) => bX5_improve_20 sz uu ll (nI N) so st.1 st.2.1 st.2.2.1 st.2.2.2.1 st.2.2.2.2.1 st.2.2.2.2.2.1 st.2.2.2.2.2.2.1 st.2.2.2.2.2.2.2.1 st.2.2.2.2.2.2.2.2.1 st.2.2.2.2.2.2.2.2.2.1 st.2.2.2.2.2.2.2.2.2.2.1 st.2.2.2.2.2.2.2.2.2.2.2.1 st.2.2.2.2.2.2.2.2.2.2.2.2) (1, co, ab, be, cd, us, ch, bs, bc, bz, rw, pl, hm) = some e ∧ c_O N (g_exs ex up lo lay row (N - 1)) (nI N) so e.2.2.2.2.2.2.2.2.2.1 e.2.2.2.2.2.2.2.2.2.2.1 hm ∧ e.2.2.2.2.2.2.2.2.2.2.2 = hm := by
    refine q_inv (fun k (st : Int32 × (Nat → Int32) × (Nat → Int32) × (Nat → Int32) × (Nat → Int32) × (Nat → Int32) × (Nat → Int32) × (Nat → Int32) × Int32 × Int32 × (Nat → Int32) × (Nat → Int32) × (Nat → Int32)) => st.1 = nI (1 + k) ∧ c_O N (g_exs ex up lo lay row k) (nI N) so st.2.2.2.2.2.2.2.2.2.2.1 st.2.2.2.2.2.2.2.2.2.2.2.1 hm ∧ st.2.2.2.2.2.2.2.2.2.2.2.2 = hm) (N - 1) ?_ ?_ _ ⟨rfl, hO, rfl⟩
    · rintro k ⟨x, co, ab, be, cd, us, ch, bs, bc, bz, rw, pl, hm1⟩ hk ⟨h1, h2, h3⟩
      dsimp only at h1 h2 h3
      subst h1
      subst h3
      obtain ⟨co', ab', be', cd', us', ch', bs', bc', bz', rw', pl', e1, e2⟩ := p_arrange hG (g_V_exs hV k (by omega)) hP h2 (show 1 + k < N by omega) (by omega) co ab be cd us ch bs bc
      show ∃ t9, bX5_improve_20 sz uu ll (nI N) so (nI (1 + k)) co ab be cd us ch bs bc bz rw pl hm1 = some (.inl t9) ∧ _
      unfold bX5_improve_20 fX4_layers
      rw [s_bind, if_neg (by rw [s_le (by omega) (by omega)]; omega), e1, s_b12, s_addL]
      refine ⟨_, rfl, congrArg nI (by show 1 + k + 1 = 1 + (k + 1); omega), ?_, rfl⟩
      rw [show 1 + k = k + 1 by omega] at e2
      exact e2
    · rintro ⟨x, co, ab, be, cd, us, ch, bs, bc, bz, rw, pl, hm1⟩ ⟨h1, h2, h3⟩
      dsimp only at h1 h2 h3
      subst h1
      subst h3
      refine ⟨(co, ab, be, cd, us, ch, bs, bc, bz, rw, pl, hm1), ?_, h2, rfl⟩
      show bX5_improve_20 sz uu ll (nI N) so (nI (1 + (N - 1))) co ab be cd us ch bs bc bz rw pl hm1 = _
      unfold bX5_improve_20 fX4_layers
      rw [s_bind, if_pos (by rw [s_le (by omega) (by omega)]; omega)]
  obtain ⟨⟨z0, z1, z2, z3, z4, z5, z6, z7, z8, z9, z10, z11⟩, h8, h9, h10⟩ := H9
  dsimp only at h9 h10
  subst h10
  exact ⟨_, _, _, _, _, _, _, _, _, _, _, h8, h9⟩
theorem p_improve (hG : g_G ex up lo bx lay N) (hV : g_V ex up lo bx lay N row) (hP : c_P up lo lay (g_ps ex up lo lay 24) sz ar uu ll) (hO : c_O N row (nI N) so rw pl hm) {r : Nat} (hr : r ≤ 4) (xu xl ow fa dg sn md sd sr sp : Nat → Int32) (mv : Int32) (co ab be cd us ch bs : Nat → Int32) (bc bz : Int32) :
    ∃ xu' xl' ow' fa' dg' sn' md' sd' sr' sp' mv' co' ab' be' cd' us' ch' bs' bc' bz' rw' pl', fX5_improve sz uu ll xu xl ow fa dg sn md sd sr sp mv co ab be cd us ch bs bc bz (nI N) so rw pl hm (nI r) = some (xu', xl', ow', fa', dg', sn', md', sd', sr', sp', mv', co', ab', be', cd', us', ch', bs', bc', bz', rw', pl', hm) ∧ c_O N (g_dro ex up lo lay N row r) (nI N) so rw' pl' hm := by
  have hN := hG.1
  obtain ⟨a0, a1, a2, a3, a4, a5, a6, a7, a8, a9, a10, a11, a12, h1, h2⟩ := p_rnds hG hV hP hO hr xu xl ow fa dg sn md sd sr sp mv
  obtain ⟨b0, b1, b2, b3, b4, b5, b6, b7, b8, b9, b10, h3, h4⟩ := p_exs hG (g_V_rnd hN hV r) hP h2 co ab be cd us ch bs bc bz
  unfold fX5_improve
  rw [h1, s_b14, h3, s_b12]
  exact ⟨_, _, _, _, _, _, _, _, _, _, _, _, _, _, _, _, _, _, _, _, _, _, rfl, h4⟩
theorem p_mexs (hG : g_G ex up lo bx lay N) (hV : g_V ex up lo bx lay N row) (hA : m_A ex up lo A F T U) (hL : m_L bx lay L) (hO : m_O N row S I P D) (rw nr : Nat → Int32) :
    ∃ I' P' D' rw' nr', q_lo (fun (st : Int32 × (Nat → Int32) × (Nat → Int32) × (Nat → Int32) × (Nat → Int32) × (Nat → Int32)) => bX10_drawOrders_64 A F T U (nI N) L S st.1 st.2.1 st.2.2.1 st.2.2.2.1 st.2.2.2.2.1 st.2.2.2.2.2) (1, I, P, D, rw, nr) = some (I', P', D', rw', nr') ∧ m_O N (g_exs ex up lo lay row (N - 1)) S I' P' D' := by
  have hN := hG.1
  have H9 : ∃ e : (Nat → Int32) × (Nat → Int32) × (Nat → Int32) × (Nat → Int32) × (Nat → Int32), q_lo (fun (st : Int32 × (Nat → Int32) × (Nat → Int32) × (Nat → Int32) × (Nat → Int32) × (Nat → Int32)) => bX10_drawOrders_64 A F T U (nI N) L S st.1 st.2.1 st.2.2.1 st.2.2.2.1 st.2.2.2.2.1 st.2.2.2.2.2) (1, I, P, D, rw, nr) = some e ∧ m_O N (g_exs ex up lo lay row (N - 1)) S e.1 e.2.1 e.2.2.1 := by
    refine q_inv (fun k (st : Int32 × (Nat → Int32) × (Nat → Int32) × (Nat → Int32) × (Nat → Int32) × (Nat → Int32)) => st.1 = nI (1 + k) ∧ m_O N (g_exs ex up lo lay row k) S st.2.1 st.2.2.1 st.2.2.2.1) (N - 1) ?_ ?_ _ ⟨rfl, hO⟩
    · rintro k ⟨x, I, P, D, rw, nr⟩ hk ⟨h1, h2⟩
      dsimp only at h1 h2
      subst h1
      obtain ⟨I', P', D', rw', nr', e1, e2⟩ := p_mexact hG (g_V_exs hV k (by omega)) hA hL h2 (show 1 + k < N by omega) (by omega) rw nr
      show ∃ t9, bX10_drawOrders_64 A F T U (nI N) L S (nI (1 + k)) I P D rw nr = some (.inl t9) ∧ _
      unfold bX10_drawOrders_64
      rw [if_neg (by rw [s_le (by omega) (by omega)]; omega), e1, s_b5, s_addL]
      refine ⟨_, rfl, congrArg nI (by show 1 + k + 1 = 1 + (k + 1); omega), ?_⟩
      rw [show 1 + k = k + 1 by omega] at e2
      exact e2
    · rintro ⟨x, I, P, D, rw, nr⟩ ⟨h1, h2⟩
      dsimp only at h1 h2
      subst h1
      refine ⟨(I, P, D, rw, nr), ?_, h2⟩
      show bX10_drawOrders_64 A F T U (nI N) L S (nI (1 + (N - 1))) I P D rw nr = _
      unfold bX10_drawOrders_64
      rw [if_pos (by rw [s_le (by omega) (by omega)]; omega)]
  obtain ⟨⟨z0, z1, z2, z3, z4⟩, h8, h9⟩ := H9
  exact ⟨_, _, _, _, _, h8, h9⟩
theorem g_V_first (hN : N ≤ 24) : g_V ex up lo bx lay N (g_all (g_hd ex up lo bx lay) (fun _ => []) N) := by
  intro l hl
  unfold g_all
  by_cases h : l < N
  · rw [if_pos h]
    refine ⟨g_ms_nd 40, fun c => ?_⟩
    rw [g_ms_mem]
    constructor
    · rintro (h1 | h1)
      · simp at h1
      · exact ⟨h, h1.1, h1.2⟩
    · rintro ⟨-, h1, h2⟩
      exact .inr ⟨h1, h2⟩
  · rw [if_neg h]
    refine ⟨List.nodup_nil, fun c => ?_⟩
    constructor
    · intro h1
      simp at h1
    · rintro ⟨h1, -⟩
      exact absurd h1 h
theorem p_mdraw (hG : g_G ex up lo bx lay N) (hX : m_X bx X) (hA : m_A ex up lo A F T U) (hL : m_L bx lay L) {r : Nat} (hr : r ≤ 4) (S I P D rw en nr : Nat → Int32) :
    ∃ S' I' P' D' rw' en' nr', fX10_drawOrders X A F T U (nI N) L S I P D rw en nr (nI r) = some (S', I', P', D', rw', en', nr') ∧ m_O N (g_dro ex up lo lay N (g_all (g_hd ex up lo bx lay) (fun _ => []) N) r) S' I' P' D' := by
  have hN := hG.1
  obtain ⟨S1, I1, P1, D1, h1, h2⟩ := p_firstOrders hG hX hA hL S I P D
  obtain ⟨I2, P2, D2, rw2, en2, nr2, h3, h4⟩ := p_mrnds hG (g_V_first hN) hA hL h2 hr rw en nr
  obtain ⟨I3, P3, D3, rw3, nr3, h5, h6⟩ := p_mexs hG (g_V_rnd hN (g_V_first hN) r) hA hL h4 rw2 nr2
  unfold fX10_drawOrders
  rw [h1, s_b4, h3, s_b6, h5, s_b5]
  exact ⟨_, _, _, _, _, _, _, rfl, h6⟩
end IM
