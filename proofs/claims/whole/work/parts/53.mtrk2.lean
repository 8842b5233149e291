/-! PURE: the reference's track. -/
section TN
variable {ex bx : Nat → Bool} {up lo lay : Nat → Nat} {N : Nat} {row : Nat → List Nat} {wd : Nat → Nat} {X : Nat → Nat → Int} {W A F T U L S I P D Z : Nat → Int32}
theorem p_mt14 (hG : g_G ex up lo bx lay N) (hV : g_V ex up lo bx lay N row) (hA : m_A ex up lo A F T U) (hL : m_L bx lay L) (hO : m_O N row S I P D) (hW : m_WD N row wd W) (hwd : ∀ c, 1 ≤ wd c ∧ wd c ≤ 50) (hX : m_Xs N row X Z) {M : Int} (hB : g_XB N row wd X M) (hM : M ≤ 1000000) {l : Nat} (hl : l < 24) {Lp : List Nat} (hLp : g_Lp ex up lo lay wd X l Lp) (p : Int32) (en : Nat → Int32) :
    ∃ its en', q_lo (fun (st : Int32 × Int32 × Int32 × Int32 × Int32 × (Nat → Int32)) => bX10_track_14 W A F T U L I P D Z p (nI l) st.1 st.2.1 st.2.2.1 st.2.2.2.1 st.2.2.2.2.1 st.2.2.2.2.2) (0, (-1), (-1), (-1), 1, en) = some (nI (g_ts (g_lft up lo lay wd X l) (g_rt up lo lay wd X l) Lp).1, its, en') ∧ ∀ a, a < 24 → p = nI a → its = if a ∈ Lp then nI ((g_ts (g_lft up lo lay wd X l) (g_rt up lo lay wd X l) Lp).2.2 a) else -1 := by
  have hsub := g_Lp_sub hLp
  have hnd := g_Lp_nd hLp
  have hlen := g_Lp_len hLp
  have hlb : ∀ a, a ∈ g_ps ex up lo lay 24 l → (0 ≤ g_lft up lo lay wd X l a ∧ g_lft up lo lay wd X l a ≤ 1000000) ∧ 0 ≤ g_rt up lo lay wd X l a ∧ g_rt up lo lay wd X l a ≤ 1000000 := by
    intro a ha
    have := g_lft_b hG hV hB ha
    omega
  have hlr : ∀ a, a ∈ g_ps ex up lo lay 24 l → _ := fun a ha => p_mleft hG hV hA hL hO hW hwd hX hB hM ha
  generalize hlf : g_lft up lo lay wd X l = lf at hlb hlr
  generalize hrt : g_rt up lo lay wd X l = rt at hlb hlr
  have hpw : Lp.Pairwise (g_lx lf) := by rw [← hlf]; exact hLp.2
  have H9 : ∃ e : Int32 × Int32 × (Nat → Int32), q_lo (fun (st : Int32 × Int32 × Int32 × Int32 × Int32 × (Nat → Int32)) => bX10_track_14 W A F T U L I P D Z p (nI l) st.1 st.2.1 st.2.2.1 st.2.2.2.1 st.2.2.2.2.1 st.2.2.2.2.2) (0, (-1), (-1), (-1), 1, en) = some e ∧ e.1 = nI (g_ts lf rt Lp).1 ∧ ∀ a, a < 24 → p = nI a → e.2.1 = if a ∈ Lp then nI ((g_ts lf rt Lp).2.2 a) else -1 := by
    refine q_inv (fun i (st : Int32 × Int32 × Int32 × Int32 × Int32 × (Nat → Int32)) => (i ≤ Lp.length ∧ st.1 = nI (g_ts lf rt (Lp.take i)).1 ∧ (∀ a, a < 24 → p = nI a → st.2.1 = if a ∈ Lp.take i then nI ((g_ts lf rt (Lp.take i)).2.2 a) else -1) ∧ (i = 0 → st.2.2.1 = -1 ∧ st.2.2.2.1 = -1) ∧ (∀ j b : Nat, i = j + 1 → Lp[j]? = some b → st.2.2.1 = iI (lf b) ∧ st.2.2.2.1 = nI b) ∧ st.2.2.2.2.1 = 1 ∧ ∀ t, t < (g_ts lf rt (Lp.take i)).1 → st.2.2.2.2.2 t = iI ((g_ts lf rt (Lp.take i)).2.1 t)) ∨ (i = Lp.length + 1 ∧ st.1 = nI (g_ts lf rt Lp).1 ∧ (∀ a, a < 24 → p = nI a → st.2.1 = if a ∈ Lp then nI ((g_ts lf rt Lp).2.2 a) else -1) ∧ st.2.2.2.2.1 = 0)) (Lp.length + 1) ?_ ?_ _ (.inl ⟨by omega, rfl, fun a _ _ => rfl, fun _ => ⟨rfl, rfl⟩, fun j b h => by omega, rfl, fun t h => absurd h (Nat.not_lt_zero t)⟩)
    · rintro i ⟨x3, x4, x5, x6, x7, en1⟩ hi hst
      rcases hst with ⟨h0, h1, h2, h3, h4, h5, h6⟩ | ⟨h0, -⟩
      · dsimp only at h1 h2 h3 h4 h5 h6
        subst h1
        subst h5
        have hbh : ∀ a, a ∈ g_ps ex up lo lay 24 l → ((x5 < iI (g_lft up lo lay wd X l a) ∨ (iI (g_lft up lo lay wd X l a) = x5 ∧ ¬ nI a ≤ x6)) ↔ g_bh lf Lp i a) := by
          intro a ha
          rw [hlf]
          have hab := (hlb a ha).1
          have ha24 := (g_ps_mem.mp ha).1
          by_cases hi0 : i = 0
          · subst hi0
            obtain ⟨k1, k2⟩ := h3 rfl
            refine ⟨fun _ => .inl rfl, fun _ => .inl ?_⟩
            rw [k1, show (-1 : Int32) = iI (-1) by decide, iI_lt (by omega) (by omega) (by omega) (by omega)]
            omega
          · obtain ⟨j, hj⟩ : ∃ j, i = j + 1 := ⟨i - 1, by omega⟩
            obtain ⟨b, hb⟩ : ∃ b, Lp[j]? = some b := ⟨_, List.getElem?_eq_getElem (by omega)⟩
            obtain ⟨k1, k2⟩ := h4 j b hj hb
            have hbs := hsub b (g_mem_get hb)
            have hbb := (hlb b hbs.1).1
            rw [k1, k2, iI_lt (by omega) (by omega) (by omega) (by omega), iI_eq (by omega) (by omega) (by omega) (by omega), s_le (by omega) (by omega)]
            have hbb2 : g_bh lf Lp i a ↔ g_lx lf b a := by
              unfold g_bh
              rw [show i - 1 = j by omega]
              constructor
              · rintro (h | ⟨b', h', h''⟩)
                · exact absurd h hi0
                · rw [hb] at h'
                  cases h'
                  exact h''
              · intro h
                exact .inr ⟨b, hb, h⟩
            rw [hbb2]
            unfold g_lx
            omega
        obtain ⟨e, e1, e2⟩ := p_mt25 hG hV hA hL hO hW hwd hX hB hM hl (x1 := p) (x3 := nI (g_ts lf rt (Lp.take i)).1) (x4 := x4) hbh
        rw [hlf] at e2
        show ∃ t9, bX10_track_14 W A F T U L I P D Z p (nI l) (nI (g_ts lf rt (Lp.take i)).1) x4 x5 x6 1 en1 = some (.inl t9) ∧ _
        unfold bX10_track_14
        rw [if_neg (by decide), e1, s_bind]
        rcases e2 with ⟨rfl, e3⟩ | ⟨b, rfl, e3, e4, e5⟩
        · have hil : i = Lp.length := by
            by_cases hlt : i < Lp.length
            · obtain ⟨c, hc⟩ : ∃ c, Lp[i]? = some c := ⟨_, List.getElem?_eq_getElem hlt⟩
              exact absurd ((g_bh_iff hpw h0 hc).mpr (Nat.le_refl _)) (e3 c (hLp.1.mem_iff.mp (g_mem_get hc)))
            · omega
          subst hil
          rw [List.take_length] at h2 ⊢
          rw [if_pos (by decide)]
          unfold jX10_track_141
          rw [if_pos rfl]
          exact ⟨_, rfl, .inr ⟨rfl, rfl, h2, rfl⟩⟩
        · obtain ⟨j, hj⟩ := List.mem_iff_getElem?.mp (hLp.1.mem_iff.mpr e3)
          have hij := (g_bh_iff hpw h0 hj).mp e4
          have hjl := g_lt_len hj
          obtain ⟨c, hc⟩ : ∃ c, Lp[i]? = some c := ⟨_, List.getElem?_eq_getElem (by omega)⟩
          have hbc : b = c := by
            rcases e5 c (hLp.1.mem_iff.mp (g_mem_get hc)) ((g_bh_iff hpw h0 hc).mpr (Nat.le_refl _)) with h | h
            · exact h.symm
            · by_cases hji : j = i
              · subst hji
                rw [hj] at hc
                exact Option.some.inj hc
              · exact absurd (g_lx_at hpw hc hj (by omega)) (g_lx_asym h)
          subst hbc
          have hbs := hsub b (g_mem_get hc)
          obtain ⟨f1, f2⟩ := hlr b hbs.1
          obtain ⟨b1, b2⟩ := hlb b hbs.1
          have hb24 := hbs.2.1
          have hm := g_ts_len (lf := lf) (rt := rt) _ (Lp.take i) rfl
          rw [List.length_take] at hm
          have hte := g_ts_te (lf := lf) (rt := rt) (M := 1000000) _ (Lp.take i) rfl (fun b hb' => (hlb b (hsub b (List.mem_of_mem_take hb')).1).2)
          have hfl := g_fit_le (g_ts lf rt (Lp.take i)).2.1 (lf b) (g_ts lf rt (Lp.take i)).1
          have hfa := g_fit_at (te := (g_ts lf rt (Lp.take i)).2.1) (x := lf b) (m := (g_ts lf rt (Lp.take i)).1)
          have hnot := g_not_take hnd hc
          have htk : g_ts lf rt (Lp.take (i + 1)) = g_t1 lf rt (g_ts lf rt (Lp.take i)) b := by rw [g_take1 hc, g_ts_snoc]
          rw [htk]
          generalize hst : g_ts lf rt (Lp.take i) = st at h2 h6 hm hte hfl hfa
          obtain ⟨m, ten, trn⟩ := st
          dsimp only at h2 h6 hm hte hfl hfa
          have H8 : ∃ e : Int32, q_lo (fun (st : Int32) => bX10_track_154 W F T U L I P D Z en1 (nI l) (nI m) (nI b) st) 0 = some e ∧ e = nI (g_fit ten (lf b) m) := by
            refine q_inv (fun k (st : Int32) => st = nI k) (g_fit ten (lf b) m) ?_ ?_ _ rfl
            · rintro k st hk rfl
              have hti := hte k (by omega)
              have hnl := hfa.1 k hk
              have hlt2 : ¬ iI (ten k) < iI (lf b) := by rw [iI_lt (by omega) (by omega) (by omega) (by omega)]; exact hnl
              show ∃ t9, bX10_track_154 W F T U L I P D Z en1 (nI l) (nI m) (nI b) (nI k) = some (.inl t9) ∧ _
              unfold bX10_track_154
              simp (disch := omega) only [s_in, s_cl, s_leL, s_ltL, s_eqL, s_leR, s_ltR, s_eqR, s_le, s_lt, s_eq, s_addL, s_addL', s_mulL, s_mulL', s_mul, nI_add, s_subL, s_sub, s_m1, s_m1', s_lm1, s_ltm1, s_m1lt, s_m1le, s_m1p, s_10, s_let, s_el, s_er, s_b2, s_b3, s_b4, s_b5, s_b6, s_b7, s_b8, s_b9, s_b10, s_b11, s_b12, s_bind, eq_self, if_pos, if_neg, ite_true, ite_false, if_true, if_false, Bool.false_eq_true, reduceIte, f1, h6 k (by omega), hlt2]
              exact ⟨_, rfl, rfl⟩
            · rintro st rfl
              refine ⟨_, ?_, rfl⟩
              show bX10_track_154 W F T U L I P D Z en1 (nI l) (nI m) (nI b) (nI (g_fit ten (lf b) m)) = _
              unfold bX10_track_154
              by_cases hfm : g_fit ten (lf b) m = m
              · simp (disch := omega) only [s_in, s_cl, s_leL, s_ltL, s_eqL, s_leR, s_ltR, s_eqR, s_le, s_lt, s_eq, s_addL, s_addL', s_mulL, s_mulL', s_mul, nI_add, s_subL, s_sub, s_m1, s_m1', s_lm1, s_ltm1, s_m1lt, s_m1le, s_m1p, s_10, s_let, s_el, s_er, s_b2, s_b3, s_b4, s_b5, s_b6, s_b7, s_b8, s_b9, s_b10, s_b11, s_b12, s_bind, eq_self, if_pos, if_neg, ite_true, ite_false, if_true, if_false, Bool.false_eq_true, reduceIte, hfm]
              · have hlt := hfa.2.resolve_left hfm
                have hti := hte (g_fit ten (lf b) m) (by omega)
                have hlt2 : iI (ten (g_fit ten (lf b) m)) < iI (lf b) := by rw [iI_lt (by omega) (by omega) (by omega) (by omega)]; exact hlt
                simp (disch := omega) only [s_in, s_cl, s_leL, s_ltL, s_eqL, s_leR, s_ltR, s_eqR, s_le, s_lt, s_eq, s_addL, s_addL', s_mulL, s_mulL', s_mul, nI_add, s_subL, s_sub, s_m1, s_m1', s_lm1, s_ltm1, s_m1lt, s_m1le, s_m1p, s_10, s_let, s_el, s_er, s_b2, s_b3, s_b4, s_b5, s_b6, s_b7, s_b8, s_b9, s_b10, s_b11, s_b12, s_bind, eq_self, if_pos, if_neg, ite_true, ite_false, if_true, if_false, Bool.false_eq_true, reduceIte, f1, h6 (g_fit ten (lf b) m) (by omega), hlt2]
          obtain ⟨e, g1, rfl⟩ := H8
          generalize hf : g_fit ten (lf b) m = f at g1 hfl hfa
          have ht1 : g_t1 lf rt (m, ten, trn) b = (max m (f + 1), (fun t => if t = f then rt b else ten t), (fun a => if a = b then f else trn a)) := by
            unfold g_t1
            dsimp only
            rw [hf]
          rw [ht1, if_neg (nI_pos (by omega))]
          have fin : ∀ m' : Nat, m' = max m (f + 1) → ∃ t9, jX10_track_192 W F T U L I P D Z en1 p (nI l) (nI m') x4 1 (nI b) (nI f) = some (.inl t9) ∧ ((i + 1 ≤ Lp.length ∧ t9.1 = nI (max m (f + 1)) ∧ (∀ a, a < 24 → p = nI a → t9.2.1 = if a ∈ Lp.take (i + 1) then nI (if a = b then f else trn a) else -1) ∧ (i + 1 = 0 → t9.2.2.1 = -1 ∧ t9.2.2.2.1 = -1) ∧ (∀ j d : Nat, i + 1 = j + 1 → Lp[j]? = some d → t9.2.2.1 = iI (lf d) ∧ t9.2.2.2.1 = nI d) ∧ t9.2.2.2.2.1 = 1 ∧ ∀ t, t < max m (f + 1) → t9.2.2.2.2.2 t = iI (if t = f then rt b else ten t)) ∨ (i + 1 = Lp.length + 1 ∧ t9.1 = nI (g_ts lf rt Lp).1 ∧ (∀ a, a < 24 → p = nI a → t9.2.1 = if a ∈ Lp then nI ((g_ts lf rt Lp).2.2 a) else -1) ∧ t9.2.2.2.2.1 = 0)) := by
            rintro m' rfl
            have hlast : ∀ j d : Nat, i + 1 = j + 1 → Lp[j]? = some d → iI (lf b) = iI (lf d) ∧ nI b = nI d := by
              intro j d hjd hd
              have : j = i := by omega
              subst this
              rw [hc] at hd
              cases hd
              exact ⟨rfl, rfl⟩
            have hends : ∀ t, t < max m (f + 1) → upd en1 f (iI (rt b)) t = iI (if t = f then rt b else ten t) := by
              intro t ht
              by_cases htf : t = f
              · subst htf
                rw [pk_us, if_pos rfl]
              · rw [pk_un htf, if_neg htf]
                exact h6 t (by omega)
            unfold jX10_track_192 jX10_track_216
            rw [f2, s_bind, f1, s_bind, if_pos (n_in (show f < 40 by omega) (by decide)), s_cl (by omega)]
            by_cases hpb : nI b = p
            · rw [if_pos hpb]
              refine ⟨_, rfl, .inl ⟨by omega, rfl, ?_, fun h => by omega, hlast, rfl, hends⟩⟩
              intro a ha hpa
              have hab : a = b := by
                rw [hpa, s_eq (by omega) (by omega)] at hpb
                exact hpb.symm
              subst hab
              rw [g_take1 hc, if_pos (by simp), if_pos rfl]
            · rw [if_neg hpb]
              refine ⟨_, rfl, .inl ⟨by omega, rfl, ?_, fun h => by omega, hlast, rfl, hends⟩⟩
              intro a ha hpa
              have hab : a ≠ b := fun e => hpb (by rw [hpa, e])
              show x4 = _
              rw [h2 a ha hpa, g_take1 hc]
              by_cases hat : a ∈ Lp.take i
              · rw [if_pos hat, if_pos (by simp [hat]), if_neg hab]
              · rw [if_neg hat, if_neg (by simp [hat, hab])]
          unfold jX10_track_141
          rw [if_neg (by decide), g1, s_bind]
          by_cases hfm : f = m
          · rw [if_pos (by rw [hfm]), s_addL]
            exact fin _ (by omega)
          · rw [if_neg (by rw [s_eq (by omega) (by omega)]; exact hfm)]
            exact fin _ (by omega)
      · omega
    · rintro ⟨x3, x4, x5, x6, x7, en1⟩ hst
      rcases hst with ⟨h0, -⟩ | ⟨h0, h1, h2, h3⟩
      · omega
      · dsimp only at h1 h2 h3
        subst h3
        refine ⟨(x3, x4, en1), ?_, h1, h2⟩
        show bX10_track_14 W A F T U L I P D Z p (nI l) x3 x4 x5 x6 0 en1 = _
        unfold bX10_track_14
        rw [if_pos rfl]
  obtain ⟨⟨z1, z2, z3⟩, h8, h9, h10⟩ := H9
  dsimp only at h9 h10
  subst h9
  exact ⟨z2, z3, h8, h10⟩
theorem p_mtrack (hG : g_G ex up lo bx lay N) (hV : g_V ex up lo bx lay N row) (hA : m_A ex up lo A F T U) (hL : m_L bx lay L) (hO : m_O N row S I P D) (hW : m_WD N row wd W) (hwd : ∀ c, 1 ≤ wd c ∧ wd c ≤ 50) (hX : m_Xs N row X Z) {M : Int} (hB : g_XB N row wd X M) (hM : M ≤ 1000000) {l : Nat} (hl : l < 24) {Lp : List Nat} (hLp : g_Lp ex up lo lay wd X l Lp) (en : Nat → Int32) :
    (∃ en', fX10_track W A F T U L I P D Z en (-1) (nI l) = some (nI (g_ts (g_lft up lo lay wd X l) (g_rt up lo lay wd X l) Lp).1, en')) ∧ ∀ a, a < 24 → ∃ en', fX10_track W A F T U L I P D Z en (nI a) (nI l) = some (if a ∈ Lp then nI ((g_ts (g_lft up lo lay wd X l) (g_rt up lo lay wd X l) Lp).2.2 a) else -1, en') := by
  constructor
  · obtain ⟨its, en', h1, -⟩ := p_mt14 hG hV hA hL hO hW hwd hX hB hM hl hLp (-1) en
    refine ⟨en', ?_⟩
    unfold fX10_track
    rw [h1, s_b3, if_neg (by decide)]
  · intro a ha
    obtain ⟨its, en', h1, h2⟩ := p_mt14 hG hV hA hL hO hW hwd hX hB hM hl hLp (nI a) en
    refine ⟨en', ?_⟩
    unfold fX10_track
    rw [h1, s_b3, if_pos (nI_pos' (by omega)), h2 a ha rfl]
end TN
