/-! PURE: count. -/
section CI
variable {ex bx : Nat → Bool} {up lo lay : Nat → Nat} {N : Nat} {row : Nat → List Nat} {wd : Nat → Nat} {X : Nat → Nat → Int}
theorem g_inc_xpk (hV : g_V ex up lo bx lay N row) (hN : N ≤ 24) : g_inc N row wd (g_xpk row wd X N) := by
  intro l hl k c d hc hd
  have hn := (hV l (by omega)).1
  rw [g_xpk_at hn hc N hl, g_xpk_at hn hd N hl, g_pk, g_getD hc]
  exact Int.le_refl _
theorem g_inc_xp (hV : g_V ex up lo bx lay N row) (hN : N ≤ 24) (hX : g_inc N row wd X) (s : Bool) (l : Nat) : g_inc N row wd (g_xp ex up lo lay row wd s l X) := by
  intro i hi k c d hc hd
  unfold g_xp
  by_cases hil : i = l
  · subst hil
    have hn := (hV i (by omega)).1
    rw [g_xu_new hn hc (g_lt_len hc), g_xu_new hn hd (g_lt_len hd), g_xk, g_getD hc]
    omega
  · rw [g_xu_ne hil]
    exact hX i hi k c d hc hd
theorem g_inc_xa (hV : g_V ex up lo bx lay N row) (hN : N ≤ 24) (hX : g_inc N row wd X) (s : Bool) : ∀ k, g_inc N row wd (g_xa ex up lo lay row wd N s X k)
  | 0 => hX
  | k + 1 => g_inc_xp hV hN (g_inc_xa hV hN hX s k) s _
theorem g_inc_x4 (hV : g_V ex up lo bx lay N row) (hN : N ≤ 24) (hX : g_inc N row wd X) : ∀ k, g_inc N row wd (g_x4 ex up lo lay row wd N X k)
  | 0 => hX
  | k + 1 => g_inc_xa hV hN (g_inc_x4 hV hN hX k) _ N
theorem g_inc_X (hV : g_V ex up lo bx lay N row) (hN : N ≤ 24) (m : Int) : g_inc N row wd (g_X ex up lo lay row wd N m) := by
  intro l hl k c d hc hd
  have := g_inc_x4 (wd := wd) hV hN (g_inc_xpk (X := fun _ _ => 0) hV hN) 4 l hl k c d hc hd
  show g_xf ex up lo lay row wd N l c - m + _ + 4 ≤ g_xf ex up lo lay row wd N l d - m
  unfold g_xf
  omega
def g_ge (row : Nat → List Nat) (X : Nat → Nat → Int) (wd : Nat → Nat) : Nat → Int
  | 0 => 0
  | n + 1 => ((row n)[(row n).length - 1]?).elim (g_ge row X wd n) (fun c => max (g_ge row X wd n) (X n c + (wd c : Int)))
theorem g_ge_b (hwd : ∀ c, 1 ≤ wd c ∧ wd c ≤ 50) (hb : ∀ l, l < N → ∀ c, c ∈ row l → 0 ≤ X l c ∧ X l c ≤ 210025) : ∀ n, n ≤ N → 0 ≤ g_ge row X wd n ∧ g_ge row X wd n ≤ 210075
  | 0, _ => by rw [g_ge]; omega
  | n + 1, h => by
    have h1 := g_ge_b hwd hb n (by omega)
    rw [g_ge]
    cases hl : (row n)[(row n).length - 1]? with
    | none => exact h1
    | some c =>
      have h2 := hb n (by omega) c (g_mem_get hl)
      have h3 := hwd c
      show 0 ≤ max _ _ ∧ max _ _ ≤ _
      omega
def g_mt (tm : Nat → Nat) (N : Nat) : Nat → Nat
  | 0 => 0
  | n + 1 => max (g_mt tm N n) (if n + 1 < N then tm n else 0)
theorem g_mt_b {tm : Nat → Nat} (h : ∀ n, n + 1 < N → tm n ≤ 24) : ∀ n, g_mt tm N n ≤ 24
  | 0 => Nat.zero_le _
  | n + 1 => by
    have h1 := g_mt_b h n
    rw [g_mt]
    split
    · next hc => have := h n hc; omega
    · omega
theorem g_mt_end {tm : Nat → Nat} : ∀ k, g_mt tm N (N + k) = g_mt tm N N
  | 0 => rfl
  | k + 1 => by
    rw [← Nat.add_assoc, g_mt, if_neg (by omega), g_mt_end k]
    omega
def g_it (row : Nat → List Nat) : Nat → Nat
  | 0 => 0
  | n + 1 => g_it row n + (row n).length
end CI
section CQ
variable {w sz ar uu ll C : Nat → Int32} {so rw pl hm : Nat → Int32} {N : Nat} {row : Nat → List Nat} {wd : Nat → Nat} {X : Nat → Nat → Int}
theorem p_items (hO : c_O N row (nI N) so rw pl hm) : fX4_items (nI N) so = some (nI (g_it row N)) := by
  have hN := hO.2.1
  have H9 : ∃ e : Int32, q_lo (fun (st : Int32 × Int32) => bX4_items_4 (nI N) so st.1 st.2) (0, 0) = some e ∧ e = nI (g_it row N) := by
    refine q_inv (fun n (st : Int32 × Int32) => st = (nI (g_it row n), nI n)) N ?_ ?_ _ rfl
    · rintro n st hn rfl
      refine ⟨_, ?_, rfl⟩
      show bX4_items_4 (nI N) so (nI (g_it row n)) (nI n) = _
      unfold bX4_items_4
      rw [if_neg (by rw [s_le (by omega) (by omega)]; omega), p_sizeO hO (by omega), s_bind, nI_add, s_addL]
      rfl
    · rintro st rfl
      refine ⟨_, ?_, rfl⟩
      show bX4_items_4 (nI N) so _ (nI N) = _
      unfold bX4_items_4
      rw [if_pos (Int32.le_refl _)]
  obtain ⟨e, h8, rfl⟩ := H9
  unfold fX4_items
  rw [h8]
  rfl
theorem p_great (hO : c_O N row (nI N) so rw pl hm) (hW : c_WD N row wd w) (hwd : ∀ c, 1 ≤ wd c ∧ wd c ≤ 50) (hb : ∀ l, l < N → ∀ c, c ∈ row l → 0 ≤ X l c ∧ X l c ≤ 210025) (hi : g_inc N row wd X) (hX : c_X N row X C) : fX1_greatestEnd w C (nI N) so rw = some (iI (g_ge row X wd N)) := by
  have hN := hO.2.1
  have H9 : ∃ e : Int32, q_lo (fun (st : Int32 × Int32) => bX1_greatestEnd_4 w C (nI N) so rw st.1 st.2) (0, 0) = some e ∧ e = iI (g_ge row X wd N) := by
    refine q_inv (fun n (st : Int32 × Int32) => st = (iI (g_ge row X wd n), nI n)) N ?_ ?_ _ rfl
    · rintro n st hn rfl
      have hgb := g_ge_b hwd hb n (by omega)
      have hl40 := (hO.2.2.1 n (by omega)).2.2.1
      have H8 : ∃ e : Int32, q_lo (fun (st : Int32 × Int32) => bX1_greatestEnd_15 w C (nI N) so rw (nI n) st.1 st.2) (iI (g_ge row X wd n), 0) = some e ∧ e = iI (g_ge row X wd (n + 1)) := by
        refine q_inv (fun k (st : Int32 × Int32) => st.2 = nI k ∧ (k = 0 → st.1 = iI (g_ge row X wd n)) ∧ ∀ j c : Nat, k = j + 1 → (row n)[j]? = some c → st.1 = iI (max (g_ge row X wd n) (X n c + (wd c : Int)))) (row n).length ?_ ?_ _ ⟨rfl, fun _ => rfl, fun j c h => by omega⟩
        · rintro k ⟨x, y⟩ hk ⟨h1, h2, h3⟩
          dsimp only at h1 h2 h3
          subst h1
          obtain ⟨c, hc⟩ : ∃ c, (row n)[k]? = some c := ⟨_, List.getElem?_eq_getElem hk⟩
          obtain ⟨w1, w2⟩ := hW n hn c (g_mem_get hc)
          have hcb := hb n hn c (g_mem_get hc)
          have hwc := hwd c
          have e1 := p_endOf (show n < 24 by omega) w1 w2 (hX n hn c (g_mem_get hc))
          have e2 : (if x < iI (X n c + (wd c : Int)) then iI (X n c + (wd c : Int)) else x) = iI (max (g_ge row X wd n) (X n c + (wd c : Int))) := by
            cases k with
            | zero =>
              rw [h2 rfl]
              by_cases hlt : g_ge row X wd n < X n c + (wd c : Int)
              · rw [if_pos (by rw [iI_lt (by omega) (by omega) (by omega) (by omega)]; exact hlt)]
                congr 1
                omega
              · rw [if_neg (by rw [iI_lt (by omega) (by omega) (by omega) (by omega)]; exact hlt)]
                congr 1
                omega
            | succ j =>
              obtain ⟨d, hd⟩ : ∃ d, (row n)[j]? = some d := ⟨_, List.getElem?_eq_getElem (by omega)⟩
              have hdb := hb n hn d (g_mem_get hd)
              have hwdd := hwd d
              have hinc := hi n hn j d c hd hc
              rw [h3 j d rfl hd]
              by_cases hlt : max (g_ge row X wd n) (X n d + (wd d : Int)) < X n c + (wd c : Int)
              · rw [if_pos (by rw [iI_lt (by omega) (by omega) (by omega) (by omega)]; exact hlt)]
                congr 1
                omega
              · rw [if_neg (by rw [iI_lt (by omega) (by omega) (by omega) (by omega)]; exact hlt)]
                congr 1
                omega
          show ∃ t9, bX1_greatestEnd_15 w C (nI N) so rw (nI n) x (nI k) = some (.inl t9) ∧ _
          unfold bX1_greatestEnd_15
          rw [p_sizeO hO (by omega), s_bind, if_neg (by rw [s_le (by omega) (by omega)]; omega), p_itemIn hO (by omega) hc, s_bind, e1, s_bind, s_let, e2, s_addL]
          refine ⟨_, rfl, rfl, fun h => by omega, ?_⟩
          intro j d hj hd
          have : j = k := by omega
          subst this
          rw [hc] at hd
          cases hd
          rfl
        · rintro ⟨x, y⟩ ⟨h1, h2, h3⟩
          dsimp only at h1 h2 h3
          subst h1
          refine ⟨x, ?_, ?_⟩
          · show bX1_greatestEnd_15 w C (nI N) so rw (nI n) x (nI (row n).length) = _
            unfold bX1_greatestEnd_15
            rw [p_sizeO hO (by omega), s_bind, if_pos (Int32.le_refl _)]
          · rw [g_ge]
            cases hlast : (row n)[(row n).length - 1]? with
            | none =>
              rw [List.getElem?_eq_none_iff] at hlast
              exact h2 (by omega)
            | some c =>
              have := g_lt_len hlast
              exact h3 ((row n).length - 1) c (by omega) hlast
      obtain ⟨e, h8, rfl⟩ := H8
      refine ⟨_, ?_, rfl⟩
      show bX1_greatestEnd_4 w C (nI N) so rw (iI (g_ge row X wd n)) (nI n) = _
      unfold bX1_greatestEnd_4 fX4_layers
      rw [s_bind, if_neg (by rw [s_le (by omega) (by omega)]; omega), h8, s_bind, s_addL]
    · rintro st rfl
      refine ⟨_, ?_, rfl⟩
      show bX1_greatestEnd_4 w C (nI N) so rw _ (nI N) = _
      unfold bX1_greatestEnd_4 fX4_layers
      rw [s_bind, if_pos (Int32.le_refl _)]
  obtain ⟨e, h8, rfl⟩ := H9
  unfold fX1_greatestEnd
  rw [h8]
  rfl
theorem p_most {us : Nat → Int32} {tm : Nat → Nat} (hb : ∀ n, n + 1 < N → tm n ≤ 24) (hu : ∀ l, l < 24 → us l = nI (if l + 1 < N then tm l else 0)) : fX8_mostTracks us = some (nI (g_mt tm N 24)) := by
  have H9 : ∃ e : Int32, q_lo (fun (st : Int32 × Int32) => bX8_mostTracks_4 us st.1 st.2) (0, 0) = some e ∧ e = nI (g_mt tm N 24) := by
    refine q_inv (fun n (st : Int32 × Int32) => st = (nI (g_mt tm N n), nI n)) 24 ?_ ?_ _ rfl
    · rintro n st hn rfl
      have hgb := g_mt_b hb n
      have hub : (if n + 1 < N then tm n else 0) ≤ 24 := by
        split
        · next h => exact hb n h
        · omega
      have h1 := hu n hn
      refine ⟨_, ?_, rfl⟩
      rw [g_mt]
      show bX8_mostTracks_4 us (nI (g_mt tm N n)) (nI n) = _
      unfold bX8_mostTracks_4
      generalize (if n + 1 < N then tm n else 0) = u at hub h1
      rw [if_neg (by rw [n_lit 24, s_le (by omega) (by omega)]; omega), if_pos (n_in hn (by decide)), s_cl (by omega), h1, s_let, s_addL, n_max]
      by_cases hlt : g_mt tm N n < u
      · rw [if_pos (by rw [s_lt (by omega) (by omega)]; exact hlt), if_pos hlt]
      · rw [if_neg (by rw [s_lt (by omega) (by omega)]; exact hlt), if_neg hlt]
    · rintro st rfl
      refine ⟨_, ?_, rfl⟩
      show bX8_mostTracks_4 us _ (nI 24) = _
      unfold bX8_mostTracks_4
      rw [if_pos (by decide)]
  obtain ⟨e, h8, rfl⟩ := H9
  unfold fX8_mostTracks
  rw [h8]
  rfl
/-- counts of marks -/
theorem p_cnt {B : Int32 → Int32 → Option ((Int32 × Int32) ⊕ Int32)} {q : Nat → Bool} {M : Nat} (hs : ∀ n, n < M → B (nI (g_ct q n)) (nI n) = some (.inl (nI (g_ct q n + if q n = true then 1 else 0), nI (n + 1)))) (he : ∀ x, B x (nI M) = some (.inr x)) : q_lo (fun (st : Int32 × Int32) => B st.1 st.2) (0, 0) = some (nI (g_ct q M)) := by
  have H9 : ∃ e : Int32, q_lo (fun (st : Int32 × Int32) => B st.1 st.2) (0, 0) = some e ∧ e = nI (g_ct q M) := by
    refine q_inv (fun n (st : Int32 × Int32) => st = (nI (g_ct q n), nI n)) M ?_ ?_ _ rfl
    · rintro n st hn rfl
      refine ⟨_, hs n hn, ?_⟩
      rw [g_ct_s]
    · rintro st rfl
      exact ⟨_, he _, rfl⟩
  obtain ⟨e, h8, rfl⟩ := H9
  exact h8
theorem p_drawn {W A F T U L S I P D Z : Nat → Int32} {v : Int32} {val : Nat → Int} (h0 : val 0 = 0) (hN : N ≤ 24) (hs : ∀ n, n < N → ∀ en, ∃ en', bX10_drawn_4 W A F T U (nI N) L S I P D Z v (iI (val n)) (nI n) en = some (.inl (iI (val (n + 1)), nI (n + 1), en'))) (en : Nat → Int32) : ∃ en', q_lo (fun (st : Int32 × Int32 × (Nat → Int32)) => bX10_drawn_4 W A F T U (nI N) L S I P D Z v st.1 st.2.1 st.2.2) (0, 0, en) = some (iI (val N), en') := by
  have H9 : ∃ e : Int32 × (Nat → Int32), q_lo (fun (st : Int32 × Int32 × (Nat → Int32)) => bX10_drawn_4 W A F T U (nI N) L S I P D Z v st.1 st.2.1 st.2.2) (0, 0, en) = some e ∧ e.1 = iI (val N) := by
    refine q_inv (fun n (st : Int32 × Int32 × (Nat → Int32)) => st.1 = iI (val n) ∧ st.2.1 = nI n) N ?_ ?_ _ ⟨by rw [h0]; rfl, rfl⟩
    · rintro n ⟨x, y, e⟩ hn ⟨h1, h2⟩
      dsimp only at h1 h2
      subst h1
      subst h2
      obtain ⟨en', h3⟩ := hs n hn e
      exact ⟨_, h3, rfl, rfl⟩
    · rintro ⟨x, y, e⟩ ⟨h1, h2⟩
      dsimp only at h1 h2
      subst h1
      subst h2
      refine ⟨(iI (val N), e), ?_, rfl⟩
      show bX10_drawn_4 W A F T U (nI N) L S I P D Z v (iI (val N)) (nI N) e = _
      unfold bX10_drawn_4
      rw [if_pos (Int32.le_refl _)]
  obtain ⟨⟨e1, e2⟩, h8, h9⟩ := H9
  dsimp only at h9
  subst h9
  exact ⟨e2, h8⟩
end CQ
section CT
variable {M_told : Int32} {R_width : Nat → Int32} {R_pinned : Nat → Int32} {R_from : Nat → Int32} {R_to : Nat → Int32} {R_turned : Nat → Int32} {L_layer : Nat → Int32} {L_tops : Nat → Int32} {L_bottoms : Nat → Int32} {L_layers : Int32} {P_size : Nat → Int32} {P_arrows : Nat → Int32} {P_uppers : Nat → Int32} {P_lowers : Nat → Int32} {C_x : Nat → Int32} {T_track : Nat → Int32} {T_used : Nat → Int32} {OL_layers : Int32} {OL_size : Nat → Int32} {OL_rows : Nat → Int32} {OL_places : Nat → Int32} {OL_home : Nat → Int32} {Z_isBox : Nat → Int32} {Z_width : Nat → Int32} {Z_pinned : Nat → Int32} {Z_isArrow : Nat → Int32} {Z_from : Nat → Int32} {Z_to : Nat → Int32} {Z_turned : Nat → Int32} {Z_told : Int32} {Z_layers : Int32} {Z_layer : Nat → Int32} {Z_sizes : Nat → Int32} {Z_items : Nat → Int32} {Z_place : Nat → Int32} {Z_dummyPlace : Nat → Int32} {Z_xs : Nat → Int32} {Z_oldLayer : Nat → Int32} {Z_oldPlace : Nat → Int32} {Z_oldDummy : Nat → Int32}
theorem k_opCount (hI : k_I M_told R_width R_pinned R_from R_to R_turned L_layer L_tops L_bottoms L_layers P_size P_arrows P_uppers P_lowers C_x T_track T_used OL_layers OL_size OL_rows OL_places OL_home Z_isBox Z_width Z_pinned Z_isArrow Z_from Z_to Z_turned Z_told Z_layers Z_layer Z_sizes Z_items Z_place Z_dummyPlace Z_xs Z_oldLayer Z_oldPlace Z_oldDummy) (X_upper X_lower Z_ends Z_come : Nat → Int32) (p0 : Int32) :
    ∃ r xu' xl' zU en' zc', fX9_count M_told R_width R_from R_turned L_layers P_size P_uppers P_lowers X_upper X_lower C_x T_used OL_layers OL_size OL_rows OL_places p0 = some (r, xu', xl') ∧ fX10_count Z_isBox Z_width Z_isArrow Z_from Z_to Z_turned Z_told Z_layers Z_layer Z_sizes Z_items Z_place Z_dummyPlace Z_xs Z_ends Z_come p0 = some (r, 0, zU, en', zc') ∧ k_I M_told R_width R_pinned R_from R_to R_turned L_layer L_tops L_bottoms L_layers P_size P_arrows P_uppers P_lowers C_x T_track T_used OL_layers OL_size OL_rows OL_places OL_home Z_isBox Z_width Z_pinned Z_isArrow Z_from Z_to zU Z_told Z_layers Z_layer Z_sizes Z_items Z_place Z_dummyPlace Z_xs Z_oldLayer Z_oldPlace Z_oldDummy := by
  obtain ⟨ex, bx, pn, tn, fr, to, pv, wv, N, old, hS, hM, hO, hOld, hT⟩ := id hI
  by_cases h0 : p0 = 0
  · subst h0
    have e1 : fX7_boxes R_width = some (nI (g_ct bx 16)) := by
      unfold fX7_boxes
      rw [p_cnt (q := bx) (M := 16) (fun n hn => ?_) (fun x => ?_)]
      · rfl
      · have c1 := k_box hS hn
        unfold bX7_boxes_4 jX7_boxes_21
        rw [if_neg (by rw [n_lit 16, s_le (by omega) (by omega)]; omega), c1, s_bind]
        by_cases h : bx n = true
        · rw [if_pos h, if_neg (by decide), s_addL, s_addL, if_pos h]
        · rw [if_neg h, if_pos rfl, s_addL, if_neg h]
          rfl
      · unfold bX7_boxes_4
        rw [if_pos (by decide)]
    have e2 : q_lo (fun (st : Int32 × Int32) => bX10_count_38 Z_isBox st.1 st.2) (0, 0) = some (nI (g_ct bx 16)) := by
      refine p_cnt (q := bx) (M := 16) (fun n hn => ?_) (fun x => ?_)
      · have c1 := (hM.2.1 n hn).1
        unfold bX10_count_38 jX10_count_59
        by_cases h : bx n = true
        · rw [if_pos h] at c1
          rw [if_pos h]
          simp (disch := omega) only [s_in, s_cl, s_leL, s_ltL, s_eqL, s_leR, s_ltR, s_eqR, s_le, s_lt, s_eq, s_addL, s_addL', s_mulL, s_mulL', s_mul, nI_add, s_subL, s_sub, s_m1, s_m1', s_lm1, s_ltm1, s_m1lt, s_m1le, s_m1p, s_10, s_let, s_el, s_er, s_b2, s_b3, s_b4, s_b5, s_b6, s_b7, s_b8, s_b9, s_b10, s_b11, s_b12, s_bind, eq_self, if_pos, if_neg, ite_true, ite_false, if_true, if_false, Bool.false_eq_true, reduceIte, c1]
        · rw [if_neg h] at c1
          rw [if_neg h]
          simp (disch := omega) only [s_in, s_cl, s_leL, s_ltL, s_eqL, s_leR, s_ltR, s_eqR, s_le, s_lt, s_eq, s_addL, s_addL', s_mulL, s_mulL', s_mul, nI_add, s_subL, s_sub, s_m1, s_m1', s_lm1, s_ltm1, s_m1lt, s_m1le, s_m1p, s_10, s_let, s_el, s_er, s_b2, s_b3, s_b4, s_b5, s_b6, s_b7, s_b8, s_b9, s_b10, s_b11, s_b12, s_bind, eq_self, if_pos, if_neg, ite_true, ite_false, if_true, if_false, Bool.false_eq_true, reduceIte, c1]
      · unfold bX10_count_38
        rw [if_pos (by decide)]
    refine ⟨nI (g_ct bx 16), X_upper, X_lower, Z_turned, Z_ends, Z_come, ?_, ?_, hI⟩
    · unfold fX9_count
      rw [if_pos rfl, e1, s_bind]
    · unfold fX10_count
      rw [if_pos rfl, e2, s_bind]
  by_cases h1 : p0 = 1
  · subst h1
    have e1 : fX7_arrows R_from = some (nI (g_ct ex 24)) := by
      unfold fX7_arrows
      rw [p_cnt (q := ex) (M := 24) (fun n hn => ?_) (fun x => ?_)]
      · rfl
      · have c1 := k_arr hS hn
        unfold bX7_arrows_4 jX7_arrows_21
        rw [if_neg (by rw [n_lit 24, s_le (by omega) (by omega)]; omega), c1, s_bind]
        by_cases h : ex n = true
        · rw [if_pos h, if_neg (by decide), s_addL, s_addL, if_pos h]
        · rw [if_neg h, if_pos rfl, s_addL, if_neg h]
          rfl
      · unfold bX7_arrows_4
        rw [if_pos (by decide)]
    have e2 : q_lo (fun (st : Int32 × Int32) => bX10_count_71 Z_isArrow st.1 st.2) (0, 0) = some (nI (g_ct ex 24)) := by
      refine p_cnt (q := ex) (M := 24) (fun n hn => ?_) (fun x => ?_)
      · have c1 := (hM.1 n hn).1
        unfold bX10_count_71 jX10_count_92
        by_cases h : ex n = true
        · rw [if_pos h] at c1
          rw [if_pos h]
          simp (disch := omega) only [s_in, s_cl, s_leL, s_ltL, s_eqL, s_leR, s_ltR, s_eqR, s_le, s_lt, s_eq, s_addL, s_addL', s_mulL, s_mulL', s_mul, nI_add, s_subL, s_sub, s_m1, s_m1', s_lm1, s_ltm1, s_m1lt, s_m1le, s_m1p, s_10, s_let, s_el, s_er, s_b2, s_b3, s_b4, s_b5, s_b6, s_b7, s_b8, s_b9, s_b10, s_b11, s_b12, s_bind, eq_self, if_pos, if_neg, ite_true, ite_false, if_true, if_false, Bool.false_eq_true, reduceIte, c1]
        · rw [if_neg h] at c1
          rw [if_neg h]
          simp (disch := omega) only [s_in, s_cl, s_leL, s_ltL, s_eqL, s_leR, s_ltR, s_eqR, s_le, s_lt, s_eq, s_addL, s_addL', s_mulL, s_mulL', s_mul, nI_add, s_subL, s_sub, s_m1, s_m1', s_lm1, s_ltm1, s_m1lt, s_m1le, s_m1p, s_10, s_let, s_el, s_er, s_b2, s_b3, s_b4, s_b5, s_b6, s_b7, s_b8, s_b9, s_b10, s_b11, s_b12, s_bind, eq_self, if_pos, if_neg, ite_true, ite_false, if_true, if_false, Bool.false_eq_true, reduceIte, c1]
      · unfold bX10_count_71
        rw [if_pos (by decide)]
    refine ⟨nI (g_ct ex 24), X_upper, X_lower, Z_turned, Z_ends, Z_come, ?_, ?_, hI⟩
    · unfold fX9_count
      rw [if_neg h0, if_pos rfl, e1, s_bind]
    · unfold fX10_count
      rw [if_neg h0, if_pos rfl, e2, s_bind]
  by_cases h2 : p0 = 2
  · subst h2
    obtain ⟨zU, zc, f1, f2, f3⟩ := k_turn hI Z_come
    have e1 : fX7_turnedArrows R_from R_turned = some (nI (g_ct (fun a => decide (zU a = 1)) 24)) := by
      unfold fX7_turnedArrows
      rw [p_cnt (q := fun a => decide (zU a = 1)) (M := 24) (fun n hn => ?_) (fun x => ?_)]
      · rfl
      · unfold bX7_turnedArrows_4 jX7_turnedArrows_21 fX7_isTurned
        rcases f3 n hn with ⟨c1, c2, c3⟩ | ⟨c1, c2, c3, c4⟩
        · rw [c3, if_neg (show ¬ decide ((0 : Int32) = 1) = true by decide)]
          simp (disch := omega) only [s_in, s_cl, s_leL, s_ltL, s_eqL, s_leR, s_ltR, s_eqR, s_le, s_lt, s_eq, s_addL, s_addL', s_mulL, s_mulL', s_mul, nI_add, s_subL, s_sub, s_m1, s_m1', s_lm1, s_ltm1, s_m1lt, s_m1le, s_m1p, s_10, s_let, s_el, s_er, s_b2, s_b3, s_b4, s_b5, s_b6, s_b7, s_b8, s_b9, s_b10, s_b11, s_b12, s_bind, eq_self, if_pos, if_neg, ite_true, ite_false, if_true, if_false, Bool.false_eq_true, reduceIte, c1]
          rfl
        · rcases c4 with h | h
          · rw [h] at c3
            rw [h, if_neg (show ¬ decide ((0 : Int32) = 1) = true by decide)]
            simp (disch := omega) only [s_in, s_cl, s_leL, s_ltL, s_eqL, s_leR, s_ltR, s_eqR, s_le, s_lt, s_eq, s_addL, s_addL', s_mulL, s_mulL', s_mul, nI_add, s_subL, s_sub, s_m1, s_m1', s_lm1, s_ltm1, s_m1lt, s_m1le, s_m1p, s_10, s_let, s_el, s_er, s_b2, s_b3, s_b4, s_b5, s_b6, s_b7, s_b8, s_b9, s_b10, s_b11, s_b12, s_bind, eq_self, if_pos, if_neg, ite_true, ite_false, if_true, if_false, Bool.false_eq_true, reduceIte, c1, c3]
            rfl
          · rw [h] at c3
            rw [h, if_pos (show decide ((1 : Int32) = 1) = true by decide)]
            simp (disch := omega) only [s_in, s_cl, s_leL, s_ltL, s_eqL, s_leR, s_ltR, s_eqR, s_le, s_lt, s_eq, s_addL, s_addL', s_mulL, s_mulL', s_mul, nI_add, s_subL, s_sub, s_m1, s_m1', s_lm1, s_ltm1, s_m1lt, s_m1le, s_m1p, s_10, s_let, s_el, s_er, s_b2, s_b3, s_b4, s_b5, s_b6, s_b7, s_b8, s_b9, s_b10, s_b11, s_b12, s_bind, eq_self, if_pos, if_neg, ite_true, ite_false, if_true, if_false, Bool.false_eq_true, reduceIte, c1, c3]
      · unfold bX7_turnedArrows_4
        rw [if_pos (by decide)]
    have e2 : q_lo (fun (st : Int32 × Int32) => bX10_count_108 zU st.1 st.2) (0, 0) = some (nI (g_ct (fun a => decide (zU a = 1)) 24)) := by
      refine p_cnt (q := fun a => decide (zU a = 1)) (M := 24) (fun n hn => ?_) (fun x => ?_)
      · unfold bX10_count_108 jX10_count_129
        have hz : zU n = 0 ∨ zU n = 1 := by
          rcases f3 n hn with ⟨c1, c2, c3⟩ | ⟨c1, c2, c3, c4⟩
          · exact .inl c3
          · exact c4
        rcases hz with h | h
        · rw [if_neg (show ¬ decide (zU n = 1) = true by rw [h]; decide)]
          simp (disch := omega) only [s_in, s_cl, s_leL, s_ltL, s_eqL, s_leR, s_ltR, s_eqR, s_le, s_lt, s_eq, s_addL, s_addL', s_mulL, s_mulL', s_mul, nI_add, s_subL, s_sub, s_m1, s_m1', s_lm1, s_ltm1, s_m1lt, s_m1le, s_m1p, s_10, s_let, s_el, s_er, s_b2, s_b3, s_b4, s_b5, s_b6, s_b7, s_b8, s_b9, s_b10, s_b11, s_b12, s_bind, eq_self, if_pos, if_neg, ite_true, ite_false, if_true, if_false, Bool.false_eq_true, reduceIte, h]
        · rw [if_pos (show decide (zU n = 1) = true by rw [h]; decide)]
          simp (disch := omega) only [s_in, s_cl, s_leL, s_ltL, s_eqL, s_leR, s_ltR, s_eqR, s_le, s_lt, s_eq, s_addL, s_addL', s_mulL, s_mulL', s_mul, nI_add, s_subL, s_sub, s_m1, s_m1', s_lm1, s_ltm1, s_m1lt, s_m1le, s_m1p, s_10, s_let, s_el, s_er, s_b2, s_b3, s_b4, s_b5, s_b6, s_b7, s_b8, s_b9, s_b10, s_b11, s_b12, s_bind, eq_self, if_pos, if_neg, ite_true, ite_false, if_true, if_false, Bool.false_eq_true, reduceIte, h]
      · unfold bX10_count_108
        rw [if_pos (by decide)]
    refine ⟨nI (g_ct (fun a => decide (zU a = 1)) 24), X_upper, X_lower, zU, Z_ends, zc, ?_, ?_, f2⟩
    · unfold fX9_count
      rw [if_neg h0, if_neg h1, if_pos rfl, e1, s_bind]
    · unfold fX10_count
      rw [if_neg h0, if_neg h1, if_pos rfl, f1, s_b2, e2, s_bind]
  have nothing : (M_told = 0 ∧ Z_told = 0) ∨ (M_told = 1 ∧ p0 ≠ 3 ∧ p0 ≠ 4 ∧ p0 ≠ 5 ∧ p0 ≠ 6 ∧ p0 ≠ 7 ∧ fX10_in p0 3 7 = some 0) → ∃ r xu' xl' zU en' zc', fX9_count M_told R_width R_from R_turned L_layers P_size P_uppers P_lowers X_upper X_lower C_x T_used OL_layers OL_size OL_rows OL_places p0 = some (r, xu', xl') ∧ fX10_count Z_isBox Z_width Z_isArrow Z_from Z_to Z_turned Z_told Z_layers Z_layer Z_sizes Z_items Z_place Z_dummyPlace Z_xs Z_ends Z_come p0 = some (r, 0, zU, en', zc') ∧ k_I M_told R_width R_pinned R_from R_to R_turned L_layer L_tops L_bottoms L_layers P_size P_arrows P_uppers P_lowers C_x T_track T_used OL_layers OL_size OL_rows OL_places OL_home Z_isBox Z_width Z_pinned Z_isArrow Z_from Z_to zU Z_told Z_layers Z_layer Z_sizes Z_items Z_place Z_dummyPlace Z_xs Z_oldLayer Z_oldPlace Z_oldDummy := by
    intro h
    refine ⟨-1, X_upper, X_lower, Z_turned, Z_ends, Z_come, ?_, ?_, hI⟩
    · unfold fX9_count
      rw [if_neg h0, if_neg h1, if_neg h2]
      rcases h with ⟨h, -⟩ | ⟨h, a3, a4, a5, a6, a7, -⟩
      · rw [if_pos h]
      · unfold fX9_toldSum
        rw [if_neg (by rw [h]; decide), if_neg a3, if_neg a4, if_neg a5, if_neg a6, if_neg a7, s_b3]
    · unfold fX10_count
      rw [if_neg h0, if_neg h1, if_neg h2]
      rcases h with ⟨-, h⟩ | ⟨h, a3, a4, a5, a6, a7, h8⟩
      · have : fX10_in p0 3 7 = some 0 ∨ fX10_in p0 3 7 = some 1 := by
          unfold fX10_in
          split
          · exact .inl rfl
          · split
            · exact .inl rfl
            · exact .inr rfl
        rcases this with h8 | h8
        · rw [h8, s_bind, if_pos rfl]
        · rw [h8, s_bind, if_neg (by decide), if_pos h]
      · rw [h8, s_bind, if_pos rfl]
  rcases hT with hT | ⟨rfl, rfl, lay, m, Lp, hD⟩
  · exact nothing (.inl hT)
  rcases n_cases p0 8 (by omega) with hb | ⟨v, hv, rfl⟩
  · have hne : ∀ k : Nat, k < 8 → p0 ≠ nI k := by
      intro k hk e
      rw [e] at hb
      rcases hb with h | h
      · exact nI_pos (by omega) h
      · rw [s_le (by omega) (by omega)] at h
        omega
    refine nothing (.inr ⟨rfl, hne 3 (by omega), hne 4 (by omega), hne 5 (by omega), hne 6 (by omega), hne 7 (by omega), ?_⟩)
    unfold fX10_in
    rcases hb with h | h
    · rw [if_pos (Int32.lt_trans h (by decide))]
    · by_cases h3 : p0 < 3
      · rw [if_pos h3]
      · rw [if_neg h3, if_pos (show (7 : Int32) < p0 from s_15 7 (by omega) h)]
  have hv2 : v = 3 ∨ v = 4 ∨ v = 5 ∨ v = 6 ∨ v = 7 := by
    have a0 : v ≠ 0 := fun e => h0 (by rw [e]; rfl)
    have a1 : v ≠ 1 := fun e => h1 (by rw [e]; rfl)
    have a2 : v ≠ 2 := fun e => h2 (by rw [e]; rfl)
    omega
  have hin : fX10_in (nI v) 3 7 = some 1 := by
    unfold fX10_in
    rw [if_neg (by rw [n_lit 3, s_lt (by omega) (by omega)]; omega), if_neg (by rw [n_lit 7, s_lt (by omega) (by omega)]; omega)]
  obtain ⟨d1, d2, d3, d4, d5, d6, d7, d8, d9, d10, d11, d12, d13, d14, d15⟩ := hD
  have hN := d1.1
  have hA := k_A hM d11
  have hly := hO.1
  subst hly
  have hwd := k_wd' hS
  have h40 : ∀ i, i < N → (old i).length ≤ 40 := fun i hi => (d14 i hi).1
  have hXB := g_X_XB d1 d2 hwd h40 d7
  have hXb := g_X_b d1 d2 hwd h40 d7
  have hW := k_WD hS hN d2
  have hmW := k_mWD hM hN d2
  have fin : ∀ (r : Int32) (xu' xl' en' : Nat → Int32), fX9_toldSum R_width L_layers P_size P_uppers P_lowers X_upper X_lower C_x T_used (nI N) OL_size OL_rows OL_places (nI v) = some (r, xu', xl') → fX10_drawn Z_width Z_isArrow Z_from Z_to Z_turned Z_layers Z_layer Z_sizes Z_items Z_place Z_dummyPlace Z_xs Z_ends (nI v) = some (r, en') → ∃ r xu' xl' zU en' zc', fX9_count 1 R_width R_from R_turned L_layers P_size P_uppers P_lowers X_upper X_lower C_x T_used (nI N) OL_size OL_rows OL_places (nI v) = some (r, xu', xl') ∧ fX10_count Z_isBox Z_width Z_isArrow Z_from Z_to Z_turned 1 Z_layers Z_layer Z_sizes Z_items Z_place Z_dummyPlace Z_xs Z_ends Z_come (nI v) = some (r, 0, zU, en', zc') ∧ k_I 1 R_width R_pinned R_from R_to R_turned L_layer L_tops L_bottoms L_layers P_size P_arrows P_uppers P_lowers C_x T_track T_used (nI N) OL_size OL_rows OL_places OL_home Z_isBox Z_width Z_pinned Z_isArrow Z_from Z_to zU 1 Z_layers Z_layer Z_sizes Z_items Z_place Z_dummyPlace Z_xs Z_oldLayer Z_oldPlace Z_oldDummy := by
    intro r xu' xl' en' g1 g2
    refine ⟨r, xu', xl', Z_turned, en', Z_come, ?_, ?_, hI⟩
    · unfold fX9_count
      rw [if_neg h0, if_neg h1, if_neg h2, if_neg (by decide), g1, s_b3]
    · unfold fX10_count
      rw [if_neg h0, if_neg h1, if_neg h2, hin, s_bind, if_neg (by decide), if_neg (by decide), g2, s_b2]
  rcases hv2 with rfl | rfl | rfl | rfl | rfl
  · obtain ⟨en', g1⟩ := p_drawn (W := Z_width) (A := Z_isArrow) (F := Z_from) (T := Z_to) (U := Z_turned) (L := Z_layer) (S := Z_sizes) (I := Z_items) (P := Z_place) (D := Z_dummyPlace) (Z := Z_xs) (v := nI 3) (val := fun _ => 0) rfl hN (fun n hn en => ⟨en, by
      unfold bX10_drawn_4 jX10_drawn_26 jX10_drawn_39 jX10_drawn_103 jX10_drawn_140
      rw [if_neg (by rw [s_le (by omega) (by omega)]; omega), if_neg (by decide), if_neg (by decide), if_neg (by decide), if_neg (by decide), s_addL]⟩) Z_ends
    refine fin (nI N) X_upper X_lower en' ?_ ?_
    · unfold fX9_toldSum fX3_layers
      rw [if_pos (by decide), s_bind, d5]
    · unfold fX10_drawn
      rw [d13, g1, s_b2, if_pos (by decide)]
  · obtain ⟨en', g1⟩ := p_drawn (W := Z_width) (A := Z_isArrow) (F := Z_from) (T := Z_to) (U := Z_turned) (L := Z_layer) (S := Z_sizes) (I := Z_items) (P := Z_place) (D := Z_dummyPlace) (Z := Z_xs) (v := nI 4) (val := fun n => (g_it old n : Int)) rfl hN (fun n hn en => ⟨en, by
      unfold bX10_drawn_4 jX10_drawn_26 jX10_drawn_39 jX10_drawn_103 jX10_drawn_140
      rw [if_neg (by rw [s_le (by omega) (by omega)]; omega), if_pos (by decide), if_pos (n_in (show n < 24 by omega) (by decide)), s_let, if_neg (by decide), if_neg (by decide), if_neg (by decide), s_cl (by omega), (d14 n hn).2.2.1, s_addL, s_iadd]
      rfl⟩) Z_ends
    refine fin (nI (g_it old N)) X_upper X_lower en' ?_ ?_
    · unfold fX9_toldSum
      rw [if_neg (by decide), if_pos (by decide), p_items hO, s_bind]
    · unfold fX10_drawn
      rw [d13, g1, s_b2, if_neg (by decide), iI_nat]
  · obtain ⟨en', g1⟩ := p_drawn (W := Z_width) (A := Z_isArrow) (F := Z_from) (T := Z_to) (U := Z_turned) (L := Z_layer) (S := Z_sizes) (I := Z_items) (P := Z_place) (D := Z_dummyPlace) (Z := Z_xs) (v := nI 5) (val := fun n => (g_tot ex (g_up fr to tn) (g_lo fr to tn) lay old n : Int)) rfl hN (fun n hn en => ⟨en, by
      have c1 := p_mcr d1 d2 hA d12 d14 (show n < 24 by omega)
      unfold bX10_drawn_4 jX10_drawn_26 jX10_drawn_39 jX10_drawn_103 jX10_drawn_140
      rw [if_neg (by rw [s_le (by omega) (by omega)]; omega), if_neg (by decide), if_pos (by decide), c1, s_bind, if_neg (by decide), if_neg (by decide), s_addL, s_iadd]
      rfl⟩) Z_ends
    obtain ⟨xu', xl', g2⟩ := p_inAll d1 d2 d6 hO X_upper X_lower
    refine fin (nI (g_tot ex (g_up fr to tn) (g_lo fr to tn) lay old N)) xu' xl' en' ?_ ?_
    · unfold fX9_toldSum
      rw [if_neg (by decide), if_neg (by decide), if_pos (by decide), g2, s_b3]
    · unfold fX10_drawn
      rw [d13, g1, s_b2, if_neg (by decide), iI_nat]
  · obtain ⟨en', g1⟩ := p_drawn (W := Z_width) (A := Z_isArrow) (F := Z_from) (T := Z_to) (U := Z_turned) (L := Z_layer) (S := Z_sizes) (I := Z_items) (P := Z_place) (D := Z_dummyPlace) (Z := Z_xs) (v := nI 6) (val := fun n => g_ge old (g_X ex (g_up fr to tn) (g_lo fr to tn) lay old (g_wd wv) N m) (g_wd wv) n) rfl hN (fun n hn en => ⟨en, by
      have hgb := g_ge_b hwd hXb n (by omega)
      obtain ⟨o1, o2, o3, o4⟩ := d14 n hn
      unfold bX10_drawn_4 jX10_drawn_26 jX10_drawn_39 jX10_drawn_102 jX10_drawn_103 jX10_drawn_140
      rw [if_neg (by rw [s_le (by omega) (by omega)]; omega), if_neg (by decide), if_neg (by decide), if_pos (by decide), if_pos (n_in (show n < 24 by omega) (by decide))]
      have hsz : Z_sizes (nI n).toNatClampNeg = nI (old n).length := by rw [s_cl (by omega)]; exact o3
      by_cases hl0 : (old n).length = 0
      · have e1 : g_ge old (g_X ex (g_up fr to tn) (g_lo fr to tn) lay old (g_wd wv) N m) (g_wd wv) (n + 1) = g_ge old (g_X ex (g_up fr to tn) (g_lo fr to tn) lay old (g_wd wv) N m) (g_wd wv) n := by
          rw [g_ge, List.getElem?_eq_none (by omega)]
          rfl
        rw [e1, if_pos (by rw [hsz, n_lit 0, s_le (by omega) (by omega)]; omega), if_neg (by decide), s_addL]
      · obtain ⟨c, hc⟩ : ∃ c, (old n)[(old n).length - 1]? = some c := ⟨_, List.getElem?_eq_getElem (by omega)⟩
        have hcb := hXb n hn c (g_mem_get hc)
        have hwc := hwd c
        have e1 : g_ge old (g_X ex (g_up fr to tn) (g_lo fr to tn) lay old (g_wd wv) N m) (g_wd wv) (n + 1) = max (g_ge old (g_X ex (g_up fr to tn) (g_lo fr to tn) lay old (g_wd wv) N m) (g_wd wv) n) ((g_X ex (g_up fr to tn) (g_lo fr to tn) lay old (g_wd wv) N m) n c + (g_wd wv c : Int)) := by
          rw [g_ge, hc]
          rfl
        rw [if_neg (by rw [hsz, n_lit 0, s_le (by omega) (by omega)]; omega), if_pos (n_in (show n < 24 by omega) (by decide)), hsz, s_subL (by omega), s_let, s_mulL', nI_add, if_pos (n_in (show 40 * n + ((old n).length - 1) < 960 by omega) (by decide)), p_item0 o4.I (by omega) o1 hc, s_bind, hmW n hn c (g_mem_get hc), s_bind, s_cl (by omega), d15 n hn _ c hc, s_iadd, s_let, e1]
        by_cases hle : (g_X ex (g_up fr to tn) (g_lo fr to tn) lay old (g_wd wv) N m) n c + (g_wd wv c : Int) ≤ g_ge old (g_X ex (g_up fr to tn) (g_lo fr to tn) lay old (g_wd wv) N m) (g_wd wv) n
        · rw [if_pos (by rw [iI_le (by omega) (by omega) (by omega) (by omega)]; exact hle), if_neg (by decide), s_addL, show max (g_ge old (g_X ex (g_up fr to tn) (g_lo fr to tn) lay old (g_wd wv) N m) (g_wd wv) n) ((g_X ex (g_up fr to tn) (g_lo fr to tn) lay old (g_wd wv) N m) n c + (g_wd wv c : Int)) = g_ge old (g_X ex (g_up fr to tn) (g_lo fr to tn) lay old (g_wd wv) N m) (g_wd wv) n by omega]
        · rw [if_neg (by rw [iI_le (by omega) (by omega) (by omega) (by omega)]; exact hle), if_neg (by decide), s_addL, show max (g_ge old (g_X ex (g_up fr to tn) (g_lo fr to tn) lay old (g_wd wv) N m) (g_wd wv) n) ((g_X ex (g_up fr to tn) (g_lo fr to tn) lay old (g_wd wv) N m) n c + (g_wd wv c : Int)) = (g_X ex (g_up fr to tn) (g_lo fr to tn) lay old (g_wd wv) N m) n c + (g_wd wv c : Int) by omega]⟩) Z_ends
    refine fin (iI (g_ge old (g_X ex (g_up fr to tn) (g_lo fr to tn) lay old (g_wd wv) N m) (g_wd wv) N)) X_upper X_lower en' ?_ ?_
    · unfold fX9_toldSum
      rw [if_neg (by decide), if_neg (by decide), if_neg (by decide), if_pos (by decide), p_great hO hW hwd hXb (g_inc_X d2 hN m) d8, s_bind]
    · unfold fX10_drawn
      rw [d13, g1, s_b2, if_neg (by decide)]
  · have htm : ∀ n, n + 1 < N → (g_tm (g_up fr to tn) (g_lo fr to tn) lay (g_wd wv) (g_X ex (g_up fr to tn) (g_lo fr to tn) lay old (g_wd wv) N m) Lp n).1 ≤ 24 := fun n hn => Nat.le_trans (g_ts_len _ _ rfl) (g_Lp_len (d9 n hn))
    obtain ⟨en', g1⟩ := p_drawn (W := Z_width) (A := Z_isArrow) (F := Z_from) (T := Z_to) (U := Z_turned) (L := Z_layer) (S := Z_sizes) (I := Z_items) (P := Z_place) (D := Z_dummyPlace) (Z := Z_xs) (v := nI 7) (val := fun n => (g_mt (fun l => (g_tm (g_up fr to tn) (g_lo fr to tn) lay (g_wd wv) (g_X ex (g_up fr to tn) (g_lo fr to tn) lay old (g_wd wv) N m) Lp l).1) N n : Int)) rfl hN (fun n hn en => by
      have hgb := g_mt_b htm n
      unfold bX10_drawn_4 jX10_drawn_26 jX10_drawn_39 jX10_drawn_103 jX10_drawn_139 jX10_drawn_140
      rw [if_neg (by rw [s_le (by omega) (by omega)]; omega), if_neg (by decide), if_neg (by decide), if_neg (by decide), if_pos (by decide), s_addL]
      by_cases hlast : n + 1 < N
      · obtain ⟨en', t1⟩ := (p_mtrack d1 d2 hA d12 d14 hmW hwd d15 hXB (by omega) (show n < 24 by omega) (d9 n hlast) en).1
        have t2 := htm n hlast
        have t3 : fX10_track Z_width Z_isArrow Z_from Z_to Z_turned Z_layer Z_items Z_place Z_dummyPlace Z_xs en (-1) (nI n) = some (nI (g_tm (g_up fr to tn) (g_lo fr to tn) lay (g_wd wv) (g_X ex (g_up fr to tn) (g_lo fr to tn) lay old (g_wd wv) N m) Lp n).1, en') := t1
        refine ⟨en', ?_⟩
        have e1 : g_mt (fun l => (g_tm (g_up fr to tn) (g_lo fr to tn) lay (g_wd wv) (g_X ex (g_up fr to tn) (g_lo fr to tn) lay old (g_wd wv) N m) Lp l).1) N (n + 1) = max (g_mt (fun l => (g_tm (g_up fr to tn) (g_lo fr to tn) lay (g_wd wv) (g_X ex (g_up fr to tn) (g_lo fr to tn) lay old (g_wd wv) N m) Lp l).1) N n) (g_tm (g_up fr to tn) (g_lo fr to tn) lay (g_wd wv) (g_X ex (g_up fr to tn) (g_lo fr to tn) lay old (g_wd wv) N m) Lp n).1 := by
          rw [g_mt, if_pos hlast]
        rw [if_neg (by rw [s_le (by omega) (by omega)]; omega), t3, s_b2, e1, ← iI_nat, ← iI_nat]
        by_cases hle : (g_tm (g_up fr to tn) (g_lo fr to tn) lay (g_wd wv) (g_X ex (g_up fr to tn) (g_lo fr to tn) lay old (g_wd wv) N m) Lp n).1 ≤ g_mt (fun l => (g_tm (g_up fr to tn) (g_lo fr to tn) lay (g_wd wv) (g_X ex (g_up fr to tn) (g_lo fr to tn) lay old (g_wd wv) N m) Lp l).1) N n
        · rw [if_pos (by rw [s_le (by omega) (by omega)]; exact hle), show max (g_mt (fun l => (g_tm (g_up fr to tn) (g_lo fr to tn) lay (g_wd wv) (g_X ex (g_up fr to tn) (g_lo fr to tn) lay old (g_wd wv) N m) Lp l).1) N n) (g_tm (g_up fr to tn) (g_lo fr to tn) lay (g_wd wv) (g_X ex (g_up fr to tn) (g_lo fr to tn) lay old (g_wd wv) N m) Lp n).1 = g_mt (fun l => (g_tm (g_up fr to tn) (g_lo fr to tn) lay (g_wd wv) (g_X ex (g_up fr to tn) (g_lo fr to tn) lay old (g_wd wv) N m) Lp l).1) N n by omega]
        · rw [if_neg (by rw [s_le (by omega) (by omega)]; exact hle), show max (g_mt (fun l => (g_tm (g_up fr to tn) (g_lo fr to tn) lay (g_wd wv) (g_X ex (g_up fr to tn) (g_lo fr to tn) lay old (g_wd wv) N m) Lp l).1) N n) (g_tm (g_up fr to tn) (g_lo fr to tn) lay (g_wd wv) (g_X ex (g_up fr to tn) (g_lo fr to tn) lay old (g_wd wv) N m) Lp n).1 = (g_tm (g_up fr to tn) (g_lo fr to tn) lay (g_wd wv) (g_X ex (g_up fr to tn) (g_lo fr to tn) lay old (g_wd wv) N m) Lp n).1 by omega]
      · refine ⟨en, ?_⟩
        have e1 : g_mt (fun l => (g_tm (g_up fr to tn) (g_lo fr to tn) lay (g_wd wv) (g_X ex (g_up fr to tn) (g_lo fr to tn) lay old (g_wd wv) N m) Lp l).1) N (n + 1) = g_mt (fun l => (g_tm (g_up fr to tn) (g_lo fr to tn) lay (g_wd wv) (g_X ex (g_up fr to tn) (g_lo fr to tn) lay old (g_wd wv) N m) Lp l).1) N n := by
          rw [g_mt, if_neg hlast]
          omega
        rw [e1, if_pos (by rw [s_le (by omega) (by omega)]; omega)]) Z_ends
    have g2 : g_mt (fun l => (g_tm (g_up fr to tn) (g_lo fr to tn) lay (g_wd wv) (g_X ex (g_up fr to tn) (g_lo fr to tn) lay old (g_wd wv) N m) Lp l).1) N 24 = g_mt (fun l => (g_tm (g_up fr to tn) (g_lo fr to tn) lay (g_wd wv) (g_X ex (g_up fr to tn) (g_lo fr to tn) lay old (g_wd wv) N m) Lp l).1) N N := by
      have := g_mt_end (tm := fun l => (g_tm (g_up fr to tn) (g_lo fr to tn) lay (g_wd wv) (g_X ex (g_up fr to tn) (g_lo fr to tn) lay old (g_wd wv) N m) Lp l).1) (N := N) (24 - N)
      rw [show N + (24 - N) = 24 by omega] at this
      exact this
    refine fin (nI (g_mt (fun l => (g_tm (g_up fr to tn) (g_lo fr to tn) lay (g_wd wv) (g_X ex (g_up fr to tn) (g_lo fr to tn) lay old (g_wd wv) N m) Lp l).1) N N)) X_upper X_lower en' ?_ ?_
    · unfold fX9_toldSum
      rw [if_neg (by decide), if_neg (by decide), if_neg (by decide), if_neg (by decide), if_pos (by decide), p_most (N := N) (tm := fun l => (g_tm (g_up fr to tn) (g_lo fr to tn) lay (g_wd wv) (g_X ex (g_up fr to tn) (g_lo fr to tn) lay old (g_wd wv) N m) Lp l).1) htm (fun l hl => ?_), s_bind, g2]
      by_cases hlN : l + 1 < N
      · rw [if_pos hlN]
        exact ((d10 l hl).1 hlN).1
      · rw [if_neg hlN]
        exact (d10 l hl).2 (by omega)
    · unfold fX10_drawn
      rw [d13, g1, s_b2, if_neg (by decide), iI_nat]
end CT
