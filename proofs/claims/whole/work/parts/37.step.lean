/-! PURE: a step of the class. -/
theorem s_dec (s : Nat) : nI (s + 1) + (-1) = nI s := by
  rw [← nI_1, Int32.add_assoc, show (1 : Int32) + -1 = 0 by decide, Int32.add_zero]
theorem s_divL {n b : Nat} (ha : (OfNat.ofNat n : Nat) < 2147483648) (hb : b < 2147483648) : nI b / (no_index (OfNat.ofNat n : Int32)) = nI (b / (OfNat.ofNat n : Nat)) := (Int32.ofNat_div (by omega) (by omega)).symm
theorem s_upd_self {A : Nat → Int32} {c : Nat} {v : Int32} (h : A c = v) : upd A c v = A := by
  funext x
  by_cases hx : x = c
  · subst hx; rw [pk_us, h]
  · rw [pk_un hx]
theorem p_isCode {c : Nat} (h : c < 40) : fX5_isCode (nI c) = some 1 := by
  unfold fX5_isCode
  simp (disch := omega) only [s_in, s_cl, s_leL, s_ltL, s_eqL, s_leR, s_ltR, s_eqR, s_le, s_lt, s_eq, s_addL, s_addL', s_mulL, s_mulL', s_mul, nI_add, s_subL, s_sub, s_m1, s_m1', s_lm1, s_ltm1, s_m1lt, s_m1le, s_m1p, s_10, s_let, s_el, s_er, s_b2, s_b3, s_b4, s_b5, s_b6, s_b7, s_b8, s_b9, s_b10, s_b11, s_b12, s_bind, eq_self, if_pos, if_neg, ite_true, ite_false, if_true, if_false, Bool.false_eq_true, reduceIte]
theorem p_load47 {K : List Nat} (hK : K.length ≤ 24) {sz uu ll pl : Nat → Int32} {fl fo xg xb : Int32} (hfl : (fl = 0 ∧ fo = 1) ∨ (fl = 1 ∧ fo = 0)) {own oth far : Nat → Nat}
    (hE : ∀ k a : Nat, K[k]? = some a → fX6_endOf sz uu ll xg (nI k) fo = some (nI (own a)) ∧ fX6_endOf sz uu ll xg (nI k) fl = some (nI (oth a)) ∧ fX4_placeIn pl xb (nI (oth a)) = some (nI (far a)) ∧ far a < 40) (ow fa : Nat → Int32) :
    ∃ (ow' fa' : Nat → Int32) (Sx : List Nat), q_lo (fun (st : Int32 × (Nat → Int32) × (Nat → Int32)) => bX5_loadEnds_47 sz uu ll pl fl xg xb (nI K.length) st.1 st.2.1 st.2.2) (0, ow, fa) = some (ow', fa') ∧ Sx.Perm K ∧ Sx.Pairwise (fun a b => far a ≤ far b) ∧ ∀ j a : Nat, Sx[j]? = some a → ow' j = nI (own a) ∧ fa' j = nI (far a) := by
  have H9 : ∃ e : (Nat → Int32) × (Nat → Int32), q_lo (fun (st : Int32 × (Nat → Int32) × (Nat → Int32)) => bX5_loadEnds_47 sz uu ll pl fl xg xb (nI K.length) st.1 st.2.1 st.2.2) (0, ow, fa) = some e ∧ ∃ Sx : List Nat, Sx.Perm K ∧ Sx.Pairwise (fun a b => far a ≤ far b) ∧ ∀ j a : Nat, Sx[j]? = some a → e.1 j = nI (own a) ∧ e.2 j = nI (far a) := by
    refine q_inv (fun k (st : Int32 × (Nat → Int32) × (Nat → Int32)) => st.1 = nI k ∧ ∃ Sx : List Nat, Sx.Perm (K.take k) ∧ Sx.Pairwise (fun a b => far a ≤ far b) ∧ ∀ j a : Nat, Sx[j]? = some a → st.2.1 j = nI (own a) ∧ st.2.2 j = nI (far a)) K.length ?_ ?_ _ ⟨rfl, [], List.Perm.refl _, List.Pairwise.nil, fun j a h => by simp at h⟩
    · rintro k ⟨x, q, r⟩ hk ⟨hx, Sx, s1, s2, s3⟩
      dsimp only at hx s3
      subst hx
      obtain ⟨a, ha⟩ : ∃ a, K[k]? = some a := ⟨_, List.getElem?_eq_getElem hk⟩
      obtain ⟨e1, e2, e3, e4⟩ := hE k a ha
      have hlen : Sx.length = k := by rw [s1.length_eq, List.length_take]; omega
      have H8 : ∃ e : Int32 × (Nat → Int32) × (Nat → Int32), q_lo (fun (st : Int32 × (Nat → Int32) × (Nat → Int32)) => bX5_loadEnds_100 (nI (far a)) st.1 st.2.1 st.2.2) (nI k, q, r) = some e ∧ ∃ s, s ≤ k ∧ e.1 = nI s ∧ c_sh k s q e.2.1 ∧ c_sh k s r e.2.2 ∧ (∀ j b : Nat, s ≤ j → Sx[j]? = some b → far a < far b) ∧ (s = 0 ∨ ∃ b, Sx[s - 1]? = some b ∧ far b ≤ far a) := by
        refine q_invx (fun i (st : Int32 × (Nat → Int32) × (Nat → Int32)) => st.1 = nI (k - i) ∧ c_sh k (k - i) q st.2.1 ∧ c_sh k (k - i) r st.2.2 ∧ ∀ j b : Nat, k - i ≤ j → Sx[j]? = some b → far a < far b) k ?_ ?_ _ ⟨rfl, c_sh_0, c_sh_0, fun j b hj hb => by have := g_lt_len hb; omega⟩
        · rintro i ⟨x, q1, r1⟩ hi ⟨hx, t1, t2, t3⟩
          dsimp only at hx t1 t2
          subst hx
          obtain ⟨s, hs⟩ : ∃ s, k - i = s + 1 := ⟨k - i - 1, by omega⟩
          have hs2 : k - (i + 1) = s := by omega
          rw [hs] at t1 t2 t3
          rw [hs2]
          obtain ⟨b, hb⟩ : ∃ b, Sx[s]? = some b := ⟨_, List.getElem?_eq_getElem (by omega)⟩
          obtain ⟨b1, b2⟩ := s3 s b hb
          have b3 : r1 s = nI (far b) := by rw [t2.1 s (by omega)]; exact b2
          have b4 : far b < 40 := by
            have hbK : b ∈ K.take k := s1.mem_iff.mp (g_mem_get hb)
            obtain ⟨j, hj⟩ := List.mem_iff_getElem?.mp hbK
            exact (hE j b (g_take_get hj).2).2.2.2
          show (∃ t9, bX5_loadEnds_100 (nI (far a)) (nI (k - i)) q1 r1 = some (.inl t9) ∧ _) ∨ ∃ e, bX5_loadEnds_100 (nI (far a)) (nI (k - i)) q1 r1 = some (.inr e) ∧ _
          rw [hs]
          unfold bX5_loadEnds_100
          by_cases hc : far b ≤ far a
          · right
            simp (disch := omega) only [s_in, s_cl, s_leL, s_ltL, s_eqL, s_leR, s_ltR, s_eqR, s_le, s_lt, s_eq, s_addL, s_addL', s_mulL, s_mulL', s_mul, nI_add, s_subL, s_sub, s_m1, s_m1', s_lm1, s_ltm1, s_m1lt, s_m1le, s_m1p, s_10, s_let, s_el, s_er, s_b2, s_b3, s_b4, s_b5, s_b6, s_b7, s_b8, s_b9, s_b10, s_b11, s_b12, s_bind, eq_self, if_pos, if_neg, ite_true, ite_false, if_true, if_false, Bool.false_eq_true, reduceIte, Nat.add_sub_cancel, b3, hc]
            exact ⟨_, rfl, s + 1, by omega, rfl, t1, t2, t3, .inr ⟨b, by rw [Nat.add_sub_cancel]; exact hb, hc⟩⟩
          · left
            simp (disch := omega) only [s_in, s_cl, s_leL, s_ltL, s_eqL, s_leR, s_ltR, s_eqR, s_le, s_lt, s_eq, s_addL, s_addL', s_mulL, s_mulL', s_mul, nI_add, s_subL, s_sub, s_m1, s_m1', s_lm1, s_ltm1, s_m1lt, s_m1le, s_m1p, s_10, s_let, s_el, s_er, s_b2, s_b3, s_b4, s_b5, s_b6, s_b7, s_b8, s_b9, s_b10, s_b11, s_b12, s_bind, eq_self, if_pos, if_neg, ite_true, ite_false, if_true, if_false, Bool.false_eq_true, reduceIte, Nat.add_sub_cancel, b3, hc, s_dec]
            refine ⟨_, rfl, rfl, c_sh_on t1, ?_, ?_⟩
            · have := c_sh_on t2
              rw [b3] at this
              exact this
            · intro j d hj hd
              by_cases hjs : j = s
              · subst hjs
                rw [hb] at hd
                cases hd
                omega
              · exact t3 j d (by omega) hd
        · rintro ⟨x, q1, r1⟩ ⟨hx, t1, t2, t3⟩
          dsimp only at hx t1 t2
          rw [Nat.sub_self] at hx t1 t2 t3
          subst hx
          refine ⟨(nI 0, q1, r1), ?_, 0, by omega, rfl, t1, t2, t3, .inl rfl⟩
          show bX5_loadEnds_100 (nI (far a)) (nI 0) q1 r1 = _
          unfold bX5_loadEnds_100
          simp (disch := omega) only [s_in, s_cl, s_leL, s_ltL, s_eqL, s_leR, s_ltR, s_eqR, s_le, s_lt, s_eq, s_addL, s_addL', s_mulL, s_mulL', s_mul, nI_add, s_subL, s_sub, s_m1, s_m1', s_lm1, s_ltm1, s_m1lt, s_m1le, s_m1p, s_10, s_let, s_el, s_er, s_b2, s_b3, s_b4, s_b5, s_b6, s_b7, s_b8, s_b9, s_b10, s_b11, s_b12, s_bind, eq_self, if_pos, if_neg, ite_true, ite_false, if_true, if_false, Bool.false_eq_true, reduceIte]
      obtain ⟨⟨z1, z2, z3⟩, h8, s, hsk, y1, y2, y3, y4, y5⟩ := H8
      dsimp only at y1 y2 y3
      subst y1
      have hn : ∃ t9 : Int32 × (Nat → Int32) × (Nat → Int32), some (Sum.inl (α := Int32 × (Nat → Int32) × (Nat → Int32)) (β := (Nat → Int32) × (Nat → Int32)) (nI (k + 1), upd z2 s (nI (own a)), upd z3 s (nI (far a)))) = some (.inl t9) ∧ t9.1 = nI (k + 1) ∧ ∃ Sx : List Nat, Sx.Perm (K.take (k + 1)) ∧ Sx.Pairwise (fun a b => far a ≤ far b) ∧ ∀ j a : Nat, Sx[j]? = some a → t9.2.1 j = nI (own a) ∧ t9.2.2 j = nI (far a) := by
        refine ⟨_, rfl, rfl, g_ins Sx s a, ?_, g_ins_sorted s2 y4 y5, ?_⟩
        · rw [g_take1 ha]
          exact (g_ins_perm Sx s a).trans (s1.append_right [a])
        · intro j b hj
          rw [← hlen] at y2 y3
          exact ⟨c_sh_end (f := fun a => nI (own a)) (by omega) y2 (fun j a h => (s3 j a h).1) j b hj, c_sh_end (f := fun a => nI (far a)) (by omega) y3 (fun j a h => (s3 j a h).2) j b hj⟩
      show ∃ t9, bX5_loadEnds_47 sz uu ll pl fl xg xb (nI K.length) (nI k) q r = some (.inl t9) ∧ _
      unfold bX5_loadEnds_47 jX5_loadEnds_71
      rcases hfl with ⟨rfl, rfl⟩ | ⟨rfl, rfl⟩
      · simp (disch := omega) only [s_in, s_cl, s_leL, s_ltL, s_eqL, s_leR, s_ltR, s_eqR, s_le, s_lt, s_eq, s_addL, s_addL', s_mulL, s_mulL', s_mul, nI_add, s_subL, s_sub, s_m1, s_m1', s_lm1, s_ltm1, s_m1lt, s_m1le, s_m1p, s_10, s_let, s_el, s_er, s_b2, s_b3, s_b4, s_b5, s_b6, s_b7, s_b8, s_b9, s_b10, s_b11, s_b12, s_bind, eq_self, if_pos, if_neg, ite_true, ite_false, if_true, if_false, Bool.false_eq_true, reduceIte, e1, e2, e3, h8]
        exact hn
      · simp (disch := omega) only [s_in, s_cl, s_leL, s_ltL, s_eqL, s_leR, s_ltR, s_eqR, s_le, s_lt, s_eq, s_addL, s_addL', s_mulL, s_mulL', s_mul, nI_add, s_subL, s_sub, s_m1, s_m1', s_lm1, s_ltm1, s_m1lt, s_m1le, s_m1p, s_10, s_let, s_el, s_er, s_b2, s_b3, s_b4, s_b5, s_b6, s_b7, s_b8, s_b9, s_b10, s_b11, s_b12, s_bind, eq_self, if_pos, if_neg, ite_true, ite_false, if_true, if_false, Bool.false_eq_true, reduceIte, e1, e2, e3, h8]
        exact hn
    · rintro ⟨x, q, r⟩ ⟨hx, Sx, s1, s2, s3⟩
      dsimp only at hx s3
      subst hx
      rw [List.take_length] at s1
      refine ⟨(q, r), ?_, Sx, s1, s2, s3⟩
      show bX5_loadEnds_47 sz uu ll pl fl xg xb (nI K.length) (nI K.length) q r = _
      unfold bX5_loadEnds_47
      simp (disch := omega) only [s_in, s_cl, s_leL, s_ltL, s_eqL, s_leR, s_ltR, s_eqR, s_le, s_lt, s_eq, s_addL, s_addL', s_mulL, s_mulL', s_mul, nI_add, s_subL, s_sub, s_m1, s_m1', s_lm1, s_ltm1, s_m1lt, s_m1le, s_m1p, s_10, s_let, s_el, s_er, s_b2, s_b3, s_b4, s_b5, s_b6, s_b7, s_b8, s_b9, s_b10, s_b11, s_b12, s_bind, eq_self, if_pos, if_neg, ite_true, ite_false, if_true, if_false, Bool.false_eq_true, reduceIte]
  obtain ⟨⟨z1, z2⟩, h8, Sx, h9⟩ := H9
  exact ⟨z1, z2, Sx, h8, h9⟩
theorem g_flt1 {own : Nat → Nat} {L : List Nat} {k a c : Nat} (h : L[k]? = some a) : (L.take (k + 1)).filter (fun a => decide (own a = c)) = if own a = c then (L.take k).filter (fun a => decide (own a = c)) ++ [a] else (L.take k).filter (fun a => decide (own a = c)) := by
  rw [g_take1 h, List.filter_append, List.filter_cons]
  by_cases e : own a = c
  · simp [e]
  · simp [e]
theorem p_find {Sx : List Nat} {own far : Nat → Nat} (hn : Sx.length ≤ 24) (hb : ∀ a : Nat, a ∈ Sx → own a < 40 ∧ far a < 40) (hs : Sx.Pairwise (fun a b => far a ≤ far b)) {ow fa : Nat → Int32} (hA : ∀ j a : Nat, Sx[j]? = some a → ow j = nI (own a) ∧ fa j = nI (far a)) :
    ∃ dg sn md, fX5_findMedians ow fa (nI Sx.length) = some (dg, sn, md) ∧ ∀ c : Nat, c < 40 → md c = (g_med (Sx.filter (fun a => decide (own a = c))) far).elim (-1) nI := by
  have H1 : ∃ e, q_lo (fun (st : Int32 × (Nat → Int32)) => bX5_findMedians_26 ow (nI Sx.length) st.1 st.2) (0, (fun _ => 0)) = some e ∧ ∀ c : Nat, c < 40 → e c = nI (Sx.filter (fun a => decide (own a = c))).length := by
    refine q_inv (fun k (st : Int32 × (Nat → Int32)) => st.1 = nI k ∧ ∀ c : Nat, c < 40 → st.2 c = nI ((Sx.take k).filter (fun a => decide (own a = c))).length) Sx.length ?_ ?_ _ ⟨rfl, fun c _ => rfl⟩
    · rintro k ⟨x, q⟩ hk ⟨hx, hq⟩
      dsimp only at hx hq
      subst hx
      obtain ⟨a, ha⟩ : ∃ a, Sx[k]? = some a := ⟨_, List.getElem?_eq_getElem hk⟩
      obtain ⟨b1, b2⟩ := hb a (g_mem_get ha)
      obtain ⟨a1, a2⟩ := hA k a ha
      show ∃ t9, bX5_findMedians_26 ow (nI Sx.length) (nI k) q = some (.inl t9) ∧ _
      unfold bX5_findMedians_26 jX5_findMedians_58
      simp (disch := omega) only [s_in, s_cl, s_leL, s_ltL, s_eqL, s_leR, s_ltR, s_eqR, s_le, s_lt, s_eq, s_addL, s_addL', s_mulL, s_mulL', s_mul, nI_add, s_subL, s_sub, s_m1, s_m1', s_lm1, s_ltm1, s_m1lt, s_m1le, s_m1p, s_10, s_let, s_el, s_er, s_b2, s_b3, s_b4, s_b5, s_b6, s_b7, s_b8, s_b9, s_b10, s_b11, s_b12, s_bind, eq_self, if_pos, if_neg, ite_true, ite_false, if_true, if_false, Bool.false_eq_true, reduceIte, a1, p_isCode b1, hq _ b1]
      refine ⟨_, rfl, rfl, fun c hc => ?_⟩
      dsimp only
      rw [g_flt1 ha]
      by_cases e : own a = c
      · subst e
        rw [pk_us, if_pos rfl, List.length_append]
        rfl
      · rw [pk_un (fun h => e h.symm), if_neg e]
        exact hq c hc
    · rintro ⟨x, q⟩ ⟨hx, hq⟩
      dsimp only at hx hq
      subst hx
      rw [List.take_length] at hq
      refine ⟨q, ?_, hq⟩
      show bX5_findMedians_26 ow (nI Sx.length) (nI Sx.length) q = _
      unfold bX5_findMedians_26
      simp (disch := omega) only [s_in, s_cl, s_leL, s_ltL, s_eqL, s_leR, s_ltR, s_eqR, s_le, s_lt, s_eq, s_addL, s_addL', s_mulL, s_mulL', s_mul, nI_add, s_subL, s_sub, s_m1, s_m1', s_lm1, s_ltm1, s_m1lt, s_m1le, s_m1p, s_10, s_let, s_el, s_er, s_b2, s_b3, s_b4, s_b5, s_b6, s_b7, s_b8, s_b9, s_b10, s_b11, s_b12, s_bind, eq_self, if_pos, if_neg, ite_true, ite_false, if_true, if_false, Bool.false_eq_true, reduceIte]
  obtain ⟨dg, h1, h2⟩ := H1
  have H2 : ∃ e : (Nat → Int32) × (Nat → Int32), q_lo (fun (st : Int32 × (Nat → Int32) × (Nat → Int32)) => bX5_findMedians_66 ow fa dg (nI Sx.length) st.1 st.2.1 st.2.2) (0, (fun _ => 0), (fun _ => (-1))) = some e ∧ ∀ c : Nat, c < 40 → e.2 c = ((Sx.filter (fun a => decide (own a = c)))[((Sx.filter (fun a => decide (own a = c))).length - 1) / 2]?).elim (-1) (fun a => nI (far a)) := by
    refine q_inv (fun k (st : Int32 × (Nat → Int32) × (Nat → Int32)) => st.1 = nI k ∧ (∀ c : Nat, c < 40 → st.2.1 c = nI ((Sx.take k).filter (fun a => decide (own a = c))).length) ∧ ∀ c : Nat, c < 40 → st.2.2 c = (((Sx.take k).filter (fun a => decide (own a = c)))[((Sx.filter (fun a => decide (own a = c))).length - 1) / 2]?).elim (-1) (fun a => nI (far a))) Sx.length ?_ ?_ _ ⟨rfl, fun c _ => rfl, fun c _ => rfl⟩
    · rintro k ⟨x, q, r⟩ hk ⟨hx, hq, hr⟩
      dsimp only at hx hq hr
      subst hx
      obtain ⟨a, ha⟩ : ∃ a, Sx[k]? = some a := ⟨_, List.getElem?_eq_getElem hk⟩
      obtain ⟨b1, b2⟩ := hb a (g_mem_get ha)
      obtain ⟨a1, a2⟩ := hA k a ha
      have hD1 : 1 ≤ (Sx.filter (fun b => decide (own b = own a))).length := List.length_pos_of_mem (List.mem_filter.mpr ⟨g_mem_get ha, by simp⟩)
      have hD2 : (Sx.filter (fun b => decide (own b = own a))).length ≤ Sx.length := List.length_filter_le _ _
      have hT : ((Sx.take k).filter (fun b => decide (own b = own a))).length ≤ k := by
        have := List.length_filter_le (fun b => decide (own b = own a)) (Sx.take k)
        rw [List.length_take] at this
        omega
      have fin1 : ∀ c : Nat, c < 40 → upd q (own a) (nI (((Sx.take k).filter (fun b => decide (own b = own a))).length + 1)) c = nI ((Sx.take (k + 1)).filter (fun b => decide (own b = c))).length := by
        intro c hc
        rw [g_flt1 ha]
        by_cases e : own a = c
        · subst e
          rw [pk_us, if_pos rfl, List.length_append]
          rfl
        · rw [pk_un (fun h => e h.symm), if_neg e]
          exact hq c hc
      show ∃ t9, bX5_findMedians_66 ow fa dg (nI Sx.length) (nI k) q r = some (.inl t9) ∧ _
      unfold bX5_findMedians_66 jX5_findMedians_119 jX5_findMedians_129
      by_cases hc : ((Sx.take k).filter (fun b => decide (own b = own a))).length = ((Sx.filter (fun b => decide (own b = own a))).length - 1) / 2
      · simp (disch := omega) only [s_in, s_cl, s_leL, s_ltL, s_eqL, s_leR, s_ltR, s_eqR, s_le, s_lt, s_eq, s_addL, s_addL', s_mulL, s_mulL', s_mul, nI_add, s_subL, s_sub, s_m1, s_m1', s_lm1, s_ltm1, s_m1lt, s_m1le, s_m1p, s_10, s_let, s_el, s_er, s_b2, s_b3, s_b4, s_b5, s_b6, s_b7, s_b8, s_b9, s_b10, s_b11, s_b12, s_bind, eq_self, if_pos, if_neg, ite_true, ite_false, if_true, if_false, Bool.false_eq_true, reduceIte, a1, a2, p_isCode b1, hq _ b1, h2 _ b1, s_divL, hc]
        rw [← hc]
        refine ⟨_, rfl, rfl, fin1, fun c hcc => ?_⟩
        dsimp only
        rw [g_flt1 ha]
        by_cases e : own a = c
        · subst e
          rw [pk_us, if_pos rfl, ← hc, List.getElem?_append_right (Nat.le_refl _), Nat.sub_self]
          rfl
        · rw [pk_un (fun h => e h.symm), if_neg e]
          exact hr c hcc
      · simp (disch := omega) only [s_in, s_cl, s_leL, s_ltL, s_eqL, s_leR, s_ltR, s_eqR, s_le, s_lt, s_eq, s_addL, s_addL', s_mulL, s_mulL', s_mul, nI_add, s_subL, s_sub, s_m1, s_m1', s_lm1, s_ltm1, s_m1lt, s_m1le, s_m1p, s_10, s_let, s_el, s_er, s_b2, s_b3, s_b4, s_b5, s_b6, s_b7, s_b8, s_b9, s_b10, s_b11, s_b12, s_bind, eq_self, if_pos, if_neg, ite_true, ite_false, if_true, if_false, Bool.false_eq_true, reduceIte, a1, a2, p_isCode b1, hq _ b1, h2 _ b1, s_divL, hc]
        refine ⟨_, rfl, rfl, fin1, fun c hcc => ?_⟩
        dsimp only
        rw [g_flt1 ha]
        by_cases e : own a = c
        · subst e
          rw [if_pos rfl, hr _ hcc]
          by_cases h3 : ((Sx.filter (fun b => decide (own b = own a))).length - 1) / 2 < ((Sx.take k).filter (fun b => decide (own b = own a))).length
          · rw [List.getElem?_append_left h3]
          · rw [List.getElem?_eq_none (by omega), List.getElem?_eq_none (by rw [List.length_append, List.length_singleton]; omega)]
        · rw [if_neg e]
          exact hr c hcc
    · rintro ⟨x, q, r⟩ ⟨hx, hq, hr⟩
      dsimp only at hx hq hr
      subst hx
      rw [List.take_length] at hr
      refine ⟨(q, r), ?_, hr⟩
      show bX5_findMedians_66 ow fa dg (nI Sx.length) (nI Sx.length) q r = _
      unfold bX5_findMedians_66
      simp (disch := omega) only [s_in, s_cl, s_leL, s_ltL, s_eqL, s_leR, s_ltR, s_eqR, s_le, s_lt, s_eq, s_addL, s_addL', s_mulL, s_mulL', s_mul, nI_add, s_subL, s_sub, s_m1, s_m1', s_lm1, s_ltm1, s_m1lt, s_m1le, s_m1p, s_10, s_let, s_el, s_er, s_b2, s_b3, s_b4, s_b5, s_b6, s_b7, s_b8, s_b9, s_b10, s_b11, s_b12, s_bind, eq_self, if_pos, if_neg, ite_true, ite_false, if_true, if_false, Bool.false_eq_true, reduceIte]
  obtain ⟨⟨sn, md⟩, h3, h4⟩ := H2
  refine ⟨dg, sn, md, ?_, fun c hc => ?_⟩
  · unfold fX5_findMedians
    rw [h1, s_bind, h3]
    rfl
  · have h5 : md c = _ := h4 c hc
    rw [h5]
    cases hF : (Sx.filter (fun a => decide (own a = c)))[((Sx.filter (fun a => decide (own a = c))).length - 1) / 2]? with
    | none =>
      have h5 := List.getElem?_eq_none_iff.mp hF
      have h6 : Sx.filter (fun a => decide (own a = c)) = [] := List.eq_nil_of_length_eq_zero (by omega)
      rw [h6, g_med_nil]
      rfl
    | some a =>
      have h5 := g_mem_get hF
      rw [g_med_some (hb a (List.mem_filter.mp h5).1).2 (g_ost_sorted (hs.filter _) hF)]
      rfl
section SP
variable {N : Nat} {row : Nat → List Nat} {ly : Int32} {sz rw pl hm : Nat → Int32} {M : Nat → Option Nat} {md : Nat → Int32}
theorem p_gather (hO : c_O N row ly sz rw pl hm) {l : Nat} (hl : l < 24) (hM : ∀ c v : Nat, M c = some v → v < 40) (hmd : ∀ c : Nat, c < 40 → md c = (M c).elim (-1) nI) (sd sp : Nat → Int32) :
    ∃ sd' sp', fX5_gatherMovers md sd sp ly sz rw (nI l) = some (sd', sp', nI (g_sp M (row l) (row l).length).length) ∧ (∀ j c : Nat, (g_mv M (row l))[j]? = some c → sd' j = nI c) ∧ ∀ j s : Nat, (g_sp M (row l) (row l).length)[j]? = some s → sp' j = nI s := by
  obtain ⟨o1, o2, o3, -⟩ := id hO
  obtain ⟨g1, g2, g3, g4, g5, g6⟩ := o3 l hl
  have H9 : ∃ e : (Nat → Int32) × (Nat → Int32) × Int32, q_lo (fun (st : Int32 × (Nat → Int32) × (Nat → Int32) × Int32) => bX5_gatherMovers_19 md ly sz rw (nI l) (nI (row l).length) st.1 st.2.1 st.2.2.1 st.2.2.2) (0, sd, sp, 0) = some e ∧ e.2.2 = nI (g_sp M (row l) (row l).length).length ∧ (∀ j c : Nat, (g_mv M (row l))[j]? = some c → e.1 j = nI c) ∧ ∀ j s : Nat, (g_sp M (row l) (row l).length)[j]? = some s → e.2.1 j = nI s := by
    refine q_inv (fun k (st : Int32 × (Nat → Int32) × (Nat → Int32) × Int32) => st.1 = nI k ∧ st.2.2.2 = nI (g_sp M (row l) k).length ∧ (∀ j c : Nat, (g_mv M ((row l).take k))[j]? = some c → st.2.1 j = nI c) ∧ ∀ j s : Nat, (g_sp M (row l) k)[j]? = some s → st.2.2.1 j = nI s) (row l).length ?_ ?_ _ ⟨rfl, rfl, fun j c h => by simp [g_mv] at h, fun j c h => by simp [g_sp] at h⟩
    · rintro k ⟨x, q, r, m⟩ hk ⟨hx, hm', hq, hr⟩
      dsimp only at hx hm' hq hr
      subst hx
      subst hm'
      obtain ⟨c, hc⟩ : ∃ c, (row l)[k]? = some c := ⟨_, List.getElem?_eq_getElem hk⟩
      have hc40 := (g5 k c hc).1
      have hle : (g_sp M (row l) k).length ≤ k := by
        have := List.length_filter_le (fun i => ((row l)[i]?).elim false (fun c => (M c).isSome)) (List.range k)
        rw [List.length_range] at this
        exact this
      have hal := (g_sp_mv (M := M) (R := row l) k (by omega)).1
      show ∃ t9, bX5_gatherMovers_19 md ly sz rw (nI l) (nI (row l).length) (nI k) q r (nI (g_sp M (row l) k).length) = some (.inl t9) ∧ _
      unfold bX5_gatherMovers_19 jX5_gatherMovers_85
      rw [g_sp_succ hc, g_mv_succ hc]
      cases hMc : M c with
      | none =>
        have e1 : md c = -1 := by rw [hmd c hc40, hMc]; rfl
        simp (disch := omega) only [s_in, s_cl, s_leL, s_ltL, s_eqL, s_leR, s_ltR, s_eqR, s_le, s_lt, s_eq, s_addL, s_addL', s_mulL, s_mulL', s_mul, nI_add, s_subL, s_sub, s_m1, s_m1', s_lm1, s_ltm1, s_m1lt, s_m1le, s_m1p, s_10, s_let, s_el, s_er, s_b2, s_b3, s_b4, s_b5, s_b6, s_b7, s_b8, s_b9, s_b10, s_b11, s_b12, s_bind, eq_self, if_pos, if_neg, ite_true, ite_false, if_true, if_false, Bool.false_eq_true, reduceIte, p_itemIn hO hl hc, p_isCode hc40, e1, Option.isSome]
        exact ⟨_, rfl, rfl, rfl, hq, hr⟩
      | some v =>
        have e1 : md c = nI v := by rw [hmd c hc40, hMc]; rfl
        have := hM c v hMc
        simp (disch := omega) only [s_in, s_cl, s_leL, s_ltL, s_eqL, s_leR, s_ltR, s_eqR, s_le, s_lt, s_eq, s_addL, s_addL', s_mulL, s_mulL', s_mul, nI_add, s_subL, s_sub, s_m1, s_m1', s_lm1, s_ltm1, s_m1lt, s_m1le, s_m1p, s_10, s_let, s_el, s_er, s_b2, s_b3, s_b4, s_b5, s_b6, s_b7, s_b8, s_b9, s_b10, s_b11, s_b12, s_bind, eq_self, if_pos, if_neg, ite_true, ite_false, if_true, if_false, Bool.false_eq_true, reduceIte, p_itemIn hO hl hc, p_isCode hc40, e1, Option.isSome]
        refine ⟨_, rfl, rfl, by rw [List.length_append]; rfl, ?_, ?_⟩
        · intro j d hj
          dsimp only
          rw [List.getElem?_append] at hj
          split at hj
          · rw [pk_un (by omega)]
            exact hq j d hj
          · have hj1 := g_lt_len hj
            simp at hj1
            have hj2 : j = (g_mv M ((row l).take k)).length := by omega
            subst hj2
            rw [Nat.sub_self] at hj
            simp at hj
            subst hj
            rw [hal, pk_us]
        · intro j d hj
          dsimp only
          rw [List.getElem?_append] at hj
          split at hj
          · rw [pk_un (by omega)]
            exact hr j d hj
          · have hj1 := g_lt_len hj
            simp at hj1
            have hj2 : j = (g_sp M (row l) k).length := by omega
            subst hj2
            rw [Nat.sub_self] at hj
            simp at hj
            subst hj
            rw [pk_us]
    · rintro ⟨x, q, r, m⟩ ⟨hx, hm', hq, hr⟩
      dsimp only at hx hm' hq hr
      subst hx
      rw [List.take_length] at hq
      refine ⟨(q, r, m), ?_, hm', hq, hr⟩
      show bX5_gatherMovers_19 md ly sz rw (nI l) (nI (row l).length) (nI (row l).length) q r m = _
      unfold bX5_gatherMovers_19
      simp (disch := omega) only [s_in, s_cl, s_leL, s_ltL, s_eqL, s_leR, s_ltR, s_eqR, s_le, s_lt, s_eq, s_addL, s_addL', s_mulL, s_mulL', s_mul, nI_add, s_subL, s_sub, s_m1, s_m1', s_lm1, s_ltm1, s_m1lt, s_m1le, s_m1p, s_10, s_let, s_el, s_er, s_b2, s_b3, s_b4, s_b5, s_b6, s_b7, s_b8, s_b9, s_b10, s_b11, s_b12, s_bind, eq_self, if_pos, if_neg, ite_true, ite_false, if_true, if_false, Bool.false_eq_true, reduceIte]
  obtain ⟨⟨z1, z2, z3⟩, h8, h9, h10, h11⟩ := H9
  dsimp only at h9 h10 h11
  subst h9
  refine ⟨z1, z2, ?_, h10, h11⟩
  unfold fX5_gatherMovers
  simp (disch := omega) only [s_in, s_cl, s_leL, s_ltL, s_eqL, s_leR, s_ltR, s_eqR, s_le, s_lt, s_eq, s_addL, s_addL', s_mulL, s_mulL', s_mul, nI_add, s_subL, s_sub, s_m1, s_m1', s_lm1, s_ltm1, s_m1lt, s_m1le, s_m1p, s_10, s_let, s_el, s_er, s_b2, s_b3, s_b4, s_b5, s_b6, s_b7, s_b8, s_b9, s_b10, s_b11, s_b12, s_bind, eq_self, if_pos, if_neg, ite_true, ite_false, if_true, if_false, Bool.false_eq_true, reduceIte, p_sizeO hO hl, h8]
theorem p_sortM {st : List Nat} (hst : ∀ c : Nat, c ∈ st → c < 40 ∧ (M c).isSome = true) (hn : st.length ≤ 40) (hM : ∀ c v : Nat, M c = some v → v < 40) (hmd : ∀ c : Nat, c < 40 → md c = (M c).elim (-1) nI) {sd : Nat → Int32} (hsd : ∀ j c : Nat, st[j]? = some c → sd j = nI c) (so : Nat → Int32) :
    ∃ fl so' Q, fX5_sortMovers md sd so (nI st.length) = some (fl, so') ∧ (fl = 0 ∨ fl = 1) ∧ (fl = 0 → Q = st) ∧ Q = (List.range 40).flatMap (fun m => st.filter (fun c => decide (g_ky M c = m))) ∧ ∀ j c : Nat, Q[j]? = some c → so' j = nI c := by
  have hkey : ∀ c : Nat, c ∈ st → md c = nI (g_ky M c) := by
    intro c hc
    obtain ⟨h1, h2⟩ := hst c hc
    rw [hmd c h1]
    unfold g_ky
    cases h : M c with
    | none => rw [h] at h2; cases h2
    | some v => rfl
  have H9 : ∃ e : Int32 × (Nat → Int32), q_lo (fun (st9 : Int32 × Int32 × (Nat → Int32)) => bX5_sortMovers_4 md sd (nI st.length) st9.1 st9.2.1 st9.2.2) (0, 0, so) = some e ∧ ∃ Q : List Nat, (e.1 = 0 ∨ e.1 = 1) ∧ (e.1 = 0 → Q = st) ∧ Q.Pairwise (fun a b => g_ky M a ≤ g_ky M b) ∧ (∀ m : Nat, Q.filter (fun c => decide (g_ky M c = m)) = st.filter (fun c => decide (g_ky M c = m))) ∧ ∀ j c : Nat, Q[j]? = some c → e.2 j = nI c := by
    refine q_inv (fun k (st9 : Int32 × Int32 × (Nat → Int32)) => st9.2.1 = nI k ∧ ∃ Q : List Nat, Q.Perm (st.take k) ∧ (st9.1 = 0 ∨ st9.1 = 1) ∧ (st9.1 = 0 → Q = st.take k) ∧ Q.Pairwise (fun a b => g_ky M a ≤ g_ky M b) ∧ (∀ m : Nat, Q.filter (fun c => decide (g_ky M c = m)) = (st.take k).filter (fun c => decide (g_ky M c = m))) ∧ ∀ j c : Nat, Q[j]? = some c → st9.2.2 j = nI c) st.length ?_ ?_ _ ⟨rfl, [], List.Perm.refl _, .inl rfl, fun _ => rfl, List.Pairwise.nil, fun m => rfl, fun j c h => by simp at h⟩
    · rintro k ⟨f, x, q⟩ hk ⟨hx, Q, k1, k2, k3, k4, k5, k6⟩
      dsimp only at hx k2 k3 k6
      subst hx
      obtain ⟨c, hc⟩ : ∃ c, st[k]? = some c := ⟨_, List.getElem?_eq_getElem hk⟩
      have hc40 := (hst c (g_mem_get hc)).1
      have hck := hkey c (g_mem_get hc)
      have hkc := g_ky_lt hM c
      have hlen : Q.length = k := by rw [k1.length_eq, List.length_take]; omega
      have H8 : ∃ e : Int32 × Int32 × (Nat → Int32), q_lo (fun (st9 : Int32 × Int32 × (Nat → Int32)) => bX5_sortMovers_22 md (nI c) st9.1 st9.2.1 st9.2.2) (f, nI k, q) = some e ∧ ∃ s, s ≤ k ∧ e.2.1 = nI s ∧ c_sh k s q e.2.2 ∧ ((s = k ∧ e.1 = f) ∨ e.1 = 1) ∧ (∀ j b : Nat, s ≤ j → Q[j]? = some b → g_ky M c < g_ky M b) ∧ (s = 0 ∨ ∃ b, Q[s - 1]? = some b ∧ g_ky M b ≤ g_ky M c) := by
        refine q_invx (fun i (st9 : Int32 × Int32 × (Nat → Int32)) => st9.2.1 = nI (k - i) ∧ c_sh k (k - i) q st9.2.2 ∧ ((k - i = k ∧ st9.1 = f) ∨ st9.1 = 1) ∧ ∀ j b : Nat, k - i ≤ j → Q[j]? = some b → g_ky M c < g_ky M b) k ?_ ?_ _ ⟨rfl, c_sh_0, .inl ⟨rfl, rfl⟩, fun j b hj hb => by have := g_lt_len hb; omega⟩
        · rintro i ⟨f1, x, q1⟩ hi ⟨hx, t1, t2, t3⟩
          dsimp only at hx t1 t2
          subst hx
          obtain ⟨s, hs⟩ : ∃ s, k - i = s + 1 := ⟨k - i - 1, by omega⟩
          have hs2 : k - (i + 1) = s := by omega
          rw [hs] at t1 t2 t3
          rw [hs2]
          obtain ⟨b, hb⟩ : ∃ b, Q[s]? = some b := ⟨_, List.getElem?_eq_getElem (by omega)⟩
          have hbst : b ∈ st := List.mem_of_mem_take (k1.mem_iff.mp (g_mem_get hb))
          have b3 : q1 s = nI b := by rw [t1.1 s (by omega)]; exact k6 s b hb
          have b4 := hkey b hbst
          have b5 := (hst b hbst).1
          have b6 := g_ky_lt hM b
          show (∃ t9, bX5_sortMovers_22 md (nI c) f1 (nI (k - i)) q1 = some (.inl t9) ∧ _) ∨ ∃ e, bX5_sortMovers_22 md (nI c) f1 (nI (k - i)) q1 = some (.inr e) ∧ _
          rw [hs]
          unfold bX5_sortMovers_22
          by_cases hcc : g_ky M b ≤ g_ky M c
          · right
            simp (disch := omega) only [s_in, s_cl, s_leL, s_ltL, s_eqL, s_leR, s_ltR, s_eqR, s_le, s_lt, s_eq, s_addL, s_addL', s_mulL, s_mulL', s_mul, nI_add, s_subL, s_sub, s_m1, s_m1', s_lm1, s_ltm1, s_m1lt, s_m1le, s_m1p, s_10, s_let, s_el, s_er, s_b2, s_b3, s_b4, s_b5, s_b6, s_b7, s_b8, s_b9, s_b10, s_b11, s_b12, s_bind, eq_self, if_pos, if_neg, ite_true, ite_false, if_true, if_false, Bool.false_eq_true, reduceIte, Nat.add_sub_cancel, b3, b4, hck, hcc]
            exact ⟨_, rfl, s + 1, by omega, rfl, t1, t2, t3, .inr ⟨b, by rw [Nat.add_sub_cancel]; exact hb, hcc⟩⟩
          · left
            simp (disch := omega) only [s_in, s_cl, s_leL, s_ltL, s_eqL, s_leR, s_ltR, s_eqR, s_le, s_lt, s_eq, s_addL, s_addL', s_mulL, s_mulL', s_mul, nI_add, s_subL, s_sub, s_m1, s_m1', s_lm1, s_ltm1, s_m1lt, s_m1le, s_m1p, s_10, s_let, s_el, s_er, s_b2, s_b3, s_b4, s_b5, s_b6, s_b7, s_b8, s_b9, s_b10, s_b11, s_b12, s_bind, eq_self, if_pos, if_neg, ite_true, ite_false, if_true, if_false, Bool.false_eq_true, reduceIte, Nat.add_sub_cancel, b3, b4, hck, hcc, s_dec]
            refine ⟨_, rfl, rfl, ?_, .inr rfl, ?_⟩
            · have := c_sh_on t1
              rw [b3] at this
              exact this
            · intro j d hj hd
              by_cases hjs : j = s
              · subst hjs
                rw [hb] at hd
                cases hd
                omega
              · exact t3 j d (by omega) hd
        · rintro ⟨f1, x, q1⟩ ⟨hx, t1, t2, t3⟩
          dsimp only at hx t1 t2
          rw [Nat.sub_self] at hx t1 t2 t3
          subst hx
          refine ⟨(f1, nI 0, q1), ?_, 0, by omega, rfl, t1, t2, t3, .inl rfl⟩
          show bX5_sortMovers_22 md (nI c) f1 (nI 0) q1 = _
          unfold bX5_sortMovers_22
          simp (disch := omega) only [s_in, s_cl, s_leL, s_ltL, s_eqL, s_leR, s_ltR, s_eqR, s_le, s_lt, s_eq, s_addL, s_addL', s_mulL, s_mulL', s_mul, nI_add, s_subL, s_sub, s_m1, s_m1', s_lm1, s_ltm1, s_m1lt, s_m1le, s_m1p, s_10, s_let, s_el, s_er, s_b2, s_b3, s_b4, s_b5, s_b6, s_b7, s_b8, s_b9, s_b10, s_b11, s_b12, s_bind, eq_self, if_pos, if_neg, ite_true, ite_false, if_true, if_false, Bool.false_eq_true, reduceIte]
      obtain ⟨⟨z1, z2, z3⟩, h8, s, hsk, y1, y2, y3, y4, y5⟩ := H8
      dsimp only at y1 y2 y3
      subst y1
      show ∃ t9, bX5_sortMovers_4 md sd (nI st.length) f (nI k) q = some (.inl t9) ∧ _
      unfold bX5_sortMovers_4
      simp (disch := omega) only [s_in, s_cl, s_leL, s_ltL, s_eqL, s_leR, s_ltR, s_eqR, s_le, s_lt, s_eq, s_addL, s_addL', s_mulL, s_mulL', s_mul, nI_add, s_subL, s_sub, s_m1, s_m1', s_lm1, s_ltm1, s_m1lt, s_m1le, s_m1p, s_10, s_let, s_el, s_er, s_b2, s_b3, s_b4, s_b5, s_b6, s_b7, s_b8, s_b9, s_b10, s_b11, s_b12, s_bind, eq_self, if_pos, if_neg, ite_true, ite_false, if_true, if_false, Bool.false_eq_true, reduceIte, hsd k c hc, h8]
      refine ⟨_, rfl, rfl, g_ins Q s c, ?_, ?_, ?_, g_ins_sorted k4 y4 y5, ?_, ?_⟩
      · rw [g_take1 hc]
        exact (g_ins_perm Q s c).trans (k1.append_right [c])
      · dsimp only
        rcases y3 with ⟨-, y3⟩ | y3
        · rw [y3]; exact k2
        · exact .inr y3
      · intro h0
        dsimp only at h0
        rcases y3 with ⟨y3, y6⟩ | y3
        · rw [y6] at h0
          rw [g_take1 hc, ← k3 h0, y3, ← hlen, g_ins_end]
        · rw [y3] at h0
          exact absurd h0 (by decide)
      · intro m
        rw [g_ins_filter y4, k5 m, g_take1 hc, List.filter_append]
      · intro j b hj
        dsimp only
        rw [← hlen] at y2
        exact c_sh_end (f := fun a => nI a) (by omega) y2 k6 j b hj
    · rintro ⟨f, x, q⟩ ⟨hx, Q, k1, k2, k3, k4, k5, k6⟩
      dsimp only at hx k2 k3 k6
      subst hx
      rw [List.take_length] at k3 k5
      refine ⟨(f, q), ?_, Q, k2, k3, k4, k5, k6⟩
      show bX5_sortMovers_4 md sd (nI st.length) f (nI st.length) q = _
      unfold bX5_sortMovers_4
      simp (disch := omega) only [s_in, s_cl, s_leL, s_ltL, s_eqL, s_leR, s_ltR, s_eqR, s_le, s_lt, s_eq, s_addL, s_addL', s_mulL, s_mulL', s_mul, nI_add, s_subL, s_sub, s_m1, s_m1', s_lm1, s_ltm1, s_m1lt, s_m1le, s_m1p, s_10, s_let, s_el, s_er, s_b2, s_b3, s_b4, s_b5, s_b6, s_b7, s_b8, s_b9, s_b10, s_b11, s_b12, s_bind, eq_self, if_pos, if_neg, ite_true, ite_false, if_true, if_false, Bool.false_eq_true, reduceIte]
  obtain ⟨⟨z1, z2⟩, h8, Q, h9, h10, h11, h12, h13⟩ := H9
  dsimp only at h9 h10 h13
  refine ⟨z1, z2, Q, ?_, h9, h10, g_same h11 (fun a _ => g_ky_lt hM a) h12, h13⟩
  unfold fX5_sortMovers
  rw [h8, s_b2, if_pos]
  exact h9
theorem p_putM (hO : c_O N row (nI N) sz rw pl hm) {l : Nat} (hl : l < N) {sp cs R' : List Nat} (hnd : sp.Nodup) (hcs : cs.Nodup) (hlen : cs.length = sp.length) (hsp : ∀ s : Nat, s ∈ sp → s < (row l).length) (hPt : g_Pt (row l) sp cs R') (hset : ∀ c : Nat, c ∈ cs ↔ ∃ s, s ∈ sp ∧ (row l)[s]? = some c)
    {spA csA : Nat → Int32} (h1 : ∀ j s : Nat, sp[j]? = some s → spA j = nI s) (h2 : ∀ j c : Nat, cs[j]? = some c → csA j = nI c) :
    ∃ rw' pl', fX5_putMovers spA (nI sp.length) (nI N) sz rw pl hm csA (nI l) = some (rw', pl', hm) ∧ c_O N (g_set row l R') (nI N) sz rw' pl' hm := by
  obtain ⟨o1, o2, o3, o4, o5⟩ := id hO
  obtain ⟨g1, g2, g3, g4, g5, g6⟩ := o3 l (by omega)
  have hsl : sp.length ≤ 40 := by
    have := g_pigeon _ sp hnd hsp
    omega
  have H9 : ∃ e : (Nat → Int32) × (Nat → Int32) × (Nat → Int32), q_lo (fun (st : Int32 × (Nat → Int32) × (Nat → Int32) × (Nat → Int32)) => bX5_putMovers_3 spA (nI sp.length) (nI N) sz csA (nI l) st.1 st.2.1 st.2.2.1 st.2.2.2) (0, rw, pl, hm) = some e ∧ c_W l sp.length sp cs rw pl e.1 e.2.1 ∧ e.2.2 = hm := by
    refine q_inv (fun n (st : Int32 × (Nat → Int32) × (Nat → Int32) × (Nat → Int32)) => st.1 = nI n ∧ c_W l n sp cs rw pl st.2.1 st.2.2.1 ∧ st.2.2.2 = hm) sp.length ?_ ?_ _ ⟨rfl, c_W_0, rfl⟩
    · rintro n ⟨x, q, r, h⟩ hn ⟨hx, hw, hh⟩
      dsimp only at hx hw hh
      subst hx
      subst hh
      obtain ⟨s, hs⟩ : ∃ s, sp[n]? = some s := ⟨_, List.getElem?_eq_getElem hn⟩
      obtain ⟨c, hc⟩ : ∃ c, cs[n]? = some c := ⟨_, List.getElem?_eq_getElem (by omega)⟩
      obtain ⟨s', hs', hsc⟩ := (hset c).mp (g_mem_get hc)
      have hc40 := (g5 s' c hsc).1
      have hslt := hsp s (g_mem_get hs)
      have hp := p_put (sz := sz) (rw := q) (pl := r) (hm := h) hl o2 g4 hslt g3 hc40
      have hh : (if c < 16 then upd h c (nI l) else h) = h := by
        split
        · next h16 => exact s_upd_self (o4 l (by omega) c h16 (g_mem_get hsc))
        · rfl
      rw [hh] at hp
      show ∃ t9, bX5_putMovers_3 spA (nI sp.length) (nI N) sz csA (nI l) (nI n) q r h = some (.inl t9) ∧ _
      unfold bX5_putMovers_3
      simp (disch := omega) only [s_in, s_cl, s_leL, s_ltL, s_eqL, s_leR, s_ltR, s_eqR, s_le, s_lt, s_eq, s_addL, s_addL', s_mulL, s_mulL', s_mul, nI_add, s_subL, s_sub, s_m1, s_m1', s_lm1, s_ltm1, s_m1lt, s_m1le, s_m1p, s_10, s_let, s_el, s_er, s_b2, s_b3, s_b4, s_b5, s_b6, s_b7, s_b8, s_b9, s_b10, s_b11, s_b12, s_bind, eq_self, if_pos, if_neg, ite_true, ite_false, if_true, if_false, Bool.false_eq_true, reduceIte, h1 n s hs, h2 n c hc, hp]
      exact ⟨_, rfl, rfl, c_W_on hnd hcs hs hc hw, rfl⟩
    · rintro ⟨x, q, r, h⟩ ⟨hx, hw, hh⟩
      dsimp only at hx hw hh
      subst hx
      refine ⟨(q, r, h), ?_, hw, hh⟩
      show bX5_putMovers_3 spA (nI sp.length) (nI N) sz csA (nI l) (nI sp.length) q r h = _
      unfold bX5_putMovers_3
      simp (disch := omega) only [s_in, s_cl, s_leL, s_ltL, s_eqL, s_leR, s_ltR, s_eqR, s_le, s_lt, s_eq, s_addL, s_addL', s_mulL, s_mulL', s_mul, nI_add, s_subL, s_sub, s_m1, s_m1', s_lm1, s_ltm1, s_m1lt, s_m1le, s_m1p, s_10, s_let, s_el, s_er, s_b2, s_b3, s_b4, s_b5, s_b6, s_b7, s_b8, s_b9, s_b10, s_b11, s_b12, s_bind, eq_self, if_pos, if_neg, ite_true, ite_false, if_true, if_false, Bool.false_eq_true, reduceIte]
  obtain ⟨⟨z1, z2, z3⟩, h8, h9, h10⟩ := H9
  dsimp only at h9 h10
  subst h10
  refine ⟨z1, z2, ?_, c_W_end hO (by omega) hcs hlen h9 hsp hPt hset⟩
  unfold fX5_putMovers
  rw [h8]
  rfl
end SP
