/-! PURE: the class's choice of an order. -/
def g_rem (n : Nat) (pre : List Nat) : List Nat := (List.range n).filter (fun p => !decide (p ∈ pre))
def g_lv (cst : Nat → Nat → Nat) (spent : Nat) (pre : List Nat) (m : Nat) (rem : List Nat) : List (Nat × List Nat) := (g_pm m rem).map (fun r => (spent + g_co cst r, pre ++ r))
def g_lf (cst : Nat → Nat → Nat) (spent : Nat) (pre : List Nat) (m : Nat) (rem : List Nat) (x : Nat) : List (Nat × List Nat) := (g_pm m (rem.filter (fun y => decide (y ≠ x)))).map (fun r => (spent + g_co cst (x :: r), pre ++ x :: r))
theorem g_lv_succ {cst : Nat → Nat → Nat} {spent : Nat} {pre : List Nat} {m : Nat} {rem : List Nat} : g_lv cst spent pre (m + 1) rem = rem.flatMap (g_lf cst spent pre m rem) := by
  unfold g_lv
  rw [g_pm, List.map_flatMap]
  congr 1
  funext x
  unfold g_lf
  rw [List.map_map]
  rfl
theorem g_rem_nd {n : Nat} {pre : List Nat} : (g_rem n pre).Nodup := List.nodup_range.filter _
theorem g_rem_mem {n : Nat} {pre : List Nat} {x : Nat} : x ∈ g_rem n pre ↔ x < n ∧ x ∉ pre := by
  unfold g_rem
  rw [List.mem_filter, List.mem_range]
  simp
theorem g_rem_snoc {n : Nat} {pre : List Nat} {x : Nat} : g_rem n (pre ++ [x]) = (g_rem n pre).filter (fun y => decide (y ≠ x)) := by
  unfold g_rem
  rw [List.filter_filter]
  apply List.filter_congr
  intro y _
  by_cases h1 : y = x
  · subst h1; simp
  · by_cases h2 : y ∈ pre
    · simp [h1, h2]
    · simp [h1, h2]
theorem g_rem_len {n : Nat} : ∀ pre : List Nat, pre.Nodup → (∀ p : Nat, p ∈ pre → p < n) → (g_rem n pre).length + pre.length = n := by
  intro pre h1 h2
  have h3 : ((List.range n).filter (fun p => decide (p ∈ pre))).Perm pre := by
    rw [List.perm_ext_iff_of_nodup (List.nodup_range.filter _) h1]
    intro a
    rw [List.mem_filter, List.mem_range, decide_eq_true_eq]
    exact ⟨fun h => h.2, fun h => ⟨h2 a h, h⟩⟩
  have h4 := (List.filter_append_perm (fun p => decide (p ∈ pre)) (List.range n)).length_eq
  rw [List.length_append, h3.length_eq, List.length_range] at h4
  unfold g_rem
  omega
theorem g_lf_lv {cst : Nat → Nat → Nat} {spent n m : Nat} {pre : List Nat} {x : Nat} (h1 : pre.Nodup) (h2 : ∀ p : Nat, p ∈ pre → p < n) (hx : x < n) (hx2 : x ∉ pre) (hm : n - pre.length = m + 1) : g_lf cst spent pre m (g_rem n pre) x = g_lv cst (spent + ((g_rem n (pre ++ [x])).map (cst x)).sum) (pre ++ [x]) m (g_rem n (pre ++ [x])) := by
  unfold g_lf g_lv
  rw [← g_rem_snoc]
  apply List.map_congr_left
  intro r hr
  have hl := g_rem_len (n := n) (pre ++ [x]) (by
    rw [List.nodup_append]
    refine ⟨h1, by simp, ?_⟩
    intro a ha b hb
    simp at hb
    subst hb
    exact fun e => hx2 (e ▸ ha)) (by
    intro p hp
    rcases List.mem_append.mp hp with hp | hp
    · exact h2 p hp
    · simp at hp; omega)
  rw [List.length_append, List.length_singleton] at hl
  have hp := g_pm_perm m _ g_rem_nd (by omega) r hr
  rw [g_co, g_sum_perm hp, List.append_assoc]
  refine Prod.ext ?_ rfl
  show spent + (_ + _) = spent + _ + _
  omega
theorem p_costAhead {n : Nat} (hn : n ≤ 6) {cst : Nat → Nat → Nat} {cA uA : Nat → Int32} (hc : ∀ p q : Nat, p < n → q < n → cA (p * 6 + q) = nI (cst p q)) {i : Nat} (hi : i < n) {pre : List Nat} (hu : ∀ p : Nat, p < n → uA p = if p ∈ pre then 1 else 0) : fX0_costAhead cA uA (nI n) (nI i) = some (nI ((g_rem n pre).map (cst i)).sum) := by
  unfold fX0_costAhead
  have H9 : ∃ e, q_lo (fun (st : Int32 × Int32) => bX0_costAhead_4 cA uA (nI n) (nI i) st.1 st.2) (0, 0) = some e ∧ e = nI ((g_rem n pre).map (cst i)).sum := by
    refine q_inv (fun k (st : Int32 × Int32) => st.2 = nI k ∧ st.1 = nI ((g_rem k pre).map (cst i)).sum) n ?_ ?_ _ ⟨rfl, rfl⟩
    · rintro k ⟨x, y⟩ hk ⟨h1, h2⟩
      dsimp only at h1 h2
      subst h1
      subst h2
      have e1 : g_rem (k + 1) pre = if k ∈ pre then g_rem k pre else g_rem k pre ++ [k] := by
        unfold g_rem
        rw [List.range_succ, List.filter_append]
        by_cases h : k ∈ pre
        · simp [h]
        · simp [h]
      rw [e1]
      show ∃ t9, bX0_costAhead_4 cA uA (nI n) (nI i) (nI ((g_rem k pre).map (cst i)).sum) (nI k) = some (.inl t9) ∧ _
      unfold bX0_costAhead_4 jX0_costAhead_35
      by_cases h : k ∈ pre
      · have hu1 : uA k = 1 := by rw [hu k hk, if_pos h]
        simp (disch := omega) only [s_in, s_cl, s_leL, s_ltL, s_eqL, s_leR, s_ltR, s_eqR, s_le, s_lt, s_eq, s_addL, s_addL', s_mulL, s_mulL', s_mul, nI_add, s_subL, s_sub, s_m1, s_m1', s_lm1, s_ltm1, s_m1lt, s_m1le, s_m1p, s_10, s_let, s_el, s_er, s_b2, s_b3, s_b4, s_b5, s_b6, s_b7, s_b8, s_b9, s_b10, s_b11, s_b12, s_bind, eq_self, if_pos, if_neg, ite_true, ite_false, if_true, if_false, Bool.false_eq_true, reduceIte, hu1, h]
        exact ⟨_, rfl, rfl, rfl⟩
      · have hu1 : uA k = 0 := by rw [hu k hk, if_neg h]
        rw [if_neg h]
        simp (disch := omega) only [s_in, s_cl, s_leL, s_ltL, s_eqL, s_leR, s_ltR, s_eqR, s_le, s_lt, s_eq, s_addL, s_addL', s_mulL, s_mulL', s_mul, nI_add, s_subL, s_sub, s_m1, s_m1', s_lm1, s_ltm1, s_m1lt, s_m1le, s_m1p, s_10, s_let, s_el, s_er, s_b2, s_b3, s_b4, s_b5, s_b6, s_b7, s_b8, s_b9, s_b10, s_b11, s_b12, s_bind, eq_self, if_pos, if_neg, ite_true, ite_false, if_true, if_false, Bool.false_eq_true, reduceIte, hu1, hc i k hi hk]
        refine ⟨_, rfl, rfl, congrArg nI ?_⟩
        simp
    · rintro ⟨x, y⟩ ⟨h1, h2⟩
      dsimp only at h1 h2
      subst h1
      subst h2
      refine ⟨_, ?_, rfl⟩
      show bX0_costAhead_4 cA uA (nI n) (nI i) _ (nI n) = _
      unfold bX0_costAhead_4
      simp (disch := omega) only [s_in, s_cl, s_leL, s_ltL, s_eqL, s_leR, s_ltR, s_eqR, s_le, s_lt, s_eq, s_addL, s_addL', s_mulL, s_mulL', s_mul, nI_add, s_subL, s_sub, s_m1, s_m1', s_lm1, s_ltm1, s_m1lt, s_m1le, s_m1p, s_10, s_let, s_el, s_er, s_b2, s_b3, s_b4, s_b5, s_b6, s_b7, s_b8, s_b9, s_b10, s_b11, s_b12, s_bind, eq_self, if_pos, if_neg, ite_true, ite_false, if_true, if_false, Bool.false_eq_true, reduceIte]
  obtain ⟨e, h8, rfl⟩ := H9
  rw [h8]
  rfl
theorem va_cpy6 {f g : Nat → Int32} {j : Nat} (h : j < 6) : va_cpy f g (Int32.toNatClampNeg 0) (Int32.toNatClampNeg 0) (Int32.toNatClampNeg 6) j = f j := by
  rw [show Int32.toNatClampNeg 0 = 0 by decide, show Int32.toNatClampNeg 6 = 6 by decide]
  unfold va_cpy
  rw [if_pos (by omega)]
  congr 1
  omega
theorem p_choose {n : Nat} (hn : n ≤ 6) {cst : Nat → Nat → Nat} {cA : Nat → Int32} (hc : ∀ p q : Nat, p < n → q < n → cA (p * 6 + q) = nI (cst p q)) (hcb : ∀ p q : Nat, cst p q ≤ 576) :
    ∀ (d depth : Nat) (pre : List Nat) (spent : Nat) (uA chA bA : Nat → Int32) (b : Nat) (B : List Nat), n - depth < d → depth ≤ n → pre.length = depth → pre.Nodup → (∀ p : Nat, p ∈ pre → p < n) → (∀ p : Nat, p < n → uA p = if p ∈ pre then 1 else 0) → (∀ j p : Nat, pre[j]? = some p → chA j = nI p) → spent ≤ depth * 3456 → b ≤ 2147483647 → (∀ j p : Nat, B[j]? = some p → bA j = nI p) →
    ∃ uA' chA' bA', fX0_choose d cA uA chA bA (nI b) (nI n) (nI depth) (nI spent) = some (uA', chA', bA', nI (g_fb (b, B) (g_lv cst spent pre (n - depth) (g_rem n pre))).1) ∧ (∀ p : Nat, p < n → uA' p = uA p) ∧ (∀ j : Nat, j < depth → chA' j = chA j) ∧ ∀ j p : Nat, (g_fb (b, B) (g_lv cst spent pre (n - depth) (g_rem n pre))).2[j]? = some p → bA' j = nI p := by
  intro d
  induction d with
  | zero => intro depth pre spent uA chA bA b B h; omega
  | succ d ih =>
    intro depth pre spent uA chA bA b B hd hdn hpl hpn hpb hu hch hsp hb hB
    show ∃ uA' chA' bA', gX0_choose (fX0_choose d) cA uA chA bA (nI b) (nI n) (nI depth) (nI spent) = _ ∧ _
    unfold gX0_choose
    by_cases hlt : spent < b
    · rw [if_pos (by rw [s_lt (by omega) (by omega)]; exact hlt)]
      by_cases hdn2 : n ≤ depth
      · rw [if_pos (by rw [s_le (by omega) (by omega)]; exact hdn2)]
        have e0 : n - depth = 0 := by omega
        rw [e0]
        have e1 : g_fb (b, B) (g_lv cst spent pre 0 (g_rem n pre)) = (spent, pre) := by
          show (if spent + 0 < b then (spent + 0, pre ++ []) else (b, B)) = _
          rw [if_pos (by omega), List.append_nil]
          rfl
        rw [e1]
        refine ⟨_, _, _, rfl, fun _ _ => rfl, fun _ _ => rfl, ?_⟩
        intro j p hj
        have := g_lt_len hj
        dsimp only at hj this
        rw [va_cpy6 (by omega)]
        exact hch j p hj
      · rw [if_neg (by rw [s_le (by omega) (by omega)]; exact hdn2), if_pos (by rw [n_lit 6, s_lt (by omega) (by omega)]; omega)]
        obtain ⟨m, hm⟩ : ∃ m, n - depth = m + 1 := ⟨n - depth - 1, by omega⟩
        rw [hm]
        have H9 : ∃ e : (Nat → Int32) × (Nat → Int32) × (Nat → Int32) × Int32, q_lo (fun (st : Int32 × (Nat → Int32) × (Nat → Int32) × (Nat → Int32) × Int32) => bX0_choose_46 (fX0_choose d) cA (nI n) (nI depth) (nI spent) st.1 st.2.1 st.2.2.1 st.2.2.2.1 st.2.2.2.2) (0, uA, chA, bA, nI b) = some e ∧ (∀ p : Nat, p < n → e.1 p = uA p) ∧ (∀ j : Nat, j < depth → e.2.1 j = chA j) ∧ e.2.2.2 = nI (g_fb (b, B) (g_lv cst spent pre (m + 1) (g_rem n pre))).1 ∧ ∀ j p : Nat, (g_fb (b, B) (g_lv cst spent pre (m + 1) (g_rem n pre))).2[j]? = some p → e.2.2.1 j = nI p := by
          rw [g_lv_succ]
          refine q_inv (fun i (st : Int32 × (Nat → Int32) × (Nat → Int32) × (Nat → Int32) × Int32) => st.1 = nI i ∧ (∀ p : Nat, p < n → st.2.1 p = uA p) ∧ (∀ j : Nat, j < depth → st.2.2.1 j = chA j) ∧ st.2.2.2.2 = nI (g_fb (b, B) ((g_rem i pre).flatMap (g_lf cst spent pre m (g_rem n pre)))).1 ∧ ∀ j p : Nat, (g_fb (b, B) ((g_rem i pre).flatMap (g_lf cst spent pre m (g_rem n pre)))).2[j]? = some p → st.2.2.2.1 j = nI p) n ?_ ?_ _ ⟨rfl, fun _ _ => rfl, fun _ _ => rfl, rfl, hB⟩
          · rintro i ⟨x, u1, c1, b1, v1⟩ hi ⟨h1, h2, h3, h4, h5⟩
            dsimp only at h1 h2 h3 h4 h5
            subst h1
            subst h4
            have e1 : g_rem (i + 1) pre = if i ∈ pre then g_rem i pre else g_rem i pre ++ [i] := by
              unfold g_rem
              rw [List.range_succ, List.filter_append]
              by_cases h : i ∈ pre
              · simp [h]
              · simp [h]
            rw [e1]
            generalize hst : g_fb (b, B) ((g_rem i pre).flatMap (g_lf cst spent pre m (g_rem n pre))) = st at h5
            have hst1 : st.1 ≤ b := by rw [← hst]; exact g_fb_le _ _
            show ∃ t9, bX0_choose_46 (fX0_choose d) cA (nI n) (nI depth) (nI spent) (nI i) u1 c1 b1 (nI st.1) = some (.inl t9) ∧ _
            unfold bX0_choose_46 jX0_choose_77 fX0_chooseBehind
            by_cases h : i ∈ pre
            · have hu1 : u1 i = 1 := by rw [h2 i hi, hu i hi, if_pos h]
              rw [if_pos h, hst]
              simp (disch := omega) only [s_in, s_cl, s_leL, s_ltL, s_eqL, s_leR, s_ltR, s_eqR, s_le, s_lt, s_eq, s_addL, s_addL', s_mulL, s_mulL', s_mul, nI_add, s_subL, s_sub, s_m1, s_m1', s_lm1, s_ltm1, s_m1lt, s_m1le, s_m1p, s_10, s_let, s_el, s_er, s_b2, s_b3, s_b4, s_b5, s_b6, s_b7, s_b8, s_b9, s_b10, s_b11, s_b12, s_bind, eq_self, if_pos, if_neg, ite_true, ite_false, if_true, if_false, Bool.false_eq_true, reduceIte, hu1]
              exact ⟨_, rfl, rfl, h2, h3, rfl, h5⟩
            · have hu1 : u1 i = 0 := by rw [h2 i hi, hu i hi, if_neg h]
              have hu2 : ∀ p : Nat, p < n → upd u1 i 1 p = if p ∈ pre ++ [i] then 1 else 0 := by
                intro p hp
                by_cases hpi : p = i
                · subst hpi
                  rw [pk_us, if_pos (by simp)]
                · rw [pk_un hpi, h2 p hp, hu p hp]
                  by_cases hpp : p ∈ pre
                  · rw [if_pos hpp, if_pos (by simp [hpp])]
                  · rw [if_neg hpp, if_neg (by simp [hpp, hpi])]
              have hca := p_costAhead hn hc hi hu2
              have hsum : ((g_rem n (pre ++ [i])).map (cst i)).sum ≤ 3456 := by
                have k1 := g_sum_le (f := cst i) (B := 576) (g_rem n (pre ++ [i])) (fun x _ => hcb i x)
                have k2 : (g_rem n (pre ++ [i])).length ≤ 6 := by
                  have := List.length_filter_le (fun p => !decide (p ∈ pre ++ [i])) (List.range n)
                  rw [List.length_range] at this
                  unfold g_rem
                  omega
                have k3 := Nat.mul_le_mul_right 576 k2
                omega
              have hnd2 : (pre ++ [i]).Nodup := by
                rw [List.nodup_append]
                refine ⟨hpn, by simp, ?_⟩
                intro a ha b hb
                simp at hb
                subst hb
                exact fun e => h (e ▸ ha)
              obtain ⟨u2, c2, b2, k1, k2, k3, k4⟩ := ih (depth + 1) (pre ++ [i]) (spent + ((g_rem n (pre ++ [i])).map (cst i)).sum) (upd u1 i 1) (upd c1 depth (nI i)) b1 st.1 st.2 (by omega) (by omega) (by rw [List.length_append, List.length_singleton]; omega) hnd2 (by
                intro p hp
                rcases List.mem_append.mp hp with hp | hp
                · exact hpb p hp
                · simp at hp; omega) hu2 (by
                intro j p hj
                rw [List.getElem?_append] at hj
                split at hj
                · next hjl =>
                  rw [pk_un (by omega), h3 j (by omega)]
                  exact hch j p hj
                · have hj1 := g_lt_len hj
                  simp at hj1
                  have hj2 : j = depth := by omega
                  subst hj2
                  rw [hpl, Nat.sub_self] at hj
                  simp at hj
                  subst hj
                  rw [pk_us]) (by rw [Nat.succ_mul]; omega) (by omega) h5
              have hfold : g_fb (b, B) ((g_rem i pre ++ [i]).flatMap (g_lf cst spent pre m (g_rem n pre))) = g_fb (st.1, st.2) (g_lv cst (spent + ((g_rem n (pre ++ [i])).map (cst i)).sum) (pre ++ [i]) (n - (depth + 1)) (g_rem n (pre ++ [i]))) := by
                rw [List.flatMap_append, g_fb_app, hst, List.flatMap_cons, List.flatMap_nil, List.append_nil, g_lf_lv hpn hpb hi h (by omega), show n - (depth + 1) = m by omega]
              rw [if_neg h, hfold]
              simp (disch := omega) only [s_in, s_cl, s_leL, s_ltL, s_eqL, s_leR, s_ltR, s_eqR, s_le, s_lt, s_eq, s_addL, s_addL', s_mulL, s_mulL', s_mul, nI_add, s_subL, s_sub, s_m1, s_m1', s_lm1, s_ltm1, s_m1lt, s_m1le, s_m1p, s_10, s_let, s_el, s_er, s_b2, s_b3, s_b4, s_b5, s_b6, s_b7, s_b8, s_b9, s_b10, s_b11, s_b12, s_bind, eq_self, if_pos, if_neg, ite_true, ite_false, if_true, if_false, Bool.false_eq_true, reduceIte, hu1, hca, k1]
              refine ⟨_, rfl, rfl, ?_, ?_, rfl, k4⟩
              · intro p hp
                dsimp only
                by_cases hpi : p = i
                · subst hpi
                  rw [pk_us, hu p hp, if_neg h]
                · rw [pk_un hpi, k2 p hp, pk_un hpi]
                  exact h2 p hp
              · intro j hj
                dsimp only
                rw [k3 j (by omega), pk_un (by omega)]
                exact h3 j hj
          · rintro ⟨x, u1, c1, b1, v1⟩ ⟨h1, h2, h3, h4, h5⟩
            dsimp only at h1 h2 h3 h4 h5
            subst h1
            refine ⟨(u1, c1, b1, v1), ?_, h2, h3, h4, h5⟩
            show bX0_choose_46 (fX0_choose d) cA (nI n) (nI depth) (nI spent) (nI n) u1 c1 b1 v1 = _
            unfold bX0_choose_46
            rw [if_pos (Int32.le_refl _)]
        obtain ⟨⟨z1, z2, z3, z4⟩, h8, h9, h10, h11, h12⟩ := H9
        dsimp only at h9 h10 h11 h12
        subst h11
        rw [h8, s_b4]
        exact ⟨_, _, _, rfl, h9, h10, h12⟩
    · rw [if_neg (by rw [s_lt (by omega) (by omega)]; exact hlt)]
      have e1 : g_fb (b, B) (g_lv cst spent pre (n - depth) (g_rem n pre)) = (b, B) := by
        apply g_fb_skip
        intro x hx
        obtain ⟨r, -, rfl⟩ := List.mem_map.mp hx
        show b ≤ spent + _
        omega
      rw [e1]
      exact ⟨_, _, _, rfl, fun _ _ => rfl, fun _ _ => rfl, hB⟩
