/-! PURE: all orders of a list, in their order; the first least one. -/
def g_pm : Nat → List Nat → List (List Nat)
  | 0, _ => [[]]
  | d + 1, L => L.flatMap (fun x => (g_pm d (L.filter (fun y => decide (y ≠ x)))).map (fun r => x :: r))
def g_fac : Nat → Nat
  | 0 => 1
  | n + 1 => (n + 1) * g_fac n
theorem g_fac_pos : ∀ n : Nat, 0 < g_fac n
  | 0 => Nat.one_pos
  | n + 1 => Nat.mul_pos (Nat.succ_pos n) (g_fac_pos n)
theorem g_flt_len {L : List Nat} {x : Nat} (hn : L.Nodup) (hx : x ∈ L) : (L.filter (fun y => decide (y ≠ x))).length + 1 = L.length := by
  have h1 : L.erase x = L.filter (fun y => decide (y ≠ x)) := by
    rw [hn.erase_eq_filter]
    apply List.filter_congr
    intro y _
    by_cases e : y = x
    · simp [e]
    · simp [e]
  rw [← h1, List.length_erase_of_mem hx]
  have := List.length_pos_of_mem hx
  omega
theorem g_pm_len : ∀ (d : Nat) (L : List Nat), L.Nodup → L.length = d → (g_pm d L).length = g_fac d
  | 0, L, _, _ => rfl
  | d + 1, L, hn, hl => by
    have key : ∀ K : List Nat, (∀ x : Nat, x ∈ K → x ∈ L) → (K.flatMap (fun x => (g_pm d (L.filter (fun y => decide (y ≠ x)))).map (fun r => x :: r))).length = K.length * g_fac d := by
      intro K
      induction K with
      | nil => intro _; simp
      | cons x K ih =>
        intro h
        rw [List.flatMap_cons, List.length_append, ih (fun y hy => h y (by simp [hy])), List.length_map, g_pm_len d _ (hn.filter _) (by have := g_flt_len hn (h x (by simp)); omega), List.length_cons, Nat.succ_mul, Nat.add_comm]
    rw [g_pm, key L (fun _ h => h), hl, g_fac]
theorem g_pm_perm : ∀ (d : Nat) (L : List Nat), L.Nodup → L.length = d → ∀ π : List Nat, π ∈ g_pm d L → π.Perm L
  | 0, L, _, hl, π, h => by
    rw [g_pm, List.mem_singleton] at h
    rw [h, List.eq_nil_of_length_eq_zero hl]
  | d + 1, L, hn, hl, π, h => by
    rw [g_pm, List.mem_flatMap] at h
    obtain ⟨x, hx, h⟩ := h
    rw [List.mem_map] at h
    obtain ⟨r, hr, rfl⟩ := h
    have h1 := g_pm_perm d _ (hn.filter _) (by have := g_flt_len hn hx; omega) r hr
    have h2 : L.erase x = L.filter (fun y => decide (y ≠ x)) := by
      rw [hn.erase_eq_filter]
      apply List.filter_congr
      intro y _
      by_cases e : y = x
      · simp [e]
      · simp [e]
    rw [← h2] at h1
    exact (h1.cons x).trans (List.perm_cons_erase hx).symm
/-- number q of lists behind each other, all of one length -/
theorem g_flat_nth {f : Nat → List (List Nat)} {G : Nat} (hG : 0 < G) : ∀ (L : List Nat) (q : Nat), (∀ x : Nat, x ∈ L → (f x).length = G) → (L.flatMap f)[q]? = (L[q / G]?).bind (fun x => (f x)[q % G]?) := by
  intro L
  induction L with
  | nil => intro q _; simp
  | cons x L ih =>
    intro q h
    rw [List.flatMap_cons, List.getElem?_append, h x (by simp)]
    by_cases hq : q < G
    · rw [if_pos hq, Nat.div_eq_of_lt hq, Nat.mod_eq_of_lt hq]
      rfl
    · rw [if_neg hq, ih (q - G) (fun y hy => h y (by simp [hy]))]
      have e1 : q / G = (q - G) / G + 1 := by
        rw [← Nat.add_div_right _ hG]
        congr 1
        omega
      have e2 : q % G = (q - G) % G := Nat.mod_eq_sub_mod (by omega)
      rw [e1, e2, List.getElem?_cons_succ]
theorem g_pm_nth {d : Nat} {L : List Nat} (hn : L.Nodup) (hl : L.length = d + 1) (q : Nat) : (g_pm (d + 1) L)[q]? = (L[q / g_fac d]?).bind (fun x => ((g_pm d (L.filter (fun y => decide (y ≠ x))))[q % g_fac d]?).map (fun r => x :: r)) := by
  rw [g_pm, g_flat_nth (g_fac_pos d)]
  · congr 1
    funext x
    rw [List.getElem?_map]
  · intro x hx
    rw [List.length_map, g_pm_len d _ (hn.filter _) (by have := g_flt_len hn hx; omega)]
/-- the first least one -/
def g_fb (st : Nat × List Nat) (L : List (Nat × List Nat)) : Nat × List Nat := L.foldl (fun st x => if x.1 < st.1 then x else st) st
theorem g_fb_app {st : Nat × List Nat} {L K : List (Nat × List Nat)} : g_fb st (L ++ K) = g_fb (g_fb st L) K := List.foldl_append
theorem g_fb_one {st x : Nat × List Nat} : g_fb st [x] = if x.1 < st.1 then x else st := rfl
theorem g_fb_skip : ∀ (L : List (Nat × List Nat)) (st : Nat × List Nat), (∀ x : Nat × List Nat, x ∈ L → st.1 ≤ x.1) → g_fb st L = st
  | [], _, _ => rfl
  | x :: L, st, h => by
    have h1 := h x (by simp)
    show g_fb (if x.1 < st.1 then x else st) L = st
    rw [if_neg (by omega)]
    exact g_fb_skip L st (fun y hy => h y (by simp [hy]))
theorem g_fb_le : ∀ (L : List (Nat × List Nat)) (st : Nat × List Nat), (g_fb st L).1 ≤ st.1
  | [], _ => Nat.le_refl _
  | x :: L, st => by
    show (g_fb (if x.1 < st.1 then x else st) L).1 ≤ st.1
    by_cases h : x.1 < st.1
    · rw [if_pos h]
      have := g_fb_le L x
      omega
    · rw [if_neg h]
      exact g_fb_le L st
theorem g_fb_mem : ∀ (L : List (Nat × List Nat)) (st : Nat × List Nat), g_fb st L = st ∨ g_fb st L ∈ L
  | [], _ => .inl rfl
  | x :: L, st => by
    show g_fb (if x.1 < st.1 then x else st) L = st ∨ g_fb (if x.1 < st.1 then x else st) L ∈ x :: L
    rcases g_fb_mem L (if x.1 < st.1 then x else st) with h | h
    · rw [h]
      split
      · right; simp
      · left; rfl
    · right
      exact List.mem_cons_of_mem _ h
/-- what an order costs, by pairs -/
def g_co (c : Nat → Nat → Nat) : List Nat → Nat
  | [] => 0
  | p :: r => (r.map (c p)).sum + g_co c r
theorem g_sum_add {f g : Nat → Nat} : ∀ L : List Nat, (L.map (fun q => f q + g q)).sum = (L.map f).sum + (L.map g).sum
  | [] => rfl
  | x :: L => by
    have := g_sum_add (f := f) (g := g) L
    rw [List.map_cons, List.map_cons, List.map_cons, List.sum_cons, List.sum_cons, List.sum_cons]
    omega
theorem g_sum_0 {f : Nat → Nat} : ∀ L : List Nat, (∀ x : Nat, x ∈ L → f x = 0) → (L.map f).sum = 0
  | [], _ => rfl
  | x :: L, h => by
    rw [List.map_cons, List.sum_cons, h x (by simp), g_sum_0 L (fun y hy => h y (by simp [hy]))]
theorem g_sum_le {f : Nat → Nat} {B : Nat} : ∀ L : List Nat, (∀ x : Nat, x ∈ L → f x ≤ B) → (L.map f).sum ≤ L.length * B
  | [], _ => Nat.zero_le _
  | x :: L, h => by
    have h1 := g_sum_le L (fun y hy => h y (by simp [hy]))
    have h2 := h x (by simp)
    rw [List.map_cons, List.sum_cons, List.length_cons, Nat.succ_mul]
    omega
theorem g_sum_perm {f : Nat → Nat} {L K : List Nat} (h : L.Perm K) : (L.map f).sum = (K.map f).sum := (h.map f).sum_nat
theorem g_co_add {f g : Nat → Nat → Nat} : ∀ L : List Nat, g_co (fun p q => f p q + g p q) L = g_co f L + g_co g L
  | [] => rfl
  | x :: L => by
    have h1 := g_co_add (f := f) (g := g) L
    have h2 := g_sum_add (f := f x) (g := g x) L
    rw [g_co, g_co, g_co, h1, h2]
    omega
theorem g_co_0 {f : Nat → Nat → Nat} : ∀ L : List Nat, (∀ p q : Nat, p ∈ L → q ∈ L → f p q = 0) → g_co f L = 0
  | [], _ => rfl
  | x :: L, h => by
    rw [g_co, g_sum_0 L (fun y hy => h x y (by simp) (by simp [hy])), g_co_0 L (fun p q hp hq => h p q (by simp [hp]) (by simp [hq]))]
theorem g_sum_one {b : Nat} : ∀ L : List Nat, L.Nodup → (L.map (fun q => if b = q then 1 else 0)).sum = if b ∈ L then 1 else 0
  | [], _ => by simp
  | x :: L, h => by
    rw [List.nodup_cons] at h
    rw [List.map_cons, List.sum_cons, g_sum_one L h.2]
    by_cases e : b = x
    · subst e
      rw [if_pos rfl, if_neg h.1, if_pos (by simp)]
    · rw [if_neg e, Nat.zero_add]
      by_cases e2 : b ∈ L
      · rw [if_pos e2, if_pos (by simp [e2])]
      · rw [if_neg e2, if_neg (by simp [e, e2])]
theorem g_idx_ne {x a : Nat} {L : List Nat} (h : x ≠ a) : (x :: L).idxOf a = L.idxOf a + 1 := by
  have e : (x == a) = false := by simpa using h
  rw [List.idxOf_cons, e]
  rfl
theorem g_co_one {a b : Nat} : ∀ L : List Nat, L.Nodup → g_co (fun p q => if a = p ∧ b = q then 1 else 0) L = if a ∈ L ∧ b ∈ L ∧ L.idxOf a < L.idxOf b then 1 else 0
  | [], _ => by simp [g_co]
  | x :: L, h => by
    rw [List.nodup_cons] at h
    rw [g_co, g_co_one L h.2]
    by_cases e : a = x
    · subst e
      have e1 : (L.map (fun q => if a = a ∧ b = q then 1 else 0)).sum = if b ∈ L then 1 else 0 := by
        rw [← g_sum_one L h.2]
        congr 1
        apply List.map_congr_left
        intro q _
        simp
      have e4 : (if a ∈ L ∧ b ∈ L ∧ L.idxOf a < L.idxOf b then 1 else 0) = 0 := if_neg (fun hh => h.1 hh.1)
      rw [e1, e4, Nat.add_zero, List.idxOf_cons_self]
      by_cases e2 : b ∈ L
      · have e3 : b ≠ a := fun e => h.1 (e ▸ e2)
        rw [if_pos e2, g_idx_ne (Ne.symm e3), if_pos ⟨by simp, by simp [e2], by omega⟩]
      · rw [if_neg e2, if_neg]
        rintro ⟨-, h2, h3⟩
        rcases List.mem_cons.mp h2 with h4 | h4
        · subst h4
          rw [List.idxOf_cons_self] at h3
          omega
        · exact e2 h4
    · have e1 : (L.map (fun q => if a = x ∧ b = q then 1 else 0)).sum = 0 := g_sum_0 L (fun q _ => if_neg (fun hh => e hh.1))
      rw [e1, Nat.zero_add, g_idx_ne (fun h => e h.symm)]
      by_cases e2 : b = x
      · subst e2
        rw [if_neg (fun hh => h.1 hh.2.1), if_neg]
        rintro ⟨-, -, h3⟩
        rw [List.idxOf_cons_self] at h3
        omega
      · rw [g_idx_ne (fun h => e2 h.symm)]
        by_cases e3 : a ∈ L ∧ b ∈ L ∧ L.idxOf a < L.idxOf b
        · rw [if_pos e3, if_pos ⟨by simp [e3.1], by simp [e3.2.1], by omega⟩]
        · rw [if_neg e3, if_neg]
          rintro ⟨h1, h2, h3⟩
          refine e3 ⟨?_, ?_, by omega⟩
          · simpa [e] using h1
          · simpa [e2] using h2
/-- what it costs if one place stands ahead of another -/
def g_xc (U B : Nat → Nat) (p q a b : Nat) : Bool := (decide (B a = p ∧ B b = q) && decide (U b < U a)) || (decide (B b = p ∧ B a = q) && decide (U a < U b))
def g_cs (U B : Nat → Nat) (K : List Nat) (p q : Nat) : Nat := g_xs (g_xc U B p q) K
theorem g_co_pair {U B : Nat → Nat} {π : List Nat} (hn : π.Nodup) {a b : Nat} (ha : B a ∈ π) (hb : B b ∈ π) : g_co (fun p q => if g_xc U B p q a b = true then 1 else 0) π = if g_xx U (fun x => π.idxOf (B x)) a b = true then 1 else 0 := by
  have hx : g_xx U (fun x => π.idxOf (B x)) a b = true ↔ (U a < U b ∧ π.idxOf (B b) < π.idxOf (B a)) ∨ (U b < U a ∧ π.idxOf (B a) < π.idxOf (B b)) := g_xx_iff
  rcases Nat.lt_trichotomy (U a) (U b) with h | h | h
  · have e : (fun p q => if g_xc U B p q a b = true then 1 else 0) = (fun p q => if B b = p ∧ B a = q then 1 else 0) := by
      funext p q
      unfold g_xc
      have h1 : ¬ U b < U a := by omega
      simp [h, h1]
    rw [e, g_co_one π hn]
    by_cases hc : π.idxOf (B b) < π.idxOf (B a)
    · rw [if_pos ⟨hb, ha, hc⟩, if_pos (hx.mpr (.inl ⟨h, hc⟩))]
    · rw [if_neg (fun hh => hc hh.2.2), if_neg]
      rw [hx]
      omega
  · have e : (fun p q => if g_xc U B p q a b = true then 1 else 0) = (fun _ _ => 0) := by
      funext p q
      unfold g_xc
      have h1 : ¬ U b < U a := by omega
      have h2 : ¬ U a < U b := by omega
      simp [h1, h2]
    rw [e, g_co_0 π (fun _ _ _ _ => rfl), if_neg]
    rw [hx]
    omega
  · have e : (fun p q => if g_xc U B p q a b = true then 1 else 0) = (fun p q => if B a = p ∧ B b = q then 1 else 0) := by
      funext p q
      unfold g_xc
      have h1 : ¬ U a < U b := by omega
      simp [h, h1]
    rw [e, g_co_one π hn]
    by_cases hc : π.idxOf (B a) < π.idxOf (B b)
    · rw [if_pos ⟨ha, hb, hc⟩, if_pos (hx.mpr (.inr ⟨h, hc⟩))]
    · rw [if_neg (fun hh => hc hh.2.2), if_neg]
      rw [hx]
      omega
theorem g_co_cnt {U B : Nat → Nat} {π : List Nat} (hn : π.Nodup) {a : Nat} (ha : B a ∈ π) : ∀ L : List Nat, (∀ b : Nat, b ∈ L → B b ∈ π) → g_co (fun p q => L.countP (g_xc U B p q a)) π = L.countP (g_xx U (fun x => π.idxOf (B x)) a)
  | [], _ => g_co_0 π (fun _ _ _ _ => rfl)
  | b :: L, h => by
    have h1 := g_co_cnt (U := U) hn ha L (fun b hb => h b (by simp [hb]))
    have h2 := g_co_pair (U := U) hn ha (h b (by simp))
    have e : (fun p q => (b :: L).countP (g_xc U B p q a)) = (fun p q => L.countP (g_xc U B p q a) + if g_xc U B p q a b = true then 1 else 0) := by
      funext p q
      rw [List.countP_cons]
    rw [e, g_co_add, h1, h2, List.countP_cons]
theorem g_co_xr {U B : Nat → Nat} {π : List Nat} (hn : π.Nodup) : ∀ L : List Nat, (∀ b : Nat, b ∈ L → B b ∈ π) → g_co (fun p q => g_xr (g_xc U B p q) L) π = g_xr (g_xx U (fun x => π.idxOf (B x))) L
  | [], _ => g_co_0 π (fun _ _ _ _ => rfl)
  | a :: L, h => by
    have h1 := g_co_xr (U := U) hn L (fun b hb => h b (by simp [hb]))
    have h2 := g_co_cnt (U := U) hn (h a (by simp)) L (fun b hb => h b (by simp [hb]))
    have e : (fun p q => g_xr (g_xc U B p q) (a :: L)) = (fun p q => g_xr (g_xc U B p q) L + L.countP (g_xc U B p q a)) := by
      funext p q
      rw [g_xr]
    rw [e, g_co_add, h1, h2, g_xr]
theorem g_co_xs {U B : Nat → Nat} {π : List Nat} (hn : π.Nodup) {K : List Nat} (h : ∀ b : Nat, b ∈ K → B b ∈ π) : g_co (g_cs U B K) π = g_xs (g_xx U (fun x => π.idxOf (B x))) K := g_co_xr hn K.reverse (fun b hb => h b (List.mem_reverse.mp hb))
theorem g_xr_congr {X Y : Nat → Nat → Bool} : ∀ L : List Nat, (∀ a b : Nat, a ∈ L → b ∈ L → X a b = Y a b) → g_xr X L = g_xr Y L
  | [], _ => rfl
  | a :: L, h => by
    rw [g_xr, g_xr, g_xr_congr L (fun a b ha hb => h a b (by simp [ha]) (by simp [hb]))]
    congr 1
    apply List.countP_congr
    intro b hb
    rw [h a b (by simp) (by simp [hb])]
theorem g_xs_congr {X Y : Nat → Nat → Bool} {L : List Nat} (h : ∀ a b : Nat, a ∈ L → b ∈ L → X a b = Y a b) : g_xs X L = g_xs Y L := g_xr_congr L.reverse (fun a b ha hb => h a b (List.mem_reverse.mp ha) (List.mem_reverse.mp hb))
/-- a row in another order -/
def g_ar (R π : List Nat) : List Nat := π.map (fun p => R.getD p 0)
theorem g_ar_get {R π : List Nat} (hp : ∀ p : Nat, p ∈ π → p < R.length) {j c : Nat} (h : (g_ar R π)[j]? = some c) : ∃ p, π[j]? = some p ∧ R[p]? = some c := by
  unfold g_ar at h
  rw [List.getElem?_map, Option.map_eq_some_iff] at h
  obtain ⟨p, h1, h2⟩ := h
  refine ⟨p, h1, ?_⟩
  have := hp p (g_mem_get h1)
  rw [List.getD_eq_getElem?_getD, List.getElem?_eq_getElem this] at h2
  rw [List.getElem?_eq_getElem this]
  exact congrArg some h2
theorem g_ar_at {R π : List Nat} {j p c : Nat} (h1 : π[j]? = some p) (h2 : R[p]? = some c) : (g_ar R π)[j]? = some c := by
  unfold g_ar
  rw [List.getElem?_map, h1]
  show some (R.getD p 0) = some c
  rw [List.getD_eq_getElem?_getD, h2]
  rfl
theorem g_ar_len {R π : List Nat} : (g_ar R π).length = π.length := List.length_map _
theorem g_ar_perm {R π : List Nat} (hR : R.Nodup) (hπ : π.Perm (List.range R.length)) : (g_ar R π).Nodup ∧ ∀ c : Nat, c ∈ g_ar R π ↔ c ∈ R := by
  have hp : ∀ p : Nat, p ∈ π → p < R.length := fun p h => List.mem_range.mp (hπ.mem_iff.mp h)
  have hnd : π.Nodup := hπ.symm.nodup List.nodup_range
  constructor
  · rw [List.Nodup, List.pairwise_iff_getElem]
    intro i j hi hj hij e
    obtain ⟨p, h1, h2⟩ := g_ar_get hp (List.getElem?_eq_getElem hi)
    obtain ⟨q, h3, h4⟩ := g_ar_get hp (List.getElem?_eq_getElem hj)
    rw [e] at h2
    have h5 := g_nd_inj hR h2 h4
    subst h5
    have := g_nd_inj hnd h1 h3
    omega
  · intro c
    constructor
    · intro h
      obtain ⟨j, hj⟩ := List.mem_iff_getElem?.mp h
      obtain ⟨p, h1, h2⟩ := g_ar_get hp hj
      exact g_mem_get h2
    · intro h
      obtain ⟨p, hp2⟩ := List.mem_iff_getElem?.mp h
      obtain ⟨j, hj⟩ := List.mem_iff_getElem?.mp (hπ.mem_iff.mpr (List.mem_range.mpr (g_lt_len hp2)))
      exact g_mem_get (g_ar_at hj hp2)
section EX
variable {ex bx : Nat → Bool} {up lo lay : Nat → Nat} {N : Nat} {row : Nat → List Nat}
def g_exc (ex : Nat → Bool) (up lo lay : Nat → Nat) (row : Nat → List Nat) (l : Nat) (π : List Nat) : Nat := g_cr ex up lo lay (g_set row l (g_ar (row l) π)) (l - 1)
def g_exb (ex : Nat → Bool) (up lo lay : Nat → Nat) (row : Nat → List Nat) (l : Nat) : List Nat := (g_fb (1073741824, []) ((g_pm (row l).length (List.range (row l).length)).map (fun π => (g_exc ex up lo lay row l π, π)))).2
/-- the first order of a small layer that has the least crossings -/
def g_exa (ex : Nat → Bool) (up lo lay : Nat → Nat) (row : Nat → List Nat) (l : Nat) : Nat → List Nat := if (row l).length ≤ 6 then g_set row l (g_ar (row l) (g_exb ex up lo lay row l)) else row
theorem g_exc_b (l : Nat) (π : List Nat) : g_exc ex up lo lay row l π ≤ 576 := g_cr_b _
theorem g_pm_ne (n : Nat) : g_pm n (List.range n) ≠ [] := by
  intro h
  have h1 := g_pm_len n (List.range n) List.nodup_range List.length_range
  rw [h] at h1
  have := g_fac_pos n
  simp at h1
  omega
theorem g_exb_mem (l : Nat) : g_exb ex up lo lay row l ∈ g_pm (row l).length (List.range (row l).length) := by
  unfold g_exb
  have h0 := g_pm_ne (row l).length
  generalize g_pm (row l).length (List.range (row l).length) = Ps at h0
  cases Ps with
  | nil => exact absurd rfl h0
  | cons π Ps =>
    have hb := g_exc_b (ex := ex) (up := up) (lo := lo) (lay := lay) (row := row) l π
    have e : g_fb (1073741824, []) ((π :: Ps).map (fun π => (g_exc ex up lo lay row l π, π))) = g_fb (g_exc ex up lo lay row l π, π) (Ps.map (fun π => (g_exc ex up lo lay row l π, π))) := by
      rw [List.map_cons]
      show g_fb (if g_exc ex up lo lay row l π < 1073741824 then _ else _) _ = _
      rw [if_pos (by omega)]
    rw [e]
    rcases g_fb_mem (Ps.map (fun π => (g_exc ex up lo lay row l π, π))) (g_exc ex up lo lay row l π, π) with h | h
    · rw [h]
      simp
    · obtain ⟨σ, h1, h2⟩ := List.mem_map.mp h
      rw [← h2]
      exact List.mem_cons_of_mem _ h1
theorem g_exb_perm (l : Nat) : (g_exb ex up lo lay row l).Perm (List.range (row l).length) := g_pm_perm _ _ List.nodup_range List.length_range _ (g_exb_mem l)
theorem g_V_ar (hV : g_V ex up lo bx lay N row) {l : Nat} (hl : l < 24) {π : List Nat} (hπ : π.Perm (List.range (row l).length)) : g_V ex up lo bx lay N (g_set row l (g_ar (row l) π)) := by
  have := g_ar_perm (hV l hl).1 hπ
  exact g_V_set hV this.1 this.2
theorem g_V_exa (hV : g_V ex up lo bx lay N row) {l : Nat} (hl : l < 24) : g_V ex up lo bx lay N (g_exa ex up lo lay row l) := by
  unfold g_exa
  split
  · exact g_V_ar hV hl (g_exb_perm l)
  · exact hV
/-- crossings by costs -/
theorem g_exc_co (hG : g_G ex up lo bx lay N) (hV : g_V ex up lo bx lay N row) {l : Nat} (hl : l < 24) (hl1 : 1 ≤ l) {π : List Nat} (hπ : π.Perm (List.range (row l).length)) : g_exc ex up lo lay row l π = g_co (g_cs (g_pu up lay row (l - 1)) (g_pd lo lay row (l - 1)) (g_ps ex up lo lay 24 (l - 1))) π := by
  have hnd : π.Nodup := hπ.symm.nodup List.nodup_range
  have e1 : l - 1 + 1 = l := by omega
  have hm : ∀ a : Nat, a ∈ g_ps ex up lo lay 24 (l - 1) → g_lc lo lay a (l - 1) ∈ row l := by
    intro a ha
    obtain ⟨h1, h2⟩ := g_ps_mem.mp ha
    have := g_lc_mem hG hV h1 h2
    rw [e1] at this
    exact this
  have hpd : ∀ a : Nat, a ∈ g_ps ex up lo lay 24 (l - 1) → (row l)[g_pd lo lay row (l - 1) a]? = some (g_lc lo lay a (l - 1)) := by
    intro a ha
    unfold g_pd
    rw [e1]
    exact g_at_get (hm a ha)
  have hin : ∀ a : Nat, a ∈ g_ps ex up lo lay 24 (l - 1) → g_pd lo lay row (l - 1) a ∈ π := fun a ha => hπ.mem_iff.mpr (List.mem_range.mpr (g_lt_len (hpd a ha)))
  rw [g_co_xs hnd hin]
  unfold g_exc g_cr
  have hU : g_pu up lay (g_set row l (g_ar (row l) π)) (l - 1) = g_pu up lay row (l - 1) := by
    funext a
    unfold g_pu g_at
    rw [g_set_ne (by omega)]
  have hD : ∀ a : Nat, a ∈ g_ps ex up lo lay 24 (l - 1) → g_pd lo lay (g_set row l (g_ar (row l) π)) (l - 1) a = π.idxOf (g_pd lo lay row (l - 1) a) := by
    intro a ha
    have h1 := g_ar_at (g_idx_get (hin a ha)) (hpd a ha)
    unfold g_pd at h1 ⊢
    rw [e1] at h1 ⊢
    refine g_at_of (by rw [g_set_at]; exact (g_ar_perm (hV l hl).1 hπ).1) ?_
    rw [g_set_at]
    exact h1
  rw [hU]
  apply g_xs_congr
  intro a b ha hb
  unfold g_xx
  rw [hD a ha, hD b hb]
end EX
