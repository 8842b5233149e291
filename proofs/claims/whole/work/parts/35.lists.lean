/-! PURE: lists: inserting, order by keys, puts. -/
theorem g_mem_get {α : Type} {L : List α} {k : Nat} {a : α} (h : L[k]? = some a) : a ∈ L := List.mem_iff_getElem?.mpr ⟨k, h⟩
def g_ins (L : List Nat) (s x : Nat) : List Nat := L.take s ++ x :: L.drop s
theorem g_ins_get {L : List Nat} {s x j a : Nat} (hs : s ≤ L.length) (h : (g_ins L s x)[j]? = some a) : (j < s ∧ L[j]? = some a) ∨ (j = s ∧ a = x) ∨ (s < j ∧ L[j - 1]? = some a) := by
  unfold g_ins at h
  have hl : (L.take s).length = s := by rw [List.length_take]; omega
  rw [List.getElem?_append, hl] at h
  split at h
  · obtain ⟨h1, h2⟩ := g_take_get h
    exact .inl ⟨h1, h2⟩
  · next hj =>
    by_cases h0 : j = s
    · subst h0
      rw [Nat.sub_self] at h
      exact .inr (.inl ⟨rfl, (Option.some.inj h).symm⟩)
    · obtain ⟨i, hi⟩ : ∃ i, j - s = i + 1 := ⟨j - s - 1, by omega⟩
      rw [hi, List.getElem?_cons_succ, List.getElem?_drop] at h
      rw [show s + i = j - 1 by omega] at h
      exact .inr (.inr ⟨by omega, h⟩)
theorem g_ins_len {L : List Nat} {s x : Nat} (hs : s ≤ L.length) : (g_ins L s x).length = L.length + 1 := by
  unfold g_ins
  rw [List.length_append, List.length_cons, List.length_take, List.length_drop]
  omega
theorem g_ins_perm (L : List Nat) (s x : Nat) : (g_ins L s x).Perm (L ++ [x]) := by
  unfold g_ins
  refine List.Perm.trans List.perm_middle ?_
  rw [List.take_append_drop]
  exact (List.perm_append_comm (l₁ := [x]) (l₂ := L))
theorem g_ins_end {L : List Nat} {x : Nat} : g_ins L L.length x = L ++ [x] := by
  unfold g_ins
  rw [List.take_length, List.drop_length]
theorem g_ins_sorted {f : Nat → Nat} {L : List Nat} {s x : Nat} (hL : L.Pairwise (fun a b => f a ≤ f b)) (h1 : ∀ j a : Nat, s ≤ j → L[j]? = some a → f x < f a) (h2 : s = 0 ∨ ∃ a, L[s - 1]? = some a ∧ f a ≤ f x) : (g_ins L s x).Pairwise (fun a b => f a ≤ f b) := by
  unfold g_ins
  have hL' := hL
  rw [← List.take_append_drop s L, List.pairwise_append] at hL'
  obtain ⟨p1, p2, p3⟩ := hL'
  rw [List.pairwise_append, List.pairwise_cons]
  refine ⟨p1, ⟨?_, p2⟩, ?_⟩
  · intro b hb
    obtain ⟨k, hk⟩ := List.mem_iff_getElem?.mp hb
    rw [List.getElem?_drop] at hk
    exact Nat.le_of_lt (h1 _ _ (by omega) hk)
  · intro a ha b hb
    rcases List.mem_cons.mp hb with hb | hb
    · subst hb
      obtain ⟨k, hk⟩ := List.mem_iff_getElem?.mp ha
      obtain ⟨hk1, hk2⟩ := g_take_get hk
      rcases h2 with h2 | ⟨d, h2, h3⟩
      · omega
      · by_cases hks : k = s - 1
        · subst hks
          rw [hk2] at h2
          cases h2
          exact h3
        · have e1 := g_lt_len hk2
          have e2 := g_lt_len h2
          have e3 := (List.pairwise_iff_getElem.mp hL) k (s - 1) e1 e2 (by omega)
          rw [List.getElem?_eq_getElem e1] at hk2
          rw [List.getElem?_eq_getElem e2] at h2
          rw [Option.some.inj hk2, Option.some.inj h2] at e3
          omega
    · exact p3 a ha b hb
/-- those with one key stay as they stood -/
theorem g_ins_filter {f : Nat → Nat} {L : List Nat} {s x m : Nat} (h1 : ∀ j a : Nat, s ≤ j → L[j]? = some a → f x < f a) : (g_ins L s x).filter (fun a => decide (f a = m)) = L.filter (fun a => decide (f a = m)) ++ [x].filter (fun a => decide (f a = m)) := by
  unfold g_ins
  have e : L.filter (fun a => decide (f a = m)) = (L.take s).filter (fun a => decide (f a = m)) ++ (L.drop s).filter (fun a => decide (f a = m)) := by rw [← List.filter_append, List.take_append_drop]
  rw [e, List.filter_append, List.filter_cons]
  by_cases hx : f x = m
  · have e2 : (L.drop s).filter (fun a => decide (f a = m)) = [] := by
      rw [List.filter_eq_nil_iff]
      intro a ha
      obtain ⟨k, hk⟩ := List.mem_iff_getElem?.mp ha
      rw [List.getElem?_drop] at hk
      have := h1 _ _ (by omega) hk
      simp
      omega
    rw [e2]
    simp [hx]
  · simp [hx]
theorem g_bucket {f : Nat → Nat} : ∀ (M : Nat) (L : List Nat), L.Pairwise (fun a b => f a ≤ f b) → (∀ a : Nat, a ∈ L → f a < M) → L = (List.range M).flatMap (fun m => L.filter (fun a => decide (f a = m))) := by
  intro M
  induction M with
  | zero =>
    intro L _ h
    cases L with
    | nil => rfl
    | cons a L => exact absurd (h a (by simp)) (by omega)
  | succ M ih =>
    intro L hL h
    have split : ∀ L : List Nat, L.Pairwise (fun a b => f a ≤ f b) → (∀ a : Nat, a ∈ L → f a < M + 1) → L = L.filter (fun a => decide (f a < M)) ++ L.filter (fun a => decide (f a = M)) := by
      intro L
      induction L with
      | nil => intro _ _; rfl
      | cons x L ihL =>
        intro hp hb
        rw [List.pairwise_cons] at hp
        have ih2 := ihL hp.2 (fun a ha => hb a (by simp [ha]))
        have hx := hb x (by simp)
        by_cases hxM : f x < M
        · rw [List.filter_cons, if_pos (by simpa using hxM), List.filter_cons, if_neg (by simp; omega), List.cons_append, ← ih2]
        · have e1 : L.filter (fun a => decide (f a < M)) = [] := by
            rw [List.filter_eq_nil_iff]
            intro a ha
            have := hp.1 a ha
            simp
            omega
          rw [List.filter_cons, if_neg (by simpa using hxM), List.filter_cons, if_pos (by simp; omega), e1, List.nil_append]
          rw [e1, List.nil_append] at ih2
          rw [← ih2]
    rw [List.range_succ, List.flatMap_append, List.flatMap_cons, List.flatMap_nil, List.append_nil]
    have e1 := ih (L.filter (fun a => decide (f a < M))) (hL.filter _) (fun a ha => by simpa using (List.mem_filter.mp ha).2)
    have e2 : (List.range M).flatMap (fun m => (L.filter (fun a => decide (f a < M))).filter (fun a => decide (f a = m))) = (List.range M).flatMap (fun m => L.filter (fun a => decide (f a = m))) := by
      rw [List.flatMap_def, List.flatMap_def]
      congr 1
      apply List.map_congr_left
      intro m hm
      rw [List.mem_range] at hm
      rw [List.filter_filter]
      apply List.filter_congr
      intro a ha
      by_cases hfa : f a = m
      · simp [hfa, hm]
      · simp [hfa]
    rw [← e2, ← e1]
    exact split L hL h
/-- two orders by keys, with the same ones of each key, are one -/
theorem g_same {f : Nat → Nat} {M : Nat} {L L' : List Nat} (h1 : L.Pairwise (fun a b => f a ≤ f b)) (h2 : ∀ a : Nat, a ∈ L → f a < M) (h3 : ∀ m : Nat, L.filter (fun a => decide (f a = m)) = L'.filter (fun a => decide (f a = m))) : L = (List.range M).flatMap (fun m => L'.filter (fun a => decide (f a = m))) := by
  have e := g_bucket M L h1 h2
  have e2 : (List.range M).flatMap (fun m => L.filter (fun a => decide (f a = m))) = (List.range M).flatMap (fun m => L'.filter (fun a => decide (f a = m))) := by
    congr 1
    funext m
    exact h3 m
  rw [← e2]
  exact e
/-- an array that is being shifted: what lies from s on stands one further -/
def c_sh (k s : Nat) (A0 A1 : Nat → Int32) : Prop := (∀ j : Nat, j < s → A1 j = A0 j) ∧ (∀ j : Nat, s < j → j ≤ k → A1 j = A0 (j - 1))
theorem c_sh_0 {k : Nat} {A : Nat → Int32} : c_sh k k A A := ⟨fun _ _ => rfl, fun j h1 h2 => by omega⟩
theorem c_sh_on {k s : Nat} {A0 A1 : Nat → Int32} (h : c_sh k (s + 1) A0 A1) : c_sh k s A0 (upd A1 (s + 1) (A1 s)) := by
  refine ⟨fun j hj => ?_, fun j h1 h2 => ?_⟩
  · rw [pk_un (by omega)]
    exact h.1 j (by omega)
  · by_cases hj : j = s + 1
    · subst hj
      rw [pk_us, h.1 s (by omega)]
      rfl
    · rw [pk_un hj]
      exact h.2 j (by omega) h2
theorem c_sh_end {L : List Nat} {s x : Nat} {A0 A1 : Nat → Int32} {f : Nat → Int32} (hs : s ≤ L.length) (h : c_sh L.length s A0 A1) (h0 : ∀ j a : Nat, L[j]? = some a → A0 j = f a) : ∀ j a : Nat, (g_ins L s x)[j]? = some a → upd A1 s (f x) j = f a := by
  intro j a hj
  have hjl := g_lt_len hj
  rw [g_ins_len hs] at hjl
  rcases g_ins_get hs hj with ⟨h1, h2⟩ | ⟨h1, h2⟩ | ⟨h1, h2⟩
  · rw [pk_un (by omega), h.1 j h1]
    exact h0 j a h2
  · rw [h1, h2, pk_us]
  · rw [pk_un (by omega), h.2 j h1 (by omega)]
    exact h0 _ a h2
/-- what stands in the middle, by counting -/
def g_ost (F : List Nat) (f : Nat → Nat) (v : Nat) : Bool := decide (F.countP (fun a => decide (f a < v)) ≤ (F.length - 1) / 2) && decide ((F.length - 1) / 2 < F.countP (fun a => decide (f a ≤ v)))
theorem g_ost_iff {F : List Nat} {f : Nat → Nat} {v : Nat} : g_ost F f v = true ↔ F.countP (fun a => decide (f a < v)) ≤ (F.length - 1) / 2 ∧ (F.length - 1) / 2 < F.countP (fun a => decide (f a ≤ v)) := by
  unfold g_ost
  simp
theorem g_ost_one {F : List Nat} {f : Nat → Nat} {v w : Nat} (hv : g_ost F f v = true) (hw : g_ost F f w = true) : v = w := by
  have key : ∀ {v w : Nat}, g_ost F f v = true → g_ost F f w = true → ¬ v < w := by
    intro v w hv hw h
    have h1 := (g_ost_iff.mp hv).2
    have h2 := (g_ost_iff.mp hw).1
    have h3 : F.countP (fun a => decide (f a ≤ v)) ≤ F.countP (fun a => decide (f a < w)) := List.countP_mono_left (fun a _ h => by
      simp only [decide_eq_true_eq] at h ⊢
      omega)
    omega
  have h1 := key hv hw
  have h2 := key hw hv
  omega
theorem g_ost_perm {F F' : List Nat} {f : Nat → Nat} {v : Nat} (h : F.Perm F') : g_ost F f v = g_ost F' f v := by
  unfold g_ost
  rw [h.countP_eq, h.countP_eq, h.length_eq]
theorem g_ost_sorted {F : List Nat} {f : Nat → Nat} {a : Nat} (hF : F.Pairwise (fun a b => f a ≤ f b)) (h : F[(F.length - 1) / 2]? = some a) : g_ost F f (f a) = true := by
  have hm := g_lt_len h
  rw [g_ost_iff]
  generalize (F.length - 1) / 2 = m at h hm
  have hle : ∀ i j b c : Nat, i ≤ j → F[i]? = some b → F[j]? = some c → f b ≤ f c := by
    intro i j b c hij hi hj
    by_cases e : i = j
    · subst e
      rw [hi] at hj
      cases hj
      exact Nat.le_refl _
    · have e1 := g_lt_len hi
      have e2 := g_lt_len hj
      have e3 := (List.pairwise_iff_getElem.mp hF) i j e1 e2 (by omega)
      rw [List.getElem?_eq_getElem e1] at hi
      rw [List.getElem?_eq_getElem e2] at hj
      rw [Option.some.inj hi, Option.some.inj hj] at e3
      exact e3
  constructor
  · have e : F.countP (fun b => decide (f b < f a)) = (F.take m).countP (fun b => decide (f b < f a)) + (F.drop m).countP (fun b => decide (f b < f a)) := by rw [← List.countP_append, List.take_append_drop]
    have e2 : (F.drop m).countP (fun b => decide (f b < f a)) = 0 := by
      rw [List.countP_eq_zero]
      intro b hb
      obtain ⟨k, hk⟩ := List.mem_iff_getElem?.mp hb
      rw [List.getElem?_drop] at hk
      have := hle m (m + k) a b (by omega) h hk
      simp
      omega
    have e3 := List.countP_le_length (p := fun b => decide (f b < f a)) (l := F.take m)
    rw [List.length_take] at e3
    omega
  · have e : F.countP (fun b => decide (f b ≤ f a)) = (F.take (m + 1)).countP (fun b => decide (f b ≤ f a)) + (F.drop (m + 1)).countP (fun b => decide (f b ≤ f a)) := by rw [← List.countP_append, List.take_append_drop]
    have e2 : (F.take (m + 1)).countP (fun b => decide (f b ≤ f a)) = (F.take (m + 1)).length := by
      rw [List.countP_eq_length]
      intro b hb
      obtain ⟨k, hk⟩ := List.mem_iff_getElem?.mp hb
      obtain ⟨k1, k2⟩ := g_take_get hk
      have := hle k m b a (by omega) k2 h
      simpa using this
    rw [List.length_take] at e2
    omega
/-- the median of those in F by f; places are below 40 -/
def g_med (F : List Nat) (f : Nat → Nat) : Option Nat := (List.range 40).find? (g_ost F f)
theorem g_med_some {F : List Nat} {f : Nat → Nat} {v : Nat} (hv : v < 40) (h : g_ost F f v = true) : g_med F f = some v := by
  unfold g_med
  cases hf : (List.range 40).find? (g_ost F f) with
  | none =>
    rw [List.find?_eq_none] at hf
    exact absurd h (hf v (List.mem_range.mpr hv))
  | some w =>
    rw [g_ost_one h (List.find?_some hf)]
theorem g_med_nil {f : Nat → Nat} : g_med [] f = none := by
  unfold g_med
  rw [List.find?_eq_none]
  intro v _
  simp [g_ost]
theorem g_med_lt {F : List Nat} {f : Nat → Nat} {v : Nat} (h : g_med F f = some v) : v < 40 := by
  unfold g_med at h
  exact List.mem_range.mp (List.mem_of_find?_eq_some h)
/-- a row with some places set anew -/
def g_Pt (R sp cs R' : List Nat) : Prop := R'.length = R.length ∧ (∀ j s c : Nat, sp[j]? = some s → cs[j]? = some c → R'[s]? = some c) ∧ ∀ k : Nat, k ∉ sp → R'[k]? = R[k]?
def g_pt (R sp cs : List Nat) : List Nat := (List.range R.length).map (fun k => if k ∈ sp then (cs[sp.idxOf k]?).getD 0 else (R[k]?).getD 0)
theorem g_idx_get {sp : List Nat} {s : Nat} (h : s ∈ sp) : sp[sp.idxOf s]? = some s := by
  have h1 := List.idxOf_lt_length_of_mem h
  rw [List.getElem?_eq_getElem h1, List.getElem_idxOf h1]
theorem g_pt_ok {R sp cs : List Nat} (h1 : sp.Nodup) (h3 : ∀ s : Nat, s ∈ sp → s < R.length) : g_Pt R sp cs (g_pt R sp cs) := by
  refine ⟨by unfold g_pt; rw [List.length_map, List.length_range], ?_, ?_⟩
  · intro j s c hj hc
    have hs := g_mem_get hj
    unfold g_pt
    rw [List.getElem?_map, List.getElem?_range (h3 s hs)]
    simp only [Option.map_some]
    rw [if_pos hs, g_nd_inj h1 (g_idx_get hs) hj, hc]
    rfl
  · intro k hk
    unfold g_pt
    rw [List.getElem?_map]
    by_cases hkR : k < R.length
    · rw [List.getElem?_range hkR]
      simp only [Option.map_some]
      rw [if_neg hk, List.getElem?_eq_getElem hkR]
      rfl
    · rw [List.getElem?_eq_none (by rw [List.length_range]; omega), List.getElem?_eq_none (by omega)]
      rfl
theorem g_Pt_one {R sp cs R1 R2 : List Nat} (hlen : sp.length ≤ cs.length) (h1 : g_Pt R sp cs R1) (h2 : g_Pt R sp cs R2) : R1 = R2 := by
  apply List.ext_getElem?
  intro k
  by_cases hk : k ∈ sp
  · obtain ⟨j, hj⟩ := List.mem_iff_getElem?.mp hk
    have hjl := g_lt_len hj
    obtain ⟨c, hc⟩ : ∃ c, cs[j]? = some c := ⟨_, List.getElem?_eq_getElem (by omega)⟩
    rw [h1.2.1 j k c hj hc, h2.2.1 j k c hj hc]
  · rw [h1.2.2 k hk, h2.2.2 k hk]
theorem g_Pt_back {R sp cs st R' : List Nat} (h : g_Pt R sp cs R') (hst : ∀ j s c : Nat, sp[j]? = some s → st[j]? = some c → R[s]? = some c) : g_Pt R' sp st R :=
  ⟨h.1.symm, hst, fun k hk => (h.2.2 k hk).symm⟩
theorem g_Pt_perm {R sp cs R' : List Nat} (hR : R.Nodup) (hcs : cs.Nodup) (hlen : cs.length = sp.length) (h : g_Pt R sp cs R') (hset : ∀ c : Nat, c ∈ cs ↔ ∃ s, s ∈ sp ∧ R[s]? = some c) : R'.Nodup ∧ ∀ c : Nat, c ∈ R' ↔ c ∈ R := by
  obtain ⟨h1, h2, h3⟩ := h
  have at_sp : ∀ s c : Nat, s ∈ sp → R'[s]? = some c → ∃ j : Nat, sp[j]? = some s ∧ cs[j]? = some c := by
    intro s c hs hc
    obtain ⟨j, hj⟩ := List.mem_iff_getElem?.mp hs
    have hjl := g_lt_len hj
    obtain ⟨d, hd⟩ : ∃ d, cs[j]? = some d := ⟨_, List.getElem?_eq_getElem (by omega)⟩
    have := h2 j s d hj hd
    rw [hc] at this
    cases this
    exact ⟨j, hj, hd⟩
  constructor
  · have inj : ∀ i j c : Nat, R'[i]? = some c → R'[j]? = some c → i = j := by
      intro i j c hi hj
      by_cases hi' : i ∈ sp
      · obtain ⟨a, ha, hca⟩ := at_sp i c hi' hi
        by_cases hj' : j ∈ sp
        · obtain ⟨b, hb, hcb⟩ := at_sp j c hj' hj
          have := g_nd_inj hcs hca hcb
          subst this
          rw [ha] at hb
          exact Option.some.inj hb
        · rw [h3 j hj'] at hj
          obtain ⟨s, hs, hsc⟩ := (hset c).mp (g_mem_get hca)
          have := g_nd_inj hR hj hsc
          subst this
          exact absurd hs hj'
      · rw [h3 i hi'] at hi
        by_cases hj' : j ∈ sp
        · obtain ⟨b, hb, hcb⟩ := at_sp j c hj' hj
          obtain ⟨s, hs, hsc⟩ := (hset c).mp (g_mem_get hcb)
          have := g_nd_inj hR hi hsc
          subst this
          exact absurd hs hi'
        · rw [h3 j hj'] at hj
          exact g_nd_inj hR hi hj
    unfold List.Nodup
    rw [List.pairwise_iff_getElem]
    intro i j hi hj hij e
    have := inj i j R'[i] (List.getElem?_eq_getElem hi) (by rw [e]; exact List.getElem?_eq_getElem hj)
    omega
  · intro c
    constructor
    · intro hc
      obtain ⟨k, hk⟩ := List.mem_iff_getElem?.mp hc
      by_cases hk' : k ∈ sp
      · obtain ⟨j, hj, hcj⟩ := at_sp k c hk' hk
        obtain ⟨s, hs, hsc⟩ := (hset c).mp (g_mem_get hcj)
        exact g_mem_get hsc
      · rw [h3 k hk'] at hk
        exact g_mem_get hk
    · intro hc
      obtain ⟨k, hk⟩ := List.mem_iff_getElem?.mp hc
      by_cases hk' : k ∈ sp
      · obtain ⟨j, hj⟩ := List.mem_iff_getElem?.mp ((hset c).mpr ⟨k, hk', hk⟩)
        have hjl := g_lt_len hj
        obtain ⟨s, hs⟩ : ∃ s, sp[j]? = some s := ⟨_, List.getElem?_eq_getElem (by omega)⟩
        exact g_mem_get (h2 j s c hs hj)
      · rw [← h3 k hk'] at hk
        exact g_mem_get hk
def g_set (row : Nat → List Nat) (l : Nat) (R : List Nat) : Nat → List Nat := fun i => if i = l then R else row i
theorem g_set_at {row : Nat → List Nat} {l : Nat} {R : List Nat} : g_set row l R l = R := if_pos rfl
theorem g_set_ne {row : Nat → List Nat} {l i : Nat} {R : List Nat} (h : i ≠ l) : g_set row l R i = row i := if_neg h
theorem g_set_self {row : Nat → List Nat} {l : Nat} : g_set row l (row l) = row := by
  funext i
  unfold g_set
  split
  · next h => rw [h]
  · rfl
theorem g_set_set {row : Nat → List Nat} {l : Nat} {R R' : List Nat} : g_set (g_set row l R) l R' = g_set row l R' := by
  funext i
  unfold g_set
  split <;> rfl
theorem g_V_set {ex : Nat → Bool} {up lo : Nat → Nat} {bx : Nat → Bool} {lay : Nat → Nat} {N : Nat} {row : Nat → List Nat} (hV : g_V ex up lo bx lay N row) {l : Nat} {R : List Nat} (h1 : R.Nodup) (h2 : ∀ c : Nat, c ∈ R ↔ c ∈ row l) : g_V ex up lo bx lay N (g_set row l R) := by
  intro i hi
  by_cases hil : i = l
  · subst hil
    rw [g_set_at]
    exact ⟨h1, fun c => by rw [h2, (hV i hi).2]⟩
  · rw [g_set_ne hil]
    exact hV i hi
/-- the class's puts, the first n of them -/
def c_W (l n : Nat) (sp cs : List Nat) (rw pl rw' pl' : Nat → Int32) : Prop :=
  (∀ x : Nat, (∀ j s : Nat, j < n → sp[j]? = some s → x ≠ l * 40 + s) → rw' x = rw x) ∧ (∀ j s c : Nat, j < n → sp[j]? = some s → cs[j]? = some c → rw' (l * 40 + s) = nI c) ∧
  (∀ x : Nat, (∀ j c : Nat, j < n → cs[j]? = some c → x ≠ l * 40 + c) → pl' x = pl x) ∧ (∀ j s c : Nat, j < n → sp[j]? = some s → cs[j]? = some c → pl' (l * 40 + c) = nI s)
theorem c_W_0 {l : Nat} {sp cs : List Nat} {rw pl : Nat → Int32} : c_W l 0 sp cs rw pl rw pl := ⟨fun _ _ => rfl, fun j s c h => by omega, fun _ _ => rfl, fun j s c h => by omega⟩
theorem c_W_on {l n s c : Nat} {sp cs : List Nat} {rw pl rw' pl' : Nat → Int32} (h1 : sp.Nodup) (h2 : cs.Nodup) (hs : sp[n]? = some s) (hc : cs[n]? = some c) (h : c_W l n sp cs rw pl rw' pl') : c_W l (n + 1) sp cs rw pl (upd rw' (l * 40 + s) (nI c)) (upd pl' (l * 40 + c) (nI s)) := by
  obtain ⟨w1, w2, w3, w4⟩ := h
  refine ⟨?_, ?_, ?_, ?_⟩
  · intro x hx
    rw [pk_un (hx n s (by omega) hs)]
    exact w1 x (fun j s' hj => hx j s' (by omega))
  · intro j s' c' hj hs' hc'
    by_cases hjn : j = n
    · subst hjn
      rw [hs] at hs'
      rw [hc] at hc'
      cases hs'
      cases hc'
      rw [pk_us]
    · rw [pk_un (fun e => hjn (g_nd_inj h1 hs' (by rw [show s' = s by omega]; exact hs)))]
      exact w2 j s' c' (by omega) hs' hc'
  · intro x hx
    rw [pk_un (hx n c (by omega) hc)]
    exact w3 x (fun j c' hj => hx j c' (by omega))
  · intro j s' c' hj hs' hc'
    by_cases hjn : j = n
    · subst hjn
      rw [hs] at hs'
      rw [hc] at hc'
      cases hs'
      cases hc'
      rw [pk_us]
    · rw [pk_un (fun e => hjn (g_nd_inj h2 hc' (by rw [show c' = c by omega]; exact hc)))]
      exact w4 j s' c' (by omega) hs' hc'
theorem c_W_end {N l : Nat} {row : Nat → List Nat} {sp cs R' : List Nat} {ly : Int32} {sz rw pl hm rw' pl' : Nat → Int32} (hO : c_O N row ly sz rw pl hm) (hl : l < 24) (hcs : cs.Nodup) (hlen : cs.length = sp.length) (hw : c_W l sp.length sp cs rw pl rw' pl') (hsp : ∀ s : Nat, s ∈ sp → s < (row l).length) (hPt : g_Pt (row l) sp cs R') (hset : ∀ c : Nat, c ∈ cs ↔ ∃ s, s ∈ sp ∧ (row l)[s]? = some c) : c_O N (g_set row l R') ly sz rw' pl' hm := by
  obtain ⟨w1, w2, w3, w4⟩ := hw
  obtain ⟨o1, o2, o3, o4, o5⟩ := hO
  obtain ⟨g1, g2, g3, g4, g5, g6⟩ := o3 l hl
  obtain ⟨n1, n2⟩ := g_Pt_perm g2 hcs hlen hPt hset
  have mem : ∀ i c : Nat, c ∈ g_set row l R' i ↔ c ∈ row i := by
    intro i c
    by_cases hil : i = l
    · subst hil; rw [g_set_at]; exact n2 c
    · rw [g_set_ne hil]
  have csb : ∀ j c : Nat, cs[j]? = some c → c < 40 := by
    intro j c hj
    obtain ⟨s, hs, hsc⟩ := (hset c).mp (g_mem_get hj)
    exact (g5 s c hsc).1
  have spb : ∀ j s : Nat, sp[j]? = some s → s < 40 := by
    intro j s hj
    have := hsp s (g_mem_get hj)
    omega
  refine ⟨o1, o2, ?_, ?_, ?_⟩
  · intro i hi
    obtain ⟨k1, k2, k3, k4, k5, k6⟩ := o3 i hi
    by_cases hil : i = l
    · subst hil
      rw [g_set_at]
      refine ⟨fun h => ?_, n1, by rw [hPt.1]; exact k3, by rw [hPt.1]; exact k4, ?_, ?_⟩
      · have := hPt.1
        rw [k1 h] at this
        exact List.eq_nil_of_length_eq_zero this
      · intro k c hk
        by_cases hks : k ∈ sp
        · obtain ⟨j, hj⟩ := List.mem_iff_getElem?.mp hks
          have hjl := g_lt_len hj
          obtain ⟨d, hd⟩ : ∃ d, cs[j]? = some d := ⟨_, List.getElem?_eq_getElem (by omega)⟩
          have := hPt.2.1 j k d hj hd
          rw [hk] at this
          cases this
          exact ⟨csb j c hd, w2 j k c (by omega) hj hd, w4 j k c (by omega) hj hd⟩
        · have hk2 := hk
          rw [hPt.2.2 k hks] at hk2
          obtain ⟨e1, e2, e3⟩ := k5 k c hk2
          refine ⟨e1, ?_, ?_⟩
          · rw [w1 _ (fun j s _ hj e => hks (by rw [show k = s by omega]; exact g_mem_get hj))]
            exact e2
          · rw [w3 _ (fun j d _ hj e => ?_)]
            · exact e3
            · have : c = d := by omega
              subst this
              obtain ⟨s, hs, hsc⟩ := (hset c).mp (g_mem_get hj)
              have := g_nd_inj g2 hk2 hsc
              subst this
              exact hks hs
      · intro c hc hm'
        rw [n2] at hm'
        rw [w3 _ (fun j d _ hj e => ?_)]
        · exact k6 c hc hm'
        · have : c = d := by omega
          subst this
          obtain ⟨s, hs, hsc⟩ := (hset c).mp (g_mem_get hj)
          exact hm' (g_mem_get hsc)
    · rw [g_set_ne hil]
      refine ⟨k1, k2, k3, k4, ?_, ?_⟩
      · intro k c hk
        obtain ⟨e1, e2, e3⟩ := k5 k c hk
        have hkl := g_lt_len hk
        refine ⟨e1, ?_, ?_⟩
        · rw [w1 _ (fun j s _ hj e => by have := spb j s hj; omega)]
          exact e2
        · rw [w3 _ (fun j d _ hj e => by have := csb j d hj; omega)]
          exact e3
      · intro c hc hm'
        rw [w3 _ (fun j d _ hj e => by have := csb j d hj; omega)]
        exact k6 c hc hm'
  · intro i hi b hb hm'
    exact o4 i hi b hb ((mem i b).mp hm')
  · intro b hb hm'
    exact o5 b hb (fun i hi h => hm' i hi ((mem i b).mpr h))
