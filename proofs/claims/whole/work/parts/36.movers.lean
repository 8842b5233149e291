/-! PURE: which items a step moves, and where to. -/
theorem g_bucket_perm {f : Nat → Nat} : ∀ (M : Nat) (L : List Nat), (∀ a : Nat, a ∈ L → f a < M) → ((List.range M).flatMap (fun m => L.filter (fun a => decide (f a = m)))).Perm L := by
  intro M
  induction M with
  | zero =>
    intro L h
    cases L with
    | nil => exact List.Perm.refl _
    | cons a L => exact absurd (h a (by simp)) (by omega)
  | succ M ih =>
    intro L h
    rw [List.range_succ, List.flatMap_append, List.flatMap_cons, List.flatMap_nil, List.append_nil]
    have e1 := ih (L.filter (fun a => decide (f a < M))) (fun a ha => by simpa using (List.mem_filter.mp ha).2)
    have e2 : (List.range M).flatMap (fun m => (L.filter (fun a => decide (f a < M))).filter (fun a => decide (f a = m))) = (List.range M).flatMap (fun m => L.filter (fun a => decide (f a = m))) := by
      rw [List.flatMap_def, List.flatMap_def]
      congr 1
      apply List.map_congr_left
      intro m hm
      rw [List.mem_range] at hm
      rw [List.filter_filter]
      apply List.filter_congr
      intro a ha
      by_cases hfa : f a = m
      · simp [hfa, hm]
      · simp [hfa]
    rw [e2] at e1
    have e3 : L.filter (fun a => decide (f a = M)) = L.filter (fun a => !decide (f a < M)) := by
      apply List.filter_congr
      intro a ha
      have := h a ha
      by_cases hfa : f a = M
      · simp [hfa]
      · simp [hfa]
        omega
    rw [e3]
    exact (e1.append_right _).trans (List.filter_append_perm _ L)
/-- those that have a median, as they stand -/
def g_mv (M : Nat → Option Nat) (R : List Nat) : List Nat := R.filter (fun c => (M c).isSome)
/-- and where -/
def g_sp (M : Nat → Option Nat) (R : List Nat) (n : Nat) : List Nat := (List.range n).filter (fun k => (R[k]?).elim false (fun c => (M c).isSome))
def g_ky (M : Nat → Option Nat) (c : Nat) : Nat := (M c).getD 0
/-- as they want to stand -/
def g_so (M : Nat → Option Nat) (R : List Nat) : List Nat := (List.range 40).flatMap (fun m => (g_mv M R).filter (fun c => decide (g_ky M c = m)))
def g_nw (M : Nat → Option Nat) (R : List Nat) : List Nat := g_pt R (g_sp M R R.length) (g_so M R)
section MV
variable {M : Nat → Option Nat} {R : List Nat}
theorem g_sp_succ {n c : Nat} (h : R[n]? = some c) : g_sp M R (n + 1) = if (M c).isSome = true then g_sp M R n ++ [n] else g_sp M R n := by
  unfold g_sp
  rw [List.range_succ, List.filter_append, List.filter_cons, h]
  show _ ++ (if (M c).isSome = true then _ else _) = _
  split
  · rfl
  · rw [List.filter_nil, List.append_nil]
theorem g_mv_succ {n c : Nat} (h : R[n]? = some c) : g_mv M (R.take (n + 1)) = if (M c).isSome = true then g_mv M (R.take n) ++ [c] else g_mv M (R.take n) := by
  unfold g_mv
  rw [g_take1 h, List.filter_append, List.filter_cons]
  split
  · rfl
  · rw [List.filter_nil, List.append_nil]
theorem g_sp_mv : ∀ n : Nat, n ≤ R.length → (g_sp M R n).length = (g_mv M (R.take n)).length ∧ ∀ j s : Nat, (g_sp M R n)[j]? = some s → ∃ c, (g_mv M (R.take n))[j]? = some c ∧ R[s]? = some c := by
  intro n
  induction n with
  | zero => intro _; exact ⟨rfl, fun j s h => by simp [g_sp] at h⟩
  | succ n ih =>
    intro hn
    obtain ⟨h1, h2⟩ := ih (by omega)
    obtain ⟨c, hc⟩ : ∃ c, R[n]? = some c := ⟨_, List.getElem?_eq_getElem (by omega)⟩
    rw [g_sp_succ hc, g_mv_succ hc]
    split
    · refine ⟨by rw [List.length_append, List.length_append, h1]; rfl, ?_⟩
      intro j s hj
      rw [List.getElem?_append] at hj
      split at hj
      · obtain ⟨d, hd, hd2⟩ := h2 j s hj
        exact ⟨d, by rw [List.getElem?_append_left (by omega)]; exact hd, hd2⟩
      · have hj1 := g_lt_len hj
        simp at hj1
        have hj2 : j = (g_sp M R n).length := by omega
        subst hj2
        rw [Nat.sub_self] at hj
        simp at hj
        subst hj
        refine ⟨c, ?_, hc⟩
        rw [h1, List.getElem?_append_right (Nat.le_refl _), Nat.sub_self]
        rfl
    · exact ⟨h1, h2⟩
theorem g_sp_nd (n : Nat) : (g_sp M R n).Nodup := List.nodup_range.filter _
theorem g_sp_lt {n s : Nat} (h : s ∈ g_sp M R n) : s < n := List.mem_range.mp (List.mem_filter.mp h).1
theorem g_sp_get {j s : Nat} (h : (g_sp M R R.length)[j]? = some s) : ∃ c, (g_mv M R)[j]? = some c ∧ R[s]? = some c := by
  have := (g_sp_mv (M := M) (R := R) R.length (Nat.le_refl _)).2 j s h
  rw [List.take_length] at this
  exact this
theorem g_sp_len : (g_sp M R R.length).length = (g_mv M R).length := by
  have := (g_sp_mv (M := M) (R := R) R.length (Nat.le_refl _)).1
  rw [List.take_length] at this
  exact this
theorem g_mv_mem {c : Nat} : c ∈ g_mv M R ↔ c ∈ R ∧ (M c).isSome = true := List.mem_filter
theorem g_sp_mem {s : Nat} : s ∈ g_sp M R R.length ↔ ∃ c, R[s]? = some c ∧ (M c).isSome = true := by
  unfold g_sp
  rw [List.mem_filter, List.mem_range]
  constructor
  · rintro ⟨h1, h2⟩
    rw [List.getElem?_eq_getElem h1] at h2
    exact ⟨_, List.getElem?_eq_getElem h1, h2⟩
  · rintro ⟨c, h1, h2⟩
    exact ⟨g_lt_len h1, by rw [h1]; exact h2⟩
theorem g_mv_set {c : Nat} : c ∈ g_mv M R ↔ ∃ s, s ∈ g_sp M R R.length ∧ R[s]? = some c := by
  rw [g_mv_mem]
  constructor
  · rintro ⟨h1, h2⟩
    obtain ⟨k, hk⟩ := List.mem_iff_getElem?.mp h1
    exact ⟨k, g_sp_mem.mpr ⟨c, hk, h2⟩, hk⟩
  · rintro ⟨s, h1, h2⟩
    obtain ⟨d, h3, h4⟩ := g_sp_mem.mp h1
    rw [h2] at h3
    cases h3
    exact ⟨g_mem_get h2, h4⟩
theorem g_ky_lt (hM : ∀ c v : Nat, M c = some v → v < 40) (c : Nat) : g_ky M c < 40 := by
  unfold g_ky
  cases h : M c with
  | none => show 0 < 40; omega
  | some v => exact hM c v h
theorem g_so_perm (hM : ∀ c v : Nat, M c = some v → v < 40) : (g_so M R).Perm (g_mv M R) := g_bucket_perm 40 _ (fun c _ => g_ky_lt hM c)
theorem g_so_len (hM : ∀ c v : Nat, M c = some v → v < 40) : (g_so M R).length = (g_sp M R R.length).length := by rw [(g_so_perm hM).length_eq, g_sp_len]
theorem g_so_nd (hM : ∀ c v : Nat, M c = some v → v < 40) (hR : R.Nodup) : (g_so M R).Nodup := (g_so_perm hM).symm.nodup (hR.filter _)
theorem g_so_set (hM : ∀ c v : Nat, M c = some v → v < 40) {c : Nat} : c ∈ g_so M R ↔ ∃ s, s ∈ g_sp M R R.length ∧ R[s]? = some c := by rw [(g_so_perm hM).mem_iff, g_mv_set]
theorem g_nw_Pt : g_Pt R (g_sp M R R.length) (g_so M R) (g_nw M R) := g_pt_ok (g_sp_nd _) (fun s hs => g_sp_lt hs)
theorem g_nw_perm (hM : ∀ c v : Nat, M c = some v → v < 40) (hR : R.Nodup) : (g_nw M R).Nodup ∧ ∀ c : Nat, c ∈ g_nw M R ↔ c ∈ R := g_Pt_perm hR (g_so_nd hM hR) (g_so_len hM) g_nw_Pt (fun c => g_so_set hM)
/-- back again -/
theorem g_nw_back : g_Pt (g_nw M R) (g_sp M R R.length) (g_mv M R) R := g_Pt_back g_nw_Pt (fun j s c hs hc => by
  obtain ⟨d, h1, h2⟩ := g_sp_get hs
  rw [h1] at hc
  cases hc
  exact h2)
theorem g_nw_same (h : g_so M R = g_mv M R) : g_nw M R = R := by
  refine g_Pt_one (sp := g_sp M R R.length) (cs := g_mv M R) (R := R) (by rw [g_sp_len]; exact Nat.le_refl _) (h ▸ g_nw_Pt) ⟨rfl, ?_, fun _ _ => rfl⟩
  intro j s c hs hc
  obtain ⟨d, h1, h2⟩ := g_sp_get hs
  rw [h1] at hc
  cases hc
  exact h2
end MV
/-! the step, as both make it -/
def g_Kl (ex : Nat → Bool) (up lo lay : Nat → Nat) (s : Bool) (l : Nat) : List Nat := g_ps ex up lo lay 24 (if s = true then l - 1 else l)
def g_own (up lo lay : Nat → Nat) (s : Bool) (l a : Nat) : Nat := if s = true then g_lc lo lay a (l - 1) else g_uc up lay a l
def g_far (up lo lay : Nat → Nat) (row : Nat → List Nat) (s : Bool) (l a : Nat) : Nat := if s = true then g_pu up lay row (l - 1) a else g_pd lo lay row l a
def g_mc (ex : Nat → Bool) (up lo lay : Nat → Nat) (row : Nat → List Nat) (s : Bool) (l c : Nat) : Option Nat := g_med ((g_Kl ex up lo lay s l).filter (fun a => decide (g_own up lo lay s l a = c))) (g_far up lo lay row s l)
def g_nr (ex : Nat → Bool) (up lo lay : Nat → Nat) (row : Nat → List Nat) (s : Bool) (l : Nat) : Nat → List Nat := g_set row l (g_nw (g_mc ex up lo lay row s l) (row l))
def g_stp (ex : Nat → Bool) (up lo lay : Nat → Nat) (row : Nat → List Nat) (s : Bool) (l : Nat) : Nat → List Nat := if g_ca ex up lo lay (g_nr ex up lo lay row s l) l ≤ g_ca ex up lo lay row l then g_nr ex up lo lay row s l else row
theorem g_mc_lt {ex : Nat → Bool} {up lo lay : Nat → Nat} {row : Nat → List Nat} {s : Bool} {l : Nat} : ∀ c v : Nat, g_mc ex up lo lay row s l c = some v → v < 40 := fun _ _ h => g_med_lt h
theorem g_V_nr {ex bx : Nat → Bool} {up lo lay : Nat → Nat} {N : Nat} {row : Nat → List Nat} (hV : g_V ex up lo bx lay N row) (s : Bool) {l : Nat} (hl : l < 24) : g_V ex up lo bx lay N (g_nr ex up lo lay row s l) := by
  have := g_nw_perm (M := g_mc ex up lo lay row s l) (R := row l) g_mc_lt (hV l hl).1
  exact g_V_set hV this.1 this.2
theorem g_V_stp {ex bx : Nat → Bool} {up lo lay : Nat → Nat} {N : Nat} {row : Nat → List Nat} (hV : g_V ex up lo bx lay N row) (s : Bool) {l : Nat} (hl : l < 24) : g_V ex up lo bx lay N (g_stp ex up lo lay row s l) := by
  unfold g_stp
  split
  · exact g_V_nr hV s hl
  · exact hV
theorem g_med_perm {F F' : List Nat} {f : Nat → Nat} (h : F.Perm F') : g_med F f = g_med F' f := by
  unfold g_med
  congr 1
  funext v
  exact g_ost_perm h
