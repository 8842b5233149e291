/-! PURE: no arrow leads round; every box has a rank of at most 15, and an arrow's lower end a greater one than its upper end. -/
def g_up (fr to : Nat → Nat) (tn : Nat → Bool) (a : Nat) : Nat := if tn a then to a else fr a
def g_lo (fr to : Nat → Nat) (tn : Nat → Bool) (a : Nat) : Nat := if tn a then fr a else to a
theorem g_R_more {ex : Nat → Bool} {fr to : Nat → Nat} {tn : Nat → Bool} {n m u v : Nat} (h : n ≤ m) (t : g_R ex fr to tn n u v) : g_R ex fr to tn m u v :=
  g_mono (fun _ _ ⟨b, k1, k2⟩ => ⟨b, by omega, k2⟩) t
theorem g_no_round {ex : Nat → Bool} {fr to : Nat → Nat} {tn : Nat → Bool} (hT : g_T ex fr to tn 24) (hne : ∀ a, a < 24 → ex a = true → fr a ≠ to a) : ∀ n, n ≤ 24 → ∀ x, ¬ g_R ex fr to tn n x x := by
  intro n
  induction n with
  | zero =>
    intro _ x t
    obtain ⟨b, hb, -⟩ := g_src t
    omega
  | succ n ih =>
    intro hn x t
    have ihn := ih (by omega)
    by_cases hk : ex n = true ∧ tn n = false
    · rw [g_K_keep hk.1 hk.2] at t
      have hno : ¬ g_R ex fr to tn n (to n) (fr n) := by
        intro h
        have := (hT n (by omega)).mpr ⟨hk.1, h⟩
        rw [hk.2] at this
        cases this
      rcases t with t | ⟨t1, t2⟩
      · exact ihn x t
      · rcases t1 with t1 | t1 <;> rcases t2 with t2 | t2
        · exact hne n (by omega) hk.1 (t1.symm.trans t2)
        · rw [t1] at t2; exact hno t2
        · rw [t2] at t1; exact hno t1
        · exact hno (.trans t2 t1)
    · rw [g_K_skip (fun he => by
        cases h : tn n
        · exact absurd ⟨he, h⟩ hk
        · rfl)] at t
      exact ihn x t
theorem g_arrow {ex : Nat → Bool} {fr to : Nat → Nat} {tn : Nat → Bool} (hT : g_T ex fr to tn 24) {a : Nat} (ha : a < 24) (he : ex a = true) : g_R ex fr to tn 24 (g_up fr to tn a) (g_lo fr to tn a) := by
  unfold g_up g_lo
  cases h : tn a with
  | true => exact g_R_more (by omega) ((hT a ha).mp h).2
  | false => exact .single ⟨a, ha, he, h, rfl, rfl⟩
theorem g_ct_true : ∀ n, g_ct (fun _ => true) n = n
  | 0 => rfl
  | n + 1 => by unfold g_ct; rw [g_ct_true n]; rfl
/-- ranks, out of a table of who leads to whom -/
theorem g_rank {ex : Nat → Bool} {fr to : Nat → Nat} {tn : Nat → Bool} (hT : g_T ex fr to tn 24) (hE : ∀ a, a < 24 → ex a = true → fr a < 16 ∧ to a < 16 ∧ fr a ≠ to a) {r : Nat → Nat → Bool} (hr : ∀ i, i < 16 → ∀ j, j < 16 → (r i j = true ↔ g_R ex fr to tn 24 i j)) :
    ∃ rk : Nat → Nat, (∀ b, b < 16 → rk b ≤ 15) ∧ ∀ a, a < 24 → ex a = true → rk (g_up fr to tn a) < rk (g_lo fr to tn a) := by
  have hno := g_no_round hT (fun a ha he => (hE a ha he).2.2) 24 (Nat.le_refl _)
  refine ⟨fun b => g_ct (fun u => r u b) 16, fun b hb => ?_, fun a ha he => ?_⟩
  · have hf : r b b = false := by
      cases h : r b b
      · rfl
      · exact absurd ((hr b hb b hb).mp h) (hno b)
    have := g_ct_lt (p := fun u => r u b) (q := fun _ => true) (n := 16) b hb (fun _ _ _ => rfl) hf rfl
    rw [g_ct_true] at this
    show g_ct (fun u => r u b) 16 ≤ 15
    omega
  · obtain ⟨h1, h2, -⟩ := hE a ha he
    have hu : g_up fr to tn a < 16 := by unfold g_up; split <;> assumption
    have hl : g_lo fr to tn a < 16 := by unfold g_lo; split <;> assumption
    have hup := g_arrow hT ha he
    refine g_ct_lt (p := fun u => r u (g_up fr to tn a)) (q := fun u => r u (g_lo fr to tn a)) (n := 16) (g_up fr to tn a) hu (fun k hk h => ?_) ?_ ?_
    · exact (hr k hk _ hl).mpr (.trans ((hr k hk _ hu).mp h) hup)
    · cases h : r (g_up fr to tn a) (g_up fr to tn a)
      · rfl
      · exact absurd ((hr _ hu _ hu).mp h) (hno _)
    · exact (hr _ hu _ hl).mpr hup
/-! layers, as both find them: sixteen times through the arrows -/
def g_s1 (ex : Nat → Bool) (up lo : Nat → Nat) (pn : Nat → Bool) (lay : Nat → Nat) (a : Nat) : Nat → Nat :=
  if ex a = true ∧ pn (lo a) = false ∧ lay (lo a) < lay (up a) + 1 then fun b => if b = lo a then lay (up a) + 1 else lay b else lay
def g_sink (ex : Nat → Bool) (up lo : Nat → Nat) (pn : Nat → Bool) (lay : Nat → Nat) : Nat → Nat → Nat
  | 0 => lay
  | n + 1 => g_s1 ex up lo pn (g_sink ex up lo pn lay n) n
def g_lay (ex : Nat → Bool) (up lo : Nat → Nat) (pn : Nat → Bool) (lay : Nat → Nat) : Nat → Nat → Nat
  | 0 => lay
  | n + 1 => g_sink ex up lo pn (g_lay ex up lo pn lay n) 24
theorem g_s1_bound {ex : Nat → Bool} {up lo : Nat → Nat} {pn : Nat → Bool} {rk : Nat → Nat} {lay : Nat → Nat} {a : Nat} (ha : a < 24) (hrk : ∀ a, a < 24 → ex a = true → rk (up a) < rk (lo a)) (hu : ∀ a, a < 24 → ex a = true → up a < 16 ∧ lo a < 16) (h : ∀ b, b < 16 → lay b ≤ 8 + rk b) : ∀ b, b < 16 → g_s1 ex up lo pn lay a b ≤ 8 + rk b := by
  intro b hb
  unfold g_s1
  split
  · next hc =>
    show (if b = lo a then lay (up a) + 1 else lay b) ≤ _
    split
    · next hbl =>
      have h1 := hrk a ha hc.1
      have h2 := h (up a) (hu a ha hc.1).1
      rw [hbl]
      omega
    · exact h b hb
  · exact h b hb
theorem g_sink_bound {ex : Nat → Bool} {up lo : Nat → Nat} {pn : Nat → Bool} {rk : Nat → Nat} {lay : Nat → Nat} (hrk : ∀ a, a < 24 → ex a = true → rk (up a) < rk (lo a)) (hu : ∀ a, a < 24 → ex a = true → up a < 16 ∧ lo a < 16) (h : ∀ b, b < 16 → lay b ≤ 8 + rk b) : ∀ n, n ≤ 24 → ∀ b, b < 16 → g_sink ex up lo pn lay n b ≤ 8 + rk b
  | 0, _ => h
  | n + 1, hn => g_s1_bound (by omega) hrk hu (g_sink_bound hrk hu h n (by omega))
theorem g_lay_bound {ex : Nat → Bool} {up lo : Nat → Nat} {pn : Nat → Bool} {rk : Nat → Nat} {lay : Nat → Nat} (hrk : ∀ a, a < 24 → ex a = true → rk (up a) < rk (lo a)) (hu : ∀ a, a < 24 → ex a = true → up a < 16 ∧ lo a < 16) (h : ∀ b, b < 16 → lay b ≤ 8 + rk b) : ∀ n, ∀ b, b < 16 → g_lay ex up lo pn lay n b ≤ 8 + rk b
  | 0 => h
  | n + 1 => g_sink_bound hrk hu (g_lay_bound hrk hu h n) 24 (Nat.le_refl _)
