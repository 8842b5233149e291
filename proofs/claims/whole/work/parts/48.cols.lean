/-! PURE: columns, as both lay them. -/
theorem s_iadd (z : Int) (n : Nat) : iI z + nI n = iI (z + (n : Int)) := by rw [iI_nat, iI_add]
theorem s_iaddL (z : Int) (n : Nat) : iI z + (no_index (OfNat.ofNat n : Int32)) = iI (z + ((OfNat.ofNat n : Nat) : Int)) := s_iadd z n
theorem s_isubn (z : Int) (n : Nat) : iI z - nI n = iI (z - (n : Int)) := by rw [iI_nat, iI_sub]
theorem s_idiv {z : Int} {n : Nat} (h0 : 0 ≤ z) (h1 : z < 2147483648) (hn : n < 2147483648) : iI z / nI n = iI (z / (n : Int)) := by
  obtain ⟨m, rfl⟩ : ∃ m : Nat, z = (m : Int) := ⟨z.toNat, by omega⟩
  rw [← iI_nat, s_div (by omega) hn, iI_nat, Int.natCast_ediv]
def g_mid (wd : Nat → Nat) (X : Nat → Nat → Int) (l c : Nat) : Int := X l c + ((wd c / 2 : Nat) : Int)
def g_Kx (ex : Nat → Bool) (up lo lay : Nat → Nat) (s : Bool) (l : Nat) : List Nat := if s = true ∧ l = 0 then [] else g_Kl ex up lo lay s l
def g_oth (up lo lay : Nat → Nat) (s : Bool) (l a : Nat) : Nat := if s = true then g_uc up lay a (l - 1) else g_lc lo lay a l
def g_bey (s : Bool) (l : Nat) : Nat := if s = true then l - 1 else l + 1
def g_om (up lo lay wd : Nat → Nat) (X : Nat → Nat → Int) (s : Bool) (l a : Nat) : Int := g_mid wd X (g_bey s l) (g_oth up lo lay s l a)
def g_nb (own : Nat → Nat) (K : List Nat) (c : Nat) : List Nat := K.filter (fun a => decide (own a = c))
def g_sm (om : Nat → Int) (L : List Nat) : Int := (L.map om).sum
def g_wn (ex : Nat → Bool) (up lo lay wd : Nat → Nat) (X : Nat → Nat → Int) (s : Bool) (l c : Nat) : Int :=
  if (g_nb (g_own up lo lay s l) (g_Kx ex up lo lay s l) c).length = 0 then X l c else g_sm (g_om up lo lay wd X s l) (g_nb (g_own up lo lay s l) (g_Kx ex up lo lay s l) c) / ((g_nb (g_own up lo lay s l) (g_Kx ex up lo lay s l) c).length : Int) - ((wd c / 2 : Nat) : Int)
def g_pk (wd : Nat → Nat) (R : List Nat) : Nat → Int
  | 0 => 0
  | k + 1 => g_pk wd R k + (wd (R.getD k 0) : Int) + 4
def g_xk (W : Nat → Int) (wd : Nat → Nat) (R : List Nat) : Nat → Int
  | 0 => W (R.getD 0 0)
  | k + 1 => max (W (R.getD (k + 1) 0)) (g_xk W wd R k + (wd (R.getD k 0) : Int) + 4)
/-- the first n items of a layer are set anew -/
def g_xu (X : Nat → Nat → Int) (l : Nat) (R : List Nat) (v : Nat → Int) (n : Nat) : Nat → Nat → Int := fun i c => if i = l ∧ c ∈ R.take n then v (R.idxOf c) else X i c
theorem g_getD {R : List Nat} {k c : Nat} (h : R[k]? = some c) : R.getD k 0 = c := by
  rw [List.getD_eq_getElem?_getD, h]
  rfl
theorem g_idx_of {R : List Nat} {k c : Nat} (hn : R.Nodup) (h : R[k]? = some c) : R.idxOf c = k := g_nd_inj hn (g_idx_get (g_mem_get h)) h
theorem g_xu_0 {X : Nat → Nat → Int} {l : Nat} {R : List Nat} {v : Nat → Int} : g_xu X l R v 0 = X := by
  funext i c
  unfold g_xu
  rw [if_neg (by simp)]
theorem g_not_take {R : List Nat} {k c : Nat} (hn : R.Nodup) (h : R[k]? = some c) : c ∉ R.take k := by
  intro h1
  obtain ⟨j, hj⟩ := List.mem_iff_getElem?.mp h1
  obtain ⟨j1, j2⟩ := g_take_get hj
  have := g_nd_inj hn h j2
  omega
theorem g_xu_old {X : Nat → Nat → Int} {l : Nat} {R : List Nat} {v : Nat → Int} {k c : Nat} (hn : R.Nodup) (h : R[k]? = some c) : g_xu X l R v k l c = X l c := by
  unfold g_xu
  rw [if_neg (fun hh => g_not_take hn h hh.2)]
theorem g_xu_new {X : Nat → Nat → Int} {l : Nat} {R : List Nat} {v : Nat → Int} {n k c : Nat} (hn : R.Nodup) (h : R[k]? = some c) (hk : k < n) : g_xu X l R v n l c = v k := by
  have h1 : (R.take n)[k]? = some c := by rw [List.getElem?_take, if_pos hk]; exact h
  unfold g_xu
  rw [if_pos ⟨rfl, g_mem_get h1⟩, g_idx_of hn h]
theorem g_xu_ne {X : Nat → Nat → Int} {l i : Nat} {R : List Nat} {v : Nat → Int} {n : Nat} (h : i ≠ l) : g_xu X l R v n i = X i := by
  funext c
  unfold g_xu
  rw [if_neg (fun hh => h hh.1)]
/-- the class's columns, and the reference's -/
def c_X (N : Nat) (row : Nat → List Nat) (X : Nat → Nat → Int) (C : Nat → Int32) : Prop := ∀ l, l < N → ∀ c, c ∈ row l → C (l * 40 + c) = iI (X l c)
def m_Xs (N : Nat) (row : Nat → List Nat) (X : Nat → Nat → Int) (Z : Nat → Int32) : Prop := ∀ l, l < N → ∀ k c : Nat, (row l)[k]? = some c → Z (40 * l + k) = iI (X l c)
theorem c_X_upd {N : Nat} {row : Nat → List Nat} {X : Nat → Nat → Int} {C : Nat → Int32} {l k c : Nat} {v : Nat → Int} (hn : (row l).Nodup) (hb : ∀ i, i < N → ∀ c, c ∈ row i → c < 40) (hl : l < N) (hk : (row l)[k]? = some c) (h : c_X N row (g_xu X l (row l) v k) C) : c_X N row (g_xu X l (row l) v (k + 1)) (upd C (l * 40 + c) (iI (v k))) := by
  intro i hi d hd
  have hdb := hb i hi d hd
  have hcb := hb l hl c (g_mem_get hk)
  by_cases hil : i = l
  · subst hil
    by_cases hdc : d = c
    · subst hdc
      rw [pk_us, g_xu_new hn hk (Nat.lt_succ_self k)]
    · rw [pk_un (by omega), h i hi d hd]
      congr 1
      unfold g_xu
      rw [g_take1 hk]
      simp [hdc]
  · rw [pk_un (by omega), h i hi d hd, g_xu_ne hil, g_xu_ne hil]
theorem m_X_upd {N : Nat} {row : Nat → List Nat} {X : Nat → Nat → Int} {Z : Nat → Int32} {l k c : Nat} {v : Nat → Int} (hn : (row l).Nodup) (hb : ∀ i, i < N → (row i).length ≤ 40) (hl : l < N) (hk : (row l)[k]? = some c) (h : m_Xs N row (g_xu X l (row l) v k) Z) : m_Xs N row (g_xu X l (row l) v (k + 1)) (upd Z (40 * l + k) (iI (v k))) := by
  intro i hi j d hd
  have hjb := hb i hi
  have hkb := hb l hl
  have hj := g_lt_len hd
  have hkl := g_lt_len hk
  by_cases hil : i = l
  · subst hil
    by_cases hjk : j = k
    · subst hjk
      rw [hk] at hd
      cases hd
      rw [pk_us, g_xu_new hn hk (Nat.lt_succ_self j)]
    · rw [pk_un (by omega), h i hi j d hd]
      congr 1
      have hdc : d ≠ c := fun e => hjk (g_nd_inj hn hd (e ▸ hk))
      unfold g_xu
      rw [g_take1 hk]
      simp [hdc]
  · rw [pk_un (by omega), h i hi j d hd, g_xu_ne hil, g_xu_ne hil]
/-! bounds -/
def g_XB (N : Nat) (row : Nat → List Nat) (wd : Nat → Nat) (X : Nat → Nat → Int) (M : Int) : Prop := ∀ l, l < N → ∀ c, c ∈ row l → 0 ≤ g_mid wd X l c ∧ g_mid wd X l c ≤ M
theorem g_sm_b {om : Nat → Int} {M : Int} : ∀ L : List Nat, (∀ a, a ∈ L → 0 ≤ om a ∧ om a ≤ M) → 0 ≤ g_sm om L ∧ g_sm om L ≤ (L.length : Int) * M
  | [], _ => by simp [g_sm]
  | a :: L, h => by
    have h1 := g_sm_b L (fun b hb => h b (by simp [hb]))
    have h2 := h a (by simp)
    unfold g_sm at h1 ⊢
    rw [List.map_cons, List.sum_cons, List.length_cons]
    have e : ((L.length + 1 : Nat) : Int) * M = (L.length : Int) * M + M := by
      rw [Int.natCast_add, Int.add_mul]
      simp
    rw [e]
    omega
theorem g_sm_snoc {om : Nat → Int} {L : List Nat} {a : Nat} : g_sm om (L ++ [a]) = g_sm om L + om a := by
  unfold g_sm
  rw [List.map_append, List.sum_append]
  simp
theorem g_nb_succ {own : Nat → Nat} {K : List Nat} {k a c : Nat} (h : K[k]? = some a) : g_nb own (K.take (k + 1)) c = if own a = c then g_nb own (K.take k) c ++ [a] else g_nb own (K.take k) c := g_flt1 h
theorem g_xk_b {W : Nat → Int} {wd : Nat → Nat} {R : List Nat} {M : Int} (hwd : ∀ c, 1 ≤ wd c ∧ wd c ≤ 50) (hW : ∀ c, c ∈ R → 0 ≤ W c + ((wd c / 2 : Nat) : Int) ∧ W c + ((wd c / 2 : Nat) : Int) ≤ M) : ∀ k c : Nat, R[k]? = some c → 0 ≤ g_xk W wd R k + ((wd c / 2 : Nat) : Int) ∧ g_xk W wd R k + ((wd c / 2 : Nat) : Int) ≤ M + 54 * (k : Int) := by
  intro k
  induction k with
  | zero =>
    intro c h
    have := hW c (g_mem_get h)
    rw [g_xk, g_getD h]
    omega
  | succ k ih =>
    intro c h
    have hl := g_lt_len h
    obtain ⟨d, hd⟩ : ∃ d, R[k]? = some d := ⟨_, List.getElem?_eq_getElem (by omega)⟩
    have h1 := ih d hd
    have h2 := hW c (g_mem_get h)
    have h3 := hwd c
    have h4 := hwd d
    rw [g_xk, g_getD h, g_getD hd]
    have h5 : ((k + 1 : Nat) : Int) = (k : Int) + 1 := by omega
    rw [h5]
    omega
section CX
variable {ex bx : Nat → Bool} {up lo lay : Nat → Nat} {N : Nat} {row : Nat → List Nat} {wd : Nat → Nat} {X : Nat → Nat → Int}
theorem g_Kx_mem {s : Bool} {l a : Nat} (h : a ∈ g_Kx ex up lo lay s l) : a < 24 ∧ g_pc ex up lo lay a (if s = true then l - 1 else l) = true ∧ (s = true → 1 ≤ l) := by
  unfold g_Kx at h
  split at h
  · simp at h
  · next hc =>
    obtain ⟨h1, h2⟩ := g_ps_mem.mp h
    refine ⟨h1, h2, fun hs => ?_⟩
    by_cases h0 : l = 0
    · exact absurd ⟨hs, h0⟩ hc
    · omega
theorem g_oth_mem (hG : g_G ex up lo bx lay N) (hV : g_V ex up lo bx lay N row) {s : Bool} {l a : Nat} (h : a ∈ g_Kx ex up lo lay s l) : g_bey s l < N ∧ g_oth up lo lay s l a ∈ row (g_bey s l) ∧ g_own up lo lay s l a ∈ row l := by
  obtain ⟨h1, h2, h3⟩ := g_Kx_mem h
  unfold g_bey g_oth g_own
  cases s with
  | false =>
    have h4 := g_pc_N hG h1 h2
    exact ⟨h4, g_lc_mem hG hV h1 h2, g_uc_mem hG hV h1 h2⟩
  | true =>
    have h5 := h3 rfl
    have h4 := g_pc_N hG h1 h2
    refine ⟨?_, g_uc_mem hG hV h1 h2, ?_⟩
    · show l - 1 < N
      have h6 : (if true = true then l - 1 else l) + 1 < N := h4
      rw [if_pos rfl] at h6
      omega
    · have h6 := g_lc_mem hG hV h1 h2
      rw [if_pos rfl, show l - 1 + 1 = l by omega] at h6
      exact h6
theorem g_Kx_len {s : Bool} {l : Nat} : (g_Kx ex up lo lay s l).length ≤ 24 := by
  unfold g_Kx
  split
  · simp
  · exact g_ps_len 24 _
theorem g_wn_b (hG : g_G ex up lo bx lay N) (hV : g_V ex up lo bx lay N row) {M : Int} (hB : g_XB N row wd X M) {s : Bool} {l : Nat} (hl : l < N) : ∀ c, c ∈ row l → 0 ≤ g_wn ex up lo lay wd X s l c + ((wd c / 2 : Nat) : Int) ∧ g_wn ex up lo lay wd X s l c + ((wd c / 2 : Nat) : Int) ≤ M := by
  intro c hc
  unfold g_wn
  split
  · exact hB l hl c hc
  · next h0 =>
    have h1 := g_sm_b (om := g_om up lo lay wd X s l) (M := M) (g_nb (g_own up lo lay s l) (g_Kx ex up lo lay s l) c) (fun a ha => by
      obtain ⟨k1, k2, -⟩ := g_oth_mem hG hV (List.mem_filter.mp ha).1
      exact hB _ k1 _ k2)
    generalize g_sm (g_om up lo lay wd X s l) (g_nb (g_own up lo lay s l) (g_Kx ex up lo lay s l) c) = S at h1
    generalize (g_nb (g_own up lo lay s l) (g_Kx ex up lo lay s l) c).length = n at h0 h1
    have hn : (0 : Int) < (n : Int) := by omega
    have e1 : 0 ≤ S / (n : Int) := Int.ediv_nonneg h1.1 (by omega)
    have e2 : S / (n : Int) ≤ M := by
      have h2 := Int.ediv_le_ediv hn h1.2
      rw [Int.mul_ediv_cancel_left _ (by omega)] at h2
      exact h2
    omega
/-- a pass over one layer -/
def g_xp (ex : Nat → Bool) (up lo lay : Nat → Nat) (row : Nat → List Nat) (wd : Nat → Nat) (s : Bool) (l : Nat) (X : Nat → Nat → Int) : Nat → Nat → Int := g_xu X l (row l) (g_xk (g_wn ex up lo lay wd X s l) wd (row l)) (row l).length
theorem g_XB_xu {M : Int} {l : Nat} {v : Nat → Int} (hn : (row l).Nodup) (hB : ∀ i, i < N → i ≠ l → ∀ c, c ∈ row i → 0 ≤ g_mid wd X i c ∧ g_mid wd X i c ≤ M) (hv : ∀ k c : Nat, (row l)[k]? = some c → 0 ≤ v k + ((wd c / 2 : Nat) : Int) ∧ v k + ((wd c / 2 : Nat) : Int) ≤ M) : g_XB N row wd (g_xu X l (row l) v (row l).length) M := by
  intro i hi c hc
  unfold g_mid
  by_cases hil : i = l
  · subst hil
    obtain ⟨k, hk⟩ := List.mem_iff_getElem?.mp hc
    rw [g_xu_new hn hk (g_lt_len hk)]
    exact hv k c hk
  · rw [g_xu_ne hil]
    exact hB i hi hil c hc
theorem g_XB_xp (hG : g_G ex up lo bx lay N) (hV : g_V ex up lo bx lay N row) (hwd : ∀ c, 1 ≤ wd c ∧ wd c ≤ 50) (h40 : ∀ i, i < N → (row i).length ≤ 40) {M : Int} (hB : g_XB N row wd X M) (s : Bool) {l : Nat} (hl : l < N) : g_XB N row wd (g_xp ex up lo lay row wd s l X) (M + 2160) := by
  have hN := hG.1
  refine g_XB_xu (hV l (by omega)).1 (fun i hi _ c hc => ?_) ?_
  · have := hB i hi c hc
    omega
  · intro k c hk
    have h1 := g_xk_b hwd (g_wn_b hG hV hB (s := s) hl) k c hk
    have h2 := g_lt_len hk
    have h3 := h40 l hl
    omega
def g_xa (ex : Nat → Bool) (up lo lay : Nat → Nat) (row : Nat → List Nat) (wd : Nat → Nat) (N : Nat) (s : Bool) (X : Nat → Nat → Int) : Nat → Nat → Nat → Int
  | 0 => X
  | k + 1 => g_xp ex up lo lay row wd s (if s = true then k else N - 1 - k) (g_xa ex up lo lay row wd N s X k)
def g_x4 (ex : Nat → Bool) (up lo lay : Nat → Nat) (row : Nat → List Nat) (wd : Nat → Nat) (N : Nat) (X : Nat → Nat → Int) : Nat → Nat → Nat → Int
  | 0 => X
  | n + 1 => g_xa ex up lo lay row wd N (decide (n % 2 = 0)) (g_x4 ex up lo lay row wd N X n) N
def g_xpk (row : Nat → List Nat) (wd : Nat → Nat) (X : Nat → Nat → Int) : Nat → Nat → Nat → Int
  | 0 => X
  | n + 1 => g_xu (g_xpk row wd X n) n (row n) (g_pk wd (row n)) (row n).length
theorem g_XB_xa (hG : g_G ex up lo bx lay N) (hV : g_V ex up lo bx lay N row) (hwd : ∀ c, 1 ≤ wd c ∧ wd c ≤ 50) (h40 : ∀ i, i < N → (row i).length ≤ 40) {M : Int} (hB : g_XB N row wd X M) (s : Bool) : ∀ k, k ≤ N → g_XB N row wd (g_xa ex up lo lay row wd N s X k) (M + 2160 * (k : Int))
  | 0, _ => by
    intro l hl c hc
    have := hB l hl c hc
    exact ⟨this.1, by show _ ≤ M + 2160 * ((0 : Nat) : Int); have := this.2; show g_mid wd X l c ≤ _; omega⟩
  | k + 1, hk => by
    have h1 := g_XB_xp hG hV hwd h40 (g_XB_xa hG hV hwd h40 hB s k (by omega)) s (l := if s = true then k else N - 1 - k) (by split <;> omega)
    have e : M + 2160 * ((k + 1 : Nat) : Int) = M + 2160 * (k : Int) + 2160 := by omega
    rw [e]
    exact h1
theorem g_XB_mono {M M' : Int} (h : M ≤ M') (hB : g_XB N row wd X M) : g_XB N row wd X M' := fun l hl c hc => ⟨(hB l hl c hc).1, by have := (hB l hl c hc).2; omega⟩
theorem g_XB_x4 (hG : g_G ex up lo bx lay N) (hV : g_V ex up lo bx lay N row) (hwd : ∀ c, 1 ≤ wd c ∧ wd c ≤ 50) (h40 : ∀ i, i < N → (row i).length ≤ 40) {M : Int} (hB : g_XB N row wd X M) : ∀ n, g_XB N row wd (g_x4 ex up lo lay row wd N X n) (M + 51840 * (n : Int))
  | 0 => g_XB_mono (by omega) hB
  | n + 1 => by
    have hN := hG.1
    have h1 := g_XB_xa hG hV hwd h40 (g_XB_x4 hG hV hwd h40 hB n) (decide (n % 2 = 0)) N (Nat.le_refl _)
    refine g_XB_mono ?_ h1
    omega
theorem g_pk_b {R : List Nat} (hwd : ∀ c, 1 ≤ wd c ∧ wd c ≤ 50) : ∀ k : Nat, 0 ≤ g_pk wd R k ∧ g_pk wd R k ≤ 54 * (k : Int)
  | 0 => by rw [g_pk]; omega
  | k + 1 => by
    have h1 := g_pk_b (R := R) hwd k
    have h2 := hwd (R.getD k 0)
    rw [g_pk]
    omega
theorem g_xpk_at {l c k : Nat} (hn : (row l).Nodup) (hk : (row l)[k]? = some c) : ∀ n : Nat, l < n → g_xpk row wd X n l c = g_pk wd (row l) k
  | 0, h => by omega
  | n + 1, h => by
    rw [g_xpk]
    by_cases hln : l = n
    · subst hln
      exact g_xu_new hn hk (g_lt_len hk)
    · rw [g_xu_ne hln]
      exact g_xpk_at hn hk n (by omega)
theorem g_XB_pk (hV : g_V ex up lo bx lay N row) (hN : N ≤ 24) (hwd : ∀ c, 1 ≤ wd c ∧ wd c ≤ 50) (h40 : ∀ i, i < N → (row i).length ≤ 40) : g_XB N row wd (g_xpk row wd X N) 2185 := by
  intro l hl c hc
  obtain ⟨k, hk⟩ := List.mem_iff_getElem?.mp hc
  have h1 := g_pk_b (R := row l) hwd k
  have h2 := hwd c
  have h3 := g_lt_len hk
  have h4 := h40 l hl
  unfold g_mid
  rw [g_xpk_at (hV l (by omega)).1 hk N hl]
  omega
/-- the least x -/
def g_isM (N : Nat) (row : Nat → List Nat) (X : Nat → Nat → Int) (m : Int) : Prop := (∀ l, l < N → ∀ c, c ∈ row l → m ≤ X l c) ∧ ((∃ l c, l < N ∧ c ∈ row l ∧ X l c = m) ∨ ((∀ l, l < N → row l = []) ∧ m = 0))
theorem g_isM_one {m m' : Int} (h : g_isM N row X m) (h' : g_isM N row X m') : m = m' := by
  obtain ⟨h1, h2⟩ := h
  obtain ⟨h3, h4⟩ := h'
  rcases h2 with ⟨l, c, a1, a2, a3⟩ | ⟨a1, a2⟩
  · rcases h4 with ⟨l', c', b1, b2, b3⟩ | ⟨b1, b2⟩
    · have k1 := h1 l' b1 c' b2
      have k2 := h3 l a1 c a2
      omega
    · rw [b1 l a1] at a2
      simp at a2
  · rcases h4 with ⟨l', c', b1, b2, b3⟩ | ⟨b1, b2⟩
    · rw [a1 l' b1] at b2
      simp at b2
    · omega
def g_xs0 (X : Nat → Nat → Int) (m : Int) : Nat → Nat → Int := fun l c => X l c - m
/-- behind each other -/
def g_inc (N : Nat) (row : Nat → List Nat) (wd : Nat → Nat) (X : Nat → Nat → Int) : Prop := ∀ l, l < N → ∀ k c d : Nat, (row l)[k]? = some c → (row l)[k + 1]? = some d → X l c + (wd c : Int) + 4 ≤ X l d
end CX
