/-! PURE: running a body by simp. -/
section SX
theorem s_in {i n : Nat} (h : i < n) (hn : n ≤ 2147483648) : q_in (nI i) n = True := eq_true (n_in h (by omega))
theorem s_cl {n : Nat} (h : n < 2147483648) : (nI n).toNatClampNeg = n := nI_clamp (by omega)
theorem s_le {a b : Nat} (ha : a < 2147483648) (hb : b < 2147483648) : (nI a ≤ nI b) = (a ≤ b) := n_le (by omega) (by omega)
theorem s_lt {a b : Nat} (ha : a < 2147483648) (hb : b < 2147483648) : (nI a < nI b) = (a < b) := n_lt (by omega) (by omega)
theorem s_eq {a b : Nat} (ha : a < 2147483648) (hb : b < 2147483648) : (nI a = nI b) = (a = b) := n_eq (by omega) (by omega)
theorem s_leL {n b : Nat} (ha : (OfNat.ofNat n : Nat) < 2147483648) (hb : b < 2147483648) : ((no_index (OfNat.ofNat n : Int32)) ≤ nI b) = ((OfNat.ofNat n : Nat) ≤ b) := s_le ha hb
theorem s_ltL {n b : Nat} (ha : (OfNat.ofNat n : Nat) < 2147483648) (hb : b < 2147483648) : ((no_index (OfNat.ofNat n : Int32)) < nI b) = ((OfNat.ofNat n : Nat) < b) := s_lt ha hb
theorem s_eqL {n b : Nat} (ha : (OfNat.ofNat n : Nat) < 2147483648) (hb : b < 2147483648) : ((no_index (OfNat.ofNat n : Int32)) = nI b) = ((OfNat.ofNat n : Nat) = b) := s_eq ha hb
theorem s_leR {n b : Nat} (ha : (OfNat.ofNat n : Nat) < 2147483648) (hb : b < 2147483648) : (nI b ≤ (no_index (OfNat.ofNat n : Int32))) = (b ≤ (OfNat.ofNat n : Nat)) := s_le hb ha
theorem s_ltR {n b : Nat} (ha : (OfNat.ofNat n : Nat) < 2147483648) (hb : b < 2147483648) : (nI b < (no_index (OfNat.ofNat n : Int32))) = (b < (OfNat.ofNat n : Nat)) := s_lt hb ha
theorem s_eqR {n b : Nat} (ha : (OfNat.ofNat n : Nat) < 2147483648) (hb : b < 2147483648) : (nI b = (no_index (OfNat.ofNat n : Int32))) = (b = (OfNat.ofNat n : Nat)) := s_eq hb ha
theorem s_addL {n b : Nat} : nI b + (no_index (OfNat.ofNat n : Int32)) = nI (b + (OfNat.ofNat n : Nat)) := nI_add b n
theorem s_addL' {n b : Nat} : (no_index (OfNat.ofNat n : Int32)) + nI b = nI ((OfNat.ofNat n : Nat) + b) := nI_add n b
theorem s_mul (a b : Nat) : nI a * nI b = nI (a * b) := (Int32.ofNat_mul a b).symm
theorem s_mulL {n b : Nat} : nI b * (no_index (OfNat.ofNat n : Int32)) = nI (b * (OfNat.ofNat n : Nat)) := s_mul b n
theorem s_mulL' {n b : Nat} : (no_index (OfNat.ofNat n : Int32)) * nI b = nI ((OfNat.ofNat n : Nat) * b) := s_mul n b
theorem s_sub {a b : Nat} (h : b ≤ a) : nI a - nI b = nI (a - b) := by
  have : nI a = nI (a - b) + nI b := by rw [nI_add]; congr 1; omega
  rw [this]
  apply Int32.toBitVec_inj.mp
  rw [Int32.toBitVec_sub, Int32.toBitVec_add, BitVec.add_sub_cancel]
theorem s_subL {n b : Nat} (h : (OfNat.ofNat n : Nat) ≤ b) : nI b - (no_index (OfNat.ofNat n : Int32)) = nI (b - (OfNat.ofNat n : Nat)) := s_sub h
theorem s_m1 {n : Nat} (h : n < 2147483648) : (nI n = -1) = False := eq_false (n_m1 (by omega))
theorem s_m1' {n : Nat} (h : n < 2147483648) : (-1 = nI n) = False := eq_false (fun e => n_m1 (by omega) e.symm)
theorem s_lm1 {n : Nat} (h : n < 2147483648) : (nI n ≤ -1) = False := eq_false (fun e => by
  have h1 : nI n < 0 := Int32.lt_of_le_of_lt e (by decide)
  exact nI_pos (by omega) h1)
theorem s_ltm1 {n : Nat} (h : n < 2147483648) : (nI n < -1) = False := eq_false (fun e => by
  have h1 : nI n < 0 := Int32.lt_trans e (by decide)
  exact nI_pos (by omega) h1)
theorem s_m1lt {n : Nat} (h : n < 2147483648) : (-1 < nI n) = True := eq_true (Int32.lt_of_lt_of_le (by decide) (nI_pos' (by omega)))
theorem s_m1le {n : Nat} (h : n < 2147483648) : (-1 ≤ nI n) = True := eq_true (Int32.le_of_lt (Int32.lt_of_lt_of_le (by decide) (nI_pos' (by omega))))
theorem s_m1p : (-1 : Int32) + 1 = 0 := by decide
theorem n_max (a b : Nat) : nI (max a b) = if a < b then nI b else nI a := by
  rw [Nat.max_def]
  by_cases h : a < b
  · rw [if_pos h, if_pos (by omega)]
  · rw [if_neg h]
    by_cases h2 : a ≤ b
    · rw [if_pos h2]; congr 1; omega
    · rw [if_neg h2]
theorem s_10 : ((1 : Int32) = 0) = False := by decide
theorem s_let {α β : Type} (x : α) (f : α → Option β) : q_let x f = f x := rfl
theorem s_el {α β γ : Type} (f : α → γ) (g : β → γ) (u : α) : Sum.elim f g (.inl u) = f u := rfl
theorem s_er {α β γ : Type} (f : α → γ) (g : β → γ) (u : β) : Sum.elim f g (.inr u) = g u := rfl
theorem s_b2 {A0 A1 B : Type} (x0 : A0) (x1 : A1) (f : A0 → A1 → Option B) : q_b2 (some (x0, x1)) f = f x0 x1 := rfl
theorem s_b3 {A0 A1 A2 B : Type} (x0 : A0) (x1 : A1) (x2 : A2) (f : A0 → A1 → A2 → Option B) : q_b3 (some (x0, x1, x2)) f = f x0 x1 x2 := rfl
theorem s_b4 {A0 A1 A2 A3 B : Type} (x0 : A0) (x1 : A1) (x2 : A2) (x3 : A3) (f : A0 → A1 → A2 → A3 → Option B) : q_b4 (some (x0, x1, x2, x3)) f = f x0 x1 x2 x3 := rfl
theorem s_b5 {A0 A1 A2 A3 A4 B : Type} (x0 : A0) (x1 : A1) (x2 : A2) (x3 : A3) (x4 : A4) (f : A0 → A1 → A2 → A3 → A4 → Option B) : q_b5 (some (x0, x1, x2, x3, x4)) f = f x0 x1 x2 x3 x4 := rfl
theorem s_b6 {A0 A1 A2 A3 A4 A5 B : Type} (x0 : A0) (x1 : A1) (x2 : A2) (x3 : A3) (x4 : A4) (x5 : A5) (f : A0 → A1 → A2 → A3 → A4 → A5 → Option B) : q_b6 (some (x0, x1, x2, x3, x4, x5)) f = f x0 x1 x2 x3 x4 x5 := rfl
theorem s_b7 {A0 A1 A2 A3 A4 A5 A6 B : Type} (x0 : A0) (x1 : A1) (x2 : A2) (x3 : A3) (x4 : A4) (x5 : A5) (x6 : A6) (f : A0 → A1 → A2 → A3 → A4 → A5 → A6 → Option B) : q_b7 (some (x0, x1, x2, x3, x4, x5, x6)) f = f x0 x1 x2 x3 x4 x5 x6 := rfl
theorem s_b8 {A0 A1 A2 A3 A4 A5 A6 A7 B : Type} (x0 : A0) (x1 : A1) (x2 : A2) (x3 : A3) (x4 : A4) (x5 : A5) (x6 : A6) (x7 : A7) (f : A0 → A1 → A2 → A3 → A4 → A5 → A6 → A7 → Option B) : q_b8 (some (x0, x1, x2, x3, x4, x5, x6, x7)) f = f x0 x1 x2 x3 x4 x5 x6 x7 := rfl
theorem s_b9 {A0 A1 A2 A3 A4 A5 A6 A7 A8 B : Type} (x0 : A0) (x1 : A1) (x2 : A2) (x3 : A3) (x4 : A4) (x5 : A5) (x6 : A6) (x7 : A7) (x8 : A8) (f : A0 → A1 → A2 → A3 → A4 → A5 → A6 → A7 → A8 → Option B) : q_b9 (some (x0, x1, x2, x3, x4, x5, x6, x7, x8)) f = f x0 x1 x2 x3 x4 x5 x6 x7 x8 := rfl
theorem s_b10 {A0 A1 A2 A3 A4 A5 A6 A7 A8 A9 B : Type} (x0 : A0) (x1 : A1) (x2 : A2) (x3 : A3) (x4 : A4) (x5 : A5) (x6 : A6) (x7 : A7) (x8 : A8) (x9 : A9) (f : A0 → A1 → A2 → A3 → A4 → A5 → A6 → A7 → A8 → A9 → Option B) : q_b10 (some (x0, x1, x2, x3, x4, x5, x6, x7, x8, x9)) f = f x0 x1 x2 x3 x4 x5 x6 x7 x8 x9 := rfl
theorem s_b11 {A0 A1 A2 A3 A4 A5 A6 A7 A8 A9 A10 B : Type} (x0 : A0) (x1 : A1) (x2 : A2) (x3 : A3) (x4 : A4) (x5 : A5) (x6 : A6) (x7 : A7) (x8 : A8) (x9 : A9) (x10 : A10) (f : A0 → A1 → A2 → A3 → A4 → A5 → A6 → A7 → A8 → A9 → A10 → Option B) : q_b11 (some (x0, x1, x2, x3, x4, x5, x6, x7, x8, x9, x10)) f = f x0 x1 x2 x3 x4 x5 x6 x7 x8 x9 x10 := rfl
theorem s_b12 {A0 A1 A2 A3 A4 A5 A6 A7 A8 A9 A10 A11 B : Type} (x0 : A0) (x1 : A1) (x2 : A2) (x3 : A3) (x4 : A4) (x5 : A5) (x6 : A6) (x7 : A7) (x8 : A8) (x9 : A9) (x10 : A10) (x11 : A11) (f : A0 → A1 → A2 → A3 → A4 → A5 → A6 → A7 → A8 → A9 → A10 → A11 → Option B) : q_b12 (some (x0, x1, x2, x3, x4, x5, x6, x7, x8, x9, x10, x11)) f = f x0 x1 x2 x3 x4 x5 x6 x7 x8 x9 x10 x11 := rfl
theorem s_bind {α β : Type} (x : α) (f : α → Option β) : Option.bind (some x) f = f x := rfl
end SX
/-- N layers: the least number above the layers of all boxes below k -/
def g_cnt (bx : Nat → Bool) (lay : Nat → Nat) : Nat → Nat
  | 0 => 0
  | k + 1 => if bx k then max (g_cnt bx lay k) (lay k + 1) else g_cnt bx lay k
theorem g_cnt_le {bx : Nat → Bool} {lay : Nat → Nat} {M : Nat} : ∀ k, (∀ b, b < k → bx b = true → lay b < M) → g_cnt bx lay k ≤ M := by
  intro k
  induction k with
  | zero => intro _; exact Nat.zero_le _
  | succ k ih =>
    intro h
    have h1 := ih (fun b hb => h b (by omega))
    unfold g_cnt
    split
    · rename_i hb; have := h k (by omega) hb; omega
    · exact h1
theorem p_countLayers {bx : Nat → Bool} {lay : Nat → Nat} {L : Nat → Int32} (hL : c_L bx lay L) (hb : ∀ b, b < 16 → bx b = true → lay b < 24) : fX3_countLayers L = some (nI (g_cnt bx lay 16)) := by
  unfold fX3_countLayers
  have H9 : ∃ e, q_lo (fun (st : Int32 × Int32) => bX3_countLayers_7 L st.1 st.2) (0, 0) = some e ∧ e = nI (g_cnt bx lay 16) := by
    refine q_inv (fun k (st : Int32 × Int32) => st = (nI k, nI (g_cnt bx lay k))) 16 ?_ ?_ (0, 0) rfl
    · rintro k st hk rfl
      have h1 := g_cnt_le (M := 24) k (fun b hb' => hb b (by omega))
      refine ⟨_, ?_, rfl⟩
      show bX3_countLayers_7 L (nI k) (nI (g_cnt bx lay k)) = _
      unfold bX3_countLayers_7
      rw [g_cnt]
      cases hx : bx k
      · simp (disch := omega) only [s_in, s_cl, s_leL, s_ltL, s_eqL, s_leR, s_ltR, s_eqR, s_le, s_lt, s_eq, s_addL, s_addL', s_mulL, s_mulL', s_mul, nI_add, s_subL, s_sub, s_m1, s_m1', s_lm1, s_ltm1, s_m1lt, s_m1le, s_m1p, s_10, s_let, s_el, s_er, s_b2, s_b3, s_b4, s_b5, s_b6, s_b7, s_b8, s_b9, s_b10, s_b11, s_b12, s_bind, eq_self, if_pos, if_neg, ite_true, ite_false, if_true, if_false, Bool.false_eq_true, reduceIte, hL k hk, hx]
      · have := hb k hk hx
        simp (disch := omega) only [s_in, s_cl, s_leL, s_ltL, s_eqL, s_leR, s_ltR, s_eqR, s_le, s_lt, s_eq, s_addL, s_addL', s_mulL, s_mulL', s_mul, nI_add, s_subL, s_sub, s_m1, s_m1', s_lm1, s_ltm1, s_m1lt, s_m1le, s_m1p, s_10, s_let, s_el, s_er, s_b2, s_b3, s_b4, s_b5, s_b6, s_b7, s_b8, s_b9, s_b10, s_b11, s_b12, s_bind, eq_self, if_pos, if_neg, ite_true, ite_false, if_true, if_false, Bool.false_eq_true, reduceIte, hL k hk, hx]
        rw [n_max]
    · rintro st rfl
      refine ⟨_, ?_, rfl⟩
      show bX3_countLayers_7 L (nI 16) _ = _
      unfold bX3_countLayers_7
      simp (disch := omega) only [s_in, s_cl, s_leL, s_ltL, s_eqL, s_leR, s_ltR, s_eqR, s_le, s_lt, s_eq, s_addL, s_addL', s_mulL, s_mulL', s_mul, nI_add, s_subL, s_sub, s_m1, s_m1', s_lm1, s_ltm1, s_m1lt, s_m1le, s_m1p, s_10, s_let, s_el, s_er, s_b2, s_b3, s_b4, s_b5, s_b6, s_b7, s_b8, s_b9, s_b10, s_b11, s_b12, s_bind, eq_self, if_pos, if_neg, ite_true, ite_false, if_true, if_false, Bool.false_eq_true, reduceIte]
  obtain ⟨e, h1, h2⟩ := H9
  simp (disch := omega) only [s_in, s_cl, s_leL, s_ltL, s_eqL, s_leR, s_ltR, s_eqR, s_le, s_lt, s_eq, s_addL, s_addL', s_mulL, s_mulL', s_mul, nI_add, s_subL, s_sub, s_m1, s_m1', s_lm1, s_ltm1, s_m1lt, s_m1le, s_m1p, s_10, s_let, s_el, s_er, s_b2, s_b3, s_b4, s_b5, s_b6, s_b7, s_b8, s_b9, s_b10, s_b11, s_b12, s_bind, eq_self, if_pos, if_neg, ite_true, ite_false, if_true, if_false, Bool.false_eq_true, reduceIte, h1, h2]
