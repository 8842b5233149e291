/-! PURE: rows on the functions alone (no machine). -/
/-- a loop by an invariant: N turns, then the end -/
theorem q_inv {S E : Type} {B : S → Option (S ⊕ E)} {Post : E → Prop} (I : Nat → S → Prop) (N : Nat) (hs : ∀ i s, i < N → I i s → ∃ t, B s = some (.inl t) ∧ I (i + 1) t) (he : ∀ s, I N s → ∃ e, B s = some (.inr e) ∧ Post e) (s : S) (h0 : I 0 s) : ∃ e, q_lo B s = some e ∧ Post e := by
  have key : ∀ k i s, i + k = N → I i s → ∃ e, q_lo B s = some e ∧ Post e := by
    intro k
    induction k with
    | zero =>
      intro i s hi h
      have : i = N := by omega
      subst this
      obtain ⟨e, h1, h2⟩ := he s h
      exact ⟨e, q_lo_end h1, h2⟩
    | succ k ih =>
      intro i s hi h
      obtain ⟨t, h1, h2⟩ := hs i s (by omega) h
      obtain ⟨e, h3, h4⟩ := ih (i + 1) t (by omega) h2
      exact ⟨e, q_lo_on h1 h3, h4⟩
  exact key N 0 s (by omega) h0
/-- a loop by an invariant and a measure -/
theorem q_invm {S E : Type} {B : S → Option (S ⊕ E)} {Post : E → Prop} (I : S → Prop) (μ : S → Nat) (hs : ∀ s, I s → (∃ t, B s = some (.inl t) ∧ I t ∧ μ t < μ s) ∨ ∃ e, B s = some (.inr e) ∧ Post e) (s : S) (h0 : I s) : ∃ e, q_lo B s = some e ∧ Post e := by
  have key : ∀ k s, μ s < k → I s → ∃ e, q_lo B s = some e ∧ Post e := by
    intro k
    induction k with
    | zero => intro s h; omega
    | succ k ih =>
      intro s hk h
      rcases hs s h with ⟨t, h1, h2, h3⟩ | ⟨e, h1, h2⟩
      · obtain ⟨e, h4, h5⟩ := ih t (by omega) h2
        exact ⟨e, q_lo_on h1 h4, h5⟩
      · exact ⟨e, q_lo_end h1, h2⟩
  exact key (μ s + 1) s (by omega) h0
theorem n_lit (n : Nat) : (OfNat.ofNat n : Int32) = nI n := rfl
theorem n_pos (i : Nat) (h : i < 2 ^ 31) : ¬ nI i < 0 := nI_pos h
theorem n_in {i n : Nat} (h : i < n) (hn : n ≤ 2 ^ 31) : q_in (nI i) n := by
  intro hc
  rcases hc with hc | hc
  · exact nI_pos (by omega) hc
  · rw [nI_clamp (by omega)] at hc; omega
theorem n_lt {a b : Nat} (ha : a < 2 ^ 31) (hb : b < 2 ^ 31) : (nI a < nI b) = (a < b) := propext (nI_ltI ha hb)
theorem n_le {a b : Nat} (ha : a < 2 ^ 31) (hb : b < 2 ^ 31) : (nI a ≤ nI b) = (a ≤ b) := propext (nI_leI ha hb)
theorem n_eq {a b : Nat} (ha : a < 2 ^ 31) (hb : b < 2 ^ 31) : (nI a = nI b) = (a = b) := propext (nI_eq ha hb)
theorem p_hasBox {w : Nat → Int32} {i : Nat} (hi : i < 16) : fX7_hasBox w (nI i) = some (if w i ≤ 0 then 0 else 1) := by
  unfold fX7_hasBox
  rw [if_neg (nI_pos (by omega)), n_lit 16, if_neg (by rw [n_le (by omega) (by omega)]; omega), if_pos (n_in hi (by omega)), nI_clamp (by omega)]
  split <;> rfl
theorem p_hasBoxN {w : Nat → Int32} : fX7_hasBox w (-1) = some 0 := by
  unfold fX7_hasBox
  rw [if_pos (by decide)]
theorem p_hasArrow {f : Nat → Int32} {i : Nat} (hi : i < 24) : fX7_hasArrow f (nI i) = some (if f i = -1 then 0 else 1) := by
  unfold fX7_hasArrow
  rw [if_neg (nI_pos (by omega)), n_lit 24, if_neg (by rw [n_le (by omega) (by omega)]; omega), if_pos (n_in hi (by omega)), nI_clamp (by omega)]
  split <;> rfl
/-! ===== Int32 by its bits: bt x i ===== -/
def bt (x : Int32) (i : Nat) : Bool := x.toBitVec.getLsbD i
theorem b_ext {x y : Int32} (h : ∀ i, i < 32 → bt x i = bt y i) : x = y := Int32.toBitVec_inj.mp (BitVec.eq_of_getLsbD_eq (fun i hi => h i hi))
theorem b_or (x y : Int32) (i : Nat) : bt (x ||| y) i = (bt x i || bt y i) := by unfold bt; rw [Int32.toBitVec_or, BitVec.getLsbD_or]
theorem b_and (x y : Int32) (i : Nat) : bt (x &&& y) i = (bt x i && bt y i) := by unfold bt; rw [Int32.toBitVec_and, BitVec.getLsbD_and]
theorem b_xor (x y : Int32) (i : Nat) : bt (x ^^^ y) i = (bt x i ^^ bt y i) := by unfold bt; rw [Int32.toBitVec_xor, BitVec.getLsbD_xor]
theorem b_big {x : Int32} {i : Nat} (h : 32 ≤ i) : bt x i = false := BitVec.getLsbD_of_ge _ _ h
theorem b_255 (i : Nat) : bt 255 i = decide (i < 8) := by
  rcases Nat.lt_or_ge i 32 with h | h
  · exact (by decide +kernel : ∀ i, i < 32 → bt 255 i = decide (i < 8)) i h
  · rw [b_big h, decide_eq_false (by omega)]
theorem b_65535 (i : Nat) : bt 65535 i = decide (i < 16) := by
  rcases Nat.lt_or_ge i 32 with h | h
  · exact (by decide +kernel : ∀ i, i < 32 → bt 65535 i = decide (i < 16)) i h
  · rw [b_big h, decide_eq_false (by omega)]
theorem b_m1 : ∀ i, i < 32 → bt (-1) i = true := by decide +kernel
theorem b_0 (i : Nat) : bt 0 i = false := BitVec.getLsbD_zero
theorem s_l : ∀ n, n < 32 → ((nI n &&& 31).toBitVec.smod 32).toNat = n := by decide +kernel
theorem s_u : ∀ n, n < 32 → (((nI n).toUInt32 &&& Int32.toUInt32 31).toBitVec % 32).toNat = n := by decide +kernel
theorem b_shl (n : Nat) (hn : n < 32) (x : Int32) {i : Nat} (hi : i < 32) : bt (x <<< (nI n &&& 31)) i = (decide (n ≤ i) && bt x (i - n)) := by
  unfold bt
  rw [Int32.toBitVec_shiftLeft]
  show (x.toBitVec <<< ((nI n &&& 31).toBitVec.smod 32).toNat).getLsbD i = _
  rw [s_l n hn, BitVec.getLsbD_shiftLeft]
  rcases Nat.lt_or_ge i n with h | h
  · simp [h, Nat.not_le.mpr h]
  · simp [hi, h, Nat.not_lt.mpr h]
theorem b_ushr (n : Nat) (hn : n < 32) (x : Int32) (i : Nat) : bt ((x.toUInt32 >>> ((nI n).toUInt32 &&& Int32.toUInt32 31)).toInt32) i = bt x (n + i) := by
  show (x.toUInt32 >>> ((nI n).toUInt32 &&& Int32.toUInt32 31)).toBitVec.getLsbD i = x.toUInt32.toBitVec.getLsbD (n + i)
  rw [UInt32.toBitVec_shiftRight]
  show (x.toUInt32.toBitVec >>> (((nI n).toUInt32 &&& Int32.toUInt32 31).toBitVec % 32).toNat).getLsbD i = _
  rw [s_u n hn, BitVec.getLsbD_ushiftRight]
theorem b_sshr (n : Nat) (hn : n < 32) (x : Int32) {i : Nat} (hi : i < 32) : bt (x >>> (nI n &&& 31)) i = if n + i < 32 then bt x (n + i) else bt x 31 := by
  unfold bt
  rw [Int32.toBitVec_shiftRight]
  show (x.toBitVec.sshiftRight ((nI n &&& 31).toBitVec.smod 32).toNat).getLsbD i = _
  rw [s_l n hn, BitVec.getLsbD_sshiftRight, BitVec.msb_eq_getLsbD_last]
  simp [hi]
theorem b_shl8 (x : Int32) {i : Nat} (hi : i < 32) : bt (x <<< ((8 : Int32) &&& 31)) i = (decide (8 ≤ i) && bt x (i - 8)) := b_shl 8 (by omega) x hi
theorem b_shl16 (x : Int32) {i : Nat} (hi : i < 32) : bt (x <<< ((16 : Int32) &&& 31)) i = (decide (16 ≤ i) && bt x (i - 16)) := b_shl 16 (by omega) x hi
theorem b_shl24 (x : Int32) {i : Nat} (hi : i < 32) : bt (x <<< ((24 : Int32) &&& 31)) i = (decide (24 ≤ i) && bt x (i - 24)) := b_shl 24 (by omega) x hi
theorem b_sshr8 (x : Int32) {i : Nat} (hi : i < 32) : bt (x >>> ((8 : Int32) &&& 31)) i = if 8 + i < 32 then bt x (8 + i) else bt x 31 := b_sshr 8 (by omega) x hi
