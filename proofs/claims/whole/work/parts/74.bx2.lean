set_option maxHeartbeats 4000000 in
set_option maxRecDepth 100000 in
/-- what a throw needs, out of what the law is given -/
theorem lw_th {p : Program} {s : State} {m : MethodId} {meth : Method} {c : Code} {b L : Nat} {xs : Nat → Int32} (C0 : lw_At p s m meth c b L xs) : ∃ sa : Nat → Nat, q_Th (fun q : Nat => s.heap.size ≤ q) sa s s.heap := by
  obtain ⟨hx, hb, hr, hml, hown, hts, hX, hbl, hlocks, hgv⟩ := id C0
  have hs := flat_of_before _ hgv
  have z1 : vx_Zq Bundle.tN "UNASSIGNED_STACK" Bundle.steD (fun q : Nat => s.heap.size ≤ q) s s.heap := vx_Zqof (hts (.laysStatic Bundle.tN "UNASSIGNED_STACK" Bundle.steD) (by decide +kernel)) (hts (.initialized Bundle.tN) (by decide +kernel)) (hs (.isRef (.static Bundle.tN "UNASSIGNED_STACK" Bundle.steD)) (by decide +kernel)) (fun a h9 => Nat.not_le.mpr h9)
  have z2 : vx_Zq Bundle.tN "SUPPRESSED_SENTINEL" Bundle.listD (fun q : Nat => s.heap.size ≤ q) s s.heap := vx_Zqof (hts (.laysStatic Bundle.tN "SUPPRESSED_SENTINEL" Bundle.listD) (by decide +kernel)) (hts (.initialized Bundle.tN) (by decide +kernel)) (hs (.isRef (.static Bundle.tN "SUPPRESSED_SENTINEL" Bundle.listD)) (by decide +kernel)) (fun a h9 => Nat.not_le.mpr h9)
  obtain ⟨a91, r91⟩ := lw_str (hts (.stringRef RX9 91 "no such width") (by decide +kernel))
  obtain ⟨a113, r113⟩ := lw_str (hts (.stringRef RX9 113 "an arrow from a box to itself") (by decide +kernel))
  obtain ⟨a125, r125⟩ := lw_str (hts (.stringRef RX9 125 "no such layer") (by decide +kernel))
  obtain ⟨a152, r152⟩ := lw_str (hts (.stringRef RX9 152 "no such tolerance") (by decide +kernel))
  obtain ⟨a233, r233⟩ := lw_str (hts (.stringRef RX9 233 "no such box") (by decide +kernel))
  obtain ⟨a235, r235⟩ := lw_str (hts (.stringRef RX9 235 "no such arrow") (by decide +kernel))
  obtain ⟨a237, r237⟩ := lw_str (hts (.stringRef RX9 237 "the box isn't there") (by decide +kernel))
  obtain ⟨a239, r239⟩ := lw_str (hts (.stringRef RX9 239 "no such number of rounds") (by decide +kernel))
  obtain ⟨a241, r241⟩ := lw_str (hts (.stringRef RX9 241 "no such what") (by decide +kernel))
  refine ⟨fun n => if n = 91 then a91 else if n = 113 then a113 else if n = 125 then a125 else if n = 152 then a152 else if n = 233 then a233 else if n = 235 then a235 else if n = 237 then a237 else if n = 239 then a239 else if n = 241 then a241 else 0, z1, z2, ?_, va_Nw.of rfl (hts (.castable q_IAE q_IAE) (by decide +kernel)), va_Nw.of rfl (hts q_d1 (by decide +kernel)), va_Nw.of rfl (hts q_d2 (by decide +kernel)), va_Nw.of rfl (hts q_d3 (by decide +kernel))⟩
  intro x hx9
  simp only [q_strs, List.mem_cons, List.not_mem_nil, or_false] at hx9
  rcases hx9 with rfl | rfl | rfl | rfl | rfl | rfl | rfl | rfl | rfl
  · exact r91
  · exact r113
  · exact r125
  · exact r152
  · exact r233
  · exact r235
  · exact r237
  · exact r239
  · exact r241
set_option maxHeartbeats 4000000 in
set_option maxRecDepth 100000 in
/-- the classes, by their numbers -/
theorem lw_kn {p : Program} {s : State} {m : MethodId} {meth : Method} {c : Code} {b L : Nat} {xs : Nat → Int32} (C0 : lw_At p s m meth c b L xs) : ∃ (dC : Nat → ClassId) (dI : Nat → Nat → Nat) (cI cZ cJ : ClassId), va_K (dC, dI) vwCl (q_t3 cI cZ cJ) s := by
  obtain ⟨hx, hb, hr, hml, hown, hts, hX, hbl, hlocks, hgv⟩ := id C0
  obtain ⟨c0, iS0, hKn0⟩ := u_known (C := RX0) (T := TX0) (N := 10) (n := 10) hts inX0 (hts (.instantiable RX0 10) (by decide +kernel))
  obtain ⟨c1, iS1, hKn1⟩ := u_known (C := RX1) (T := TX1) (N := 5) (n := 5) hts inX1 (hts (.instantiable RX1 5) (by decide +kernel))
  obtain ⟨c2, iS2, hKn2⟩ := u_known (C := RX2) (T := TX2) (N := 3) (n := 3) hts inX2 (hts (.instantiable RX2 3) (by decide +kernel))
  obtain ⟨c3, iS3, hKn3⟩ := u_known (C := RX3) (T := TX3) (N := 5) (n := 5) hts inX3 (hts (.instantiable RX3 5) (by decide +kernel))
  obtain ⟨c4, iS4, hKn4⟩ := u_known (C := RX4) (T := TX4) (N := 5) (n := 5) hts inX4 (hts (.instantiable RX4 5) (by decide +kernel))
  obtain ⟨c5, iS5, hKn5⟩ := u_known (C := RX5) (T := TX5) (N := 12) (n := 12) hts inX5 (hts (.instantiable RX5 12) (by decide +kernel))
  obtain ⟨c6, iS6, hKn6⟩ := u_known (C := RX6) (T := TX6) (N := 4) (n := 4) hts inX6 (hts (.instantiable RX6 4) (by decide +kernel))
  obtain ⟨c7, iS7, hKn7⟩ := u_known (C := RX7) (T := TX7) (N := 6) (n := 6) hts inX7 (hts (.instantiable RX7 6) (by decide +kernel))
  obtain ⟨c8, iS8, hKn8⟩ := u_known (C := RX8) (T := TX8) (N := 8) (n := 8) hts inX8 (hts (.instantiable RX8 8) (by decide +kernel))
  obtain ⟨c9, iS9, hKn9⟩ := u_known (C := RX9) (T := TX9) (N := 11) (n := 11) hts inX9 (hts (.instantiable RX9 11) (by decide +kernel))
  obtain ⟨c10, iS10, hKn10⟩ := u_known (C := RX10) (T := TX10) (N := 24) (n := 24) hts inX10 (hts (.instantiable RX10 24) (by decide +kernel))
  obtain ⟨cI, hcI⟩ := lw_arr (hts (.arrayClass .int) (by decide +kernel)) (fun _ h => by cases h)
  obtain ⟨cZ, hcZ⟩ := lw_arr (hts (.arrayClass .boolean) (by decide +kernel)) (fun _ h => by cases h)
  obtain ⟨cJ, hcJ⟩ := lw_arr (hts (.arrayClass .long) (by decide +kernel)) (fun _ h => by cases h)
  refine ⟨fun k => if k = 0 then c0 else if k = 1 then c1 else if k = 2 then c2 else if k = 3 then c3 else if k = 4 then c4 else if k = 5 then c5 else if k = 6 then c6 else if k = 7 then c7 else if k = 8 then c8 else if k = 9 then c9 else c10, fun k => if k = 0 then iS0 else if k = 1 then iS1 else if k = 2 then iS2 else if k = 3 then iS3 else if k = 4 then iS4 else if k = 5 then iS5 else if k = 6 then iS6 else if k = 7 then iS7 else if k = 8 then iS8 else if k = 9 then iS9 else iS10, cI, cZ, cJ, ⟨?_, ?_⟩⟩
  · intro k q hq
    match k, hq with
    | 0, hq => cases hq; exact hKn0
    | 1, hq => cases hq; exact hKn1
    | 2, hq => cases hq; exact hKn2
    | 3, hq => cases hq; exact hKn3
    | 4, hq => cases hq; exact hKn4
    | 5, hq => cases hq; exact hKn5
    | 6, hq => cases hq; exact hKn6
    | 7, hq => cases hq; exact hKn7
    | 8, hq => cases hq; exact hKn8
    | 9, hq => cases hq; exact hKn9
    | 10, hq => cases hq; exact hKn10
    | k + 11, hq => simp [vwCl] at hq
  · intro k q hq
    match k, hq with
    | 0, hq => cases hq; exact hcI
    | 1, hq => cases hq; exact hcZ
    | 2, hq => cases hq; exact hcJ
    | k + 3, hq => simp at hq
