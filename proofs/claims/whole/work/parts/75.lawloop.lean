section LW
variable {p : Program} {l : Launch} {e : Env} {s : State} {m : MethodId} {below : List Frame} {meth : Method} {c : Code} {b L : Nat} {xs : Nat → Int32} {dC : Nat → ClassId} {dI : Nat → Nat → Nat} {cI cZ cJ : ClassId} {sa aS aZ : Nat → Nat} {aJ : Nat}
set_option maxHeartbeats 4000000 in
set_option maxRecDepth 100000 in
/-- the loop -/
theorem lw_loop (C : lwC p l s m c b L xs dC dI cI cZ cJ sa) (hL : L ≤ 256) (hr : meth.sig.returnType = ret) (hlocks : meth.locks = false) : ∀ (n i cells slots : Nat) (H : Heap) (locs : List Loc) (ls : Array Slot) (x4 : Int32), x4 = nI i → i ≤ 260 → L ≤ i + n → cells ≤ 100 + i → slots ≤ 20000 + 6 * i → lwI (dC, dI) (fun q : Nat => s.heap.size ≤ q) aS aZ aJ cI cZ cJ H → va_S (fun q : Nat => s.heap.size ≤ q) s.heap H locs → lv_has ls 7 [(4, .int x4), (3, .ref aJ), (2, .ref (aZ 0)), (1, .ref (aS 47)), (0, .ref b)] → W p l e room_1 s m #[Value.ref b] below meth c H locs cells slots (lw_Z below #[Value.ref b] s) (F0 m 23 ls []) := by
  intro n
  induction n with
  | zero =>
    intro i cells slots H locs ls x4 hx4 hi hn hc1 hs1 hI hS hl
    exact lw_head C hL hr hlocks hx4 hi (by omega) (by omega) hS hl (fun h => absurd h (by omega))
  | succ n ih =>
    intro i cells slots H locs ls x4 hx4 hi hn hc1 hs1 hI hS hl
    refine lw_head C hL hr hlocks hx4 hi (by omega) (by omega) hS hl (fun h4 => ?_)
    obtain ⟨hx, hb, hml, hown, hts, hK, hTh, hst, hX, hbl⟩ := id C
    have hbA : ¬ (fun q : Nat => s.heap.size ≤ q) b := Nat.not_le.mpr hbl
    have i0 : vp_in x4 L := by rw [hx4]; exact vp_in_nI (by omega) (by omega)
    have i1 : vp_in (x4 + 1) L := by rw [hx4, show nI i + 1 = nI (i + 1) from nI_add i 1]; exact vp_in_nI (by omega) (by omega)
    have i2 : vp_in (x4 + 2) L := by rw [hx4, show nI i + 2 = nI (i + 2) from nI_add i 2]; exact vp_in_nI (by omega) (by omega)
    have i3 : vp_in (x4 + 3) L := by rw [hx4, show nI i + 3 = nI (i + 3) from nI_add i 3]; exact vp_in_nI (by omega) (by omega)
    have kk : ∀ (H : Heap) (locs : List Loc) (ls : Array Slot) (c1 s1 : Nat), lwI (dC, dI) (fun q : Nat => s.heap.size ≤ q) aS aZ aJ cI cZ cJ H → va_S (fun q : Nat => s.heap.size ≤ q) s.heap H locs → lv_has ls 7 [(4, .int x4), (3, .ref aJ), (2, .ref (aZ 0)), (1, .ref (aS 47)), (0, .ref b)] → c1 ≤ cells + 1 → s1 ≤ slots + 6 → W p l e room_1 s m #[Value.ref b] below meth c H locs c1 s1 (lw_Z below #[Value.ref b] s) (F0 m 851 ls []) := by
      intro H locs ls c1 s1 hI hS hl h1 h2
      refine lv_iinc (v := nI (i + 4)) (lv' := [(4, .int (nI (i + 4))), (3, .ref aJ), (2, .ref (aZ 0)), (1, .ref (aS 47)), (0, .ref b)]) hx hb dL_law_851 hl (k := 0) rfl (by rw [hx4]; exact nI_add i 4) (by decide) rfl (fun ls hl => ?_)
      refine lv_goto (tgt := 23) hx hb dL_law_854 (by decide) ?_
      exact ih (i + 4) c1 s1 H locs ls (nI (i + 4)) rfl (by omega) (by omega) (by omega) (by omega) hI hS hl
    refine lv_aload_n hx hb dL_law_32 rfl (lv_at hl 4 rfl) ?_
    refine lv_iload hx hb dL_law_33 (lv_at hl 0 rfl) ?_
    refine va_sld hx hb hX hbl hbA hS i0 dL_law_35 ?_
    refine lv_bipush (v := 15) hx hb dL_law_36 (by decide) ?_
    refine lv_iand hx hb dL_law_38 ?_
    generalize (xs x4.toNatClampNeg &&& 15) = x
    rcases lw_sw x with h | h | h | h | h | h | h | h | h | h | h | h | h | h
    · refine lv_tableOut (tgt := 851) hx hb dL_law_39 h (by decide) ?_
      exact kk H locs ls cells slots hI hS hl (by omega) (by omega)
    · subst h
      refine lv_tableIn (off := 65) (tgt := 104) hx hb dL_law_39 (by decide) (by decide) rfl (by decide) ?_
      exact lwc_box C hI hS hl i1 i2 i3 (by omega) (by omega) kk
    · subst h
      refine lv_tableIn (off := 113) (tgt := 152) hx hb dL_law_39 (by decide) (by decide) rfl (by decide) ?_
      exact lwc_remove C hI hS hl i1 i2 i3 (by omega) (by omega) kk
    · subst h
      refine lv_tableIn (off := 176) (tgt := 215) hx hb dL_law_39 (by decide) (by decide) rfl (by decide) ?_
      exact lwc_arrow C hI hS hl i1 i2 i3 (by omega) (by omega) kk
    · subst h
      refine lv_tableIn (off := 236) (tgt := 275) hx hb dL_law_39 (by decide) (by decide) rfl (by decide) ?_
      exact lwc_drop C hI hS hl i1 i2 i3 (by omega) (by omega) kk
    · subst h
      refine lv_tableIn (off := 299) (tgt := 338) hx hb dL_law_39 (by decide) (by decide) rfl (by decide) ?_
      exact lwc_pin C hI hS hl i1 i2 i3 (by omega) (by omega) kk
    · subst h
      refine lv_tableIn (off := 347) (tgt := 386) hx hb dL_law_39 (by decide) (by decide) rfl (by decide) ?_
      exact lwc_draw C hI hS hl i1 i2 i3 (by omega) (by omega) kk
    · subst h
      refine lv_tableIn (off := 410) (tgt := 449) hx hb dL_law_39 (by decide) (by decide) rfl (by decide) ?_
      exact lwc_redraw C hI hS hl i1 i2 i3 (by omega) (by omega) kk
    · subst h
      refine lv_tableIn (off := 478) (tgt := 517) hx hb dL_law_39 (by decide) (by decide) rfl (by decide) ?_
      exact lwc_at C hI hS hl i1 i2 i3 (by omega) (by omega) kk
    · subst h
      refine lv_tableIn (off := 546) (tgt := 585) hx hb dL_law_39 (by decide) (by decide) rfl (by decide) ?_
      exact lwc_reversed C hI hS hl i1 i2 i3 (by omega) (by omega) kk
    · subst h
      refine lv_tableIn (off := 602) (tgt := 641) hx hb dL_law_39 (by decide) (by decide) rfl (by decide) ?_
      exact lwc_item C hI hS hl i1 i2 i3 (by omega) (by omega) kk
    · subst h
      refine lv_tableIn (off := 639) (tgt := 678) hx hb dL_law_39 (by decide) (by decide) rfl (by decide) ?_
      exact lwc_piece C hI hS hl i1 i2 i3 (by omega) (by omega) kk
    · subst h
      refine lv_tableIn (off := 719) (tgt := 758) hx hb dL_law_39 (by decide) (by decide) rfl (by decide) ?_
      exact lwc_between C hI hS hl i1 i2 i3 (by omega) (by omega) kk
    · subst h
      refine lv_tableIn (off := 787) (tgt := 826) hx hb dL_law_39 (by decide) (by decide) rfl (by decide) ?_
      exact lwc_count C hI hS hl i1 i2 i3 (by omega) (by omega) kk
end LW
/-- THE LAW, from its entry -/
theorem whole_start {p : Program} {e : Env} {s : State} {m : MethodId} {below : List Frame} {meth : Method} {c : Code} (l : Launch) (hst : l.stackTraces = false) {b L : Nat} {xs : Nat → Int32} (hL : L ≤ 256) (C0 : lw_At p s m meth c b L xs) : W p l e room_1 s m #[Value.ref b] below meth c s.heap [] 0 0 (lw_Z below #[Value.ref b] s) (entryFrame m ([Value.ref b] : List Value).toArray 7) :=
  lw_entry l hst hL C0 (fun dC dI cI cZ cJ sa aS aZ aJ H locs ls C hI hS hl => lw_loop (aS := aS) (aZ := aZ) C hL C0.2.2.1 C0.2.2.2.2.2.2.2.2.1 L 0 86 14500 H locs ls 0 rfl (by omega) (by omega) (by omega) (by omega) hI hS hl)
