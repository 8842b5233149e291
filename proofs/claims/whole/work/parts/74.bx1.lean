def R_law : String := "RouteLayoutLaw"
def lw_P (b : Addr) (xs : List Int32) (args : Array Value) (s : State) : Prop := args = #[.ref b] ∧ s.IntsAt b xs ∧ xs.length ≤ 256 ∧ (Jvm.Cond.and given_1 narrow_1).before args s = true
def lw_Q (_ : Array Value) (s : State) (o : Outcome) (t : State) : Prop := o = .returned (some (.int 1)) ∧ Framed s o t [] 600128 7301098
def lw_Z (below : List Frame) (a : Array Value) (s : State) : State → Prop := fun t => ∃ o, t.status = .running ∧ Ended t below o ∧ lw_Q a s o t
/-- the law's own end, with 1 on the stack, nothing written that was there before, its room as the claim has it -/
theorem lw_ret {p : Program} {l : Launch} {e : Env} {s : State} {m : MethodId} {below : List Frame} {meth : Method} {c : Code} {b : Nat} (hx : p.tables.exec = Jvm.exec) (hb : c.code = code) (hr : meth.sig.returnType = ret) (hlocks : meth.locks = false) {pc : Nat} {H : Heap} {ls : Array Slot} (hdg : decode code pc = .ok (.ireturn, 1)) : W p l e room_1 s m #[Value.ref b] below meth c H [] 600128 7301098 (lw_Z below #[Value.ref b] s) (F0 m pc ls [.int 1]) := by
  intro T hT X
  obtain ⟨fs, hret, hrun, hended, hW, hframe⟩ := X.leave (v := some (.int 1)) (hlocks := hlocks) (fun h => by rw [hr] at h; cases h)
  have hmeth' : T.vm.method? m = some meth := X.method'
  refine ⟨T.setFrames fs, ?_, .returned (some (.int 1)), hrun, hended, rfl, ⟨_, rfl⟩, hW, hframe⟩
  jvm_step X.here [X.here.top, hx, hb, hdg, hmeth', hr, ret, narrow_b1]
  (try refine ⟨rfl, ?_⟩); (try refine ⟨rfl, ?_⟩)
  first | (intro acts; rw [hret _ acts rfl rfl rfl]) | rw [hret _ _ rfl rfl rfl]
  exact Steps.refl _
/-- what holds at the law's entry: the machine, the code, the tables' words (any of lw_tbl by 'hts w (by decide +kernel)'), the script of L ints xs at the cell b, what the Statement gives of the start (any of its parts by flat_of_before) -/
def lw_At (p : Program) (s : State) (m : MethodId) (meth : Method) (c : Code) (b L : Nat) (xs : Nat → Int32) : Prop :=
  p.tables.exec = Jvm.exec ∧ c.code = code ∧ meth.sig.returnType = ret ∧ c.maxLocals = 7 ∧ s.vm.findClass R_law = some m.cls ∧ (∀ w ∈ lw_tbl, w.before #[Value.ref b] s = true) ∧ va_X b L xs s s.heap ∧ b < s.heap.size ∧ meth.locks = false ∧ (Jvm.Cond.and given_1 narrow_1).before #[Value.ref b] s = true
theorem lw_sw (x : Int32) : (x.toInt < 0 ∨ 12 < x.toInt) ∨ x = 0 ∨ x = 1 ∨ x = 2 ∨ x = 3 ∨ x = 4 ∨ x = 5 ∨ x = 6 ∨ x = 7 ∨ x = 8 ∨ x = 9 ∨ x = 10 ∨ x = 11 ∨ x = 12 := by
  have key : ∀ k : Int32, x.toInt = k.toInt → x = k := fun k h => Int32.toInt_inj.mp h
  by_cases h : x.toInt < 0 ∨ 12 < x.toInt
  · exact Or.inl h
  · refine Or.inr ?_
    have h2 : x.toInt = 0 ∨ x.toInt = 1 ∨ x.toInt = 2 ∨ x.toInt = 3 ∨ x.toInt = 4 ∨ x.toInt = 5 ∨ x.toInt = 6 ∨ x.toInt = 7 ∨ x.toInt = 8 ∨ x.toInt = 9 ∨ x.toInt = 10 ∨ x.toInt = 11 ∨ x.toInt = 12 := by omega
    rcases h2 with h2 | h2 | h2 | h2 | h2 | h2 | h2 | h2 | h2 | h2 | h2 | h2 | h2
    · exact Or.inl (key 0 h2)
    · exact Or.inr (Or.inl (key 1 h2))
    · exact Or.inr (Or.inr (Or.inl (key 2 h2)))
    · exact Or.inr (Or.inr (Or.inr (Or.inl (key 3 h2))))
    · exact Or.inr (Or.inr (Or.inr (Or.inr (Or.inl (key 4 h2)))))
    · exact Or.inr (Or.inr (Or.inr (Or.inr (Or.inr (Or.inl (key 5 h2))))))
    · exact Or.inr (Or.inr (Or.inr (Or.inr (Or.inr (Or.inr (Or.inl (key 6 h2)))))))
    · exact Or.inr (Or.inr (Or.inr (Or.inr (Or.inr (Or.inr (Or.inr (Or.inl (key 7 h2))))))))
    · exact Or.inr (Or.inr (Or.inr (Or.inr (Or.inr (Or.inr (Or.inr (Or.inr (Or.inl (key 8 h2)))))))))
    · exact Or.inr (Or.inr (Or.inr (Or.inr (Or.inr (Or.inr (Or.inr (Or.inr (Or.inr (Or.inl (key 9 h2))))))))))
    · exact Or.inr (Or.inr (Or.inr (Or.inr (Or.inr (Or.inr (Or.inr (Or.inr (Or.inr (Or.inr (Or.inl (key 10 h2)))))))))))
    · exact Or.inr (Or.inr (Or.inr (Or.inr (Or.inr (Or.inr (Or.inr (Or.inr (Or.inr (Or.inr (Or.inr (Or.inl (key 11 h2))))))))))))
    · exact Or.inr (Or.inr (Or.inr (Or.inr (Or.inr (Or.inr (Or.inr (Or.inr (Or.inr (Or.inr (Or.inr (Or.inr (key 12 h2))))))))))))
section LW
variable {p : Program} {l : Launch} {e : Env} {s : State} {m : MethodId} {below : List Frame} {meth : Method} {c : Code} {b L : Nat} {xs : Nat → Int32} {dC : Nat → ClassId} {dI : Nat → Nat → Nat} {cI cZ cJ : ClassId} {sa aS aZ : Nat → Nat} {aJ : Nat}
/-- the loop's head: it ends, or there are four ints more -/
theorem lw_head {H : Heap} {locs : List Loc} {ls : Array Slot} {x4 : Int32} {cells slots i : Nat} (C : lwC p l s m c b L xs dC dI cI cZ cJ sa) (hL : L ≤ 256) (hr : meth.sig.returnType = ret) (hlocks : meth.locks = false) (hx4 : x4 = nI i) (hi : i ≤ 260) (hcc : cells ≤ 600128) (hss : slots ≤ 7301098) (hS : va_S (fun q : Nat => s.heap.size ≤ q) s.heap H locs) (hl : lv_has ls 7 [(4, .int x4), (3, .ref aJ), (2, .ref (aZ 0)), (1, .ref (aS 47)), (0, .ref b)])
    (next : i + 4 ≤ L → W p l e room_1 s m #[Value.ref b] below meth c H locs cells slots (lw_Z below #[Value.ref b] s) (F0 m 32 ls [])) : W p l e room_1 s m #[Value.ref b] below meth c H locs cells slots (lw_Z below #[Value.ref b] s) (F0 m 23 ls []) := by
  obtain ⟨hx, hb, hml, hown, hts, hK, hTh, hst, hX, hbl⟩ := C
  have hbA : ¬ (fun q : Nat => s.heap.size ≤ q) b := Nat.not_le.mpr hbl
  refine lv_iload hx hb dL_law_23 (lv_at hl 0 rfl) ?_
  refine lv_aload_n hx hb dL_law_25 rfl (lv_at hl 4 rfl) ?_
  refine va_slen hx hb hX hbl hbA hS dL_law_26 ?_
  refine lv_iconst (v := 4) hx hb dL_law_27 (by decide) ?_
  refine lv_isub hx hb dL_law_28 ?_
  refine lv_icmp_gt (tgt := 857) hx hb dL_law_29 (by decide) (fun _ => ?_) (fun hc => next ?_)
  · refine lv_iconst (v := 1) hx hb dL_law_857 (by decide) ?_
    refine va_forget (fun q h => hS.2.2 q h) (W.widen (k := 600128) (n := 7301098) hcc hss ?_)
    exact lw_ret hx hb hr hlocks dL_law_858
  · rw [hx4] at hc
    by_cases h : i + 4 ≤ L
    · exact h
    · refine absurd ?_ hc
      have h4 : (Int32.ofNat L - 4).toInt = (L : Int) - 4 := by
        by_cases h8 : 4 ≤ L
        · have e1 : Int32.ofNat L - 4 = nI (L - 4) := s_sub (a := L) (b := 4) h8
          rw [e1, nI_toInt (by omega)]; omega
        · rcases (by omega : L = 0 ∨ L = 1 ∨ L = 2 ∨ L = 3) with h9 | h9 | h9 | h9 <;> subst h9 <;> decide
      rw [Int32.lt_iff_toInt_lt, h4, nI_toInt (by omega)]
      omega
end LW
/-! The law's start: what a fresh pair is, and the walk from the entry to the loop. Written by wip/whole/gen76.py. -/
theorem k_I0 (R_to L_layer L_tops L_bottoms : Nat → Int32) (L_layers : Int32) (P_size P_arrows P_uppers P_lowers C_x T_track T_used OL_rows Z_width Z_pinned Z_from Z_to Z_turned : Nat → Int32) (Z_layers : Int32) (Z_layer Z_sizes Z_items Z_place Z_dummyPlace Z_xs Z_oldPlace : Nat → Int32) :
    k_I 0 (fun _ => 0) (fun _ => (-1)) (fun _ => (-1)) R_to (fun _ => 0) L_layer L_tops L_bottoms L_layers P_size P_arrows P_uppers P_lowers C_x T_track T_used 0 (fun _ => 0) OL_rows (fun _ => (-1)) (fun _ => (-1)) (fun _ => 0) Z_width Z_pinned (fun _ => 0) Z_from Z_to Z_turned 0 Z_layers Z_layer Z_sizes Z_items Z_place Z_dummyPlace Z_xs (fun _ => (-1)) Z_oldPlace (fun _ => (-1)) := by
  refine ⟨fun _ => false, fun _ => false, fun _ => false, fun _ => false, fun _ => 0, fun _ => 0, fun _ => 0, fun _ => 1, 0, fun _ => [], ⟨?_, ?_, ?_, ?_, ?_⟩, ⟨?_, ?_, ?_⟩, ⟨rfl, by omega, ?_, ?_, ?_⟩, ⟨?_, ?_, ?_⟩, Or.inl ⟨rfl, rfl⟩⟩
  · exact fun a _ => ⟨fun _ => rfl, (fun h => by cases h)⟩
  · exact fun a _ => rfl
  · exact fun b _ => ⟨⟨(fun h => by cases h), fun h => absurd (show (0 : Int32) ≤ 0 by decide) h⟩, (fun h => by cases h), Nat.zero_le _⟩
  · exact fun a _ => ⟨(fun h => by cases h), (fun h => by cases h.1)⟩
  · exact fun b _ => ⟨(fun h => by cases h), fun _ => rfl, (show 1 ≤ 1 by omega), (show 1 ≤ 50 by omega)⟩
  · exact fun a _ => ⟨rfl, (fun h => by cases h)⟩
  · exact fun b _ => ⟨rfl, (fun h => by cases h), Nat.zero_le _⟩
  · exact fun b _ h => by cases h
  · exact fun l _ => ⟨fun _ => rfl, List.nodup_nil, Nat.zero_le _, rfl, (fun k c h => by simp at h), fun c _ _ => rfl⟩
  · exact fun l _ b _ h => by cases h
  · exact fun b _ _ => rfl
  · exact fun l _ k c h => by simp at h
  · exact fun b _ _ => rfl
  · exact fun a l _ _ _ => rfl
theorem lw_arr {args : Array Value} {s : State} {t : FieldType} (h : (Cond.arrayClass t).before args s = true) (ho : ∀ C, t ≠ .object C) : ∃ c : ClassId, ArrOfT s c t ∧ va_RA s c t := by
  obtain ⟨c, k, comp, h1, h2, h3⟩ := Cond.arrayClass_spec h
  refine ⟨c, fun N z => ⟨(fun q hq => by cases hq), k, h2, comp, h3⟩, ?_⟩
  cases t <;> first | exact h1 | exact absurd rfl (ho _)
theorem lw_str {own tx : String} {k : Nat} {A : Array Value} {U : State} (h : (Cond.stringRef own k tx).before A U = true) : ∃ a, vk_R own k tx a U := by
  cases hc : U.vm.findClass own with
  | none => simp [Cond.before, Cond.holds, Cond.value, hc] at h
  | some cur =>
    obtain ⟨k2, cf, j, a, -, -, -, -, -, hev⟩ := Cond.stringRef_spec hc h
    exact ⟨a, vk_R.of h hev⟩
section Q8
variable {p : Program} {l : Launch} {e : Env} {R : Room} {s : State} {m : MethodId} {args : Array Value} {below : List Frame} {meth : Method} {c : Code} {H : Heap} {locs : List Loc} {cells slots : Nat} {Q : State → Prop}
variable {cc : ByteArray} {pc : Nat} {ls : Array Slot} {rest st0 : List Value} {D : va_G} {A : Nat → Prop} {tys : List (ClassId × FieldType)} {ws : va_W} {H0 : Heap} {cI cZ cJ : ClassId}
variable {S : Type} {y : MethodName} {bytes : ByteArray} {maxL nL n index mc ms : Nat} {wy : List Cond} {rm : Room} {Ts : List Cond} {own : String} {b : Addr} {As : List Value} {c0 : Nat × va_E} {w1 : S → va_W} {wr : va_W} {X : State → Prop}
theorem q_IvX (S0 : CallFix p m c cc nL s args Ts own) (hA : ∀ q, H0.size ≤ q → A q) (hK : va_K D vwCl tys s) (hP : va_P D vwCl ws H) (hD : va_D A ws) (hS : va_S A H0 H locs)
    (hM : q_Mc l y wy rm D tys (.ref b :: As) [c0] w1 H.size mc ms X) (hXb : ∀ (U : State) (g : JFrame) (mk : MethodId) (a : Array Value), X U → X (U.calling g mk a)) (hX : ∀ U : State, s.WarmedH U.vm → X U) (cw : CallB R s args own index y bytes maxL none wy rm mc ms n ∧ y.name = "<init>" ∧ (Cond.instanceMethod y).before args s = true) (j : Nat) (isR : List Nat)
    (hC : [j].map (fun i => ws[i]?) = [c0].map some) (hR : isR.map (fun i => ws[i]?) = wr.map some) (hnd : va_nd isR = true) (hdis : ∀ i ∈ isR, i ∉ [j]) (hn : As.length = n) (hb0 : b = c0.1) (hsz : ls.size = nL) (hst : st0 = As.reverse ++ .ref b :: rest) (hW : (rest.map fun v => v.category).sum ≤ 8) (hdg : decode cc pc = .ok (.invokespecial index, 3)) (hf : cells + mc ≤ R.cells ∧ slots + ms ≤ R.slots)
    (kk : ∀ (u : S) (H1 : Heap) (locs1 : List Loc), va_P D vwCl (wr ++ w1 u) H1 → va_D A (wr ++ w1 u) → va_S A H0 H1 locs1 → W p l e R s m args below meth c H1 locs1 (cells + mc) (slots + ms) Q (F0 m (pc + 3) ls rest)) : W p l e R s m args below meth c H locs cells slots Q (F0 m pc ls st0) := by
  have hPc : va_P D vwCl [c0] H := q_cutP hP hC
  have hDc : va_D (fun _ => True) [c0] := (hD.sub [j] rfl hC).weaken (fun _ _ _ _ => trivial)
  have hFc := va_free (wc := [c0]) hD hS hA [j] hC
  refine va_callv (va_runI (g := F0 m pc ls st0) (As := As) (rest := rest) S0 hM cw ⟨q_blindX hXb, fun U hU hW2 => ⟨rfl, ⟨by rw [hU], by rw [hU]; exact hPc, va_K.moved hW2.alike hK, hDc⟩, hX U hW2⟩⟩ rfl hn hsz hst (lv_room hW) hdg hf) hS (fun q _ h => hFc q h) hFc (fun u t H1 locs1 ht hvm hw hB hz1 hk1 hS1 => ?_)
  obtain ⟨hP1, -, hD1⟩ := hB
  rw [ht] at hP1
  obtain ⟨hP2, hD2⟩ := va_join (wr := wr) (w1 := w1 u) hP hD [j] isR hC hR hnd hdis hk1 hFc hP1 hD1
  exact kk u H1 locs1 hP2 hD2 hS1
theorem q_newj {N : Nat} {n : Int32} (hexec : p.tables.exec = Jvm.exec) (hb : c.code = cc) (harr : (Cond.arrayClass .long).before args s = true) (hK : va_K D vwCl (q_t3 cI cZ cJ) s) (hP : va_P D vwCl ws H) (hD : va_D A ws) (hS : va_S A H0 H locs) (hA : ∀ q, H0.size ≤ q → A q)
    (hn : ¬ n < 0) (hN : n.toNatClampNeg = N) (hbytes : N * componentBytes .long ≤ 536870912) (hcells : cells + 1 ≤ R.cells) (hslots : slots + N ≤ R.slots) (hdg : decode cc pc = .ok (.newarray .long, 2))
    (kk : ∀ (q : Nat) (H1 : Heap), va_P D vwCl (ws ++ [(q, .inl (cJ, N, .inr (.inl (fun _ => 0))))]) H1 → va_D A (ws ++ [(q, .inl (cJ, N, .inr (.inl (fun _ => 0))))]) → va_S A H0 H1 locs → W p l e R s m args below meth c H1 locs (cells + 1) (slots + N) Q (F0 m (pc + 2) ls (.ref q :: rest))) : W p l e R s m args below meth c H locs cells slots Q (F0 m pc ls (.int n :: rest)) := by
  refine va_newa (atype := .long) (ty := .long) hexec hb harr rfl hK hP hD hS hA (a0 := (N, .inr (.inl (fun _ => 0)))) (fun cA => rfl) hn hN hbytes hcells hslots hdg (fun q cA H1 hK1 hP1 hD1 hS1 => ?_)
  have e1 : cA = cJ := by
    have h1 : s.vm.findClass _ = some cA := (hK1.2 3 (cA, .long) rfl).2
    have h2 : s.vm.findClass _ = some cJ := (hK1.2 2 (cJ, .long) rfl).2
    exact Option.some.inj (h1.symm.trans h2)
  subst e1
  exact kk q H1 hP1 hD1 hS1
end Q8
