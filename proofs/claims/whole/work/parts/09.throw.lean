/-! Written by wip/whole/gen.py: when a call throws, and that it does. -/
/-! Throwing: contracts of calls that end in an IllegalArgumentException; nothing of the world has changed then. -/
abbrev q_IAE : String := "java/lang/IllegalArgumentException"
abbrev q_up : List String := ["java/lang/RuntimeException", "java/lang/Exception"]
def q_strs : List (Nat × String) := [(91, "no such width"), (113, "an arrow from a box to itself"), (125, "no such layer"), (152, "no such tolerance"), (233, "no such box"), (235, "no such arrow"), (237, "the box isn't there"), (239, "no such number of rounds"), (241, "no such what")]
abbrev q_d1 : Cond := .declares (Bundle.initS "java/lang/RuntimeException")
abbrev q_d2 : Cond := .declares (Bundle.initS "java/lang/Exception")
abbrev q_d3 : Cond := .declares (Bundle.initS "java/lang/Throwable")
abbrev q_bad : List Cond := [.castable q_IAE q_IAE, q_d1, q_d2, q_d3]
def q_Nn (U : State) : Prop := va_Nw (.castable q_IAE q_IAE) U ∧ va_Nw q_d1 U ∧ va_Nw q_d2 U ∧ va_Nw q_d3 U
theorem q_bad0 : ∀ w ∈ (vx_atS RX9 93 q_IAE q_up).filter (fun w => !goodWord w), w ∈ q_bad := by decide +kernel
theorem q_ot : ∀ w ∈ Cond.classLink RX9 89 q_IAE :: Cond.initialized q_IAE :: vx_atS RX9 93 q_IAE q_up, vx_ot w = true := by decide +kernel
theorem q_fit : Bundle.fit q_IAE = true ∧ ∀ n ∈ q_up, Bundle.fit n = true := by decide +kernel
def q_Th (A : Nat → Prop) (sa : Nat → Nat) (U : State) (H : Heap) : Prop := vx_Zq Bundle.tN "UNASSIGNED_STACK" Bundle.steD A U H ∧ vx_Zq Bundle.tN "SUPPRESSED_SENTINEL" Bundle.listD A U H ∧ (∀ x ∈ q_strs, vk_R RX9 x.1 x.2 (sa x.1) U) ∧ q_Nn U
theorem q_Th.blind {A : Nat → Prop} {sa : Nat → Nat} {U : State} (g : JFrame) (mk : MethodId) (a : Array Value) (h : q_Th A sa U U.heap) : q_Th A sa (U.calling g mk a) (U.calling g mk a).heap :=
  ⟨vx_Zq.moved (u := U) (U := U.calling g mk a) (Vm.Alike.refl U.vm) h.1, vx_Zq.moved (u := U) (U := U.calling g mk a) (Vm.Alike.refl U.vm) h.2.1, fun x hx => vk_R.same (u := U) (U := U.calling g mk a) rfl (h.2.2.1 x hx), va_Nw.same (u := U) (U := U.calling g mk a) rfl rfl h.2.2.2.1, va_Nw.same (u := U) (U := U.calling g mk a) rfl rfl h.2.2.2.2.1, va_Nw.same (u := U) (U := U.calling g mk a) rfl rfl h.2.2.2.2.2.1, va_Nw.same (u := U) (U := U.calling g mk a) rfl rfl h.2.2.2.2.2.2⟩
theorem q_Th.down {A B : Nat → Prop} {sa : Nat → Nat} {s U : State} {H : Heap} {locs : List Loc} (h : q_Th A sa s s.heap) (hS : va_S A s.heap H locs) (hBA : ∀ q, B q → A q) (hU : U.heap = H) (hW : s.WarmedH U.vm) : q_Th B sa U U.heap := by
  rw [hU]
  exact ⟨vx_Zq.narrow (vx_Zq.moved hW.alike (vx_Zq.kept h.1 (fun a ha hn => hS.2.1 a ha hn))) hBA, vx_Zq.narrow (vx_Zq.moved hW.alike (vx_Zq.kept h.2.1 (fun a ha hn => hS.2.1 a ha hn))) hBA, fun x hx => vk_R.warm hW (h.2.2.1 x hx), va_Nw.warmC hW h.2.2.2.1, va_Nw.warmD hW h.2.2.2.2.1, va_Nw.warmD hW h.2.2.2.2.2.1, va_Nw.warmD hW h.2.2.2.2.2.2⟩
abbrev q_XC (D : va_G) (tys : List (ClassId × FieldType)) (w : va_W) (sz : Nat) : String → State → State → Prop := vx_X (fun (_ : Unit) => True) (fun E _ t => E = q_IAE ∧ va_P D vwCl w t.heap ∧ va_K D vwCl tys t ∧ va_D (va_A w sz) w) (va_A w sz)
abbrev q_Mx (l : Launch) (y : MethodName) (wy : List Cond) (rm : Room) (D : va_G) (tys : List (ClassId × FieldType)) (av : List Value) (w : va_W) (sz : Nat) (sa : Nat → Nat) (Qc : Array Value → State → Outcome → State → Prop) : Prop :=
  vx_Met l y wy rm (va_Pc av (fun U => q_Pw D tys w sz U ∧ q_Th (va_A w sz) sa U U.heap)) Qc (q_XC D tys w sz) 1 6 (va_A w sz)
/-- an end by a throw never returns -/
abbrev q_Nv : Array Value → State → Outcome → State → Prop := va_Qv (fun (_ : Unit) => False) (fun _ _ => True) (fun _ => False)
abbrev q_Ni : Array Value → State → Outcome → State → Prop := va_Qi (fun _ (_ : Unit) => False) (fun _ _ => True) (fun _ => False)
theorem q_metx {l : Launch} {y : MethodName} {wy wy' : List Cond} {rm : Room} {D : va_G} {tys : List (ClassId × FieldType)} {av : List Value} {w : va_W} {sz : Nat} {sa : Nat → Nat} {Qc : Array Value → State → Outcome → State → Prop} {cc : ByteArray} {maxL : Nat} {ret : Option FieldType} (hst : l.stackTraces = false) (hy : plainName y.cls = true) (hyc : y.cls = RX9) (hw : wy = Cond.code y cc maxL ret :: wy') (hav : (lg_sl av).length ≤ maxL)
    (hwk : Cond.classLink RX9 89 q_IAE ∈ wy) (hwi : Cond.initialized q_IAE ∈ wy) (hwa : ∀ w ∈ (vx_atS RX9 93 q_IAE q_up).filter goodWord, w ∈ wy) (hrm : 5 < rm.frames ∧ 100 ≤ rm.locals ∧ rm.cells = 1 ∧ rm.slots = 6)
    (body : ∀ (p : Program) (e : Env) (s : State) (m : MethodId) (args : Array Value) (below : List Frame) (meth : Method) (c : Code) (Q : State → Prop) (A : Nat → Prop) (H : Heap) (locs : List Loc) (ls : Array Slot), (p.tables.exec = Jvm.exec ∧ c.code = cc ∧ c.maxLocals = maxL ∧ s.vm.findClass RX9 = some m.cls ∧ (∀ w ∈ wy, w.before args s = true) ∧ (∀ q, s.heap.size ≤ q → A q) ∧ va_K D vwCl tys s) → q_Th A sa s s.heap → va_P D vwCl w H → va_D A w → va_S A s.heap H locs → lv_has ls maxL (lv_args 0 av) →
      (∀ (H : Heap) (locs : List Loc) (ls : Array Slot) (pc : Nat) (rest : List Value) (is : Nat) (text : String), (is, text) ∈ q_strs → decode cc pc = .ok (.new 89, 3) → decode cc (pc + 3) = .ok (.dup, 1) → decode cc (pc + 4) = .ok (.ldc is, 2) → decode cc (pc + 6) = .ok (.invokespecial 93, 3) → decode cc (pc + 9) = .ok (.athrow, 1) → (rest.map fun v => v.category).sum ≤ 8 → ls.size = maxL → va_P D vwCl w H → va_D A w → va_S A s.heap H locs → W p l e (headSpec wy rm).room s m args below meth c H locs 0 0 Q (F0 m pc ls rest)) →
      (∀ (H : Heap) (locs : List Loc) (ls : Array Slot) (pc : Nat) (rest : List Value) (q : Addr) (ce : Cell), H[q]? = some ce → ce.vm = .none → s.vm.findClass q_IAE = some ce.cls → va_P D vwCl w H → va_D A w → va_S A s.heap H locs → vx_W p l e (headSpec wy rm).room s m args below meth c H locs 1 6 Q (F0 m pc ls rest) q) →
      W p l e (headSpec wy rm).room s m args below meth c H locs 0 0 Q (F0 m 0 ls [])) : q_Mx l y wy rm D tys av w sz sa Qc := by
  refine vx_ofW (cc := cc) (maxL := maxL) (ret := ret) hy hw ?_
  intro p e s m args below meth c s₁ B hml hex hv
  obtain ⟨rfl, ⟨hsz, hP, hK, hD0⟩, hTh⟩ := hv
  subst hsz
  have hl := lv_entry av (n := maxL) hav
  rw [lg_entry_eq]
  have hts := atoms_spec (ws := wy) B.pre
  have hown : s.vm.findClass RX9 = some m.cls := by rw [← hyc]; exact findClass_of_methodNamed B.named
  refine body p e s m _ below meth c _ (va_A w s.heap.size) _ _ _ ⟨B.exec, B.bytes, hml, hown, hts, fun q h => Or.inr h, hK⟩ hTh hP (hD0.self) va_S.rf hl ?_ ?_
  · intro H locs ls pc rest is text hmem d0 d3 d4 d6 d9 hrest hls hP2 hD2 hS2
    refine vx_throwS B.exec B.bytes hst (sa := sa is) hown q_fit.1 q_fit.2 (hts _ hwk) (hts _ hwi) (hTh.2.2.1 (is, text) hmem) (vx_hat (B := q_bad) (fun w hw9 => hts w (hwa w hw9)) q_bad0 (vx_c (va_Nw.use rfl hTh.2.2.2.1) (vx_c (va_Nw.use rfl hTh.2.2.2.2.1) (vx_c (va_Nw.use rfl hTh.2.2.2.2.2.1) (vx_c (va_Nw.use rfl hTh.2.2.2.2.2.2) vx_n))))) q_ot hTh.1 hTh.2.1 hS2 (hls.trans hml.symm) d0 d3 d4 d6 d9 (fun x hx => (hex x hx).elim) hrm.1 (by
      have h1 : (headSpec wy rm).room.locals = rm.locals := rfl
      rw [h1]
      have h2 := hrm.2.1
      show _ + (13 * (2 + 1) + 43) ≤ _
      omega) (by show 0 + 1 ≤ rm.cells; rw [hrm.2.2.1]; exact Nat.le_refl _) (by show 0 + 6 ≤ rm.slots; rw [hrm.2.2.2]; exact Nat.le_refl _) B.notSynchronized (fun t ha hz hk => ?_) hS2.2.2 (Nat.le_refl _) (Nat.le_refl _)
    refine ⟨(), trivial, ⟨rfl, hP2.kept (fun k q hq => hk q.1 (hP2 k q hq).lt), va_K.moved ha hK, hD2⟩, Nat.le_trans hS2.1 hz, fun q h1 h2 => ?_⟩
    rw [hk q (Nat.lt_of_lt_of_le h1 hS2.1)]
    exact hS2.2.1 q h1 h2
  · intro H locs ls pc rest q ce h1 h2 h3 hP2 hD2 hS2
    refine vx_out (fun x hx => (hex x hx).elim) B.notSynchronized h1 h2 h3 (fun t ht ha => ?_) hS2.2.2 (Nat.le_refl _) (Nat.le_refl _)
    exact ⟨(), trivial, ⟨rfl, by rw [ht]; exact hP2, va_K.moved ha hK, hD2⟩, hS2.F ht⟩
def q_thr {α β : Type} (x : Option α) (k : α → Option β) (y : Option β) : Option β := match x with
  | some a => k a
  | none => y
theorem q_thrE {α β : Type} {x : Option α} {k : α → Option β} {y : Option β} {r : β} (h : q_thr x k y = some r) : (∃ a, x = some a ∧ k a = some r) ∨ (x = none ∧ y = some r) := by
  cases x with
  | none => exact Or.inr ⟨rfl, h⟩
  | some a => exact Or.inl ⟨a, rfl, h⟩
theorem q_join0 {A : Nat → Prop} {D : va_G} {cl : List vw_C} {ws w : va_W} {H H1 : Heap} (hP : va_P D cl ws H) (hD : va_D A ws) (is : List Nat) (hC : is.map (fun i => ws[i]?) = w.map some)
    (hk : ∀ q : Nat, q < H.size → ¬ va_A w H.size q → H1[q]? = H[q]?) (hP1 : va_P D cl w H1) : va_P D cl ws H1 := by
  intro k q h
  by_cases hki : k ∈ is
  · obtain ⟨j, hj⟩ := List.getElem?_of_mem hki
    obtain ⟨q0, h3, h4⟩ := q_at_map hC hj
    rw [h] at h4
    cases h4
    exact hP1 j q h3
  · refine (hP k q h).kept (hk q.1 (hP k q h).lt (fun hA => ?_))
    rcases hA with ⟨j, e, hj⟩ | hA
    · cases hi : is[j]? with
      | none =>
        have h5 : (is.map (fun i => ws[i]?))[j]? = none := by rw [List.getElem?_map, hi]; rfl
        rw [hC, List.getElem?_map, hj] at h5
        cases h5
      | some i2 =>
        obtain ⟨q0, h3, h4⟩ := q_at_map hC hi
        rw [hj] at h3
        cases h3
        have := hD.1 k i2 q (q.1, e) h h4 rfl
        subst this
        exact hki (List.mem_of_getElem? hi)
    · exact absurd (hP k q h).lt (Nat.not_lt.mpr hA)
section QX
variable {p : Program} {l : Launch} {e : Env} {R : Room} {s : State} {m : MethodId} {args : Array Value} {below : List Frame} {meth : Method} {c : Code} {H : Heap} {locs : List Loc} {cells slots : Nat} {Q : State → Prop}
variable {cc : ByteArray} {pc : Nat} {ls : Array Slot} {rest st0 : List Value} {D : va_G} {A : Nat → Prop} {tys : List (ClassId × FieldType)} {ws : va_W} {sa : Nat → Nat}
variable {y : MethodName} {bytes : ByteArray} {maxL nL n index : Nat} {ret : Option FieldType} {wy : List Cond} {rm : Room} {Ts : List Cond} {own C : String} {b : Addr} {As : List Value} {w : va_W}
theorem q_Sxv (S : CallFix p m c cc nL s args Ts own) (hA : ∀ q, s.heap.size ≤ q → A q) (hK : va_K D vwCl tys s) (hP : va_P D vwCl ws H) (hD : va_D A ws) (hS : va_S A s.heap H locs) (hTh : q_Th A sa s s.heap)
    (hM : q_Mx l y wy rm D tys As w H.size sa q_Nv) (cw : CallB R s args own index y bytes maxL ret wy rm 1 6 n ∧ (Cond.static y).before args s = true) (is : List Nat) (hnd : va_nd is = true) (hC : is.map (fun i => ws[i]?) = w.map some)
    (hn : As.length = n) (hsz : ls.size = nL) (hst : st0 = As.reverse ++ rest) (hW : (rest.map fun v => v.category).sum ≤ 8) (hdg : decode cc pc = .ok (.invokestatic index, 3)) (hf : cells + 1 ≤ R.cells ∧ slots + 6 ≤ R.slots)
    (kx : ∀ (H1 : Heap) (locs1 : List Loc) (q : Addr) (ce : Cell), H1[q]? = some ce → ce.vm = .none → s.vm.findClass q_IAE = some ce.cls → va_P D vwCl ws H1 → va_D A ws → va_S A s.heap H1 locs1 → vx_W p l e R s m args below meth c H1 locs1 (cells + 1) (slots + 6) Q (F0 m pc ls rest) q) : W p l e R s m args below meth c H locs cells slots Q (F0 m pc ls st0) := by
  have hPc : va_P D vwCl w H := q_cutP hP hC
  have hDc : va_D (fun _ => True) w := (hD.sub is hnd hC).weaken (fun _ _ _ _ => trivial)
  have hFc := va_free (wc := w) hD hS hA is hC
  have hbl : FrameBlind (va_Pc As (fun U => q_Pw D tys w H.size U ∧ q_Th (va_A w H.size) sa U U.heap)) := fun a U g mk q => by
    obtain ⟨q0, ⟨q1, qP, qK, qD⟩, qT⟩ := q
    exact ⟨q0, ⟨q1, qP, va_K.moved (u := U) (U := U.calling g mk a) (Vm.Alike.refl U.vm) qK, qD⟩, qT.blind g mk a⟩
  have hpre : ∀ U : State, U.heap = H → s.WarmedH U.vm → va_Pc As (fun U => q_Pw D tys w H.size U ∧ q_Th (va_A w H.size) sa U U.heap) (As : List Value).toArray U := fun U hU hW2 =>
    ⟨rfl, ⟨by rw [hU], by rw [hU]; exact hPc, va_K.moved hW2.alike hK, hDc⟩, hTh.down hS hFc hU hW2⟩
  refine vx_callv (vx_runS (g := F0 m pc ls st0) (As := As) (rest := rest) S hM cw ⟨hbl, hpre⟩ rfl hn hsz hst (lv_room hW) hdg hf) hS (fun q _ h => h.elim) hFc (fun q _ h => hFc q h) (fun E ce q9 u t H1 locs1 ht hvm hw hB hz1 hk1 hS1 h1 h2 h3 => ?_) (fun u t H1 locs1 ht hvm hw => ?_)
  · obtain ⟨rfl, hP1, -, -⟩ := hB
    rw [ht] at hP1
    exact kx H1 locs1 q9 ce h1 h2 h3 (q_join0 hP hD is hC hk1 hP1) hD hS1
  · exact hw.elim
theorem q_Vxv (S : CallFix p m c cc nL s args Ts own) (hA : ∀ q, s.heap.size ≤ q → A q) (hK : va_K D vwCl tys s) (hP : va_P D vwCl ws H) (hD : va_D A ws) (hS : va_S A s.heap H locs) (hTh : q_Th A sa s s.heap)
    (hM : q_Mx l y wy rm D tys (.ref b :: As) w H.size sa q_Nv) (cw : CallW R s args own C index y bytes maxL ret wy rm 1 6 n) (is : List Nat) (hnd : va_nd is = true) (hC : is.map (fun i => ws[i]?) = w.map some)
    (ci q0 : Nat) {qc : vw_C} {fs : List Value} (hc : vwCl[ci]? = some qc) (hcC : qc.1 = C) (hre : w[q0]? = some (b, .inr (ci, fs))) (hn : As.length = n) (hsz : ls.size = nL) (hst : st0 = As.reverse ++ .ref b :: rest) (hW : (rest.map fun v => v.category).sum ≤ 8) (hdg : decode cc pc = .ok (.invokevirtual index, 3)) (hf : cells + 1 ≤ R.cells ∧ slots + 6 ≤ R.slots)
    (kx : ∀ (H1 : Heap) (locs1 : List Loc) (q : Addr) (ce : Cell), H1[q]? = some ce → ce.vm = .none → s.vm.findClass q_IAE = some ce.cls → va_P D vwCl ws H1 → va_D A ws → va_S A s.heap H1 locs1 → vx_W p l e R s m args below meth c H1 locs1 (cells + 1) (slots + 6) Q (F0 m pc ls rest) q) : W p l e R s m args below meth c H locs cells slots Q (F0 m pc ls st0) := by
  subst hcC
  have hPc : va_P D vwCl w H := q_cutP hP hC
  have hDc : va_D (fun _ => True) w := (hD.sub is hnd hC).weaken (fun _ _ _ _ => trivial)
  have hFc := va_free (wc := w) hD hS hA is hC
  have hbl : FrameBlind (va_Pc (.ref b :: As) (fun U => q_Pw D tys w H.size U ∧ q_Th (va_A w H.size) sa U U.heap)) := fun a U g mk q => by
    obtain ⟨q0, ⟨q1, qP, qK, qD⟩, qT⟩ := q
    exact ⟨q0, ⟨q1, qP, va_K.moved (u := U) (U := U.calling g mk a) (Vm.Alike.refl U.vm) qK, qD⟩, qT.blind g mk a⟩
  have hpre : ∀ U : State, U.heap = H → s.WarmedH U.vm → va_Pc (.ref b :: As) (fun U => q_Pw D tys w H.size U ∧ q_Th (va_A w H.size) sa U U.heap) ((.ref b :: As) : List Value).toArray U := fun U hU hW2 =>
    ⟨rfl, ⟨by rw [hU], by rw [hU]; exact hPc, va_K.moved hW2.alike hK, hDc⟩, hTh.down hS hFc hU hW2⟩
  refine vx_callv (vx_runV (g := F0 m pc ls st0) (As := As) (rest := rest) S hM cw ⟨hbl, va_recv hK hPc hc hre, hpre⟩ rfl hn hsz hst (lv_room hW) hdg hf) hS (fun q _ h => h.elim) hFc (fun q _ h => hFc q h) (fun E ce q9 u t H1 locs1 ht hvm hw hB hz1 hk1 hS1 h1 h2 h3 => ?_) (fun u t H1 locs1 ht hvm hw => ?_)
  · obtain ⟨rfl, hP1, -, -⟩ := hB
    rw [ht] at hP1
    exact kx H1 locs1 q9 ce h1 h2 h3 (q_join0 hP hD is hC hk1 hP1) hD hS1
  · exact hw.elim
theorem q_Vxi (S : CallFix p m c cc nL s args Ts own) (hA : ∀ q, s.heap.size ≤ q → A q) (hK : va_K D vwCl tys s) (hP : va_P D vwCl ws H) (hD : va_D A ws) (hS : va_S A s.heap H locs) (hTh : q_Th A sa s s.heap)
    (hM : q_Mx l y wy rm D tys (.ref b :: As) w H.size sa q_Ni) (cw : CallW R s args own C index y bytes maxL ret wy rm 1 6 n) (is : List Nat) (hnd : va_nd is = true) (hC : is.map (fun i => ws[i]?) = w.map some)
    (ci q0 : Nat) {qc : vw_C} {fs : List Value} (hc : vwCl[ci]? = some qc) (hcC : qc.1 = C) (hre : w[q0]? = some (b, .inr (ci, fs))) (hn : As.length = n) (hsz : ls.size = nL) (hst : st0 = As.reverse ++ .ref b :: rest) (hW : (rest.map fun v => v.category).sum ≤ 8) (hdg : decode cc pc = .ok (.invokevirtual index, 3)) (hf : cells + 1 ≤ R.cells ∧ slots + 6 ≤ R.slots)
    (kx : ∀ (H1 : Heap) (locs1 : List Loc) (q : Addr) (ce : Cell), H1[q]? = some ce → ce.vm = .none → s.vm.findClass q_IAE = some ce.cls → va_P D vwCl ws H1 → va_D A ws → va_S A s.heap H1 locs1 → vx_W p l e R s m args below meth c H1 locs1 (cells + 1) (slots + 6) Q (F0 m pc ls rest) q) : W p l e R s m args below meth c H locs cells slots Q (F0 m pc ls st0) := by
  subst hcC
  have hPc : va_P D vwCl w H := q_cutP hP hC
  have hDc : va_D (fun _ => True) w := (hD.sub is hnd hC).weaken (fun _ _ _ _ => trivial)
  have hFc := va_free (wc := w) hD hS hA is hC
  have hbl : FrameBlind (va_Pc (.ref b :: As) (fun U => q_Pw D tys w H.size U ∧ q_Th (va_A w H.size) sa U U.heap)) := fun a U g mk q => by
    obtain ⟨q0, ⟨q1, qP, qK, qD⟩, qT⟩ := q
    exact ⟨q0, ⟨q1, qP, va_K.moved (u := U) (U := U.calling g mk a) (Vm.Alike.refl U.vm) qK, qD⟩, qT.blind g mk a⟩
  have hpre : ∀ U : State, U.heap = H → s.WarmedH U.vm → va_Pc (.ref b :: As) (fun U => q_Pw D tys w H.size U ∧ q_Th (va_A w H.size) sa U U.heap) ((.ref b :: As) : List Value).toArray U := fun U hU hW2 =>
    ⟨rfl, ⟨by rw [hU], by rw [hU]; exact hPc, va_K.moved hW2.alike hK, hDc⟩, hTh.down hS hFc hU hW2⟩
  refine vx_calli (vx_runV (g := F0 m pc ls st0) (As := As) (rest := rest) S hM cw ⟨hbl, va_recv hK hPc hc hre, hpre⟩ rfl hn hsz hst (lv_room hW) hdg hf) hS (fun q _ h => h.elim) hFc (fun q _ h => hFc q h) (fun E ce q9 u t H1 locs1 ht hvm hw hB hz1 hk1 hS1 h1 h2 h3 => ?_) (fun r1 u t H1 locs1 ht hvm hw => ?_)
  · obtain ⟨rfl, hP1, -, -⟩ := hB
    rw [ht] at hP1
    exact kx H1 locs1 q9 ce h1 h2 h3 (q_join0 hP hD is hC hk1 hP1) hD hS1
  · exact hw.elim
end QX
noncomputable def hX9_needBoxNumber (p0 : Int32) : Option Unit :=
  if p0 < 0 then (
    some ()
  ) else (
    if p0 < 16 then (
      none
    ) else (
      some ()
    )
  )
noncomputable def hX9_needArrowNumber (p0 : Int32) : Option Unit :=
  if p0 < 0 then (
    some ()
  ) else (
    if p0 < 24 then (
      none
    ) else (
      some ()
    )
  )
noncomputable def hX9_needBox (R_width : Nat → Int32) (p0 : Int32) : Option Unit :=
  Option.bind (fX7_hasBox R_width p0) (fun q1 =>
  if q1 = 0 then (
    some ()
  ) else (
    none
  )
  )
noncomputable def hX9_needRounds (p0 : Int32) : Option Unit :=
  if p0 < 0 then (
    some ()
  ) else (
    if p0 ≤ 4 then (
      none
    ) else (
      some ()
    )
  )
noncomputable def hX9_needWhat (p0 : Int32) (p1 : Int32) : Option Unit :=
  if p0 < 0 then (
    some ()
  ) else (
    if p0 ≤ p1 then (
      none
    ) else (
      some ()
    )
  )
noncomputable def hX9_box (p0 : Int32) (p1 : Int32) : Option Unit :=
  q_thr (fX9_needBoxNumber p0) (fun _ =>
    if p1 < 1 then (
      some ()
    ) else (
      if p1 ≤ 50 then (
        none
      ) else (
        some ()
      )
    )
  ) (hX9_needBoxNumber p0)
noncomputable def hX9_remove (p0 : Int32) : Option Unit :=
  q_thr (fX9_needBoxNumber p0) (fun _ =>
    none
  ) (hX9_needBoxNumber p0)
noncomputable def hX9_arrow (R_width : Nat → Int32) (p0 : Int32) (p1 : Int32) (p2 : Int32) : Option Unit :=
  q_thr (fX9_needArrowNumber p0) (fun _ =>
    q_thr (fX9_needBox R_width p1) (fun _ =>
      q_thr (fX9_needBox R_width p2) (fun _ =>
        if p1 = p2 then (
          some ()
        ) else (
          none
        )
      ) (hX9_needBox R_width p2)
    ) (hX9_needBox R_width p1)
  ) (hX9_needArrowNumber p0)
noncomputable def hX9_drop (p0 : Int32) : Option Unit :=
  q_thr (fX9_needArrowNumber p0) (fun _ =>
    none
  ) (hX9_needArrowNumber p0)
noncomputable def hX9_pin (R_width : Nat → Int32) (p0 : Int32) (p1 : Int32) : Option Unit :=
  q_thr (fX9_needBox R_width p0) (fun _ =>
    if p1 < (-1) then (
      some ()
    ) else (
      if p1 ≤ 8 then (
        none
      ) else (
        some ()
      )
    )
  ) (hX9_needBox R_width p0)
noncomputable def hX9_draw (p0 : Int32) : Option Unit :=
  q_thr (fX9_needRounds p0) (fun _ =>
    none
  ) (hX9_needRounds p0)
noncomputable def hX9_redraw (p0 : Int32) (p1 : Int32) : Option Unit :=
  q_thr (fX9_needRounds p0) (fun _ =>
    if p1 < 0 then (
      some ()
    ) else (
      if p1 ≤ 100000 then (
        none
      ) else (
        some ()
      )
    )
  ) (hX9_needRounds p0)
noncomputable def hX9_at (p0 : Int32) (p1 : Int32) : Option Unit :=
  q_thr (fX9_needBoxNumber p0) (fun _ =>
    q_thr (fX9_needWhat p1 2) (fun _ =>
      none
    ) (hX9_needWhat p1 2)
  ) (hX9_needBoxNumber p0)
noncomputable def hX9_reversed (p0 : Int32) : Option Unit :=
  q_thr (fX9_needArrowNumber p0) (fun _ =>
    none
  ) (hX9_needArrowNumber p0)
noncomputable def hX9_piece (p0 : Int32) (p1 : Int32) (p2 : Int32) : Option Unit :=
  q_thr (fX9_needArrowNumber p0) (fun _ =>
    q_thr (fX9_needWhat p2 2) (fun _ =>
      none
    ) (hX9_needWhat p2 2)
  ) (hX9_needArrowNumber p0)
noncomputable def hX9_between (p0 : Int32) (p1 : Int32) : Option Unit :=
  q_thr (fX9_needWhat p1 1) (fun _ =>
    none
  ) (hX9_needWhat p1 1)
abbrev rxX9_needBoxNumber : Room := { frames := 6, cells := 1, slots := 6, locals := 100 }
theorem xwX9_needBoxNumber : Cond.classLink RX9 89 q_IAE ∈ wsX9_needBoxNumber ∧ Cond.initialized q_IAE ∈ wsX9_needBoxNumber ∧ ∀ w ∈ (vx_atS RX9 93 q_IAE q_up).filter goodWord, w ∈ wsX9_needBoxNumber := by decide +kernel
set_option maxHeartbeats 4000000 in
set_option maxRecDepth 100000 in
theorem xX9_needBoxNumber (l : Launch) (hst : l.stackTraces = false) (dC : Nat → ClassId) (dI : Nat → Nat → Nat) (cI cZ : ClassId) (sa : Nat → Nat) (sz : Nat) (p0 : Int32) (hF : hX9_needBoxNumber p0 = some ()) : q_Mx l yX9_needBoxNumber wsX9_needBoxNumber rxX9_needBoxNumber (dC, dI) (q_ty cI cZ) [.int p0] (iX9_needBoxNumber cI cZ) sz sa q_Nv := by
  refine q_metx (cc := cX9_needBoxNumber) (maxL := 1) hst (by decide) rfl rfl (Nat.le_of_ble_eq_true rfl) xwX9_needBoxNumber.1 xwX9_needBoxNumber.2.1 xwX9_needBoxNumber.2.2 ⟨by decide, by decide, rfl, rfl⟩ ?_
  intro p e s m args below meth c Q A H locs ls C hTh hP hD hS hl hthr hpas
  obtain ⟨hx, hb, hml, hown, hts, hA, hK⟩ := C
  replace hl : lv_has ls 1 [(0, .int p0)] := hl
  unfold hX9_needBoxNumber at hF
  refine lv_iload_n hx hb dX9_needBoxNumber_0 rfl (lv_at hl 0 rfl) ?_
  refine lv_if_lt (tgt := 10) hx hb dX9_needBoxNumber_1 (by decide) (fun hc => ?_) (fun hc => ?_)
  · replace hF := q_t hc hF
    exact hthr H locs ls 10 _ 233 "no such box" (by decide) dX9_needBoxNumber_10 dX9_needBoxNumber_13 dX9_needBoxNumber_14 dX9_needBoxNumber_16 dX9_needBoxNumber_19 (Nat.le_of_ble_eq_true rfl) hl.1 hP hD hS
  · replace hF := q_f hc hF
    refine lv_iload_n hx hb dX9_needBoxNumber_4 rfl (lv_at hl 0 rfl) ?_
    refine lv_bipush (v := 16) hx hb dX9_needBoxNumber_5 (by decide) ?_
    refine lv_icmp_lt (tgt := 20) hx hb dX9_needBoxNumber_7 (by decide) (fun hc => ?_) (fun hc => ?_)
    · replace hF := q_t hc hF
      cases hF
    · replace hF := q_f hc hF
      exact hthr H locs ls 10 _ 233 "no such box" (by decide) dX9_needBoxNumber_10 dX9_needBoxNumber_13 dX9_needBoxNumber_14 dX9_needBoxNumber_16 dX9_needBoxNumber_19 (Nat.le_of_ble_eq_true rfl) hl.1 hP hD hS
abbrev rxX9_needArrowNumber : Room := { frames := 6, cells := 1, slots := 6, locals := 100 }
theorem xwX9_needArrowNumber : Cond.classLink RX9 89 q_IAE ∈ wsX9_needArrowNumber ∧ Cond.initialized q_IAE ∈ wsX9_needArrowNumber ∧ ∀ w ∈ (vx_atS RX9 93 q_IAE q_up).filter goodWord, w ∈ wsX9_needArrowNumber := by decide +kernel
set_option maxHeartbeats 4000000 in
set_option maxRecDepth 100000 in
theorem xX9_needArrowNumber (l : Launch) (hst : l.stackTraces = false) (dC : Nat → ClassId) (dI : Nat → Nat → Nat) (cI cZ : ClassId) (sa : Nat → Nat) (sz : Nat) (p0 : Int32) (hF : hX9_needArrowNumber p0 = some ()) : q_Mx l yX9_needArrowNumber wsX9_needArrowNumber rxX9_needArrowNumber (dC, dI) (q_ty cI cZ) [.int p0] (iX9_needArrowNumber cI cZ) sz sa q_Nv := by
  refine q_metx (cc := cX9_needArrowNumber) (maxL := 1) hst (by decide) rfl rfl (Nat.le_of_ble_eq_true rfl) xwX9_needArrowNumber.1 xwX9_needArrowNumber.2.1 xwX9_needArrowNumber.2.2 ⟨by decide, by decide, rfl, rfl⟩ ?_
  intro p e s m args below meth c Q A H locs ls C hTh hP hD hS hl hthr hpas
  obtain ⟨hx, hb, hml, hown, hts, hA, hK⟩ := C
  replace hl : lv_has ls 1 [(0, .int p0)] := hl
  unfold hX9_needArrowNumber at hF
  refine lv_iload_n hx hb dX9_needArrowNumber_0 rfl (lv_at hl 0 rfl) ?_
  refine lv_if_lt (tgt := 10) hx hb dX9_needArrowNumber_1 (by decide) (fun hc => ?_) (fun hc => ?_)
  · replace hF := q_t hc hF
    exact hthr H locs ls 10 _ 235 "no such arrow" (by decide) dX9_needArrowNumber_10 dX9_needArrowNumber_13 dX9_needArrowNumber_14 dX9_needArrowNumber_16 dX9_needArrowNumber_19 (Nat.le_of_ble_eq_true rfl) hl.1 hP hD hS
  · replace hF := q_f hc hF
    refine lv_iload_n hx hb dX9_needArrowNumber_4 rfl (lv_at hl 0 rfl) ?_
    refine lv_bipush (v := 24) hx hb dX9_needArrowNumber_5 (by decide) ?_
    refine lv_icmp_lt (tgt := 20) hx hb dX9_needArrowNumber_7 (by decide) (fun hc => ?_) (fun hc => ?_)
    · replace hF := q_t hc hF
      cases hF
    · replace hF := q_f hc hF
      exact hthr H locs ls 10 _ 235 "no such arrow" (by decide) dX9_needArrowNumber_10 dX9_needArrowNumber_13 dX9_needArrowNumber_14 dX9_needArrowNumber_16 dX9_needArrowNumber_19 (Nat.le_of_ble_eq_true rfl) hl.1 hP hD hS
abbrev rxX9_needBox : Room := { frames := 6, cells := 1, slots := 6, locals := 100 }
theorem xwX9_needBox : Cond.classLink RX9 89 q_IAE ∈ wsX9_needBox ∧ Cond.initialized q_IAE ∈ wsX9_needBox ∧ ∀ w ∈ (vx_atS RX9 93 q_IAE q_up).filter goodWord, w ∈ wsX9_needBox := by decide +kernel
set_option maxHeartbeats 4000000 in
set_option maxRecDepth 100000 in
theorem xX9_needBox (l : Launch) (hst : l.stackTraces = false) (dC : Nat → ClassId) (dI : Nat → Nat → Nat) (cI cZ : ClassId) (sa : Nat → Nat) (aS : Nat → Nat) (aL : Nat → Nat) (aF : Nat → Nat) (aK : Nat → Nat) (sz : Nat) (M_told : Int32) (R_width : Nat → Int32) (p0 : Int32) (hF : hX9_needBox R_width p0 = some ()) : q_Mx l yX9_needBox wsX9_needBox rxX9_needBox (dC, dI) (q_ty cI cZ) [.ref (aS 47), .int p0] (iX9_needBox aS aL aF aK cI cZ M_told R_width) sz sa q_Nv := by
  refine q_metx (cc := cX9_needBox) (maxL := 2) hst (by decide) rfl rfl (Nat.le_of_ble_eq_true rfl) xwX9_needBox.1 xwX9_needBox.2.1 xwX9_needBox.2.2 ⟨by decide, by decide, rfl, rfl⟩ ?_
  intro p e s m args below meth c Q A H locs ls C hTh hP hD hS hl hthr hpas
  obtain ⟨hx, hb, hml, hown, hts, hA, hK⟩ := C
  replace hl : lv_has ls 2 [(0, .ref (aS 47)), (1, .int p0)] := hl
  have k0 := hts (.fieldLink RX9 12 "RouteLayout" "routes" "LRouteLayout$Routes;") (by decide +kernel)
  unfold hX9_needBox at hF
  refine lv_aload_n hx hb dX9_needBox_0 rfl (lv_at hl 0 rfl) ?_
  refine q_get (ci := 9) (C := RX9) (T := TX9) (N := 11) hx hb hts eX9_needBox_X9 hown hK hP 0 rfl rfl 0 (Nat.le_of_ble_eq_true rfl) k0 rfl rfl dX9_needBox_1 ?_
  refine lv_iload_n hx hb dX9_needBox_4 rfl (lv_at hl 1 rfl) ?_
  obtain ⟨q1, hcq1, hF⟩ := q_bd hF
  refine q_Vi (As := [.int p0]) (rest := []) ⟨hx, hb, hml, hown, hts⟩ hA hK hP hD hS (tX7_hasBox l dC dI cI cZ aS H.size R_width p0 q1 hcq1) (cwV 1 hts gX9_needBox_X7_hasBox rfl rfl rfl uX7_hasBox ⟨Nat.le_of_ble_eq_true rfl, Nat.le_of_ble_eq_true rfl⟩) [1, 2] [(false, 0), (true, 0), (true, 1)] (iX9_needBox aS aL aF aK cI cZ M_told R_width) rfl rfl rfl rfl rfl 7 0 rfl rfl rfl rfl hl.1 rfl (Nat.le_of_ble_eq_true rfl) dX9_needBox_5 ⟨Nat.zero_le _, Nat.zero_le _⟩ (fun H locs hP hD hS => ?_)
  refine lv_if_ne (tgt := 21) hx hb dX9_needBox_8 (by decide) (fun hc => ?_) (fun hc => ?_)
  · replace hF := q_f hc hF
    cases hF
  · replace hF := q_t hc hF
    exact hthr H locs ls 11 _ 237 "the box isn't there" (by decide) dX9_needBox_11 dX9_needBox_14 dX9_needBox_15 dX9_needBox_17 dX9_needBox_20 (Nat.le_of_ble_eq_true rfl) hl.1 hP hD hS
abbrev rxX9_needRounds : Room := { frames := 6, cells := 1, slots := 6, locals := 100 }
theorem xwX9_needRounds : Cond.classLink RX9 89 q_IAE ∈ wsX9_needRounds ∧ Cond.initialized q_IAE ∈ wsX9_needRounds ∧ ∀ w ∈ (vx_atS RX9 93 q_IAE q_up).filter goodWord, w ∈ wsX9_needRounds := by decide +kernel
set_option maxHeartbeats 4000000 in
set_option maxRecDepth 100000 in
theorem xX9_needRounds (l : Launch) (hst : l.stackTraces = false) (dC : Nat → ClassId) (dI : Nat → Nat → Nat) (cI cZ : ClassId) (sa : Nat → Nat) (sz : Nat) (p0 : Int32) (hF : hX9_needRounds p0 = some ()) : q_Mx l yX9_needRounds wsX9_needRounds rxX9_needRounds (dC, dI) (q_ty cI cZ) [.int p0] (iX9_needRounds cI cZ) sz sa q_Nv := by
  refine q_metx (cc := cX9_needRounds) (maxL := 1) hst (by decide) rfl rfl (Nat.le_of_ble_eq_true rfl) xwX9_needRounds.1 xwX9_needRounds.2.1 xwX9_needRounds.2.2 ⟨by decide, by decide, rfl, rfl⟩ ?_
  intro p e s m args below meth c Q A H locs ls C hTh hP hD hS hl hthr hpas
  obtain ⟨hx, hb, hml, hown, hts, hA, hK⟩ := C
  replace hl : lv_has ls 1 [(0, .int p0)] := hl
  unfold hX9_needRounds at hF
  refine lv_iload_n hx hb dX9_needRounds_0 rfl (lv_at hl 0 rfl) ?_
  refine lv_if_lt (tgt := 9) hx hb dX9_needRounds_1 (by decide) (fun hc => ?_) (fun hc => ?_)
  · replace hF := q_t hc hF
    exact hthr H locs ls 9 _ 239 "no such number of rounds" (by decide) dX9_needRounds_9 dX9_needRounds_12 dX9_needRounds_13 dX9_needRounds_15 dX9_needRounds_18 (Nat.le_of_ble_eq_true rfl) hl.1 hP hD hS
  · replace hF := q_f hc hF
    refine lv_iload_n hx hb dX9_needRounds_4 rfl (lv_at hl 0 rfl) ?_
    refine lv_iconst (v := 4) hx hb dX9_needRounds_5 (by decide) ?_
    refine lv_icmp_le (tgt := 19) hx hb dX9_needRounds_6 (by decide) (fun hc => ?_) (fun hc => ?_)
    · replace hF := q_t hc hF
      cases hF
    · replace hF := q_f hc hF
      exact hthr H locs ls 9 _ 239 "no such number of rounds" (by decide) dX9_needRounds_9 dX9_needRounds_12 dX9_needRounds_13 dX9_needRounds_15 dX9_needRounds_18 (Nat.le_of_ble_eq_true rfl) hl.1 hP hD hS
abbrev rxX9_needWhat : Room := { frames := 6, cells := 1, slots := 6, locals := 100 }
theorem xwX9_needWhat : Cond.classLink RX9 89 q_IAE ∈ wsX9_needWhat ∧ Cond.initialized q_IAE ∈ wsX9_needWhat ∧ ∀ w ∈ (vx_atS RX9 93 q_IAE q_up).filter goodWord, w ∈ wsX9_needWhat := by decide +kernel
set_option maxHeartbeats 4000000 in
set_option maxRecDepth 100000 in
theorem xX9_needWhat (l : Launch) (hst : l.stackTraces = false) (dC : Nat → ClassId) (dI : Nat → Nat → Nat) (cI cZ : ClassId) (sa : Nat → Nat) (sz : Nat) (p0 : Int32) (p1 : Int32) (hF : hX9_needWhat p0 p1 = some ()) : q_Mx l yX9_needWhat wsX9_needWhat rxX9_needWhat (dC, dI) (q_ty cI cZ) [.int p0, .int p1] (iX9_needWhat cI cZ) sz sa q_Nv := by
  refine q_metx (cc := cX9_needWhat) (maxL := 2) hst (by decide) rfl rfl (Nat.le_of_ble_eq_true rfl) xwX9_needWhat.1 xwX9_needWhat.2.1 xwX9_needWhat.2.2 ⟨by decide, by decide, rfl, rfl⟩ ?_
  intro p e s m args below meth c Q A H locs ls C hTh hP hD hS hl hthr hpas
  obtain ⟨hx, hb, hml, hown, hts, hA, hK⟩ := C
  replace hl : lv_has ls 2 [(0, .int p0), (1, .int p1)] := hl
  unfold hX9_needWhat at hF
  refine lv_iload_n hx hb dX9_needWhat_0 rfl (lv_at hl 0 rfl) ?_
  refine lv_if_lt (tgt := 9) hx hb dX9_needWhat_1 (by decide) (fun hc => ?_) (fun hc => ?_)
  · replace hF := q_t hc hF
    exact hthr H locs ls 9 _ 241 "no such what" (by decide) dX9_needWhat_9 dX9_needWhat_12 dX9_needWhat_13 dX9_needWhat_15 dX9_needWhat_18 (Nat.le_of_ble_eq_true rfl) hl.1 hP hD hS
  · replace hF := q_f hc hF
    refine lv_iload_n hx hb dX9_needWhat_4 rfl (lv_at hl 0 rfl) ?_
    refine lv_iload_n hx hb dX9_needWhat_5 rfl (lv_at hl 1 rfl) ?_
    refine lv_icmp_le (tgt := 19) hx hb dX9_needWhat_6 (by decide) (fun hc => ?_) (fun hc => ?_)
    · replace hF := q_t hc hF
      cases hF
    · replace hF := q_f hc hF
      exact hthr H locs ls 9 _ 241 "no such what" (by decide) dX9_needWhat_9 dX9_needWhat_12 dX9_needWhat_13 dX9_needWhat_15 dX9_needWhat_18 (Nat.le_of_ble_eq_true rfl) hl.1 hP hD hS
abbrev rxX9_box : Room := { frames := 10, cells := 1, slots := 6, locals := 400 }
theorem xwX9_box : Cond.classLink RX9 89 q_IAE ∈ wsX9_box ∧ Cond.initialized q_IAE ∈ wsX9_box ∧ ∀ w ∈ (vx_atS RX9 93 q_IAE q_up).filter goodWord, w ∈ wsX9_box := by decide +kernel
set_option maxHeartbeats 4000000 in
set_option maxRecDepth 100000 in
theorem xX9_box (l : Launch) (hst : l.stackTraces = false) (dC : Nat → ClassId) (dI : Nat → Nat → Nat) (cI cZ : ClassId) (sa : Nat → Nat) (aS : Nat → Nat) (aL : Nat → Nat) (aF : Nat → Nat) (aK : Nat → Nat) (sz : Nat) (M_told : Int32) (R_width : Nat → Int32) (p0 : Int32) (p1 : Int32) (hF : hX9_box p0 p1 = some ()) : q_Mx l yX9_box wsX9_box rxX9_box (dC, dI) (q_ty cI cZ) [.ref (aS 47), .int p0, .int p1] (iX9_box aS aL aF aK cI cZ M_told R_width) sz sa q_Nv := by
  refine q_metx (cc := cX9_box) (maxL := 3) hst (by decide) rfl rfl (Nat.le_of_ble_eq_true rfl) xwX9_box.1 xwX9_box.2.1 xwX9_box.2.2 ⟨by decide, by decide, rfl, rfl⟩ ?_
  intro p e s m args below meth c Q A H locs ls C hTh hP hD hS hl hthr hpas
  obtain ⟨hx, hb, hml, hown, hts, hA, hK⟩ := C
  replace hl : lv_has ls 3 [(0, .ref (aS 47)), (1, .int p0), (2, .int p1)] := hl
  unfold hX9_box at hF
  refine lv_iload_n hx hb dX9_box_0 rfl (lv_at hl 1 rfl) ?_
  rcases q_thrE hF with ⟨⟨⟩, hcq1, hF⟩ | ⟨-, hF⟩
  · refine q_Sv (As := [.int p0]) (rest := []) ⟨hx, hb, hml, hown, hts⟩ hA hK hP hD hS (tX9_needBoxNumber l dC dI cI cZ H.size p0 () hcq1) (va_cwS 1 hts gX9_box_X9_needBoxNumber rfl rfl rfl uX9_needBoxNumber ⟨Nat.le_of_ble_eq_true rfl, Nat.le_of_ble_eq_true rfl⟩) [] [(false, 0), (false, 1), (false, 2)] (iX9_box aS aL aF aK cI cZ M_told R_width) rfl rfl rfl rfl rfl rfl hl.1 rfl (Nat.le_of_ble_eq_true rfl) dX9_box_1 ⟨Nat.zero_le _, Nat.zero_le _⟩ (fun H locs hP hD hS => ?_)
    refine lv_iload_n hx hb dX9_box_4 rfl (lv_at hl 2 rfl) ?_
    refine lv_iconst (v := 1) hx hb dX9_box_5 (by decide) ?_
    refine lv_icmp_lt (tgt := 15) hx hb dX9_box_6 (by decide) (fun hc => ?_) (fun hc => ?_)
    · replace hF := q_t hc hF
      exact hthr H locs ls 15 _ 91 "no such width" (by decide) dX9_box_15 dX9_box_18 dX9_box_19 dX9_box_21 dX9_box_24 (Nat.le_of_ble_eq_true rfl) hl.1 hP hD hS
    · replace hF := q_f hc hF
      refine lv_iload_n hx hb dX9_box_9 rfl (lv_at hl 2 rfl) ?_
      refine lv_bipush (v := 50) hx hb dX9_box_10 (by decide) ?_
      refine lv_icmp_le (tgt := 25) hx hb dX9_box_12 (by decide) (fun hc => ?_) (fun hc => ?_)
      · replace hF := q_t hc hF
        cases hF
      · replace hF := q_f hc hF
        exact hthr H locs ls 15 _ 91 "no such width" (by decide) dX9_box_15 dX9_box_18 dX9_box_19 dX9_box_21 dX9_box_24 (Nat.le_of_ble_eq_true rfl) hl.1 hP hD hS
  · refine q_Sxv (As := [.int p0]) (rest := []) ⟨hx, hb, hml, hown, hts⟩ hA hK hP hD hS hTh (xX9_needBoxNumber l hst dC dI cI cZ sa H.size p0 hF) (va_cwS 1 hts gX9_box_X9_needBoxNumber rfl rfl rfl uX9_needBoxNumber ⟨Nat.le_of_ble_eq_true rfl, Nat.le_of_ble_eq_true rfl⟩) [] rfl rfl rfl hl.1 rfl (Nat.le_of_ble_eq_true rfl) dX9_box_1 ⟨Nat.le_of_ble_eq_true rfl, Nat.le_of_ble_eq_true rfl⟩ (fun H locs q ce h1 h2 h3 hP hD hS => hpas H locs ls 1 _ q ce h1 h2 h3 hP hD hS)
abbrev rxX9_remove : Room := { frames := 10, cells := 1, slots := 6, locals := 400 }
theorem xwX9_remove : Cond.classLink RX9 89 q_IAE ∈ wsX9_remove ∧ Cond.initialized q_IAE ∈ wsX9_remove ∧ ∀ w ∈ (vx_atS RX9 93 q_IAE q_up).filter goodWord, w ∈ wsX9_remove := by decide +kernel
set_option maxHeartbeats 4000000 in
set_option maxRecDepth 100000 in
theorem xX9_remove (l : Launch) (hst : l.stackTraces = false) (dC : Nat → ClassId) (dI : Nat → Nat → Nat) (cI cZ : ClassId) (sa : Nat → Nat) (aS : Nat → Nat) (aL : Nat → Nat) (aF : Nat → Nat) (aK : Nat → Nat) (sz : Nat) (M_told : Int32) (R_width : Nat → Int32) (R_pinned : Nat → Int32) (R_from : Nat → Int32) (R_to : Nat → Int32) (R_turned : Nat → Int32) (R_reach : Nat → Int32) (p0 : Int32) (hF : hX9_remove p0 = some ()) : q_Mx l yX9_remove wsX9_remove rxX9_remove (dC, dI) (q_ty cI cZ) [.ref (aS 47), .int p0] (iX9_remove aS aL aF aK cI cZ M_told R_width R_pinned R_from R_to R_turned R_reach) sz sa q_Ni := by
  refine q_metx (cc := cX9_remove) (maxL := 2) hst (by decide) rfl rfl (Nat.le_of_ble_eq_true rfl) xwX9_remove.1 xwX9_remove.2.1 xwX9_remove.2.2 ⟨by decide, by decide, rfl, rfl⟩ ?_
  intro p e s m args below meth c Q A H locs ls C hTh hP hD hS hl hthr hpas
  obtain ⟨hx, hb, hml, hown, hts, hA, hK⟩ := C
  replace hl : lv_has ls 2 [(0, .ref (aS 47)), (1, .int p0)] := hl
  unfold hX9_remove at hF
  refine lv_iload_n hx hb dX9_remove_0 rfl (lv_at hl 1 rfl) ?_
  rcases q_thrE hF with ⟨⟨⟩, hcq1, hF⟩ | ⟨-, hF⟩
  · refine q_Sv (As := [.int p0]) (rest := []) ⟨hx, hb, hml, hown, hts⟩ hA hK hP hD hS (tX9_needBoxNumber l dC dI cI cZ H.size p0 () hcq1) (va_cwS 1 hts gX9_remove_X9_needBoxNumber rfl rfl rfl uX9_needBoxNumber ⟨Nat.le_of_ble_eq_true rfl, Nat.le_of_ble_eq_true rfl⟩) [] [(false, 0), (false, 1), (false, 2), (false, 3), (false, 4), (false, 5), (false, 6), (false, 7)] (iX9_remove aS aL aF aK cI cZ M_told R_width R_pinned R_from R_to R_turned R_reach) rfl rfl rfl rfl rfl rfl hl.1 rfl (Nat.le_of_ble_eq_true rfl) dX9_remove_1 ⟨Nat.zero_le _, Nat.zero_le _⟩ (fun H locs hP hD hS => ?_)
    cases hF
  · refine q_Sxv (As := [.int p0]) (rest := []) ⟨hx, hb, hml, hown, hts⟩ hA hK hP hD hS hTh (xX9_needBoxNumber l hst dC dI cI cZ sa H.size p0 hF) (va_cwS 1 hts gX9_remove_X9_needBoxNumber rfl rfl rfl uX9_needBoxNumber ⟨Nat.le_of_ble_eq_true rfl, Nat.le_of_ble_eq_true rfl⟩) [] rfl rfl rfl hl.1 rfl (Nat.le_of_ble_eq_true rfl) dX9_remove_1 ⟨Nat.le_of_ble_eq_true rfl, Nat.le_of_ble_eq_true rfl⟩ (fun H locs q ce h1 h2 h3 hP hD hS => hpas H locs ls 1 _ q ce h1 h2 h3 hP hD hS)
abbrev rxX9_arrow : Room := { frames := 10, cells := 1, slots := 6, locals := 400 }
theorem xwX9_arrow : Cond.classLink RX9 89 q_IAE ∈ wsX9_arrow ∧ Cond.initialized q_IAE ∈ wsX9_arrow ∧ ∀ w ∈ (vx_atS RX9 93 q_IAE q_up).filter goodWord, w ∈ wsX9_arrow := by decide +kernel
set_option maxHeartbeats 4000000 in
set_option maxRecDepth 100000 in
theorem xX9_arrow (l : Launch) (hst : l.stackTraces = false) (dC : Nat → ClassId) (dI : Nat → Nat → Nat) (cI cZ : ClassId) (sa : Nat → Nat) (aS : Nat → Nat) (aL : Nat → Nat) (aF : Nat → Nat) (aK : Nat → Nat) (sz : Nat) (M_told : Int32) (R_width : Nat → Int32) (R_from : Nat → Int32) (R_to : Nat → Int32) (R_turned : Nat → Int32) (R_reach : Nat → Int32) (p0 : Int32) (p1 : Int32) (p2 : Int32) (hF : hX9_arrow R_width p0 p1 p2 = some ()) : q_Mx l yX9_arrow wsX9_arrow rxX9_arrow (dC, dI) (q_ty cI cZ) [.ref (aS 47), .int p0, .int p1, .int p2] (iX9_arrow aS aL aF aK cI cZ M_told R_width R_from R_to R_turned R_reach) sz sa q_Nv := by
  refine q_metx (cc := cX9_arrow) (maxL := 4) hst (by decide) rfl rfl (Nat.le_of_ble_eq_true rfl) xwX9_arrow.1 xwX9_arrow.2.1 xwX9_arrow.2.2 ⟨by decide, by decide, rfl, rfl⟩ ?_
  intro p e s m args below meth c Q A H locs ls C hTh hP hD hS hl hthr hpas
  obtain ⟨hx, hb, hml, hown, hts, hA, hK⟩ := C
  replace hl : lv_has ls 4 [(0, .ref (aS 47)), (1, .int p0), (2, .int p1), (3, .int p2)] := hl
  unfold hX9_arrow at hF
  refine lv_iload_n hx hb dX9_arrow_0 rfl (lv_at hl 1 rfl) ?_
  rcases q_thrE hF with ⟨⟨⟩, hcq1, hF⟩ | ⟨-, hF⟩
  · refine q_Sv (As := [.int p0]) (rest := []) ⟨hx, hb, hml, hown, hts⟩ hA hK hP hD hS (tX9_needArrowNumber l dC dI cI cZ H.size p0 () hcq1) (va_cwS 1 hts gX9_arrow_X9_needArrowNumber rfl rfl rfl uX9_needArrowNumber ⟨Nat.le_of_ble_eq_true rfl, Nat.le_of_ble_eq_true rfl⟩) [] [(false, 0), (false, 1), (false, 2), (false, 3), (false, 4), (false, 5), (false, 6)] (iX9_arrow aS aL aF aK cI cZ M_told R_width R_from R_to R_turned R_reach) rfl rfl rfl rfl rfl rfl hl.1 rfl (Nat.le_of_ble_eq_true rfl) dX9_arrow_1 ⟨Nat.zero_le _, Nat.zero_le _⟩ (fun H locs hP hD hS => ?_)
    refine lv_aload_n hx hb dX9_arrow_4 rfl (lv_at hl 0 rfl) ?_
    refine lv_iload_n hx hb dX9_arrow_5 rfl (lv_at hl 2 rfl) ?_
    rcases q_thrE hF with ⟨⟨⟩, hcq2, hF⟩ | ⟨-, hF⟩
    · refine q_Vv (As := [.int p1]) (rest := []) ⟨hx, hb, hml, hown, hts⟩ hA hK hP hD hS (tX9_needBox l dC dI cI cZ aS aL aF aK H.size M_told R_width p1 () hcq2) (cwV 1 hts gX9_arrow_X9_needBox rfl rfl rfl uX9_needBox ⟨Nat.le_of_ble_eq_true rfl, Nat.le_of_ble_eq_true rfl⟩) [0, 1, 2] [(true, 0), (true, 1), (true, 2), (false, 3), (false, 4), (false, 5), (false, 6)] (iX9_arrow aS aL aF aK cI cZ M_told R_width R_from R_to R_turned R_reach) rfl rfl rfl rfl rfl 9 0 rfl rfl rfl rfl hl.1 rfl (Nat.le_of_ble_eq_true rfl) dX9_arrow_6 ⟨Nat.zero_le _, Nat.zero_le _⟩ (fun H locs hP hD hS => ?_)
      refine lv_aload_n hx hb dX9_arrow_9 rfl (lv_at hl 0 rfl) ?_
      refine lv_iload_n hx hb dX9_arrow_10 rfl (lv_at hl 3 rfl) ?_
      rcases q_thrE hF with ⟨⟨⟩, hcq3, hF⟩ | ⟨-, hF⟩
      · refine q_Vv (As := [.int p2]) (rest := []) ⟨hx, hb, hml, hown, hts⟩ hA hK hP hD hS (tX9_needBox l dC dI cI cZ aS aL aF aK H.size M_told R_width p2 () hcq3) (cwV 1 hts gX9_arrow_X9_needBox rfl rfl rfl uX9_needBox ⟨Nat.le_of_ble_eq_true rfl, Nat.le_of_ble_eq_true rfl⟩) [0, 1, 2] [(true, 0), (true, 1), (true, 2), (false, 3), (false, 4), (false, 5), (false, 6)] (iX9_arrow aS aL aF aK cI cZ M_told R_width R_from R_to R_turned R_reach) rfl rfl rfl rfl rfl 9 0 rfl rfl rfl rfl hl.1 rfl (Nat.le_of_ble_eq_true rfl) dX9_arrow_11 ⟨Nat.zero_le _, Nat.zero_le _⟩ (fun H locs hP hD hS => ?_)
        refine lv_iload_n hx hb dX9_arrow_14 rfl (lv_at hl 2 rfl) ?_
        refine lv_iload_n hx hb dX9_arrow_15 rfl (lv_at hl 3 rfl) ?_
        refine lv_icmp_ne (tgt := 29) hx hb dX9_arrow_16 (by decide) (fun hc => ?_) (fun hc => ?_)
        · replace hF := q_f hc hF
          cases hF
        · replace hF := q_t hc hF
          exact hthr H locs ls 19 _ 113 "an arrow from a box to itself" (by decide) dX9_arrow_19 dX9_arrow_22 dX9_arrow_23 dX9_arrow_25 dX9_arrow_28 (Nat.le_of_ble_eq_true rfl) hl.1 hP hD hS
      · refine q_Vxv (As := [.int p2]) (rest := []) ⟨hx, hb, hml, hown, hts⟩ hA hK hP hD hS hTh (xX9_needBox l hst dC dI cI cZ sa aS aL aF aK H.size M_told R_width p2 hF) (cwV 1 hts gX9_arrow_X9_needBox rfl rfl rfl uX9_needBox ⟨Nat.le_of_ble_eq_true rfl, Nat.le_of_ble_eq_true rfl⟩) [0, 1, 2] rfl rfl 9 0 rfl rfl rfl rfl hl.1 rfl (Nat.le_of_ble_eq_true rfl) dX9_arrow_11 ⟨Nat.le_of_ble_eq_true rfl, Nat.le_of_ble_eq_true rfl⟩ (fun H locs q ce h1 h2 h3 hP hD hS => hpas H locs ls 11 _ q ce h1 h2 h3 hP hD hS)
    · refine q_Vxv (As := [.int p1]) (rest := []) ⟨hx, hb, hml, hown, hts⟩ hA hK hP hD hS hTh (xX9_needBox l hst dC dI cI cZ sa aS aL aF aK H.size M_told R_width p1 hF) (cwV 1 hts gX9_arrow_X9_needBox rfl rfl rfl uX9_needBox ⟨Nat.le_of_ble_eq_true rfl, Nat.le_of_ble_eq_true rfl⟩) [0, 1, 2] rfl rfl 9 0 rfl rfl rfl rfl hl.1 rfl (Nat.le_of_ble_eq_true rfl) dX9_arrow_6 ⟨Nat.le_of_ble_eq_true rfl, Nat.le_of_ble_eq_true rfl⟩ (fun H locs q ce h1 h2 h3 hP hD hS => hpas H locs ls 6 _ q ce h1 h2 h3 hP hD hS)
  · refine q_Sxv (As := [.int p0]) (rest := []) ⟨hx, hb, hml, hown, hts⟩ hA hK hP hD hS hTh (xX9_needArrowNumber l hst dC dI cI cZ sa H.size p0 hF) (va_cwS 1 hts gX9_arrow_X9_needArrowNumber rfl rfl rfl uX9_needArrowNumber ⟨Nat.le_of_ble_eq_true rfl, Nat.le_of_ble_eq_true rfl⟩) [] rfl rfl rfl hl.1 rfl (Nat.le_of_ble_eq_true rfl) dX9_arrow_1 ⟨Nat.le_of_ble_eq_true rfl, Nat.le_of_ble_eq_true rfl⟩ (fun H locs q ce h1 h2 h3 hP hD hS => hpas H locs ls 1 _ q ce h1 h2 h3 hP hD hS)
abbrev rxX9_drop : Room := { frames := 10, cells := 1, slots := 6, locals := 400 }
theorem xwX9_drop : Cond.classLink RX9 89 q_IAE ∈ wsX9_drop ∧ Cond.initialized q_IAE ∈ wsX9_drop ∧ ∀ w ∈ (vx_atS RX9 93 q_IAE q_up).filter goodWord, w ∈ wsX9_drop := by decide +kernel
set_option maxHeartbeats 4000000 in
set_option maxRecDepth 100000 in
theorem xX9_drop (l : Launch) (hst : l.stackTraces = false) (dC : Nat → ClassId) (dI : Nat → Nat → Nat) (cI cZ : ClassId) (sa : Nat → Nat) (aS : Nat → Nat) (aL : Nat → Nat) (aF : Nat → Nat) (aK : Nat → Nat) (sz : Nat) (M_told : Int32) (R_width : Nat → Int32) (R_from : Nat → Int32) (R_to : Nat → Int32) (R_turned : Nat → Int32) (R_reach : Nat → Int32) (p0 : Int32) (hF : hX9_drop p0 = some ()) : q_Mx l yX9_drop wsX9_drop rxX9_drop (dC, dI) (q_ty cI cZ) [.ref (aS 47), .int p0] (iX9_drop aS aL aF aK cI cZ M_told R_width R_from R_to R_turned R_reach) sz sa q_Ni := by
  refine q_metx (cc := cX9_drop) (maxL := 2) hst (by decide) rfl rfl (Nat.le_of_ble_eq_true rfl) xwX9_drop.1 xwX9_drop.2.1 xwX9_drop.2.2 ⟨by decide, by decide, rfl, rfl⟩ ?_
  intro p e s m args below meth c Q A H locs ls C hTh hP hD hS hl hthr hpas
  obtain ⟨hx, hb, hml, hown, hts, hA, hK⟩ := C
  replace hl : lv_has ls 2 [(0, .ref (aS 47)), (1, .int p0)] := hl
  unfold hX9_drop at hF
  refine lv_iload_n hx hb dX9_drop_0 rfl (lv_at hl 1 rfl) ?_
  rcases q_thrE hF with ⟨⟨⟩, hcq1, hF⟩ | ⟨-, hF⟩
  · refine q_Sv (As := [.int p0]) (rest := []) ⟨hx, hb, hml, hown, hts⟩ hA hK hP hD hS (tX9_needArrowNumber l dC dI cI cZ H.size p0 () hcq1) (va_cwS 1 hts gX9_drop_X9_needArrowNumber rfl rfl rfl uX9_needArrowNumber ⟨Nat.le_of_ble_eq_true rfl, Nat.le_of_ble_eq_true rfl⟩) [] [(false, 0), (false, 1), (false, 2), (false, 3), (false, 4), (false, 5), (false, 6)] (iX9_drop aS aL aF aK cI cZ M_told R_width R_from R_to R_turned R_reach) rfl rfl rfl rfl rfl rfl hl.1 rfl (Nat.le_of_ble_eq_true rfl) dX9_drop_1 ⟨Nat.zero_le _, Nat.zero_le _⟩ (fun H locs hP hD hS => ?_)
    cases hF
  · refine q_Sxv (As := [.int p0]) (rest := []) ⟨hx, hb, hml, hown, hts⟩ hA hK hP hD hS hTh (xX9_needArrowNumber l hst dC dI cI cZ sa H.size p0 hF) (va_cwS 1 hts gX9_drop_X9_needArrowNumber rfl rfl rfl uX9_needArrowNumber ⟨Nat.le_of_ble_eq_true rfl, Nat.le_of_ble_eq_true rfl⟩) [] rfl rfl rfl hl.1 rfl (Nat.le_of_ble_eq_true rfl) dX9_drop_1 ⟨Nat.le_of_ble_eq_true rfl, Nat.le_of_ble_eq_true rfl⟩ (fun H locs q ce h1 h2 h3 hP hD hS => hpas H locs ls 1 _ q ce h1 h2 h3 hP hD hS)
abbrev rxX9_pin : Room := { frames := 10, cells := 1, slots := 6, locals := 400 }
theorem xwX9_pin : Cond.classLink RX9 89 q_IAE ∈ wsX9_pin ∧ Cond.initialized q_IAE ∈ wsX9_pin ∧ ∀ w ∈ (vx_atS RX9 93 q_IAE q_up).filter goodWord, w ∈ wsX9_pin := by decide +kernel
set_option maxHeartbeats 4000000 in
set_option maxRecDepth 100000 in
theorem xX9_pin (l : Launch) (hst : l.stackTraces = false) (dC : Nat → ClassId) (dI : Nat → Nat → Nat) (cI cZ : ClassId) (sa : Nat → Nat) (aS : Nat → Nat) (aL : Nat → Nat) (aF : Nat → Nat) (aK : Nat → Nat) (sz : Nat) (M_told : Int32) (R_width : Nat → Int32) (R_pinned : Nat → Int32) (p0 : Int32) (p1 : Int32) (hF : hX9_pin R_width p0 p1 = some ()) : q_Mx l yX9_pin wsX9_pin rxX9_pin (dC, dI) (q_ty cI cZ) [.ref (aS 47), .int p0, .int p1] (iX9_pin aS aL aF aK cI cZ M_told R_width R_pinned) sz sa q_Nv := by
  refine q_metx (cc := cX9_pin) (maxL := 3) hst (by decide) rfl rfl (Nat.le_of_ble_eq_true rfl) xwX9_pin.1 xwX9_pin.2.1 xwX9_pin.2.2 ⟨by decide, by decide, rfl, rfl⟩ ?_
  intro p e s m args below meth c Q A H locs ls C hTh hP hD hS hl hthr hpas
  obtain ⟨hx, hb, hml, hown, hts, hA, hK⟩ := C
  replace hl : lv_has ls 3 [(0, .ref (aS 47)), (1, .int p0), (2, .int p1)] := hl
  unfold hX9_pin at hF
  refine lv_aload_n hx hb dX9_pin_0 rfl (lv_at hl 0 rfl) ?_
  refine lv_iload_n hx hb dX9_pin_1 rfl (lv_at hl 1 rfl) ?_
  rcases q_thrE hF with ⟨⟨⟩, hcq1, hF⟩ | ⟨-, hF⟩
  · refine q_Vv (As := [.int p0]) (rest := []) ⟨hx, hb, hml, hown, hts⟩ hA hK hP hD hS (tX9_needBox l dC dI cI cZ aS aL aF aK H.size M_told R_width p0 () hcq1) (cwV 1 hts gX9_pin_X9_needBox rfl rfl rfl uX9_needBox ⟨Nat.le_of_ble_eq_true rfl, Nat.le_of_ble_eq_true rfl⟩) [0, 1, 2] [(true, 0), (true, 1), (true, 2), (false, 3)] (iX9_pin aS aL aF aK cI cZ M_told R_width R_pinned) rfl rfl rfl rfl rfl 9 0 rfl rfl rfl rfl hl.1 rfl (Nat.le_of_ble_eq_true rfl) dX9_pin_2 ⟨Nat.zero_le _, Nat.zero_le _⟩ (fun H locs hP hD hS => ?_)
    refine lv_iload_n hx hb dX9_pin_5 rfl (lv_at hl 2 rfl) ?_
    refine lv_iconst (v := (-1)) hx hb dX9_pin_6 (by decide) ?_
    refine lv_icmp_lt (tgt := 16) hx hb dX9_pin_7 (by decide) (fun hc => ?_) (fun hc => ?_)
    · replace hF := q_t hc hF
      exact hthr H locs ls 16 _ 125 "no such layer" (by decide) dX9_pin_16 dX9_pin_19 dX9_pin_20 dX9_pin_22 dX9_pin_25 (Nat.le_of_ble_eq_true rfl) hl.1 hP hD hS
    · replace hF := q_f hc hF
      refine lv_iload_n hx hb dX9_pin_10 rfl (lv_at hl 2 rfl) ?_
      refine lv_bipush (v := 8) hx hb dX9_pin_11 (by decide) ?_
      refine lv_icmp_le (tgt := 26) hx hb dX9_pin_13 (by decide) (fun hc => ?_) (fun hc => ?_)
      · replace hF := q_t hc hF
        cases hF
      · replace hF := q_f hc hF
        exact hthr H locs ls 16 _ 125 "no such layer" (by decide) dX9_pin_16 dX9_pin_19 dX9_pin_20 dX9_pin_22 dX9_pin_25 (Nat.le_of_ble_eq_true rfl) hl.1 hP hD hS
  · refine q_Vxv (As := [.int p0]) (rest := []) ⟨hx, hb, hml, hown, hts⟩ hA hK hP hD hS hTh (xX9_needBox l hst dC dI cI cZ sa aS aL aF aK H.size M_told R_width p0 hF) (cwV 1 hts gX9_pin_X9_needBox rfl rfl rfl uX9_needBox ⟨Nat.le_of_ble_eq_true rfl, Nat.le_of_ble_eq_true rfl⟩) [0, 1, 2] rfl rfl 9 0 rfl rfl rfl rfl hl.1 rfl (Nat.le_of_ble_eq_true rfl) dX9_pin_2 ⟨Nat.le_of_ble_eq_true rfl, Nat.le_of_ble_eq_true rfl⟩ (fun H locs q ce h1 h2 h3 hP hD hS => hpas H locs ls 2 _ q ce h1 h2 h3 hP hD hS)
abbrev rxX9_draw : Room := { frames := 10, cells := 1, slots := 6, locals := 400 }
theorem xwX9_draw : Cond.classLink RX9 89 q_IAE ∈ wsX9_draw ∧ Cond.initialized q_IAE ∈ wsX9_draw ∧ ∀ w ∈ (vx_atS RX9 93 q_IAE q_up).filter goodWord, w ∈ wsX9_draw := by decide +kernel
set_option maxHeartbeats 4000000 in
set_option maxRecDepth 100000 in
theorem xX9_draw (l : Launch) (hst : l.stackTraces = false) (dC : Nat → ClassId) (dI : Nat → Nat → Nat) (cI cZ : ClassId) (sa : Nat → Nat) (aS : Nat → Nat) (aL : Nat → Nat) (aF : Nat → Nat) (aK : Nat → Nat) (sz : Nat) (M_told : Int32) (R_width : Nat → Int32) (R_pinned : Nat → Int32) (R_from : Nat → Int32) (R_to : Nat → Int32) (R_turned : Nat → Int32) (L_layer : Nat → Int32) (L_tops : Nat → Int32) (L_bottoms : Nat → Int32) (L_layers : Int32) (P_size : Nat → Int32) (P_arrows : Nat → Int32) (P_uppers : Nat → Int32) (P_lowers : Nat → Int32) (X_upper : Nat → Int32) (X_lower : Nat → Int32) (Q_own : Nat → Int32) (Q_far : Nat → Int32) (Q_degree : Nat → Int32) (Q_seen : Nat → Int32) (Q_median : Nat → Int32) (Q_stood : Nat → Int32) (Q_sorted : Nat → Int32) (Q_spots : Nat → Int32) (Q_movers : Int32) (B_cost : Nat → Int32) (B_above : Nat → Int32) (B_below : Nat → Int32) (B_codes : Nat → Int32) (B_used : Nat → Int32) (B_chosen : Nat → Int32) (B_best : Nat → Int32) (B_bestCost : Int32) (B_size : Int32) (C_x : Nat → Int32) (C_sum : Nat → Int32) (C_degree : Nat → Int32) (T_track : Nat → Int32) (T_used : Nat → Int32) (T_left : Nat → Int32) (T_right : Nat → Int32) (T_arrows : Nat → Int32) (T_trackEnd : Nat → Int32) (OL_layers : Int32) (OL_size : Nat → Int32) (OL_rows : Nat → Int32) (OL_places : Nat → Int32) (OL_home : Nat → Int32) (OF_layers : Int32) (OF_size : Nat → Int32) (OF_rows : Nat → Int32) (OF_places : Nat → Int32) (OF_home : Nat → Int32) (OK_layers : Int32) (OK_size : Nat → Int32) (OK_rows : Nat → Int32) (OK_places : Nat → Int32) (OK_home : Nat → Int32) (p0 : Int32) (hF : hX9_draw p0 = some ()) : q_Mx l yX9_draw wsX9_draw rxX9_draw (dC, dI) (q_ty cI cZ) [.ref (aS 47), .int p0] (iX9_draw aS aL aF aK cI cZ M_told R_width R_pinned R_from R_to R_turned L_layer L_tops L_bottoms L_layers P_size P_arrows P_uppers P_lowers X_upper X_lower Q_own Q_far Q_degree Q_seen Q_median Q_stood Q_sorted Q_spots Q_movers B_cost B_above B_below B_codes B_used B_chosen B_best B_bestCost B_size C_x C_sum C_degree T_track T_used T_left T_right T_arrows T_trackEnd OL_layers OL_size OL_rows OL_places OL_home OF_layers OF_size OF_rows OF_places OF_home OK_layers OK_size OK_rows OK_places OK_home) sz sa q_Ni := by
  refine q_metx (cc := cX9_draw) (maxL := 2) hst (by decide) rfl rfl (Nat.le_of_ble_eq_true rfl) xwX9_draw.1 xwX9_draw.2.1 xwX9_draw.2.2 ⟨by decide, by decide, rfl, rfl⟩ ?_
  intro p e s m args below meth c Q A H locs ls C hTh hP hD hS hl hthr hpas
  obtain ⟨hx, hb, hml, hown, hts, hA, hK⟩ := C
  replace hl : lv_has ls 2 [(0, .ref (aS 47)), (1, .int p0)] := hl
  unfold hX9_draw at hF
  refine lv_iload_n hx hb dX9_draw_0 rfl (lv_at hl 1 rfl) ?_
  rcases q_thrE hF with ⟨⟨⟩, hcq1, hF⟩ | ⟨-, hF⟩
  · refine q_Sv (As := [.int p0]) (rest := []) ⟨hx, hb, hml, hown, hts⟩ hA hK hP hD hS (tX9_needRounds l dC dI cI cZ H.size p0 () hcq1) (va_cwS 1 hts gX9_draw_X9_needRounds rfl rfl rfl uX9_needRounds ⟨Nat.le_of_ble_eq_true rfl, Nat.le_of_ble_eq_true rfl⟩) [] [(false, 0), (false, 1), (false, 2), (false, 3), (false, 4), (false, 5), (false, 6), (false, 7), (false, 8), (false, 9), (false, 10), (false, 11), (false, 12), (false, 13), (false, 14), (false, 15), (false, 16), (false, 17), (false, 18), (false, 19), (false, 20), (false, 21), (false, 22), (false, 23), (false, 24), (false, 25), (false, 26), (false, 27), (false, 28), (false, 29), (false, 30), (false, 31), (false, 32), (false, 33), (false, 34), (false, 35), (false, 36), (false, 37), (false, 38), (false, 39), (false, 40), (false, 41), (false, 42), (false, 43), (false, 44), (false, 45), (false, 46), (false, 47), (false, 48), (false, 49), (false, 50), (false, 51), (false, 52), (false, 53), (false, 54), (false, 55), (false, 56), (false, 57), (false, 58), (false, 59), (false, 60), (false, 61)] (iX9_draw aS aL aF aK cI cZ M_told R_width R_pinned R_from R_to R_turned L_layer L_tops L_bottoms L_layers P_size P_arrows P_uppers P_lowers X_upper X_lower Q_own Q_far Q_degree Q_seen Q_median Q_stood Q_sorted Q_spots Q_movers B_cost B_above B_below B_codes B_used B_chosen B_best B_bestCost B_size C_x C_sum C_degree T_track T_used T_left T_right T_arrows T_trackEnd OL_layers OL_size OL_rows OL_places OL_home OF_layers OF_size OF_rows OF_places OF_home OK_layers OK_size OK_rows OK_places OK_home) rfl rfl rfl rfl rfl rfl hl.1 rfl (Nat.le_of_ble_eq_true rfl) dX9_draw_1 ⟨Nat.zero_le _, Nat.zero_le _⟩ (fun H locs hP hD hS => ?_)
    cases hF
  · refine q_Sxv (As := [.int p0]) (rest := []) ⟨hx, hb, hml, hown, hts⟩ hA hK hP hD hS hTh (xX9_needRounds l hst dC dI cI cZ sa H.size p0 hF) (va_cwS 1 hts gX9_draw_X9_needRounds rfl rfl rfl uX9_needRounds ⟨Nat.le_of_ble_eq_true rfl, Nat.le_of_ble_eq_true rfl⟩) [] rfl rfl rfl hl.1 rfl (Nat.le_of_ble_eq_true rfl) dX9_draw_1 ⟨Nat.le_of_ble_eq_true rfl, Nat.le_of_ble_eq_true rfl⟩ (fun H locs q ce h1 h2 h3 hP hD hS => hpas H locs ls 1 _ q ce h1 h2 h3 hP hD hS)
abbrev rxX9_redraw : Room := { frames := 10, cells := 1, slots := 6, locals := 400 }
theorem xwX9_redraw : Cond.classLink RX9 89 q_IAE ∈ wsX9_redraw ∧ Cond.initialized q_IAE ∈ wsX9_redraw ∧ ∀ w ∈ (vx_atS RX9 93 q_IAE q_up).filter goodWord, w ∈ wsX9_redraw := by decide +kernel
set_option maxHeartbeats 4000000 in
set_option maxRecDepth 100000 in
theorem xX9_redraw (l : Launch) (hst : l.stackTraces = false) (dC : Nat → ClassId) (dI : Nat → Nat → Nat) (cI cZ : ClassId) (sa : Nat → Nat) (aS : Nat → Nat) (aL : Nat → Nat) (aF : Nat → Nat) (aK : Nat → Nat) (sz : Nat) (M_told : Int32) (R_width : Nat → Int32) (R_pinned : Nat → Int32) (R_from : Nat → Int32) (R_to : Nat → Int32) (R_turned : Nat → Int32) (L_layer : Nat → Int32) (L_tops : Nat → Int32) (L_bottoms : Nat → Int32) (L_layers : Int32) (P_size : Nat → Int32) (P_arrows : Nat → Int32) (P_uppers : Nat → Int32) (P_lowers : Nat → Int32) (X_upper : Nat → Int32) (X_lower : Nat → Int32) (Q_own : Nat → Int32) (Q_far : Nat → Int32) (Q_degree : Nat → Int32) (Q_seen : Nat → Int32) (Q_median : Nat → Int32) (Q_stood : Nat → Int32) (Q_sorted : Nat → Int32) (Q_spots : Nat → Int32) (Q_movers : Int32) (B_cost : Nat → Int32) (B_above : Nat → Int32) (B_below : Nat → Int32) (B_codes : Nat → Int32) (B_used : Nat → Int32) (B_chosen : Nat → Int32) (B_best : Nat → Int32) (B_bestCost : Int32) (B_size : Int32) (C_x : Nat → Int32) (C_sum : Nat → Int32) (C_degree : Nat → Int32) (T_track : Nat → Int32) (T_used : Nat → Int32) (T_left : Nat → Int32) (T_right : Nat → Int32) (T_arrows : Nat → Int32) (T_trackEnd : Nat → Int32) (OL_layers : Int32) (OL_size : Nat → Int32) (OL_rows : Nat → Int32) (OL_places : Nat → Int32) (OL_home : Nat → Int32) (OF_layers : Int32) (OF_size : Nat → Int32) (OF_rows : Nat → Int32) (OF_places : Nat → Int32) (OF_home : Nat → Int32) (OK_layers : Int32) (OK_size : Nat → Int32) (OK_rows : Nat → Int32) (OK_places : Nat → Int32) (OK_home : Nat → Int32) (p0 : Int32) (p1 : Int32) (hF : hX9_redraw p0 p1 = some ()) : q_Mx l yX9_redraw wsX9_redraw rxX9_redraw (dC, dI) (q_ty cI cZ) [.ref (aS 47), .int p0, .int p1] (iX9_redraw aS aL aF aK cI cZ M_told R_width R_pinned R_from R_to R_turned L_layer L_tops L_bottoms L_layers P_size P_arrows P_uppers P_lowers X_upper X_lower Q_own Q_far Q_degree Q_seen Q_median Q_stood Q_sorted Q_spots Q_movers B_cost B_above B_below B_codes B_used B_chosen B_best B_bestCost B_size C_x C_sum C_degree T_track T_used T_left T_right T_arrows T_trackEnd OL_layers OL_size OL_rows OL_places OL_home OF_layers OF_size OF_rows OF_places OF_home OK_layers OK_size OK_rows OK_places OK_home) sz sa q_Ni := by
  refine q_metx (cc := cX9_redraw) (maxL := 5) hst (by decide) rfl rfl (Nat.le_of_ble_eq_true rfl) xwX9_redraw.1 xwX9_redraw.2.1 xwX9_redraw.2.2 ⟨by decide, by decide, rfl, rfl⟩ ?_
  intro p e s m args below meth c Q A H locs ls C hTh hP hD hS hl hthr hpas
  obtain ⟨hx, hb, hml, hown, hts, hA, hK⟩ := C
  replace hl : lv_has ls 5 [(0, .ref (aS 47)), (1, .int p0), (2, .int p1)] := hl
  have k0 := hts (.constant RX9 151 (100000)) (by decide +kernel)
  unfold hX9_redraw at hF
  refine lv_iload_n hx hb dX9_redraw_0 rfl (lv_at hl 1 rfl) ?_
  rcases q_thrE hF with ⟨⟨⟩, hcq1, hF⟩ | ⟨-, hF⟩
  · refine q_Sv (As := [.int p0]) (rest := []) ⟨hx, hb, hml, hown, hts⟩ hA hK hP hD hS (tX9_needRounds l dC dI cI cZ H.size p0 () hcq1) (va_cwS 1 hts gX9_redraw_X9_needRounds rfl rfl rfl uX9_needRounds ⟨Nat.le_of_ble_eq_true rfl, Nat.le_of_ble_eq_true rfl⟩) [] [(false, 0), (false, 1), (false, 2), (false, 3), (false, 4), (false, 5), (false, 6), (false, 7), (false, 8), (false, 9), (false, 10), (false, 11), (false, 12), (false, 13), (false, 14), (false, 15), (false, 16), (false, 17), (false, 18), (false, 19), (false, 20), (false, 21), (false, 22), (false, 23), (false, 24), (false, 25), (false, 26), (false, 27), (false, 28), (false, 29), (false, 30), (false, 31), (false, 32), (false, 33), (false, 34), (false, 35), (false, 36), (false, 37), (false, 38), (false, 39), (false, 40), (false, 41), (false, 42), (false, 43), (false, 44), (false, 45), (false, 46), (false, 47), (false, 48), (false, 49), (false, 50), (false, 51), (false, 52), (false, 53), (false, 54), (false, 55), (false, 56), (false, 57), (false, 58), (false, 59), (false, 60), (false, 61)] (iX9_redraw aS aL aF aK cI cZ M_told R_width R_pinned R_from R_to R_turned L_layer L_tops L_bottoms L_layers P_size P_arrows P_uppers P_lowers X_upper X_lower Q_own Q_far Q_degree Q_seen Q_median Q_stood Q_sorted Q_spots Q_movers B_cost B_above B_below B_codes B_used B_chosen B_best B_bestCost B_size C_x C_sum C_degree T_track T_used T_left T_right T_arrows T_trackEnd OL_layers OL_size OL_rows OL_places OL_home OF_layers OF_size OF_rows OF_places OF_home OK_layers OK_size OK_rows OK_places OK_home) rfl rfl rfl rfl rfl rfl hl.1 rfl (Nat.le_of_ble_eq_true rfl) dX9_redraw_1 ⟨Nat.zero_le _, Nat.zero_le _⟩ (fun H locs hP hD hS => ?_)
    refine lv_iload_n hx hb dX9_redraw_4 rfl (lv_at hl 2 rfl) ?_
    refine lv_if_lt (tgt := 14) hx hb dX9_redraw_5 (by decide) (fun hc => ?_) (fun hc => ?_)
    · replace hF := q_t hc hF
      exact hthr H locs ls 14 _ 152 "no such tolerance" (by decide) dX9_redraw_14 dX9_redraw_17 dX9_redraw_18 dX9_redraw_20 dX9_redraw_23 (Nat.le_of_ble_eq_true rfl) hl.1 hP hD hS
    · replace hF := q_f hc hF
      refine lv_iload_n hx hb dX9_redraw_8 rfl (lv_at hl 2 rfl) ?_
      refine lv_ldc (v := 100000) hx hb hown k0 dX9_redraw_9 ?_
      refine lv_icmp_le (tgt := 24) hx hb dX9_redraw_11 (by decide) (fun hc => ?_) (fun hc => ?_)
      · replace hF := q_t hc hF
        cases hF
      · replace hF := q_f hc hF
        exact hthr H locs ls 14 _ 152 "no such tolerance" (by decide) dX9_redraw_14 dX9_redraw_17 dX9_redraw_18 dX9_redraw_20 dX9_redraw_23 (Nat.le_of_ble_eq_true rfl) hl.1 hP hD hS
  · refine q_Sxv (As := [.int p0]) (rest := []) ⟨hx, hb, hml, hown, hts⟩ hA hK hP hD hS hTh (xX9_needRounds l hst dC dI cI cZ sa H.size p0 hF) (va_cwS 1 hts gX9_redraw_X9_needRounds rfl rfl rfl uX9_needRounds ⟨Nat.le_of_ble_eq_true rfl, Nat.le_of_ble_eq_true rfl⟩) [] rfl rfl rfl hl.1 rfl (Nat.le_of_ble_eq_true rfl) dX9_redraw_1 ⟨Nat.le_of_ble_eq_true rfl, Nat.le_of_ble_eq_true rfl⟩ (fun H locs q ce h1 h2 h3 hP hD hS => hpas H locs ls 1 _ q ce h1 h2 h3 hP hD hS)
abbrev rxX9_at : Room := { frames := 10, cells := 1, slots := 6, locals := 400 }
theorem xwX9_at : Cond.classLink RX9 89 q_IAE ∈ wsX9_at ∧ Cond.initialized q_IAE ∈ wsX9_at ∧ ∀ w ∈ (vx_atS RX9 93 q_IAE q_up).filter goodWord, w ∈ wsX9_at := by decide +kernel
set_option maxHeartbeats 4000000 in
set_option maxRecDepth 100000 in
theorem xX9_at (l : Launch) (hst : l.stackTraces = false) (dC : Nat → ClassId) (dI : Nat → Nat → Nat) (cI cZ : ClassId) (sa : Nat → Nat) (aS : Nat → Nat) (aL : Nat → Nat) (aF : Nat → Nat) (aK : Nat → Nat) (sz : Nat) (M_told : Int32) (R_width : Nat → Int32) (L_layer : Nat → Int32) (L_layers : Int32) (C_x : Nat → Int32) (OL_layers : Int32) (OL_places : Nat → Int32) (p0 : Int32) (p1 : Int32) (hF : hX9_at p0 p1 = some ()) : q_Mx l yX9_at wsX9_at rxX9_at (dC, dI) (q_ty cI cZ) [.ref (aS 47), .int p0, .int p1] (iX9_at aS aL aF aK cI cZ M_told R_width L_layer L_layers C_x OL_layers OL_places) sz sa q_Ni := by
  refine q_metx (cc := cX9_at) (maxL := 4) hst (by decide) rfl rfl (Nat.le_of_ble_eq_true rfl) xwX9_at.1 xwX9_at.2.1 xwX9_at.2.2 ⟨by decide, by decide, rfl, rfl⟩ ?_
  intro p e s m args below meth c Q A H locs ls C hTh hP hD hS hl hthr hpas
  obtain ⟨hx, hb, hml, hown, hts, hA, hK⟩ := C
  replace hl : lv_has ls 4 [(0, .ref (aS 47)), (1, .int p0), (2, .int p1)] := hl
  unfold hX9_at at hF
  refine lv_iload_n hx hb dX9_at_0 rfl (lv_at hl 1 rfl) ?_
  rcases q_thrE hF with ⟨⟨⟩, hcq1, hF⟩ | ⟨-, hF⟩
  · refine q_Sv (As := [.int p0]) (rest := []) ⟨hx, hb, hml, hown, hts⟩ hA hK hP hD hS (tX9_needBoxNumber l dC dI cI cZ H.size p0 () hcq1) (va_cwS 1 hts gX9_at_X9_needBoxNumber rfl rfl rfl uX9_needBoxNumber ⟨Nat.le_of_ble_eq_true rfl, Nat.le_of_ble_eq_true rfl⟩) [] [(false, 0), (false, 1), (false, 2), (false, 3), (false, 4), (false, 5), (false, 6), (false, 7), (false, 8)] (iX9_at aS aL aF aK cI cZ M_told R_width L_layer L_layers C_x OL_layers OL_places) rfl rfl rfl rfl rfl rfl hl.1 rfl (Nat.le_of_ble_eq_true rfl) dX9_at_1 ⟨Nat.zero_le _, Nat.zero_le _⟩ (fun H locs hP hD hS => ?_)
    refine lv_iload_n hx hb dX9_at_4 rfl (lv_at hl 2 rfl) ?_
    refine lv_iconst (v := 2) hx hb dX9_at_5 (by decide) ?_
    rcases q_thrE hF with ⟨⟨⟩, hcq2, hF⟩ | ⟨-, hF⟩
    · refine q_Sv (As := [.int p1, .int 2]) (rest := []) ⟨hx, hb, hml, hown, hts⟩ hA hK hP hD hS (tX9_needWhat l dC dI cI cZ H.size p1 2 () hcq2) (va_cwS 2 hts gX9_at_X9_needWhat rfl rfl rfl uX9_needWhat ⟨Nat.le_of_ble_eq_true rfl, Nat.le_of_ble_eq_true rfl⟩) [] [(false, 0), (false, 1), (false, 2), (false, 3), (false, 4), (false, 5), (false, 6), (false, 7), (false, 8)] (iX9_at aS aL aF aK cI cZ M_told R_width L_layer L_layers C_x OL_layers OL_places) rfl rfl rfl rfl rfl rfl hl.1 rfl (Nat.le_of_ble_eq_true rfl) dX9_at_6 ⟨Nat.zero_le _, Nat.zero_le _⟩ (fun H locs hP hD hS => ?_)
      cases hF
    · refine q_Sxv (As := [.int p1, .int 2]) (rest := []) ⟨hx, hb, hml, hown, hts⟩ hA hK hP hD hS hTh (xX9_needWhat l hst dC dI cI cZ sa H.size p1 2 hF) (va_cwS 2 hts gX9_at_X9_needWhat rfl rfl rfl uX9_needWhat ⟨Nat.le_of_ble_eq_true rfl, Nat.le_of_ble_eq_true rfl⟩) [] rfl rfl rfl hl.1 rfl (Nat.le_of_ble_eq_true rfl) dX9_at_6 ⟨Nat.le_of_ble_eq_true rfl, Nat.le_of_ble_eq_true rfl⟩ (fun H locs q ce h1 h2 h3 hP hD hS => hpas H locs ls 6 _ q ce h1 h2 h3 hP hD hS)
  · refine q_Sxv (As := [.int p0]) (rest := []) ⟨hx, hb, hml, hown, hts⟩ hA hK hP hD hS hTh (xX9_needBoxNumber l hst dC dI cI cZ sa H.size p0 hF) (va_cwS 1 hts gX9_at_X9_needBoxNumber rfl rfl rfl uX9_needBoxNumber ⟨Nat.le_of_ble_eq_true rfl, Nat.le_of_ble_eq_true rfl⟩) [] rfl rfl rfl hl.1 rfl (Nat.le_of_ble_eq_true rfl) dX9_at_1 ⟨Nat.le_of_ble_eq_true rfl, Nat.le_of_ble_eq_true rfl⟩ (fun H locs q ce h1 h2 h3 hP hD hS => hpas H locs ls 1 _ q ce h1 h2 h3 hP hD hS)
abbrev rxX9_reversed : Room := { frames := 10, cells := 1, slots := 6, locals := 400 }
theorem xwX9_reversed : Cond.classLink RX9 89 q_IAE ∈ wsX9_reversed ∧ Cond.initialized q_IAE ∈ wsX9_reversed ∧ ∀ w ∈ (vx_atS RX9 93 q_IAE q_up).filter goodWord, w ∈ wsX9_reversed := by decide +kernel
set_option maxHeartbeats 4000000 in
set_option maxRecDepth 100000 in
theorem xX9_reversed (l : Launch) (hst : l.stackTraces = false) (dC : Nat → ClassId) (dI : Nat → Nat → Nat) (cI cZ : ClassId) (sa : Nat → Nat) (aS : Nat → Nat) (aL : Nat → Nat) (aF : Nat → Nat) (aK : Nat → Nat) (sz : Nat) (M_told : Int32) (R_from : Nat → Int32) (R_turned : Nat → Int32) (p0 : Int32) (hF : hX9_reversed p0 = some ()) : q_Mx l yX9_reversed wsX9_reversed rxX9_reversed (dC, dI) (q_ty cI cZ) [.ref (aS 47), .int p0] (iX9_reversed aS aL aF aK cI cZ M_told R_from R_turned) sz sa q_Ni := by
  refine q_metx (cc := cX9_reversed) (maxL := 2) hst (by decide) rfl rfl (Nat.le_of_ble_eq_true rfl) xwX9_reversed.1 xwX9_reversed.2.1 xwX9_reversed.2.2 ⟨by decide, by decide, rfl, rfl⟩ ?_
  intro p e s m args below meth c Q A H locs ls C hTh hP hD hS hl hthr hpas
  obtain ⟨hx, hb, hml, hown, hts, hA, hK⟩ := C
  replace hl : lv_has ls 2 [(0, .ref (aS 47)), (1, .int p0)] := hl
  unfold hX9_reversed at hF
  refine lv_iload_n hx hb dX9_reversed_0 rfl (lv_at hl 1 rfl) ?_
  rcases q_thrE hF with ⟨⟨⟩, hcq1, hF⟩ | ⟨-, hF⟩
  · refine q_Sv (As := [.int p0]) (rest := []) ⟨hx, hb, hml, hown, hts⟩ hA hK hP hD hS (tX9_needArrowNumber l dC dI cI cZ H.size p0 () hcq1) (va_cwS 1 hts gX9_reversed_X9_needArrowNumber rfl rfl rfl uX9_needArrowNumber ⟨Nat.le_of_ble_eq_true rfl, Nat.le_of_ble_eq_true rfl⟩) [] [(false, 0), (false, 1), (false, 2), (false, 3)] (iX9_reversed aS aL aF aK cI cZ M_told R_from R_turned) rfl rfl rfl rfl rfl rfl hl.1 rfl (Nat.le_of_ble_eq_true rfl) dX9_reversed_1 ⟨Nat.zero_le _, Nat.zero_le _⟩ (fun H locs hP hD hS => ?_)
    cases hF
  · refine q_Sxv (As := [.int p0]) (rest := []) ⟨hx, hb, hml, hown, hts⟩ hA hK hP hD hS hTh (xX9_needArrowNumber l hst dC dI cI cZ sa H.size p0 hF) (va_cwS 1 hts gX9_reversed_X9_needArrowNumber rfl rfl rfl uX9_needArrowNumber ⟨Nat.le_of_ble_eq_true rfl, Nat.le_of_ble_eq_true rfl⟩) [] rfl rfl rfl hl.1 rfl (Nat.le_of_ble_eq_true rfl) dX9_reversed_1 ⟨Nat.le_of_ble_eq_true rfl, Nat.le_of_ble_eq_true rfl⟩ (fun H locs q ce h1 h2 h3 hP hD hS => hpas H locs ls 1 _ q ce h1 h2 h3 hP hD hS)
abbrev rxX9_piece : Room := { frames := 10, cells := 1, slots := 6, locals := 400 }
theorem xwX9_piece : Cond.classLink RX9 89 q_IAE ∈ wsX9_piece ∧ Cond.initialized q_IAE ∈ wsX9_piece ∧ ∀ w ∈ (vx_atS RX9 93 q_IAE q_up).filter goodWord, w ∈ wsX9_piece := by decide +kernel
set_option maxHeartbeats 4000000 in
set_option maxRecDepth 100000 in
theorem xX9_piece (l : Launch) (hst : l.stackTraces = false) (dC : Nat → ClassId) (dI : Nat → Nat → Nat) (cI cZ : ClassId) (sa : Nat → Nat) (aS : Nat → Nat) (aL : Nat → Nat) (aF : Nat → Nat) (aK : Nat → Nat) (sz : Nat) (M_told : Int32) (R_width : Nat → Int32) (R_from : Nat → Int32) (R_to : Nat → Int32) (R_turned : Nat → Int32) (L_tops : Nat → Int32) (L_bottoms : Nat → Int32) (L_layers : Int32) (C_x : Nat → Int32) (T_track : Nat → Int32) (p0 : Int32) (p1 : Int32) (p2 : Int32) (hF : hX9_piece p0 p1 p2 = some ()) : q_Mx l yX9_piece wsX9_piece rxX9_piece (dC, dI) (q_ty cI cZ) [.ref (aS 47), .int p0, .int p1, .int p2] (iX9_piece aS aL aF aK cI cZ M_told R_width R_from R_to R_turned L_tops L_bottoms L_layers C_x T_track) sz sa q_Ni := by
  refine q_metx (cc := cX9_piece) (maxL := 4) hst (by decide) rfl rfl (Nat.le_of_ble_eq_true rfl) xwX9_piece.1 xwX9_piece.2.1 xwX9_piece.2.2 ⟨by decide, by decide, rfl, rfl⟩ ?_
  intro p e s m args below meth c Q A H locs ls C hTh hP hD hS hl hthr hpas
  obtain ⟨hx, hb, hml, hown, hts, hA, hK⟩ := C
  replace hl : lv_has ls 4 [(0, .ref (aS 47)), (1, .int p0), (2, .int p1), (3, .int p2)] := hl
  unfold hX9_piece at hF
  refine lv_iload_n hx hb dX9_piece_0 rfl (lv_at hl 1 rfl) ?_
  rcases q_thrE hF with ⟨⟨⟩, hcq1, hF⟩ | ⟨-, hF⟩
  · refine q_Sv (As := [.int p0]) (rest := []) ⟨hx, hb, hml, hown, hts⟩ hA hK hP hD hS (tX9_needArrowNumber l dC dI cI cZ H.size p0 () hcq1) (va_cwS 1 hts gX9_piece_X9_needArrowNumber rfl rfl rfl uX9_needArrowNumber ⟨Nat.le_of_ble_eq_true rfl, Nat.le_of_ble_eq_true rfl⟩) [] [(false, 0), (false, 1), (false, 2), (false, 3), (false, 4), (false, 5), (false, 6), (false, 7), (false, 8), (false, 9), (false, 10), (false, 11), (false, 12)] (iX9_piece aS aL aF aK cI cZ M_told R_width R_from R_to R_turned L_tops L_bottoms L_layers C_x T_track) rfl rfl rfl rfl rfl rfl hl.1 rfl (Nat.le_of_ble_eq_true rfl) dX9_piece_1 ⟨Nat.zero_le _, Nat.zero_le _⟩ (fun H locs hP hD hS => ?_)
    refine lv_iload_n hx hb dX9_piece_4 rfl (lv_at hl 3 rfl) ?_
    refine lv_iconst (v := 2) hx hb dX9_piece_5 (by decide) ?_
    rcases q_thrE hF with ⟨⟨⟩, hcq2, hF⟩ | ⟨-, hF⟩
    · refine q_Sv (As := [.int p2, .int 2]) (rest := []) ⟨hx, hb, hml, hown, hts⟩ hA hK hP hD hS (tX9_needWhat l dC dI cI cZ H.size p2 2 () hcq2) (va_cwS 2 hts gX9_piece_X9_needWhat rfl rfl rfl uX9_needWhat ⟨Nat.le_of_ble_eq_true rfl, Nat.le_of_ble_eq_true rfl⟩) [] [(false, 0), (false, 1), (false, 2), (false, 3), (false, 4), (false, 5), (false, 6), (false, 7), (false, 8), (false, 9), (false, 10), (false, 11), (false, 12)] (iX9_piece aS aL aF aK cI cZ M_told R_width R_from R_to R_turned L_tops L_bottoms L_layers C_x T_track) rfl rfl rfl rfl rfl rfl hl.1 rfl (Nat.le_of_ble_eq_true rfl) dX9_piece_6 ⟨Nat.zero_le _, Nat.zero_le _⟩ (fun H locs hP hD hS => ?_)
      cases hF
    · refine q_Sxv (As := [.int p2, .int 2]) (rest := []) ⟨hx, hb, hml, hown, hts⟩ hA hK hP hD hS hTh (xX9_needWhat l hst dC dI cI cZ sa H.size p2 2 hF) (va_cwS 2 hts gX9_piece_X9_needWhat rfl rfl rfl uX9_needWhat ⟨Nat.le_of_ble_eq_true rfl, Nat.le_of_ble_eq_true rfl⟩) [] rfl rfl rfl hl.1 rfl (Nat.le_of_ble_eq_true rfl) dX9_piece_6 ⟨Nat.le_of_ble_eq_true rfl, Nat.le_of_ble_eq_true rfl⟩ (fun H locs q ce h1 h2 h3 hP hD hS => hpas H locs ls 6 _ q ce h1 h2 h3 hP hD hS)
  · refine q_Sxv (As := [.int p0]) (rest := []) ⟨hx, hb, hml, hown, hts⟩ hA hK hP hD hS hTh (xX9_needArrowNumber l hst dC dI cI cZ sa H.size p0 hF) (va_cwS 1 hts gX9_piece_X9_needArrowNumber rfl rfl rfl uX9_needArrowNumber ⟨Nat.le_of_ble_eq_true rfl, Nat.le_of_ble_eq_true rfl⟩) [] rfl rfl rfl hl.1 rfl (Nat.le_of_ble_eq_true rfl) dX9_piece_1 ⟨Nat.le_of_ble_eq_true rfl, Nat.le_of_ble_eq_true rfl⟩ (fun H locs q ce h1 h2 h3 hP hD hS => hpas H locs ls 1 _ q ce h1 h2 h3 hP hD hS)
abbrev rxX9_between : Room := { frames := 10, cells := 1, slots := 6, locals := 400 }
theorem xwX9_between : Cond.classLink RX9 89 q_IAE ∈ wsX9_between ∧ Cond.initialized q_IAE ∈ wsX9_between ∧ ∀ w ∈ (vx_atS RX9 93 q_IAE q_up).filter goodWord, w ∈ wsX9_between := by decide +kernel
set_option maxHeartbeats 4000000 in
set_option maxRecDepth 100000 in
theorem xX9_between (l : Launch) (hst : l.stackTraces = false) (dC : Nat → ClassId) (dI : Nat → Nat → Nat) (cI cZ : ClassId) (sa : Nat → Nat) (aS : Nat → Nat) (aL : Nat → Nat) (aF : Nat → Nat) (aK : Nat → Nat) (sz : Nat) (M_told : Int32) (L_layers : Int32) (P_size : Nat → Int32) (P_uppers : Nat → Int32) (P_lowers : Nat → Int32) (X_upper : Nat → Int32) (X_lower : Nat → Int32) (T_used : Nat → Int32) (OL_layers : Int32) (OL_places : Nat → Int32) (p0 : Int32) (p1 : Int32) (hF : hX9_between p0 p1 = some ()) : q_Mx l yX9_between wsX9_between rxX9_between (dC, dI) (q_ty cI cZ) [.ref (aS 47), .int p0, .int p1] (iX9_between aS aL aF aK cI cZ M_told L_layers P_size P_uppers P_lowers X_upper X_lower T_used OL_layers OL_places) sz sa q_Ni := by
  refine q_metx (cc := cX9_between) (maxL := 3) hst (by decide) rfl rfl (Nat.le_of_ble_eq_true rfl) xwX9_between.1 xwX9_between.2.1 xwX9_between.2.2 ⟨by decide, by decide, rfl, rfl⟩ ?_
  intro p e s m args below meth c Q A H locs ls C hTh hP hD hS hl hthr hpas
  obtain ⟨hx, hb, hml, hown, hts, hA, hK⟩ := C
  replace hl : lv_has ls 3 [(0, .ref (aS 47)), (1, .int p0), (2, .int p1)] := hl
  unfold hX9_between at hF
  refine lv_iload_n hx hb dX9_between_0 rfl (lv_at hl 2 rfl) ?_
  refine lv_iconst (v := 1) hx hb dX9_between_1 (by decide) ?_
  rcases q_thrE hF with ⟨⟨⟩, hcq1, hF⟩ | ⟨-, hF⟩
  · refine q_Sv (As := [.int p1, .int 1]) (rest := []) ⟨hx, hb, hml, hown, hts⟩ hA hK hP hD hS (tX9_needWhat l dC dI cI cZ H.size p1 1 () hcq1) (va_cwS 2 hts gX9_between_X9_needWhat rfl rfl rfl uX9_needWhat ⟨Nat.le_of_ble_eq_true rfl, Nat.le_of_ble_eq_true rfl⟩) [] [(false, 0), (false, 1), (false, 2), (false, 3), (false, 4), (false, 5), (false, 6), (false, 7), (false, 8), (false, 9), (false, 10), (false, 11), (false, 12)] (iX9_between aS aL aF aK cI cZ M_told L_layers P_size P_uppers P_lowers X_upper X_lower T_used OL_layers OL_places) rfl rfl rfl rfl rfl rfl hl.1 rfl (Nat.le_of_ble_eq_true rfl) dX9_between_2 ⟨Nat.zero_le _, Nat.zero_le _⟩ (fun H locs hP hD hS => ?_)
    cases hF
  · refine q_Sxv (As := [.int p1, .int 1]) (rest := []) ⟨hx, hb, hml, hown, hts⟩ hA hK hP hD hS hTh (xX9_needWhat l hst dC dI cI cZ sa H.size p1 1 hF) (va_cwS 2 hts gX9_between_X9_needWhat rfl rfl rfl uX9_needWhat ⟨Nat.le_of_ble_eq_true rfl, Nat.le_of_ble_eq_true rfl⟩) [] rfl rfl rfl hl.1 rfl (Nat.le_of_ble_eq_true rfl) dX9_between_2 ⟨Nat.le_of_ble_eq_true rfl, Nat.le_of_ble_eq_true rfl⟩ (fun H locs q ce h1 h2 h3 hP hD hS => hpas H locs ls 2 _ q ce h1 h2 h3 hP hD hS)
