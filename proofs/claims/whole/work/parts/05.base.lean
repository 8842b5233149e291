/-! Own base rows: programs as partial functions (Option), loops as partial fixed points, and the kit's steps with the next world named. -/
/-- an index is in its row -/
abbrev q_in (i : Int32) (n : Nat) : Prop := ¬ (i < 0 ∨ n ≤ i.toNatClampNeg)
/-- a truth value -/
abbrev q_tf (x : Int32) : Prop := x = 0 ∨ x = 1
theorem q_ck {c : Prop} [Decidable c] {α : Type} {A : Option α} {r : α} (h : (if c then A else none) = some r) : c ∧ A = some r := by
  by_cases hc : c
  · rw [if_pos hc] at h; exact ⟨hc, h⟩
  · rw [if_neg hc] at h; cases h
theorem q_t {c : Prop} [Decidable c] {α : Type} {A B : α} {r : α} (hc : c) (h : (if c then A else B) = r) : A = r := by rw [if_pos hc] at h; exact h
theorem q_f {c : Prop} [Decidable c] {α : Type} {A B : α} {r : α} (hc : ¬ c) (h : (if c then A else B) = r) : B = r := by rw [if_neg hc] at h; exact h
theorem q_bd {α β : Type} {x : Option α} {f : α → Option β} {r : β} (h : x.bind f = some r) : ∃ y, x = some y ∧ f y = some r := by
  cases x with
  | none => cases h
  | some y => exact ⟨y, rfl, h⟩
theorem q_nar {x : Int32} (h : q_tf x) : vp_nar .boolean x = x := by
  rcases h with h | h <;> subst h <;> decide
theorem q_narz {x : Int32} (h : q_tf x) : narrow .boolean (.int x) = .int x := by
  rcases h with h | h <;> subst h <;> decide
/-- a loop, so many turns long at most -/
def q_lp {S E : Type} (B : S → Option (S ⊕ E)) : Nat → S → Option E
  | 0, _ => none
  | n + 1, s => match B s with
    | none => none
    | some (.inl t) => q_lp B n t
    | some (.inr e) => some e
theorem q_lp_mono {S E : Type} {B : S → Option (S ⊕ E)} : ∀ (n k : Nat) (s : S) (e : E), q_lp B n s = some e → q_lp B (n + k) s = some e := by
  intro n
  induction n with
  | zero => intro k s e h; cases h
  | succ n ih =>
    intro k s e h
    rw [Nat.succ_add]
    unfold q_lp at h ⊢
    cases hB : B s with
    | none => rw [hB] at h; cases h
    | some o =>
      rw [hB] at h
      cases o with
      | inl t => exact ih k t e h
      | inr e2 => exact h
theorem q_lp_one {S E : Type} {B : S → Option (S ⊕ E)} {n k : Nat} {s : S} {e e2 : E} (h : q_lp B n s = some e) (h2 : q_lp B k s = some e2) : e = e2 := by
  have h3 := q_lp_mono n k s e h
  have h4 := q_lp_mono k n s e2 h2
  rw [Nat.add_comm] at h4
  exact Option.some.inj (h3.symm.trans h4)
/-- a loop: what it comes to, if it comes to an end -/
noncomputable def q_lo {S E : Type} (B : S → Option (S ⊕ E)) (s : S) : Option E :=
  @dite _ (∃ e, ∃ n, q_lp B n s = some e) (Classical.propDecidable _) (fun h => some (Classical.choose h)) (fun _ => none)
theorem q_lo_iff {S E : Type} {B : S → Option (S ⊕ E)} {s : S} {e : E} : q_lo B s = some e ↔ ∃ n, q_lp B n s = some e := by
  unfold q_lo
  constructor
  · intro h
    by_cases hc : ∃ e, ∃ n, q_lp B n s = some e
    · rw [dif_pos hc] at h
      have := Classical.choose_spec hc
      rw [Option.some.inj h] at this
      exact this
    · rw [dif_neg hc] at h; cases h
  · intro ⟨n, h⟩
    have hc : ∃ e, ∃ n, q_lp B n s = some e := ⟨e, n, h⟩
    rw [dif_pos hc]
    obtain ⟨k, hk⟩ := Classical.choose_spec hc
    rw [q_lp_one hk h]
/-- a loop's turn that goes on -/
theorem q_lo_on {S E : Type} {B : S → Option (S ⊕ E)} {s t : S} {r : Option E} (h : B s = some (.inl t)) (h2 : q_lo B t = r) : q_lo B s = r := by
  subst h2
  cases hr : q_lo B t with
  | some e =>
    obtain ⟨n, hn⟩ := q_lo_iff.mp hr
    refine q_lo_iff.mpr ⟨n + 1, ?_⟩
    unfold q_lp; rw [h]; exact hn
  | none =>
    cases hs : q_lo B s with
    | none => rfl
    | some e =>
      obtain ⟨n, hn⟩ := q_lo_iff.mp hs
      cases n with
      | zero => cases hn
      | succ n =>
        unfold q_lp at hn; rw [h] at hn
        have := q_lo_iff.mpr ⟨n, hn⟩
        rw [hr] at this; cases this
/-- a loop's turn that ends it -/
theorem q_lo_end {S E : Type} {B : S → Option (S ⊕ E)} {s : S} {e : E} (h : B s = some (.inr e)) : q_lo B s = some e :=
  q_lo_iff.mpr ⟨1, by unfold q_lp; rw [h]⟩
/-- what holds of every state of a loop that ends in e, if it holds wherever it holds at the next state -/
theorem q_walk {S E : Type} {B : S → Option (S ⊕ E)} {Wh : S → Prop} {e : E} (step : ∀ (s : S) (o : S ⊕ E), B s = some o → (∀ t, o = .inl t → Wh t) → (∀ e2, o = .inr e2 → e2 = e) → Wh s) (s : S) (h : q_lo B s = some e) : Wh s := by
  obtain ⟨n, h2⟩ := q_lo_iff.mp h
  clear h
  induction n generalizing s with
  | zero => cases h2
  | succ n ih =>
    unfold q_lp at h2
    cases hB : B s with
    | none => rw [hB] at h2; cases h2
    | some o =>
      rw [hB] at h2
      refine step s o hB (fun t ht => ?_) (fun e2 he => ?_)
      · subst ht; exact ih t h2
      · subst he; exact Option.some.inj h2
/-! behind a call: each cell of the caller's world is its own still, or one of the callee's -/
def q_src (ws w' : va_W) (x : Bool × Nat) : Option (Nat × va_E) := match x.1 with
  | true => w'[x.2]?
  | false => ws[x.2]?
theorem q_at_map {is : List Nat} {ws w : va_W} (hC : is.map (fun i => ws[i]?) = w.map some) {j k : Nat} (h : is[j]? = some k) : ∃ q, w[j]? = some q ∧ ws[k]? = some q := by
  have h1 : (is.map (fun i => ws[i]?))[j]? = some (ws[k]?) := by rw [List.getElem?_map, h]; rfl
  rw [hC, List.getElem?_map] at h1
  cases hw : w[j]? with
  | none => rw [hw] at h1; cases h1
  | some q => rw [hw] at h1; exact ⟨q, rfl, (Option.some.inj h1).symm⟩
theorem q_join {A : Nat → Prop} {D : va_G} {cl : List vw_C} {ws w w' ws2 : va_W} {H H1 : Heap} (hP : va_P D cl ws H) (hD : va_D A ws) (is : List Nat) (src : List (Bool × Nat)) (hC : is.map (fun i => ws[i]?) = w.map some)
    (hsrc : src.map (q_src ws w') = ws2.map some) (hok : src.all (fun x => x.1 || !(is.contains x.2)) = true) (had : ws2.map Prod.fst = ws.map Prod.fst)
    (hk : ∀ q : Nat, q < H.size → ¬ va_A w H.size q → H1[q]? = H[q]?) (hP1 : va_P D cl w' H1) : va_P D cl ws2 H1 ∧ va_D A ws2 := by
  have adr : ∀ (k : Nat) (q : Nat × va_E), ws2[k]? = some q → ∃ q0, ws[k]? = some q0 ∧ q0.1 = q.1 := by
    intro k q h
    have h5 : (ws2.map Prod.fst)[k]? = some q.1 := by rw [List.getElem?_map, h]; rfl
    rw [had, List.getElem?_map] at h5
    cases hw : ws[k]? with
    | none => rw [hw] at h5; cases h5
    | some q0 => rw [hw] at h5; exact ⟨q0, rfl, Option.some.inj h5⟩
  refine ⟨fun k q h => ?_, fun i j p q hi hj hpq => ?_, fun k q h => ?_⟩
  · have h5 : (ws2.map some)[k]? = some (some q) := by rw [List.getElem?_map, h]; rfl
    rw [← hsrc, List.getElem?_map] at h5
    cases hs : src[k]? with
    | none => rw [hs] at h5; cases h5
    | some x =>
      rw [hs] at h5
      obtain ⟨b, i⟩ := x
      have h6 : q_src ws w' (b, i) = some q := Option.some.inj h5
      cases b with
      | true => exact hP1 i q h6
      | false =>
        have h7 : ws[i]? = some q := h6
        have h8 := List.all_eq_true.mp hok (false, i) (List.mem_of_getElem? hs)
        have h9 : i ∉ is := by simpa using h8
        have hlt := (hP i q h7).lt
        refine (hP i q h7).kept (hk q.1 hlt (fun hA => ?_))
        rcases hA with ⟨j, e, hj⟩ | hA
        · cases hi : is[j]? with
          | none =>
            have h5 : (is.map (fun i => ws[i]?))[j]? = none := by rw [List.getElem?_map, hi]; rfl
            rw [hC, List.getElem?_map, hj] at h5
            cases h5
          | some i2 =>
            obtain ⟨q0, h3, h4⟩ := q_at_map hC hi
            rw [hj] at h3
            cases h3
            have := hD.1 i i2 q (q.1, e) h7 h4 rfl
            subst this
            exact h9 (List.mem_of_getElem? hi)
        · omega
  · obtain ⟨p0, a1, a2⟩ := adr i p hi
    obtain ⟨q0, b1, b2⟩ := adr j q hj
    exact hD.1 i j p0 q0 a1 b1 (by rw [a2, b2, hpq])
  · obtain ⟨q0, a1, a2⟩ := adr k q h
    rw [← a2]
    exact hD.2 k q0 a1
/-! a contract's start and end: a world, and the next one -/
def q_Pw (D : va_G) (tys : List (ClassId × FieldType)) (w : va_W) (sz : Nat) : State → Prop := fun U => U.heap.size = sz ∧ va_P D vwCl w U.heap ∧ va_K D vwCl tys U ∧ va_D (fun _ => True) w
def q_Bw (D : va_G) (tys : List (ClassId × FieldType)) (A : Nat → Prop) (w : va_W) : Unit → State → Prop := fun _ t => va_P D vwCl w t.heap ∧ va_K D vwCl tys t ∧ va_D A w
abbrev q_Mi (l : Launch) (y : MethodName) (wy : List Cond) (rm : Room) (D : va_G) (tys : List (ClassId × FieldType)) (av : List Value) (w w' : va_W) (sz : Nat) (r : Int32) : Prop :=
  Met l y wy rm (va_Pc av (q_Pw D tys w sz)) (va_Qi (fun r2 (_ : Unit) => r2 = r) (q_Bw D tys (va_A w sz) w') (va_A w sz)) 0 0 (va_A w sz)
abbrev q_Mv (l : Launch) (y : MethodName) (wy : List Cond) (rm : Room) (D : va_G) (tys : List (ClassId × FieldType)) (av : List Value) (w w' : va_W) (sz : Nat) : Prop :=
  Met l y wy rm (va_Pc av (q_Pw D tys w sz)) (va_Qv (fun (_ : Unit) => True) (q_Bw D tys (va_A w sz) w') (va_A w sz)) 0 0 (va_A w sz)
theorem q_blind {D : va_G} {tys : List (ClassId × FieldType)} {av : List Value} {w : va_W} {sz : Nat} : FrameBlind (va_Pc av (q_Pw D tys w sz)) := fun a U g mk q => by
  obtain ⟨q0, q1, qP, qK, qD⟩ := q
  exact ⟨q0, q1, qP, va_K.moved (u := U) (U := U.calling g mk a) (Vm.Alike.refl U.vm) qK, qD⟩
theorem q_cutP {D : va_G} {cl : List vw_C} {ws w : va_W} {H : Heap} (hP : va_P D cl ws H) {is : List Nat} (hC : is.map (fun i => ws[i]?) = w.map some) : va_P D cl w H := fun k q hk => by
  have h1 : (w.map some)[k]? = some (some q) := by rw [List.getElem?_map, hk]; rfl
  rw [← hC, List.getElem?_map] at h1
  cases hi : is[k]? with
  | none => rw [hi] at h1; cases h1
  | some i => rw [hi] at h1; exact hP i q (Option.some.inj h1)
section QW
variable {p : Program} {l : Launch} {e : Env} {R : Room} {s : State} {m : MethodId} {args : Array Value} {below : List Frame} {meth : Method} {c : Code} {H : Heap} {locs : List Loc} {cells slots : Nat} {Q : State → Prop}
variable {cc : ByteArray} {pc : Nat} {ls : Array Slot} {rest st0 : List Value} {D : va_G} {A : Nat → Prop} {a : Nat} {tys : List (ClassId × FieldType)} {ws : va_W} {H0 : Heap}
theorem q_iast (hexec : p.tables.exec = Jvm.exec) (hb : c.code = cc) (hK : va_K D vwCl tys s) (hP : va_P D vwCl ws H) (hD : va_D A ws) (hS : va_S A H0 H locs) (q0 t0 : Nat) (ws2 : va_W) {cA : ClassId} {n : Nat} {f : Nat → Int32} (ha : ws[q0]? = some (a, .inl (cA, n, .inl f))) (ht : tys[t0]? = some (cA, .int)) {i : Int32} {x : Int32} (hin : q_in i n) (hw : ws.set q0 (a, .inl (cA, n, .inl (upd f i.toNatClampNeg x))) = ws2) (hdg : decode cc pc = .ok (.iastore, 1))
    (kk : ∀ (H1 : Heap) (locs1 : List Loc), va_P D vwCl ws2 H1 → va_D A ws2 → va_S A H0 H1 locs1 → W p l e R s m args below meth c H1 locs1 cells slots Q (F0 m (pc + 1) ls rest)) : W p l e R s m args below meth c H locs cells slots Q (F0 m pc ls (.int x :: .int i :: .ref a :: rest)) := by
  subst hw
  exact va_iast hexec hb hK hP hD hS q0 t0 ha ht hin hdg kk
theorem q_zast (hexec : p.tables.exec = Jvm.exec) (hb : c.code = cc) (hK : va_K D vwCl tys s) (hP : va_P D vwCl ws H) (hD : va_D A ws) (hS : va_S A H0 H locs) (q0 t0 : Nat) (ws2 : va_W) {cA : ClassId} {n : Nat} {f : Nat → Int32} (ha : ws[q0]? = some (a, .inl (cA, n, .inl f))) (ht : tys[t0]? = some (cA, .boolean)) {i : Int32} {x : Int32} (hin : q_in i n) (hx : q_tf x) (hw : ws.set q0 (a, .inl (cA, n, .inl (upd f i.toNatClampNeg x))) = ws2) (hdg : decode cc pc = .ok (.bastore, 1))
    (kk : ∀ (H1 : Heap) (locs1 : List Loc), va_P D vwCl ws2 H1 → va_D A ws2 → va_S A H0 H1 locs1 → W p l e R s m args below meth c H1 locs1 cells slots Q (F0 m (pc + 1) ls rest)) : W p l e R s m args below meth c H locs cells slots Q (F0 m pc ls (.int x :: .int i :: .ref a :: rest)) := by
  subst hw
  refine va_zast hexec hb hK hP hD hS q0 t0 ha ht hin hdg ?_
  rw [q_nar hx]
  exact kk
theorem q_put (hexec : p.tables.exec = Jvm.exec) (hb : c.code = cc) {own ref C : String} {T : u_T} {N ci index : Nat} {Ts : List Cond} (hts : ∀ w ∈ Ts, w.before args s = true) (hin : ∀ w ∈ u_ws C T N, w ∈ Ts) (ty0 : Nat → FieldType) (hty : ∀ k, k < N → parseFieldDescriptor (T k).2.2.1 = some (ty0 k)) (hnm : ∀ a, a < N → ∀ b, b < N → a ≠ b → (T a).2.1 ≠ (T b).2.1) (hown : s.vm.findClass own = some m.cls) (hK : va_K D vwCl tys s) (hP : va_P D vwCl ws H) (hD : va_D A ws) (hS0 : va_S A H0 H locs) (q0 : Nat) (ws2 : va_W) {fs : List Value} (he : ws[q0]? = some (a, .inr (ci, fs))) (hc : vwCl[ci]? = some (C, T, N)) (k : Nat) (hk : k < N) (hlink : (Cond.fieldLink own index ref (T k).2.1 (T k).2.2.1).before args s = true) (href : (T k).1 = ref) (hfin : (T k).2.2.2 = false) {ty : FieldType} {v : Value} (hd : parseFieldDescriptor (T k).2.2.1 = some ty) (hn : narrow ty v = v) (hfit : fits ty v = true) (hl : k < fs.length) (hw : ws.set q0 (a, .inr (ci, fs.set k v)) = ws2)
    (hdg : decode cc pc = .ok (.putfield index, 3)) (kk : ∀ (H1 : Heap) (locs1 : List Loc), va_P D vwCl ws2 H1 → va_D A ws2 → va_S A H0 H1 locs1 → W p l e R s m args below meth c H1 locs1 cells slots Q (F0 m (pc + 3) ls rest)) : W p l e R s m args below meth c H locs cells slots Q (F0 m pc ls (v :: .ref a :: rest)) := by
  subst hw
  subst href
  exact va_put hexec hb hts hin ty0 hty hnm hown hK hP hD hS0 q0 he hc k hk hlink (fun _ h => h) hfin hd hn hfit hl hdg kk
theorem q_get (hexec : p.tables.exec = Jvm.exec) (hb : c.code = cc) {own ref C : String} {T : u_T} {N ci index : Nat} {Ts : List Cond} (hts : ∀ w ∈ Ts, w.before args s = true) (hin : ∀ w ∈ u_ws C T N, w ∈ Ts) (hown : s.vm.findClass own = some m.cls) (hK : va_K D vwCl tys s) (hP : va_P D vwCl ws H) (q0 : Nat) {fs : List Value} (he : ws[q0]? = some (a, .inr (ci, fs))) (hc : vwCl[ci]? = some (C, T, N)) (k : Nat) (hk : k < N) (hlink : (Cond.fieldLink own index ref (T k).2.1 (T k).2.2.1).before args s = true) (href : (T k).1 = ref) {v : Value} (hv : fs[k]? = some v) (hdg : decode cc pc = .ok (.getfield index, 3))
    (kk : W p l e R s m args below meth c H locs cells slots Q (F0 m (pc + 3) ls (v :: rest))) : W p l e R s m args below meth c H locs cells slots Q (F0 m pc ls (.ref a :: rest)) := by
  subst href
  exact va_get hexec hb hts hin hown hK hP q0 he hc k hk hlink (fun _ h => h) hv hdg kk
variable {y : MethodName} {bytes : ByteArray} {maxL nL n index : Nat} {ret : Option FieldType} {wy : List Cond} {rm : Room} {Ts : List Cond} {own C : String} {b : Addr} {As : List Value} {w w' : va_W} {r : Int32}
theorem q_Vi (S : CallFix p m c cc nL s args Ts own) (hA : ∀ q, H0.size ≤ q → A q) (hK : va_K D vwCl tys s) (hP : va_P D vwCl ws H) (hD : va_D A ws) (hS : va_S A H0 H locs)
    (hM : q_Mi l y wy rm D tys (.ref b :: As) w w' H.size r) (cw : CallW R s args own C index y bytes maxL ret wy rm 0 0 n) (is : List Nat) (src : List (Bool × Nat)) (ws2 : va_W) (hnd : va_nd is = true) (hC : is.map (fun i => ws[i]?) = w.map some) (hsrc : src.map (q_src ws w') = ws2.map some) (hok : src.all (fun x => x.1 || !(is.contains x.2)) = true) (had : ws2.map Prod.fst = ws.map Prod.fst)
    (ci q0 : Nat) {qc : vw_C} {fs : List Value} (hc : vwCl[ci]? = some qc) (hcC : qc.1 = C) (hre : w[q0]? = some (b, .inr (ci, fs))) (hn : As.length = n) (hsz : ls.size = nL) (hst : st0 = As.reverse ++ .ref b :: rest) (hW : (rest.map fun v => v.category).sum ≤ 8) (hdg : decode cc pc = .ok (.invokevirtual index, 3)) (hf : cells ≤ R.cells ∧ slots ≤ R.slots)
    (kk : ∀ (H1 : Heap) (locs1 : List Loc), va_P D vwCl ws2 H1 → va_D A ws2 → va_S A H0 H1 locs1 → W p l e R s m args below meth c H1 locs1 cells slots Q (F0 m (pc + 3) ls (.int r :: rest))) : W p l e R s m args below meth c H locs cells slots Q (F0 m pc ls st0) := by
  subst hcC
  have hPc : va_P D vwCl w H := q_cutP hP hC
  have hDc : va_D (fun _ => True) w := (hD.sub is hnd hC).weaken (fun _ _ _ _ => trivial)
  have hFc := va_free (wc := w) hD hS hA is hC
  refine va_calli (va_runV (g := F0 m pc ls st0) (As := As) (rest := rest) S hM cw ⟨q_blind, va_recv hK hPc hc hre, fun U hU hW2 => ⟨rfl, by rw [hU], by rw [hU]; exact hPc, va_K.moved hW2.alike hK, hDc⟩⟩ rfl hn hsz hst (lv_room hW) hdg hf) hS (fun q _ h => hFc q h) hFc (fun r1 u t H1 locs1 ht hvm hw hB hz1 hk1 hS1 => ?_)
  obtain ⟨hP1, -, -⟩ := hB
  rw [ht] at hP1
  obtain ⟨hP2, hD2⟩ := q_join hP hD is src hC hsrc hok had hk1 hP1
  subst hw
  exact kk H1 locs1 hP2 hD2 hS1
theorem q_Vv (S : CallFix p m c cc nL s args Ts own) (hA : ∀ q, H0.size ≤ q → A q) (hK : va_K D vwCl tys s) (hP : va_P D vwCl ws H) (hD : va_D A ws) (hS : va_S A H0 H locs)
    (hM : q_Mv l y wy rm D tys (.ref b :: As) w w' H.size) (cw : CallW R s args own C index y bytes maxL ret wy rm 0 0 n) (is : List Nat) (src : List (Bool × Nat)) (ws2 : va_W) (hnd : va_nd is = true) (hC : is.map (fun i => ws[i]?) = w.map some) (hsrc : src.map (q_src ws w') = ws2.map some) (hok : src.all (fun x => x.1 || !(is.contains x.2)) = true) (had : ws2.map Prod.fst = ws.map Prod.fst)
    (ci q0 : Nat) {qc : vw_C} {fs : List Value} (hc : vwCl[ci]? = some qc) (hcC : qc.1 = C) (hre : w[q0]? = some (b, .inr (ci, fs))) (hn : As.length = n) (hsz : ls.size = nL) (hst : st0 = As.reverse ++ .ref b :: rest) (hW : (rest.map fun v => v.category).sum ≤ 8) (hdg : decode cc pc = .ok (.invokevirtual index, 3)) (hf : cells ≤ R.cells ∧ slots ≤ R.slots)
    (kk : ∀ (H1 : Heap) (locs1 : List Loc), va_P D vwCl ws2 H1 → va_D A ws2 → va_S A H0 H1 locs1 → W p l e R s m args below meth c H1 locs1 cells slots Q (F0 m (pc + 3) ls rest)) : W p l e R s m args below meth c H locs cells slots Q (F0 m pc ls st0) := by
  subst hcC
  have hPc : va_P D vwCl w H := q_cutP hP hC
  have hDc : va_D (fun _ => True) w := (hD.sub is hnd hC).weaken (fun _ _ _ _ => trivial)
  have hFc := va_free (wc := w) hD hS hA is hC
  refine va_callv (va_runV (g := F0 m pc ls st0) (As := As) (rest := rest) S hM cw ⟨q_blind, va_recv hK hPc hc hre, fun U hU hW2 => ⟨rfl, by rw [hU], by rw [hU]; exact hPc, va_K.moved hW2.alike hK, hDc⟩⟩ rfl hn hsz hst (lv_room hW) hdg hf) hS (fun q _ h => hFc q h) hFc (fun u t H1 locs1 ht hvm hw hB hz1 hk1 hS1 => ?_)
  obtain ⟨hP1, -, -⟩ := hB
  rw [ht] at hP1
  obtain ⟨hP2, hD2⟩ := q_join hP hD is src hC hsrc hok had hk1 hP1
  clear hw
  exact kk H1 locs1 hP2 hD2 hS1
theorem q_Si (S : CallFix p m c cc nL s args Ts own) (hA : ∀ q, H0.size ≤ q → A q) (hK : va_K D vwCl tys s) (hP : va_P D vwCl ws H) (hD : va_D A ws) (hS : va_S A H0 H locs)
    (hM : q_Mi l y wy rm D tys As w w' H.size r) (cw : CallB R s args own index y bytes maxL ret wy rm 0 0 n ∧ (Cond.static y).before args s = true) (is : List Nat) (src : List (Bool × Nat)) (ws2 : va_W) (hnd : va_nd is = true) (hC : is.map (fun i => ws[i]?) = w.map some) (hsrc : src.map (q_src ws w') = ws2.map some) (hok : src.all (fun x => x.1 || !(is.contains x.2)) = true) (had : ws2.map Prod.fst = ws.map Prod.fst)
    (hn : As.length = n) (hsz : ls.size = nL) (hst : st0 = As.reverse ++ rest) (hW : (rest.map fun v => v.category).sum ≤ 8) (hdg : decode cc pc = .ok (.invokestatic index, 3)) (hf : cells ≤ R.cells ∧ slots ≤ R.slots)
    (kk : ∀ (H1 : Heap) (locs1 : List Loc), va_P D vwCl ws2 H1 → va_D A ws2 → va_S A H0 H1 locs1 → W p l e R s m args below meth c H1 locs1 cells slots Q (F0 m (pc + 3) ls (.int r :: rest))) : W p l e R s m args below meth c H locs cells slots Q (F0 m pc ls st0) := by
  have hPc : va_P D vwCl w H := q_cutP hP hC
  have hDc : va_D (fun _ => True) w := (hD.sub is hnd hC).weaken (fun _ _ _ _ => trivial)
  have hFc := va_free (wc := w) hD hS hA is hC
  refine va_calli (va_runS (g := F0 m pc ls st0) (As := As) (rest := rest) S hM cw ⟨q_blind, fun U hU hW2 => ⟨rfl, by rw [hU], by rw [hU]; exact hPc, va_K.moved hW2.alike hK, hDc⟩⟩ rfl hn hsz hst (lv_room hW) hdg hf) hS (fun q _ h => hFc q h) hFc (fun r1 u t H1 locs1 ht hvm hw hB hz1 hk1 hS1 => ?_)
  obtain ⟨hP1, -, -⟩ := hB
  rw [ht] at hP1
  obtain ⟨hP2, hD2⟩ := q_join hP hD is src hC hsrc hok had hk1 hP1
  subst hw
  exact kk H1 locs1 hP2 hD2 hS1
theorem q_Sv (S : CallFix p m c cc nL s args Ts own) (hA : ∀ q, H0.size ≤ q → A q) (hK : va_K D vwCl tys s) (hP : va_P D vwCl ws H) (hD : va_D A ws) (hS : va_S A H0 H locs)
    (hM : q_Mv l y wy rm D tys As w w' H.size) (cw : CallB R s args own index y bytes maxL ret wy rm 0 0 n ∧ (Cond.static y).before args s = true) (is : List Nat) (src : List (Bool × Nat)) (ws2 : va_W) (hnd : va_nd is = true) (hC : is.map (fun i => ws[i]?) = w.map some) (hsrc : src.map (q_src ws w') = ws2.map some) (hok : src.all (fun x => x.1 || !(is.contains x.2)) = true) (had : ws2.map Prod.fst = ws.map Prod.fst)
    (hn : As.length = n) (hsz : ls.size = nL) (hst : st0 = As.reverse ++ rest) (hW : (rest.map fun v => v.category).sum ≤ 8) (hdg : decode cc pc = .ok (.invokestatic index, 3)) (hf : cells ≤ R.cells ∧ slots ≤ R.slots)
    (kk : ∀ (H1 : Heap) (locs1 : List Loc), va_P D vwCl ws2 H1 → va_D A ws2 → va_S A H0 H1 locs1 → W p l e R s m args below meth c H1 locs1 cells slots Q (F0 m (pc + 3) ls rest)) : W p l e R s m args below meth c H locs cells slots Q (F0 m pc ls st0) := by
  have hPc : va_P D vwCl w H := q_cutP hP hC
  have hDc : va_D (fun _ => True) w := (hD.sub is hnd hC).weaken (fun _ _ _ _ => trivial)
  have hFc := va_free (wc := w) hD hS hA is hC
  refine va_callv (va_runS (g := F0 m pc ls st0) (As := As) (rest := rest) S hM cw ⟨q_blind, fun U hU hW2 => ⟨rfl, by rw [hU], by rw [hU]; exact hPc, va_K.moved hW2.alike hK, hDc⟩⟩ rfl hn hsz hst (lv_room hW) hdg hf) hS (fun q _ h => hFc q h) hFc (fun u t H1 locs1 ht hvm hw hB hz1 hk1 hS1 => ?_)
  obtain ⟨hP1, -, -⟩ := hB
  rw [ht] at hP1
  obtain ⟨hP2, hD2⟩ := q_join hP hD is src hC hsrc hok had hk1 hP1
  clear hw
  exact kk H1 locs1 hP2 hD2 hS1
theorem q_Vv2 {ci : Nat} {fs fs' : List Value} (S : CallFix p m c cc nL s args Ts own) (hA : ∀ q, H0.size ≤ q → A q) (hK : va_K D vwCl tys s) (hP : va_P D vwCl ws H) (hD : va_D A ws) (hS : va_S A H0 H locs)
    (hM : q_Mv l y wy rm D tys (.ref b :: As) [(b, .inr (ci, fs))] [(b, .inr (ci, fs'))] H.size) (cw : CallW R s args own C index y bytes maxL ret wy rm 0 0 n) (j : Nat) (perm : List Nat) (ws2 : va_W) (hj : ws[j]? = some (b, .inr (ci, fs))) (hnd : va_nd perm = true) (hperm : perm.map (fun i => (ws.set j (b, .inr (ci, fs')))[i]?) = ws2.map some)
    {qc : vw_C} (hc : vwCl[ci]? = some qc) (hcC : qc.1 = C) (hn : As.length = n) (hsz : ls.size = nL) (hst : st0 = As.reverse ++ .ref b :: rest) (hW : (rest.map fun v => v.category).sum ≤ 8) (hdg : decode cc pc = .ok (.invokevirtual index, 3)) (hf : cells ≤ R.cells ∧ slots ≤ R.slots)
    (kk : ∀ (H1 : Heap) (locs1 : List Loc), va_P D vwCl ws2 H1 → va_D A ws2 → va_S A H0 H1 locs1 → W p l e R s m args below meth c H1 locs1 cells slots Q (F0 m (pc + 3) ls rest)) : W p l e R s m args below meth c H locs cells slots Q (F0 m pc ls st0) := by
  subst hcC
  have hC : [j].map (fun i => ws[i]?) = [((b, .inr (ci, fs)) : Nat × va_E)].map some := by simp [hj]
  have hPc : va_P D vwCl [(b, .inr (ci, fs))] H := q_cutP hP hC
  have hDc : va_D (fun _ => True) [((b, .inr (ci, fs)) : Nat × va_E)] := (hD.sub [j] rfl hC).weaken (fun _ _ _ _ => trivial)
  have hFc := va_free (wc := [(b, .inr (ci, fs))]) hD hS hA [j] hC
  refine va_callv (va_runV (g := F0 m pc ls st0) (As := As) (rest := rest) S hM cw ⟨q_blind, va_recv hK hPc hc (q0 := 0) rfl, fun U hU hW2 => ⟨rfl, by rw [hU], by rw [hU]; exact hPc, va_K.moved hW2.alike hK, hDc⟩⟩ rfl hn hsz hst (lv_room hW) hdg hf) hS (fun q _ h => hFc q h) hFc (fun u t H1 locs1 ht hvm hw hB hz1 hk1 hS1 => ?_)
  obtain ⟨hP1, -, -⟩ := hB
  rw [ht] at hP1
  have hP2 : va_P D vwCl (ws.set j (b, .inr (ci, fs'))) H1 := by
    intro k q h
    by_cases hkj : k = j
    · subst hkj
      rw [List.getElem?_set_self', hj] at h
      cases h
      exact hP1 0 _ rfl
    · rw [List.getElem?_set_ne (Ne.symm hkj)] at h
      refine (hP k q h).kept (hk1 q.1 (hP k q h).lt (fun hA => ?_))
      rcases hA with ⟨z, e, hz⟩ | hA
      · match z, hz with
        | 0, hz =>
          have e1 : q.1 = b := by cases hz; rfl
          exact hkj (hD.1 k j q (b, .inr (ci, fs)) h hj e1)
        | z + 1, hz => cases hz
      · exact absurd (hP k q h).lt (Nat.not_lt.mpr hA)
  exact kk H1 locs1 (q_cutP hP2 hperm) ((hD.set hj).sub perm hnd hperm) hS1
end QW
def q_pL (k : Nat) (aL aF aK : Nat → Nat) : Nat → Nat := match k with
  | 1 => aF
  | 2 => aK
  | _ => aL
def q_pF (k : Nat) (aL aF _ : Nat → Nat) : Nat → Nat := match k with
  | 1 => aL
  | _ => aF
def q_pK (k : Nat) (aL _ aK : Nat → Nat) : Nat → Nat := match k with
  | 2 => aL
  | _ => aK

abbrev q_ty (cI cZ : ClassId) : List (ClassId × FieldType) := [(cI, .int), (cZ, .boolean)]
def q_let {α β : Type} (x : α) (f : α → Option β) : Option β := f x
theorem q_letE {α β : Type} {x : α} {f : α → Option β} {r : β} (h : q_let x f = some r) : ∃ y, y = x ∧ f y = some r := ⟨x, rfl, h⟩
theorem q_el {α β γ : Type} {f : α → γ} {g : β → γ} {u : α} {r : γ} (h : Sum.elim f g (.inl u) = r) : f u = r := h
theorem q_er {α β γ : Type} {f : α → γ} {g : β → γ} {u : β} {r : γ} (h : Sum.elim f g (.inr u) = r) : g u = r := h
theorem q_top {p : Program} {l : Launch} {e : Env} {R : Room} {s : State} {m : MethodId} {args : Array Value} {below : List Frame} {meth : Method} {c : Code} {H : Heap} {locs : List Loc} {cells slots : Nat} {Q : State → Prop} {pc : Nat} {ls : Array Slot} {rest : List Value} {x y : Int32} (h : x = y) (k : W p l e R s m args below meth c H locs cells slots Q (F0 m pc ls (.int x :: rest))) : W p l e R s m args below meth c H locs cells slots Q (F0 m pc ls (.int y :: rest)) := by
  subst h; exact k
/-- a contract out of a walk that ends in a return -/
theorem q_meti {l : Launch} {y : MethodName} {wy wy' : List Cond} {rm : Room} {D : va_G} {tys : List (ClassId × FieldType)} {av : List Value} {w w' : va_W} {sz : Nat} {r : Int32} {cc : ByteArray} {maxL : Nat} (hy : plainName y.cls = true) (hw : wy = Cond.code y cc maxL (some .int) :: wy') (hav : (lg_sl av).length ≤ maxL)
    (body : ∀ (p : Program) (e : Env) (s : State) (m : MethodId) (args : Array Value) (below : List Frame) (meth : Method) (c : Code) (Q : State → Prop) (A : Nat → Prop) (H : Heap) (locs : List Loc) (ls : Array Slot), (p.tables.exec = Jvm.exec ∧ c.code = cc ∧ c.maxLocals = maxL ∧ s.vm.findClass y.cls = some m.cls ∧ (∀ w ∈ wy, w.before args s = true) ∧ (∀ q, s.heap.size ≤ q → A q) ∧ va_K D vwCl tys s) → va_P D vwCl w H → va_D A w → va_S A s.heap H locs → lv_has ls maxL (lv_args 0 av) →
      (∀ (H : Heap) (locs : List Loc) (ls : Array Slot) (pc : Nat) (v : Int32) (w2 : va_W), decode cc pc = .ok (.ireturn, 1) → v = r → w2 = w' → va_P D vwCl w2 H → va_D A w2 → va_S A s.heap H locs → W p l e (headSpec wy rm).room s m args below meth c H locs 0 0 Q (F0 m pc ls [.int v])) →
      W p l e (headSpec wy rm).room s m args below meth c H locs 0 0 Q (F0 m 0 ls [])) : q_Mi l y wy rm D tys av w w' sz r := by
  refine Met.ofW (cc := cc) (maxL := maxL) (ret := (some .int)) hy hw ?_
  intro p e s m args below meth c s₁ B hml hv
  obtain ⟨rfl, hsz, hP, hK, hD0⟩ := hv
  subst hsz
  have hl := lv_entry av (n := maxL) hav
  rw [lg_entry_eq]
  refine body p e s m _ below meth c _ (va_A w s.heap.size) _ _ _ ⟨B.exec, B.bytes, hml, findClass_of_methodNamed B.named, atoms_spec (ws := wy) B.pre, fun q h => Or.inr h, hK⟩ hP (hD0.self) va_S.rf hl ?_
  intro H locs ls pc v w2 hd hv hw2 hP2 hD2 hS2
  subst hv
  subst hw2
  exact W.iret (v := v) B.exec B.bytes B.returns (fun t ht hW => ⟨⟨v, (), rfl, rfl, by rw [ht]; exact hP2, va_K.moved hW.alike hK, hD2⟩, hS2.F ht⟩) hS2.2.2 hd B.notSynchronized
/-- a contract out of a walk that ends in a return -/
theorem q_metz {l : Launch} {y : MethodName} {wy wy' : List Cond} {rm : Room} {D : va_G} {tys : List (ClassId × FieldType)} {av : List Value} {w w' : va_W} {sz : Nat} {r : Int32} {cc : ByteArray} {maxL : Nat} (hy : plainName y.cls = true) (hw : wy = Cond.code y cc maxL (some .boolean) :: wy') (hav : (lg_sl av).length ≤ maxL)
    (body : ∀ (p : Program) (e : Env) (s : State) (m : MethodId) (args : Array Value) (below : List Frame) (meth : Method) (c : Code) (Q : State → Prop) (A : Nat → Prop) (H : Heap) (locs : List Loc) (ls : Array Slot), (p.tables.exec = Jvm.exec ∧ c.code = cc ∧ c.maxLocals = maxL ∧ s.vm.findClass y.cls = some m.cls ∧ (∀ w ∈ wy, w.before args s = true) ∧ (∀ q, s.heap.size ≤ q → A q) ∧ va_K D vwCl tys s) → va_P D vwCl w H → va_D A w → va_S A s.heap H locs → lv_has ls maxL (lv_args 0 av) →
      (∀ (H : Heap) (locs : List Loc) (ls : Array Slot) (pc : Nat) (v : Int32) (w2 : va_W), decode cc pc = .ok (.ireturn, 1) → q_tf v → v = r → w2 = w' → va_P D vwCl w2 H → va_D A w2 → va_S A s.heap H locs → W p l e (headSpec wy rm).room s m args below meth c H locs 0 0 Q (F0 m pc ls [.int v])) →
      W p l e (headSpec wy rm).room s m args below meth c H locs 0 0 Q (F0 m 0 ls [])) : q_Mi l y wy rm D tys av w w' sz r := by
  refine Met.ofW (cc := cc) (maxL := maxL) (ret := (some .boolean)) hy hw ?_
  intro p e s m args below meth c s₁ B hml hv
  obtain ⟨rfl, hsz, hP, hK, hD0⟩ := hv
  subst hsz
  have hl := lv_entry av (n := maxL) hav
  rw [lg_entry_eq]
  refine body p e s m _ below meth c _ (va_A w s.heap.size) _ _ _ ⟨B.exec, B.bytes, hml, findClass_of_methodNamed B.named, atoms_spec (ws := wy) B.pre, fun q h => Or.inr h, hK⟩ hP (hD0.self) va_S.rf hl ?_
  intro H locs ls pc v w2 hd htf hv hw2 hP2 hD2 hS2
  subst hv
  subst hw2
  exact W.zret (v := v) B.exec B.bytes B.returns (q_narz htf) (fun t ht hW => ⟨⟨v, (), rfl, rfl, by rw [ht]; exact hP2, va_K.moved hW.alike hK, hD2⟩, hS2.F ht⟩) hS2.2.2 hd B.notSynchronized
/-- a contract out of a walk that ends in a return -/
theorem q_metv {l : Launch} {y : MethodName} {wy wy' : List Cond} {rm : Room} {D : va_G} {tys : List (ClassId × FieldType)} {av : List Value} {w w' : va_W} {sz : Nat} {cc : ByteArray} {maxL : Nat} (hy : plainName y.cls = true) (hw : wy = Cond.code y cc maxL none :: wy') (hav : (lg_sl av).length ≤ maxL)
    (body : ∀ (p : Program) (e : Env) (s : State) (m : MethodId) (args : Array Value) (below : List Frame) (meth : Method) (c : Code) (Q : State → Prop) (A : Nat → Prop) (H : Heap) (locs : List Loc) (ls : Array Slot), (p.tables.exec = Jvm.exec ∧ c.code = cc ∧ c.maxLocals = maxL ∧ s.vm.findClass y.cls = some m.cls ∧ (∀ w ∈ wy, w.before args s = true) ∧ (∀ q, s.heap.size ≤ q → A q) ∧ va_K D vwCl tys s) → va_P D vwCl w H → va_D A w → va_S A s.heap H locs → lv_has ls maxL (lv_args 0 av) →
      (∀ (H : Heap) (locs : List Loc) (ls : Array Slot) (pc : Nat) (w2 : va_W), decode cc pc = .ok (.return_, 1) → w2 = w' → va_P D vwCl w2 H → va_D A w2 → va_S A s.heap H locs → W p l e (headSpec wy rm).room s m args below meth c H locs 0 0 Q (F0 m pc ls [])) →
      W p l e (headSpec wy rm).room s m args below meth c H locs 0 0 Q (F0 m 0 ls [])) : q_Mv l y wy rm D tys av w w' sz := by
  refine Met.ofW (cc := cc) (maxL := maxL) (ret := none) hy hw ?_
  intro p e s m args below meth c s₁ B hml hv
  obtain ⟨rfl, hsz, hP, hK, hD0⟩ := hv
  subst hsz
  have hl := lv_entry av (n := maxL) hav
  rw [lg_entry_eq]
  refine body p e s m _ below meth c _ (va_A w s.heap.size) _ _ _ ⟨B.exec, B.bytes, hml, findClass_of_methodNamed B.named, atoms_spec (ws := wy) B.pre, fun q h => Or.inr h, hK⟩ hP (hD0.self) va_S.rf hl ?_
  intro H locs ls pc w2 hd hw2 hP2 hD2 hS2
  subst hw2
  exact W.vret B.exec B.bytes B.returns (fun t ht hW => ⟨⟨(), rfl, trivial, by rw [ht]; exact hP2, va_K.moved hW.alike hK, hD2⟩, hS2.F ht⟩) hS2.2.2 hd B.notSynchronized
/-! Arrays.fill of ints -/
theorem q_row_eq {cA : ClassId} {n : Nat} {f g : Nat → Int32} (h : ∀ j, j < n → f j = g j) : vp_cell cA (n, .inl f) = vp_cell cA (n, .inl g) := by
  rw [vp_cell_i, vp_cell_i]
  unfold arrV
  have e : (Array.ofFn (n := n) fun j => Value.int (f j.val)) = Array.ofFn (n := n) fun j => Value.int (g j.val) := by
    congr 1
    funext j
    rw [h j.val j.isLt]
  rw [e]
abbrev rJ7_fill_53178 : Room := { frames := 0, cells := 0, slots := 0, locals := 0 }
theorem uJ7_fill_53178 : yJ7_fill_53178.cls ≠ "java/lang/invoke/MethodHandle" ∧ yJ7_fill_53178.cls ≠ "java/lang/invoke/VarHandle" ∧ (parseMethodDescriptor yJ7_fill_53178.desc).map (fun d => d.parameters.length) = some 2 := by decide +kernel
set_option maxHeartbeats 4000000 in
set_option maxRecDepth 100000 in
theorem tJ7_fill_53178 (l : Launch) (dC : Nat → ClassId) (dI : Nat → Nat → Nat) (cI cZ : ClassId) (aV n sz : Nat) (f : Nat → Int32) (v : Int32) (hn : n < 2 ^ 31) : q_Mv l yJ7_fill_53178 wsJ7_fill_53178 rJ7_fill_53178 (dC, dI) (q_ty cI cZ) [.ref aV, .int v] [(aV, .inl (cI, n, .inl f))] [(aV, .inl (cI, n, .inl (fun _ => v)))] sz := by
  refine q_metv (cc := cJ7_fill_53178) (maxL := 4) (by decide) rfl (Nat.le_of_ble_eq_true rfl) ?_
  intro p e s m args below meth c Q A H locs ls C hP hD hS hl hret
  obtain ⟨hx, hb, hml, hown, hts, hA, hK⟩ := C
  replace hl : lv_has ls 4 [(0, .ref aV), (1, .int v)] := hl
  have L5 : ∀ (k i : Nat) (g : Nat → Int32), i + k = n → (∀ j, j < i → g j = v) → ∀ (H : Heap) (locs : List Loc) (ls : Array Slot), va_P (dC, dI) vwCl [(aV, .inl (cI, n, .inl g))] H → va_D A [(aV, .inl (cI, n, .inl g))] → va_S A s.heap H locs → lv_has ls 4 [(0, .ref aV), (1, .int v), (2, .int (nI i)), (3, .int (nI n))] → W p l e (headSpec wsJ7_fill_53178 rJ7_fill_53178).room s m args below meth c H locs 0 0 Q (F0 m 5 ls []) := by
    intro k
    induction k with
    | zero =>
      intro i g hi hg H locs ls hP hD hS hl
      have hin : i = n := by omega
      subst hin
      refine lv_iload_n hx hb dJ7_fill_53178_5 rfl (lv_at hl 2 rfl) ?_
      refine lv_iload_n hx hb dJ7_fill_53178_6 rfl (lv_at hl 3 rfl) ?_
      refine lv_icmp_ge (tgt := 20) hx hb dJ7_fill_53178_7 (by decide) (fun hc => ?_) (fun hc => ?_)
      · refine hret H locs ls 20 _ dJ7_fill_53178_20 rfl ?_ ?_ hS
        · intro k q hk
          match k, hk with
          | 0, hk =>
            cases hk
            have h1 := hP 0 _ rfl
            show H[aV]? = some (vp_cell cI (i, .inl (fun _ => v)))
            rw [← q_row_eq (f := g) (g := fun _ => v) hg]
            exact h1
          | k + 1, hk => cases hk
        · refine ⟨fun a b p q ha hb' _ => ?_, fun a q ha => ?_⟩
          · match a, b, ha, hb' with
            | 0, 0, _, _ => rfl
            | 0, b + 1, _, hb' => cases hb'
            | a + 1, _, ha, _ => cases ha
          · match a, ha with
            | 0, ha => cases ha; exact hD.2 0 (aV, .inl (cI, i, .inl g)) rfl
            | a + 1, ha => cases ha
      · exact absurd (Int32.le_refl _) hc
    | succ k ih =>
      intro i g hi hg H locs ls hP hD hS hl
      have hlt : i < n := by omega
      refine lv_iload_n hx hb dJ7_fill_53178_5 rfl (lv_at hl 2 rfl) ?_
      refine lv_iload_n hx hb dJ7_fill_53178_6 rfl (lv_at hl 3 rfl) ?_
      refine lv_icmp_ge (tgt := 20) hx hb dJ7_fill_53178_7 (by decide) (fun hc => ?_) (fun hc => ?_)
      · exact absurd hc (nI_ge hlt hn)
      · refine lv_aload_n hx hb dJ7_fill_53178_10 rfl (lv_at hl 0 rfl) ?_
        refine lv_iload_n hx hb dJ7_fill_53178_11 rfl (lv_at hl 2 rfl) ?_
        refine lv_iload_n hx hb dJ7_fill_53178_12 rfl (lv_at hl 1 rfl) ?_
        refine q_iast hx hb hK hP hD hS 0 0 [(aV, .inl (cI, n, .inl (upd g (nI i).toNatClampNeg v)))] rfl rfl (vp_in_nI hlt hn) rfl dJ7_fill_53178_13 (fun H locs hP hD hS => ?_)
        refine lv_iinc (v := nI (i + 1)) (lv' := [(2, .int (nI (i + 1))), (0, .ref aV), (1, .int v), (3, .int (nI n))]) hx hb dJ7_fill_53178_14 hl (k := 2) rfl (nI_1 i) (by decide) rfl (fun ls hl => ?_)
        refine lv_goto (tgt := 5) hx hb dJ7_fill_53178_17 (by decide) ?_
        refine ih (i + 1) _ (by omega) (fun j hj => ?_) H locs ls hP hD hS (lv_sub hl [1, 2, 0, 3] rfl)
        rw [nI_clamp (by omega)]
        by_cases hj2 : j = i
        · subst hj2; exact pk_us
        · rw [pk_un hj2]; exact hg j (by omega)
  refine lv_iconst (v := 0) hx hb dJ7_fill_53178_0 (by decide) ?_
  refine lv_istore_n (lv' := [(2, .int 0), (0, .ref aV), (1, .int v)]) hx hb dJ7_fill_53178_1 rfl hl (by decide) rfl (fun ls hl => ?_)
  refine lv_aload_n hx hb dJ7_fill_53178_2 rfl (lv_at hl 1 rfl) ?_
  refine va_alen hx hb hK hP 0 0 rfl rfl rfl dJ7_fill_53178_3 ?_
  refine lv_istore_n (lv' := [(3, .int (nI n)), (2, .int 0), (0, .ref aV), (1, .int v)]) hx hb dJ7_fill_53178_4 rfl hl (by decide) rfl (fun ls hl => ?_)
  exact L5 n 0 f (by omega) (fun j hj => by omega) H locs ls hP hD hS (lv_sub hl [2, 3, 1, 0] rfl)
