/-! Written by wip/whole/gen.py: worlds and partial functions of the methods. -/
abbrev iJ6_compare_7cf53 (cI cZ : ClassId) : va_W := []
noncomputable def fJ6_compare_7cf53 (p0 : Int32) (p1 : Int32) : Option (Int32) :=
  if p1 ≤ p0 then (
    if p0 = p1 then (
      some 0
    ) else (
      some 1
    )
  ) else (
    some (-1)
  )
abbrev iX7_hasArrow (aS : Nat → Nat) (cI cZ : ClassId) (R_from : Nat → Int32) : va_W := [((aS 0), .inr (7, [.ref (aS 1), .ref (aS 2), .ref (aS 3), .ref (aS 4), .ref (aS 5), .ref (aS 6)])), ((aS 3), .inl (cI, 24, .inl R_from))]
noncomputable def fX7_hasArrow (R_from : Nat → Int32) (p0 : Int32) : Option (Int32) :=
  if p0 < 0 then (
    some 0
  ) else (
    if 24 ≤ p0 then (
      some 0
    ) else (
      if q_in p0 24 then (
      if (R_from p0.toNatClampNeg) = (-1) then (
        some 0
      ) else (
        some 1
      )
      ) else none
    )
  )
abbrev iX7_arrows (aS : Nat → Nat) (cI cZ : ClassId) (R_from : Nat → Int32) : va_W := [((aS 0), .inr (7, [.ref (aS 1), .ref (aS 2), .ref (aS 3), .ref (aS 4), .ref (aS 5), .ref (aS 6)])), ((aS 3), .inl (cI, 24, .inl R_from))]
noncomputable def jX7_arrows_21 (x1 : Int32) (x2 : Int32) : Option ((Int32 × Int32) ⊕ (Int32)) :=
  some (.inl (x1, (x2 + 1)))
noncomputable def bX7_arrows_4 (R_from : Nat → Int32) (x1 : Int32) (x2 : Int32) : Option ((Int32 × Int32) ⊕ (Int32)) :=
  if 24 ≤ x2 then (
    some (.inr x1)
  ) else (
    Option.bind (fX7_hasArrow R_from x2) (fun q3 =>
    if q3 = 0 then (
      jX7_arrows_21 x1 x2
    ) else (
      jX7_arrows_21 (x1 + 1) x2
    )
    )
  )
noncomputable def fX7_arrows (R_from : Nat → Int32) : Option (Int32) :=
  Option.bind (q_lo (fun (st : Int32 × Int32) => bX7_arrows_4 R_from st.1 st.2) (0, 0)) (fun q1 =>
    some q1)
abbrev iX7_hasBox (aS : Nat → Nat) (cI cZ : ClassId) (R_width : Nat → Int32) : va_W := [((aS 0), .inr (7, [.ref (aS 1), .ref (aS 2), .ref (aS 3), .ref (aS 4), .ref (aS 5), .ref (aS 6)])), ((aS 1), .inl (cI, 16, .inl R_width))]
noncomputable def fX7_hasBox (R_width : Nat → Int32) (p0 : Int32) : Option (Int32) :=
  if p0 < 0 then (
    some 0
  ) else (
    if 16 ≤ p0 then (
      some 0
    ) else (
      if q_in p0 16 then (
      if (R_width p0.toNatClampNeg) ≤ 0 then (
        some 0
      ) else (
        some 1
      )
      ) else none
    )
  )
abbrev iX7_boxes (aS : Nat → Nat) (cI cZ : ClassId) (R_width : Nat → Int32) : va_W := [((aS 0), .inr (7, [.ref (aS 1), .ref (aS 2), .ref (aS 3), .ref (aS 4), .ref (aS 5), .ref (aS 6)])), ((aS 1), .inl (cI, 16, .inl R_width))]
noncomputable def jX7_boxes_21 (x1 : Int32) (x2 : Int32) : Option ((Int32 × Int32) ⊕ (Int32)) :=
  some (.inl (x1, (x2 + 1)))
noncomputable def bX7_boxes_4 (R_width : Nat → Int32) (x1 : Int32) (x2 : Int32) : Option ((Int32 × Int32) ⊕ (Int32)) :=
  if 16 ≤ x2 then (
    some (.inr x1)
  ) else (
    Option.bind (fX7_hasBox R_width x2) (fun q3 =>
    if q3 = 0 then (
      jX7_boxes_21 x1 x2
    ) else (
      jX7_boxes_21 (x1 + 1) x2
    )
    )
  )
noncomputable def fX7_boxes (R_width : Nat → Int32) : Option (Int32) :=
  Option.bind (q_lo (fun (st : Int32 × Int32) => bX7_boxes_4 R_width st.1 st.2) (0, 0)) (fun q1 =>
    some q1)
abbrev iX7_isPinned (aS : Nat → Nat) (cI cZ : ClassId) (R_width : Nat → Int32) (R_pinned : Nat → Int32) : va_W := [((aS 0), .inr (7, [.ref (aS 1), .ref (aS 2), .ref (aS 3), .ref (aS 4), .ref (aS 5), .ref (aS 6)])), ((aS 1), .inl (cI, 16, .inl R_width)), ((aS 2), .inl (cI, 16, .inl R_pinned))]
noncomputable def fX7_isPinned (R_width : Nat → Int32) (R_pinned : Nat → Int32) (p0 : Int32) : Option (Int32) :=
  Option.bind (fX7_hasBox R_width p0) (fun q1 =>
  if q1 = 0 then (
    some 0
  ) else (
    if q_in p0 16 then (
    if (R_pinned p0.toNatClampNeg) = (-1) then (
      some 0
    ) else (
      some 1
    )
    ) else none
  )
  )
abbrev iX7_isTurned (aS : Nat → Nat) (cI cZ : ClassId) (R_from : Nat → Int32) (R_turned : Nat → Int32) : va_W := [((aS 0), .inr (7, [.ref (aS 1), .ref (aS 2), .ref (aS 3), .ref (aS 4), .ref (aS 5), .ref (aS 6)])), ((aS 3), .inl (cI, 24, .inl R_from)), ((aS 5), .inl (cZ, 24, .inl R_turned))]
noncomputable def fX7_isTurned (R_from : Nat → Int32) (R_turned : Nat → Int32) (p0 : Int32) : Option (Int32) :=
  Option.bind (fX7_hasArrow R_from p0) (fun q1 =>
  if q1 = 0 then (
    some 0
  ) else (
    if q_in p0 24 then (
    if (R_turned p0.toNatClampNeg) = 0 then (
      some 0
    ) else (
      some 1
    )
    ) else none
  )
  )
abbrev iX7_reaches (aS : Nat → Nat) (cI cZ : ClassId) (R_width : Nat → Int32) (R_reach : Nat → Int32) : va_W := [((aS 0), .inr (7, [.ref (aS 1), .ref (aS 2), .ref (aS 3), .ref (aS 4), .ref (aS 5), .ref (aS 6)])), ((aS 1), .inl (cI, 16, .inl R_width)), ((aS 6), .inl (cI, 16, .inl R_reach))]
noncomputable def fX7_reaches (R_width : Nat → Int32) (R_reach : Nat → Int32) (p0 : Int32) (p1 : Int32) : Option (Int32) :=
  Option.bind (fX7_hasBox R_width p0) (fun q1 =>
  if q1 = 0 then (
    some 0
  ) else (
    if q_in p0 16 then (
    if (((R_reach p0.toNatClampNeg) >>> (p1 &&& 31)) &&& 1) = 0 then (
      some 0
    ) else (
      some 1
    )
    ) else none
  )
  )
abbrev iX7_keepArrow (aS : Nat → Nat) (cI cZ : ClassId) (R_width : Nat → Int32) (R_reach : Nat → Int32) : va_W := [((aS 0), .inr (7, [.ref (aS 1), .ref (aS 2), .ref (aS 3), .ref (aS 4), .ref (aS 5), .ref (aS 6)])), ((aS 1), .inl (cI, 16, .inl R_width)), ((aS 6), .inl (cI, 16, .inl R_reach))]
noncomputable def jX7_keepArrow_57 (R_reach : Nat → Int32) (x1 : Int32) (x3 : Int32) (x4 : Int32) : Option ((Int32 × (Nat → Int32)) ⊕ ((Nat → Int32))) :=
  some (.inl ((x4 + 1), R_reach))
noncomputable def jX7_keepArrow_46 (R_reach : Nat → Int32) (x1 : Int32) (x3 : Int32) (x4 : Int32) : Option ((Int32 × (Nat → Int32)) ⊕ ((Nat → Int32))) :=
  if q_in x4 16 then (
  if q_in x4 16 then (
  jX7_keepArrow_57 (upd R_reach x4.toNatClampNeg ((R_reach x4.toNatClampNeg) ||| x3)) x1 x3 x4
  ) else none
  ) else none
noncomputable def bX7_keepArrow_23 (R_width : Nat → Int32) (x1 : Int32) (x3 : Int32) (x4 : Int32) (R_reach : Nat → Int32) : Option ((Int32 × (Nat → Int32)) ⊕ ((Nat → Int32))) :=
  if 16 ≤ x4 then (
    some (.inr R_reach)
  ) else (
    if x4 = x1 then (
      jX7_keepArrow_46 R_reach x1 x3 x4
    ) else (
      Option.bind (fX7_reaches R_width R_reach x4 x1) (fun q9 =>
      if q9 = 0 then (
        jX7_keepArrow_57 R_reach x1 x3 x4
      ) else (
        jX7_keepArrow_46 R_reach x1 x3 x4
      )
      )
    )
  )
noncomputable def fX7_keepArrow (R_width : Nat → Int32) (R_reach : Nat → Int32) (p0 : Int32) (p1 : Int32) : Option ((Nat → Int32)) :=
  Option.bind (fX7_hasBox R_width p1) (fun q1 =>
  if q1 = 0 then (
    some R_reach
  ) else (
    if q_in p1 16 then (
    q_let ((R_reach p1.toNatClampNeg) ||| ((1 : Int32) <<< (p1 &&& 31))) (fun v3 =>
    Option.bind (q_lo (fun (st : Int32 × (Nat → Int32)) => bX7_keepArrow_23 R_width p0 v3 st.1 st.2) (0, R_reach)) (fun q4 =>
      some q4)
    )
    ) else none
  )
  )
abbrev iX7_lowerBox (aS : Nat → Nat) (cI cZ : ClassId) (R_from : Nat → Int32) (R_to : Nat → Int32) (R_turned : Nat → Int32) : va_W := [((aS 0), .inr (7, [.ref (aS 1), .ref (aS 2), .ref (aS 3), .ref (aS 4), .ref (aS 5), .ref (aS 6)])), ((aS 3), .inl (cI, 24, .inl R_from)), ((aS 4), .inl (cI, 24, .inl R_to)), ((aS 5), .inl (cZ, 24, .inl R_turned))]
noncomputable def fX7_lowerBox (R_from : Nat → Int32) (R_to : Nat → Int32) (R_turned : Nat → Int32) (p0 : Int32) : Option (Int32) :=
  Option.bind (fX7_hasArrow R_from p0) (fun q1 =>
  if q1 = 0 then (
    some (-1)
  ) else (
    if q_in p0 24 then (
    if (R_turned p0.toNatClampNeg) = 0 then (
      if q_in p0 24 then (
      some (R_to p0.toNatClampNeg)
      ) else none
    ) else (
      if q_in p0 24 then (
      some (R_from p0.toNatClampNeg)
      ) else none
    )
    ) else none
  )
  )
abbrev iX7_pinBox (aS : Nat → Nat) (cI cZ : ClassId) (R_width : Nat → Int32) (R_pinned : Nat → Int32) : va_W := [((aS 0), .inr (7, [.ref (aS 1), .ref (aS 2), .ref (aS 3), .ref (aS 4), .ref (aS 5), .ref (aS 6)])), ((aS 1), .inl (cI, 16, .inl R_width)), ((aS 2), .inl (cI, 16, .inl R_pinned))]
noncomputable def fX7_pinBox (R_width : Nat → Int32) (R_pinned : Nat → Int32) (p0 : Int32) (p1 : Int32) : Option ((Nat → Int32)) :=
  Option.bind (fX7_hasBox R_width p0) (fun q1 =>
  if q1 = 0 then (
    some R_pinned
  ) else (
    if q_in p0 16 then (
    some (upd R_pinned p0.toNatClampNeg p1)
    ) else none
  )
  )
abbrev iX7_pinOf (aS : Nat → Nat) (cI cZ : ClassId) (R_width : Nat → Int32) (R_pinned : Nat → Int32) : va_W := [((aS 0), .inr (7, [.ref (aS 1), .ref (aS 2), .ref (aS 3), .ref (aS 4), .ref (aS 5), .ref (aS 6)])), ((aS 1), .inl (cI, 16, .inl R_width)), ((aS 2), .inl (cI, 16, .inl R_pinned))]
noncomputable def fX7_pinOf (R_width : Nat → Int32) (R_pinned : Nat → Int32) (p0 : Int32) : Option (Int32) :=
  Option.bind (fX7_hasBox R_width p0) (fun q1 =>
  if q1 = 0 then (
    some (-1)
  ) else (
    if q_in p0 16 then (
    some (R_pinned p0.toNatClampNeg)
    ) else none
  )
  )
abbrev iX7_turnArrows (aS : Nat → Nat) (cI cZ : ClassId) (R_width : Nat → Int32) (R_from : Nat → Int32) (R_to : Nat → Int32) (R_turned : Nat → Int32) (R_reach : Nat → Int32) : va_W := [((aS 0), .inr (7, [.ref (aS 1), .ref (aS 2), .ref (aS 3), .ref (aS 4), .ref (aS 5), .ref (aS 6)])), ((aS 1), .inl (cI, 16, .inl R_width)), ((aS 3), .inl (cI, 24, .inl R_from)), ((aS 4), .inl (cI, 24, .inl R_to)), ((aS 5), .inl (cZ, 24, .inl R_turned)), ((aS 6), .inl (cI, 16, .inl R_reach))]
noncomputable def jX7_turnArrows_87 (R_turned : Nat → Int32) (R_reach : Nat → Int32) (x1 : Int32) : Option ((Int32 × (Nat → Int32) × (Nat → Int32)) ⊕ ((Nat → Int32) × (Nat → Int32))) :=
  some (.inl ((x1 + 1), R_turned, R_reach))
noncomputable def jX7_turnArrows_53 (R_width : Nat → Int32) (R_from : Nat → Int32) (R_to : Nat → Int32) (R_turned : Nat → Int32) (R_reach : Nat → Int32) (x1 : Int32) (s0 : Int32) (s1 : Int32) : Option ((Int32 × (Nat → Int32) × (Nat → Int32)) ⊕ ((Nat → Int32) × (Nat → Int32))) :=
  if q_in s1 24 then (
  if q_tf s0 then (
  Option.bind (fX7_hasArrow R_from x1) (fun q6 =>
  if q6 = 0 then (
    jX7_turnArrows_87 (upd R_turned s1.toNatClampNeg s0) R_reach x1
  ) else (
    if q_in x1 24 then (
    if ((upd R_turned s1.toNatClampNeg s0) x1.toNatClampNeg) = 0 then (
      if q_in x1 24 then (
      if q_in x1 24 then (
      Option.bind (fX7_keepArrow R_width R_reach (R_from x1.toNatClampNeg) (R_to x1.toNatClampNeg)) (fun q10 =>
      jX7_turnArrows_87 (upd R_turned s1.toNatClampNeg s0) q10 x1
      )
      ) else none
      ) else none
    ) else (
      jX7_turnArrows_87 (upd R_turned s1.toNatClampNeg s0) R_reach x1
    )
    ) else none
  )
  )
  ) else none
  ) else none
noncomputable def jX7_turnArrows_52 (R_width : Nat → Int32) (R_from : Nat → Int32) (R_to : Nat → Int32) (R_turned : Nat → Int32) (R_reach : Nat → Int32) (x1 : Int32) (s0 : Int32) : Option ((Int32 × (Nat → Int32) × (Nat → Int32)) ⊕ ((Nat → Int32) × (Nat → Int32))) :=
  jX7_turnArrows_53 R_width R_from R_to R_turned R_reach x1 0 s0
noncomputable def bX7_turnArrows_10 (R_width : Nat → Int32) (R_from : Nat → Int32) (R_to : Nat → Int32) (x1 : Int32) (R_turned : Nat → Int32) (R_reach : Nat → Int32) : Option ((Int32 × (Nat → Int32) × (Nat → Int32)) ⊕ ((Nat → Int32) × (Nat → Int32))) :=
  if 24 ≤ x1 then (
    some (.inr (R_turned, R_reach))
  ) else (
    Option.bind (fX7_hasArrow R_from x1) (fun q12 =>
    if q12 = 0 then (
      jX7_turnArrows_52 R_width R_from R_to R_turned R_reach x1 x1
    ) else (
      if q_in x1 24 then (
      if q_in x1 24 then (
      Option.bind (fX7_reaches R_width R_reach (R_to x1.toNatClampNeg) (R_from x1.toNatClampNeg)) (fun q15 =>
      if q15 = 0 then (
        jX7_turnArrows_52 R_width R_from R_to R_turned R_reach x1 x1
      ) else (
        jX7_turnArrows_53 R_width R_from R_to R_turned R_reach x1 1 x1
      )
      )
      ) else none
      ) else none
    )
    )
  )
noncomputable def fX7_turnArrows (R_width : Nat → Int32) (R_from : Nat → Int32) (R_to : Nat → Int32) (R_turned : Nat → Int32) : Option ((Nat → Int32) × (Nat → Int32)) :=
  q_b2 (q_lo (fun (st : Int32 × (Nat → Int32) × (Nat → Int32)) => bX7_turnArrows_10 R_width R_from R_to st.1 st.2.1 st.2.2) (0, R_turned, (fun _ => 0))) (fun q1_0 q1_1 =>
    some (q1_0, q1_1))
abbrev iX7_putArrow (aS : Nat → Nat) (cI cZ : ClassId) (R_width : Nat → Int32) (R_from : Nat → Int32) (R_to : Nat → Int32) (R_turned : Nat → Int32) (R_reach : Nat → Int32) : va_W := [((aS 0), .inr (7, [.ref (aS 1), .ref (aS 2), .ref (aS 3), .ref (aS 4), .ref (aS 5), .ref (aS 6)])), ((aS 1), .inl (cI, 16, .inl R_width)), ((aS 3), .inl (cI, 24, .inl R_from)), ((aS 4), .inl (cI, 24, .inl R_to)), ((aS 5), .inl (cZ, 24, .inl R_turned)), ((aS 6), .inl (cI, 16, .inl R_reach))]
noncomputable def fX7_putArrow (R_width : Nat → Int32) (R_from : Nat → Int32) (R_to : Nat → Int32) (R_turned : Nat → Int32) (R_reach : Nat → Int32) (p0 : Int32) (p1 : Int32) (p2 : Int32) : Option ((Nat → Int32) × (Nat → Int32) × (Nat → Int32) × (Nat → Int32)) :=
  if p0 < 0 then (
    some (R_from, R_to, R_turned, R_reach)
  ) else (
    if 24 ≤ p0 then (
      some (R_from, R_to, R_turned, R_reach)
    ) else (
      Option.bind (fX7_hasBox R_width p1) (fun q1 =>
      if q1 = 0 then (
        some (R_from, R_to, R_turned, R_reach)
      ) else (
        Option.bind (fX7_hasBox R_width p2) (fun q2 =>
        if q2 = 0 then (
          some (R_from, R_to, R_turned, R_reach)
        ) else (
          if q_in p0 24 then (
          if q_in p0 24 then (
          q_b2 (fX7_turnArrows R_width (upd R_from p0.toNatClampNeg p1) (upd R_to p0.toNatClampNeg p2) R_turned) (fun q5_0 q5_1 =>
          some ((upd R_from p0.toNatClampNeg p1), (upd R_to p0.toNatClampNeg p2), q5_0, q5_1)
          )
          ) else none
          ) else none
        )
        )
      )
      )
    )
  )
abbrev iX7_putBox (aS : Nat → Nat) (cI cZ : ClassId) (R_width : Nat → Int32) : va_W := [((aS 0), .inr (7, [.ref (aS 1), .ref (aS 2), .ref (aS 3), .ref (aS 4), .ref (aS 5), .ref (aS 6)])), ((aS 1), .inl (cI, 16, .inl R_width))]
noncomputable def fX7_putBox (R_width : Nat → Int32) (p0 : Int32) (p1 : Int32) : Option ((Nat → Int32)) :=
  if p0 < 0 then (
    some R_width
  ) else (
    if 16 ≤ p0 then (
      some R_width
    ) else (
      if q_in p0 16 then (
      some (upd R_width p0.toNatClampNeg p1)
      ) else none
    )
  )
abbrev iX7_takeArrow (aS : Nat → Nat) (cI cZ : ClassId) (R_width : Nat → Int32) (R_from : Nat → Int32) (R_to : Nat → Int32) (R_turned : Nat → Int32) (R_reach : Nat → Int32) : va_W := [((aS 0), .inr (7, [.ref (aS 1), .ref (aS 2), .ref (aS 3), .ref (aS 4), .ref (aS 5), .ref (aS 6)])), ((aS 1), .inl (cI, 16, .inl R_width)), ((aS 3), .inl (cI, 24, .inl R_from)), ((aS 4), .inl (cI, 24, .inl R_to)), ((aS 5), .inl (cZ, 24, .inl R_turned)), ((aS 6), .inl (cI, 16, .inl R_reach))]
noncomputable def fX7_takeArrow (R_width : Nat → Int32) (R_from : Nat → Int32) (R_to : Nat → Int32) (R_turned : Nat → Int32) (R_reach : Nat → Int32) (p0 : Int32) : Option ((Nat → Int32) × (Nat → Int32) × (Nat → Int32) × (Nat → Int32)) :=
  Option.bind (fX7_hasArrow R_from p0) (fun q1 =>
  if q1 = 0 then (
    some (R_from, R_to, R_turned, R_reach)
  ) else (
    if q_in p0 24 then (
    if q_in p0 24 then (
    q_b2 (fX7_turnArrows R_width (upd R_from p0.toNatClampNeg (-1)) (upd R_to p0.toNatClampNeg (-1)) R_turned) (fun q4_0 q4_1 =>
    some ((upd R_from p0.toNatClampNeg (-1)), (upd R_to p0.toNatClampNeg (-1)), q4_0, q4_1)
    )
    ) else none
    ) else none
  )
  )
abbrev iX7_takeBox (aS : Nat → Nat) (cI cZ : ClassId) (R_width : Nat → Int32) (R_pinned : Nat → Int32) (R_from : Nat → Int32) (R_to : Nat → Int32) (R_turned : Nat → Int32) (R_reach : Nat → Int32) : va_W := [((aS 0), .inr (7, [.ref (aS 1), .ref (aS 2), .ref (aS 3), .ref (aS 4), .ref (aS 5), .ref (aS 6)])), ((aS 1), .inl (cI, 16, .inl R_width)), ((aS 2), .inl (cI, 16, .inl R_pinned)), ((aS 3), .inl (cI, 24, .inl R_from)), ((aS 4), .inl (cI, 24, .inl R_to)), ((aS 5), .inl (cZ, 24, .inl R_turned)), ((aS 6), .inl (cI, 16, .inl R_reach))]
noncomputable def jX7_takeBox_65 (R_from : Nat → Int32) (R_to : Nat → Int32) (x1 : Int32) (x2 : Int32) : Option ((Int32 × (Nat → Int32) × (Nat → Int32)) ⊕ ((Nat → Int32) × (Nat → Int32))) :=
  some (.inl ((x2 + 1), R_from, R_to))
noncomputable def jX7_takeBox_51 (R_from : Nat → Int32) (R_to : Nat → Int32) (x1 : Int32) (x2 : Int32) : Option ((Int32 × (Nat → Int32) × (Nat → Int32)) ⊕ ((Nat → Int32) × (Nat → Int32))) :=
  if q_in x2 24 then (
  if q_in x2 24 then (
  jX7_takeBox_65 (upd R_from x2.toNatClampNeg (-1)) (upd R_to x2.toNatClampNeg (-1)) x1 x2
  ) else none
  ) else none
noncomputable def bX7_takeBox_25 (x1 : Int32) (x2 : Int32) (R_from : Nat → Int32) (R_to : Nat → Int32) : Option ((Int32 × (Nat → Int32) × (Nat → Int32)) ⊕ ((Nat → Int32) × (Nat → Int32))) :=
  if 24 ≤ x2 then (
    some (.inr (R_from, R_to))
  ) else (
    if q_in x2 24 then (
    if (R_from x2.toNatClampNeg) = x1 then (
      jX7_takeBox_51 R_from R_to x1 x2
    ) else (
      if q_in x2 24 then (
      if (R_to x2.toNatClampNeg) = x1 then (
        jX7_takeBox_51 R_from R_to x1 x2
      ) else (
        jX7_takeBox_65 R_from R_to x1 x2
      )
      ) else none
    )
    ) else none
  )
noncomputable def fX7_takeBox (R_width : Nat → Int32) (R_pinned : Nat → Int32) (R_from : Nat → Int32) (R_to : Nat → Int32) (R_turned : Nat → Int32) (R_reach : Nat → Int32) (p0 : Int32) : Option ((Nat → Int32) × (Nat → Int32) × (Nat → Int32) × (Nat → Int32) × (Nat → Int32) × (Nat → Int32)) :=
  Option.bind (fX7_hasBox R_width p0) (fun q1 =>
  if q1 = 0 then (
    some (R_width, R_pinned, R_from, R_to, R_turned, R_reach)
  ) else (
    if q_in p0 16 then (
    if q_in p0 16 then (
    q_b2 (q_lo (fun (st : Int32 × (Nat → Int32) × (Nat → Int32)) => bX7_takeBox_25 p0 st.1 st.2.1 st.2.2) (0, R_from, R_to)) (fun q4_0 q4_1 =>
      q_b2 (fX7_turnArrows (upd R_width p0.toNatClampNeg 0) q4_0 q4_1 R_turned) (fun q11_0 q11_1 =>
      some ((upd R_width p0.toNatClampNeg 0), (upd R_pinned p0.toNatClampNeg (-1)), q4_0, q4_1, q11_0, q11_1)
      ))
    ) else none
    ) else none
  )
  )
abbrev iX7_turnedArrows (aS : Nat → Nat) (cI cZ : ClassId) (R_from : Nat → Int32) (R_turned : Nat → Int32) : va_W := [((aS 0), .inr (7, [.ref (aS 1), .ref (aS 2), .ref (aS 3), .ref (aS 4), .ref (aS 5), .ref (aS 6)])), ((aS 3), .inl (cI, 24, .inl R_from)), ((aS 5), .inl (cZ, 24, .inl R_turned))]
noncomputable def jX7_turnedArrows_21 (x1 : Int32) (x2 : Int32) : Option ((Int32 × Int32) ⊕ (Int32)) :=
  some (.inl (x1, (x2 + 1)))
noncomputable def bX7_turnedArrows_4 (R_from : Nat → Int32) (R_turned : Nat → Int32) (x1 : Int32) (x2 : Int32) : Option ((Int32 × Int32) ⊕ (Int32)) :=
  if 24 ≤ x2 then (
    some (.inr x1)
  ) else (
    Option.bind (fX7_isTurned R_from R_turned x2) (fun q3 =>
    if q3 = 0 then (
      jX7_turnedArrows_21 x1 x2
    ) else (
      jX7_turnedArrows_21 (x1 + 1) x2
    )
    )
  )
noncomputable def fX7_turnedArrows (R_from : Nat → Int32) (R_turned : Nat → Int32) : Option (Int32) :=
  Option.bind (q_lo (fun (st : Int32 × Int32) => bX7_turnedArrows_4 R_from R_turned st.1 st.2) (0, 0)) (fun q1 =>
    some q1)
abbrev iX7_upperBox (aS : Nat → Nat) (cI cZ : ClassId) (R_from : Nat → Int32) (R_to : Nat → Int32) (R_turned : Nat → Int32) : va_W := [((aS 0), .inr (7, [.ref (aS 1), .ref (aS 2), .ref (aS 3), .ref (aS 4), .ref (aS 5), .ref (aS 6)])), ((aS 3), .inl (cI, 24, .inl R_from)), ((aS 4), .inl (cI, 24, .inl R_to)), ((aS 5), .inl (cZ, 24, .inl R_turned))]
noncomputable def fX7_upperBox (R_from : Nat → Int32) (R_to : Nat → Int32) (R_turned : Nat → Int32) (p0 : Int32) : Option (Int32) :=
  Option.bind (fX7_hasArrow R_from p0) (fun q1 =>
  if q1 = 0 then (
    some (-1)
  ) else (
    if q_in p0 24 then (
    if (R_turned p0.toNatClampNeg) = 0 then (
      if q_in p0 24 then (
      some (R_from p0.toNatClampNeg)
      ) else none
    ) else (
      if q_in p0 24 then (
      some (R_to p0.toNatClampNeg)
      ) else none
    )
    ) else none
  )
  )
abbrev iX7_widthOf (aS : Nat → Nat) (cI cZ : ClassId) (R_width : Nat → Int32) : va_W := [((aS 0), .inr (7, [.ref (aS 1), .ref (aS 2), .ref (aS 3), .ref (aS 4), .ref (aS 5), .ref (aS 6)])), ((aS 1), .inl (cI, 16, .inl R_width))]
noncomputable def fX7_widthOf (R_width : Nat → Int32) (p0 : Int32) : Option (Int32) :=
  Option.bind (fX7_hasBox R_width p0) (fun q1 =>
  if q1 = 0 then (
    some 1
  ) else (
    if q_in p0 16 then (
    some (R_width p0.toNatClampNeg)
    ) else none
  )
  )
abbrev iX3_bottom (aS : Nat → Nat) (cI cZ : ClassId) (L_bottoms : Nat → Int32) (L_layers : Int32) : va_W := [((aS 7), .inr (3, [.ref (aS 0), .ref (aS 8), .ref (aS 9), .ref (aS 10), .int L_layers])), ((aS 10), .inl (cI, 24, .inl L_bottoms))]
noncomputable def fX3_bottom (L_bottoms : Nat → Int32) (p0 : Int32) : Option (Int32) :=
  if p0 < 0 then (
    some (-1)
  ) else (
    if 24 ≤ p0 then (
      some (-1)
    ) else (
      if q_in p0 24 then (
      some (L_bottoms p0.toNatClampNeg)
      ) else none
    )
  )
abbrev iX3_countLayers (aS : Nat → Nat) (cI cZ : ClassId) (L_layer : Nat → Int32) (L_layers : Int32) : va_W := [((aS 7), .inr (3, [.ref (aS 0), .ref (aS 8), .ref (aS 9), .ref (aS 10), .int L_layers])), ((aS 8), .inl (cI, 16, .inl L_layer))]
noncomputable def bX3_countLayers_7 (L_layer : Nat → Int32) (x1 : Int32) (L_layers : Int32) : Option ((Int32 × Int32) ⊕ (Int32)) :=
  if 16 ≤ x1 then (
    some (.inr L_layers)
  ) else (
    if q_in x1 16 then (
    some (.inl ((x1 + 1), (if L_layers < ((L_layer x1.toNatClampNeg) + 1) then ((L_layer x1.toNatClampNeg) + 1) else L_layers)))
    ) else none
  )
noncomputable def fX3_countLayers (L_layer : Nat → Int32) : Option (Int32) :=
  Option.bind (q_lo (fun (st : Int32 × Int32) => bX3_countLayers_7 L_layer st.1 st.2) (0, 0)) (fun q1 =>
    some q1)
abbrev iX3_top (aS : Nat → Nat) (cI cZ : ClassId) (L_tops : Nat → Int32) (L_layers : Int32) : va_W := [((aS 7), .inr (3, [.ref (aS 0), .ref (aS 8), .ref (aS 9), .ref (aS 10), .int L_layers])), ((aS 9), .inl (cI, 24, .inl L_tops))]
noncomputable def fX3_top (L_tops : Nat → Int32) (p0 : Int32) : Option (Int32) :=
  if p0 < 0 then (
    some (-1)
  ) else (
    if 24 ≤ p0 then (
      some (-1)
    ) else (
      if q_in p0 24 then (
      some (L_tops p0.toNatClampNeg)
      ) else none
    )
  )
abbrev iX3_hasPiece (aS : Nat → Nat) (cI cZ : ClassId) (L_tops : Nat → Int32) (L_bottoms : Nat → Int32) (L_layers : Int32) : va_W := [((aS 7), .inr (3, [.ref (aS 0), .ref (aS 8), .ref (aS 9), .ref (aS 10), .int L_layers])), ((aS 9), .inl (cI, 24, .inl L_tops)), ((aS 10), .inl (cI, 24, .inl L_bottoms))]
noncomputable def fX3_hasPiece (L_tops : Nat → Int32) (L_bottoms : Nat → Int32) (p0 : Int32) (p1 : Int32) : Option (Int32) :=
  Option.bind (fX3_top L_tops p0) (fun q1 =>
  if p1 < q1 then (
    some 0
  ) else (
    Option.bind (fX3_bottom L_bottoms p0) (fun q2 =>
    if q2 ≤ p1 then (
      some 0
    ) else (
      some 1
    )
    )
  )
  )
abbrev iX3_layerOf (aS : Nat → Nat) (cI cZ : ClassId) (L_layer : Nat → Int32) (L_layers : Int32) : va_W := [((aS 7), .inr (3, [.ref (aS 0), .ref (aS 8), .ref (aS 9), .ref (aS 10), .int L_layers])), ((aS 8), .inl (cI, 16, .inl L_layer))]
noncomputable def fX3_layerOf (L_layer : Nat → Int32) (p0 : Int32) : Option (Int32) :=
  if p0 < 0 then (
    some (-1)
  ) else (
    if 16 ≤ p0 then (
      some (-1)
    ) else (
      if q_in p0 16 then (
      some (L_layer p0.toNatClampNeg)
      ) else none
    )
  )
abbrev iX3_holds (aS : Nat → Nat) (cI cZ : ClassId) (R_width : Nat → Int32) (L_layer : Nat → Int32) (L_tops : Nat → Int32) (L_bottoms : Nat → Int32) (L_layers : Int32) : va_W := [((aS 7), .inr (3, [.ref (aS 0), .ref (aS 8), .ref (aS 9), .ref (aS 10), .int L_layers])), ((aS 0), .inr (7, [.ref (aS 1), .ref (aS 2), .ref (aS 3), .ref (aS 4), .ref (aS 5), .ref (aS 6)])), ((aS 1), .inl (cI, 16, .inl R_width)), ((aS 8), .inl (cI, 16, .inl L_layer)), ((aS 9), .inl (cI, 24, .inl L_tops)), ((aS 10), .inl (cI, 24, .inl L_bottoms))]
noncomputable def fX3_holds (R_width : Nat → Int32) (L_layer : Nat → Int32) (L_tops : Nat → Int32) (L_bottoms : Nat → Int32) (p0 : Int32) (p1 : Int32) : Option (Int32) :=
  if 16 ≤ p1 then (
    Option.bind (fX3_top L_tops (p1 - 16)) (fun q1 =>
    if p0 ≤ q1 then (
      some 0
    ) else (
      Option.bind (fX3_bottom L_bottoms (p1 - 16)) (fun q2 =>
      if q2 ≤ p0 then (
        some 0
      ) else (
        some 1
      )
      )
    )
    )
  ) else (
    Option.bind (fX7_hasBox R_width p1) (fun q3 =>
    if q3 = 0 then (
      some 0
    ) else (
      Option.bind (fX3_layerOf L_layer p1) (fun q4 =>
      if q4 = p0 then (
        some 1
      ) else (
        some 0
      )
      )
    )
    )
  )
abbrev iX3_itemOf (aS : Nat → Nat) (cI cZ : ClassId) (R_from : Nat → Int32) (R_to : Nat → Int32) (R_turned : Nat → Int32) (L_tops : Nat → Int32) (L_bottoms : Nat → Int32) (L_layers : Int32) : va_W := [((aS 7), .inr (3, [.ref (aS 0), .ref (aS 8), .ref (aS 9), .ref (aS 10), .int L_layers])), ((aS 0), .inr (7, [.ref (aS 1), .ref (aS 2), .ref (aS 3), .ref (aS 4), .ref (aS 5), .ref (aS 6)])), ((aS 3), .inl (cI, 24, .inl R_from)), ((aS 4), .inl (cI, 24, .inl R_to)), ((aS 5), .inl (cZ, 24, .inl R_turned)), ((aS 9), .inl (cI, 24, .inl L_tops)), ((aS 10), .inl (cI, 24, .inl L_bottoms))]
noncomputable def fX3_itemOf (R_from : Nat → Int32) (R_to : Nat → Int32) (R_turned : Nat → Int32) (L_tops : Nat → Int32) (L_bottoms : Nat → Int32) (p0 : Int32) (p1 : Int32) : Option (Int32) :=
  Option.bind (fX3_top L_tops p0) (fun q1 =>
  if p1 = q1 then (
    Option.bind (fX7_upperBox R_from R_to R_turned p0) (fun q4 =>
    some q4
    )
  ) else (
    Option.bind (fX3_bottom L_bottoms p0) (fun q2 =>
    if p1 = q2 then (
      Option.bind (fX7_lowerBox R_from R_to R_turned p0) (fun q3 =>
      some q3
      )
    ) else (
      some (16 + p0)
    )
    )
  )
  )
abbrev iX3_layers (aS : Nat → Nat) (cI cZ : ClassId) (L_layers : Int32) : va_W := [((aS 7), .inr (3, [.ref (aS 0), .ref (aS 8), .ref (aS 9), .ref (aS 10), .int L_layers]))]
noncomputable def fX3_layers (L_layers : Int32) : Option (Int32) :=
  some L_layers
abbrev iX3_lift (aS : Nat → Nat) (cI cZ : ClassId) (R_width : Nat → Int32) (R_pinned : Nat → Int32) (L_layer : Nat → Int32) (L_layers : Int32) : va_W := [((aS 7), .inr (3, [.ref (aS 0), .ref (aS 8), .ref (aS 9), .ref (aS 10), .int L_layers])), ((aS 0), .inr (7, [.ref (aS 1), .ref (aS 2), .ref (aS 3), .ref (aS 4), .ref (aS 5), .ref (aS 6)])), ((aS 1), .inl (cI, 16, .inl R_width)), ((aS 2), .inl (cI, 16, .inl R_pinned)), ((aS 8), .inl (cI, 16, .inl L_layer))]
noncomputable def jX3_lift_53 (L_layer : Nat → Int32) (x1 : Int32) (s0 : Int32) (s1 : Int32) : Option ((Int32 × (Nat → Int32)) ⊕ ((Nat → Int32))) :=
  if q_in s1 16 then (
  some (.inl ((x1 + 1), (upd L_layer s1.toNatClampNeg s0)))
  ) else none
noncomputable def jX3_lift_24 (R_width : Nat → Int32) (R_pinned : Nat → Int32) (L_layer : Nat → Int32) (x1 : Int32) (s0 : Int32) : Option ((Int32 × (Nat → Int32)) ⊕ ((Nat → Int32))) :=
  Option.bind (fX7_isPinned R_width R_pinned x1) (fun q5 =>
  if q5 = 0 then (
    jX3_lift_53 L_layer x1 s0 x1
  ) else (
    Option.bind (fX7_pinOf R_width R_pinned x1) (fun q6 =>
    jX3_lift_53 L_layer x1 q6 x1
    )
  )
  )
noncomputable def bX3_lift_2 (R_width : Nat → Int32) (R_pinned : Nat → Int32) (x1 : Int32) (L_layer : Nat → Int32) : Option ((Int32 × (Nat → Int32)) ⊕ ((Nat → Int32))) :=
  if 16 ≤ x1 then (
    some (.inr L_layer)
  ) else (
    Option.bind (fX7_hasBox R_width x1) (fun q7 =>
    if q7 = 0 then (
      jX3_lift_24 R_width R_pinned L_layer x1 (-1)
    ) else (
      jX3_lift_24 R_width R_pinned L_layer x1 0
    )
    )
  )
noncomputable def fX3_lift (R_width : Nat → Int32) (R_pinned : Nat → Int32) (L_layer : Nat → Int32) : Option ((Nat → Int32)) :=
  Option.bind (q_lo (fun (st : Int32 × (Nat → Int32)) => bX3_lift_2 R_width R_pinned st.1 st.2) (0, L_layer)) (fun q1 =>
    some q1)
abbrev iX3_markEnds (aS : Nat → Nat) (cI cZ : ClassId) (R_from : Nat → Int32) (R_to : Nat → Int32) (R_turned : Nat → Int32) (L_layer : Nat → Int32) (L_tops : Nat → Int32) (L_bottoms : Nat → Int32) (L_layers : Int32) : va_W := [((aS 7), .inr (3, [.ref (aS 0), .ref (aS 8), .ref (aS 9), .ref (aS 10), .int L_layers])), ((aS 0), .inr (7, [.ref (aS 1), .ref (aS 2), .ref (aS 3), .ref (aS 4), .ref (aS 5), .ref (aS 6)])), ((aS 3), .inl (cI, 24, .inl R_from)), ((aS 4), .inl (cI, 24, .inl R_to)), ((aS 5), .inl (cZ, 24, .inl R_turned)), ((aS 8), .inl (cI, 16, .inl L_layer)), ((aS 9), .inl (cI, 24, .inl L_tops)), ((aS 10), .inl (cI, 24, .inl L_bottoms))]
noncomputable def bX3_markEnds_2 (R_from : Nat → Int32) (R_to : Nat → Int32) (R_turned : Nat → Int32) (L_layer : Nat → Int32) (x1 : Int32) (L_tops : Nat → Int32) (L_bottoms : Nat → Int32) : Option ((Int32 × (Nat → Int32) × (Nat → Int32)) ⊕ ((Nat → Int32) × (Nat → Int32))) :=
  if 24 ≤ x1 then (
    some (.inr (L_tops, L_bottoms))
  ) else (
    Option.bind (fX7_upperBox R_from R_to R_turned x1) (fun q2 =>
    Option.bind (fX3_layerOf L_layer q2) (fun q3 =>
    if q_in x1 24 then (
    Option.bind (fX7_lowerBox R_from R_to R_turned x1) (fun q5 =>
    Option.bind (fX3_layerOf L_layer q5) (fun q6 =>
    if q_in x1 24 then (
    some (.inl ((x1 + 1), (upd L_tops x1.toNatClampNeg q3), (upd L_bottoms x1.toNatClampNeg q6)))
    ) else none
    )
    )
    ) else none
    )
    )
  )
noncomputable def fX3_markEnds (R_from : Nat → Int32) (R_to : Nat → Int32) (R_turned : Nat → Int32) (L_layer : Nat → Int32) (L_tops : Nat → Int32) (L_bottoms : Nat → Int32) : Option ((Nat → Int32) × (Nat → Int32)) :=
  q_b2 (q_lo (fun (st : Int32 × (Nat → Int32) × (Nat → Int32)) => bX3_markEnds_2 R_from R_to R_turned L_layer st.1 st.2.1 st.2.2) (0, L_tops, L_bottoms)) (fun q1_0 q1_1 =>
    some (q1_0, q1_1))
abbrev iX3_pinsAgree (aS : Nat → Nat) (cI cZ : ClassId) (R_from : Nat → Int32) (L_tops : Nat → Int32) (L_bottoms : Nat → Int32) (L_layers : Int32) : va_W := [((aS 7), .inr (3, [.ref (aS 0), .ref (aS 8), .ref (aS 9), .ref (aS 10), .int L_layers])), ((aS 0), .inr (7, [.ref (aS 1), .ref (aS 2), .ref (aS 3), .ref (aS 4), .ref (aS 5), .ref (aS 6)])), ((aS 3), .inl (cI, 24, .inl R_from)), ((aS 9), .inl (cI, 24, .inl L_tops)), ((aS 10), .inl (cI, 24, .inl L_bottoms))]
noncomputable def jX3_pinsAgree_34 (x1 : Int32) : Option ((Int32) ⊕ ((Unit) ⊕ (Unit))) :=
  some (.inl (x1 + 1))
noncomputable def bX3_pinsAgree_2 (R_from : Nat → Int32) (L_tops : Nat → Int32) (L_bottoms : Nat → Int32) (x1 : Int32) : Option ((Int32) ⊕ ((Unit) ⊕ (Unit))) :=
  if 24 ≤ x1 then (
    some (.inr (.inl ()))
  ) else (
    Option.bind (fX7_hasArrow R_from x1) (fun q3 =>
    if q3 = 0 then (
      jX3_pinsAgree_34 x1
    ) else (
      Option.bind (fX3_bottom L_bottoms x1) (fun q4 =>
      Option.bind (fX3_top L_tops x1) (fun q5 =>
      if q5 < q4 then (
        jX3_pinsAgree_34 x1
      ) else (
        some (.inr (.inr ()))
      )
      )
      )
    )
    )
  )
noncomputable def fX3_pinsAgree (R_from : Nat → Int32) (L_tops : Nat → Int32) (L_bottoms : Nat → Int32) : Option (Int32) :=
  Option.bind (q_lo (fun (st : Int32) => bX3_pinsAgree_2 R_from L_tops L_bottoms st) 0) (Sum.elim
   (fun _ =>
    some 1)
   (fun _ =>
    some 0))
abbrev iX3_sink (aS : Nat → Nat) (cI cZ : ClassId) (R_width : Nat → Int32) (R_pinned : Nat → Int32) (R_from : Nat → Int32) (R_to : Nat → Int32) (R_turned : Nat → Int32) (L_layer : Nat → Int32) (L_layers : Int32) : va_W := [((aS 7), .inr (3, [.ref (aS 0), .ref (aS 8), .ref (aS 9), .ref (aS 10), .int L_layers])), ((aS 0), .inr (7, [.ref (aS 1), .ref (aS 2), .ref (aS 3), .ref (aS 4), .ref (aS 5), .ref (aS 6)])), ((aS 1), .inl (cI, 16, .inl R_width)), ((aS 2), .inl (cI, 16, .inl R_pinned)), ((aS 3), .inl (cI, 24, .inl R_from)), ((aS 4), .inl (cI, 24, .inl R_to)), ((aS 5), .inl (cZ, 24, .inl R_turned)), ((aS 8), .inl (cI, 16, .inl L_layer))]
noncomputable def jX3_sink_89 (L_layer : Nat → Int32) (x1 : Int32) : Option ((Int32 × (Nat → Int32)) ⊕ ((Nat → Int32))) :=
  some (.inl ((x1 + 1), L_layer))
noncomputable def jX3_sink_59 (L_layer : Nat → Int32) (x1 : Int32) (x2 : Int32) (x3 : Int32) (s0 : Int32) : Option ((Int32 × (Nat → Int32)) ⊕ ((Nat → Int32))) :=
  if s0 = 0 then (
    jX3_sink_89 L_layer x1
  ) else (
    if q_in x2 16 then (
    if x3 ≤ (L_layer x2.toNatClampNeg) then (
      jX3_sink_89 L_layer x1
    ) else (
      if 24 ≤ x3 then (
        jX3_sink_89 L_layer x1
      ) else (
        if q_in x2 16 then (
        jX3_sink_89 (upd L_layer x2.toNatClampNeg x3) x1
        ) else none
      )
    )
    ) else none
  )
noncomputable def jX3_sink_58 (L_layer : Nat → Int32) (x1 : Int32) (x2 : Int32) (x3 : Int32) : Option ((Int32 × (Nat → Int32)) ⊕ ((Nat → Int32))) :=
  jX3_sink_59 L_layer x1 x2 x3 0
noncomputable def bX3_sink_2 (R_width : Nat → Int32) (R_pinned : Nat → Int32) (R_from : Nat → Int32) (R_to : Nat → Int32) (R_turned : Nat → Int32) (x1 : Int32) (L_layer : Nat → Int32) : Option ((Int32 × (Nat → Int32)) ⊕ ((Nat → Int32))) :=
  if 24 ≤ x1 then (
    some (.inr L_layer)
  ) else (
    Option.bind (fX7_lowerBox R_from R_to R_turned x1) (fun q7 =>
    Option.bind (fX7_upperBox R_from R_to R_turned x1) (fun q8 =>
    Option.bind (fX3_layerOf L_layer q8) (fun q9 =>
    Option.bind (fX7_hasBox R_width q7) (fun q10 =>
    if q10 = 0 then (
      jX3_sink_58 L_layer x1 q7 (q9 + 1)
    ) else (
      Option.bind (fX7_isPinned R_width R_pinned q7) (fun q11 =>
      if q11 = 0 then (
        jX3_sink_59 L_layer x1 q7 (q9 + 1) 1
      ) else (
        jX3_sink_58 L_layer x1 q7 (q9 + 1)
      )
      )
    )
    )
    )
    )
    )
  )
noncomputable def fX3_sink (R_width : Nat → Int32) (R_pinned : Nat → Int32) (R_from : Nat → Int32) (R_to : Nat → Int32) (R_turned : Nat → Int32) (L_layer : Nat → Int32) : Option ((Nat → Int32)) :=
  Option.bind (q_lo (fun (st : Int32 × (Nat → Int32)) => bX3_sink_2 R_width R_pinned R_from R_to R_turned st.1 st.2) (0, L_layer)) (fun q1 =>
    some q1)
abbrev iX3_settle (aS : Nat → Nat) (cI cZ : ClassId) (R_width : Nat → Int32) (R_pinned : Nat → Int32) (R_from : Nat → Int32) (R_to : Nat → Int32) (R_turned : Nat → Int32) (L_layer : Nat → Int32) (L_tops : Nat → Int32) (L_bottoms : Nat → Int32) (L_layers : Int32) : va_W := [((aS 7), .inr (3, [.ref (aS 0), .ref (aS 8), .ref (aS 9), .ref (aS 10), .int L_layers])), ((aS 0), .inr (7, [.ref (aS 1), .ref (aS 2), .ref (aS 3), .ref (aS 4), .ref (aS 5), .ref (aS 6)])), ((aS 1), .inl (cI, 16, .inl R_width)), ((aS 2), .inl (cI, 16, .inl R_pinned)), ((aS 3), .inl (cI, 24, .inl R_from)), ((aS 4), .inl (cI, 24, .inl R_to)), ((aS 5), .inl (cZ, 24, .inl R_turned)), ((aS 8), .inl (cI, 16, .inl L_layer)), ((aS 9), .inl (cI, 24, .inl L_tops)), ((aS 10), .inl (cI, 24, .inl L_bottoms))]
noncomputable def bX3_settle_6 (R_width : Nat → Int32) (R_pinned : Nat → Int32) (R_from : Nat → Int32) (R_to : Nat → Int32) (R_turned : Nat → Int32) (x1 : Int32) (L_layer : Nat → Int32) : Option ((Int32 × (Nat → Int32)) ⊕ ((Nat → Int32))) :=
  if 16 ≤ x1 then (
    some (.inr L_layer)
  ) else (
    Option.bind (fX3_sink R_width R_pinned R_from R_to R_turned L_layer) (fun q3 =>
    some (.inl ((x1 + 1), q3))
    )
  )
noncomputable def fX3_settle (R_width : Nat → Int32) (R_pinned : Nat → Int32) (R_from : Nat → Int32) (R_to : Nat → Int32) (R_turned : Nat → Int32) (L_layer : Nat → Int32) (L_tops : Nat → Int32) (L_bottoms : Nat → Int32) : Option (Int32 × (Nat → Int32) × (Nat → Int32) × (Nat → Int32) × Int32) :=
  Option.bind (fX3_lift R_width R_pinned L_layer) (fun q1 =>
  Option.bind (q_lo (fun (st : Int32 × (Nat → Int32)) => bX3_settle_6 R_width R_pinned R_from R_to R_turned st.1 st.2) (0, q1)) (fun q2 =>
    Option.bind (fX3_countLayers q2) (fun q4 =>
    q_b2 (fX3_markEnds R_from R_to R_turned q2 L_tops L_bottoms) (fun q5_0 q5_1 =>
    Option.bind (fX3_pinsAgree R_from q5_0 q5_1) (fun q6 =>
    if q_tf q6 then (
    some (q6, q2, q5_0, q5_1, q4)
    ) else none
    )
    )
    ))
  )
abbrev iX6_add (aS : Nat → Nat) (cI cZ : ClassId) (P_size : Nat → Int32) (P_arrows : Nat → Int32) (P_uppers : Nat → Int32) (P_lowers : Nat → Int32) : va_W := [((aS 11), .inr (6, [.ref (aS 12), .ref (aS 13), .ref (aS 14), .ref (aS 15)])), ((aS 12), .inl (cI, 24, .inl P_size)), ((aS 13), .inl (cI, 576, .inl P_arrows)), ((aS 14), .inl (cI, 576, .inl P_uppers)), ((aS 15), .inl (cI, 576, .inl P_lowers))]
noncomputable def fX6_add (P_size : Nat → Int32) (P_arrows : Nat → Int32) (P_uppers : Nat → Int32) (P_lowers : Nat → Int32) (p0 : Int32) (p1 : Int32) (p2 : Int32) (p3 : Int32) : Option ((Nat → Int32) × (Nat → Int32) × (Nat → Int32) × (Nat → Int32)) :=
  if p0 < 0 then (
    some (P_size, P_arrows, P_uppers, P_lowers)
  ) else (
    if 24 ≤ p0 then (
      some (P_size, P_arrows, P_uppers, P_lowers)
    ) else (
      if q_in p0 24 then (
      if (P_size p0.toNatClampNeg) < 24 then (
        if q_in p0 24 then (
        q_let ((p0 * 24) + (P_size p0.toNatClampNeg)) (fun v3 =>
        if q_in v3 576 then (
        if q_in v3 576 then (
        if q_in v3 576 then (
        if q_in p0 24 then (
        if q_in p0 24 then (
        some ((upd P_size p0.toNatClampNeg ((P_size p0.toNatClampNeg) + 1)), (upd P_arrows v3.toNatClampNeg p1), (upd P_uppers v3.toNatClampNeg p2), (upd P_lowers v3.toNatClampNeg p3))
        ) else none
        ) else none
        ) else none
        ) else none
        ) else none
        )
        ) else none
      ) else (
        some (P_size, P_arrows, P_uppers, P_lowers)
      )
      ) else none
    )
  )
abbrev iX6_arrowOf (aS : Nat → Nat) (cI cZ : ClassId) (P_size : Nat → Int32) (P_arrows : Nat → Int32) : va_W := [((aS 11), .inr (6, [.ref (aS 12), .ref (aS 13), .ref (aS 14), .ref (aS 15)])), ((aS 12), .inl (cI, 24, .inl P_size)), ((aS 13), .inl (cI, 576, .inl P_arrows))]
noncomputable def jX6_arrowOf_29 (P_arrows : Nat → Int32) (x1 : Int32) (x2 : Int32) (s0 : Int32) : Option (Int32) :=
  if s0 = 0 then (
    some (-1)
  ) else (
    if q_in ((x1 * 24) + x2) 576 then (
    some (P_arrows ((x1 * 24) + x2).toNatClampNeg)
    ) else none
  )
noncomputable def jX6_arrowOf_28 (P_arrows : Nat → Int32) (x1 : Int32) (x2 : Int32) : Option (Int32) :=
  jX6_arrowOf_29 P_arrows x1 x2 0
noncomputable def fX6_arrowOf (P_size : Nat → Int32) (P_arrows : Nat → Int32) (p0 : Int32) (p1 : Int32) : Option (Int32) :=
  if p0 < 0 then (
    jX6_arrowOf_28 P_arrows p0 p1
  ) else (
    if 24 ≤ p0 then (
      jX6_arrowOf_28 P_arrows p0 p1
    ) else (
      if p1 < 0 then (
        jX6_arrowOf_28 P_arrows p0 p1
      ) else (
        if q_in p0 24 then (
        if (P_size p0.toNatClampNeg) ≤ p1 then (
          jX6_arrowOf_28 P_arrows p0 p1
        ) else (
          jX6_arrowOf_29 P_arrows p0 p1 1
        )
        ) else none
      )
    )
  )
abbrev iX6_collect (aS : Nat → Nat) (cI cZ : ClassId) (R_from : Nat → Int32) (R_to : Nat → Int32) (R_turned : Nat → Int32) (L_tops : Nat → Int32) (L_bottoms : Nat → Int32) (L_layers : Int32) (P_size : Nat → Int32) (P_arrows : Nat → Int32) (P_uppers : Nat → Int32) (P_lowers : Nat → Int32) : va_W := [((aS 11), .inr (6, [.ref (aS 12), .ref (aS 13), .ref (aS 14), .ref (aS 15)])), ((aS 0), .inr (7, [.ref (aS 1), .ref (aS 2), .ref (aS 3), .ref (aS 4), .ref (aS 5), .ref (aS 6)])), ((aS 3), .inl (cI, 24, .inl R_from)), ((aS 4), .inl (cI, 24, .inl R_to)), ((aS 5), .inl (cZ, 24, .inl R_turned)), ((aS 7), .inr (3, [.ref (aS 0), .ref (aS 8), .ref (aS 9), .ref (aS 10), .int L_layers])), ((aS 9), .inl (cI, 24, .inl L_tops)), ((aS 10), .inl (cI, 24, .inl L_bottoms)), ((aS 12), .inl (cI, 24, .inl P_size)), ((aS 13), .inl (cI, 576, .inl P_arrows)), ((aS 14), .inl (cI, 576, .inl P_uppers)), ((aS 15), .inl (cI, 576, .inl P_lowers))]
noncomputable def bX6_collect_22 (R_from : Nat → Int32) (R_to : Nat → Int32) (R_turned : Nat → Int32) (L_tops : Nat → Int32) (L_bottoms : Nat → Int32) (x2 : Int32) (x3 : Int32) (P_size : Nat → Int32) (P_arrows : Nat → Int32) (P_uppers : Nat → Int32) (P_lowers : Nat → Int32) : Option ((Int32 × (Nat → Int32) × (Nat → Int32) × (Nat → Int32) × (Nat → Int32)) ⊕ ((Nat → Int32) × (Nat → Int32) × (Nat → Int32) × (Nat → Int32))) :=
  Option.bind (fX3_bottom L_bottoms x2) (fun q4 =>
  if q4 ≤ x3 then (
    some (.inr (P_size, P_arrows, P_uppers, P_lowers))
  ) else (
    Option.bind (fX3_itemOf R_from R_to R_turned L_tops L_bottoms x2 x3) (fun q5 =>
    Option.bind (fX3_itemOf R_from R_to R_turned L_tops L_bottoms x2 (x3 + 1)) (fun q6 =>
    q_b4 (fX6_add P_size P_arrows P_uppers P_lowers x3 x2 q5 q6) (fun q7_0 q7_1 q7_2 q7_3 =>
    some (.inl ((x3 + 1), q7_0, q7_1, q7_2, q7_3))
    )
    )
    )
  )
  )
noncomputable def bX6_collect_10 (R_from : Nat → Int32) (R_to : Nat → Int32) (R_turned : Nat → Int32) (L_tops : Nat → Int32) (L_bottoms : Nat → Int32) (x2 : Int32) (P_size : Nat → Int32) (P_arrows : Nat → Int32) (P_uppers : Nat → Int32) (P_lowers : Nat → Int32) : Option ((Int32 × (Nat → Int32) × (Nat → Int32) × (Nat → Int32) × (Nat → Int32)) ⊕ ((Nat → Int32) × (Nat → Int32) × (Nat → Int32) × (Nat → Int32))) :=
  if 24 ≤ x2 then (
    some (.inr (P_size, P_arrows, P_uppers, P_lowers))
  ) else (
    Option.bind (fX3_top L_tops x2) (fun q2 =>
    q_b4 (q_lo (fun (st : Int32 × (Nat → Int32) × (Nat → Int32) × (Nat → Int32) × (Nat → Int32)) => bX6_collect_22 R_from R_to R_turned L_tops L_bottoms x2 st.1 st.2.1 st.2.2.1 st.2.2.2.1 st.2.2.2.2) (q2, P_size, P_arrows, P_uppers, P_lowers)) (fun q3_0 q3_1 q3_2 q3_3 =>
      some (.inl ((x2 + 1), q3_0, q3_1, q3_2, q3_3)))
    )
  )
noncomputable def fX6_collect (R_from : Nat → Int32) (R_to : Nat → Int32) (R_turned : Nat → Int32) (L_tops : Nat → Int32) (L_bottoms : Nat → Int32) (P_arrows : Nat → Int32) (P_uppers : Nat → Int32) (P_lowers : Nat → Int32) : Option ((Nat → Int32) × (Nat → Int32) × (Nat → Int32) × (Nat → Int32)) :=
  q_b4 (q_lo (fun (st : Int32 × (Nat → Int32) × (Nat → Int32) × (Nat → Int32) × (Nat → Int32)) => bX6_collect_10 R_from R_to R_turned L_tops L_bottoms st.1 st.2.1 st.2.2.1 st.2.2.2.1 st.2.2.2.2) (0, (fun _ => 0), P_arrows, P_uppers, P_lowers)) (fun q1_0 q1_1 q1_2 q1_3 =>
    some (q1_0, q1_1, q1_2, q1_3))
abbrev iX6_endOf (aS : Nat → Nat) (cI cZ : ClassId) (P_size : Nat → Int32) (P_uppers : Nat → Int32) (P_lowers : Nat → Int32) : va_W := [((aS 11), .inr (6, [.ref (aS 12), .ref (aS 13), .ref (aS 14), .ref (aS 15)])), ((aS 12), .inl (cI, 24, .inl P_size)), ((aS 14), .inl (cI, 576, .inl P_uppers)), ((aS 15), .inl (cI, 576, .inl P_lowers))]
noncomputable def fX6_endOf (P_size : Nat → Int32) (P_uppers : Nat → Int32) (P_lowers : Nat → Int32) (p0 : Int32) (p1 : Int32) (p2 : Int32) : Option (Int32) :=
  if p0 < 0 then (
    some (-1)
  ) else (
    if 24 ≤ p0 then (
      some (-1)
    ) else (
      if p1 < 0 then (
        some (-1)
      ) else (
        if q_in p0 24 then (
        if p1 < (P_size p0.toNatClampNeg) then (
          if p2 = 0 then (
            if q_in ((p0 * 24) + p1) 576 then (
            some (P_lowers ((p0 * 24) + p1).toNatClampNeg)
            ) else none
          ) else (
            if q_in ((p0 * 24) + p1) 576 then (
            some (P_uppers ((p0 * 24) + p1).toNatClampNeg)
            ) else none
          )
        ) else (
          some (-1)
        )
        ) else none
      )
    )
  )
abbrev iX6_sizeOf (aS : Nat → Nat) (cI cZ : ClassId) (P_size : Nat → Int32) : va_W := [((aS 11), .inr (6, [.ref (aS 12), .ref (aS 13), .ref (aS 14), .ref (aS 15)])), ((aS 12), .inl (cI, 24, .inl P_size))]
noncomputable def fX6_sizeOf (P_size : Nat → Int32) (p0 : Int32) : Option (Int32) :=
  if p0 < 0 then (
    some 0
  ) else (
    if 24 ≤ p0 then (
      some 0
    ) else (
      if q_in p0 24 then (
      some (P_size p0.toNatClampNeg)
      ) else none
    )
  )
abbrev iX4_sizeOf (aO : Nat → Nat) (cI cZ : ClassId) (O_layers : Int32) (O_size : Nat → Int32) : va_W := [((aO 0), .inr (4, [.int O_layers, .ref (aO 1), .ref (aO 2), .ref (aO 3), .ref (aO 4)])), ((aO 1), .inl (cI, 24, .inl O_size))]
noncomputable def fX4_sizeOf (O_layers : Int32) (O_size : Nat → Int32) (p0 : Int32) : Option (Int32) :=
  if p0 < 0 then (
    some 0
  ) else (
    if O_layers ≤ p0 then (
      some 0
    ) else (
      if 24 ≤ p0 then (
        some 0
      ) else (
        if q_in p0 24 then (
        some (O_size p0.toNatClampNeg)
        ) else none
      )
    )
  )
abbrev iX4_put (aO : Nat → Nat) (cI cZ : ClassId) (O_layers : Int32) (O_size : Nat → Int32) (O_rows : Nat → Int32) (O_places : Nat → Int32) (O_home : Nat → Int32) : va_W := [((aO 0), .inr (4, [.int O_layers, .ref (aO 1), .ref (aO 2), .ref (aO 3), .ref (aO 4)])), ((aO 1), .inl (cI, 24, .inl O_size)), ((aO 2), .inl (cI, 960, .inl O_rows)), ((aO 3), .inl (cI, 960, .inl O_places)), ((aO 4), .inl (cI, 16, .inl O_home))]
noncomputable def fX4_put (O_layers : Int32) (O_size : Nat → Int32) (O_rows : Nat → Int32) (O_places : Nat → Int32) (O_home : Nat → Int32) (p0 : Int32) (p1 : Int32) (p2 : Int32) : Option ((Nat → Int32) × (Nat → Int32) × (Nat → Int32)) :=
  if p1 < 0 then (
    some (O_rows, O_places, O_home)
  ) else (
    Option.bind (fX4_sizeOf O_layers O_size p0) (fun q1 =>
    if q1 ≤ p1 then (
      some (O_rows, O_places, O_home)
    ) else (
      if p2 < 0 then (
        some (O_rows, O_places, O_home)
      ) else (
        if p2 < 40 then (
          if q_in ((p0 * 40) + p1) 960 then (
          if q_in ((p0 * 40) + p2) 960 then (
          if 16 ≤ p2 then (
            some ((upd O_rows ((p0 * 40) + p1).toNatClampNeg p2), (upd O_places ((p0 * 40) + p2).toNatClampNeg p1), O_home)
          ) else (
            if q_in p2 16 then (
            some ((upd O_rows ((p0 * 40) + p1).toNatClampNeg p2), (upd O_places ((p0 * 40) + p2).toNatClampNeg p1), (upd O_home p2.toNatClampNeg p0))
            ) else none
          )
          ) else none
          ) else none
        ) else (
          some (O_rows, O_places, O_home)
        )
      )
    )
    )
  )
abbrev iX4_append (aO : Nat → Nat) (cI cZ : ClassId) (O_layers : Int32) (O_size : Nat → Int32) (O_rows : Nat → Int32) (O_places : Nat → Int32) (O_home : Nat → Int32) : va_W := [((aO 0), .inr (4, [.int O_layers, .ref (aO 1), .ref (aO 2), .ref (aO 3), .ref (aO 4)])), ((aO 1), .inl (cI, 24, .inl O_size)), ((aO 2), .inl (cI, 960, .inl O_rows)), ((aO 3), .inl (cI, 960, .inl O_places)), ((aO 4), .inl (cI, 16, .inl O_home))]
noncomputable def fX4_append (O_layers : Int32) (O_size : Nat → Int32) (O_rows : Nat → Int32) (O_places : Nat → Int32) (O_home : Nat → Int32) (p0 : Int32) (p1 : Int32) : Option ((Nat → Int32) × (Nat → Int32) × (Nat → Int32) × (Nat → Int32)) :=
  if p0 < 0 then (
    some (O_size, O_rows, O_places, O_home)
  ) else (
    if 24 ≤ p0 then (
      some (O_size, O_rows, O_places, O_home)
    ) else (
      if q_in p0 24 then (
      if 40 ≤ (O_size p0.toNatClampNeg) then (
        some (O_size, O_rows, O_places, O_home)
      ) else (
        if q_in p0 24 then (
        if q_in p0 24 then (
        if q_in p0 24 then (
        q_b3 (fX4_put O_layers (upd O_size p0.toNatClampNeg ((O_size p0.toNatClampNeg) + 1)) O_rows O_places O_home p0 (((upd O_size p0.toNatClampNeg ((O_size p0.toNatClampNeg) + 1)) p0.toNatClampNeg) - 1) p1) (fun q5_0 q5_1 q5_2 =>
        some ((upd O_size p0.toNatClampNeg ((O_size p0.toNatClampNeg) + 1)), q5_0, q5_1, q5_2)
        )
        ) else none
        ) else none
        ) else none
      )
      ) else none
    )
  )
abbrev iX4_placeIn (aO : Nat → Nat) (cI cZ : ClassId) (O_layers : Int32) (O_places : Nat → Int32) : va_W := [((aO 0), .inr (4, [.int O_layers, .ref (aO 1), .ref (aO 2), .ref (aO 3), .ref (aO 4)])), ((aO 3), .inl (cI, 960, .inl O_places))]
noncomputable def jX4_placeIn_25 (O_places : Nat → Int32) (x1 : Int32) (x2 : Int32) (s0 : Int32) : Option (Int32) :=
  if s0 = 0 then (
    some (-1)
  ) else (
    if q_in ((x1 * 40) + x2) 960 then (
    some (O_places ((x1 * 40) + x2).toNatClampNeg)
    ) else none
  )
noncomputable def jX4_placeIn_24 (O_places : Nat → Int32) (x1 : Int32) (x2 : Int32) : Option (Int32) :=
  jX4_placeIn_25 O_places x1 x2 0
noncomputable def fX4_placeIn (O_places : Nat → Int32) (p0 : Int32) (p1 : Int32) : Option (Int32) :=
  if p0 < 0 then (
    jX4_placeIn_24 O_places p0 p1
  ) else (
    if 24 ≤ p0 then (
      jX4_placeIn_24 O_places p0 p1
    ) else (
      if p1 < 0 then (
        jX4_placeIn_24 O_places p0 p1
      ) else (
        if 40 ≤ p1 then (
          jX4_placeIn_24 O_places p0 p1
        ) else (
          jX4_placeIn_25 O_places p0 p1 1
        )
      )
    )
  )
abbrev iX4_appendMissing (aS : Nat → Nat) (aO : Nat → Nat) (cI cZ : ClassId) (R_width : Nat → Int32) (L_layer : Nat → Int32) (L_tops : Nat → Int32) (L_bottoms : Nat → Int32) (L_layers : Int32) (O_layers : Int32) (O_size : Nat → Int32) (O_rows : Nat → Int32) (O_places : Nat → Int32) (O_home : Nat → Int32) : va_W := [((aO 0), .inr (4, [.int O_layers, .ref (aO 1), .ref (aO 2), .ref (aO 3), .ref (aO 4)])), ((aS 0), .inr (7, [.ref (aS 1), .ref (aS 2), .ref (aS 3), .ref (aS 4), .ref (aS 5), .ref (aS 6)])), ((aS 1), .inl (cI, 16, .inl R_width)), ((aS 7), .inr (3, [.ref (aS 0), .ref (aS 8), .ref (aS 9), .ref (aS 10), .int L_layers])), ((aS 8), .inl (cI, 16, .inl L_layer)), ((aS 9), .inl (cI, 24, .inl L_tops)), ((aS 10), .inl (cI, 24, .inl L_bottoms)), ((aO 1), .inl (cI, 24, .inl O_size)), ((aO 2), .inl (cI, 960, .inl O_rows)), ((aO 3), .inl (cI, 960, .inl O_places)), ((aO 4), .inl (cI, 16, .inl O_home))]
noncomputable def jX4_appendMissing_43 (O_size : Nat → Int32) (O_rows : Nat → Int32) (O_places : Nat → Int32) (O_home : Nat → Int32) (x2 : Int32) (x3 : Int32) : Option ((Int32 × (Nat → Int32) × (Nat → Int32) × (Nat → Int32) × (Nat → Int32)) ⊕ ((Nat → Int32) × (Nat → Int32) × (Nat → Int32) × (Nat → Int32))) :=
  some (.inl ((x3 + 1), O_size, O_rows, O_places, O_home))
noncomputable def bX4_appendMissing_12 (R_width : Nat → Int32) (L_layer : Nat → Int32) (L_tops : Nat → Int32) (L_bottoms : Nat → Int32) (O_layers : Int32) (x2 : Int32) (x3 : Int32) (O_size : Nat → Int32) (O_rows : Nat → Int32) (O_places : Nat → Int32) (O_home : Nat → Int32) : Option ((Int32 × (Nat → Int32) × (Nat → Int32) × (Nat → Int32) × (Nat → Int32)) ⊕ ((Nat → Int32) × (Nat → Int32) × (Nat → Int32) × (Nat → Int32))) :=
  if 40 ≤ x3 then (
    some (.inr (O_size, O_rows, O_places, O_home))
  ) else (
    Option.bind (fX3_holds R_width L_layer L_tops L_bottoms x2 x3) (fun q4 =>
    if q4 = 0 then (
      jX4_appendMissing_43 O_size O_rows O_places O_home x2 x3
    ) else (
      Option.bind (fX4_placeIn O_places x2 x3) (fun q5 =>
      if q5 = (-1) then (
        q_b4 (fX4_append O_layers O_size O_rows O_places O_home x2 x3) (fun q6_0 q6_1 q6_2 q6_3 =>
        jX4_appendMissing_43 q6_0 q6_1 q6_2 q6_3 x2 x3
        )
      ) else (
        jX4_appendMissing_43 O_size O_rows O_places O_home x2 x3
      )
      )
    )
    )
  )
noncomputable def bX4_appendMissing_2 (R_width : Nat → Int32) (L_layer : Nat → Int32) (L_tops : Nat → Int32) (L_bottoms : Nat → Int32) (O_layers : Int32) (x2 : Int32) (O_size : Nat → Int32) (O_rows : Nat → Int32) (O_places : Nat → Int32) (O_home : Nat → Int32) : Option ((Int32 × (Nat → Int32) × (Nat → Int32) × (Nat → Int32) × (Nat → Int32)) ⊕ ((Nat → Int32) × (Nat → Int32) × (Nat → Int32) × (Nat → Int32))) :=
  if O_layers ≤ x2 then (
    some (.inr (O_size, O_rows, O_places, O_home))
  ) else (
    q_b4 (q_lo (fun (st : Int32 × (Nat → Int32) × (Nat → Int32) × (Nat → Int32) × (Nat → Int32)) => bX4_appendMissing_12 R_width L_layer L_tops L_bottoms O_layers x2 st.1 st.2.1 st.2.2.1 st.2.2.2.1 st.2.2.2.2) (0, O_size, O_rows, O_places, O_home)) (fun q2_0 q2_1 q2_2 q2_3 =>
      some (.inl ((x2 + 1), q2_0, q2_1, q2_2, q2_3)))
  )
noncomputable def fX4_appendMissing (R_width : Nat → Int32) (L_layer : Nat → Int32) (L_tops : Nat → Int32) (L_bottoms : Nat → Int32) (O_layers : Int32) (O_size : Nat → Int32) (O_rows : Nat → Int32) (O_places : Nat → Int32) (O_home : Nat → Int32) : Option ((Nat → Int32) × (Nat → Int32) × (Nat → Int32) × (Nat → Int32)) :=
  q_b4 (q_lo (fun (st : Int32 × (Nat → Int32) × (Nat → Int32) × (Nat → Int32) × (Nat → Int32)) => bX4_appendMissing_2 R_width L_layer L_tops L_bottoms O_layers st.1 st.2.1 st.2.2.1 st.2.2.2.1 st.2.2.2.2) (0, O_size, O_rows, O_places, O_home)) (fun q1_0 q1_1 q1_2 q1_3 =>
    some (q1_0, q1_1, q1_2, q1_3))
abbrev iX4_empty (aO : Nat → Nat) (cI cZ : ClassId) (O_layers : Int32) (O_size : Nat → Int32) (O_places : Nat → Int32) (O_home : Nat → Int32) : va_W := [((aO 0), .inr (4, [.int O_layers, .ref (aO 1), .ref (aO 2), .ref (aO 3), .ref (aO 4)])), ((aO 1), .inl (cI, 24, .inl O_size)), ((aO 3), .inl (cI, 960, .inl O_places)), ((aO 4), .inl (cI, 16, .inl O_home))]
noncomputable def fX4_empty (p0 : Int32) : Option (Int32 × (Nat → Int32) × (Nat → Int32) × (Nat → Int32)) :=
  some ((if (24 : Int32) < p0 then (24 : Int32) else p0), (fun _ => 0), (fun _ => (-1)), (fun _ => (-1)))
abbrev iX4_homeOf (aO : Nat → Nat) (cI cZ : ClassId) (O_layers : Int32) (O_home : Nat → Int32) : va_W := [((aO 0), .inr (4, [.int O_layers, .ref (aO 1), .ref (aO 2), .ref (aO 3), .ref (aO 4)])), ((aO 4), .inl (cI, 16, .inl O_home))]
noncomputable def fX4_homeOf (O_home : Nat → Int32) (p0 : Int32) : Option (Int32) :=
  if p0 < 0 then (
    some (-1)
  ) else (
    if 16 ≤ p0 then (
      some (-1)
    ) else (
      if q_in p0 16 then (
      some (O_home p0.toNatClampNeg)
      ) else none
    )
  )
abbrev iX4_holdsBox (aO : Nat → Nat) (cI cZ : ClassId) (O_layers : Int32) (O_home : Nat → Int32) : va_W := [((aO 0), .inr (4, [.int O_layers, .ref (aO 1), .ref (aO 2), .ref (aO 3), .ref (aO 4)])), ((aO 4), .inl (cI, 16, .inl O_home))]
noncomputable def fX4_holdsBox (O_home : Nat → Int32) (p0 : Int32) : Option (Int32) :=
  Option.bind (fX4_homeOf O_home p0) (fun q1 =>
  if q1 = (-1) then (
    some 0
  ) else (
    some 1
  )
  )
abbrev iX4_itemIn (aO : Nat → Nat) (cI cZ : ClassId) (O_layers : Int32) (O_size : Nat → Int32) (O_rows : Nat → Int32) : va_W := [((aO 0), .inr (4, [.int O_layers, .ref (aO 1), .ref (aO 2), .ref (aO 3), .ref (aO 4)])), ((aO 1), .inl (cI, 24, .inl O_size)), ((aO 2), .inl (cI, 960, .inl O_rows))]
noncomputable def jX4_itemIn_18 (O_rows : Nat → Int32) (x1 : Int32) (x2 : Int32) (s0 : Int32) : Option (Int32) :=
  if s0 = 0 then (
    some (-1)
  ) else (
    if q_in ((x1 * 40) + x2) 960 then (
    some (O_rows ((x1 * 40) + x2).toNatClampNeg)
    ) else none
  )
noncomputable def jX4_itemIn_17 (O_rows : Nat → Int32) (x1 : Int32) (x2 : Int32) : Option (Int32) :=
  jX4_itemIn_18 O_rows x1 x2 0
noncomputable def fX4_itemIn (O_layers : Int32) (O_size : Nat → Int32) (O_rows : Nat → Int32) (p0 : Int32) (p1 : Int32) : Option (Int32) :=
  if p1 < 0 then (
    jX4_itemIn_17 O_rows p0 p1
  ) else (
    Option.bind (fX4_sizeOf O_layers O_size p0) (fun q4 =>
    if q4 ≤ p1 then (
      jX4_itemIn_17 O_rows p0 p1
    ) else (
      jX4_itemIn_18 O_rows p0 p1 1
    )
    )
  )
abbrev iX4_items (aO : Nat → Nat) (cI cZ : ClassId) (O_layers : Int32) (O_size : Nat → Int32) : va_W := [((aO 0), .inr (4, [.int O_layers, .ref (aO 1), .ref (aO 2), .ref (aO 3), .ref (aO 4)])), ((aO 1), .inl (cI, 24, .inl O_size))]
noncomputable def bX4_items_4 (O_layers : Int32) (O_size : Nat → Int32) (x1 : Int32) (x2 : Int32) : Option ((Int32 × Int32) ⊕ (Int32)) :=
  if O_layers ≤ x2 then (
    some (.inr x1)
  ) else (
    Option.bind (fX4_sizeOf O_layers O_size x2) (fun q2 =>
    some (.inl ((x1 + q2), (x2 + 1)))
    )
  )
noncomputable def fX4_items (O_layers : Int32) (O_size : Nat → Int32) : Option (Int32) :=
  Option.bind (q_lo (fun (st : Int32 × Int32) => bX4_items_4 O_layers O_size st.1 st.2) (0, 0)) (fun q1 =>
    some q1)
abbrev iX4_layers (aO : Nat → Nat) (cI cZ : ClassId) (O_layers : Int32) : va_W := [((aO 0), .inr (4, [.int O_layers, .ref (aO 1), .ref (aO 2), .ref (aO 3), .ref (aO 4)]))]
noncomputable def fX4_layers (O_layers : Int32) : Option (Int32) :=
  some O_layers
abbrev iX4_sameSpot (aO : Nat → Nat) (aN : Nat → Nat) (cI cZ : ClassId) (O_layers : Int32) (O_places : Nat → Int32) (O_home : Nat → Int32) (N_layers : Int32) (N_places : Nat → Int32) (N_home : Nat → Int32) : va_W := [((aO 0), .inr (4, [.int O_layers, .ref (aO 1), .ref (aO 2), .ref (aO 3), .ref (aO 4)])), ((aO 3), .inl (cI, 960, .inl O_places)), ((aO 4), .inl (cI, 16, .inl O_home)), ((aN 0), .inr (4, [.int N_layers, .ref (aN 1), .ref (aN 2), .ref (aN 3), .ref (aN 4)])), ((aN 3), .inl (cI, 960, .inl N_places)), ((aN 4), .inl (cI, 16, .inl N_home))]
noncomputable def fX4_sameSpot (O_places : Nat → Int32) (O_home : Nat → Int32) (N_places : Nat → Int32) (N_home : Nat → Int32) (p1 : Int32) : Option (Int32) :=
  Option.bind (fX4_homeOf O_home p1) (fun q1 =>
  Option.bind (fX4_homeOf N_home p1) (fun q2 =>
  if q1 = q2 then (
    Option.bind (fX4_placeIn O_places q1 p1) (fun q3 =>
    Option.bind (fX4_placeIn N_places q1 p1) (fun q4 =>
    if q3 = q4 then (
      some 1
    ) else (
      some 0
    )
    )
    )
  ) else (
    some 0
  )
  )
  )
abbrev iX4_startFirst (aS : Nat → Nat) (aO : Nat → Nat) (cI cZ : ClassId) (R_width : Nat → Int32) (L_layer : Nat → Int32) (L_tops : Nat → Int32) (L_bottoms : Nat → Int32) (L_layers : Int32) (O_layers : Int32) (O_size : Nat → Int32) (O_rows : Nat → Int32) (O_places : Nat → Int32) (O_home : Nat → Int32) : va_W := [((aO 0), .inr (4, [.int O_layers, .ref (aO 1), .ref (aO 2), .ref (aO 3), .ref (aO 4)])), ((aS 0), .inr (7, [.ref (aS 1), .ref (aS 2), .ref (aS 3), .ref (aS 4), .ref (aS 5), .ref (aS 6)])), ((aS 1), .inl (cI, 16, .inl R_width)), ((aS 7), .inr (3, [.ref (aS 0), .ref (aS 8), .ref (aS 9), .ref (aS 10), .int L_layers])), ((aS 8), .inl (cI, 16, .inl L_layer)), ((aS 9), .inl (cI, 24, .inl L_tops)), ((aS 10), .inl (cI, 24, .inl L_bottoms)), ((aO 1), .inl (cI, 24, .inl O_size)), ((aO 2), .inl (cI, 960, .inl O_rows)), ((aO 3), .inl (cI, 960, .inl O_places)), ((aO 4), .inl (cI, 16, .inl O_home))]
noncomputable def fX4_startFirst (R_width : Nat → Int32) (L_layer : Nat → Int32) (L_tops : Nat → Int32) (L_bottoms : Nat → Int32) (L_layers : Int32) (O_rows : Nat → Int32) : Option (Int32 × (Nat → Int32) × (Nat → Int32) × (Nat → Int32) × (Nat → Int32)) :=
  Option.bind (fX3_layers L_layers) (fun q1 =>
  q_b4 (fX4_empty q1) (fun q2_0 q2_1 q2_2 q2_3 =>
  q_b4 (fX4_appendMissing R_width L_layer L_tops L_bottoms q2_0 q2_1 O_rows q2_2 q2_3) (fun q3_0 q3_1 q3_2 q3_3 =>
  some (q2_0, q3_0, q3_1, q3_2, q3_3)
  )
  )
  )
abbrev iX4_startLike (aS : Nat → Nat) (aO : Nat → Nat) (aN : Nat → Nat) (cI cZ : ClassId) (R_width : Nat → Int32) (L_layer : Nat → Int32) (L_tops : Nat → Int32) (L_bottoms : Nat → Int32) (L_layers : Int32) (O_layers : Int32) (O_size : Nat → Int32) (O_rows : Nat → Int32) (O_places : Nat → Int32) (O_home : Nat → Int32) (N_layers : Int32) (N_size : Nat → Int32) (N_rows : Nat → Int32) : va_W := [((aO 0), .inr (4, [.int O_layers, .ref (aO 1), .ref (aO 2), .ref (aO 3), .ref (aO 4)])), ((aS 0), .inr (7, [.ref (aS 1), .ref (aS 2), .ref (aS 3), .ref (aS 4), .ref (aS 5), .ref (aS 6)])), ((aS 1), .inl (cI, 16, .inl R_width)), ((aS 7), .inr (3, [.ref (aS 0), .ref (aS 8), .ref (aS 9), .ref (aS 10), .int L_layers])), ((aS 8), .inl (cI, 16, .inl L_layer)), ((aS 9), .inl (cI, 24, .inl L_tops)), ((aS 10), .inl (cI, 24, .inl L_bottoms)), ((aO 1), .inl (cI, 24, .inl O_size)), ((aO 2), .inl (cI, 960, .inl O_rows)), ((aO 3), .inl (cI, 960, .inl O_places)), ((aO 4), .inl (cI, 16, .inl O_home)), ((aN 0), .inr (4, [.int N_layers, .ref (aN 1), .ref (aN 2), .ref (aN 3), .ref (aN 4)])), ((aN 1), .inl (cI, 24, .inl N_size)), ((aN 2), .inl (cI, 960, .inl N_rows))]
noncomputable def jX4_startLike_57 (O_size : Nat → Int32) (O_rows : Nat → Int32) (O_places : Nat → Int32) (O_home : Nat → Int32) (x3 : Int32) (x4 : Int32) : Option ((Int32 × (Nat → Int32) × (Nat → Int32) × (Nat → Int32) × (Nat → Int32)) ⊕ ((Nat → Int32) × (Nat → Int32) × (Nat → Int32) × (Nat → Int32))) :=
  some (.inl ((x4 + 1), O_size, O_rows, O_places, O_home))
noncomputable def bX4_startLike_21 (R_width : Nat → Int32) (L_layer : Nat → Int32) (L_tops : Nat → Int32) (L_bottoms : Nat → Int32) (O_layers : Int32) (N_layers : Int32) (N_size : Nat → Int32) (N_rows : Nat → Int32) (x3 : Int32) (x4 : Int32) (O_size : Nat → Int32) (O_rows : Nat → Int32) (O_places : Nat → Int32) (O_home : Nat → Int32) : Option ((Int32 × (Nat → Int32) × (Nat → Int32) × (Nat → Int32) × (Nat → Int32)) ⊕ ((Nat → Int32) × (Nat → Int32) × (Nat → Int32) × (Nat → Int32))) :=
  Option.bind (fX4_sizeOf N_layers N_size x3) (fun q6 =>
  if q6 ≤ x4 then (
    some (.inr (O_size, O_rows, O_places, O_home))
  ) else (
    Option.bind (fX4_itemIn N_layers N_size N_rows x3 x4) (fun q7 =>
    Option.bind (fX3_holds R_width L_layer L_tops L_bottoms x3 q7) (fun q8 =>
    if q8 = 0 then (
      jX4_startLike_57 O_size O_rows O_places O_home x3 x4
    ) else (
      q_b4 (fX4_append O_layers O_size O_rows O_places O_home x3 q7) (fun q9_0 q9_1 q9_2 q9_3 =>
      jX4_startLike_57 q9_0 q9_1 q9_2 q9_3 x3 x4
      )
    )
    )
    )
  )
  )
noncomputable def bX4_startLike_10 (R_width : Nat → Int32) (L_layer : Nat → Int32) (L_tops : Nat → Int32) (L_bottoms : Nat → Int32) (O_layers : Int32) (N_layers : Int32) (N_size : Nat → Int32) (N_rows : Nat → Int32) (x3 : Int32) (O_size : Nat → Int32) (O_rows : Nat → Int32) (O_places : Nat → Int32) (O_home : Nat → Int32) : Option ((Int32 × (Nat → Int32) × (Nat → Int32) × (Nat → Int32) × (Nat → Int32)) ⊕ ((Nat → Int32) × (Nat → Int32) × (Nat → Int32) × (Nat → Int32))) :=
  if O_layers ≤ x3 then (
    some (.inr (O_size, O_rows, O_places, O_home))
  ) else (
    q_b4 (q_lo (fun (st : Int32 × (Nat → Int32) × (Nat → Int32) × (Nat → Int32) × (Nat → Int32)) => bX4_startLike_21 R_width L_layer L_tops L_bottoms O_layers N_layers N_size N_rows x3 st.1 st.2.1 st.2.2.1 st.2.2.2.1 st.2.2.2.2) (0, O_size, O_rows, O_places, O_home)) (fun q4_0 q4_1 q4_2 q4_3 =>
      some (.inl ((x3 + 1), q4_0, q4_1, q4_2, q4_3)))
  )
noncomputable def fX4_startLike (R_width : Nat → Int32) (L_layer : Nat → Int32) (L_tops : Nat → Int32) (L_bottoms : Nat → Int32) (L_layers : Int32) (O_rows : Nat → Int32) (N_layers : Int32) (N_size : Nat → Int32) (N_rows : Nat → Int32) : Option (Int32 × (Nat → Int32) × (Nat → Int32) × (Nat → Int32) × (Nat → Int32)) :=
  Option.bind (fX3_layers L_layers) (fun q1 =>
  q_b4 (fX4_empty q1) (fun q2_0 q2_1 q2_2 q2_3 =>
  q_b4 (q_lo (fun (st : Int32 × (Nat → Int32) × (Nat → Int32) × (Nat → Int32) × (Nat → Int32)) => bX4_startLike_10 R_width L_layer L_tops L_bottoms q2_0 N_layers N_size N_rows st.1 st.2.1 st.2.2.1 st.2.2.2.1 st.2.2.2.2) (0, q2_1, O_rows, q2_2, q2_3)) (fun q3_0 q3_1 q3_2 q3_3 =>
    q_b4 (fX4_appendMissing R_width L_layer L_tops L_bottoms q2_0 q3_0 q3_1 q3_2 q3_3) (fun q10_0 q10_1 q10_2 q10_3 =>
    some (q2_0, q10_0, q10_1, q10_2, q10_3)
    ))
  )
  )
abbrev iX2_inGap (aS : Nat → Nat) (aO : Nat → Nat) (cI cZ : ClassId) (P_size : Nat → Int32) (P_uppers : Nat → Int32) (P_lowers : Nat → Int32) (X_upper : Nat → Int32) (X_lower : Nat → Int32) (O_layers : Int32) (O_places : Nat → Int32) : va_W := [((aS 16), .inr (2, [.ref (aS 11), .ref (aS 17), .ref (aS 18)])), ((aS 11), .inr (6, [.ref (aS 12), .ref (aS 13), .ref (aS 14), .ref (aS 15)])), ((aS 12), .inl (cI, 24, .inl P_size)), ((aS 14), .inl (cI, 576, .inl P_uppers)), ((aS 15), .inl (cI, 576, .inl P_lowers)), ((aS 17), .inl (cI, 24, .inl X_upper)), ((aS 18), .inl (cI, 24, .inl X_lower)), ((aO 0), .inr (4, [.int O_layers, .ref (aO 1), .ref (aO 2), .ref (aO 3), .ref (aO 4)])), ((aO 3), .inl (cI, 960, .inl O_places))]
noncomputable def jX2_inGap_129 (x2 : Int32) (x3 : Int32) (x4 : Int32) (x5 : Int32) (x6 : Int32) : Option ((Int32 × Int32) ⊕ (Int32)) :=
  some (.inl (x4, (x6 + 1)))
noncomputable def bX2_inGap_77 (X_upper : Nat → Int32) (X_lower : Nat → Int32) (x2 : Int32) (x3 : Int32) (x5 : Int32) (x4 : Int32) (x6 : Int32) : Option ((Int32 × Int32) ⊕ (Int32)) :=
  if x5 ≤ x6 then (
    some (.inr x4)
  ) else (
    if q_in x5 24 then (
    if q_in x6 24 then (
    Option.bind (fJ6_compare_7cf53 (X_upper x5.toNatClampNeg) (X_upper x6.toNatClampNeg)) (fun q14 =>
    if q_in x5 24 then (
    if q_in x6 24 then (
    Option.bind (fJ6_compare_7cf53 (X_lower x5.toNatClampNeg) (X_lower x6.toNatClampNeg)) (fun q17 =>
    if 0 ≤ (q14 * q17) then (
      jX2_inGap_129 x2 x3 x4 x5 x6
    ) else (
      jX2_inGap_129 x2 x3 (x4 + 1) x5 x6
    )
    )
    ) else none
    ) else none
    )
    ) else none
    ) else none
  )
noncomputable def bX2_inGap_20 (P_size : Nat → Int32) (P_uppers : Nat → Int32) (P_lowers : Nat → Int32) (O_places : Nat → Int32) (x2 : Int32) (x3 : Int32) (x4 : Int32) (x5 : Int32) (X_upper : Nat → Int32) (X_lower : Nat → Int32) : Option ((Int32 × Int32 × (Nat → Int32) × (Nat → Int32)) ⊕ (Int32 × (Nat → Int32) × (Nat → Int32))) :=
  if x3 ≤ x5 then (
    some (.inr (x4, X_upper, X_lower))
  ) else (
    Option.bind (fX6_endOf P_size P_uppers P_lowers x2 x5 1) (fun q4 =>
    Option.bind (fX4_placeIn O_places x2 q4) (fun q5 =>
    if q_in x5 24 then (
    Option.bind (fX6_endOf P_size P_uppers P_lowers x2 x5 0) (fun q7 =>
    Option.bind (fX4_placeIn O_places (x2 + 1) q7) (fun q8 =>
    if q_in x5 24 then (
    Option.bind (q_lo (fun (st : Int32 × Int32) => bX2_inGap_77 (upd X_upper x5.toNatClampNeg q5) (upd X_lower x5.toNatClampNeg q8) x2 x3 x5 st.1 st.2) (x4, 0)) (fun q10 =>
      some (.inl (q10, (x5 + 1), (upd X_upper x5.toNatClampNeg q5), (upd X_lower x5.toNatClampNeg q8))))
    ) else none
    )
    )
    ) else none
    )
    )
  )
noncomputable def fX2_inGap (P_size : Nat → Int32) (P_uppers : Nat → Int32) (P_lowers : Nat → Int32) (X_upper : Nat → Int32) (X_lower : Nat → Int32) (O_places : Nat → Int32) (p1 : Int32) : Option (Int32 × (Nat → Int32) × (Nat → Int32)) :=
  Option.bind (fX6_sizeOf P_size p1) (fun q1 =>
  q_let (if (24 : Int32) < q1 then (24 : Int32) else q1) (fun v2 =>
  q_b3 (q_lo (fun (st : Int32 × Int32 × (Nat → Int32) × (Nat → Int32)) => bX2_inGap_20 P_size P_uppers P_lowers O_places p1 v2 st.1 st.2.1 st.2.2.1 st.2.2.2) (0, 0, X_upper, X_lower)) (fun q3_0 q3_1 q3_2 =>
    some (q3_0, q3_1, q3_2))
  )
  )
abbrev iX2_around (aS : Nat → Nat) (aO : Nat → Nat) (cI cZ : ClassId) (P_size : Nat → Int32) (P_uppers : Nat → Int32) (P_lowers : Nat → Int32) (X_upper : Nat → Int32) (X_lower : Nat → Int32) (O_layers : Int32) (O_places : Nat → Int32) : va_W := [((aS 16), .inr (2, [.ref (aS 11), .ref (aS 17), .ref (aS 18)])), ((aS 11), .inr (6, [.ref (aS 12), .ref (aS 13), .ref (aS 14), .ref (aS 15)])), ((aS 12), .inl (cI, 24, .inl P_size)), ((aS 14), .inl (cI, 576, .inl P_uppers)), ((aS 15), .inl (cI, 576, .inl P_lowers)), ((aS 17), .inl (cI, 24, .inl X_upper)), ((aS 18), .inl (cI, 24, .inl X_lower)), ((aO 0), .inr (4, [.int O_layers, .ref (aO 1), .ref (aO 2), .ref (aO 3), .ref (aO 4)])), ((aO 3), .inl (cI, 960, .inl O_places))]
noncomputable def fX2_around (P_size : Nat → Int32) (P_uppers : Nat → Int32) (P_lowers : Nat → Int32) (X_upper : Nat → Int32) (X_lower : Nat → Int32) (O_places : Nat → Int32) (p1 : Int32) : Option (Int32 × (Nat → Int32) × (Nat → Int32)) :=
  q_b3 (fX2_inGap P_size P_uppers P_lowers X_upper X_lower O_places (p1 - 1)) (fun q1_0 q1_1 q1_2 =>
  q_b3 (fX2_inGap P_size P_uppers P_lowers q1_1 q1_2 O_places p1) (fun q2_0 q2_1 q2_2 =>
  some ((q1_0 + q2_0), q2_1, q2_2)
  )
  )
abbrev iX2_inAll (aS : Nat → Nat) (aO : Nat → Nat) (cI cZ : ClassId) (P_size : Nat → Int32) (P_uppers : Nat → Int32) (P_lowers : Nat → Int32) (X_upper : Nat → Int32) (X_lower : Nat → Int32) (O_layers : Int32) (O_places : Nat → Int32) : va_W := [((aS 16), .inr (2, [.ref (aS 11), .ref (aS 17), .ref (aS 18)])), ((aS 11), .inr (6, [.ref (aS 12), .ref (aS 13), .ref (aS 14), .ref (aS 15)])), ((aS 12), .inl (cI, 24, .inl P_size)), ((aS 14), .inl (cI, 576, .inl P_uppers)), ((aS 15), .inl (cI, 576, .inl P_lowers)), ((aS 17), .inl (cI, 24, .inl X_upper)), ((aS 18), .inl (cI, 24, .inl X_lower)), ((aO 0), .inr (4, [.int O_layers, .ref (aO 1), .ref (aO 2), .ref (aO 3), .ref (aO 4)])), ((aO 3), .inl (cI, 960, .inl O_places))]
noncomputable def bX2_inAll_4 (P_size : Nat → Int32) (P_uppers : Nat → Int32) (P_lowers : Nat → Int32) (O_layers : Int32) (O_places : Nat → Int32) (x2 : Int32) (x3 : Int32) (X_upper : Nat → Int32) (X_lower : Nat → Int32) : Option ((Int32 × Int32 × (Nat → Int32) × (Nat → Int32)) ⊕ (Int32 × (Nat → Int32) × (Nat → Int32))) :=
  Option.bind (fX4_layers O_layers) (fun q2 =>
  if (q2 - 1) ≤ x3 then (
    some (.inr (x2, X_upper, X_lower))
  ) else (
    q_b3 (fX2_inGap P_size P_uppers P_lowers X_upper X_lower O_places x3) (fun q3_0 q3_1 q3_2 =>
    some (.inl ((x2 + q3_0), (x3 + 1), q3_1, q3_2))
    )
  )
  )
noncomputable def fX2_inAll (P_size : Nat → Int32) (P_uppers : Nat → Int32) (P_lowers : Nat → Int32) (X_upper : Nat → Int32) (X_lower : Nat → Int32) (O_layers : Int32) (O_places : Nat → Int32) : Option (Int32 × (Nat → Int32) × (Nat → Int32)) :=
  q_b3 (q_lo (fun (st : Int32 × Int32 × (Nat → Int32) × (Nat → Int32)) => bX2_inAll_4 P_size P_uppers P_lowers O_layers O_places st.1 st.2.1 st.2.2.1 st.2.2.2) (0, 0, X_upper, X_lower)) (fun q1_0 q1_1 q1_2 =>
    some (q1_0, q1_1, q1_2))
abbrev iX0_isPlace (cI cZ : ClassId) : va_W := []
noncomputable def fX0_isPlace (p0 : Int32) : Option (Int32) :=
  if p0 < 0 then (
    some 0
  ) else (
    if 6 ≤ p0 then (
      some 0
    ) else (
      some 1
    )
  )
abbrev iX0_addCost (aS : Nat → Nat) (cI cZ : ClassId) (B_cost : Nat → Int32) (B_above : Nat → Int32) (B_below : Nat → Int32) (B_bestCost : Int32) (B_size : Int32) : va_W := [((aS 28), .inr (0, [.ref (aS 11), .ref (aS 29), .ref (aS 30), .ref (aS 31), .ref (aS 32), .ref (aS 33), .ref (aS 34), .ref (aS 35), .int B_bestCost, .int B_size])), ((aS 29), .inl (cI, 36, .inl B_cost)), ((aS 30), .inl (cI, 24, .inl B_above)), ((aS 31), .inl (cI, 24, .inl B_below))]
noncomputable def jX0_addCost_29 (B_cost : Nat → Int32) (B_above : Nat → Int32) (B_below : Nat → Int32) (x1 : Int32) (x2 : Int32) (s0 : Int32) : Option ((Nat → Int32)) :=
  if s0 = 0 then (
    some B_cost
  ) else (
    if q_in x1 24 then (
    if q_in x2 24 then (
    if (B_above x1.toNatClampNeg) ≤ (B_above x2.toNatClampNeg) then (
      some B_cost
    ) else (
      if q_in x1 24 then (
      if q_in x2 24 then (
      if q_in (((B_below x1.toNatClampNeg) * 6) + (B_below x2.toNatClampNeg)) 36 then (
      if q_in (((B_below x1.toNatClampNeg) * 6) + (B_below x2.toNatClampNeg)) 36 then (
      some (upd B_cost (((B_below x1.toNatClampNeg) * 6) + (B_below x2.toNatClampNeg)).toNatClampNeg ((B_cost (((B_below x1.toNatClampNeg) * 6) + (B_below x2.toNatClampNeg)).toNatClampNeg) + 1))
      ) else none
      ) else none
      ) else none
      ) else none
    )
    ) else none
    ) else none
  )
noncomputable def jX0_addCost_28 (B_cost : Nat → Int32) (B_above : Nat → Int32) (B_below : Nat → Int32) (x1 : Int32) (x2 : Int32) : Option ((Nat → Int32)) :=
  jX0_addCost_29 B_cost B_above B_below x1 x2 0
noncomputable def fX0_addCost (B_cost : Nat → Int32) (B_above : Nat → Int32) (B_below : Nat → Int32) (p0 : Int32) (p1 : Int32) : Option ((Nat → Int32)) :=
  if q_in p0 24 then (
  Option.bind (fX0_isPlace (B_below p0.toNatClampNeg)) (fun q10 =>
  if q10 = 0 then (
    jX0_addCost_28 B_cost B_above B_below p0 p1
  ) else (
    if q_in p1 24 then (
    Option.bind (fX0_isPlace (B_below p1.toNatClampNeg)) (fun q12 =>
    if q12 = 0 then (
      jX0_addCost_28 B_cost B_above B_below p0 p1
    ) else (
      jX0_addCost_29 B_cost B_above B_below p0 p1 1
    )
    )
    ) else none
  )
  )
  ) else none
abbrev iX0_findCosts (aS : Nat → Nat) (aO : Nat → Nat) (cI cZ : ClassId) (P_size : Nat → Int32) (P_uppers : Nat → Int32) (P_lowers : Nat → Int32) (B_cost : Nat → Int32) (B_above : Nat → Int32) (B_below : Nat → Int32) (B_bestCost : Int32) (B_size : Int32) (O_layers : Int32) (O_places : Nat → Int32) : va_W := [((aS 28), .inr (0, [.ref (aS 11), .ref (aS 29), .ref (aS 30), .ref (aS 31), .ref (aS 32), .ref (aS 33), .ref (aS 34), .ref (aS 35), .int B_bestCost, .int B_size])), ((aS 11), .inr (6, [.ref (aS 12), .ref (aS 13), .ref (aS 14), .ref (aS 15)])), ((aS 12), .inl (cI, 24, .inl P_size)), ((aS 14), .inl (cI, 576, .inl P_uppers)), ((aS 15), .inl (cI, 576, .inl P_lowers)), ((aS 29), .inl (cI, 36, .inl B_cost)), ((aS 30), .inl (cI, 24, .inl B_above)), ((aS 31), .inl (cI, 24, .inl B_below)), ((aO 0), .inr (4, [.int O_layers, .ref (aO 1), .ref (aO 2), .ref (aO 3), .ref (aO 4)])), ((aO 3), .inl (cI, 960, .inl O_places))]
noncomputable def bX0_findCosts_86 (B_above : Nat → Int32) (B_below : Nat → Int32) (x5 : Int32) (x6 : Int32) (B_cost : Nat → Int32) : Option ((Int32 × (Nat → Int32)) ⊕ ((Nat → Int32))) :=
  if x5 ≤ x6 then (
    some (.inr B_cost)
  ) else (
    Option.bind (fX0_addCost B_cost B_above B_below x5 x6) (fun q11 =>
    Option.bind (fX0_addCost q11 B_above B_below x6 x5) (fun q12 =>
    some (.inl ((x6 + 1), q12))
    )
    )
  )
noncomputable def bX0_findCosts_30 (P_size : Nat → Int32) (P_uppers : Nat → Int32) (P_lowers : Nat → Int32) (O_places : Nat → Int32) (x2 : Int32) (x3 : Int32) (x4 : Int32) (x5 : Int32) (B_cost : Nat → Int32) (B_above : Nat → Int32) (B_below : Nat → Int32) : Option ((Int32 × (Nat → Int32) × (Nat → Int32) × (Nat → Int32)) ⊕ ((Nat → Int32) × (Nat → Int32) × (Nat → Int32))) :=
  if x4 ≤ x5 then (
    some (.inr (B_cost, B_above, B_below))
  ) else (
    Option.bind (fX6_endOf P_size P_uppers P_lowers x3 x5 1) (fun q4 =>
    Option.bind (fX4_placeIn O_places x3 q4) (fun q5 =>
    if q_in x5 24 then (
    Option.bind (fX6_endOf P_size P_uppers P_lowers x3 x5 0) (fun q7 =>
    Option.bind (fX4_placeIn O_places x2 q7) (fun q8 =>
    if q_in x5 24 then (
    Option.bind (q_lo (fun (st : Int32 × (Nat → Int32)) => bX0_findCosts_86 (upd B_above x5.toNatClampNeg q5) (upd B_below x5.toNatClampNeg q8) x5 st.1 st.2) (0, B_cost)) (fun q10 =>
      some (.inl ((x5 + 1), q10, (upd B_above x5.toNatClampNeg q5), (upd B_below x5.toNatClampNeg q8))))
    ) else none
    )
    )
    ) else none
    )
    )
  )
noncomputable def fX0_findCosts (P_size : Nat → Int32) (P_uppers : Nat → Int32) (P_lowers : Nat → Int32) (B_above : Nat → Int32) (B_below : Nat → Int32) (O_places : Nat → Int32) (p1 : Int32) : Option ((Nat → Int32) × (Nat → Int32) × (Nat → Int32)) :=
  Option.bind (fX6_sizeOf P_size (p1 - 1)) (fun q1 =>
  q_let (if (24 : Int32) < q1 then (24 : Int32) else q1) (fun v2 =>
  q_b3 (q_lo (fun (st : Int32 × (Nat → Int32) × (Nat → Int32) × (Nat → Int32)) => bX0_findCosts_30 P_size P_uppers P_lowers O_places p1 (p1 - 1) v2 st.1 st.2.1 st.2.2.1 st.2.2.2) (0, (fun _ => 0), B_above, B_below)) (fun q3_0 q3_1 q3_2 =>
    some (q3_0, q3_1, q3_2))
  )
  )
abbrev iX0_costAhead (aS : Nat → Nat) (cI cZ : ClassId) (B_cost : Nat → Int32) (B_used : Nat → Int32) (B_bestCost : Int32) (B_size : Int32) : va_W := [((aS 28), .inr (0, [.ref (aS 11), .ref (aS 29), .ref (aS 30), .ref (aS 31), .ref (aS 32), .ref (aS 33), .ref (aS 34), .ref (aS 35), .int B_bestCost, .int B_size])), ((aS 29), .inl (cI, 36, .inl B_cost)), ((aS 33), .inl (cZ, 6, .inl B_used))]
noncomputable def jX0_costAhead_35 (x1 : Int32) (x2 : Int32) (x3 : Int32) : Option ((Int32 × Int32) ⊕ (Int32)) :=
  some (.inl (x2, (x3 + 1)))
noncomputable def bX0_costAhead_4 (B_cost : Nat → Int32) (B_used : Nat → Int32) (B_size : Int32) (x1 : Int32) (x2 : Int32) (x3 : Int32) : Option ((Int32 × Int32) ⊕ (Int32)) :=
  if B_size ≤ x3 then (
    some (.inr x2)
  ) else (
    if q_in x3 6 then (
    if (B_used x3.toNatClampNeg) = 0 then (
      if q_in ((x1 * 6) + x3) 36 then (
      q_let (x2 + (B_cost ((x1 * 6) + x3).toNatClampNeg)) (fun v5 =>
      jX0_costAhead_35 x1 v5 x3
      )
      ) else none
    ) else (
      jX0_costAhead_35 x1 x2 x3
    )
    ) else none
  )
noncomputable def fX0_costAhead (B_cost : Nat → Int32) (B_used : Nat → Int32) (B_size : Int32) (p0 : Int32) : Option (Int32) :=
  Option.bind (q_lo (fun (st : Int32 × Int32) => bX0_costAhead_4 B_cost B_used B_size p0 st.1 st.2) (0, 0)) (fun q1 =>
    some q1)
abbrev iX0_chooseBehind (aS : Nat → Nat) (cI cZ : ClassId) (B_cost : Nat → Int32) (B_used : Nat → Int32) (B_chosen : Nat → Int32) (B_best : Nat → Int32) (B_bestCost : Int32) (B_size : Int32) : va_W := [((aS 28), .inr (0, [.ref (aS 11), .ref (aS 29), .ref (aS 30), .ref (aS 31), .ref (aS 32), .ref (aS 33), .ref (aS 34), .ref (aS 35), .int B_bestCost, .int B_size])), ((aS 29), .inl (cI, 36, .inl B_cost)), ((aS 33), .inl (cZ, 6, .inl B_used)), ((aS 34), .inl (cI, 6, .inl B_chosen)), ((aS 35), .inl (cI, 6, .inl B_best))]
noncomputable def fX0_chooseBehind (rec : (Nat → Int32) → (Nat → Int32) → (Nat → Int32) → (Nat → Int32) → (Int32) → (Int32) → Int32 → Int32 → Option ((Nat → Int32) × (Nat → Int32) × (Nat → Int32) × Int32)) (B_cost : Nat → Int32) (B_used : Nat → Int32) (B_chosen : Nat → Int32) (B_best : Nat → Int32) (B_bestCost : Int32) (B_size : Int32) (p0 : Int32) (p1 : Int32) (p2 : Int32) : Option ((Nat → Int32) × (Nat → Int32) × (Nat → Int32) × Int32) :=
  if q_in p0 6 then (
  Option.bind (fX0_costAhead B_cost (upd B_used p0.toNatClampNeg 1) B_size p0) (fun q2 =>
  q_b4 (rec B_cost (upd B_used p0.toNatClampNeg 1) B_chosen B_best B_bestCost B_size (p1 + 1) (p2 + q2)) (fun q3_0 q3_1 q3_2 q3_3 =>
  if q_in p0 6 then (
  some ((upd q3_0 p0.toNatClampNeg 0), q3_1, q3_2, q3_3)
  ) else none
  )
  )
  ) else none
abbrev iX0_choose (aS : Nat → Nat) (cI cZ : ClassId) (B_cost : Nat → Int32) (B_used : Nat → Int32) (B_chosen : Nat → Int32) (B_best : Nat → Int32) (B_bestCost : Int32) (B_size : Int32) : va_W := [((aS 28), .inr (0, [.ref (aS 11), .ref (aS 29), .ref (aS 30), .ref (aS 31), .ref (aS 32), .ref (aS 33), .ref (aS 34), .ref (aS 35), .int B_bestCost, .int B_size])), ((aS 29), .inl (cI, 36, .inl B_cost)), ((aS 33), .inl (cZ, 6, .inl B_used)), ((aS 34), .inl (cI, 6, .inl B_chosen)), ((aS 35), .inl (cI, 6, .inl B_best))]
noncomputable def jX0_choose_23 (rec : (Nat → Int32) → (Nat → Int32) → (Nat → Int32) → (Nat → Int32) → (Int32) → (Int32) → Int32 → Int32 → Option ((Nat → Int32) × (Nat → Int32) × (Nat → Int32) × Int32)) (B_used : Nat → Int32) (B_chosen : Nat → Int32) (B_best : Nat → Int32) (x2 : Int32) : Option ((Nat → Int32) × (Nat → Int32) × (Nat → Int32) × Int32) :=
  some (B_used, B_chosen, (va_cpy B_chosen B_best (Int32.toNatClampNeg 0) (Int32.toNatClampNeg 0) (Int32.toNatClampNeg 6)), x2)
noncomputable def jX0_choose_77 (rec : (Nat → Int32) → (Nat → Int32) → (Nat → Int32) → (Nat → Int32) → (Int32) → (Int32) → Int32 → Int32 → Option ((Nat → Int32) × (Nat → Int32) × (Nat → Int32) × Int32)) (B_used : Nat → Int32) (B_chosen : Nat → Int32) (B_best : Nat → Int32) (B_bestCost : Int32) (x1 : Int32) (x2 : Int32) (x3 : Int32) : Option ((Int32 × (Nat → Int32) × (Nat → Int32) × (Nat → Int32) × Int32) ⊕ ((Nat → Int32) × (Nat → Int32) × (Nat → Int32) × Int32)) :=
  some (.inl ((x3 + 1), B_used, B_chosen, B_best, B_bestCost))
noncomputable def bX0_choose_46 (rec : (Nat → Int32) → (Nat → Int32) → (Nat → Int32) → (Nat → Int32) → (Int32) → (Int32) → Int32 → Int32 → Option ((Nat → Int32) × (Nat → Int32) × (Nat → Int32) × Int32)) (B_cost : Nat → Int32) (B_size : Int32) (x1 : Int32) (x2 : Int32) (x3 : Int32) (B_used : Nat → Int32) (B_chosen : Nat → Int32) (B_best : Nat → Int32) (B_bestCost : Int32) : Option ((Int32 × (Nat → Int32) × (Nat → Int32) × (Nat → Int32) × Int32) ⊕ ((Nat → Int32) × (Nat → Int32) × (Nat → Int32) × Int32)) :=
  if B_size ≤ x3 then (
    some (.inr (B_used, B_chosen, B_best, B_bestCost))
  ) else (
    if q_in x3 6 then (
    if (B_used x3.toNatClampNeg) = 0 then (
      if q_in x1 6 then (
      q_b4 (fX0_chooseBehind rec B_cost B_used (upd B_chosen x1.toNatClampNeg x3) B_best B_bestCost B_size x3 x1 x2) (fun q6_0 q6_1 q6_2 q6_3 =>
      jX0_choose_77 rec q6_0 q6_1 q6_2 q6_3 x1 x2 x3
      )
      ) else none
    ) else (
      jX0_choose_77 rec B_used B_chosen B_best B_bestCost x1 x2 x3
    )
    ) else none
  )
noncomputable def gX0_choose (rec : (Nat → Int32) → (Nat → Int32) → (Nat → Int32) → (Nat → Int32) → (Int32) → (Int32) → Int32 → Int32 → Option ((Nat → Int32) × (Nat → Int32) × (Nat → Int32) × Int32)) (B_cost : Nat → Int32) (B_used : Nat → Int32) (B_chosen : Nat → Int32) (B_best : Nat → Int32) (B_bestCost : Int32) (B_size : Int32) (p0 : Int32) (p1 : Int32) : Option ((Nat → Int32) × (Nat → Int32) × (Nat → Int32) × Int32) :=
  if p1 < B_bestCost then (
    if B_size ≤ p0 then (
      jX0_choose_23 rec B_used B_chosen B_best p1
    ) else (
      if p0 < 6 then (
        q_b4 (q_lo (fun (st : Int32 × (Nat → Int32) × (Nat → Int32) × (Nat → Int32) × Int32) => bX0_choose_46 rec B_cost B_size p0 p1 st.1 st.2.1 st.2.2.1 st.2.2.2.1 st.2.2.2.2) (0, B_used, B_chosen, B_best, B_bestCost)) (fun q2_0 q2_1 q2_2 q2_3 =>
          some (q2_0, q2_1, q2_2, q2_3))
      ) else (
        jX0_choose_23 rec B_used B_chosen B_best p1
      )
    )
  ) else (
    some (B_used, B_chosen, B_best, B_bestCost)
  )
noncomputable def fX0_choose : Nat → (Nat → Int32) → (Nat → Int32) → (Nat → Int32) → (Nat → Int32) → (Int32) → (Int32) → Int32 → Int32 → Option ((Nat → Int32) × (Nat → Int32) × (Nat → Int32) × Int32)
  | 0 => fun _ _ _ _ _ _ _ _ => none
  | d + 1 => fun B_cost B_used B_chosen B_best B_bestCost B_size p0 p1 => gX0_choose (fX0_choose d) B_cost B_used B_chosen B_best B_bestCost B_size p0 p1
abbrev iX0_arrange (aS : Nat → Nat) (aO : Nat → Nat) (cI cZ : ClassId) (P_size : Nat → Int32) (P_uppers : Nat → Int32) (P_lowers : Nat → Int32) (B_cost : Nat → Int32) (B_above : Nat → Int32) (B_below : Nat → Int32) (B_codes : Nat → Int32) (B_used : Nat → Int32) (B_chosen : Nat → Int32) (B_best : Nat → Int32) (B_bestCost : Int32) (B_size : Int32) (O_layers : Int32) (O_size : Nat → Int32) (O_rows : Nat → Int32) (O_places : Nat → Int32) (O_home : Nat → Int32) : va_W := [((aS 28), .inr (0, [.ref (aS 11), .ref (aS 29), .ref (aS 30), .ref (aS 31), .ref (aS 32), .ref (aS 33), .ref (aS 34), .ref (aS 35), .int B_bestCost, .int B_size])), ((aS 11), .inr (6, [.ref (aS 12), .ref (aS 13), .ref (aS 14), .ref (aS 15)])), ((aS 12), .inl (cI, 24, .inl P_size)), ((aS 14), .inl (cI, 576, .inl P_uppers)), ((aS 15), .inl (cI, 576, .inl P_lowers)), ((aS 29), .inl (cI, 36, .inl B_cost)), ((aS 30), .inl (cI, 24, .inl B_above)), ((aS 31), .inl (cI, 24, .inl B_below)), ((aS 32), .inl (cI, 6, .inl B_codes)), ((aS 33), .inl (cZ, 6, .inl B_used)), ((aS 34), .inl (cI, 6, .inl B_chosen)), ((aS 35), .inl (cI, 6, .inl B_best)), ((aO 0), .inr (4, [.int O_layers, .ref (aO 1), .ref (aO 2), .ref (aO 3), .ref (aO 4)])), ((aO 1), .inl (cI, 24, .inl O_size)), ((aO 2), .inl (cI, 960, .inl O_rows)), ((aO 3), .inl (cI, 960, .inl O_places)), ((aO 4), .inl (cI, 16, .inl O_home))]
noncomputable def bX0_arrange_27 (B_size : Int32) (O_layers : Int32) (O_size : Nat → Int32) (O_rows : Nat → Int32) (x2 : Int32) (x3 : Int32) (B_codes : Nat → Int32) (B_used : Nat → Int32) : Option ((Int32 × (Nat → Int32) × (Nat → Int32)) ⊕ ((Nat → Int32) × (Nat → Int32))) :=
  if B_size ≤ x3 then (
    some (.inr (B_codes, B_used))
  ) else (
    Option.bind (fX4_itemIn O_layers O_size O_rows x2 x3) (fun q4 =>
    if q_in x3 6 then (
    if q_in x3 6 then (
    some (.inl ((x3 + 1), (upd B_codes x3.toNatClampNeg q4), (upd B_used x3.toNatClampNeg 0)))
    ) else none
    ) else none
    )
  )
noncomputable def bX0_arrange_74 (B_codes : Nat → Int32) (B_best : Nat → Int32) (B_size : Int32) (O_layers : Int32) (O_size : Nat → Int32) (x2 : Int32) (x3 : Int32) (O_rows : Nat → Int32) (O_places : Nat → Int32) (O_home : Nat → Int32) : Option ((Int32 × (Nat → Int32) × (Nat → Int32) × (Nat → Int32)) ⊕ ((Nat → Int32) × (Nat → Int32) × (Nat → Int32))) :=
  if B_size ≤ x3 then (
    some (.inr (O_rows, O_places, O_home))
  ) else (
    if q_in x3 6 then (
    if q_in (B_best x3.toNatClampNeg) 6 then (
    q_b3 (fX4_put O_layers O_size O_rows O_places O_home x2 x3 (B_codes (B_best x3.toNatClampNeg).toNatClampNeg)) (fun q11_0 q11_1 q11_2 =>
    some (.inl ((x3 + 1), q11_0, q11_1, q11_2))
    )
    ) else none
    ) else none
  )
noncomputable def fX0_arrange (P_size : Nat → Int32) (P_uppers : Nat → Int32) (P_lowers : Nat → Int32) (B_cost : Nat → Int32) (B_above : Nat → Int32) (B_below : Nat → Int32) (B_codes : Nat → Int32) (B_used : Nat → Int32) (B_chosen : Nat → Int32) (B_best : Nat → Int32) (B_bestCost : Int32) (O_layers : Int32) (O_size : Nat → Int32) (O_rows : Nat → Int32) (O_places : Nat → Int32) (O_home : Nat → Int32) (p1 : Int32) : Option ((Nat → Int32) × (Nat → Int32) × (Nat → Int32) × (Nat → Int32) × (Nat → Int32) × (Nat → Int32) × (Nat → Int32) × Int32 × Int32 × (Nat → Int32) × (Nat → Int32) × (Nat → Int32)) :=
  Option.bind (fX4_sizeOf O_layers O_size p1) (fun q1 =>
  if q1 ≤ 6 then (
    q_b3 (fX0_findCosts P_size P_uppers P_lowers B_above B_below O_places p1) (fun q2_0 q2_1 q2_2 =>
    q_b2 (q_lo (fun (st : Int32 × (Nat → Int32) × (Nat → Int32)) => bX0_arrange_27 q1 O_layers O_size O_rows p1 st.1 st.2.1 st.2.2) (0, B_codes, B_used)) (fun q3_0 q3_1 =>
      q_b4 (fX0_choose 8 q2_0 q3_1 B_chosen B_best 1073741824 q1 0 0) (fun q7_0 q7_1 q7_2 q7_3 =>
      q_b3 (q_lo (fun (st : Int32 × (Nat → Int32) × (Nat → Int32) × (Nat → Int32)) => bX0_arrange_74 q3_0 q7_2 q1 O_layers O_size p1 st.1 st.2.1 st.2.2.1 st.2.2.2) (0, O_rows, O_places, O_home)) (fun q8_0 q8_1 q8_2 =>
        some (q2_0, q2_1, q2_2, q3_0, q7_0, q7_1, q7_2, q7_3, q1, q8_0, q8_1, q8_2))
      ))
    )
  ) else (
    some (B_cost, B_above, B_below, B_codes, B_used, B_chosen, B_best, B_bestCost, q1, O_rows, O_places, O_home)
  )
  )
abbrev iX5_isCode (cI cZ : ClassId) : va_W := []
noncomputable def fX5_isCode (p0 : Int32) : Option (Int32) :=
  if p0 < 0 then (
    some 0
  ) else (
    if 40 ≤ p0 then (
      some 0
    ) else (
      some 1
    )
  )
abbrev iX5_findMedians (aS : Nat → Nat) (cI cZ : ClassId) (Q_own : Nat → Int32) (Q_far : Nat → Int32) (Q_degree : Nat → Int32) (Q_seen : Nat → Int32) (Q_median : Nat → Int32) (Q_movers : Int32) : va_W := [((aS 19), .inr (5, [.ref (aS 11), .ref (aS 16), .ref (aS 28), .ref (aS 20), .ref (aS 21), .ref (aS 22), .ref (aS 23), .ref (aS 24), .ref (aS 25), .ref (aS 26), .ref (aS 27), .int Q_movers])), ((aS 20), .inl (cI, 24, .inl Q_own)), ((aS 21), .inl (cI, 24, .inl Q_far)), ((aS 22), .inl (cI, 40, .inl Q_degree)), ((aS 23), .inl (cI, 40, .inl Q_seen)), ((aS 24), .inl (cI, 40, .inl Q_median))]
noncomputable def jX5_findMedians_58 (Q_degree : Nat → Int32) (x1 : Int32) (x2 : Int32) : Option ((Int32 × (Nat → Int32)) ⊕ ((Nat → Int32))) :=
  some (.inl ((x2 + 1), Q_degree))
noncomputable def bX5_findMedians_26 (Q_own : Nat → Int32) (x1 : Int32) (x2 : Int32) (Q_degree : Nat → Int32) : Option ((Int32 × (Nat → Int32)) ⊕ ((Nat → Int32))) :=
  if x1 ≤ x2 then (
    some (.inr Q_degree)
  ) else (
    if q_in x2 24 then (
    Option.bind (fX5_isCode (Q_own x2.toNatClampNeg)) (fun q4 =>
    if q4 = 0 then (
      jX5_findMedians_58 Q_degree x1 x2
    ) else (
      if q_in x2 24 then (
      if q_in (Q_own x2.toNatClampNeg) 40 then (
      if q_in (Q_own x2.toNatClampNeg) 40 then (
      jX5_findMedians_58 (upd Q_degree (Q_own x2.toNatClampNeg).toNatClampNeg ((Q_degree (Q_own x2.toNatClampNeg).toNatClampNeg) + 1)) x1 x2
      ) else none
      ) else none
      ) else none
    )
    )
    ) else none
  )
noncomputable def jX5_findMedians_129 (Q_seen : Nat → Int32) (Q_median : Nat → Int32) (x1 : Int32) (x2 : Int32) : Option ((Int32 × (Nat → Int32) × (Nat → Int32)) ⊕ ((Nat → Int32) × (Nat → Int32))) :=
  some (.inl ((x2 + 1), Q_seen, Q_median))
noncomputable def jX5_findMedians_119 (Q_seen : Nat → Int32) (Q_median : Nat → Int32) (x1 : Int32) (x2 : Int32) (x3 : Int32) : Option ((Int32 × (Nat → Int32) × (Nat → Int32)) ⊕ ((Nat → Int32) × (Nat → Int32))) :=
  if q_in x3 40 then (
  if q_in x3 40 then (
  jX5_findMedians_129 (upd Q_seen x3.toNatClampNeg ((Q_seen x3.toNatClampNeg) + 1)) Q_median x1 x2
  ) else none
  ) else none
noncomputable def bX5_findMedians_66 (Q_own : Nat → Int32) (Q_far : Nat → Int32) (Q_degree : Nat → Int32) (x1 : Int32) (x2 : Int32) (Q_seen : Nat → Int32) (Q_median : Nat → Int32) : Option ((Int32 × (Nat → Int32) × (Nat → Int32)) ⊕ ((Nat → Int32) × (Nat → Int32))) :=
  if x1 ≤ x2 then (
    some (.inr (Q_seen, Q_median))
  ) else (
    if q_in x2 24 then (
    Option.bind (fX5_isCode (Q_own x2.toNatClampNeg)) (fun q14 =>
    if q14 = 0 then (
      jX5_findMedians_129 Q_seen Q_median x1 x2
    ) else (
      if q_in (Q_own x2.toNatClampNeg) 40 then (
      if q_in (Q_own x2.toNatClampNeg) 40 then (
      if (Q_seen (Q_own x2.toNatClampNeg).toNatClampNeg) = (((Q_degree (Q_own x2.toNatClampNeg).toNatClampNeg) - 1) / 2) then (
        if q_in x2 24 then (
        if q_in (Q_own x2.toNatClampNeg) 40 then (
        jX5_findMedians_119 Q_seen (upd Q_median (Q_own x2.toNatClampNeg).toNatClampNeg (Q_far x2.toNatClampNeg)) x1 x2 (Q_own x2.toNatClampNeg)
        ) else none
        ) else none
      ) else (
        jX5_findMedians_119 Q_seen Q_median x1 x2 (Q_own x2.toNatClampNeg)
      )
      ) else none
      ) else none
    )
    )
    ) else none
  )
noncomputable def fX5_findMedians (Q_own : Nat → Int32) (Q_far : Nat → Int32) (p0 : Int32) : Option ((Nat → Int32) × (Nat → Int32) × (Nat → Int32)) :=
  Option.bind (q_lo (fun (st : Int32 × (Nat → Int32)) => bX5_findMedians_26 Q_own p0 st.1 st.2) (0, (fun _ => 0))) (fun q1 =>
    q_b2 (q_lo (fun (st : Int32 × (Nat → Int32) × (Nat → Int32)) => bX5_findMedians_66 Q_own Q_far q1 p0 st.1 st.2.1 st.2.2) (0, (fun _ => 0), (fun _ => (-1)))) (fun q8_0 q8_1 =>
      some (q1, q8_0, q8_1)))
abbrev iX5_gatherMovers (aS : Nat → Nat) (aO : Nat → Nat) (cI cZ : ClassId) (Q_median : Nat → Int32) (Q_stood : Nat → Int32) (Q_spots : Nat → Int32) (Q_movers : Int32) (O_layers : Int32) (O_size : Nat → Int32) (O_rows : Nat → Int32) : va_W := [((aS 19), .inr (5, [.ref (aS 11), .ref (aS 16), .ref (aS 28), .ref (aS 20), .ref (aS 21), .ref (aS 22), .ref (aS 23), .ref (aS 24), .ref (aS 25), .ref (aS 26), .ref (aS 27), .int Q_movers])), ((aS 24), .inl (cI, 40, .inl Q_median)), ((aS 25), .inl (cI, 40, .inl Q_stood)), ((aS 27), .inl (cI, 40, .inl Q_spots)), ((aO 0), .inr (4, [.int O_layers, .ref (aO 1), .ref (aO 2), .ref (aO 3), .ref (aO 4)])), ((aO 1), .inl (cI, 24, .inl O_size)), ((aO 2), .inl (cI, 960, .inl O_rows))]
noncomputable def jX5_gatherMovers_85 (Q_stood : Nat → Int32) (Q_spots : Nat → Int32) (Q_movers : Int32) (x2 : Int32) (x3 : Int32) (x4 : Int32) : Option ((Int32 × (Nat → Int32) × (Nat → Int32) × Int32) ⊕ ((Nat → Int32) × (Nat → Int32) × Int32)) :=
  some (.inl ((x4 + 1), Q_stood, Q_spots, Q_movers))
noncomputable def bX5_gatherMovers_19 (Q_median : Nat → Int32) (O_layers : Int32) (O_size : Nat → Int32) (O_rows : Nat → Int32) (x2 : Int32) (x3 : Int32) (x4 : Int32) (Q_stood : Nat → Int32) (Q_spots : Nat → Int32) (Q_movers : Int32) : Option ((Int32 × (Nat → Int32) × (Nat → Int32) × Int32) ⊕ ((Nat → Int32) × (Nat → Int32) × Int32)) :=
  if x3 ≤ x4 then (
    some (.inr (Q_stood, Q_spots, Q_movers))
  ) else (
    Option.bind (fX4_itemIn O_layers O_size O_rows x2 x4) (fun q5 =>
    Option.bind (fX5_isCode q5) (fun q6 =>
    if q6 = 0 then (
      jX5_gatherMovers_85 Q_stood Q_spots Q_movers x2 x3 x4
    ) else (
      if q_in q5 40 then (
      if (Q_median q5.toNatClampNeg) = (-1) then (
        jX5_gatherMovers_85 Q_stood Q_spots Q_movers x2 x3 x4
      ) else (
        if q_in Q_movers 40 then (
        if q_in Q_movers 40 then (
        jX5_gatherMovers_85 (upd Q_stood Q_movers.toNatClampNeg q5) (upd Q_spots Q_movers.toNatClampNeg x4) (Q_movers + 1) x2 x3 x4
        ) else none
        ) else none
      )
      ) else none
    )
    )
    )
  )
noncomputable def fX5_gatherMovers (Q_median : Nat → Int32) (Q_stood : Nat → Int32) (Q_spots : Nat → Int32) (O_layers : Int32) (O_size : Nat → Int32) (O_rows : Nat → Int32) (p1 : Int32) : Option ((Nat → Int32) × (Nat → Int32) × Int32) :=
  Option.bind (fX4_sizeOf O_layers O_size p1) (fun q1 =>
  q_let (if (40 : Int32) < q1 then (40 : Int32) else q1) (fun v2 =>
  q_b3 (q_lo (fun (st : Int32 × (Nat → Int32) × (Nat → Int32) × Int32) => bX5_gatherMovers_19 Q_median O_layers O_size O_rows p1 v2 st.1 st.2.1 st.2.2.1 st.2.2.2) (0, Q_stood, Q_spots, 0)) (fun q3_0 q3_1 q3_2 =>
    some (q3_0, q3_1, q3_2))
  )
  )
abbrev iX5_loadEnds (aS : Nat → Nat) (aO : Nat → Nat) (cI cZ : ClassId) (P_size : Nat → Int32) (P_uppers : Nat → Int32) (P_lowers : Nat → Int32) (Q_own : Nat → Int32) (Q_far : Nat → Int32) (Q_movers : Int32) (O_layers : Int32) (O_places : Nat → Int32) : va_W := [((aS 19), .inr (5, [.ref (aS 11), .ref (aS 16), .ref (aS 28), .ref (aS 20), .ref (aS 21), .ref (aS 22), .ref (aS 23), .ref (aS 24), .ref (aS 25), .ref (aS 26), .ref (aS 27), .int Q_movers])), ((aS 11), .inr (6, [.ref (aS 12), .ref (aS 13), .ref (aS 14), .ref (aS 15)])), ((aS 12), .inl (cI, 24, .inl P_size)), ((aS 14), .inl (cI, 576, .inl P_uppers)), ((aS 15), .inl (cI, 576, .inl P_lowers)), ((aS 20), .inl (cI, 24, .inl Q_own)), ((aS 21), .inl (cI, 24, .inl Q_far)), ((aO 0), .inr (4, [.int O_layers, .ref (aO 1), .ref (aO 2), .ref (aO 3), .ref (aO 4)])), ((aO 3), .inl (cI, 960, .inl O_places))]
noncomputable def bX5_loadEnds_100 (x9 : Int32) (x10 : Int32) (Q_own : Nat → Int32) (Q_far : Nat → Int32) : Option ((Int32 × (Nat → Int32) × (Nat → Int32)) ⊕ (Int32 × (Nat → Int32) × (Nat → Int32))) :=
  if x10 ≤ 0 then (
    some (.inr (x10, Q_own, Q_far))
  ) else (
    if q_in (x10 - 1) 24 then (
    if (Q_far (x10 - 1).toNatClampNeg) ≤ x9 then (
      some (.inr (x10, Q_own, Q_far))
    ) else (
      if q_in (x10 - 1) 24 then (
      if q_in x10 24 then (
      if q_in (x10 - 1) 24 then (
      if q_in x10 24 then (
      some (.inl ((x10 + (-1)), (upd Q_own x10.toNatClampNeg (Q_own (x10 - 1).toNatClampNeg)), (upd Q_far x10.toNatClampNeg (Q_far (x10 - 1).toNatClampNeg))))
      ) else none
      ) else none
      ) else none
      ) else none
    )
    ) else none
  )
noncomputable def jX5_loadEnds_71 (P_size : Nat → Int32) (P_uppers : Nat → Int32) (P_lowers : Nat → Int32) (Q_own : Nat → Int32) (Q_far : Nat → Int32) (O_places : Nat → Int32) (x3 : Int32) (x4 : Int32) (x5 : Int32) (x6 : Int32) (x7 : Int32) (s0 : Int32) (s1 : Int32) (s2 : Int32) : Option ((Int32 × (Nat → Int32) × (Nat → Int32)) ⊕ ((Nat → Int32) × (Nat → Int32))) :=
  Option.bind (fX6_endOf P_size P_uppers P_lowers s2 s1 s0) (fun q6 =>
  Option.bind (fX6_endOf P_size P_uppers P_lowers x4 x7 x3) (fun q7 =>
  Option.bind (fX4_placeIn O_places x5 q7) (fun q8 =>
  q_b3 (q_lo (fun (st : Int32 × (Nat → Int32) × (Nat → Int32)) => bX5_loadEnds_100 q8 st.1 st.2.1 st.2.2) (x7, Q_own, Q_far)) (fun q9_0 q9_1 q9_2 =>
    if q_in q9_0 24 then (
    if q_in q9_0 24 then (
    some (.inl ((x7 + 1), (upd q9_1 q9_0.toNatClampNeg q6), (upd q9_2 q9_0.toNatClampNeg q8)))
    ) else none
    ) else none)
  )
  )
  )
noncomputable def bX5_loadEnds_47 (P_size : Nat → Int32) (P_uppers : Nat → Int32) (P_lowers : Nat → Int32) (O_places : Nat → Int32) (x3 : Int32) (x4 : Int32) (x5 : Int32) (x6 : Int32) (x7 : Int32) (Q_own : Nat → Int32) (Q_far : Nat → Int32) : Option ((Int32 × (Nat → Int32) × (Nat → Int32)) ⊕ ((Nat → Int32) × (Nat → Int32))) :=
  if x6 ≤ x7 then (
    some (.inr (Q_own, Q_far))
  ) else (
    if x3 = 0 then (
      jX5_loadEnds_71 P_size P_uppers P_lowers Q_own Q_far O_places x3 x4 x5 x6 x7 1 x7 x4
    ) else (
      jX5_loadEnds_71 P_size P_uppers P_lowers Q_own Q_far O_places x3 x4 x5 x6 x7 0 x7 x4
    )
  )
noncomputable def jX5_loadEnds_26 (P_size : Nat → Int32) (P_uppers : Nat → Int32) (P_lowers : Nat → Int32) (Q_own : Nat → Int32) (Q_far : Nat → Int32) (O_places : Nat → Int32) (x3 : Int32) (x4 : Int32) (s0 : Int32) : Option (Int32 × (Nat → Int32) × (Nat → Int32)) :=
  Option.bind (fX6_sizeOf P_size x4) (fun q2 =>
  q_let (if (24 : Int32) < q2 then (24 : Int32) else q2) (fun v3 =>
  q_b2 (q_lo (fun (st : Int32 × (Nat → Int32) × (Nat → Int32)) => bX5_loadEnds_47 P_size P_uppers P_lowers O_places x3 x4 s0 v3 st.1 st.2.1 st.2.2) (0, Q_own, Q_far)) (fun q4_0 q4_1 =>
    some (v3, q4_0, q4_1))
  )
  )
noncomputable def jX5_loadEnds_11 (P_size : Nat → Int32) (P_uppers : Nat → Int32) (P_lowers : Nat → Int32) (Q_own : Nat → Int32) (Q_far : Nat → Int32) (O_places : Nat → Int32) (x2 : Int32) (x3 : Int32) (s0 : Int32) : Option (Int32 × (Nat → Int32) × (Nat → Int32)) :=
  if x3 = 0 then (
    jX5_loadEnds_26 P_size P_uppers P_lowers Q_own Q_far O_places x3 s0 (x2 + 1)
  ) else (
    jX5_loadEnds_26 P_size P_uppers P_lowers Q_own Q_far O_places x3 s0 (x2 - 1)
  )
noncomputable def fX5_loadEnds (P_size : Nat → Int32) (P_uppers : Nat → Int32) (P_lowers : Nat → Int32) (Q_own : Nat → Int32) (Q_far : Nat → Int32) (O_places : Nat → Int32) (p1 : Int32) (p2 : Int32) : Option (Int32 × (Nat → Int32) × (Nat → Int32)) :=
  if p2 = 0 then (
    jX5_loadEnds_11 P_size P_uppers P_lowers Q_own Q_far O_places p1 p2 p1
  ) else (
    jX5_loadEnds_11 P_size P_uppers P_lowers Q_own Q_far O_places p1 p2 (p1 - 1)
  )
abbrev iX5_sortMovers (aS : Nat → Nat) (cI cZ : ClassId) (Q_median : Nat → Int32) (Q_stood : Nat → Int32) (Q_sorted : Nat → Int32) (Q_movers : Int32) : va_W := [((aS 19), .inr (5, [.ref (aS 11), .ref (aS 16), .ref (aS 28), .ref (aS 20), .ref (aS 21), .ref (aS 22), .ref (aS 23), .ref (aS 24), .ref (aS 25), .ref (aS 26), .ref (aS 27), .int Q_movers])), ((aS 24), .inl (cI, 40, .inl Q_median)), ((aS 25), .inl (cI, 40, .inl Q_stood)), ((aS 26), .inl (cI, 40, .inl Q_sorted))]
noncomputable def bX5_sortMovers_22 (Q_median : Nat → Int32) (x3 : Int32) (x1 : Int32) (x4 : Int32) (Q_sorted : Nat → Int32) : Option ((Int32 × Int32 × (Nat → Int32)) ⊕ (Int32 × Int32 × (Nat → Int32))) :=
  if x4 ≤ 0 then (
    some (.inr (x1, x4, Q_sorted))
  ) else (
    if q_in (x4 - 1) 40 then (
    if q_in (Q_sorted (x4 - 1).toNatClampNeg) 40 then (
    if q_in x3 40 then (
    if (Q_median (Q_sorted (x4 - 1).toNatClampNeg).toNatClampNeg) ≤ (Q_median x3.toNatClampNeg) then (
      some (.inr (x1, x4, Q_sorted))
    ) else (
      if q_in (x4 - 1) 40 then (
      if q_in x4 40 then (
      some (.inl (1, (x4 + (-1)), (upd Q_sorted x4.toNatClampNeg (Q_sorted (x4 - 1).toNatClampNeg))))
      ) else none
      ) else none
    )
    ) else none
    ) else none
    ) else none
  )
noncomputable def bX5_sortMovers_4 (Q_median : Nat → Int32) (Q_stood : Nat → Int32) (Q_movers : Int32) (x1 : Int32) (x2 : Int32) (Q_sorted : Nat → Int32) : Option ((Int32 × Int32 × (Nat → Int32)) ⊕ (Int32 × (Nat → Int32))) :=
  if Q_movers ≤ x2 then (
    some (.inr (x1, Q_sorted))
  ) else (
    if q_in x2 40 then (
    q_let (Q_stood x2.toNatClampNeg) (fun v3 =>
    q_b3 (q_lo (fun (st : Int32 × Int32 × (Nat → Int32)) => bX5_sortMovers_22 Q_median v3 st.1 st.2.1 st.2.2) (x1, x2, Q_sorted)) (fun q4_0 q4_1 q4_2 =>
      if q_in q4_1 40 then (
      some (.inl (q4_0, (x2 + 1), (upd q4_2 q4_1.toNatClampNeg v3)))
      ) else none)
    )
    ) else none
  )
noncomputable def fX5_sortMovers (Q_median : Nat → Int32) (Q_stood : Nat → Int32) (Q_sorted : Nat → Int32) (Q_movers : Int32) : Option (Int32 × (Nat → Int32)) :=
  q_b2 (q_lo (fun (st : Int32 × Int32 × (Nat → Int32)) => bX5_sortMovers_4 Q_median Q_stood Q_movers st.1 st.2.1 st.2.2) (0, 0, Q_sorted)) (fun q1_0 q1_1 =>
    if q_tf q1_0 then (
    some (q1_0, q1_1)
    ) else none)
abbrev iX5_putMovers (aS : Nat → Nat) (aO : Nat → Nat) (aV : Nat) (cI cZ : ClassId) (Q_spots : Nat → Int32) (Q_movers : Int32) (O_layers : Int32) (O_size : Nat → Int32) (O_rows : Nat → Int32) (O_places : Nat → Int32) (O_home : Nat → Int32) (V_a : Nat → Int32) : va_W := [((aS 19), .inr (5, [.ref (aS 11), .ref (aS 16), .ref (aS 28), .ref (aS 20), .ref (aS 21), .ref (aS 22), .ref (aS 23), .ref (aS 24), .ref (aS 25), .ref (aS 26), .ref (aS 27), .int Q_movers])), ((aS 27), .inl (cI, 40, .inl Q_spots)), ((aO 0), .inr (4, [.int O_layers, .ref (aO 1), .ref (aO 2), .ref (aO 3), .ref (aO 4)])), ((aO 1), .inl (cI, 24, .inl O_size)), ((aO 2), .inl (cI, 960, .inl O_rows)), ((aO 3), .inl (cI, 960, .inl O_places)), ((aO 4), .inl (cI, 16, .inl O_home)), (aV, .inl (cI, 40, .inl V_a))]
noncomputable def bX5_putMovers_3 (Q_spots : Nat → Int32) (Q_movers : Int32) (O_layers : Int32) (O_size : Nat → Int32) (V_a : Nat → Int32) (x2 : Int32) (x4 : Int32) (O_rows : Nat → Int32) (O_places : Nat → Int32) (O_home : Nat → Int32) : Option ((Int32 × (Nat → Int32) × (Nat → Int32) × (Nat → Int32)) ⊕ ((Nat → Int32) × (Nat → Int32) × (Nat → Int32))) :=
  if Q_movers ≤ x4 then (
    some (.inr (O_rows, O_places, O_home))
  ) else (
    if q_in x4 40 then (
    if q_in x4 40 then (
    q_b3 (fX4_put O_layers O_size O_rows O_places O_home x2 (Q_spots x4.toNatClampNeg) (V_a x4.toNatClampNeg)) (fun q4_0 q4_1 q4_2 =>
    some (.inl ((x4 + 1), q4_0, q4_1, q4_2))
    )
    ) else none
    ) else none
  )
noncomputable def fX5_putMovers (Q_spots : Nat → Int32) (Q_movers : Int32) (O_layers : Int32) (O_size : Nat → Int32) (O_rows : Nat → Int32) (O_places : Nat → Int32) (O_home : Nat → Int32) (V_a : Nat → Int32) (p1 : Int32) : Option ((Nat → Int32) × (Nat → Int32) × (Nat → Int32)) :=
  q_b3 (q_lo (fun (st : Int32 × (Nat → Int32) × (Nat → Int32) × (Nat → Int32)) => bX5_putMovers_3 Q_spots Q_movers O_layers O_size V_a p1 st.1 st.2.1 st.2.2.1 st.2.2.2) (0, O_rows, O_places, O_home)) (fun q1_0 q1_1 q1_2 =>
    some (q1_0, q1_1, q1_2))
abbrev iX5_step (aS : Nat → Nat) (aO : Nat → Nat) (cI cZ : ClassId) (P_size : Nat → Int32) (P_uppers : Nat → Int32) (P_lowers : Nat → Int32) (X_upper : Nat → Int32) (X_lower : Nat → Int32) (Q_own : Nat → Int32) (Q_far : Nat → Int32) (Q_degree : Nat → Int32) (Q_seen : Nat → Int32) (Q_median : Nat → Int32) (Q_stood : Nat → Int32) (Q_sorted : Nat → Int32) (Q_spots : Nat → Int32) (Q_movers : Int32) (O_layers : Int32) (O_size : Nat → Int32) (O_rows : Nat → Int32) (O_places : Nat → Int32) (O_home : Nat → Int32) : va_W := [((aS 19), .inr (5, [.ref (aS 11), .ref (aS 16), .ref (aS 28), .ref (aS 20), .ref (aS 21), .ref (aS 22), .ref (aS 23), .ref (aS 24), .ref (aS 25), .ref (aS 26), .ref (aS 27), .int Q_movers])), ((aS 11), .inr (6, [.ref (aS 12), .ref (aS 13), .ref (aS 14), .ref (aS 15)])), ((aS 12), .inl (cI, 24, .inl P_size)), ((aS 14), .inl (cI, 576, .inl P_uppers)), ((aS 15), .inl (cI, 576, .inl P_lowers)), ((aS 16), .inr (2, [.ref (aS 11), .ref (aS 17), .ref (aS 18)])), ((aS 17), .inl (cI, 24, .inl X_upper)), ((aS 18), .inl (cI, 24, .inl X_lower)), ((aS 20), .inl (cI, 24, .inl Q_own)), ((aS 21), .inl (cI, 24, .inl Q_far)), ((aS 22), .inl (cI, 40, .inl Q_degree)), ((aS 23), .inl (cI, 40, .inl Q_seen)), ((aS 24), .inl (cI, 40, .inl Q_median)), ((aS 25), .inl (cI, 40, .inl Q_stood)), ((aS 26), .inl (cI, 40, .inl Q_sorted)), ((aS 27), .inl (cI, 40, .inl Q_spots)), ((aO 0), .inr (4, [.int O_layers, .ref (aO 1), .ref (aO 2), .ref (aO 3), .ref (aO 4)])), ((aO 1), .inl (cI, 24, .inl O_size)), ((aO 2), .inl (cI, 960, .inl O_rows)), ((aO 3), .inl (cI, 960, .inl O_places)), ((aO 4), .inl (cI, 16, .inl O_home))]
noncomputable def fX5_step (P_size : Nat → Int32) (P_uppers : Nat → Int32) (P_lowers : Nat → Int32) (X_upper : Nat → Int32) (X_lower : Nat → Int32) (Q_own : Nat → Int32) (Q_far : Nat → Int32) (Q_stood : Nat → Int32) (Q_sorted : Nat → Int32) (Q_spots : Nat → Int32) (O_layers : Int32) (O_size : Nat → Int32) (O_rows : Nat → Int32) (O_places : Nat → Int32) (O_home : Nat → Int32) (p1 : Int32) (p2 : Int32) : Option ((Nat → Int32) × (Nat → Int32) × (Nat → Int32) × (Nat → Int32) × (Nat → Int32) × (Nat → Int32) × (Nat → Int32) × (Nat → Int32) × (Nat → Int32) × (Nat → Int32) × Int32 × (Nat → Int32) × (Nat → Int32) × (Nat → Int32)) :=
  q_b3 (fX5_loadEnds P_size P_uppers P_lowers Q_own Q_far O_places p1 p2) (fun q1_0 q1_1 q1_2 =>
  q_b3 (fX5_findMedians q1_1 q1_2 q1_0) (fun q2_0 q2_1 q2_2 =>
  q_b3 (fX5_gatherMovers q2_2 Q_stood Q_spots O_layers O_size O_rows p1) (fun q3_0 q3_1 q3_2 =>
  q_b2 (fX5_sortMovers q2_2 q3_0 Q_sorted q3_2) (fun q4_0 q4_1 =>
  if q4_0 = 0 then (
    some (X_upper, X_lower, q1_1, q1_2, q2_0, q2_1, q2_2, q3_0, q4_1, q3_1, q3_2, O_rows, O_places, O_home)
  ) else (
    q_b3 (fX2_around P_size P_uppers P_lowers X_upper X_lower O_places p1) (fun q5_0 q5_1 q5_2 =>
    q_b3 (fX5_putMovers q3_1 q3_2 O_layers O_size O_rows O_places O_home q4_1 p1) (fun q6_0 q6_1 q6_2 =>
    q_b3 (fX2_around P_size P_uppers P_lowers q5_1 q5_2 q6_1 p1) (fun q7_0 q7_1 q7_2 =>
    if q7_0 ≤ q5_0 then (
      some (q7_1, q7_2, q1_1, q1_2, q2_0, q2_1, q2_2, q3_0, q4_1, q3_1, q3_2, q6_0, q6_1, q6_2)
    ) else (
      q_b3 (fX5_putMovers q3_1 q3_2 O_layers O_size q6_0 q6_1 q6_2 q3_0 p1) (fun q8_0 q8_1 q8_2 =>
      some (q7_1, q7_2, q1_1, q1_2, q2_0, q2_1, q2_2, q3_0, q4_1, q3_1, q3_2, q8_0, q8_1, q8_2)
      )
    )
    )
    )
    )
  )
  )
  )
  )
  )
abbrev iX5_sweep (aS : Nat → Nat) (aO : Nat → Nat) (cI cZ : ClassId) (P_size : Nat → Int32) (P_uppers : Nat → Int32) (P_lowers : Nat → Int32) (X_upper : Nat → Int32) (X_lower : Nat → Int32) (Q_own : Nat → Int32) (Q_far : Nat → Int32) (Q_degree : Nat → Int32) (Q_seen : Nat → Int32) (Q_median : Nat → Int32) (Q_stood : Nat → Int32) (Q_sorted : Nat → Int32) (Q_spots : Nat → Int32) (Q_movers : Int32) (O_layers : Int32) (O_size : Nat → Int32) (O_rows : Nat → Int32) (O_places : Nat → Int32) (O_home : Nat → Int32) : va_W := [((aS 19), .inr (5, [.ref (aS 11), .ref (aS 16), .ref (aS 28), .ref (aS 20), .ref (aS 21), .ref (aS 22), .ref (aS 23), .ref (aS 24), .ref (aS 25), .ref (aS 26), .ref (aS 27), .int Q_movers])), ((aS 11), .inr (6, [.ref (aS 12), .ref (aS 13), .ref (aS 14), .ref (aS 15)])), ((aS 12), .inl (cI, 24, .inl P_size)), ((aS 14), .inl (cI, 576, .inl P_uppers)), ((aS 15), .inl (cI, 576, .inl P_lowers)), ((aS 16), .inr (2, [.ref (aS 11), .ref (aS 17), .ref (aS 18)])), ((aS 17), .inl (cI, 24, .inl X_upper)), ((aS 18), .inl (cI, 24, .inl X_lower)), ((aS 20), .inl (cI, 24, .inl Q_own)), ((aS 21), .inl (cI, 24, .inl Q_far)), ((aS 22), .inl (cI, 40, .inl Q_degree)), ((aS 23), .inl (cI, 40, .inl Q_seen)), ((aS 24), .inl (cI, 40, .inl Q_median)), ((aS 25), .inl (cI, 40, .inl Q_stood)), ((aS 26), .inl (cI, 40, .inl Q_sorted)), ((aS 27), .inl (cI, 40, .inl Q_spots)), ((aO 0), .inr (4, [.int O_layers, .ref (aO 1), .ref (aO 2), .ref (aO 3), .ref (aO 4)])), ((aO 1), .inl (cI, 24, .inl O_size)), ((aO 2), .inl (cI, 960, .inl O_rows)), ((aO 3), .inl (cI, 960, .inl O_places)), ((aO 4), .inl (cI, 16, .inl O_home))]
noncomputable def bX5_sweep_2 (P_size : Nat → Int32) (P_uppers : Nat → Int32) (P_lowers : Nat → Int32) (O_layers : Int32) (O_size : Nat → Int32) (x2 : Int32) (X_upper : Nat → Int32) (X_lower : Nat → Int32) (Q_own : Nat → Int32) (Q_far : Nat → Int32) (Q_degree : Nat → Int32) (Q_seen : Nat → Int32) (Q_median : Nat → Int32) (Q_stood : Nat → Int32) (Q_sorted : Nat → Int32) (Q_spots : Nat → Int32) (Q_movers : Int32) (O_rows : Nat → Int32) (O_places : Nat → Int32) (O_home : Nat → Int32) : Option ((Int32 × (Nat → Int32) × (Nat → Int32) × (Nat → Int32) × (Nat → Int32) × (Nat → Int32) × (Nat → Int32) × (Nat → Int32) × (Nat → Int32) × (Nat → Int32) × (Nat → Int32) × Int32 × (Nat → Int32) × (Nat → Int32) × (Nat → Int32)) ⊕ ((Nat → Int32) × (Nat → Int32) × (Nat → Int32) × (Nat → Int32) × (Nat → Int32) × (Nat → Int32) × (Nat → Int32) × (Nat → Int32) × (Nat → Int32) × (Nat → Int32) × Int32 × (Nat → Int32) × (Nat → Int32) × (Nat → Int32))) :=
  Option.bind (fX4_layers O_layers) (fun q2 =>
  if q2 ≤ x2 then (
    some (.inr (X_upper, X_lower, Q_own, Q_far, Q_degree, Q_seen, Q_median, Q_stood, Q_sorted, Q_spots, Q_movers, O_rows, O_places, O_home))
  ) else (
    q_b14 (fX5_step P_size P_uppers P_lowers X_upper X_lower Q_own Q_far Q_stood Q_sorted Q_spots O_layers O_size O_rows O_places O_home x2 1) (fun q3_0 q3_1 q3_2 q3_3 q3_4 q3_5 q3_6 q3_7 q3_8 q3_9 q3_10 q3_11 q3_12 q3_13 =>
    some (.inl ((x2 + 1), q3_0, q3_1, q3_2, q3_3, q3_4, q3_5, q3_6, q3_7, q3_8, q3_9, q3_10, q3_11, q3_12, q3_13))
    )
  )
  )
noncomputable def bX5_sweep_30 (P_size : Nat → Int32) (P_uppers : Nat → Int32) (P_lowers : Nat → Int32) (O_layers : Int32) (O_size : Nat → Int32) (x2 : Int32) (X_upper : Nat → Int32) (X_lower : Nat → Int32) (Q_own : Nat → Int32) (Q_far : Nat → Int32) (Q_degree : Nat → Int32) (Q_seen : Nat → Int32) (Q_median : Nat → Int32) (Q_stood : Nat → Int32) (Q_sorted : Nat → Int32) (Q_spots : Nat → Int32) (Q_movers : Int32) (O_rows : Nat → Int32) (O_places : Nat → Int32) (O_home : Nat → Int32) : Option ((Int32 × (Nat → Int32) × (Nat → Int32) × (Nat → Int32) × (Nat → Int32) × (Nat → Int32) × (Nat → Int32) × (Nat → Int32) × (Nat → Int32) × (Nat → Int32) × (Nat → Int32) × Int32 × (Nat → Int32) × (Nat → Int32) × (Nat → Int32)) ⊕ ((Nat → Int32) × (Nat → Int32) × (Nat → Int32) × (Nat → Int32) × (Nat → Int32) × (Nat → Int32) × (Nat → Int32) × (Nat → Int32) × (Nat → Int32) × (Nat → Int32) × Int32 × (Nat → Int32) × (Nat → Int32) × (Nat → Int32))) :=
  if x2 < 0 then (
    some (.inr (X_upper, X_lower, Q_own, Q_far, Q_degree, Q_seen, Q_median, Q_stood, Q_sorted, Q_spots, Q_movers, O_rows, O_places, O_home))
  ) else (
    q_b14 (fX5_step P_size P_uppers P_lowers X_upper X_lower Q_own Q_far Q_stood Q_sorted Q_spots O_layers O_size O_rows O_places O_home x2 0) (fun q6_0 q6_1 q6_2 q6_3 q6_4 q6_5 q6_6 q6_7 q6_8 q6_9 q6_10 q6_11 q6_12 q6_13 =>
    some (.inl ((x2 + (-1)), q6_0, q6_1, q6_2, q6_3, q6_4, q6_5, q6_6, q6_7, q6_8, q6_9, q6_10, q6_11, q6_12, q6_13))
    )
  )
noncomputable def fX5_sweep (P_size : Nat → Int32) (P_uppers : Nat → Int32) (P_lowers : Nat → Int32) (X_upper : Nat → Int32) (X_lower : Nat → Int32) (Q_own : Nat → Int32) (Q_far : Nat → Int32) (Q_degree : Nat → Int32) (Q_seen : Nat → Int32) (Q_median : Nat → Int32) (Q_stood : Nat → Int32) (Q_sorted : Nat → Int32) (Q_spots : Nat → Int32) (Q_movers : Int32) (O_layers : Int32) (O_size : Nat → Int32) (O_rows : Nat → Int32) (O_places : Nat → Int32) (O_home : Nat → Int32) : Option ((Nat → Int32) × (Nat → Int32) × (Nat → Int32) × (Nat → Int32) × (Nat → Int32) × (Nat → Int32) × (Nat → Int32) × (Nat → Int32) × (Nat → Int32) × (Nat → Int32) × Int32 × (Nat → Int32) × (Nat → Int32) × (Nat → Int32)) :=
  q_b14 (q_lo (fun (st : Int32 × (Nat → Int32) × (Nat → Int32) × (Nat → Int32) × (Nat → Int32) × (Nat → Int32) × (Nat → Int32) × (Nat → Int32) × (Nat → Int32) × (Nat → Int32) × (Nat → Int32) × Int32 × (Nat → Int32) × (Nat → Int32) × (Nat → Int32)) => bX5_sweep_2 P_size P_uppers P_lowers O_layers O_size st.1 st.2.1 st.2.2.1 st.2.2.2.1 st.2.2.2.2.1 st.2.2.2.2.2.1 st.2.2.2.2.2.2.1 st.2.2.2.2.2.2.2.1 st.2.2.2.2.2.2.2.2.1 st.2.2.2.2.2.2.2.2.2.1 st.2.2.2.2.2.2.2.2.2.2.1 st.2.2.2.2.2.2.2.2.2.2.2.1 st.2.2.2.2.2.2.2.2.2.2.2.2.1 st.2.2.2.2.2.2.2.2.2.2.2.2.2.1 st.2.2.2.2.2.2.2.2.2.2.2.2.2.2) (1, X_upper, X_lower, Q_own, Q_far, Q_degree, Q_seen, Q_median, Q_stood, Q_sorted, Q_spots, Q_movers, O_rows, O_places, O_home)) (fun q1_0 q1_1 q1_2 q1_3 q1_4 q1_5 q1_6 q1_7 q1_8 q1_9 q1_10 q1_11 q1_12 q1_13 =>
    Option.bind (fX4_layers O_layers) (fun q4 =>
    q_b14 (q_lo (fun (st : Int32 × (Nat → Int32) × (Nat → Int32) × (Nat → Int32) × (Nat → Int32) × (Nat → Int32) × (Nat → Int32) × (Nat → Int32) × (Nat → Int32) × (Nat → Int32) × (Nat → Int32) × Int32 × (Nat → Int32) × (Nat → Int32) × (Nat → Int32)) => bX5_sweep_30 P_size P_uppers P_lowers O_layers O_size st.1 st.2.1 st.2.2.1 st.2.2.2.1 st.2.2.2.2.1 st.2.2.2.2.2.1 st.2.2.2.2.2.2.1 st.2.2.2.2.2.2.2.1 st.2.2.2.2.2.2.2.2.1 st.2.2.2.2.2.2.2.2.2.1 st.2.2.2.2.2.2.2.2.2.2.1 st.2.2.2.2.2.2.2.2.2.2.2.1 st.2.2.2.2.2.2.2.2.2.2.2.2.1 st.2.2.2.2.2.2.2.2.2.2.2.2.2.1 st.2.2.2.2.2.2.2.2.2.2.2.2.2.2) ((q4 - 2), q1_0, q1_1, q1_2, q1_3, q1_4, q1_5, q1_6, q1_7, q1_8, q1_9, q1_10, q1_11, q1_12, q1_13)) (fun q5_0 q5_1 q5_2 q5_3 q5_4 q5_5 q5_6 q5_7 q5_8 q5_9 q5_10 q5_11 q5_12 q5_13 =>
      some (q5_0, q5_1, q5_2, q5_3, q5_4, q5_5, q5_6, q5_7, q5_8, q5_9, q5_10, q5_11, q5_12, q5_13))
    ))
abbrev iX5_improve (aS : Nat → Nat) (aO : Nat → Nat) (cI cZ : ClassId) (P_size : Nat → Int32) (P_uppers : Nat → Int32) (P_lowers : Nat → Int32) (X_upper : Nat → Int32) (X_lower : Nat → Int32) (Q_own : Nat → Int32) (Q_far : Nat → Int32) (Q_degree : Nat → Int32) (Q_seen : Nat → Int32) (Q_median : Nat → Int32) (Q_stood : Nat → Int32) (Q_sorted : Nat → Int32) (Q_spots : Nat → Int32) (Q_movers : Int32) (B_cost : Nat → Int32) (B_above : Nat → Int32) (B_below : Nat → Int32) (B_codes : Nat → Int32) (B_used : Nat → Int32) (B_chosen : Nat → Int32) (B_best : Nat → Int32) (B_bestCost : Int32) (B_size : Int32) (O_layers : Int32) (O_size : Nat → Int32) (O_rows : Nat → Int32) (O_places : Nat → Int32) (O_home : Nat → Int32) : va_W := [((aS 19), .inr (5, [.ref (aS 11), .ref (aS 16), .ref (aS 28), .ref (aS 20), .ref (aS 21), .ref (aS 22), .ref (aS 23), .ref (aS 24), .ref (aS 25), .ref (aS 26), .ref (aS 27), .int Q_movers])), ((aS 11), .inr (6, [.ref (aS 12), .ref (aS 13), .ref (aS 14), .ref (aS 15)])), ((aS 12), .inl (cI, 24, .inl P_size)), ((aS 14), .inl (cI, 576, .inl P_uppers)), ((aS 15), .inl (cI, 576, .inl P_lowers)), ((aS 16), .inr (2, [.ref (aS 11), .ref (aS 17), .ref (aS 18)])), ((aS 17), .inl (cI, 24, .inl X_upper)), ((aS 18), .inl (cI, 24, .inl X_lower)), ((aS 20), .inl (cI, 24, .inl Q_own)), ((aS 21), .inl (cI, 24, .inl Q_far)), ((aS 22), .inl (cI, 40, .inl Q_degree)), ((aS 23), .inl (cI, 40, .inl Q_seen)), ((aS 24), .inl (cI, 40, .inl Q_median)), ((aS 25), .inl (cI, 40, .inl Q_stood)), ((aS 26), .inl (cI, 40, .inl Q_sorted)), ((aS 27), .inl (cI, 40, .inl Q_spots)), ((aS 28), .inr (0, [.ref (aS 11), .ref (aS 29), .ref (aS 30), .ref (aS 31), .ref (aS 32), .ref (aS 33), .ref (aS 34), .ref (aS 35), .int B_bestCost, .int B_size])), ((aS 29), .inl (cI, 36, .inl B_cost)), ((aS 30), .inl (cI, 24, .inl B_above)), ((aS 31), .inl (cI, 24, .inl B_below)), ((aS 32), .inl (cI, 6, .inl B_codes)), ((aS 33), .inl (cZ, 6, .inl B_used)), ((aS 34), .inl (cI, 6, .inl B_chosen)), ((aS 35), .inl (cI, 6, .inl B_best)), ((aO 0), .inr (4, [.int O_layers, .ref (aO 1), .ref (aO 2), .ref (aO 3), .ref (aO 4)])), ((aO 1), .inl (cI, 24, .inl O_size)), ((aO 2), .inl (cI, 960, .inl O_rows)), ((aO 3), .inl (cI, 960, .inl O_places)), ((aO 4), .inl (cI, 16, .inl O_home))]
noncomputable def bX5_improve_2 (P_size : Nat → Int32) (P_uppers : Nat → Int32) (P_lowers : Nat → Int32) (O_layers : Int32) (O_size : Nat → Int32) (x2 : Int32) (x3 : Int32) (X_upper : Nat → Int32) (X_lower : Nat → Int32) (Q_own : Nat → Int32) (Q_far : Nat → Int32) (Q_degree : Nat → Int32) (Q_seen : Nat → Int32) (Q_median : Nat → Int32) (Q_stood : Nat → Int32) (Q_sorted : Nat → Int32) (Q_spots : Nat → Int32) (Q_movers : Int32) (O_rows : Nat → Int32) (O_places : Nat → Int32) (O_home : Nat → Int32) : Option ((Int32 × (Nat → Int32) × (Nat → Int32) × (Nat → Int32) × (Nat → Int32) × (Nat → Int32) × (Nat → Int32) × (Nat → Int32) × (Nat → Int32) × (Nat → Int32) × (Nat → Int32) × Int32 × (Nat → Int32) × (Nat → Int32) × (Nat → Int32)) ⊕ ((Nat → Int32) × (Nat → Int32) × (Nat → Int32) × (Nat → Int32) × (Nat → Int32) × (Nat → Int32) × (Nat → Int32) × (Nat → Int32) × (Nat → Int32) × (Nat → Int32) × Int32 × (Nat → Int32) × (Nat → Int32) × (Nat → Int32))) :=
  if x2 ≤ x3 then (
    some (.inr (X_upper, X_lower, Q_own, Q_far, Q_degree, Q_seen, Q_median, Q_stood, Q_sorted, Q_spots, Q_movers, O_rows, O_places, O_home))
  ) else (
    q_b14 (fX5_sweep P_size P_uppers P_lowers X_upper X_lower Q_own Q_far Q_degree Q_seen Q_median Q_stood Q_sorted Q_spots Q_movers O_layers O_size O_rows O_places O_home) (fun q2_0 q2_1 q2_2 q2_3 q2_4 q2_5 q2_6 q2_7 q2_8 q2_9 q2_10 q2_11 q2_12 q2_13 =>
    some (.inl ((x3 + 1), q2_0, q2_1, q2_2, q2_3, q2_4, q2_5, q2_6, q2_7, q2_8, q2_9, q2_10, q2_11, q2_12, q2_13))
    )
  )
noncomputable def bX5_improve_20 (P_size : Nat → Int32) (P_uppers : Nat → Int32) (P_lowers : Nat → Int32) (O_layers : Int32) (O_size : Nat → Int32) (x3 : Int32) (B_cost : Nat → Int32) (B_above : Nat → Int32) (B_below : Nat → Int32) (B_codes : Nat → Int32) (B_used : Nat → Int32) (B_chosen : Nat → Int32) (B_best : Nat → Int32) (B_bestCost : Int32) (B_size : Int32) (O_rows : Nat → Int32) (O_places : Nat → Int32) (O_home : Nat → Int32) : Option ((Int32 × (Nat → Int32) × (Nat → Int32) × (Nat → Int32) × (Nat → Int32) × (Nat → Int32) × (Nat → Int32) × (Nat → Int32) × Int32 × Int32 × (Nat → Int32) × (Nat → Int32) × (Nat → Int32)) ⊕ ((Nat → Int32) × (Nat → Int32) × (Nat → Int32) × (Nat → Int32) × (Nat → Int32) × (Nat → Int32) × (Nat → Int32) × Int32 × Int32 × (Nat → Int32) × (Nat → Int32) × (Nat → Int32))) :=
  Option.bind (fX4_layers O_layers) (fun q4 =>
  if q4 ≤ x3 then (
    some (.inr (B_cost, B_above, B_below, B_codes, B_used, B_chosen, B_best, B_bestCost, B_size, O_rows, O_places, O_home))
  ) else (
    q_b12 (fX0_arrange P_size P_uppers P_lowers B_cost B_above B_below B_codes B_used B_chosen B_best B_bestCost O_layers O_size O_rows O_places O_home x3) (fun q5_0 q5_1 q5_2 q5_3 q5_4 q5_5 q5_6 q5_7 q5_8 q5_9 q5_10 q5_11 =>
    some (.inl ((x3 + 1), q5_0, q5_1, q5_2, q5_3, q5_4, q5_5, q5_6, q5_7, q5_8, q5_9, q5_10, q5_11))
    )
  )
  )
noncomputable def fX5_improve (P_size : Nat → Int32) (P_uppers : Nat → Int32) (P_lowers : Nat → Int32) (X_upper : Nat → Int32) (X_lower : Nat → Int32) (Q_own : Nat → Int32) (Q_far : Nat → Int32) (Q_degree : Nat → Int32) (Q_seen : Nat → Int32) (Q_median : Nat → Int32) (Q_stood : Nat → Int32) (Q_sorted : Nat → Int32) (Q_spots : Nat → Int32) (Q_movers : Int32) (B_cost : Nat → Int32) (B_above : Nat → Int32) (B_below : Nat → Int32) (B_codes : Nat → Int32) (B_used : Nat → Int32) (B_chosen : Nat → Int32) (B_best : Nat → Int32) (B_bestCost : Int32) (B_size : Int32) (O_layers : Int32) (O_size : Nat → Int32) (O_rows : Nat → Int32) (O_places : Nat → Int32) (O_home : Nat → Int32) (p1 : Int32) : Option ((Nat → Int32) × (Nat → Int32) × (Nat → Int32) × (Nat → Int32) × (Nat → Int32) × (Nat → Int32) × (Nat → Int32) × (Nat → Int32) × (Nat → Int32) × (Nat → Int32) × Int32 × (Nat → Int32) × (Nat → Int32) × (Nat → Int32) × (Nat → Int32) × (Nat → Int32) × (Nat → Int32) × (Nat → Int32) × Int32 × Int32 × (Nat → Int32) × (Nat → Int32) × (Nat → Int32)) :=
  q_b14 (q_lo (fun (st : Int32 × (Nat → Int32) × (Nat → Int32) × (Nat → Int32) × (Nat → Int32) × (Nat → Int32) × (Nat → Int32) × (Nat → Int32) × (Nat → Int32) × (Nat → Int32) × (Nat → Int32) × Int32 × (Nat → Int32) × (Nat → Int32) × (Nat → Int32)) => bX5_improve_2 P_size P_uppers P_lowers O_layers O_size p1 st.1 st.2.1 st.2.2.1 st.2.2.2.1 st.2.2.2.2.1 st.2.2.2.2.2.1 st.2.2.2.2.2.2.1 st.2.2.2.2.2.2.2.1 st.2.2.2.2.2.2.2.2.1 st.2.2.2.2.2.2.2.2.2.1 st.2.2.2.2.2.2.2.2.2.2.1 st.2.2.2.2.2.2.2.2.2.2.2.1 st.2.2.2.2.2.2.2.2.2.2.2.2.1 st.2.2.2.2.2.2.2.2.2.2.2.2.2.1 st.2.2.2.2.2.2.2.2.2.2.2.2.2.2) (0, X_upper, X_lower, Q_own, Q_far, Q_degree, Q_seen, Q_median, Q_stood, Q_sorted, Q_spots, Q_movers, O_rows, O_places, O_home)) (fun q1_0 q1_1 q1_2 q1_3 q1_4 q1_5 q1_6 q1_7 q1_8 q1_9 q1_10 q1_11 q1_12 q1_13 =>
    q_b12 (q_lo (fun (st : Int32 × (Nat → Int32) × (Nat → Int32) × (Nat → Int32) × (Nat → Int32) × (Nat → Int32) × (Nat → Int32) × (Nat → Int32) × Int32 × Int32 × (Nat → Int32) × (Nat → Int32) × (Nat → Int32)) => bX5_improve_20 P_size P_uppers P_lowers O_layers O_size st.1 st.2.1 st.2.2.1 st.2.2.2.1 st.2.2.2.2.1 st.2.2.2.2.2.1 st.2.2.2.2.2.2.1 st.2.2.2.2.2.2.2.1 st.2.2.2.2.2.2.2.2.1 st.2.2.2.2.2.2.2.2.2.1 st.2.2.2.2.2.2.2.2.2.2.1 st.2.2.2.2.2.2.2.2.2.2.2.1 st.2.2.2.2.2.2.2.2.2.2.2.2) (1, B_cost, B_above, B_below, B_codes, B_used, B_chosen, B_best, B_bestCost, B_size, q1_11, q1_12, q1_13)) (fun q3_0 q3_1 q3_2 q3_3 q3_4 q3_5 q3_6 q3_7 q3_8 q3_9 q3_10 q3_11 =>
      some (q1_0, q1_1, q1_2, q1_3, q1_4, q1_5, q1_6, q1_7, q1_8, q1_9, q1_10, q3_0, q3_1, q3_2, q3_3, q3_4, q3_5, q3_6, q3_7, q3_8, q3_9, q3_10, q3_11)))
abbrev iX1_isSpot (cI cZ : ClassId) : va_W := []
noncomputable def fX1_isSpot (p0 : Int32) (p1 : Int32) : Option (Int32) :=
  if p0 < 0 then (
    some 0
  ) else (
    if 24 ≤ p0 then (
      some 0
    ) else (
      if p1 < 0 then (
        some 0
      ) else (
        if 40 ≤ p1 then (
          some 0
        ) else (
          some 1
        )
      )
    )
  )
abbrev iX1_leftOf (aS : Nat → Nat) (cI cZ : ClassId) (C_x : Nat → Int32) : va_W := [((aS 36), .inr (1, [.ref (aS 0), .ref (aS 11), .ref (aS 37), .ref (aS 38), .ref (aS 39)])), ((aS 37), .inl (cI, 960, .inl C_x))]
noncomputable def fX1_leftOf (C_x : Nat → Int32) (p0 : Int32) (p1 : Int32) : Option (Int32) :=
  Option.bind (fX1_isSpot p0 p1) (fun q1 =>
  if q1 = 0 then (
    some 0
  ) else (
    if q_in ((p0 * 40) + p1) 960 then (
    some (C_x ((p0 * 40) + p1).toNatClampNeg)
    ) else none
  )
  )
abbrev iX1_middleOf (aS : Nat → Nat) (cI cZ : ClassId) (R_width : Nat → Int32) (C_x : Nat → Int32) : va_W := [((aS 36), .inr (1, [.ref (aS 0), .ref (aS 11), .ref (aS 37), .ref (aS 38), .ref (aS 39)])), ((aS 0), .inr (7, [.ref (aS 1), .ref (aS 2), .ref (aS 3), .ref (aS 4), .ref (aS 5), .ref (aS 6)])), ((aS 1), .inl (cI, 16, .inl R_width)), ((aS 37), .inl (cI, 960, .inl C_x))]
noncomputable def fX1_middleOf (R_width : Nat → Int32) (C_x : Nat → Int32) (p0 : Int32) (p1 : Int32) : Option (Int32) :=
  Option.bind (fX1_leftOf C_x p0 p1) (fun q1 =>
  Option.bind (fX7_widthOf R_width p1) (fun q2 =>
  some (q1 + (q2 / 2))
  )
  )
abbrev iX1_addMiddles (aS : Nat → Nat) (cI cZ : ClassId) (R_width : Nat → Int32) (P_size : Nat → Int32) (P_uppers : Nat → Int32) (P_lowers : Nat → Int32) (C_x : Nat → Int32) (C_sum : Nat → Int32) (C_degree : Nat → Int32) : va_W := [((aS 36), .inr (1, [.ref (aS 0), .ref (aS 11), .ref (aS 37), .ref (aS 38), .ref (aS 39)])), ((aS 0), .inr (7, [.ref (aS 1), .ref (aS 2), .ref (aS 3), .ref (aS 4), .ref (aS 5), .ref (aS 6)])), ((aS 1), .inl (cI, 16, .inl R_width)), ((aS 11), .inr (6, [.ref (aS 12), .ref (aS 13), .ref (aS 14), .ref (aS 15)])), ((aS 12), .inl (cI, 24, .inl P_size)), ((aS 14), .inl (cI, 576, .inl P_uppers)), ((aS 15), .inl (cI, 576, .inl P_lowers)), ((aS 37), .inl (cI, 960, .inl C_x)), ((aS 38), .inl (cI, 40, .inl C_sum)), ((aS 39), .inl (cI, 40, .inl C_degree))]
noncomputable def jX1_addMiddles_130 (C_sum : Nat → Int32) (C_degree : Nat → Int32) (x2 : Int32) (x3 : Int32) (x4 : Int32) (x5 : Int32) : Option ((Int32 × (Nat → Int32) × (Nat → Int32)) ⊕ ((Nat → Int32) × (Nat → Int32))) :=
  some (.inl ((x5 + 1), C_sum, C_degree))
noncomputable def jX1_addMiddles_75 (R_width : Nat → Int32) (P_size : Nat → Int32) (P_uppers : Nat → Int32) (P_lowers : Nat → Int32) (C_x : Nat → Int32) (C_sum : Nat → Int32) (C_degree : Nat → Int32) (x2 : Int32) (x3 : Int32) (x4 : Int32) (x5 : Int32) (s0 : Int32) (s1 : Int32) (s2 : Int32) : Option ((Int32 × (Nat → Int32) × (Nat → Int32)) ⊕ ((Nat → Int32) × (Nat → Int32))) :=
  Option.bind (fX6_endOf P_size P_uppers P_lowers s2 s1 s0) (fun q5 =>
  if q5 < 0 then (
    jX1_addMiddles_130 C_sum C_degree x2 x3 x4 x5
  ) else (
    if 40 ≤ q5 then (
      jX1_addMiddles_130 C_sum C_degree x2 x3 x4 x5
    ) else (
      if q_in q5 40 then (
      Option.bind (fX6_endOf P_size P_uppers P_lowers x3 x5 x2) (fun q7 =>
      Option.bind (fX1_middleOf R_width C_x x4 q7) (fun q8 =>
      if q_in q5 40 then (
      if q_in q5 40 then (
      if q_in q5 40 then (
      jX1_addMiddles_130 (upd C_sum q5.toNatClampNeg ((C_sum q5.toNatClampNeg) + q8)) (upd C_degree q5.toNatClampNeg ((C_degree q5.toNatClampNeg) + 1)) x2 x3 x4 x5
      ) else none
      ) else none
      ) else none
      )
      )
      ) else none
    )
  )
  )
noncomputable def bX1_addMiddles_46 (R_width : Nat → Int32) (P_size : Nat → Int32) (P_uppers : Nat → Int32) (P_lowers : Nat → Int32) (C_x : Nat → Int32) (x2 : Int32) (x3 : Int32) (x4 : Int32) (x5 : Int32) (C_sum : Nat → Int32) (C_degree : Nat → Int32) : Option ((Int32 × (Nat → Int32) × (Nat → Int32)) ⊕ ((Nat → Int32) × (Nat → Int32))) :=
  Option.bind (fX6_sizeOf P_size x3) (fun q12 =>
  if q12 ≤ x5 then (
    some (.inr (C_sum, C_degree))
  ) else (
    if x2 = 0 then (
      jX1_addMiddles_75 R_width P_size P_uppers P_lowers C_x C_sum C_degree x2 x3 x4 x5 1 x5 x3
    ) else (
      jX1_addMiddles_75 R_width P_size P_uppers P_lowers C_x C_sum C_degree x2 x3 x4 x5 0 x5 x3
    )
  )
  )
noncomputable def jX1_addMiddles_41 (R_width : Nat → Int32) (P_size : Nat → Int32) (P_uppers : Nat → Int32) (P_lowers : Nat → Int32) (C_x : Nat → Int32) (C_sum : Nat → Int32) (C_degree : Nat → Int32) (x2 : Int32) (x3 : Int32) (s0 : Int32) : Option ((Nat → Int32) × (Nat → Int32)) :=
  q_b2 (q_lo (fun (st : Int32 × (Nat → Int32) × (Nat → Int32)) => bX1_addMiddles_46 R_width P_size P_uppers P_lowers C_x x2 x3 s0 st.1 st.2.1 st.2.2) (0, C_sum, C_degree)) (fun q2_0 q2_1 =>
    some (q2_0, q2_1))
noncomputable def jX1_addMiddles_27 (R_width : Nat → Int32) (P_size : Nat → Int32) (P_uppers : Nat → Int32) (P_lowers : Nat → Int32) (C_x : Nat → Int32) (C_sum : Nat → Int32) (C_degree : Nat → Int32) (x1 : Int32) (x2 : Int32) (s0 : Int32) : Option ((Nat → Int32) × (Nat → Int32)) :=
  if x2 = 0 then (
    jX1_addMiddles_41 R_width P_size P_uppers P_lowers C_x C_sum C_degree x2 s0 (x1 + 1)
  ) else (
    jX1_addMiddles_41 R_width P_size P_uppers P_lowers C_x C_sum C_degree x2 s0 (x1 - 1)
  )
noncomputable def fX1_addMiddles (R_width : Nat → Int32) (P_size : Nat → Int32) (P_uppers : Nat → Int32) (P_lowers : Nat → Int32) (C_x : Nat → Int32) (p0 : Int32) (p1 : Int32) : Option ((Nat → Int32) × (Nat → Int32)) :=
  if p1 = 0 then (
    jX1_addMiddles_27 R_width P_size P_uppers P_lowers C_x (fun _ => 0) (fun _ => 0) p0 p1 p0
  ) else (
    jX1_addMiddles_27 R_width P_size P_uppers P_lowers C_x (fun _ => 0) (fun _ => 0) p0 p1 (p0 - 1)
  )
abbrev iX1_endOf (aS : Nat → Nat) (cI cZ : ClassId) (R_width : Nat → Int32) (C_x : Nat → Int32) : va_W := [((aS 36), .inr (1, [.ref (aS 0), .ref (aS 11), .ref (aS 37), .ref (aS 38), .ref (aS 39)])), ((aS 0), .inr (7, [.ref (aS 1), .ref (aS 2), .ref (aS 3), .ref (aS 4), .ref (aS 5), .ref (aS 6)])), ((aS 1), .inl (cI, 16, .inl R_width)), ((aS 37), .inl (cI, 960, .inl C_x))]
noncomputable def fX1_endOf (R_width : Nat → Int32) (C_x : Nat → Int32) (p0 : Int32) (p1 : Int32) : Option (Int32) :=
  Option.bind (fX1_leftOf C_x p0 p1) (fun q1 =>
  Option.bind (fX7_widthOf R_width p1) (fun q2 =>
  some (q1 + q2)
  )
  )
abbrev iX1_greatestEnd (aS : Nat → Nat) (aO : Nat → Nat) (cI cZ : ClassId) (R_width : Nat → Int32) (C_x : Nat → Int32) (O_layers : Int32) (O_size : Nat → Int32) (O_rows : Nat → Int32) : va_W := [((aS 36), .inr (1, [.ref (aS 0), .ref (aS 11), .ref (aS 37), .ref (aS 38), .ref (aS 39)])), ((aS 0), .inr (7, [.ref (aS 1), .ref (aS 2), .ref (aS 3), .ref (aS 4), .ref (aS 5), .ref (aS 6)])), ((aS 1), .inl (cI, 16, .inl R_width)), ((aS 37), .inl (cI, 960, .inl C_x)), ((aO 0), .inr (4, [.int O_layers, .ref (aO 1), .ref (aO 2), .ref (aO 3), .ref (aO 4)])), ((aO 1), .inl (cI, 24, .inl O_size)), ((aO 2), .inl (cI, 960, .inl O_rows))]
noncomputable def bX1_greatestEnd_15 (R_width : Nat → Int32) (C_x : Nat → Int32) (O_layers : Int32) (O_size : Nat → Int32) (O_rows : Nat → Int32) (x3 : Int32) (x2 : Int32) (x4 : Int32) : Option ((Int32 × Int32) ⊕ (Int32)) :=
  Option.bind (fX4_sizeOf O_layers O_size x3) (fun q4 =>
  if q4 ≤ x4 then (
    some (.inr x2)
  ) else (
    Option.bind (fX4_itemIn O_layers O_size O_rows x3 x4) (fun q5 =>
    Option.bind (fX1_endOf R_width C_x x3 q5) (fun q6 =>
    q_let (if x2 < q6 then q6 else x2) (fun v7 =>
    some (.inl (v7, (x4 + 1)))
    )
    )
    )
  )
  )
noncomputable def bX1_greatestEnd_4 (R_width : Nat → Int32) (C_x : Nat → Int32) (O_layers : Int32) (O_size : Nat → Int32) (O_rows : Nat → Int32) (x2 : Int32) (x3 : Int32) : Option ((Int32 × Int32) ⊕ (Int32)) :=
  Option.bind (fX4_layers O_layers) (fun q2 =>
  if q2 ≤ x3 then (
    some (.inr x2)
  ) else (
    Option.bind (q_lo (fun (st : Int32 × Int32) => bX1_greatestEnd_15 R_width C_x O_layers O_size O_rows x3 st.1 st.2) (x2, 0)) (fun q3 =>
      some (.inl (q3, (x3 + 1))))
  )
  )
noncomputable def fX1_greatestEnd (R_width : Nat → Int32) (C_x : Nat → Int32) (O_layers : Int32) (O_size : Nat → Int32) (O_rows : Nat → Int32) : Option (Int32) :=
  Option.bind (q_lo (fun (st : Int32 × Int32) => bX1_greatestEnd_4 R_width C_x O_layers O_size O_rows st.1 st.2) (0, 0)) (fun q1 =>
    some q1)
abbrev iX1_move (aS : Nat → Nat) (cI cZ : ClassId) (C_x : Nat → Int32) : va_W := [((aS 36), .inr (1, [.ref (aS 0), .ref (aS 11), .ref (aS 37), .ref (aS 38), .ref (aS 39)])), ((aS 37), .inl (cI, 960, .inl C_x))]
noncomputable def fX1_move (C_x : Nat → Int32) (p0 : Int32) (p1 : Int32) (p2 : Int32) : Option ((Nat → Int32)) :=
  Option.bind (fX1_isSpot p0 p1) (fun q1 =>
  if q1 = 0 then (
    some C_x
  ) else (
    if q_in ((p0 * 40) + p1) 960 then (
    some (upd C_x ((p0 * 40) + p1).toNatClampNeg p2)
    ) else none
  )
  )
abbrev iX1_pack (aS : Nat → Nat) (aO : Nat → Nat) (cI cZ : ClassId) (R_width : Nat → Int32) (C_x : Nat → Int32) (O_layers : Int32) (O_size : Nat → Int32) (O_rows : Nat → Int32) : va_W := [((aS 36), .inr (1, [.ref (aS 0), .ref (aS 11), .ref (aS 37), .ref (aS 38), .ref (aS 39)])), ((aS 0), .inr (7, [.ref (aS 1), .ref (aS 2), .ref (aS 3), .ref (aS 4), .ref (aS 5), .ref (aS 6)])), ((aS 1), .inl (cI, 16, .inl R_width)), ((aS 37), .inl (cI, 960, .inl C_x)), ((aO 0), .inr (4, [.int O_layers, .ref (aO 1), .ref (aO 2), .ref (aO 3), .ref (aO 4)])), ((aO 1), .inl (cI, 24, .inl O_size)), ((aO 2), .inl (cI, 960, .inl O_rows))]
noncomputable def bX1_pack_5 (R_width : Nat → Int32) (O_layers : Int32) (O_size : Nat → Int32) (O_rows : Nat → Int32) (x2 : Int32) (x3 : Int32) (x4 : Int32) (C_x : Nat → Int32) : Option ((Int32 × Int32 × (Nat → Int32)) ⊕ ((Nat → Int32))) :=
  Option.bind (fX4_sizeOf O_layers O_size x2) (fun q2 =>
  if q2 ≤ x4 then (
    some (.inr C_x)
  ) else (
    Option.bind (fX4_itemIn O_layers O_size O_rows x2 x4) (fun q3 =>
    Option.bind (fX1_move C_x x2 q3 x3) (fun q4 =>
    Option.bind (fX1_endOf R_width q4 x2 q3) (fun q5 =>
    some (.inl ((q5 + 4), (x4 + 1), q4))
    )
    )
    )
  )
  )
noncomputable def fX1_pack (R_width : Nat → Int32) (C_x : Nat → Int32) (O_layers : Int32) (O_size : Nat → Int32) (O_rows : Nat → Int32) (p1 : Int32) : Option ((Nat → Int32)) :=
  Option.bind (q_lo (fun (st : Int32 × Int32 × (Nat → Int32)) => bX1_pack_5 R_width O_layers O_size O_rows p1 st.1 st.2.1 st.2.2) (0, 0, C_x)) (fun q1 =>
    some q1)
abbrev iX1_wanted (aS : Nat → Nat) (cI cZ : ClassId) (R_width : Nat → Int32) (C_x : Nat → Int32) (C_sum : Nat → Int32) (C_degree : Nat → Int32) : va_W := [((aS 36), .inr (1, [.ref (aS 0), .ref (aS 11), .ref (aS 37), .ref (aS 38), .ref (aS 39)])), ((aS 0), .inr (7, [.ref (aS 1), .ref (aS 2), .ref (aS 3), .ref (aS 4), .ref (aS 5), .ref (aS 6)])), ((aS 1), .inl (cI, 16, .inl R_width)), ((aS 37), .inl (cI, 960, .inl C_x)), ((aS 38), .inl (cI, 40, .inl C_sum)), ((aS 39), .inl (cI, 40, .inl C_degree))]
noncomputable def jX1_wanted_19 (C_x : Nat → Int32) (x1 : Int32) (x2 : Int32) : Option (Int32) :=
  Option.bind (fX1_leftOf C_x x1 x2) (fun q2 =>
  some q2
  )
noncomputable def fX1_wanted (R_width : Nat → Int32) (C_x : Nat → Int32) (C_sum : Nat → Int32) (C_degree : Nat → Int32) (p0 : Int32) (p1 : Int32) : Option (Int32) :=
  if p1 < 0 then (
    jX1_wanted_19 C_x p0 p1
  ) else (
    if 40 ≤ p1 then (
      jX1_wanted_19 C_x p0 p1
    ) else (
      if q_in p1 40 then (
      if 0 < (C_degree p1.toNatClampNeg) then (
        if q_in p1 40 then (
        if q_in p1 40 then (
        if ¬ (C_degree p1.toNatClampNeg) = 0 then (
        Option.bind (fX7_widthOf R_width p1) (fun q7 =>
        some (((C_sum p1.toNatClampNeg) / (C_degree p1.toNatClampNeg)) - (q7 / 2))
        )
        ) else none
        ) else none
        ) else none
      ) else (
        jX1_wanted_19 C_x p0 p1
      )
      ) else none
    )
  )
abbrev iX1_straighten (aS : Nat → Nat) (aO : Nat → Nat) (cI cZ : ClassId) (R_width : Nat → Int32) (C_x : Nat → Int32) (C_sum : Nat → Int32) (C_degree : Nat → Int32) (O_layers : Int32) (O_size : Nat → Int32) (O_rows : Nat → Int32) : va_W := [((aS 36), .inr (1, [.ref (aS 0), .ref (aS 11), .ref (aS 37), .ref (aS 38), .ref (aS 39)])), ((aS 0), .inr (7, [.ref (aS 1), .ref (aS 2), .ref (aS 3), .ref (aS 4), .ref (aS 5), .ref (aS 6)])), ((aS 1), .inl (cI, 16, .inl R_width)), ((aS 37), .inl (cI, 960, .inl C_x)), ((aS 38), .inl (cI, 40, .inl C_sum)), ((aS 39), .inl (cI, 40, .inl C_degree)), ((aO 0), .inr (4, [.int O_layers, .ref (aO 1), .ref (aO 2), .ref (aO 3), .ref (aO 4)])), ((aO 1), .inl (cI, 24, .inl O_size)), ((aO 2), .inl (cI, 960, .inl O_rows))]
noncomputable def bX1_straighten_6 (R_width : Nat → Int32) (C_sum : Nat → Int32) (C_degree : Nat → Int32) (O_layers : Int32) (O_size : Nat → Int32) (O_rows : Nat → Int32) (x2 : Int32) (x3 : Int32) (x4 : Int32) (C_x : Nat → Int32) : Option ((Int32 × Int32 × (Nat → Int32)) ⊕ ((Nat → Int32))) :=
  Option.bind (fX4_sizeOf O_layers O_size x2) (fun q2 =>
  if q2 ≤ x4 then (
    some (.inr C_x)
  ) else (
    Option.bind (fX4_itemIn O_layers O_size O_rows x2 x4) (fun q3 =>
    Option.bind (fX1_wanted R_width C_x C_sum C_degree x2 q3) (fun q4 =>
    Option.bind (fX1_move C_x x2 q3 (if q4 < x3 then x3 else q4)) (fun q5 =>
    Option.bind (fX1_endOf R_width q5 x2 q3) (fun q6 =>
    some (.inl ((q6 + 4), (x4 + 1), q5))
    )
    )
    )
    )
  )
  )
noncomputable def fX1_straighten (R_width : Nat → Int32) (C_x : Nat → Int32) (C_sum : Nat → Int32) (C_degree : Nat → Int32) (O_layers : Int32) (O_size : Nat → Int32) (O_rows : Nat → Int32) (p1 : Int32) : Option ((Nat → Int32)) :=
  Option.bind (q_lo (fun (st : Int32 × Int32 × (Nat → Int32)) => bX1_straighten_6 R_width C_sum C_degree O_layers O_size O_rows p1 st.1 st.2.1 st.2.2) ((-1073741824), 0, C_x)) (fun q1 =>
    some q1)
abbrev iX1_leastX (aS : Nat → Nat) (aO : Nat → Nat) (cI cZ : ClassId) (C_x : Nat → Int32) (O_layers : Int32) (O_size : Nat → Int32) (O_rows : Nat → Int32) : va_W := [((aS 36), .inr (1, [.ref (aS 0), .ref (aS 11), .ref (aS 37), .ref (aS 38), .ref (aS 39)])), ((aS 37), .inl (cI, 960, .inl C_x)), ((aO 0), .inr (4, [.int O_layers, .ref (aO 1), .ref (aO 2), .ref (aO 3), .ref (aO 4)])), ((aO 1), .inl (cI, 24, .inl O_size)), ((aO 2), .inl (cI, 960, .inl O_rows))]
noncomputable def bX1_leastX_16 (C_x : Nat → Int32) (O_layers : Int32) (O_size : Nat → Int32) (O_rows : Nat → Int32) (x3 : Int32) (x2 : Int32) (x4 : Int32) : Option ((Int32 × Int32) ⊕ (Int32)) :=
  Option.bind (fX4_sizeOf O_layers O_size x3) (fun q4 =>
  if q4 ≤ x4 then (
    some (.inr x2)
  ) else (
    Option.bind (fX4_itemIn O_layers O_size O_rows x3 x4) (fun q5 =>
    Option.bind (fX1_leftOf C_x x3 q5) (fun q6 =>
    q_let (if q6 < x2 then q6 else x2) (fun v7 =>
    some (.inl (v7, (x4 + 1)))
    )
    )
    )
  )
  )
noncomputable def bX1_leastX_5 (C_x : Nat → Int32) (O_layers : Int32) (O_size : Nat → Int32) (O_rows : Nat → Int32) (x2 : Int32) (x3 : Int32) : Option ((Int32 × Int32) ⊕ (Int32)) :=
  Option.bind (fX4_layers O_layers) (fun q2 =>
  if q2 ≤ x3 then (
    some (.inr x2)
  ) else (
    Option.bind (q_lo (fun (st : Int32 × Int32) => bX1_leastX_16 C_x O_layers O_size O_rows x3 st.1 st.2) (x2, 0)) (fun q3 =>
      some (.inl (q3, (x3 + 1))))
  )
  )
noncomputable def fX1_leastX (C_x : Nat → Int32) (O_layers : Int32) (O_size : Nat → Int32) (O_rows : Nat → Int32) : Option (Int32) :=
  Option.bind (q_lo (fun (st : Int32 × Int32) => bX1_leastX_5 C_x O_layers O_size O_rows st.1 st.2) (1073741824, 0)) (fun q1 =>
    some q1)
abbrev iX1_shift (aS : Nat → Nat) (aO : Nat → Nat) (cI cZ : ClassId) (C_x : Nat → Int32) (O_layers : Int32) (O_size : Nat → Int32) (O_rows : Nat → Int32) : va_W := [((aS 36), .inr (1, [.ref (aS 0), .ref (aS 11), .ref (aS 37), .ref (aS 38), .ref (aS 39)])), ((aS 37), .inl (cI, 960, .inl C_x)), ((aO 0), .inr (4, [.int O_layers, .ref (aO 1), .ref (aO 2), .ref (aO 3), .ref (aO 4)])), ((aO 1), .inl (cI, 24, .inl O_size)), ((aO 2), .inl (cI, 960, .inl O_rows))]
noncomputable def bX1_shift_13 (O_layers : Int32) (O_size : Nat → Int32) (O_rows : Nat → Int32) (x2 : Int32) (x3 : Int32) (x4 : Int32) (C_x : Nat → Int32) : Option ((Int32 × (Nat → Int32)) ⊕ ((Nat → Int32))) :=
  Option.bind (fX4_sizeOf O_layers O_size x3) (fun q4 =>
  if q4 ≤ x4 then (
    some (.inr C_x)
  ) else (
    Option.bind (fX4_itemIn O_layers O_size O_rows x3 x4) (fun q5 =>
    Option.bind (fX1_leftOf C_x x3 q5) (fun q6 =>
    Option.bind (fX1_move C_x x3 q5 (q6 - x2)) (fun q7 =>
    some (.inl ((x4 + 1), q7))
    )
    )
    )
  )
  )
noncomputable def bX1_shift_2 (O_layers : Int32) (O_size : Nat → Int32) (O_rows : Nat → Int32) (x2 : Int32) (x3 : Int32) (C_x : Nat → Int32) : Option ((Int32 × (Nat → Int32)) ⊕ ((Nat → Int32))) :=
  Option.bind (fX4_layers O_layers) (fun q2 =>
  if q2 ≤ x3 then (
    some (.inr C_x)
  ) else (
    Option.bind (q_lo (fun (st : Int32 × (Nat → Int32)) => bX1_shift_13 O_layers O_size O_rows x2 x3 st.1 st.2) (0, C_x)) (fun q3 =>
      some (.inl ((x3 + 1), q3)))
  )
  )
noncomputable def fX1_shift (C_x : Nat → Int32) (O_layers : Int32) (O_size : Nat → Int32) (O_rows : Nat → Int32) (p1 : Int32) : Option ((Nat → Int32)) :=
  Option.bind (q_lo (fun (st : Int32 × (Nat → Int32)) => bX1_shift_2 O_layers O_size O_rows p1 st.1 st.2) (0, C_x)) (fun q1 =>
    some q1)
abbrev iX1_lay (aS : Nat → Nat) (aO : Nat → Nat) (cI cZ : ClassId) (R_width : Nat → Int32) (P_size : Nat → Int32) (P_uppers : Nat → Int32) (P_lowers : Nat → Int32) (C_x : Nat → Int32) (C_sum : Nat → Int32) (C_degree : Nat → Int32) (O_layers : Int32) (O_size : Nat → Int32) (O_rows : Nat → Int32) : va_W := [((aS 36), .inr (1, [.ref (aS 0), .ref (aS 11), .ref (aS 37), .ref (aS 38), .ref (aS 39)])), ((aS 0), .inr (7, [.ref (aS 1), .ref (aS 2), .ref (aS 3), .ref (aS 4), .ref (aS 5), .ref (aS 6)])), ((aS 1), .inl (cI, 16, .inl R_width)), ((aS 11), .inr (6, [.ref (aS 12), .ref (aS 13), .ref (aS 14), .ref (aS 15)])), ((aS 12), .inl (cI, 24, .inl P_size)), ((aS 14), .inl (cI, 576, .inl P_uppers)), ((aS 15), .inl (cI, 576, .inl P_lowers)), ((aS 37), .inl (cI, 960, .inl C_x)), ((aS 38), .inl (cI, 40, .inl C_sum)), ((aS 39), .inl (cI, 40, .inl C_degree)), ((aO 0), .inr (4, [.int O_layers, .ref (aO 1), .ref (aO 2), .ref (aO 3), .ref (aO 4)])), ((aO 1), .inl (cI, 24, .inl O_size)), ((aO 2), .inl (cI, 960, .inl O_rows))]
noncomputable def bX1_lay_2 (R_width : Nat → Int32) (O_layers : Int32) (O_size : Nat → Int32) (O_rows : Nat → Int32) (x2 : Int32) (C_x : Nat → Int32) : Option ((Int32 × (Nat → Int32)) ⊕ ((Nat → Int32))) :=
  Option.bind (fX4_layers O_layers) (fun q2 =>
  if q2 ≤ x2 then (
    some (.inr C_x)
  ) else (
    Option.bind (fX1_pack R_width C_x O_layers O_size O_rows x2) (fun q3 =>
    some (.inl ((x2 + 1), q3))
    )
  )
  )
noncomputable def jX1_lay_71 (R_width : Nat → Int32) (P_size : Nat → Int32) (P_uppers : Nat → Int32) (P_lowers : Nat → Int32) (C_x : Nat → Int32) (O_layers : Int32) (O_size : Nat → Int32) (O_rows : Nat → Int32) (x2 : Int32) (x3 : Int32) (x4 : Int32) (s0 : Int32) : Option ((Int32 × (Nat → Int32) × (Nat → Int32) × (Nat → Int32)) ⊕ ((Nat → Int32) × (Nat → Int32) × (Nat → Int32))) :=
  q_b2 (fX1_addMiddles R_width P_size P_uppers P_lowers C_x s0 x3) (fun q8_0 q8_1 =>
  Option.bind (fX1_straighten R_width C_x q8_0 q8_1 O_layers O_size O_rows s0) (fun q9 =>
  some (.inl ((x4 + 1), q9, q8_0, q8_1))
  )
  )
noncomputable def bX1_lay_44 (R_width : Nat → Int32) (P_size : Nat → Int32) (P_uppers : Nat → Int32) (P_lowers : Nat → Int32) (O_layers : Int32) (O_size : Nat → Int32) (O_rows : Nat → Int32) (x2 : Int32) (x3 : Int32) (x4 : Int32) (C_x : Nat → Int32) (C_sum : Nat → Int32) (C_degree : Nat → Int32) : Option ((Int32 × (Nat → Int32) × (Nat → Int32) × (Nat → Int32)) ⊕ ((Nat → Int32) × (Nat → Int32) × (Nat → Int32))) :=
  Option.bind (fX4_layers O_layers) (fun q10 =>
  if q10 ≤ x4 then (
    some (.inr (C_x, C_sum, C_degree))
  ) else (
    if x3 = 0 then (
      Option.bind (fX4_layers O_layers) (fun q11 =>
      jX1_lay_71 R_width P_size P_uppers P_lowers C_x O_layers O_size O_rows x2 x3 x4 ((q11 - 1) - x4)
      )
    ) else (
      jX1_lay_71 R_width P_size P_uppers P_lowers C_x O_layers O_size O_rows x2 x3 x4 x4
    )
  )
  )
noncomputable def jX1_lay_40 (R_width : Nat → Int32) (P_size : Nat → Int32) (P_uppers : Nat → Int32) (P_lowers : Nat → Int32) (C_x : Nat → Int32) (C_sum : Nat → Int32) (C_degree : Nat → Int32) (O_layers : Int32) (O_size : Nat → Int32) (O_rows : Nat → Int32) (x2 : Int32) (s0 : Int32) : Option ((Int32 × (Nat → Int32) × (Nat → Int32) × (Nat → Int32)) ⊕ ((Nat → Int32) × (Nat → Int32) × (Nat → Int32))) :=
  q_b3 (q_lo (fun (st : Int32 × (Nat → Int32) × (Nat → Int32) × (Nat → Int32)) => bX1_lay_44 R_width P_size P_uppers P_lowers O_layers O_size O_rows x2 s0 st.1 st.2.1 st.2.2.1 st.2.2.2) (0, C_x, C_sum, C_degree)) (fun q6_0 q6_1 q6_2 =>
    some (.inl ((x2 + 1), q6_0, q6_1, q6_2)))
noncomputable def bX1_lay_24 (R_width : Nat → Int32) (P_size : Nat → Int32) (P_uppers : Nat → Int32) (P_lowers : Nat → Int32) (O_layers : Int32) (O_size : Nat → Int32) (O_rows : Nat → Int32) (x2 : Int32) (C_x : Nat → Int32) (C_sum : Nat → Int32) (C_degree : Nat → Int32) : Option ((Int32 × (Nat → Int32) × (Nat → Int32) × (Nat → Int32)) ⊕ ((Nat → Int32) × (Nat → Int32) × (Nat → Int32))) :=
  if 4 ≤ x2 then (
    some (.inr (C_x, C_sum, C_degree))
  ) else (
    if (x2 - x2 / 2 * 2) = 0 then (
      jX1_lay_40 R_width P_size P_uppers P_lowers C_x C_sum C_degree O_layers O_size O_rows x2 1
    ) else (
      jX1_lay_40 R_width P_size P_uppers P_lowers C_x C_sum C_degree O_layers O_size O_rows x2 0
    )
  )
noncomputable def fX1_lay (R_width : Nat → Int32) (P_size : Nat → Int32) (P_uppers : Nat → Int32) (P_lowers : Nat → Int32) (C_x : Nat → Int32) (C_sum : Nat → Int32) (C_degree : Nat → Int32) (O_layers : Int32) (O_size : Nat → Int32) (O_rows : Nat → Int32) : Option ((Nat → Int32) × (Nat → Int32) × (Nat → Int32)) :=
  Option.bind (q_lo (fun (st : Int32 × (Nat → Int32)) => bX1_lay_2 R_width O_layers O_size O_rows st.1 st.2) (0, C_x)) (fun q1 =>
    q_b3 (q_lo (fun (st : Int32 × (Nat → Int32) × (Nat → Int32) × (Nat → Int32)) => bX1_lay_24 R_width P_size P_uppers P_lowers O_layers O_size O_rows st.1 st.2.1 st.2.2.1 st.2.2.2) (0, q1, C_sum, C_degree)) (fun q4_0 q4_1 q4_2 =>
      Option.bind (fX1_leastX q4_0 O_layers O_size O_rows) (fun q12 =>
      Option.bind (fX1_shift q4_0 O_layers O_size O_rows q12) (fun q13 =>
      some (q13, q4_1, q4_2)
      )
      )))
abbrev iX8_openSpot (aS : Nat → Nat) (cI cZ : ClassId) (T_left : Nat → Int32) (T_right : Nat → Int32) (T_arrows : Nat → Int32) : va_W := [((aS 40), .inr (8, [.ref (aS 11), .ref (aS 36), .ref (aS 41), .ref (aS 42), .ref (aS 43), .ref (aS 44), .ref (aS 45), .ref (aS 46)])), ((aS 43), .inl (cI, 24, .inl T_left)), ((aS 44), .inl (cI, 24, .inl T_right)), ((aS 45), .inl (cI, 24, .inl T_arrows))]
noncomputable def bX8_openSpot_2 (x2 : Int32) (x3 : Int32) (T_left : Nat → Int32) (T_right : Nat → Int32) (T_arrows : Nat → Int32) : Option ((Int32 × (Nat → Int32) × (Nat → Int32) × (Nat → Int32)) ⊕ (Int32 × (Nat → Int32) × (Nat → Int32) × (Nat → Int32))) :=
  if x3 ≤ 0 then (
    some (.inr (x3, T_left, T_right, T_arrows))
  ) else (
    if q_in (x3 - 1) 24 then (
    if (T_left (x3 - 1).toNatClampNeg) ≤ x2 then (
      some (.inr (x3, T_left, T_right, T_arrows))
    ) else (
      if q_in (x3 - 1) 24 then (
      if q_in x3 24 then (
      if q_in (x3 - 1) 24 then (
      if q_in x3 24 then (
      if q_in (x3 - 1) 24 then (
      if q_in x3 24 then (
      some (.inl ((x3 + (-1)), (upd T_left x3.toNatClampNeg (T_left (x3 - 1).toNatClampNeg)), (upd T_right x3.toNatClampNeg (T_right (x3 - 1).toNatClampNeg)), (upd T_arrows x3.toNatClampNeg (T_arrows (x3 - 1).toNatClampNeg))))
      ) else none
      ) else none
      ) else none
      ) else none
      ) else none
      ) else none
    )
    ) else none
  )
noncomputable def fX8_openSpot (T_left : Nat → Int32) (T_right : Nat → Int32) (T_arrows : Nat → Int32) (p0 : Int32) (p1 : Int32) : Option (Int32 × (Nat → Int32) × (Nat → Int32) × (Nat → Int32)) :=
  q_b4 (q_lo (fun (st : Int32 × (Nat → Int32) × (Nat → Int32) × (Nat → Int32)) => bX8_openSpot_2 p1 st.1 st.2.1 st.2.2.1 st.2.2.2) (p0, T_left, T_right, T_arrows)) (fun q1_0 q1_1 q1_2 q1_3 =>
    some (q1_0, q1_1, q1_2, q1_3))
abbrev iX8_gatherParts (aS : Nat → Nat) (cI cZ : ClassId) (R_width : Nat → Int32) (P_size : Nat → Int32) (P_arrows : Nat → Int32) (P_uppers : Nat → Int32) (P_lowers : Nat → Int32) (C_x : Nat → Int32) (T_left : Nat → Int32) (T_right : Nat → Int32) (T_arrows : Nat → Int32) : va_W := [((aS 40), .inr (8, [.ref (aS 11), .ref (aS 36), .ref (aS 41), .ref (aS 42), .ref (aS 43), .ref (aS 44), .ref (aS 45), .ref (aS 46)])), ((aS 0), .inr (7, [.ref (aS 1), .ref (aS 2), .ref (aS 3), .ref (aS 4), .ref (aS 5), .ref (aS 6)])), ((aS 1), .inl (cI, 16, .inl R_width)), ((aS 11), .inr (6, [.ref (aS 12), .ref (aS 13), .ref (aS 14), .ref (aS 15)])), ((aS 12), .inl (cI, 24, .inl P_size)), ((aS 13), .inl (cI, 576, .inl P_arrows)), ((aS 14), .inl (cI, 576, .inl P_uppers)), ((aS 15), .inl (cI, 576, .inl P_lowers)), ((aS 36), .inr (1, [.ref (aS 0), .ref (aS 11), .ref (aS 37), .ref (aS 38), .ref (aS 39)])), ((aS 37), .inl (cI, 960, .inl C_x)), ((aS 43), .inl (cI, 24, .inl T_left)), ((aS 44), .inl (cI, 24, .inl T_right)), ((aS 45), .inl (cI, 24, .inl T_arrows))]
noncomputable def jX8_gatherParts_138 (T_left : Nat → Int32) (T_right : Nat → Int32) (T_arrows : Nat → Int32) (x1 : Int32) (x2 : Int32) (x3 : Int32) (x4 : Int32) : Option ((Int32 × Int32 × (Nat → Int32) × (Nat → Int32) × (Nat → Int32)) ⊕ (Int32 × (Nat → Int32) × (Nat → Int32) × (Nat → Int32))) :=
  some (.inl (x2, (x4 + 1), T_left, T_right, T_arrows))
noncomputable def bX8_gatherParts_19 (R_width : Nat → Int32) (P_size : Nat → Int32) (P_arrows : Nat → Int32) (P_uppers : Nat → Int32) (P_lowers : Nat → Int32) (C_x : Nat → Int32) (x1 : Int32) (x3 : Int32) (x2 : Int32) (x4 : Int32) (T_left : Nat → Int32) (T_right : Nat → Int32) (T_arrows : Nat → Int32) : Option ((Int32 × Int32 × (Nat → Int32) × (Nat → Int32) × (Nat → Int32)) ⊕ (Int32 × (Nat → Int32) × (Nat → Int32) × (Nat → Int32))) :=
  if x3 ≤ x4 then (
    some (.inr (x2, T_left, T_right, T_arrows))
  ) else (
    Option.bind (fX6_endOf P_size P_uppers P_lowers x1 x4 1) (fun q5 =>
    Option.bind (fX1_middleOf R_width C_x x1 q5) (fun q6 =>
    Option.bind (fX6_endOf P_size P_uppers P_lowers x1 x4 0) (fun q7 =>
    Option.bind (fX1_middleOf R_width C_x (x1 + 1) q7) (fun q8 =>
    if q6 = q8 then (
      jX8_gatherParts_138 T_left T_right T_arrows x1 x2 x3 x4
    ) else (
      q_b4 (fX8_openSpot T_left T_right T_arrows x2 (if q8 < q6 then q8 else q6)) (fun q9_0 q9_1 q9_2 q9_3 =>
      if q_in q9_0 24 then (
      if q_in q9_0 24 then (
      Option.bind (fX6_arrowOf P_size P_arrows x1 x4) (fun q12 =>
      if q_in q9_0 24 then (
      jX8_gatherParts_138 (upd q9_1 q9_0.toNatClampNeg (if q8 < q6 then q8 else q6)) (upd q9_2 q9_0.toNatClampNeg (if q6 < q8 then q8 else q6)) (upd q9_3 q9_0.toNatClampNeg q12) x1 (x2 + 1) x3 x4
      ) else none
      )
      ) else none
      ) else none
      )
    )
    )
    )
    )
    )
  )
noncomputable def fX8_gatherParts (R_width : Nat → Int32) (P_size : Nat → Int32) (P_arrows : Nat → Int32) (P_uppers : Nat → Int32) (P_lowers : Nat → Int32) (C_x : Nat → Int32) (T_left : Nat → Int32) (T_right : Nat → Int32) (T_arrows : Nat → Int32) (p0 : Int32) : Option (Int32 × (Nat → Int32) × (Nat → Int32) × (Nat → Int32)) :=
  Option.bind (fX6_sizeOf P_size p0) (fun q1 =>
  q_let (if (24 : Int32) < q1 then (24 : Int32) else q1) (fun v2 =>
  q_b4 (q_lo (fun (st : Int32 × Int32 × (Nat → Int32) × (Nat → Int32) × (Nat → Int32)) => bX8_gatherParts_19 R_width P_size P_arrows P_uppers P_lowers C_x p0 v2 st.1 st.2.1 st.2.2.1 st.2.2.2.1 st.2.2.2.2) (0, 0, T_left, T_right, T_arrows)) (fun q3_0 q3_1 q3_2 q3_3 =>
    some (q3_0, q3_1, q3_2, q3_3))
  )
  )
abbrev iX8_mostTracks (aS : Nat → Nat) (cI cZ : ClassId) (T_used : Nat → Int32) : va_W := [((aS 40), .inr (8, [.ref (aS 11), .ref (aS 36), .ref (aS 41), .ref (aS 42), .ref (aS 43), .ref (aS 44), .ref (aS 45), .ref (aS 46)])), ((aS 42), .inl (cI, 24, .inl T_used))]
noncomputable def bX8_mostTracks_4 (T_used : Nat → Int32) (x1 : Int32) (x2 : Int32) : Option ((Int32 × Int32) ⊕ (Int32)) :=
  if 24 ≤ x2 then (
    some (.inr x1)
  ) else (
    if q_in x2 24 then (
    q_let (if x1 < (T_used x2.toNatClampNeg) then (T_used x2.toNatClampNeg) else x1) (fun v3 =>
    some (.inl (v3, (x2 + 1)))
    )
    ) else none
  )
noncomputable def fX8_mostTracks (T_used : Nat → Int32) : Option (Int32) :=
  Option.bind (q_lo (fun (st : Int32 × Int32) => bX8_mostTracks_4 T_used st.1 st.2) (0, 0)) (fun q1 =>
    some q1)
abbrev iX8_shareGap (aS : Nat → Nat) (cI cZ : ClassId) (T_track : Nat → Int32) (T_used : Nat → Int32) (T_left : Nat → Int32) (T_right : Nat → Int32) (T_arrows : Nat → Int32) (T_trackEnd : Nat → Int32) : va_W := [((aS 40), .inr (8, [.ref (aS 11), .ref (aS 36), .ref (aS 41), .ref (aS 42), .ref (aS 43), .ref (aS 44), .ref (aS 45), .ref (aS 46)])), ((aS 41), .inl (cI, 576, .inl T_track)), ((aS 42), .inl (cI, 24, .inl T_used)), ((aS 43), .inl (cI, 24, .inl T_left)), ((aS 44), .inl (cI, 24, .inl T_right)), ((aS 45), .inl (cI, 24, .inl T_arrows)), ((aS 46), .inl (cI, 24, .inl T_trackEnd))]
noncomputable def jX8_shareGap_124 (T_track : Nat → Int32) (T_used : Nat → Int32) (T_trackEnd : Nat → Int32) (x1 : Int32) (x2 : Int32) (x3 : Int32) : Option ((Int32 × (Nat → Int32) × (Nat → Int32) × (Nat → Int32)) ⊕ ((Nat → Int32) × (Nat → Int32) × (Nat → Int32))) :=
  some (.inl ((x3 + 1), T_track, T_used, T_trackEnd))
noncomputable def bX8_shareGap_21 (T_used : Nat → Int32) (T_left : Nat → Int32) (T_trackEnd : Nat → Int32) (x1 : Int32) (x3 : Int32) (x4 : Int32) : Option ((Int32) ⊕ (Int32)) :=
  if q_in x1 24 then (
  if (T_used x1.toNatClampNeg) ≤ x4 then (
    some (.inr x4)
  ) else (
    if q_in x4 24 then (
    if q_in x3 24 then (
    if (T_trackEnd x4.toNatClampNeg) < (T_left x3.toNatClampNeg) then (
      some (.inr x4)
    ) else (
      some (.inl (x4 + 1))
    )
    ) else none
    ) else none
  )
  ) else none
noncomputable def bX8_shareGap_13 (T_left : Nat → Int32) (T_right : Nat → Int32) (T_arrows : Nat → Int32) (x1 : Int32) (x2 : Int32) (x3 : Int32) (T_track : Nat → Int32) (T_used : Nat → Int32) (T_trackEnd : Nat → Int32) : Option ((Int32 × (Nat → Int32) × (Nat → Int32) × (Nat → Int32)) ⊕ ((Nat → Int32) × (Nat → Int32) × (Nat → Int32))) :=
  if x2 ≤ x3 then (
    some (.inr (T_track, T_used, T_trackEnd))
  ) else (
    Option.bind (q_lo (fun (st : Int32) => bX8_shareGap_21 T_used T_left T_trackEnd x1 x3 st) 0) (fun q3 =>
      if q_in x1 24 then (
      if q_in x1 24 then (
      if q_in x3 24 then (
      if q_in q3 24 then (
      if q_in x3 24 then (
      if (T_arrows x3.toNatClampNeg) < 0 then (
        jX8_shareGap_124 T_track (upd T_used x1.toNatClampNeg (if (T_used x1.toNatClampNeg) < (q3 + 1) then (q3 + 1) else (T_used x1.toNatClampNeg))) (upd T_trackEnd q3.toNatClampNeg (T_right x3.toNatClampNeg)) x1 x2 x3
      ) else (
        if q_in x3 24 then (
        if 24 ≤ (T_arrows x3.toNatClampNeg) then (
          jX8_shareGap_124 T_track (upd T_used x1.toNatClampNeg (if (T_used x1.toNatClampNeg) < (q3 + 1) then (q3 + 1) else (T_used x1.toNatClampNeg))) (upd T_trackEnd q3.toNatClampNeg (T_right x3.toNatClampNeg)) x1 x2 x3
        ) else (
          if q_in x3 24 then (
          if q_in ((x1 * 24) + (T_arrows x3.toNatClampNeg)) 576 then (
          jX8_shareGap_124 (upd T_track ((x1 * 24) + (T_arrows x3.toNatClampNeg)).toNatClampNeg q3) (upd T_used x1.toNatClampNeg (if (T_used x1.toNatClampNeg) < (q3 + 1) then (q3 + 1) else (T_used x1.toNatClampNeg))) (upd T_trackEnd q3.toNatClampNeg (T_right x3.toNatClampNeg)) x1 x2 x3
          ) else none
          ) else none
        )
        ) else none
      )
      ) else none
      ) else none
      ) else none
      ) else none
      ) else none)
  )
noncomputable def fX8_shareGap (T_track : Nat → Int32) (T_used : Nat → Int32) (T_left : Nat → Int32) (T_right : Nat → Int32) (T_arrows : Nat → Int32) (T_trackEnd : Nat → Int32) (p0 : Int32) (p1 : Int32) : Option ((Nat → Int32) × (Nat → Int32) × (Nat → Int32)) :=
  if p0 < 0 then (
    some (T_track, T_used, T_trackEnd)
  ) else (
    if p0 < 24 then (
      q_b3 (q_lo (fun (st : Int32 × (Nat → Int32) × (Nat → Int32) × (Nat → Int32)) => bX8_shareGap_13 T_left T_right T_arrows p0 p1 st.1 st.2.1 st.2.2.1 st.2.2.2) (0, T_track, T_used, T_trackEnd)) (fun q1_0 q1_1 q1_2 =>
        some (q1_0, q1_1, q1_2))
    ) else (
      some (T_track, T_used, T_trackEnd)
    )
  )
abbrev iX8_share (aS : Nat → Nat) (aO : Nat → Nat) (cI cZ : ClassId) (R_width : Nat → Int32) (P_size : Nat → Int32) (P_arrows : Nat → Int32) (P_uppers : Nat → Int32) (P_lowers : Nat → Int32) (C_x : Nat → Int32) (T_track : Nat → Int32) (T_used : Nat → Int32) (T_left : Nat → Int32) (T_right : Nat → Int32) (T_arrows : Nat → Int32) (T_trackEnd : Nat → Int32) (O_layers : Int32) : va_W := [((aS 40), .inr (8, [.ref (aS 11), .ref (aS 36), .ref (aS 41), .ref (aS 42), .ref (aS 43), .ref (aS 44), .ref (aS 45), .ref (aS 46)])), ((aS 0), .inr (7, [.ref (aS 1), .ref (aS 2), .ref (aS 3), .ref (aS 4), .ref (aS 5), .ref (aS 6)])), ((aS 1), .inl (cI, 16, .inl R_width)), ((aS 11), .inr (6, [.ref (aS 12), .ref (aS 13), .ref (aS 14), .ref (aS 15)])), ((aS 12), .inl (cI, 24, .inl P_size)), ((aS 13), .inl (cI, 576, .inl P_arrows)), ((aS 14), .inl (cI, 576, .inl P_uppers)), ((aS 15), .inl (cI, 576, .inl P_lowers)), ((aS 36), .inr (1, [.ref (aS 0), .ref (aS 11), .ref (aS 37), .ref (aS 38), .ref (aS 39)])), ((aS 37), .inl (cI, 960, .inl C_x)), ((aS 41), .inl (cI, 576, .inl T_track)), ((aS 42), .inl (cI, 24, .inl T_used)), ((aS 43), .inl (cI, 24, .inl T_left)), ((aS 44), .inl (cI, 24, .inl T_right)), ((aS 45), .inl (cI, 24, .inl T_arrows)), ((aS 46), .inl (cI, 24, .inl T_trackEnd)), ((aO 0), .inr (4, [.int O_layers, .ref (aO 1), .ref (aO 2), .ref (aO 3), .ref (aO 4)]))]
noncomputable def bX8_share_18 (R_width : Nat → Int32) (P_size : Nat → Int32) (P_arrows : Nat → Int32) (P_uppers : Nat → Int32) (P_lowers : Nat → Int32) (C_x : Nat → Int32) (O_layers : Int32) (x2 : Int32) (T_track : Nat → Int32) (T_used : Nat → Int32) (T_left : Nat → Int32) (T_right : Nat → Int32) (T_arrows : Nat → Int32) (T_trackEnd : Nat → Int32) : Option ((Int32 × (Nat → Int32) × (Nat → Int32) × (Nat → Int32) × (Nat → Int32) × (Nat → Int32) × (Nat → Int32)) ⊕ ((Nat → Int32) × (Nat → Int32) × (Nat → Int32) × (Nat → Int32) × (Nat → Int32) × (Nat → Int32))) :=
  Option.bind (fX4_layers O_layers) (fun q2 =>
  if (q2 - 1) ≤ x2 then (
    some (.inr (T_track, T_used, T_left, T_right, T_arrows, T_trackEnd))
  ) else (
    q_b4 (fX8_gatherParts R_width P_size P_arrows P_uppers P_lowers C_x T_left T_right T_arrows x2) (fun q3_0 q3_1 q3_2 q3_3 =>
    q_b3 (fX8_shareGap T_track T_used q3_1 q3_2 q3_3 T_trackEnd x2 q3_0) (fun q4_0 q4_1 q4_2 =>
    some (.inl ((x2 + 1), q4_0, q4_1, q3_1, q3_2, q3_3, q4_2))
    )
    )
  )
  )
noncomputable def fX8_share (R_width : Nat → Int32) (P_size : Nat → Int32) (P_arrows : Nat → Int32) (P_uppers : Nat → Int32) (P_lowers : Nat → Int32) (C_x : Nat → Int32) (T_left : Nat → Int32) (T_right : Nat → Int32) (T_arrows : Nat → Int32) (T_trackEnd : Nat → Int32) (O_layers : Int32) : Option ((Nat → Int32) × (Nat → Int32) × (Nat → Int32) × (Nat → Int32) × (Nat → Int32) × (Nat → Int32)) :=
  q_b6 (q_lo (fun (st : Int32 × (Nat → Int32) × (Nat → Int32) × (Nat → Int32) × (Nat → Int32) × (Nat → Int32) × (Nat → Int32)) => bX8_share_18 R_width P_size P_arrows P_uppers P_lowers C_x O_layers st.1 st.2.1 st.2.2.1 st.2.2.2.1 st.2.2.2.2.1 st.2.2.2.2.2.1 st.2.2.2.2.2.2) (0, (fun _ => (-1)), (fun _ => 0), T_left, T_right, T_arrows, T_trackEnd)) (fun q1_0 q1_1 q1_2 q1_3 q1_4 q1_5 =>
    some (q1_0, q1_1, q1_2, q1_3, q1_4, q1_5))
abbrev iX8_trackOf (aS : Nat → Nat) (cI cZ : ClassId) (T_track : Nat → Int32) : va_W := [((aS 40), .inr (8, [.ref (aS 11), .ref (aS 36), .ref (aS 41), .ref (aS 42), .ref (aS 43), .ref (aS 44), .ref (aS 45), .ref (aS 46)])), ((aS 41), .inl (cI, 576, .inl T_track))]
noncomputable def jX8_trackOf_25 (T_track : Nat → Int32) (x1 : Int32) (x2 : Int32) (s0 : Int32) : Option (Int32) :=
  if s0 = 0 then (
    some (-1)
  ) else (
    if q_in ((x2 * 24) + x1) 576 then (
    some (T_track ((x2 * 24) + x1).toNatClampNeg)
    ) else none
  )
noncomputable def jX8_trackOf_24 (T_track : Nat → Int32) (x1 : Int32) (x2 : Int32) : Option (Int32) :=
  jX8_trackOf_25 T_track x1 x2 0
noncomputable def fX8_trackOf (T_track : Nat → Int32) (p0 : Int32) (p1 : Int32) : Option (Int32) :=
  if p0 < 0 then (
    jX8_trackOf_24 T_track p0 p1
  ) else (
    if 24 ≤ p0 then (
      jX8_trackOf_24 T_track p0 p1
    ) else (
      if p1 < 0 then (
        jX8_trackOf_24 T_track p0 p1
      ) else (
        if 24 ≤ p1 then (
          jX8_trackOf_24 T_track p0 p1
        ) else (
          jX8_trackOf_25 T_track p0 p1 1
        )
      )
    )
  )
abbrev iX8_tracksIn (aS : Nat → Nat) (cI cZ : ClassId) (T_used : Nat → Int32) : va_W := [((aS 40), .inr (8, [.ref (aS 11), .ref (aS 36), .ref (aS 41), .ref (aS 42), .ref (aS 43), .ref (aS 44), .ref (aS 45), .ref (aS 46)])), ((aS 42), .inl (cI, 24, .inl T_used))]
noncomputable def fX8_tracksIn (T_used : Nat → Int32) (p0 : Int32) : Option (Int32) :=
  if p0 < 0 then (
    some 0
  ) else (
    if 24 ≤ p0 then (
      some 0
    ) else (
      if q_in p0 24 then (
      some (T_used p0.toNatClampNeg)
      ) else none
    )
  )
abbrev iX9_needArrowNumber (cI cZ : ClassId) : va_W := []
noncomputable def fX9_needArrowNumber (p0 : Int32) : Option (Unit) :=
  if p0 < 0 then (
    none
  ) else (
    if p0 < 24 then (
      some ()
    ) else (
      none
    )
  )
abbrev iX9_needBox (aS : Nat → Nat) (aL : Nat → Nat) (aF : Nat → Nat) (aK : Nat → Nat) (cI cZ : ClassId) (M_told : Int32) (R_width : Nat → Int32) : va_W := [((aS 47), .inr (9, [.ref (aS 0), .ref (aS 7), .ref (aS 11), .ref (aS 16), .ref (aS 19), .ref (aS 36), .ref (aS 40), .ref (aL 0), .ref (aF 0), .ref (aK 0), .int M_told])), ((aS 0), .inr (7, [.ref (aS 1), .ref (aS 2), .ref (aS 3), .ref (aS 4), .ref (aS 5), .ref (aS 6)])), ((aS 1), .inl (cI, 16, .inl R_width))]
noncomputable def fX9_needBox (R_width : Nat → Int32) (p0 : Int32) : Option (Unit) :=
  Option.bind (fX7_hasBox R_width p0) (fun q1 =>
  if q1 = 0 then (
    none
  ) else (
    some ()
  )
  )
abbrev iX9_arrow (aS : Nat → Nat) (aL : Nat → Nat) (aF : Nat → Nat) (aK : Nat → Nat) (cI cZ : ClassId) (M_told : Int32) (R_width : Nat → Int32) (R_from : Nat → Int32) (R_to : Nat → Int32) (R_turned : Nat → Int32) (R_reach : Nat → Int32) : va_W := [((aS 47), .inr (9, [.ref (aS 0), .ref (aS 7), .ref (aS 11), .ref (aS 16), .ref (aS 19), .ref (aS 36), .ref (aS 40), .ref (aL 0), .ref (aF 0), .ref (aK 0), .int M_told])), ((aS 0), .inr (7, [.ref (aS 1), .ref (aS 2), .ref (aS 3), .ref (aS 4), .ref (aS 5), .ref (aS 6)])), ((aS 1), .inl (cI, 16, .inl R_width)), ((aS 3), .inl (cI, 24, .inl R_from)), ((aS 4), .inl (cI, 24, .inl R_to)), ((aS 5), .inl (cZ, 24, .inl R_turned)), ((aS 6), .inl (cI, 16, .inl R_reach))]
noncomputable def fX9_arrow (R_width : Nat → Int32) (R_from : Nat → Int32) (R_to : Nat → Int32) (R_turned : Nat → Int32) (R_reach : Nat → Int32) (p0 : Int32) (p1 : Int32) (p2 : Int32) : Option (Int32 × (Nat → Int32) × (Nat → Int32) × (Nat → Int32) × (Nat → Int32)) :=
  Option.bind (fX9_needArrowNumber p0) (fun _ =>
  Option.bind (fX9_needBox R_width p1) (fun _ =>
  Option.bind (fX9_needBox R_width p2) (fun _ =>
  if p1 = p2 then (
    none
  ) else (
    q_b4 (fX7_putArrow R_width R_from R_to R_turned R_reach p0 p1 p2) (fun q4_0 q4_1 q4_2 q4_3 =>
    some (0, q4_0, q4_1, q4_2, q4_3)
    )
  )
  )
  )
  )
abbrev iX9_needBoxNumber (cI cZ : ClassId) : va_W := []
noncomputable def fX9_needBoxNumber (p0 : Int32) : Option (Unit) :=
  if p0 < 0 then (
    none
  ) else (
    if p0 < 16 then (
      some ()
    ) else (
      none
    )
  )
abbrev iX9_needWhat (cI cZ : ClassId) : va_W := []
noncomputable def fX9_needWhat (p0 : Int32) (p1 : Int32) : Option (Unit) :=
  if p0 < 0 then (
    none
  ) else (
    if p0 ≤ p1 then (
      some ()
    ) else (
      none
    )
  )
abbrev iX9_at (aS : Nat → Nat) (aL : Nat → Nat) (aF : Nat → Nat) (aK : Nat → Nat) (cI cZ : ClassId) (M_told : Int32) (R_width : Nat → Int32) (L_layer : Nat → Int32) (L_layers : Int32) (C_x : Nat → Int32) (OL_layers : Int32) (OL_places : Nat → Int32) : va_W := [((aS 47), .inr (9, [.ref (aS 0), .ref (aS 7), .ref (aS 11), .ref (aS 16), .ref (aS 19), .ref (aS 36), .ref (aS 40), .ref (aL 0), .ref (aF 0), .ref (aK 0), .int M_told])), ((aS 0), .inr (7, [.ref (aS 1), .ref (aS 2), .ref (aS 3), .ref (aS 4), .ref (aS 5), .ref (aS 6)])), ((aS 1), .inl (cI, 16, .inl R_width)), ((aS 7), .inr (3, [.ref (aS 0), .ref (aS 8), .ref (aS 9), .ref (aS 10), .int L_layers])), ((aS 8), .inl (cI, 16, .inl L_layer)), ((aS 36), .inr (1, [.ref (aS 0), .ref (aS 11), .ref (aS 37), .ref (aS 38), .ref (aS 39)])), ((aS 37), .inl (cI, 960, .inl C_x)), ((aL 0), .inr (4, [.int OL_layers, .ref (aL 1), .ref (aL 2), .ref (aL 3), .ref (aL 4)])), ((aL 3), .inl (cI, 960, .inl OL_places))]
noncomputable def fX9_at (M_told : Int32) (R_width : Nat → Int32) (L_layer : Nat → Int32) (C_x : Nat → Int32) (OL_places : Nat → Int32) (p0 : Int32) (p1 : Int32) : Option (Int32) :=
  Option.bind (fX9_needBoxNumber p0) (fun _ =>
  Option.bind (fX9_needWhat p1 2) (fun _ =>
  if M_told = 0 then (
    some (-1)
  ) else (
    Option.bind (fX7_hasBox R_width p0) (fun q3 =>
    if q3 = 0 then (
      some (-1)
    ) else (
      Option.bind (fX3_layerOf L_layer p0) (fun q4 =>
      if p1 = 0 then (
        some q4
      ) else (
        if p1 = 1 then (
          Option.bind (fX4_placeIn OL_places q4 p0) (fun q7 =>
          some q7
          )
        ) else (
          Option.bind (fX1_leftOf C_x q4 p0) (fun q8 =>
          some q8
          )
        )
      )
      )
    )
    )
  )
  )
  )
abbrev iX9_between (aS : Nat → Nat) (aL : Nat → Nat) (aF : Nat → Nat) (aK : Nat → Nat) (cI cZ : ClassId) (M_told : Int32) (L_layers : Int32) (P_size : Nat → Int32) (P_uppers : Nat → Int32) (P_lowers : Nat → Int32) (X_upper : Nat → Int32) (X_lower : Nat → Int32) (T_used : Nat → Int32) (OL_layers : Int32) (OL_places : Nat → Int32) : va_W := [((aS 47), .inr (9, [.ref (aS 0), .ref (aS 7), .ref (aS 11), .ref (aS 16), .ref (aS 19), .ref (aS 36), .ref (aS 40), .ref (aL 0), .ref (aF 0), .ref (aK 0), .int M_told])), ((aS 7), .inr (3, [.ref (aS 0), .ref (aS 8), .ref (aS 9), .ref (aS 10), .int L_layers])), ((aS 11), .inr (6, [.ref (aS 12), .ref (aS 13), .ref (aS 14), .ref (aS 15)])), ((aS 12), .inl (cI, 24, .inl P_size)), ((aS 14), .inl (cI, 576, .inl P_uppers)), ((aS 15), .inl (cI, 576, .inl P_lowers)), ((aS 16), .inr (2, [.ref (aS 11), .ref (aS 17), .ref (aS 18)])), ((aS 17), .inl (cI, 24, .inl X_upper)), ((aS 18), .inl (cI, 24, .inl X_lower)), ((aS 40), .inr (8, [.ref (aS 11), .ref (aS 36), .ref (aS 41), .ref (aS 42), .ref (aS 43), .ref (aS 44), .ref (aS 45), .ref (aS 46)])), ((aS 42), .inl (cI, 24, .inl T_used)), ((aL 0), .inr (4, [.int OL_layers, .ref (aL 1), .ref (aL 2), .ref (aL 3), .ref (aL 4)])), ((aL 3), .inl (cI, 960, .inl OL_places))]
noncomputable def fX9_between (M_told : Int32) (L_layers : Int32) (P_size : Nat → Int32) (P_uppers : Nat → Int32) (P_lowers : Nat → Int32) (X_upper : Nat → Int32) (X_lower : Nat → Int32) (T_used : Nat → Int32) (OL_places : Nat → Int32) (p0 : Int32) (p1 : Int32) : Option (Int32 × (Nat → Int32) × (Nat → Int32)) :=
  Option.bind (fX9_needWhat p1 1) (fun _ =>
  if M_told = 0 then (
    some ((-1), X_upper, X_lower)
  ) else (
    if p0 < 0 then (
      some ((-1), X_upper, X_lower)
    ) else (
      Option.bind (fX3_layers L_layers) (fun q2 =>
      if p0 < (q2 - 1) then (
        if p1 = 0 then (
          q_b3 (fX2_inGap P_size P_uppers P_lowers X_upper X_lower OL_places p0) (fun q4_0 q4_1 q4_2 =>
          some (q4_0, q4_1, q4_2)
          )
        ) else (
          Option.bind (fX8_tracksIn T_used p0) (fun q3 =>
          some (q3, X_upper, X_lower)
          )
        )
      ) else (
        some ((-1), X_upper, X_lower)
      )
      )
    )
  )
  )
abbrev iX9_box (aS : Nat → Nat) (aL : Nat → Nat) (aF : Nat → Nat) (aK : Nat → Nat) (cI cZ : ClassId) (M_told : Int32) (R_width : Nat → Int32) : va_W := [((aS 47), .inr (9, [.ref (aS 0), .ref (aS 7), .ref (aS 11), .ref (aS 16), .ref (aS 19), .ref (aS 36), .ref (aS 40), .ref (aL 0), .ref (aF 0), .ref (aK 0), .int M_told])), ((aS 0), .inr (7, [.ref (aS 1), .ref (aS 2), .ref (aS 3), .ref (aS 4), .ref (aS 5), .ref (aS 6)])), ((aS 1), .inl (cI, 16, .inl R_width))]
noncomputable def fX9_box (R_width : Nat → Int32) (p0 : Int32) (p1 : Int32) : Option (Int32 × (Nat → Int32)) :=
  Option.bind (fX9_needBoxNumber p0) (fun _ =>
  if p1 < 1 then (
    none
  ) else (
    if p1 ≤ 50 then (
      Option.bind (fX7_putBox R_width p0 p1) (fun q2 =>
      some (0, q2)
      )
    ) else (
      none
    )
  )
  )
abbrev iX9_toldSum (aS : Nat → Nat) (aL : Nat → Nat) (aF : Nat → Nat) (aK : Nat → Nat) (cI cZ : ClassId) (M_told : Int32) (R_width : Nat → Int32) (L_layers : Int32) (P_size : Nat → Int32) (P_uppers : Nat → Int32) (P_lowers : Nat → Int32) (X_upper : Nat → Int32) (X_lower : Nat → Int32) (C_x : Nat → Int32) (T_used : Nat → Int32) (OL_layers : Int32) (OL_size : Nat → Int32) (OL_rows : Nat → Int32) (OL_places : Nat → Int32) : va_W := [((aS 47), .inr (9, [.ref (aS 0), .ref (aS 7), .ref (aS 11), .ref (aS 16), .ref (aS 19), .ref (aS 36), .ref (aS 40), .ref (aL 0), .ref (aF 0), .ref (aK 0), .int M_told])), ((aS 0), .inr (7, [.ref (aS 1), .ref (aS 2), .ref (aS 3), .ref (aS 4), .ref (aS 5), .ref (aS 6)])), ((aS 1), .inl (cI, 16, .inl R_width)), ((aS 7), .inr (3, [.ref (aS 0), .ref (aS 8), .ref (aS 9), .ref (aS 10), .int L_layers])), ((aS 11), .inr (6, [.ref (aS 12), .ref (aS 13), .ref (aS 14), .ref (aS 15)])), ((aS 12), .inl (cI, 24, .inl P_size)), ((aS 14), .inl (cI, 576, .inl P_uppers)), ((aS 15), .inl (cI, 576, .inl P_lowers)), ((aS 16), .inr (2, [.ref (aS 11), .ref (aS 17), .ref (aS 18)])), ((aS 17), .inl (cI, 24, .inl X_upper)), ((aS 18), .inl (cI, 24, .inl X_lower)), ((aS 36), .inr (1, [.ref (aS 0), .ref (aS 11), .ref (aS 37), .ref (aS 38), .ref (aS 39)])), ((aS 37), .inl (cI, 960, .inl C_x)), ((aS 40), .inr (8, [.ref (aS 11), .ref (aS 36), .ref (aS 41), .ref (aS 42), .ref (aS 43), .ref (aS 44), .ref (aS 45), .ref (aS 46)])), ((aS 42), .inl (cI, 24, .inl T_used)), ((aL 0), .inr (4, [.int OL_layers, .ref (aL 1), .ref (aL 2), .ref (aL 3), .ref (aL 4)])), ((aL 1), .inl (cI, 24, .inl OL_size)), ((aL 2), .inl (cI, 960, .inl OL_rows)), ((aL 3), .inl (cI, 960, .inl OL_places))]
noncomputable def fX9_toldSum (R_width : Nat → Int32) (L_layers : Int32) (P_size : Nat → Int32) (P_uppers : Nat → Int32) (P_lowers : Nat → Int32) (X_upper : Nat → Int32) (X_lower : Nat → Int32) (C_x : Nat → Int32) (T_used : Nat → Int32) (OL_layers : Int32) (OL_size : Nat → Int32) (OL_rows : Nat → Int32) (OL_places : Nat → Int32) (p0 : Int32) : Option (Int32 × (Nat → Int32) × (Nat → Int32)) :=
  if p0 = 3 then (
    Option.bind (fX3_layers L_layers) (fun q2 =>
    some (q2, X_upper, X_lower)
    )
  ) else (
    if p0 = 4 then (
      Option.bind (fX4_items OL_layers OL_size) (fun q4 =>
      some (q4, X_upper, X_lower)
      )
    ) else (
      if p0 = 5 then (
        q_b3 (fX2_inAll P_size P_uppers P_lowers X_upper X_lower OL_layers OL_places) (fun q6_0 q6_1 q6_2 =>
        some (q6_0, q6_1, q6_2)
        )
      ) else (
        if p0 = 6 then (
          Option.bind (fX1_greatestEnd R_width C_x OL_layers OL_size OL_rows) (fun q8 =>
          some (q8, X_upper, X_lower)
          )
        ) else (
          if p0 = 7 then (
            Option.bind (fX8_mostTracks T_used) (fun q10 =>
            some (q10, X_upper, X_lower)
            )
          ) else (
            some ((-1), X_upper, X_lower)
          )
        )
      )
    )
  )
abbrev iX9_count (aS : Nat → Nat) (aL : Nat → Nat) (aF : Nat → Nat) (aK : Nat → Nat) (cI cZ : ClassId) (M_told : Int32) (R_width : Nat → Int32) (R_from : Nat → Int32) (R_turned : Nat → Int32) (L_layers : Int32) (P_size : Nat → Int32) (P_uppers : Nat → Int32) (P_lowers : Nat → Int32) (X_upper : Nat → Int32) (X_lower : Nat → Int32) (C_x : Nat → Int32) (T_used : Nat → Int32) (OL_layers : Int32) (OL_size : Nat → Int32) (OL_rows : Nat → Int32) (OL_places : Nat → Int32) : va_W := [((aS 47), .inr (9, [.ref (aS 0), .ref (aS 7), .ref (aS 11), .ref (aS 16), .ref (aS 19), .ref (aS 36), .ref (aS 40), .ref (aL 0), .ref (aF 0), .ref (aK 0), .int M_told])), ((aS 0), .inr (7, [.ref (aS 1), .ref (aS 2), .ref (aS 3), .ref (aS 4), .ref (aS 5), .ref (aS 6)])), ((aS 1), .inl (cI, 16, .inl R_width)), ((aS 3), .inl (cI, 24, .inl R_from)), ((aS 5), .inl (cZ, 24, .inl R_turned)), ((aS 7), .inr (3, [.ref (aS 0), .ref (aS 8), .ref (aS 9), .ref (aS 10), .int L_layers])), ((aS 11), .inr (6, [.ref (aS 12), .ref (aS 13), .ref (aS 14), .ref (aS 15)])), ((aS 12), .inl (cI, 24, .inl P_size)), ((aS 14), .inl (cI, 576, .inl P_uppers)), ((aS 15), .inl (cI, 576, .inl P_lowers)), ((aS 16), .inr (2, [.ref (aS 11), .ref (aS 17), .ref (aS 18)])), ((aS 17), .inl (cI, 24, .inl X_upper)), ((aS 18), .inl (cI, 24, .inl X_lower)), ((aS 36), .inr (1, [.ref (aS 0), .ref (aS 11), .ref (aS 37), .ref (aS 38), .ref (aS 39)])), ((aS 37), .inl (cI, 960, .inl C_x)), ((aS 40), .inr (8, [.ref (aS 11), .ref (aS 36), .ref (aS 41), .ref (aS 42), .ref (aS 43), .ref (aS 44), .ref (aS 45), .ref (aS 46)])), ((aS 42), .inl (cI, 24, .inl T_used)), ((aL 0), .inr (4, [.int OL_layers, .ref (aL 1), .ref (aL 2), .ref (aL 3), .ref (aL 4)])), ((aL 1), .inl (cI, 24, .inl OL_size)), ((aL 2), .inl (cI, 960, .inl OL_rows)), ((aL 3), .inl (cI, 960, .inl OL_places))]
noncomputable def fX9_count (M_told : Int32) (R_width : Nat → Int32) (R_from : Nat → Int32) (R_turned : Nat → Int32) (L_layers : Int32) (P_size : Nat → Int32) (P_uppers : Nat → Int32) (P_lowers : Nat → Int32) (X_upper : Nat → Int32) (X_lower : Nat → Int32) (C_x : Nat → Int32) (T_used : Nat → Int32) (OL_layers : Int32) (OL_size : Nat → Int32) (OL_rows : Nat → Int32) (OL_places : Nat → Int32) (p0 : Int32) : Option (Int32 × (Nat → Int32) × (Nat → Int32)) :=
  if p0 = 0 then (
    Option.bind (fX7_boxes R_width) (fun q2 =>
    some (q2, X_upper, X_lower)
    )
  ) else (
    if p0 = 1 then (
      Option.bind (fX7_arrows R_from) (fun q4 =>
      some (q4, X_upper, X_lower)
      )
    ) else (
      if p0 = 2 then (
        Option.bind (fX7_turnedArrows R_from R_turned) (fun q6 =>
        some (q6, X_upper, X_lower)
        )
      ) else (
        if M_told = 0 then (
          some ((-1), X_upper, X_lower)
        ) else (
          q_b3 (fX9_toldSum R_width L_layers P_size P_uppers P_lowers X_upper X_lower C_x T_used OL_layers OL_size OL_rows OL_places p0) (fun q7_0 q7_1 q7_2 =>
          some (q7_0, q7_1, q7_2)
          )
        )
      )
    )
  )
abbrev iX9_needRounds (cI cZ : ClassId) : va_W := []
noncomputable def fX9_needRounds (p0 : Int32) : Option (Unit) :=
  if p0 < 0 then (
    none
  ) else (
    if p0 ≤ 4 then (
      some ()
    ) else (
      none
    )
  )
abbrev iX9_prepare (aS : Nat → Nat) (aL : Nat → Nat) (aF : Nat → Nat) (aK : Nat → Nat) (cI cZ : ClassId) (M_told : Int32) (R_width : Nat → Int32) (R_pinned : Nat → Int32) (R_from : Nat → Int32) (R_to : Nat → Int32) (R_turned : Nat → Int32) (L_layer : Nat → Int32) (L_tops : Nat → Int32) (L_bottoms : Nat → Int32) (L_layers : Int32) (P_size : Nat → Int32) (P_arrows : Nat → Int32) (P_uppers : Nat → Int32) (P_lowers : Nat → Int32) : va_W := [((aS 47), .inr (9, [.ref (aS 0), .ref (aS 7), .ref (aS 11), .ref (aS 16), .ref (aS 19), .ref (aS 36), .ref (aS 40), .ref (aL 0), .ref (aF 0), .ref (aK 0), .int M_told])), ((aS 0), .inr (7, [.ref (aS 1), .ref (aS 2), .ref (aS 3), .ref (aS 4), .ref (aS 5), .ref (aS 6)])), ((aS 1), .inl (cI, 16, .inl R_width)), ((aS 2), .inl (cI, 16, .inl R_pinned)), ((aS 3), .inl (cI, 24, .inl R_from)), ((aS 4), .inl (cI, 24, .inl R_to)), ((aS 5), .inl (cZ, 24, .inl R_turned)), ((aS 7), .inr (3, [.ref (aS 0), .ref (aS 8), .ref (aS 9), .ref (aS 10), .int L_layers])), ((aS 8), .inl (cI, 16, .inl L_layer)), ((aS 9), .inl (cI, 24, .inl L_tops)), ((aS 10), .inl (cI, 24, .inl L_bottoms)), ((aS 11), .inr (6, [.ref (aS 12), .ref (aS 13), .ref (aS 14), .ref (aS 15)])), ((aS 12), .inl (cI, 24, .inl P_size)), ((aS 13), .inl (cI, 576, .inl P_arrows)), ((aS 14), .inl (cI, 576, .inl P_uppers)), ((aS 15), .inl (cI, 576, .inl P_lowers))]
noncomputable def fX9_prepare (R_width : Nat → Int32) (R_pinned : Nat → Int32) (R_from : Nat → Int32) (R_to : Nat → Int32) (R_turned : Nat → Int32) (L_layer : Nat → Int32) (L_tops : Nat → Int32) (L_bottoms : Nat → Int32) (P_size : Nat → Int32) (P_arrows : Nat → Int32) (P_uppers : Nat → Int32) (P_lowers : Nat → Int32) : Option (Int32 × Int32 × (Nat → Int32) × (Nat → Int32) × (Nat → Int32) × Int32 × (Nat → Int32) × (Nat → Int32) × (Nat → Int32) × (Nat → Int32)) :=
  q_b5 (fX3_settle R_width R_pinned R_from R_to R_turned L_layer L_tops L_bottoms) (fun q1_0 q1_1 q1_2 q1_3 q1_4 =>
  if q1_0 = 0 then (
    some (0, 0, q1_1, q1_2, q1_3, q1_4, P_size, P_arrows, P_uppers, P_lowers)
  ) else (
    q_b4 (fX6_collect R_from R_to R_turned q1_2 q1_3 P_arrows P_uppers P_lowers) (fun q2_0 q2_1 q2_2 q2_3 =>
    some (1, 0, q1_1, q1_2, q1_3, q1_4, q2_0, q2_1, q2_2, q2_3)
    )
  )
  )
abbrev iX9_finish (aS : Nat → Nat) (aL : Nat → Nat) (aF : Nat → Nat) (aK : Nat → Nat) (cI cZ : ClassId) (M_told : Int32) (R_width : Nat → Int32) (P_size : Nat → Int32) (P_arrows : Nat → Int32) (P_uppers : Nat → Int32) (P_lowers : Nat → Int32) (C_x : Nat → Int32) (C_sum : Nat → Int32) (C_degree : Nat → Int32) (T_track : Nat → Int32) (T_used : Nat → Int32) (T_left : Nat → Int32) (T_right : Nat → Int32) (T_arrows : Nat → Int32) (T_trackEnd : Nat → Int32) (OL_layers : Int32) (OL_size : Nat → Int32) (OL_rows : Nat → Int32) : va_W := [((aS 47), .inr (9, [.ref (aS 0), .ref (aS 7), .ref (aS 11), .ref (aS 16), .ref (aS 19), .ref (aS 36), .ref (aS 40), .ref (aL 0), .ref (aF 0), .ref (aK 0), .int M_told])), ((aS 0), .inr (7, [.ref (aS 1), .ref (aS 2), .ref (aS 3), .ref (aS 4), .ref (aS 5), .ref (aS 6)])), ((aS 1), .inl (cI, 16, .inl R_width)), ((aS 11), .inr (6, [.ref (aS 12), .ref (aS 13), .ref (aS 14), .ref (aS 15)])), ((aS 12), .inl (cI, 24, .inl P_size)), ((aS 13), .inl (cI, 576, .inl P_arrows)), ((aS 14), .inl (cI, 576, .inl P_uppers)), ((aS 15), .inl (cI, 576, .inl P_lowers)), ((aS 36), .inr (1, [.ref (aS 0), .ref (aS 11), .ref (aS 37), .ref (aS 38), .ref (aS 39)])), ((aS 37), .inl (cI, 960, .inl C_x)), ((aS 38), .inl (cI, 40, .inl C_sum)), ((aS 39), .inl (cI, 40, .inl C_degree)), ((aS 40), .inr (8, [.ref (aS 11), .ref (aS 36), .ref (aS 41), .ref (aS 42), .ref (aS 43), .ref (aS 44), .ref (aS 45), .ref (aS 46)])), ((aS 41), .inl (cI, 576, .inl T_track)), ((aS 42), .inl (cI, 24, .inl T_used)), ((aS 43), .inl (cI, 24, .inl T_left)), ((aS 44), .inl (cI, 24, .inl T_right)), ((aS 45), .inl (cI, 24, .inl T_arrows)), ((aS 46), .inl (cI, 24, .inl T_trackEnd)), ((aL 0), .inr (4, [.int OL_layers, .ref (aL 1), .ref (aL 2), .ref (aL 3), .ref (aL 4)])), ((aL 1), .inl (cI, 24, .inl OL_size)), ((aL 2), .inl (cI, 960, .inl OL_rows))]
noncomputable def fX9_finish (R_width : Nat → Int32) (P_size : Nat → Int32) (P_arrows : Nat → Int32) (P_uppers : Nat → Int32) (P_lowers : Nat → Int32) (C_x : Nat → Int32) (C_sum : Nat → Int32) (C_degree : Nat → Int32) (T_left : Nat → Int32) (T_right : Nat → Int32) (T_arrows : Nat → Int32) (T_trackEnd : Nat → Int32) (OL_layers : Int32) (OL_size : Nat → Int32) (OL_rows : Nat → Int32) : Option (Int32 × (Nat → Int32) × (Nat → Int32) × (Nat → Int32) × (Nat → Int32) × (Nat → Int32) × (Nat → Int32) × (Nat → Int32) × (Nat → Int32) × (Nat → Int32)) :=
  q_b3 (fX1_lay R_width P_size P_uppers P_lowers C_x C_sum C_degree OL_layers OL_size OL_rows) (fun q1_0 q1_1 q1_2 =>
  q_b6 (fX8_share R_width P_size P_arrows P_uppers P_lowers q1_0 T_left T_right T_arrows T_trackEnd OL_layers) (fun q2_0 q2_1 q2_2 q2_3 q2_4 q2_5 =>
  some (1, q1_0, q1_1, q1_2, q2_0, q2_1, q2_2, q2_3, q2_4, q2_5)
  )
  )
abbrev iX9_draw (aS : Nat → Nat) (aL : Nat → Nat) (aF : Nat → Nat) (aK : Nat → Nat) (cI cZ : ClassId) (M_told : Int32) (R_width : Nat → Int32) (R_pinned : Nat → Int32) (R_from : Nat → Int32) (R_to : Nat → Int32) (R_turned : Nat → Int32) (L_layer : Nat → Int32) (L_tops : Nat → Int32) (L_bottoms : Nat → Int32) (L_layers : Int32) (P_size : Nat → Int32) (P_arrows : Nat → Int32) (P_uppers : Nat → Int32) (P_lowers : Nat → Int32) (X_upper : Nat → Int32) (X_lower : Nat → Int32) (Q_own : Nat → Int32) (Q_far : Nat → Int32) (Q_degree : Nat → Int32) (Q_seen : Nat → Int32) (Q_median : Nat → Int32) (Q_stood : Nat → Int32) (Q_sorted : Nat → Int32) (Q_spots : Nat → Int32) (Q_movers : Int32) (B_cost : Nat → Int32) (B_above : Nat → Int32) (B_below : Nat → Int32) (B_codes : Nat → Int32) (B_used : Nat → Int32) (B_chosen : Nat → Int32) (B_best : Nat → Int32) (B_bestCost : Int32) (B_size : Int32) (C_x : Nat → Int32) (C_sum : Nat → Int32) (C_degree : Nat → Int32) (T_track : Nat → Int32) (T_used : Nat → Int32) (T_left : Nat → Int32) (T_right : Nat → Int32) (T_arrows : Nat → Int32) (T_trackEnd : Nat → Int32) (OL_layers : Int32) (OL_size : Nat → Int32) (OL_rows : Nat → Int32) (OL_places : Nat → Int32) (OL_home : Nat → Int32) (OF_layers : Int32) (OF_size : Nat → Int32) (OF_rows : Nat → Int32) (OF_places : Nat → Int32) (OF_home : Nat → Int32) (OK_layers : Int32) (OK_size : Nat → Int32) (OK_rows : Nat → Int32) (OK_places : Nat → Int32) (OK_home : Nat → Int32) : va_W := [((aS 47), .inr (9, [.ref (aS 0), .ref (aS 7), .ref (aS 11), .ref (aS 16), .ref (aS 19), .ref (aS 36), .ref (aS 40), .ref (aL 0), .ref (aF 0), .ref (aK 0), .int M_told])), ((aS 0), .inr (7, [.ref (aS 1), .ref (aS 2), .ref (aS 3), .ref (aS 4), .ref (aS 5), .ref (aS 6)])), ((aS 1), .inl (cI, 16, .inl R_width)), ((aS 2), .inl (cI, 16, .inl R_pinned)), ((aS 3), .inl (cI, 24, .inl R_from)), ((aS 4), .inl (cI, 24, .inl R_to)), ((aS 5), .inl (cZ, 24, .inl R_turned)), ((aS 7), .inr (3, [.ref (aS 0), .ref (aS 8), .ref (aS 9), .ref (aS 10), .int L_layers])), ((aS 8), .inl (cI, 16, .inl L_layer)), ((aS 9), .inl (cI, 24, .inl L_tops)), ((aS 10), .inl (cI, 24, .inl L_bottoms)), ((aS 11), .inr (6, [.ref (aS 12), .ref (aS 13), .ref (aS 14), .ref (aS 15)])), ((aS 12), .inl (cI, 24, .inl P_size)), ((aS 13), .inl (cI, 576, .inl P_arrows)), ((aS 14), .inl (cI, 576, .inl P_uppers)), ((aS 15), .inl (cI, 576, .inl P_lowers)), ((aS 16), .inr (2, [.ref (aS 11), .ref (aS 17), .ref (aS 18)])), ((aS 17), .inl (cI, 24, .inl X_upper)), ((aS 18), .inl (cI, 24, .inl X_lower)), ((aS 19), .inr (5, [.ref (aS 11), .ref (aS 16), .ref (aS 28), .ref (aS 20), .ref (aS 21), .ref (aS 22), .ref (aS 23), .ref (aS 24), .ref (aS 25), .ref (aS 26), .ref (aS 27), .int Q_movers])), ((aS 20), .inl (cI, 24, .inl Q_own)), ((aS 21), .inl (cI, 24, .inl Q_far)), ((aS 22), .inl (cI, 40, .inl Q_degree)), ((aS 23), .inl (cI, 40, .inl Q_seen)), ((aS 24), .inl (cI, 40, .inl Q_median)), ((aS 25), .inl (cI, 40, .inl Q_stood)), ((aS 26), .inl (cI, 40, .inl Q_sorted)), ((aS 27), .inl (cI, 40, .inl Q_spots)), ((aS 28), .inr (0, [.ref (aS 11), .ref (aS 29), .ref (aS 30), .ref (aS 31), .ref (aS 32), .ref (aS 33), .ref (aS 34), .ref (aS 35), .int B_bestCost, .int B_size])), ((aS 29), .inl (cI, 36, .inl B_cost)), ((aS 30), .inl (cI, 24, .inl B_above)), ((aS 31), .inl (cI, 24, .inl B_below)), ((aS 32), .inl (cI, 6, .inl B_codes)), ((aS 33), .inl (cZ, 6, .inl B_used)), ((aS 34), .inl (cI, 6, .inl B_chosen)), ((aS 35), .inl (cI, 6, .inl B_best)), ((aS 36), .inr (1, [.ref (aS 0), .ref (aS 11), .ref (aS 37), .ref (aS 38), .ref (aS 39)])), ((aS 37), .inl (cI, 960, .inl C_x)), ((aS 38), .inl (cI, 40, .inl C_sum)), ((aS 39), .inl (cI, 40, .inl C_degree)), ((aS 40), .inr (8, [.ref (aS 11), .ref (aS 36), .ref (aS 41), .ref (aS 42), .ref (aS 43), .ref (aS 44), .ref (aS 45), .ref (aS 46)])), ((aS 41), .inl (cI, 576, .inl T_track)), ((aS 42), .inl (cI, 24, .inl T_used)), ((aS 43), .inl (cI, 24, .inl T_left)), ((aS 44), .inl (cI, 24, .inl T_right)), ((aS 45), .inl (cI, 24, .inl T_arrows)), ((aS 46), .inl (cI, 24, .inl T_trackEnd)), ((aL 0), .inr (4, [.int OL_layers, .ref (aL 1), .ref (aL 2), .ref (aL 3), .ref (aL 4)])), ((aL 1), .inl (cI, 24, .inl OL_size)), ((aL 2), .inl (cI, 960, .inl OL_rows)), ((aL 3), .inl (cI, 960, .inl OL_places)), ((aL 4), .inl (cI, 16, .inl OL_home)), ((aF 0), .inr (4, [.int OF_layers, .ref (aF 1), .ref (aF 2), .ref (aF 3), .ref (aF 4)])), ((aF 1), .inl (cI, 24, .inl OF_size)), ((aF 2), .inl (cI, 960, .inl OF_rows)), ((aF 3), .inl (cI, 960, .inl OF_places)), ((aF 4), .inl (cI, 16, .inl OF_home)), ((aK 0), .inr (4, [.int OK_layers, .ref (aK 1), .ref (aK 2), .ref (aK 3), .ref (aK 4)])), ((aK 1), .inl (cI, 24, .inl OK_size)), ((aK 2), .inl (cI, 960, .inl OK_rows)), ((aK 3), .inl (cI, 960, .inl OK_places)), ((aK 4), .inl (cI, 16, .inl OK_home))]
noncomputable def fX9_draw (R_width : Nat → Int32) (R_pinned : Nat → Int32) (R_from : Nat → Int32) (R_to : Nat → Int32) (R_turned : Nat → Int32) (L_layer : Nat → Int32) (L_tops : Nat → Int32) (L_bottoms : Nat → Int32) (P_size : Nat → Int32) (P_arrows : Nat → Int32) (P_uppers : Nat → Int32) (P_lowers : Nat → Int32) (X_upper : Nat → Int32) (X_lower : Nat → Int32) (Q_own : Nat → Int32) (Q_far : Nat → Int32) (Q_degree : Nat → Int32) (Q_seen : Nat → Int32) (Q_median : Nat → Int32) (Q_stood : Nat → Int32) (Q_sorted : Nat → Int32) (Q_spots : Nat → Int32) (Q_movers : Int32) (B_cost : Nat → Int32) (B_above : Nat → Int32) (B_below : Nat → Int32) (B_codes : Nat → Int32) (B_used : Nat → Int32) (B_chosen : Nat → Int32) (B_best : Nat → Int32) (B_bestCost : Int32) (B_size : Int32) (C_x : Nat → Int32) (C_sum : Nat → Int32) (C_degree : Nat → Int32) (T_track : Nat → Int32) (T_used : Nat → Int32) (T_left : Nat → Int32) (T_right : Nat → Int32) (T_arrows : Nat → Int32) (T_trackEnd : Nat → Int32) (OL_layers : Int32) (OL_size : Nat → Int32) (OL_rows : Nat → Int32) (OL_places : Nat → Int32) (OL_home : Nat → Int32) (OF_layers : Int32) (OF_size : Nat → Int32) (OF_rows : Nat → Int32) (OF_places : Nat → Int32) (OF_home : Nat → Int32) (OK_layers : Int32) (OK_size : Nat → Int32) (OK_rows : Nat → Int32) (OK_places : Nat → Int32) (OK_home : Nat → Int32) (p0 : Int32) : Option (Int32 × Int32 × (Nat → Int32) × (Nat → Int32) × (Nat → Int32) × Int32 × (Nat → Int32) × (Nat → Int32) × (Nat → Int32) × (Nat → Int32) × (Nat → Int32) × (Nat → Int32) × (Nat → Int32) × (Nat → Int32) × (Nat → Int32) × (Nat → Int32) × (Nat → Int32) × (Nat → Int32) × (Nat → Int32) × (Nat → Int32) × Int32 × (Nat → Int32) × (Nat → Int32) × (Nat → Int32) × (Nat → Int32) × (Nat → Int32) × (Nat → Int32) × (Nat → Int32) × Int32 × Int32 × (Nat → Int32) × (Nat → Int32) × (Nat → Int32) × (Nat → Int32) × (Nat → Int32) × (Nat → Int32) × (Nat → Int32) × (Nat → Int32) × (Nat → Int32) × Int32 × (Nat → Int32) × (Nat → Int32) × (Nat → Int32) × (Nat → Int32) × Int32 × (Nat → Int32) × (Nat → Int32) × (Nat → Int32) × (Nat → Int32) × Int32 × (Nat → Int32) × (Nat → Int32) × (Nat → Int32) × (Nat → Int32) × Nat) :=
  Option.bind (fX9_needRounds p0) (fun _ =>
  q_b10 (fX9_prepare R_width R_pinned R_from R_to R_turned L_layer L_tops L_bottoms P_size P_arrows P_uppers P_lowers) (fun q2_0 q2_1 q2_2 q2_3 q2_4 q2_5 q2_6 q2_7 q2_8 q2_9 =>
  if q2_0 = 0 then (
    some (0, q2_1, q2_2, q2_3, q2_4, q2_5, q2_6, q2_7, q2_8, q2_9, X_upper, X_lower, Q_own, Q_far, Q_degree, Q_seen, Q_median, Q_stood, Q_sorted, Q_spots, Q_movers, B_cost, B_above, B_below, B_codes, B_used, B_chosen, B_best, B_bestCost, B_size, C_x, C_sum, C_degree, T_track, T_used, T_left, T_right, T_arrows, T_trackEnd, OL_layers, OL_size, OL_rows, OL_places, OL_home, OF_layers, OF_size, OF_rows, OF_places, OF_home, OK_layers, OK_size, OK_rows, OK_places, OK_home, 0)
  ) else (
    q_b5 (fX4_startFirst R_width q2_2 q2_3 q2_4 q2_5 OF_rows) (fun q3_0 q3_1 q3_2 q3_3 q3_4 =>
    q_b23 (fX5_improve q2_6 q2_8 q2_9 X_upper X_lower Q_own Q_far Q_degree Q_seen Q_median Q_stood Q_sorted Q_spots Q_movers B_cost B_above B_below B_codes B_used B_chosen B_best B_bestCost B_size q3_0 q3_1 q3_2 q3_3 q3_4 p0) (fun q4_0 q4_1 q4_2 q4_3 q4_4 q4_5 q4_6 q4_7 q4_8 q4_9 q4_10 q4_11 q4_12 q4_13 q4_14 q4_15 q4_16 q4_17 q4_18 q4_19 q4_20 q4_21 q4_22 =>
    q_b10 (fX9_finish R_width q2_6 q2_7 q2_8 q2_9 C_x C_sum C_degree T_left T_right T_arrows T_trackEnd q3_0 q3_1 q4_20) (fun q5_0 q5_1 q5_2 q5_3 q5_4 q5_5 q5_6 q5_7 q5_8 q5_9 =>
    some (1, q5_0, q2_2, q2_3, q2_4, q2_5, q2_6, q2_7, q2_8, q2_9, q4_0, q4_1, q4_2, q4_3, q4_4, q4_5, q4_6, q4_7, q4_8, q4_9, q4_10, q4_11, q4_12, q4_13, q4_14, q4_15, q4_16, q4_17, q4_18, q4_19, q5_1, q5_2, q5_3, q5_4, q5_5, q5_6, q5_7, q5_8, q5_9, q3_0, q3_1, q4_20, q4_21, q4_22, OL_layers, OL_size, OL_rows, OL_places, OL_home, OK_layers, OK_size, OK_rows, OK_places, OK_home, 1)
    )
    )
    )
  )
  )
  )
abbrev iX9_drop (aS : Nat → Nat) (aL : Nat → Nat) (aF : Nat → Nat) (aK : Nat → Nat) (cI cZ : ClassId) (M_told : Int32) (R_width : Nat → Int32) (R_from : Nat → Int32) (R_to : Nat → Int32) (R_turned : Nat → Int32) (R_reach : Nat → Int32) : va_W := [((aS 47), .inr (9, [.ref (aS 0), .ref (aS 7), .ref (aS 11), .ref (aS 16), .ref (aS 19), .ref (aS 36), .ref (aS 40), .ref (aL 0), .ref (aF 0), .ref (aK 0), .int M_told])), ((aS 0), .inr (7, [.ref (aS 1), .ref (aS 2), .ref (aS 3), .ref (aS 4), .ref (aS 5), .ref (aS 6)])), ((aS 1), .inl (cI, 16, .inl R_width)), ((aS 3), .inl (cI, 24, .inl R_from)), ((aS 4), .inl (cI, 24, .inl R_to)), ((aS 5), .inl (cZ, 24, .inl R_turned)), ((aS 6), .inl (cI, 16, .inl R_reach))]
noncomputable def fX9_drop (M_told : Int32) (R_width : Nat → Int32) (R_from : Nat → Int32) (R_to : Nat → Int32) (R_turned : Nat → Int32) (R_reach : Nat → Int32) (p0 : Int32) : Option (Int32 × Int32 × (Nat → Int32) × (Nat → Int32) × (Nat → Int32) × (Nat → Int32)) :=
  Option.bind (fX9_needArrowNumber p0) (fun _ =>
  Option.bind (fX7_hasArrow R_from p0) (fun q2 =>
  if q2 = 0 then (
    some (0, M_told, R_from, R_to, R_turned, R_reach)
  ) else (
    q_b4 (fX7_takeArrow R_width R_from R_to R_turned R_reach p0) (fun q3_0 q3_1 q3_2 q3_3 =>
    some (1, 0, q3_0, q3_1, q3_2, q3_3)
    )
  )
  )
  )
abbrev iX9_item (aS : Nat → Nat) (aL : Nat → Nat) (aF : Nat → Nat) (aK : Nat → Nat) (cI cZ : ClassId) (M_told : Int32) (OL_layers : Int32) (OL_size : Nat → Int32) (OL_rows : Nat → Int32) : va_W := [((aS 47), .inr (9, [.ref (aS 0), .ref (aS 7), .ref (aS 11), .ref (aS 16), .ref (aS 19), .ref (aS 36), .ref (aS 40), .ref (aL 0), .ref (aF 0), .ref (aK 0), .int M_told])), ((aL 0), .inr (4, [.int OL_layers, .ref (aL 1), .ref (aL 2), .ref (aL 3), .ref (aL 4)])), ((aL 1), .inl (cI, 24, .inl OL_size)), ((aL 2), .inl (cI, 960, .inl OL_rows))]
noncomputable def fX9_item (M_told : Int32) (OL_layers : Int32) (OL_size : Nat → Int32) (OL_rows : Nat → Int32) (p0 : Int32) (p1 : Int32) : Option (Int32) :=
  if M_told = 0 then (
    some (-1)
  ) else (
    Option.bind (fX4_itemIn OL_layers OL_size OL_rows p0 p1) (fun q1 =>
    if 16 ≤ q1 then (
      some ((100 + q1) - 16)
    ) else (
      some q1
    )
    )
  )
abbrev iX9_movedBoxes (aS : Nat → Nat) (aN : Nat → Nat) (aL : Nat → Nat) (aF : Nat → Nat) (aK : Nat → Nat) (cI cZ : ClassId) (M_told : Int32) (R_width : Nat → Int32) (N_layers : Int32) (N_places : Nat → Int32) (N_home : Nat → Int32) (OL_layers : Int32) (OL_places : Nat → Int32) (OL_home : Nat → Int32) : va_W := [((aS 47), .inr (9, [.ref (aS 0), .ref (aS 7), .ref (aS 11), .ref (aS 16), .ref (aS 19), .ref (aS 36), .ref (aS 40), .ref (aL 0), .ref (aF 0), .ref (aK 0), .int M_told])), ((aS 0), .inr (7, [.ref (aS 1), .ref (aS 2), .ref (aS 3), .ref (aS 4), .ref (aS 5), .ref (aS 6)])), ((aS 1), .inl (cI, 16, .inl R_width)), ((aN 0), .inr (4, [.int N_layers, .ref (aN 1), .ref (aN 2), .ref (aN 3), .ref (aN 4)])), ((aN 3), .inl (cI, 960, .inl N_places)), ((aN 4), .inl (cI, 16, .inl N_home)), ((aL 0), .inr (4, [.int OL_layers, .ref (aL 1), .ref (aL 2), .ref (aL 3), .ref (aL 4)])), ((aL 3), .inl (cI, 960, .inl OL_places)), ((aL 4), .inl (cI, 16, .inl OL_home))]
noncomputable def jX9_movedBoxes_47 (x2 : Int32) (x3 : Int32) : Option ((Int32 × Int32) ⊕ (Int32)) :=
  some (.inl (x2, (x3 + 1)))
noncomputable def bX9_movedBoxes_4 (R_width : Nat → Int32) (N_places : Nat → Int32) (N_home : Nat → Int32) (OL_places : Nat → Int32) (OL_home : Nat → Int32) (x2 : Int32) (x3 : Int32) : Option ((Int32 × Int32) ⊕ (Int32)) :=
  if 16 ≤ x3 then (
    some (.inr x2)
  ) else (
    Option.bind (fX7_hasBox R_width x3) (fun q3 =>
    if q3 = 0 then (
      jX9_movedBoxes_47 x2 x3
    ) else (
      Option.bind (fX4_holdsBox OL_home x3) (fun q4 =>
      if q4 = 0 then (
        jX9_movedBoxes_47 x2 x3
      ) else (
        Option.bind (fX4_sameSpot N_places N_home OL_places OL_home x3) (fun q5 =>
        if q5 = 0 then (
          jX9_movedBoxes_47 (x2 + 1) x3
        ) else (
          jX9_movedBoxes_47 x2 x3
        )
        )
      )
      )
    )
    )
  )
noncomputable def fX9_movedBoxes (R_width : Nat → Int32) (N_places : Nat → Int32) (N_home : Nat → Int32) (OL_places : Nat → Int32) (OL_home : Nat → Int32) : Option (Int32) :=
  Option.bind (q_lo (fun (st : Int32 × Int32) => bX9_movedBoxes_4 R_width N_places N_home OL_places OL_home st.1 st.2) (0, 0)) (fun q1 =>
    some q1)
abbrev iX9_piece (aS : Nat → Nat) (aL : Nat → Nat) (aF : Nat → Nat) (aK : Nat → Nat) (cI cZ : ClassId) (M_told : Int32) (R_width : Nat → Int32) (R_from : Nat → Int32) (R_to : Nat → Int32) (R_turned : Nat → Int32) (L_tops : Nat → Int32) (L_bottoms : Nat → Int32) (L_layers : Int32) (C_x : Nat → Int32) (T_track : Nat → Int32) : va_W := [((aS 47), .inr (9, [.ref (aS 0), .ref (aS 7), .ref (aS 11), .ref (aS 16), .ref (aS 19), .ref (aS 36), .ref (aS 40), .ref (aL 0), .ref (aF 0), .ref (aK 0), .int M_told])), ((aS 0), .inr (7, [.ref (aS 1), .ref (aS 2), .ref (aS 3), .ref (aS 4), .ref (aS 5), .ref (aS 6)])), ((aS 1), .inl (cI, 16, .inl R_width)), ((aS 3), .inl (cI, 24, .inl R_from)), ((aS 4), .inl (cI, 24, .inl R_to)), ((aS 5), .inl (cZ, 24, .inl R_turned)), ((aS 7), .inr (3, [.ref (aS 0), .ref (aS 8), .ref (aS 9), .ref (aS 10), .int L_layers])), ((aS 9), .inl (cI, 24, .inl L_tops)), ((aS 10), .inl (cI, 24, .inl L_bottoms)), ((aS 36), .inr (1, [.ref (aS 0), .ref (aS 11), .ref (aS 37), .ref (aS 38), .ref (aS 39)])), ((aS 37), .inl (cI, 960, .inl C_x)), ((aS 40), .inr (8, [.ref (aS 11), .ref (aS 36), .ref (aS 41), .ref (aS 42), .ref (aS 43), .ref (aS 44), .ref (aS 45), .ref (aS 46)])), ((aS 41), .inl (cI, 576, .inl T_track))]
noncomputable def fX9_piece (M_told : Int32) (R_width : Nat → Int32) (R_from : Nat → Int32) (R_to : Nat → Int32) (R_turned : Nat → Int32) (L_tops : Nat → Int32) (L_bottoms : Nat → Int32) (C_x : Nat → Int32) (T_track : Nat → Int32) (p0 : Int32) (p1 : Int32) (p2 : Int32) : Option (Int32) :=
  Option.bind (fX9_needArrowNumber p0) (fun _ =>
  Option.bind (fX9_needWhat p2 2) (fun _ =>
  if M_told = 0 then (
    some (-1)
  ) else (
    Option.bind (fX3_hasPiece L_tops L_bottoms p0 p1) (fun q3 =>
    if q3 = 0 then (
      some (-1)
    ) else (
      if p2 = 0 then (
        Option.bind (fX3_itemOf R_from R_to R_turned L_tops L_bottoms p0 p1) (fun q5 =>
        Option.bind (fX1_middleOf R_width C_x p1 q5) (fun q6 =>
        some q6
        )
        )
      ) else (
        if p2 = 1 then (
          Option.bind (fX3_itemOf R_from R_to R_turned L_tops L_bottoms p0 (p1 + 1)) (fun q8 =>
          Option.bind (fX1_middleOf R_width C_x (p1 + 1) q8) (fun q9 =>
          some q9
          )
          )
        ) else (
          Option.bind (fX8_trackOf T_track p0 p1) (fun q10 =>
          some q10
          )
        )
      )
    )
    )
  )
  )
  )
abbrev iX9_pin (aS : Nat → Nat) (aL : Nat → Nat) (aF : Nat → Nat) (aK : Nat → Nat) (cI cZ : ClassId) (M_told : Int32) (R_width : Nat → Int32) (R_pinned : Nat → Int32) : va_W := [((aS 47), .inr (9, [.ref (aS 0), .ref (aS 7), .ref (aS 11), .ref (aS 16), .ref (aS 19), .ref (aS 36), .ref (aS 40), .ref (aL 0), .ref (aF 0), .ref (aK 0), .int M_told])), ((aS 0), .inr (7, [.ref (aS 1), .ref (aS 2), .ref (aS 3), .ref (aS 4), .ref (aS 5), .ref (aS 6)])), ((aS 1), .inl (cI, 16, .inl R_width)), ((aS 2), .inl (cI, 16, .inl R_pinned))]
noncomputable def fX9_pin (R_width : Nat → Int32) (R_pinned : Nat → Int32) (p0 : Int32) (p1 : Int32) : Option (Int32 × (Nat → Int32)) :=
  Option.bind (fX9_needBox R_width p0) (fun _ =>
  if p1 < (-1) then (
    none
  ) else (
    if p1 ≤ 8 then (
      Option.bind (fX7_pinBox R_width R_pinned p0 p1) (fun q2 =>
      some (0, q2)
      )
    ) else (
      none
    )
  )
  )
abbrev iX9_redraw (aS : Nat → Nat) (aL : Nat → Nat) (aF : Nat → Nat) (aK : Nat → Nat) (cI cZ : ClassId) (M_told : Int32) (R_width : Nat → Int32) (R_pinned : Nat → Int32) (R_from : Nat → Int32) (R_to : Nat → Int32) (R_turned : Nat → Int32) (L_layer : Nat → Int32) (L_tops : Nat → Int32) (L_bottoms : Nat → Int32) (L_layers : Int32) (P_size : Nat → Int32) (P_arrows : Nat → Int32) (P_uppers : Nat → Int32) (P_lowers : Nat → Int32) (X_upper : Nat → Int32) (X_lower : Nat → Int32) (Q_own : Nat → Int32) (Q_far : Nat → Int32) (Q_degree : Nat → Int32) (Q_seen : Nat → Int32) (Q_median : Nat → Int32) (Q_stood : Nat → Int32) (Q_sorted : Nat → Int32) (Q_spots : Nat → Int32) (Q_movers : Int32) (B_cost : Nat → Int32) (B_above : Nat → Int32) (B_below : Nat → Int32) (B_codes : Nat → Int32) (B_used : Nat → Int32) (B_chosen : Nat → Int32) (B_best : Nat → Int32) (B_bestCost : Int32) (B_size : Int32) (C_x : Nat → Int32) (C_sum : Nat → Int32) (C_degree : Nat → Int32) (T_track : Nat → Int32) (T_used : Nat → Int32) (T_left : Nat → Int32) (T_right : Nat → Int32) (T_arrows : Nat → Int32) (T_trackEnd : Nat → Int32) (OL_layers : Int32) (OL_size : Nat → Int32) (OL_rows : Nat → Int32) (OL_places : Nat → Int32) (OL_home : Nat → Int32) (OF_layers : Int32) (OF_size : Nat → Int32) (OF_rows : Nat → Int32) (OF_places : Nat → Int32) (OF_home : Nat → Int32) (OK_layers : Int32) (OK_size : Nat → Int32) (OK_rows : Nat → Int32) (OK_places : Nat → Int32) (OK_home : Nat → Int32) : va_W := [((aS 47), .inr (9, [.ref (aS 0), .ref (aS 7), .ref (aS 11), .ref (aS 16), .ref (aS 19), .ref (aS 36), .ref (aS 40), .ref (aL 0), .ref (aF 0), .ref (aK 0), .int M_told])), ((aS 0), .inr (7, [.ref (aS 1), .ref (aS 2), .ref (aS 3), .ref (aS 4), .ref (aS 5), .ref (aS 6)])), ((aS 1), .inl (cI, 16, .inl R_width)), ((aS 2), .inl (cI, 16, .inl R_pinned)), ((aS 3), .inl (cI, 24, .inl R_from)), ((aS 4), .inl (cI, 24, .inl R_to)), ((aS 5), .inl (cZ, 24, .inl R_turned)), ((aS 7), .inr (3, [.ref (aS 0), .ref (aS 8), .ref (aS 9), .ref (aS 10), .int L_layers])), ((aS 8), .inl (cI, 16, .inl L_layer)), ((aS 9), .inl (cI, 24, .inl L_tops)), ((aS 10), .inl (cI, 24, .inl L_bottoms)), ((aS 11), .inr (6, [.ref (aS 12), .ref (aS 13), .ref (aS 14), .ref (aS 15)])), ((aS 12), .inl (cI, 24, .inl P_size)), ((aS 13), .inl (cI, 576, .inl P_arrows)), ((aS 14), .inl (cI, 576, .inl P_uppers)), ((aS 15), .inl (cI, 576, .inl P_lowers)), ((aS 16), .inr (2, [.ref (aS 11), .ref (aS 17), .ref (aS 18)])), ((aS 17), .inl (cI, 24, .inl X_upper)), ((aS 18), .inl (cI, 24, .inl X_lower)), ((aS 19), .inr (5, [.ref (aS 11), .ref (aS 16), .ref (aS 28), .ref (aS 20), .ref (aS 21), .ref (aS 22), .ref (aS 23), .ref (aS 24), .ref (aS 25), .ref (aS 26), .ref (aS 27), .int Q_movers])), ((aS 20), .inl (cI, 24, .inl Q_own)), ((aS 21), .inl (cI, 24, .inl Q_far)), ((aS 22), .inl (cI, 40, .inl Q_degree)), ((aS 23), .inl (cI, 40, .inl Q_seen)), ((aS 24), .inl (cI, 40, .inl Q_median)), ((aS 25), .inl (cI, 40, .inl Q_stood)), ((aS 26), .inl (cI, 40, .inl Q_sorted)), ((aS 27), .inl (cI, 40, .inl Q_spots)), ((aS 28), .inr (0, [.ref (aS 11), .ref (aS 29), .ref (aS 30), .ref (aS 31), .ref (aS 32), .ref (aS 33), .ref (aS 34), .ref (aS 35), .int B_bestCost, .int B_size])), ((aS 29), .inl (cI, 36, .inl B_cost)), ((aS 30), .inl (cI, 24, .inl B_above)), ((aS 31), .inl (cI, 24, .inl B_below)), ((aS 32), .inl (cI, 6, .inl B_codes)), ((aS 33), .inl (cZ, 6, .inl B_used)), ((aS 34), .inl (cI, 6, .inl B_chosen)), ((aS 35), .inl (cI, 6, .inl B_best)), ((aS 36), .inr (1, [.ref (aS 0), .ref (aS 11), .ref (aS 37), .ref (aS 38), .ref (aS 39)])), ((aS 37), .inl (cI, 960, .inl C_x)), ((aS 38), .inl (cI, 40, .inl C_sum)), ((aS 39), .inl (cI, 40, .inl C_degree)), ((aS 40), .inr (8, [.ref (aS 11), .ref (aS 36), .ref (aS 41), .ref (aS 42), .ref (aS 43), .ref (aS 44), .ref (aS 45), .ref (aS 46)])), ((aS 41), .inl (cI, 576, .inl T_track)), ((aS 42), .inl (cI, 24, .inl T_used)), ((aS 43), .inl (cI, 24, .inl T_left)), ((aS 44), .inl (cI, 24, .inl T_right)), ((aS 45), .inl (cI, 24, .inl T_arrows)), ((aS 46), .inl (cI, 24, .inl T_trackEnd)), ((aL 0), .inr (4, [.int OL_layers, .ref (aL 1), .ref (aL 2), .ref (aL 3), .ref (aL 4)])), ((aL 1), .inl (cI, 24, .inl OL_size)), ((aL 2), .inl (cI, 960, .inl OL_rows)), ((aL 3), .inl (cI, 960, .inl OL_places)), ((aL 4), .inl (cI, 16, .inl OL_home)), ((aF 0), .inr (4, [.int OF_layers, .ref (aF 1), .ref (aF 2), .ref (aF 3), .ref (aF 4)])), ((aF 1), .inl (cI, 24, .inl OF_size)), ((aF 2), .inl (cI, 960, .inl OF_rows)), ((aF 3), .inl (cI, 960, .inl OF_places)), ((aF 4), .inl (cI, 16, .inl OF_home)), ((aK 0), .inr (4, [.int OK_layers, .ref (aK 1), .ref (aK 2), .ref (aK 3), .ref (aK 4)])), ((aK 1), .inl (cI, 24, .inl OK_size)), ((aK 2), .inl (cI, 960, .inl OK_rows)), ((aK 3), .inl (cI, 960, .inl OK_places)), ((aK 4), .inl (cI, 16, .inl OK_home))]
noncomputable def jX9_redraw_123 (R_width : Nat → Int32) (L_layer : Nat → Int32) (L_tops : Nat → Int32) (L_bottoms : Nat → Int32) (L_layers : Int32) (P_size : Nat → Int32) (P_arrows : Nat → Int32) (P_uppers : Nat → Int32) (P_lowers : Nat → Int32) (X_upper : Nat → Int32) (X_lower : Nat → Int32) (Q_own : Nat → Int32) (Q_far : Nat → Int32) (Q_degree : Nat → Int32) (Q_seen : Nat → Int32) (Q_median : Nat → Int32) (Q_stood : Nat → Int32) (Q_sorted : Nat → Int32) (Q_spots : Nat → Int32) (Q_movers : Int32) (B_cost : Nat → Int32) (B_above : Nat → Int32) (B_below : Nat → Int32) (B_codes : Nat → Int32) (B_used : Nat → Int32) (B_chosen : Nat → Int32) (B_best : Nat → Int32) (B_bestCost : Int32) (B_size : Int32) (C_x : Nat → Int32) (C_sum : Nat → Int32) (C_degree : Nat → Int32) (T_left : Nat → Int32) (T_right : Nat → Int32) (T_arrows : Nat → Int32) (T_trackEnd : Nat → Int32) (OL_layers : Int32) (OL_size : Nat → Int32) (OL_rows : Nat → Int32) (OL_places : Nat → Int32) (OL_home : Nat → Int32) (OF_layers : Int32) (OF_size : Nat → Int32) (OF_rows : Nat → Int32) (OF_places : Nat → Int32) (OF_home : Nat → Int32) (OK_layers : Int32) (OK_size : Nat → Int32) (OK_rows : Nat → Int32) (OK_places : Nat → Int32) (OK_home : Nat → Int32) (x3 : Int32) (s0 : Int32) : Option (Int32 × Int32 × (Nat → Int32) × (Nat → Int32) × (Nat → Int32) × Int32 × (Nat → Int32) × (Nat → Int32) × (Nat → Int32) × (Nat → Int32) × (Nat → Int32) × (Nat → Int32) × (Nat → Int32) × (Nat → Int32) × (Nat → Int32) × (Nat → Int32) × (Nat → Int32) × (Nat → Int32) × (Nat → Int32) × (Nat → Int32) × Int32 × (Nat → Int32) × (Nat → Int32) × (Nat → Int32) × (Nat → Int32) × (Nat → Int32) × (Nat → Int32) × (Nat → Int32) × Int32 × Int32 × (Nat → Int32) × (Nat → Int32) × (Nat → Int32) × (Nat → Int32) × (Nat → Int32) × (Nat → Int32) × (Nat → Int32) × (Nat → Int32) × (Nat → Int32) × Int32 × (Nat → Int32) × (Nat → Int32) × (Nat → Int32) × (Nat → Int32) × Int32 × (Nat → Int32) × (Nat → Int32) × (Nat → Int32) × (Nat → Int32) × Int32 × (Nat → Int32) × (Nat → Int32) × (Nat → Int32) × (Nat → Int32) × Nat) :=
  if x3 = 0 then (
    q_b10 (fX9_finish R_width P_size P_arrows P_uppers P_lowers C_x C_sum C_degree T_left T_right T_arrows T_trackEnd OK_layers OK_size OK_rows) (fun q2_0 q2_1 q2_2 q2_3 q2_4 q2_5 q2_6 q2_7 q2_8 q2_9 =>
    some (s0, q2_0, L_layer, L_tops, L_bottoms, L_layers, P_size, P_arrows, P_uppers, P_lowers, X_upper, X_lower, Q_own, Q_far, Q_degree, Q_seen, Q_median, Q_stood, Q_sorted, Q_spots, Q_movers, B_cost, B_above, B_below, B_codes, B_used, B_chosen, B_best, B_bestCost, B_size, q2_1, q2_2, q2_3, q2_4, q2_5, q2_6, q2_7, q2_8, q2_9, OK_layers, OK_size, OK_rows, OK_places, OK_home, OF_layers, OF_size, OF_rows, OF_places, OF_home, OL_layers, OL_size, OL_rows, OL_places, OL_home, 2)
    )
  ) else (
    q_b10 (fX9_finish R_width P_size P_arrows P_uppers P_lowers C_x C_sum C_degree T_left T_right T_arrows T_trackEnd OF_layers OF_size OF_rows) (fun q3_0 q3_1 q3_2 q3_3 q3_4 q3_5 q3_6 q3_7 q3_8 q3_9 =>
    some (s0, q3_0, L_layer, L_tops, L_bottoms, L_layers, P_size, P_arrows, P_uppers, P_lowers, X_upper, X_lower, Q_own, Q_far, Q_degree, Q_seen, Q_median, Q_stood, Q_sorted, Q_spots, Q_movers, B_cost, B_above, B_below, B_codes, B_used, B_chosen, B_best, B_bestCost, B_size, q3_1, q3_2, q3_3, q3_4, q3_5, q3_6, q3_7, q3_8, q3_9, OF_layers, OF_size, OF_rows, OF_places, OF_home, OL_layers, OL_size, OL_rows, OL_places, OL_home, OK_layers, OK_size, OK_rows, OK_places, OK_home, 1)
    )
  )
noncomputable def jX9_redraw_103 (R_width : Nat → Int32) (L_layer : Nat → Int32) (L_tops : Nat → Int32) (L_bottoms : Nat → Int32) (L_layers : Int32) (P_size : Nat → Int32) (P_arrows : Nat → Int32) (P_uppers : Nat → Int32) (P_lowers : Nat → Int32) (X_upper : Nat → Int32) (X_lower : Nat → Int32) (Q_own : Nat → Int32) (Q_far : Nat → Int32) (Q_degree : Nat → Int32) (Q_seen : Nat → Int32) (Q_median : Nat → Int32) (Q_stood : Nat → Int32) (Q_sorted : Nat → Int32) (Q_spots : Nat → Int32) (Q_movers : Int32) (B_cost : Nat → Int32) (B_above : Nat → Int32) (B_below : Nat → Int32) (B_codes : Nat → Int32) (B_used : Nat → Int32) (B_chosen : Nat → Int32) (B_best : Nat → Int32) (B_bestCost : Int32) (B_size : Int32) (C_x : Nat → Int32) (C_sum : Nat → Int32) (C_degree : Nat → Int32) (T_left : Nat → Int32) (T_right : Nat → Int32) (T_arrows : Nat → Int32) (T_trackEnd : Nat → Int32) (OL_layers : Int32) (OL_size : Nat → Int32) (OL_rows : Nat → Int32) (OL_places : Nat → Int32) (OL_home : Nat → Int32) (OF_layers : Int32) (OF_size : Nat → Int32) (OF_rows : Nat → Int32) (OF_places : Nat → Int32) (OF_home : Nat → Int32) (OK_layers : Int32) (OK_size : Nat → Int32) (OK_rows : Nat → Int32) (OK_places : Nat → Int32) (OK_home : Nat → Int32) (s0 : Int32) : Option (Int32 × Int32 × (Nat → Int32) × (Nat → Int32) × (Nat → Int32) × Int32 × (Nat → Int32) × (Nat → Int32) × (Nat → Int32) × (Nat → Int32) × (Nat → Int32) × (Nat → Int32) × (Nat → Int32) × (Nat → Int32) × (Nat → Int32) × (Nat → Int32) × (Nat → Int32) × (Nat → Int32) × (Nat → Int32) × (Nat → Int32) × Int32 × (Nat → Int32) × (Nat → Int32) × (Nat → Int32) × (Nat → Int32) × (Nat → Int32) × (Nat → Int32) × (Nat → Int32) × Int32 × Int32 × (Nat → Int32) × (Nat → Int32) × (Nat → Int32) × (Nat → Int32) × (Nat → Int32) × (Nat → Int32) × (Nat → Int32) × (Nat → Int32) × (Nat → Int32) × Int32 × (Nat → Int32) × (Nat → Int32) × (Nat → Int32) × (Nat → Int32) × Int32 × (Nat → Int32) × (Nat → Int32) × (Nat → Int32) × (Nat → Int32) × Int32 × (Nat → Int32) × (Nat → Int32) × (Nat → Int32) × (Nat → Int32) × Nat) :=
  if s0 = 0 then (
    Option.bind (fX9_movedBoxes R_width OK_places OK_home OL_places OL_home) (fun q5 =>
    jX9_redraw_123 R_width L_layer L_tops L_bottoms L_layers P_size P_arrows P_uppers P_lowers X_upper X_lower Q_own Q_far Q_degree Q_seen Q_median Q_stood Q_sorted Q_spots Q_movers B_cost B_above B_below B_codes B_used B_chosen B_best B_bestCost B_size C_x C_sum C_degree T_left T_right T_arrows T_trackEnd OL_layers OL_size OL_rows OL_places OL_home OF_layers OF_size OF_rows OF_places OF_home OK_layers OK_size OK_rows OK_places OK_home s0 q5
    )
  ) else (
    Option.bind (fX9_movedBoxes R_width OF_places OF_home OL_places OL_home) (fun q6 =>
    jX9_redraw_123 R_width L_layer L_tops L_bottoms L_layers P_size P_arrows P_uppers P_lowers X_upper X_lower Q_own Q_far Q_degree Q_seen Q_median Q_stood Q_sorted Q_spots Q_movers B_cost B_above B_below B_codes B_used B_chosen B_best B_bestCost B_size C_x C_sum C_degree T_left T_right T_arrows T_trackEnd OL_layers OL_size OL_rows OL_places OL_home OF_layers OF_size OF_rows OF_places OF_home OK_layers OK_size OK_rows OK_places OK_home s0 q6
    )
  )
noncomputable def fX9_redraw (R_width : Nat → Int32) (R_pinned : Nat → Int32) (R_from : Nat → Int32) (R_to : Nat → Int32) (R_turned : Nat → Int32) (L_layer : Nat → Int32) (L_tops : Nat → Int32) (L_bottoms : Nat → Int32) (P_size : Nat → Int32) (P_arrows : Nat → Int32) (P_uppers : Nat → Int32) (P_lowers : Nat → Int32) (X_upper : Nat → Int32) (X_lower : Nat → Int32) (Q_own : Nat → Int32) (Q_far : Nat → Int32) (Q_degree : Nat → Int32) (Q_seen : Nat → Int32) (Q_median : Nat → Int32) (Q_stood : Nat → Int32) (Q_sorted : Nat → Int32) (Q_spots : Nat → Int32) (Q_movers : Int32) (B_cost : Nat → Int32) (B_above : Nat → Int32) (B_below : Nat → Int32) (B_codes : Nat → Int32) (B_used : Nat → Int32) (B_chosen : Nat → Int32) (B_best : Nat → Int32) (B_bestCost : Int32) (B_size : Int32) (C_x : Nat → Int32) (C_sum : Nat → Int32) (C_degree : Nat → Int32) (T_track : Nat → Int32) (T_used : Nat → Int32) (T_left : Nat → Int32) (T_right : Nat → Int32) (T_arrows : Nat → Int32) (T_trackEnd : Nat → Int32) (OL_layers : Int32) (OL_size : Nat → Int32) (OL_rows : Nat → Int32) (OL_places : Nat → Int32) (OL_home : Nat → Int32) (OF_layers : Int32) (OF_size : Nat → Int32) (OF_rows : Nat → Int32) (OF_places : Nat → Int32) (OF_home : Nat → Int32) (OK_layers : Int32) (OK_size : Nat → Int32) (OK_rows : Nat → Int32) (OK_places : Nat → Int32) (OK_home : Nat → Int32) (p0 : Int32) (p1 : Int32) : Option (Int32 × Int32 × (Nat → Int32) × (Nat → Int32) × (Nat → Int32) × Int32 × (Nat → Int32) × (Nat → Int32) × (Nat → Int32) × (Nat → Int32) × (Nat → Int32) × (Nat → Int32) × (Nat → Int32) × (Nat → Int32) × (Nat → Int32) × (Nat → Int32) × (Nat → Int32) × (Nat → Int32) × (Nat → Int32) × (Nat → Int32) × Int32 × (Nat → Int32) × (Nat → Int32) × (Nat → Int32) × (Nat → Int32) × (Nat → Int32) × (Nat → Int32) × (Nat → Int32) × Int32 × Int32 × (Nat → Int32) × (Nat → Int32) × (Nat → Int32) × (Nat → Int32) × (Nat → Int32) × (Nat → Int32) × (Nat → Int32) × (Nat → Int32) × (Nat → Int32) × Int32 × (Nat → Int32) × (Nat → Int32) × (Nat → Int32) × (Nat → Int32) × Int32 × (Nat → Int32) × (Nat → Int32) × (Nat → Int32) × (Nat → Int32) × Int32 × (Nat → Int32) × (Nat → Int32) × (Nat → Int32) × (Nat → Int32) × Nat) :=
  Option.bind (fX9_needRounds p0) (fun _ =>
  if p1 < 0 then (
    none
  ) else (
    if p1 ≤ 100000 then (
      q_b10 (fX9_prepare R_width R_pinned R_from R_to R_turned L_layer L_tops L_bottoms P_size P_arrows P_uppers P_lowers) (fun q8_0 q8_1 q8_2 q8_3 q8_4 q8_5 q8_6 q8_7 q8_8 q8_9 =>
      if q8_0 = 0 then (
        some ((-1), q8_1, q8_2, q8_3, q8_4, q8_5, q8_6, q8_7, q8_8, q8_9, X_upper, X_lower, Q_own, Q_far, Q_degree, Q_seen, Q_median, Q_stood, Q_sorted, Q_spots, Q_movers, B_cost, B_above, B_below, B_codes, B_used, B_chosen, B_best, B_bestCost, B_size, C_x, C_sum, C_degree, T_track, T_used, T_left, T_right, T_arrows, T_trackEnd, OL_layers, OL_size, OL_rows, OL_places, OL_home, OF_layers, OF_size, OF_rows, OF_places, OF_home, OK_layers, OK_size, OK_rows, OK_places, OK_home, 0)
      ) else (
        q_b5 (fX4_startFirst R_width q8_2 q8_3 q8_4 q8_5 OF_rows) (fun q9_0 q9_1 q9_2 q9_3 q9_4 =>
        q_b23 (fX5_improve q8_6 q8_8 q8_9 X_upper X_lower Q_own Q_far Q_degree Q_seen Q_median Q_stood Q_sorted Q_spots Q_movers B_cost B_above B_below B_codes B_used B_chosen B_best B_bestCost B_size q9_0 q9_1 q9_2 q9_3 q9_4 p0) (fun q10_0 q10_1 q10_2 q10_3 q10_4 q10_5 q10_6 q10_7 q10_8 q10_9 q10_10 q10_11 q10_12 q10_13 q10_14 q10_15 q10_16 q10_17 q10_18 q10_19 q10_20 q10_21 q10_22 =>
        q_b5 (fX4_startLike R_width q8_2 q8_3 q8_4 q8_5 OK_rows OL_layers OL_size OL_rows) (fun q11_0 q11_1 q11_2 q11_3 q11_4 =>
        q_b3 (fX2_inAll q8_6 q8_8 q8_9 q10_0 q10_1 q11_0 q11_3) (fun q12_0 q12_1 q12_2 =>
        q_b3 (fX2_inAll q8_6 q8_8 q8_9 q12_1 q12_2 q9_0 q10_21) (fun q13_0 q13_1 q13_2 =>
        if (q12_0 - q13_0) ≤ p1 then (
          jX9_redraw_103 R_width q8_2 q8_3 q8_4 q8_5 q8_6 q8_7 q8_8 q8_9 q13_1 q13_2 q10_2 q10_3 q10_4 q10_5 q10_6 q10_7 q10_8 q10_9 q10_10 q10_11 q10_12 q10_13 q10_14 q10_15 q10_16 q10_17 q10_18 q10_19 C_x C_sum C_degree T_left T_right T_arrows T_trackEnd OL_layers OL_size OL_rows OL_places OL_home q9_0 q9_1 q10_20 q10_21 q10_22 q11_0 q11_1 q11_2 q11_3 q11_4 0
        ) else (
          jX9_redraw_103 R_width q8_2 q8_3 q8_4 q8_5 q8_6 q8_7 q8_8 q8_9 q13_1 q13_2 q10_2 q10_3 q10_4 q10_5 q10_6 q10_7 q10_8 q10_9 q10_10 q10_11 q10_12 q10_13 q10_14 q10_15 q10_16 q10_17 q10_18 q10_19 C_x C_sum C_degree T_left T_right T_arrows T_trackEnd OL_layers OL_size OL_rows OL_places OL_home q9_0 q9_1 q10_20 q10_21 q10_22 q11_0 q11_1 q11_2 q11_3 q11_4 1
        )
        )
        )
        )
        )
        )
      )
      )
    ) else (
      none
    )
  )
  )
abbrev iX9_remove (aS : Nat → Nat) (aL : Nat → Nat) (aF : Nat → Nat) (aK : Nat → Nat) (cI cZ : ClassId) (M_told : Int32) (R_width : Nat → Int32) (R_pinned : Nat → Int32) (R_from : Nat → Int32) (R_to : Nat → Int32) (R_turned : Nat → Int32) (R_reach : Nat → Int32) : va_W := [((aS 47), .inr (9, [.ref (aS 0), .ref (aS 7), .ref (aS 11), .ref (aS 16), .ref (aS 19), .ref (aS 36), .ref (aS 40), .ref (aL 0), .ref (aF 0), .ref (aK 0), .int M_told])), ((aS 0), .inr (7, [.ref (aS 1), .ref (aS 2), .ref (aS 3), .ref (aS 4), .ref (aS 5), .ref (aS 6)])), ((aS 1), .inl (cI, 16, .inl R_width)), ((aS 2), .inl (cI, 16, .inl R_pinned)), ((aS 3), .inl (cI, 24, .inl R_from)), ((aS 4), .inl (cI, 24, .inl R_to)), ((aS 5), .inl (cZ, 24, .inl R_turned)), ((aS 6), .inl (cI, 16, .inl R_reach))]
noncomputable def fX9_remove (M_told : Int32) (R_width : Nat → Int32) (R_pinned : Nat → Int32) (R_from : Nat → Int32) (R_to : Nat → Int32) (R_turned : Nat → Int32) (R_reach : Nat → Int32) (p0 : Int32) : Option (Int32 × Int32 × (Nat → Int32) × (Nat → Int32) × (Nat → Int32) × (Nat → Int32) × (Nat → Int32) × (Nat → Int32)) :=
  Option.bind (fX9_needBoxNumber p0) (fun _ =>
  Option.bind (fX7_hasBox R_width p0) (fun q2 =>
  if q2 = 0 then (
    some (0, M_told, R_width, R_pinned, R_from, R_to, R_turned, R_reach)
  ) else (
    q_b6 (fX7_takeBox R_width R_pinned R_from R_to R_turned R_reach p0) (fun q3_0 q3_1 q3_2 q3_3 q3_4 q3_5 =>
    some (1, 0, q3_0, q3_1, q3_2, q3_3, q3_4, q3_5)
    )
  )
  )
  )
abbrev iX9_reversed (aS : Nat → Nat) (aL : Nat → Nat) (aF : Nat → Nat) (aK : Nat → Nat) (cI cZ : ClassId) (M_told : Int32) (R_from : Nat → Int32) (R_turned : Nat → Int32) : va_W := [((aS 47), .inr (9, [.ref (aS 0), .ref (aS 7), .ref (aS 11), .ref (aS 16), .ref (aS 19), .ref (aS 36), .ref (aS 40), .ref (aL 0), .ref (aF 0), .ref (aK 0), .int M_told])), ((aS 0), .inr (7, [.ref (aS 1), .ref (aS 2), .ref (aS 3), .ref (aS 4), .ref (aS 5), .ref (aS 6)])), ((aS 3), .inl (cI, 24, .inl R_from)), ((aS 5), .inl (cZ, 24, .inl R_turned))]
noncomputable def fX9_reversed (R_from : Nat → Int32) (R_turned : Nat → Int32) (p0 : Int32) : Option (Int32) :=
  Option.bind (fX9_needArrowNumber p0) (fun _ =>
  Option.bind (fX7_hasArrow R_from p0) (fun q2 =>
  if q2 = 0 then (
    some (-1)
  ) else (
    Option.bind (fX7_isTurned R_from R_turned p0) (fun q3 =>
    if q3 = 0 then (
      some 0
    ) else (
      some 1
    )
    )
  )
  )
  )
abbrev iX10_add (aZ : Nat → Nat) (cI cZ : ClassId) (Z_code : Int32) (Z_told : Int32) (Z_layers : Int32) (Z_sizes : Nat → Int32) (Z_items : Nat → Int32) : va_W := [((aZ 0), .inr (10, [.int Z_code, .ref (aZ 1), .ref (aZ 2), .ref (aZ 3), .ref (aZ 4), .ref (aZ 5), .ref (aZ 6), .ref (aZ 7), .int Z_told, .int Z_layers, .ref (aZ 8), .ref (aZ 9), .ref (aZ 10), .ref (aZ 11), .ref (aZ 12), .ref (aZ 13), .ref (aZ 14), .ref (aZ 15), .ref (aZ 16), .ref (aZ 17), .ref (aZ 18), .ref (aZ 19), .ref (aZ 20), .ref (aZ 21)])), ((aZ 9), .inl (cI, 24, .inl Z_sizes)), ((aZ 10), .inl (cI, 960, .inl Z_items))]
noncomputable def fX10_add (Z_sizes : Nat → Int32) (Z_items : Nat → Int32) (p0 : Int32) (p1 : Int32) : Option ((Nat → Int32) × (Nat → Int32)) :=
  if q_in p0 24 then (
  if q_in ((40 * p0) + (Z_sizes p0.toNatClampNeg)) 960 then (
  if q_in p0 24 then (
  if q_in p0 24 then (
  some ((upd Z_sizes p0.toNatClampNeg ((Z_sizes p0.toNatClampNeg) + 1)), (upd Z_items ((40 * p0) + (Z_sizes p0.toNatClampNeg)).toNatClampNeg p1))
  ) else none
  ) else none
  ) else none
  ) else none
abbrev iX10_upper (aZ : Nat → Nat) (cI cZ : ClassId) (Z_code : Int32) (Z_from : Nat → Int32) (Z_to : Nat → Int32) (Z_turned : Nat → Int32) (Z_told : Int32) (Z_layers : Int32) : va_W := [((aZ 0), .inr (10, [.int Z_code, .ref (aZ 1), .ref (aZ 2), .ref (aZ 3), .ref (aZ 4), .ref (aZ 5), .ref (aZ 6), .ref (aZ 7), .int Z_told, .int Z_layers, .ref (aZ 8), .ref (aZ 9), .ref (aZ 10), .ref (aZ 11), .ref (aZ 12), .ref (aZ 13), .ref (aZ 14), .ref (aZ 15), .ref (aZ 16), .ref (aZ 17), .ref (aZ 18), .ref (aZ 19), .ref (aZ 20), .ref (aZ 21)])), ((aZ 5), .inl (cI, 24, .inl Z_from)), ((aZ 6), .inl (cI, 24, .inl Z_to)), ((aZ 7), .inl (cZ, 24, .inl Z_turned))]
noncomputable def fX10_upper (Z_from : Nat → Int32) (Z_to : Nat → Int32) (Z_turned : Nat → Int32) (p0 : Int32) : Option (Int32) :=
  if q_in p0 24 then (
  if (Z_turned p0.toNatClampNeg) = 0 then (
    if q_in p0 24 then (
    some (Z_from p0.toNatClampNeg)
    ) else none
  ) else (
    if q_in p0 24 then (
    some (Z_to p0.toNatClampNeg)
    ) else none
  )
  ) else none
abbrev iX10_lower (aZ : Nat → Nat) (cI cZ : ClassId) (Z_code : Int32) (Z_from : Nat → Int32) (Z_to : Nat → Int32) (Z_turned : Nat → Int32) (Z_told : Int32) (Z_layers : Int32) : va_W := [((aZ 0), .inr (10, [.int Z_code, .ref (aZ 1), .ref (aZ 2), .ref (aZ 3), .ref (aZ 4), .ref (aZ 5), .ref (aZ 6), .ref (aZ 7), .int Z_told, .int Z_layers, .ref (aZ 8), .ref (aZ 9), .ref (aZ 10), .ref (aZ 11), .ref (aZ 12), .ref (aZ 13), .ref (aZ 14), .ref (aZ 15), .ref (aZ 16), .ref (aZ 17), .ref (aZ 18), .ref (aZ 19), .ref (aZ 20), .ref (aZ 21)])), ((aZ 5), .inl (cI, 24, .inl Z_from)), ((aZ 6), .inl (cI, 24, .inl Z_to)), ((aZ 7), .inl (cZ, 24, .inl Z_turned))]
noncomputable def fX10_lower (Z_from : Nat → Int32) (Z_to : Nat → Int32) (Z_turned : Nat → Int32) (p0 : Int32) : Option (Int32) :=
  if q_in p0 24 then (
  if (Z_turned p0.toNatClampNeg) = 0 then (
    if q_in p0 24 then (
    some (Z_to p0.toNatClampNeg)
    ) else none
  ) else (
    if q_in p0 24 then (
    some (Z_from p0.toNatClampNeg)
    ) else none
  )
  ) else none
abbrev iX10_hasPiece (aZ : Nat → Nat) (cI cZ : ClassId) (Z_code : Int32) (Z_isArrow : Nat → Int32) (Z_from : Nat → Int32) (Z_to : Nat → Int32) (Z_turned : Nat → Int32) (Z_told : Int32) (Z_layers : Int32) (Z_layer : Nat → Int32) : va_W := [((aZ 0), .inr (10, [.int Z_code, .ref (aZ 1), .ref (aZ 2), .ref (aZ 3), .ref (aZ 4), .ref (aZ 5), .ref (aZ 6), .ref (aZ 7), .int Z_told, .int Z_layers, .ref (aZ 8), .ref (aZ 9), .ref (aZ 10), .ref (aZ 11), .ref (aZ 12), .ref (aZ 13), .ref (aZ 14), .ref (aZ 15), .ref (aZ 16), .ref (aZ 17), .ref (aZ 18), .ref (aZ 19), .ref (aZ 20), .ref (aZ 21)])), ((aZ 4), .inl (cZ, 24, .inl Z_isArrow)), ((aZ 5), .inl (cI, 24, .inl Z_from)), ((aZ 6), .inl (cI, 24, .inl Z_to)), ((aZ 7), .inl (cZ, 24, .inl Z_turned)), ((aZ 8), .inl (cI, 16, .inl Z_layer))]
noncomputable def fX10_hasPiece (Z_isArrow : Nat → Int32) (Z_from : Nat → Int32) (Z_to : Nat → Int32) (Z_turned : Nat → Int32) (Z_layer : Nat → Int32) (p0 : Int32) (p1 : Int32) : Option (Int32) :=
  if q_in p0 24 then (
  if (Z_isArrow p0.toNatClampNeg) = 0 then (
    some 0
  ) else (
    Option.bind (fX10_upper Z_from Z_to Z_turned p0) (fun q2 =>
    if q_in q2 16 then (
    if p1 < (Z_layer q2.toNatClampNeg) then (
      some 0
    ) else (
      Option.bind (fX10_lower Z_from Z_to Z_turned p0) (fun q4 =>
      if q_in q4 16 then (
      if (Z_layer q4.toNatClampNeg) ≤ p1 then (
        some 0
      ) else (
        some 1
      )
      ) else none
      )
    )
    ) else none
    )
  )
  ) else none
abbrev iX10_upperPlace (aZ : Nat → Nat) (cI cZ : ClassId) (Z_code : Int32) (Z_from : Nat → Int32) (Z_to : Nat → Int32) (Z_turned : Nat → Int32) (Z_told : Int32) (Z_layers : Int32) (Z_layer : Nat → Int32) (Z_place : Nat → Int32) (Z_dummyPlace : Nat → Int32) : va_W := [((aZ 0), .inr (10, [.int Z_code, .ref (aZ 1), .ref (aZ 2), .ref (aZ 3), .ref (aZ 4), .ref (aZ 5), .ref (aZ 6), .ref (aZ 7), .int Z_told, .int Z_layers, .ref (aZ 8), .ref (aZ 9), .ref (aZ 10), .ref (aZ 11), .ref (aZ 12), .ref (aZ 13), .ref (aZ 14), .ref (aZ 15), .ref (aZ 16), .ref (aZ 17), .ref (aZ 18), .ref (aZ 19), .ref (aZ 20), .ref (aZ 21)])), ((aZ 5), .inl (cI, 24, .inl Z_from)), ((aZ 6), .inl (cI, 24, .inl Z_to)), ((aZ 7), .inl (cZ, 24, .inl Z_turned)), ((aZ 8), .inl (cI, 16, .inl Z_layer)), ((aZ 11), .inl (cI, 16, .inl Z_place)), ((aZ 12), .inl (cI, 576, .inl Z_dummyPlace))]
noncomputable def fX10_upperPlace (Z_from : Nat → Int32) (Z_to : Nat → Int32) (Z_turned : Nat → Int32) (Z_layer : Nat → Int32) (Z_place : Nat → Int32) (Z_dummyPlace : Nat → Int32) (p0 : Int32) (p1 : Int32) : Option (Int32) :=
  Option.bind (fX10_upper Z_from Z_to Z_turned p0) (fun q1 =>
  if q_in q1 16 then (
  if (Z_layer q1.toNatClampNeg) = p1 then (
    Option.bind (fX10_upper Z_from Z_to Z_turned p0) (fun q4 =>
    if q_in q4 16 then (
    some (Z_place q4.toNatClampNeg)
    ) else none
    )
  ) else (
    if q_in ((24 * p0) + p1) 576 then (
    some (Z_dummyPlace ((24 * p0) + p1).toNatClampNeg)
    ) else none
  )
  ) else none
  )
abbrev iX10_lowerPlace (aZ : Nat → Nat) (cI cZ : ClassId) (Z_code : Int32) (Z_from : Nat → Int32) (Z_to : Nat → Int32) (Z_turned : Nat → Int32) (Z_told : Int32) (Z_layers : Int32) (Z_layer : Nat → Int32) (Z_place : Nat → Int32) (Z_dummyPlace : Nat → Int32) : va_W := [((aZ 0), .inr (10, [.int Z_code, .ref (aZ 1), .ref (aZ 2), .ref (aZ 3), .ref (aZ 4), .ref (aZ 5), .ref (aZ 6), .ref (aZ 7), .int Z_told, .int Z_layers, .ref (aZ 8), .ref (aZ 9), .ref (aZ 10), .ref (aZ 11), .ref (aZ 12), .ref (aZ 13), .ref (aZ 14), .ref (aZ 15), .ref (aZ 16), .ref (aZ 17), .ref (aZ 18), .ref (aZ 19), .ref (aZ 20), .ref (aZ 21)])), ((aZ 5), .inl (cI, 24, .inl Z_from)), ((aZ 6), .inl (cI, 24, .inl Z_to)), ((aZ 7), .inl (cZ, 24, .inl Z_turned)), ((aZ 8), .inl (cI, 16, .inl Z_layer)), ((aZ 11), .inl (cI, 16, .inl Z_place)), ((aZ 12), .inl (cI, 576, .inl Z_dummyPlace))]
noncomputable def fX10_lowerPlace (Z_from : Nat → Int32) (Z_to : Nat → Int32) (Z_turned : Nat → Int32) (Z_layer : Nat → Int32) (Z_place : Nat → Int32) (Z_dummyPlace : Nat → Int32) (p0 : Int32) (p1 : Int32) : Option (Int32) :=
  Option.bind (fX10_lower Z_from Z_to Z_turned p0) (fun q1 =>
  if q_in q1 16 then (
  if (Z_layer q1.toNatClampNeg) = (p1 + 1) then (
    Option.bind (fX10_lower Z_from Z_to Z_turned p0) (fun q4 =>
    if q_in q4 16 then (
    some (Z_place q4.toNatClampNeg)
    ) else none
    )
  ) else (
    if q_in (((24 * p0) + p1) + 1) 576 then (
    some (Z_dummyPlace (((24 * p0) + p1) + 1).toNatClampNeg)
    ) else none
  )
  ) else none
  )
abbrev iX10_crossings (aZ : Nat → Nat) (cI cZ : ClassId) (Z_code : Int32) (Z_isArrow : Nat → Int32) (Z_from : Nat → Int32) (Z_to : Nat → Int32) (Z_turned : Nat → Int32) (Z_told : Int32) (Z_layers : Int32) (Z_layer : Nat → Int32) (Z_place : Nat → Int32) (Z_dummyPlace : Nat → Int32) : va_W := [((aZ 0), .inr (10, [.int Z_code, .ref (aZ 1), .ref (aZ 2), .ref (aZ 3), .ref (aZ 4), .ref (aZ 5), .ref (aZ 6), .ref (aZ 7), .int Z_told, .int Z_layers, .ref (aZ 8), .ref (aZ 9), .ref (aZ 10), .ref (aZ 11), .ref (aZ 12), .ref (aZ 13), .ref (aZ 14), .ref (aZ 15), .ref (aZ 16), .ref (aZ 17), .ref (aZ 18), .ref (aZ 19), .ref (aZ 20), .ref (aZ 21)])), ((aZ 4), .inl (cZ, 24, .inl Z_isArrow)), ((aZ 5), .inl (cI, 24, .inl Z_from)), ((aZ 6), .inl (cI, 24, .inl Z_to)), ((aZ 7), .inl (cZ, 24, .inl Z_turned)), ((aZ 8), .inl (cI, 16, .inl Z_layer)), ((aZ 11), .inl (cI, 16, .inl Z_place)), ((aZ 12), .inl (cI, 576, .inl Z_dummyPlace))]
noncomputable def jX10_crossings_112 (x1 : Int32) (x2 : Int32) (x3 : Int32) (x4 : Int32) : Option ((Int32 × Int32) ⊕ (Int32)) :=
  some (.inl (x2, (x4 + 1)))
noncomputable def jX10_crossings_109 (x1 : Int32) (x2 : Int32) (x3 : Int32) (x4 : Int32) : Option ((Int32 × Int32) ⊕ (Int32)) :=
  jX10_crossings_112 x1 (x2 + 1) x3 x4
noncomputable def jX10_crossings_99 (x1 : Int32) (x2 : Int32) (x3 : Int32) (x4 : Int32) (x5 : Int32) (x6 : Int32) : Option ((Int32 × Int32) ⊕ (Int32)) :=
  if x5 ≤ 0 then (
    jX10_crossings_112 x1 x2 x3 x4
  ) else (
    if 0 ≤ x6 then (
      jX10_crossings_112 x1 x2 x3 x4
    ) else (
      jX10_crossings_109 x1 x2 x3 x4
    )
  )
noncomputable def bX10_crossings_29 (Z_isArrow : Nat → Int32) (Z_from : Nat → Int32) (Z_to : Nat → Int32) (Z_turned : Nat → Int32) (Z_layer : Nat → Int32) (Z_place : Nat → Int32) (Z_dummyPlace : Nat → Int32) (x1 : Int32) (x3 : Int32) (x2 : Int32) (x4 : Int32) : Option ((Int32 × Int32) ⊕ (Int32)) :=
  if x3 ≤ x4 then (
    some (.inr x2)
  ) else (
    Option.bind (fX10_hasPiece Z_isArrow Z_from Z_to Z_turned Z_layer x3 x1) (fun q6 =>
    if q6 = 0 then (
      jX10_crossings_112 x1 x2 x3 x4
    ) else (
      Option.bind (fX10_hasPiece Z_isArrow Z_from Z_to Z_turned Z_layer x4 x1) (fun q7 =>
      if q7 = 0 then (
        jX10_crossings_112 x1 x2 x3 x4
      ) else (
        Option.bind (fX10_upperPlace Z_from Z_to Z_turned Z_layer Z_place Z_dummyPlace x3 x1) (fun q8 =>
        Option.bind (fX10_upperPlace Z_from Z_to Z_turned Z_layer Z_place Z_dummyPlace x4 x1) (fun q9 =>
        Option.bind (fX10_lowerPlace Z_from Z_to Z_turned Z_layer Z_place Z_dummyPlace x3 x1) (fun q10 =>
        Option.bind (fX10_lowerPlace Z_from Z_to Z_turned Z_layer Z_place Z_dummyPlace x4 x1) (fun q11 =>
        if 0 ≤ (q8 - q9) then (
          jX10_crossings_99 x1 x2 x3 x4 (q8 - q9) (q10 - q11)
        ) else (
          if 0 < (q10 - q11) then (
            jX10_crossings_109 x1 x2 x3 x4
          ) else (
            jX10_crossings_99 x1 x2 x3 x4 (q8 - q9) (q10 - q11)
          )
        )
        )
        )
        )
        )
      )
      )
    )
    )
  )
noncomputable def bX10_crossings_20 (Z_isArrow : Nat → Int32) (Z_from : Nat → Int32) (Z_to : Nat → Int32) (Z_turned : Nat → Int32) (Z_layer : Nat → Int32) (Z_place : Nat → Int32) (Z_dummyPlace : Nat → Int32) (x1 : Int32) (x2 : Int32) (x3 : Int32) : Option ((Int32 × Int32) ⊕ (Int32)) :=
  if 24 ≤ x3 then (
    some (.inr x2)
  ) else (
    Option.bind (q_lo (fun (st : Int32 × Int32) => bX10_crossings_29 Z_isArrow Z_from Z_to Z_turned Z_layer Z_place Z_dummyPlace x1 x3 st.1 st.2) (x2, 0)) (fun q2 =>
      some (.inl (q2, (x3 + 1))))
  )
noncomputable def fX10_crossings (Z_isArrow : Nat → Int32) (Z_from : Nat → Int32) (Z_to : Nat → Int32) (Z_turned : Nat → Int32) (Z_layers : Int32) (Z_layer : Nat → Int32) (Z_place : Nat → Int32) (Z_dummyPlace : Nat → Int32) (p0 : Int32) : Option (Int32) :=
  if p0 < 0 then (
    some 0
  ) else (
    if (p0 + 1) < Z_layers then (
      Option.bind (q_lo (fun (st : Int32 × Int32) => bX10_crossings_20 Z_isArrow Z_from Z_to Z_turned Z_layer Z_place Z_dummyPlace p0 st.1 st.2) (0, 0)) (fun q1 =>
        some q1)
    ) else (
      some 0
    )
  )
abbrev iX10_allCrossings (aZ : Nat → Nat) (cI cZ : ClassId) (Z_code : Int32) (Z_isArrow : Nat → Int32) (Z_from : Nat → Int32) (Z_to : Nat → Int32) (Z_turned : Nat → Int32) (Z_told : Int32) (Z_layers : Int32) (Z_layer : Nat → Int32) (Z_place : Nat → Int32) (Z_dummyPlace : Nat → Int32) : va_W := [((aZ 0), .inr (10, [.int Z_code, .ref (aZ 1), .ref (aZ 2), .ref (aZ 3), .ref (aZ 4), .ref (aZ 5), .ref (aZ 6), .ref (aZ 7), .int Z_told, .int Z_layers, .ref (aZ 8), .ref (aZ 9), .ref (aZ 10), .ref (aZ 11), .ref (aZ 12), .ref (aZ 13), .ref (aZ 14), .ref (aZ 15), .ref (aZ 16), .ref (aZ 17), .ref (aZ 18), .ref (aZ 19), .ref (aZ 20), .ref (aZ 21)])), ((aZ 4), .inl (cZ, 24, .inl Z_isArrow)), ((aZ 5), .inl (cI, 24, .inl Z_from)), ((aZ 6), .inl (cI, 24, .inl Z_to)), ((aZ 7), .inl (cZ, 24, .inl Z_turned)), ((aZ 8), .inl (cI, 16, .inl Z_layer)), ((aZ 11), .inl (cI, 16, .inl Z_place)), ((aZ 12), .inl (cI, 576, .inl Z_dummyPlace))]
noncomputable def bX10_allCrossings_4 (Z_isArrow : Nat → Int32) (Z_from : Nat → Int32) (Z_to : Nat → Int32) (Z_turned : Nat → Int32) (Z_layers : Int32) (Z_layer : Nat → Int32) (Z_place : Nat → Int32) (Z_dummyPlace : Nat → Int32) (x1 : Int32) (x2 : Int32) : Option ((Int32 × Int32) ⊕ (Int32)) :=
  if Z_layers ≤ x2 then (
    some (.inr x1)
  ) else (
    Option.bind (fX10_crossings Z_isArrow Z_from Z_to Z_turned Z_layers Z_layer Z_place Z_dummyPlace x2) (fun q2 =>
    some (.inl ((x1 + q2), (x2 + 1)))
    )
  )
noncomputable def fX10_allCrossings (Z_isArrow : Nat → Int32) (Z_from : Nat → Int32) (Z_to : Nat → Int32) (Z_turned : Nat → Int32) (Z_layers : Int32) (Z_layer : Nat → Int32) (Z_place : Nat → Int32) (Z_dummyPlace : Nat → Int32) : Option (Int32) :=
  Option.bind (q_lo (fun (st : Int32 × Int32) => bX10_allCrossings_4 Z_isArrow Z_from Z_to Z_turned Z_layers Z_layer Z_place Z_dummyPlace st.1 st.2) (0, 0)) (fun q1 =>
    some q1)
abbrev iX10_item0 (aZ : Nat → Nat) (cI cZ : ClassId) (Z_code : Int32) (Z_told : Int32) (Z_layers : Int32) (Z_items : Nat → Int32) : va_W := [((aZ 0), .inr (10, [.int Z_code, .ref (aZ 1), .ref (aZ 2), .ref (aZ 3), .ref (aZ 4), .ref (aZ 5), .ref (aZ 6), .ref (aZ 7), .int Z_told, .int Z_layers, .ref (aZ 8), .ref (aZ 9), .ref (aZ 10), .ref (aZ 11), .ref (aZ 12), .ref (aZ 13), .ref (aZ 14), .ref (aZ 15), .ref (aZ 16), .ref (aZ 17), .ref (aZ 18), .ref (aZ 19), .ref (aZ 20), .ref (aZ 21)])), ((aZ 10), .inl (cI, 960, .inl Z_items))]
noncomputable def fX10_item0 (Z_items : Nat → Int32) (p0 : Int32) (p1 : Int32) : Option (Int32) :=
  if q_in ((40 * p0) + p1) 960 then (
  some (Z_items ((40 * p0) + p1).toNatClampNeg)
  ) else none
abbrev iX10_note (aZ : Nat → Nat) (cI cZ : ClassId) (Z_code : Int32) (Z_told : Int32) (Z_layers : Int32) (Z_sizes : Nat → Int32) (Z_items : Nat → Int32) (Z_place : Nat → Int32) (Z_dummyPlace : Nat → Int32) : va_W := [((aZ 0), .inr (10, [.int Z_code, .ref (aZ 1), .ref (aZ 2), .ref (aZ 3), .ref (aZ 4), .ref (aZ 5), .ref (aZ 6), .ref (aZ 7), .int Z_told, .int Z_layers, .ref (aZ 8), .ref (aZ 9), .ref (aZ 10), .ref (aZ 11), .ref (aZ 12), .ref (aZ 13), .ref (aZ 14), .ref (aZ 15), .ref (aZ 16), .ref (aZ 17), .ref (aZ 18), .ref (aZ 19), .ref (aZ 20), .ref (aZ 21)])), ((aZ 9), .inl (cI, 24, .inl Z_sizes)), ((aZ 10), .inl (cI, 960, .inl Z_items)), ((aZ 11), .inl (cI, 16, .inl Z_place)), ((aZ 12), .inl (cI, 576, .inl Z_dummyPlace))]
noncomputable def jX10_note_50 (Z_place : Nat → Int32) (Z_dummyPlace : Nat → Int32) (x1 : Int32) (x2 : Int32) : Option ((Int32 × (Nat → Int32) × (Nat → Int32)) ⊕ ((Nat → Int32) × (Nat → Int32))) :=
  some (.inl ((x2 + 1), Z_place, Z_dummyPlace))
noncomputable def bX10_note_2 (Z_sizes : Nat → Int32) (Z_items : Nat → Int32) (x1 : Int32) (x2 : Int32) (Z_place : Nat → Int32) (Z_dummyPlace : Nat → Int32) : Option ((Int32 × (Nat → Int32) × (Nat → Int32)) ⊕ ((Nat → Int32) × (Nat → Int32))) :=
  if q_in x1 24 then (
  if (Z_sizes x1.toNatClampNeg) ≤ x2 then (
    some (.inr (Z_place, Z_dummyPlace))
  ) else (
    Option.bind (fX10_item0 Z_items x1 x2) (fun q4 =>
    if 100 ≤ q4 then (
      if q_in ((24 * (q4 - 100)) + x1) 576 then (
      jX10_note_50 Z_place (upd Z_dummyPlace ((24 * (q4 - 100)) + x1).toNatClampNeg x2) x1 x2
      ) else none
    ) else (
      if q_in q4 16 then (
      jX10_note_50 (upd Z_place q4.toNatClampNeg x2) Z_dummyPlace x1 x2
      ) else none
    )
    )
  )
  ) else none
noncomputable def fX10_note (Z_sizes : Nat → Int32) (Z_items : Nat → Int32) (Z_place : Nat → Int32) (Z_dummyPlace : Nat → Int32) (p0 : Int32) : Option ((Nat → Int32) × (Nat → Int32)) :=
  q_b2 (q_lo (fun (st : Int32 × (Nat → Int32) × (Nat → Int32)) => bX10_note_2 Z_sizes Z_items p0 st.1 st.2.1 st.2.2) (0, Z_place, Z_dummyPlace)) (fun q1_0 q1_1 =>
    some (q1_0, q1_1))
abbrev iX10_arrange (aZ : Nat → Nat) (cI cZ : ClassId) (Z_code : Int32) (Z_told : Int32) (Z_layers : Int32) (Z_sizes : Nat → Int32) (Z_items : Nat → Int32) (Z_place : Nat → Int32) (Z_dummyPlace : Nat → Int32) (Z_row : Nat → Int32) (Z_near : Nat → Int32) : va_W := [((aZ 0), .inr (10, [.int Z_code, .ref (aZ 1), .ref (aZ 2), .ref (aZ 3), .ref (aZ 4), .ref (aZ 5), .ref (aZ 6), .ref (aZ 7), .int Z_told, .int Z_layers, .ref (aZ 8), .ref (aZ 9), .ref (aZ 10), .ref (aZ 11), .ref (aZ 12), .ref (aZ 13), .ref (aZ 14), .ref (aZ 15), .ref (aZ 16), .ref (aZ 17), .ref (aZ 18), .ref (aZ 19), .ref (aZ 20), .ref (aZ 21)])), ((aZ 9), .inl (cI, 24, .inl Z_sizes)), ((aZ 10), .inl (cI, 960, .inl Z_items)), ((aZ 11), .inl (cI, 16, .inl Z_place)), ((aZ 12), .inl (cI, 576, .inl Z_dummyPlace)), ((aZ 18), .inl (cI, 40, .inl Z_row)), ((aZ 20), .inl (cI, 40, .inl Z_near))]
noncomputable def bX10_arrange_10 (x2 : Int32) (x7 : Int32) (Z_near : Nat → Int32) : Option ((Int32 × (Nat → Int32)) ⊕ ((Nat → Int32))) :=
  if x2 ≤ x7 then (
    some (.inr Z_near)
  ) else (
    if q_in x7 40 then (
    some (.inl ((x7 + 1), (upd Z_near x7.toNatClampNeg x7)))
    ) else none
  )
noncomputable def bX10_arrange_91 (x2 : Int32) (x7 : Int32) (x9 : Int32) (Z_near : Nat → Int32) : Option ((Int32 × (Nat → Int32)) ⊕ ((Nat → Int32))) :=
  if (x2 - x7) ≤ (x9 + 1) then (
    some (.inr Z_near)
  ) else (
    if q_in (x9 + 1) 40 then (
    if q_in x9 40 then (
    some (.inl ((x9 + 1), (upd Z_near x9.toNatClampNeg (Z_near (x9 + 1).toNatClampNeg))))
    ) else none
    ) else none
  )
noncomputable def bX10_arrange_34 (Z_row : Nat → Int32) (x1 : Int32) (x2 : Int32) (x5 : Int32) (x6 : Int32) (x7 : Int32) (Z_items : Nat → Int32) (Z_near : Nat → Int32) : Option ((Int32 × Int32 × Int32 × (Nat → Int32) × (Nat → Int32)) ⊕ ((Nat → Int32) × (Nat → Int32))) :=
  if x2 ≤ x7 then (
    some (.inr (Z_items, Z_near))
  ) else (
    if ¬ (x2 - x7) = 0 then (
    if ¬ (x6 / (x2 - x7)) = 0 then (
    if ¬ (x6 / (x2 - x7)) = 0 then (
    q_let (x5 - x5 / (x6 / (x2 - x7)) * (x6 / (x2 - x7))) (fun v7 =>
    if q_in (x5 / (x6 / (x2 - x7))) 40 then (
    if q_in (Z_near (x5 / (x6 / (x2 - x7))).toNatClampNeg) 40 then (
    if q_in ((40 * x1) + x7) 960 then (
    Option.bind (q_lo (fun (st : Int32 × (Nat → Int32)) => bX10_arrange_91 x2 x7 st.1 st.2) ((x5 / (x6 / (x2 - x7))), Z_near)) (fun q11 =>
      some (.inl (v7, (x6 / (x2 - x7)), (x7 + 1), (upd Z_items ((40 * x1) + x7).toNatClampNeg (Z_row (Z_near (x5 / (x6 / (x2 - x7))).toNatClampNeg).toNatClampNeg)), q11)))
    ) else none
    ) else none
    ) else none
    )
    ) else none
    ) else none
    ) else none
  )
noncomputable def fX10_arrange (Z_sizes : Nat → Int32) (Z_items : Nat → Int32) (Z_place : Nat → Int32) (Z_dummyPlace : Nat → Int32) (Z_row : Nat → Int32) (Z_near : Nat → Int32) (p0 : Int32) (p1 : Int32) (p2 : Int32) (p3 : Int32) : Option ((Nat → Int32) × (Nat → Int32) × (Nat → Int32) × (Nat → Int32)) :=
  Option.bind (q_lo (fun (st : Int32 × (Nat → Int32)) => bX10_arrange_10 p1 st.1 st.2) (0, Z_near)) (fun q1 =>
    q_b2 (q_lo (fun (st : Int32 × Int32 × Int32 × (Nat → Int32) × (Nat → Int32)) => bX10_arrange_34 Z_row p0 p1 st.1 st.2.1 st.2.2.1 st.2.2.2.1 st.2.2.2.2) (p2, p3, 0, Z_items, q1)) (fun q3_0 q3_1 =>
      q_b2 (fX10_note Z_sizes q3_0 Z_place Z_dummyPlace p0) (fun q14_0 q14_1 =>
      some (q3_0, q14_0, q14_1, q3_1)
      )))
abbrev iX10_in (cI cZ : ClassId) : va_W := []
noncomputable def fX10_in (p0 : Int32) (p1 : Int32) (p2 : Int32) : Option (Int32) :=
  if p0 < p1 then (
    some 0
  ) else (
    if p2 < p0 then (
      some 0
    ) else (
      some 1
    )
  )
abbrev iX10_hasBox (aZ : Nat → Nat) (cI cZ : ClassId) (Z_code : Int32) (Z_isBox : Nat → Int32) (Z_told : Int32) (Z_layers : Int32) : va_W := [((aZ 0), .inr (10, [.int Z_code, .ref (aZ 1), .ref (aZ 2), .ref (aZ 3), .ref (aZ 4), .ref (aZ 5), .ref (aZ 6), .ref (aZ 7), .int Z_told, .int Z_layers, .ref (aZ 8), .ref (aZ 9), .ref (aZ 10), .ref (aZ 11), .ref (aZ 12), .ref (aZ 13), .ref (aZ 14), .ref (aZ 15), .ref (aZ 16), .ref (aZ 17), .ref (aZ 18), .ref (aZ 19), .ref (aZ 20), .ref (aZ 21)])), ((aZ 1), .inl (cZ, 16, .inl Z_isBox))]
noncomputable def fX10_hasBox (Z_isBox : Nat → Int32) (p0 : Int32) : Option (Int32) :=
  Option.bind (fX10_in p0 0 15) (fun q1 =>
  if q1 = 0 then (
    some 0
  ) else (
    if q_in p0 16 then (
    if (Z_isBox p0.toNatClampNeg) = 0 then (
      some 0
    ) else (
      some 1
    )
    ) else none
  )
  )
abbrev iX10_arrow (aZ : Nat → Nat) (cI cZ : ClassId) (Z_code : Int32) (Z_isBox : Nat → Int32) (Z_isArrow : Nat → Int32) (Z_from : Nat → Int32) (Z_to : Nat → Int32) (Z_told : Int32) (Z_layers : Int32) : va_W := [((aZ 0), .inr (10, [.int Z_code, .ref (aZ 1), .ref (aZ 2), .ref (aZ 3), .ref (aZ 4), .ref (aZ 5), .ref (aZ 6), .ref (aZ 7), .int Z_told, .int Z_layers, .ref (aZ 8), .ref (aZ 9), .ref (aZ 10), .ref (aZ 11), .ref (aZ 12), .ref (aZ 13), .ref (aZ 14), .ref (aZ 15), .ref (aZ 16), .ref (aZ 17), .ref (aZ 18), .ref (aZ 19), .ref (aZ 20), .ref (aZ 21)])), ((aZ 1), .inl (cZ, 16, .inl Z_isBox)), ((aZ 4), .inl (cZ, 24, .inl Z_isArrow)), ((aZ 5), .inl (cI, 24, .inl Z_from)), ((aZ 6), .inl (cI, 24, .inl Z_to))]
noncomputable def jX10_arrow_37 (Z_isArrow : Nat → Int32) (Z_from : Nat → Int32) (Z_to : Nat → Int32) (Z_told : Int32) (x1 : Int32) (x2 : Int32) (x3 : Int32) (s0 : Int32) : Option (Int32 × (Nat → Int32) × (Nat → Int32) × (Nat → Int32) × Int32) :=
  if s0 ≤ 0 then (
    if q_in x1 24 then (
    if q_in x1 24 then (
    if q_in x1 24 then (
    some (s0, (upd Z_isArrow x1.toNatClampNeg 1), (upd Z_from x1.toNatClampNeg x2), (upd Z_to x1.toNatClampNeg x3), 0)
    ) else none
    ) else none
    ) else none
  ) else (
    some (s0, Z_isArrow, Z_from, Z_to, Z_told)
  )
noncomputable def jX10_arrow_36 (Z_isArrow : Nat → Int32) (Z_from : Nat → Int32) (Z_to : Nat → Int32) (Z_told : Int32) (x1 : Int32) (x2 : Int32) (x3 : Int32) : Option (Int32 × (Nat → Int32) × (Nat → Int32) × (Nat → Int32) × Int32) :=
  jX10_arrow_37 Z_isArrow Z_from Z_to Z_told x1 x2 x3 1
noncomputable def fX10_arrow (Z_isBox : Nat → Int32) (Z_isArrow : Nat → Int32) (Z_from : Nat → Int32) (Z_to : Nat → Int32) (Z_told : Int32) (p0 : Int32) (p1 : Int32) (p2 : Int32) : Option (Int32 × (Nat → Int32) × (Nat → Int32) × (Nat → Int32) × Int32) :=
  Option.bind (fX10_in p0 0 23) (fun q6 =>
  if q6 = 0 then (
    jX10_arrow_36 Z_isArrow Z_from Z_to Z_told p0 p1 p2
  ) else (
    Option.bind (fX10_hasBox Z_isBox p1) (fun q7 =>
    if q7 = 0 then (
      jX10_arrow_36 Z_isArrow Z_from Z_to Z_told p0 p1 p2
    ) else (
      Option.bind (fX10_hasBox Z_isBox p2) (fun q8 =>
      if q8 = 0 then (
        jX10_arrow_36 Z_isArrow Z_from Z_to Z_told p0 p1 p2
      ) else (
        if p1 = p2 then (
          jX10_arrow_36 Z_isArrow Z_from Z_to Z_told p0 p1 p2
        ) else (
          jX10_arrow_37 Z_isArrow Z_from Z_to Z_told p0 p1 p2 0
        )
      )
      )
    )
    )
  )
  )
abbrev iX10_at (aZ : Nat → Nat) (cI cZ : ClassId) (Z_code : Int32) (Z_isBox : Nat → Int32) (Z_told : Int32) (Z_layers : Int32) (Z_layer : Nat → Int32) (Z_place : Nat → Int32) (Z_xs : Nat → Int32) : va_W := [((aZ 0), .inr (10, [.int Z_code, .ref (aZ 1), .ref (aZ 2), .ref (aZ 3), .ref (aZ 4), .ref (aZ 5), .ref (aZ 6), .ref (aZ 7), .int Z_told, .int Z_layers, .ref (aZ 8), .ref (aZ 9), .ref (aZ 10), .ref (aZ 11), .ref (aZ 12), .ref (aZ 13), .ref (aZ 14), .ref (aZ 15), .ref (aZ 16), .ref (aZ 17), .ref (aZ 18), .ref (aZ 19), .ref (aZ 20), .ref (aZ 21)])), ((aZ 1), .inl (cZ, 16, .inl Z_isBox)), ((aZ 8), .inl (cI, 16, .inl Z_layer)), ((aZ 11), .inl (cI, 16, .inl Z_place)), ((aZ 13), .inl (cI, 960, .inl Z_xs))]
noncomputable def jX10_at_25 (Z_isBox : Nat → Int32) (Z_told : Int32) (Z_layer : Nat → Int32) (Z_place : Nat → Int32) (Z_xs : Nat → Int32) (x1 : Int32) (x2 : Int32) (s0 : Int32) : Option (Int32 × Int32) :=
  if s0 ≤ 0 then (
    if Z_told = 0 then (
      some ((-1), s0)
    ) else (
      if q_in x1 16 then (
      if (Z_isBox x1.toNatClampNeg) = 0 then (
        some ((-1), s0)
      ) else (
        if x2 = 0 then (
          if q_in x1 16 then (
          some ((Z_layer x1.toNatClampNeg), s0)
          ) else none
        ) else (
          if x2 = 1 then (
            if q_in x1 16 then (
            some ((Z_place x1.toNatClampNeg), s0)
            ) else none
          ) else (
            if q_in x1 16 then (
            if q_in x1 16 then (
            if q_in ((40 * (Z_layer x1.toNatClampNeg)) + (Z_place x1.toNatClampNeg)) 960 then (
            some ((Z_xs ((40 * (Z_layer x1.toNatClampNeg)) + (Z_place x1.toNatClampNeg)).toNatClampNeg), s0)
            ) else none
            ) else none
            ) else none
          )
        )
      )
      ) else none
    )
  ) else (
    some (0, s0)
  )
noncomputable def jX10_at_24 (Z_isBox : Nat → Int32) (Z_told : Int32) (Z_layer : Nat → Int32) (Z_place : Nat → Int32) (Z_xs : Nat → Int32) (x1 : Int32) (x2 : Int32) : Option (Int32 × Int32) :=
  jX10_at_25 Z_isBox Z_told Z_layer Z_place Z_xs x1 x2 1
noncomputable def fX10_at (Z_isBox : Nat → Int32) (Z_told : Int32) (Z_layer : Nat → Int32) (Z_place : Nat → Int32) (Z_xs : Nat → Int32) (p0 : Int32) (p1 : Int32) : Option (Int32 × Int32) :=
  Option.bind (fX10_in p0 0 15) (fun q9 =>
  if q9 = 0 then (
    jX10_at_24 Z_isBox Z_told Z_layer Z_place Z_xs p0 p1
  ) else (
    Option.bind (fX10_in p1 0 2) (fun q10 =>
    if q10 = 0 then (
      jX10_at_24 Z_isBox Z_told Z_layer Z_place Z_xs p0 p1
    ) else (
      jX10_at_25 Z_isBox Z_told Z_layer Z_place Z_xs p0 p1 0
    )
    )
  )
  )
abbrev iX10_widthOf (aZ : Nat → Nat) (cI cZ : ClassId) (Z_code : Int32) (Z_width : Nat → Int32) (Z_told : Int32) (Z_layers : Int32) : va_W := [((aZ 0), .inr (10, [.int Z_code, .ref (aZ 1), .ref (aZ 2), .ref (aZ 3), .ref (aZ 4), .ref (aZ 5), .ref (aZ 6), .ref (aZ 7), .int Z_told, .int Z_layers, .ref (aZ 8), .ref (aZ 9), .ref (aZ 10), .ref (aZ 11), .ref (aZ 12), .ref (aZ 13), .ref (aZ 14), .ref (aZ 15), .ref (aZ 16), .ref (aZ 17), .ref (aZ 18), .ref (aZ 19), .ref (aZ 20), .ref (aZ 21)])), ((aZ 2), .inl (cI, 16, .inl Z_width))]
noncomputable def fX10_widthOf (Z_width : Nat → Int32) (p0 : Int32) : Option (Int32) :=
  if 100 ≤ p0 then (
    some 1
  ) else (
    if q_in p0 16 then (
    some (Z_width p0.toNatClampNeg)
    ) else none
  )
abbrev iX10_middle (aZ : Nat → Nat) (cI cZ : ClassId) (Z_code : Int32) (Z_width : Nat → Int32) (Z_told : Int32) (Z_layers : Int32) (Z_items : Nat → Int32) (Z_xs : Nat → Int32) : va_W := [((aZ 0), .inr (10, [.int Z_code, .ref (aZ 1), .ref (aZ 2), .ref (aZ 3), .ref (aZ 4), .ref (aZ 5), .ref (aZ 6), .ref (aZ 7), .int Z_told, .int Z_layers, .ref (aZ 8), .ref (aZ 9), .ref (aZ 10), .ref (aZ 11), .ref (aZ 12), .ref (aZ 13), .ref (aZ 14), .ref (aZ 15), .ref (aZ 16), .ref (aZ 17), .ref (aZ 18), .ref (aZ 19), .ref (aZ 20), .ref (aZ 21)])), ((aZ 2), .inl (cI, 16, .inl Z_width)), ((aZ 10), .inl (cI, 960, .inl Z_items)), ((aZ 13), .inl (cI, 960, .inl Z_xs))]
noncomputable def fX10_middle (Z_width : Nat → Int32) (Z_items : Nat → Int32) (Z_xs : Nat → Int32) (p0 : Int32) (p1 : Int32) : Option (Int32) :=
  if q_in ((40 * p0) + p1) 960 then (
  Option.bind (fX10_item0 Z_items p0 p1) (fun q2 =>
  Option.bind (fX10_widthOf Z_width q2) (fun q3 =>
  some ((Z_xs ((40 * p0) + p1).toNatClampNeg) + (q3 / 2))
  )
  )
  ) else none
abbrev iX10_left (aZ : Nat → Nat) (cI cZ : ClassId) (Z_code : Int32) (Z_width : Nat → Int32) (Z_from : Nat → Int32) (Z_to : Nat → Int32) (Z_turned : Nat → Int32) (Z_told : Int32) (Z_layers : Int32) (Z_layer : Nat → Int32) (Z_items : Nat → Int32) (Z_place : Nat → Int32) (Z_dummyPlace : Nat → Int32) (Z_xs : Nat → Int32) : va_W := [((aZ 0), .inr (10, [.int Z_code, .ref (aZ 1), .ref (aZ 2), .ref (aZ 3), .ref (aZ 4), .ref (aZ 5), .ref (aZ 6), .ref (aZ 7), .int Z_told, .int Z_layers, .ref (aZ 8), .ref (aZ 9), .ref (aZ 10), .ref (aZ 11), .ref (aZ 12), .ref (aZ 13), .ref (aZ 14), .ref (aZ 15), .ref (aZ 16), .ref (aZ 17), .ref (aZ 18), .ref (aZ 19), .ref (aZ 20), .ref (aZ 21)])), ((aZ 2), .inl (cI, 16, .inl Z_width)), ((aZ 5), .inl (cI, 24, .inl Z_from)), ((aZ 6), .inl (cI, 24, .inl Z_to)), ((aZ 7), .inl (cZ, 24, .inl Z_turned)), ((aZ 8), .inl (cI, 16, .inl Z_layer)), ((aZ 10), .inl (cI, 960, .inl Z_items)), ((aZ 11), .inl (cI, 16, .inl Z_place)), ((aZ 12), .inl (cI, 576, .inl Z_dummyPlace)), ((aZ 13), .inl (cI, 960, .inl Z_xs))]
noncomputable def fX10_left (Z_width : Nat → Int32) (Z_from : Nat → Int32) (Z_to : Nat → Int32) (Z_turned : Nat → Int32) (Z_layer : Nat → Int32) (Z_items : Nat → Int32) (Z_place : Nat → Int32) (Z_dummyPlace : Nat → Int32) (Z_xs : Nat → Int32) (p0 : Int32) (p1 : Int32) : Option (Int32) :=
  Option.bind (fX10_upperPlace Z_from Z_to Z_turned Z_layer Z_place Z_dummyPlace p0 p1) (fun q1 =>
  Option.bind (fX10_middle Z_width Z_items Z_xs p1 q1) (fun q2 =>
  Option.bind (fX10_lowerPlace Z_from Z_to Z_turned Z_layer Z_place Z_dummyPlace p0 p1) (fun q3 =>
  Option.bind (fX10_middle Z_width Z_items Z_xs (p1 + 1) q3) (fun q4 =>
  if q4 ≤ q2 then (
    some q4
  ) else (
    some q2
  )
  )
  )
  )
  )
abbrev iX10_right (aZ : Nat → Nat) (cI cZ : ClassId) (Z_code : Int32) (Z_width : Nat → Int32) (Z_from : Nat → Int32) (Z_to : Nat → Int32) (Z_turned : Nat → Int32) (Z_told : Int32) (Z_layers : Int32) (Z_layer : Nat → Int32) (Z_items : Nat → Int32) (Z_place : Nat → Int32) (Z_dummyPlace : Nat → Int32) (Z_xs : Nat → Int32) : va_W := [((aZ 0), .inr (10, [.int Z_code, .ref (aZ 1), .ref (aZ 2), .ref (aZ 3), .ref (aZ 4), .ref (aZ 5), .ref (aZ 6), .ref (aZ 7), .int Z_told, .int Z_layers, .ref (aZ 8), .ref (aZ 9), .ref (aZ 10), .ref (aZ 11), .ref (aZ 12), .ref (aZ 13), .ref (aZ 14), .ref (aZ 15), .ref (aZ 16), .ref (aZ 17), .ref (aZ 18), .ref (aZ 19), .ref (aZ 20), .ref (aZ 21)])), ((aZ 2), .inl (cI, 16, .inl Z_width)), ((aZ 5), .inl (cI, 24, .inl Z_from)), ((aZ 6), .inl (cI, 24, .inl Z_to)), ((aZ 7), .inl (cZ, 24, .inl Z_turned)), ((aZ 8), .inl (cI, 16, .inl Z_layer)), ((aZ 10), .inl (cI, 960, .inl Z_items)), ((aZ 11), .inl (cI, 16, .inl Z_place)), ((aZ 12), .inl (cI, 576, .inl Z_dummyPlace)), ((aZ 13), .inl (cI, 960, .inl Z_xs))]
noncomputable def fX10_right (Z_width : Nat → Int32) (Z_from : Nat → Int32) (Z_to : Nat → Int32) (Z_turned : Nat → Int32) (Z_layer : Nat → Int32) (Z_items : Nat → Int32) (Z_place : Nat → Int32) (Z_dummyPlace : Nat → Int32) (Z_xs : Nat → Int32) (p0 : Int32) (p1 : Int32) : Option (Int32) :=
  Option.bind (fX10_upperPlace Z_from Z_to Z_turned Z_layer Z_place Z_dummyPlace p0 p1) (fun q1 =>
  Option.bind (fX10_middle Z_width Z_items Z_xs p1 q1) (fun q2 =>
  Option.bind (fX10_lowerPlace Z_from Z_to Z_turned Z_layer Z_place Z_dummyPlace p0 p1) (fun q3 =>
  Option.bind (fX10_middle Z_width Z_items Z_xs (p1 + 1) q3) (fun q4 =>
  if q4 ≤ q2 then (
    some q2
  ) else (
    some q4
  )
  )
  )
  )
  )
abbrev iX10_track (aZ : Nat → Nat) (cI cZ : ClassId) (Z_code : Int32) (Z_width : Nat → Int32) (Z_isArrow : Nat → Int32) (Z_from : Nat → Int32) (Z_to : Nat → Int32) (Z_turned : Nat → Int32) (Z_told : Int32) (Z_layers : Int32) (Z_layer : Nat → Int32) (Z_items : Nat → Int32) (Z_place : Nat → Int32) (Z_dummyPlace : Nat → Int32) (Z_xs : Nat → Int32) (Z_ends : Nat → Int32) : va_W := [((aZ 0), .inr (10, [.int Z_code, .ref (aZ 1), .ref (aZ 2), .ref (aZ 3), .ref (aZ 4), .ref (aZ 5), .ref (aZ 6), .ref (aZ 7), .int Z_told, .int Z_layers, .ref (aZ 8), .ref (aZ 9), .ref (aZ 10), .ref (aZ 11), .ref (aZ 12), .ref (aZ 13), .ref (aZ 14), .ref (aZ 15), .ref (aZ 16), .ref (aZ 17), .ref (aZ 18), .ref (aZ 19), .ref (aZ 20), .ref (aZ 21)])), ((aZ 2), .inl (cI, 16, .inl Z_width)), ((aZ 4), .inl (cZ, 24, .inl Z_isArrow)), ((aZ 5), .inl (cI, 24, .inl Z_from)), ((aZ 6), .inl (cI, 24, .inl Z_to)), ((aZ 7), .inl (cZ, 24, .inl Z_turned)), ((aZ 8), .inl (cI, 16, .inl Z_layer)), ((aZ 10), .inl (cI, 960, .inl Z_items)), ((aZ 11), .inl (cI, 16, .inl Z_place)), ((aZ 12), .inl (cI, 576, .inl Z_dummyPlace)), ((aZ 13), .inl (cI, 960, .inl Z_xs)), ((aZ 19), .inl (cI, 40, .inl Z_ends))]
noncomputable def jX10_track_216 (Z_width : Nat → Int32) (Z_from : Nat → Int32) (Z_to : Nat → Int32) (Z_turned : Nat → Int32) (Z_layer : Nat → Int32) (Z_items : Nat → Int32) (Z_place : Nat → Int32) (Z_dummyPlace : Nat → Int32) (Z_xs : Nat → Int32) (Z_ends : Nat → Int32) (x1 : Int32) (x2 : Int32) (x3 : Int32) (x4 : Int32) (x7 : Int32) (x8 : Int32) : Option ((Int32 × Int32 × Int32 × Int32 × Int32 × (Nat → Int32)) ⊕ (Int32 × Int32 × (Nat → Int32))) :=
  Option.bind (fX10_left Z_width Z_from Z_to Z_turned Z_layer Z_items Z_place Z_dummyPlace Z_xs x8 x2) (fun q3 =>
  some (.inl (x3, x4, q3, x8, x7, Z_ends))
  )
noncomputable def jX10_track_192 (Z_width : Nat → Int32) (Z_from : Nat → Int32) (Z_to : Nat → Int32) (Z_turned : Nat → Int32) (Z_layer : Nat → Int32) (Z_items : Nat → Int32) (Z_place : Nat → Int32) (Z_dummyPlace : Nat → Int32) (Z_xs : Nat → Int32) (Z_ends : Nat → Int32) (x1 : Int32) (x2 : Int32) (x3 : Int32) (x4 : Int32) (x7 : Int32) (x8 : Int32) (x9 : Int32) : Option ((Int32 × Int32 × Int32 × Int32 × Int32 × (Nat → Int32)) ⊕ (Int32 × Int32 × (Nat → Int32))) :=
  Option.bind (fX10_right Z_width Z_from Z_to Z_turned Z_layer Z_items Z_place Z_dummyPlace Z_xs x8 x2) (fun q5 =>
  if q_in x9 40 then (
  if x8 = x1 then (
    jX10_track_216 Z_width Z_from Z_to Z_turned Z_layer Z_items Z_place Z_dummyPlace Z_xs (upd Z_ends x9.toNatClampNeg q5) x1 x2 x3 x9 x7 x8
  ) else (
    jX10_track_216 Z_width Z_from Z_to Z_turned Z_layer Z_items Z_place Z_dummyPlace Z_xs (upd Z_ends x9.toNatClampNeg q5) x1 x2 x3 x4 x7 x8
  )
  ) else none
  )
noncomputable def bX10_track_154 (Z_width : Nat → Int32) (Z_from : Nat → Int32) (Z_to : Nat → Int32) (Z_turned : Nat → Int32) (Z_layer : Nat → Int32) (Z_items : Nat → Int32) (Z_place : Nat → Int32) (Z_dummyPlace : Nat → Int32) (Z_xs : Nat → Int32) (Z_ends : Nat → Int32) (x2 : Int32) (x3 : Int32) (x8 : Int32) (x9 : Int32) : Option ((Int32) ⊕ (Int32)) :=
  if x3 ≤ x9 then (
    some (.inr x9)
  ) else (
    if q_in x9 40 then (
    Option.bind (fX10_left Z_width Z_from Z_to Z_turned Z_layer Z_items Z_place Z_dummyPlace Z_xs x8 x2) (fun q10 =>
    if (Z_ends x9.toNatClampNeg) < q10 then (
      some (.inr x9)
    ) else (
      some (.inl (x9 + 1))
    )
    )
    ) else none
  )
noncomputable def jX10_track_141 (Z_width : Nat → Int32) (Z_from : Nat → Int32) (Z_to : Nat → Int32) (Z_turned : Nat → Int32) (Z_layer : Nat → Int32) (Z_items : Nat → Int32) (Z_place : Nat → Int32) (Z_dummyPlace : Nat → Int32) (Z_xs : Nat → Int32) (Z_ends : Nat → Int32) (x1 : Int32) (x2 : Int32) (x3 : Int32) (x4 : Int32) (x5 : Int32) (x6 : Int32) (x8 : Int32) (s0 : Int32) : Option ((Int32 × Int32 × Int32 × Int32 × Int32 × (Nat → Int32)) ⊕ (Int32 × Int32 × (Nat → Int32))) :=
  if s0 = 0 then (
    some (.inl (x3, x4, x5, x6, s0, Z_ends))
  ) else (
    Option.bind (q_lo (fun (st : Int32) => bX10_track_154 Z_width Z_from Z_to Z_turned Z_layer Z_items Z_place Z_dummyPlace Z_xs Z_ends x2 x3 x8 st) 0) (fun q8 =>
      if q8 = x3 then (
        jX10_track_192 Z_width Z_from Z_to Z_turned Z_layer Z_items Z_place Z_dummyPlace Z_xs Z_ends x1 x2 (x3 + 1) x4 s0 x8 q8
      ) else (
        jX10_track_192 Z_width Z_from Z_to Z_turned Z_layer Z_items Z_place Z_dummyPlace Z_xs Z_ends x1 x2 x3 x4 s0 x8 q8
      ))
  )
noncomputable def jX10_track_125 (x1 : Int32) (x2 : Int32) (x3 : Int32) (x4 : Int32) (x5 : Int32) (x6 : Int32) (x8 : Int32) (x9 : Int32) : Option ((Int32 × Int32) ⊕ (Int32)) :=
  some (.inl (x8, (x9 + 1)))
noncomputable def jX10_track_121 (x1 : Int32) (x2 : Int32) (x3 : Int32) (x4 : Int32) (x5 : Int32) (x6 : Int32) (x9 : Int32) : Option ((Int32 × Int32) ⊕ (Int32)) :=
  jX10_track_125 x1 x2 x3 x4 x5 x6 x9 x9
noncomputable def jX10_track_97 (Z_width : Nat → Int32) (Z_from : Nat → Int32) (Z_to : Nat → Int32) (Z_turned : Nat → Int32) (Z_layer : Nat → Int32) (Z_items : Nat → Int32) (Z_place : Nat → Int32) (Z_dummyPlace : Nat → Int32) (Z_xs : Nat → Int32) (x1 : Int32) (x2 : Int32) (x3 : Int32) (x4 : Int32) (x5 : Int32) (x6 : Int32) (x8 : Int32) (x9 : Int32) (x10 : Int32) (s0 : Int32) : Option ((Int32 × Int32) ⊕ (Int32)) :=
  if s0 = 0 then (
    jX10_track_125 x1 x2 x3 x4 x5 x6 x8 x9
  ) else (
    if x8 < 0 then (
      jX10_track_121 x1 x2 x3 x4 x5 x6 x9
    ) else (
      Option.bind (fX10_left Z_width Z_from Z_to Z_turned Z_layer Z_items Z_place Z_dummyPlace Z_xs x8 x2) (fun q15 =>
      if q15 ≤ x10 then (
        jX10_track_125 x1 x2 x3 x4 x5 x6 x8 x9
      ) else (
        jX10_track_121 x1 x2 x3 x4 x5 x6 x9
      )
      )
    )
  )
noncomputable def jX10_track_92 (Z_width : Nat → Int32) (Z_from : Nat → Int32) (Z_to : Nat → Int32) (Z_turned : Nat → Int32) (Z_layer : Nat → Int32) (Z_items : Nat → Int32) (Z_place : Nat → Int32) (Z_dummyPlace : Nat → Int32) (Z_xs : Nat → Int32) (x1 : Int32) (x2 : Int32) (x3 : Int32) (x4 : Int32) (x5 : Int32) (x6 : Int32) (x8 : Int32) (x9 : Int32) (x10 : Int32) : Option ((Int32 × Int32) ⊕ (Int32)) :=
  jX10_track_97 Z_width Z_from Z_to Z_turned Z_layer Z_items Z_place Z_dummyPlace Z_xs x1 x2 x3 x4 x5 x6 x8 x9 x10 1
noncomputable def jX10_track_96 (Z_width : Nat → Int32) (Z_from : Nat → Int32) (Z_to : Nat → Int32) (Z_turned : Nat → Int32) (Z_layer : Nat → Int32) (Z_items : Nat → Int32) (Z_place : Nat → Int32) (Z_dummyPlace : Nat → Int32) (Z_xs : Nat → Int32) (x1 : Int32) (x2 : Int32) (x3 : Int32) (x4 : Int32) (x5 : Int32) (x6 : Int32) (x8 : Int32) (x9 : Int32) (x10 : Int32) : Option ((Int32 × Int32) ⊕ (Int32)) :=
  jX10_track_97 Z_width Z_from Z_to Z_turned Z_layer Z_items Z_place Z_dummyPlace Z_xs x1 x2 x3 x4 x5 x6 x8 x9 x10 0
noncomputable def bX10_track_25 (Z_width : Nat → Int32) (Z_isArrow : Nat → Int32) (Z_from : Nat → Int32) (Z_to : Nat → Int32) (Z_turned : Nat → Int32) (Z_layer : Nat → Int32) (Z_items : Nat → Int32) (Z_place : Nat → Int32) (Z_dummyPlace : Nat → Int32) (Z_xs : Nat → Int32) (x1 : Int32) (x2 : Int32) (x3 : Int32) (x4 : Int32) (x5 : Int32) (x6 : Int32) (x8 : Int32) (x9 : Int32) : Option ((Int32 × Int32) ⊕ (Int32)) :=
  if 24 ≤ x9 then (
    some (.inr x8)
  ) else (
    Option.bind (fX10_hasPiece Z_isArrow Z_from Z_to Z_turned Z_layer x9 x2) (fun q18 =>
    if q18 = 0 then (
      jX10_track_125 x1 x2 x3 x4 x5 x6 x8 x9
    ) else (
      Option.bind (fX10_left Z_width Z_from Z_to Z_turned Z_layer Z_items Z_place Z_dummyPlace Z_xs x9 x2) (fun q19 =>
      Option.bind (fX10_right Z_width Z_from Z_to Z_turned Z_layer Z_items Z_place Z_dummyPlace Z_xs x9 x2) (fun q20 =>
      if q19 = q20 then (
        jX10_track_125 x1 x2 x3 x4 x5 x6 x8 x9
      ) else (
        Option.bind (fX10_left Z_width Z_from Z_to Z_turned Z_layer Z_items Z_place Z_dummyPlace Z_xs x9 x2) (fun q21 =>
        if x5 < q21 then (
          jX10_track_92 Z_width Z_from Z_to Z_turned Z_layer Z_items Z_place Z_dummyPlace Z_xs x1 x2 x3 x4 x5 x6 x8 x9 q21
        ) else (
          if q21 = x5 then (
            if x9 ≤ x6 then (
              jX10_track_96 Z_width Z_from Z_to Z_turned Z_layer Z_items Z_place Z_dummyPlace Z_xs x1 x2 x3 x4 x5 x6 x8 x9 q21
            ) else (
              jX10_track_92 Z_width Z_from Z_to Z_turned Z_layer Z_items Z_place Z_dummyPlace Z_xs x1 x2 x3 x4 x5 x6 x8 x9 q21
            )
          ) else (
            jX10_track_96 Z_width Z_from Z_to Z_turned Z_layer Z_items Z_place Z_dummyPlace Z_xs x1 x2 x3 x4 x5 x6 x8 x9 q21
          )
        )
        )
      )
      )
      )
    )
    )
  )
noncomputable def bX10_track_14 (Z_width : Nat → Int32) (Z_isArrow : Nat → Int32) (Z_from : Nat → Int32) (Z_to : Nat → Int32) (Z_turned : Nat → Int32) (Z_layer : Nat → Int32) (Z_items : Nat → Int32) (Z_place : Nat → Int32) (Z_dummyPlace : Nat → Int32) (Z_xs : Nat → Int32) (x1 : Int32) (x2 : Int32) (x3 : Int32) (x4 : Int32) (x5 : Int32) (x6 : Int32) (x7 : Int32) (Z_ends : Nat → Int32) : Option ((Int32 × Int32 × Int32 × Int32 × Int32 × (Nat → Int32)) ⊕ (Int32 × Int32 × (Nat → Int32))) :=
  if x7 = 0 then (
    some (.inr (x3, x4, Z_ends))
  ) else (
    Option.bind (q_lo (fun (st : Int32 × Int32) => bX10_track_25 Z_width Z_isArrow Z_from Z_to Z_turned Z_layer Z_items Z_place Z_dummyPlace Z_xs x1 x2 x3 x4 x5 x6 st.1 st.2) ((-1), 0)) (fun q11 =>
      if q11 < 0 then (
        jX10_track_141 Z_width Z_from Z_to Z_turned Z_layer Z_items Z_place Z_dummyPlace Z_xs Z_ends x1 x2 x3 x4 x5 x6 q11 0
      ) else (
        jX10_track_141 Z_width Z_from Z_to Z_turned Z_layer Z_items Z_place Z_dummyPlace Z_xs Z_ends x1 x2 x3 x4 x5 x6 q11 1
      ))
  )
noncomputable def fX10_track (Z_width : Nat → Int32) (Z_isArrow : Nat → Int32) (Z_from : Nat → Int32) (Z_to : Nat → Int32) (Z_turned : Nat → Int32) (Z_layer : Nat → Int32) (Z_items : Nat → Int32) (Z_place : Nat → Int32) (Z_dummyPlace : Nat → Int32) (Z_xs : Nat → Int32) (Z_ends : Nat → Int32) (p0 : Int32) (p1 : Int32) : Option (Int32 × (Nat → Int32)) :=
  q_b3 (q_lo (fun (st : Int32 × Int32 × Int32 × Int32 × Int32 × (Nat → Int32)) => bX10_track_14 Z_width Z_isArrow Z_from Z_to Z_turned Z_layer Z_items Z_place Z_dummyPlace Z_xs p0 p1 st.1 st.2.1 st.2.2.1 st.2.2.2.1 st.2.2.2.2.1 st.2.2.2.2.2) (0, (-1), (-1), (-1), 1, Z_ends)) (fun q1_0 q1_1 q1_2 =>
    if 0 ≤ p0 then (
      some (q1_1, q1_2)
    ) else (
      some (q1_0, q1_2)
    ))
abbrev iX10_between (aZ : Nat → Nat) (cI cZ : ClassId) (Z_code : Int32) (Z_width : Nat → Int32) (Z_isArrow : Nat → Int32) (Z_from : Nat → Int32) (Z_to : Nat → Int32) (Z_turned : Nat → Int32) (Z_told : Int32) (Z_layers : Int32) (Z_layer : Nat → Int32) (Z_items : Nat → Int32) (Z_place : Nat → Int32) (Z_dummyPlace : Nat → Int32) (Z_xs : Nat → Int32) (Z_ends : Nat → Int32) : va_W := [((aZ 0), .inr (10, [.int Z_code, .ref (aZ 1), .ref (aZ 2), .ref (aZ 3), .ref (aZ 4), .ref (aZ 5), .ref (aZ 6), .ref (aZ 7), .int Z_told, .int Z_layers, .ref (aZ 8), .ref (aZ 9), .ref (aZ 10), .ref (aZ 11), .ref (aZ 12), .ref (aZ 13), .ref (aZ 14), .ref (aZ 15), .ref (aZ 16), .ref (aZ 17), .ref (aZ 18), .ref (aZ 19), .ref (aZ 20), .ref (aZ 21)])), ((aZ 2), .inl (cI, 16, .inl Z_width)), ((aZ 4), .inl (cZ, 24, .inl Z_isArrow)), ((aZ 5), .inl (cI, 24, .inl Z_from)), ((aZ 6), .inl (cI, 24, .inl Z_to)), ((aZ 7), .inl (cZ, 24, .inl Z_turned)), ((aZ 8), .inl (cI, 16, .inl Z_layer)), ((aZ 10), .inl (cI, 960, .inl Z_items)), ((aZ 11), .inl (cI, 16, .inl Z_place)), ((aZ 12), .inl (cI, 576, .inl Z_dummyPlace)), ((aZ 13), .inl (cI, 960, .inl Z_xs)), ((aZ 19), .inl (cI, 40, .inl Z_ends))]
noncomputable def jX10_between_15 (Z_width : Nat → Int32) (Z_isArrow : Nat → Int32) (Z_from : Nat → Int32) (Z_to : Nat → Int32) (Z_turned : Nat → Int32) (Z_told : Int32) (Z_layers : Int32) (Z_layer : Nat → Int32) (Z_items : Nat → Int32) (Z_place : Nat → Int32) (Z_dummyPlace : Nat → Int32) (Z_xs : Nat → Int32) (Z_ends : Nat → Int32) (x1 : Int32) (x2 : Int32) (s0 : Int32) : Option (Int32 × Int32 × (Nat → Int32)) :=
  if s0 ≤ 0 then (
    if Z_told = 0 then (
      some ((-1), s0, Z_ends)
    ) else (
      Option.bind (fX10_in x1 0 (Z_layers - 2)) (fun q2 =>
      if q2 = 0 then (
        some ((-1), s0, Z_ends)
      ) else (
        if x2 = 0 then (
          Option.bind (fX10_crossings Z_isArrow Z_from Z_to Z_turned Z_layers Z_layer Z_place Z_dummyPlace x1) (fun q4 =>
          some (q4, s0, Z_ends)
          )
        ) else (
          q_b2 (fX10_track Z_width Z_isArrow Z_from Z_to Z_turned Z_layer Z_items Z_place Z_dummyPlace Z_xs Z_ends (-1) x1) (fun q3_0 q3_1 =>
          some (q3_0, s0, q3_1)
          )
        )
      )
      )
    )
  ) else (
    some (0, s0, Z_ends)
  )
noncomputable def fX10_between (Z_width : Nat → Int32) (Z_isArrow : Nat → Int32) (Z_from : Nat → Int32) (Z_to : Nat → Int32) (Z_turned : Nat → Int32) (Z_told : Int32) (Z_layers : Int32) (Z_layer : Nat → Int32) (Z_items : Nat → Int32) (Z_place : Nat → Int32) (Z_dummyPlace : Nat → Int32) (Z_xs : Nat → Int32) (Z_ends : Nat → Int32) (p0 : Int32) (p1 : Int32) : Option (Int32 × Int32 × (Nat → Int32)) :=
  Option.bind (fX10_in p1 0 1) (fun q5 =>
  if q5 = 0 then (
    jX10_between_15 Z_width Z_isArrow Z_from Z_to Z_turned Z_told Z_layers Z_layer Z_items Z_place Z_dummyPlace Z_xs Z_ends p0 p1 1
  ) else (
    jX10_between_15 Z_width Z_isArrow Z_from Z_to Z_turned Z_told Z_layers Z_layer Z_items Z_place Z_dummyPlace Z_xs Z_ends p0 p1 0
  )
  )
abbrev iX10_box (aZ : Nat → Nat) (cI cZ : ClassId) (Z_code : Int32) (Z_isBox : Nat → Int32) (Z_width : Nat → Int32) (Z_pinned : Nat → Int32) (Z_told : Int32) (Z_layers : Int32) : va_W := [((aZ 0), .inr (10, [.int Z_code, .ref (aZ 1), .ref (aZ 2), .ref (aZ 3), .ref (aZ 4), .ref (aZ 5), .ref (aZ 6), .ref (aZ 7), .int Z_told, .int Z_layers, .ref (aZ 8), .ref (aZ 9), .ref (aZ 10), .ref (aZ 11), .ref (aZ 12), .ref (aZ 13), .ref (aZ 14), .ref (aZ 15), .ref (aZ 16), .ref (aZ 17), .ref (aZ 18), .ref (aZ 19), .ref (aZ 20), .ref (aZ 21)])), ((aZ 1), .inl (cZ, 16, .inl Z_isBox)), ((aZ 2), .inl (cI, 16, .inl Z_width)), ((aZ 3), .inl (cI, 16, .inl Z_pinned))]
noncomputable def jX10_box_53 (Z_code : Int32) (Z_isBox : Nat → Int32) (Z_width : Nat → Int32) (Z_pinned : Nat → Int32) (x1 : Int32) (x2 : Int32) : Option (Int32 × (Nat → Int32) × (Nat → Int32) × (Nat → Int32) × Int32) :=
  if q_in x1 16 then (
  if q_in x1 16 then (
  some (Z_code, (upd Z_isBox x1.toNatClampNeg 1), (upd Z_width x1.toNatClampNeg x2), Z_pinned, 0)
  ) else none
  ) else none
noncomputable def jX10_box_26 (Z_isBox : Nat → Int32) (Z_width : Nat → Int32) (Z_pinned : Nat → Int32) (Z_told : Int32) (x1 : Int32) (x2 : Int32) (s0 : Int32) : Option (Int32 × (Nat → Int32) × (Nat → Int32) × (Nat → Int32) × Int32) :=
  if s0 ≤ 0 then (
    if q_in x1 16 then (
    if (Z_isBox x1.toNatClampNeg) = 0 then (
      if q_in x1 16 then (
      jX10_box_53 s0 Z_isBox Z_width (upd Z_pinned x1.toNatClampNeg (-1)) x1 x2
      ) else none
    ) else (
      jX10_box_53 s0 Z_isBox Z_width Z_pinned x1 x2
    )
    ) else none
  ) else (
    some (s0, Z_isBox, Z_width, Z_pinned, Z_told)
  )
noncomputable def jX10_box_25 (Z_isBox : Nat → Int32) (Z_width : Nat → Int32) (Z_pinned : Nat → Int32) (Z_told : Int32) (x1 : Int32) (x2 : Int32) : Option (Int32 × (Nat → Int32) × (Nat → Int32) × (Nat → Int32) × Int32) :=
  jX10_box_26 Z_isBox Z_width Z_pinned Z_told x1 x2 1
noncomputable def fX10_box (Z_isBox : Nat → Int32) (Z_width : Nat → Int32) (Z_pinned : Nat → Int32) (Z_told : Int32) (p0 : Int32) (p1 : Int32) : Option (Int32 × (Nat → Int32) × (Nat → Int32) × (Nat → Int32) × Int32) :=
  Option.bind (fX10_in p0 0 15) (fun q8 =>
  if q8 = 0 then (
    jX10_box_25 Z_isBox Z_width Z_pinned Z_told p0 p1
  ) else (
    Option.bind (fX10_in p1 1 50) (fun q9 =>
    if q9 = 0 then (
      jX10_box_25 Z_isBox Z_width Z_pinned Z_told p0 p1
    ) else (
      jX10_box_26 Z_isBox Z_width Z_pinned Z_told p0 p1 0
    )
    )
  )
  )
abbrev iX10_leads (aZ : Nat → Nat) (cI cZ : ClassId) (Z_code : Int32) (Z_isArrow : Nat → Int32) (Z_from : Nat → Int32) (Z_to : Nat → Int32) (Z_turned : Nat → Int32) (Z_told : Int32) (Z_layers : Int32) (Z_come : Nat → Int32) : va_W := [((aZ 0), .inr (10, [.int Z_code, .ref (aZ 1), .ref (aZ 2), .ref (aZ 3), .ref (aZ 4), .ref (aZ 5), .ref (aZ 6), .ref (aZ 7), .int Z_told, .int Z_layers, .ref (aZ 8), .ref (aZ 9), .ref (aZ 10), .ref (aZ 11), .ref (aZ 12), .ref (aZ 13), .ref (aZ 14), .ref (aZ 15), .ref (aZ 16), .ref (aZ 17), .ref (aZ 18), .ref (aZ 19), .ref (aZ 20), .ref (aZ 21)])), ((aZ 4), .inl (cZ, 24, .inl Z_isArrow)), ((aZ 5), .inl (cI, 24, .inl Z_from)), ((aZ 6), .inl (cI, 24, .inl Z_to)), ((aZ 7), .inl (cZ, 24, .inl Z_turned)), ((aZ 21), .inl (cZ, 16, .inl Z_come))]
noncomputable def jX10_leads_27 (Z_come : Nat → Int32) (x1 : Int32) (x2 : Int32) (x3 : Int32) (x4 : Int32) (s0 : Int32) (s1 : Int32) : Option ((Int32 × (Nat → Int32)) ⊕ ((Nat → Int32))) :=
  if q_in s1 16 then (
  if q_tf s0 then (
  some (.inl ((x4 + 1), (upd Z_come s1.toNatClampNeg s0)))
  ) else none
  ) else none
noncomputable def bX10_leads_3 (x1 : Int32) (x2 : Int32) (x3 : Int32) (x4 : Int32) (Z_come : Nat → Int32) : Option ((Int32 × (Nat → Int32)) ⊕ ((Nat → Int32))) :=
  if 16 ≤ x4 then (
    some (.inr Z_come)
  ) else (
    if x4 = x1 then (
      jX10_leads_27 Z_come x1 x2 x3 x4 1 x4
    ) else (
      jX10_leads_27 Z_come x1 x2 x3 x4 0 x4
    )
  )
noncomputable def jX10_leads_101 (Z_come : Nat → Int32) (x2 : Int32) (x3 : Int32) (x4 : Int32) (x5 : Int32) : Option ((Int32 × (Nat → Int32)) ⊕ ((Nat → Int32))) :=
  some (.inl ((x5 + 1), Z_come))
noncomputable def bX10_leads_47 (Z_isArrow : Nat → Int32) (Z_from : Nat → Int32) (Z_to : Nat → Int32) (Z_turned : Nat → Int32) (x2 : Int32) (x3 : Int32) (x4 : Int32) (x5 : Int32) (Z_come : Nat → Int32) : Option ((Int32 × (Nat → Int32)) ⊕ ((Nat → Int32))) :=
  if x3 ≤ x5 then (
    some (.inr Z_come)
  ) else (
    if q_in x5 24 then (
    if (Z_isArrow x5.toNatClampNeg) = 0 then (
      jX10_leads_101 Z_come x2 x3 x4 x5
    ) else (
      if q_in x5 24 then (
      if (Z_turned x5.toNatClampNeg) = 0 then (
        if q_in x5 24 then (
        if q_in (Z_from x5.toNatClampNeg) 16 then (
        if (Z_come (Z_from x5.toNatClampNeg).toNatClampNeg) = 0 then (
          jX10_leads_101 Z_come x2 x3 x4 x5
        ) else (
          if q_in x5 24 then (
          if q_in (Z_to x5.toNatClampNeg) 16 then (
          jX10_leads_101 (upd Z_come (Z_to x5.toNatClampNeg).toNatClampNeg 1) x2 x3 x4 x5
          ) else none
          ) else none
        )
        ) else none
        ) else none
      ) else (
        jX10_leads_101 Z_come x2 x3 x4 x5
      )
      ) else none
    )
    ) else none
  )
noncomputable def bX10_leads_37 (Z_isArrow : Nat → Int32) (Z_from : Nat → Int32) (Z_to : Nat → Int32) (Z_turned : Nat → Int32) (x2 : Int32) (x3 : Int32) (x4 : Int32) (Z_come : Nat → Int32) : Option ((Int32 × (Nat → Int32)) ⊕ ((Nat → Int32))) :=
  if 16 ≤ x4 then (
    some (.inr Z_come)
  ) else (
    Option.bind (q_lo (fun (st : Int32 × (Nat → Int32)) => bX10_leads_47 Z_isArrow Z_from Z_to Z_turned x2 x3 x4 st.1 st.2) (0, Z_come)) (fun q6 =>
      some (.inl ((x4 + 1), q6)))
  )
noncomputable def fX10_leads (Z_isArrow : Nat → Int32) (Z_from : Nat → Int32) (Z_to : Nat → Int32) (Z_turned : Nat → Int32) (Z_come : Nat → Int32) (p0 : Int32) (p1 : Int32) (p2 : Int32) : Option (Int32 × (Nat → Int32)) :=
  Option.bind (q_lo (fun (st : Int32 × (Nat → Int32)) => bX10_leads_3 p0 p1 p2 st.1 st.2) (0, Z_come)) (fun q1 =>
    Option.bind (q_lo (fun (st : Int32 × (Nat → Int32)) => bX10_leads_37 Z_isArrow Z_from Z_to Z_turned p1 p2 st.1 st.2) (0, q1)) (fun q5 =>
      if q_in p1 16 then (
      if q_tf (q5 p1.toNatClampNeg) then (
      some ((q5 p1.toNatClampNeg), q5)
      ) else none
      ) else none))
abbrev iX10_turn (aZ : Nat → Nat) (cI cZ : ClassId) (Z_code : Int32) (Z_isArrow : Nat → Int32) (Z_from : Nat → Int32) (Z_to : Nat → Int32) (Z_turned : Nat → Int32) (Z_told : Int32) (Z_layers : Int32) (Z_come : Nat → Int32) : va_W := [((aZ 0), .inr (10, [.int Z_code, .ref (aZ 1), .ref (aZ 2), .ref (aZ 3), .ref (aZ 4), .ref (aZ 5), .ref (aZ 6), .ref (aZ 7), .int Z_told, .int Z_layers, .ref (aZ 8), .ref (aZ 9), .ref (aZ 10), .ref (aZ 11), .ref (aZ 12), .ref (aZ 13), .ref (aZ 14), .ref (aZ 15), .ref (aZ 16), .ref (aZ 17), .ref (aZ 18), .ref (aZ 19), .ref (aZ 20), .ref (aZ 21)])), ((aZ 4), .inl (cZ, 24, .inl Z_isArrow)), ((aZ 5), .inl (cI, 24, .inl Z_from)), ((aZ 6), .inl (cI, 24, .inl Z_to)), ((aZ 7), .inl (cZ, 24, .inl Z_turned)), ((aZ 21), .inl (cZ, 16, .inl Z_come))]
noncomputable def jX10_turn_47 (Z_turned : Nat → Int32) (Z_come : Nat → Int32) (x1 : Int32) (s0 : Int32) (s1 : Int32) : Option ((Int32 × (Nat → Int32) × (Nat → Int32)) ⊕ ((Nat → Int32) × (Nat → Int32))) :=
  if q_in s1 24 then (
  if q_tf s0 then (
  some (.inl ((x1 + 1), (upd Z_turned s1.toNatClampNeg s0), Z_come))
  ) else none
  ) else none
noncomputable def jX10_turn_46 (Z_turned : Nat → Int32) (Z_come : Nat → Int32) (x1 : Int32) (s0 : Int32) : Option ((Int32 × (Nat → Int32) × (Nat → Int32)) ⊕ ((Nat → Int32) × (Nat → Int32))) :=
  jX10_turn_47 Z_turned Z_come x1 0 s0
noncomputable def bX10_turn_2 (Z_isArrow : Nat → Int32) (Z_from : Nat → Int32) (Z_to : Nat → Int32) (x1 : Int32) (Z_turned : Nat → Int32) (Z_come : Nat → Int32) : Option ((Int32 × (Nat → Int32) × (Nat → Int32)) ⊕ ((Nat → Int32) × (Nat → Int32))) :=
  if 24 ≤ x1 then (
    some (.inr (Z_turned, Z_come))
  ) else (
    if q_in x1 24 then (
    if (Z_isArrow x1.toNatClampNeg) = 0 then (
      jX10_turn_46 Z_turned Z_come x1 x1
    ) else (
      if q_in x1 24 then (
      if q_in x1 24 then (
      q_b2 (fX10_leads Z_isArrow Z_from Z_to Z_turned Z_come (Z_to x1.toNatClampNeg) (Z_from x1.toNatClampNeg) x1) (fun q9_0 q9_1 =>
      if q9_0 = 0 then (
        jX10_turn_46 Z_turned q9_1 x1 x1
      ) else (
        jX10_turn_47 Z_turned q9_1 x1 1 x1
      )
      )
      ) else none
      ) else none
    )
    ) else none
  )
noncomputable def fX10_turn (Z_isArrow : Nat → Int32) (Z_from : Nat → Int32) (Z_to : Nat → Int32) (Z_turned : Nat → Int32) (Z_come : Nat → Int32) : Option ((Nat → Int32) × (Nat → Int32)) :=
  q_b2 (q_lo (fun (st : Int32 × (Nat → Int32) × (Nat → Int32)) => bX10_turn_2 Z_isArrow Z_from Z_to st.1 st.2.1 st.2.2) (0, Z_turned, Z_come)) (fun q1_0 q1_1 =>
    some (q1_0, q1_1))
abbrev iX10_drawn (aZ : Nat → Nat) (cI cZ : ClassId) (Z_code : Int32) (Z_width : Nat → Int32) (Z_isArrow : Nat → Int32) (Z_from : Nat → Int32) (Z_to : Nat → Int32) (Z_turned : Nat → Int32) (Z_told : Int32) (Z_layers : Int32) (Z_layer : Nat → Int32) (Z_sizes : Nat → Int32) (Z_items : Nat → Int32) (Z_place : Nat → Int32) (Z_dummyPlace : Nat → Int32) (Z_xs : Nat → Int32) (Z_ends : Nat → Int32) : va_W := [((aZ 0), .inr (10, [.int Z_code, .ref (aZ 1), .ref (aZ 2), .ref (aZ 3), .ref (aZ 4), .ref (aZ 5), .ref (aZ 6), .ref (aZ 7), .int Z_told, .int Z_layers, .ref (aZ 8), .ref (aZ 9), .ref (aZ 10), .ref (aZ 11), .ref (aZ 12), .ref (aZ 13), .ref (aZ 14), .ref (aZ 15), .ref (aZ 16), .ref (aZ 17), .ref (aZ 18), .ref (aZ 19), .ref (aZ 20), .ref (aZ 21)])), ((aZ 2), .inl (cI, 16, .inl Z_width)), ((aZ 4), .inl (cZ, 24, .inl Z_isArrow)), ((aZ 5), .inl (cI, 24, .inl Z_from)), ((aZ 6), .inl (cI, 24, .inl Z_to)), ((aZ 7), .inl (cZ, 24, .inl Z_turned)), ((aZ 8), .inl (cI, 16, .inl Z_layer)), ((aZ 9), .inl (cI, 24, .inl Z_sizes)), ((aZ 10), .inl (cI, 960, .inl Z_items)), ((aZ 11), .inl (cI, 16, .inl Z_place)), ((aZ 12), .inl (cI, 576, .inl Z_dummyPlace)), ((aZ 13), .inl (cI, 960, .inl Z_xs)), ((aZ 19), .inl (cI, 40, .inl Z_ends))]
noncomputable def jX10_drawn_140 (Z_ends : Nat → Int32) (x1 : Int32) (x2 : Int32) (x3 : Int32) : Option ((Int32 × Int32 × (Nat → Int32)) ⊕ (Int32 × (Nat → Int32))) :=
  some (.inl (x2, (x3 + 1), Z_ends))
noncomputable def jX10_drawn_139 (Z_ends : Nat → Int32) (x1 : Int32) (x3 : Int32) (s0 : Int32) : Option ((Int32 × Int32 × (Nat → Int32)) ⊕ (Int32 × (Nat → Int32))) :=
  jX10_drawn_140 Z_ends x1 s0 x3
noncomputable def jX10_drawn_103 (Z_width : Nat → Int32) (Z_isArrow : Nat → Int32) (Z_from : Nat → Int32) (Z_to : Nat → Int32) (Z_turned : Nat → Int32) (Z_layers : Int32) (Z_layer : Nat → Int32) (Z_items : Nat → Int32) (Z_place : Nat → Int32) (Z_dummyPlace : Nat → Int32) (Z_xs : Nat → Int32) (Z_ends : Nat → Int32) (x1 : Int32) (x2 : Int32) (x3 : Int32) : Option ((Int32 × Int32 × (Nat → Int32)) ⊕ (Int32 × (Nat → Int32))) :=
  if x1 = 7 then (
    if Z_layers ≤ (x3 + 1) then (
      jX10_drawn_140 Z_ends x1 x2 x3
    ) else (
      q_b2 (fX10_track Z_width Z_isArrow Z_from Z_to Z_turned Z_layer Z_items Z_place Z_dummyPlace Z_xs Z_ends (-1) x3) (fun q5_0 q5_1 =>
      if q5_0 ≤ x2 then (
        jX10_drawn_139 q5_1 x1 x3 x2
      ) else (
        jX10_drawn_139 q5_1 x1 x3 q5_0
      )
      )
    )
  ) else (
    jX10_drawn_140 Z_ends x1 x2 x3
  )
noncomputable def jX10_drawn_102 (Z_width : Nat → Int32) (Z_isArrow : Nat → Int32) (Z_from : Nat → Int32) (Z_to : Nat → Int32) (Z_turned : Nat → Int32) (Z_layers : Int32) (Z_layer : Nat → Int32) (Z_items : Nat → Int32) (Z_place : Nat → Int32) (Z_dummyPlace : Nat → Int32) (Z_xs : Nat → Int32) (Z_ends : Nat → Int32) (x1 : Int32) (x3 : Int32) (s0 : Int32) : Option ((Int32 × Int32 × (Nat → Int32)) ⊕ (Int32 × (Nat → Int32))) :=
  jX10_drawn_103 Z_width Z_isArrow Z_from Z_to Z_turned Z_layers Z_layer Z_items Z_place Z_dummyPlace Z_xs Z_ends x1 s0 x3
noncomputable def jX10_drawn_39 (Z_width : Nat → Int32) (Z_isArrow : Nat → Int32) (Z_from : Nat → Int32) (Z_to : Nat → Int32) (Z_turned : Nat → Int32) (Z_layers : Int32) (Z_layer : Nat → Int32) (Z_sizes : Nat → Int32) (Z_items : Nat → Int32) (Z_place : Nat → Int32) (Z_dummyPlace : Nat → Int32) (Z_xs : Nat → Int32) (Z_ends : Nat → Int32) (x1 : Int32) (x2 : Int32) (x3 : Int32) : Option ((Int32 × Int32 × (Nat → Int32)) ⊕ (Int32 × (Nat → Int32))) :=
  if x1 = 6 then (
    if q_in x3 24 then (
    if (Z_sizes x3.toNatClampNeg) ≤ 0 then (
      jX10_drawn_103 Z_width Z_isArrow Z_from Z_to Z_turned Z_layers Z_layer Z_items Z_place Z_dummyPlace Z_xs Z_ends x1 x2 x3
    ) else (
      if q_in x3 24 then (
      q_let ((Z_sizes x3.toNatClampNeg) - 1) (fun v10 =>
      if q_in ((40 * x3) + v10) 960 then (
      Option.bind (fX10_item0 Z_items x3 v10) (fun q12 =>
      Option.bind (fX10_widthOf Z_width q12) (fun q13 =>
      q_let ((Z_xs ((40 * x3) + v10).toNatClampNeg) + q13) (fun v14 =>
      if v14 ≤ x2 then (
        jX10_drawn_102 Z_width Z_isArrow Z_from Z_to Z_turned Z_layers Z_layer Z_items Z_place Z_dummyPlace Z_xs Z_ends x1 x3 x2
      ) else (
        jX10_drawn_102 Z_width Z_isArrow Z_from Z_to Z_turned Z_layers Z_layer Z_items Z_place Z_dummyPlace Z_xs Z_ends x1 x3 v14
      )
      )
      )
      )
      ) else none
      )
      ) else none
    )
    ) else none
  ) else (
    jX10_drawn_103 Z_width Z_isArrow Z_from Z_to Z_turned Z_layers Z_layer Z_items Z_place Z_dummyPlace Z_xs Z_ends x1 x2 x3
  )
noncomputable def jX10_drawn_26 (Z_width : Nat → Int32) (Z_isArrow : Nat → Int32) (Z_from : Nat → Int32) (Z_to : Nat → Int32) (Z_turned : Nat → Int32) (Z_layers : Int32) (Z_layer : Nat → Int32) (Z_sizes : Nat → Int32) (Z_items : Nat → Int32) (Z_place : Nat → Int32) (Z_dummyPlace : Nat → Int32) (Z_xs : Nat → Int32) (Z_ends : Nat → Int32) (x1 : Int32) (x2 : Int32) (x3 : Int32) : Option ((Int32 × Int32 × (Nat → Int32)) ⊕ (Int32 × (Nat → Int32))) :=
  if x1 = 5 then (
    Option.bind (fX10_crossings Z_isArrow Z_from Z_to Z_turned Z_layers Z_layer Z_place Z_dummyPlace x3) (fun q16 =>
    jX10_drawn_39 Z_width Z_isArrow Z_from Z_to Z_turned Z_layers Z_layer Z_sizes Z_items Z_place Z_dummyPlace Z_xs Z_ends x1 (x2 + q16) x3
    )
  ) else (
    jX10_drawn_39 Z_width Z_isArrow Z_from Z_to Z_turned Z_layers Z_layer Z_sizes Z_items Z_place Z_dummyPlace Z_xs Z_ends x1 x2 x3
  )
noncomputable def bX10_drawn_4 (Z_width : Nat → Int32) (Z_isArrow : Nat → Int32) (Z_from : Nat → Int32) (Z_to : Nat → Int32) (Z_turned : Nat → Int32) (Z_layers : Int32) (Z_layer : Nat → Int32) (Z_sizes : Nat → Int32) (Z_items : Nat → Int32) (Z_place : Nat → Int32) (Z_dummyPlace : Nat → Int32) (Z_xs : Nat → Int32) (x1 : Int32) (x2 : Int32) (x3 : Int32) (Z_ends : Nat → Int32) : Option ((Int32 × Int32 × (Nat → Int32)) ⊕ (Int32 × (Nat → Int32))) :=
  if Z_layers ≤ x3 then (
    some (.inr (x2, Z_ends))
  ) else (
    if x1 = 4 then (
      if q_in x3 24 then (
      q_let (x2 + (Z_sizes x3.toNatClampNeg)) (fun v18 =>
      jX10_drawn_26 Z_width Z_isArrow Z_from Z_to Z_turned Z_layers Z_layer Z_sizes Z_items Z_place Z_dummyPlace Z_xs Z_ends x1 v18 x3
      )
      ) else none
    ) else (
      jX10_drawn_26 Z_width Z_isArrow Z_from Z_to Z_turned Z_layers Z_layer Z_sizes Z_items Z_place Z_dummyPlace Z_xs Z_ends x1 x2 x3
    )
  )
noncomputable def fX10_drawn (Z_width : Nat → Int32) (Z_isArrow : Nat → Int32) (Z_from : Nat → Int32) (Z_to : Nat → Int32) (Z_turned : Nat → Int32) (Z_layers : Int32) (Z_layer : Nat → Int32) (Z_sizes : Nat → Int32) (Z_items : Nat → Int32) (Z_place : Nat → Int32) (Z_dummyPlace : Nat → Int32) (Z_xs : Nat → Int32) (Z_ends : Nat → Int32) (p0 : Int32) : Option (Int32 × (Nat → Int32)) :=
  q_b2 (q_lo (fun (st : Int32 × Int32 × (Nat → Int32)) => bX10_drawn_4 Z_width Z_isArrow Z_from Z_to Z_turned Z_layers Z_layer Z_sizes Z_items Z_place Z_dummyPlace Z_xs p0 st.1 st.2.1 st.2.2) (0, 0, Z_ends)) (fun q1_0 q1_1 =>
    if p0 = 3 then (
      some (Z_layers, q1_1)
    ) else (
      some (q1_0, q1_1)
    ))
abbrev iX10_count (aZ : Nat → Nat) (cI cZ : ClassId) (Z_code : Int32) (Z_isBox : Nat → Int32) (Z_width : Nat → Int32) (Z_isArrow : Nat → Int32) (Z_from : Nat → Int32) (Z_to : Nat → Int32) (Z_turned : Nat → Int32) (Z_told : Int32) (Z_layers : Int32) (Z_layer : Nat → Int32) (Z_sizes : Nat → Int32) (Z_items : Nat → Int32) (Z_place : Nat → Int32) (Z_dummyPlace : Nat → Int32) (Z_xs : Nat → Int32) (Z_ends : Nat → Int32) (Z_come : Nat → Int32) : va_W := [((aZ 0), .inr (10, [.int Z_code, .ref (aZ 1), .ref (aZ 2), .ref (aZ 3), .ref (aZ 4), .ref (aZ 5), .ref (aZ 6), .ref (aZ 7), .int Z_told, .int Z_layers, .ref (aZ 8), .ref (aZ 9), .ref (aZ 10), .ref (aZ 11), .ref (aZ 12), .ref (aZ 13), .ref (aZ 14), .ref (aZ 15), .ref (aZ 16), .ref (aZ 17), .ref (aZ 18), .ref (aZ 19), .ref (aZ 20), .ref (aZ 21)])), ((aZ 1), .inl (cZ, 16, .inl Z_isBox)), ((aZ 2), .inl (cI, 16, .inl Z_width)), ((aZ 4), .inl (cZ, 24, .inl Z_isArrow)), ((aZ 5), .inl (cI, 24, .inl Z_from)), ((aZ 6), .inl (cI, 24, .inl Z_to)), ((aZ 7), .inl (cZ, 24, .inl Z_turned)), ((aZ 8), .inl (cI, 16, .inl Z_layer)), ((aZ 9), .inl (cI, 24, .inl Z_sizes)), ((aZ 10), .inl (cI, 960, .inl Z_items)), ((aZ 11), .inl (cI, 16, .inl Z_place)), ((aZ 12), .inl (cI, 576, .inl Z_dummyPlace)), ((aZ 13), .inl (cI, 960, .inl Z_xs)), ((aZ 19), .inl (cI, 40, .inl Z_ends)), ((aZ 21), .inl (cZ, 16, .inl Z_come))]
noncomputable def jX10_count_59 (x3 : Int32) (s0 : Int32) (s1 : Int32) : Option ((Int32 × Int32) ⊕ (Int32)) :=
  some (.inl ((s1 + s0), (x3 + 1)))
noncomputable def bX10_count_38 (Z_isBox : Nat → Int32) (x2 : Int32) (x3 : Int32) : Option ((Int32 × Int32) ⊕ (Int32)) :=
  if 16 ≤ x3 then (
    some (.inr x2)
  ) else (
    if q_in x3 16 then (
    if (Z_isBox x3.toNatClampNeg) = 0 then (
      jX10_count_59 x3 0 x2
    ) else (
      jX10_count_59 x3 1 x2
    )
    ) else none
  )
noncomputable def jX10_count_92 (x3 : Int32) (s0 : Int32) (s1 : Int32) : Option ((Int32 × Int32) ⊕ (Int32)) :=
  some (.inl ((s1 + s0), (x3 + 1)))
noncomputable def bX10_count_71 (Z_isArrow : Nat → Int32) (x2 : Int32) (x3 : Int32) : Option ((Int32 × Int32) ⊕ (Int32)) :=
  if 24 ≤ x3 then (
    some (.inr x2)
  ) else (
    if q_in x3 24 then (
    if (Z_isArrow x3.toNatClampNeg) = 0 then (
      jX10_count_92 x3 0 x2
    ) else (
      jX10_count_92 x3 1 x2
    )
    ) else none
  )
noncomputable def jX10_count_129 (x3 : Int32) (s0 : Int32) (s1 : Int32) : Option ((Int32 × Int32) ⊕ (Int32)) :=
  some (.inl ((s1 + s0), (x3 + 1)))
noncomputable def bX10_count_108 (Z_turned : Nat → Int32) (x2 : Int32) (x3 : Int32) : Option ((Int32 × Int32) ⊕ (Int32)) :=
  if 24 ≤ x3 then (
    some (.inr x2)
  ) else (
    if q_in x3 24 then (
    if (Z_turned x3.toNatClampNeg) = 0 then (
      jX10_count_129 x3 0 x2
    ) else (
      jX10_count_129 x3 1 x2
    )
    ) else none
  )
noncomputable def fX10_count (Z_isBox : Nat → Int32) (Z_width : Nat → Int32) (Z_isArrow : Nat → Int32) (Z_from : Nat → Int32) (Z_to : Nat → Int32) (Z_turned : Nat → Int32) (Z_told : Int32) (Z_layers : Int32) (Z_layer : Nat → Int32) (Z_sizes : Nat → Int32) (Z_items : Nat → Int32) (Z_place : Nat → Int32) (Z_dummyPlace : Nat → Int32) (Z_xs : Nat → Int32) (Z_ends : Nat → Int32) (Z_come : Nat → Int32) (p0 : Int32) : Option (Int32 × Int32 × (Nat → Int32) × (Nat → Int32) × (Nat → Int32)) :=
  if p0 = 0 then (
    Option.bind (q_lo (fun (st : Int32 × Int32) => bX10_count_38 Z_isBox st.1 st.2) (0, 0)) (fun q2 =>
      some (q2, 0, Z_turned, Z_ends, Z_come))
  ) else (
    if p0 = 1 then (
      Option.bind (q_lo (fun (st : Int32 × Int32) => bX10_count_71 Z_isArrow st.1 st.2) (0, 0)) (fun q6 =>
        some (q6, 0, Z_turned, Z_ends, Z_come))
    ) else (
      if p0 = 2 then (
        q_b2 (fX10_turn Z_isArrow Z_from Z_to Z_turned Z_come) (fun q10_0 q10_1 =>
        Option.bind (q_lo (fun (st : Int32 × Int32) => bX10_count_108 q10_0 st.1 st.2) (0, 0)) (fun q11 =>
          some (q11, 0, q10_0, Z_ends, q10_1))
        )
      ) else (
        Option.bind (fX10_in p0 3 7) (fun q14 =>
        if q14 = 0 then (
          some ((-1), 0, Z_turned, Z_ends, Z_come)
        ) else (
          if Z_told = 0 then (
            some ((-1), 0, Z_turned, Z_ends, Z_come)
          ) else (
            q_b2 (fX10_drawn Z_width Z_isArrow Z_from Z_to Z_turned Z_layers Z_layer Z_sizes Z_items Z_place Z_dummyPlace Z_xs Z_ends p0) (fun q15_0 q15_1 =>
            some (q15_0, 0, Z_turned, q15_1, Z_come)
            )
          )
        )
        )
      )
    )
  )
abbrev iX10_down (cI cZ : ClassId) : va_W := []
noncomputable def fX10_down (p0 : Int32) (p1 : Int32) : Option (Int32) :=
  if ¬ p1 = 0 then (
  if ((p0 / p1) * p1) ≤ p0 then (
    some (p0 / p1)
  ) else (
    some ((p0 / p1) - 1)
  )
  ) else none
abbrev iX10_layOut (aZ : Nat → Nat) (cI cZ : ClassId) (Z_code : Int32) (Z_isBox : Nat → Int32) (Z_pinned : Nat → Int32) (Z_isArrow : Nat → Int32) (Z_from : Nat → Int32) (Z_to : Nat → Int32) (Z_turned : Nat → Int32) (Z_told : Int32) (Z_layers : Int32) (Z_layer : Nat → Int32) (Z_come : Nat → Int32) : va_W := [((aZ 0), .inr (10, [.int Z_code, .ref (aZ 1), .ref (aZ 2), .ref (aZ 3), .ref (aZ 4), .ref (aZ 5), .ref (aZ 6), .ref (aZ 7), .int Z_told, .int Z_layers, .ref (aZ 8), .ref (aZ 9), .ref (aZ 10), .ref (aZ 11), .ref (aZ 12), .ref (aZ 13), .ref (aZ 14), .ref (aZ 15), .ref (aZ 16), .ref (aZ 17), .ref (aZ 18), .ref (aZ 19), .ref (aZ 20), .ref (aZ 21)])), ((aZ 1), .inl (cZ, 16, .inl Z_isBox)), ((aZ 3), .inl (cI, 16, .inl Z_pinned)), ((aZ 4), .inl (cZ, 24, .inl Z_isArrow)), ((aZ 5), .inl (cI, 24, .inl Z_from)), ((aZ 6), .inl (cI, 24, .inl Z_to)), ((aZ 7), .inl (cZ, 24, .inl Z_turned)), ((aZ 8), .inl (cI, 16, .inl Z_layer)), ((aZ 21), .inl (cZ, 16, .inl Z_come))]
noncomputable def jX10_layOut_36 (Z_layer : Nat → Int32) (x1 : Int32) (s0 : Int32) (s1 : Int32) : Option ((Int32 × (Nat → Int32)) ⊕ ((Nat → Int32))) :=
  if q_in s1 16 then (
  some (.inl ((x1 + 1), (upd Z_layer s1.toNatClampNeg s0)))
  ) else none
noncomputable def bX10_layOut_6 (Z_pinned : Nat → Int32) (x1 : Int32) (Z_layer : Nat → Int32) : Option ((Int32 × (Nat → Int32)) ⊕ ((Nat → Int32))) :=
  if 16 ≤ x1 then (
    some (.inr Z_layer)
  ) else (
    if q_in x1 16 then (
    if 0 ≤ (Z_pinned x1.toNatClampNeg) then (
      if q_in x1 16 then (
      jX10_layOut_36 Z_layer x1 (Z_pinned x1.toNatClampNeg) x1
      ) else none
    ) else (
      jX10_layOut_36 Z_layer x1 0 x1
    )
    ) else none
  )
noncomputable def jX10_layOut_122 (Z_layer : Nat → Int32) (x1 : Int32) (x2 : Int32) : Option ((Int32 × (Nat → Int32)) ⊕ ((Nat → Int32))) :=
  some (.inl ((x2 + 1), Z_layer))
noncomputable def bX10_layOut_53 (Z_pinned : Nat → Int32) (Z_isArrow : Nat → Int32) (Z_from : Nat → Int32) (Z_to : Nat → Int32) (Z_turned : Nat → Int32) (x1 : Int32) (x2 : Int32) (Z_layer : Nat → Int32) : Option ((Int32 × (Nat → Int32)) ⊕ ((Nat → Int32))) :=
  if 24 ≤ x2 then (
    some (.inr Z_layer)
  ) else (
    if q_in x2 24 then (
    if (Z_isArrow x2.toNatClampNeg) = 0 then (
      jX10_layOut_122 Z_layer x1 x2
    ) else (
      Option.bind (fX10_lower Z_from Z_to Z_turned x2) (fun q11 =>
      if q_in q11 16 then (
      if (Z_pinned q11.toNatClampNeg) < 0 then (
        Option.bind (fX10_upper Z_from Z_to Z_turned x2) (fun q13 =>
        if q_in q13 16 then (
        q_let ((Z_layer q13.toNatClampNeg) + 1) (fun v15 =>
        Option.bind (fX10_lower Z_from Z_to Z_turned x2) (fun q16 =>
        if q_in q16 16 then (
        if v15 ≤ (Z_layer q16.toNatClampNeg) then (
          jX10_layOut_122 Z_layer x1 x2
        ) else (
          Option.bind (fX10_lower Z_from Z_to Z_turned x2) (fun q18 =>
          if q_in q18 16 then (
          jX10_layOut_122 (upd Z_layer q18.toNatClampNeg v15) x1 x2
          ) else none
          )
        )
        ) else none
        )
        )
        ) else none
        )
      ) else (
        jX10_layOut_122 Z_layer x1 x2
      )
      ) else none
      )
    )
    ) else none
  )
noncomputable def bX10_layOut_45 (Z_pinned : Nat → Int32) (Z_isArrow : Nat → Int32) (Z_from : Nat → Int32) (Z_to : Nat → Int32) (Z_turned : Nat → Int32) (x1 : Int32) (Z_layer : Nat → Int32) : Option ((Int32 × (Nat → Int32)) ⊕ ((Nat → Int32))) :=
  if 16 ≤ x1 then (
    some (.inr Z_layer)
  ) else (
    Option.bind (q_lo (fun (st : Int32 × (Nat → Int32)) => bX10_layOut_53 Z_pinned Z_isArrow Z_from Z_to Z_turned x1 st.1 st.2) (0, Z_layer)) (fun q8 =>
      some (.inl ((x1 + 1), q8)))
  )
noncomputable def jX10_layOut_181 (Z_layers : Int32) (x1 : Int32) : Option ((Int32 × Int32) ⊕ (Int32)) :=
  some (.inl ((x1 + 1), Z_layers))
noncomputable def bX10_layOut_141 (Z_isBox : Nat → Int32) (Z_layer : Nat → Int32) (x1 : Int32) (Z_layers : Int32) : Option ((Int32 × Int32) ⊕ (Int32)) :=
  if 16 ≤ x1 then (
    some (.inr Z_layers)
  ) else (
    if q_in x1 16 then (
    if (Z_isBox x1.toNatClampNeg) = 0 then (
      jX10_layOut_181 Z_layers x1
    ) else (
      if q_in x1 16 then (
      if (Z_layer x1.toNatClampNeg) < Z_layers then (
        jX10_layOut_181 Z_layers x1
      ) else (
        if q_in x1 16 then (
        jX10_layOut_181 ((Z_layer x1.toNatClampNeg) + 1) x1
        ) else none
      )
      ) else none
    )
    ) else none
  )
noncomputable def jX10_layOut_229 (x1 : Int32) : Option ((Int32) ⊕ ((Unit) ⊕ (Unit))) :=
  some (.inl (x1 + 1))
noncomputable def bX10_layOut_189 (Z_isArrow : Nat → Int32) (Z_from : Nat → Int32) (Z_to : Nat → Int32) (Z_turned : Nat → Int32) (Z_layer : Nat → Int32) (x1 : Int32) : Option ((Int32) ⊕ ((Unit) ⊕ (Unit))) :=
  if 24 ≤ x1 then (
    some (.inr (.inl ()))
  ) else (
    if q_in x1 24 then (
    if (Z_isArrow x1.toNatClampNeg) = 0 then (
      jX10_layOut_229 x1
    ) else (
      Option.bind (fX10_upper Z_from Z_to Z_turned x1) (fun q28 =>
      if q_in q28 16 then (
      Option.bind (fX10_lower Z_from Z_to Z_turned x1) (fun q30 =>
      if q_in q30 16 then (
      if (Z_layer q28.toNatClampNeg) < (Z_layer q30.toNatClampNeg) then (
        jX10_layOut_229 x1
      ) else (
        some (.inr (.inr ()))
      )
      ) else none
      )
      ) else none
      )
    )
    ) else none
  )
noncomputable def fX10_layOut (Z_isBox : Nat → Int32) (Z_pinned : Nat → Int32) (Z_isArrow : Nat → Int32) (Z_from : Nat → Int32) (Z_to : Nat → Int32) (Z_turned : Nat → Int32) (Z_layer : Nat → Int32) (Z_come : Nat → Int32) : Option (Int32 × (Nat → Int32) × Int32 × (Nat → Int32) × (Nat → Int32)) :=
  q_b2 (fX10_turn Z_isArrow Z_from Z_to Z_turned Z_come) (fun q1_0 q1_1 =>
  Option.bind (q_lo (fun (st : Int32 × (Nat → Int32)) => bX10_layOut_6 Z_pinned st.1 st.2) (0, Z_layer)) (fun q2 =>
    Option.bind (q_lo (fun (st : Int32 × (Nat → Int32)) => bX10_layOut_45 Z_pinned Z_isArrow Z_from Z_to q1_0 st.1 st.2) (0, q2)) (fun q7 =>
      Option.bind (q_lo (fun (st : Int32 × Int32) => bX10_layOut_141 Z_isBox q7 st.1 st.2) (0, 0)) (fun q20 =>
        Option.bind (q_lo (fun (st : Int32) => bX10_layOut_189 Z_isArrow Z_from Z_to q1_0 q7 st) 0) (Sum.elim
         (fun _ =>
          some (1, q1_0, q20, q7, q1_1))
         (fun _ =>
          some (0, q1_0, q20, q7, q1_1))))))
  )
abbrev iX10_hasDummy (aZ : Nat → Nat) (cI cZ : ClassId) (Z_code : Int32) (Z_isArrow : Nat → Int32) (Z_from : Nat → Int32) (Z_to : Nat → Int32) (Z_turned : Nat → Int32) (Z_told : Int32) (Z_layers : Int32) (Z_layer : Nat → Int32) : va_W := [((aZ 0), .inr (10, [.int Z_code, .ref (aZ 1), .ref (aZ 2), .ref (aZ 3), .ref (aZ 4), .ref (aZ 5), .ref (aZ 6), .ref (aZ 7), .int Z_told, .int Z_layers, .ref (aZ 8), .ref (aZ 9), .ref (aZ 10), .ref (aZ 11), .ref (aZ 12), .ref (aZ 13), .ref (aZ 14), .ref (aZ 15), .ref (aZ 16), .ref (aZ 17), .ref (aZ 18), .ref (aZ 19), .ref (aZ 20), .ref (aZ 21)])), ((aZ 4), .inl (cZ, 24, .inl Z_isArrow)), ((aZ 5), .inl (cI, 24, .inl Z_from)), ((aZ 6), .inl (cI, 24, .inl Z_to)), ((aZ 7), .inl (cZ, 24, .inl Z_turned)), ((aZ 8), .inl (cI, 16, .inl Z_layer))]
noncomputable def fX10_hasDummy (Z_isArrow : Nat → Int32) (Z_from : Nat → Int32) (Z_to : Nat → Int32) (Z_turned : Nat → Int32) (Z_layer : Nat → Int32) (p0 : Int32) (p1 : Int32) : Option (Int32) :=
  if q_in p0 24 then (
  if (Z_isArrow p0.toNatClampNeg) = 0 then (
    some 0
  ) else (
    Option.bind (fX10_upper Z_from Z_to Z_turned p0) (fun q2 =>
    if q_in q2 16 then (
    if p1 ≤ (Z_layer q2.toNatClampNeg) then (
      some 0
    ) else (
      Option.bind (fX10_lower Z_from Z_to Z_turned p0) (fun q4 =>
      if q_in q4 16 then (
      if (Z_layer q4.toNatClampNeg) ≤ p1 then (
        some 0
      ) else (
        some 1
      )
      ) else none
      )
    )
    ) else none
    )
  )
  ) else none
abbrev iX10_firstOrders (aZ : Nat → Nat) (cI cZ : ClassId) (Z_code : Int32) (Z_isBox : Nat → Int32) (Z_isArrow : Nat → Int32) (Z_from : Nat → Int32) (Z_to : Nat → Int32) (Z_turned : Nat → Int32) (Z_told : Int32) (Z_layers : Int32) (Z_layer : Nat → Int32) (Z_sizes : Nat → Int32) (Z_items : Nat → Int32) (Z_place : Nat → Int32) (Z_dummyPlace : Nat → Int32) : va_W := [((aZ 0), .inr (10, [.int Z_code, .ref (aZ 1), .ref (aZ 2), .ref (aZ 3), .ref (aZ 4), .ref (aZ 5), .ref (aZ 6), .ref (aZ 7), .int Z_told, .int Z_layers, .ref (aZ 8), .ref (aZ 9), .ref (aZ 10), .ref (aZ 11), .ref (aZ 12), .ref (aZ 13), .ref (aZ 14), .ref (aZ 15), .ref (aZ 16), .ref (aZ 17), .ref (aZ 18), .ref (aZ 19), .ref (aZ 20), .ref (aZ 21)])), ((aZ 1), .inl (cZ, 16, .inl Z_isBox)), ((aZ 4), .inl (cZ, 24, .inl Z_isArrow)), ((aZ 5), .inl (cI, 24, .inl Z_from)), ((aZ 6), .inl (cI, 24, .inl Z_to)), ((aZ 7), .inl (cZ, 24, .inl Z_turned)), ((aZ 8), .inl (cI, 16, .inl Z_layer)), ((aZ 9), .inl (cI, 24, .inl Z_sizes)), ((aZ 10), .inl (cI, 960, .inl Z_items)), ((aZ 11), .inl (cI, 16, .inl Z_place)), ((aZ 12), .inl (cI, 576, .inl Z_dummyPlace))]
noncomputable def jX10_firstOrders_50 (Z_sizes : Nat → Int32) (Z_items : Nat → Int32) (x1 : Int32) (x2 : Int32) : Option ((Int32 × (Nat → Int32) × (Nat → Int32)) ⊕ ((Nat → Int32) × (Nat → Int32))) :=
  some (.inl ((x2 + 1), Z_sizes, Z_items))
noncomputable def bX10_firstOrders_19 (Z_isBox : Nat → Int32) (Z_layer : Nat → Int32) (x1 : Int32) (x2 : Int32) (Z_sizes : Nat → Int32) (Z_items : Nat → Int32) : Option ((Int32 × (Nat → Int32) × (Nat → Int32)) ⊕ ((Nat → Int32) × (Nat → Int32))) :=
  if 16 ≤ x2 then (
    some (.inr (Z_sizes, Z_items))
  ) else (
    if q_in x2 16 then (
    if (Z_isBox x2.toNatClampNeg) = 0 then (
      jX10_firstOrders_50 Z_sizes Z_items x1 x2
    ) else (
      if q_in x2 16 then (
      if (Z_layer x2.toNatClampNeg) = x1 then (
        q_b2 (fX10_add Z_sizes Z_items x1 x2) (fun q7_0 q7_1 =>
        jX10_firstOrders_50 q7_0 q7_1 x1 x2
        )
      ) else (
        jX10_firstOrders_50 Z_sizes Z_items x1 x2
      )
      ) else none
    )
    ) else none
  )
noncomputable def jX10_firstOrders_82 (Z_sizes : Nat → Int32) (Z_items : Nat → Int32) (x1 : Int32) (x2 : Int32) : Option ((Int32 × (Nat → Int32) × (Nat → Int32)) ⊕ ((Nat → Int32) × (Nat → Int32))) :=
  some (.inl ((x2 + 1), Z_sizes, Z_items))
noncomputable def bX10_firstOrders_58 (Z_isArrow : Nat → Int32) (Z_from : Nat → Int32) (Z_to : Nat → Int32) (Z_turned : Nat → Int32) (Z_layer : Nat → Int32) (x1 : Int32) (x2 : Int32) (Z_sizes : Nat → Int32) (Z_items : Nat → Int32) : Option ((Int32 × (Nat → Int32) × (Nat → Int32)) ⊕ ((Nat → Int32) × (Nat → Int32))) :=
  if 24 ≤ x2 then (
    some (.inr (Z_sizes, Z_items))
  ) else (
    Option.bind (fX10_hasDummy Z_isArrow Z_from Z_to Z_turned Z_layer x2 x1) (fun q10 =>
    if q10 = 0 then (
      jX10_firstOrders_82 Z_sizes Z_items x1 x2
    ) else (
      q_b2 (fX10_add Z_sizes Z_items x1 (100 + x2)) (fun q11_0 q11_1 =>
      jX10_firstOrders_82 q11_0 q11_1 x1 x2
      )
    )
    )
  )
noncomputable def bX10_firstOrders_2 (Z_isBox : Nat → Int32) (Z_isArrow : Nat → Int32) (Z_from : Nat → Int32) (Z_to : Nat → Int32) (Z_turned : Nat → Int32) (Z_layers : Int32) (Z_layer : Nat → Int32) (x1 : Int32) (Z_sizes : Nat → Int32) (Z_items : Nat → Int32) (Z_place : Nat → Int32) (Z_dummyPlace : Nat → Int32) : Option ((Int32 × (Nat → Int32) × (Nat → Int32) × (Nat → Int32) × (Nat → Int32)) ⊕ ((Nat → Int32) × (Nat → Int32) × (Nat → Int32) × (Nat → Int32))) :=
  if Z_layers ≤ x1 then (
    some (.inr (Z_sizes, Z_items, Z_place, Z_dummyPlace))
  ) else (
    if q_in x1 24 then (
    q_b2 (q_lo (fun (st : Int32 × (Nat → Int32) × (Nat → Int32)) => bX10_firstOrders_19 Z_isBox Z_layer x1 st.1 st.2.1 st.2.2) (0, (upd Z_sizes x1.toNatClampNeg 0), Z_items)) (fun q3_0 q3_1 =>
      q_b2 (q_lo (fun (st : Int32 × (Nat → Int32) × (Nat → Int32)) => bX10_firstOrders_58 Z_isArrow Z_from Z_to Z_turned Z_layer x1 st.1 st.2.1 st.2.2) (0, q3_0, q3_1)) (fun q8_0 q8_1 =>
        q_b2 (fX10_note q8_0 q8_1 Z_place Z_dummyPlace x1) (fun q12_0 q12_1 =>
        some (.inl ((x1 + 1), q8_0, q8_1, q12_0, q12_1))
        )))
    ) else none
  )
noncomputable def fX10_firstOrders (Z_isBox : Nat → Int32) (Z_isArrow : Nat → Int32) (Z_from : Nat → Int32) (Z_to : Nat → Int32) (Z_turned : Nat → Int32) (Z_layers : Int32) (Z_layer : Nat → Int32) (Z_sizes : Nat → Int32) (Z_items : Nat → Int32) (Z_place : Nat → Int32) (Z_dummyPlace : Nat → Int32) : Option ((Nat → Int32) × (Nat → Int32) × (Nat → Int32) × (Nat → Int32)) :=
  q_b4 (q_lo (fun (st : Int32 × (Nat → Int32) × (Nat → Int32) × (Nat → Int32) × (Nat → Int32)) => bX10_firstOrders_2 Z_isBox Z_isArrow Z_from Z_to Z_turned Z_layers Z_layer st.1 st.2.1 st.2.2.1 st.2.2.2.1 st.2.2.2.2) (0, Z_sizes, Z_items, Z_place, Z_dummyPlace)) (fun q1_0 q1_1 q1_2 q1_3 =>
    some (q1_0, q1_1, q1_2, q1_3))
abbrev iX10_median (aZ : Nat → Nat) (cI cZ : ClassId) (Z_code : Int32) (Z_isArrow : Nat → Int32) (Z_from : Nat → Int32) (Z_to : Nat → Int32) (Z_turned : Nat → Int32) (Z_told : Int32) (Z_layers : Int32) (Z_layer : Nat → Int32) (Z_place : Nat → Int32) (Z_dummyPlace : Nat → Int32) (Z_near : Nat → Int32) : va_W := [((aZ 0), .inr (10, [.int Z_code, .ref (aZ 1), .ref (aZ 2), .ref (aZ 3), .ref (aZ 4), .ref (aZ 5), .ref (aZ 6), .ref (aZ 7), .int Z_told, .int Z_layers, .ref (aZ 8), .ref (aZ 9), .ref (aZ 10), .ref (aZ 11), .ref (aZ 12), .ref (aZ 13), .ref (aZ 14), .ref (aZ 15), .ref (aZ 16), .ref (aZ 17), .ref (aZ 18), .ref (aZ 19), .ref (aZ 20), .ref (aZ 21)])), ((aZ 4), .inl (cZ, 24, .inl Z_isArrow)), ((aZ 5), .inl (cI, 24, .inl Z_from)), ((aZ 6), .inl (cI, 24, .inl Z_to)), ((aZ 7), .inl (cZ, 24, .inl Z_turned)), ((aZ 8), .inl (cI, 16, .inl Z_layer)), ((aZ 11), .inl (cI, 16, .inl Z_place)), ((aZ 12), .inl (cI, 576, .inl Z_dummyPlace)), ((aZ 20), .inl (cI, 40, .inl Z_near))]
noncomputable def jX10_median_107 (Z_near : Nat → Int32) (x1 : Int32) (x2 : Int32) (x3 : Int32) (x4 : Int32) (x5 : Int32) : Option ((Int32 × Int32 × (Nat → Int32)) ⊕ (Int32 × (Nat → Int32))) :=
  some (.inl (x4, (x5 + 1), Z_near))
noncomputable def jX10_median_103 (Z_near : Nat → Int32) (x1 : Int32) (x2 : Int32) (x3 : Int32) (x4 : Int32) (x5 : Int32) (s0 : Int32) (s1 : Int32) : Option ((Int32 × Int32 × (Nat → Int32)) ⊕ (Int32 × (Nat → Int32))) :=
  if q_in s1 40 then (
  jX10_median_107 (upd Z_near s1.toNatClampNeg s0) x1 x2 x3 (x4 + 1) x5
  ) else none
noncomputable def jX10_median_63 (Z_from : Nat → Int32) (Z_to : Nat → Int32) (Z_turned : Nat → Int32) (Z_layer : Nat → Int32) (Z_place : Nat → Int32) (Z_dummyPlace : Nat → Int32) (Z_near : Nat → Int32) (x1 : Int32) (x2 : Int32) (x3 : Int32) (x4 : Int32) (x5 : Int32) (x6 : Int32) (s0 : Int32) : Option ((Int32 × Int32 × (Nat → Int32)) ⊕ (Int32 × (Nat → Int32))) :=
  if s0 = x2 then (
    if x3 = 0 then (
      Option.bind (fX10_lowerPlace Z_from Z_to Z_turned Z_layer Z_place Z_dummyPlace x5 x6) (fun q6 =>
      jX10_median_103 Z_near x1 x2 x3 x4 x5 q6 x4
      )
    ) else (
      Option.bind (fX10_upperPlace Z_from Z_to Z_turned Z_layer Z_place Z_dummyPlace x5 x6) (fun q7 =>
      jX10_median_103 Z_near x1 x2 x3 x4 x5 q7 x4
      )
    )
  ) else (
    jX10_median_107 Z_near x1 x2 x3 x4 x5
  )
noncomputable def jX10_median_24 (Z_isArrow : Nat → Int32) (Z_from : Nat → Int32) (Z_to : Nat → Int32) (Z_turned : Nat → Int32) (Z_layer : Nat → Int32) (Z_place : Nat → Int32) (Z_dummyPlace : Nat → Int32) (Z_near : Nat → Int32) (x1 : Int32) (x2 : Int32) (x3 : Int32) (x4 : Int32) (x5 : Int32) (s0 : Int32) : Option ((Int32 × Int32 × (Nat → Int32)) ⊕ (Int32 × (Nat → Int32))) :=
  Option.bind (fX10_hasPiece Z_isArrow Z_from Z_to Z_turned Z_layer x5 s0) (fun q9 =>
  if q9 = 0 then (
    jX10_median_107 Z_near x1 x2 x3 x4 x5
  ) else (
    if x3 = 0 then (
      Option.bind (fX10_upperPlace Z_from Z_to Z_turned Z_layer Z_place Z_dummyPlace x5 s0) (fun q10 =>
      jX10_median_63 Z_from Z_to Z_turned Z_layer Z_place Z_dummyPlace Z_near x1 x2 x3 x4 x5 s0 q10
      )
    ) else (
      Option.bind (fX10_lowerPlace Z_from Z_to Z_turned Z_layer Z_place Z_dummyPlace x5 s0) (fun q11 =>
      jX10_median_63 Z_from Z_to Z_turned Z_layer Z_place Z_dummyPlace Z_near x1 x2 x3 x4 x5 s0 q11
      )
    )
  )
  )
noncomputable def bX10_median_6 (Z_isArrow : Nat → Int32) (Z_from : Nat → Int32) (Z_to : Nat → Int32) (Z_turned : Nat → Int32) (Z_layer : Nat → Int32) (Z_place : Nat → Int32) (Z_dummyPlace : Nat → Int32) (x1 : Int32) (x2 : Int32) (x3 : Int32) (x4 : Int32) (x5 : Int32) (Z_near : Nat → Int32) : Option ((Int32 × Int32 × (Nat → Int32)) ⊕ (Int32 × (Nat → Int32))) :=
  if 24 ≤ x5 then (
    some (.inr (x4, Z_near))
  ) else (
    if x3 = 0 then (
      jX10_median_24 Z_isArrow Z_from Z_to Z_turned Z_layer Z_place Z_dummyPlace Z_near x1 x2 x3 x4 x5 x1
    ) else (
      jX10_median_24 Z_isArrow Z_from Z_to Z_turned Z_layer Z_place Z_dummyPlace Z_near x1 x2 x3 x4 x5 (x1 - 1)
    )
  )
noncomputable def jX10_median_239 (x4 : Int32) (x5 : Int32) : Option ((Int32) ⊕ ((Unit) ⊕ (Int32))) :=
  some (.inl (x5 + 1))
noncomputable def jX10_median_197 (x4 : Int32) (x5 : Int32) (x6 : Int32) (x8 : Int32) (s0 : Int32) (s1 : Int32) : Option ((Int32 × Int32 × Int32) ⊕ (Int32 × Int32)) :=
  some (.inl (x6, (s1 + s0), (x8 + 1)))
noncomputable def jX10_median_170 (Z_near : Nat → Int32) (x4 : Int32) (x5 : Int32) (x7 : Int32) (x8 : Int32) (s0 : Int32) (s1 : Int32) : Option ((Int32 × Int32 × Int32) ⊕ (Int32 × Int32)) :=
  if q_in x8 40 then (
  if q_in x5 40 then (
  if (Z_near x8.toNatClampNeg) = (Z_near x5.toNatClampNeg) then (
    jX10_median_197 x4 x5 (s1 + s0) x8 1 x7
  ) else (
    jX10_median_197 x4 x5 (s1 + s0) x8 0 x7
  )
  ) else none
  ) else none
noncomputable def bX10_median_139 (Z_near : Nat → Int32) (x4 : Int32) (x5 : Int32) (x6 : Int32) (x7 : Int32) (x8 : Int32) : Option ((Int32 × Int32 × Int32) ⊕ (Int32 × Int32)) :=
  if x4 ≤ x8 then (
    some (.inr (x6, x7))
  ) else (
    if q_in x8 40 then (
    if q_in x5 40 then (
    if (Z_near x5.toNatClampNeg) ≤ (Z_near x8.toNatClampNeg) then (
      jX10_median_170 Z_near x4 x5 x7 x8 0 x6
    ) else (
      jX10_median_170 Z_near x4 x5 x7 x8 1 x6
    )
    ) else none
    ) else none
  )
noncomputable def bX10_median_123 (Z_near : Nat → Int32) (x4 : Int32) (x5 : Int32) : Option ((Int32) ⊕ ((Unit) ⊕ (Int32))) :=
  if x4 ≤ x5 then (
    some (.inr (.inl ()))
  ) else (
    q_b2 (q_lo (fun (st : Int32 × Int32 × Int32) => bX10_median_139 Z_near x4 x5 st.1 st.2.1 st.2.2) (0, 0, 0)) (fun q14_0 q14_1 =>
      if ((x4 - 1) / 2) < q14_0 then (
        jX10_median_239 x4 x5
      ) else (
        if (q14_0 + q14_1) ≤ ((x4 - 1) / 2) then (
          jX10_median_239 x4 x5
        ) else (
          some (.inr (.inr x5))
        )
      ))
  )
noncomputable def fX10_median (Z_isArrow : Nat → Int32) (Z_from : Nat → Int32) (Z_to : Nat → Int32) (Z_turned : Nat → Int32) (Z_layer : Nat → Int32) (Z_place : Nat → Int32) (Z_dummyPlace : Nat → Int32) (Z_near : Nat → Int32) (p0 : Int32) (p1 : Int32) (p2 : Int32) : Option (Int32 × (Nat → Int32)) :=
  q_b2 (q_lo (fun (st : Int32 × Int32 × (Nat → Int32)) => bX10_median_6 Z_isArrow Z_from Z_to Z_turned Z_layer Z_place Z_dummyPlace p0 p1 p2 st.1 st.2.1 st.2.2) (0, 0, Z_near)) (fun q1_0 q1_1 =>
    if q1_0 = 0 then (
      some ((-1), q1_1)
    ) else (
      Option.bind (q_lo (fun (st : Int32) => bX10_median_123 q1_1 q1_0 st) 0) (Sum.elim
       (fun _ =>
        some ((-1), q1_1))
       (fun u12 =>
        if q_in u12 40 then (
        some ((q1_1 u12.toNatClampNeg), q1_1)
        ) else none))
    ))
abbrev iX10_step (aZ : Nat → Nat) (cI cZ : ClassId) (Z_code : Int32) (Z_isArrow : Nat → Int32) (Z_from : Nat → Int32) (Z_to : Nat → Int32) (Z_turned : Nat → Int32) (Z_told : Int32) (Z_layers : Int32) (Z_layer : Nat → Int32) (Z_sizes : Nat → Int32) (Z_items : Nat → Int32) (Z_place : Nat → Int32) (Z_dummyPlace : Nat → Int32) (Z_row : Nat → Int32) (Z_ends : Nat → Int32) (Z_near : Nat → Int32) : va_W := [((aZ 0), .inr (10, [.int Z_code, .ref (aZ 1), .ref (aZ 2), .ref (aZ 3), .ref (aZ 4), .ref (aZ 5), .ref (aZ 6), .ref (aZ 7), .int Z_told, .int Z_layers, .ref (aZ 8), .ref (aZ 9), .ref (aZ 10), .ref (aZ 11), .ref (aZ 12), .ref (aZ 13), .ref (aZ 14), .ref (aZ 15), .ref (aZ 16), .ref (aZ 17), .ref (aZ 18), .ref (aZ 19), .ref (aZ 20), .ref (aZ 21)])), ((aZ 4), .inl (cZ, 24, .inl Z_isArrow)), ((aZ 5), .inl (cI, 24, .inl Z_from)), ((aZ 6), .inl (cI, 24, .inl Z_to)), ((aZ 7), .inl (cZ, 24, .inl Z_turned)), ((aZ 8), .inl (cI, 16, .inl Z_layer)), ((aZ 9), .inl (cI, 24, .inl Z_sizes)), ((aZ 10), .inl (cI, 960, .inl Z_items)), ((aZ 11), .inl (cI, 16, .inl Z_place)), ((aZ 12), .inl (cI, 576, .inl Z_dummyPlace)), ((aZ 18), .inl (cI, 40, .inl Z_row)), ((aZ 19), .inl (cI, 40, .inl Z_ends)), ((aZ 20), .inl (cI, 40, .inl Z_near))]
noncomputable def bX10_step_25 (Z_isArrow : Nat → Int32) (Z_from : Nat → Int32) (Z_to : Nat → Int32) (Z_turned : Nat → Int32) (Z_layer : Nat → Int32) (Z_items : Nat → Int32) (Z_place : Nat → Int32) (Z_dummyPlace : Nat → Int32) (x1 : Int32) (x2 : Int32) (x4 : Int32) (x5 : Int32) (Z_row : Nat → Int32) (Z_ends : Nat → Int32) (Z_near : Nat → Int32) : Option ((Int32 × (Nat → Int32) × (Nat → Int32) × (Nat → Int32)) ⊕ ((Nat → Int32) × (Nat → Int32) × (Nat → Int32))) :=
  if x4 ≤ x5 then (
    some (.inr (Z_row, Z_ends, Z_near))
  ) else (
    q_b2 (fX10_median Z_isArrow Z_from Z_to Z_turned Z_layer Z_place Z_dummyPlace Z_near x1 x5 x2) (fun q6_0 q6_1 =>
    if q_in x5 40 then (
    Option.bind (fX10_item0 Z_items x1 x5) (fun q8 =>
    if q_in x5 40 then (
    some (.inl ((x5 + 1), (upd Z_row x5.toNatClampNeg q8), (upd Z_ends x5.toNatClampNeg q6_0), q6_1))
    ) else none
    )
    ) else none
    )
  )
noncomputable def jX10_step_143 (Z_items : Nat → Int32) (x1 : Int32) (x3 : Int32) (x4 : Int32) (x5 : Int32) (x6 : Int32) (x7 : Int32) : Option ((Int32 × Int32 × (Nat → Int32)) ⊕ (Int32 × (Nat → Int32))) :=
  some (.inl (x5, (x7 + 1), Z_items))
noncomputable def bX10_step_105 (Z_ends : Nat → Int32) (x5 : Int32) : Option ((Int32) ⊕ (Int32)) :=
  if q_in x5 40 then (
  if 0 ≤ (Z_ends x5.toNatClampNeg) then (
    some (.inr x5)
  ) else (
    some (.inl (x5 + 1))
  )
  ) else none
noncomputable def bX10_step_83 (Z_row : Nat → Int32) (Z_ends : Nat → Int32) (x1 : Int32) (x3 : Int32) (x4 : Int32) (x6 : Int32) (x5 : Int32) (x7 : Int32) (Z_items : Nat → Int32) : Option ((Int32 × Int32 × (Nat → Int32)) ⊕ (Int32 × (Nat → Int32))) :=
  if x4 ≤ x7 then (
    some (.inr (x5, Z_items))
  ) else (
    if q_in x7 40 then (
    if (Z_ends x7.toNatClampNeg) = x6 then (
      Option.bind (q_lo (fun (st : Int32) => bX10_step_105 Z_ends st) x5) (fun q14 =>
        if q_in x7 40 then (
        if q_in ((40 * x1) + q14) 960 then (
        jX10_step_143 (upd Z_items ((40 * x1) + q14).toNatClampNeg (Z_row x7.toNatClampNeg)) x1 x3 x4 (q14 + 1) x6 x7
        ) else none
        ) else none)
    ) else (
      jX10_step_143 Z_items x1 x3 x4 x5 x6 x7
    )
    ) else none
  )
noncomputable def bX10_step_73 (Z_row : Nat → Int32) (Z_ends : Nat → Int32) (x1 : Int32) (x3 : Int32) (x4 : Int32) (x5 : Int32) (x6 : Int32) (Z_items : Nat → Int32) : Option ((Int32 × Int32 × (Nat → Int32)) ⊕ ((Nat → Int32))) :=
  if 40 ≤ x6 then (
    some (.inr Z_items)
  ) else (
    q_b2 (q_lo (fun (st : Int32 × Int32 × (Nat → Int32)) => bX10_step_83 Z_row Z_ends x1 x3 x4 x6 st.1 st.2.1 st.2.2) (x5, 0, Z_items)) (fun q11_0 q11_1 =>
      some (.inl (q11_0, (x6 + 1), q11_1)))
  )
noncomputable def bX10_step_181 (Z_row : Nat → Int32) (x1 : Int32) (x4 : Int32) (x6 : Int32) (Z_items : Nat → Int32) : Option ((Int32 × (Nat → Int32)) ⊕ ((Nat → Int32))) :=
  if x4 ≤ x6 then (
    some (.inr Z_items)
  ) else (
    if q_in x6 40 then (
    if q_in ((40 * x1) + x6) 960 then (
    some (.inl ((x6 + 1), (upd Z_items ((40 * x1) + x6).toNatClampNeg (Z_row x6.toNatClampNeg))))
    ) else none
    ) else none
  )
noncomputable def fX10_step (Z_isArrow : Nat → Int32) (Z_from : Nat → Int32) (Z_to : Nat → Int32) (Z_turned : Nat → Int32) (Z_layers : Int32) (Z_layer : Nat → Int32) (Z_sizes : Nat → Int32) (Z_items : Nat → Int32) (Z_place : Nat → Int32) (Z_dummyPlace : Nat → Int32) (Z_row : Nat → Int32) (Z_ends : Nat → Int32) (Z_near : Nat → Int32) (p0 : Int32) (p1 : Int32) : Option ((Nat → Int32) × (Nat → Int32) × (Nat → Int32) × (Nat → Int32) × (Nat → Int32) × (Nat → Int32)) :=
  Option.bind (fX10_crossings Z_isArrow Z_from Z_to Z_turned Z_layers Z_layer Z_place Z_dummyPlace (p0 - 1)) (fun q1 =>
  Option.bind (fX10_crossings Z_isArrow Z_from Z_to Z_turned Z_layers Z_layer Z_place Z_dummyPlace p0) (fun q2 =>
  if q_in p0 24 then (
  q_let (Z_sizes p0.toNatClampNeg) (fun v4 =>
  q_b3 (q_lo (fun (st : Int32 × (Nat → Int32) × (Nat → Int32) × (Nat → Int32)) => bX10_step_25 Z_isArrow Z_from Z_to Z_turned Z_layer Z_items Z_place Z_dummyPlace p0 p1 v4 st.1 st.2.1 st.2.2.1 st.2.2.2) (0, Z_row, Z_ends, Z_near)) (fun q5_0 q5_1 q5_2 =>
    Option.bind (q_lo (fun (st : Int32 × Int32 × (Nat → Int32)) => bX10_step_73 q5_0 q5_1 p0 (q1 + q2) v4 st.1 st.2.1 st.2.2) (0, 0, Z_items)) (fun q10 =>
      q_b2 (fX10_note Z_sizes q10 Z_place Z_dummyPlace p0) (fun q18_0 q18_1 =>
      Option.bind (fX10_crossings Z_isArrow Z_from Z_to Z_turned Z_layers Z_layer q18_0 q18_1 (p0 - 1)) (fun q19 =>
      Option.bind (fX10_crossings Z_isArrow Z_from Z_to Z_turned Z_layers Z_layer q18_0 q18_1 p0) (fun q20 =>
      if (q1 + q2) < (q19 + q20) then (
        Option.bind (q_lo (fun (st : Int32 × (Nat → Int32)) => bX10_step_181 q5_0 p0 v4 st.1 st.2) (0, q10)) (fun q21 =>
          q_b2 (fX10_note Z_sizes q21 q18_0 q18_1 p0) (fun q24_0 q24_1 =>
          some (q21, q24_0, q24_1, q5_0, q5_1, q5_2)
          ))
      ) else (
        some (q10, q18_0, q18_1, q5_0, q5_1, q5_2)
      )
      )
      )
      )))
  )
  ) else none
  )
  )
abbrev iX10_exact (aZ : Nat → Nat) (cI cZ : ClassId) (Z_code : Int32) (Z_isArrow : Nat → Int32) (Z_from : Nat → Int32) (Z_to : Nat → Int32) (Z_turned : Nat → Int32) (Z_told : Int32) (Z_layers : Int32) (Z_layer : Nat → Int32) (Z_sizes : Nat → Int32) (Z_items : Nat → Int32) (Z_place : Nat → Int32) (Z_dummyPlace : Nat → Int32) (Z_row : Nat → Int32) (Z_near : Nat → Int32) : va_W := [((aZ 0), .inr (10, [.int Z_code, .ref (aZ 1), .ref (aZ 2), .ref (aZ 3), .ref (aZ 4), .ref (aZ 5), .ref (aZ 6), .ref (aZ 7), .int Z_told, .int Z_layers, .ref (aZ 8), .ref (aZ 9), .ref (aZ 10), .ref (aZ 11), .ref (aZ 12), .ref (aZ 13), .ref (aZ 14), .ref (aZ 15), .ref (aZ 16), .ref (aZ 17), .ref (aZ 18), .ref (aZ 19), .ref (aZ 20), .ref (aZ 21)])), ((aZ 4), .inl (cZ, 24, .inl Z_isArrow)), ((aZ 5), .inl (cI, 24, .inl Z_from)), ((aZ 6), .inl (cI, 24, .inl Z_to)), ((aZ 7), .inl (cZ, 24, .inl Z_turned)), ((aZ 8), .inl (cI, 16, .inl Z_layer)), ((aZ 9), .inl (cI, 24, .inl Z_sizes)), ((aZ 10), .inl (cI, 960, .inl Z_items)), ((aZ 11), .inl (cI, 16, .inl Z_place)), ((aZ 12), .inl (cI, 576, .inl Z_dummyPlace)), ((aZ 18), .inl (cI, 40, .inl Z_row)), ((aZ 20), .inl (cI, 40, .inl Z_near))]
noncomputable def bX10_exact_16 (Z_items : Nat → Int32) (x1 : Int32) (x2 : Int32) (x3 : Int32) (Z_row : Nat → Int32) : Option ((Int32 × (Nat → Int32)) ⊕ ((Nat → Int32))) :=
  if x2 ≤ x3 then (
    some (.inr Z_row)
  ) else (
    Option.bind (fX10_item0 Z_items x1 x3) (fun q4 =>
    if q_in x3 40 then (
    some (.inl ((x3 + 1), (upd Z_row x3.toNatClampNeg q4)))
    ) else none
    )
  )
noncomputable def bX10_exact_44 (x2 : Int32) (x3 : Int32) (x4 : Int32) : Option ((Int32 × Int32) ⊕ (Int32)) :=
  if x2 < x4 then (
    some (.inr x3)
  ) else (
    some (.inl ((x3 * x4), (x4 + 1)))
  )
noncomputable def jX10_exact_117 (Z_items : Nat → Int32) (Z_place : Nat → Int32) (Z_dummyPlace : Nat → Int32) (Z_near : Nat → Int32) (x1 : Int32) (x2 : Int32) (x3 : Int32) (x4 : Int32) (x5 : Int32) (x6 : Int32) : Option ((Int32 × Int32 × Int32 × (Nat → Int32) × (Nat → Int32) × (Nat → Int32) × (Nat → Int32)) ⊕ (Int32 × (Nat → Int32) × (Nat → Int32) × (Nat → Int32) × (Nat → Int32))) :=
  some (.inl (x4, x5, (x6 + 1), Z_items, Z_place, Z_dummyPlace, Z_near))
noncomputable def jX10_exact_109 (Z_items : Nat → Int32) (Z_place : Nat → Int32) (Z_dummyPlace : Nat → Int32) (Z_near : Nat → Int32) (x1 : Int32) (x2 : Int32) (x3 : Int32) (x6 : Int32) (x7 : Int32) : Option ((Int32 × Int32 × Int32 × (Nat → Int32) × (Nat → Int32) × (Nat → Int32) × (Nat → Int32)) ⊕ (Int32 × (Nat → Int32) × (Nat → Int32) × (Nat → Int32) × (Nat → Int32))) :=
  jX10_exact_117 Z_items Z_place Z_dummyPlace Z_near x1 x2 x3 x6 x7 x6
noncomputable def bX10_exact_70 (Z_isArrow : Nat → Int32) (Z_from : Nat → Int32) (Z_to : Nat → Int32) (Z_turned : Nat → Int32) (Z_layers : Int32) (Z_layer : Nat → Int32) (Z_sizes : Nat → Int32) (Z_row : Nat → Int32) (x1 : Int32) (x2 : Int32) (x3 : Int32) (x4 : Int32) (x5 : Int32) (x6 : Int32) (Z_items : Nat → Int32) (Z_place : Nat → Int32) (Z_dummyPlace : Nat → Int32) (Z_near : Nat → Int32) : Option ((Int32 × Int32 × Int32 × (Nat → Int32) × (Nat → Int32) × (Nat → Int32) × (Nat → Int32)) ⊕ (Int32 × (Nat → Int32) × (Nat → Int32) × (Nat → Int32) × (Nat → Int32))) :=
  if x3 ≤ x6 then (
    some (.inr (x4, Z_items, Z_place, Z_dummyPlace, Z_near))
  ) else (
    q_b4 (fX10_arrange Z_sizes Z_items Z_place Z_dummyPlace Z_row Z_near x1 x2 x6 x3) (fun q10_0 q10_1 q10_2 q10_3 =>
    Option.bind (fX10_crossings Z_isArrow Z_from Z_to Z_turned Z_layers Z_layer q10_1 q10_2 (x1 - 1)) (fun q11 =>
    if x5 < 0 then (
      jX10_exact_109 q10_0 q10_1 q10_2 q10_3 x1 x2 x3 x6 q11
    ) else (
      if q11 < x5 then (
        jX10_exact_109 q10_0 q10_1 q10_2 q10_3 x1 x2 x3 x6 q11
      ) else (
        jX10_exact_117 q10_0 q10_1 q10_2 q10_3 x1 x2 x3 x4 x5 x6
      )
    )
    )
    )
  )
noncomputable def fX10_exact (Z_isArrow : Nat → Int32) (Z_from : Nat → Int32) (Z_to : Nat → Int32) (Z_turned : Nat → Int32) (Z_layers : Int32) (Z_layer : Nat → Int32) (Z_sizes : Nat → Int32) (Z_items : Nat → Int32) (Z_place : Nat → Int32) (Z_dummyPlace : Nat → Int32) (Z_row : Nat → Int32) (Z_near : Nat → Int32) (p0 : Int32) : Option ((Nat → Int32) × (Nat → Int32) × (Nat → Int32) × (Nat → Int32) × (Nat → Int32)) :=
  if q_in p0 24 then (
  q_let (Z_sizes p0.toNatClampNeg) (fun v2 =>
  if v2 ≤ 6 then (
    Option.bind (q_lo (fun (st : Int32 × (Nat → Int32)) => bX10_exact_16 Z_items p0 v2 st.1 st.2) (0, Z_row)) (fun q3 =>
      Option.bind (q_lo (fun (st : Int32 × Int32) => bX10_exact_44 v2 st.1 st.2) (1, 2)) (fun q6 =>
        q_b5 (q_lo (fun (st : Int32 × Int32 × Int32 × (Nat → Int32) × (Nat → Int32) × (Nat → Int32) × (Nat → Int32)) => bX10_exact_70 Z_isArrow Z_from Z_to Z_turned Z_layers Z_layer Z_sizes q3 p0 v2 q6 st.1 st.2.1 st.2.2.1 st.2.2.2.1 st.2.2.2.2.1 st.2.2.2.2.2.1 st.2.2.2.2.2.2) (0, (-1), 0, Z_items, Z_place, Z_dummyPlace, Z_near)) (fun q7_0 q7_1 q7_2 q7_3 q7_4 =>
          q_b4 (fX10_arrange Z_sizes q7_1 q7_2 q7_3 q3 q7_4 p0 v2 q7_0 q6) (fun q12_0 q12_1 q12_2 q12_3 =>
          some (q12_0, q12_1, q12_2, q3, q12_3)
          ))))
  ) else (
    some (Z_items, Z_place, Z_dummyPlace, Z_row, Z_near)
  )
  )
  ) else none
abbrev iX10_drawOrders (aZ : Nat → Nat) (cI cZ : ClassId) (Z_code : Int32) (Z_isBox : Nat → Int32) (Z_isArrow : Nat → Int32) (Z_from : Nat → Int32) (Z_to : Nat → Int32) (Z_turned : Nat → Int32) (Z_told : Int32) (Z_layers : Int32) (Z_layer : Nat → Int32) (Z_sizes : Nat → Int32) (Z_items : Nat → Int32) (Z_place : Nat → Int32) (Z_dummyPlace : Nat → Int32) (Z_row : Nat → Int32) (Z_ends : Nat → Int32) (Z_near : Nat → Int32) : va_W := [((aZ 0), .inr (10, [.int Z_code, .ref (aZ 1), .ref (aZ 2), .ref (aZ 3), .ref (aZ 4), .ref (aZ 5), .ref (aZ 6), .ref (aZ 7), .int Z_told, .int Z_layers, .ref (aZ 8), .ref (aZ 9), .ref (aZ 10), .ref (aZ 11), .ref (aZ 12), .ref (aZ 13), .ref (aZ 14), .ref (aZ 15), .ref (aZ 16), .ref (aZ 17), .ref (aZ 18), .ref (aZ 19), .ref (aZ 20), .ref (aZ 21)])), ((aZ 1), .inl (cZ, 16, .inl Z_isBox)), ((aZ 4), .inl (cZ, 24, .inl Z_isArrow)), ((aZ 5), .inl (cI, 24, .inl Z_from)), ((aZ 6), .inl (cI, 24, .inl Z_to)), ((aZ 7), .inl (cZ, 24, .inl Z_turned)), ((aZ 8), .inl (cI, 16, .inl Z_layer)), ((aZ 9), .inl (cI, 24, .inl Z_sizes)), ((aZ 10), .inl (cI, 960, .inl Z_items)), ((aZ 11), .inl (cI, 16, .inl Z_place)), ((aZ 12), .inl (cI, 576, .inl Z_dummyPlace)), ((aZ 18), .inl (cI, 40, .inl Z_row)), ((aZ 19), .inl (cI, 40, .inl Z_ends)), ((aZ 20), .inl (cI, 40, .inl Z_near))]
noncomputable def bX10_drawOrders_13 (Z_isArrow : Nat → Int32) (Z_from : Nat → Int32) (Z_to : Nat → Int32) (Z_turned : Nat → Int32) (Z_layers : Int32) (Z_layer : Nat → Int32) (Z_sizes : Nat → Int32) (x3 : Int32) (Z_items : Nat → Int32) (Z_place : Nat → Int32) (Z_dummyPlace : Nat → Int32) (Z_row : Nat → Int32) (Z_ends : Nat → Int32) (Z_near : Nat → Int32) : Option ((Int32 × (Nat → Int32) × (Nat → Int32) × (Nat → Int32) × (Nat → Int32) × (Nat → Int32) × (Nat → Int32)) ⊕ ((Nat → Int32) × (Nat → Int32) × (Nat → Int32) × (Nat → Int32) × (Nat → Int32) × (Nat → Int32))) :=
  if Z_layers ≤ x3 then (
    some (.inr (Z_items, Z_place, Z_dummyPlace, Z_row, Z_ends, Z_near))
  ) else (
    q_b6 (fX10_step Z_isArrow Z_from Z_to Z_turned Z_layers Z_layer Z_sizes Z_items Z_place Z_dummyPlace Z_row Z_ends Z_near x3 1) (fun q4_0 q4_1 q4_2 q4_3 q4_4 q4_5 =>
    some (.inl ((x3 + 1), q4_0, q4_1, q4_2, q4_3, q4_4, q4_5))
    )
  )
noncomputable def bX10_drawOrders_40 (Z_isArrow : Nat → Int32) (Z_from : Nat → Int32) (Z_to : Nat → Int32) (Z_turned : Nat → Int32) (Z_layers : Int32) (Z_layer : Nat → Int32) (Z_sizes : Nat → Int32) (x3 : Int32) (Z_items : Nat → Int32) (Z_place : Nat → Int32) (Z_dummyPlace : Nat → Int32) (Z_row : Nat → Int32) (Z_ends : Nat → Int32) (Z_near : Nat → Int32) : Option ((Int32 × (Nat → Int32) × (Nat → Int32) × (Nat → Int32) × (Nat → Int32) × (Nat → Int32) × (Nat → Int32)) ⊕ ((Nat → Int32) × (Nat → Int32) × (Nat → Int32) × (Nat → Int32) × (Nat → Int32) × (Nat → Int32))) :=
  if x3 < 0 then (
    some (.inr (Z_items, Z_place, Z_dummyPlace, Z_row, Z_ends, Z_near))
  ) else (
    q_b6 (fX10_step Z_isArrow Z_from Z_to Z_turned Z_layers Z_layer Z_sizes Z_items Z_place Z_dummyPlace Z_row Z_ends Z_near x3 0) (fun q6_0 q6_1 q6_2 q6_3 q6_4 q6_5 =>
    some (.inl ((x3 + (-1)), q6_0, q6_1, q6_2, q6_3, q6_4, q6_5))
    )
  )
noncomputable def bX10_drawOrders_6 (Z_isArrow : Nat → Int32) (Z_from : Nat → Int32) (Z_to : Nat → Int32) (Z_turned : Nat → Int32) (Z_layers : Int32) (Z_layer : Nat → Int32) (Z_sizes : Nat → Int32) (x1 : Int32) (x2 : Int32) (Z_items : Nat → Int32) (Z_place : Nat → Int32) (Z_dummyPlace : Nat → Int32) (Z_row : Nat → Int32) (Z_ends : Nat → Int32) (Z_near : Nat → Int32) : Option ((Int32 × (Nat → Int32) × (Nat → Int32) × (Nat → Int32) × (Nat → Int32) × (Nat → Int32) × (Nat → Int32)) ⊕ ((Nat → Int32) × (Nat → Int32) × (Nat → Int32) × (Nat → Int32) × (Nat → Int32) × (Nat → Int32))) :=
  if x1 ≤ x2 then (
    some (.inr (Z_items, Z_place, Z_dummyPlace, Z_row, Z_ends, Z_near))
  ) else (
    q_b6 (q_lo (fun (st : Int32 × (Nat → Int32) × (Nat → Int32) × (Nat → Int32) × (Nat → Int32) × (Nat → Int32) × (Nat → Int32)) => bX10_drawOrders_13 Z_isArrow Z_from Z_to Z_turned Z_layers Z_layer Z_sizes st.1 st.2.1 st.2.2.1 st.2.2.2.1 st.2.2.2.2.1 st.2.2.2.2.2.1 st.2.2.2.2.2.2) (1, Z_items, Z_place, Z_dummyPlace, Z_row, Z_ends, Z_near)) (fun q3_0 q3_1 q3_2 q3_3 q3_4 q3_5 =>
      q_b6 (q_lo (fun (st : Int32 × (Nat → Int32) × (Nat → Int32) × (Nat → Int32) × (Nat → Int32) × (Nat → Int32) × (Nat → Int32)) => bX10_drawOrders_40 Z_isArrow Z_from Z_to Z_turned Z_layers Z_layer Z_sizes st.1 st.2.1 st.2.2.1 st.2.2.2.1 st.2.2.2.2.1 st.2.2.2.2.2.1 st.2.2.2.2.2.2) ((Z_layers - 2), q3_0, q3_1, q3_2, q3_3, q3_4, q3_5)) (fun q5_0 q5_1 q5_2 q5_3 q5_4 q5_5 =>
        some (.inl ((x2 + 1), q5_0, q5_1, q5_2, q5_3, q5_4, q5_5))))
  )
noncomputable def bX10_drawOrders_64 (Z_isArrow : Nat → Int32) (Z_from : Nat → Int32) (Z_to : Nat → Int32) (Z_turned : Nat → Int32) (Z_layers : Int32) (Z_layer : Nat → Int32) (Z_sizes : Nat → Int32) (x2 : Int32) (Z_items : Nat → Int32) (Z_place : Nat → Int32) (Z_dummyPlace : Nat → Int32) (Z_row : Nat → Int32) (Z_near : Nat → Int32) : Option ((Int32 × (Nat → Int32) × (Nat → Int32) × (Nat → Int32) × (Nat → Int32) × (Nat → Int32)) ⊕ ((Nat → Int32) × (Nat → Int32) × (Nat → Int32) × (Nat → Int32) × (Nat → Int32))) :=
  if Z_layers ≤ x2 then (
    some (.inr (Z_items, Z_place, Z_dummyPlace, Z_row, Z_near))
  ) else (
    q_b5 (fX10_exact Z_isArrow Z_from Z_to Z_turned Z_layers Z_layer Z_sizes Z_items Z_place Z_dummyPlace Z_row Z_near x2) (fun q8_0 q8_1 q8_2 q8_3 q8_4 =>
    some (.inl ((x2 + 1), q8_0, q8_1, q8_2, q8_3, q8_4))
    )
  )
noncomputable def fX10_drawOrders (Z_isBox : Nat → Int32) (Z_isArrow : Nat → Int32) (Z_from : Nat → Int32) (Z_to : Nat → Int32) (Z_turned : Nat → Int32) (Z_layers : Int32) (Z_layer : Nat → Int32) (Z_sizes : Nat → Int32) (Z_items : Nat → Int32) (Z_place : Nat → Int32) (Z_dummyPlace : Nat → Int32) (Z_row : Nat → Int32) (Z_ends : Nat → Int32) (Z_near : Nat → Int32) (p0 : Int32) : Option ((Nat → Int32) × (Nat → Int32) × (Nat → Int32) × (Nat → Int32) × (Nat → Int32) × (Nat → Int32) × (Nat → Int32)) :=
  q_b4 (fX10_firstOrders Z_isBox Z_isArrow Z_from Z_to Z_turned Z_layers Z_layer Z_sizes Z_items Z_place Z_dummyPlace) (fun q1_0 q1_1 q1_2 q1_3 =>
  q_b6 (q_lo (fun (st : Int32 × (Nat → Int32) × (Nat → Int32) × (Nat → Int32) × (Nat → Int32) × (Nat → Int32) × (Nat → Int32)) => bX10_drawOrders_6 Z_isArrow Z_from Z_to Z_turned Z_layers Z_layer q1_0 p0 st.1 st.2.1 st.2.2.1 st.2.2.2.1 st.2.2.2.2.1 st.2.2.2.2.2.1 st.2.2.2.2.2.2) (0, q1_1, q1_2, q1_3, Z_row, Z_ends, Z_near)) (fun q2_0 q2_1 q2_2 q2_3 q2_4 q2_5 =>
    q_b5 (q_lo (fun (st : Int32 × (Nat → Int32) × (Nat → Int32) × (Nat → Int32) × (Nat → Int32) × (Nat → Int32)) => bX10_drawOrders_64 Z_isArrow Z_from Z_to Z_turned Z_layers Z_layer q1_0 st.1 st.2.1 st.2.2.1 st.2.2.2.1 st.2.2.2.2.1 st.2.2.2.2.2) (1, q2_0, q2_1, q2_2, q2_3, q2_5)) (fun q7_0 q7_1 q7_2 q7_3 q7_4 =>
      some (q1_0, q7_0, q7_1, q7_2, q7_3, q2_4, q7_4)))
  )
abbrev iX10_pass (aZ : Nat → Nat) (cI cZ : ClassId) (Z_code : Int32) (Z_width : Nat → Int32) (Z_isArrow : Nat → Int32) (Z_from : Nat → Int32) (Z_to : Nat → Int32) (Z_turned : Nat → Int32) (Z_told : Int32) (Z_layers : Int32) (Z_layer : Nat → Int32) (Z_sizes : Nat → Int32) (Z_items : Nat → Int32) (Z_place : Nat → Int32) (Z_dummyPlace : Nat → Int32) (Z_xs : Nat → Int32) : va_W := [((aZ 0), .inr (10, [.int Z_code, .ref (aZ 1), .ref (aZ 2), .ref (aZ 3), .ref (aZ 4), .ref (aZ 5), .ref (aZ 6), .ref (aZ 7), .int Z_told, .int Z_layers, .ref (aZ 8), .ref (aZ 9), .ref (aZ 10), .ref (aZ 11), .ref (aZ 12), .ref (aZ 13), .ref (aZ 14), .ref (aZ 15), .ref (aZ 16), .ref (aZ 17), .ref (aZ 18), .ref (aZ 19), .ref (aZ 20), .ref (aZ 21)])), ((aZ 2), .inl (cI, 16, .inl Z_width)), ((aZ 4), .inl (cZ, 24, .inl Z_isArrow)), ((aZ 5), .inl (cI, 24, .inl Z_from)), ((aZ 6), .inl (cI, 24, .inl Z_to)), ((aZ 7), .inl (cZ, 24, .inl Z_turned)), ((aZ 8), .inl (cI, 16, .inl Z_layer)), ((aZ 9), .inl (cI, 24, .inl Z_sizes)), ((aZ 10), .inl (cI, 960, .inl Z_items)), ((aZ 11), .inl (cI, 16, .inl Z_place)), ((aZ 12), .inl (cI, 576, .inl Z_dummyPlace)), ((aZ 13), .inl (cI, 960, .inl Z_xs))]
noncomputable def jX10_pass_211 (Z_xs : Nat → Int32) (x1 : Int32) (x2 : Int32) (x4 : Int32) (x7 : Int32) (x8 : Int32) : Option ((Int32 × Int32 × (Nat → Int32)) ⊕ ((Nat → Int32))) :=
  if q_in ((40 * x1) + x4) 960 then (
  some (.inl ((x8 + x7), (x4 + 1), (upd Z_xs ((40 * x1) + x4).toNatClampNeg x8)))
  ) else none
noncomputable def jX10_pass_191 (Z_xs : Nat → Int32) (x1 : Int32) (x2 : Int32) (x3 : Int32) (x4 : Int32) (x7 : Int32) (s0 : Int32) : Option ((Int32 × Int32 × (Nat → Int32)) ⊕ ((Nat → Int32))) :=
  if x4 ≤ 0 then (
    jX10_pass_211 Z_xs x1 x2 x4 x7 s0
  ) else (
    if (x3 + 4) ≤ s0 then (
      jX10_pass_211 Z_xs x1 x2 x4 x7 s0
    ) else (
      jX10_pass_211 Z_xs x1 x2 x4 x7 (x3 + 4)
    )
  )
noncomputable def jX10_pass_140 (x1 : Int32) (x2 : Int32) (x3 : Int32) (x4 : Int32) (x5 : Int32) (x6 : Int32) (x7 : Int32) : Option ((Int32 × Int32 × Int32) ⊕ (Int32 × Int32)) :=
  some (.inl (x5, x6, (x7 + 1)))
noncomputable def jX10_pass_134 (x1 : Int32) (x2 : Int32) (x3 : Int32) (x4 : Int32) (x5 : Int32) (x7 : Int32) (s0 : Int32) (s1 : Int32) : Option ((Int32 × Int32 × Int32) ⊕ (Int32 × Int32)) :=
  jX10_pass_140 x1 x2 x3 x4 (x5 + 1) (s1 + s0) x7
noncomputable def jX10_pass_87 (Z_width : Nat → Int32) (Z_from : Nat → Int32) (Z_to : Nat → Int32) (Z_turned : Nat → Int32) (Z_layer : Nat → Int32) (Z_items : Nat → Int32) (Z_place : Nat → Int32) (Z_dummyPlace : Nat → Int32) (Z_xs : Nat → Int32) (x1 : Int32) (x2 : Int32) (x3 : Int32) (x4 : Int32) (x5 : Int32) (x6 : Int32) (x7 : Int32) (x8 : Int32) (s0 : Int32) : Option ((Int32 × Int32 × Int32) ⊕ (Int32 × Int32)) :=
  if s0 = x4 then (
    if x2 = 0 then (
      Option.bind (fX10_lowerPlace Z_from Z_to Z_turned Z_layer Z_place Z_dummyPlace x7 x8) (fun q10 =>
      Option.bind (fX10_middle Z_width Z_items Z_xs (x1 + 1) q10) (fun q11 =>
      jX10_pass_134 x1 x2 x3 x4 x5 x7 q11 x6
      )
      )
    ) else (
      Option.bind (fX10_upperPlace Z_from Z_to Z_turned Z_layer Z_place Z_dummyPlace x7 x8) (fun q12 =>
      Option.bind (fX10_middle Z_width Z_items Z_xs (x1 - 1) q12) (fun q13 =>
      jX10_pass_134 x1 x2 x3 x4 x5 x7 q13 x6
      )
      )
    )
  ) else (
    jX10_pass_140 x1 x2 x3 x4 x5 x6 x7
  )
noncomputable def jX10_pass_43 (Z_width : Nat → Int32) (Z_isArrow : Nat → Int32) (Z_from : Nat → Int32) (Z_to : Nat → Int32) (Z_turned : Nat → Int32) (Z_layer : Nat → Int32) (Z_items : Nat → Int32) (Z_place : Nat → Int32) (Z_dummyPlace : Nat → Int32) (Z_xs : Nat → Int32) (x1 : Int32) (x2 : Int32) (x3 : Int32) (x4 : Int32) (x5 : Int32) (x6 : Int32) (x7 : Int32) (s0 : Int32) : Option ((Int32 × Int32 × Int32) ⊕ (Int32 × Int32)) :=
  if s0 < 0 then (
    jX10_pass_140 x1 x2 x3 x4 x5 x6 x7
  ) else (
    Option.bind (fX10_hasPiece Z_isArrow Z_from Z_to Z_turned Z_layer x7 s0) (fun q15 =>
    if q15 = 0 then (
      jX10_pass_140 x1 x2 x3 x4 x5 x6 x7
    ) else (
      if x2 = 0 then (
        Option.bind (fX10_upperPlace Z_from Z_to Z_turned Z_layer Z_place Z_dummyPlace x7 s0) (fun q16 =>
        jX10_pass_87 Z_width Z_from Z_to Z_turned Z_layer Z_items Z_place Z_dummyPlace Z_xs x1 x2 x3 x4 x5 x6 x7 s0 q16
        )
      ) else (
        Option.bind (fX10_lowerPlace Z_from Z_to Z_turned Z_layer Z_place Z_dummyPlace x7 s0) (fun q17 =>
        jX10_pass_87 Z_width Z_from Z_to Z_turned Z_layer Z_items Z_place Z_dummyPlace Z_xs x1 x2 x3 x4 x5 x6 x7 s0 q17
        )
      )
    )
    )
  )
noncomputable def bX10_pass_25 (Z_width : Nat → Int32) (Z_isArrow : Nat → Int32) (Z_from : Nat → Int32) (Z_to : Nat → Int32) (Z_turned : Nat → Int32) (Z_layer : Nat → Int32) (Z_items : Nat → Int32) (Z_place : Nat → Int32) (Z_dummyPlace : Nat → Int32) (Z_xs : Nat → Int32) (x1 : Int32) (x2 : Int32) (x3 : Int32) (x4 : Int32) (x5 : Int32) (x6 : Int32) (x7 : Int32) : Option ((Int32 × Int32 × Int32) ⊕ (Int32 × Int32)) :=
  if 24 ≤ x7 then (
    some (.inr (x5, x6))
  ) else (
    if x2 = 0 then (
      jX10_pass_43 Z_width Z_isArrow Z_from Z_to Z_turned Z_layer Z_items Z_place Z_dummyPlace Z_xs x1 x2 x3 x4 x5 x6 x7 x1
    ) else (
      jX10_pass_43 Z_width Z_isArrow Z_from Z_to Z_turned Z_layer Z_items Z_place Z_dummyPlace Z_xs x1 x2 x3 x4 x5 x6 x7 (x1 - 1)
    )
  )
noncomputable def bX10_pass_5 (Z_width : Nat → Int32) (Z_isArrow : Nat → Int32) (Z_from : Nat → Int32) (Z_to : Nat → Int32) (Z_turned : Nat → Int32) (Z_layer : Nat → Int32) (Z_sizes : Nat → Int32) (Z_items : Nat → Int32) (Z_place : Nat → Int32) (Z_dummyPlace : Nat → Int32) (x1 : Int32) (x2 : Int32) (x3 : Int32) (x4 : Int32) (Z_xs : Nat → Int32) : Option ((Int32 × Int32 × (Nat → Int32)) ⊕ ((Nat → Int32))) :=
  if q_in x1 24 then (
  if (Z_sizes x1.toNatClampNeg) ≤ x4 then (
    some (.inr Z_xs)
  ) else (
    q_b2 (q_lo (fun (st : Int32 × Int32 × Int32) => bX10_pass_25 Z_width Z_isArrow Z_from Z_to Z_turned Z_layer Z_items Z_place Z_dummyPlace Z_xs x1 x2 x3 x4 st.1 st.2.1 st.2.2) (0, 0, 0)) (fun q6_0 q6_1 =>
      Option.bind (fX10_item0 Z_items x1 x4) (fun q18 =>
      Option.bind (fX10_widthOf Z_width q18) (fun q19 =>
      if q6_0 = 0 then (
        if q_in ((40 * x1) + x4) 960 then (
        jX10_pass_191 Z_xs x1 x2 x3 x4 q19 (Z_xs ((40 * x1) + x4).toNatClampNeg)
        ) else none
      ) else (
        Option.bind (fX10_down q6_1 q6_0) (fun q20 =>
        jX10_pass_191 Z_xs x1 x2 x3 x4 q19 (q20 - (q19 / 2))
        )
      )
      )
      ))
  )
  ) else none
noncomputable def fX10_pass (Z_width : Nat → Int32) (Z_isArrow : Nat → Int32) (Z_from : Nat → Int32) (Z_to : Nat → Int32) (Z_turned : Nat → Int32) (Z_layer : Nat → Int32) (Z_sizes : Nat → Int32) (Z_items : Nat → Int32) (Z_place : Nat → Int32) (Z_dummyPlace : Nat → Int32) (Z_xs : Nat → Int32) (p0 : Int32) (p1 : Int32) : Option ((Nat → Int32)) :=
  Option.bind (q_lo (fun (st : Int32 × Int32 × (Nat → Int32)) => bX10_pass_5 Z_width Z_isArrow Z_from Z_to Z_turned Z_layer Z_sizes Z_items Z_place Z_dummyPlace p0 p1 st.1 st.2.1 st.2.2) (0, 0, Z_xs)) (fun q1 =>
    some q1)
abbrev iX10_straighten (aZ : Nat → Nat) (cI cZ : ClassId) (Z_code : Int32) (Z_width : Nat → Int32) (Z_isArrow : Nat → Int32) (Z_from : Nat → Int32) (Z_to : Nat → Int32) (Z_turned : Nat → Int32) (Z_told : Int32) (Z_layers : Int32) (Z_layer : Nat → Int32) (Z_sizes : Nat → Int32) (Z_items : Nat → Int32) (Z_place : Nat → Int32) (Z_dummyPlace : Nat → Int32) (Z_xs : Nat → Int32) : va_W := [((aZ 0), .inr (10, [.int Z_code, .ref (aZ 1), .ref (aZ 2), .ref (aZ 3), .ref (aZ 4), .ref (aZ 5), .ref (aZ 6), .ref (aZ 7), .int Z_told, .int Z_layers, .ref (aZ 8), .ref (aZ 9), .ref (aZ 10), .ref (aZ 11), .ref (aZ 12), .ref (aZ 13), .ref (aZ 14), .ref (aZ 15), .ref (aZ 16), .ref (aZ 17), .ref (aZ 18), .ref (aZ 19), .ref (aZ 20), .ref (aZ 21)])), ((aZ 2), .inl (cI, 16, .inl Z_width)), ((aZ 4), .inl (cZ, 24, .inl Z_isArrow)), ((aZ 5), .inl (cI, 24, .inl Z_from)), ((aZ 6), .inl (cI, 24, .inl Z_to)), ((aZ 7), .inl (cZ, 24, .inl Z_turned)), ((aZ 8), .inl (cI, 16, .inl Z_layer)), ((aZ 9), .inl (cI, 24, .inl Z_sizes)), ((aZ 10), .inl (cI, 960, .inl Z_items)), ((aZ 11), .inl (cI, 16, .inl Z_place)), ((aZ 12), .inl (cI, 576, .inl Z_dummyPlace)), ((aZ 13), .inl (cI, 960, .inl Z_xs))]
noncomputable def bX10_straighten_14 (Z_width : Nat → Int32) (Z_sizes : Nat → Int32) (Z_items : Nat → Int32) (x1 : Int32) (x2 : Int32) (x3 : Int32) (Z_xs : Nat → Int32) : Option ((Int32 × Int32 × (Nat → Int32)) ⊕ ((Nat → Int32))) :=
  if q_in x1 24 then (
  if (Z_sizes x1.toNatClampNeg) ≤ x3 then (
    some (.inr Z_xs)
  ) else (
    if q_in ((40 * x1) + x3) 960 then (
    Option.bind (fX10_item0 Z_items x1 x3) (fun q5 =>
    Option.bind (fX10_widthOf Z_width q5) (fun q6 =>
    some (.inl ((x2 + (q6 + 4)), (x3 + 1), (upd Z_xs ((40 * x1) + x3).toNatClampNeg x2)))
    )
    )
    ) else none
  )
  ) else none
noncomputable def bX10_straighten_2 (Z_width : Nat → Int32) (Z_layers : Int32) (Z_sizes : Nat → Int32) (Z_items : Nat → Int32) (x1 : Int32) (Z_xs : Nat → Int32) : Option ((Int32 × (Nat → Int32)) ⊕ ((Nat → Int32))) :=
  if Z_layers ≤ x1 then (
    some (.inr Z_xs)
  ) else (
    Option.bind (q_lo (fun (st : Int32 × Int32 × (Nat → Int32)) => bX10_straighten_14 Z_width Z_sizes Z_items x1 st.1 st.2.1 st.2.2) (0, 0, Z_xs)) (fun q2 =>
      some (.inl ((x1 + 1), q2)))
  )
noncomputable def jX10_straighten_110 (Z_width : Nat → Int32) (Z_isArrow : Nat → Int32) (Z_from : Nat → Int32) (Z_to : Nat → Int32) (Z_turned : Nat → Int32) (Z_layer : Nat → Int32) (Z_sizes : Nat → Int32) (Z_items : Nat → Int32) (Z_place : Nat → Int32) (Z_dummyPlace : Nat → Int32) (Z_xs : Nat → Int32) (x1 : Int32) (x2 : Int32) (s0 : Int32) (s1 : Int32) : Option ((Int32 × (Nat → Int32)) ⊕ ((Nat → Int32))) :=
  Option.bind (fX10_pass Z_width Z_isArrow Z_from Z_to Z_turned Z_layer Z_sizes Z_items Z_place Z_dummyPlace Z_xs s1 s0) (fun q10 =>
  some (.inl ((x2 + 1), q10))
  )
noncomputable def jX10_straighten_99 (Z_width : Nat → Int32) (Z_isArrow : Nat → Int32) (Z_from : Nat → Int32) (Z_to : Nat → Int32) (Z_turned : Nat → Int32) (Z_layer : Nat → Int32) (Z_sizes : Nat → Int32) (Z_items : Nat → Int32) (Z_place : Nat → Int32) (Z_dummyPlace : Nat → Int32) (Z_xs : Nat → Int32) (x1 : Int32) (x2 : Int32) (s0 : Int32) : Option ((Int32 × (Nat → Int32)) ⊕ ((Nat → Int32))) :=
  if (x1 - x1 / 2 * 2) = 0 then (
    jX10_straighten_110 Z_width Z_isArrow Z_from Z_to Z_turned Z_layer Z_sizes Z_items Z_place Z_dummyPlace Z_xs x1 x2 1 s0
  ) else (
    jX10_straighten_110 Z_width Z_isArrow Z_from Z_to Z_turned Z_layer Z_sizes Z_items Z_place Z_dummyPlace Z_xs x1 x2 0 s0
  )
noncomputable def bX10_straighten_72 (Z_width : Nat → Int32) (Z_isArrow : Nat → Int32) (Z_from : Nat → Int32) (Z_to : Nat → Int32) (Z_turned : Nat → Int32) (Z_layers : Int32) (Z_layer : Nat → Int32) (Z_sizes : Nat → Int32) (Z_items : Nat → Int32) (Z_place : Nat → Int32) (Z_dummyPlace : Nat → Int32) (x1 : Int32) (x2 : Int32) (Z_xs : Nat → Int32) : Option ((Int32 × (Nat → Int32)) ⊕ ((Nat → Int32))) :=
  if Z_layers ≤ x2 then (
    some (.inr Z_xs)
  ) else (
    if (x1 - x1 / 2 * 2) = 0 then (
      jX10_straighten_99 Z_width Z_isArrow Z_from Z_to Z_turned Z_layer Z_sizes Z_items Z_place Z_dummyPlace Z_xs x1 x2 x2
    ) else (
      jX10_straighten_99 Z_width Z_isArrow Z_from Z_to Z_turned Z_layer Z_sizes Z_items Z_place Z_dummyPlace Z_xs x1 x2 ((Z_layers - 1) - x2)
    )
  )
noncomputable def bX10_straighten_65 (Z_width : Nat → Int32) (Z_isArrow : Nat → Int32) (Z_from : Nat → Int32) (Z_to : Nat → Int32) (Z_turned : Nat → Int32) (Z_layers : Int32) (Z_layer : Nat → Int32) (Z_sizes : Nat → Int32) (Z_items : Nat → Int32) (Z_place : Nat → Int32) (Z_dummyPlace : Nat → Int32) (x1 : Int32) (Z_xs : Nat → Int32) : Option ((Int32 × (Nat → Int32)) ⊕ ((Nat → Int32))) :=
  if 4 ≤ x1 then (
    some (.inr Z_xs)
  ) else (
    Option.bind (q_lo (fun (st : Int32 × (Nat → Int32)) => bX10_straighten_72 Z_width Z_isArrow Z_from Z_to Z_turned Z_layers Z_layer Z_sizes Z_items Z_place Z_dummyPlace x1 st.1 st.2) (0, Z_xs)) (fun q8 =>
      some (.inl ((x1 + 1), q8)))
  )
noncomputable def jX10_straighten_186 (x2 : Int32) (x3 : Int32) (x4 : Int32) : Option ((Int32 × Int32 × Int32) ⊕ (Int32 × Int32)) :=
  some (.inl (1, x2, (x4 + 1)))
noncomputable def jX10_straighten_173 (Z_xs : Nat → Int32) (x3 : Int32) (x4 : Int32) : Option ((Int32 × Int32 × Int32) ⊕ (Int32 × Int32)) :=
  if q_in ((40 * x3) + x4) 960 then (
  q_let (Z_xs ((40 * x3) + x4).toNatClampNeg) (fun v17 =>
  jX10_straighten_186 v17 x3 x4
  )
  ) else none
noncomputable def bX10_straighten_142 (Z_sizes : Nat → Int32) (Z_xs : Nat → Int32) (x3 : Int32) (x1 : Int32) (x2 : Int32) (x4 : Int32) : Option ((Int32 × Int32 × Int32) ⊕ (Int32 × Int32)) :=
  if q_in x3 24 then (
  if (Z_sizes x3.toNatClampNeg) ≤ x4 then (
    some (.inr (x1, x2))
  ) else (
    if x1 = 0 then (
      jX10_straighten_173 Z_xs x3 x4
    ) else (
      if q_in ((40 * x3) + x4) 960 then (
      if x2 ≤ (Z_xs ((40 * x3) + x4).toNatClampNeg) then (
        jX10_straighten_186 x2 x3 x4
      ) else (
        jX10_straighten_173 Z_xs x3 x4
      )
      ) else none
    )
  )
  ) else none
noncomputable def bX10_straighten_131 (Z_layers : Int32) (Z_sizes : Nat → Int32) (Z_xs : Nat → Int32) (x1 : Int32) (x2 : Int32) (x3 : Int32) : Option ((Int32 × Int32 × Int32) ⊕ (Int32)) :=
  if Z_layers ≤ x3 then (
    some (.inr x2)
  ) else (
    q_b2 (q_lo (fun (st : Int32 × Int32 × Int32) => bX10_straighten_142 Z_sizes Z_xs x3 st.1 st.2.1 st.2.2) (x1, x2, 0)) (fun q13_0 q13_1 =>
      some (.inl (q13_0, q13_1, (x3 + 1))))
  )
noncomputable def bX10_straighten_213 (Z_sizes : Nat → Int32) (x2 : Int32) (x3 : Int32) (x4 : Int32) (Z_xs : Nat → Int32) : Option ((Int32 × (Nat → Int32)) ⊕ ((Nat → Int32))) :=
  if q_in x3 24 then (
  if (Z_sizes x3.toNatClampNeg) ≤ x4 then (
    some (.inr Z_xs)
  ) else (
    if q_in ((40 * x3) + x4) 960 then (
    if q_in ((40 * x3) + x4) 960 then (
    some (.inl ((x4 + 1), (upd Z_xs ((40 * x3) + x4).toNatClampNeg ((Z_xs ((40 * x3) + x4).toNatClampNeg) - x2))))
    ) else none
    ) else none
  )
  ) else none
noncomputable def bX10_straighten_202 (Z_layers : Int32) (Z_sizes : Nat → Int32) (x2 : Int32) (x3 : Int32) (Z_xs : Nat → Int32) : Option ((Int32 × (Nat → Int32)) ⊕ ((Nat → Int32))) :=
  if Z_layers ≤ x3 then (
    some (.inr Z_xs)
  ) else (
    Option.bind (q_lo (fun (st : Int32 × (Nat → Int32)) => bX10_straighten_213 Z_sizes x2 x3 st.1 st.2) (0, Z_xs)) (fun q21 =>
      some (.inl ((x3 + 1), q21)))
  )
noncomputable def fX10_straighten (Z_width : Nat → Int32) (Z_isArrow : Nat → Int32) (Z_from : Nat → Int32) (Z_to : Nat → Int32) (Z_turned : Nat → Int32) (Z_layers : Int32) (Z_layer : Nat → Int32) (Z_sizes : Nat → Int32) (Z_items : Nat → Int32) (Z_place : Nat → Int32) (Z_dummyPlace : Nat → Int32) (Z_xs : Nat → Int32) : Option ((Nat → Int32)) :=
  Option.bind (q_lo (fun (st : Int32 × (Nat → Int32)) => bX10_straighten_2 Z_width Z_layers Z_sizes Z_items st.1 st.2) (0, Z_xs)) (fun q1 =>
    Option.bind (q_lo (fun (st : Int32 × (Nat → Int32)) => bX10_straighten_65 Z_width Z_isArrow Z_from Z_to Z_turned Z_layers Z_layer Z_sizes Z_items Z_place Z_dummyPlace st.1 st.2) (0, q1)) (fun q7 =>
      Option.bind (q_lo (fun (st : Int32 × Int32 × Int32) => bX10_straighten_131 Z_layers Z_sizes q7 st.1 st.2.1 st.2.2) (0, 0, 0)) (fun q12 =>
        Option.bind (q_lo (fun (st : Int32 × (Nat → Int32)) => bX10_straighten_202 Z_layers Z_sizes q12 st.1 st.2) (0, q7)) (fun q20 =>
          some q20))))
abbrev iX10_made (aZ : Nat → Nat) (cI cZ : ClassId) (Z_code : Int32) (Z_isBox : Nat → Int32) (Z_width : Nat → Int32) (Z_isArrow : Nat → Int32) (Z_from : Nat → Int32) (Z_to : Nat → Int32) (Z_turned : Nat → Int32) (Z_told : Int32) (Z_layers : Int32) (Z_layer : Nat → Int32) (Z_sizes : Nat → Int32) (Z_items : Nat → Int32) (Z_place : Nat → Int32) (Z_dummyPlace : Nat → Int32) (Z_xs : Nat → Int32) (Z_oldLayer : Nat → Int32) (Z_oldPlace : Nat → Int32) (Z_oldDummy : Nat → Int32) : va_W := [((aZ 0), .inr (10, [.int Z_code, .ref (aZ 1), .ref (aZ 2), .ref (aZ 3), .ref (aZ 4), .ref (aZ 5), .ref (aZ 6), .ref (aZ 7), .int Z_told, .int Z_layers, .ref (aZ 8), .ref (aZ 9), .ref (aZ 10), .ref (aZ 11), .ref (aZ 12), .ref (aZ 13), .ref (aZ 14), .ref (aZ 15), .ref (aZ 16), .ref (aZ 17), .ref (aZ 18), .ref (aZ 19), .ref (aZ 20), .ref (aZ 21)])), ((aZ 1), .inl (cZ, 16, .inl Z_isBox)), ((aZ 2), .inl (cI, 16, .inl Z_width)), ((aZ 4), .inl (cZ, 24, .inl Z_isArrow)), ((aZ 5), .inl (cI, 24, .inl Z_from)), ((aZ 6), .inl (cI, 24, .inl Z_to)), ((aZ 7), .inl (cZ, 24, .inl Z_turned)), ((aZ 8), .inl (cI, 16, .inl Z_layer)), ((aZ 9), .inl (cI, 24, .inl Z_sizes)), ((aZ 10), .inl (cI, 960, .inl Z_items)), ((aZ 11), .inl (cI, 16, .inl Z_place)), ((aZ 12), .inl (cI, 576, .inl Z_dummyPlace)), ((aZ 13), .inl (cI, 960, .inl Z_xs)), ((aZ 14), .inl (cI, 16, .inl Z_oldLayer)), ((aZ 15), .inl (cI, 16, .inl Z_oldPlace)), ((aZ 16), .inl (cI, 576, .inl Z_oldDummy))]
noncomputable def jX10_made_41 (Z_place : Nat → Int32) (Z_oldLayer : Nat → Int32) (Z_oldPlace : Nat → Int32) (x1 : Int32) (s0 : Int32) (s1 : Int32) : Option ((Int32 × (Nat → Int32) × (Nat → Int32)) ⊕ ((Nat → Int32) × (Nat → Int32))) :=
  if q_in s1 16 then (
  if q_in x1 16 then (
  if q_in x1 16 then (
  some (.inl ((x1 + 1), (upd Z_oldLayer s1.toNatClampNeg s0), (upd Z_oldPlace x1.toNatClampNeg (Z_place x1.toNatClampNeg))))
  ) else none
  ) else none
  ) else none
noncomputable def bX10_made_11 (Z_isBox : Nat → Int32) (Z_layer : Nat → Int32) (Z_place : Nat → Int32) (x1 : Int32) (Z_oldLayer : Nat → Int32) (Z_oldPlace : Nat → Int32) : Option ((Int32 × (Nat → Int32) × (Nat → Int32)) ⊕ ((Nat → Int32) × (Nat → Int32))) :=
  if 16 ≤ x1 then (
    some (.inr (Z_oldLayer, Z_oldPlace))
  ) else (
    if q_in x1 16 then (
    if (Z_isBox x1.toNatClampNeg) = 0 then (
      jX10_made_41 Z_place Z_oldLayer Z_oldPlace x1 (-1) x1
    ) else (
      if q_in x1 16 then (
      jX10_made_41 Z_place Z_oldLayer Z_oldPlace x1 (Z_layer x1.toNatClampNeg) x1
      ) else none
    )
    ) else none
  )
noncomputable def jX10_made_99 (Z_oldDummy : Nat → Int32) (x1 : Int32) (s0 : Int32) (s1 : Int32) : Option ((Int32 × (Nat → Int32)) ⊕ ((Nat → Int32))) :=
  if q_in s1 576 then (
  some (.inl ((x1 + 1), (upd Z_oldDummy s1.toNatClampNeg s0)))
  ) else none
noncomputable def bX10_made_62 (Z_isArrow : Nat → Int32) (Z_from : Nat → Int32) (Z_to : Nat → Int32) (Z_turned : Nat → Int32) (Z_layer : Nat → Int32) (Z_dummyPlace : Nat → Int32) (x1 : Int32) (Z_oldDummy : Nat → Int32) : Option ((Int32 × (Nat → Int32)) ⊕ ((Nat → Int32))) :=
  if 576 ≤ x1 then (
    some (.inr Z_oldDummy)
  ) else (
    Option.bind (fX10_hasDummy Z_isArrow Z_from Z_to Z_turned Z_layer (x1 / 24) (x1 - x1 / 24 * 24)) (fun q12 =>
    if q12 = 0 then (
      jX10_made_99 Z_oldDummy x1 (-1) x1
    ) else (
      if q_in x1 576 then (
      jX10_made_99 Z_oldDummy x1 (Z_dummyPlace x1.toNatClampNeg) x1
      ) else none
    )
    )
  )
noncomputable def fX10_made (Z_isBox : Nat → Int32) (Z_width : Nat → Int32) (Z_isArrow : Nat → Int32) (Z_from : Nat → Int32) (Z_to : Nat → Int32) (Z_turned : Nat → Int32) (Z_layers : Int32) (Z_layer : Nat → Int32) (Z_sizes : Nat → Int32) (Z_items : Nat → Int32) (Z_place : Nat → Int32) (Z_dummyPlace : Nat → Int32) (Z_xs : Nat → Int32) (Z_oldLayer : Nat → Int32) (Z_oldPlace : Nat → Int32) (Z_oldDummy : Nat → Int32) : Option (Int32 × (Nat → Int32) × (Nat → Int32) × (Nat → Int32) × (Nat → Int32)) :=
  Option.bind (fX10_straighten Z_width Z_isArrow Z_from Z_to Z_turned Z_layers Z_layer Z_sizes Z_items Z_place Z_dummyPlace Z_xs) (fun q1 =>
  q_b2 (q_lo (fun (st : Int32 × (Nat → Int32) × (Nat → Int32)) => bX10_made_11 Z_isBox Z_layer Z_place st.1 st.2.1 st.2.2) (0, Z_oldLayer, Z_oldPlace)) (fun q2_0 q2_1 =>
    Option.bind (q_lo (fun (st : Int32 × (Nat → Int32)) => bX10_made_62 Z_isArrow Z_from Z_to Z_turned Z_layer Z_dummyPlace st.1 st.2) (0, Z_oldDummy)) (fun q9 =>
      some (1, q1, q2_0, q2_1, q9)))
  )
abbrev iX10_draw (aZ : Nat → Nat) (cI cZ : ClassId) (Z_code : Int32) (Z_isBox : Nat → Int32) (Z_width : Nat → Int32) (Z_pinned : Nat → Int32) (Z_isArrow : Nat → Int32) (Z_from : Nat → Int32) (Z_to : Nat → Int32) (Z_turned : Nat → Int32) (Z_told : Int32) (Z_layers : Int32) (Z_layer : Nat → Int32) (Z_sizes : Nat → Int32) (Z_items : Nat → Int32) (Z_place : Nat → Int32) (Z_dummyPlace : Nat → Int32) (Z_xs : Nat → Int32) (Z_oldLayer : Nat → Int32) (Z_oldPlace : Nat → Int32) (Z_oldDummy : Nat → Int32) (Z_row : Nat → Int32) (Z_ends : Nat → Int32) (Z_near : Nat → Int32) (Z_come : Nat → Int32) : va_W := [((aZ 0), .inr (10, [.int Z_code, .ref (aZ 1), .ref (aZ 2), .ref (aZ 3), .ref (aZ 4), .ref (aZ 5), .ref (aZ 6), .ref (aZ 7), .int Z_told, .int Z_layers, .ref (aZ 8), .ref (aZ 9), .ref (aZ 10), .ref (aZ 11), .ref (aZ 12), .ref (aZ 13), .ref (aZ 14), .ref (aZ 15), .ref (aZ 16), .ref (aZ 17), .ref (aZ 18), .ref (aZ 19), .ref (aZ 20), .ref (aZ 21)])), ((aZ 1), .inl (cZ, 16, .inl Z_isBox)), ((aZ 2), .inl (cI, 16, .inl Z_width)), ((aZ 3), .inl (cI, 16, .inl Z_pinned)), ((aZ 4), .inl (cZ, 24, .inl Z_isArrow)), ((aZ 5), .inl (cI, 24, .inl Z_from)), ((aZ 6), .inl (cI, 24, .inl Z_to)), ((aZ 7), .inl (cZ, 24, .inl Z_turned)), ((aZ 8), .inl (cI, 16, .inl Z_layer)), ((aZ 9), .inl (cI, 24, .inl Z_sizes)), ((aZ 10), .inl (cI, 960, .inl Z_items)), ((aZ 11), .inl (cI, 16, .inl Z_place)), ((aZ 12), .inl (cI, 576, .inl Z_dummyPlace)), ((aZ 13), .inl (cI, 960, .inl Z_xs)), ((aZ 14), .inl (cI, 16, .inl Z_oldLayer)), ((aZ 15), .inl (cI, 16, .inl Z_oldPlace)), ((aZ 16), .inl (cI, 576, .inl Z_oldDummy)), ((aZ 18), .inl (cI, 40, .inl Z_row)), ((aZ 19), .inl (cI, 40, .inl Z_ends)), ((aZ 20), .inl (cI, 40, .inl Z_near)), ((aZ 21), .inl (cZ, 16, .inl Z_come))]
noncomputable def jX10_draw_15 (Z_isBox : Nat → Int32) (Z_width : Nat → Int32) (Z_pinned : Nat → Int32) (Z_isArrow : Nat → Int32) (Z_from : Nat → Int32) (Z_to : Nat → Int32) (Z_turned : Nat → Int32) (Z_told : Int32) (Z_layers : Int32) (Z_layer : Nat → Int32) (Z_sizes : Nat → Int32) (Z_items : Nat → Int32) (Z_place : Nat → Int32) (Z_dummyPlace : Nat → Int32) (Z_xs : Nat → Int32) (Z_oldLayer : Nat → Int32) (Z_oldPlace : Nat → Int32) (Z_oldDummy : Nat → Int32) (Z_row : Nat → Int32) (Z_ends : Nat → Int32) (Z_near : Nat → Int32) (Z_come : Nat → Int32) (x1 : Int32) (s0 : Int32) : Option (Int32 × Int32 × (Nat → Int32) × Int32 × Int32 × (Nat → Int32) × (Nat → Int32) × (Nat → Int32) × (Nat → Int32) × (Nat → Int32) × (Nat → Int32) × (Nat → Int32) × (Nat → Int32) × (Nat → Int32) × (Nat → Int32) × (Nat → Int32) × (Nat → Int32) × (Nat → Int32)) :=
  if s0 ≤ 0 then (
    q_b5 (fX10_layOut Z_isBox Z_pinned Z_isArrow Z_from Z_to Z_turned Z_layer Z_come) (fun q2_0 q2_1 q2_2 q2_3 q2_4 =>
    if q2_0 = 0 then (
      some (0, s0, q2_1, 0, q2_2, q2_3, Z_sizes, Z_items, Z_place, Z_dummyPlace, Z_xs, Z_oldLayer, Z_oldPlace, Z_oldDummy, Z_row, Z_ends, Z_near, q2_4)
    ) else (
      q_b7 (fX10_drawOrders Z_isBox Z_isArrow Z_from Z_to q2_1 q2_2 q2_3 Z_sizes Z_items Z_place Z_dummyPlace Z_row Z_ends Z_near x1) (fun q3_0 q3_1 q3_2 q3_3 q3_4 q3_5 q3_6 =>
      q_b5 (fX10_made Z_isBox Z_width Z_isArrow Z_from Z_to q2_1 q2_2 q2_3 q3_0 q3_1 q3_2 q3_3 Z_xs Z_oldLayer Z_oldPlace Z_oldDummy) (fun q4_0 q4_1 q4_2 q4_3 q4_4 =>
      some (1, s0, q2_1, q4_0, q2_2, q2_3, q3_0, q3_1, q3_2, q3_3, q4_1, q4_2, q4_3, q4_4, q3_4, q3_5, q3_6, q2_4)
      )
      )
    )
    )
  ) else (
    some (0, s0, Z_turned, Z_told, Z_layers, Z_layer, Z_sizes, Z_items, Z_place, Z_dummyPlace, Z_xs, Z_oldLayer, Z_oldPlace, Z_oldDummy, Z_row, Z_ends, Z_near, Z_come)
  )
noncomputable def fX10_draw (Z_isBox : Nat → Int32) (Z_width : Nat → Int32) (Z_pinned : Nat → Int32) (Z_isArrow : Nat → Int32) (Z_from : Nat → Int32) (Z_to : Nat → Int32) (Z_turned : Nat → Int32) (Z_told : Int32) (Z_layers : Int32) (Z_layer : Nat → Int32) (Z_sizes : Nat → Int32) (Z_items : Nat → Int32) (Z_place : Nat → Int32) (Z_dummyPlace : Nat → Int32) (Z_xs : Nat → Int32) (Z_oldLayer : Nat → Int32) (Z_oldPlace : Nat → Int32) (Z_oldDummy : Nat → Int32) (Z_row : Nat → Int32) (Z_ends : Nat → Int32) (Z_near : Nat → Int32) (Z_come : Nat → Int32) (p0 : Int32) : Option (Int32 × Int32 × (Nat → Int32) × Int32 × Int32 × (Nat → Int32) × (Nat → Int32) × (Nat → Int32) × (Nat → Int32) × (Nat → Int32) × (Nat → Int32) × (Nat → Int32) × (Nat → Int32) × (Nat → Int32) × (Nat → Int32) × (Nat → Int32) × (Nat → Int32) × (Nat → Int32)) :=
  Option.bind (fX10_in p0 0 4) (fun q5 =>
  if q5 = 0 then (
    jX10_draw_15 Z_isBox Z_width Z_pinned Z_isArrow Z_from Z_to Z_turned Z_told Z_layers Z_layer Z_sizes Z_items Z_place Z_dummyPlace Z_xs Z_oldLayer Z_oldPlace Z_oldDummy Z_row Z_ends Z_near Z_come p0 1
  ) else (
    jX10_draw_15 Z_isBox Z_width Z_pinned Z_isArrow Z_from Z_to Z_turned Z_told Z_layers Z_layer Z_sizes Z_items Z_place Z_dummyPlace Z_xs Z_oldLayer Z_oldPlace Z_oldDummy Z_row Z_ends Z_near Z_come p0 0
  )
  )
abbrev iX10_drop (aZ : Nat → Nat) (cI cZ : ClassId) (Z_code : Int32) (Z_isArrow : Nat → Int32) (Z_told : Int32) (Z_layers : Int32) : va_W := [((aZ 0), .inr (10, [.int Z_code, .ref (aZ 1), .ref (aZ 2), .ref (aZ 3), .ref (aZ 4), .ref (aZ 5), .ref (aZ 6), .ref (aZ 7), .int Z_told, .int Z_layers, .ref (aZ 8), .ref (aZ 9), .ref (aZ 10), .ref (aZ 11), .ref (aZ 12), .ref (aZ 13), .ref (aZ 14), .ref (aZ 15), .ref (aZ 16), .ref (aZ 17), .ref (aZ 18), .ref (aZ 19), .ref (aZ 20), .ref (aZ 21)])), ((aZ 4), .inl (cZ, 24, .inl Z_isArrow))]
noncomputable def jX10_drop_16 (Z_isArrow : Nat → Int32) (Z_told : Int32) (x1 : Int32) (s0 : Int32) : Option (Int32 × Int32 × (Nat → Int32) × Int32) :=
  if 0 < s0 then (
    some (0, s0, Z_isArrow, Z_told)
  ) else (
    if q_in x1 24 then (
    if (Z_isArrow x1.toNatClampNeg) = 0 then (
      some (0, s0, Z_isArrow, Z_told)
    ) else (
      if q_in x1 24 then (
      some (1, s0, (upd Z_isArrow x1.toNatClampNeg 0), 0)
      ) else none
    )
    ) else none
  )
noncomputable def fX10_drop (Z_isArrow : Nat → Int32) (Z_told : Int32) (p0 : Int32) : Option (Int32 × Int32 × (Nat → Int32) × Int32) :=
  Option.bind (fX10_in p0 0 23) (fun q4 =>
  if q4 = 0 then (
    jX10_drop_16 Z_isArrow Z_told p0 1
  ) else (
    jX10_drop_16 Z_isArrow Z_told p0 0
  )
  )
abbrev iX10_item (aZ : Nat → Nat) (cI cZ : ClassId) (Z_code : Int32) (Z_told : Int32) (Z_layers : Int32) (Z_sizes : Nat → Int32) (Z_items : Nat → Int32) : va_W := [((aZ 0), .inr (10, [.int Z_code, .ref (aZ 1), .ref (aZ 2), .ref (aZ 3), .ref (aZ 4), .ref (aZ 5), .ref (aZ 6), .ref (aZ 7), .int Z_told, .int Z_layers, .ref (aZ 8), .ref (aZ 9), .ref (aZ 10), .ref (aZ 11), .ref (aZ 12), .ref (aZ 13), .ref (aZ 14), .ref (aZ 15), .ref (aZ 16), .ref (aZ 17), .ref (aZ 18), .ref (aZ 19), .ref (aZ 20), .ref (aZ 21)])), ((aZ 9), .inl (cI, 24, .inl Z_sizes)), ((aZ 10), .inl (cI, 960, .inl Z_items))]
noncomputable def fX10_item (Z_told : Int32) (Z_layers : Int32) (Z_sizes : Nat → Int32) (Z_items : Nat → Int32) (p0 : Int32) (p1 : Int32) : Option (Int32 × Int32) :=
  if Z_told = 0 then (
    some ((-1), 0)
  ) else (
    Option.bind (fX10_in p0 0 (Z_layers - 1)) (fun q1 =>
    if q1 = 0 then (
      some ((-1), 0)
    ) else (
      if q_in p0 24 then (
      Option.bind (fX10_in p1 0 ((Z_sizes p0.toNatClampNeg) - 1)) (fun q3 =>
      if q3 = 0 then (
        some ((-1), 0)
      ) else (
        Option.bind (fX10_item0 Z_items p0 p1) (fun q4 =>
        some (q4, 0)
        )
      )
      )
      ) else none
    )
    )
  )
abbrev iX10_oldPlaceOf (aZ : Nat → Nat) (cI cZ : ClassId) (Z_code : Int32) (Z_told : Int32) (Z_layers : Int32) (Z_oldLayer : Nat → Int32) (Z_oldPlace : Nat → Int32) (Z_oldDummy : Nat → Int32) : va_W := [((aZ 0), .inr (10, [.int Z_code, .ref (aZ 1), .ref (aZ 2), .ref (aZ 3), .ref (aZ 4), .ref (aZ 5), .ref (aZ 6), .ref (aZ 7), .int Z_told, .int Z_layers, .ref (aZ 8), .ref (aZ 9), .ref (aZ 10), .ref (aZ 11), .ref (aZ 12), .ref (aZ 13), .ref (aZ 14), .ref (aZ 15), .ref (aZ 16), .ref (aZ 17), .ref (aZ 18), .ref (aZ 19), .ref (aZ 20), .ref (aZ 21)])), ((aZ 14), .inl (cI, 16, .inl Z_oldLayer)), ((aZ 15), .inl (cI, 16, .inl Z_oldPlace)), ((aZ 16), .inl (cI, 576, .inl Z_oldDummy))]
noncomputable def fX10_oldPlaceOf (Z_oldLayer : Nat → Int32) (Z_oldPlace : Nat → Int32) (Z_oldDummy : Nat → Int32) (p0 : Int32) (p1 : Int32) : Option (Int32) :=
  if p0 < 100 then (
    if q_in p0 16 then (
    if (Z_oldLayer p0.toNatClampNeg) = p1 then (
      if q_in p0 16 then (
      some (Z_oldPlace p0.toNatClampNeg)
      ) else none
    ) else (
      some (-1)
    )
    ) else none
  ) else (
    if q_in ((24 * (p0 - 100)) + p1) 576 then (
    some (Z_oldDummy ((24 * (p0 - 100)) + p1).toNatClampNeg)
    ) else none
  )
abbrev iX10_oldOrders (aZ : Nat → Nat) (cI cZ : ClassId) (Z_code : Int32) (Z_isBox : Nat → Int32) (Z_isArrow : Nat → Int32) (Z_from : Nat → Int32) (Z_to : Nat → Int32) (Z_turned : Nat → Int32) (Z_told : Int32) (Z_layers : Int32) (Z_layer : Nat → Int32) (Z_sizes : Nat → Int32) (Z_items : Nat → Int32) (Z_place : Nat → Int32) (Z_dummyPlace : Nat → Int32) (Z_oldLayer : Nat → Int32) (Z_oldPlace : Nat → Int32) (Z_oldDummy : Nat → Int32) (Z_row : Nat → Int32) : va_W := [((aZ 0), .inr (10, [.int Z_code, .ref (aZ 1), .ref (aZ 2), .ref (aZ 3), .ref (aZ 4), .ref (aZ 5), .ref (aZ 6), .ref (aZ 7), .int Z_told, .int Z_layers, .ref (aZ 8), .ref (aZ 9), .ref (aZ 10), .ref (aZ 11), .ref (aZ 12), .ref (aZ 13), .ref (aZ 14), .ref (aZ 15), .ref (aZ 16), .ref (aZ 17), .ref (aZ 18), .ref (aZ 19), .ref (aZ 20), .ref (aZ 21)])), ((aZ 1), .inl (cZ, 16, .inl Z_isBox)), ((aZ 4), .inl (cZ, 24, .inl Z_isArrow)), ((aZ 5), .inl (cI, 24, .inl Z_from)), ((aZ 6), .inl (cI, 24, .inl Z_to)), ((aZ 7), .inl (cZ, 24, .inl Z_turned)), ((aZ 8), .inl (cI, 16, .inl Z_layer)), ((aZ 9), .inl (cI, 24, .inl Z_sizes)), ((aZ 10), .inl (cI, 960, .inl Z_items)), ((aZ 11), .inl (cI, 16, .inl Z_place)), ((aZ 12), .inl (cI, 576, .inl Z_dummyPlace)), ((aZ 14), .inl (cI, 16, .inl Z_oldLayer)), ((aZ 15), .inl (cI, 16, .inl Z_oldPlace)), ((aZ 16), .inl (cI, 576, .inl Z_oldDummy)), ((aZ 18), .inl (cI, 40, .inl Z_row))]
noncomputable def jX10_oldOrders_73 (Z_row : Nat → Int32) (x1 : Int32) (x2 : Int32) (x3 : Int32) (x4 : Int32) : Option ((Int32 × Int32 × (Nat → Int32)) ⊕ (Int32 × (Nat → Int32))) :=
  some (.inl (x2, (x4 + 1), Z_row))
noncomputable def bX10_oldOrders_27 (Z_sizes : Nat → Int32) (Z_items : Nat → Int32) (Z_oldLayer : Nat → Int32) (Z_oldPlace : Nat → Int32) (Z_oldDummy : Nat → Int32) (x1 : Int32) (x3 : Int32) (x2 : Int32) (x4 : Int32) (Z_row : Nat → Int32) : Option ((Int32 × Int32 × (Nat → Int32)) ⊕ (Int32 × (Nat → Int32))) :=
  if q_in x1 24 then (
  if (Z_sizes x1.toNatClampNeg) ≤ x4 then (
    some (.inr (x2, Z_row))
  ) else (
    Option.bind (fX10_item0 Z_items x1 x4) (fun q7 =>
    Option.bind (fX10_oldPlaceOf Z_oldLayer Z_oldPlace Z_oldDummy q7 x1) (fun q8 =>
    if q8 = x3 then (
      Option.bind (fX10_item0 Z_items x1 x4) (fun q9 =>
      if q_in x2 40 then (
      jX10_oldOrders_73 (upd Z_row x2.toNatClampNeg q9) x1 (x2 + 1) x3 x4
      ) else none
      )
    ) else (
      jX10_oldOrders_73 Z_row x1 x2 x3 x4
    )
    )
    )
  )
  ) else none
noncomputable def bX10_oldOrders_18 (Z_sizes : Nat → Int32) (Z_items : Nat → Int32) (Z_oldLayer : Nat → Int32) (Z_oldPlace : Nat → Int32) (Z_oldDummy : Nat → Int32) (x1 : Int32) (x2 : Int32) (x3 : Int32) (Z_row : Nat → Int32) : Option ((Int32 × Int32 × (Nat → Int32)) ⊕ (Int32 × (Nat → Int32))) :=
  if 40 ≤ x3 then (
    some (.inr (x2, Z_row))
  ) else (
    q_b2 (q_lo (fun (st : Int32 × Int32 × (Nat → Int32)) => bX10_oldOrders_27 Z_sizes Z_items Z_oldLayer Z_oldPlace Z_oldDummy x1 x3 st.1 st.2.1 st.2.2) (x2, 0, Z_row)) (fun q4_0 q4_1 =>
      some (.inl (q4_0, (x3 + 1), q4_1)))
  )
noncomputable def jX10_oldOrders_129 (Z_row : Nat → Int32) (x1 : Int32) (x2 : Int32) (x3 : Int32) : Option ((Int32 × Int32 × (Nat → Int32)) ⊕ (Int32 × (Nat → Int32))) :=
  some (.inl (x2, (x3 + 1), Z_row))
noncomputable def bX10_oldOrders_87 (Z_sizes : Nat → Int32) (Z_items : Nat → Int32) (Z_oldLayer : Nat → Int32) (Z_oldPlace : Nat → Int32) (Z_oldDummy : Nat → Int32) (x1 : Int32) (x2 : Int32) (x3 : Int32) (Z_row : Nat → Int32) : Option ((Int32 × Int32 × (Nat → Int32)) ⊕ (Int32 × (Nat → Int32))) :=
  if q_in x1 24 then (
  if (Z_sizes x1.toNatClampNeg) ≤ x3 then (
    some (.inr (x2, Z_row))
  ) else (
    Option.bind (fX10_item0 Z_items x1 x3) (fun q14 =>
    Option.bind (fX10_oldPlaceOf Z_oldLayer Z_oldPlace Z_oldDummy q14 x1) (fun q15 =>
    if q15 < 0 then (
      Option.bind (fX10_item0 Z_items x1 x3) (fun q16 =>
      if q_in x2 40 then (
      jX10_oldOrders_129 (upd Z_row x2.toNatClampNeg q16) x1 (x2 + 1) x3
      ) else none
      )
    ) else (
      jX10_oldOrders_129 Z_row x1 x2 x3
    )
    )
    )
  )
  ) else none
noncomputable def bX10_oldOrders_137 (Z_row : Nat → Int32) (x1 : Int32) (x2 : Int32) (x3 : Int32) (Z_items : Nat → Int32) : Option ((Int32 × (Nat → Int32)) ⊕ ((Nat → Int32))) :=
  if x2 ≤ x3 then (
    some (.inr Z_items)
  ) else (
    if q_in x3 40 then (
    if q_in ((40 * x1) + x3) 960 then (
    some (.inl ((x3 + 1), (upd Z_items ((40 * x1) + x3).toNatClampNeg (Z_row x3.toNatClampNeg))))
    ) else none
    ) else none
  )
noncomputable def bX10_oldOrders_6 (Z_layers : Int32) (Z_sizes : Nat → Int32) (Z_oldLayer : Nat → Int32) (Z_oldPlace : Nat → Int32) (Z_oldDummy : Nat → Int32) (x1 : Int32) (Z_items : Nat → Int32) (Z_place : Nat → Int32) (Z_dummyPlace : Nat → Int32) (Z_row : Nat → Int32) : Option ((Int32 × (Nat → Int32) × (Nat → Int32) × (Nat → Int32) × (Nat → Int32)) ⊕ ((Nat → Int32) × (Nat → Int32) × (Nat → Int32) × (Nat → Int32))) :=
  if Z_layers ≤ x1 then (
    some (.inr (Z_items, Z_place, Z_dummyPlace, Z_row))
  ) else (
    q_b2 (q_lo (fun (st : Int32 × Int32 × (Nat → Int32)) => bX10_oldOrders_18 Z_sizes Z_items Z_oldLayer Z_oldPlace Z_oldDummy x1 st.1 st.2.1 st.2.2) (0, 0, Z_row)) (fun q3_0 q3_1 =>
      q_b2 (q_lo (fun (st : Int32 × Int32 × (Nat → Int32)) => bX10_oldOrders_87 Z_sizes Z_items Z_oldLayer Z_oldPlace Z_oldDummy x1 st.1 st.2.1 st.2.2) (q3_0, 0, q3_1)) (fun q11_0 q11_1 =>
        Option.bind (q_lo (fun (st : Int32 × (Nat → Int32)) => bX10_oldOrders_137 q11_1 x1 q11_0 st.1 st.2) (0, Z_items)) (fun q18 =>
          q_b2 (fX10_note Z_sizes q18 Z_place Z_dummyPlace x1) (fun q21_0 q21_1 =>
          some (.inl ((x1 + 1), q18, q21_0, q21_1, q11_1))
          ))))
  )
noncomputable def fX10_oldOrders (Z_isBox : Nat → Int32) (Z_isArrow : Nat → Int32) (Z_from : Nat → Int32) (Z_to : Nat → Int32) (Z_turned : Nat → Int32) (Z_layers : Int32) (Z_layer : Nat → Int32) (Z_sizes : Nat → Int32) (Z_items : Nat → Int32) (Z_place : Nat → Int32) (Z_dummyPlace : Nat → Int32) (Z_oldLayer : Nat → Int32) (Z_oldPlace : Nat → Int32) (Z_oldDummy : Nat → Int32) (Z_row : Nat → Int32) : Option ((Nat → Int32) × (Nat → Int32) × (Nat → Int32) × (Nat → Int32) × (Nat → Int32)) :=
  q_b4 (fX10_firstOrders Z_isBox Z_isArrow Z_from Z_to Z_turned Z_layers Z_layer Z_sizes Z_items Z_place Z_dummyPlace) (fun q1_0 q1_1 q1_2 q1_3 =>
  q_b4 (q_lo (fun (st : Int32 × (Nat → Int32) × (Nat → Int32) × (Nat → Int32) × (Nat → Int32)) => bX10_oldOrders_6 Z_layers q1_0 Z_oldLayer Z_oldPlace Z_oldDummy st.1 st.2.1 st.2.2.1 st.2.2.2.1 st.2.2.2.2) (0, q1_1, q1_2, q1_3, Z_row)) (fun q2_0 q2_1 q2_2 q2_3 =>
    some (q1_0, q2_0, q2_1, q2_2, q2_3))
  )
abbrev iX10_piece (aZ : Nat → Nat) (cI cZ : ClassId) (Z_code : Int32) (Z_width : Nat → Int32) (Z_isArrow : Nat → Int32) (Z_from : Nat → Int32) (Z_to : Nat → Int32) (Z_turned : Nat → Int32) (Z_told : Int32) (Z_layers : Int32) (Z_layer : Nat → Int32) (Z_items : Nat → Int32) (Z_place : Nat → Int32) (Z_dummyPlace : Nat → Int32) (Z_xs : Nat → Int32) (Z_ends : Nat → Int32) : va_W := [((aZ 0), .inr (10, [.int Z_code, .ref (aZ 1), .ref (aZ 2), .ref (aZ 3), .ref (aZ 4), .ref (aZ 5), .ref (aZ 6), .ref (aZ 7), .int Z_told, .int Z_layers, .ref (aZ 8), .ref (aZ 9), .ref (aZ 10), .ref (aZ 11), .ref (aZ 12), .ref (aZ 13), .ref (aZ 14), .ref (aZ 15), .ref (aZ 16), .ref (aZ 17), .ref (aZ 18), .ref (aZ 19), .ref (aZ 20), .ref (aZ 21)])), ((aZ 2), .inl (cI, 16, .inl Z_width)), ((aZ 4), .inl (cZ, 24, .inl Z_isArrow)), ((aZ 5), .inl (cI, 24, .inl Z_from)), ((aZ 6), .inl (cI, 24, .inl Z_to)), ((aZ 7), .inl (cZ, 24, .inl Z_turned)), ((aZ 8), .inl (cI, 16, .inl Z_layer)), ((aZ 10), .inl (cI, 960, .inl Z_items)), ((aZ 11), .inl (cI, 16, .inl Z_place)), ((aZ 12), .inl (cI, 576, .inl Z_dummyPlace)), ((aZ 13), .inl (cI, 960, .inl Z_xs)), ((aZ 19), .inl (cI, 40, .inl Z_ends))]
noncomputable def jX10_piece_25 (Z_width : Nat → Int32) (Z_isArrow : Nat → Int32) (Z_from : Nat → Int32) (Z_to : Nat → Int32) (Z_turned : Nat → Int32) (Z_told : Int32) (Z_layer : Nat → Int32) (Z_items : Nat → Int32) (Z_place : Nat → Int32) (Z_dummyPlace : Nat → Int32) (Z_xs : Nat → Int32) (Z_ends : Nat → Int32) (x1 : Int32) (x2 : Int32) (x3 : Int32) (s0 : Int32) : Option (Int32 × Int32 × (Nat → Int32)) :=
  if s0 ≤ 0 then (
    if Z_told = 0 then (
      some ((-1), s0, Z_ends)
    ) else (
      Option.bind (fX10_hasPiece Z_isArrow Z_from Z_to Z_turned Z_layer x1 x2) (fun q2 =>
      if q2 = 0 then (
        some ((-1), s0, Z_ends)
      ) else (
        if x3 = 2 then (
          q_b2 (fX10_track Z_width Z_isArrow Z_from Z_to Z_turned Z_layer Z_items Z_place Z_dummyPlace Z_xs Z_ends x1 x2) (fun q7_0 q7_1 =>
          some (q7_0, s0, q7_1)
          )
        ) else (
          if x3 = 0 then (
            Option.bind (fX10_upperPlace Z_from Z_to Z_turned Z_layer Z_place Z_dummyPlace x1 x2) (fun q5 =>
            Option.bind (fX10_middle Z_width Z_items Z_xs x2 q5) (fun q6 =>
            some (q6, s0, Z_ends)
            )
            )
          ) else (
            Option.bind (fX10_lowerPlace Z_from Z_to Z_turned Z_layer Z_place Z_dummyPlace x1 x2) (fun q3 =>
            Option.bind (fX10_middle Z_width Z_items Z_xs (x2 + 1) q3) (fun q4 =>
            some (q4, s0, Z_ends)
            )
            )
          )
        )
      )
      )
    )
  ) else (
    some (0, s0, Z_ends)
  )
noncomputable def jX10_piece_24 (Z_width : Nat → Int32) (Z_isArrow : Nat → Int32) (Z_from : Nat → Int32) (Z_to : Nat → Int32) (Z_turned : Nat → Int32) (Z_told : Int32) (Z_layer : Nat → Int32) (Z_items : Nat → Int32) (Z_place : Nat → Int32) (Z_dummyPlace : Nat → Int32) (Z_xs : Nat → Int32) (Z_ends : Nat → Int32) (x1 : Int32) (x2 : Int32) (x3 : Int32) : Option (Int32 × Int32 × (Nat → Int32)) :=
  jX10_piece_25 Z_width Z_isArrow Z_from Z_to Z_turned Z_told Z_layer Z_items Z_place Z_dummyPlace Z_xs Z_ends x1 x2 x3 1
noncomputable def fX10_piece (Z_width : Nat → Int32) (Z_isArrow : Nat → Int32) (Z_from : Nat → Int32) (Z_to : Nat → Int32) (Z_turned : Nat → Int32) (Z_told : Int32) (Z_layer : Nat → Int32) (Z_items : Nat → Int32) (Z_place : Nat → Int32) (Z_dummyPlace : Nat → Int32) (Z_xs : Nat → Int32) (Z_ends : Nat → Int32) (p0 : Int32) (p1 : Int32) (p2 : Int32) : Option (Int32 × Int32 × (Nat → Int32)) :=
  Option.bind (fX10_in p0 0 23) (fun q9 =>
  if q9 = 0 then (
    jX10_piece_24 Z_width Z_isArrow Z_from Z_to Z_turned Z_told Z_layer Z_items Z_place Z_dummyPlace Z_xs Z_ends p0 p1 p2
  ) else (
    Option.bind (fX10_in p2 0 2) (fun q10 =>
    if q10 = 0 then (
      jX10_piece_24 Z_width Z_isArrow Z_from Z_to Z_turned Z_told Z_layer Z_items Z_place Z_dummyPlace Z_xs Z_ends p0 p1 p2
    ) else (
      jX10_piece_25 Z_width Z_isArrow Z_from Z_to Z_turned Z_told Z_layer Z_items Z_place Z_dummyPlace Z_xs Z_ends p0 p1 p2 0
    )
    )
  )
  )
abbrev iX10_pin (aZ : Nat → Nat) (cI cZ : ClassId) (Z_code : Int32) (Z_isBox : Nat → Int32) (Z_pinned : Nat → Int32) (Z_told : Int32) (Z_layers : Int32) : va_W := [((aZ 0), .inr (10, [.int Z_code, .ref (aZ 1), .ref (aZ 2), .ref (aZ 3), .ref (aZ 4), .ref (aZ 5), .ref (aZ 6), .ref (aZ 7), .int Z_told, .int Z_layers, .ref (aZ 8), .ref (aZ 9), .ref (aZ 10), .ref (aZ 11), .ref (aZ 12), .ref (aZ 13), .ref (aZ 14), .ref (aZ 15), .ref (aZ 16), .ref (aZ 17), .ref (aZ 18), .ref (aZ 19), .ref (aZ 20), .ref (aZ 21)])), ((aZ 1), .inl (cZ, 16, .inl Z_isBox)), ((aZ 3), .inl (cI, 16, .inl Z_pinned))]
noncomputable def jX10_pin_24 (Z_pinned : Nat → Int32) (Z_told : Int32) (x1 : Int32) (x2 : Int32) (s0 : Int32) : Option (Int32 × (Nat → Int32) × Int32) :=
  if s0 ≤ 0 then (
    if q_in x1 16 then (
    some (s0, (upd Z_pinned x1.toNatClampNeg x2), 0)
    ) else none
  ) else (
    some (s0, Z_pinned, Z_told)
  )
noncomputable def jX10_pin_23 (Z_pinned : Nat → Int32) (Z_told : Int32) (x1 : Int32) (x2 : Int32) : Option (Int32 × (Nat → Int32) × Int32) :=
  jX10_pin_24 Z_pinned Z_told x1 x2 1
noncomputable def fX10_pin (Z_isBox : Nat → Int32) (Z_pinned : Nat → Int32) (Z_told : Int32) (p0 : Int32) (p1 : Int32) : Option (Int32 × (Nat → Int32) × Int32) :=
  Option.bind (fX10_hasBox Z_isBox p0) (fun q4 =>
  if q4 = 0 then (
    jX10_pin_23 Z_pinned Z_told p0 p1
  ) else (
    Option.bind (fX10_in p1 (-1) 8) (fun q5 =>
    if q5 = 0 then (
      jX10_pin_23 Z_pinned Z_told p0 p1
    ) else (
      jX10_pin_24 Z_pinned Z_told p0 p1 0
    )
    )
  )
  )
abbrev iX10_redraw (aZ : Nat → Nat) (cI cZ : ClassId) (Z_code : Int32) (Z_isBox : Nat → Int32) (Z_width : Nat → Int32) (Z_pinned : Nat → Int32) (Z_isArrow : Nat → Int32) (Z_from : Nat → Int32) (Z_to : Nat → Int32) (Z_turned : Nat → Int32) (Z_told : Int32) (Z_layers : Int32) (Z_layer : Nat → Int32) (Z_sizes : Nat → Int32) (Z_items : Nat → Int32) (Z_place : Nat → Int32) (Z_dummyPlace : Nat → Int32) (Z_xs : Nat → Int32) (Z_oldLayer : Nat → Int32) (Z_oldPlace : Nat → Int32) (Z_oldDummy : Nat → Int32) (Z_spare : Nat → Int32) (Z_row : Nat → Int32) (Z_ends : Nat → Int32) (Z_near : Nat → Int32) (Z_come : Nat → Int32) : va_W := [((aZ 0), .inr (10, [.int Z_code, .ref (aZ 1), .ref (aZ 2), .ref (aZ 3), .ref (aZ 4), .ref (aZ 5), .ref (aZ 6), .ref (aZ 7), .int Z_told, .int Z_layers, .ref (aZ 8), .ref (aZ 9), .ref (aZ 10), .ref (aZ 11), .ref (aZ 12), .ref (aZ 13), .ref (aZ 14), .ref (aZ 15), .ref (aZ 16), .ref (aZ 17), .ref (aZ 18), .ref (aZ 19), .ref (aZ 20), .ref (aZ 21)])), ((aZ 1), .inl (cZ, 16, .inl Z_isBox)), ((aZ 2), .inl (cI, 16, .inl Z_width)), ((aZ 3), .inl (cI, 16, .inl Z_pinned)), ((aZ 4), .inl (cZ, 24, .inl Z_isArrow)), ((aZ 5), .inl (cI, 24, .inl Z_from)), ((aZ 6), .inl (cI, 24, .inl Z_to)), ((aZ 7), .inl (cZ, 24, .inl Z_turned)), ((aZ 8), .inl (cI, 16, .inl Z_layer)), ((aZ 9), .inl (cI, 24, .inl Z_sizes)), ((aZ 10), .inl (cI, 960, .inl Z_items)), ((aZ 11), .inl (cI, 16, .inl Z_place)), ((aZ 12), .inl (cI, 576, .inl Z_dummyPlace)), ((aZ 13), .inl (cI, 960, .inl Z_xs)), ((aZ 14), .inl (cI, 16, .inl Z_oldLayer)), ((aZ 15), .inl (cI, 16, .inl Z_oldPlace)), ((aZ 16), .inl (cI, 576, .inl Z_oldDummy)), ((aZ 17), .inl (cI, 960, .inl Z_spare)), ((aZ 18), .inl (cI, 40, .inl Z_row)), ((aZ 19), .inl (cI, 40, .inl Z_ends)), ((aZ 20), .inl (cI, 40, .inl Z_near)), ((aZ 21), .inl (cZ, 16, .inl Z_come))]
noncomputable def jX10_redraw_231 (x4 : Int32) (x5 : Int32) : Option ((Int32 × Int32) ⊕ (Int32)) :=
  some (.inl (x4, (x5 + 1)))
noncomputable def jX10_redraw_228 (x4 : Int32) (x5 : Int32) : Option ((Int32 × Int32) ⊕ (Int32)) :=
  jX10_redraw_231 (x4 + 1) x5
noncomputable def bX10_redraw_167 (Z_isBox : Nat → Int32) (Z_layer : Nat → Int32) (Z_place : Nat → Int32) (Z_oldLayer : Nat → Int32) (Z_oldPlace : Nat → Int32) (x4 : Int32) (x5 : Int32) : Option ((Int32 × Int32) ⊕ (Int32)) :=
  if 16 ≤ x5 then (
    some (.inr x4)
  ) else (
    if q_in x5 16 then (
    if (Z_isBox x5.toNatClampNeg) = 0 then (
      jX10_redraw_231 x4 x5
    ) else (
      if q_in x5 16 then (
      if (Z_oldLayer x5.toNatClampNeg) < 0 then (
        jX10_redraw_231 x4 x5
      ) else (
        if q_in x5 16 then (
        if q_in x5 16 then (
        if (Z_oldLayer x5.toNatClampNeg) = (Z_layer x5.toNatClampNeg) then (
          if q_in x5 16 then (
          if q_in x5 16 then (
          if (Z_oldPlace x5.toNatClampNeg) = (Z_place x5.toNatClampNeg) then (
            jX10_redraw_231 x4 x5
          ) else (
            jX10_redraw_228 x4 x5
          )
          ) else none
          ) else none
        ) else (
          jX10_redraw_228 x4 x5
        )
        ) else none
        ) else none
      )
      ) else none
    )
    ) else none
  )
noncomputable def jX10_redraw_161 (Z_code : Int32) (Z_isBox : Nat → Int32) (Z_width : Nat → Int32) (Z_isArrow : Nat → Int32) (Z_from : Nat → Int32) (Z_to : Nat → Int32) (Z_turned : Nat → Int32) (Z_layers : Int32) (Z_layer : Nat → Int32) (Z_sizes : Nat → Int32) (Z_items : Nat → Int32) (Z_place : Nat → Int32) (Z_dummyPlace : Nat → Int32) (Z_xs : Nat → Int32) (Z_oldLayer : Nat → Int32) (Z_oldPlace : Nat → Int32) (Z_oldDummy : Nat → Int32) (Z_spare : Nat → Int32) (Z_row : Nat → Int32) (Z_ends : Nat → Int32) (Z_near : Nat → Int32) (Z_come : Nat → Int32) : Option (Int32 × Int32 × (Nat → Int32) × Int32 × Int32 × (Nat → Int32) × (Nat → Int32) × (Nat → Int32) × (Nat → Int32) × (Nat → Int32) × (Nat → Int32) × (Nat → Int32) × (Nat → Int32) × (Nat → Int32) × (Nat → Int32) × (Nat → Int32) × (Nat → Int32) × (Nat → Int32) × (Nat → Int32)) :=
  Option.bind (q_lo (fun (st : Int32 × Int32) => bX10_redraw_167 Z_isBox Z_layer Z_place Z_oldLayer Z_oldPlace st.1 st.2) (0, 0)) (fun q2 =>
    q_b5 (fX10_made Z_isBox Z_width Z_isArrow Z_from Z_to Z_turned Z_layers Z_layer Z_sizes Z_items Z_place Z_dummyPlace Z_xs Z_oldLayer Z_oldPlace Z_oldDummy) (fun q11_0 q11_1 q11_2 q11_3 q11_4 =>
    some (q2, Z_code, Z_turned, q11_0, Z_layers, Z_layer, Z_sizes, Z_items, Z_place, Z_dummyPlace, q11_1, q11_2, q11_3, q11_4, Z_spare, Z_row, Z_ends, Z_near, Z_come)
    ))
noncomputable def bX10_redraw_63 (Z_items : Nat → Int32) (x4 : Int32) (Z_spare : Nat → Int32) : Option ((Int32 × (Nat → Int32)) ⊕ ((Nat → Int32))) :=
  if 960 ≤ x4 then (
    some (.inr Z_spare)
  ) else (
    if q_in x4 960 then (
    if q_in x4 960 then (
    some (.inl ((x4 + 1), (upd Z_spare x4.toNatClampNeg (Z_items x4.toNatClampNeg))))
    ) else none
    ) else none
  )
noncomputable def bX10_redraw_109 (Z_spare : Nat → Int32) (x4 : Int32) (Z_items : Nat → Int32) : Option ((Int32 × (Nat → Int32)) ⊕ ((Nat → Int32))) :=
  if 960 ≤ x4 then (
    some (.inr Z_items)
  ) else (
    if q_in x4 960 then (
    if q_in x4 960 then (
    some (.inl ((x4 + 1), (upd Z_items x4.toNatClampNeg (Z_spare x4.toNatClampNeg))))
    ) else none
    ) else none
  )
noncomputable def bX10_redraw_140 (Z_layers : Int32) (Z_sizes : Nat → Int32) (Z_items : Nat → Int32) (x4 : Int32) (Z_place : Nat → Int32) (Z_dummyPlace : Nat → Int32) : Option ((Int32 × (Nat → Int32) × (Nat → Int32)) ⊕ ((Nat → Int32) × (Nat → Int32))) :=
  if Z_layers ≤ x4 then (
    some (.inr (Z_place, Z_dummyPlace))
  ) else (
    q_b2 (fX10_note Z_sizes Z_items Z_place Z_dummyPlace x4) (fun q25_0 q25_1 =>
    some (.inl ((x4 + 1), q25_0, q25_1))
    )
  )
noncomputable def jX10_redraw_25 (Z_isBox : Nat → Int32) (Z_width : Nat → Int32) (Z_pinned : Nat → Int32) (Z_isArrow : Nat → Int32) (Z_from : Nat → Int32) (Z_to : Nat → Int32) (Z_turned : Nat → Int32) (Z_told : Int32) (Z_layers : Int32) (Z_layer : Nat → Int32) (Z_sizes : Nat → Int32) (Z_items : Nat → Int32) (Z_place : Nat → Int32) (Z_dummyPlace : Nat → Int32) (Z_xs : Nat → Int32) (Z_oldLayer : Nat → Int32) (Z_oldPlace : Nat → Int32) (Z_oldDummy : Nat → Int32) (Z_spare : Nat → Int32) (Z_row : Nat → Int32) (Z_ends : Nat → Int32) (Z_near : Nat → Int32) (Z_come : Nat → Int32) (x1 : Int32) (x2 : Int32) (s0 : Int32) : Option (Int32 × Int32 × (Nat → Int32) × Int32 × Int32 × (Nat → Int32) × (Nat → Int32) × (Nat → Int32) × (Nat → Int32) × (Nat → Int32) × (Nat → Int32) × (Nat → Int32) × (Nat → Int32) × (Nat → Int32) × (Nat → Int32) × (Nat → Int32) × (Nat → Int32) × (Nat → Int32) × (Nat → Int32)) :=
  if s0 ≤ 0 then (
    q_b5 (fX10_layOut Z_isBox Z_pinned Z_isArrow Z_from Z_to Z_turned Z_layer Z_come) (fun q13_0 q13_1 q13_2 q13_3 q13_4 =>
    if q13_0 = 0 then (
      some ((-1), s0, q13_1, 0, q13_2, q13_3, Z_sizes, Z_items, Z_place, Z_dummyPlace, Z_xs, Z_oldLayer, Z_oldPlace, Z_oldDummy, Z_spare, Z_row, Z_ends, Z_near, q13_4)
    ) else (
      q_b5 (fX10_oldOrders Z_isBox Z_isArrow Z_from Z_to q13_1 q13_2 q13_3 Z_sizes Z_items Z_place Z_dummyPlace Z_oldLayer Z_oldPlace Z_oldDummy Z_row) (fun q14_0 q14_1 q14_2 q14_3 q14_4 =>
      Option.bind (fX10_allCrossings Z_isArrow Z_from Z_to q13_1 q13_2 q13_3 q14_2 q14_3) (fun q15 =>
      Option.bind (q_lo (fun (st : Int32 × (Nat → Int32)) => bX10_redraw_63 q14_1 st.1 st.2) (0, Z_spare)) (fun q16 =>
        q_b7 (fX10_drawOrders Z_isBox Z_isArrow Z_from Z_to q13_1 q13_2 q13_3 q14_0 q14_1 q14_2 q14_3 q14_4 Z_ends Z_near x1) (fun q19_0 q19_1 q19_2 q19_3 q19_4 q19_5 q19_6 =>
        Option.bind (fX10_allCrossings Z_isArrow Z_from Z_to q13_1 q13_2 q13_3 q19_2 q19_3) (fun q20 =>
        if (q20 + x2) < q15 then (
          jX10_redraw_161 s0 Z_isBox Z_width Z_isArrow Z_from Z_to q13_1 q13_2 q13_3 q19_0 q19_1 q19_2 q19_3 Z_xs Z_oldLayer Z_oldPlace Z_oldDummy q16 q19_4 q19_5 q19_6 q13_4
        ) else (
          Option.bind (q_lo (fun (st : Int32 × (Nat → Int32)) => bX10_redraw_109 q16 st.1 st.2) (0, q19_1)) (fun q21 =>
            q_b2 (q_lo (fun (st : Int32 × (Nat → Int32) × (Nat → Int32)) => bX10_redraw_140 q13_2 q19_0 q21 st.1 st.2.1 st.2.2) (0, q19_2, q19_3)) (fun q24_0 q24_1 =>
              jX10_redraw_161 s0 Z_isBox Z_width Z_isArrow Z_from Z_to q13_1 q13_2 q13_3 q19_0 q21 q24_0 q24_1 Z_xs Z_oldLayer Z_oldPlace Z_oldDummy q16 q19_4 q19_5 q19_6 q13_4))
        )
        )
        ))
      )
      )
    )
    )
  ) else (
    some (0, s0, Z_turned, Z_told, Z_layers, Z_layer, Z_sizes, Z_items, Z_place, Z_dummyPlace, Z_xs, Z_oldLayer, Z_oldPlace, Z_oldDummy, Z_spare, Z_row, Z_ends, Z_near, Z_come)
  )
noncomputable def jX10_redraw_24 (Z_isBox : Nat → Int32) (Z_width : Nat → Int32) (Z_pinned : Nat → Int32) (Z_isArrow : Nat → Int32) (Z_from : Nat → Int32) (Z_to : Nat → Int32) (Z_turned : Nat → Int32) (Z_told : Int32) (Z_layers : Int32) (Z_layer : Nat → Int32) (Z_sizes : Nat → Int32) (Z_items : Nat → Int32) (Z_place : Nat → Int32) (Z_dummyPlace : Nat → Int32) (Z_xs : Nat → Int32) (Z_oldLayer : Nat → Int32) (Z_oldPlace : Nat → Int32) (Z_oldDummy : Nat → Int32) (Z_spare : Nat → Int32) (Z_row : Nat → Int32) (Z_ends : Nat → Int32) (Z_near : Nat → Int32) (Z_come : Nat → Int32) (x1 : Int32) (x2 : Int32) : Option (Int32 × Int32 × (Nat → Int32) × Int32 × Int32 × (Nat → Int32) × (Nat → Int32) × (Nat → Int32) × (Nat → Int32) × (Nat → Int32) × (Nat → Int32) × (Nat → Int32) × (Nat → Int32) × (Nat → Int32) × (Nat → Int32) × (Nat → Int32) × (Nat → Int32) × (Nat → Int32) × (Nat → Int32)) :=
  jX10_redraw_25 Z_isBox Z_width Z_pinned Z_isArrow Z_from Z_to Z_turned Z_told Z_layers Z_layer Z_sizes Z_items Z_place Z_dummyPlace Z_xs Z_oldLayer Z_oldPlace Z_oldDummy Z_spare Z_row Z_ends Z_near Z_come x1 x2 1
noncomputable def fX10_redraw (Z_isBox : Nat → Int32) (Z_width : Nat → Int32) (Z_pinned : Nat → Int32) (Z_isArrow : Nat → Int32) (Z_from : Nat → Int32) (Z_to : Nat → Int32) (Z_turned : Nat → Int32) (Z_told : Int32) (Z_layers : Int32) (Z_layer : Nat → Int32) (Z_sizes : Nat → Int32) (Z_items : Nat → Int32) (Z_place : Nat → Int32) (Z_dummyPlace : Nat → Int32) (Z_xs : Nat → Int32) (Z_oldLayer : Nat → Int32) (Z_oldPlace : Nat → Int32) (Z_oldDummy : Nat → Int32) (Z_spare : Nat → Int32) (Z_row : Nat → Int32) (Z_ends : Nat → Int32) (Z_near : Nat → Int32) (Z_come : Nat → Int32) (p0 : Int32) (p1 : Int32) : Option (Int32 × Int32 × (Nat → Int32) × Int32 × Int32 × (Nat → Int32) × (Nat → Int32) × (Nat → Int32) × (Nat → Int32) × (Nat → Int32) × (Nat → Int32) × (Nat → Int32) × (Nat → Int32) × (Nat → Int32) × (Nat → Int32) × (Nat → Int32) × (Nat → Int32) × (Nat → Int32) × (Nat → Int32)) :=
  Option.bind (fX10_in p0 0 4) (fun q27 =>
  if q27 = 0 then (
    jX10_redraw_24 Z_isBox Z_width Z_pinned Z_isArrow Z_from Z_to Z_turned Z_told Z_layers Z_layer Z_sizes Z_items Z_place Z_dummyPlace Z_xs Z_oldLayer Z_oldPlace Z_oldDummy Z_spare Z_row Z_ends Z_near Z_come p0 p1
  ) else (
    Option.bind (fX10_in p1 0 100000) (fun q28 =>
    if q28 = 0 then (
      jX10_redraw_24 Z_isBox Z_width Z_pinned Z_isArrow Z_from Z_to Z_turned Z_told Z_layers Z_layer Z_sizes Z_items Z_place Z_dummyPlace Z_xs Z_oldLayer Z_oldPlace Z_oldDummy Z_spare Z_row Z_ends Z_near Z_come p0 p1
    ) else (
      jX10_redraw_25 Z_isBox Z_width Z_pinned Z_isArrow Z_from Z_to Z_turned Z_told Z_layers Z_layer Z_sizes Z_items Z_place Z_dummyPlace Z_xs Z_oldLayer Z_oldPlace Z_oldDummy Z_spare Z_row Z_ends Z_near Z_come p0 p1 0
    )
    )
  )
  )
abbrev iX10_remove (aZ : Nat → Nat) (cI cZ : ClassId) (Z_code : Int32) (Z_isBox : Nat → Int32) (Z_isArrow : Nat → Int32) (Z_from : Nat → Int32) (Z_to : Nat → Int32) (Z_told : Int32) (Z_layers : Int32) : va_W := [((aZ 0), .inr (10, [.int Z_code, .ref (aZ 1), .ref (aZ 2), .ref (aZ 3), .ref (aZ 4), .ref (aZ 5), .ref (aZ 6), .ref (aZ 7), .int Z_told, .int Z_layers, .ref (aZ 8), .ref (aZ 9), .ref (aZ 10), .ref (aZ 11), .ref (aZ 12), .ref (aZ 13), .ref (aZ 14), .ref (aZ 15), .ref (aZ 16), .ref (aZ 17), .ref (aZ 18), .ref (aZ 19), .ref (aZ 20), .ref (aZ 21)])), ((aZ 1), .inl (cZ, 16, .inl Z_isBox)), ((aZ 4), .inl (cZ, 24, .inl Z_isArrow)), ((aZ 5), .inl (cI, 24, .inl Z_from)), ((aZ 6), .inl (cI, 24, .inl Z_to))]
noncomputable def jX10_remove_79 (Z_isArrow : Nat → Int32) (x1 : Int32) (x2 : Int32) : Option ((Int32 × (Nat → Int32)) ⊕ ((Nat → Int32))) :=
  some (.inl ((x2 + 1), Z_isArrow))
noncomputable def jX10_remove_72 (Z_isArrow : Nat → Int32) (x1 : Int32) (x2 : Int32) : Option ((Int32 × (Nat → Int32)) ⊕ ((Nat → Int32))) :=
  if q_in x2 24 then (
  jX10_remove_79 (upd Z_isArrow x2.toNatClampNeg 0) x1 x2
  ) else none
noncomputable def bX10_remove_46 (Z_from : Nat → Int32) (Z_to : Nat → Int32) (x1 : Int32) (x2 : Int32) (Z_isArrow : Nat → Int32) : Option ((Int32 × (Nat → Int32)) ⊕ ((Nat → Int32))) :=
  if 24 ≤ x2 then (
    some (.inr Z_isArrow)
  ) else (
    if q_in x2 24 then (
    if (Z_from x2.toNatClampNeg) = x1 then (
      jX10_remove_72 Z_isArrow x1 x2
    ) else (
      if q_in x2 24 then (
      if (Z_to x2.toNatClampNeg) = x1 then (
        jX10_remove_72 Z_isArrow x1 x2
      ) else (
        jX10_remove_79 Z_isArrow x1 x2
      )
      ) else none
    )
    ) else none
  )
noncomputable def jX10_remove_16 (Z_isBox : Nat → Int32) (Z_isArrow : Nat → Int32) (Z_from : Nat → Int32) (Z_to : Nat → Int32) (Z_told : Int32) (x1 : Int32) (s0 : Int32) : Option (Int32 × Int32 × (Nat → Int32) × (Nat → Int32) × Int32) :=
  if 0 < s0 then (
    some (0, s0, Z_isBox, Z_isArrow, Z_told)
  ) else (
    if q_in x1 16 then (
    if (Z_isBox x1.toNatClampNeg) = 0 then (
      some (0, s0, Z_isBox, Z_isArrow, Z_told)
    ) else (
      if q_in x1 16 then (
      Option.bind (q_lo (fun (st : Int32 × (Nat → Int32)) => bX10_remove_46 Z_from Z_to x1 st.1 st.2) (0, Z_isArrow)) (fun q4 =>
        some (1, s0, (upd Z_isBox x1.toNatClampNeg 0), q4, 0))
      ) else none
    )
    ) else none
  )
noncomputable def fX10_remove (Z_isBox : Nat → Int32) (Z_isArrow : Nat → Int32) (Z_from : Nat → Int32) (Z_to : Nat → Int32) (Z_told : Int32) (p0 : Int32) : Option (Int32 × Int32 × (Nat → Int32) × (Nat → Int32) × Int32) :=
  Option.bind (fX10_in p0 0 15) (fun q10 =>
  if q10 = 0 then (
    jX10_remove_16 Z_isBox Z_isArrow Z_from Z_to Z_told p0 1
  ) else (
    jX10_remove_16 Z_isBox Z_isArrow Z_from Z_to Z_told p0 0
  )
  )
abbrev iX10_reversed (aZ : Nat → Nat) (cI cZ : ClassId) (Z_code : Int32) (Z_isArrow : Nat → Int32) (Z_from : Nat → Int32) (Z_to : Nat → Int32) (Z_turned : Nat → Int32) (Z_told : Int32) (Z_layers : Int32) (Z_come : Nat → Int32) : va_W := [((aZ 0), .inr (10, [.int Z_code, .ref (aZ 1), .ref (aZ 2), .ref (aZ 3), .ref (aZ 4), .ref (aZ 5), .ref (aZ 6), .ref (aZ 7), .int Z_told, .int Z_layers, .ref (aZ 8), .ref (aZ 9), .ref (aZ 10), .ref (aZ 11), .ref (aZ 12), .ref (aZ 13), .ref (aZ 14), .ref (aZ 15), .ref (aZ 16), .ref (aZ 17), .ref (aZ 18), .ref (aZ 19), .ref (aZ 20), .ref (aZ 21)])), ((aZ 4), .inl (cZ, 24, .inl Z_isArrow)), ((aZ 5), .inl (cI, 24, .inl Z_from)), ((aZ 6), .inl (cI, 24, .inl Z_to)), ((aZ 7), .inl (cZ, 24, .inl Z_turned)), ((aZ 21), .inl (cZ, 16, .inl Z_come))]
noncomputable def jX10_reversed_16 (Z_isArrow : Nat → Int32) (Z_from : Nat → Int32) (Z_to : Nat → Int32) (Z_turned : Nat → Int32) (Z_come : Nat → Int32) (x1 : Int32) (s0 : Int32) : Option (Int32 × Int32 × (Nat → Int32) × (Nat → Int32)) :=
  if s0 ≤ 0 then (
    q_b2 (fX10_turn Z_isArrow Z_from Z_to Z_turned Z_come) (fun q2_0 q2_1 =>
    if q_in x1 24 then (
    if (Z_isArrow x1.toNatClampNeg) = 0 then (
      some ((-1), s0, q2_0, q2_1)
    ) else (
      if q_in x1 24 then (
      if (q2_0 x1.toNatClampNeg) = 0 then (
        some (0, s0, q2_0, q2_1)
      ) else (
        some (1, s0, q2_0, q2_1)
      )
      ) else none
    )
    ) else none
    )
  ) else (
    some (0, s0, Z_turned, Z_come)
  )
noncomputable def fX10_reversed (Z_isArrow : Nat → Int32) (Z_from : Nat → Int32) (Z_to : Nat → Int32) (Z_turned : Nat → Int32) (Z_come : Nat → Int32) (p0 : Int32) : Option (Int32 × Int32 × (Nat → Int32) × (Nat → Int32)) :=
  Option.bind (fX10_in p0 0 23) (fun q5 =>
  if q5 = 0 then (
    jX10_reversed_16 Z_isArrow Z_from Z_to Z_turned Z_come p0 1
  ) else (
    jX10_reversed_16 Z_isArrow Z_from Z_to Z_turned Z_come p0 0
  )
  )
abbrev iX10_thrown (aZ : Nat → Nat) (cI cZ : ClassId) (Z_code : Int32) (Z_told : Int32) (Z_layers : Int32) : va_W := [((aZ 0), .inr (10, [.int Z_code, .ref (aZ 1), .ref (aZ 2), .ref (aZ 3), .ref (aZ 4), .ref (aZ 5), .ref (aZ 6), .ref (aZ 7), .int Z_told, .int Z_layers, .ref (aZ 8), .ref (aZ 9), .ref (aZ 10), .ref (aZ 11), .ref (aZ 12), .ref (aZ 13), .ref (aZ 14), .ref (aZ 15), .ref (aZ 16), .ref (aZ 17), .ref (aZ 18), .ref (aZ 19), .ref (aZ 20), .ref (aZ 21)]))]
noncomputable def fX10_thrown (Z_code : Int32) : Option (Int32) :=
  some Z_code
