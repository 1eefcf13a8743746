abbrev PX3 (a0 a1 : Nat) (cyI cyZ : ClassId) (N : Nat) (w_numbers : Nat → Int32) (w_most : Int32) (w_length : Int32) : va_W := [(a0, .inr (3, [.ref a1, .int w_most, .int w_length])), (a1, .inl (cyI, N, .inl w_numbers))]
abbrev PX1 (a0 a1 a2 a3 a4 a5 : Nat) (cyI cyZ : ClassId) (w_kinds : Nat → Int32) (w_firsts : Nat → Int32) (w_seconds : Nat → Int32) (w_ints : Nat → Int32) (w_counting : Nat → Int32) (w_length : Int32) : va_W := [(a0, .inr (1, [.ref a1, .ref a2, .ref a3, .ref a4, .ref a5, .int w_length])), (a1, .inl (cyI, 60, .inl w_kinds)), (a2, .inl (cyI, 60, .inl w_firsts)), (a3, .inl (cyI, 60, .inl w_seconds)), (a4, .inl (cyI, 60, .inl w_ints)), (a5, .inl (cyZ, 60, .inl w_counting))]
abbrev PX0 (a0 a1 a2 a3 a4 a5 a6 a7 a8 a9 a10 a11 a12 a13 a14 a15 a16 : Nat) (cyI cyZ : ClassId) (w_code_kinds : Nat → Int32) (w_code_firsts : Nat → Int32) (w_code_seconds : Nat → Int32) (w_code_ints : Nat → Int32) (w_code_counting : Nat → Int32) (w_code_length : Int32) (w_steps_numbers : Nat → Int32) (w_steps_length : Int32) (w_pieces_numbers : Nat → Int32) (w_pieces_length : Int32) (w_valueIn : Nat → Int32) (w_registerOf : Nat → Int32) (w_slotOf : Nat → Int32) (w_pieceOf : Nat → Int32) (w_upcoming : Nat → Int32) (w_slotTaken : Nat → Int32) (w_registers : Int32) (w_slotCount : Int32) : va_W := [(a0, .inr (0, [.ref a1, .ref a7, .ref a9, .ref a11, .ref a12, .ref a13, .ref a14, .ref a15, .ref a16, .int w_registers, .int w_slotCount])), (a1, .inr (1, [.ref a2, .ref a3, .ref a4, .ref a5, .ref a6, .int w_code_length])), (a2, .inl (cyI, 60, .inl w_code_kinds)), (a3, .inl (cyI, 60, .inl w_code_firsts)), (a4, .inl (cyI, 60, .inl w_code_seconds)), (a5, .inl (cyI, 60, .inl w_code_ints)), (a6, .inl (cyZ, 60, .inl w_code_counting)), (a7, .inr (3, [.ref a8, .int 240, .int w_steps_length])), (a8, .inl (cyI, 960, .inl w_steps_numbers)), (a9, .inr (3, [.ref a10, .int 180, .int w_pieces_length])), (a10, .inl (cyI, 720, .inl w_pieces_numbers)), (a11, .inl (cyI, 8, .inl w_valueIn)), (a12, .inl (cyI, 60, .inl w_registerOf)), (a13, .inl (cyI, 60, .inl w_slotOf)), (a14, .inl (cyI, 60, .inl w_pieceOf)), (a15, .inl (cyI, 60, .inl w_upcoming)), (a16, .inl (cyZ, 60, .inl w_slotTaken))]
abbrev PX2 (a0 a1 a2 a3 : Nat) (cyI cyZ : ClassId) (w_registers : Nat → Int32) (w_slots : Nat → Int32) (w_outputs : Nat → Int32) (w_outputCount : Int32) : va_W := [(a0, .inr (2, [.ref a1, .ref a2, .ref a3, .int w_outputCount])), (a1, .inl (cyI, 8, .inl w_registers)), (a2, .inl (cyI, 60, .inl w_slots)), (a3, .inl (cyI, 60, .inl w_outputs))]
abbrev PX4 (a0 a1 a2 a3 a4 a5 a6 a7 a8 a9 a10 a11 a12 a13 a14 a15 a16 a17 a18 a19 a20 a21 a22 a23 a24 a25 a26 a27 a28 a29 a30 a31 a32 : Nat) (cyI cyZ : ClassId) (w_code_kinds : Nat → Int32) (w_code_firsts : Nat → Int32) (w_code_seconds : Nat → Int32) (w_code_ints : Nat → Int32) (w_code_counting : Nat → Int32) (w_code_length : Int32) (w_present_steps_numbers : Nat → Int32) (w_present_steps_length : Int32) (w_present_pieces_numbers : Nat → Int32) (w_present_pieces_length : Int32) (w_present_valueIn : Nat → Int32) (w_present_registerOf : Nat → Int32) (w_present_slotOf : Nat → Int32) (w_present_pieceOf : Nat → Int32) (w_present_upcoming : Nat → Int32) (w_present_slotTaken : Nat → Int32) (w_present_registers : Int32) (w_present_slotCount : Int32) (w_trial_steps_numbers : Nat → Int32) (w_trial_steps_length : Int32) (w_trial_pieces_numbers : Nat → Int32) (w_trial_pieces_length : Int32) (w_trial_valueIn : Nat → Int32) (w_trial_registerOf : Nat → Int32) (w_trial_slotOf : Nat → Int32) (w_trial_pieceOf : Nat → Int32) (w_trial_upcoming : Nat → Int32) (w_trial_slotTaken : Nat → Int32) (w_trial_registers : Int32) (w_trial_slotCount : Int32) (w_machine_registers : Nat → Int32) (w_machine_slots : Nat → Int32) (w_machine_outputs : Nat → Int32) (w_machine_outputCount : Int32) (w_registers : Int32) (w_allocated : Int32) : va_W := [(a0, .inr (4, [.ref a1, .ref a7, .ref a18, .ref a29, .int w_registers, .int w_allocated])), (a1, .inr (1, [.ref a2, .ref a3, .ref a4, .ref a5, .ref a6, .int w_code_length])), (a2, .inl (cyI, 60, .inl w_code_kinds)), (a3, .inl (cyI, 60, .inl w_code_firsts)), (a4, .inl (cyI, 60, .inl w_code_seconds)), (a5, .inl (cyI, 60, .inl w_code_ints)), (a6, .inl (cyZ, 60, .inl w_code_counting)), (a7, .inr (0, [.ref a1, .ref a8, .ref a10, .ref a12, .ref a13, .ref a14, .ref a15, .ref a16, .ref a17, .int w_present_registers, .int w_present_slotCount])), (a8, .inr (3, [.ref a9, .int 240, .int w_present_steps_length])), (a9, .inl (cyI, 960, .inl w_present_steps_numbers)), (a10, .inr (3, [.ref a11, .int 180, .int w_present_pieces_length])), (a11, .inl (cyI, 720, .inl w_present_pieces_numbers)), (a12, .inl (cyI, 8, .inl w_present_valueIn)), (a13, .inl (cyI, 60, .inl w_present_registerOf)), (a14, .inl (cyI, 60, .inl w_present_slotOf)), (a15, .inl (cyI, 60, .inl w_present_pieceOf)), (a16, .inl (cyI, 60, .inl w_present_upcoming)), (a17, .inl (cyZ, 60, .inl w_present_slotTaken)), (a18, .inr (0, [.ref a1, .ref a19, .ref a21, .ref a23, .ref a24, .ref a25, .ref a26, .ref a27, .ref a28, .int w_trial_registers, .int w_trial_slotCount])), (a19, .inr (3, [.ref a20, .int 240, .int w_trial_steps_length])), (a20, .inl (cyI, 960, .inl w_trial_steps_numbers)), (a21, .inr (3, [.ref a22, .int 180, .int w_trial_pieces_length])), (a22, .inl (cyI, 720, .inl w_trial_pieces_numbers)), (a23, .inl (cyI, 8, .inl w_trial_valueIn)), (a24, .inl (cyI, 60, .inl w_trial_registerOf)), (a25, .inl (cyI, 60, .inl w_trial_slotOf)), (a26, .inl (cyI, 60, .inl w_trial_pieceOf)), (a27, .inl (cyI, 60, .inl w_trial_upcoming)), (a28, .inl (cyZ, 60, .inl w_trial_slotTaken)), (a29, .inr (2, [.ref a30, .ref a31, .ref a32, .int w_machine_outputCount])), (a30, .inl (cyI, 8, .inl w_machine_registers)), (a31, .inl (cyI, 60, .inl w_machine_slots)), (a32, .inl (cyI, 60, .inl w_machine_outputs))]
abbrev PX5 (a0 a1 a2 a3 a4 a5 a6 a7 a8 a9 a10 a11 a12 : Nat) (cyI cyZ : ClassId) (w_thrown : Int32) (w_size : Int32) (w_kinds : Nat → Int32) (w_as : Nat → Int32) (w_bs : Nat → Int32) (w_registers : Int32) (w_isMade : Int32) (w_steps : Int32) (w_stepParts : Nat → Int32) (w_pieces : Int32) (w_pieceParts : Nat → Int32) (w_slots : Int32) (w_areCounted : Nat → Int32) (w_registerOf : Nat → Int32) (w_slotOf : Nat → Int32) (w_pieceOf : Nat → Int32) (w_heldBy : Nat → Int32) (w_isSlotTaken : Nat → Int32) (w_outputs : Int32) (w_output : Nat → Int32) : va_W := [(a0, .inr (5, [.int w_thrown, .int w_size, .ref a1, .ref a2, .ref a3, .int w_registers, .int w_isMade, .int w_steps, .ref a4, .int w_pieces, .ref a5, .int w_slots, .ref a6, .ref a7, .ref a8, .ref a9, .ref a10, .ref a11, .int w_outputs, .ref a12])), (a1, .inl (cyI, 60, .inl w_kinds)), (a2, .inl (cyI, 60, .inl w_as)), (a3, .inl (cyI, 60, .inl w_bs)), (a4, .inl (cyI, 2000, .inl w_stepParts)), (a5, .inl (cyI, 2000, .inl w_pieceParts)), (a6, .inl (cyZ, 60, .inl w_areCounted)), (a7, .inl (cyI, 60, .inl w_registerOf)), (a8, .inl (cyI, 60, .inl w_slotOf)), (a9, .inl (cyI, 60, .inl w_pieceOf)), (a10, .inl (cyI, 8, .inl w_heldBy)), (a11, .inl (cyZ, 60, .inl w_isSlotTaken)), (a12, .inl (cyI, 60, .inl w_output))]
abbrev kT (cyI cyZ : ClassId) : List (ClassId × FieldType) := [(cyI, .int), (cyZ, .boolean)]

/-! ===== rows ===== -/
noncomputable def f_X3_clear  : Option (Int32) :=
  some 0

noncomputable def f_X3_length (w_length : Int32) : Option (Int32) :=
  some w_length

noncomputable def f_X3_has (p1 : Int32) (p2 : Int32) (w_length : Int32) : Option (Int32) :=
  (if p1 < 0 then
    some 0
  else
    (if w_length ≤ p1 then
      some 0
    else
      (if p2 < 0 then
        some 0
      else
        (if 4 ≤ p2 then
          some 0
        else
          some 1))))

noncomputable def f_X3_at (p1 : Int32) (p2 : Int32) (N : Nat) (w_numbers : Nat → Int32) (w_length : Int32) : Option (Int32) :=
  (Option.bind (f_X3_has p1 p2 w_length) fun u3 =>
  (if u3 = 0 then
    some (-1)
  else
    (rdc ((4 * p1) + p2) N
    (some (w_numbers ((4 * p1) + p2).toNatClampNeg)))))

noncomputable def f_X3_put (p1 : Int32) (p2 : Int32) (p3 : Int32) (N : Nat) (w_numbers : Nat → Int32) (w_length : Int32) : Option ((Nat → Int32)) :=
  (Option.bind (f_X3_has p1 p2 w_length) fun u3 =>
  (if u3 = 0 then
    some w_numbers
  else
    (rdc ((4 * p1) + p2) N
    (some (upd w_numbers ((4 * p1) + p2).toNatClampNeg p3)))))

noncomputable def f_X3_append (p1 : Int32) (p2 : Int32) (p3 : Int32) (p4 : Int32) (N : Nat) (w_numbers : Nat → Int32) (w_most : Int32) (w_length : Int32) : Option (Int32 × (Nat → Int32) × Int32) :=
  (if w_length < 0 then
    some ((-1), w_numbers, w_length)
  else
    (if w_length < w_most then
      (rdc (4 * w_length) N
      (rdc ((4 * w_length) + 1) N
      (rdc ((4 * w_length) + 2) N
      (rdc ((4 * w_length) + 3) N
      (some (w_length, (upd (upd (upd (upd w_numbers (4 * w_length).toNatClampNeg p1) ((4 * w_length) + 1).toNatClampNeg p2) ((4 * w_length) + 2).toNatClampNeg p3) ((4 * w_length) + 3).toNatClampNeg p4), (w_length + 1)))))))
    else
      some ((-1), w_numbers, w_length)))

noncomputable def f_X3_countOfFirst_L4 (N : Nat) (w_numbers : Nat → Int32) (w_length : Int32) (p1 : Int32) : Nat → Int32 → Int32 → Option (Int32)
  | 0, _, _ => none
  | n + 1, x3_L4, x2_L4 =>
    (if w_length ≤ x3_L4 then
      some x2_L4
    else
      (Option.bind (f_X3_at x3_L4 0 N w_numbers w_length) fun u15 =>
      (if u15 = p1 then
        f_X3_countOfFirst_L4 N w_numbers w_length p1 n (x3_L4 + 1) (x2_L4 + 1)
      else
        f_X3_countOfFirst_L4 N w_numbers w_length p1 n (x3_L4 + 1) x2_L4)))

noncomputable def f_X3_countOfFirst (p1 : Int32) (N : Nat) (w_numbers : Nat → Int32) (w_length : Int32) : Option (Int32) :=
  (Option.bind (f_X3_countOfFirst_L4 N w_numbers w_length p1 4000 0 0) fun v4 =>
    some v4)

/-! ===== code ===== -/
noncomputable def f_X1_length (w_length : Int32) : Option (Int32) :=
  some w_length

noncomputable def f_X1_isFull (w_length : Int32) : Option (Int32) :=
  (if w_length < 60 then
    some 0
  else
    some 1)

noncomputable def f_X1_has (p1 : Int32) (w_length : Int32) : Option (Int32) :=
  (if p1 < 0 then
    some 0
  else
    (if w_length ≤ p1 then
      some 0
    else
      some 1))

noncomputable def f_X1_hasValue (p1 : Int32) (w_kinds : Nat → Int32) (w_length : Int32) : Option (Int32) :=
  (Option.bind (f_X1_has p1 w_length) fun u2 =>
  (if u2 = 0 then
    some 0
  else
    (rdc p1 60
    (if (w_kinds p1.toNatClampNeg) = 6 then
      some 0
    else
      some 1))))

noncomputable def f_X1_isConst (p1 : Int32) (w_kinds : Nat → Int32) (w_length : Int32) : Option (Int32) :=
  (if p1 < 0 then
    some 0
  else
    (if w_length ≤ p1 then
      some 0
    else
      (rdc p1 60
      (if (w_kinds p1.toNatClampNeg) = 0 then
        some 1
      else
        some 0))))

noncomputable def f_X1_kindOf (p1 : Int32) (w_kinds : Nat → Int32) (w_length : Int32) : Option (Int32) :=
  (Option.bind (f_X1_has p1 w_length) fun u2 =>
  (if u2 = 0 then
    some (-1)
  else
    (rdc p1 60
    (some (w_kinds p1.toNatClampNeg)))))

noncomputable def f_X1_firstOf (p1 : Int32) (w_firsts : Nat → Int32) (w_length : Int32) : Option (Int32) :=
  (Option.bind (f_X1_has p1 w_length) fun u2 =>
  (if u2 = 0 then
    some (-1)
  else
    (rdc p1 60
    (some (w_firsts p1.toNatClampNeg)))))

noncomputable def f_X1_secondOf (p1 : Int32) (w_seconds : Nat → Int32) (w_length : Int32) : Option (Int32) :=
  (Option.bind (f_X1_has p1 w_length) fun u2 =>
  (if u2 = 0 then
    some (-1)
  else
    (rdc p1 60
    (some (w_seconds p1.toNatClampNeg)))))

noncomputable def f_X1_intOf (p1 : Int32) (w_ints : Nat → Int32) (w_length : Int32) : Option (Int32) :=
  (Option.bind (f_X1_has p1 w_length) fun u2 =>
  (if u2 = 0 then
    some 0
  else
    (rdc p1 60
    (some (w_ints p1.toNatClampNeg)))))

noncomputable def f_X1_isCounting (p1 : Int32) (w_counting : Nat → Int32) (w_length : Int32) : Option (Int32) :=
  (Option.bind (f_X1_has p1 w_length) fun u2 =>
  (if u2 = 0 then
    some 0
  else
    (rdc p1 60
    (if (w_counting p1.toNatClampNeg) = 0 then
      some 0
    else
      some 1))))

noncomputable def f_X1_markCounting (p1 : Int32) (w_counting : Nat → Int32) (w_length : Int32) : Option ((Nat → Int32)) :=
  (Option.bind (f_X1_has p1 w_length) fun u2 =>
  (if u2 = 0 then
    some w_counting
  else
    (rdc p1 60
    (some (upd w_counting p1.toNatClampNeg 1)))))

noncomputable def f_X1_findCounting_L2 (w_kinds : Nat → Int32) (w_length : Int32) : Nat → Int32 → (Nat → Int32) → Option ((Nat → Int32))
  | 0, _, _ => none
  | n + 1, x1_L2, w_counting_L2 =>
    (if w_length ≤ x1_L2 then
      some w_counting_L2
    else
      (rdc x1_L2 60
      (if (w_kinds x1_L2.toNatClampNeg) = 6 then
        (rdc x1_L2 60
        (f_X1_findCounting_L2 w_kinds w_length n (x1_L2 + 1) (upd w_counting_L2 x1_L2.toNatClampNeg 1)))
      else
        (rdc x1_L2 60
        (f_X1_findCounting_L2 w_kinds w_length n (x1_L2 + 1) (upd w_counting_L2 x1_L2.toNatClampNeg 0))))))

noncomputable def f_X1_findCounting_L45 (w_firsts : Nat → Int32) (w_seconds : Nat → Int32) (w_length : Int32) : Nat → Int32 → (Nat → Int32) → Option ((Nat → Int32))
  | 0, _, _ => none
  | n + 1, x1_L45, w_counting_L45 =>
    (if x1_L45 < 0 then
      some w_counting_L45
    else
      (rdc x1_L45 60
      (if (w_counting_L45 x1_L45.toNatClampNeg) = 0 then
        f_X1_findCounting_L45 w_firsts w_seconds w_length n (x1_L45 + (-1)) w_counting_L45
      else
        (rdc x1_L45 60
        (Option.bind (f_X1_markCounting (w_firsts x1_L45.toNatClampNeg) w_counting_L45 w_length) fun u65 =>
        (rdc x1_L45 60
        (Option.bind (f_X1_markCounting (w_seconds x1_L45.toNatClampNeg) u65 w_length) fun u75 =>
        f_X1_findCounting_L45 w_firsts w_seconds w_length n (x1_L45 + (-1)) u75)))))))

noncomputable def f_X1_findCounting (w_kinds : Nat → Int32) (w_firsts : Nat → Int32) (w_seconds : Nat → Int32) (w_counting : Nat → Int32) (w_length : Int32) : Option ((Nat → Int32)) :=
  (Option.bind (f_X1_findCounting_L2 w_kinds w_length 4000 0 w_counting) fun v2 =>
    (Option.bind (f_X1_findCounting_L45 w_firsts w_seconds w_length 4000 (w_length - 1) v2) fun v45 =>
      some v45))

noncomputable def f_X1_append (p1 : Int32) (p2 : Int32) (p3 : Int32) (p4 : Int32) (w_kinds : Nat → Int32) (w_firsts : Nat → Int32) (w_seconds : Nat → Int32) (w_ints : Nat → Int32) (w_counting : Nat → Int32) (w_length : Int32) : Option (Int32 × (Nat → Int32) × (Nat → Int32) × (Nat → Int32) × (Nat → Int32) × (Nat → Int32) × Int32) :=
  (Option.bind (f_X1_isFull w_length) fun u1 =>
  (if u1 = 0 then
    (rdc w_length 60
    (rdc w_length 60
    (rdc w_length 60
    (rdc w_length 60
    (Option.bind (f_X1_findCounting (upd w_kinds w_length.toNatClampNeg p1) (upd w_firsts w_length.toNatClampNeg p2) (upd w_seconds w_length.toNatClampNeg p3) w_counting (w_length + 1)) fun u59 =>
    some (w_length, (upd w_kinds w_length.toNatClampNeg p1), (upd w_firsts w_length.toNatClampNeg p2), (upd w_seconds w_length.toNatClampNeg p3), (upd w_ints w_length.toNatClampNeg p4), u59, (w_length + 1)))))))
  else
    some ((-1), w_kinds, w_firsts, w_seconds, w_ints, w_counting, w_length)))

noncomputable def f_X1_replaceInt (p1 : Int32) (p2 : Int32) (w_ints : Nat → Int32) (w_length : Int32) : Option (Int32 × (Nat → Int32)) :=
  (Option.bind (f_X1_has p1 w_length) fun u2 =>
  (if u2 = 0 then
    some (0, w_ints)
  else
    (rdc p1 60
    (rdc p1 60
    (some ((w_ints p1.toNatClampNeg), (upd w_ints p1.toNatClampNeg p2)))))))

noncomputable def f_X1_removeLast (p1 : Int32) (w_kinds : Nat → Int32) (w_firsts : Nat → Int32) (w_seconds : Nat → Int32) (w_counting : Nat → Int32) (w_length : Int32) : Option ((Nat → Int32) × Int32) :=
  (if p1 < 0 then
    some (w_counting, w_length)
  else
    (if w_length < p1 then
      some (w_counting, w_length)
    else
      (Option.bind (f_X1_findCounting w_kinds w_firsts w_seconds w_counting (w_length - p1)) fun u23 =>
      some (u23, (w_length - p1)))))

noncomputable def f_X1_firstUse_L16 (w_firsts : Nat → Int32) (w_seconds : Nat → Int32) (w_counting : Nat → Int32) (w_length : Int32) (p1 : Int32) : Nat → Int32 → Option (Int32)
  | 0, _ => none
  | n + 1, x3_L16 =>
    (if w_length ≤ x3_L16 then
      some (-1)
    else
      (rdc x3_L16 60
      (if (w_counting x3_L16.toNatClampNeg) = 0 then
        f_X1_firstUse_L16 w_firsts w_seconds w_counting w_length p1 n (x3_L16 + 1)
      else
        (rdc x3_L16 60
        (if (w_firsts x3_L16.toNatClampNeg) = p1 then
          some x3_L16
        else
          (rdc x3_L16 60
          (if (w_seconds x3_L16.toNatClampNeg) = p1 then
            some x3_L16
          else
            f_X1_firstUse_L16 w_firsts w_seconds w_counting w_length p1 n (x3_L16 + 1))))))))

noncomputable def f_X1_firstUse (p1 : Int32) (p2 : Int32) (w_firsts : Nat → Int32) (w_seconds : Nat → Int32) (w_counting : Nat → Int32) (w_length : Int32) : Option (Int32) :=
  (Option.bind (f_X1_has p1 w_length) fun u2 =>
  (if u2 = 0 then
    some (-1)
  else
    f_X1_firstUse_L16 w_firsts w_seconds w_counting w_length p1 4000 (if p2 < 0 then 0 else p2)))

noncomputable def f_X1_aliveBehind_L14 (w_firsts : Nat → Int32) (w_seconds : Nat → Int32) (w_counting : Nat → Int32) (w_length : Int32) (p1 : Int32) : Nat → Int32 → Int32 → Option (Int32)
  | 0, _, _ => none
  | n + 1, x3_L14, x2_L14 =>
    (if p1 < x3_L14 then
      some x2_L14
    else
      (Option.bind (f_X1_firstUse x3_L14 (p1 + 1) w_firsts w_seconds w_counting w_length) fun u24 =>
      (if u24 = (-1) then
        f_X1_aliveBehind_L14 w_firsts w_seconds w_counting w_length p1 n (x3_L14 + 1) x2_L14
      else
        f_X1_aliveBehind_L14 w_firsts w_seconds w_counting w_length p1 n (x3_L14 + 1) (x2_L14 + 1))))

noncomputable def f_X1_aliveBehind (p1 : Int32) (w_firsts : Nat → Int32) (w_seconds : Nat → Int32) (w_counting : Nat → Int32) (w_length : Int32) : Option (Int32) :=
  (Option.bind (f_X1_has p1 w_length) fun u2 =>
  (if u2 = 0 then
    some 0
  else
    (Option.bind (f_X1_aliveBehind_L14 w_firsts w_seconds w_counting w_length p1 4000 0 0) fun v14 =>
      some v14)))

/-! ===== alloc ===== -/


noncomputable def f_X0_slotCount (w_slotCount : Int32) : Option (Int32) :=
  some w_slotCount

noncomputable def f_X0_usesSlots (w_steps_numbers : Nat → Int32) (w_steps_length : Int32) : Option (Int32) :=
  (Option.bind (f_X3_countOfFirst 7 960 w_steps_numbers w_steps_length) fun u6 =>
  (if 0 < u6 then
    some 1
  else
    (Option.bind (f_X3_countOfFirst 8 960 w_steps_numbers w_steps_length) fun u18 =>
    (if u18 ≤ 0 then
      some 0
    else
      some 1))))

noncomputable def f_X0_clear_L35  : Nat → Int32 → (Nat → Int32) → Option ((Nat → Int32))
  | 0, _, _ => none
  | n + 1, x2_L35, w_valueIn_L35 =>
    (if 8 ≤ x2_L35 then
      some w_valueIn_L35
    else
      (rdc x2_L35 8
      (f_X0_clear_L35 n (x2_L35 + 1) (upd w_valueIn_L35 x2_L35.toNatClampNeg (-1)))))

noncomputable def f_X0_clear_L56 (w_code_firsts : Nat → Int32) (w_code_seconds : Nat → Int32) (w_code_counting : Nat → Int32) (w_code_length : Int32) : Nat → Int32 → (Nat → Int32) → (Nat → Int32) → (Nat → Int32) → (Nat → Int32) → (Nat → Int32) → Option ((Nat → Int32) × (Nat → Int32) × (Nat → Int32) × (Nat → Int32) × (Nat → Int32))
  | 0, _, _, _, _, _, _ => none
  | n + 1, x2_L56, w_registerOf_L56, w_slotOf_L56, w_pieceOf_L56, w_upcoming_L56, w_slotTaken_L56 =>
    (if 60 ≤ x2_L56 then
      some (w_registerOf_L56, w_slotOf_L56, w_pieceOf_L56, w_upcoming_L56, w_slotTaken_L56)
    else
      (rdc x2_L56 60
      (rdc x2_L56 60
      (rdc x2_L56 60
      (Option.bind (f_X1_firstUse x2_L56 (x2_L56 + 1) w_code_firsts w_code_seconds w_code_counting w_code_length) fun u96 =>
      (rdc x2_L56 60
      (rdc x2_L56 60
      (f_X0_clear_L56 w_code_firsts w_code_seconds w_code_counting w_code_length n (x2_L56 + 1) (upd w_registerOf_L56 x2_L56.toNatClampNeg (-1)) (upd w_slotOf_L56 x2_L56.toNatClampNeg (-1)) (upd w_pieceOf_L56 x2_L56.toNatClampNeg (-1)) (upd w_upcoming_L56 x2_L56.toNatClampNeg u96) (upd w_slotTaken_L56 x2_L56.toNatClampNeg 0)))))))))

noncomputable def f_X0_clear (p1 : Int32) (w_code_firsts : Nat → Int32) (w_code_seconds : Nat → Int32) (w_code_counting : Nat → Int32) (w_code_length : Int32) (w_valueIn : Nat → Int32) (w_registerOf : Nat → Int32) (w_slotOf : Nat → Int32) (w_pieceOf : Nat → Int32) (w_upcoming : Nat → Int32) (w_slotTaken : Nat → Int32) : Option (Int32 × Int32 × (Nat → Int32) × (Nat → Int32) × (Nat → Int32) × (Nat → Int32) × (Nat → Int32) × (Nat → Int32) × Int32 × Int32) :=
  (Option.bind (f_X3_clear) fun u4 =>
  (Option.bind (f_X3_clear) fun u11 =>
  (Option.bind (f_X0_clear_L35 4000 0 w_valueIn) fun v35 =>
    (Option.bind (f_X0_clear_L56 w_code_firsts w_code_seconds w_code_counting w_code_length 4000 0 w_registerOf w_slotOf w_pieceOf w_upcoming w_slotTaken) fun v56 =>
      some (u4, u11, v35, v56.1, v56.2.1, v56.2.2.1, v56.2.2.2.1, v56.2.2.2.2, (if 2 < (if 8 < p1 then 8 else p1) then (if 8 < p1 then 8 else p1) else 2), 0)))))

noncomputable def f_X0_isRow (p1 : Int32) : Option (Int32) :=
  (if p1 < 0 then
    some 0
  else
    (if 60 ≤ p1 then
      some 0
    else
      some 1))

noncomputable def f_X0_isMissing (p1 : Int32) (w_registerOf : Nat → Int32) : Option (Int32) :=
  (Option.bind (f_X0_isRow p1) fun u1 =>
  (if u1 = 0 then
    some 0
  else
    (rdc p1 60
    (if (w_registerOf p1.toNatClampNeg) = (-1) then
      some 1
    else
      some 0))))

noncomputable def f_X0_isRegister (p1 : Int32) (w_registers : Int32) : Option (Int32) :=
  (if p1 < 0 then
    some 0
  else
    (if w_registers ≤ p1 then
      some 0
    else
      some 1))

noncomputable def f_X0_isFree (p1 : Int32) (w_valueIn : Nat → Int32) (w_registers : Int32) : Option (Int32) :=
  (Option.bind (f_X0_isRegister p1 w_registers) fun u2 =>
  (if u2 = 0 then
    some 0
  else
    (rdc p1 8
    (if (w_valueIn p1.toNatClampNeg) = (-1) then
      some 1
    else
      some 0))))

noncomputable def f_X0_valueHeldIn (p1 : Int32) (w_valueIn : Nat → Int32) (w_registers : Int32) : Option (Int32) :=
  (Option.bind (f_X0_isRegister p1 w_registers) fun u2 =>
  (if u2 = 0 then
    some (-1)
  else
    (rdc p1 8
    (some (w_valueIn p1.toNatClampNeg)))))

noncomputable def f_X0_losesBefore (p1 : Int32) (p2 : Int32) (w_code_kinds : Nat → Int32) (w_code_length : Int32) (w_slotOf : Nat → Int32) (w_upcoming : Nat → Int32) : Option (Int32) :=
  (Option.bind (f_X0_isRow p1) fun u1 =>
  (if u1 = 0 then
    some 0
  else
    (Option.bind (f_X0_isRow p2) fun u8 =>
    (if u8 = 0 then
      some 0
    else
      (rdc p1 60
      (rdc p2 60
      (if (w_upcoming p1.toNatClampNeg) = (w_upcoming p2.toNatClampNeg) then
        (Option.bind (f_X1_isConst p1 w_code_kinds w_code_length) fun u57 =>
        (Option.bind (f_X1_isConst p2 w_code_kinds w_code_length) fun u67 =>
        (if u57 = u67 then
          (rdc p1 60
          (if (w_slotOf p1.toNatClampNeg) = (-1) then
            some 0
          else
            (rdc p2 60
            (if (w_slotOf p2.toNatClampNeg) = (-1) then
              some 1
            else
              some 0))))
        else
          (zck u57
          (some u57)))))
      else
        (rdc p1 60
        (rdc p2 60
        (if (w_upcoming p1.toNatClampNeg) ≤ (w_upcoming p2.toNatClampNeg) then
          some 0
        else
          some 1))))))))))

noncomputable def f_X0_registerToLose_L5 (w_code_kinds : Nat → Int32) (w_code_length : Int32) (w_valueIn : Nat → Int32) (w_slotOf : Nat → Int32) (w_upcoming : Nat → Int32) (w_registers : Int32) (p1 : Int32) (p2 : Int32) : Nat → Int32 → Int32 → Option (Int32)
  | 0, _, _ => none
  | n + 1, x4_L5, x3_L5 =>
    (if w_registers ≤ x4_L5 then
      some x3_L5
    else
      (Option.bind (f_X0_valueHeldIn x4_L5 w_valueIn w_registers) fun u17 =>
      (if u17 = p1 then
        f_X0_registerToLose_L5 w_code_kinds w_code_length w_valueIn w_slotOf w_upcoming w_registers p1 p2 n (x4_L5 + 1) x3_L5
      else
        (if u17 = p2 then
          f_X0_registerToLose_L5 w_code_kinds w_code_length w_valueIn w_slotOf w_upcoming w_registers p1 p2 n (x4_L5 + 1) x3_L5
        else
          (if x3_L5 = (-1) then
            f_X0_registerToLose_L5 w_code_kinds w_code_length w_valueIn w_slotOf w_upcoming w_registers p1 p2 n (x4_L5 + 1) x4_L5
          else
            (Option.bind (f_X0_valueHeldIn x3_L5 w_valueIn w_registers) fun u56 =>
            (Option.bind (f_X0_losesBefore u17 u56 w_code_kinds w_code_length w_slotOf w_upcoming) fun u59 =>
            (if u59 = 0 then
              f_X0_registerToLose_L5 w_code_kinds w_code_length w_valueIn w_slotOf w_upcoming w_registers p1 p2 n (x4_L5 + 1) x3_L5
            else
              f_X0_registerToLose_L5 w_code_kinds w_code_length w_valueIn w_slotOf w_upcoming w_registers p1 p2 n (x4_L5 + 1) x4_L5))))))))

noncomputable def f_X0_registerToLose (p1 : Int32) (p2 : Int32) (w_code_kinds : Nat → Int32) (w_code_length : Int32) (w_valueIn : Nat → Int32) (w_slotOf : Nat → Int32) (w_upcoming : Nat → Int32) (w_registers : Int32) : Option (Int32) :=
  (Option.bind (f_X0_registerToLose_L5 w_code_kinds w_code_length w_valueIn w_slotOf w_upcoming w_registers p1 p2 4000 0 (-1)) fun v5 =>
    some v5)

noncomputable def f_X0_smallestFreeSlot_L2 (w_slotTaken : Nat → Int32) : Nat → Int32 → Option (Int32)
  | 0, _ => none
  | n + 1, x1_L2 =>
    (if 60 ≤ x1_L2 then
      some (-1)
    else
      (rdc x1_L2 60
      (if (w_slotTaken x1_L2.toNatClampNeg) = 0 then
        some x1_L2
      else
        f_X0_smallestFreeSlot_L2 w_slotTaken n (x1_L2 + 1))))

noncomputable def f_X0_smallestFreeSlot (w_slotTaken : Nat → Int32) : Option (Int32) :=
  f_X0_smallestFreeSlot_L2 w_slotTaken 4000 0

noncomputable def f_X0_storeIfNeeded (p1 : Int32) (p2 : Int32) (w_code_kinds : Nat → Int32) (w_code_length : Int32) (w_steps_numbers : Nat → Int32) (w_steps_length : Int32) (w_pieces_numbers : Nat → Int32) (w_pieces_length : Int32) (w_slotOf : Nat → Int32) (w_pieceOf : Nat → Int32) (w_slotTaken : Nat → Int32) (w_slotCount : Int32) : Option ((Nat → Int32) × Int32 × (Nat → Int32) × (Nat → Int32) × (Nat → Int32) × Int32) :=
  (Option.bind (f_X0_isRow p1) fun u1 =>
  (if u1 = 0 then
    some (w_steps_numbers, w_steps_length, w_pieces_numbers, w_slotOf, w_slotTaken, w_slotCount)
  else
    (Option.bind (f_X1_isConst p1 w_code_kinds w_code_length) fun u12 =>
    (if u12 = 0 then
      (rdc p1 60
      (if (w_slotOf p1.toNatClampNeg) = (-1) then
        (Option.bind (f_X0_smallestFreeSlot w_slotTaken) fun u30 =>
        (if u30 = (-1) then
          some (w_steps_numbers, w_steps_length, w_pieces_numbers, w_slotOf, w_slotTaken, w_slotCount)
        else
          (rdc u30 60
          (rdc p1 60
          (Option.bind (f_X3_append 8 p2 u30 (-1) 960 w_steps_numbers 240 w_steps_length) fun u77 =>
          (rdc p1 60
          (Option.bind (f_X3_put (w_pieceOf p1.toNatClampNeg) 3 u77.1 720 w_pieces_numbers w_pieces_length) fun u95 =>
          some (u77.2.1, u77.2.2, u95, (upd w_slotOf p1.toNatClampNeg u30), (upd w_slotTaken u30.toNatClampNeg 1), (if w_slotCount < (u30 + 1) then (u30 + 1) else w_slotCount)))))))))
      else
        some (w_steps_numbers, w_steps_length, w_pieces_numbers, w_slotOf, w_slotTaken, w_slotCount)))
    else
      some (w_steps_numbers, w_steps_length, w_pieces_numbers, w_slotOf, w_slotTaken, w_slotCount)))))

noncomputable def f_X0_registerHolding (p1 : Int32) (w_registerOf : Nat → Int32) : Option (Int32) :=
  (Option.bind (f_X0_isRow p1) fun u1 =>
  (if u1 = 0 then
    some (-1)
  else
    (rdc p1 60
    (some (w_registerOf p1.toNatClampNeg)))))

noncomputable def f_X0_leaveRegister (p1 : Int32) (w_valueIn : Nat → Int32) (w_registerOf : Nat → Int32) (w_registers : Int32) : Option ((Nat → Int32) × (Nat → Int32)) :=
  (Option.bind (f_X0_registerHolding p1 w_registerOf) fun u2 =>
  (Option.bind (f_X0_isRegister u2 w_registers) fun u8 =>
  (if u8 = 0 then
    some (w_valueIn, w_registerOf)
  else
    (rdc u2 8
    (rdc p1 60
    (some ((upd w_valueIn u2.toNatClampNeg (-1)), (upd w_registerOf p1.toNatClampNeg (-1)))))))))

noncomputable def f_X0_getRegister_L2 (w_code_kinds : Nat → Int32) (w_code_length : Int32) (w_pieces_length : Int32) (w_pieceOf : Nat → Int32) (w_upcoming : Nat → Int32) (w_registers : Int32) (p1 : Int32) (p2 : Int32) : Nat → Int32 → (Nat → Int32) → Int32 → (Nat → Int32) → (Nat → Int32) → (Nat → Int32) → (Nat → Int32) → (Nat → Int32) → Int32 → Option (Int32 × (Nat → Int32) × Int32 × (Nat → Int32) × (Nat → Int32) × (Nat → Int32) × (Nat → Int32) × (Nat → Int32) × Int32)
  | 0, _, _, _, _, _, _, _, _, _ => none
  | n + 1, x3_L2, w_steps_numbers_L2, w_steps_length_L2, w_pieces_numbers_L2, w_valueIn_L2, w_registerOf_L2, w_slotOf_L2, w_slotTaken_L2, w_slotCount_L2 =>
    (if w_registers ≤ x3_L2 then
      (Option.bind (f_X0_registerToLose p1 p2 w_code_kinds w_code_length w_valueIn_L2 w_slotOf_L2 w_upcoming w_registers) fun u29 =>
      (Option.bind (f_X0_valueHeldIn u29 w_valueIn_L2 w_registers) fun u35 =>
      (Option.bind (f_X0_storeIfNeeded u35 u29 w_code_kinds w_code_length w_steps_numbers_L2 w_steps_length_L2 w_pieces_numbers_L2 w_pieces_length w_slotOf_L2 w_pieceOf w_slotTaken_L2 w_slotCount_L2) fun u44 =>
      (Option.bind (f_X0_leaveRegister u35 w_valueIn_L2 w_registerOf_L2 w_registers) fun u50 =>
      some (u29, u44.1, u44.2.1, u44.2.2.1, u50.1, u50.2, u44.2.2.2.1, u44.2.2.2.2.1, u44.2.2.2.2.2)))))
    else
      (Option.bind (f_X0_isFree x3_L2 w_valueIn_L2 w_registers) fun u12 =>
      (if u12 = 0 then
        f_X0_getRegister_L2 w_code_kinds w_code_length w_pieces_length w_pieceOf w_upcoming w_registers p1 p2 n (x3_L2 + 1) w_steps_numbers_L2 w_steps_length_L2 w_pieces_numbers_L2 w_valueIn_L2 w_registerOf_L2 w_slotOf_L2 w_slotTaken_L2 w_slotCount_L2
      else
        some (x3_L2, w_steps_numbers_L2, w_steps_length_L2, w_pieces_numbers_L2, w_valueIn_L2, w_registerOf_L2, w_slotOf_L2, w_slotTaken_L2, w_slotCount_L2))))

noncomputable def f_X0_getRegister (p1 : Int32) (p2 : Int32) (w_code_kinds : Nat → Int32) (w_code_length : Int32) (w_steps_numbers : Nat → Int32) (w_steps_length : Int32) (w_pieces_numbers : Nat → Int32) (w_pieces_length : Int32) (w_valueIn : Nat → Int32) (w_registerOf : Nat → Int32) (w_slotOf : Nat → Int32) (w_pieceOf : Nat → Int32) (w_upcoming : Nat → Int32) (w_slotTaken : Nat → Int32) (w_registers : Int32) (w_slotCount : Int32) : Option (Int32 × (Nat → Int32) × Int32 × (Nat → Int32) × (Nat → Int32) × (Nat → Int32) × (Nat → Int32) × (Nat → Int32) × Int32) :=
  f_X0_getRegister_L2 w_code_kinds w_code_length w_pieces_length w_pieceOf w_upcoming w_registers p1 p2 4000 0 w_steps_numbers w_steps_length w_pieces_numbers w_valueIn w_registerOf w_slotOf w_slotTaken w_slotCount

noncomputable def f_X0_slotHolding (p1 : Int32) (w_slotOf : Nat → Int32) : Option (Int32) :=
  (Option.bind (f_X0_isRow p1) fun u1 =>
  (if u1 = 0 then
    some (-1)
  else
    (rdc p1 60
    (some (w_slotOf p1.toNatClampNeg)))))

noncomputable def f_X0_beginPiece (p1 : Int32) (p2 : Int32) (p3 : Int32) (w_pieces_numbers : Nat → Int32) (w_pieces_length : Int32) (w_valueIn : Nat → Int32) (w_registerOf : Nat → Int32) (w_pieceOf : Nat → Int32) (w_registers : Int32) : Option ((Nat → Int32) × Int32 × (Nat → Int32) × (Nat → Int32) × (Nat → Int32)) :=
  (Option.bind (f_X0_isRow p1) fun u1 =>
  (if u1 = 0 then
    some (w_pieces_numbers, w_pieces_length, w_valueIn, w_registerOf, w_pieceOf)
  else
    (Option.bind (f_X0_isRegister p2 w_registers) fun u9 =>
    (if u9 = 0 then
      some (w_pieces_numbers, w_pieces_length, w_valueIn, w_registerOf, w_pieceOf)
    else
      (rdc p2 8
      (rdc p1 60
      (Option.bind (f_X3_append p1 p2 p3 p3 720 w_pieces_numbers 180 w_pieces_length) fun u42 =>
      (rdc p1 60
      (some (u42.2.1, u42.2.2, (upd w_valueIn p2.toNatClampNeg p1), (upd w_registerOf p1.toNatClampNeg p2), (upd w_pieceOf p1.toNatClampNeg u42.1)))))))))))

noncomputable def f_X0_fetch (p1 : Int32) (p2 : Int32) (w_code_kinds : Nat → Int32) (w_code_ints : Nat → Int32) (w_code_length : Int32) (w_steps_numbers : Nat → Int32) (w_steps_length : Int32) (w_pieces_numbers : Nat → Int32) (w_pieces_length : Int32) (w_valueIn : Nat → Int32) (w_registerOf : Nat → Int32) (w_slotOf : Nat → Int32) (w_pieceOf : Nat → Int32) (w_registers : Int32) : Option ((Nat → Int32) × Int32 × (Nat → Int32) × Int32 × (Nat → Int32) × (Nat → Int32) × (Nat → Int32)) :=
  (Option.bind (f_X1_isConst p1 w_code_kinds w_code_length) fun u5 =>
  (if u5 = 0 then
    (Option.bind (f_X0_slotHolding p1 w_slotOf) fun u42 =>
    (Option.bind (f_X3_append 7 p2 u42 (-1) 960 w_steps_numbers 240 w_steps_length) fun u46 =>
    (Option.bind (f_X0_beginPiece p1 p2 u46.1 w_pieces_numbers w_pieces_length w_valueIn w_registerOf w_pieceOf w_registers) fun u54 =>
    some (u46.2.1, u46.2.2, u54.1, u54.2.1, u54.2.2.1, u54.2.2.2.1, u54.2.2.2.2))))
  else
    (Option.bind (f_X1_intOf p1 w_code_ints w_code_length) fun u22 =>
    (Option.bind (f_X3_append 0 p2 u22 (-1) 960 w_steps_numbers 240 w_steps_length) fun u26 =>
    (Option.bind (f_X0_beginPiece p1 p2 u26.1 w_pieces_numbers w_pieces_length w_valueIn w_registerOf w_pieceOf w_registers) fun u54 =>
    some (u26.2.1, u26.2.2, u54.1, u54.2.1, u54.2.2.1, u54.2.2.2.1, u54.2.2.2.2))))))

noncomputable def f_X0_freeSlot (p1 : Int32) (w_slotOf : Nat → Int32) (w_slotTaken : Nat → Int32) : Option ((Nat → Int32) × (Nat → Int32)) :=
  (Option.bind (f_X0_slotHolding p1 w_slotOf) fun u2 =>
  (Option.bind (f_X0_isRow u2) fun u7 =>
  (if u7 = 0 then
    some (w_slotOf, w_slotTaken)
  else
    (rdc u2 60
    (rdc p1 60
    (some ((upd w_slotOf p1.toNatClampNeg (-1)), (upd w_slotTaken u2.toNatClampNeg 0))))))))

noncomputable def f_X0_moveToNextUse (p1 : Int32) (p2 : Int32) (w_code_firsts : Nat → Int32) (w_code_seconds : Nat → Int32) (w_code_counting : Nat → Int32) (w_code_length : Int32) (w_valueIn : Nat → Int32) (w_registerOf : Nat → Int32) (w_slotOf : Nat → Int32) (w_upcoming : Nat → Int32) (w_slotTaken : Nat → Int32) (w_registers : Int32) : Option ((Nat → Int32) × (Nat → Int32) × (Nat → Int32) × (Nat → Int32) × (Nat → Int32)) :=
  (Option.bind (f_X0_isRow p1) fun u1 =>
  (if u1 = 0 then
    some (w_valueIn, w_registerOf, w_slotOf, w_upcoming, w_slotTaken)
  else
    (Option.bind (f_X1_firstUse p1 (p2 + 1) w_code_firsts w_code_seconds w_code_counting w_code_length) fun u21 =>
    (rdc p1 60
    (rdc p1 60
    (if ((upd w_upcoming p1.toNatClampNeg u21) p1.toNatClampNeg) = (-1) then
      (Option.bind (f_X0_leaveRegister p1 w_valueIn w_registerOf w_registers) fun u37 =>
      (Option.bind (f_X0_freeSlot p1 w_slotOf w_slotTaken) fun u42 =>
      some (u37.1, u37.2, u42.1, (upd w_upcoming p1.toNatClampNeg u21), u42.2)))
    else
      some (w_valueIn, w_registerOf, w_slotOf, (upd w_upcoming p1.toNatClampNeg u21), w_slotTaken)))))))

noncomputable def f_X0_registerJustLeft (p1 : Int32) (p2 : Int32) (w_valueIn : Nat → Int32) (w_registers : Int32) : Option (Int32) :=
  (Option.bind (f_X0_isFree p1 w_valueIn w_registers) fun u2 =>
  (if u2 = 0 then
    (Option.bind (f_X0_isFree p2 w_valueIn w_registers) fun u12 =>
    (if u12 = 0 then
      some (-1)
    else
      some p2))
  else
    some p1))

noncomputable def f_X0_readAt (p1 : Int32) (p2 : Int32) (w_pieces_numbers : Nat → Int32) (w_pieces_length : Int32) (w_pieceOf : Nat → Int32) : Option ((Nat → Int32)) :=
  (Option.bind (f_X0_isRow p1) fun u1 =>
  (if u1 = 0 then
    some w_pieces_numbers
  else
    (rdc p1 60
    (Option.bind (f_X3_put (w_pieceOf p1.toNatClampNeg) 3 p2 720 w_pieces_numbers w_pieces_length) fun u19 =>
    some u19))))

noncomputable def f_X0_treat_J167 (x6_J167 : Int32) (x3_J167 : Int32) (x2_J167 : Int32) (w_steps_numbers_J167 : Nat → Int32) (w_steps_length_J167 : Int32) (w_pieces_numbers_J167 : Nat → Int32) (w_pieces_length_J167 : Int32) (w_valueIn_J167 : Nat → Int32) (w_registerOf_J167 : Nat → Int32) (w_slotOf_J167 : Nat → Int32) (w_pieceOf_J167 : Nat → Int32) (w_upcoming_J167 : Nat → Int32) (w_slotTaken_J167 : Nat → Int32) (w_slotCount_J167 : Int32) : Option ((Nat → Int32) × Int32 × (Nat → Int32) × Int32 × (Nat → Int32) × (Nat → Int32) × (Nat → Int32) × (Nat → Int32) × (Nat → Int32) × (Nat → Int32) × Int32) :=
  (Option.bind (f_X0_readAt x2_J167 x6_J167 w_pieces_numbers_J167 w_pieces_length_J167 w_pieceOf_J167) fun u171 =>
  (Option.bind (f_X0_readAt x3_J167 x6_J167 u171 w_pieces_length_J167 w_pieceOf_J167) fun u178 =>
  some (w_steps_numbers_J167, w_steps_length_J167, u178, w_pieces_length_J167, w_valueIn_J167, w_registerOf_J167, w_slotOf_J167, w_pieceOf_J167, w_upcoming_J167, w_slotTaken_J167, w_slotCount_J167)))

noncomputable def f_X0_treat_J117 (w_code_kinds : Nat → Int32) (w_code_length : Int32) (w_registers : Int32) (x7_J117 : Int32) (x5_J117 : Int32) (x4_J117 : Int32) (x3_J117 : Int32) (x2_J117 : Int32) (x1_J117 : Int32) (w_steps_numbers_J117 : Nat → Int32) (w_steps_length_J117 : Int32) (w_pieces_numbers_J117 : Nat → Int32) (w_pieces_length_J117 : Int32) (w_valueIn_J117 : Nat → Int32) (w_registerOf_J117 : Nat → Int32) (w_slotOf_J117 : Nat → Int32) (w_pieceOf_J117 : Nat → Int32) (w_upcoming_J117 : Nat → Int32) (w_slotTaken_J117 : Nat → Int32) (w_slotCount_J117 : Int32) : Option ((Nat → Int32) × Int32 × (Nat → Int32) × Int32 × (Nat → Int32) × (Nat → Int32) × (Nat → Int32) × (Nat → Int32) × (Nat → Int32) × (Nat → Int32) × Int32) :=
  (Option.bind (f_X1_kindOf x1_J117 w_code_kinds w_code_length) fun u126 =>
  (Option.bind (f_X3_append u126 x7_J117 x4_J117 x5_J117 960 w_steps_numbers_J117 240 w_steps_length_J117) fun u135 =>
  (Option.bind (f_X0_beginPiece x1_J117 x7_J117 u135.1 w_pieces_numbers_J117 w_pieces_length_J117 w_valueIn_J117 w_registerOf_J117 w_pieceOf_J117 w_registers) fun u146 =>
  f_X0_treat_J167 u135.1 x3_J117 x2_J117 u135.2.1 u135.2.2 u146.1 u146.2.1 u146.2.2.1 u146.2.2.2.1 w_slotOf_J117 u146.2.2.2.2 w_upcoming_J117 w_slotTaken_J117 w_slotCount_J117)))

noncomputable def f_X0_treat_J56 (w_code_kinds : Nat → Int32) (w_code_firsts : Nat → Int32) (w_code_seconds : Nat → Int32) (w_code_counting : Nat → Int32) (w_code_length : Int32) (w_registers : Int32) (x3_J56 : Int32) (x2_J56 : Int32) (x1_J56 : Int32) (w_steps_numbers_J56 : Nat → Int32) (w_steps_length_J56 : Int32) (w_pieces_numbers_J56 : Nat → Int32) (w_pieces_length_J56 : Int32) (w_valueIn_J56 : Nat → Int32) (w_registerOf_J56 : Nat → Int32) (w_slotOf_J56 : Nat → Int32) (w_pieceOf_J56 : Nat → Int32) (w_upcoming_J56 : Nat → Int32) (w_slotTaken_J56 : Nat → Int32) (w_slotCount_J56 : Int32) : Option ((Nat → Int32) × Int32 × (Nat → Int32) × Int32 × (Nat → Int32) × (Nat → Int32) × (Nat → Int32) × (Nat → Int32) × (Nat → Int32) × (Nat → Int32) × Int32) :=
  (Option.bind (f_X0_registerHolding x2_J56 w_registerOf_J56) fun u58 =>
  (Option.bind (f_X0_registerHolding x3_J56 w_registerOf_J56) fun u65 =>
  (Option.bind (f_X0_moveToNextUse x2_J56 x1_J56 w_code_firsts w_code_seconds w_code_counting w_code_length w_valueIn_J56 w_registerOf_J56 w_slotOf_J56 w_upcoming_J56 w_slotTaken_J56 w_registers) fun u73 =>
  (Option.bind (f_X0_moveToNextUse x3_J56 x1_J56 w_code_firsts w_code_seconds w_code_counting w_code_length u73.1 u73.2.1 u73.2.2.1 u73.2.2.2.1 u73.2.2.2.2 w_registers) fun u79 =>
  (Option.bind (f_X1_hasValue x1_J56 w_code_kinds w_code_length) fun u87 =>
  (if u87 = 0 then
    (Option.bind (f_X3_append 6 u58 (-1) (-1) 960 w_steps_numbers_J56 240 w_steps_length_J56) fun u162 =>
    f_X0_treat_J167 u162.1 x3_J56 x2_J56 u162.2.1 u162.2.2 w_pieces_numbers_J56 w_pieces_length_J56 u79.1 u79.2.1 u79.2.2.1 w_pieceOf_J56 u79.2.2.2.1 u79.2.2.2.2 w_slotCount_J56)
  else
    (Option.bind (f_X0_registerJustLeft u58 u65 u79.1 w_registers) fun u98 =>
    (if u98 = (-1) then
      (Option.bind (f_X0_getRegister (-1) (-1) w_code_kinds w_code_length w_steps_numbers_J56 w_steps_length_J56 w_pieces_numbers_J56 w_pieces_length_J56 u79.1 u79.2.1 u79.2.2.1 w_pieceOf_J56 u79.2.2.2.1 u79.2.2.2.2 w_registers w_slotCount_J56) fun u112 =>
      f_X0_treat_J117 w_code_kinds w_code_length w_registers u112.1 u65 u58 x3_J56 x2_J56 x1_J56 u112.2.1 u112.2.2.1 u112.2.2.2.1 w_pieces_length_J56 u112.2.2.2.2.1 u112.2.2.2.2.2.1 u112.2.2.2.2.2.2.1 w_pieceOf_J56 u79.2.2.2.1 u112.2.2.2.2.2.2.2.1 u112.2.2.2.2.2.2.2.2)
    else
      f_X0_treat_J117 w_code_kinds w_code_length w_registers u98 u65 u58 x3_J56 x2_J56 x1_J56 w_steps_numbers_J56 w_steps_length_J56 w_pieces_numbers_J56 w_pieces_length_J56 u79.1 u79.2.1 u79.2.2.1 w_pieceOf_J56 u79.2.2.2.1 u79.2.2.2.2 w_slotCount_J56))))))))

noncomputable def f_X0_treat_J37 (w_code_kinds : Nat → Int32) (w_code_firsts : Nat → Int32) (w_code_seconds : Nat → Int32) (w_code_ints : Nat → Int32) (w_code_counting : Nat → Int32) (w_code_length : Int32) (w_registers : Int32) (x3_J37 : Int32) (x2_J37 : Int32) (x1_J37 : Int32) (w_steps_numbers_J37 : Nat → Int32) (w_steps_length_J37 : Int32) (w_pieces_numbers_J37 : Nat → Int32) (w_pieces_length_J37 : Int32) (w_valueIn_J37 : Nat → Int32) (w_registerOf_J37 : Nat → Int32) (w_slotOf_J37 : Nat → Int32) (w_pieceOf_J37 : Nat → Int32) (w_upcoming_J37 : Nat → Int32) (w_slotTaken_J37 : Nat → Int32) (w_slotCount_J37 : Int32) : Option ((Nat → Int32) × Int32 × (Nat → Int32) × Int32 × (Nat → Int32) × (Nat → Int32) × (Nat → Int32) × (Nat → Int32) × (Nat → Int32) × (Nat → Int32) × Int32) :=
  (Option.bind (f_X0_isMissing x3_J37 w_registerOf_J37) fun u39 =>
  (if u39 = 0 then
    f_X0_treat_J56 w_code_kinds w_code_firsts w_code_seconds w_code_counting w_code_length w_registers x3_J37 x2_J37 x1_J37 w_steps_numbers_J37 w_steps_length_J37 w_pieces_numbers_J37 w_pieces_length_J37 w_valueIn_J37 w_registerOf_J37 w_slotOf_J37 w_pieceOf_J37 w_upcoming_J37 w_slotTaken_J37 w_slotCount_J37
  else
    (Option.bind (f_X0_getRegister x2_J37 x3_J37 w_code_kinds w_code_length w_steps_numbers_J37 w_steps_length_J37 w_pieces_numbers_J37 w_pieces_length_J37 w_valueIn_J37 w_registerOf_J37 w_slotOf_J37 w_pieceOf_J37 w_upcoming_J37 w_slotTaken_J37 w_registers w_slotCount_J37) fun u50 =>
    (Option.bind (f_X0_fetch x3_J37 u50.1 w_code_kinds w_code_ints w_code_length u50.2.1 u50.2.2.1 u50.2.2.2.1 w_pieces_length_J37 u50.2.2.2.2.1 u50.2.2.2.2.2.1 u50.2.2.2.2.2.2.1 w_pieceOf_J37 w_registers) fun u53 =>
    f_X0_treat_J56 w_code_kinds w_code_firsts w_code_seconds w_code_counting w_code_length w_registers x3_J37 x2_J37 x1_J37 u53.1 u53.2.1 u53.2.2.1 u53.2.2.2.1 u53.2.2.2.2.1 u53.2.2.2.2.2.1 u50.2.2.2.2.2.2.1 u53.2.2.2.2.2.2 w_upcoming_J37 u50.2.2.2.2.2.2.2.1 u50.2.2.2.2.2.2.2.2))))

noncomputable def f_X0_treat (p1 : Int32) (w_code_kinds : Nat → Int32) (w_code_firsts : Nat → Int32) (w_code_seconds : Nat → Int32) (w_code_ints : Nat → Int32) (w_code_counting : Nat → Int32) (w_code_length : Int32) (w_steps_numbers : Nat → Int32) (w_steps_length : Int32) (w_pieces_numbers : Nat → Int32) (w_pieces_length : Int32) (w_valueIn : Nat → Int32) (w_registerOf : Nat → Int32) (w_slotOf : Nat → Int32) (w_pieceOf : Nat → Int32) (w_upcoming : Nat → Int32) (w_slotTaken : Nat → Int32) (w_registers : Int32) (w_slotCount : Int32) : Option ((Nat → Int32) × Int32 × (Nat → Int32) × Int32 × (Nat → Int32) × (Nat → Int32) × (Nat → Int32) × (Nat → Int32) × (Nat → Int32) × (Nat → Int32) × Int32) :=
  (Option.bind (f_X1_firstOf p1 w_code_firsts w_code_length) fun u5 =>
  (Option.bind (f_X1_secondOf p1 w_code_seconds w_code_length) fun u14 =>
  (Option.bind (f_X0_isMissing u5 w_registerOf) fun u20 =>
  (if u20 = 0 then
    f_X0_treat_J37 w_code_kinds w_code_firsts w_code_seconds w_code_ints w_code_counting w_code_length w_registers u14 u5 p1 w_steps_numbers w_steps_length w_pieces_numbers w_pieces_length w_valueIn w_registerOf w_slotOf w_pieceOf w_upcoming w_slotTaken w_slotCount
  else
    (Option.bind (f_X0_getRegister u5 u14 w_code_kinds w_code_length w_steps_numbers w_steps_length w_pieces_numbers w_pieces_length w_valueIn w_registerOf w_slotOf w_pieceOf w_upcoming w_slotTaken w_registers w_slotCount) fun u31 =>
    (Option.bind (f_X0_fetch u5 u31.1 w_code_kinds w_code_ints w_code_length u31.2.1 u31.2.2.1 u31.2.2.2.1 w_pieces_length u31.2.2.2.2.1 u31.2.2.2.2.2.1 u31.2.2.2.2.2.2.1 w_pieceOf w_registers) fun u34 =>
    f_X0_treat_J37 w_code_kinds w_code_firsts w_code_seconds w_code_ints w_code_counting w_code_length w_registers u14 u5 p1 u34.1 u34.2.1 u34.2.2.1 u34.2.2.2.1 u34.2.2.2.2.1 u34.2.2.2.2.2.1 u31.2.2.2.2.2.2.1 u34.2.2.2.2.2.2 w_upcoming u31.2.2.2.2.2.2.2.1 u31.2.2.2.2.2.2.2.2))))))

noncomputable def f_X0_make_L7 (w_code_kinds : Nat → Int32) (w_code_firsts : Nat → Int32) (w_code_seconds : Nat → Int32) (w_code_ints : Nat → Int32) (w_code_counting : Nat → Int32) (w_code_length : Int32) (u2_8 : Int32) : Nat → Int32 → (Nat → Int32) → Int32 → (Nat → Int32) → Int32 → (Nat → Int32) → (Nat → Int32) → (Nat → Int32) → (Nat → Int32) → (Nat → Int32) → (Nat → Int32) → Int32 → Option ((Nat → Int32) × Int32 × (Nat → Int32) × Int32 × (Nat → Int32) × (Nat → Int32) × (Nat → Int32) × (Nat → Int32) × (Nat → Int32) × (Nat → Int32) × Int32)
  | 0, _, _, _, _, _, _, _, _, _, _, _, _ => none
  | n + 1, x2_L7, w_steps_numbers_L7, w_steps_length_L7, w_pieces_numbers_L7, w_pieces_length_L7, w_valueIn_L7, w_registerOf_L7, w_slotOf_L7, w_pieceOf_L7, w_upcoming_L7, w_slotTaken_L7, w_slotCount_L7 =>
    (Option.bind (f_X1_length w_code_length) fun u12 =>
    (if u12 ≤ x2_L7 then
      some (w_steps_numbers_L7, w_steps_length_L7, w_pieces_numbers_L7, w_pieces_length_L7, w_valueIn_L7, w_registerOf_L7, w_slotOf_L7, w_pieceOf_L7, w_upcoming_L7, w_slotTaken_L7, w_slotCount_L7)
    else
      (Option.bind (f_X1_isCounting x2_L7 w_code_counting w_code_length) fun u23 =>
      (if u23 = 0 then
        f_X0_make_L7 w_code_kinds w_code_firsts w_code_seconds w_code_ints w_code_counting w_code_length u2_8 n (x2_L7 + 1) w_steps_numbers_L7 w_steps_length_L7 w_pieces_numbers_L7 w_pieces_length_L7 w_valueIn_L7 w_registerOf_L7 w_slotOf_L7 w_pieceOf_L7 w_upcoming_L7 w_slotTaken_L7 w_slotCount_L7
      else
        (Option.bind (f_X1_isConst x2_L7 w_code_kinds w_code_length) fun u34 =>
        (if u34 = 0 then
          (Option.bind (f_X0_treat x2_L7 w_code_kinds w_code_firsts w_code_seconds w_code_ints w_code_counting w_code_length w_steps_numbers_L7 w_steps_length_L7 w_pieces_numbers_L7 w_pieces_length_L7 w_valueIn_L7 w_registerOf_L7 w_slotOf_L7 w_pieceOf_L7 w_upcoming_L7 w_slotTaken_L7 u2_8 w_slotCount_L7) fun u42 =>
          f_X0_make_L7 w_code_kinds w_code_firsts w_code_seconds w_code_ints w_code_counting w_code_length u2_8 n (x2_L7 + 1) u42.1 u42.2.1 u42.2.2.1 u42.2.2.2.1 u42.2.2.2.2.1 u42.2.2.2.2.2.1 u42.2.2.2.2.2.2.1 u42.2.2.2.2.2.2.2.1 u42.2.2.2.2.2.2.2.2.1 u42.2.2.2.2.2.2.2.2.2.1 u42.2.2.2.2.2.2.2.2.2.2)
        else
          f_X0_make_L7 w_code_kinds w_code_firsts w_code_seconds w_code_ints w_code_counting w_code_length u2_8 n (x2_L7 + 1) w_steps_numbers_L7 w_steps_length_L7 w_pieces_numbers_L7 w_pieces_length_L7 w_valueIn_L7 w_registerOf_L7 w_slotOf_L7 w_pieceOf_L7 w_upcoming_L7 w_slotTaken_L7 w_slotCount_L7))))))

noncomputable def f_X0_make (p1 : Int32) (w_code_kinds : Nat → Int32) (w_code_firsts : Nat → Int32) (w_code_seconds : Nat → Int32) (w_code_ints : Nat → Int32) (w_code_counting : Nat → Int32) (w_code_length : Int32) (w_steps_numbers : Nat → Int32) (w_pieces_numbers : Nat → Int32) (w_valueIn : Nat → Int32) (w_registerOf : Nat → Int32) (w_slotOf : Nat → Int32) (w_pieceOf : Nat → Int32) (w_upcoming : Nat → Int32) (w_slotTaken : Nat → Int32) : Option ((Nat → Int32) × Int32 × (Nat → Int32) × Int32 × (Nat → Int32) × (Nat → Int32) × (Nat → Int32) × (Nat → Int32) × (Nat → Int32) × (Nat → Int32) × Int32 × Int32) :=
  (Option.bind (f_X0_clear p1 w_code_firsts w_code_seconds w_code_counting w_code_length w_valueIn w_registerOf w_slotOf w_pieceOf w_upcoming w_slotTaken) fun u2 =>
  (Option.bind (f_X0_make_L7 w_code_kinds w_code_firsts w_code_seconds w_code_ints w_code_counting w_code_length u2.2.2.2.2.2.2.2.2.1 4000 0 w_steps_numbers u2.1 w_pieces_numbers u2.2.1 u2.2.2.1 u2.2.2.2.1 u2.2.2.2.2.1 u2.2.2.2.2.2.1 u2.2.2.2.2.2.2.1 u2.2.2.2.2.2.2.2.1 u2.2.2.2.2.2.2.2.2.2) fun v7 =>
    some (v7.1, v7.2.1, v7.2.2.1, v7.2.2.2.1, v7.2.2.2.2.1, v7.2.2.2.2.2.1, v7.2.2.2.2.2.2.1, v7.2.2.2.2.2.2.2.1, v7.2.2.2.2.2.2.2.2.1, v7.2.2.2.2.2.2.2.2.2.1, u2.2.2.2.2.2.2.2.2.1, v7.2.2.2.2.2.2.2.2.2.2)))

/-! ===== machine ===== -/
noncomputable def f_X2_outputCount (w_outputCount : Int32) : Option (Int32) :=
  some w_outputCount

noncomputable def f_X2_outputAt (p1 : Int32) (w_outputs : Nat → Int32) (w_outputCount : Int32) : Option (Int32) :=
  (if p1 < 0 then
    some 0
  else
    (if w_outputCount ≤ p1 then
      some 0
    else
      (rdc p1 60
      (some (w_outputs p1.toNatClampNeg)))))

noncomputable def f_X2_setRegister (p1 : Int32) (p2 : Int32) (w_registers : Nat → Int32) : Option ((Nat → Int32)) :=
  (if p1 < 0 then
    some w_registers
  else
    (if 8 ≤ p1 then
      some w_registers
    else
      (rdc p1 8
      (some (upd w_registers p1.toNatClampNeg p2)))))

noncomputable def f_X2_inRegister (p1 : Int32) (w_registers : Nat → Int32) : Option (Int32) :=
  (if p1 < 0 then
    some 0
  else
    (if 8 ≤ p1 then
      some 0
    else
      (rdc p1 8
      (some (w_registers p1.toNatClampNeg)))))

noncomputable def f_X2_write (p1 : Int32) (w_outputs : Nat → Int32) (w_outputCount : Int32) : Option ((Nat → Int32) × Int32) :=
  (if w_outputCount < 0 then
    some (w_outputs, w_outputCount)
  else
    (if 60 ≤ w_outputCount then
      some (w_outputs, w_outputCount)
    else
      (rdc w_outputCount 60
      (some ((upd w_outputs w_outputCount.toNatClampNeg p1), (w_outputCount + 1))))))

noncomputable def f_X2_inSlot (p1 : Int32) (w_slots : Nat → Int32) : Option (Int32) :=
  (if p1 < 0 then
    some 0
  else
    (if 60 ≤ p1 then
      some 0
    else
      (rdc p1 60
      (some (w_slots p1.toNatClampNeg)))))

noncomputable def f_X2_setSlot (p1 : Int32) (p2 : Int32) (w_slots : Nat → Int32) : Option ((Nat → Int32)) :=
  (if p1 < 0 then
    some w_slots
  else
    (if 60 ≤ p1 then
      some w_slots
    else
      (rdc p1 60
      (some (upd w_slots p1.toNatClampNeg p2)))))

noncomputable def f_X2_compute (p1 : Int32) (p2 : Int32) (p3 : Int32) : Option (Int32) :=
  (if p1 = 1 then
    some (p2 + p3)
  else
  (if p1 = 2 then
    some (p2 - p3)
  else
  (if p1 = 3 then
    some (p2 * p3)
  else
    some (p2 ^^^ p3))))

noncomputable def f_X2_perform_J112 (x1_J112 : Int32) (x2_J112 : Int32) (x3_J112 : Int32) (x4_J112 : Int32) (w_registers_J112 : Nat → Int32) (w_slots_J112 : Nat → Int32) (w_outputs_J112 : Nat → Int32) (w_outputCount_J112 : Int32) : Option ((Nat → Int32) × (Nat → Int32) × (Nat → Int32) × Int32) :=
  (Option.bind (f_X2_inRegister x3_J112 w_registers_J112) fun u117 =>
  (Option.bind (f_X2_inRegister x4_J112 w_registers_J112) fun u123 =>
  (Option.bind (f_X2_compute x1_J112 u117 u123) fun u126 =>
  (Option.bind (f_X2_setRegister x2_J112 u126 w_registers_J112) fun u129 =>
  some (u129, w_slots_J112, w_outputs_J112, w_outputCount_J112)))))

noncomputable def f_X2_perform (p1 : Int32) (p2 : Int32) (p3 : Int32) (p4 : Int32) (w_registers : Nat → Int32) (w_slots : Nat → Int32) (w_outputs : Nat → Int32) (w_outputCount : Int32) : Option ((Nat → Int32) × (Nat → Int32) × (Nat → Int32) × Int32) :=
  (if p1 = 0 then
    (Option.bind (f_X2_setRegister p2 p3 w_registers) fun u55 =>
    some (u55, w_slots, w_outputs, w_outputCount))
  else
  (if p1 = 5 then
    (Option.bind (f_X2_inRegister p3 w_registers) fun u65 =>
    (Option.bind (f_X2_setRegister p2 u65 w_registers) fun u68 =>
    some (u68, w_slots, w_outputs, w_outputCount)))
  else
  (if p1 = 6 then
    (Option.bind (f_X2_inRegister p2 w_registers) fun u77 =>
    (Option.bind (f_X2_write u77 w_outputs w_outputCount) fun u80 =>
    some (w_registers, w_slots, u80.1, u80.2)))
  else
  (if p1 = 7 then
    (Option.bind (f_X2_inSlot p3 w_slots) fun u90 =>
    (Option.bind (f_X2_setRegister p2 u90 w_registers) fun u93 =>
    some (u93, w_slots, w_outputs, w_outputCount)))
  else
  (if p1 = 8 then
    (Option.bind (f_X2_inRegister p2 w_registers) fun u103 =>
    (Option.bind (f_X2_setSlot p3 u103 w_slots) fun u106 =>
    some (w_registers, u106, w_outputs, w_outputCount)))
  else
    f_X2_perform_J112 p1 p2 p3 p4 w_registers w_slots w_outputs w_outputCount)))))

noncomputable def f_X2_execute_L2  : Nat → Int32 → (Nat → Int32) → Option ((Nat → Int32))
  | 0, _, _ => none
  | n + 1, x2_L2, w_registers_L2 =>
    (if 8 ≤ x2_L2 then
      some w_registers_L2
    else
      (rdc x2_L2 8
      (f_X2_execute_L2 n (x2_L2 + 1) (upd w_registers_L2 x2_L2.toNatClampNeg 0))))

noncomputable def f_X2_execute_L23  : Nat → Int32 → (Nat → Int32) → Option ((Nat → Int32))
  | 0, _, _ => none
  | n + 1, x2_L23, w_slots_L23 =>
    (if 60 ≤ x2_L23 then
      some w_slots_L23
    else
      (rdc x2_L23 60
      (f_X2_execute_L23 n (x2_L23 + 1) (upd w_slots_L23 x2_L23.toNatClampNeg 0))))

noncomputable def f_X2_execute_L49 (rN : Nat) (w_r_numbers : Nat → Int32) (w_r_length : Int32) : Nat → Int32 → (Nat → Int32) → (Nat → Int32) → (Nat → Int32) → Int32 → Option ((Nat → Int32) × (Nat → Int32) × (Nat → Int32) × Int32)
  | 0, _, _, _, _, _ => none
  | n + 1, x2_L49, w_registers_L49, w_slots_L49, w_outputs_L49, w_outputCount_L49 =>
    (Option.bind (f_X3_length w_r_length) fun u51 =>
    (if u51 ≤ x2_L49 then
      some (w_registers_L49, w_slots_L49, w_outputs_L49, w_outputCount_L49)
    else
      (Option.bind (f_X3_at x2_L49 0 rN w_r_numbers w_r_length) fun u61 =>
      (Option.bind (f_X3_at x2_L49 1 rN w_r_numbers w_r_length) fun u67 =>
      (Option.bind (f_X3_at x2_L49 2 rN w_r_numbers w_r_length) fun u73 =>
      (Option.bind (f_X3_at x2_L49 3 rN w_r_numbers w_r_length) fun u79 =>
      (Option.bind (f_X2_perform u61 u67 u73 u79 w_registers_L49 w_slots_L49 w_outputs_L49 w_outputCount_L49) fun u82 =>
      f_X2_execute_L49 rN w_r_numbers w_r_length n (x2_L49 + 1) u82.1 u82.2.1 u82.2.2.1 u82.2.2.2)))))))

noncomputable def f_X2_execute (w_registers : Nat → Int32) (w_slots : Nat → Int32) (w_outputs : Nat → Int32) (rN : Nat) (w_r_numbers : Nat → Int32) (w_r_length : Int32) : Option ((Nat → Int32) × (Nat → Int32) × (Nat → Int32) × Int32) :=
  (Option.bind (f_X2_execute_L2 4000 0 w_registers) fun v2 =>
    (Option.bind (f_X2_execute_L23 4000 0 w_slots) fun v23 =>
      (Option.bind (f_X2_execute_L49 rN w_r_numbers w_r_length 4000 0 v2 v23 w_outputs 0) fun v49 =>
        some (v49.1, v49.2.1, v49.2.2.1, v49.2.2.2))))

/-! ===== model ===== -/
noncomputable def f_X5_thrown (w_thrown : Int32) : Option (Int32) :=
  some w_thrown

noncomputable def f_X5_fail (p1 : Int32) : Option (Int32 × Int32) :=
  some (0, p1)

noncomputable def f_X5_isInstruction (p1 : Int32) (w_size : Int32) : Option (Int32) :=
  (if p1 < 0 then
    some 0
  else
    (if w_size ≤ p1 then
      some 0
    else
      some 1))

noncomputable def f_X5_hasValue (p1 : Int32) (w_size : Int32) (w_kinds : Nat → Int32) : Option (Int32) :=
  (Option.bind (f_X5_isInstruction p1 w_size) fun u2 =>
  (if u2 = 0 then
    some 0
  else
    (rdc p1 60
    (if (w_kinds p1.toNatClampNeg) = 6 then
      some 0
    else
      some 1))))

noncomputable def f_X5_append (p1 : Int32) (p2 : Int32) (p3 : Int32) (w_size : Int32) (w_kinds : Nat → Int32) (w_as : Nat → Int32) (w_bs : Nat → Int32) : Option (Int32 × Int32 × (Nat → Int32) × (Nat → Int32) × (Nat → Int32) × Int32) :=
  (rdc w_size 60
  (rdc w_size 60
  (rdc w_size 60
  (some (((w_size + 1) - 1), (w_size + 1), (upd w_kinds w_size.toNatClampNeg p1), (upd w_as w_size.toNatClampNeg p2), (upd w_bs w_size.toNatClampNeg p3), 0)))))

noncomputable def f_X5_constant (p1 : Int32) (w_size : Int32) (w_kinds : Nat → Int32) (w_as : Nat → Int32) (w_bs : Nat → Int32) (w_isMade : Int32) : Option (Int32 × Int32 × Int32 × (Nat → Int32) × (Nat → Int32) × (Nat → Int32) × Int32) :=
  (if w_size = 60 then
    (Option.bind (f_X5_fail 1) fun u16 =>
    some (u16.1, u16.2, w_size, w_kinds, w_as, w_bs, w_isMade))
  else
    (Option.bind (f_X5_append 0 p1 (-1) w_size w_kinds w_as w_bs) fun u26 =>
    some (u26.1, 0, u26.2.1, u26.2.2.1, u26.2.2.2.1, u26.2.2.2.2.1, u26.2.2.2.2.2)))

noncomputable def f_X5_operate (p1 : Int32) (p2 : Int32) (p3 : Int32) (w_size : Int32) (w_kinds : Nat → Int32) (w_as : Nat → Int32) (w_bs : Nat → Int32) (w_isMade : Int32) : Option (Int32 × Int32 × Int32 × (Nat → Int32) × (Nat → Int32) × (Nat → Int32) × Int32) :=
  (Option.bind (f_X5_hasValue p2 w_size w_kinds) fun u7 =>
  (if u7 = 0 then
    (Option.bind (f_X5_fail 1) fun u23 =>
    some (u23.1, u23.2, w_size, w_kinds, w_as, w_bs, w_isMade))
  else
    (Option.bind (f_X5_hasValue p3 w_size w_kinds) fun u15 =>
    (if u15 = 0 then
      (Option.bind (f_X5_fail 1) fun u23 =>
      some (u23.1, u23.2, w_size, w_kinds, w_as, w_bs, w_isMade))
    else
      (if p1 < 1 then
        (Option.bind (f_X5_fail 2) fun u39 =>
        some (u39.1, u39.2, w_size, w_kinds, w_as, w_bs, w_isMade))
      else
        (if p1 ≤ 4 then
          (if w_size = 60 then
            (Option.bind (f_X5_fail 3) fun u54 =>
            some (u54.1, u54.2, w_size, w_kinds, w_as, w_bs, w_isMade))
          else
            (Option.bind (f_X5_append p1 p2 p3 w_size w_kinds w_as w_bs) fun u64 =>
            some (u64.1, 0, u64.2.1, u64.2.2.1, u64.2.2.2.1, u64.2.2.2.2.1, u64.2.2.2.2.2)))
        else
          (Option.bind (f_X5_fail 2) fun u39 =>
          some (u39.1, u39.2, w_size, w_kinds, w_as, w_bs, w_isMade))))))))

noncomputable def f_X5_pass_J36 (x1_J36 : Int32) (x2_J36 : Int32) (w_thrown_J36 : Int32) (w_size_J36 : Int32) (w_kinds_J36 : Nat → Int32) (w_as_J36 : Nat → Int32) (w_bs_J36 : Nat → Int32) (w_isMade_J36 : Int32) : Option (Int32 × Int32 × Int32 × (Nat → Int32) × (Nat → Int32) × (Nat → Int32) × Int32) :=
  (if w_size_J36 = 60 then
    (Option.bind (f_X5_fail 3) fun u47 =>
    some (u47.1, u47.2, w_size_J36, w_kinds_J36, w_as_J36, w_bs_J36, w_isMade_J36))
  else
    (Option.bind (f_X5_append x1_J36 x2_J36 (-1) w_size_J36 w_kinds_J36 w_as_J36 w_bs_J36) fun u57 =>
    some (u57.1, w_thrown_J36, u57.2.1, u57.2.2.1, u57.2.2.2.1, u57.2.2.2.2.1, u57.2.2.2.2.2)))

noncomputable def f_X5_pass (p1 : Int32) (p2 : Int32) (w_size : Int32) (w_kinds : Nat → Int32) (w_as : Nat → Int32) (w_bs : Nat → Int32) (w_isMade : Int32) : Option (Int32 × Int32 × Int32 × (Nat → Int32) × (Nat → Int32) × (Nat → Int32) × Int32) :=
  (Option.bind (f_X5_hasValue p2 w_size w_kinds) fun u7 =>
  (if u7 = 0 then
    (Option.bind (f_X5_fail 1) fun u15 =>
    some (u15.1, u15.2, w_size, w_kinds, w_as, w_bs, w_isMade))
  else
    (if p1 = 5 then
      f_X5_pass_J36 p1 p2 0 w_size w_kinds w_as w_bs w_isMade
    else
      (if p1 = 6 then
        f_X5_pass_J36 p1 p2 0 w_size w_kinds w_as w_bs w_isMade
      else
        (Option.bind (f_X5_fail 2) fun u32 =>
        some (u32.1, u32.2, w_size, w_kinds, w_as, w_bs, w_isMade))))))

noncomputable def f_X5_change (p1 : Int32) (p2 : Int32) (w_size : Int32) (w_kinds : Nat → Int32) (w_as : Nat → Int32) (w_isMade : Int32) : Option (Int32 × Int32 × (Nat → Int32) × Int32) :=
  (Option.bind (f_X5_isInstruction p1 w_size) fun u7 =>
  (if u7 = 0 then
    (Option.bind (f_X5_fail 1) fun u15 =>
    some (u15.1, u15.2, w_as, w_isMade))
  else
    (rdc p1 60
    (if (w_kinds p1.toNatClampNeg) = 0 then
      (rdc p1 60
      (rdc p1 60
      (some ((w_as p1.toNatClampNeg), 0, (upd w_as p1.toNatClampNeg p2), 0))))
    else
      (Option.bind (f_X5_fail 2) fun u30 =>
      some (u30.1, u30.2, w_as, w_isMade))))))

noncomputable def f_X5_cut (p1 : Int32) (w_size : Int32) (w_isMade : Int32) : Option (Int32 × Int32 × Int32 × Int32) :=
  (if p1 < 0 then
    (Option.bind (f_X5_fail 1) fun u19 =>
    some (u19.1, u19.2, w_size, w_isMade))
  else
    (if p1 ≤ w_size then
      some ((w_size - p1), 0, (w_size - p1), 0)
    else
      (Option.bind (f_X5_fail 1) fun u19 =>
      some (u19.1, u19.2, w_size, w_isMade))))

noncomputable def f_X5_size (w_size : Int32) : Option (Int32 × Int32) :=
  some (w_size, 0)

noncomputable def f_X5_kind (p1 : Int32) (w_size : Int32) (w_kinds : Nat → Int32) : Option (Int32 × Int32) :=
  (Option.bind (f_X5_isInstruction p1 w_size) fun u7 =>
  (if u7 = 0 then
    (Option.bind (f_X5_fail 1) fun u24 =>
    some (u24.1, u24.2))
  else
    (rdc p1 60
    (some ((w_kinds p1.toNatClampNeg), 0)))))

noncomputable def f_X5_takes (p1 : Int32) (p2 : Int32) (w_kinds : Nat → Int32) (w_as : Nat → Int32) (w_bs : Nat → Int32) : Option (Int32) :=
  (rdc p1 60
  (if (w_kinds p1.toNatClampNeg) = 0 then
    some 0
  else
    (rdc p1 60
    (if (w_as p1.toNatClampNeg) = p2 then
      some 1
    else
      (rdc p1 60
      (if (w_bs p1.toNatClampNeg) = p2 then
        some 1
      else
        some 0))))))

noncomputable def f_X5_count_L37 (w_size : Int32) (w_kinds : Nat → Int32) (w_as : Nat → Int32) (w_bs : Nat → Int32) (x1_L7 : Int32) : Nat → Int32 → (Nat → Int32) → Option ((Nat → Int32))
  | 0, _, _ => none
  | n + 1, x2_L37, w_areCounted_L37 =>
    (if w_size ≤ x2_L37 then
      some w_areCounted_L37
    else
      (rdc x1_L7 60
      (if (w_areCounted_L37 x1_L7.toNatClampNeg) = 0 then
        (rdc x2_L37 60
        (if (w_areCounted_L37 x2_L37.toNatClampNeg) = 0 then
          (rdc x1_L7 60
          (f_X5_count_L37 w_size w_kinds w_as w_bs x1_L7 n (x2_L37 + 1) (upd w_areCounted_L37 x1_L7.toNatClampNeg 0)))
        else
          (Option.bind (f_X5_takes x2_L37 x1_L7 w_kinds w_as w_bs) fun u71 =>
          (if u71 = 0 then
            (rdc x1_L7 60
            (f_X5_count_L37 w_size w_kinds w_as w_bs x1_L7 n (x2_L37 + 1) (upd w_areCounted_L37 x1_L7.toNatClampNeg 0)))
          else
            (rdc x1_L7 60
            (f_X5_count_L37 w_size w_kinds w_as w_bs x1_L7 n (x2_L37 + 1) (upd w_areCounted_L37 x1_L7.toNatClampNeg 1)))))))
      else
        (rdc x1_L7 60
        (f_X5_count_L37 w_size w_kinds w_as w_bs x1_L7 n (x2_L37 + 1) (upd w_areCounted_L37 x1_L7.toNatClampNeg 1))))))

noncomputable def f_X5_count_L7 (w_size : Int32) (w_kinds : Nat → Int32) (w_as : Nat → Int32) (w_bs : Nat → Int32) : Nat → Int32 → (Nat → Int32) → Option ((Nat → Int32))
  | 0, _, _ => none
  | n + 1, x1_L7, w_areCounted_L7 =>
    (if x1_L7 < 0 then
      some w_areCounted_L7
    else
      (rdc x1_L7 60
      (if (w_kinds x1_L7.toNatClampNeg) = 6 then
        (rdc x1_L7 60
        (Option.bind (f_X5_count_L37 w_size w_kinds w_as w_bs x1_L7 4000 (x1_L7 + 1) (upd w_areCounted_L7 x1_L7.toNatClampNeg 1)) fun v37 =>
          f_X5_count_L7 w_size w_kinds w_as w_bs n (x1_L7 + (-1)) v37))
      else
        (rdc x1_L7 60
        (Option.bind (f_X5_count_L37 w_size w_kinds w_as w_bs x1_L7 4000 (x1_L7 + 1) (upd w_areCounted_L7 x1_L7.toNatClampNeg 0)) fun v37 =>
          f_X5_count_L7 w_size w_kinds w_as w_bs n (x1_L7 + (-1)) v37)))))

noncomputable def f_X5_count (w_size : Int32) (w_kinds : Nat → Int32) (w_as : Nat → Int32) (w_bs : Nat → Int32) (w_areCounted : Nat → Int32) : Option ((Nat → Int32)) :=
  (Option.bind (f_X5_count_L7 w_size w_kinds w_as w_bs 4000 (w_size - 1) w_areCounted) fun v7 =>
    some v7)

noncomputable def f_X5_counts_J14 (w_size : Int32) (w_kinds : Nat → Int32) (w_as : Nat → Int32) (w_bs : Nat → Int32) (x1_J14 : Int32) (t1_J14 : Int32) (w_areCounted_J14 : Nat → Int32) : Option (Int32 × Int32 × (Nat → Int32)) :=
  (if t1_J14 = 0 then
    (Option.bind (f_X5_count w_size w_kinds w_as w_bs w_areCounted_J14) fun u27 =>
    (rdc x1_J14 60
    (zck (u27 x1_J14.toNatClampNeg)
    (some ((u27 x1_J14.toNatClampNeg), t1_J14, u27)))))
  else
    some (0, t1_J14, w_areCounted_J14))

noncomputable def f_X5_counts (p1 : Int32) (w_size : Int32) (w_kinds : Nat → Int32) (w_as : Nat → Int32) (w_bs : Nat → Int32) (w_areCounted : Nat → Int32) : Option (Int32 × Int32 × (Nat → Int32)) :=
  (Option.bind (f_X5_isInstruction p1 w_size) fun u3 =>
  (if u3 = 0 then
    f_X5_counts_J14 w_size w_kinds w_as w_bs p1 1 w_areCounted
  else
    f_X5_counts_J14 w_size w_kinds w_as w_bs p1 0 w_areCounted))

noncomputable def f_X5_useFrom_L6 (w_size : Int32) (w_kinds : Nat → Int32) (w_as : Nat → Int32) (w_bs : Nat → Int32) (w_areCounted : Nat → Int32) (p1 : Int32) : Nat → Int32 → Option (Int32)
  | 0, _ => none
  | n + 1, x3_L6 =>
    (if w_size ≤ x3_L6 then
      some (-1)
    else
      (rdc x3_L6 60
      (if (w_areCounted x3_L6.toNatClampNeg) = 0 then
        f_X5_useFrom_L6 w_size w_kinds w_as w_bs w_areCounted p1 n (x3_L6 + 1)
      else
        (Option.bind (f_X5_takes x3_L6 p1 w_kinds w_as w_bs) fun u26 =>
        (if u26 = 0 then
          f_X5_useFrom_L6 w_size w_kinds w_as w_bs w_areCounted p1 n (x3_L6 + 1)
        else
          some x3_L6)))))

noncomputable def f_X5_useFrom (p1 : Int32) (p2 : Int32) (w_size : Int32) (w_kinds : Nat → Int32) (w_as : Nat → Int32) (w_bs : Nat → Int32) (w_areCounted : Nat → Int32) : Option (Int32) :=
  f_X5_useFrom_L6 w_size w_kinds w_as w_bs w_areCounted p1 4000 (if p2 < 0 then 0 else p2)

noncomputable def f_X5_nextUse (p1 : Int32) (p2 : Int32) (w_size : Int32) (w_kinds : Nat → Int32) (w_as : Nat → Int32) (w_bs : Nat → Int32) (w_areCounted : Nat → Int32) : Option (Int32 × Int32 × (Nat → Int32)) :=
  (Option.bind (f_X5_isInstruction p1 w_size) fun u7 =>
  (if u7 = 0 then
    (Option.bind (f_X5_fail 1) fun u15 =>
    some (u15.1, u15.2, w_areCounted))
  else
    (Option.bind (f_X5_count w_size w_kinds w_as w_bs w_areCounted) fun u20 =>
    (Option.bind (f_X5_useFrom p1 p2 w_size w_kinds w_as w_bs u20) fun u26 =>
    some (u26, 0, u20)))))

noncomputable def f_X5_pressure_L27 (w_size : Int32) (w_kinds : Nat → Int32) (w_as : Nat → Int32) (w_bs : Nat → Int32) (p1 : Int32) (u20 : Nat → Int32) : Nat → Int32 → Int32 → Option (Int32)
  | 0, _, _ => none
  | n + 1, x3_L27, x2_L27 =>
    (if p1 < x3_L27 then
      some x2_L27
    else
      (Option.bind (f_X5_useFrom x3_L27 (p1 + 1) w_size w_kinds w_as w_bs u20) fun u38 =>
      (if u38 = (-1) then
        f_X5_pressure_L27 w_size w_kinds w_as w_bs p1 u20 n (x3_L27 + 1) (x2_L27 + 0)
      else
        f_X5_pressure_L27 w_size w_kinds w_as w_bs p1 u20 n (x3_L27 + 1) (x2_L27 + 1))))

noncomputable def f_X5_pressure (p1 : Int32) (w_size : Int32) (w_kinds : Nat → Int32) (w_as : Nat → Int32) (w_bs : Nat → Int32) (w_areCounted : Nat → Int32) : Option (Int32 × Int32 × (Nat → Int32)) :=
  (Option.bind (f_X5_isInstruction p1 w_size) fun u7 =>
  (if u7 = 0 then
    (Option.bind (f_X5_fail 1) fun u15 =>
    some (u15.1, u15.2, w_areCounted))
  else
    (Option.bind (f_X5_count w_size w_kinds w_as w_bs w_areCounted) fun u20 =>
    (Option.bind (f_X5_pressure_L27 w_size w_kinds w_as w_bs p1 u20 4000 0 0) fun v27 =>
      some (v27, 0, u20)))))

noncomputable def f_X5_setRegisters (p1 : Int32) (w_registers : Int32) (w_isMade : Int32) : Option (Int32 × Int32 × Int32 × Int32) :=
  (if p1 < 2 then
    (Option.bind (f_X5_fail 1) fun u18 =>
    some (u18.1, u18.2, w_registers, w_isMade))
  else
    (if p1 ≤ 8 then
      some (w_registers, 0, p1, 0)
    else
      (Option.bind (f_X5_fail 1) fun u18 =>
      some (u18.1, u18.2, w_registers, w_isMade))))

noncomputable def f_X5_add (p1 : Int32) (p2 : Int32) (p3 : Int32) (p4 : Int32) (w_steps : Int32) (w_stepParts : Nat → Int32) : Option (Int32 × (Nat → Int32)) :=
  (rdc (4 * w_steps) 2000
  (rdc ((4 * w_steps) + 1) 2000
  (rdc ((4 * w_steps) + 2) 2000
  (rdc ((4 * w_steps) + 3) 2000
  (some ((w_steps + 1), (upd (upd (upd (upd w_stepParts (4 * w_steps).toNatClampNeg p1) ((4 * w_steps) + 1).toNatClampNeg p2) ((4 * w_steps) + 2).toNatClampNeg p3) ((4 * w_steps) + 3).toNatClampNeg p4)))))))

noncomputable def f_X5_begin (p1 : Int32) (p2 : Int32) (w_steps : Int32) (w_pieces : Int32) (w_pieceParts : Nat → Int32) (w_registerOf : Nat → Int32) (w_pieceOf : Nat → Int32) (w_heldBy : Nat → Int32) : Option (Int32 × (Nat → Int32) × (Nat → Int32) × (Nat → Int32) × (Nat → Int32)) :=
  (rdc p1 60
  (rdc p2 8
  (rdc p1 60
  (rdc (4 * w_pieces) 2000
  (rdc ((4 * w_pieces) + 1) 2000
  (rdc ((4 * w_pieces) + 2) 2000
  (rdc ((4 * w_pieces) + 3) 2000
  (some ((w_pieces + 1), (upd (upd (upd (upd w_pieceParts (4 * w_pieces).toNatClampNeg p1) ((4 * w_pieces) + 1).toNatClampNeg p2) ((4 * w_pieces) + 2).toNatClampNeg (w_steps - 1)) ((4 * w_pieces) + 3).toNatClampNeg (w_steps - 1)), (upd w_registerOf p1.toNatClampNeg p2), (upd w_pieceOf p1.toNatClampNeg w_pieces), (upd w_heldBy p2.toNatClampNeg p1))))))))))

noncomputable def f_X5_reads (p1 : Int32) (w_steps : Int32) (w_pieceParts : Nat → Int32) (w_pieceOf : Nat → Int32) : Option ((Nat → Int32)) :=
  (rdc p1 60
  (rdc ((4 * (w_pieceOf p1.toNatClampNeg)) + 3) 2000
  (some (upd w_pieceParts ((4 * (w_pieceOf p1.toNatClampNeg)) + 3).toNatClampNeg (w_steps - 1)))))

noncomputable def f_X5_leave (p1 : Int32) (w_registerOf : Nat → Int32) (w_heldBy : Nat → Int32) : Option ((Nat → Int32) × (Nat → Int32)) :=
  (rdc p1 60
  (rdc (w_registerOf p1.toNatClampNeg) 8
  (rdc p1 60
  (some ((upd w_registerOf p1.toNatClampNeg (-1)), (upd w_heldBy (w_registerOf p1.toNatClampNeg).toNatClampNeg (-1)))))))

noncomputable def f_X5_isBefore_J72 (w_slotOf : Nat → Int32) (x6_J72 : Int32) (x1_J72 : Int32) (x2_J72 : Int32) (t0_J72 : Int32) (t1_J72 : Int32) : Option (Int32) :=
  (if t0_J72 = t1_J72 then
    (rdc x1_J72 60
    (if (w_slotOf x1_J72.toNatClampNeg) = (-1) then
      some 0
    else
      (rdc x2_J72 60
      (if (w_slotOf x2_J72.toNatClampNeg) = (-1) then
        some 1
      else
        some 0))))
  else
    (zck x6_J72
    (some x6_J72)))

noncomputable def f_X5_isBefore_J54 (w_kinds : Nat → Int32) (w_slotOf : Nat → Int32) (x1_J54 : Int32) (x2_J54 : Int32) (t0_J54 : Int32) : Option (Int32) :=
  (rdc x2_J54 60
  (if (w_kinds x2_J54.toNatClampNeg) = 0 then
    f_X5_isBefore_J72 w_slotOf t0_J54 x1_J54 x2_J54 t0_J54 1
  else
    f_X5_isBefore_J72 w_slotOf t0_J54 x1_J54 x2_J54 t0_J54 0))

noncomputable def f_X5_isBefore (p1 : Int32) (p2 : Int32) (p3 : Int32) (w_size : Int32) (w_kinds : Nat → Int32) (w_as : Nat → Int32) (w_bs : Nat → Int32) (w_areCounted : Nat → Int32) (w_slotOf : Nat → Int32) : Option (Int32) :=
  (Option.bind (f_X5_useFrom p1 (p3 + 1) w_size w_kinds w_as w_bs w_areCounted) fun u5 =>
  (Option.bind (f_X5_useFrom p2 (p3 + 1) w_size w_kinds w_as w_bs w_areCounted) fun u15 =>
  (if u5 = u15 then
    (rdc p1 60
    (if (w_kinds p1.toNatClampNeg) = 0 then
      f_X5_isBefore_J54 w_kinds w_slotOf p1 p2 1
    else
      f_X5_isBefore_J54 w_kinds w_slotOf p1 p2 0))
  else
    (if u5 ≤ u15 then
      some 0
    else
      some 1))))

noncomputable def f_X5_get_L8 (w_heldBy : Nat → Int32) : Nat → Int32 → Int32 → Option (Int32)
  | 0, _, _ => none
  | n + 1, x5_L8, x4_L8 =>
    (if x5_L8 < 0 then
      some x4_L8
    else
      (rdc x5_L8 8
      (if (w_heldBy x5_L8.toNatClampNeg) = (-1) then
        f_X5_get_L8 w_heldBy n (x5_L8 + (-1)) x5_L8
      else
        f_X5_get_L8 w_heldBy n (x5_L8 + (-1)) x4_L8)))

noncomputable def f_X5_get_L46 (w_size : Int32) (w_kinds : Nat → Int32) (w_as : Nat → Int32) (w_bs : Nat → Int32) (w_areCounted : Nat → Int32) (w_slotOf : Nat → Int32) (w_heldBy : Nat → Int32) (p1 : Int32) (p2 : Int32) (p3 : Int32) : Nat → Int32 → Int32 → Option (Int32)
  | 0, _, _ => none
  | n + 1, x5_L46, x4_L46 =>
    (if p3 ≤ x5_L46 then
      some x4_L46
    else
      (if p2 = 0 then
        (if x4_L46 = (-1) then
          f_X5_get_L46 w_size w_kinds w_as w_bs w_areCounted w_slotOf w_heldBy p1 p2 p3 n (x5_L46 + 1) x5_L46
        else
          (rdc x5_L46 8
          (rdc x4_L46 8
          (Option.bind (f_X5_isBefore (w_heldBy x5_L46.toNatClampNeg) (w_heldBy x4_L46.toNatClampNeg) p1 w_size w_kinds w_as w_bs w_areCounted w_slotOf) fun u96 =>
          (if u96 = 0 then
            f_X5_get_L46 w_size w_kinds w_as w_bs w_areCounted w_slotOf w_heldBy p1 p2 p3 n (x5_L46 + 1) x4_L46
          else
            f_X5_get_L46 w_size w_kinds w_as w_bs w_areCounted w_slotOf w_heldBy p1 p2 p3 n (x5_L46 + 1) x5_L46)))))
      else
        (rdc x5_L46 8
        (Option.bind (f_X5_takes p1 (w_heldBy x5_L46.toNatClampNeg) w_kinds w_as w_bs) fun u65 =>
        (if u65 = 0 then
          (if x4_L46 = (-1) then
            f_X5_get_L46 w_size w_kinds w_as w_bs w_areCounted w_slotOf w_heldBy p1 p2 p3 n (x5_L46 + 1) x5_L46
          else
            (rdc x5_L46 8
            (rdc x4_L46 8
            (Option.bind (f_X5_isBefore (w_heldBy x5_L46.toNatClampNeg) (w_heldBy x4_L46.toNatClampNeg) p1 w_size w_kinds w_as w_bs w_areCounted w_slotOf) fun u96 =>
            (if u96 = 0 then
              f_X5_get_L46 w_size w_kinds w_as w_bs w_areCounted w_slotOf w_heldBy p1 p2 p3 n (x5_L46 + 1) x4_L46
            else
              f_X5_get_L46 w_size w_kinds w_as w_bs w_areCounted w_slotOf w_heldBy p1 p2 p3 n (x5_L46 + 1) x5_L46)))))
        else
          f_X5_get_L46 w_size w_kinds w_as w_bs w_areCounted w_slotOf w_heldBy p1 p2 p3 n (x5_L46 + 1) x4_L46)))))

noncomputable def f_X5_get_L145 (w_isSlotTaken : Nat → Int32) : Nat → Int32 → Option (Int32)
  | 0, _ => none
  | n + 1, x6_L145 =>
    (rdc x6_L145 60
    (if (w_isSlotTaken x6_L145.toNatClampNeg) = 0 then
      some x6_L145
    else
      f_X5_get_L145 w_isSlotTaken n (x6_L145 + 1)))

noncomputable def f_X5_get (p1 : Int32) (p2 : Int32) (p3 : Int32) (w_size : Int32) (w_kinds : Nat → Int32) (w_as : Nat → Int32) (w_bs : Nat → Int32) (w_steps : Int32) (w_stepParts : Nat → Int32) (w_pieceParts : Nat → Int32) (w_slots : Int32) (w_areCounted : Nat → Int32) (w_registerOf : Nat → Int32) (w_slotOf : Nat → Int32) (w_pieceOf : Nat → Int32) (w_heldBy : Nat → Int32) (w_isSlotTaken : Nat → Int32) : Option (Int32 × Int32 × (Nat → Int32) × (Nat → Int32) × Int32 × (Nat → Int32) × (Nat → Int32) × (Nat → Int32) × (Nat → Int32)) :=
  (Option.bind (f_X5_get_L8 w_heldBy 4000 (p3 - 1) (-1)) fun v8 =>
    (if v8 = (-1) then
      (Option.bind (f_X5_get_L46 w_size w_kinds w_as w_bs w_areCounted w_slotOf w_heldBy p1 p2 p3 4000 0 v8) fun v46 =>
        (rdc v46 8
        (rdc (w_heldBy v46.toNatClampNeg) 60
        (if (w_kinds (w_heldBy v46.toNatClampNeg).toNatClampNeg) = 0 then
          (Option.bind (f_X5_leave (w_heldBy v46.toNatClampNeg) w_registerOf w_heldBy) fun u213 =>
          some (v46, w_steps, w_stepParts, w_pieceParts, w_slots, u213.1, w_slotOf, u213.2, w_isSlotTaken))
        else
          (rdc (w_heldBy v46.toNatClampNeg) 60
          (if (w_slotOf (w_heldBy v46.toNatClampNeg).toNatClampNeg) = (-1) then
            (Option.bind (f_X5_get_L145 w_isSlotTaken 4000 0) fun v145 =>
              (rdc v145 60
              (rdc (w_heldBy v46.toNatClampNeg) 60
              (Option.bind (f_X5_add 8 v46 v145 (-1) w_steps w_stepParts) fun u201 =>
              (Option.bind (f_X5_reads (w_heldBy v46.toNatClampNeg) u201.1 w_pieceParts w_pieceOf) fun u207 =>
              (Option.bind (f_X5_leave (w_heldBy v46.toNatClampNeg) w_registerOf w_heldBy) fun u213 =>
              some (v46, u201.1, u201.2, u207, (if w_slots < (v145 + 1) then (v145 + 1) else w_slots), u213.1, (upd w_slotOf (w_heldBy v46.toNatClampNeg).toNatClampNeg v145), u213.2, (upd w_isSlotTaken v145.toNatClampNeg 1))))))))
          else
            (Option.bind (f_X5_leave (w_heldBy v46.toNatClampNeg) w_registerOf w_heldBy) fun u213 =>
            some (v46, w_steps, w_stepParts, w_pieceParts, w_slots, u213.1, w_slotOf, u213.2, w_isSlotTaken))))))))
    else
      some (v8, w_steps, w_stepParts, w_pieceParts, w_slots, w_registerOf, w_slotOf, w_heldBy, w_isSlotTaken)))

noncomputable def f_X5_bring (p1 : Int32) (p2 : Int32) (p3 : Int32) (w_size : Int32) (w_kinds : Nat → Int32) (w_as : Nat → Int32) (w_bs : Nat → Int32) (w_steps : Int32) (w_stepParts : Nat → Int32) (w_pieces : Int32) (w_pieceParts : Nat → Int32) (w_slots : Int32) (w_areCounted : Nat → Int32) (w_registerOf : Nat → Int32) (w_slotOf : Nat → Int32) (w_pieceOf : Nat → Int32) (w_heldBy : Nat → Int32) (w_isSlotTaken : Nat → Int32) : Option (Int32 × (Nat → Int32) × Int32 × (Nat → Int32) × Int32 × (Nat → Int32) × (Nat → Int32) × (Nat → Int32) × (Nat → Int32) × (Nat → Int32)) :=
  (rdc p1 60
  (if (w_registerOf p1.toNatClampNeg) = (-1) then
    (Option.bind (f_X5_get p2 1 p3 w_size w_kinds w_as w_bs w_steps w_stepParts w_pieceParts w_slots w_areCounted w_registerOf w_slotOf w_pieceOf w_heldBy w_isSlotTaken) fun u15 =>
    (rdc p1 60
    (if (w_kinds p1.toNatClampNeg) = 0 then
      (rdc p1 60
      (Option.bind (f_X5_add 0 u15.1 (w_as p1.toNatClampNeg) (-1) u15.2.1 u15.2.2.1) fun u40 =>
      (Option.bind (f_X5_begin p1 u15.1 u40.1 w_pieces u15.2.2.2.1 u15.2.2.2.2.2.1 w_pieceOf u15.2.2.2.2.2.2.2.1) fun u65 =>
      some (u40.1, u40.2, u65.1, u65.2.1, u15.2.2.2.2.1, u65.2.2.1, u15.2.2.2.2.2.2.1, u65.2.2.2.1, u65.2.2.2.2, u15.2.2.2.2.2.2.2.2))))
    else
      (rdc p1 60
      (Option.bind (f_X5_add 7 u15.1 (u15.2.2.2.2.2.2.1 p1.toNatClampNeg) (-1) u15.2.1 u15.2.2.1) fun u58 =>
      (Option.bind (f_X5_begin p1 u15.1 u58.1 w_pieces u15.2.2.2.1 u15.2.2.2.2.2.1 w_pieceOf u15.2.2.2.2.2.2.2.1) fun u65 =>
      some (u58.1, u58.2, u65.1, u65.2.1, u15.2.2.2.2.1, u65.2.2.1, u15.2.2.2.2.2.2.1, u65.2.2.2.1, u65.2.2.2.2, u15.2.2.2.2.2.2.2.2)))))))
  else
    some (w_steps, w_stepParts, w_pieces, w_pieceParts, w_slots, w_registerOf, w_slotOf, w_pieceOf, w_heldBy, w_isSlotTaken)))

noncomputable def f_X5_ends (p1 : Int32) (p2 : Int32) (w_size : Int32) (w_kinds : Nat → Int32) (w_as : Nat → Int32) (w_bs : Nat → Int32) (w_areCounted : Nat → Int32) (w_registerOf : Nat → Int32) (w_slotOf : Nat → Int32) (w_heldBy : Nat → Int32) (w_isSlotTaken : Nat → Int32) : Option (Int32 × (Nat → Int32) × (Nat → Int32) × (Nat → Int32) × (Nat → Int32)) :=
  (rdc p1 60
  (if (w_registerOf p1.toNatClampNeg) = (-1) then
    some (0, w_registerOf, w_slotOf, w_heldBy, w_isSlotTaken)
  else
    (Option.bind (f_X5_useFrom p1 (p2 + 1) w_size w_kinds w_as w_bs w_areCounted) fun u15 =>
    (if u15 = (-1) then
      (Option.bind (f_X5_leave p1 w_registerOf w_heldBy) fun u26 =>
      (rdc p1 60
      (if (w_slotOf p1.toNatClampNeg) = (-1) then
        (rdc p1 60
        (some (1, u26.1, (upd w_slotOf p1.toNatClampNeg (-1)), u26.2, w_isSlotTaken)))
      else
        (rdc p1 60
        (rdc (w_slotOf p1.toNatClampNeg) 60
        (rdc p1 60
        (some (1, u26.1, (upd w_slotOf p1.toNatClampNeg (-1)), u26.2, (upd w_isSlotTaken (w_slotOf p1.toNatClampNeg).toNatClampNeg 0)))))))))
    else
      some (0, w_registerOf, w_slotOf, w_heldBy, w_isSlotTaken)))))

noncomputable def f_X5_doInstruction_J184 (x4_J184 : Int32) (x3_J184 : Int32) (w_steps_J184 : Int32) (w_stepParts_J184 : Nat → Int32) (w_pieces_J184 : Int32) (w_pieceParts_J184 : Nat → Int32) (w_slots_J184 : Int32) (w_registerOf_J184 : Nat → Int32) (w_slotOf_J184 : Nat → Int32) (w_pieceOf_J184 : Nat → Int32) (w_heldBy_J184 : Nat → Int32) (w_isSlotTaken_J184 : Nat → Int32) : Option (Int32 × (Nat → Int32) × Int32 × (Nat → Int32) × Int32 × (Nat → Int32) × (Nat → Int32) × (Nat → Int32) × (Nat → Int32) × (Nat → Int32)) :=
  (Option.bind (f_X5_reads x3_J184 w_steps_J184 w_pieceParts_J184 w_pieceOf_J184) fun u186 =>
  (if x4_J184 = (-1) then
    some (w_steps_J184, w_stepParts_J184, w_pieces_J184, u186, w_slots_J184, w_registerOf_J184, w_slotOf_J184, w_pieceOf_J184, w_heldBy_J184, w_isSlotTaken_J184)
  else
    (Option.bind (f_X5_reads x4_J184 w_steps_J184 u186 w_pieceOf_J184) fun u198 =>
    some (w_steps_J184, w_stepParts_J184, w_pieces_J184, u198, w_slots_J184, w_registerOf_J184, w_slotOf_J184, w_pieceOf_J184, w_heldBy_J184, w_isSlotTaken_J184))))

noncomputable def f_X5_doInstruction_J168 (x9_J168 : Int32) (x6_J168 : Int32) (x5_J168 : Int32) (x4_J168 : Int32) (x3_J168 : Int32) (x1_J168 : Int32) (t1_J168 : Int32) (w_steps_J168 : Int32) (w_stepParts_J168 : Nat → Int32) (w_pieces_J168 : Int32) (w_pieceParts_J168 : Nat → Int32) (w_slots_J168 : Int32) (w_registerOf_J168 : Nat → Int32) (w_slotOf_J168 : Nat → Int32) (w_pieceOf_J168 : Nat → Int32) (w_heldBy_J168 : Nat → Int32) (w_isSlotTaken_J168 : Nat → Int32) : Option (Int32 × (Nat → Int32) × Int32 × (Nat → Int32) × Int32 × (Nat → Int32) × (Nat → Int32) × (Nat → Int32) × (Nat → Int32) × (Nat → Int32)) :=
  (Option.bind (f_X5_add t1_J168 x9_J168 x5_J168 x6_J168 w_steps_J168 w_stepParts_J168) fun u174 =>
  (Option.bind (f_X5_begin x1_J168 x9_J168 u174.1 w_pieces_J168 w_pieceParts_J168 w_registerOf_J168 w_pieceOf_J168 w_heldBy_J168) fun u181 =>
  f_X5_doInstruction_J184 x4_J168 x3_J168 u174.1 u174.2 u181.1 u181.2.1 w_slots_J168 u181.2.2.1 w_slotOf_J168 u181.2.2.2.1 u181.2.2.2.2 w_isSlotTaken_J168))

noncomputable def f_X5_doInstruction_J145 (w_kinds : Nat → Int32) (x6_J145 : Int32) (x5_J145 : Int32) (x4_J145 : Int32) (x3_J145 : Int32) (x1_J145 : Int32) (t0_J145 : Int32) (w_steps_J145 : Int32) (w_stepParts_J145 : Nat → Int32) (w_pieces_J145 : Int32) (w_pieceParts_J145 : Nat → Int32) (w_slots_J145 : Int32) (w_registerOf_J145 : Nat → Int32) (w_slotOf_J145 : Nat → Int32) (w_pieceOf_J145 : Nat → Int32) (w_heldBy_J145 : Nat → Int32) (w_isSlotTaken_J145 : Nat → Int32) : Option (Int32 × (Nat → Int32) × Int32 × (Nat → Int32) × Int32 × (Nat → Int32) × (Nat → Int32) × (Nat → Int32) × (Nat → Int32) × (Nat → Int32)) :=
  (rdc x1_J145 60
  (if (w_kinds x1_J145.toNatClampNeg) = 5 then
    f_X5_doInstruction_J168 t0_J145 x6_J145 x5_J145 x4_J145 x3_J145 x1_J145 5 w_steps_J145 w_stepParts_J145 w_pieces_J145 w_pieceParts_J145 w_slots_J145 w_registerOf_J145 w_slotOf_J145 w_pieceOf_J145 w_heldBy_J145 w_isSlotTaken_J145
  else
    (rdc x1_J145 60
    (f_X5_doInstruction_J168 t0_J145 x6_J145 x5_J145 x4_J145 x3_J145 x1_J145 (w_kinds x1_J145.toNatClampNeg) w_steps_J145 w_stepParts_J145 w_pieces_J145 w_pieceParts_J145 w_slots_J145 w_registerOf_J145 w_slotOf_J145 w_pieceOf_J145 w_heldBy_J145 w_isSlotTaken_J145))))

noncomputable def f_X5_doInstruction_J92 (w_size : Int32) (w_kinds : Nat → Int32) (w_as : Nat → Int32) (w_bs : Nat → Int32) (w_areCounted : Nat → Int32) (x7_J92 : Int32) (x6_J92 : Int32) (x5_J92 : Int32) (x4_J92 : Int32) (x3_J92 : Int32) (x1_J92 : Int32) (x2_J92 : Int32) (t0_J92 : Int32) (w_steps_J92 : Int32) (w_stepParts_J92 : Nat → Int32) (w_pieces_J92 : Int32) (w_pieceParts_J92 : Nat → Int32) (w_slots_J92 : Int32) (w_registerOf_J92 : Nat → Int32) (w_slotOf_J92 : Nat → Int32) (w_pieceOf_J92 : Nat → Int32) (w_heldBy_J92 : Nat → Int32) (w_isSlotTaken_J92 : Nat → Int32) : Option (Int32 × (Nat → Int32) × Int32 × (Nat → Int32) × Int32 × (Nat → Int32) × (Nat → Int32) × (Nat → Int32) × (Nat → Int32) × (Nat → Int32)) :=
  (rdc x1_J92 60
  (if (w_kinds x1_J92.toNatClampNeg) = 6 then
    (Option.bind (f_X5_add 6 x5_J92 (-1) (-1) w_steps_J92 w_stepParts_J92) fun u112 =>
    f_X5_doInstruction_J184 x4_J92 x3_J92 u112.1 u112.2 w_pieces_J92 w_pieceParts_J92 w_slots_J92 w_registerOf_J92 w_slotOf_J92 w_pieceOf_J92 w_heldBy_J92 w_isSlotTaken_J92)
  else
    (if x7_J92 = 0 then
      (if t0_J92 = 0 then
        (Option.bind (f_X5_get x1_J92 0 x2_J92 w_size w_kinds w_as w_bs w_steps_J92 w_stepParts_J92 w_pieceParts_J92 w_slots_J92 w_areCounted w_registerOf_J92 w_slotOf_J92 w_pieceOf_J92 w_heldBy_J92 w_isSlotTaken_J92) fun u142 =>
        f_X5_doInstruction_J145 w_kinds x6_J92 x5_J92 x4_J92 x3_J92 x1_J92 u142.1 u142.2.1 u142.2.2.1 w_pieces_J92 u142.2.2.2.1 u142.2.2.2.2.1 u142.2.2.2.2.2.1 u142.2.2.2.2.2.2.1 w_pieceOf_J92 u142.2.2.2.2.2.2.2.1 u142.2.2.2.2.2.2.2.2)
      else
        f_X5_doInstruction_J145 w_kinds x6_J92 x5_J92 x4_J92 x3_J92 x1_J92 x6_J92 w_steps_J92 w_stepParts_J92 w_pieces_J92 w_pieceParts_J92 w_slots_J92 w_registerOf_J92 w_slotOf_J92 w_pieceOf_J92 w_heldBy_J92 w_isSlotTaken_J92)
    else
      f_X5_doInstruction_J145 w_kinds x6_J92 x5_J92 x4_J92 x3_J92 x1_J92 x5_J92 w_steps_J92 w_stepParts_J92 w_pieces_J92 w_pieceParts_J92 w_slots_J92 w_registerOf_J92 w_slotOf_J92 w_pieceOf_J92 w_heldBy_J92 w_isSlotTaken_J92)))

noncomputable def f_X5_doInstruction_J91 (w_size : Int32) (w_kinds : Nat → Int32) (w_as : Nat → Int32) (w_bs : Nat → Int32) (w_areCounted : Nat → Int32) (x7_J91 : Int32) (x6_J91 : Int32) (x5_J91 : Int32) (x4_J91 : Int32) (x3_J91 : Int32) (x1_J91 : Int32) (x2_J91 : Int32) (w_steps_J91 : Int32) (w_stepParts_J91 : Nat → Int32) (w_pieces_J91 : Int32) (w_pieceParts_J91 : Nat → Int32) (w_slots_J91 : Int32) (w_registerOf_J91 : Nat → Int32) (w_slotOf_J91 : Nat → Int32) (w_pieceOf_J91 : Nat → Int32) (w_heldBy_J91 : Nat → Int32) (w_isSlotTaken_J91 : Nat → Int32) : Option (Int32 × (Nat → Int32) × Int32 × (Nat → Int32) × Int32 × (Nat → Int32) × (Nat → Int32) × (Nat → Int32) × (Nat → Int32) × (Nat → Int32)) :=
  f_X5_doInstruction_J92 w_size w_kinds w_as w_bs w_areCounted x7_J91 x6_J91 x5_J91 x4_J91 x3_J91 x1_J91 x2_J91 0 w_steps_J91 w_stepParts_J91 w_pieces_J91 w_pieceParts_J91 w_slots_J91 w_registerOf_J91 w_slotOf_J91 w_pieceOf_J91 w_heldBy_J91 w_isSlotTaken_J91

noncomputable def f_X5_doInstruction_J61 (w_size : Int32) (w_kinds : Nat → Int32) (w_as : Nat → Int32) (w_bs : Nat → Int32) (w_areCounted : Nat → Int32) (x5_J61 : Int32) (x4_J61 : Int32) (x3_J61 : Int32) (x1_J61 : Int32) (x2_J61 : Int32) (t0_J61 : Int32) (w_steps_J61 : Int32) (w_stepParts_J61 : Nat → Int32) (w_pieces_J61 : Int32) (w_pieceParts_J61 : Nat → Int32) (w_slots_J61 : Int32) (w_registerOf_J61 : Nat → Int32) (w_slotOf_J61 : Nat → Int32) (w_pieceOf_J61 : Nat → Int32) (w_heldBy_J61 : Nat → Int32) (w_isSlotTaken_J61 : Nat → Int32) : Option (Int32 × (Nat → Int32) × Int32 × (Nat → Int32) × Int32 × (Nat → Int32) × (Nat → Int32) × (Nat → Int32) × (Nat → Int32) × (Nat → Int32)) :=
  (Option.bind (f_X5_ends x3_J61 x1_J61 w_size w_kinds w_as w_bs w_areCounted w_registerOf_J61 w_slotOf_J61 w_heldBy_J61 w_isSlotTaken_J61) fun u66 =>
  (if x4_J61 = (-1) then
    f_X5_doInstruction_J91 w_size w_kinds w_as w_bs w_areCounted u66.1 t0_J61 x5_J61 x4_J61 x3_J61 x1_J61 x2_J61 w_steps_J61 w_stepParts_J61 w_pieces_J61 w_pieceParts_J61 w_slots_J61 u66.2.1 u66.2.2.1 w_pieceOf_J61 u66.2.2.2.1 u66.2.2.2.2
  else
    (Option.bind (f_X5_ends x4_J61 x1_J61 w_size w_kinds w_as w_bs w_areCounted u66.2.1 u66.2.2.1 u66.2.2.2.1 u66.2.2.2.2) fun u81 =>
    (if u81.1 = 0 then
      f_X5_doInstruction_J91 w_size w_kinds w_as w_bs w_areCounted u66.1 t0_J61 x5_J61 x4_J61 x3_J61 x1_J61 x2_J61 w_steps_J61 w_stepParts_J61 w_pieces_J61 w_pieceParts_J61 w_slots_J61 u81.2.1 u81.2.2.1 w_pieceOf_J61 u81.2.2.2.1 u81.2.2.2.2
    else
      f_X5_doInstruction_J92 w_size w_kinds w_as w_bs w_areCounted u66.1 t0_J61 x5_J61 x4_J61 x3_J61 x1_J61 x2_J61 1 w_steps_J61 w_stepParts_J61 w_pieces_J61 w_pieceParts_J61 w_slots_J61 u81.2.1 u81.2.2.1 w_pieceOf_J61 u81.2.2.2.1 u81.2.2.2.2))))

noncomputable def f_X5_doInstruction_J36 (w_size : Int32) (w_kinds : Nat → Int32) (w_as : Nat → Int32) (w_bs : Nat → Int32) (w_areCounted : Nat → Int32) (x4_J36 : Int32) (x3_J36 : Int32) (x1_J36 : Int32) (x2_J36 : Int32) (w_steps_J36 : Int32) (w_stepParts_J36 : Nat → Int32) (w_pieces_J36 : Int32) (w_pieceParts_J36 : Nat → Int32) (w_slots_J36 : Int32) (w_registerOf_J36 : Nat → Int32) (w_slotOf_J36 : Nat → Int32) (w_pieceOf_J36 : Nat → Int32) (w_heldBy_J36 : Nat → Int32) (w_isSlotTaken_J36 : Nat → Int32) : Option (Int32 × (Nat → Int32) × Int32 × (Nat → Int32) × Int32 × (Nat → Int32) × (Nat → Int32) × (Nat → Int32) × (Nat → Int32) × (Nat → Int32)) :=
  (rdc x3_J36 60
  (if x4_J36 = (-1) then
    f_X5_doInstruction_J61 w_size w_kinds w_as w_bs w_areCounted (w_registerOf_J36 x3_J36.toNatClampNeg) x4_J36 x3_J36 x1_J36 x2_J36 (-1) w_steps_J36 w_stepParts_J36 w_pieces_J36 w_pieceParts_J36 w_slots_J36 w_registerOf_J36 w_slotOf_J36 w_pieceOf_J36 w_heldBy_J36 w_isSlotTaken_J36
  else
    (rdc x4_J36 60
    (f_X5_doInstruction_J61 w_size w_kinds w_as w_bs w_areCounted (w_registerOf_J36 x3_J36.toNatClampNeg) x4_J36 x3_J36 x1_J36 x2_J36 (w_registerOf_J36 x4_J36.toNatClampNeg) w_steps_J36 w_stepParts_J36 w_pieces_J36 w_pieceParts_J36 w_slots_J36 w_registerOf_J36 w_slotOf_J36 w_pieceOf_J36 w_heldBy_J36 w_isSlotTaken_J36))))

noncomputable def f_X5_doInstruction (p1 : Int32) (p2 : Int32) (w_size : Int32) (w_kinds : Nat → Int32) (w_as : Nat → Int32) (w_bs : Nat → Int32) (w_steps : Int32) (w_stepParts : Nat → Int32) (w_pieces : Int32) (w_pieceParts : Nat → Int32) (w_slots : Int32) (w_areCounted : Nat → Int32) (w_registerOf : Nat → Int32) (w_slotOf : Nat → Int32) (w_pieceOf : Nat → Int32) (w_heldBy : Nat → Int32) (w_isSlotTaken : Nat → Int32) : Option (Int32 × (Nat → Int32) × Int32 × (Nat → Int32) × Int32 × (Nat → Int32) × (Nat → Int32) × (Nat → Int32) × (Nat → Int32) × (Nat → Int32)) :=
  (rdc p1 60
  (rdc p1 60
  (Option.bind (f_X5_bring (w_as p1.toNatClampNeg) p1 p2 w_size w_kinds w_as w_bs w_steps w_stepParts w_pieces w_pieceParts w_slots w_areCounted w_registerOf w_slotOf w_pieceOf w_heldBy w_isSlotTaken) fun u19 =>
  (if (w_bs p1.toNatClampNeg) = (-1) then
    f_X5_doInstruction_J36 w_size w_kinds w_as w_bs w_areCounted (w_bs p1.toNatClampNeg) (w_as p1.toNatClampNeg) p1 p2 u19.1 u19.2.1 u19.2.2.1 u19.2.2.2.1 u19.2.2.2.2.1 u19.2.2.2.2.2.1 u19.2.2.2.2.2.2.1 u19.2.2.2.2.2.2.2.1 u19.2.2.2.2.2.2.2.2.1 u19.2.2.2.2.2.2.2.2.2
  else
    (Option.bind (f_X5_bring (w_bs p1.toNatClampNeg) p1 p2 w_size w_kinds w_as w_bs u19.1 u19.2.1 u19.2.2.1 u19.2.2.2.1 u19.2.2.2.2.1 w_areCounted u19.2.2.2.2.2.1 u19.2.2.2.2.2.2.1 u19.2.2.2.2.2.2.2.1 u19.2.2.2.2.2.2.2.2.1 u19.2.2.2.2.2.2.2.2.2) fun u33 =>
    f_X5_doInstruction_J36 w_size w_kinds w_as w_bs w_areCounted (w_bs p1.toNatClampNeg) (w_as p1.toNatClampNeg) p1 p2 u33.1 u33.2.1 u33.2.2.1 u33.2.2.2.1 u33.2.2.2.2.1 u33.2.2.2.2.2.1 u33.2.2.2.2.2.2.1 u33.2.2.2.2.2.2.2.1 u33.2.2.2.2.2.2.2.2.1 u33.2.2.2.2.2.2.2.2.2)))))

noncomputable def f_X5_make_L21  : Nat → Int32 → (Nat → Int32) → (Nat → Int32) → (Nat → Int32) → Option ((Nat → Int32) × (Nat → Int32) × (Nat → Int32))
  | 0, _, _, _, _ => none
  | n + 1, x2_L21, w_registerOf_L21, w_slotOf_L21, w_isSlotTaken_L21 =>
    (if 60 ≤ x2_L21 then
      some (w_registerOf_L21, w_slotOf_L21, w_isSlotTaken_L21)
    else
      (rdc x2_L21 60
      (rdc x2_L21 60
      (rdc x2_L21 60
      (f_X5_make_L21 n (x2_L21 + 1) (upd w_registerOf_L21 x2_L21.toNatClampNeg (-1)) (upd w_slotOf_L21 x2_L21.toNatClampNeg (-1)) (upd w_isSlotTaken_L21 x2_L21.toNatClampNeg 0))))))

noncomputable def f_X5_make_L56  : Nat → Int32 → (Nat → Int32) → Option ((Nat → Int32))
  | 0, _, _ => none
  | n + 1, x2_L56, w_heldBy_L56 =>
    (if 8 ≤ x2_L56 then
      some w_heldBy_L56
    else
      (rdc x2_L56 8
      (f_X5_make_L56 n (x2_L56 + 1) (upd w_heldBy_L56 x2_L56.toNatClampNeg (-1)))))

noncomputable def f_X5_make_L77 (w_size : Int32) (w_kinds : Nat → Int32) (w_as : Nat → Int32) (w_bs : Nat → Int32) (p1 : Int32) (u1 : Nat → Int32) : Nat → Int32 → Int32 → (Nat → Int32) → Int32 → (Nat → Int32) → Int32 → (Nat → Int32) → (Nat → Int32) → (Nat → Int32) → (Nat → Int32) → (Nat → Int32) → Option (Int32 × (Nat → Int32) × Int32 × (Nat → Int32) × Int32 × (Nat → Int32) × (Nat → Int32) × (Nat → Int32) × (Nat → Int32) × (Nat → Int32))
  | 0, _, _, _, _, _, _, _, _, _, _, _ => none
  | n + 1, x2_L77, w_steps_L77, w_stepParts_L77, w_pieces_L77, w_pieceParts_L77, w_slots_L77, w_registerOf_L77, w_slotOf_L77, w_pieceOf_L77, w_heldBy_L77, w_isSlotTaken_L77 =>
    (if w_size ≤ x2_L77 then
      some (w_steps_L77, w_stepParts_L77, w_pieces_L77, w_pieceParts_L77, w_slots_L77, w_registerOf_L77, w_slotOf_L77, w_pieceOf_L77, w_heldBy_L77, w_isSlotTaken_L77)
    else
      (rdc x2_L77 60
      (if (u1 x2_L77.toNatClampNeg) = 0 then
        f_X5_make_L77 w_size w_kinds w_as w_bs p1 u1 n (x2_L77 + 1) w_steps_L77 w_stepParts_L77 w_pieces_L77 w_pieceParts_L77 w_slots_L77 w_registerOf_L77 w_slotOf_L77 w_pieceOf_L77 w_heldBy_L77 w_isSlotTaken_L77
      else
        (rdc x2_L77 60
        (if (w_kinds x2_L77.toNatClampNeg) = 0 then
          f_X5_make_L77 w_size w_kinds w_as w_bs p1 u1 n (x2_L77 + 1) w_steps_L77 w_stepParts_L77 w_pieces_L77 w_pieceParts_L77 w_slots_L77 w_registerOf_L77 w_slotOf_L77 w_pieceOf_L77 w_heldBy_L77 w_isSlotTaken_L77
        else
          (Option.bind (f_X5_doInstruction x2_L77 p1 w_size w_kinds w_as w_bs w_steps_L77 w_stepParts_L77 w_pieces_L77 w_pieceParts_L77 w_slots_L77 u1 w_registerOf_L77 w_slotOf_L77 w_pieceOf_L77 w_heldBy_L77 w_isSlotTaken_L77) fun u106 =>
          f_X5_make_L77 w_size w_kinds w_as w_bs p1 u1 n (x2_L77 + 1) u106.1 u106.2.1 u106.2.2.1 u106.2.2.2.1 u106.2.2.2.2.1 u106.2.2.2.2.2.1 u106.2.2.2.2.2.2.1 u106.2.2.2.2.2.2.2.1 u106.2.2.2.2.2.2.2.2.1 u106.2.2.2.2.2.2.2.2.2))))))

noncomputable def f_X5_make (p1 : Int32) (w_size : Int32) (w_kinds : Nat → Int32) (w_as : Nat → Int32) (w_bs : Nat → Int32) (w_stepParts : Nat → Int32) (w_pieceParts : Nat → Int32) (w_areCounted : Nat → Int32) (w_registerOf : Nat → Int32) (w_slotOf : Nat → Int32) (w_pieceOf : Nat → Int32) (w_heldBy : Nat → Int32) (w_isSlotTaken : Nat → Int32) : Option (Int32 × (Nat → Int32) × Int32 × (Nat → Int32) × Int32 × (Nat → Int32) × (Nat → Int32) × (Nat → Int32) × (Nat → Int32) × (Nat → Int32) × (Nat → Int32)) :=
  (Option.bind (f_X5_count w_size w_kinds w_as w_bs w_areCounted) fun u1 =>
  (Option.bind (f_X5_make_L21 4000 0 w_registerOf w_slotOf w_isSlotTaken) fun v21 =>
    (Option.bind (f_X5_make_L56 4000 0 w_heldBy) fun v56 =>
      (Option.bind (f_X5_make_L77 w_size w_kinds w_as w_bs p1 u1 4000 0 0 w_stepParts 0 w_pieceParts 0 v21.1 v21.2.1 w_pieceOf v56 v21.2.2) fun v77 =>
        some (v77.1, v77.2.1, v77.2.2.1, v77.2.2.2.1, v77.2.2.2.2.1, u1, v77.2.2.2.2.2.1, v77.2.2.2.2.2.2.1, v77.2.2.2.2.2.2.2.1, v77.2.2.2.2.2.2.2.2.1, v77.2.2.2.2.2.2.2.2.2)))))

noncomputable def f_X5_allocate (w_size : Int32) (w_kinds : Nat → Int32) (w_as : Nat → Int32) (w_bs : Nat → Int32) (w_registers : Int32) (w_stepParts : Nat → Int32) (w_pieceParts : Nat → Int32) (w_areCounted : Nat → Int32) (w_registerOf : Nat → Int32) (w_slotOf : Nat → Int32) (w_pieceOf : Nat → Int32) (w_heldBy : Nat → Int32) (w_isSlotTaken : Nat → Int32) : Option (Int32 × Int32 × Int32 × Int32 × (Nat → Int32) × Int32 × (Nat → Int32) × Int32 × (Nat → Int32) × (Nat → Int32) × (Nat → Int32) × (Nat → Int32) × (Nat → Int32) × (Nat → Int32)) :=
  (Option.bind (f_X5_make w_registers w_size w_kinds w_as w_bs w_stepParts w_pieceParts w_areCounted w_registerOf w_slotOf w_pieceOf w_heldBy w_isSlotTaken) fun u10 =>
  some (u10.1, 0, 1, u10.1, u10.2.1, u10.2.2.1, u10.2.2.2.1, u10.2.2.2.2.1, u10.2.2.2.2.2.1, u10.2.2.2.2.2.2.1, u10.2.2.2.2.2.2.2.1, u10.2.2.2.2.2.2.2.2.1, u10.2.2.2.2.2.2.2.2.2.1, u10.2.2.2.2.2.2.2.2.2.2))

noncomputable def f_X5_isAllocated (w_isMade : Int32) : Option (Int32 × Int32) :=
  (zck w_isMade
  (some (w_isMade, 0)))

noncomputable def f_X5_step (p1 : Int32) (p2 : Int32) (w_isMade : Int32) (w_steps : Int32) (w_stepParts : Nat → Int32) : Option (Int32 × Int32) :=
  (if w_isMade = 0 then
    (Option.bind (f_X5_fail 1) fun u14 =>
    some (u14.1, u14.2))
  else
    (if p1 < 0 then
      (Option.bind (f_X5_fail 2) fun u54 =>
      some (u54.1, u54.2))
    else
      (if w_steps ≤ p1 then
        (Option.bind (f_X5_fail 2) fun u54 =>
        some (u54.1, u54.2))
      else
        (if p2 < 0 then
          (Option.bind (f_X5_fail 2) fun u54 =>
          some (u54.1, u54.2))
        else
          (if 3 < p2 then
            (Option.bind (f_X5_fail 2) fun u54 =>
            some (u54.1, u54.2))
          else
            (rdc ((4 * p1) + p2) 2000
            (some ((w_stepParts ((4 * p1) + p2).toNatClampNeg), 0))))))))

noncomputable def f_X5_stepsOf_L4 (w_steps : Int32) (w_stepParts : Nat → Int32) (p1 : Int32) : Nat → Int32 → Int32 → Option (Int32)
  | 0, _, _ => none
  | n + 1, x3_L4, x2_L4 =>
    (if w_steps ≤ x3_L4 then
      some x2_L4
    else
      (rdc (4 * x3_L4) 2000
      (if (w_stepParts (4 * x3_L4).toNatClampNeg) = p1 then
        f_X5_stepsOf_L4 w_steps w_stepParts p1 n (x3_L4 + 1) (x2_L4 + 1)
      else
        f_X5_stepsOf_L4 w_steps w_stepParts p1 n (x3_L4 + 1) (x2_L4 + 0))))

noncomputable def f_X5_stepsOf (p1 : Int32) (w_steps : Int32) (w_stepParts : Nat → Int32) : Option (Int32) :=
  (Option.bind (f_X5_stepsOf_L4 w_steps w_stepParts p1 4000 0 0) fun v4 =>
    some v4)

noncomputable def f_X5_stepCount (p1 : Int32) (w_isMade : Int32) (w_steps : Int32) (w_stepParts : Nat → Int32) : Option (Int32 × Int32) :=
  (if w_isMade = 0 then
    (Option.bind (f_X5_fail 1) fun u14 =>
    some (u14.1, u14.2))
  else
    (if p1 < 0 then
      (Option.bind (f_X5_fail 2) fun u38 =>
      some (u38.1, u38.2))
    else
      (if 8 < p1 then
        (Option.bind (f_X5_fail 2) fun u38 =>
        some (u38.1, u38.2))
      else
        (Option.bind (f_X5_stepsOf p1 w_steps w_stepParts) fun u30 =>
        some (u30, 0)))))

noncomputable def f_X5_slots (w_isMade : Int32) (w_slots : Int32) : Option (Int32 × Int32) :=
  (if w_isMade = 0 then
    (Option.bind (f_X5_fail 1) fun u21 =>
    some (u21.1, u21.2))
  else
    some (w_slots, 0))

noncomputable def f_X5_pieceCount (w_isMade : Int32) (w_pieces : Int32) : Option (Int32 × Int32) :=
  (if w_isMade = 0 then
    (Option.bind (f_X5_fail 1) fun u21 =>
    some (u21.1, u21.2))
  else
    some (w_pieces, 0))

noncomputable def f_X5_piece (p1 : Int32) (p2 : Int32) (w_isMade : Int32) (w_pieces : Int32) (w_pieceParts : Nat → Int32) : Option (Int32 × Int32) :=
  (if w_isMade = 0 then
    (Option.bind (f_X5_fail 1) fun u14 =>
    some (u14.1, u14.2))
  else
    (if p1 < 0 then
      (Option.bind (f_X5_fail 2) fun u54 =>
      some (u54.1, u54.2))
    else
      (if w_pieces ≤ p1 then
        (Option.bind (f_X5_fail 2) fun u54 =>
        some (u54.1, u54.2))
      else
        (if p2 < 0 then
          (Option.bind (f_X5_fail 2) fun u54 =>
          some (u54.1, u54.2))
        else
          (if 3 < p2 then
            (Option.bind (f_X5_fail 2) fun u54 =>
            some (u54.1, u54.2))
          else
            (rdc ((4 * p1) + p2) 2000
            (some ((w_pieceParts ((4 * p1) + p2).toNatClampNeg), 0))))))))

noncomputable def f_X5_comfortable_L9 (w_size : Int32) (w_kinds : Nat → Int32) (w_as : Nat → Int32) (w_bs : Nat → Int32) : Nat → Int32 → Int32 → Int32 → (Nat → Int32) → Int32 → (Nat → Int32) → Int32 → (Nat → Int32) → (Nat → Int32) → (Nat → Int32) → (Nat → Int32) → (Nat → Int32) → (Nat → Int32) → Option (Int32 × Int32 × (Nat → Int32) × Int32 × (Nat → Int32) × Int32 × (Nat → Int32) × (Nat → Int32) × (Nat → Int32) × (Nat → Int32) × (Nat → Int32) × (Nat → Int32))
  | 0, _, _, _, _, _, _, _, _, _, _, _, _, _ => none
  | n + 1, x2_L9, x1_L9, w_steps_L9, w_stepParts_L9, w_pieces_L9, w_pieceParts_L9, w_slots_L9, w_areCounted_L9, w_registerOf_L9, w_slotOf_L9, w_pieceOf_L9, w_heldBy_L9, w_isSlotTaken_L9 =>
    (if 8 < x2_L9 then
      some (x1_L9, w_steps_L9, w_stepParts_L9, w_pieces_L9, w_pieceParts_L9, w_slots_L9, w_areCounted_L9, w_registerOf_L9, w_slotOf_L9, w_pieceOf_L9, w_heldBy_L9, w_isSlotTaken_L9)
    else
      (if x1_L9 = (-1) then
        (Option.bind (f_X5_make x2_L9 w_size w_kinds w_as w_bs w_stepParts_L9 w_pieceParts_L9 w_areCounted_L9 w_registerOf_L9 w_slotOf_L9 w_pieceOf_L9 w_heldBy_L9 w_isSlotTaken_L9) fun u22 =>
        (Option.bind (f_X5_stepsOf 7 u22.1 u22.2.1) fun u28 =>
        (if u28 = 0 then
          (Option.bind (f_X5_stepsOf 8 u22.1 u22.2.1) fun u37 =>
          (if u37 = 0 then
            f_X5_comfortable_L9 w_size w_kinds w_as w_bs n (x2_L9 + 1) x2_L9 u22.1 u22.2.1 u22.2.2.1 u22.2.2.2.1 u22.2.2.2.2.1 u22.2.2.2.2.2.1 u22.2.2.2.2.2.2.1 u22.2.2.2.2.2.2.2.1 u22.2.2.2.2.2.2.2.2.1 u22.2.2.2.2.2.2.2.2.2.1 u22.2.2.2.2.2.2.2.2.2.2
          else
            f_X5_comfortable_L9 w_size w_kinds w_as w_bs n (x2_L9 + 1) x1_L9 u22.1 u22.2.1 u22.2.2.1 u22.2.2.2.1 u22.2.2.2.2.1 u22.2.2.2.2.2.1 u22.2.2.2.2.2.2.1 u22.2.2.2.2.2.2.2.1 u22.2.2.2.2.2.2.2.2.1 u22.2.2.2.2.2.2.2.2.2.1 u22.2.2.2.2.2.2.2.2.2.2))
        else
          f_X5_comfortable_L9 w_size w_kinds w_as w_bs n (x2_L9 + 1) x1_L9 u22.1 u22.2.1 u22.2.2.1 u22.2.2.2.1 u22.2.2.2.2.1 u22.2.2.2.2.2.1 u22.2.2.2.2.2.2.1 u22.2.2.2.2.2.2.2.1 u22.2.2.2.2.2.2.2.2.1 u22.2.2.2.2.2.2.2.2.2.1 u22.2.2.2.2.2.2.2.2.2.2)))
      else
        some (x1_L9, w_steps_L9, w_stepParts_L9, w_pieces_L9, w_pieceParts_L9, w_slots_L9, w_areCounted_L9, w_registerOf_L9, w_slotOf_L9, w_pieceOf_L9, w_heldBy_L9, w_isSlotTaken_L9)))

noncomputable def f_X5_comfortable_J51 (w_size : Int32) (w_kinds : Nat → Int32) (w_as : Nat → Int32) (w_bs : Nat → Int32) (w_registers : Int32) (w_isMade : Int32) (x1_J51 : Int32) (w_thrown_J51 : Int32) (w_steps_J51 : Int32) (w_stepParts_J51 : Nat → Int32) (w_pieces_J51 : Int32) (w_pieceParts_J51 : Nat → Int32) (w_slots_J51 : Int32) (w_areCounted_J51 : Nat → Int32) (w_registerOf_J51 : Nat → Int32) (w_slotOf_J51 : Nat → Int32) (w_pieceOf_J51 : Nat → Int32) (w_heldBy_J51 : Nat → Int32) (w_isSlotTaken_J51 : Nat → Int32) : Option (Int32 × Int32 × Int32 × (Nat → Int32) × Int32 × (Nat → Int32) × Int32 × (Nat → Int32) × (Nat → Int32) × (Nat → Int32) × (Nat → Int32) × (Nat → Int32) × (Nat → Int32)) :=
  (if w_isMade = 0 then
    some (x1_J51, w_thrown_J51, w_steps_J51, w_stepParts_J51, w_pieces_J51, w_pieceParts_J51, w_slots_J51, w_areCounted_J51, w_registerOf_J51, w_slotOf_J51, w_pieceOf_J51, w_heldBy_J51, w_isSlotTaken_J51)
  else
    (Option.bind (f_X5_make w_registers w_size w_kinds w_as w_bs w_stepParts_J51 w_pieceParts_J51 w_areCounted_J51 w_registerOf_J51 w_slotOf_J51 w_pieceOf_J51 w_heldBy_J51 w_isSlotTaken_J51) fun u63 =>
    some (x1_J51, w_thrown_J51, u63.1, u63.2.1, u63.2.2.1, u63.2.2.2.1, u63.2.2.2.2.1, u63.2.2.2.2.2.1, u63.2.2.2.2.2.2.1, u63.2.2.2.2.2.2.2.1, u63.2.2.2.2.2.2.2.2.1, u63.2.2.2.2.2.2.2.2.2.1, u63.2.2.2.2.2.2.2.2.2.2)))

noncomputable def f_X5_comfortable (w_size : Int32) (w_kinds : Nat → Int32) (w_as : Nat → Int32) (w_bs : Nat → Int32) (w_registers : Int32) (w_isMade : Int32) (w_steps : Int32) (w_stepParts : Nat → Int32) (w_pieces : Int32) (w_pieceParts : Nat → Int32) (w_slots : Int32) (w_areCounted : Nat → Int32) (w_registerOf : Nat → Int32) (w_slotOf : Nat → Int32) (w_pieceOf : Nat → Int32) (w_heldBy : Nat → Int32) (w_isSlotTaken : Nat → Int32) : Option (Int32 × Int32 × Int32 × (Nat → Int32) × Int32 × (Nat → Int32) × Int32 × (Nat → Int32) × (Nat → Int32) × (Nat → Int32) × (Nat → Int32) × (Nat → Int32) × (Nat → Int32)) :=
  (Option.bind (f_X5_comfortable_L9 w_size w_kinds w_as w_bs 4000 2 (-1) w_steps w_stepParts w_pieces w_pieceParts w_slots w_areCounted w_registerOf w_slotOf w_pieceOf w_heldBy w_isSlotTaken) fun v9 =>
    f_X5_comfortable_J51 w_size w_kinds w_as w_bs w_registers w_isMade v9.1 0 v9.2.1 v9.2.2.1 v9.2.2.2.1 v9.2.2.2.2.1 v9.2.2.2.2.2.1 v9.2.2.2.2.2.2.1 v9.2.2.2.2.2.2.2.1 v9.2.2.2.2.2.2.2.2.1 v9.2.2.2.2.2.2.2.2.2.1 v9.2.2.2.2.2.2.2.2.2.2.1 v9.2.2.2.2.2.2.2.2.2.2.2)

noncomputable def f_X5_run_L35 (w_steps : Int32) (w_stepParts : Nat → Int32) : Nat → Int32 → Int32 → (Nat → Int32) → (Nat → Int32) → (Nat → Int32) → Option (Int32 × (Nat → Int32) × (Nat → Int32) × (Nat → Int32))
  | 0, _, _, _, _, _ => none
  | n + 1, x3_L35, w_outputs_L35, w_output_L35, e_q20_L35, e_q25_L35 =>
    (if w_steps ≤ x3_L35 then
      some (w_outputs_L35, w_output_L35, e_q20_L35, e_q25_L35)
    else
      (rdc ((4 * x3_L35) + 1) 2000
      (rdc ((4 * x3_L35) + 2) 2000
      (rdc ((4 * x3_L35) + 3) 2000
      (rdc (4 * x3_L35) 2000
      (if (w_stepParts (4 * x3_L35).toNatClampNeg) = 0 then
        (rdc (w_stepParts ((4 * x3_L35) + 1).toNatClampNeg) 8
        (f_X5_run_L35 w_steps w_stepParts n (x3_L35 + 1) w_outputs_L35 w_output_L35 (upd e_q20_L35 (w_stepParts ((4 * x3_L35) + 1).toNatClampNeg).toNatClampNeg (w_stepParts ((4 * x3_L35) + 2).toNatClampNeg)) e_q25_L35))
      else
      (if (w_stepParts (4 * x3_L35).toNatClampNeg) = 1 then
        (rdc (w_stepParts ((4 * x3_L35) + 2).toNatClampNeg) 8
        (rdc (w_stepParts ((4 * x3_L35) + 3).toNatClampNeg) 8
        (rdc (w_stepParts ((4 * x3_L35) + 1).toNatClampNeg) 8
        (f_X5_run_L35 w_steps w_stepParts n (x3_L35 + 1) w_outputs_L35 w_output_L35 (upd e_q20_L35 (w_stepParts ((4 * x3_L35) + 1).toNatClampNeg).toNatClampNeg ((e_q20_L35 (w_stepParts ((4 * x3_L35) + 2).toNatClampNeg).toNatClampNeg) + (e_q20_L35 (w_stepParts ((4 * x3_L35) + 3).toNatClampNeg).toNatClampNeg))) e_q25_L35))))
      else
      (if (w_stepParts (4 * x3_L35).toNatClampNeg) = 2 then
        (rdc (w_stepParts ((4 * x3_L35) + 2).toNatClampNeg) 8
        (rdc (w_stepParts ((4 * x3_L35) + 3).toNatClampNeg) 8
        (rdc (w_stepParts ((4 * x3_L35) + 1).toNatClampNeg) 8
        (f_X5_run_L35 w_steps w_stepParts n (x3_L35 + 1) w_outputs_L35 w_output_L35 (upd e_q20_L35 (w_stepParts ((4 * x3_L35) + 1).toNatClampNeg).toNatClampNeg ((e_q20_L35 (w_stepParts ((4 * x3_L35) + 2).toNatClampNeg).toNatClampNeg) - (e_q20_L35 (w_stepParts ((4 * x3_L35) + 3).toNatClampNeg).toNatClampNeg))) e_q25_L35))))
      else
      (if (w_stepParts (4 * x3_L35).toNatClampNeg) = 3 then
        (rdc (w_stepParts ((4 * x3_L35) + 2).toNatClampNeg) 8
        (rdc (w_stepParts ((4 * x3_L35) + 3).toNatClampNeg) 8
        (rdc (w_stepParts ((4 * x3_L35) + 1).toNatClampNeg) 8
        (f_X5_run_L35 w_steps w_stepParts n (x3_L35 + 1) w_outputs_L35 w_output_L35 (upd e_q20_L35 (w_stepParts ((4 * x3_L35) + 1).toNatClampNeg).toNatClampNeg ((e_q20_L35 (w_stepParts ((4 * x3_L35) + 2).toNatClampNeg).toNatClampNeg) * (e_q20_L35 (w_stepParts ((4 * x3_L35) + 3).toNatClampNeg).toNatClampNeg))) e_q25_L35))))
      else
      (if (w_stepParts (4 * x3_L35).toNatClampNeg) = 4 then
        (rdc (w_stepParts ((4 * x3_L35) + 2).toNatClampNeg) 8
        (rdc (w_stepParts ((4 * x3_L35) + 3).toNatClampNeg) 8
        (rdc (w_stepParts ((4 * x3_L35) + 1).toNatClampNeg) 8
        (f_X5_run_L35 w_steps w_stepParts n (x3_L35 + 1) w_outputs_L35 w_output_L35 (upd e_q20_L35 (w_stepParts ((4 * x3_L35) + 1).toNatClampNeg).toNatClampNeg ((e_q20_L35 (w_stepParts ((4 * x3_L35) + 2).toNatClampNeg).toNatClampNeg) ^^^ (e_q20_L35 (w_stepParts ((4 * x3_L35) + 3).toNatClampNeg).toNatClampNeg))) e_q25_L35))))
      else
      (if (w_stepParts (4 * x3_L35).toNatClampNeg) = 5 then
        (rdc (w_stepParts ((4 * x3_L35) + 2).toNatClampNeg) 8
        (rdc (w_stepParts ((4 * x3_L35) + 1).toNatClampNeg) 8
        (f_X5_run_L35 w_steps w_stepParts n (x3_L35 + 1) w_outputs_L35 w_output_L35 (upd e_q20_L35 (w_stepParts ((4 * x3_L35) + 1).toNatClampNeg).toNatClampNeg (e_q20_L35 (w_stepParts ((4 * x3_L35) + 2).toNatClampNeg).toNatClampNeg)) e_q25_L35)))
      else
      (if (w_stepParts (4 * x3_L35).toNatClampNeg) = 6 then
        (rdc (w_stepParts ((4 * x3_L35) + 1).toNatClampNeg) 8
        (rdc w_outputs_L35 60
        (f_X5_run_L35 w_steps w_stepParts n (x3_L35 + 1) (w_outputs_L35 + 1) (upd w_output_L35 w_outputs_L35.toNatClampNeg (e_q20_L35 (w_stepParts ((4 * x3_L35) + 1).toNatClampNeg).toNatClampNeg)) e_q20_L35 e_q25_L35)))
      else
      (if (w_stepParts (4 * x3_L35).toNatClampNeg) = 7 then
        (rdc (w_stepParts ((4 * x3_L35) + 2).toNatClampNeg) 60
        (rdc (w_stepParts ((4 * x3_L35) + 1).toNatClampNeg) 8
        (f_X5_run_L35 w_steps w_stepParts n (x3_L35 + 1) w_outputs_L35 w_output_L35 (upd e_q20_L35 (w_stepParts ((4 * x3_L35) + 1).toNatClampNeg).toNatClampNeg (e_q25_L35 (w_stepParts ((4 * x3_L35) + 2).toNatClampNeg).toNatClampNeg)) e_q25_L35)))
      else
        (rdc (w_stepParts ((4 * x3_L35) + 1).toNatClampNeg) 8
        (rdc (w_stepParts ((4 * x3_L35) + 2).toNatClampNeg) 60
        (f_X5_run_L35 w_steps w_stepParts n (x3_L35 + 1) w_outputs_L35 w_output_L35 e_q20_L35 (upd e_q25_L35 (w_stepParts ((4 * x3_L35) + 2).toNatClampNeg).toNatClampNeg (e_q20_L35 (w_stepParts ((4 * x3_L35) + 1).toNatClampNeg).toNatClampNeg))))))))))))))))))

noncomputable def f_X5_run (w_isMade : Int32) (w_steps : Int32) (w_stepParts : Nat → Int32) (w_outputs : Int32) (w_output : Nat → Int32) : Option (Int32 × Int32 × Int32 × (Nat → Int32)) :=
  (if w_isMade = 0 then
    (Option.bind (f_X5_fail 1) fun u14 =>
    some (u14.1, u14.2, w_outputs, w_output))
  else
    (Option.bind (f_X5_run_L35 w_steps w_stepParts 4000 0 0 w_output (fun _ => 0) (fun _ => 0)) fun v35 =>
      some (v35.1, 0, v35.1, v35.2.1)))

noncomputable def f_X5_output (p1 : Int32) (w_outputs : Int32) (w_output : Nat → Int32) : Option (Int32 × Int32) :=
  (if p1 < 0 then
    (Option.bind (f_X5_fail 1) fun u28 =>
    some (u28.1, u28.2))
  else
    (if w_outputs ≤ p1 then
      (Option.bind (f_X5_fail 1) fun u28 =>
      some (u28.1, u28.2))
    else
      (rdc p1 60
      (some ((w_output p1.toNatClampNeg), 0)))))

noncomputable def f_X5_digest_L27 (w_size : Int32) (w_kinds : Nat → Int32) : Nat → Int32 → Int64 → Option (Int64)
  | 0, _, _ => none
  | n + 1, x3_L27, x1_L27 =>
    (if w_size ≤ x3_L27 then
      some x1_L27
    else
      (rdc x3_L27 60
      (f_X5_digest_L27 w_size w_kinds n (x3_L27 + 1) ((x1_L27 * 31) + ((w_kinds x3_L27.toNatClampNeg).toInt64)))))

noncomputable def f_X5_digest_L120 (w_outputs : Int32) (w_output : Nat → Int32) : Nat → Int32 → Int64 → Option (Int64)
  | 0, _, _ => none
  | n + 1, x3_L120, x1_L120 =>
    (if w_outputs ≤ x3_L120 then
      some x1_L120
    else
      (rdc x3_L120 60
      (f_X5_digest_L120 w_outputs w_output n (x3_L120 + 1) ((x1_L120 * 31) + ((w_output x3_L120.toNatClampNeg).toInt64)))))

noncomputable def f_X5_digest_J106 (w_outputs : Int32) (w_output : Nat → Int32) (x1_J106 : Int64) (w_thrown_J106 : Int32) : Option (Int64 × Int32) :=
  (Option.bind (f_X5_digest_L120 w_outputs w_output 4000 0 ((x1_J106 * 31) + w_outputs.toInt64)) fun v120 =>
    some (v120, w_thrown_J106))

noncomputable def f_X5_digest_L76 (w_steps : Int32) (w_stepParts : Nat → Int32) : Nat → Int32 → Int64 → Option (Int64)
  | 0, _, _ => none
  | n + 1, x3_L76, x1_L76 =>
    (if (4 * w_steps) ≤ x3_L76 then
      some x1_L76
    else
      (rdc x3_L76 2000
      (f_X5_digest_L76 w_steps w_stepParts n (x3_L76 + 1) ((x1_L76 * 31) + ((w_stepParts x3_L76.toNatClampNeg).toInt64)))))

noncomputable def f_X5_digest (w_size : Int32) (w_kinds : Nat → Int32) (w_registers : Int32) (w_isMade : Int32) (w_steps : Int32) (w_stepParts : Nat → Int32) (w_outputs : Int32) (w_output : Nat → Int32) : Option (Int64 × Int32) :=
  (Option.bind (f_X5_digest_L27 w_size w_kinds 4000 0 (((2573 + w_registers.toInt64) * 31) + w_size.toInt64)) fun v27 =>
    (if w_isMade = 0 then
      f_X5_digest_J106 w_outputs w_output v27 0
    else
      (Option.bind (f_X5_digest_L76 w_steps w_stepParts 4000 0 ((v27 * 31) + w_steps.toInt64)) fun v76 =>
        f_X5_digest_J106 w_outputs w_output v76 0)))
