abbrev PX3 (a0 a1 : Nat) (cyI cyZ : ClassId) (N : Nat) (w_numbers : Nat → Int32) (w_most : Int32) (w_length : Int32) : va_W := [(a0, .inr (3, [.ref a1, .int w_most, .int w_length])), (a1, .inl (cyI, N, .inl w_numbers))]
abbrev PX1 (a0 a1 a2 a3 a4 a5 : Nat) (cyI cyZ : ClassId) (w_kinds : Nat → Int32) (w_firsts : Nat → Int32) (w_seconds : Nat → Int32) (w_ints : Nat → Int32) (w_counting : Nat → Int32) (w_length : Int32) : va_W := [(a0, .inr (1, [.ref a1, .ref a2, .ref a3, .ref a4, .ref a5, .int w_length])), (a1, .inl (cyI, 60, .inl w_kinds)), (a2, .inl (cyI, 60, .inl w_firsts)), (a3, .inl (cyI, 60, .inl w_seconds)), (a4, .inl (cyI, 60, .inl w_ints)), (a5, .inl (cyZ, 60, .inl w_counting))]
abbrev PX0 (a0 a1 a2 a3 a4 a5 a6 a7 a8 a9 a10 a11 a12 a13 a14 a15 a16 : Nat) (cyI cyZ : ClassId) (w_code_kinds : Nat → Int32) (w_code_firsts : Nat → Int32) (w_code_seconds : Nat → Int32) (w_code_ints : Nat → Int32) (w_code_counting : Nat → Int32) (w_code_length : Int32) (w_steps_numbers : Nat → Int32) (w_steps_length : Int32) (w_pieces_numbers : Nat → Int32) (w_pieces_length : Int32) (w_valueIn : Nat → Int32) (w_registerOf : Nat → Int32) (w_slotOf : Nat → Int32) (w_pieceOf : Nat → Int32) (w_upcoming : Nat → Int32) (w_slotTaken : Nat → Int32) (w_registers : Int32) (w_slotCount : Int32) : va_W := [(a0, .inr (0, [.ref a1, .ref a7, .ref a9, .ref a11, .ref a12, .ref a13, .ref a14, .ref a15, .ref a16, .int w_registers, .int w_slotCount])), (a1, .inr (1, [.ref a2, .ref a3, .ref a4, .ref a5, .ref a6, .int w_code_length])), (a2, .inl (cyI, 60, .inl w_code_kinds)), (a3, .inl (cyI, 60, .inl w_code_firsts)), (a4, .inl (cyI, 60, .inl w_code_seconds)), (a5, .inl (cyI, 60, .inl w_code_ints)), (a6, .inl (cyZ, 60, .inl w_code_counting)), (a7, .inr (3, [.ref a8, .int 240, .int w_steps_length])), (a8, .inl (cyI, 960, .inl w_steps_numbers)), (a9, .inr (3, [.ref a10, .int 180, .int w_pieces_length])), (a10, .inl (cyI, 720, .inl w_pieces_numbers)), (a11, .inl (cyI, 8, .inl w_valueIn)), (a12, .inl (cyI, 60, .inl w_registerOf)), (a13, .inl (cyI, 60, .inl w_slotOf)), (a14, .inl (cyI, 60, .inl w_pieceOf)), (a15, .inl (cyI, 60, .inl w_upcoming)), (a16, .inl (cyZ, 60, .inl w_slotTaken))]
abbrev PX2 (a0 a1 a2 a3 : Nat) (cyI cyZ : ClassId) (w_registers : Nat → Int32) (w_slots : Nat → Int32) (w_outputs : Nat → Int32) (w_outputCount : Int32) : va_W := [(a0, .inr (2, [.ref a1, .ref a2, .ref a3, .int w_outputCount])), (a1, .inl (cyI, 8, .inl w_registers)), (a2, .inl (cyI, 60, .inl w_slots)), (a3, .inl (cyI, 60, .inl w_outputs))]
abbrev PX4 (a0 a1 a2 a3 a4 a5 a6 a7 a8 a9 a10 a11 a12 a13 a14 a15 a16 a17 a18 a19 a20 a21 a22 a23 a24 a25 a26 a27 a28 a29 a30 a31 a32 : Nat) (cyI cyZ : ClassId) (w_code_kinds : Nat → Int32) (w_code_firsts : Nat → Int32) (w_code_seconds : Nat → Int32) (w_code_ints : Nat → Int32) (w_code_counting : Nat → Int32) (w_code_length : Int32) (w_present_steps_numbers : Nat → Int32) (w_present_steps_length : Int32) (w_present_pieces_numbers : Nat → Int32) (w_present_pieces_length : Int32) (w_present_valueIn : Nat → Int32) (w_present_registerOf : Nat → Int32) (w_present_slotOf : Nat → Int32) (w_present_pieceOf : Nat → Int32) (w_present_upcoming : Nat → Int32) (w_present_slotTaken : Nat → Int32) (w_present_registers : Int32) (w_present_slotCount : Int32) (w_trial_steps_numbers : Nat → Int32) (w_trial_steps_length : Int32) (w_trial_pieces_numbers : Nat → Int32) (w_trial_pieces_length : Int32) (w_trial_valueIn : Nat → Int32) (w_trial_registerOf : Nat → Int32) (w_trial_slotOf : Nat → Int32) (w_trial_pieceOf : Nat → Int32) (w_trial_upcoming : Nat → Int32) (w_trial_slotTaken : Nat → Int32) (w_trial_registers : Int32) (w_trial_slotCount : Int32) (w_machine_registers : Nat → Int32) (w_machine_slots : Nat → Int32) (w_machine_outputs : Nat → Int32) (w_machine_outputCount : Int32) (w_registers : Int32) (w_allocated : Int32) : va_W := [(a0, .inr (4, [.ref a1, .ref a7, .ref a18, .ref a29, .int w_registers, .int w_allocated])), (a1, .inr (1, [.ref a2, .ref a3, .ref a4, .ref a5, .ref a6, .int w_code_length])), (a2, .inl (cyI, 60, .inl w_code_kinds)), (a3, .inl (cyI, 60, .inl w_code_firsts)), (a4, .inl (cyI, 60, .inl w_code_seconds)), (a5, .inl (cyI, 60, .inl w_code_ints)), (a6, .inl (cyZ, 60, .inl w_code_counting)), (a7, .inr (0, [.ref a1, .ref a8, .ref a10, .ref a12, .ref a13, .ref a14, .ref a15, .ref a16, .ref a17, .int w_present_registers, .int w_present_slotCount])), (a8, .inr (3, [.ref a9, .int 240, .int w_present_steps_length])), (a9, .inl (cyI, 960, .inl w_present_steps_numbers)), (a10, .inr (3, [.ref a11, .int 180, .int w_present_pieces_length])), (a11, .inl (cyI, 720, .inl w_present_pieces_numbers)), (a12, .inl (cyI, 8, .inl w_present_valueIn)), (a13, .inl (cyI, 60, .inl w_present_registerOf)), (a14, .inl (cyI, 60, .inl w_present_slotOf)), (a15, .inl (cyI, 60, .inl w_present_pieceOf)), (a16, .inl (cyI, 60, .inl w_present_upcoming)), (a17, .inl (cyZ, 60, .inl w_present_slotTaken)), (a18, .inr (0, [.ref a1, .ref a19, .ref a21, .ref a23, .ref a24, .ref a25, .ref a26, .ref a27, .ref a28, .int w_trial_registers, .int w_trial_slotCount])), (a19, .inr (3, [.ref a20, .int 240, .int w_trial_steps_length])), (a20, .inl (cyI, 960, .inl w_trial_steps_numbers)), (a21, .inr (3, [.ref a22, .int 180, .int w_trial_pieces_length])), (a22, .inl (cyI, 720, .inl w_trial_pieces_numbers)), (a23, .inl (cyI, 8, .inl w_trial_valueIn)), (a24, .inl (cyI, 60, .inl w_trial_registerOf)), (a25, .inl (cyI, 60, .inl w_trial_slotOf)), (a26, .inl (cyI, 60, .inl w_trial_pieceOf)), (a27, .inl (cyI, 60, .inl w_trial_upcoming)), (a28, .inl (cyZ, 60, .inl w_trial_slotTaken)), (a29, .inr (2, [.ref a30, .ref a31, .ref a32, .int w_machine_outputCount])), (a30, .inl (cyI, 8, .inl w_machine_registers)), (a31, .inl (cyI, 60, .inl w_machine_slots)), (a32, .inl (cyI, 60, .inl w_machine_outputs))]
abbrev kT (cyI cyZ : ClassId) : List (ClassId × FieldType) := [(cyI, .int), (cyZ, .boolean)]

/-! ===== rows ===== -/
noncomputable def f_X3_clear  : Option (Int32) :=
  some 0

noncomputable def f_X3_length (w_length : Int32) : Option (Int32) :=
  some w_length

noncomputable def f_X3_has (p1 : Int32) (p2 : Int32) (w_length : Int32) : Option (Int32) :=
  (if p1 < 0 then
    some 0
  else
    (if w_length ≤ p1 then
      some 0
    else
      (if p2 < 0 then
        some 0
      else
        (if 4 ≤ p2 then
          some 0
        else
          some 1))))

noncomputable def f_X3_at (p1 : Int32) (p2 : Int32) (N : Nat) (w_numbers : Nat → Int32) (w_length : Int32) : Option (Int32) :=
  (Option.bind (f_X3_has p1 p2 w_length) fun u3 =>
  (if u3 = 0 then
    some (-1)
  else
    (rdc ((4 * p1) + p2) N
    (some (w_numbers ((4 * p1) + p2).toNatClampNeg)))))

noncomputable def f_X3_put (p1 : Int32) (p2 : Int32) (p3 : Int32) (N : Nat) (w_numbers : Nat → Int32) (w_length : Int32) : Option ((Nat → Int32)) :=
  (Option.bind (f_X3_has p1 p2 w_length) fun u3 =>
  (if u3 = 0 then
    some w_numbers
  else
    (rdc ((4 * p1) + p2) N
    (some (upd w_numbers ((4 * p1) + p2).toNatClampNeg p3)))))

noncomputable def f_X3_append (p1 : Int32) (p2 : Int32) (p3 : Int32) (p4 : Int32) (N : Nat) (w_numbers : Nat → Int32) (w_most : Int32) (w_length : Int32) : Option (Int32 × (Nat → Int32) × Int32) :=
  (if w_length < 0 then
    some ((-1), w_numbers, w_length)
  else
    (if w_length < w_most then
      (rdc (4 * w_length) N
      (rdc ((4 * w_length) + 1) N
      (rdc ((4 * w_length) + 2) N
      (rdc ((4 * w_length) + 3) N
      (some (w_length, (upd (upd (upd (upd w_numbers (4 * w_length).toNatClampNeg p1) ((4 * w_length) + 1).toNatClampNeg p2) ((4 * w_length) + 2).toNatClampNeg p3) ((4 * w_length) + 3).toNatClampNeg p4), (w_length + 1)))))))
    else
      some ((-1), w_numbers, w_length)))

noncomputable def f_X3_countOfFirst_L4 (N : Nat) (w_numbers : Nat → Int32) (w_length : Int32) (p1 : Int32) : Nat → Int32 → Int32 → Option (Int32)
  | 0, _, _ => none
  | n + 1, x3_L4, x2_L4 =>
    (if w_length ≤ x3_L4 then
      some x2_L4
    else
      (Option.bind (f_X3_at x3_L4 0 N w_numbers w_length) fun u15 =>
      (if u15 = p1 then
        f_X3_countOfFirst_L4 N w_numbers w_length p1 n (x3_L4 + 1) (x2_L4 + 1)
      else
        f_X3_countOfFirst_L4 N w_numbers w_length p1 n (x3_L4 + 1) x2_L4)))

noncomputable def f_X3_countOfFirst (p1 : Int32) (N : Nat) (w_numbers : Nat → Int32) (w_length : Int32) : Option (Int32) :=
  (Option.bind (f_X3_countOfFirst_L4 N w_numbers w_length p1 4000 0 0) fun v4 =>
    some v4)

/-! ===== code ===== -/
noncomputable def f_X1_length (w_length : Int32) : Option (Int32) :=
  some w_length

noncomputable def f_X1_isFull (w_length : Int32) : Option (Int32) :=
  (if w_length < 60 then
    some 0
  else
    some 1)

noncomputable def f_X1_has (p1 : Int32) (w_length : Int32) : Option (Int32) :=
  (if p1 < 0 then
    some 0
  else
    (if w_length ≤ p1 then
      some 0
    else
      some 1))

noncomputable def f_X1_hasValue (p1 : Int32) (w_kinds : Nat → Int32) (w_length : Int32) : Option (Int32) :=
  (Option.bind (f_X1_has p1 w_length) fun u2 =>
  (if u2 = 0 then
    some 0
  else
    (rdc p1 60
    (if (w_kinds p1.toNatClampNeg) = 6 then
      some 0
    else
      some 1))))

noncomputable def f_X1_isConst (p1 : Int32) (w_kinds : Nat → Int32) (w_length : Int32) : Option (Int32) :=
  (if p1 < 0 then
    some 0
  else
    (if w_length ≤ p1 then
      some 0
    else
      (rdc p1 60
      (if (w_kinds p1.toNatClampNeg) = 0 then
        some 1
      else
        some 0))))

noncomputable def f_X1_kindOf (p1 : Int32) (w_kinds : Nat → Int32) (w_length : Int32) : Option (Int32) :=
  (Option.bind (f_X1_has p1 w_length) fun u2 =>
  (if u2 = 0 then
    some (-1)
  else
    (rdc p1 60
    (some (w_kinds p1.toNatClampNeg)))))

noncomputable def f_X1_firstOf (p1 : Int32) (w_firsts : Nat → Int32) (w_length : Int32) : Option (Int32) :=
  (Option.bind (f_X1_has p1 w_length) fun u2 =>
  (if u2 = 0 then
    some (-1)
  else
    (rdc p1 60
    (some (w_firsts p1.toNatClampNeg)))))

noncomputable def f_X1_secondOf (p1 : Int32) (w_seconds : Nat → Int32) (w_length : Int32) : Option (Int32) :=
  (Option.bind (f_X1_has p1 w_length) fun u2 =>
  (if u2 = 0 then
    some (-1)
  else
    (rdc p1 60
    (some (w_seconds p1.toNatClampNeg)))))

noncomputable def f_X1_intOf (p1 : Int32) (w_ints : Nat → Int32) (w_length : Int32) : Option (Int32) :=
  (Option.bind (f_X1_has p1 w_length) fun u2 =>
  (if u2 = 0 then
    some 0
  else
    (rdc p1 60
    (some (w_ints p1.toNatClampNeg)))))

noncomputable def f_X1_isCounting (p1 : Int32) (w_counting : Nat → Int32) (w_length : Int32) : Option (Int32) :=
  (Option.bind (f_X1_has p1 w_length) fun u2 =>
  (if u2 = 0 then
    some 0
  else
    (rdc p1 60
    (if (w_counting p1.toNatClampNeg) = 0 then
      some 0
    else
      some 1))))

noncomputable def f_X1_markCounting (p1 : Int32) (w_counting : Nat → Int32) (w_length : Int32) : Option ((Nat → Int32)) :=
  (Option.bind (f_X1_has p1 w_length) fun u2 =>
  (if u2 = 0 then
    some w_counting
  else
    (rdc p1 60
    (some (upd w_counting p1.toNatClampNeg 1)))))

noncomputable def f_X1_findCounting_L2 (w_kinds : Nat → Int32) (w_length : Int32) : Nat → Int32 → (Nat → Int32) → Option ((Nat → Int32))
  | 0, _, _ => none
  | n + 1, x1_L2, w_counting_L2 =>
    (if w_length ≤ x1_L2 then
      some w_counting_L2
    else
      (rdc x1_L2 60
      (if (w_kinds x1_L2.toNatClampNeg) = 6 then
        (rdc x1_L2 60
        (f_X1_findCounting_L2 w_kinds w_length n (x1_L2 + 1) (upd w_counting_L2 x1_L2.toNatClampNeg 1)))
      else
        (rdc x1_L2 60
        (f_X1_findCounting_L2 w_kinds w_length n (x1_L2 + 1) (upd w_counting_L2 x1_L2.toNatClampNeg 0))))))

noncomputable def f_X1_findCounting_L45 (w_firsts : Nat → Int32) (w_seconds : Nat → Int32) (w_length : Int32) : Nat → Int32 → (Nat → Int32) → Option ((Nat → Int32))
  | 0, _, _ => none
  | n + 1, x1_L45, w_counting_L45 =>
    (if x1_L45 < 0 then
      some w_counting_L45
    else
      (rdc x1_L45 60
      (if (w_counting_L45 x1_L45.toNatClampNeg) = 0 then
        f_X1_findCounting_L45 w_firsts w_seconds w_length n (x1_L45 + (-1)) w_counting_L45
      else
        (rdc x1_L45 60
        (Option.bind (f_X1_markCounting (w_firsts x1_L45.toNatClampNeg) w_counting_L45 w_length) fun u65 =>
        (rdc x1_L45 60
        (Option.bind (f_X1_markCounting (w_seconds x1_L45.toNatClampNeg) u65 w_length) fun u75 =>
        f_X1_findCounting_L45 w_firsts w_seconds w_length n (x1_L45 + (-1)) u75)))))))

noncomputable def f_X1_findCounting (w_kinds : Nat → Int32) (w_firsts : Nat → Int32) (w_seconds : Nat → Int32) (w_counting : Nat → Int32) (w_length : Int32) : Option ((Nat → Int32)) :=
  (Option.bind (f_X1_findCounting_L2 w_kinds w_length 4000 0 w_counting) fun v2 =>
    (Option.bind (f_X1_findCounting_L45 w_firsts w_seconds w_length 4000 (w_length - 1) v2) fun v45 =>
      some v45))

noncomputable def f_X1_append (p1 : Int32) (p2 : Int32) (p3 : Int32) (p4 : Int32) (w_kinds : Nat → Int32) (w_firsts : Nat → Int32) (w_seconds : Nat → Int32) (w_ints : Nat → Int32) (w_counting : Nat → Int32) (w_length : Int32) : Option (Int32 × (Nat → Int32) × (Nat → Int32) × (Nat → Int32) × (Nat → Int32) × (Nat → Int32) × Int32) :=
  (Option.bind (f_X1_isFull w_length) fun u1 =>
  (if u1 = 0 then
    (rdc w_length 60
    (rdc w_length 60
    (rdc w_length 60
    (rdc w_length 60
    (Option.bind (f_X1_findCounting (upd w_kinds w_length.toNatClampNeg p1) (upd w_firsts w_length.toNatClampNeg p2) (upd w_seconds w_length.toNatClampNeg p3) w_counting (w_length + 1)) fun u59 =>
    some (w_length, (upd w_kinds w_length.toNatClampNeg p1), (upd w_firsts w_length.toNatClampNeg p2), (upd w_seconds w_length.toNatClampNeg p3), (upd w_ints w_length.toNatClampNeg p4), u59, (w_length + 1)))))))
  else
    some ((-1), w_kinds, w_firsts, w_seconds, w_ints, w_counting, w_length)))

noncomputable def f_X1_firstUse_L16 (w_firsts : Nat → Int32) (w_seconds : Nat → Int32) (w_counting : Nat → Int32) (w_length : Int32) (p1 : Int32) : Nat → Int32 → Option (Int32)
  | 0, _ => none
  | n + 1, x3_L16 =>
    (if w_length ≤ x3_L16 then
      some (-1)
    else
      (rdc x3_L16 60
      (if (w_counting x3_L16.toNatClampNeg) = 0 then
        f_X1_firstUse_L16 w_firsts w_seconds w_counting w_length p1 n (x3_L16 + 1)
      else
        (rdc x3_L16 60
        (if (w_firsts x3_L16.toNatClampNeg) = p1 then
          some x3_L16
        else
          (rdc x3_L16 60
          (if (w_seconds x3_L16.toNatClampNeg) = p1 then
            some x3_L16
          else
            f_X1_firstUse_L16 w_firsts w_seconds w_counting w_length p1 n (x3_L16 + 1))))))))

noncomputable def f_X1_firstUse (p1 : Int32) (p2 : Int32) (w_firsts : Nat → Int32) (w_seconds : Nat → Int32) (w_counting : Nat → Int32) (w_length : Int32) : Option (Int32) :=
  (Option.bind (f_X1_has p1 w_length) fun u2 =>
  (if u2 = 0 then
    some (-1)
  else
    f_X1_firstUse_L16 w_firsts w_seconds w_counting w_length p1 4000 (if p2 < 0 then 0 else p2)))

/-! ===== alloc ===== -/


noncomputable def f_X0_slotCount (w_slotCount : Int32) : Option (Int32) :=
  some w_slotCount

noncomputable def f_X0_clear_L35  : Nat → Int32 → (Nat → Int32) → Option ((Nat → Int32))
  | 0, _, _ => none
  | n + 1, x2_L35, w_valueIn_L35 =>
    (if 8 ≤ x2_L35 then
      some w_valueIn_L35
    else
      (rdc x2_L35 8
      (f_X0_clear_L35 n (x2_L35 + 1) (upd w_valueIn_L35 x2_L35.toNatClampNeg (-1)))))

noncomputable def f_X0_clear_L56 (w_code_firsts : Nat → Int32) (w_code_seconds : Nat → Int32) (w_code_counting : Nat → Int32) (w_code_length : Int32) : Nat → Int32 → (Nat → Int32) → (Nat → Int32) → (Nat → Int32) → (Nat → Int32) → (Nat → Int32) → Option ((Nat → Int32) × (Nat → Int32) × (Nat → Int32) × (Nat → Int32) × (Nat → Int32))
  | 0, _, _, _, _, _, _ => none
  | n + 1, x2_L56, w_registerOf_L56, w_slotOf_L56, w_pieceOf_L56, w_upcoming_L56, w_slotTaken_L56 =>
    (if 60 ≤ x2_L56 then
      some (w_registerOf_L56, w_slotOf_L56, w_pieceOf_L56, w_upcoming_L56, w_slotTaken_L56)
    else
      (rdc x2_L56 60
      (rdc x2_L56 60
      (rdc x2_L56 60
      (Option.bind (f_X1_firstUse x2_L56 (x2_L56 + 1) w_code_firsts w_code_seconds w_code_counting w_code_length) fun u96 =>
      (rdc x2_L56 60
      (rdc x2_L56 60
      (f_X0_clear_L56 w_code_firsts w_code_seconds w_code_counting w_code_length n (x2_L56 + 1) (upd w_registerOf_L56 x2_L56.toNatClampNeg (-1)) (upd w_slotOf_L56 x2_L56.toNatClampNeg (-1)) (upd w_pieceOf_L56 x2_L56.toNatClampNeg (-1)) (upd w_upcoming_L56 x2_L56.toNatClampNeg u96) (upd w_slotTaken_L56 x2_L56.toNatClampNeg 0)))))))))

noncomputable def f_X0_clear (p1 : Int32) (w_code_firsts : Nat → Int32) (w_code_seconds : Nat → Int32) (w_code_counting : Nat → Int32) (w_code_length : Int32) (w_valueIn : Nat → Int32) (w_registerOf : Nat → Int32) (w_slotOf : Nat → Int32) (w_pieceOf : Nat → Int32) (w_upcoming : Nat → Int32) (w_slotTaken : Nat → Int32) : Option (Int32 × Int32 × (Nat → Int32) × (Nat → Int32) × (Nat → Int32) × (Nat → Int32) × (Nat → Int32) × (Nat → Int32) × Int32 × Int32) :=
  (Option.bind (f_X3_clear) fun u4 =>
  (Option.bind (f_X3_clear) fun u11 =>
  (Option.bind (f_X0_clear_L35 4000 0 w_valueIn) fun v35 =>
    (Option.bind (f_X0_clear_L56 w_code_firsts w_code_seconds w_code_counting w_code_length 4000 0 w_registerOf w_slotOf w_pieceOf w_upcoming w_slotTaken) fun v56 =>
      some (u4, u11, v35, v56.1, v56.2.1, v56.2.2.1, v56.2.2.2.1, v56.2.2.2.2, (if 2 < (if 8 < p1 then 8 else p1) then (if 8 < p1 then 8 else p1) else 2), 0)))))

noncomputable def f_X0_isRow (p1 : Int32) : Option (Int32) :=
  (if p1 < 0 then
    some 0
  else
    (if 60 ≤ p1 then
      some 0
    else
      some 1))

noncomputable def f_X0_isMissing (p1 : Int32) (w_registerOf : Nat → Int32) : Option (Int32) :=
  (Option.bind (f_X0_isRow p1) fun u1 =>
  (if u1 = 0 then
    some 0
  else
    (rdc p1 60
    (if (w_registerOf p1.toNatClampNeg) = (-1) then
      some 1
    else
      some 0))))

noncomputable def f_X0_isRegister (p1 : Int32) (w_registers : Int32) : Option (Int32) :=
  (if p1 < 0 then
    some 0
  else
    (if w_registers ≤ p1 then
      some 0
    else
      some 1))

noncomputable def f_X0_isFree (p1 : Int32) (w_valueIn : Nat → Int32) (w_registers : Int32) : Option (Int32) :=
  (Option.bind (f_X0_isRegister p1 w_registers) fun u2 =>
  (if u2 = 0 then
    some 0
  else
    (rdc p1 8
    (if (w_valueIn p1.toNatClampNeg) = (-1) then
      some 1
    else
      some 0))))

noncomputable def f_X0_valueHeldIn (p1 : Int32) (w_valueIn : Nat → Int32) (w_registers : Int32) : Option (Int32) :=
  (Option.bind (f_X0_isRegister p1 w_registers) fun u2 =>
  (if u2 = 0 then
    some (-1)
  else
    (rdc p1 8
    (some (w_valueIn p1.toNatClampNeg)))))

noncomputable def f_X0_losesBefore (p1 : Int32) (p2 : Int32) (w_code_kinds : Nat → Int32) (w_code_length : Int32) (w_slotOf : Nat → Int32) (w_upcoming : Nat → Int32) : Option (Int32) :=
  (Option.bind (f_X0_isRow p1) fun u1 =>
  (if u1 = 0 then
    some 0
  else
    (Option.bind (f_X0_isRow p2) fun u8 =>
    (if u8 = 0 then
      some 0
    else
      (rdc p1 60
      (rdc p2 60
      (if (w_upcoming p1.toNatClampNeg) = (w_upcoming p2.toNatClampNeg) then
        (Option.bind (f_X1_isConst p1 w_code_kinds w_code_length) fun u57 =>
        (Option.bind (f_X1_isConst p2 w_code_kinds w_code_length) fun u67 =>
        (if u57 = u67 then
          (rdc p1 60
          (if (w_slotOf p1.toNatClampNeg) = (-1) then
            some 0
          else
            (rdc p2 60
            (if (w_slotOf p2.toNatClampNeg) = (-1) then
              some 1
            else
              some 0))))
        else
          (zck u57
          (some u57)))))
      else
        (rdc p1 60
        (rdc p2 60
        (if (w_upcoming p1.toNatClampNeg) ≤ (w_upcoming p2.toNatClampNeg) then
          some 0
        else
          some 1))))))))))

noncomputable def f_X0_registerToLose_L5 (w_code_kinds : Nat → Int32) (w_code_length : Int32) (w_valueIn : Nat → Int32) (w_slotOf : Nat → Int32) (w_upcoming : Nat → Int32) (w_registers : Int32) (p1 : Int32) (p2 : Int32) : Nat → Int32 → Int32 → Option (Int32)
  | 0, _, _ => none
  | n + 1, x4_L5, x3_L5 =>
    (if w_registers ≤ x4_L5 then
      some x3_L5
    else
      (Option.bind (f_X0_valueHeldIn x4_L5 w_valueIn w_registers) fun u17 =>
      (if u17 = p1 then
        f_X0_registerToLose_L5 w_code_kinds w_code_length w_valueIn w_slotOf w_upcoming w_registers p1 p2 n (x4_L5 + 1) x3_L5
      else
        (if u17 = p2 then
          f_X0_registerToLose_L5 w_code_kinds w_code_length w_valueIn w_slotOf w_upcoming w_registers p1 p2 n (x4_L5 + 1) x3_L5
        else
          (if x3_L5 = (-1) then
            f_X0_registerToLose_L5 w_code_kinds w_code_length w_valueIn w_slotOf w_upcoming w_registers p1 p2 n (x4_L5 + 1) x4_L5
          else
            (Option.bind (f_X0_valueHeldIn x3_L5 w_valueIn w_registers) fun u56 =>
            (Option.bind (f_X0_losesBefore u17 u56 w_code_kinds w_code_length w_slotOf w_upcoming) fun u59 =>
            (if u59 = 0 then
              f_X0_registerToLose_L5 w_code_kinds w_code_length w_valueIn w_slotOf w_upcoming w_registers p1 p2 n (x4_L5 + 1) x3_L5
            else
              f_X0_registerToLose_L5 w_code_kinds w_code_length w_valueIn w_slotOf w_upcoming w_registers p1 p2 n (x4_L5 + 1) x4_L5))))))))

noncomputable def f_X0_registerToLose (p1 : Int32) (p2 : Int32) (w_code_kinds : Nat → Int32) (w_code_length : Int32) (w_valueIn : Nat → Int32) (w_slotOf : Nat → Int32) (w_upcoming : Nat → Int32) (w_registers : Int32) : Option (Int32) :=
  (Option.bind (f_X0_registerToLose_L5 w_code_kinds w_code_length w_valueIn w_slotOf w_upcoming w_registers p1 p2 4000 0 (-1)) fun v5 =>
    some v5)

noncomputable def f_X0_smallestFreeSlot_L2 (w_slotTaken : Nat → Int32) : Nat → Int32 → Option (Int32)
  | 0, _ => none
  | n + 1, x1_L2 =>
    (if 60 ≤ x1_L2 then
      some (-1)
    else
      (rdc x1_L2 60
      (if (w_slotTaken x1_L2.toNatClampNeg) = 0 then
        some x1_L2
      else
        f_X0_smallestFreeSlot_L2 w_slotTaken n (x1_L2 + 1))))

noncomputable def f_X0_smallestFreeSlot (w_slotTaken : Nat → Int32) : Option (Int32) :=
  f_X0_smallestFreeSlot_L2 w_slotTaken 4000 0

noncomputable def f_X0_storeIfNeeded (p1 : Int32) (p2 : Int32) (w_code_kinds : Nat → Int32) (w_code_length : Int32) (w_steps_numbers : Nat → Int32) (w_steps_length : Int32) (w_pieces_numbers : Nat → Int32) (w_pieces_length : Int32) (w_slotOf : Nat → Int32) (w_pieceOf : Nat → Int32) (w_slotTaken : Nat → Int32) (w_slotCount : Int32) : Option ((Nat → Int32) × Int32 × (Nat → Int32) × (Nat → Int32) × (Nat → Int32) × Int32) :=
  (Option.bind (f_X0_isRow p1) fun u1 =>
  (if u1 = 0 then
    some (w_steps_numbers, w_steps_length, w_pieces_numbers, w_slotOf, w_slotTaken, w_slotCount)
  else
    (Option.bind (f_X1_isConst p1 w_code_kinds w_code_length) fun u12 =>
    (if u12 = 0 then
      (rdc p1 60
      (if (w_slotOf p1.toNatClampNeg) = (-1) then
        (Option.bind (f_X0_smallestFreeSlot w_slotTaken) fun u30 =>
        (if u30 = (-1) then
          some (w_steps_numbers, w_steps_length, w_pieces_numbers, w_slotOf, w_slotTaken, w_slotCount)
        else
          (rdc u30 60
          (rdc p1 60
          (Option.bind (f_X3_append 8 p2 u30 (-1) 960 w_steps_numbers 240 w_steps_length) fun u77 =>
          (rdc p1 60
          (Option.bind (f_X3_put (w_pieceOf p1.toNatClampNeg) 3 u77.1 720 w_pieces_numbers w_pieces_length) fun u95 =>
          some (u77.2.1, u77.2.2, u95, (upd w_slotOf p1.toNatClampNeg u30), (upd w_slotTaken u30.toNatClampNeg 1), (if w_slotCount < (u30 + 1) then (u30 + 1) else w_slotCount)))))))))
      else
        some (w_steps_numbers, w_steps_length, w_pieces_numbers, w_slotOf, w_slotTaken, w_slotCount)))
    else
      some (w_steps_numbers, w_steps_length, w_pieces_numbers, w_slotOf, w_slotTaken, w_slotCount)))))

noncomputable def f_X0_registerHolding (p1 : Int32) (w_registerOf : Nat → Int32) : Option (Int32) :=
  (Option.bind (f_X0_isRow p1) fun u1 =>
  (if u1 = 0 then
    some (-1)
  else
    (rdc p1 60
    (some (w_registerOf p1.toNatClampNeg)))))

noncomputable def f_X0_leaveRegister (p1 : Int32) (w_valueIn : Nat → Int32) (w_registerOf : Nat → Int32) (w_registers : Int32) : Option ((Nat → Int32) × (Nat → Int32)) :=
  (Option.bind (f_X0_registerHolding p1 w_registerOf) fun u2 =>
  (Option.bind (f_X0_isRegister u2 w_registers) fun u8 =>
  (if u8 = 0 then
    some (w_valueIn, w_registerOf)
  else
    (rdc u2 8
    (rdc p1 60
    (some ((upd w_valueIn u2.toNatClampNeg (-1)), (upd w_registerOf p1.toNatClampNeg (-1)))))))))

noncomputable def f_X0_getRegister_L2 (w_code_kinds : Nat → Int32) (w_code_length : Int32) (w_pieces_length : Int32) (w_pieceOf : Nat → Int32) (w_upcoming : Nat → Int32) (w_registers : Int32) (p1 : Int32) (p2 : Int32) : Nat → Int32 → (Nat → Int32) → Int32 → (Nat → Int32) → (Nat → Int32) → (Nat → Int32) → (Nat → Int32) → (Nat → Int32) → Int32 → Option (Int32 × (Nat → Int32) × Int32 × (Nat → Int32) × (Nat → Int32) × (Nat → Int32) × (Nat → Int32) × (Nat → Int32) × Int32)
  | 0, _, _, _, _, _, _, _, _, _ => none
  | n + 1, x3_L2, w_steps_numbers_L2, w_steps_length_L2, w_pieces_numbers_L2, w_valueIn_L2, w_registerOf_L2, w_slotOf_L2, w_slotTaken_L2, w_slotCount_L2 =>
    (if w_registers ≤ x3_L2 then
      (Option.bind (f_X0_registerToLose p1 p2 w_code_kinds w_code_length w_valueIn_L2 w_slotOf_L2 w_upcoming w_registers) fun u29 =>
      (Option.bind (f_X0_valueHeldIn u29 w_valueIn_L2 w_registers) fun u35 =>
      (Option.bind (f_X0_storeIfNeeded u35 u29 w_code_kinds w_code_length w_steps_numbers_L2 w_steps_length_L2 w_pieces_numbers_L2 w_pieces_length w_slotOf_L2 w_pieceOf w_slotTaken_L2 w_slotCount_L2) fun u44 =>
      (Option.bind (f_X0_leaveRegister u35 w_valueIn_L2 w_registerOf_L2 w_registers) fun u50 =>
      some (u29, u44.1, u44.2.1, u44.2.2.1, u50.1, u50.2, u44.2.2.2.1, u44.2.2.2.2.1, u44.2.2.2.2.2)))))
    else
      (Option.bind (f_X0_isFree x3_L2 w_valueIn_L2 w_registers) fun u12 =>
      (if u12 = 0 then
        f_X0_getRegister_L2 w_code_kinds w_code_length w_pieces_length w_pieceOf w_upcoming w_registers p1 p2 n (x3_L2 + 1) w_steps_numbers_L2 w_steps_length_L2 w_pieces_numbers_L2 w_valueIn_L2 w_registerOf_L2 w_slotOf_L2 w_slotTaken_L2 w_slotCount_L2
      else
        some (x3_L2, w_steps_numbers_L2, w_steps_length_L2, w_pieces_numbers_L2, w_valueIn_L2, w_registerOf_L2, w_slotOf_L2, w_slotTaken_L2, w_slotCount_L2))))

noncomputable def f_X0_getRegister (p1 : Int32) (p2 : Int32) (w_code_kinds : Nat → Int32) (w_code_length : Int32) (w_steps_numbers : Nat → Int32) (w_steps_length : Int32) (w_pieces_numbers : Nat → Int32) (w_pieces_length : Int32) (w_valueIn : Nat → Int32) (w_registerOf : Nat → Int32) (w_slotOf : Nat → Int32) (w_pieceOf : Nat → Int32) (w_upcoming : Nat → Int32) (w_slotTaken : Nat → Int32) (w_registers : Int32) (w_slotCount : Int32) : Option (Int32 × (Nat → Int32) × Int32 × (Nat → Int32) × (Nat → Int32) × (Nat → Int32) × (Nat → Int32) × (Nat → Int32) × Int32) :=
  f_X0_getRegister_L2 w_code_kinds w_code_length w_pieces_length w_pieceOf w_upcoming w_registers p1 p2 4000 0 w_steps_numbers w_steps_length w_pieces_numbers w_valueIn w_registerOf w_slotOf w_slotTaken w_slotCount

noncomputable def f_X0_slotHolding (p1 : Int32) (w_slotOf : Nat → Int32) : Option (Int32) :=
  (Option.bind (f_X0_isRow p1) fun u1 =>
  (if u1 = 0 then
    some (-1)
  else
    (rdc p1 60
    (some (w_slotOf p1.toNatClampNeg)))))

noncomputable def f_X0_beginPiece (p1 : Int32) (p2 : Int32) (p3 : Int32) (w_pieces_numbers : Nat → Int32) (w_pieces_length : Int32) (w_valueIn : Nat → Int32) (w_registerOf : Nat → Int32) (w_pieceOf : Nat → Int32) (w_registers : Int32) : Option ((Nat → Int32) × Int32 × (Nat → Int32) × (Nat → Int32) × (Nat → Int32)) :=
  (Option.bind (f_X0_isRow p1) fun u1 =>
  (if u1 = 0 then
    some (w_pieces_numbers, w_pieces_length, w_valueIn, w_registerOf, w_pieceOf)
  else
    (Option.bind (f_X0_isRegister p2 w_registers) fun u9 =>
    (if u9 = 0 then
      some (w_pieces_numbers, w_pieces_length, w_valueIn, w_registerOf, w_pieceOf)
    else
      (rdc p2 8
      (rdc p1 60
      (Option.bind (f_X3_append p1 p2 p3 p3 720 w_pieces_numbers 180 w_pieces_length) fun u42 =>
      (rdc p1 60
      (some (u42.2.1, u42.2.2, (upd w_valueIn p2.toNatClampNeg p1), (upd w_registerOf p1.toNatClampNeg p2), (upd w_pieceOf p1.toNatClampNeg u42.1)))))))))))

noncomputable def f_X0_fetch (p1 : Int32) (p2 : Int32) (w_code_kinds : Nat → Int32) (w_code_ints : Nat → Int32) (w_code_length : Int32) (w_steps_numbers : Nat → Int32) (w_steps_length : Int32) (w_pieces_numbers : Nat → Int32) (w_pieces_length : Int32) (w_valueIn : Nat → Int32) (w_registerOf : Nat → Int32) (w_slotOf : Nat → Int32) (w_pieceOf : Nat → Int32) (w_registers : Int32) : Option ((Nat → Int32) × Int32 × (Nat → Int32) × Int32 × (Nat → Int32) × (Nat → Int32) × (Nat → Int32)) :=
  (Option.bind (f_X1_isConst p1 w_code_kinds w_code_length) fun u5 =>
  (if u5 = 0 then
    (Option.bind (f_X0_slotHolding p1 w_slotOf) fun u42 =>
    (Option.bind (f_X3_append 7 p2 u42 (-1) 960 w_steps_numbers 240 w_steps_length) fun u46 =>
    (Option.bind (f_X0_beginPiece p1 p2 u46.1 w_pieces_numbers w_pieces_length w_valueIn w_registerOf w_pieceOf w_registers) fun u54 =>
    some (u46.2.1, u46.2.2, u54.1, u54.2.1, u54.2.2.1, u54.2.2.2.1, u54.2.2.2.2))))
  else
    (Option.bind (f_X1_intOf p1 w_code_ints w_code_length) fun u22 =>
    (Option.bind (f_X3_append 0 p2 u22 (-1) 960 w_steps_numbers 240 w_steps_length) fun u26 =>
    (Option.bind (f_X0_beginPiece p1 p2 u26.1 w_pieces_numbers w_pieces_length w_valueIn w_registerOf w_pieceOf w_registers) fun u54 =>
    some (u26.2.1, u26.2.2, u54.1, u54.2.1, u54.2.2.1, u54.2.2.2.1, u54.2.2.2.2))))))

noncomputable def f_X0_freeSlot (p1 : Int32) (w_slotOf : Nat → Int32) (w_slotTaken : Nat → Int32) : Option ((Nat → Int32) × (Nat → Int32)) :=
  (Option.bind (f_X0_slotHolding p1 w_slotOf) fun u2 =>
  (Option.bind (f_X0_isRow u2) fun u7 =>
  (if u7 = 0 then
    some (w_slotOf, w_slotTaken)
  else
    (rdc u2 60
    (rdc p1 60
    (some ((upd w_slotOf p1.toNatClampNeg (-1)), (upd w_slotTaken u2.toNatClampNeg 0))))))))

noncomputable def f_X0_moveToNextUse (p1 : Int32) (p2 : Int32) (w_code_firsts : Nat → Int32) (w_code_seconds : Nat → Int32) (w_code_counting : Nat → Int32) (w_code_length : Int32) (w_valueIn : Nat → Int32) (w_registerOf : Nat → Int32) (w_slotOf : Nat → Int32) (w_upcoming : Nat → Int32) (w_slotTaken : Nat → Int32) (w_registers : Int32) : Option ((Nat → Int32) × (Nat → Int32) × (Nat → Int32) × (Nat → Int32) × (Nat → Int32)) :=
  (Option.bind (f_X0_isRow p1) fun u1 =>
  (if u1 = 0 then
    some (w_valueIn, w_registerOf, w_slotOf, w_upcoming, w_slotTaken)
  else
    (Option.bind (f_X1_firstUse p1 (p2 + 1) w_code_firsts w_code_seconds w_code_counting w_code_length) fun u21 =>
    (rdc p1 60
    (rdc p1 60
    (if ((upd w_upcoming p1.toNatClampNeg u21) p1.toNatClampNeg) = (-1) then
      (Option.bind (f_X0_leaveRegister p1 w_valueIn w_registerOf w_registers) fun u37 =>
      (Option.bind (f_X0_freeSlot p1 w_slotOf w_slotTaken) fun u42 =>
      some (u37.1, u37.2, u42.1, (upd w_upcoming p1.toNatClampNeg u21), u42.2)))
    else
      some (w_valueIn, w_registerOf, w_slotOf, (upd w_upcoming p1.toNatClampNeg u21), w_slotTaken)))))))

noncomputable def f_X0_registerJustLeft (p1 : Int32) (p2 : Int32) (w_valueIn : Nat → Int32) (w_registers : Int32) : Option (Int32) :=
  (Option.bind (f_X0_isFree p1 w_valueIn w_registers) fun u2 =>
  (if u2 = 0 then
    (Option.bind (f_X0_isFree p2 w_valueIn w_registers) fun u12 =>
    (if u12 = 0 then
      some (-1)
    else
      some p2))
  else
    some p1))

noncomputable def f_X0_readAt (p1 : Int32) (p2 : Int32) (w_pieces_numbers : Nat → Int32) (w_pieces_length : Int32) (w_pieceOf : Nat → Int32) : Option ((Nat → Int32)) :=
  (Option.bind (f_X0_isRow p1) fun u1 =>
  (if u1 = 0 then
    some w_pieces_numbers
  else
    (rdc p1 60
    (Option.bind (f_X3_put (w_pieceOf p1.toNatClampNeg) 3 p2 720 w_pieces_numbers w_pieces_length) fun u19 =>
    some u19))))

noncomputable def f_X0_treat_J167 (x6_J167 : Int32) (x3_J167 : Int32) (x2_J167 : Int32) (w_steps_numbers_J167 : Nat → Int32) (w_steps_length_J167 : Int32) (w_pieces_numbers_J167 : Nat → Int32) (w_pieces_length_J167 : Int32) (w_valueIn_J167 : Nat → Int32) (w_registerOf_J167 : Nat → Int32) (w_slotOf_J167 : Nat → Int32) (w_pieceOf_J167 : Nat → Int32) (w_upcoming_J167 : Nat → Int32) (w_slotTaken_J167 : Nat → Int32) (w_slotCount_J167 : Int32) : Option ((Nat → Int32) × Int32 × (Nat → Int32) × Int32 × (Nat → Int32) × (Nat → Int32) × (Nat → Int32) × (Nat → Int32) × (Nat → Int32) × (Nat → Int32) × Int32) :=
  (Option.bind (f_X0_readAt x2_J167 x6_J167 w_pieces_numbers_J167 w_pieces_length_J167 w_pieceOf_J167) fun u171 =>
  (Option.bind (f_X0_readAt x3_J167 x6_J167 u171 w_pieces_length_J167 w_pieceOf_J167) fun u178 =>
  some (w_steps_numbers_J167, w_steps_length_J167, u178, w_pieces_length_J167, w_valueIn_J167, w_registerOf_J167, w_slotOf_J167, w_pieceOf_J167, w_upcoming_J167, w_slotTaken_J167, w_slotCount_J167)))

noncomputable def f_X0_treat_J117 (w_code_kinds : Nat → Int32) (w_code_length : Int32) (w_registers : Int32) (x7_J117 : Int32) (x5_J117 : Int32) (x4_J117 : Int32) (x3_J117 : Int32) (x2_J117 : Int32) (x1_J117 : Int32) (w_steps_numbers_J117 : Nat → Int32) (w_steps_length_J117 : Int32) (w_pieces_numbers_J117 : Nat → Int32) (w_pieces_length_J117 : Int32) (w_valueIn_J117 : Nat → Int32) (w_registerOf_J117 : Nat → Int32) (w_slotOf_J117 : Nat → Int32) (w_pieceOf_J117 : Nat → Int32) (w_upcoming_J117 : Nat → Int32) (w_slotTaken_J117 : Nat → Int32) (w_slotCount_J117 : Int32) : Option ((Nat → Int32) × Int32 × (Nat → Int32) × Int32 × (Nat → Int32) × (Nat → Int32) × (Nat → Int32) × (Nat → Int32) × (Nat → Int32) × (Nat → Int32) × Int32) :=
  (Option.bind (f_X1_kindOf x1_J117 w_code_kinds w_code_length) fun u126 =>
  (Option.bind (f_X3_append u126 x7_J117 x4_J117 x5_J117 960 w_steps_numbers_J117 240 w_steps_length_J117) fun u135 =>
  (Option.bind (f_X0_beginPiece x1_J117 x7_J117 u135.1 w_pieces_numbers_J117 w_pieces_length_J117 w_valueIn_J117 w_registerOf_J117 w_pieceOf_J117 w_registers) fun u146 =>
  f_X0_treat_J167 u135.1 x3_J117 x2_J117 u135.2.1 u135.2.2 u146.1 u146.2.1 u146.2.2.1 u146.2.2.2.1 w_slotOf_J117 u146.2.2.2.2 w_upcoming_J117 w_slotTaken_J117 w_slotCount_J117)))

noncomputable def f_X0_treat_J56 (w_code_kinds : Nat → Int32) (w_code_firsts : Nat → Int32) (w_code_seconds : Nat → Int32) (w_code_counting : Nat → Int32) (w_code_length : Int32) (w_registers : Int32) (x3_J56 : Int32) (x2_J56 : Int32) (x1_J56 : Int32) (w_steps_numbers_J56 : Nat → Int32) (w_steps_length_J56 : Int32) (w_pieces_numbers_J56 : Nat → Int32) (w_pieces_length_J56 : Int32) (w_valueIn_J56 : Nat → Int32) (w_registerOf_J56 : Nat → Int32) (w_slotOf_J56 : Nat → Int32) (w_pieceOf_J56 : Nat → Int32) (w_upcoming_J56 : Nat → Int32) (w_slotTaken_J56 : Nat → Int32) (w_slotCount_J56 : Int32) : Option ((Nat → Int32) × Int32 × (Nat → Int32) × Int32 × (Nat → Int32) × (Nat → Int32) × (Nat → Int32) × (Nat → Int32) × (Nat → Int32) × (Nat → Int32) × Int32) :=
  (Option.bind (f_X0_registerHolding x2_J56 w_registerOf_J56) fun u58 =>
  (Option.bind (f_X0_registerHolding x3_J56 w_registerOf_J56) fun u65 =>
  (Option.bind (f_X0_moveToNextUse x2_J56 x1_J56 w_code_firsts w_code_seconds w_code_counting w_code_length w_valueIn_J56 w_registerOf_J56 w_slotOf_J56 w_upcoming_J56 w_slotTaken_J56 w_registers) fun u73 =>
  (Option.bind (f_X0_moveToNextUse x3_J56 x1_J56 w_code_firsts w_code_seconds w_code_counting w_code_length u73.1 u73.2.1 u73.2.2.1 u73.2.2.2.1 u73.2.2.2.2 w_registers) fun u79 =>
  (Option.bind (f_X1_hasValue x1_J56 w_code_kinds w_code_length) fun u87 =>
  (if u87 = 0 then
    (Option.bind (f_X3_append 6 u58 (-1) (-1) 960 w_steps_numbers_J56 240 w_steps_length_J56) fun u162 =>
    f_X0_treat_J167 u162.1 x3_J56 x2_J56 u162.2.1 u162.2.2 w_pieces_numbers_J56 w_pieces_length_J56 u79.1 u79.2.1 u79.2.2.1 w_pieceOf_J56 u79.2.2.2.1 u79.2.2.2.2 w_slotCount_J56)
  else
    (Option.bind (f_X0_registerJustLeft u58 u65 u79.1 w_registers) fun u98 =>
    (if u98 = (-1) then
      (Option.bind (f_X0_getRegister (-1) (-1) w_code_kinds w_code_length w_steps_numbers_J56 w_steps_length_J56 w_pieces_numbers_J56 w_pieces_length_J56 u79.1 u79.2.1 u79.2.2.1 w_pieceOf_J56 u79.2.2.2.1 u79.2.2.2.2 w_registers w_slotCount_J56) fun u112 =>
      f_X0_treat_J117 w_code_kinds w_code_length w_registers u112.1 u65 u58 x3_J56 x2_J56 x1_J56 u112.2.1 u112.2.2.1 u112.2.2.2.1 w_pieces_length_J56 u112.2.2.2.2.1 u112.2.2.2.2.2.1 u112.2.2.2.2.2.2.1 w_pieceOf_J56 u79.2.2.2.1 u112.2.2.2.2.2.2.2.1 u112.2.2.2.2.2.2.2.2)
    else
      f_X0_treat_J117 w_code_kinds w_code_length w_registers u98 u65 u58 x3_J56 x2_J56 x1_J56 w_steps_numbers_J56 w_steps_length_J56 w_pieces_numbers_J56 w_pieces_length_J56 u79.1 u79.2.1 u79.2.2.1 w_pieceOf_J56 u79.2.2.2.1 u79.2.2.2.2 w_slotCount_J56))))))))

noncomputable def f_X0_treat_J37 (w_code_kinds : Nat → Int32) (w_code_firsts : Nat → Int32) (w_code_seconds : Nat → Int32) (w_code_ints : Nat → Int32) (w_code_counting : Nat → Int32) (w_code_length : Int32) (w_registers : Int32) (x3_J37 : Int32) (x2_J37 : Int32) (x1_J37 : Int32) (w_steps_numbers_J37 : Nat → Int32) (w_steps_length_J37 : Int32) (w_pieces_numbers_J37 : Nat → Int32) (w_pieces_length_J37 : Int32) (w_valueIn_J37 : Nat → Int32) (w_registerOf_J37 : Nat → Int32) (w_slotOf_J37 : Nat → Int32) (w_pieceOf_J37 : Nat → Int32) (w_upcoming_J37 : Nat → Int32) (w_slotTaken_J37 : Nat → Int32) (w_slotCount_J37 : Int32) : Option ((Nat → Int32) × Int32 × (Nat → Int32) × Int32 × (Nat → Int32) × (Nat → Int32) × (Nat → Int32) × (Nat → Int32) × (Nat → Int32) × (Nat → Int32) × Int32) :=
  (Option.bind (f_X0_isMissing x3_J37 w_registerOf_J37) fun u39 =>
  (if u39 = 0 then
    f_X0_treat_J56 w_code_kinds w_code_firsts w_code_seconds w_code_counting w_code_length w_registers x3_J37 x2_J37 x1_J37 w_steps_numbers_J37 w_steps_length_J37 w_pieces_numbers_J37 w_pieces_length_J37 w_valueIn_J37 w_registerOf_J37 w_slotOf_J37 w_pieceOf_J37 w_upcoming_J37 w_slotTaken_J37 w_slotCount_J37
  else
    (Option.bind (f_X0_getRegister x2_J37 x3_J37 w_code_kinds w_code_length w_steps_numbers_J37 w_steps_length_J37 w_pieces_numbers_J37 w_pieces_length_J37 w_valueIn_J37 w_registerOf_J37 w_slotOf_J37 w_pieceOf_J37 w_upcoming_J37 w_slotTaken_J37 w_registers w_slotCount_J37) fun u50 =>
    (Option.bind (f_X0_fetch x3_J37 u50.1 w_code_kinds w_code_ints w_code_length u50.2.1 u50.2.2.1 u50.2.2.2.1 w_pieces_length_J37 u50.2.2.2.2.1 u50.2.2.2.2.2.1 u50.2.2.2.2.2.2.1 w_pieceOf_J37 w_registers) fun u53 =>
    f_X0_treat_J56 w_code_kinds w_code_firsts w_code_seconds w_code_counting w_code_length w_registers x3_J37 x2_J37 x1_J37 u53.1 u53.2.1 u53.2.2.1 u53.2.2.2.1 u53.2.2.2.2.1 u53.2.2.2.2.2.1 u50.2.2.2.2.2.2.1 u53.2.2.2.2.2.2 w_upcoming_J37 u50.2.2.2.2.2.2.2.1 u50.2.2.2.2.2.2.2.2))))

noncomputable def f_X0_treat (p1 : Int32) (w_code_kinds : Nat → Int32) (w_code_firsts : Nat → Int32) (w_code_seconds : Nat → Int32) (w_code_ints : Nat → Int32) (w_code_counting : Nat → Int32) (w_code_length : Int32) (w_steps_numbers : Nat → Int32) (w_steps_length : Int32) (w_pieces_numbers : Nat → Int32) (w_pieces_length : Int32) (w_valueIn : Nat → Int32) (w_registerOf : Nat → Int32) (w_slotOf : Nat → Int32) (w_pieceOf : Nat → Int32) (w_upcoming : Nat → Int32) (w_slotTaken : Nat → Int32) (w_registers : Int32) (w_slotCount : Int32) : Option ((Nat → Int32) × Int32 × (Nat → Int32) × Int32 × (Nat → Int32) × (Nat → Int32) × (Nat → Int32) × (Nat → Int32) × (Nat → Int32) × (Nat → Int32) × Int32) :=
  (Option.bind (f_X1_firstOf p1 w_code_firsts w_code_length) fun u5 =>
  (Option.bind (f_X1_secondOf p1 w_code_seconds w_code_length) fun u14 =>
  (Option.bind (f_X0_isMissing u5 w_registerOf) fun u20 =>
  (if u20 = 0 then
    f_X0_treat_J37 w_code_kinds w_code_firsts w_code_seconds w_code_ints w_code_counting w_code_length w_registers u14 u5 p1 w_steps_numbers w_steps_length w_pieces_numbers w_pieces_length w_valueIn w_registerOf w_slotOf w_pieceOf w_upcoming w_slotTaken w_slotCount
  else
    (Option.bind (f_X0_getRegister u5 u14 w_code_kinds w_code_length w_steps_numbers w_steps_length w_pieces_numbers w_pieces_length w_valueIn w_registerOf w_slotOf w_pieceOf w_upcoming w_slotTaken w_registers w_slotCount) fun u31 =>
    (Option.bind (f_X0_fetch u5 u31.1 w_code_kinds w_code_ints w_code_length u31.2.1 u31.2.2.1 u31.2.2.2.1 w_pieces_length u31.2.2.2.2.1 u31.2.2.2.2.2.1 u31.2.2.2.2.2.2.1 w_pieceOf w_registers) fun u34 =>
    f_X0_treat_J37 w_code_kinds w_code_firsts w_code_seconds w_code_ints w_code_counting w_code_length w_registers u14 u5 p1 u34.1 u34.2.1 u34.2.2.1 u34.2.2.2.1 u34.2.2.2.2.1 u34.2.2.2.2.2.1 u31.2.2.2.2.2.2.1 u34.2.2.2.2.2.2 w_upcoming u31.2.2.2.2.2.2.2.1 u31.2.2.2.2.2.2.2.2))))))

noncomputable def f_X0_make_L7 (w_code_kinds : Nat → Int32) (w_code_firsts : Nat → Int32) (w_code_seconds : Nat → Int32) (w_code_ints : Nat → Int32) (w_code_counting : Nat → Int32) (w_code_length : Int32) (u2_8 : Int32) : Nat → Int32 → (Nat → Int32) → Int32 → (Nat → Int32) → Int32 → (Nat → Int32) → (Nat → Int32) → (Nat → Int32) → (Nat → Int32) → (Nat → Int32) → (Nat → Int32) → Int32 → Option ((Nat → Int32) × Int32 × (Nat → Int32) × Int32 × (Nat → Int32) × (Nat → Int32) × (Nat → Int32) × (Nat → Int32) × (Nat → Int32) × (Nat → Int32) × Int32)
  | 0, _, _, _, _, _, _, _, _, _, _, _, _ => none
  | n + 1, x2_L7, w_steps_numbers_L7, w_steps_length_L7, w_pieces_numbers_L7, w_pieces_length_L7, w_valueIn_L7, w_registerOf_L7, w_slotOf_L7, w_pieceOf_L7, w_upcoming_L7, w_slotTaken_L7, w_slotCount_L7 =>
    (Option.bind (f_X1_length w_code_length) fun u12 =>
    (if u12 ≤ x2_L7 then
      some (w_steps_numbers_L7, w_steps_length_L7, w_pieces_numbers_L7, w_pieces_length_L7, w_valueIn_L7, w_registerOf_L7, w_slotOf_L7, w_pieceOf_L7, w_upcoming_L7, w_slotTaken_L7, w_slotCount_L7)
    else
      (Option.bind (f_X1_isCounting x2_L7 w_code_counting w_code_length) fun u23 =>
      (if u23 = 0 then
        f_X0_make_L7 w_code_kinds w_code_firsts w_code_seconds w_code_ints w_code_counting w_code_length u2_8 n (x2_L7 + 1) w_steps_numbers_L7 w_steps_length_L7 w_pieces_numbers_L7 w_pieces_length_L7 w_valueIn_L7 w_registerOf_L7 w_slotOf_L7 w_pieceOf_L7 w_upcoming_L7 w_slotTaken_L7 w_slotCount_L7
      else
        (Option.bind (f_X1_isConst x2_L7 w_code_kinds w_code_length) fun u34 =>
        (if u34 = 0 then
          (Option.bind (f_X0_treat x2_L7 w_code_kinds w_code_firsts w_code_seconds w_code_ints w_code_counting w_code_length w_steps_numbers_L7 w_steps_length_L7 w_pieces_numbers_L7 w_pieces_length_L7 w_valueIn_L7 w_registerOf_L7 w_slotOf_L7 w_pieceOf_L7 w_upcoming_L7 w_slotTaken_L7 u2_8 w_slotCount_L7) fun u42 =>
          f_X0_make_L7 w_code_kinds w_code_firsts w_code_seconds w_code_ints w_code_counting w_code_length u2_8 n (x2_L7 + 1) u42.1 u42.2.1 u42.2.2.1 u42.2.2.2.1 u42.2.2.2.2.1 u42.2.2.2.2.2.1 u42.2.2.2.2.2.2.1 u42.2.2.2.2.2.2.2.1 u42.2.2.2.2.2.2.2.2.1 u42.2.2.2.2.2.2.2.2.2.1 u42.2.2.2.2.2.2.2.2.2.2)
        else
          f_X0_make_L7 w_code_kinds w_code_firsts w_code_seconds w_code_ints w_code_counting w_code_length u2_8 n (x2_L7 + 1) w_steps_numbers_L7 w_steps_length_L7 w_pieces_numbers_L7 w_pieces_length_L7 w_valueIn_L7 w_registerOf_L7 w_slotOf_L7 w_pieceOf_L7 w_upcoming_L7 w_slotTaken_L7 w_slotCount_L7))))))

noncomputable def f_X0_make (p1 : Int32) (w_code_kinds : Nat → Int32) (w_code_firsts : Nat → Int32) (w_code_seconds : Nat → Int32) (w_code_ints : Nat → Int32) (w_code_counting : Nat → Int32) (w_code_length : Int32) (w_steps_numbers : Nat → Int32) (w_pieces_numbers : Nat → Int32) (w_valueIn : Nat → Int32) (w_registerOf : Nat → Int32) (w_slotOf : Nat → Int32) (w_pieceOf : Nat → Int32) (w_upcoming : Nat → Int32) (w_slotTaken : Nat → Int32) : Option ((Nat → Int32) × Int32 × (Nat → Int32) × Int32 × (Nat → Int32) × (Nat → Int32) × (Nat → Int32) × (Nat → Int32) × (Nat → Int32) × (Nat → Int32) × Int32 × Int32) :=
  (Option.bind (f_X0_clear p1 w_code_firsts w_code_seconds w_code_counting w_code_length w_valueIn w_registerOf w_slotOf w_pieceOf w_upcoming w_slotTaken) fun u2 =>
  (Option.bind (f_X0_make_L7 w_code_kinds w_code_firsts w_code_seconds w_code_ints w_code_counting w_code_length u2.2.2.2.2.2.2.2.2.1 4000 0 w_steps_numbers u2.1 w_pieces_numbers u2.2.1 u2.2.2.1 u2.2.2.2.1 u2.2.2.2.2.1 u2.2.2.2.2.2.1 u2.2.2.2.2.2.2.1 u2.2.2.2.2.2.2.2.1 u2.2.2.2.2.2.2.2.2.2) fun v7 =>
    some (v7.1, v7.2.1, v7.2.2.1, v7.2.2.2.1, v7.2.2.2.2.1, v7.2.2.2.2.2.1, v7.2.2.2.2.2.2.1, v7.2.2.2.2.2.2.2.1, v7.2.2.2.2.2.2.2.2.1, v7.2.2.2.2.2.2.2.2.2.1, u2.2.2.2.2.2.2.2.2.1, v7.2.2.2.2.2.2.2.2.2.2)))

/-! ===== machine ===== -/
noncomputable def f_X2_outputCount (w_outputCount : Int32) : Option (Int32) :=
  some w_outputCount

noncomputable def f_X2_outputAt (p1 : Int32) (w_outputs : Nat → Int32) (w_outputCount : Int32) : Option (Int32) :=
  (if p1 < 0 then
    some 0
  else
    (if w_outputCount ≤ p1 then
      some 0
    else
      (rdc p1 60
      (some (w_outputs p1.toNatClampNeg)))))

noncomputable def f_X2_setRegister (p1 : Int32) (p2 : Int32) (w_registers : Nat → Int32) : Option ((Nat → Int32)) :=
  (if p1 < 0 then
    some w_registers
  else
    (if 8 ≤ p1 then
      some w_registers
    else
      (rdc p1 8
      (some (upd w_registers p1.toNatClampNeg p2)))))

noncomputable def f_X2_inRegister (p1 : Int32) (w_registers : Nat → Int32) : Option (Int32) :=
  (if p1 < 0 then
    some 0
  else
    (if 8 ≤ p1 then
      some 0
    else
      (rdc p1 8
      (some (w_registers p1.toNatClampNeg)))))

noncomputable def f_X2_write (p1 : Int32) (w_outputs : Nat → Int32) (w_outputCount : Int32) : Option ((Nat → Int32) × Int32) :=
  (if w_outputCount < 0 then
    some (w_outputs, w_outputCount)
  else
    (if 60 ≤ w_outputCount then
      some (w_outputs, w_outputCount)
    else
      (rdc w_outputCount 60
      (some ((upd w_outputs w_outputCount.toNatClampNeg p1), (w_outputCount + 1))))))

noncomputable def f_X2_inSlot (p1 : Int32) (w_slots : Nat → Int32) : Option (Int32) :=
  (if p1 < 0 then
    some 0
  else
    (if 60 ≤ p1 then
      some 0
    else
      (rdc p1 60
      (some (w_slots p1.toNatClampNeg)))))

noncomputable def f_X2_setSlot (p1 : Int32) (p2 : Int32) (w_slots : Nat → Int32) : Option ((Nat → Int32)) :=
  (if p1 < 0 then
    some w_slots
  else
    (if 60 ≤ p1 then
      some w_slots
    else
      (rdc p1 60
      (some (upd w_slots p1.toNatClampNeg p2)))))

noncomputable def f_X2_compute (p1 : Int32) (p2 : Int32) (p3 : Int32) : Option (Int32) :=
  (if p1 = 1 then
    some (p2 + p3)
  else
  (if p1 = 2 then
    some (p2 - p3)
  else
  (if p1 = 3 then
    some (p2 * p3)
  else
    some (p2 ^^^ p3))))

noncomputable def f_X2_perform_J112 (x1_J112 : Int32) (x2_J112 : Int32) (x3_J112 : Int32) (x4_J112 : Int32) (w_registers_J112 : Nat → Int32) (w_slots_J112 : Nat → Int32) (w_outputs_J112 : Nat → Int32) (w_outputCount_J112 : Int32) : Option ((Nat → Int32) × (Nat → Int32) × (Nat → Int32) × Int32) :=
  (Option.bind (f_X2_inRegister x3_J112 w_registers_J112) fun u117 =>
  (Option.bind (f_X2_inRegister x4_J112 w_registers_J112) fun u123 =>
  (Option.bind (f_X2_compute x1_J112 u117 u123) fun u126 =>
  (Option.bind (f_X2_setRegister x2_J112 u126 w_registers_J112) fun u129 =>
  some (u129, w_slots_J112, w_outputs_J112, w_outputCount_J112)))))

noncomputable def f_X2_perform (p1 : Int32) (p2 : Int32) (p3 : Int32) (p4 : Int32) (w_registers : Nat → Int32) (w_slots : Nat → Int32) (w_outputs : Nat → Int32) (w_outputCount : Int32) : Option ((Nat → Int32) × (Nat → Int32) × (Nat → Int32) × Int32) :=
  (if p1 = 0 then
    (Option.bind (f_X2_setRegister p2 p3 w_registers) fun u55 =>
    some (u55, w_slots, w_outputs, w_outputCount))
  else
  (if p1 = 5 then
    (Option.bind (f_X2_inRegister p3 w_registers) fun u65 =>
    (Option.bind (f_X2_setRegister p2 u65 w_registers) fun u68 =>
    some (u68, w_slots, w_outputs, w_outputCount)))
  else
  (if p1 = 6 then
    (Option.bind (f_X2_inRegister p2 w_registers) fun u77 =>
    (Option.bind (f_X2_write u77 w_outputs w_outputCount) fun u80 =>
    some (w_registers, w_slots, u80.1, u80.2)))
  else
  (if p1 = 7 then
    (Option.bind (f_X2_inSlot p3 w_slots) fun u90 =>
    (Option.bind (f_X2_setRegister p2 u90 w_registers) fun u93 =>
    some (u93, w_slots, w_outputs, w_outputCount)))
  else
  (if p1 = 8 then
    (Option.bind (f_X2_inRegister p2 w_registers) fun u103 =>
    (Option.bind (f_X2_setSlot p3 u103 w_slots) fun u106 =>
    some (w_registers, u106, w_outputs, w_outputCount)))
  else
    f_X2_perform_J112 p1 p2 p3 p4 w_registers w_slots w_outputs w_outputCount)))))

noncomputable def f_X2_execute_L2  : Nat → Int32 → (Nat → Int32) → Option ((Nat → Int32))
  | 0, _, _ => none
  | n + 1, x2_L2, w_registers_L2 =>
    (if 8 ≤ x2_L2 then
      some w_registers_L2
    else
      (rdc x2_L2 8
      (f_X2_execute_L2 n (x2_L2 + 1) (upd w_registers_L2 x2_L2.toNatClampNeg 0))))

noncomputable def f_X2_execute_L23  : Nat → Int32 → (Nat → Int32) → Option ((Nat → Int32))
  | 0, _, _ => none
  | n + 1, x2_L23, w_slots_L23 =>
    (if 60 ≤ x2_L23 then
      some w_slots_L23
    else
      (rdc x2_L23 60
      (f_X2_execute_L23 n (x2_L23 + 1) (upd w_slots_L23 x2_L23.toNatClampNeg 0))))

noncomputable def f_X2_execute_L49 (rN : Nat) (w_r_numbers : Nat → Int32) (w_r_length : Int32) : Nat → Int32 → (Nat → Int32) → (Nat → Int32) → (Nat → Int32) → Int32 → Option ((Nat → Int32) × (Nat → Int32) × (Nat → Int32) × Int32)
  | 0, _, _, _, _, _ => none
  | n + 1, x2_L49, w_registers_L49, w_slots_L49, w_outputs_L49, w_outputCount_L49 =>
    (Option.bind (f_X3_length w_r_length) fun u51 =>
    (if u51 ≤ x2_L49 then
      some (w_registers_L49, w_slots_L49, w_outputs_L49, w_outputCount_L49)
    else
      (Option.bind (f_X3_at x2_L49 0 rN w_r_numbers w_r_length) fun u61 =>
      (Option.bind (f_X3_at x2_L49 1 rN w_r_numbers w_r_length) fun u67 =>
      (Option.bind (f_X3_at x2_L49 2 rN w_r_numbers w_r_length) fun u73 =>
      (Option.bind (f_X3_at x2_L49 3 rN w_r_numbers w_r_length) fun u79 =>
      (Option.bind (f_X2_perform u61 u67 u73 u79 w_registers_L49 w_slots_L49 w_outputs_L49 w_outputCount_L49) fun u82 =>
      f_X2_execute_L49 rN w_r_numbers w_r_length n (x2_L49 + 1) u82.1 u82.2.1 u82.2.2.1 u82.2.2.2)))))))

noncomputable def f_X2_execute (w_registers : Nat → Int32) (w_slots : Nat → Int32) (w_outputs : Nat → Int32) (rN : Nat) (w_r_numbers : Nat → Int32) (w_r_length : Int32) : Option ((Nat → Int32) × (Nat → Int32) × (Nat → Int32) × Int32) :=
  (Option.bind (f_X2_execute_L2 4000 0 w_registers) fun v2 =>
    (Option.bind (f_X2_execute_L23 4000 0 w_slots) fun v23 =>
      (Option.bind (f_X2_execute_L49 rN w_r_numbers w_r_length 4000 0 v2 v23 w_outputs 0) fun v49 =>
        some (v49.1, v49.2.1, v49.2.2.1, v49.2.2.2))))
