/-! ===== face ===== -/
noncomputable def f_X4_refuseFullCode (w_code_length : Int32) : Option (Unit) :=
  (Option.bind (f_X1_isFull w_code_length) fun u4 =>
  (if u4 = 0 then
    some ()
  else
    none))

noncomputable def f_X4_append (p1 : Int32) (p2 : Int32) (p3 : Int32) (p4 : Int32) (w_code_kinds : Nat → Int32) (w_code_firsts : Nat → Int32) (w_code_seconds : Nat → Int32) (w_code_ints : Nat → Int32) (w_code_counting : Nat → Int32) (w_code_length : Int32) : Option (Int32 × (Nat → Int32) × (Nat → Int32) × (Nat → Int32) × (Nat → Int32) × (Nat → Int32) × Int32 × Int32) :=
  (Option.bind (f_X1_append p1 p2 p3 p4 w_code_kinds w_code_firsts w_code_seconds w_code_ints w_code_counting w_code_length) fun u14 =>
  some (u14.1, u14.2.1, u14.2.2.1, u14.2.2.2.1, u14.2.2.2.2.1, u14.2.2.2.2.2.1, u14.2.2.2.2.2.2, 0))

noncomputable def f_X4_constant (p1 : Int32) (w_code_kinds : Nat → Int32) (w_code_firsts : Nat → Int32) (w_code_seconds : Nat → Int32) (w_code_ints : Nat → Int32) (w_code_counting : Nat → Int32) (w_code_length : Int32) : Option (Int32 × (Nat → Int32) × (Nat → Int32) × (Nat → Int32) × (Nat → Int32) × (Nat → Int32) × Int32 × Int32) :=
  (Option.bind (f_X4_refuseFullCode w_code_length) fun u1 =>
  (Option.bind (f_X4_append 0 (-1) (-1) p1 w_code_kinds w_code_firsts w_code_seconds w_code_ints w_code_counting w_code_length) fun u9 =>
  some (u9.1, u9.2.1, u9.2.2.1, u9.2.2.2.1, u9.2.2.2.2.1, u9.2.2.2.2.2.1, u9.2.2.2.2.2.2.1, u9.2.2.2.2.2.2.2)))

noncomputable def f_X4_refuseNoValue (p1 : Int32) (w_code_kinds : Nat → Int32) (w_code_length : Int32) : Option (Unit) :=
  (Option.bind (f_X1_hasValue p1 w_code_kinds w_code_length) fun u5 =>
  (if u5 = 0 then
    none
  else
    some ()))

noncomputable def f_X4_refuseKindOutside (p1 : Int32) (p2 : Int32) (p3 : Int32) : Option (Unit) :=
  (if p1 < p2 then
    none
  else
    (if p1 ≤ p3 then
      some ()
    else
      none))

noncomputable def f_X4_operate (p1 : Int32) (p2 : Int32) (p3 : Int32) (w_code_kinds : Nat → Int32) (w_code_firsts : Nat → Int32) (w_code_seconds : Nat → Int32) (w_code_ints : Nat → Int32) (w_code_counting : Nat → Int32) (w_code_length : Int32) : Option (Int32 × (Nat → Int32) × (Nat → Int32) × (Nat → Int32) × (Nat → Int32) × (Nat → Int32) × Int32 × Int32) :=
  (Option.bind (f_X4_refuseNoValue p2 w_code_kinds w_code_length) fun u2 =>
  (Option.bind (f_X4_refuseNoValue p3 w_code_kinds w_code_length) fun u7 =>
  (Option.bind (f_X4_refuseKindOutside p1 1 4) fun u13 =>
  (Option.bind (f_X4_refuseFullCode w_code_length) fun u17 =>
  (Option.bind (f_X4_append p1 p2 p3 0 w_code_kinds w_code_firsts w_code_seconds w_code_ints w_code_counting w_code_length) fun u25 =>
  some (u25.1, u25.2.1, u25.2.2.1, u25.2.2.2.1, u25.2.2.2.2.1, u25.2.2.2.2.2.1, u25.2.2.2.2.2.2.1, u25.2.2.2.2.2.2.2))))))

noncomputable def f_X4_pass (p1 : Int32) (p2 : Int32) (w_code_kinds : Nat → Int32) (w_code_firsts : Nat → Int32) (w_code_seconds : Nat → Int32) (w_code_ints : Nat → Int32) (w_code_counting : Nat → Int32) (w_code_length : Int32) : Option (Int32 × (Nat → Int32) × (Nat → Int32) × (Nat → Int32) × (Nat → Int32) × (Nat → Int32) × Int32 × Int32) :=
  (Option.bind (f_X4_refuseNoValue p2 w_code_kinds w_code_length) fun u2 =>
  (Option.bind (f_X4_refuseKindOutside p1 5 6) fun u9 =>
  (Option.bind (f_X4_refuseFullCode w_code_length) fun u13 =>
  (Option.bind (f_X4_append p1 p2 (-1) 0 w_code_kinds w_code_firsts w_code_seconds w_code_ints w_code_counting w_code_length) fun u21 =>
  some (u21.1, u21.2.1, u21.2.2.1, u21.2.2.2.1, u21.2.2.2.2.1, u21.2.2.2.2.2.1, u21.2.2.2.2.2.2.1, u21.2.2.2.2.2.2.2)))))

noncomputable def f_X4_size (w_code_length : Int32) : Option (Int32) :=
  (Option.bind (f_X1_length w_code_length) fun u4 =>
  some u4)

noncomputable def f_X4_refuseNoInstruction (p1 : Int32) (w_code_length : Int32) : Option (Unit) :=
  (Option.bind (f_X1_has p1 w_code_length) fun u5 =>
  (if u5 = 0 then
    none
  else
    some ()))

noncomputable def f_X4_kind (p1 : Int32) (w_code_kinds : Nat → Int32) (w_code_length : Int32) : Option (Int32) :=
  (Option.bind (f_X4_refuseNoInstruction p1 w_code_length) fun u2 =>
  (Option.bind (f_X1_kindOf p1 w_code_kinds w_code_length) fun u10 =>
  some u10))

noncomputable def f_X4_setRegisters (p1 : Int32) (w_registers : Int32) : Option (Int32 × Int32 × Int32) :=
  (if p1 < 2 then
    none
  else
    (if p1 ≤ 8 then
      some (w_registers, p1, 0)
    else
      none))

noncomputable def f_X4_allocate (w_code_kinds : Nat → Int32) (w_code_firsts : Nat → Int32) (w_code_seconds : Nat → Int32) (w_code_ints : Nat → Int32) (w_code_counting : Nat → Int32) (w_code_length : Int32) (w_present_steps_numbers : Nat → Int32) (w_present_pieces_numbers : Nat → Int32) (w_present_valueIn : Nat → Int32) (w_present_registerOf : Nat → Int32) (w_present_slotOf : Nat → Int32) (w_present_pieceOf : Nat → Int32) (w_present_upcoming : Nat → Int32) (w_present_slotTaken : Nat → Int32) (w_registers : Int32) : Option (Int32 × (Nat → Int32) × Int32 × (Nat → Int32) × Int32 × (Nat → Int32) × (Nat → Int32) × (Nat → Int32) × (Nat → Int32) × (Nat → Int32) × (Nat → Int32) × Int32 × Int32 × Int32) :=
  (Option.bind (f_X0_make w_registers w_code_kinds w_code_firsts w_code_seconds w_code_ints w_code_counting w_code_length w_present_steps_numbers w_present_pieces_numbers w_present_valueIn w_present_registerOf w_present_slotOf w_present_pieceOf w_present_upcoming w_present_slotTaken) fun u8 =>
  (Option.bind (f_X3_length u8.2.1) fun u23 =>
  some (u23, u8.1, u8.2.1, u8.2.2.1, u8.2.2.2.1, u8.2.2.2.2.1, u8.2.2.2.2.2.1, u8.2.2.2.2.2.2.1, u8.2.2.2.2.2.2.2.1, u8.2.2.2.2.2.2.2.2.1, u8.2.2.2.2.2.2.2.2.2.1, u8.2.2.2.2.2.2.2.2.2.2.1, u8.2.2.2.2.2.2.2.2.2.2.2, 1)))

noncomputable def f_X4_refuseNoAllocation (w_allocated : Int32) : Option (Unit) :=
  (if w_allocated = 0 then
    none
  else
    some ())

noncomputable def f_X4_numberIn (p2 : Int32) (p3 : Int32) (rN : Nat) (w_r_numbers : Nat → Int32) (w_r_length : Int32) : Option (Int32) :=
  (Option.bind (f_X3_has p2 p3 w_r_length) fun u3 =>
  (if u3 = 0 then
    none
  else
    (Option.bind (f_X3_at p2 p3 rN w_r_numbers w_r_length) fun u22 =>
    some u22)))

noncomputable def f_X4_step (p1 : Int32) (p2 : Int32) (w_present_steps_numbers : Nat → Int32) (w_present_steps_length : Int32) (w_allocated : Int32) : Option (Int32) :=
  (Option.bind (f_X4_refuseNoAllocation w_allocated) fun u1 =>
  (Option.bind (f_X4_numberIn p1 p2 960 w_present_steps_numbers w_present_steps_length) fun u13 =>
  some u13))

noncomputable def f_X4_stepCount (p1 : Int32) (w_present_steps_numbers : Nat → Int32) (w_present_steps_length : Int32) (w_allocated : Int32) : Option (Int32) :=
  (Option.bind (f_X4_refuseNoAllocation w_allocated) fun u1 =>
  (if p1 < 0 then
    none
  else
    (if p1 ≤ 8 then
      (Option.bind (f_X3_countOfFirst p1 960 w_present_steps_numbers w_present_steps_length) fun u32 =>
      some u32)
    else
      none)))

noncomputable def f_X4_slots (w_present_slotCount : Int32) (w_allocated : Int32) : Option (Int32) :=
  (Option.bind (f_X4_refuseNoAllocation w_allocated) fun u1 =>
  (Option.bind (f_X0_slotCount w_present_slotCount) fun u8 =>
  some u8))

noncomputable def f_X4_pieceCount (w_present_pieces_length : Int32) (w_allocated : Int32) : Option (Int32) :=
  (Option.bind (f_X4_refuseNoAllocation w_allocated) fun u1 =>
  (Option.bind (f_X3_length w_present_pieces_length) fun u11 =>
  some u11))

noncomputable def f_X4_piece (p1 : Int32) (p2 : Int32) (w_present_pieces_numbers : Nat → Int32) (w_present_pieces_length : Int32) (w_allocated : Int32) : Option (Int32) :=
  (Option.bind (f_X4_refuseNoAllocation w_allocated) fun u1 =>
  (Option.bind (f_X4_numberIn p1 p2 720 w_present_pieces_numbers w_present_pieces_length) fun u13 =>
  some u13))

noncomputable def f_X4_run (w_present_steps_numbers : Nat → Int32) (w_present_steps_length : Int32) (w_machine_registers : Nat → Int32) (w_machine_slots : Nat → Int32) (w_machine_outputs : Nat → Int32) (w_allocated : Int32) : Option (Int32 × (Nat → Int32) × (Nat → Int32) × (Nat → Int32) × Int32) :=
  (Option.bind (f_X4_refuseNoAllocation w_allocated) fun u1 =>
  (Option.bind (f_X2_execute w_machine_registers w_machine_slots w_machine_outputs 960 w_present_steps_numbers w_present_steps_length) fun u15 =>
  (Option.bind (f_X2_outputCount u15.2.2.2) fun u22 =>
  some (u22, u15.1, u15.2.1, u15.2.2.1, u15.2.2.2))))

noncomputable def f_X4_output (p1 : Int32) (w_machine_outputs : Nat → Int32) (w_machine_outputCount : Int32) : Option (Int32) :=
  (if p1 < 0 then
    none
  else
    (Option.bind (f_X2_outputCount w_machine_outputCount) fun u9 =>
    (if p1 < u9 then
      (Option.bind (f_X2_outputAt p1 w_machine_outputs w_machine_outputCount) fun u30 =>
      some u30)
    else
      none)))
