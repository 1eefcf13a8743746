/-! ===== face ===== -/
noncomputable def f_X4_refuseFullCode (w_code_length : Int32) : Option (Unit) :=
  (Option.bind (f_X1_isFull w_code_length) fun u4 =>
  (if u4 = 0 then
    some ()
  else
    none))

noncomputable def f_X4_append (p1 : Int32) (p2 : Int32) (p3 : Int32) (p4 : Int32) (w_code_kinds : Nat → Int32) (w_code_firsts : Nat → Int32) (w_code_seconds : Nat → Int32) (w_code_ints : Nat → Int32) (w_code_counting : Nat → Int32) (w_code_length : Int32) : Option (Int32 × (Nat → Int32) × (Nat → Int32) × (Nat → Int32) × (Nat → Int32) × (Nat → Int32) × Int32 × Int32) :=
  (Option.bind (f_X1_append p1 p2 p3 p4 w_code_kinds w_code_firsts w_code_seconds w_code_ints w_code_counting w_code_length) fun u14 =>
  some (u14.1, u14.2.1, u14.2.2.1, u14.2.2.2.1, u14.2.2.2.2.1, u14.2.2.2.2.2.1, u14.2.2.2.2.2.2, 0))

noncomputable def f_X4_constant (p1 : Int32) (w_code_kinds : Nat → Int32) (w_code_firsts : Nat → Int32) (w_code_seconds : Nat → Int32) (w_code_ints : Nat → Int32) (w_code_counting : Nat → Int32) (w_code_length : Int32) : Option (Int32 × (Nat → Int32) × (Nat → Int32) × (Nat → Int32) × (Nat → Int32) × (Nat → Int32) × Int32 × Int32) :=
  (Option.bind (f_X4_refuseFullCode w_code_length) fun u1 =>
  (Option.bind (f_X4_append 0 (-1) (-1) p1 w_code_kinds w_code_firsts w_code_seconds w_code_ints w_code_counting w_code_length) fun u9 =>
  some (u9.1, u9.2.1, u9.2.2.1, u9.2.2.2.1, u9.2.2.2.2.1, u9.2.2.2.2.2.1, u9.2.2.2.2.2.2.1, u9.2.2.2.2.2.2.2)))

noncomputable def f_X4_refuseNoValue (p1 : Int32) (w_code_kinds : Nat → Int32) (w_code_length : Int32) : Option (Unit) :=
  (Option.bind (f_X1_hasValue p1 w_code_kinds w_code_length) fun u5 =>
  (if u5 = 0 then
    none
  else
    some ()))

noncomputable def f_X4_refuseKindOutside (p1 : Int32) (p2 : Int32) (p3 : Int32) : Option (Unit) :=
  (if p1 < p2 then
    none
  else
    (if p1 ≤ p3 then
      some ()
    else
      none))

noncomputable def f_X4_operate (p1 : Int32) (p2 : Int32) (p3 : Int32) (w_code_kinds : Nat → Int32) (w_code_firsts : Nat → Int32) (w_code_seconds : Nat → Int32) (w_code_ints : Nat → Int32) (w_code_counting : Nat → Int32) (w_code_length : Int32) : Option (Int32 × (Nat → Int32) × (Nat → Int32) × (Nat → Int32) × (Nat → Int32) × (Nat → Int32) × Int32 × Int32) :=
  (Option.bind (f_X4_refuseNoValue p2 w_code_kinds w_code_length) fun u2 =>
  (Option.bind (f_X4_refuseNoValue p3 w_code_kinds w_code_length) fun u7 =>
  (Option.bind (f_X4_refuseKindOutside p1 1 4) fun u13 =>
  (Option.bind (f_X4_refuseFullCode w_code_length) fun u17 =>
  (Option.bind (f_X4_append p1 p2 p3 0 w_code_kinds w_code_firsts w_code_seconds w_code_ints w_code_counting w_code_length) fun u25 =>
  some (u25.1, u25.2.1, u25.2.2.1, u25.2.2.2.1, u25.2.2.2.2.1, u25.2.2.2.2.2.1, u25.2.2.2.2.2.2.1, u25.2.2.2.2.2.2.2))))))

noncomputable def f_X4_pass (p1 : Int32) (p2 : Int32) (w_code_kinds : Nat → Int32) (w_code_firsts : Nat → Int32) (w_code_seconds : Nat → Int32) (w_code_ints : Nat → Int32) (w_code_counting : Nat → Int32) (w_code_length : Int32) : Option (Int32 × (Nat → Int32) × (Nat → Int32) × (Nat → Int32) × (Nat → Int32) × (Nat → Int32) × Int32 × Int32) :=
  (Option.bind (f_X4_refuseNoValue p2 w_code_kinds w_code_length) fun u2 =>
  (Option.bind (f_X4_refuseKindOutside p1 5 6) fun u9 =>
  (Option.bind (f_X4_refuseFullCode w_code_length) fun u13 =>
  (Option.bind (f_X4_append p1 p2 (-1) 0 w_code_kinds w_code_firsts w_code_seconds w_code_ints w_code_counting w_code_length) fun u21 =>
  some (u21.1, u21.2.1, u21.2.2.1, u21.2.2.2.1, u21.2.2.2.2.1, u21.2.2.2.2.2.1, u21.2.2.2.2.2.2.1, u21.2.2.2.2.2.2.2)))))

noncomputable def f_X4_refuseNoInstruction (p1 : Int32) (w_code_length : Int32) : Option (Unit) :=
  (Option.bind (f_X1_has p1 w_code_length) fun u5 =>
  (if u5 = 0 then
    none
  else
    some ()))

noncomputable def f_X4_change (p1 : Int32) (p2 : Int32) (w_code_kinds : Nat → Int32) (w_code_ints : Nat → Int32) (w_code_length : Int32) : Option (Int32 × (Nat → Int32) × Int32) :=
  (Option.bind (f_X4_refuseNoInstruction p1 w_code_length) fun u2 =>
  (Option.bind (f_X1_isConst p1 w_code_kinds w_code_length) fun u10 =>
  (if u10 = 0 then
    none
  else
    (Option.bind (f_X1_replaceInt p1 p2 w_code_ints w_code_length) fun u37 =>
    some (u37.1, u37.2, 0)))))

noncomputable def f_X4_cut (p1 : Int32) (w_code_kinds : Nat → Int32) (w_code_firsts : Nat → Int32) (w_code_seconds : Nat → Int32) (w_code_counting : Nat → Int32) (w_code_length : Int32) : Option (Int32 × (Nat → Int32) × Int32 × Int32) :=
  (if p1 < 0 then
    none
  else
    (Option.bind (f_X1_length w_code_length) fun u9 =>
    (if p1 ≤ u9 then
      (Option.bind (f_X1_removeLast p1 w_code_kinds w_code_firsts w_code_seconds w_code_counting w_code_length) fun u35 =>
      (Option.bind (f_X1_length u35.2) fun u42 =>
      some (u42, u35.1, u35.2, 0)))
    else
      none)))

noncomputable def f_X4_size (w_code_length : Int32) : Option (Int32) :=
  (Option.bind (f_X1_length w_code_length) fun u4 =>
  some u4)

noncomputable def f_X4_kind (p1 : Int32) (w_code_kinds : Nat → Int32) (w_code_length : Int32) : Option (Int32) :=
  (Option.bind (f_X4_refuseNoInstruction p1 w_code_length) fun u2 =>
  (Option.bind (f_X1_kindOf p1 w_code_kinds w_code_length) fun u10 =>
  some u10))

noncomputable def f_X4_counts (p1 : Int32) (w_code_counting : Nat → Int32) (w_code_length : Int32) : Option (Int32) :=
  (Option.bind (f_X4_refuseNoInstruction p1 w_code_length) fun u2 =>
  (Option.bind (f_X1_isCounting p1 w_code_counting w_code_length) fun u10 =>
  (zck u10
  (some u10))))

noncomputable def f_X4_nextUse (p1 : Int32) (p2 : Int32) (w_code_firsts : Nat → Int32) (w_code_seconds : Nat → Int32) (w_code_counting : Nat → Int32) (w_code_length : Int32) : Option (Int32) :=
  (Option.bind (f_X4_refuseNoInstruction p1 w_code_length) fun u2 =>
  (Option.bind (f_X1_firstUse p1 p2 w_code_firsts w_code_seconds w_code_counting w_code_length) fun u11 =>
  some u11))

noncomputable def f_X4_pressure (p1 : Int32) (w_code_firsts : Nat → Int32) (w_code_seconds : Nat → Int32) (w_code_counting : Nat → Int32) (w_code_length : Int32) : Option (Int32) :=
  (Option.bind (f_X4_refuseNoInstruction p1 w_code_length) fun u2 =>
  (Option.bind (f_X1_aliveBehind p1 w_code_firsts w_code_seconds w_code_counting w_code_length) fun u10 =>
  some u10))

noncomputable def f_X4_setRegisters (p1 : Int32) (w_registers : Int32) : Option (Int32 × Int32 × Int32) :=
  (if p1 < 2 then
    none
  else
    (if p1 ≤ 8 then
      some (w_registers, p1, 0)
    else
      none))

noncomputable def f_X4_allocate (w_code_kinds : Nat → Int32) (w_code_firsts : Nat → Int32) (w_code_seconds : Nat → Int32) (w_code_ints : Nat → Int32) (w_code_counting : Nat → Int32) (w_code_length : Int32) (w_present_steps_numbers : Nat → Int32) (w_present_pieces_numbers : Nat → Int32) (w_present_valueIn : Nat → Int32) (w_present_registerOf : Nat → Int32) (w_present_slotOf : Nat → Int32) (w_present_pieceOf : Nat → Int32) (w_present_upcoming : Nat → Int32) (w_present_slotTaken : Nat → Int32) (w_registers : Int32) : Option (Int32 × (Nat → Int32) × Int32 × (Nat → Int32) × Int32 × (Nat → Int32) × (Nat → Int32) × (Nat → Int32) × (Nat → Int32) × (Nat → Int32) × (Nat → Int32) × Int32 × Int32 × Int32) :=
  (Option.bind (f_X0_make w_registers w_code_kinds w_code_firsts w_code_seconds w_code_ints w_code_counting w_code_length w_present_steps_numbers w_present_pieces_numbers w_present_valueIn w_present_registerOf w_present_slotOf w_present_pieceOf w_present_upcoming w_present_slotTaken) fun u8 =>
  (Option.bind (f_X3_length u8.2.1) fun u23 =>
  some (u23, u8.1, u8.2.1, u8.2.2.1, u8.2.2.2.1, u8.2.2.2.2.1, u8.2.2.2.2.2.1, u8.2.2.2.2.2.2.1, u8.2.2.2.2.2.2.2.1, u8.2.2.2.2.2.2.2.2.1, u8.2.2.2.2.2.2.2.2.2.1, u8.2.2.2.2.2.2.2.2.2.2.1, u8.2.2.2.2.2.2.2.2.2.2.2, 1)))

noncomputable def f_X4_isAllocated (w_allocated : Int32) : Option (Int32) :=
  (zck w_allocated
  (some w_allocated))

noncomputable def f_X4_refuseNoAllocation (w_allocated : Int32) : Option (Unit) :=
  (if w_allocated = 0 then
    none
  else
    some ())

noncomputable def f_X4_numberIn (p2 : Int32) (p3 : Int32) (rN : Nat) (w_r_numbers : Nat → Int32) (w_r_length : Int32) : Option (Int32) :=
  (Option.bind (f_X3_has p2 p3 w_r_length) fun u3 =>
  (if u3 = 0 then
    none
  else
    (Option.bind (f_X3_at p2 p3 rN w_r_numbers w_r_length) fun u22 =>
    some u22)))

noncomputable def f_X4_step (p1 : Int32) (p2 : Int32) (w_present_steps_numbers : Nat → Int32) (w_present_steps_length : Int32) (w_allocated : Int32) : Option (Int32) :=
  (Option.bind (f_X4_refuseNoAllocation w_allocated) fun u1 =>
  (Option.bind (f_X4_numberIn p1 p2 960 w_present_steps_numbers w_present_steps_length) fun u13 =>
  some u13))

noncomputable def f_X4_stepCount (p1 : Int32) (w_present_steps_numbers : Nat → Int32) (w_present_steps_length : Int32) (w_allocated : Int32) : Option (Int32) :=
  (Option.bind (f_X4_refuseNoAllocation w_allocated) fun u1 =>
  (if p1 < 0 then
    none
  else
    (if p1 ≤ 8 then
      (Option.bind (f_X3_countOfFirst p1 960 w_present_steps_numbers w_present_steps_length) fun u32 =>
      some u32)
    else
      none)))

noncomputable def f_X4_slots (w_present_slotCount : Int32) (w_allocated : Int32) : Option (Int32) :=
  (Option.bind (f_X4_refuseNoAllocation w_allocated) fun u1 =>
  (Option.bind (f_X0_slotCount w_present_slotCount) fun u8 =>
  some u8))

noncomputable def f_X4_pieceCount (w_present_pieces_length : Int32) (w_allocated : Int32) : Option (Int32) :=
  (Option.bind (f_X4_refuseNoAllocation w_allocated) fun u1 =>
  (Option.bind (f_X3_length w_present_pieces_length) fun u11 =>
  some u11))

noncomputable def f_X4_piece (p1 : Int32) (p2 : Int32) (w_present_pieces_numbers : Nat → Int32) (w_present_pieces_length : Int32) (w_allocated : Int32) : Option (Int32) :=
  (Option.bind (f_X4_refuseNoAllocation w_allocated) fun u1 =>
  (Option.bind (f_X4_numberIn p1 p2 720 w_present_pieces_numbers w_present_pieces_length) fun u13 =>
  some u13))

noncomputable def f_X4_comfortable_L2 (w_code_kinds : Nat → Int32) (w_code_firsts : Nat → Int32) (w_code_seconds : Nat → Int32) (w_code_ints : Nat → Int32) (w_code_counting : Nat → Int32) (w_code_length : Int32) : Nat → Int32 → (Nat → Int32) → Int32 → (Nat → Int32) → Int32 → (Nat → Int32) → (Nat → Int32) → (Nat → Int32) → (Nat → Int32) → (Nat → Int32) → (Nat → Int32) → Int32 → Int32 → Option (Int32 × (Nat → Int32) × Int32 × (Nat → Int32) × Int32 × (Nat → Int32) × (Nat → Int32) × (Nat → Int32) × (Nat → Int32) × (Nat → Int32) × (Nat → Int32) × Int32 × Int32)
  | 0, _, _, _, _, _, _, _, _, _, _, _, _, _ => none
  | n + 1, x1_L2, w_trial_steps_numbers_L2, w_trial_steps_length_L2, w_trial_pieces_numbers_L2, w_trial_pieces_length_L2, w_trial_valueIn_L2, w_trial_registerOf_L2, w_trial_slotOf_L2, w_trial_pieceOf_L2, w_trial_upcoming_L2, w_trial_slotTaken_L2, w_trial_registers_L2, w_trial_slotCount_L2 =>
    (if 8 < x1_L2 then
      some ((-1), w_trial_steps_numbers_L2, w_trial_steps_length_L2, w_trial_pieces_numbers_L2, w_trial_pieces_length_L2, w_trial_valueIn_L2, w_trial_registerOf_L2, w_trial_slotOf_L2, w_trial_pieceOf_L2, w_trial_upcoming_L2, w_trial_slotTaken_L2, w_trial_registers_L2, w_trial_slotCount_L2)
    else
      (Option.bind (f_X0_make x1_L2 w_code_kinds w_code_firsts w_code_seconds w_code_ints w_code_counting w_code_length w_trial_steps_numbers_L2 w_trial_pieces_numbers_L2 w_trial_valueIn_L2 w_trial_registerOf_L2 w_trial_slotOf_L2 w_trial_pieceOf_L2 w_trial_upcoming_L2 w_trial_slotTaken_L2) fun u13 =>
      (Option.bind (f_X0_usesSlots u13.1 u13.2.1) fun u20 =>
      (if u20 = 0 then
        some (x1_L2, u13.1, u13.2.1, u13.2.2.1, u13.2.2.2.1, u13.2.2.2.2.1, u13.2.2.2.2.2.1, u13.2.2.2.2.2.2.1, u13.2.2.2.2.2.2.2.1, u13.2.2.2.2.2.2.2.2.1, u13.2.2.2.2.2.2.2.2.2.1, u13.2.2.2.2.2.2.2.2.2.2.1, u13.2.2.2.2.2.2.2.2.2.2.2)
      else
        f_X4_comfortable_L2 w_code_kinds w_code_firsts w_code_seconds w_code_ints w_code_counting w_code_length n (x1_L2 + 1) u13.1 u13.2.1 u13.2.2.1 u13.2.2.2.1 u13.2.2.2.2.1 u13.2.2.2.2.2.1 u13.2.2.2.2.2.2.1 u13.2.2.2.2.2.2.2.1 u13.2.2.2.2.2.2.2.2.1 u13.2.2.2.2.2.2.2.2.2.1 u13.2.2.2.2.2.2.2.2.2.2.1 u13.2.2.2.2.2.2.2.2.2.2.2))))

noncomputable def f_X4_comfortable (w_code_kinds : Nat → Int32) (w_code_firsts : Nat → Int32) (w_code_seconds : Nat → Int32) (w_code_ints : Nat → Int32) (w_code_counting : Nat → Int32) (w_code_length : Int32) (w_trial_steps_numbers : Nat → Int32) (w_trial_steps_length : Int32) (w_trial_pieces_numbers : Nat → Int32) (w_trial_pieces_length : Int32) (w_trial_valueIn : Nat → Int32) (w_trial_registerOf : Nat → Int32) (w_trial_slotOf : Nat → Int32) (w_trial_pieceOf : Nat → Int32) (w_trial_upcoming : Nat → Int32) (w_trial_slotTaken : Nat → Int32) (w_trial_registers : Int32) (w_trial_slotCount : Int32) : Option (Int32 × (Nat → Int32) × Int32 × (Nat → Int32) × Int32 × (Nat → Int32) × (Nat → Int32) × (Nat → Int32) × (Nat → Int32) × (Nat → Int32) × (Nat → Int32) × Int32 × Int32) :=
  f_X4_comfortable_L2 w_code_kinds w_code_firsts w_code_seconds w_code_ints w_code_counting w_code_length 4000 2 w_trial_steps_numbers w_trial_steps_length w_trial_pieces_numbers w_trial_pieces_length w_trial_valueIn w_trial_registerOf w_trial_slotOf w_trial_pieceOf w_trial_upcoming w_trial_slotTaken w_trial_registers w_trial_slotCount

noncomputable def f_X4_run (w_present_steps_numbers : Nat → Int32) (w_present_steps_length : Int32) (w_machine_registers : Nat → Int32) (w_machine_slots : Nat → Int32) (w_machine_outputs : Nat → Int32) (w_allocated : Int32) : Option (Int32 × (Nat → Int32) × (Nat → Int32) × (Nat → Int32) × Int32) :=
  (Option.bind (f_X4_refuseNoAllocation w_allocated) fun u1 =>
  (Option.bind (f_X2_execute w_machine_registers w_machine_slots w_machine_outputs 960 w_present_steps_numbers w_present_steps_length) fun u15 =>
  (Option.bind (f_X2_outputCount u15.2.2.2) fun u22 =>
  some (u22, u15.1, u15.2.1, u15.2.2.1, u15.2.2.2))))

noncomputable def f_X4_output (p1 : Int32) (w_machine_outputs : Nat → Int32) (w_machine_outputCount : Int32) : Option (Int32) :=
  (if p1 < 0 then
    none
  else
    (Option.bind (f_X2_outputCount w_machine_outputCount) fun u9 =>
    (if p1 < u9 then
      (Option.bind (f_X2_outputAt p1 w_machine_outputs w_machine_outputCount) fun u30 =>
      some u30)
    else
      none)))

noncomputable def f_X4_mix (p1 : Int64) (p2 : Int32) : Option (Int64) :=
  some ((p1 * 31) + p2.toInt64)

noncomputable def f_X4_mixSteps_L24 (rN : Nat) (w_r_numbers : Nat → Int32) (w_r_length : Int32) (x5_L12 : Int32) : Nat → Int32 → Int64 → Option (Int64)
  | 0, _, _ => none
  | n + 1, x6_L24, x3_L24 =>
    (if 4 ≤ x6_L24 then
      some x3_L24
    else
      (Option.bind (f_X3_at x5_L12 x6_L24 rN w_r_numbers w_r_length) fun u36 =>
      (Option.bind (f_X4_mix x3_L24 u36) fun u39 =>
      f_X4_mixSteps_L24 rN w_r_numbers w_r_length x5_L12 n (x6_L24 + 1) u39)))

noncomputable def f_X4_mixSteps_L12 (rN : Nat) (w_r_numbers : Nat → Int32) (w_r_length : Int32) : Nat → Int32 → Int64 → Option (Int64)
  | 0, _, _ => none
  | n + 1, x5_L12, x3_L12 =>
    (Option.bind (f_X3_length w_r_length) fun u15 =>
    (if u15 ≤ x5_L12 then
      some x3_L12
    else
      (Option.bind (f_X4_mixSteps_L24 rN w_r_numbers w_r_length x5_L12 4000 0 x3_L12) fun v24 =>
        f_X4_mixSteps_L12 rN w_r_numbers w_r_length n (x5_L12 + 1) v24)))

noncomputable def f_X4_mixSteps (p1 : Int64) (rN : Nat) (w_r_numbers : Nat → Int32) (w_r_length : Int32) : Option (Int64) :=
  (Option.bind (f_X3_length w_r_length) fun u2 =>
  (Option.bind (f_X4_mix p1 u2) fun u5 =>
  (Option.bind (f_X4_mixSteps_L12 rN w_r_numbers w_r_length 4000 0 u5) fun v12 =>
    some v12)))

noncomputable def f_X4_digest_L25 (w_code_kinds : Nat → Int32) (w_code_length : Int32) : Nat → Int32 → Int64 → Option (Int64)
  | 0, _, _ => none
  | n + 1, x3_L25, x1_L25 =>
    (Option.bind (f_X1_length w_code_length) fun u30 =>
    (if u30 ≤ x3_L25 then
      some x1_L25
    else
      (Option.bind (f_X1_kindOf x3_L25 w_code_kinds w_code_length) fun u42 =>
      (Option.bind (f_X4_mix x1_L25 u42) fun u45 =>
      f_X4_digest_L25 w_code_kinds w_code_length n (x3_L25 + 1) u45))))

noncomputable def f_X4_digest_L88 (w_machine_outputs : Nat → Int32) (w_machine_outputCount : Int32) : Nat → Int32 → Int64 → Option (Int64)
  | 0, _, _ => none
  | n + 1, x3_L88, x1_L88 =>
    (Option.bind (f_X2_outputCount w_machine_outputCount) fun u93 =>
    (if u93 ≤ x3_L88 then
      some x1_L88
    else
      (Option.bind (f_X2_outputAt x3_L88 w_machine_outputs w_machine_outputCount) fun u105 =>
      (Option.bind (f_X4_mix x1_L88 u105) fun u108 =>
      f_X4_digest_L88 w_machine_outputs w_machine_outputCount n (x3_L88 + 1) u108))))

noncomputable def f_X4_digest_J74 (w_machine_outputs : Nat → Int32) (w_machine_outputCount : Int32) (x1_J74 : Int64) : Option (Int64) :=
  (Option.bind (f_X2_outputCount w_machine_outputCount) fun u79 =>
  (Option.bind (f_X4_mix x1_J74 u79) fun u82 =>
  (Option.bind (f_X4_digest_L88 w_machine_outputs w_machine_outputCount 4000 0 u82) fun v88 =>
    some v88)))

noncomputable def f_X4_digest (w_code_kinds : Nat → Int32) (w_code_length : Int32) (w_present_steps_numbers : Nat → Int32) (w_present_steps_length : Int32) (w_machine_outputs : Nat → Int32) (w_machine_outputCount : Int32) (w_registers : Int32) (w_allocated : Int32) : Option (Int64) :=
  (Option.bind (f_X4_mix 83 w_registers) fun u7 =>
  (Option.bind (f_X1_length w_code_length) fun u16 =>
  (Option.bind (f_X4_mix u7 u16) fun u19 =>
  (Option.bind (f_X4_digest_L25 w_code_kinds w_code_length 4000 0 u19) fun v25 =>
    (if w_allocated = 0 then
      f_X4_digest_J74 w_machine_outputs w_machine_outputCount v25
    else
      (Option.bind (f_X4_mixSteps v25 960 w_present_steps_numbers w_present_steps_length) fun u70 =>
      f_X4_digest_J74 w_machine_outputs w_machine_outputCount u70))))))
