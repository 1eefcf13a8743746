abbrev rmX5_thrown : Room := { frames := 0, cells := 0, slots := 0, locals := 0 }
set_option maxHeartbeats 4000000 in
set_option maxRecDepth 100000 in
theorem c_X5_thrown (l : Launch) (D : va_G) (cyI cyZ : ClassId) (a0 a1 a2 a3 a4 a5 a6 a7 a8 a9 a10 a11 a12 : Nat) (w_thrown : Int32) (w_size : Int32) (w_kinds : Nat → Int32) (w_as : Nat → Int32) (w_bs : Nat → Int32) (w_registers : Int32) (w_isMade : Int32) (w_steps : Int32) (w_stepParts : Nat → Int32) (w_pieces : Int32) (w_pieceParts : Nat → Int32) (w_slots : Int32) (w_areCounted : Nat → Int32) (w_registerOf : Nat → Int32) (w_slotOf : Nat → Int32) (w_pieceOf : Nat → Int32) (w_heldBy : Nat → Int32) (w_isSlotTaken : Nat → Int32) (w_outputs : Int32) (w_output : Nat → Int32) (o : Int32) (hf : f_X5_thrown w_thrown = some o) : kMi l yX5_thrown wsX5_thrown rmX5_thrown [.ref a0] D (PX5 a0 a1 a2 a3 a4 a5 a6 a7 a8 a9 a10 a11 a12 cyI cyZ w_thrown w_size w_kinds w_as w_bs w_registers w_isMade w_steps w_stepParts w_pieces w_pieceParts w_slots w_areCounted w_registerOf w_slotOf w_pieceOf w_heldBy w_isSlotTaken w_outputs w_output) (PX5 a0 a1 a2 a3 a4 a5 a6 a7 a8 a9 a10 a11 a12 cyI cyZ w_thrown w_size w_kinds w_as w_bs w_registers w_isMade w_steps w_stepParts w_pieces w_pieceParts w_slots w_areCounted w_registerOf w_slotOf w_pieceOf w_heldBy w_isSlotTaken w_outputs w_output) (kT cyI cyZ) o 0 0 := by
  refine kOf_i (cc := cX5_thrown) (maxL := 1) (ty := .int) (by decide +kernel) rfl (Nat.le_of_ble_eq_true rfl) ?_
  intro p e s m args below meth c A Z ls C0 hP hK hD hA hl ret
  obtain ⟨hx, hb, hr, hml, hown, hts, hlocks⟩ := C0
  have hown : s.vm.findClass RX5 = some m.cls := hown
  have hl : lv_has ls 1 [(0, .ref a0)] := hl
  have hS : va_S A s.heap s.heap [] := va_S.rf
  have i_X5 : ∀ w ∈ wsX50, w ∈ wsX5_thrown := by decide +kernel
  have k51 := hts (.fieldLink RX5 51 "RegisterAllocatorModel" "thrown" "I") (by decide +kernel)
  rw [f_X5_thrown] at hf
  refine lv_aload_n hx hb dX5_thrown_0 rfl (lv_at hl 0 rfl) ?_
  refine va_get (D := D) (ci := 5) (v := .int w_thrown) (C := RX5) (T := TX5) (N := 20) hx hb hts i_X5 hown hK hP 0 rfl rfl 0 (by decide) k51 (fun _ h9 => h9) rfl dX5_thrown_1 ?_
  obtain rfl := Option.some.inj hf
  exact ret _ _ _ _ dX5_thrown_4 rfl hP hD hS

abbrev rmX5_fail : Room := { frames := 0, cells := 0, slots := 0, locals := 0 }
set_option maxHeartbeats 4000000 in
set_option maxRecDepth 100000 in
theorem c_X5_fail (l : Launch) (D : va_G) (cyI cyZ : ClassId) (a0 a1 a2 a3 a4 a5 a6 a7 a8 a9 a10 a11 a12 : Nat) (w_thrown : Int32) (w_size : Int32) (w_kinds : Nat → Int32) (w_as : Nat → Int32) (w_bs : Nat → Int32) (w_registers : Int32) (w_isMade : Int32) (w_steps : Int32) (w_stepParts : Nat → Int32) (w_pieces : Int32) (w_pieceParts : Nat → Int32) (w_slots : Int32) (w_areCounted : Nat → Int32) (w_registerOf : Nat → Int32) (w_slotOf : Nat → Int32) (w_pieceOf : Nat → Int32) (w_heldBy : Nat → Int32) (w_isSlotTaken : Nat → Int32) (w_outputs : Int32) (w_output : Nat → Int32) (p1 : Int32) (o : Int32 × Int32) (hf : f_X5_fail p1 = some o) : kMi l yX5_fail wsX5_fail rmX5_fail [.ref a0, .int p1] D (PX5 a0 a1 a2 a3 a4 a5 a6 a7 a8 a9 a10 a11 a12 cyI cyZ w_thrown w_size w_kinds w_as w_bs w_registers w_isMade w_steps w_stepParts w_pieces w_pieceParts w_slots w_areCounted w_registerOf w_slotOf w_pieceOf w_heldBy w_isSlotTaken w_outputs w_output) (PX5 a0 a1 a2 a3 a4 a5 a6 a7 a8 a9 a10 a11 a12 cyI cyZ o.2 w_size w_kinds w_as w_bs w_registers w_isMade w_steps w_stepParts w_pieces w_pieceParts w_slots w_areCounted w_registerOf w_slotOf w_pieceOf w_heldBy w_isSlotTaken w_outputs w_output) (kT cyI cyZ) o.1 0 0 := by
  refine kOf_i (cc := cX5_fail) (maxL := 2) (ty := .int) (by decide +kernel) rfl (Nat.le_of_ble_eq_true rfl) ?_
  intro p e s m args below meth c A Z ls C0 hP hK hD hA hl ret
  obtain ⟨hx, hb, hr, hml, hown, hts, hlocks⟩ := C0
  have hown : s.vm.findClass RX5 = some m.cls := hown
  have hl : lv_has ls 2 [(0, .ref a0), (1, .int p1)] := hl
  have hS : va_S A s.heap s.heap [] := va_S.rf
  have i_X5 : ∀ w ∈ wsX50, w ∈ wsX5_fail := by decide +kernel
  have k51 := hts (.fieldLink RX5 51 "RegisterAllocatorModel" "thrown" "I") (by decide +kernel)
  rw [f_X5_fail] at hf
  refine lv_aload_n hx hb dX5_fail_0 rfl (lv_at hl 0 rfl) ?_
  refine lv_iload_n hx hb dX5_fail_1 rfl (lv_at hl 1 rfl) ?_
  refine va_put (D := D) (ci := 5) (v := .int p1) (ty := .int) (C := RX5) (T := TX5) (N := 20) hx hb hts i_X5 tyX5 tyX5_ok nmX5 hown hK hP hD hS 0 rfl rfl 0 (by decide) k51 (fun _ h9 => h9) rfl (by decide +kernel) rfl (by first | rfl | decide) (Nat.le_of_ble_eq_true rfl) dX5_fail_2 (fun H locs hP hD hS => ?_)
  have hP : va_P D vwCl (PX5 a0 a1 a2 a3 a4 a5 a6 a7 a8 a9 a10 a11 a12 cyI cyZ p1 w_size w_kinds w_as w_bs w_registers w_isMade w_steps w_stepParts w_pieces w_pieceParts w_slots w_areCounted w_registerOf w_slotOf w_pieceOf w_heldBy w_isSlotTaken w_outputs w_output) H := hP
  have hD : va_D A (PX5 a0 a1 a2 a3 a4 a5 a6 a7 a8 a9 a10 a11 a12 cyI cyZ p1 w_size w_kinds w_as w_bs w_registers w_isMade w_steps w_stepParts w_pieces w_pieceParts w_slots w_areCounted w_registerOf w_slotOf w_pieceOf w_heldBy w_isSlotTaken w_outputs w_output) := hD
  refine lv_iconst (v := 0) hx hb dX5_fail_5 (by decide) ?_
  obtain rfl := Option.some.inj hf
  exact ret _ _ _ _ dX5_fail_6 rfl hP hD hS

abbrev rmX5_isInstruction : Room := { frames := 0, cells := 0, slots := 0, locals := 0 }
set_option maxHeartbeats 4000000 in
set_option maxRecDepth 100000 in
theorem c_X5_isInstruction (l : Launch) (D : va_G) (cyI cyZ : ClassId) (a0 a1 a2 a3 a4 a5 a6 a7 a8 a9 a10 a11 a12 : Nat) (w_thrown : Int32) (w_size : Int32) (w_kinds : Nat → Int32) (w_as : Nat → Int32) (w_bs : Nat → Int32) (w_registers : Int32) (w_isMade : Int32) (w_steps : Int32) (w_stepParts : Nat → Int32) (w_pieces : Int32) (w_pieceParts : Nat → Int32) (w_slots : Int32) (w_areCounted : Nat → Int32) (w_registerOf : Nat → Int32) (w_slotOf : Nat → Int32) (w_pieceOf : Nat → Int32) (w_heldBy : Nat → Int32) (w_isSlotTaken : Nat → Int32) (w_outputs : Int32) (w_output : Nat → Int32) (p1 : Int32) (o : Int32) (hf : f_X5_isInstruction p1 w_size = some o) : kMi l yX5_isInstruction wsX5_isInstruction rmX5_isInstruction [.ref a0, .int p1] D (PX5 a0 a1 a2 a3 a4 a5 a6 a7 a8 a9 a10 a11 a12 cyI cyZ w_thrown w_size w_kinds w_as w_bs w_registers w_isMade w_steps w_stepParts w_pieces w_pieceParts w_slots w_areCounted w_registerOf w_slotOf w_pieceOf w_heldBy w_isSlotTaken w_outputs w_output) (PX5 a0 a1 a2 a3 a4 a5 a6 a7 a8 a9 a10 a11 a12 cyI cyZ w_thrown w_size w_kinds w_as w_bs w_registers w_isMade w_steps w_stepParts w_pieces w_pieceParts w_slots w_areCounted w_registerOf w_slotOf w_pieceOf w_heldBy w_isSlotTaken w_outputs w_output) (kT cyI cyZ) o 0 0 := by
  refine kOf_i (cc := cX5_isInstruction) (maxL := 2) (ty := .boolean) (by decide +kernel) rfl (Nat.le_of_ble_eq_true rfl) ?_
  intro p e s m args below meth c A Z ls C0 hP hK hD hA hl ret
  obtain ⟨hx, hb, hr, hml, hown, hts, hlocks⟩ := C0
  have hown : s.vm.findClass RX5 = some m.cls := hown
  have hl : lv_has ls 2 [(0, .ref a0), (1, .int p1)] := hl
  have hS : va_S A s.heap s.heap [] := va_S.rf
  have i_X5 : ∀ w ∈ wsX50, w ∈ wsX5_isInstruction := by decide +kernel
  have k54 := hts (.fieldLink RX5 54 "RegisterAllocatorModel" "size" "I") (by decide +kernel)
  rw [f_X5_isInstruction] at hf
  refine lv_iload_n hx hb dX5_isInstruction_0 rfl (lv_at hl 1 rfl) ?_
  refine lv_if_lt (tgt := 16) hx hb dX5_isInstruction_1 (by decide) (fun c_1 => ?_) (fun c_1 => ?_)
  · have hf := kit c_1 hf
    refine lv_iconst (v := 0) hx hb dX5_isInstruction_16 (by decide) ?_
    obtain rfl := Option.some.inj hf
    exact ret _ _ _ _ dX5_isInstruction_17 (znar (Or.inl rfl)) hP hD hS
  · have hf := kif c_1 hf
    refine lv_iload_n hx hb dX5_isInstruction_4 rfl (lv_at hl 1 rfl) ?_
    refine lv_aload_n hx hb dX5_isInstruction_5 rfl (lv_at hl 0 rfl) ?_
    refine va_get (D := D) (ci := 5) (v := .int w_size) (C := RX5) (T := TX5) (N := 20) hx hb hts i_X5 hown hK hP 0 rfl rfl 1 (by decide) k54 (fun _ h9 => h9) rfl dX5_isInstruction_6 ?_
    refine lv_icmp_ge (tgt := 16) hx hb dX5_isInstruction_9 (by decide) (fun c_9 => ?_) (fun c_9 => ?_)
    · have hf := kit c_9 hf
      refine lv_iconst (v := 0) hx hb dX5_isInstruction_16 (by decide) ?_
      obtain rfl := Option.some.inj hf
      exact ret _ _ _ _ dX5_isInstruction_17 (znar (Or.inl rfl)) hP hD hS
    · have hf := kif c_9 hf
      refine lv_iconst (v := 1) hx hb dX5_isInstruction_12 (by decide) ?_
      refine lv_goto (tgt := 17) hx hb dX5_isInstruction_13 (by decide) ?_
      obtain rfl := Option.some.inj hf
      exact ret _ _ _ _ dX5_isInstruction_17 (znar (Or.inr rfl)) hP hD hS

abbrev rmX5_hasValue : Room := { frames := 1, cells := 0, slots := 0, locals := 21 }
set_option maxHeartbeats 4000000 in
set_option maxRecDepth 100000 in
theorem c_X5_hasValue (l : Launch) (D : va_G) (cyI cyZ : ClassId) (a0 a1 a2 a3 a4 a5 a6 a7 a8 a9 a10 a11 a12 : Nat) (w_thrown : Int32) (w_size : Int32) (w_kinds : Nat → Int32) (w_as : Nat → Int32) (w_bs : Nat → Int32) (w_registers : Int32) (w_isMade : Int32) (w_steps : Int32) (w_stepParts : Nat → Int32) (w_pieces : Int32) (w_pieceParts : Nat → Int32) (w_slots : Int32) (w_areCounted : Nat → Int32) (w_registerOf : Nat → Int32) (w_slotOf : Nat → Int32) (w_pieceOf : Nat → Int32) (w_heldBy : Nat → Int32) (w_isSlotTaken : Nat → Int32) (w_outputs : Int32) (w_output : Nat → Int32) (p1 : Int32) (o : Int32) (hf : f_X5_hasValue p1 w_size w_kinds = some o) : kMi l yX5_hasValue wsX5_hasValue rmX5_hasValue [.ref a0, .int p1] D (PX5 a0 a1 a2 a3 a4 a5 a6 a7 a8 a9 a10 a11 a12 cyI cyZ w_thrown w_size w_kinds w_as w_bs w_registers w_isMade w_steps w_stepParts w_pieces w_pieceParts w_slots w_areCounted w_registerOf w_slotOf w_pieceOf w_heldBy w_isSlotTaken w_outputs w_output) (PX5 a0 a1 a2 a3 a4 a5 a6 a7 a8 a9 a10 a11 a12 cyI cyZ w_thrown w_size w_kinds w_as w_bs w_registers w_isMade w_steps w_stepParts w_pieces w_pieceParts w_slots w_areCounted w_registerOf w_slotOf w_pieceOf w_heldBy w_isSlotTaken w_outputs w_output) (kT cyI cyZ) o 0 0 := by
  refine kOf_i (cc := cX5_hasValue) (maxL := 2) (ty := .boolean) (by decide +kernel) rfl (Nat.le_of_ble_eq_true rfl) ?_
  intro p e s m args below meth c A Z ls C0 hP hK hD hA hl ret
  obtain ⟨hx, hb, hr, hml, hown, hts, hlocks⟩ := C0
  have hown : s.vm.findClass RX5 = some m.cls := hown
  have hl : lv_has ls 2 [(0, .ref a0), (1, .int p1)] := hl
  have hS : va_S A s.heap s.heap [] := va_S.rf
  have i_X5 : ∀ w ∈ wsX50, w ∈ wsX5_hasValue := by decide +kernel
  have k9 := hts (.fieldLink RX5 9 "RegisterAllocatorModel" "kinds" "[I") (by decide +kernel)
  rw [f_X5_hasValue] at hf
  refine lv_aload_n hx hb dX5_hasValue_0 rfl (lv_at hl 0 rfl) ?_
  refine lv_iload_n hx hb dX5_hasValue_1 rfl (lv_at hl 1 rfl) ?_
  obtain ⟨u2, hf2, hf⟩ := kbd hf
  refine kc_Vi (As := [.int p1]) (rest := []) (wf := (PX5 a0 a1 a2 a3 a4 a5 a6 a7 a8 a9 a10 a11 a12 cyI cyZ w_thrown w_size w_kinds w_as w_bs w_registers w_isMade w_steps w_stepParts w_pieces w_pieceParts w_slots w_areCounted w_registerOf w_slotOf w_pieceOf w_heldBy w_isSlotTaken w_outputs w_output)) (c_X5_isInstruction l D cyI cyZ a0 a1 a2 a3 a4 a5 a6 a7 a8 a9 a10 a11 a12 w_thrown w_size w_kinds w_as w_bs w_registers w_isMade w_steps w_stepParts w_pieces w_pieceParts w_slots w_areCounted w_registerOf w_slotOf w_pieceOf w_heldBy w_isSlotTaken w_outputs w_output p1 u2 hf2) ⟨hx, hb, hml, hown, hts⟩ (cwV 1 hts gX5_hasValue_X5_isInstruction rfl rfl rfl (by decide +kernel) ⟨Nat.le_of_ble_eq_true rfl, Nat.le_of_ble_eq_true rfl⟩) hK hP hD hS hA [0, 1, 2, 3, 4, 5, 6, 7, 8, 9, 10, 11, 12] [] 13 rfl rfl kR0 rfl (by decide +kernel) rfl rfl rfl rfl hl.1 rfl (Nat.le_of_ble_eq_true rfl) dX5_hasValue_2 ⟨Nat.le_of_ble_eq_true rfl, Nat.le_of_ble_eq_true rfl⟩ (fun H locs hP hD hS => ?_)
  refine lv_if_eq (tgt := 23) hx hb dX5_hasValue_5 (by decide) (fun c_5 => ?_) (fun c_5 => ?_)
  · have hf := kit c_5 hf
    refine lv_iconst (v := 0) hx hb dX5_hasValue_23 (by decide) ?_
    obtain rfl := Option.some.inj hf
    exact ret _ _ _ _ dX5_hasValue_24 (znar (Or.inl rfl)) hP hD hS
  · have hf := kif c_5 hf
    refine lv_aload_n hx hb dX5_hasValue_8 rfl (lv_at hl 0 rfl) ?_
    refine va_get (D := D) (ci := 5) (v := .ref a1) (C := RX5) (T := TX5) (N := 20) hx hb hts i_X5 hown hK hP 0 rfl rfl 2 (by decide) k9 (fun _ h9 => h9) rfl dX5_hasValue_9 ?_
    refine lv_iload_n hx hb dX5_hasValue_12 rfl (lv_at hl 1 rfl) ?_
    obtain ⟨h_13, hf⟩ := rdc_some hf
    refine va_iald hx hb hK hP 1 0 rfl rfl h_13 dX5_hasValue_13 ?_
    refine lv_bipush (v := 6) hx hb dX5_hasValue_14 (by decide) ?_
    refine lv_icmp_eq (tgt := 23) hx hb dX5_hasValue_16 (by decide) (fun c_16 => ?_) (fun c_16 => ?_)
    · have hf := kit c_16 hf
      refine lv_iconst (v := 0) hx hb dX5_hasValue_23 (by decide) ?_
      obtain rfl := Option.some.inj hf
      exact ret _ _ _ _ dX5_hasValue_24 (znar (Or.inl rfl)) hP hD hS
    · have hf := kif c_16 hf
      refine lv_iconst (v := 1) hx hb dX5_hasValue_19 (by decide) ?_
      refine lv_goto (tgt := 24) hx hb dX5_hasValue_20 (by decide) ?_
      obtain rfl := Option.some.inj hf
      exact ret _ _ _ _ dX5_hasValue_24 (znar (Or.inr rfl)) hP hD hS

abbrev rmX5_append : Room := { frames := 0, cells := 0, slots := 0, locals := 0 }
set_option maxHeartbeats 4000000 in
set_option maxRecDepth 100000 in
theorem c_X5_append (l : Launch) (D : va_G) (cyI cyZ : ClassId) (a0 a1 a2 a3 a4 a5 a6 a7 a8 a9 a10 a11 a12 : Nat) (w_thrown : Int32) (w_size : Int32) (w_kinds : Nat → Int32) (w_as : Nat → Int32) (w_bs : Nat → Int32) (w_registers : Int32) (w_isMade : Int32) (w_steps : Int32) (w_stepParts : Nat → Int32) (w_pieces : Int32) (w_pieceParts : Nat → Int32) (w_slots : Int32) (w_areCounted : Nat → Int32) (w_registerOf : Nat → Int32) (w_slotOf : Nat → Int32) (w_pieceOf : Nat → Int32) (w_heldBy : Nat → Int32) (w_isSlotTaken : Nat → Int32) (w_outputs : Int32) (w_output : Nat → Int32) (p1 : Int32) (p2 : Int32) (p3 : Int32) (o : Int32 × Int32 × (Nat → Int32) × (Nat → Int32) × (Nat → Int32) × Int32) (hf : f_X5_append p1 p2 p3 w_size w_kinds w_as w_bs = some o) : kMi l yX5_append wsX5_append rmX5_append [.ref a0, .int p1, .int p2, .int p3] D (PX5 a0 a1 a2 a3 a4 a5 a6 a7 a8 a9 a10 a11 a12 cyI cyZ w_thrown w_size w_kinds w_as w_bs w_registers w_isMade w_steps w_stepParts w_pieces w_pieceParts w_slots w_areCounted w_registerOf w_slotOf w_pieceOf w_heldBy w_isSlotTaken w_outputs w_output) (PX5 a0 a1 a2 a3 a4 a5 a6 a7 a8 a9 a10 a11 a12 cyI cyZ w_thrown o.2.1 o.2.2.1 o.2.2.2.1 o.2.2.2.2.1 w_registers o.2.2.2.2.2 w_steps w_stepParts w_pieces w_pieceParts w_slots w_areCounted w_registerOf w_slotOf w_pieceOf w_heldBy w_isSlotTaken w_outputs w_output) (kT cyI cyZ) o.1 0 0 := by
  refine kOf_i (cc := cX5_append) (maxL := 4) (ty := .int) (by decide +kernel) rfl (Nat.le_of_ble_eq_true rfl) ?_
  intro p e s m args below meth c A Z ls C0 hP hK hD hA hl ret
  obtain ⟨hx, hb, hr, hml, hown, hts, hlocks⟩ := C0
  have hown : s.vm.findClass RX5 = some m.cls := hown
  have hl : lv_has ls 4 [(0, .ref a0), (1, .int p1), (2, .int p2), (3, .int p3)] := hl
  have hS : va_S A s.heap s.heap [] := va_S.rf
  have i_X5 : ∀ w ∈ wsX50, w ∈ wsX5_append := by decide +kernel
  have k13 := hts (.fieldLink RX5 13 "RegisterAllocatorModel" "as" "[I") (by decide +kernel)
  have k16 := hts (.fieldLink RX5 16 "RegisterAllocatorModel" "bs" "[I") (by decide +kernel)
  have k54 := hts (.fieldLink RX5 54 "RegisterAllocatorModel" "size" "I") (by decide +kernel)
  have k61 := hts (.fieldLink RX5 61 "RegisterAllocatorModel" "isMade" "Z") (by decide +kernel)
  have k9 := hts (.fieldLink RX5 9 "RegisterAllocatorModel" "kinds" "[I") (by decide +kernel)
  rw [f_X5_append] at hf
  refine lv_aload_n hx hb dX5_append_0 rfl (lv_at hl 0 rfl) ?_
  refine va_get (D := D) (ci := 5) (v := .ref a1) (C := RX5) (T := TX5) (N := 20) hx hb hts i_X5 hown hK hP 0 rfl rfl 2 (by decide) k9 (fun _ h9 => h9) rfl dX5_append_1 ?_
  refine lv_aload_n hx hb dX5_append_4 rfl (lv_at hl 0 rfl) ?_
  refine va_get (D := D) (ci := 5) (v := .int w_size) (C := RX5) (T := TX5) (N := 20) hx hb hts i_X5 hown hK hP 0 rfl rfl 1 (by decide) k54 (fun _ h9 => h9) rfl dX5_append_5 ?_
  refine lv_iload_n hx hb dX5_append_8 rfl (lv_at hl 1 rfl) ?_
  obtain ⟨h_9, hf⟩ := rdc_some hf
  refine va_iast hx hb hK hP hD hS 1 0 rfl rfl h_9 dX5_append_9 (fun H locs hP hD hS => ?_)
  have hP : va_P D vwCl (PX5 a0 a1 a2 a3 a4 a5 a6 a7 a8 a9 a10 a11 a12 cyI cyZ w_thrown w_size (upd w_kinds w_size.toNatClampNeg p1) w_as w_bs w_registers w_isMade w_steps w_stepParts w_pieces w_pieceParts w_slots w_areCounted w_registerOf w_slotOf w_pieceOf w_heldBy w_isSlotTaken w_outputs w_output) H := hP
  have hD : va_D A (PX5 a0 a1 a2 a3 a4 a5 a6 a7 a8 a9 a10 a11 a12 cyI cyZ w_thrown w_size (upd w_kinds w_size.toNatClampNeg p1) w_as w_bs w_registers w_isMade w_steps w_stepParts w_pieces w_pieceParts w_slots w_areCounted w_registerOf w_slotOf w_pieceOf w_heldBy w_isSlotTaken w_outputs w_output) := hD
  refine lv_aload_n hx hb dX5_append_10 rfl (lv_at hl 0 rfl) ?_
  refine va_get (D := D) (ci := 5) (v := .ref a2) (C := RX5) (T := TX5) (N := 20) hx hb hts i_X5 hown hK hP 0 rfl rfl 3 (by decide) k13 (fun _ h9 => h9) rfl dX5_append_11 ?_
  refine lv_aload_n hx hb dX5_append_14 rfl (lv_at hl 0 rfl) ?_
  refine va_get (D := D) (ci := 5) (v := .int w_size) (C := RX5) (T := TX5) (N := 20) hx hb hts i_X5 hown hK hP 0 rfl rfl 1 (by decide) k54 (fun _ h9 => h9) rfl dX5_append_15 ?_
  refine lv_iload_n hx hb dX5_append_18 rfl (lv_at hl 2 rfl) ?_
  obtain ⟨h_19, hf⟩ := rdc_some hf
  refine va_iast hx hb hK hP hD hS 2 0 rfl rfl h_19 dX5_append_19 (fun H locs hP hD hS => ?_)
  have hP : va_P D vwCl (PX5 a0 a1 a2 a3 a4 a5 a6 a7 a8 a9 a10 a11 a12 cyI cyZ w_thrown w_size (upd w_kinds w_size.toNatClampNeg p1) (upd w_as w_size.toNatClampNeg p2) w_bs w_registers w_isMade w_steps w_stepParts w_pieces w_pieceParts w_slots w_areCounted w_registerOf w_slotOf w_pieceOf w_heldBy w_isSlotTaken w_outputs w_output) H := hP
  have hD : va_D A (PX5 a0 a1 a2 a3 a4 a5 a6 a7 a8 a9 a10 a11 a12 cyI cyZ w_thrown w_size (upd w_kinds w_size.toNatClampNeg p1) (upd w_as w_size.toNatClampNeg p2) w_bs w_registers w_isMade w_steps w_stepParts w_pieces w_pieceParts w_slots w_areCounted w_registerOf w_slotOf w_pieceOf w_heldBy w_isSlotTaken w_outputs w_output) := hD
  refine lv_aload_n hx hb dX5_append_20 rfl (lv_at hl 0 rfl) ?_
  refine va_get (D := D) (ci := 5) (v := .ref a3) (C := RX5) (T := TX5) (N := 20) hx hb hts i_X5 hown hK hP 0 rfl rfl 4 (by decide) k16 (fun _ h9 => h9) rfl dX5_append_21 ?_
  refine lv_aload_n hx hb dX5_append_24 rfl (lv_at hl 0 rfl) ?_
  refine va_get (D := D) (ci := 5) (v := .int w_size) (C := RX5) (T := TX5) (N := 20) hx hb hts i_X5 hown hK hP 0 rfl rfl 1 (by decide) k54 (fun _ h9 => h9) rfl dX5_append_25 ?_
  refine lv_iload_n hx hb dX5_append_28 rfl (lv_at hl 3 rfl) ?_
  obtain ⟨h_29, hf⟩ := rdc_some hf
  refine va_iast hx hb hK hP hD hS 3 0 rfl rfl h_29 dX5_append_29 (fun H locs hP hD hS => ?_)
  have hP : va_P D vwCl (PX5 a0 a1 a2 a3 a4 a5 a6 a7 a8 a9 a10 a11 a12 cyI cyZ w_thrown w_size (upd w_kinds w_size.toNatClampNeg p1) (upd w_as w_size.toNatClampNeg p2) (upd w_bs w_size.toNatClampNeg p3) w_registers w_isMade w_steps w_stepParts w_pieces w_pieceParts w_slots w_areCounted w_registerOf w_slotOf w_pieceOf w_heldBy w_isSlotTaken w_outputs w_output) H := hP
  have hD : va_D A (PX5 a0 a1 a2 a3 a4 a5 a6 a7 a8 a9 a10 a11 a12 cyI cyZ w_thrown w_size (upd w_kinds w_size.toNatClampNeg p1) (upd w_as w_size.toNatClampNeg p2) (upd w_bs w_size.toNatClampNeg p3) w_registers w_isMade w_steps w_stepParts w_pieces w_pieceParts w_slots w_areCounted w_registerOf w_slotOf w_pieceOf w_heldBy w_isSlotTaken w_outputs w_output) := hD
  refine lv_aload_n hx hb dX5_append_30 rfl (lv_at hl 0 rfl) ?_
  refine lv_dup hx hb dX5_append_31 rfl ?_
  refine va_get (D := D) (ci := 5) (v := .int w_size) (C := RX5) (T := TX5) (N := 20) hx hb hts i_X5 hown hK hP 0 rfl rfl 1 (by decide) k54 (fun _ h9 => h9) rfl dX5_append_32 ?_
  refine lv_iconst (v := 1) hx hb dX5_append_35 (by decide) ?_
  refine lv_iadd hx hb dX5_append_36 ?_
  refine va_put (D := D) (ci := 5) (v := .int (w_size + 1)) (ty := .int) (C := RX5) (T := TX5) (N := 20) hx hb hts i_X5 tyX5 tyX5_ok nmX5 hown hK hP hD hS 0 rfl rfl 1 (by decide) k54 (fun _ h9 => h9) rfl (by decide +kernel) rfl (by first | rfl | decide) (Nat.le_of_ble_eq_true rfl) dX5_append_37 (fun H locs hP hD hS => ?_)
  have hP : va_P D vwCl (PX5 a0 a1 a2 a3 a4 a5 a6 a7 a8 a9 a10 a11 a12 cyI cyZ w_thrown (w_size + 1) (upd w_kinds w_size.toNatClampNeg p1) (upd w_as w_size.toNatClampNeg p2) (upd w_bs w_size.toNatClampNeg p3) w_registers w_isMade w_steps w_stepParts w_pieces w_pieceParts w_slots w_areCounted w_registerOf w_slotOf w_pieceOf w_heldBy w_isSlotTaken w_outputs w_output) H := hP
  have hD : va_D A (PX5 a0 a1 a2 a3 a4 a5 a6 a7 a8 a9 a10 a11 a12 cyI cyZ w_thrown (w_size + 1) (upd w_kinds w_size.toNatClampNeg p1) (upd w_as w_size.toNatClampNeg p2) (upd w_bs w_size.toNatClampNeg p3) w_registers w_isMade w_steps w_stepParts w_pieces w_pieceParts w_slots w_areCounted w_registerOf w_slotOf w_pieceOf w_heldBy w_isSlotTaken w_outputs w_output) := hD
  refine lv_aload_n hx hb dX5_append_40 rfl (lv_at hl 0 rfl) ?_
  refine lv_iconst (v := 0) hx hb dX5_append_41 (by decide) ?_
  refine va_put (D := D) (ci := 5) (v := .int 0) (ty := .boolean) (C := RX5) (T := TX5) (N := 20) hx hb hts i_X5 tyX5 tyX5_ok nmX5 hown hK hP hD hS 0 rfl rfl 6 (by decide) k61 (fun _ h9 => h9) rfl (by decide +kernel) (by decide) (by first | rfl | decide) (Nat.le_of_ble_eq_true rfl) dX5_append_42 (fun H locs hP hD hS => ?_)
  have hP : va_P D vwCl (PX5 a0 a1 a2 a3 a4 a5 a6 a7 a8 a9 a10 a11 a12 cyI cyZ w_thrown (w_size + 1) (upd w_kinds w_size.toNatClampNeg p1) (upd w_as w_size.toNatClampNeg p2) (upd w_bs w_size.toNatClampNeg p3) w_registers 0 w_steps w_stepParts w_pieces w_pieceParts w_slots w_areCounted w_registerOf w_slotOf w_pieceOf w_heldBy w_isSlotTaken w_outputs w_output) H := hP
  have hD : va_D A (PX5 a0 a1 a2 a3 a4 a5 a6 a7 a8 a9 a10 a11 a12 cyI cyZ w_thrown (w_size + 1) (upd w_kinds w_size.toNatClampNeg p1) (upd w_as w_size.toNatClampNeg p2) (upd w_bs w_size.toNatClampNeg p3) w_registers 0 w_steps w_stepParts w_pieces w_pieceParts w_slots w_areCounted w_registerOf w_slotOf w_pieceOf w_heldBy w_isSlotTaken w_outputs w_output) := hD
  refine lv_aload_n hx hb dX5_append_45 rfl (lv_at hl 0 rfl) ?_
  refine va_get (D := D) (ci := 5) (v := .int (w_size + 1)) (C := RX5) (T := TX5) (N := 20) hx hb hts i_X5 hown hK hP 0 rfl rfl 1 (by decide) k54 (fun _ h9 => h9) rfl dX5_append_46 ?_
  refine lv_iconst (v := 1) hx hb dX5_append_49 (by decide) ?_
  refine lv_isub hx hb dX5_append_50 ?_
  obtain rfl := Option.some.inj hf
  exact ret _ _ _ _ dX5_append_51 rfl hP hD hS

abbrev rmX5_constant : Room := { frames := 1, cells := 0, slots := 0, locals := 23 }
set_option maxHeartbeats 4000000 in
set_option maxRecDepth 100000 in
theorem c_X5_constant (l : Launch) (D : va_G) (cyI cyZ : ClassId) (a0 a1 a2 a3 a4 a5 a6 a7 a8 a9 a10 a11 a12 : Nat) (w_thrown : Int32) (w_size : Int32) (w_kinds : Nat → Int32) (w_as : Nat → Int32) (w_bs : Nat → Int32) (w_registers : Int32) (w_isMade : Int32) (w_steps : Int32) (w_stepParts : Nat → Int32) (w_pieces : Int32) (w_pieceParts : Nat → Int32) (w_slots : Int32) (w_areCounted : Nat → Int32) (w_registerOf : Nat → Int32) (w_slotOf : Nat → Int32) (w_pieceOf : Nat → Int32) (w_heldBy : Nat → Int32) (w_isSlotTaken : Nat → Int32) (w_outputs : Int32) (w_output : Nat → Int32) (p1 : Int32) (o : Int32 × Int32 × Int32 × (Nat → Int32) × (Nat → Int32) × (Nat → Int32) × Int32) (hf : f_X5_constant p1 w_size w_kinds w_as w_bs w_isMade = some o) : kMi l yX5_constant wsX5_constant rmX5_constant [.ref a0, .int p1] D (PX5 a0 a1 a2 a3 a4 a5 a6 a7 a8 a9 a10 a11 a12 cyI cyZ w_thrown w_size w_kinds w_as w_bs w_registers w_isMade w_steps w_stepParts w_pieces w_pieceParts w_slots w_areCounted w_registerOf w_slotOf w_pieceOf w_heldBy w_isSlotTaken w_outputs w_output) (PX5 a0 a1 a2 a3 a4 a5 a6 a7 a8 a9 a10 a11 a12 cyI cyZ o.2.1 o.2.2.1 o.2.2.2.1 o.2.2.2.2.1 o.2.2.2.2.2.1 w_registers o.2.2.2.2.2.2 w_steps w_stepParts w_pieces w_pieceParts w_slots w_areCounted w_registerOf w_slotOf w_pieceOf w_heldBy w_isSlotTaken w_outputs w_output) (kT cyI cyZ) o.1 0 0 := by
  refine kOf_i (cc := cX5_constant) (maxL := 2) (ty := .int) (by decide +kernel) rfl (Nat.le_of_ble_eq_true rfl) ?_
  intro p e s m args below meth c A Z ls C0 hP hK hD hA hl ret
  obtain ⟨hx, hb, hr, hml, hown, hts, hlocks⟩ := C0
  have hown : s.vm.findClass RX5 = some m.cls := hown
  have hl : lv_has ls 2 [(0, .ref a0), (1, .int p1)] := hl
  have hS : va_S A s.heap s.heap [] := va_S.rf
  have i_X5 : ∀ w ∈ wsX50, w ∈ wsX5_constant := by decide +kernel
  have k51 := hts (.fieldLink RX5 51 "RegisterAllocatorModel" "thrown" "I") (by decide +kernel)
  have k54 := hts (.fieldLink RX5 54 "RegisterAllocatorModel" "size" "I") (by decide +kernel)
  rw [f_X5_constant] at hf
  refine lv_aload_n hx hb dX5_constant_0 rfl (lv_at hl 0 rfl) ?_
  refine lv_iconst (v := 0) hx hb dX5_constant_1 (by decide) ?_
  refine va_put (D := D) (ci := 5) (v := .int 0) (ty := .int) (C := RX5) (T := TX5) (N := 20) hx hb hts i_X5 tyX5 tyX5_ok nmX5 hown hK hP hD hS 0 rfl rfl 0 (by decide) k51 (fun _ h9 => h9) rfl (by decide +kernel) rfl (by first | rfl | decide) (Nat.le_of_ble_eq_true rfl) dX5_constant_2 (fun H locs hP hD hS => ?_)
  have hP : va_P D vwCl (PX5 a0 a1 a2 a3 a4 a5 a6 a7 a8 a9 a10 a11 a12 cyI cyZ 0 w_size w_kinds w_as w_bs w_registers w_isMade w_steps w_stepParts w_pieces w_pieceParts w_slots w_areCounted w_registerOf w_slotOf w_pieceOf w_heldBy w_isSlotTaken w_outputs w_output) H := hP
  have hD : va_D A (PX5 a0 a1 a2 a3 a4 a5 a6 a7 a8 a9 a10 a11 a12 cyI cyZ 0 w_size w_kinds w_as w_bs w_registers w_isMade w_steps w_stepParts w_pieces w_pieceParts w_slots w_areCounted w_registerOf w_slotOf w_pieceOf w_heldBy w_isSlotTaken w_outputs w_output) := hD
  refine lv_aload_n hx hb dX5_constant_5 rfl (lv_at hl 0 rfl) ?_
  refine va_get (D := D) (ci := 5) (v := .int w_size) (C := RX5) (T := TX5) (N := 20) hx hb hts i_X5 hown hK hP 0 rfl rfl 1 (by decide) k54 (fun _ h9 => h9) rfl dX5_constant_6 ?_
  refine lv_bipush (v := 60) hx hb dX5_constant_9 (by decide) ?_
  refine lv_icmp_ne (tgt := 22) hx hb dX5_constant_11 (by decide) (fun c_11 => ?_) (fun c_11 => ?_)
  · have hf := kif c_11 hf
    refine lv_aload_n hx hb dX5_constant_22 rfl (lv_at hl 0 rfl) ?_
    refine lv_iconst (v := 0) hx hb dX5_constant_23 (by decide) ?_
    refine lv_iload_n hx hb dX5_constant_24 rfl (lv_at hl 1 rfl) ?_
    refine lv_iconst (v := (-1)) hx hb dX5_constant_25 (by decide) ?_
    obtain ⟨⟨u26_0, u26_1, u26_2, u26_3, u26_4, u26_5⟩, hf26, hf⟩ := kbd hf
    try dsimp only at hf
    refine kc_Vi (As := [.int 0, .int p1, .int (-1)]) (rest := []) (wf := (PX5 a0 a1 a2 a3 a4 a5 a6 a7 a8 a9 a10 a11 a12 cyI cyZ 0 u26_1 u26_2 u26_3 u26_4 w_registers u26_5 w_steps w_stepParts w_pieces w_pieceParts w_slots w_areCounted w_registerOf w_slotOf w_pieceOf w_heldBy w_isSlotTaken w_outputs w_output)) (c_X5_append l D cyI cyZ a0 a1 a2 a3 a4 a5 a6 a7 a8 a9 a10 a11 a12 0 w_size w_kinds w_as w_bs w_registers w_isMade w_steps w_stepParts w_pieces w_pieceParts w_slots w_areCounted w_registerOf w_slotOf w_pieceOf w_heldBy w_isSlotTaken w_outputs w_output 0 p1 (-1) (u26_0, u26_1, u26_2, u26_3, u26_4, u26_5) hf26) ⟨hx, hb, hml, hown, hts⟩ (cwV 3 hts gX5_constant_X5_append rfl rfl rfl (by decide +kernel) ⟨Nat.le_of_ble_eq_true rfl, Nat.le_of_ble_eq_true rfl⟩) hK hP hD hS hA [0, 1, 2, 3, 4, 5, 6, 7, 8, 9, 10, 11, 12] [] 13 rfl rfl kR0 rfl (by decide +kernel) rfl rfl rfl rfl hl.1 rfl (Nat.le_of_ble_eq_true rfl) dX5_constant_26 ⟨Nat.le_of_ble_eq_true rfl, Nat.le_of_ble_eq_true rfl⟩ (fun H locs hP hD hS => ?_)
    obtain rfl := Option.some.inj hf
    exact ret _ _ _ _ dX5_constant_29 rfl hP hD hS
  · have hf := kit c_11 hf
    refine lv_aload_n hx hb dX5_constant_14 rfl (lv_at hl 0 rfl) ?_
    refine lv_iconst (v := 1) hx hb dX5_constant_15 (by decide) ?_
    obtain ⟨⟨u16_0, u16_1⟩, hf16, hf⟩ := kbd hf
    try dsimp only at hf
    refine kc_Vi (As := [.int 1]) (rest := []) (wf := (PX5 a0 a1 a2 a3 a4 a5 a6 a7 a8 a9 a10 a11 a12 cyI cyZ u16_1 w_size w_kinds w_as w_bs w_registers w_isMade w_steps w_stepParts w_pieces w_pieceParts w_slots w_areCounted w_registerOf w_slotOf w_pieceOf w_heldBy w_isSlotTaken w_outputs w_output)) (c_X5_fail l D cyI cyZ a0 a1 a2 a3 a4 a5 a6 a7 a8 a9 a10 a11 a12 0 w_size w_kinds w_as w_bs w_registers w_isMade w_steps w_stepParts w_pieces w_pieceParts w_slots w_areCounted w_registerOf w_slotOf w_pieceOf w_heldBy w_isSlotTaken w_outputs w_output 1 (u16_0, u16_1) hf16) ⟨hx, hb, hml, hown, hts⟩ (cwV 1 hts gX5_constant_X5_fail rfl rfl rfl (by decide +kernel) ⟨Nat.le_of_ble_eq_true rfl, Nat.le_of_ble_eq_true rfl⟩) hK hP hD hS hA [0, 1, 2, 3, 4, 5, 6, 7, 8, 9, 10, 11, 12] [] 13 rfl rfl kR0 rfl (by decide +kernel) rfl rfl rfl rfl hl.1 rfl (Nat.le_of_ble_eq_true rfl) dX5_constant_16 ⟨Nat.le_of_ble_eq_true rfl, Nat.le_of_ble_eq_true rfl⟩ (fun H locs hP hD hS => ?_)
    refine lv_goto (tgt := 29) hx hb dX5_constant_19 (by decide) ?_
    obtain rfl := Option.some.inj hf
    exact ret _ _ _ _ dX5_constant_29 rfl hP hD hS

abbrev rmX5_operate : Room := { frames := 2, cells := 0, slots := 0, locals := 42 }
set_option maxHeartbeats 4000000 in
set_option maxRecDepth 100000 in
theorem c_X5_operate (l : Launch) (D : va_G) (cyI cyZ : ClassId) (a0 a1 a2 a3 a4 a5 a6 a7 a8 a9 a10 a11 a12 : Nat) (w_thrown : Int32) (w_size : Int32) (w_kinds : Nat → Int32) (w_as : Nat → Int32) (w_bs : Nat → Int32) (w_registers : Int32) (w_isMade : Int32) (w_steps : Int32) (w_stepParts : Nat → Int32) (w_pieces : Int32) (w_pieceParts : Nat → Int32) (w_slots : Int32) (w_areCounted : Nat → Int32) (w_registerOf : Nat → Int32) (w_slotOf : Nat → Int32) (w_pieceOf : Nat → Int32) (w_heldBy : Nat → Int32) (w_isSlotTaken : Nat → Int32) (w_outputs : Int32) (w_output : Nat → Int32) (p1 : Int32) (p2 : Int32) (p3 : Int32) (o : Int32 × Int32 × Int32 × (Nat → Int32) × (Nat → Int32) × (Nat → Int32) × Int32) (hf : f_X5_operate p1 p2 p3 w_size w_kinds w_as w_bs w_isMade = some o) : kMi l yX5_operate wsX5_operate rmX5_operate [.ref a0, .int p1, .int p2, .int p3] D (PX5 a0 a1 a2 a3 a4 a5 a6 a7 a8 a9 a10 a11 a12 cyI cyZ w_thrown w_size w_kinds w_as w_bs w_registers w_isMade w_steps w_stepParts w_pieces w_pieceParts w_slots w_areCounted w_registerOf w_slotOf w_pieceOf w_heldBy w_isSlotTaken w_outputs w_output) (PX5 a0 a1 a2 a3 a4 a5 a6 a7 a8 a9 a10 a11 a12 cyI cyZ o.2.1 o.2.2.1 o.2.2.2.1 o.2.2.2.2.1 o.2.2.2.2.2.1 w_registers o.2.2.2.2.2.2 w_steps w_stepParts w_pieces w_pieceParts w_slots w_areCounted w_registerOf w_slotOf w_pieceOf w_heldBy w_isSlotTaken w_outputs w_output) (kT cyI cyZ) o.1 0 0 := by
  refine kOf_i (cc := cX5_operate) (maxL := 4) (ty := .int) (by decide +kernel) rfl (Nat.le_of_ble_eq_true rfl) ?_
  intro p e s m args below meth c A Z ls C0 hP hK hD hA hl ret
  obtain ⟨hx, hb, hr, hml, hown, hts, hlocks⟩ := C0
  have hown : s.vm.findClass RX5 = some m.cls := hown
  have hl : lv_has ls 4 [(0, .ref a0), (1, .int p1), (2, .int p2), (3, .int p3)] := hl
  have hS : va_S A s.heap s.heap [] := va_S.rf
  have i_X5 : ∀ w ∈ wsX50, w ∈ wsX5_operate := by decide +kernel
  have k51 := hts (.fieldLink RX5 51 "RegisterAllocatorModel" "thrown" "I") (by decide +kernel)
  have k54 := hts (.fieldLink RX5 54 "RegisterAllocatorModel" "size" "I") (by decide +kernel)
  rw [f_X5_operate] at hf
  refine lv_aload_n hx hb dX5_operate_0 rfl (lv_at hl 0 rfl) ?_
  refine lv_iconst (v := 0) hx hb dX5_operate_1 (by decide) ?_
  refine va_put (D := D) (ci := 5) (v := .int 0) (ty := .int) (C := RX5) (T := TX5) (N := 20) hx hb hts i_X5 tyX5 tyX5_ok nmX5 hown hK hP hD hS 0 rfl rfl 0 (by decide) k51 (fun _ h9 => h9) rfl (by decide +kernel) rfl (by first | rfl | decide) (Nat.le_of_ble_eq_true rfl) dX5_operate_2 (fun H locs hP hD hS => ?_)
  have hP : va_P D vwCl (PX5 a0 a1 a2 a3 a4 a5 a6 a7 a8 a9 a10 a11 a12 cyI cyZ 0 w_size w_kinds w_as w_bs w_registers w_isMade w_steps w_stepParts w_pieces w_pieceParts w_slots w_areCounted w_registerOf w_slotOf w_pieceOf w_heldBy w_isSlotTaken w_outputs w_output) H := hP
  have hD : va_D A (PX5 a0 a1 a2 a3 a4 a5 a6 a7 a8 a9 a10 a11 a12 cyI cyZ 0 w_size w_kinds w_as w_bs w_registers w_isMade w_steps w_stepParts w_pieces w_pieceParts w_slots w_areCounted w_registerOf w_slotOf w_pieceOf w_heldBy w_isSlotTaken w_outputs w_output) := hD
  refine lv_aload_n hx hb dX5_operate_5 rfl (lv_at hl 0 rfl) ?_
  refine lv_iload_n hx hb dX5_operate_6 rfl (lv_at hl 2 rfl) ?_
  obtain ⟨u7, hf7, hf⟩ := kbd hf
  refine kc_Vi (As := [.int p2]) (rest := []) (wf := (PX5 a0 a1 a2 a3 a4 a5 a6 a7 a8 a9 a10 a11 a12 cyI cyZ 0 w_size w_kinds w_as w_bs w_registers w_isMade w_steps w_stepParts w_pieces w_pieceParts w_slots w_areCounted w_registerOf w_slotOf w_pieceOf w_heldBy w_isSlotTaken w_outputs w_output)) (c_X5_hasValue l D cyI cyZ a0 a1 a2 a3 a4 a5 a6 a7 a8 a9 a10 a11 a12 0 w_size w_kinds w_as w_bs w_registers w_isMade w_steps w_stepParts w_pieces w_pieceParts w_slots w_areCounted w_registerOf w_slotOf w_pieceOf w_heldBy w_isSlotTaken w_outputs w_output p2 u7 hf7) ⟨hx, hb, hml, hown, hts⟩ (cwV 1 hts gX5_operate_X5_hasValue rfl rfl rfl (by decide +kernel) ⟨Nat.le_of_ble_eq_true rfl, Nat.le_of_ble_eq_true rfl⟩) hK hP hD hS hA [0, 1, 2, 3, 4, 5, 6, 7, 8, 9, 10, 11, 12] [] 13 rfl rfl kR0 rfl (by decide +kernel) rfl rfl rfl rfl hl.1 rfl (Nat.le_of_ble_eq_true rfl) dX5_operate_7 ⟨Nat.le_of_ble_eq_true rfl, Nat.le_of_ble_eq_true rfl⟩ (fun H locs hP hD hS => ?_)
  refine lv_if_eq (tgt := 21) hx hb dX5_operate_10 (by decide) (fun c_10 => ?_) (fun c_10 => ?_)
  · have hf := kit c_10 hf
    refine lv_aload_n hx hb dX5_operate_21 rfl (lv_at hl 0 rfl) ?_
    refine lv_iconst (v := 1) hx hb dX5_operate_22 (by decide) ?_
    obtain ⟨⟨u23_0, u23_1⟩, hf23, hf⟩ := kbd hf
    try dsimp only at hf
    refine kc_Vi (As := [.int 1]) (rest := []) (wf := (PX5 a0 a1 a2 a3 a4 a5 a6 a7 a8 a9 a10 a11 a12 cyI cyZ u23_1 w_size w_kinds w_as w_bs w_registers w_isMade w_steps w_stepParts w_pieces w_pieceParts w_slots w_areCounted w_registerOf w_slotOf w_pieceOf w_heldBy w_isSlotTaken w_outputs w_output)) (c_X5_fail l D cyI cyZ a0 a1 a2 a3 a4 a5 a6 a7 a8 a9 a10 a11 a12 0 w_size w_kinds w_as w_bs w_registers w_isMade w_steps w_stepParts w_pieces w_pieceParts w_slots w_areCounted w_registerOf w_slotOf w_pieceOf w_heldBy w_isSlotTaken w_outputs w_output 1 (u23_0, u23_1) hf23) ⟨hx, hb, hml, hown, hts⟩ (cwV 1 hts gX5_operate_X5_fail rfl rfl rfl (by decide +kernel) ⟨Nat.le_of_ble_eq_true rfl, Nat.le_of_ble_eq_true rfl⟩) hK hP hD hS hA [0, 1, 2, 3, 4, 5, 6, 7, 8, 9, 10, 11, 12] [] 13 rfl rfl kR0 rfl (by decide +kernel) rfl rfl rfl rfl hl.1 rfl (Nat.le_of_ble_eq_true rfl) dX5_operate_23 ⟨Nat.le_of_ble_eq_true rfl, Nat.le_of_ble_eq_true rfl⟩ (fun H locs hP hD hS => ?_)
    obtain rfl := Option.some.inj hf
    exact ret _ _ _ _ dX5_operate_26 rfl hP hD hS
  · have hf := kif c_10 hf
    refine lv_aload_n hx hb dX5_operate_13 rfl (lv_at hl 0 rfl) ?_
    refine lv_iload_n hx hb dX5_operate_14 rfl (lv_at hl 3 rfl) ?_
    obtain ⟨u15, hf15, hf⟩ := kbd hf
    refine kc_Vi (As := [.int p3]) (rest := []) (wf := (PX5 a0 a1 a2 a3 a4 a5 a6 a7 a8 a9 a10 a11 a12 cyI cyZ 0 w_size w_kinds w_as w_bs w_registers w_isMade w_steps w_stepParts w_pieces w_pieceParts w_slots w_areCounted w_registerOf w_slotOf w_pieceOf w_heldBy w_isSlotTaken w_outputs w_output)) (c_X5_hasValue l D cyI cyZ a0 a1 a2 a3 a4 a5 a6 a7 a8 a9 a10 a11 a12 0 w_size w_kinds w_as w_bs w_registers w_isMade w_steps w_stepParts w_pieces w_pieceParts w_slots w_areCounted w_registerOf w_slotOf w_pieceOf w_heldBy w_isSlotTaken w_outputs w_output p3 u15 hf15) ⟨hx, hb, hml, hown, hts⟩ (cwV 1 hts gX5_operate_X5_hasValue rfl rfl rfl (by decide +kernel) ⟨Nat.le_of_ble_eq_true rfl, Nat.le_of_ble_eq_true rfl⟩) hK hP hD hS hA [0, 1, 2, 3, 4, 5, 6, 7, 8, 9, 10, 11, 12] [] 13 rfl rfl kR0 rfl (by decide +kernel) rfl rfl rfl rfl hl.1 rfl (Nat.le_of_ble_eq_true rfl) dX5_operate_15 ⟨Nat.le_of_ble_eq_true rfl, Nat.le_of_ble_eq_true rfl⟩ (fun H locs hP hD hS => ?_)
    refine lv_if_ne (tgt := 27) hx hb dX5_operate_18 (by decide) (fun c_18 => ?_) (fun c_18 => ?_)
    · have hf := kif c_18 hf
      refine lv_iload_n hx hb dX5_operate_27 rfl (lv_at hl 1 rfl) ?_
      refine lv_iconst (v := 1) hx hb dX5_operate_28 (by decide) ?_
      refine lv_icmp_lt (tgt := 37) hx hb dX5_operate_29 (by decide) (fun c_29 => ?_) (fun c_29 => ?_)
      · have hf := kit c_29 hf
        refine lv_aload_n hx hb dX5_operate_37 rfl (lv_at hl 0 rfl) ?_
        refine lv_iconst (v := 2) hx hb dX5_operate_38 (by decide) ?_
        obtain ⟨⟨u39_0, u39_1⟩, hf39, hf⟩ := kbd hf
        try dsimp only at hf
        refine kc_Vi (As := [.int 2]) (rest := []) (wf := (PX5 a0 a1 a2 a3 a4 a5 a6 a7 a8 a9 a10 a11 a12 cyI cyZ u39_1 w_size w_kinds w_as w_bs w_registers w_isMade w_steps w_stepParts w_pieces w_pieceParts w_slots w_areCounted w_registerOf w_slotOf w_pieceOf w_heldBy w_isSlotTaken w_outputs w_output)) (c_X5_fail l D cyI cyZ a0 a1 a2 a3 a4 a5 a6 a7 a8 a9 a10 a11 a12 0 w_size w_kinds w_as w_bs w_registers w_isMade w_steps w_stepParts w_pieces w_pieceParts w_slots w_areCounted w_registerOf w_slotOf w_pieceOf w_heldBy w_isSlotTaken w_outputs w_output 2 (u39_0, u39_1) hf39) ⟨hx, hb, hml, hown, hts⟩ (cwV 1 hts gX5_operate_X5_fail rfl rfl rfl (by decide +kernel) ⟨Nat.le_of_ble_eq_true rfl, Nat.le_of_ble_eq_true rfl⟩) hK hP hD hS hA [0, 1, 2, 3, 4, 5, 6, 7, 8, 9, 10, 11, 12] [] 13 rfl rfl kR0 rfl (by decide +kernel) rfl rfl rfl rfl hl.1 rfl (Nat.le_of_ble_eq_true rfl) dX5_operate_39 ⟨Nat.le_of_ble_eq_true rfl, Nat.le_of_ble_eq_true rfl⟩ (fun H locs hP hD hS => ?_)
        obtain rfl := Option.some.inj hf
        exact ret _ _ _ _ dX5_operate_42 rfl hP hD hS
      · have hf := kif c_29 hf
        refine lv_iload_n hx hb dX5_operate_32 rfl (lv_at hl 1 rfl) ?_
        refine lv_iconst (v := 4) hx hb dX5_operate_33 (by decide) ?_
        refine lv_icmp_le (tgt := 43) hx hb dX5_operate_34 (by decide) (fun c_34 => ?_) (fun c_34 => ?_)
        · have hf := kit c_34 hf
          refine lv_aload_n hx hb dX5_operate_43 rfl (lv_at hl 0 rfl) ?_
          refine va_get (D := D) (ci := 5) (v := .int w_size) (C := RX5) (T := TX5) (N := 20) hx hb hts i_X5 hown hK hP 0 rfl rfl 1 (by decide) k54 (fun _ h9 => h9) rfl dX5_operate_44 ?_
          refine lv_bipush (v := 60) hx hb dX5_operate_47 (by decide) ?_
          refine lv_icmp_ne (tgt := 60) hx hb dX5_operate_49 (by decide) (fun c_49 => ?_) (fun c_49 => ?_)
          · have hf := kif c_49 hf
            refine lv_aload_n hx hb dX5_operate_60 rfl (lv_at hl 0 rfl) ?_
            refine lv_iload_n hx hb dX5_operate_61 rfl (lv_at hl 1 rfl) ?_
            refine lv_iload_n hx hb dX5_operate_62 rfl (lv_at hl 2 rfl) ?_
            refine lv_iload_n hx hb dX5_operate_63 rfl (lv_at hl 3 rfl) ?_
            obtain ⟨⟨u64_0, u64_1, u64_2, u64_3, u64_4, u64_5⟩, hf64, hf⟩ := kbd hf
            try dsimp only at hf
            refine kc_Vi (As := [.int p1, .int p2, .int p3]) (rest := []) (wf := (PX5 a0 a1 a2 a3 a4 a5 a6 a7 a8 a9 a10 a11 a12 cyI cyZ 0 u64_1 u64_2 u64_3 u64_4 w_registers u64_5 w_steps w_stepParts w_pieces w_pieceParts w_slots w_areCounted w_registerOf w_slotOf w_pieceOf w_heldBy w_isSlotTaken w_outputs w_output)) (c_X5_append l D cyI cyZ a0 a1 a2 a3 a4 a5 a6 a7 a8 a9 a10 a11 a12 0 w_size w_kinds w_as w_bs w_registers w_isMade w_steps w_stepParts w_pieces w_pieceParts w_slots w_areCounted w_registerOf w_slotOf w_pieceOf w_heldBy w_isSlotTaken w_outputs w_output p1 p2 p3 (u64_0, u64_1, u64_2, u64_3, u64_4, u64_5) hf64) ⟨hx, hb, hml, hown, hts⟩ (cwV 3 hts gX5_operate_X5_append rfl rfl rfl (by decide +kernel) ⟨Nat.le_of_ble_eq_true rfl, Nat.le_of_ble_eq_true rfl⟩) hK hP hD hS hA [0, 1, 2, 3, 4, 5, 6, 7, 8, 9, 10, 11, 12] [] 13 rfl rfl kR0 rfl (by decide +kernel) rfl rfl rfl rfl hl.1 rfl (Nat.le_of_ble_eq_true rfl) dX5_operate_64 ⟨Nat.le_of_ble_eq_true rfl, Nat.le_of_ble_eq_true rfl⟩ (fun H locs hP hD hS => ?_)
            obtain rfl := Option.some.inj hf
            exact ret _ _ _ _ dX5_operate_67 rfl hP hD hS
          · have hf := kit c_49 hf
            refine lv_aload_n hx hb dX5_operate_52 rfl (lv_at hl 0 rfl) ?_
            refine lv_iconst (v := 3) hx hb dX5_operate_53 (by decide) ?_
            obtain ⟨⟨u54_0, u54_1⟩, hf54, hf⟩ := kbd hf
            try dsimp only at hf
            refine kc_Vi (As := [.int 3]) (rest := []) (wf := (PX5 a0 a1 a2 a3 a4 a5 a6 a7 a8 a9 a10 a11 a12 cyI cyZ u54_1 w_size w_kinds w_as w_bs w_registers w_isMade w_steps w_stepParts w_pieces w_pieceParts w_slots w_areCounted w_registerOf w_slotOf w_pieceOf w_heldBy w_isSlotTaken w_outputs w_output)) (c_X5_fail l D cyI cyZ a0 a1 a2 a3 a4 a5 a6 a7 a8 a9 a10 a11 a12 0 w_size w_kinds w_as w_bs w_registers w_isMade w_steps w_stepParts w_pieces w_pieceParts w_slots w_areCounted w_registerOf w_slotOf w_pieceOf w_heldBy w_isSlotTaken w_outputs w_output 3 (u54_0, u54_1) hf54) ⟨hx, hb, hml, hown, hts⟩ (cwV 1 hts gX5_operate_X5_fail rfl rfl rfl (by decide +kernel) ⟨Nat.le_of_ble_eq_true rfl, Nat.le_of_ble_eq_true rfl⟩) hK hP hD hS hA [0, 1, 2, 3, 4, 5, 6, 7, 8, 9, 10, 11, 12] [] 13 rfl rfl kR0 rfl (by decide +kernel) rfl rfl rfl rfl hl.1 rfl (Nat.le_of_ble_eq_true rfl) dX5_operate_54 ⟨Nat.le_of_ble_eq_true rfl, Nat.le_of_ble_eq_true rfl⟩ (fun H locs hP hD hS => ?_)
            refine lv_goto (tgt := 67) hx hb dX5_operate_57 (by decide) ?_
            obtain rfl := Option.some.inj hf
            exact ret _ _ _ _ dX5_operate_67 rfl hP hD hS
        · have hf := kif c_34 hf
          refine lv_aload_n hx hb dX5_operate_37 rfl (lv_at hl 0 rfl) ?_
          refine lv_iconst (v := 2) hx hb dX5_operate_38 (by decide) ?_
          obtain ⟨⟨u39_0, u39_1⟩, hf39, hf⟩ := kbd hf
          try dsimp only at hf
          refine kc_Vi (As := [.int 2]) (rest := []) (wf := (PX5 a0 a1 a2 a3 a4 a5 a6 a7 a8 a9 a10 a11 a12 cyI cyZ u39_1 w_size w_kinds w_as w_bs w_registers w_isMade w_steps w_stepParts w_pieces w_pieceParts w_slots w_areCounted w_registerOf w_slotOf w_pieceOf w_heldBy w_isSlotTaken w_outputs w_output)) (c_X5_fail l D cyI cyZ a0 a1 a2 a3 a4 a5 a6 a7 a8 a9 a10 a11 a12 0 w_size w_kinds w_as w_bs w_registers w_isMade w_steps w_stepParts w_pieces w_pieceParts w_slots w_areCounted w_registerOf w_slotOf w_pieceOf w_heldBy w_isSlotTaken w_outputs w_output 2 (u39_0, u39_1) hf39) ⟨hx, hb, hml, hown, hts⟩ (cwV 1 hts gX5_operate_X5_fail rfl rfl rfl (by decide +kernel) ⟨Nat.le_of_ble_eq_true rfl, Nat.le_of_ble_eq_true rfl⟩) hK hP hD hS hA [0, 1, 2, 3, 4, 5, 6, 7, 8, 9, 10, 11, 12] [] 13 rfl rfl kR0 rfl (by decide +kernel) rfl rfl rfl rfl hl.1 rfl (Nat.le_of_ble_eq_true rfl) dX5_operate_39 ⟨Nat.le_of_ble_eq_true rfl, Nat.le_of_ble_eq_true rfl⟩ (fun H locs hP hD hS => ?_)
          obtain rfl := Option.some.inj hf
          exact ret _ _ _ _ dX5_operate_42 rfl hP hD hS
    · have hf := kit c_18 hf
      refine lv_aload_n hx hb dX5_operate_21 rfl (lv_at hl 0 rfl) ?_
      refine lv_iconst (v := 1) hx hb dX5_operate_22 (by decide) ?_
      obtain ⟨⟨u23_0, u23_1⟩, hf23, hf⟩ := kbd hf
      try dsimp only at hf
      refine kc_Vi (As := [.int 1]) (rest := []) (wf := (PX5 a0 a1 a2 a3 a4 a5 a6 a7 a8 a9 a10 a11 a12 cyI cyZ u23_1 w_size w_kinds w_as w_bs w_registers w_isMade w_steps w_stepParts w_pieces w_pieceParts w_slots w_areCounted w_registerOf w_slotOf w_pieceOf w_heldBy w_isSlotTaken w_outputs w_output)) (c_X5_fail l D cyI cyZ a0 a1 a2 a3 a4 a5 a6 a7 a8 a9 a10 a11 a12 0 w_size w_kinds w_as w_bs w_registers w_isMade w_steps w_stepParts w_pieces w_pieceParts w_slots w_areCounted w_registerOf w_slotOf w_pieceOf w_heldBy w_isSlotTaken w_outputs w_output 1 (u23_0, u23_1) hf23) ⟨hx, hb, hml, hown, hts⟩ (cwV 1 hts gX5_operate_X5_fail rfl rfl rfl (by decide +kernel) ⟨Nat.le_of_ble_eq_true rfl, Nat.le_of_ble_eq_true rfl⟩) hK hP hD hS hA [0, 1, 2, 3, 4, 5, 6, 7, 8, 9, 10, 11, 12] [] 13 rfl rfl kR0 rfl (by decide +kernel) rfl rfl rfl rfl hl.1 rfl (Nat.le_of_ble_eq_true rfl) dX5_operate_23 ⟨Nat.le_of_ble_eq_true rfl, Nat.le_of_ble_eq_true rfl⟩ (fun H locs hP hD hS => ?_)
      obtain rfl := Option.some.inj hf
      exact ret _ _ _ _ dX5_operate_26 rfl hP hD hS

abbrev rmX5_pass : Room := { frames := 2, cells := 0, slots := 0, locals := 42 }
set_option maxHeartbeats 4000000 in
set_option maxRecDepth 100000 in
theorem c_X5_pass (l : Launch) (D : va_G) (cyI cyZ : ClassId) (a0 a1 a2 a3 a4 a5 a6 a7 a8 a9 a10 a11 a12 : Nat) (w_thrown : Int32) (w_size : Int32) (w_kinds : Nat → Int32) (w_as : Nat → Int32) (w_bs : Nat → Int32) (w_registers : Int32) (w_isMade : Int32) (w_steps : Int32) (w_stepParts : Nat → Int32) (w_pieces : Int32) (w_pieceParts : Nat → Int32) (w_slots : Int32) (w_areCounted : Nat → Int32) (w_registerOf : Nat → Int32) (w_slotOf : Nat → Int32) (w_pieceOf : Nat → Int32) (w_heldBy : Nat → Int32) (w_isSlotTaken : Nat → Int32) (w_outputs : Int32) (w_output : Nat → Int32) (p1 : Int32) (p2 : Int32) (o : Int32 × Int32 × Int32 × (Nat → Int32) × (Nat → Int32) × (Nat → Int32) × Int32) (hf : f_X5_pass p1 p2 w_size w_kinds w_as w_bs w_isMade = some o) : kMi l yX5_pass wsX5_pass rmX5_pass [.ref a0, .int p1, .int p2] D (PX5 a0 a1 a2 a3 a4 a5 a6 a7 a8 a9 a10 a11 a12 cyI cyZ w_thrown w_size w_kinds w_as w_bs w_registers w_isMade w_steps w_stepParts w_pieces w_pieceParts w_slots w_areCounted w_registerOf w_slotOf w_pieceOf w_heldBy w_isSlotTaken w_outputs w_output) (PX5 a0 a1 a2 a3 a4 a5 a6 a7 a8 a9 a10 a11 a12 cyI cyZ o.2.1 o.2.2.1 o.2.2.2.1 o.2.2.2.2.1 o.2.2.2.2.2.1 w_registers o.2.2.2.2.2.2 w_steps w_stepParts w_pieces w_pieceParts w_slots w_areCounted w_registerOf w_slotOf w_pieceOf w_heldBy w_isSlotTaken w_outputs w_output) (kT cyI cyZ) o.1 0 0 := by
  refine kOf_i (cc := cX5_pass) (maxL := 3) (ty := .int) (by decide +kernel) rfl (Nat.le_of_ble_eq_true rfl) ?_
  intro p e s m args below meth c A Z ls C0 hP hK hD hA hl ret
  obtain ⟨hx, hb, hr, hml, hown, hts, hlocks⟩ := C0
  have hown : s.vm.findClass RX5 = some m.cls := hown
  have hl : lv_has ls 3 [(0, .ref a0), (1, .int p1), (2, .int p2)] := hl
  have hS : va_S A s.heap s.heap [] := va_S.rf
  have i_X5 : ∀ w ∈ wsX50, w ∈ wsX5_pass := by decide +kernel
  have k51 := hts (.fieldLink RX5 51 "RegisterAllocatorModel" "thrown" "I") (by decide +kernel)
  have k54 := hts (.fieldLink RX5 54 "RegisterAllocatorModel" "size" "I") (by decide +kernel)
  have J36 : ∀ (x1_J36 : Int32) (x2_J36 : Int32) (w_thrown_J36 : Int32) (w_size_J36 : Int32) (w_kinds_J36 : Nat → Int32) (w_as_J36 : Nat → Int32) (w_bs_J36 : Nat → Int32) (w_isMade_J36 : Int32) (_ : f_X5_pass_J36 x1_J36 x2_J36 w_thrown_J36 w_size_J36 w_kinds_J36 w_as_J36 w_bs_J36 w_isMade_J36 = some o) (H : Heap) (locs : List Loc) (ls : Array Slot), va_P D vwCl (PX5 a0 a1 a2 a3 a4 a5 a6 a7 a8 a9 a10 a11 a12 cyI cyZ w_thrown_J36 w_size_J36 w_kinds_J36 w_as_J36 w_bs_J36 w_registers w_isMade_J36 w_steps w_stepParts w_pieces w_pieceParts w_slots w_areCounted w_registerOf w_slotOf w_pieceOf w_heldBy w_isSlotTaken w_outputs w_output) H → va_D A (PX5 a0 a1 a2 a3 a4 a5 a6 a7 a8 a9 a10 a11 a12 cyI cyZ w_thrown_J36 w_size_J36 w_kinds_J36 w_as_J36 w_bs_J36 w_registers w_isMade_J36 w_steps w_stepParts w_pieces w_pieceParts w_slots w_areCounted w_registerOf w_slotOf w_pieceOf w_heldBy w_isSlotTaken w_outputs w_output) → va_S A s.heap H locs → lv_has ls 3 [(0, .ref a0), (1, .int x1_J36), (2, .int x2_J36)] → W p l e rmX5_pass s m args below meth c H locs 0 0 Z (F0 m 36 ls []) := by
    intro x1_J36 x2_J36 w_thrown_J36 w_size_J36 w_kinds_J36 w_as_J36 w_bs_J36 w_isMade_J36 hf H locs ls hP hD hS hl
    rw [f_X5_pass_J36] at hf
    refine lv_aload_n hx hb dX5_pass_36 rfl (lv_at hl 0 rfl) ?_
    refine va_get (D := D) (ci := 5) (v := .int w_size_J36) (C := RX5) (T := TX5) (N := 20) hx hb hts i_X5 hown hK hP 0 rfl rfl 1 (by decide) k54 (fun _ h9 => h9) rfl dX5_pass_37 ?_
    refine lv_bipush (v := 60) hx hb dX5_pass_40 (by decide) ?_
    refine lv_icmp_ne (tgt := 53) hx hb dX5_pass_42 (by decide) (fun c_42 => ?_) (fun c_42 => ?_)
    · have hf := kif c_42 hf
      refine lv_aload_n hx hb dX5_pass_53 rfl (lv_at hl 0 rfl) ?_
      refine lv_iload_n hx hb dX5_pass_54 rfl (lv_at hl 1 rfl) ?_
      refine lv_iload_n hx hb dX5_pass_55 rfl (lv_at hl 2 rfl) ?_
      refine lv_iconst (v := (-1)) hx hb dX5_pass_56 (by decide) ?_
      obtain ⟨⟨u57_0, u57_1, u57_2, u57_3, u57_4, u57_5⟩, hf57, hf⟩ := kbd hf
      try dsimp only at hf
      refine kc_Vi (As := [.int x1_J36, .int x2_J36, .int (-1)]) (rest := []) (wf := (PX5 a0 a1 a2 a3 a4 a5 a6 a7 a8 a9 a10 a11 a12 cyI cyZ w_thrown_J36 u57_1 u57_2 u57_3 u57_4 w_registers u57_5 w_steps w_stepParts w_pieces w_pieceParts w_slots w_areCounted w_registerOf w_slotOf w_pieceOf w_heldBy w_isSlotTaken w_outputs w_output)) (c_X5_append l D cyI cyZ a0 a1 a2 a3 a4 a5 a6 a7 a8 a9 a10 a11 a12 w_thrown_J36 w_size_J36 w_kinds_J36 w_as_J36 w_bs_J36 w_registers w_isMade_J36 w_steps w_stepParts w_pieces w_pieceParts w_slots w_areCounted w_registerOf w_slotOf w_pieceOf w_heldBy w_isSlotTaken w_outputs w_output x1_J36 x2_J36 (-1) (u57_0, u57_1, u57_2, u57_3, u57_4, u57_5) hf57) ⟨hx, hb, hml, hown, hts⟩ (cwV 3 hts gX5_pass_X5_append rfl rfl rfl (by decide +kernel) ⟨Nat.le_of_ble_eq_true rfl, Nat.le_of_ble_eq_true rfl⟩) hK hP hD hS hA [0, 1, 2, 3, 4, 5, 6, 7, 8, 9, 10, 11, 12] [] 13 rfl rfl kR0 rfl (by decide +kernel) rfl rfl rfl rfl hl.1 rfl (Nat.le_of_ble_eq_true rfl) dX5_pass_57 ⟨Nat.le_of_ble_eq_true rfl, Nat.le_of_ble_eq_true rfl⟩ (fun H locs hP hD hS => ?_)
      obtain rfl := Option.some.inj hf
      exact ret _ _ _ _ dX5_pass_60 rfl hP hD hS
    · have hf := kit c_42 hf
      refine lv_aload_n hx hb dX5_pass_45 rfl (lv_at hl 0 rfl) ?_
      refine lv_iconst (v := 3) hx hb dX5_pass_46 (by decide) ?_
      obtain ⟨⟨u47_0, u47_1⟩, hf47, hf⟩ := kbd hf
      try dsimp only at hf
      refine kc_Vi (As := [.int 3]) (rest := []) (wf := (PX5 a0 a1 a2 a3 a4 a5 a6 a7 a8 a9 a10 a11 a12 cyI cyZ u47_1 w_size_J36 w_kinds_J36 w_as_J36 w_bs_J36 w_registers w_isMade_J36 w_steps w_stepParts w_pieces w_pieceParts w_slots w_areCounted w_registerOf w_slotOf w_pieceOf w_heldBy w_isSlotTaken w_outputs w_output)) (c_X5_fail l D cyI cyZ a0 a1 a2 a3 a4 a5 a6 a7 a8 a9 a10 a11 a12 w_thrown_J36 w_size_J36 w_kinds_J36 w_as_J36 w_bs_J36 w_registers w_isMade_J36 w_steps w_stepParts w_pieces w_pieceParts w_slots w_areCounted w_registerOf w_slotOf w_pieceOf w_heldBy w_isSlotTaken w_outputs w_output 3 (u47_0, u47_1) hf47) ⟨hx, hb, hml, hown, hts⟩ (cwV 1 hts gX5_pass_X5_fail rfl rfl rfl (by decide +kernel) ⟨Nat.le_of_ble_eq_true rfl, Nat.le_of_ble_eq_true rfl⟩) hK hP hD hS hA [0, 1, 2, 3, 4, 5, 6, 7, 8, 9, 10, 11, 12] [] 13 rfl rfl kR0 rfl (by decide +kernel) rfl rfl rfl rfl hl.1 rfl (Nat.le_of_ble_eq_true rfl) dX5_pass_47 ⟨Nat.le_of_ble_eq_true rfl, Nat.le_of_ble_eq_true rfl⟩ (fun H locs hP hD hS => ?_)
      refine lv_goto (tgt := 60) hx hb dX5_pass_50 (by decide) ?_
      obtain rfl := Option.some.inj hf
      exact ret _ _ _ _ dX5_pass_60 rfl hP hD hS
  rw [f_X5_pass] at hf
  refine lv_aload_n hx hb dX5_pass_0 rfl (lv_at hl 0 rfl) ?_
  refine lv_iconst (v := 0) hx hb dX5_pass_1 (by decide) ?_
  refine va_put (D := D) (ci := 5) (v := .int 0) (ty := .int) (C := RX5) (T := TX5) (N := 20) hx hb hts i_X5 tyX5 tyX5_ok nmX5 hown hK hP hD hS 0 rfl rfl 0 (by decide) k51 (fun _ h9 => h9) rfl (by decide +kernel) rfl (by first | rfl | decide) (Nat.le_of_ble_eq_true rfl) dX5_pass_2 (fun H locs hP hD hS => ?_)
  have hP : va_P D vwCl (PX5 a0 a1 a2 a3 a4 a5 a6 a7 a8 a9 a10 a11 a12 cyI cyZ 0 w_size w_kinds w_as w_bs w_registers w_isMade w_steps w_stepParts w_pieces w_pieceParts w_slots w_areCounted w_registerOf w_slotOf w_pieceOf w_heldBy w_isSlotTaken w_outputs w_output) H := hP
  have hD : va_D A (PX5 a0 a1 a2 a3 a4 a5 a6 a7 a8 a9 a10 a11 a12 cyI cyZ 0 w_size w_kinds w_as w_bs w_registers w_isMade w_steps w_stepParts w_pieces w_pieceParts w_slots w_areCounted w_registerOf w_slotOf w_pieceOf w_heldBy w_isSlotTaken w_outputs w_output) := hD
  refine lv_aload_n hx hb dX5_pass_5 rfl (lv_at hl 0 rfl) ?_
  refine lv_iload_n hx hb dX5_pass_6 rfl (lv_at hl 2 rfl) ?_
  obtain ⟨u7, hf7, hf⟩ := kbd hf
  refine kc_Vi (As := [.int p2]) (rest := []) (wf := (PX5 a0 a1 a2 a3 a4 a5 a6 a7 a8 a9 a10 a11 a12 cyI cyZ 0 w_size w_kinds w_as w_bs w_registers w_isMade w_steps w_stepParts w_pieces w_pieceParts w_slots w_areCounted w_registerOf w_slotOf w_pieceOf w_heldBy w_isSlotTaken w_outputs w_output)) (c_X5_hasValue l D cyI cyZ a0 a1 a2 a3 a4 a5 a6 a7 a8 a9 a10 a11 a12 0 w_size w_kinds w_as w_bs w_registers w_isMade w_steps w_stepParts w_pieces w_pieceParts w_slots w_areCounted w_registerOf w_slotOf w_pieceOf w_heldBy w_isSlotTaken w_outputs w_output p2 u7 hf7) ⟨hx, hb, hml, hown, hts⟩ (cwV 1 hts gX5_pass_X5_hasValue rfl rfl rfl (by decide +kernel) ⟨Nat.le_of_ble_eq_true rfl, Nat.le_of_ble_eq_true rfl⟩) hK hP hD hS hA [0, 1, 2, 3, 4, 5, 6, 7, 8, 9, 10, 11, 12] [] 13 rfl rfl kR0 rfl (by decide +kernel) rfl rfl rfl rfl hl.1 rfl (Nat.le_of_ble_eq_true rfl) dX5_pass_7 ⟨Nat.le_of_ble_eq_true rfl, Nat.le_of_ble_eq_true rfl⟩ (fun H locs hP hD hS => ?_)
  refine lv_if_ne (tgt := 19) hx hb dX5_pass_10 (by decide) (fun c_10 => ?_) (fun c_10 => ?_)
  · have hf := kif c_10 hf
    refine lv_iload_n hx hb dX5_pass_19 rfl (lv_at hl 1 rfl) ?_
    refine lv_iconst (v := 5) hx hb dX5_pass_20 (by decide) ?_
    refine lv_icmp_eq (tgt := 36) hx hb dX5_pass_21 (by decide) (fun c_21 => ?_) (fun c_21 => ?_)
    · have hf := kit c_21 hf
      exact J36 p1 p2 0 w_size w_kinds w_as w_bs w_isMade hf _ _ _ hP hD hS (lv_sub hl [0, 1, 2] rfl)
    · have hf := kif c_21 hf
      refine lv_iload_n hx hb dX5_pass_24 rfl (lv_at hl 1 rfl) ?_
      refine lv_bipush (v := 6) hx hb dX5_pass_25 (by decide) ?_
      refine lv_icmp_eq (tgt := 36) hx hb dX5_pass_27 (by decide) (fun c_27 => ?_) (fun c_27 => ?_)
      · have hf := kit c_27 hf
        exact J36 p1 p2 0 w_size w_kinds w_as w_bs w_isMade hf _ _ _ hP hD hS (lv_sub hl [0, 1, 2] rfl)
      · have hf := kif c_27 hf
        refine lv_aload_n hx hb dX5_pass_30 rfl (lv_at hl 0 rfl) ?_
        refine lv_iconst (v := 2) hx hb dX5_pass_31 (by decide) ?_
        obtain ⟨⟨u32_0, u32_1⟩, hf32, hf⟩ := kbd hf
        try dsimp only at hf
        refine kc_Vi (As := [.int 2]) (rest := []) (wf := (PX5 a0 a1 a2 a3 a4 a5 a6 a7 a8 a9 a10 a11 a12 cyI cyZ u32_1 w_size w_kinds w_as w_bs w_registers w_isMade w_steps w_stepParts w_pieces w_pieceParts w_slots w_areCounted w_registerOf w_slotOf w_pieceOf w_heldBy w_isSlotTaken w_outputs w_output)) (c_X5_fail l D cyI cyZ a0 a1 a2 a3 a4 a5 a6 a7 a8 a9 a10 a11 a12 0 w_size w_kinds w_as w_bs w_registers w_isMade w_steps w_stepParts w_pieces w_pieceParts w_slots w_areCounted w_registerOf w_slotOf w_pieceOf w_heldBy w_isSlotTaken w_outputs w_output 2 (u32_0, u32_1) hf32) ⟨hx, hb, hml, hown, hts⟩ (cwV 1 hts gX5_pass_X5_fail rfl rfl rfl (by decide +kernel) ⟨Nat.le_of_ble_eq_true rfl, Nat.le_of_ble_eq_true rfl⟩) hK hP hD hS hA [0, 1, 2, 3, 4, 5, 6, 7, 8, 9, 10, 11, 12] [] 13 rfl rfl kR0 rfl (by decide +kernel) rfl rfl rfl rfl hl.1 rfl (Nat.le_of_ble_eq_true rfl) dX5_pass_32 ⟨Nat.le_of_ble_eq_true rfl, Nat.le_of_ble_eq_true rfl⟩ (fun H locs hP hD hS => ?_)
        obtain rfl := Option.some.inj hf
        exact ret _ _ _ _ dX5_pass_35 rfl hP hD hS
  · have hf := kit c_10 hf
    refine lv_aload_n hx hb dX5_pass_13 rfl (lv_at hl 0 rfl) ?_
    refine lv_iconst (v := 1) hx hb dX5_pass_14 (by decide) ?_
    obtain ⟨⟨u15_0, u15_1⟩, hf15, hf⟩ := kbd hf
    try dsimp only at hf
    refine kc_Vi (As := [.int 1]) (rest := []) (wf := (PX5 a0 a1 a2 a3 a4 a5 a6 a7 a8 a9 a10 a11 a12 cyI cyZ u15_1 w_size w_kinds w_as w_bs w_registers w_isMade w_steps w_stepParts w_pieces w_pieceParts w_slots w_areCounted w_registerOf w_slotOf w_pieceOf w_heldBy w_isSlotTaken w_outputs w_output)) (c_X5_fail l D cyI cyZ a0 a1 a2 a3 a4 a5 a6 a7 a8 a9 a10 a11 a12 0 w_size w_kinds w_as w_bs w_registers w_isMade w_steps w_stepParts w_pieces w_pieceParts w_slots w_areCounted w_registerOf w_slotOf w_pieceOf w_heldBy w_isSlotTaken w_outputs w_output 1 (u15_0, u15_1) hf15) ⟨hx, hb, hml, hown, hts⟩ (cwV 1 hts gX5_pass_X5_fail rfl rfl rfl (by decide +kernel) ⟨Nat.le_of_ble_eq_true rfl, Nat.le_of_ble_eq_true rfl⟩) hK hP hD hS hA [0, 1, 2, 3, 4, 5, 6, 7, 8, 9, 10, 11, 12] [] 13 rfl rfl kR0 rfl (by decide +kernel) rfl rfl rfl rfl hl.1 rfl (Nat.le_of_ble_eq_true rfl) dX5_pass_15 ⟨Nat.le_of_ble_eq_true rfl, Nat.le_of_ble_eq_true rfl⟩ (fun H locs hP hD hS => ?_)
    obtain rfl := Option.some.inj hf
    exact ret _ _ _ _ dX5_pass_18 rfl hP hD hS

abbrev rmX5_change : Room := { frames := 1, cells := 0, slots := 0, locals := 21 }
set_option maxHeartbeats 4000000 in
set_option maxRecDepth 100000 in
theorem c_X5_change (l : Launch) (D : va_G) (cyI cyZ : ClassId) (a0 a1 a2 a3 a4 a5 a6 a7 a8 a9 a10 a11 a12 : Nat) (w_thrown : Int32) (w_size : Int32) (w_kinds : Nat → Int32) (w_as : Nat → Int32) (w_bs : Nat → Int32) (w_registers : Int32) (w_isMade : Int32) (w_steps : Int32) (w_stepParts : Nat → Int32) (w_pieces : Int32) (w_pieceParts : Nat → Int32) (w_slots : Int32) (w_areCounted : Nat → Int32) (w_registerOf : Nat → Int32) (w_slotOf : Nat → Int32) (w_pieceOf : Nat → Int32) (w_heldBy : Nat → Int32) (w_isSlotTaken : Nat → Int32) (w_outputs : Int32) (w_output : Nat → Int32) (p1 : Int32) (p2 : Int32) (o : Int32 × Int32 × (Nat → Int32) × Int32) (hf : f_X5_change p1 p2 w_size w_kinds w_as w_isMade = some o) : kMi l yX5_change wsX5_change rmX5_change [.ref a0, .int p1, .int p2] D (PX5 a0 a1 a2 a3 a4 a5 a6 a7 a8 a9 a10 a11 a12 cyI cyZ w_thrown w_size w_kinds w_as w_bs w_registers w_isMade w_steps w_stepParts w_pieces w_pieceParts w_slots w_areCounted w_registerOf w_slotOf w_pieceOf w_heldBy w_isSlotTaken w_outputs w_output) (PX5 a0 a1 a2 a3 a4 a5 a6 a7 a8 a9 a10 a11 a12 cyI cyZ o.2.1 w_size w_kinds o.2.2.1 w_bs w_registers o.2.2.2 w_steps w_stepParts w_pieces w_pieceParts w_slots w_areCounted w_registerOf w_slotOf w_pieceOf w_heldBy w_isSlotTaken w_outputs w_output) (kT cyI cyZ) o.1 0 0 := by
  refine kOf_i (cc := cX5_change) (maxL := 4) (ty := .int) (by decide +kernel) rfl (Nat.le_of_ble_eq_true rfl) ?_
  intro p e s m args below meth c A Z ls C0 hP hK hD hA hl ret
  obtain ⟨hx, hb, hr, hml, hown, hts, hlocks⟩ := C0
  have hown : s.vm.findClass RX5 = some m.cls := hown
  have hl : lv_has ls 4 [(0, .ref a0), (1, .int p1), (2, .int p2)] := hl
  have hS : va_S A s.heap s.heap [] := va_S.rf
  have i_X5 : ∀ w ∈ wsX50, w ∈ wsX5_change := by decide +kernel
  have k13 := hts (.fieldLink RX5 13 "RegisterAllocatorModel" "as" "[I") (by decide +kernel)
  have k51 := hts (.fieldLink RX5 51 "RegisterAllocatorModel" "thrown" "I") (by decide +kernel)
  have k61 := hts (.fieldLink RX5 61 "RegisterAllocatorModel" "isMade" "Z") (by decide +kernel)
  have k9 := hts (.fieldLink RX5 9 "RegisterAllocatorModel" "kinds" "[I") (by decide +kernel)
  rw [f_X5_change] at hf
  refine lv_aload_n hx hb dX5_change_0 rfl (lv_at hl 0 rfl) ?_
  refine lv_iconst (v := 0) hx hb dX5_change_1 (by decide) ?_
  refine va_put (D := D) (ci := 5) (v := .int 0) (ty := .int) (C := RX5) (T := TX5) (N := 20) hx hb hts i_X5 tyX5 tyX5_ok nmX5 hown hK hP hD hS 0 rfl rfl 0 (by decide) k51 (fun _ h9 => h9) rfl (by decide +kernel) rfl (by first | rfl | decide) (Nat.le_of_ble_eq_true rfl) dX5_change_2 (fun H locs hP hD hS => ?_)
  have hP : va_P D vwCl (PX5 a0 a1 a2 a3 a4 a5 a6 a7 a8 a9 a10 a11 a12 cyI cyZ 0 w_size w_kinds w_as w_bs w_registers w_isMade w_steps w_stepParts w_pieces w_pieceParts w_slots w_areCounted w_registerOf w_slotOf w_pieceOf w_heldBy w_isSlotTaken w_outputs w_output) H := hP
  have hD : va_D A (PX5 a0 a1 a2 a3 a4 a5 a6 a7 a8 a9 a10 a11 a12 cyI cyZ 0 w_size w_kinds w_as w_bs w_registers w_isMade w_steps w_stepParts w_pieces w_pieceParts w_slots w_areCounted w_registerOf w_slotOf w_pieceOf w_heldBy w_isSlotTaken w_outputs w_output) := hD
  refine lv_aload_n hx hb dX5_change_5 rfl (lv_at hl 0 rfl) ?_
  refine lv_iload_n hx hb dX5_change_6 rfl (lv_at hl 1 rfl) ?_
  obtain ⟨u7, hf7, hf⟩ := kbd hf
  refine kc_Vi (As := [.int p1]) (rest := []) (wf := (PX5 a0 a1 a2 a3 a4 a5 a6 a7 a8 a9 a10 a11 a12 cyI cyZ 0 w_size w_kinds w_as w_bs w_registers w_isMade w_steps w_stepParts w_pieces w_pieceParts w_slots w_areCounted w_registerOf w_slotOf w_pieceOf w_heldBy w_isSlotTaken w_outputs w_output)) (c_X5_isInstruction l D cyI cyZ a0 a1 a2 a3 a4 a5 a6 a7 a8 a9 a10 a11 a12 0 w_size w_kinds w_as w_bs w_registers w_isMade w_steps w_stepParts w_pieces w_pieceParts w_slots w_areCounted w_registerOf w_slotOf w_pieceOf w_heldBy w_isSlotTaken w_outputs w_output p1 u7 hf7) ⟨hx, hb, hml, hown, hts⟩ (cwV 1 hts gX5_change_X5_isInstruction rfl rfl rfl (by decide +kernel) ⟨Nat.le_of_ble_eq_true rfl, Nat.le_of_ble_eq_true rfl⟩) hK hP hD hS hA [0, 1, 2, 3, 4, 5, 6, 7, 8, 9, 10, 11, 12] [] 13 rfl rfl kR0 rfl (by decide +kernel) rfl rfl rfl rfl hl.1 rfl (Nat.le_of_ble_eq_true rfl) dX5_change_7 ⟨Nat.le_of_ble_eq_true rfl, Nat.le_of_ble_eq_true rfl⟩ (fun H locs hP hD hS => ?_)
  refine lv_if_ne (tgt := 19) hx hb dX5_change_10 (by decide) (fun c_10 => ?_) (fun c_10 => ?_)
  · have hf := kif c_10 hf
    refine lv_aload_n hx hb dX5_change_19 rfl (lv_at hl 0 rfl) ?_
    refine va_get (D := D) (ci := 5) (v := .ref a1) (C := RX5) (T := TX5) (N := 20) hx hb hts i_X5 hown hK hP 0 rfl rfl 2 (by decide) k9 (fun _ h9 => h9) rfl dX5_change_20 ?_
    refine lv_iload_n hx hb dX5_change_23 rfl (lv_at hl 1 rfl) ?_
    obtain ⟨h_24, hf⟩ := rdc_some hf
    refine va_iald hx hb hK hP 1 0 rfl rfl h_24 dX5_change_24 ?_
    refine lv_if_eq (tgt := 34) hx hb dX5_change_25 (by decide) (fun c_25 => ?_) (fun c_25 => ?_)
    · have hf := kit c_25 hf
      refine lv_aload_n hx hb dX5_change_34 rfl (lv_at hl 0 rfl) ?_
      refine va_get (D := D) (ci := 5) (v := .ref a2) (C := RX5) (T := TX5) (N := 20) hx hb hts i_X5 hown hK hP 0 rfl rfl 3 (by decide) k13 (fun _ h9 => h9) rfl dX5_change_35 ?_
      refine lv_iload_n hx hb dX5_change_38 rfl (lv_at hl 1 rfl) ?_
      obtain ⟨h_39, hf⟩ := rdc_some hf
      refine va_iald hx hb hK hP 2 0 rfl rfl h_39 dX5_change_39 ?_
      refine lv_istore_n (lv' := [(3, .int (w_as p1.toNatClampNeg)), (0, .ref a0), (1, .int p1), (2, .int p2)]) hx hb dX5_change_40 rfl hl (by decide) rfl (fun ls hl => ?_)
      refine lv_aload_n hx hb dX5_change_41 rfl (lv_at hl 1 rfl) ?_
      refine va_get (D := D) (ci := 5) (v := .ref a2) (C := RX5) (T := TX5) (N := 20) hx hb hts i_X5 hown hK hP 0 rfl rfl 3 (by decide) k13 (fun _ h9 => h9) rfl dX5_change_42 ?_
      refine lv_iload_n hx hb dX5_change_45 rfl (lv_at hl 2 rfl) ?_
      refine lv_iload_n hx hb dX5_change_46 rfl (lv_at hl 3 rfl) ?_
      obtain ⟨h_47, hf⟩ := rdc_some hf
      refine va_iast hx hb hK hP hD hS 2 0 rfl rfl h_47 dX5_change_47 (fun H locs hP hD hS => ?_)
      have hP : va_P D vwCl (PX5 a0 a1 a2 a3 a4 a5 a6 a7 a8 a9 a10 a11 a12 cyI cyZ 0 w_size w_kinds (upd w_as p1.toNatClampNeg p2) w_bs w_registers w_isMade w_steps w_stepParts w_pieces w_pieceParts w_slots w_areCounted w_registerOf w_slotOf w_pieceOf w_heldBy w_isSlotTaken w_outputs w_output) H := hP
      have hD : va_D A (PX5 a0 a1 a2 a3 a4 a5 a6 a7 a8 a9 a10 a11 a12 cyI cyZ 0 w_size w_kinds (upd w_as p1.toNatClampNeg p2) w_bs w_registers w_isMade w_steps w_stepParts w_pieces w_pieceParts w_slots w_areCounted w_registerOf w_slotOf w_pieceOf w_heldBy w_isSlotTaken w_outputs w_output) := hD
      refine lv_aload_n hx hb dX5_change_48 rfl (lv_at hl 1 rfl) ?_
      refine lv_iconst (v := 0) hx hb dX5_change_49 (by decide) ?_
      refine va_put (D := D) (ci := 5) (v := .int 0) (ty := .boolean) (C := RX5) (T := TX5) (N := 20) hx hb hts i_X5 tyX5 tyX5_ok nmX5 hown hK hP hD hS 0 rfl rfl 6 (by decide) k61 (fun _ h9 => h9) rfl (by decide +kernel) (by decide) (by first | rfl | decide) (Nat.le_of_ble_eq_true rfl) dX5_change_50 (fun H locs hP hD hS => ?_)
      have hP : va_P D vwCl (PX5 a0 a1 a2 a3 a4 a5 a6 a7 a8 a9 a10 a11 a12 cyI cyZ 0 w_size w_kinds (upd w_as p1.toNatClampNeg p2) w_bs w_registers 0 w_steps w_stepParts w_pieces w_pieceParts w_slots w_areCounted w_registerOf w_slotOf w_pieceOf w_heldBy w_isSlotTaken w_outputs w_output) H := hP
      have hD : va_D A (PX5 a0 a1 a2 a3 a4 a5 a6 a7 a8 a9 a10 a11 a12 cyI cyZ 0 w_size w_kinds (upd w_as p1.toNatClampNeg p2) w_bs w_registers 0 w_steps w_stepParts w_pieces w_pieceParts w_slots w_areCounted w_registerOf w_slotOf w_pieceOf w_heldBy w_isSlotTaken w_outputs w_output) := hD
      refine lv_iload_n hx hb dX5_change_53 rfl (lv_at hl 0 rfl) ?_
      obtain rfl := Option.some.inj hf
      exact ret _ _ _ _ dX5_change_54 rfl hP hD hS
    · have hf := kif c_25 hf
      refine lv_aload_n hx hb dX5_change_28 rfl (lv_at hl 0 rfl) ?_
      refine lv_iconst (v := 2) hx hb dX5_change_29 (by decide) ?_
      obtain ⟨⟨u30_0, u30_1⟩, hf30, hf⟩ := kbd hf
      try dsimp only at hf
      refine kc_Vi (As := [.int 2]) (rest := []) (wf := (PX5 a0 a1 a2 a3 a4 a5 a6 a7 a8 a9 a10 a11 a12 cyI cyZ u30_1 w_size w_kinds w_as w_bs w_registers w_isMade w_steps w_stepParts w_pieces w_pieceParts w_slots w_areCounted w_registerOf w_slotOf w_pieceOf w_heldBy w_isSlotTaken w_outputs w_output)) (c_X5_fail l D cyI cyZ a0 a1 a2 a3 a4 a5 a6 a7 a8 a9 a10 a11 a12 0 w_size w_kinds w_as w_bs w_registers w_isMade w_steps w_stepParts w_pieces w_pieceParts w_slots w_areCounted w_registerOf w_slotOf w_pieceOf w_heldBy w_isSlotTaken w_outputs w_output 2 (u30_0, u30_1) hf30) ⟨hx, hb, hml, hown, hts⟩ (cwV 1 hts gX5_change_X5_fail rfl rfl rfl (by decide +kernel) ⟨Nat.le_of_ble_eq_true rfl, Nat.le_of_ble_eq_true rfl⟩) hK hP hD hS hA [0, 1, 2, 3, 4, 5, 6, 7, 8, 9, 10, 11, 12] [] 13 rfl rfl kR0 rfl (by decide +kernel) rfl rfl rfl rfl hl.1 rfl (Nat.le_of_ble_eq_true rfl) dX5_change_30 ⟨Nat.le_of_ble_eq_true rfl, Nat.le_of_ble_eq_true rfl⟩ (fun H locs hP hD hS => ?_)
      obtain rfl := Option.some.inj hf
      exact ret _ _ _ _ dX5_change_33 rfl hP hD hS
  · have hf := kit c_10 hf
    refine lv_aload_n hx hb dX5_change_13 rfl (lv_at hl 0 rfl) ?_
    refine lv_iconst (v := 1) hx hb dX5_change_14 (by decide) ?_
    obtain ⟨⟨u15_0, u15_1⟩, hf15, hf⟩ := kbd hf
    try dsimp only at hf
    refine kc_Vi (As := [.int 1]) (rest := []) (wf := (PX5 a0 a1 a2 a3 a4 a5 a6 a7 a8 a9 a10 a11 a12 cyI cyZ u15_1 w_size w_kinds w_as w_bs w_registers w_isMade w_steps w_stepParts w_pieces w_pieceParts w_slots w_areCounted w_registerOf w_slotOf w_pieceOf w_heldBy w_isSlotTaken w_outputs w_output)) (c_X5_fail l D cyI cyZ a0 a1 a2 a3 a4 a5 a6 a7 a8 a9 a10 a11 a12 0 w_size w_kinds w_as w_bs w_registers w_isMade w_steps w_stepParts w_pieces w_pieceParts w_slots w_areCounted w_registerOf w_slotOf w_pieceOf w_heldBy w_isSlotTaken w_outputs w_output 1 (u15_0, u15_1) hf15) ⟨hx, hb, hml, hown, hts⟩ (cwV 1 hts gX5_change_X5_fail rfl rfl rfl (by decide +kernel) ⟨Nat.le_of_ble_eq_true rfl, Nat.le_of_ble_eq_true rfl⟩) hK hP hD hS hA [0, 1, 2, 3, 4, 5, 6, 7, 8, 9, 10, 11, 12] [] 13 rfl rfl kR0 rfl (by decide +kernel) rfl rfl rfl rfl hl.1 rfl (Nat.le_of_ble_eq_true rfl) dX5_change_15 ⟨Nat.le_of_ble_eq_true rfl, Nat.le_of_ble_eq_true rfl⟩ (fun H locs hP hD hS => ?_)
    obtain rfl := Option.some.inj hf
    exact ret _ _ _ _ dX5_change_18 rfl hP hD hS

abbrev rmX5_cut : Room := { frames := 1, cells := 0, slots := 0, locals := 21 }
set_option maxHeartbeats 4000000 in
set_option maxRecDepth 100000 in
theorem c_X5_cut (l : Launch) (D : va_G) (cyI cyZ : ClassId) (a0 a1 a2 a3 a4 a5 a6 a7 a8 a9 a10 a11 a12 : Nat) (w_thrown : Int32) (w_size : Int32) (w_kinds : Nat → Int32) (w_as : Nat → Int32) (w_bs : Nat → Int32) (w_registers : Int32) (w_isMade : Int32) (w_steps : Int32) (w_stepParts : Nat → Int32) (w_pieces : Int32) (w_pieceParts : Nat → Int32) (w_slots : Int32) (w_areCounted : Nat → Int32) (w_registerOf : Nat → Int32) (w_slotOf : Nat → Int32) (w_pieceOf : Nat → Int32) (w_heldBy : Nat → Int32) (w_isSlotTaken : Nat → Int32) (w_outputs : Int32) (w_output : Nat → Int32) (p1 : Int32) (o : Int32 × Int32 × Int32 × Int32) (hf : f_X5_cut p1 w_size w_isMade = some o) : kMi l yX5_cut wsX5_cut rmX5_cut [.ref a0, .int p1] D (PX5 a0 a1 a2 a3 a4 a5 a6 a7 a8 a9 a10 a11 a12 cyI cyZ w_thrown w_size w_kinds w_as w_bs w_registers w_isMade w_steps w_stepParts w_pieces w_pieceParts w_slots w_areCounted w_registerOf w_slotOf w_pieceOf w_heldBy w_isSlotTaken w_outputs w_output) (PX5 a0 a1 a2 a3 a4 a5 a6 a7 a8 a9 a10 a11 a12 cyI cyZ o.2.1 o.2.2.1 w_kinds w_as w_bs w_registers o.2.2.2 w_steps w_stepParts w_pieces w_pieceParts w_slots w_areCounted w_registerOf w_slotOf w_pieceOf w_heldBy w_isSlotTaken w_outputs w_output) (kT cyI cyZ) o.1 0 0 := by
  refine kOf_i (cc := cX5_cut) (maxL := 2) (ty := .int) (by decide +kernel) rfl (Nat.le_of_ble_eq_true rfl) ?_
  intro p e s m args below meth c A Z ls C0 hP hK hD hA hl ret
  obtain ⟨hx, hb, hr, hml, hown, hts, hlocks⟩ := C0
  have hown : s.vm.findClass RX5 = some m.cls := hown
  have hl : lv_has ls 2 [(0, .ref a0), (1, .int p1)] := hl
  have hS : va_S A s.heap s.heap [] := va_S.rf
  have i_X5 : ∀ w ∈ wsX50, w ∈ wsX5_cut := by decide +kernel
  have k51 := hts (.fieldLink RX5 51 "RegisterAllocatorModel" "thrown" "I") (by decide +kernel)
  have k54 := hts (.fieldLink RX5 54 "RegisterAllocatorModel" "size" "I") (by decide +kernel)
  have k61 := hts (.fieldLink RX5 61 "RegisterAllocatorModel" "isMade" "Z") (by decide +kernel)
  rw [f_X5_cut] at hf
  refine lv_aload_n hx hb dX5_cut_0 rfl (lv_at hl 0 rfl) ?_
  refine lv_iconst (v := 0) hx hb dX5_cut_1 (by decide) ?_
  refine va_put (D := D) (ci := 5) (v := .int 0) (ty := .int) (C := RX5) (T := TX5) (N := 20) hx hb hts i_X5 tyX5 tyX5_ok nmX5 hown hK hP hD hS 0 rfl rfl 0 (by decide) k51 (fun _ h9 => h9) rfl (by decide +kernel) rfl (by first | rfl | decide) (Nat.le_of_ble_eq_true rfl) dX5_cut_2 (fun H locs hP hD hS => ?_)
  have hP : va_P D vwCl (PX5 a0 a1 a2 a3 a4 a5 a6 a7 a8 a9 a10 a11 a12 cyI cyZ 0 w_size w_kinds w_as w_bs w_registers w_isMade w_steps w_stepParts w_pieces w_pieceParts w_slots w_areCounted w_registerOf w_slotOf w_pieceOf w_heldBy w_isSlotTaken w_outputs w_output) H := hP
  have hD : va_D A (PX5 a0 a1 a2 a3 a4 a5 a6 a7 a8 a9 a10 a11 a12 cyI cyZ 0 w_size w_kinds w_as w_bs w_registers w_isMade w_steps w_stepParts w_pieces w_pieceParts w_slots w_areCounted w_registerOf w_slotOf w_pieceOf w_heldBy w_isSlotTaken w_outputs w_output) := hD
  refine lv_iload_n hx hb dX5_cut_5 rfl (lv_at hl 1 rfl) ?_
  refine lv_if_lt (tgt := 17) hx hb dX5_cut_6 (by decide) (fun c_6 => ?_) (fun c_6 => ?_)
  · have hf := kit c_6 hf
    refine lv_aload_n hx hb dX5_cut_17 rfl (lv_at hl 0 rfl) ?_
    refine lv_iconst (v := 1) hx hb dX5_cut_18 (by decide) ?_
    obtain ⟨⟨u19_0, u19_1⟩, hf19, hf⟩ := kbd hf
    try dsimp only at hf
    refine kc_Vi (As := [.int 1]) (rest := []) (wf := (PX5 a0 a1 a2 a3 a4 a5 a6 a7 a8 a9 a10 a11 a12 cyI cyZ u19_1 w_size w_kinds w_as w_bs w_registers w_isMade w_steps w_stepParts w_pieces w_pieceParts w_slots w_areCounted w_registerOf w_slotOf w_pieceOf w_heldBy w_isSlotTaken w_outputs w_output)) (c_X5_fail l D cyI cyZ a0 a1 a2 a3 a4 a5 a6 a7 a8 a9 a10 a11 a12 0 w_size w_kinds w_as w_bs w_registers w_isMade w_steps w_stepParts w_pieces w_pieceParts w_slots w_areCounted w_registerOf w_slotOf w_pieceOf w_heldBy w_isSlotTaken w_outputs w_output 1 (u19_0, u19_1) hf19) ⟨hx, hb, hml, hown, hts⟩ (cwV 1 hts gX5_cut_X5_fail rfl rfl rfl (by decide +kernel) ⟨Nat.le_of_ble_eq_true rfl, Nat.le_of_ble_eq_true rfl⟩) hK hP hD hS hA [0, 1, 2, 3, 4, 5, 6, 7, 8, 9, 10, 11, 12] [] 13 rfl rfl kR0 rfl (by decide +kernel) rfl rfl rfl rfl hl.1 rfl (Nat.le_of_ble_eq_true rfl) dX5_cut_19 ⟨Nat.le_of_ble_eq_true rfl, Nat.le_of_ble_eq_true rfl⟩ (fun H locs hP hD hS => ?_)
    obtain rfl := Option.some.inj hf
    exact ret _ _ _ _ dX5_cut_22 rfl hP hD hS
  · have hf := kif c_6 hf
    refine lv_iload_n hx hb dX5_cut_9 rfl (lv_at hl 1 rfl) ?_
    refine lv_aload_n hx hb dX5_cut_10 rfl (lv_at hl 0 rfl) ?_
    refine va_get (D := D) (ci := 5) (v := .int w_size) (C := RX5) (T := TX5) (N := 20) hx hb hts i_X5 hown hK hP 0 rfl rfl 1 (by decide) k54 (fun _ h9 => h9) rfl dX5_cut_11 ?_
    refine lv_icmp_le (tgt := 23) hx hb dX5_cut_14 (by decide) (fun c_14 => ?_) (fun c_14 => ?_)
    · have hf := kit c_14 hf
      refine lv_aload_n hx hb dX5_cut_23 rfl (lv_at hl 0 rfl) ?_
      refine lv_dup hx hb dX5_cut_24 rfl ?_
      refine va_get (D := D) (ci := 5) (v := .int w_size) (C := RX5) (T := TX5) (N := 20) hx hb hts i_X5 hown hK hP 0 rfl rfl 1 (by decide) k54 (fun _ h9 => h9) rfl dX5_cut_25 ?_
      refine lv_iload_n hx hb dX5_cut_28 rfl (lv_at hl 1 rfl) ?_
      refine lv_isub hx hb dX5_cut_29 ?_
      refine va_put (D := D) (ci := 5) (v := .int (w_size - p1)) (ty := .int) (C := RX5) (T := TX5) (N := 20) hx hb hts i_X5 tyX5 tyX5_ok nmX5 hown hK hP hD hS 0 rfl rfl 1 (by decide) k54 (fun _ h9 => h9) rfl (by decide +kernel) rfl (by first | rfl | decide) (Nat.le_of_ble_eq_true rfl) dX5_cut_30 (fun H locs hP hD hS => ?_)
      have hP : va_P D vwCl (PX5 a0 a1 a2 a3 a4 a5 a6 a7 a8 a9 a10 a11 a12 cyI cyZ 0 (w_size - p1) w_kinds w_as w_bs w_registers w_isMade w_steps w_stepParts w_pieces w_pieceParts w_slots w_areCounted w_registerOf w_slotOf w_pieceOf w_heldBy w_isSlotTaken w_outputs w_output) H := hP
      have hD : va_D A (PX5 a0 a1 a2 a3 a4 a5 a6 a7 a8 a9 a10 a11 a12 cyI cyZ 0 (w_size - p1) w_kinds w_as w_bs w_registers w_isMade w_steps w_stepParts w_pieces w_pieceParts w_slots w_areCounted w_registerOf w_slotOf w_pieceOf w_heldBy w_isSlotTaken w_outputs w_output) := hD
      refine lv_aload_n hx hb dX5_cut_33 rfl (lv_at hl 0 rfl) ?_
      refine lv_iconst (v := 0) hx hb dX5_cut_34 (by decide) ?_
      refine va_put (D := D) (ci := 5) (v := .int 0) (ty := .boolean) (C := RX5) (T := TX5) (N := 20) hx hb hts i_X5 tyX5 tyX5_ok nmX5 hown hK hP hD hS 0 rfl rfl 6 (by decide) k61 (fun _ h9 => h9) rfl (by decide +kernel) (by decide) (by first | rfl | decide) (Nat.le_of_ble_eq_true rfl) dX5_cut_35 (fun H locs hP hD hS => ?_)
      have hP : va_P D vwCl (PX5 a0 a1 a2 a3 a4 a5 a6 a7 a8 a9 a10 a11 a12 cyI cyZ 0 (w_size - p1) w_kinds w_as w_bs w_registers 0 w_steps w_stepParts w_pieces w_pieceParts w_slots w_areCounted w_registerOf w_slotOf w_pieceOf w_heldBy w_isSlotTaken w_outputs w_output) H := hP
      have hD : va_D A (PX5 a0 a1 a2 a3 a4 a5 a6 a7 a8 a9 a10 a11 a12 cyI cyZ 0 (w_size - p1) w_kinds w_as w_bs w_registers 0 w_steps w_stepParts w_pieces w_pieceParts w_slots w_areCounted w_registerOf w_slotOf w_pieceOf w_heldBy w_isSlotTaken w_outputs w_output) := hD
      refine lv_aload_n hx hb dX5_cut_38 rfl (lv_at hl 0 rfl) ?_
      refine va_get (D := D) (ci := 5) (v := .int (w_size - p1)) (C := RX5) (T := TX5) (N := 20) hx hb hts i_X5 hown hK hP 0 rfl rfl 1 (by decide) k54 (fun _ h9 => h9) rfl dX5_cut_39 ?_
      obtain rfl := Option.some.inj hf
      exact ret _ _ _ _ dX5_cut_42 rfl hP hD hS
    · have hf := kif c_14 hf
      refine lv_aload_n hx hb dX5_cut_17 rfl (lv_at hl 0 rfl) ?_
      refine lv_iconst (v := 1) hx hb dX5_cut_18 (by decide) ?_
      obtain ⟨⟨u19_0, u19_1⟩, hf19, hf⟩ := kbd hf
      try dsimp only at hf
      refine kc_Vi (As := [.int 1]) (rest := []) (wf := (PX5 a0 a1 a2 a3 a4 a5 a6 a7 a8 a9 a10 a11 a12 cyI cyZ u19_1 w_size w_kinds w_as w_bs w_registers w_isMade w_steps w_stepParts w_pieces w_pieceParts w_slots w_areCounted w_registerOf w_slotOf w_pieceOf w_heldBy w_isSlotTaken w_outputs w_output)) (c_X5_fail l D cyI cyZ a0 a1 a2 a3 a4 a5 a6 a7 a8 a9 a10 a11 a12 0 w_size w_kinds w_as w_bs w_registers w_isMade w_steps w_stepParts w_pieces w_pieceParts w_slots w_areCounted w_registerOf w_slotOf w_pieceOf w_heldBy w_isSlotTaken w_outputs w_output 1 (u19_0, u19_1) hf19) ⟨hx, hb, hml, hown, hts⟩ (cwV 1 hts gX5_cut_X5_fail rfl rfl rfl (by decide +kernel) ⟨Nat.le_of_ble_eq_true rfl, Nat.le_of_ble_eq_true rfl⟩) hK hP hD hS hA [0, 1, 2, 3, 4, 5, 6, 7, 8, 9, 10, 11, 12] [] 13 rfl rfl kR0 rfl (by decide +kernel) rfl rfl rfl rfl hl.1 rfl (Nat.le_of_ble_eq_true rfl) dX5_cut_19 ⟨Nat.le_of_ble_eq_true rfl, Nat.le_of_ble_eq_true rfl⟩ (fun H locs hP hD hS => ?_)
      obtain rfl := Option.some.inj hf
      exact ret _ _ _ _ dX5_cut_22 rfl hP hD hS

abbrev rmX5_size : Room := { frames := 0, cells := 0, slots := 0, locals := 0 }
set_option maxHeartbeats 4000000 in
set_option maxRecDepth 100000 in
theorem c_X5_size (l : Launch) (D : va_G) (cyI cyZ : ClassId) (a0 a1 a2 a3 a4 a5 a6 a7 a8 a9 a10 a11 a12 : Nat) (w_thrown : Int32) (w_size : Int32) (w_kinds : Nat → Int32) (w_as : Nat → Int32) (w_bs : Nat → Int32) (w_registers : Int32) (w_isMade : Int32) (w_steps : Int32) (w_stepParts : Nat → Int32) (w_pieces : Int32) (w_pieceParts : Nat → Int32) (w_slots : Int32) (w_areCounted : Nat → Int32) (w_registerOf : Nat → Int32) (w_slotOf : Nat → Int32) (w_pieceOf : Nat → Int32) (w_heldBy : Nat → Int32) (w_isSlotTaken : Nat → Int32) (w_outputs : Int32) (w_output : Nat → Int32) (o : Int32 × Int32) (hf : f_X5_size w_size = some o) : kMi l yX5_size wsX5_size rmX5_size [.ref a0] D (PX5 a0 a1 a2 a3 a4 a5 a6 a7 a8 a9 a10 a11 a12 cyI cyZ w_thrown w_size w_kinds w_as w_bs w_registers w_isMade w_steps w_stepParts w_pieces w_pieceParts w_slots w_areCounted w_registerOf w_slotOf w_pieceOf w_heldBy w_isSlotTaken w_outputs w_output) (PX5 a0 a1 a2 a3 a4 a5 a6 a7 a8 a9 a10 a11 a12 cyI cyZ o.2 w_size w_kinds w_as w_bs w_registers w_isMade w_steps w_stepParts w_pieces w_pieceParts w_slots w_areCounted w_registerOf w_slotOf w_pieceOf w_heldBy w_isSlotTaken w_outputs w_output) (kT cyI cyZ) o.1 0 0 := by
  refine kOf_i (cc := cX5_size) (maxL := 1) (ty := .int) (by decide +kernel) rfl (Nat.le_of_ble_eq_true rfl) ?_
  intro p e s m args below meth c A Z ls C0 hP hK hD hA hl ret
  obtain ⟨hx, hb, hr, hml, hown, hts, hlocks⟩ := C0
  have hown : s.vm.findClass RX5 = some m.cls := hown
  have hl : lv_has ls 1 [(0, .ref a0)] := hl
  have hS : va_S A s.heap s.heap [] := va_S.rf
  have i_X5 : ∀ w ∈ wsX50, w ∈ wsX5_size := by decide +kernel
  have k51 := hts (.fieldLink RX5 51 "RegisterAllocatorModel" "thrown" "I") (by decide +kernel)
  have k54 := hts (.fieldLink RX5 54 "RegisterAllocatorModel" "size" "I") (by decide +kernel)
  rw [f_X5_size] at hf
  refine lv_aload_n hx hb dX5_size_0 rfl (lv_at hl 0 rfl) ?_
  refine lv_iconst (v := 0) hx hb dX5_size_1 (by decide) ?_
  refine va_put (D := D) (ci := 5) (v := .int 0) (ty := .int) (C := RX5) (T := TX5) (N := 20) hx hb hts i_X5 tyX5 tyX5_ok nmX5 hown hK hP hD hS 0 rfl rfl 0 (by decide) k51 (fun _ h9 => h9) rfl (by decide +kernel) rfl (by first | rfl | decide) (Nat.le_of_ble_eq_true rfl) dX5_size_2 (fun H locs hP hD hS => ?_)
  have hP : va_P D vwCl (PX5 a0 a1 a2 a3 a4 a5 a6 a7 a8 a9 a10 a11 a12 cyI cyZ 0 w_size w_kinds w_as w_bs w_registers w_isMade w_steps w_stepParts w_pieces w_pieceParts w_slots w_areCounted w_registerOf w_slotOf w_pieceOf w_heldBy w_isSlotTaken w_outputs w_output) H := hP
  have hD : va_D A (PX5 a0 a1 a2 a3 a4 a5 a6 a7 a8 a9 a10 a11 a12 cyI cyZ 0 w_size w_kinds w_as w_bs w_registers w_isMade w_steps w_stepParts w_pieces w_pieceParts w_slots w_areCounted w_registerOf w_slotOf w_pieceOf w_heldBy w_isSlotTaken w_outputs w_output) := hD
  refine lv_aload_n hx hb dX5_size_5 rfl (lv_at hl 0 rfl) ?_
  refine va_get (D := D) (ci := 5) (v := .int w_size) (C := RX5) (T := TX5) (N := 20) hx hb hts i_X5 hown hK hP 0 rfl rfl 1 (by decide) k54 (fun _ h9 => h9) rfl dX5_size_6 ?_
  obtain rfl := Option.some.inj hf
  exact ret _ _ _ _ dX5_size_9 rfl hP hD hS

abbrev rmX5_kind : Room := { frames := 1, cells := 0, slots := 0, locals := 21 }
set_option maxHeartbeats 4000000 in
set_option maxRecDepth 100000 in
theorem c_X5_kind (l : Launch) (D : va_G) (cyI cyZ : ClassId) (a0 a1 a2 a3 a4 a5 a6 a7 a8 a9 a10 a11 a12 : Nat) (w_thrown : Int32) (w_size : Int32) (w_kinds : Nat → Int32) (w_as : Nat → Int32) (w_bs : Nat → Int32) (w_registers : Int32) (w_isMade : Int32) (w_steps : Int32) (w_stepParts : Nat → Int32) (w_pieces : Int32) (w_pieceParts : Nat → Int32) (w_slots : Int32) (w_areCounted : Nat → Int32) (w_registerOf : Nat → Int32) (w_slotOf : Nat → Int32) (w_pieceOf : Nat → Int32) (w_heldBy : Nat → Int32) (w_isSlotTaken : Nat → Int32) (w_outputs : Int32) (w_output : Nat → Int32) (p1 : Int32) (o : Int32 × Int32) (hf : f_X5_kind p1 w_size w_kinds = some o) : kMi l yX5_kind wsX5_kind rmX5_kind [.ref a0, .int p1] D (PX5 a0 a1 a2 a3 a4 a5 a6 a7 a8 a9 a10 a11 a12 cyI cyZ w_thrown w_size w_kinds w_as w_bs w_registers w_isMade w_steps w_stepParts w_pieces w_pieceParts w_slots w_areCounted w_registerOf w_slotOf w_pieceOf w_heldBy w_isSlotTaken w_outputs w_output) (PX5 a0 a1 a2 a3 a4 a5 a6 a7 a8 a9 a10 a11 a12 cyI cyZ o.2 w_size w_kinds w_as w_bs w_registers w_isMade w_steps w_stepParts w_pieces w_pieceParts w_slots w_areCounted w_registerOf w_slotOf w_pieceOf w_heldBy w_isSlotTaken w_outputs w_output) (kT cyI cyZ) o.1 0 0 := by
  refine kOf_i (cc := cX5_kind) (maxL := 2) (ty := .int) (by decide +kernel) rfl (Nat.le_of_ble_eq_true rfl) ?_
  intro p e s m args below meth c A Z ls C0 hP hK hD hA hl ret
  obtain ⟨hx, hb, hr, hml, hown, hts, hlocks⟩ := C0
  have hown : s.vm.findClass RX5 = some m.cls := hown
  have hl : lv_has ls 2 [(0, .ref a0), (1, .int p1)] := hl
  have hS : va_S A s.heap s.heap [] := va_S.rf
  have i_X5 : ∀ w ∈ wsX50, w ∈ wsX5_kind := by decide +kernel
  have k51 := hts (.fieldLink RX5 51 "RegisterAllocatorModel" "thrown" "I") (by decide +kernel)
  have k9 := hts (.fieldLink RX5 9 "RegisterAllocatorModel" "kinds" "[I") (by decide +kernel)
  rw [f_X5_kind] at hf
  refine lv_aload_n hx hb dX5_kind_0 rfl (lv_at hl 0 rfl) ?_
  refine lv_iconst (v := 0) hx hb dX5_kind_1 (by decide) ?_
  refine va_put (D := D) (ci := 5) (v := .int 0) (ty := .int) (C := RX5) (T := TX5) (N := 20) hx hb hts i_X5 tyX5 tyX5_ok nmX5 hown hK hP hD hS 0 rfl rfl 0 (by decide) k51 (fun _ h9 => h9) rfl (by decide +kernel) rfl (by first | rfl | decide) (Nat.le_of_ble_eq_true rfl) dX5_kind_2 (fun H locs hP hD hS => ?_)
  have hP : va_P D vwCl (PX5 a0 a1 a2 a3 a4 a5 a6 a7 a8 a9 a10 a11 a12 cyI cyZ 0 w_size w_kinds w_as w_bs w_registers w_isMade w_steps w_stepParts w_pieces w_pieceParts w_slots w_areCounted w_registerOf w_slotOf w_pieceOf w_heldBy w_isSlotTaken w_outputs w_output) H := hP
  have hD : va_D A (PX5 a0 a1 a2 a3 a4 a5 a6 a7 a8 a9 a10 a11 a12 cyI cyZ 0 w_size w_kinds w_as w_bs w_registers w_isMade w_steps w_stepParts w_pieces w_pieceParts w_slots w_areCounted w_registerOf w_slotOf w_pieceOf w_heldBy w_isSlotTaken w_outputs w_output) := hD
  refine lv_aload_n hx hb dX5_kind_5 rfl (lv_at hl 0 rfl) ?_
  refine lv_iload_n hx hb dX5_kind_6 rfl (lv_at hl 1 rfl) ?_
  obtain ⟨u7, hf7, hf⟩ := kbd hf
  refine kc_Vi (As := [.int p1]) (rest := []) (wf := (PX5 a0 a1 a2 a3 a4 a5 a6 a7 a8 a9 a10 a11 a12 cyI cyZ 0 w_size w_kinds w_as w_bs w_registers w_isMade w_steps w_stepParts w_pieces w_pieceParts w_slots w_areCounted w_registerOf w_slotOf w_pieceOf w_heldBy w_isSlotTaken w_outputs w_output)) (c_X5_isInstruction l D cyI cyZ a0 a1 a2 a3 a4 a5 a6 a7 a8 a9 a10 a11 a12 0 w_size w_kinds w_as w_bs w_registers w_isMade w_steps w_stepParts w_pieces w_pieceParts w_slots w_areCounted w_registerOf w_slotOf w_pieceOf w_heldBy w_isSlotTaken w_outputs w_output p1 u7 hf7) ⟨hx, hb, hml, hown, hts⟩ (cwV 1 hts gX5_kind_X5_isInstruction rfl rfl rfl (by decide +kernel) ⟨Nat.le_of_ble_eq_true rfl, Nat.le_of_ble_eq_true rfl⟩) hK hP hD hS hA [0, 1, 2, 3, 4, 5, 6, 7, 8, 9, 10, 11, 12] [] 13 rfl rfl kR0 rfl (by decide +kernel) rfl rfl rfl rfl hl.1 rfl (Nat.le_of_ble_eq_true rfl) dX5_kind_7 ⟨Nat.le_of_ble_eq_true rfl, Nat.le_of_ble_eq_true rfl⟩ (fun H locs hP hD hS => ?_)
  refine lv_if_eq (tgt := 22) hx hb dX5_kind_10 (by decide) (fun c_10 => ?_) (fun c_10 => ?_)
  · have hf := kit c_10 hf
    refine lv_aload_n hx hb dX5_kind_22 rfl (lv_at hl 0 rfl) ?_
    refine lv_iconst (v := 1) hx hb dX5_kind_23 (by decide) ?_
    obtain ⟨⟨u24_0, u24_1⟩, hf24, hf⟩ := kbd hf
    try dsimp only at hf
    refine kc_Vi (As := [.int 1]) (rest := []) (wf := (PX5 a0 a1 a2 a3 a4 a5 a6 a7 a8 a9 a10 a11 a12 cyI cyZ u24_1 w_size w_kinds w_as w_bs w_registers w_isMade w_steps w_stepParts w_pieces w_pieceParts w_slots w_areCounted w_registerOf w_slotOf w_pieceOf w_heldBy w_isSlotTaken w_outputs w_output)) (c_X5_fail l D cyI cyZ a0 a1 a2 a3 a4 a5 a6 a7 a8 a9 a10 a11 a12 0 w_size w_kinds w_as w_bs w_registers w_isMade w_steps w_stepParts w_pieces w_pieceParts w_slots w_areCounted w_registerOf w_slotOf w_pieceOf w_heldBy w_isSlotTaken w_outputs w_output 1 (u24_0, u24_1) hf24) ⟨hx, hb, hml, hown, hts⟩ (cwV 1 hts gX5_kind_X5_fail rfl rfl rfl (by decide +kernel) ⟨Nat.le_of_ble_eq_true rfl, Nat.le_of_ble_eq_true rfl⟩) hK hP hD hS hA [0, 1, 2, 3, 4, 5, 6, 7, 8, 9, 10, 11, 12] [] 13 rfl rfl kR0 rfl (by decide +kernel) rfl rfl rfl rfl hl.1 rfl (Nat.le_of_ble_eq_true rfl) dX5_kind_24 ⟨Nat.le_of_ble_eq_true rfl, Nat.le_of_ble_eq_true rfl⟩ (fun H locs hP hD hS => ?_)
    obtain rfl := Option.some.inj hf
    exact ret _ _ _ _ dX5_kind_27 rfl hP hD hS
  · have hf := kif c_10 hf
    refine lv_aload_n hx hb dX5_kind_13 rfl (lv_at hl 0 rfl) ?_
    refine va_get (D := D) (ci := 5) (v := .ref a1) (C := RX5) (T := TX5) (N := 20) hx hb hts i_X5 hown hK hP 0 rfl rfl 2 (by decide) k9 (fun _ h9 => h9) rfl dX5_kind_14 ?_
    refine lv_iload_n hx hb dX5_kind_17 rfl (lv_at hl 1 rfl) ?_
    obtain ⟨h_18, hf⟩ := rdc_some hf
    refine va_iald hx hb hK hP 1 0 rfl rfl h_18 dX5_kind_18 ?_
    refine lv_goto (tgt := 27) hx hb dX5_kind_19 (by decide) ?_
    obtain rfl := Option.some.inj hf
    exact ret _ _ _ _ dX5_kind_27 rfl hP hD hS

abbrev rmX5_takes : Room := { frames := 0, cells := 0, slots := 0, locals := 0 }
set_option maxHeartbeats 4000000 in
set_option maxRecDepth 100000 in
theorem c_X5_takes (l : Launch) (D : va_G) (cyI cyZ : ClassId) (a0 a1 a2 a3 a4 a5 a6 a7 a8 a9 a10 a11 a12 : Nat) (w_thrown : Int32) (w_size : Int32) (w_kinds : Nat → Int32) (w_as : Nat → Int32) (w_bs : Nat → Int32) (w_registers : Int32) (w_isMade : Int32) (w_steps : Int32) (w_stepParts : Nat → Int32) (w_pieces : Int32) (w_pieceParts : Nat → Int32) (w_slots : Int32) (w_areCounted : Nat → Int32) (w_registerOf : Nat → Int32) (w_slotOf : Nat → Int32) (w_pieceOf : Nat → Int32) (w_heldBy : Nat → Int32) (w_isSlotTaken : Nat → Int32) (w_outputs : Int32) (w_output : Nat → Int32) (p1 : Int32) (p2 : Int32) (o : Int32) (hf : f_X5_takes p1 p2 w_kinds w_as w_bs = some o) : kMi l yX5_takes wsX5_takes rmX5_takes [.ref a0, .int p1, .int p2] D (PX5 a0 a1 a2 a3 a4 a5 a6 a7 a8 a9 a10 a11 a12 cyI cyZ w_thrown w_size w_kinds w_as w_bs w_registers w_isMade w_steps w_stepParts w_pieces w_pieceParts w_slots w_areCounted w_registerOf w_slotOf w_pieceOf w_heldBy w_isSlotTaken w_outputs w_output) (PX5 a0 a1 a2 a3 a4 a5 a6 a7 a8 a9 a10 a11 a12 cyI cyZ w_thrown w_size w_kinds w_as w_bs w_registers w_isMade w_steps w_stepParts w_pieces w_pieceParts w_slots w_areCounted w_registerOf w_slotOf w_pieceOf w_heldBy w_isSlotTaken w_outputs w_output) (kT cyI cyZ) o 0 0 := by
  refine kOf_i (cc := cX5_takes) (maxL := 3) (ty := .boolean) (by decide +kernel) rfl (Nat.le_of_ble_eq_true rfl) ?_
  intro p e s m args below meth c A Z ls C0 hP hK hD hA hl ret
  obtain ⟨hx, hb, hr, hml, hown, hts, hlocks⟩ := C0
  have hown : s.vm.findClass RX5 = some m.cls := hown
  have hl : lv_has ls 3 [(0, .ref a0), (1, .int p1), (2, .int p2)] := hl
  have hS : va_S A s.heap s.heap [] := va_S.rf
  have i_X5 : ∀ w ∈ wsX50, w ∈ wsX5_takes := by decide +kernel
  have k13 := hts (.fieldLink RX5 13 "RegisterAllocatorModel" "as" "[I") (by decide +kernel)
  have k16 := hts (.fieldLink RX5 16 "RegisterAllocatorModel" "bs" "[I") (by decide +kernel)
  have k9 := hts (.fieldLink RX5 9 "RegisterAllocatorModel" "kinds" "[I") (by decide +kernel)
  rw [f_X5_takes] at hf
  refine lv_aload_n hx hb dX5_takes_0 rfl (lv_at hl 0 rfl) ?_
  refine va_get (D := D) (ci := 5) (v := .ref a1) (C := RX5) (T := TX5) (N := 20) hx hb hts i_X5 hown hK hP 0 rfl rfl 2 (by decide) k9 (fun _ h9 => h9) rfl dX5_takes_1 ?_
  refine lv_iload_n hx hb dX5_takes_4 rfl (lv_at hl 1 rfl) ?_
  obtain ⟨h_5, hf⟩ := rdc_some hf
  refine va_iald hx hb hK hP 1 0 rfl rfl h_5 dX5_takes_5 ?_
  refine lv_if_eq (tgt := 33) hx hb dX5_takes_6 (by decide) (fun c_6 => ?_) (fun c_6 => ?_)
  · have hf := kit c_6 hf
    refine lv_iconst (v := 0) hx hb dX5_takes_33 (by decide) ?_
    obtain rfl := Option.some.inj hf
    exact ret _ _ _ _ dX5_takes_34 (znar (Or.inl rfl)) hP hD hS
  · have hf := kif c_6 hf
    refine lv_aload_n hx hb dX5_takes_9 rfl (lv_at hl 0 rfl) ?_
    refine va_get (D := D) (ci := 5) (v := .ref a2) (C := RX5) (T := TX5) (N := 20) hx hb hts i_X5 hown hK hP 0 rfl rfl 3 (by decide) k13 (fun _ h9 => h9) rfl dX5_takes_10 ?_
    refine lv_iload_n hx hb dX5_takes_13 rfl (lv_at hl 1 rfl) ?_
    obtain ⟨h_14, hf⟩ := rdc_some hf
    refine va_iald hx hb hK hP 2 0 rfl rfl h_14 dX5_takes_14 ?_
    refine lv_iload_n hx hb dX5_takes_15 rfl (lv_at hl 2 rfl) ?_
    refine lv_icmp_eq (tgt := 29) hx hb dX5_takes_16 (by decide) (fun c_16 => ?_) (fun c_16 => ?_)
    · have hf := kit c_16 hf
      refine lv_iconst (v := 1) hx hb dX5_takes_29 (by decide) ?_
      refine lv_goto (tgt := 34) hx hb dX5_takes_30 (by decide) ?_
      obtain rfl := Option.some.inj hf
      exact ret _ _ _ _ dX5_takes_34 (znar (Or.inr rfl)) hP hD hS
    · have hf := kif c_16 hf
      refine lv_aload_n hx hb dX5_takes_19 rfl (lv_at hl 0 rfl) ?_
      refine va_get (D := D) (ci := 5) (v := .ref a3) (C := RX5) (T := TX5) (N := 20) hx hb hts i_X5 hown hK hP 0 rfl rfl 4 (by decide) k16 (fun _ h9 => h9) rfl dX5_takes_20 ?_
      refine lv_iload_n hx hb dX5_takes_23 rfl (lv_at hl 1 rfl) ?_
      obtain ⟨h_24, hf⟩ := rdc_some hf
      refine va_iald hx hb hK hP 3 0 rfl rfl h_24 dX5_takes_24 ?_
      refine lv_iload_n hx hb dX5_takes_25 rfl (lv_at hl 2 rfl) ?_
      refine lv_icmp_ne (tgt := 33) hx hb dX5_takes_26 (by decide) (fun c_26 => ?_) (fun c_26 => ?_)
      · have hf := kif c_26 hf
        refine lv_iconst (v := 0) hx hb dX5_takes_33 (by decide) ?_
        obtain rfl := Option.some.inj hf
        exact ret _ _ _ _ dX5_takes_34 (znar (Or.inl rfl)) hP hD hS
      · have hf := kit c_26 hf
        refine lv_iconst (v := 1) hx hb dX5_takes_29 (by decide) ?_
        refine lv_goto (tgt := 34) hx hb dX5_takes_30 (by decide) ?_
        obtain rfl := Option.some.inj hf
        exact ret _ _ _ _ dX5_takes_34 (znar (Or.inr rfl)) hP hD hS

abbrev rmX5_count : Room := { frames := 1, cells := 0, slots := 0, locals := 22 }
set_option maxHeartbeats 4000000 in
set_option maxRecDepth 100000 in
theorem c_X5_count (l : Launch) (D : va_G) (cyI cyZ : ClassId) (a0 a1 a2 a3 a4 a5 a6 a7 a8 a9 a10 a11 a12 : Nat) (w_thrown : Int32) (w_size : Int32) (w_kinds : Nat → Int32) (w_as : Nat → Int32) (w_bs : Nat → Int32) (w_registers : Int32) (w_isMade : Int32) (w_steps : Int32) (w_stepParts : Nat → Int32) (w_pieces : Int32) (w_pieceParts : Nat → Int32) (w_slots : Int32) (w_areCounted : Nat → Int32) (w_registerOf : Nat → Int32) (w_slotOf : Nat → Int32) (w_pieceOf : Nat → Int32) (w_heldBy : Nat → Int32) (w_isSlotTaken : Nat → Int32) (w_outputs : Int32) (w_output : Nat → Int32) (o : (Nat → Int32)) (hf : f_X5_count w_size w_kinds w_as w_bs w_areCounted = some o) : kMv l yX5_count wsX5_count rmX5_count [.ref a0] D (PX5 a0 a1 a2 a3 a4 a5 a6 a7 a8 a9 a10 a11 a12 cyI cyZ w_thrown w_size w_kinds w_as w_bs w_registers w_isMade w_steps w_stepParts w_pieces w_pieceParts w_slots w_areCounted w_registerOf w_slotOf w_pieceOf w_heldBy w_isSlotTaken w_outputs w_output) (PX5 a0 a1 a2 a3 a4 a5 a6 a7 a8 a9 a10 a11 a12 cyI cyZ w_thrown w_size w_kinds w_as w_bs w_registers w_isMade w_steps w_stepParts w_pieces w_pieceParts w_slots o w_registerOf w_slotOf w_pieceOf w_heldBy w_isSlotTaken w_outputs w_output) (kT cyI cyZ) 0 0 := by
  refine kOf_v (cc := cX5_count) (maxL := 3) (by decide +kernel) rfl (Nat.le_of_ble_eq_true rfl) ?_
  intro p e s m args below meth c A Z ls C0 hP hK hD hA hl ret
  obtain ⟨hx, hb, hr, hml, hown, hts, hlocks⟩ := C0
  have hown : s.vm.findClass RX5 = some m.cls := hown
  have hl : lv_has ls 3 [(0, .ref a0)] := hl
  have hS : va_S A s.heap s.heap [] := va_S.rf
  have i_X5 : ∀ w ∈ wsX50, w ∈ wsX5_count := by decide +kernel
  have k29 := hts (.fieldLink RX5 29 "RegisterAllocatorModel" "areCounted" "[Z") (by decide +kernel)
  have k54 := hts (.fieldLink RX5 54 "RegisterAllocatorModel" "size" "I") (by decide +kernel)
  have k9 := hts (.fieldLink RX5 9 "RegisterAllocatorModel" "kinds" "[I") (by decide +kernel)
  rw [f_X5_count] at hf
  refine lv_aload_n hx hb dX5_count_0 rfl (lv_at hl 0 rfl) ?_
  refine va_get (D := D) (ci := 5) (v := .int w_size) (C := RX5) (T := TX5) (N := 20) hx hb hts i_X5 hown hK hP 0 rfl rfl 1 (by decide) k54 (fun _ h9 => h9) rfl dX5_count_1 ?_
  refine lv_iconst (v := 1) hx hb dX5_count_4 (by decide) ?_
  refine lv_isub hx hb dX5_count_5 ?_
  refine lv_istore_n (lv' := [(1, .int (w_size - 1)), (0, .ref a0)]) hx hb dX5_count_6 rfl hl (by decide) rfl (fun ls hl => ?_)
  have L7 : ∀ (n : Nat) (x1_L7 : Int32) (w_areCounted_L7 : Nat → Int32) (o9 : (Nat → Int32)) (_ : f_X5_count_L7 w_size w_kinds w_as w_bs n x1_L7 w_areCounted_L7 = some o9) (H : Heap) (locs : List Loc) (ls : Array Slot), va_P D vwCl (PX5 a0 a1 a2 a3 a4 a5 a6 a7 a8 a9 a10 a11 a12 cyI cyZ w_thrown w_size w_kinds w_as w_bs w_registers w_isMade w_steps w_stepParts w_pieces w_pieceParts w_slots w_areCounted_L7 w_registerOf w_slotOf w_pieceOf w_heldBy w_isSlotTaken w_outputs w_output) H → va_D A (PX5 a0 a1 a2 a3 a4 a5 a6 a7 a8 a9 a10 a11 a12 cyI cyZ w_thrown w_size w_kinds w_as w_bs w_registers w_isMade w_steps w_stepParts w_pieces w_pieceParts w_slots w_areCounted_L7 w_registerOf w_slotOf w_pieceOf w_heldBy w_isSlotTaken w_outputs w_output) → va_S A s.heap H locs → lv_has ls 3 [(1, .int x1_L7), (0, .ref a0)] → (∀ (H : Heap) (locs : List Loc) (ls : Array Slot), va_P D vwCl (PX5 a0 a1 a2 a3 a4 a5 a6 a7 a8 a9 a10 a11 a12 cyI cyZ w_thrown w_size w_kinds w_as w_bs w_registers w_isMade w_steps w_stepParts w_pieces w_pieceParts w_slots o9 w_registerOf w_slotOf w_pieceOf w_heldBy w_isSlotTaken w_outputs w_output) H → va_D A (PX5 a0 a1 a2 a3 a4 a5 a6 a7 a8 a9 a10 a11 a12 cyI cyZ w_thrown w_size w_kinds w_as w_bs w_registers w_isMade w_steps w_stepParts w_pieces w_pieceParts w_slots o9 w_registerOf w_slotOf w_pieceOf w_heldBy w_isSlotTaken w_outputs w_output) → va_S A s.heap H locs → lv_has ls 3 [] → W p l e rmX5_count s m args below meth c H locs 0 0 Z (F0 m 95 ls [])) → W p l e rmX5_count s m args below meth c H locs 0 0 Z (F0 m 7 ls []) := by
    intro n
    induction n with
    | zero =>
      intro x1_L7 w_areCounted_L7 o9 hf
      rw [f_X5_count_L7] at hf
      cases hf
    | succ n ih =>
      intro x1_L7 w_areCounted_L7 o9 hf H locs ls hP hD hS hl kx
      rw [f_X5_count_L7] at hf
      refine lv_iload_n hx hb dX5_count_7 rfl (lv_at hl 0 rfl) ?_
      refine lv_if_lt (tgt := 95) hx hb dX5_count_8 (by decide) (fun c_8 => ?_) (fun c_8 => ?_)
      · have hf := kit c_8 hf
        obtain rfl := Option.some.inj hf
        exact kx _ _ _ hP hD hS (lv_sub hl [] rfl)
      · have hf := kif c_8 hf
        refine lv_aload_n hx hb dX5_count_11 rfl (lv_at hl 1 rfl) ?_
        refine va_get (D := D) (ci := 5) (v := .ref a6) (C := RX5) (T := TX5) (N := 20) hx hb hts i_X5 hown hK hP 0 rfl rfl 12 (by decide) k29 (fun _ h9 => h9) rfl dX5_count_12 ?_
        refine lv_iload_n hx hb dX5_count_15 rfl (lv_at hl 0 rfl) ?_
        refine lv_aload_n hx hb dX5_count_16 rfl (lv_at hl 1 rfl) ?_
        refine va_get (D := D) (ci := 5) (v := .ref a1) (C := RX5) (T := TX5) (N := 20) hx hb hts i_X5 hown hK hP 0 rfl rfl 2 (by decide) k9 (fun _ h9 => h9) rfl dX5_count_17 ?_
        refine lv_iload_n hx hb dX5_count_20 rfl (lv_at hl 0 rfl) ?_
        obtain ⟨h_21, hf⟩ := rdc_some hf
        refine va_iald hx hb hK hP 1 0 rfl rfl h_21 dX5_count_21 ?_
        refine lv_bipush (v := 6) hx hb dX5_count_22 (by decide) ?_
        refine lv_icmp_ne (tgt := 31) hx hb dX5_count_24 (by decide) (fun c_24 => ?_) (fun c_24 => ?_)
        · have hf := kif c_24 hf
          refine lv_iconst (v := 0) hx hb dX5_count_31 (by decide) ?_
          obtain ⟨h_32, hf⟩ := rdc_some hf
          refine kc_zast hx hb hK hP hD hS 6 1 rfl rfl knar0 h_32 dX5_count_32 (fun H locs hP hD hS => ?_)
          have hP : va_P D vwCl (PX5 a0 a1 a2 a3 a4 a5 a6 a7 a8 a9 a10 a11 a12 cyI cyZ w_thrown w_size w_kinds w_as w_bs w_registers w_isMade w_steps w_stepParts w_pieces w_pieceParts w_slots (upd w_areCounted_L7 x1_L7.toNatClampNeg 0) w_registerOf w_slotOf w_pieceOf w_heldBy w_isSlotTaken w_outputs w_output) H := hP
          have hD : va_D A (PX5 a0 a1 a2 a3 a4 a5 a6 a7 a8 a9 a10 a11 a12 cyI cyZ w_thrown w_size w_kinds w_as w_bs w_registers w_isMade w_steps w_stepParts w_pieces w_pieceParts w_slots (upd w_areCounted_L7 x1_L7.toNatClampNeg 0) w_registerOf w_slotOf w_pieceOf w_heldBy w_isSlotTaken w_outputs w_output) := hD
          refine lv_iload_n hx hb dX5_count_33 rfl (lv_at hl 0 rfl) ?_
          refine lv_iconst (v := 1) hx hb dX5_count_34 (by decide) ?_
          refine lv_iadd hx hb dX5_count_35 ?_
          refine lv_istore_n (lv' := [(2, .int (x1_L7 + 1)), (1, .int x1_L7), (0, .ref a0)]) hx hb dX5_count_36 rfl hl (by decide) rfl (fun ls hl => ?_)
          have L37 : ∀ (n : Nat) (x2_L37 : Int32) (w_areCounted_L37 : Nat → Int32) (o9 : (Nat → Int32)) (_ : f_X5_count_L37 w_size w_kinds w_as w_bs x1_L7 n x2_L37 w_areCounted_L37 = some o9) (H : Heap) (locs : List Loc) (ls : Array Slot), va_P D vwCl (PX5 a0 a1 a2 a3 a4 a5 a6 a7 a8 a9 a10 a11 a12 cyI cyZ w_thrown w_size w_kinds w_as w_bs w_registers w_isMade w_steps w_stepParts w_pieces w_pieceParts w_slots w_areCounted_L37 w_registerOf w_slotOf w_pieceOf w_heldBy w_isSlotTaken w_outputs w_output) H → va_D A (PX5 a0 a1 a2 a3 a4 a5 a6 a7 a8 a9 a10 a11 a12 cyI cyZ w_thrown w_size w_kinds w_as w_bs w_registers w_isMade w_steps w_stepParts w_pieces w_pieceParts w_slots w_areCounted_L37 w_registerOf w_slotOf w_pieceOf w_heldBy w_isSlotTaken w_outputs w_output) → va_S A s.heap H locs → lv_has ls 3 [(2, .int x2_L37), (1, .int x1_L7), (0, .ref a0)] → (∀ (H : Heap) (locs : List Loc) (ls : Array Slot), va_P D vwCl (PX5 a0 a1 a2 a3 a4 a5 a6 a7 a8 a9 a10 a11 a12 cyI cyZ w_thrown w_size w_kinds w_as w_bs w_registers w_isMade w_steps w_stepParts w_pieces w_pieceParts w_slots o9 w_registerOf w_slotOf w_pieceOf w_heldBy w_isSlotTaken w_outputs w_output) H → va_D A (PX5 a0 a1 a2 a3 a4 a5 a6 a7 a8 a9 a10 a11 a12 cyI cyZ w_thrown w_size w_kinds w_as w_bs w_registers w_isMade w_steps w_stepParts w_pieces w_pieceParts w_slots o9 w_registerOf w_slotOf w_pieceOf w_heldBy w_isSlotTaken w_outputs w_output) → va_S A s.heap H locs → lv_has ls 3 [(1, .int x1_L7), (0, .ref a0)] → W p l e rmX5_count s m args below meth c H locs 0 0 Z (F0 m 89 ls [])) → W p l e rmX5_count s m args below meth c H locs 0 0 Z (F0 m 37 ls []) := by
            intro n
            induction n with
            | zero =>
              intro x2_L37 w_areCounted_L37 o9 hf
              rw [f_X5_count_L37] at hf
              cases hf
            | succ n ih =>
              intro x2_L37 w_areCounted_L37 o9 hf H locs ls hP hD hS hl kx
              rw [f_X5_count_L37] at hf
              refine lv_iload_n hx hb dX5_count_37 rfl (lv_at hl 0 rfl) ?_
              refine lv_aload_n hx hb dX5_count_38 rfl (lv_at hl 2 rfl) ?_
              refine va_get (D := D) (ci := 5) (v := .int w_size) (C := RX5) (T := TX5) (N := 20) hx hb hts i_X5 hown hK hP 0 rfl rfl 1 (by decide) k54 (fun _ h9 => h9) rfl dX5_count_39 ?_
              refine lv_icmp_ge (tgt := 89) hx hb dX5_count_42 (by decide) (fun c_42 => ?_) (fun c_42 => ?_)
              · have hf := kit c_42 hf
                obtain rfl := Option.some.inj hf
                exact kx _ _ _ hP hD hS (lv_sub hl [1, 2] rfl)
              · have hf := kif c_42 hf
                refine lv_aload_n hx hb dX5_count_45 rfl (lv_at hl 2 rfl) ?_
                refine va_get (D := D) (ci := 5) (v := .ref a6) (C := RX5) (T := TX5) (N := 20) hx hb hts i_X5 hown hK hP 0 rfl rfl 12 (by decide) k29 (fun _ h9 => h9) rfl dX5_count_46 ?_
                refine lv_iload_n hx hb dX5_count_49 rfl (lv_at hl 1 rfl) ?_
                refine lv_aload_n hx hb dX5_count_50 rfl (lv_at hl 2 rfl) ?_
                refine va_get (D := D) (ci := 5) (v := .ref a6) (C := RX5) (T := TX5) (N := 20) hx hb hts i_X5 hown hK hP 0 rfl rfl 12 (by decide) k29 (fun _ h9 => h9) rfl dX5_count_51 ?_
                refine lv_iload_n hx hb dX5_count_54 rfl (lv_at hl 1 rfl) ?_
                obtain ⟨h_55, hf⟩ := rdc_some hf
                refine va_zald hx hb hK hP 6 1 rfl rfl h_55 dX5_count_55 ?_
                refine lv_if_ne (tgt := 77) hx hb dX5_count_56 (by decide) (fun c_56 => ?_) (fun c_56 => ?_)
                · have hf := kif c_56 hf
                  refine lv_iconst (v := 1) hx hb dX5_count_77 (by decide) ?_
                  refine lv_goto (tgt := 82) hx hb dX5_count_78 (by decide) ?_
                  obtain ⟨h_82, hf⟩ := rdc_some hf
                  refine kc_zast hx hb hK hP hD hS 6 1 rfl rfl knar1 h_82 dX5_count_82 (fun H locs hP hD hS => ?_)
                  have hP : va_P D vwCl (PX5 a0 a1 a2 a3 a4 a5 a6 a7 a8 a9 a10 a11 a12 cyI cyZ w_thrown w_size w_kinds w_as w_bs w_registers w_isMade w_steps w_stepParts w_pieces w_pieceParts w_slots (upd w_areCounted_L37 x1_L7.toNatClampNeg 1) w_registerOf w_slotOf w_pieceOf w_heldBy w_isSlotTaken w_outputs w_output) H := hP
                  have hD : va_D A (PX5 a0 a1 a2 a3 a4 a5 a6 a7 a8 a9 a10 a11 a12 cyI cyZ w_thrown w_size w_kinds w_as w_bs w_registers w_isMade w_steps w_stepParts w_pieces w_pieceParts w_slots (upd w_areCounted_L37 x1_L7.toNatClampNeg 1) w_registerOf w_slotOf w_pieceOf w_heldBy w_isSlotTaken w_outputs w_output) := hD
                  refine lv_iinc (v := (x2_L37 + 1)) (lv' := [(2, .int (x2_L37 + 1)), (1, .int x1_L7), (0, .ref a0)]) hx hb dX5_count_83 hl (k := 0) rfl rfl (by decide) rfl (fun ls hl => ?_)
                  refine lv_goto (tgt := 37) hx hb dX5_count_86 (by decide) ?_
                  exact ih (x2_L37 + 1) (upd w_areCounted_L37 x1_L7.toNatClampNeg 1) _ hf _ _ _ hP hD hS (lv_sub hl [0, 1, 2] rfl) kx
                · have hf := kit c_56 hf
                  refine lv_aload_n hx hb dX5_count_59 rfl (lv_at hl 2 rfl) ?_
                  refine va_get (D := D) (ci := 5) (v := .ref a6) (C := RX5) (T := TX5) (N := 20) hx hb hts i_X5 hown hK hP 0 rfl rfl 12 (by decide) k29 (fun _ h9 => h9) rfl dX5_count_60 ?_
                  refine lv_iload_n hx hb dX5_count_63 rfl (lv_at hl 0 rfl) ?_
                  obtain ⟨h_64, hf⟩ := rdc_some hf
                  refine va_zald hx hb hK hP 6 1 rfl rfl h_64 dX5_count_64 ?_
                  refine lv_if_eq (tgt := 81) hx hb dX5_count_65 (by decide) (fun c_65 => ?_) (fun c_65 => ?_)
                  · have hf := kit c_65 hf
                    refine lv_iconst (v := 0) hx hb dX5_count_81 (by decide) ?_
                    obtain ⟨h_82, hf⟩ := rdc_some hf
                    refine kc_zast hx hb hK hP hD hS 6 1 rfl rfl knar0 h_82 dX5_count_82 (fun H locs hP hD hS => ?_)
                    have hP : va_P D vwCl (PX5 a0 a1 a2 a3 a4 a5 a6 a7 a8 a9 a10 a11 a12 cyI cyZ w_thrown w_size w_kinds w_as w_bs w_registers w_isMade w_steps w_stepParts w_pieces w_pieceParts w_slots (upd w_areCounted_L37 x1_L7.toNatClampNeg 0) w_registerOf w_slotOf w_pieceOf w_heldBy w_isSlotTaken w_outputs w_output) H := hP
                    have hD : va_D A (PX5 a0 a1 a2 a3 a4 a5 a6 a7 a8 a9 a10 a11 a12 cyI cyZ w_thrown w_size w_kinds w_as w_bs w_registers w_isMade w_steps w_stepParts w_pieces w_pieceParts w_slots (upd w_areCounted_L37 x1_L7.toNatClampNeg 0) w_registerOf w_slotOf w_pieceOf w_heldBy w_isSlotTaken w_outputs w_output) := hD
                    refine lv_iinc (v := (x2_L37 + 1)) (lv' := [(2, .int (x2_L37 + 1)), (1, .int x1_L7), (0, .ref a0)]) hx hb dX5_count_83 hl (k := 0) rfl rfl (by decide) rfl (fun ls hl => ?_)
                    refine lv_goto (tgt := 37) hx hb dX5_count_86 (by decide) ?_
                    exact ih (x2_L37 + 1) (upd w_areCounted_L37 x1_L7.toNatClampNeg 0) _ hf _ _ _ hP hD hS (lv_sub hl [0, 1, 2] rfl) kx
                  · have hf := kif c_65 hf
                    refine lv_aload_n hx hb dX5_count_68 rfl (lv_at hl 2 rfl) ?_
                    refine lv_iload_n hx hb dX5_count_69 rfl (lv_at hl 0 rfl) ?_
                    refine lv_iload_n hx hb dX5_count_70 rfl (lv_at hl 1 rfl) ?_
                    obtain ⟨u71, hf71, hf⟩ := kbd hf
                    refine kc_Vi (As := [.int x2_L37, .int x1_L7]) (rest := [.int x1_L7, .ref a6]) (wf := (PX5 a0 a1 a2 a3 a4 a5 a6 a7 a8 a9 a10 a11 a12 cyI cyZ w_thrown w_size w_kinds w_as w_bs w_registers w_isMade w_steps w_stepParts w_pieces w_pieceParts w_slots w_areCounted_L37 w_registerOf w_slotOf w_pieceOf w_heldBy w_isSlotTaken w_outputs w_output)) (c_X5_takes l D cyI cyZ a0 a1 a2 a3 a4 a5 a6 a7 a8 a9 a10 a11 a12 w_thrown w_size w_kinds w_as w_bs w_registers w_isMade w_steps w_stepParts w_pieces w_pieceParts w_slots w_areCounted_L37 w_registerOf w_slotOf w_pieceOf w_heldBy w_isSlotTaken w_outputs w_output x2_L37 x1_L7 u71 hf71) ⟨hx, hb, hml, hown, hts⟩ (cwV 2 hts gX5_count_X5_takes rfl rfl rfl (by decide +kernel) ⟨Nat.le_of_ble_eq_true rfl, Nat.le_of_ble_eq_true rfl⟩) hK hP hD hS hA [0, 1, 2, 3, 4, 5, 6, 7, 8, 9, 10, 11, 12] [] 13 rfl rfl kR0 rfl (by decide +kernel) rfl rfl rfl rfl hl.1 rfl (Nat.le_of_ble_eq_true rfl) dX5_count_71 ⟨Nat.le_of_ble_eq_true rfl, Nat.le_of_ble_eq_true rfl⟩ (fun H locs hP hD hS => ?_)
                    refine lv_if_eq (tgt := 81) hx hb dX5_count_74 (by decide) (fun c_74 => ?_) (fun c_74 => ?_)
                    · have hf := kit c_74 hf
                      refine lv_iconst (v := 0) hx hb dX5_count_81 (by decide) ?_
                      obtain ⟨h_82, hf⟩ := rdc_some hf
                      refine kc_zast hx hb hK hP hD hS 6 1 rfl rfl knar0 h_82 dX5_count_82 (fun H locs hP hD hS => ?_)
                      have hP : va_P D vwCl (PX5 a0 a1 a2 a3 a4 a5 a6 a7 a8 a9 a10 a11 a12 cyI cyZ w_thrown w_size w_kinds w_as w_bs w_registers w_isMade w_steps w_stepParts w_pieces w_pieceParts w_slots (upd w_areCounted_L37 x1_L7.toNatClampNeg 0) w_registerOf w_slotOf w_pieceOf w_heldBy w_isSlotTaken w_outputs w_output) H := hP
                      have hD : va_D A (PX5 a0 a1 a2 a3 a4 a5 a6 a7 a8 a9 a10 a11 a12 cyI cyZ w_thrown w_size w_kinds w_as w_bs w_registers w_isMade w_steps w_stepParts w_pieces w_pieceParts w_slots (upd w_areCounted_L37 x1_L7.toNatClampNeg 0) w_registerOf w_slotOf w_pieceOf w_heldBy w_isSlotTaken w_outputs w_output) := hD
                      refine lv_iinc (v := (x2_L37 + 1)) (lv' := [(2, .int (x2_L37 + 1)), (1, .int x1_L7), (0, .ref a0)]) hx hb dX5_count_83 hl (k := 0) rfl rfl (by decide) rfl (fun ls hl => ?_)
                      refine lv_goto (tgt := 37) hx hb dX5_count_86 (by decide) ?_
                      exact ih (x2_L37 + 1) (upd w_areCounted_L37 x1_L7.toNatClampNeg 0) _ hf _ _ _ hP hD hS (lv_sub hl [0, 1, 2] rfl) kx
                    · have hf := kif c_74 hf
                      refine lv_iconst (v := 1) hx hb dX5_count_77 (by decide) ?_
                      refine lv_goto (tgt := 82) hx hb dX5_count_78 (by decide) ?_
                      obtain ⟨h_82, hf⟩ := rdc_some hf
                      refine kc_zast hx hb hK hP hD hS 6 1 rfl rfl knar1 h_82 dX5_count_82 (fun H locs hP hD hS => ?_)
                      have hP : va_P D vwCl (PX5 a0 a1 a2 a3 a4 a5 a6 a7 a8 a9 a10 a11 a12 cyI cyZ w_thrown w_size w_kinds w_as w_bs w_registers w_isMade w_steps w_stepParts w_pieces w_pieceParts w_slots (upd w_areCounted_L37 x1_L7.toNatClampNeg 1) w_registerOf w_slotOf w_pieceOf w_heldBy w_isSlotTaken w_outputs w_output) H := hP
                      have hD : va_D A (PX5 a0 a1 a2 a3 a4 a5 a6 a7 a8 a9 a10 a11 a12 cyI cyZ w_thrown w_size w_kinds w_as w_bs w_registers w_isMade w_steps w_stepParts w_pieces w_pieceParts w_slots (upd w_areCounted_L37 x1_L7.toNatClampNeg 1) w_registerOf w_slotOf w_pieceOf w_heldBy w_isSlotTaken w_outputs w_output) := hD
                      refine lv_iinc (v := (x2_L37 + 1)) (lv' := [(2, .int (x2_L37 + 1)), (1, .int x1_L7), (0, .ref a0)]) hx hb dX5_count_83 hl (k := 0) rfl rfl (by decide) rfl (fun ls hl => ?_)
                      refine lv_goto (tgt := 37) hx hb dX5_count_86 (by decide) ?_
                      exact ih (x2_L37 + 1) (upd w_areCounted_L37 x1_L7.toNatClampNeg 1) _ hf _ _ _ hP hD hS (lv_sub hl [0, 1, 2] rfl) kx
          obtain ⟨v37, hf37, hf⟩ := kbd hf
          refine L37 4000 (x1_L7 + 1) (upd w_areCounted_L7 x1_L7.toNatClampNeg 0) v37 hf37 _ _ _ hP hD hS (lv_sub hl [0, 1, 2] rfl) (fun H locs ls hP hD hS hl => ?_)
          refine lv_iinc (v := (x1_L7 + (-1))) (lv' := [(1, .int (x1_L7 + (-1))), (0, .ref a0)]) hx hb dX5_count_89 hl (k := 0) rfl rfl (by decide) rfl (fun ls hl => ?_)
          refine lv_goto (tgt := 7) hx hb dX5_count_92 (by decide) ?_
          exact ih (x1_L7 + (-1)) v37 _ hf _ _ _ hP hD hS (lv_sub hl [0, 1] rfl) kx
        · have hf := kit c_24 hf
          refine lv_iconst (v := 1) hx hb dX5_count_27 (by decide) ?_
          refine lv_goto (tgt := 32) hx hb dX5_count_28 (by decide) ?_
          obtain ⟨h_32, hf⟩ := rdc_some hf
          refine kc_zast hx hb hK hP hD hS 6 1 rfl rfl knar1 h_32 dX5_count_32 (fun H locs hP hD hS => ?_)
          have hP : va_P D vwCl (PX5 a0 a1 a2 a3 a4 a5 a6 a7 a8 a9 a10 a11 a12 cyI cyZ w_thrown w_size w_kinds w_as w_bs w_registers w_isMade w_steps w_stepParts w_pieces w_pieceParts w_slots (upd w_areCounted_L7 x1_L7.toNatClampNeg 1) w_registerOf w_slotOf w_pieceOf w_heldBy w_isSlotTaken w_outputs w_output) H := hP
          have hD : va_D A (PX5 a0 a1 a2 a3 a4 a5 a6 a7 a8 a9 a10 a11 a12 cyI cyZ w_thrown w_size w_kinds w_as w_bs w_registers w_isMade w_steps w_stepParts w_pieces w_pieceParts w_slots (upd w_areCounted_L7 x1_L7.toNatClampNeg 1) w_registerOf w_slotOf w_pieceOf w_heldBy w_isSlotTaken w_outputs w_output) := hD
          refine lv_iload_n hx hb dX5_count_33 rfl (lv_at hl 0 rfl) ?_
          refine lv_iconst (v := 1) hx hb dX5_count_34 (by decide) ?_
          refine lv_iadd hx hb dX5_count_35 ?_
          refine lv_istore_n (lv' := [(2, .int (x1_L7 + 1)), (1, .int x1_L7), (0, .ref a0)]) hx hb dX5_count_36 rfl hl (by decide) rfl (fun ls hl => ?_)
          have L37 : ∀ (n : Nat) (x2_L37 : Int32) (w_areCounted_L37 : Nat → Int32) (o9 : (Nat → Int32)) (_ : f_X5_count_L37 w_size w_kinds w_as w_bs x1_L7 n x2_L37 w_areCounted_L37 = some o9) (H : Heap) (locs : List Loc) (ls : Array Slot), va_P D vwCl (PX5 a0 a1 a2 a3 a4 a5 a6 a7 a8 a9 a10 a11 a12 cyI cyZ w_thrown w_size w_kinds w_as w_bs w_registers w_isMade w_steps w_stepParts w_pieces w_pieceParts w_slots w_areCounted_L37 w_registerOf w_slotOf w_pieceOf w_heldBy w_isSlotTaken w_outputs w_output) H → va_D A (PX5 a0 a1 a2 a3 a4 a5 a6 a7 a8 a9 a10 a11 a12 cyI cyZ w_thrown w_size w_kinds w_as w_bs w_registers w_isMade w_steps w_stepParts w_pieces w_pieceParts w_slots w_areCounted_L37 w_registerOf w_slotOf w_pieceOf w_heldBy w_isSlotTaken w_outputs w_output) → va_S A s.heap H locs → lv_has ls 3 [(2, .int x2_L37), (1, .int x1_L7), (0, .ref a0)] → (∀ (H : Heap) (locs : List Loc) (ls : Array Slot), va_P D vwCl (PX5 a0 a1 a2 a3 a4 a5 a6 a7 a8 a9 a10 a11 a12 cyI cyZ w_thrown w_size w_kinds w_as w_bs w_registers w_isMade w_steps w_stepParts w_pieces w_pieceParts w_slots o9 w_registerOf w_slotOf w_pieceOf w_heldBy w_isSlotTaken w_outputs w_output) H → va_D A (PX5 a0 a1 a2 a3 a4 a5 a6 a7 a8 a9 a10 a11 a12 cyI cyZ w_thrown w_size w_kinds w_as w_bs w_registers w_isMade w_steps w_stepParts w_pieces w_pieceParts w_slots o9 w_registerOf w_slotOf w_pieceOf w_heldBy w_isSlotTaken w_outputs w_output) → va_S A s.heap H locs → lv_has ls 3 [(1, .int x1_L7), (0, .ref a0)] → W p l e rmX5_count s m args below meth c H locs 0 0 Z (F0 m 89 ls [])) → W p l e rmX5_count s m args below meth c H locs 0 0 Z (F0 m 37 ls []) := by
            intro n
            induction n with
            | zero =>
              intro x2_L37 w_areCounted_L37 o9 hf
              rw [f_X5_count_L37] at hf
              cases hf
            | succ n ih =>
              intro x2_L37 w_areCounted_L37 o9 hf H locs ls hP hD hS hl kx
              rw [f_X5_count_L37] at hf
              refine lv_iload_n hx hb dX5_count_37 rfl (lv_at hl 0 rfl) ?_
              refine lv_aload_n hx hb dX5_count_38 rfl (lv_at hl 2 rfl) ?_
              refine va_get (D := D) (ci := 5) (v := .int w_size) (C := RX5) (T := TX5) (N := 20) hx hb hts i_X5 hown hK hP 0 rfl rfl 1 (by decide) k54 (fun _ h9 => h9) rfl dX5_count_39 ?_
              refine lv_icmp_ge (tgt := 89) hx hb dX5_count_42 (by decide) (fun c_42 => ?_) (fun c_42 => ?_)
              · have hf := kit c_42 hf
                obtain rfl := Option.some.inj hf
                exact kx _ _ _ hP hD hS (lv_sub hl [1, 2] rfl)
              · have hf := kif c_42 hf
                refine lv_aload_n hx hb dX5_count_45 rfl (lv_at hl 2 rfl) ?_
                refine va_get (D := D) (ci := 5) (v := .ref a6) (C := RX5) (T := TX5) (N := 20) hx hb hts i_X5 hown hK hP 0 rfl rfl 12 (by decide) k29 (fun _ h9 => h9) rfl dX5_count_46 ?_
                refine lv_iload_n hx hb dX5_count_49 rfl (lv_at hl 1 rfl) ?_
                refine lv_aload_n hx hb dX5_count_50 rfl (lv_at hl 2 rfl) ?_
                refine va_get (D := D) (ci := 5) (v := .ref a6) (C := RX5) (T := TX5) (N := 20) hx hb hts i_X5 hown hK hP 0 rfl rfl 12 (by decide) k29 (fun _ h9 => h9) rfl dX5_count_51 ?_
                refine lv_iload_n hx hb dX5_count_54 rfl (lv_at hl 1 rfl) ?_
                obtain ⟨h_55, hf⟩ := rdc_some hf
                refine va_zald hx hb hK hP 6 1 rfl rfl h_55 dX5_count_55 ?_
                refine lv_if_ne (tgt := 77) hx hb dX5_count_56 (by decide) (fun c_56 => ?_) (fun c_56 => ?_)
                · have hf := kif c_56 hf
                  refine lv_iconst (v := 1) hx hb dX5_count_77 (by decide) ?_
                  refine lv_goto (tgt := 82) hx hb dX5_count_78 (by decide) ?_
                  obtain ⟨h_82, hf⟩ := rdc_some hf
                  refine kc_zast hx hb hK hP hD hS 6 1 rfl rfl knar1 h_82 dX5_count_82 (fun H locs hP hD hS => ?_)
                  have hP : va_P D vwCl (PX5 a0 a1 a2 a3 a4 a5 a6 a7 a8 a9 a10 a11 a12 cyI cyZ w_thrown w_size w_kinds w_as w_bs w_registers w_isMade w_steps w_stepParts w_pieces w_pieceParts w_slots (upd w_areCounted_L37 x1_L7.toNatClampNeg 1) w_registerOf w_slotOf w_pieceOf w_heldBy w_isSlotTaken w_outputs w_output) H := hP
                  have hD : va_D A (PX5 a0 a1 a2 a3 a4 a5 a6 a7 a8 a9 a10 a11 a12 cyI cyZ w_thrown w_size w_kinds w_as w_bs w_registers w_isMade w_steps w_stepParts w_pieces w_pieceParts w_slots (upd w_areCounted_L37 x1_L7.toNatClampNeg 1) w_registerOf w_slotOf w_pieceOf w_heldBy w_isSlotTaken w_outputs w_output) := hD
                  refine lv_iinc (v := (x2_L37 + 1)) (lv' := [(2, .int (x2_L37 + 1)), (1, .int x1_L7), (0, .ref a0)]) hx hb dX5_count_83 hl (k := 0) rfl rfl (by decide) rfl (fun ls hl => ?_)
                  refine lv_goto (tgt := 37) hx hb dX5_count_86 (by decide) ?_
                  exact ih (x2_L37 + 1) (upd w_areCounted_L37 x1_L7.toNatClampNeg 1) _ hf _ _ _ hP hD hS (lv_sub hl [0, 1, 2] rfl) kx
                · have hf := kit c_56 hf
                  refine lv_aload_n hx hb dX5_count_59 rfl (lv_at hl 2 rfl) ?_
                  refine va_get (D := D) (ci := 5) (v := .ref a6) (C := RX5) (T := TX5) (N := 20) hx hb hts i_X5 hown hK hP 0 rfl rfl 12 (by decide) k29 (fun _ h9 => h9) rfl dX5_count_60 ?_
                  refine lv_iload_n hx hb dX5_count_63 rfl (lv_at hl 0 rfl) ?_
                  obtain ⟨h_64, hf⟩ := rdc_some hf
                  refine va_zald hx hb hK hP 6 1 rfl rfl h_64 dX5_count_64 ?_
                  refine lv_if_eq (tgt := 81) hx hb dX5_count_65 (by decide) (fun c_65 => ?_) (fun c_65 => ?_)
                  · have hf := kit c_65 hf
                    refine lv_iconst (v := 0) hx hb dX5_count_81 (by decide) ?_
                    obtain ⟨h_82, hf⟩ := rdc_some hf
                    refine kc_zast hx hb hK hP hD hS 6 1 rfl rfl knar0 h_82 dX5_count_82 (fun H locs hP hD hS => ?_)
                    have hP : va_P D vwCl (PX5 a0 a1 a2 a3 a4 a5 a6 a7 a8 a9 a10 a11 a12 cyI cyZ w_thrown w_size w_kinds w_as w_bs w_registers w_isMade w_steps w_stepParts w_pieces w_pieceParts w_slots (upd w_areCounted_L37 x1_L7.toNatClampNeg 0) w_registerOf w_slotOf w_pieceOf w_heldBy w_isSlotTaken w_outputs w_output) H := hP
                    have hD : va_D A (PX5 a0 a1 a2 a3 a4 a5 a6 a7 a8 a9 a10 a11 a12 cyI cyZ w_thrown w_size w_kinds w_as w_bs w_registers w_isMade w_steps w_stepParts w_pieces w_pieceParts w_slots (upd w_areCounted_L37 x1_L7.toNatClampNeg 0) w_registerOf w_slotOf w_pieceOf w_heldBy w_isSlotTaken w_outputs w_output) := hD
                    refine lv_iinc (v := (x2_L37 + 1)) (lv' := [(2, .int (x2_L37 + 1)), (1, .int x1_L7), (0, .ref a0)]) hx hb dX5_count_83 hl (k := 0) rfl rfl (by decide) rfl (fun ls hl => ?_)
                    refine lv_goto (tgt := 37) hx hb dX5_count_86 (by decide) ?_
                    exact ih (x2_L37 + 1) (upd w_areCounted_L37 x1_L7.toNatClampNeg 0) _ hf _ _ _ hP hD hS (lv_sub hl [0, 1, 2] rfl) kx
                  · have hf := kif c_65 hf
                    refine lv_aload_n hx hb dX5_count_68 rfl (lv_at hl 2 rfl) ?_
                    refine lv_iload_n hx hb dX5_count_69 rfl (lv_at hl 0 rfl) ?_
                    refine lv_iload_n hx hb dX5_count_70 rfl (lv_at hl 1 rfl) ?_
                    obtain ⟨u71, hf71, hf⟩ := kbd hf
                    refine kc_Vi (As := [.int x2_L37, .int x1_L7]) (rest := [.int x1_L7, .ref a6]) (wf := (PX5 a0 a1 a2 a3 a4 a5 a6 a7 a8 a9 a10 a11 a12 cyI cyZ w_thrown w_size w_kinds w_as w_bs w_registers w_isMade w_steps w_stepParts w_pieces w_pieceParts w_slots w_areCounted_L37 w_registerOf w_slotOf w_pieceOf w_heldBy w_isSlotTaken w_outputs w_output)) (c_X5_takes l D cyI cyZ a0 a1 a2 a3 a4 a5 a6 a7 a8 a9 a10 a11 a12 w_thrown w_size w_kinds w_as w_bs w_registers w_isMade w_steps w_stepParts w_pieces w_pieceParts w_slots w_areCounted_L37 w_registerOf w_slotOf w_pieceOf w_heldBy w_isSlotTaken w_outputs w_output x2_L37 x1_L7 u71 hf71) ⟨hx, hb, hml, hown, hts⟩ (cwV 2 hts gX5_count_X5_takes rfl rfl rfl (by decide +kernel) ⟨Nat.le_of_ble_eq_true rfl, Nat.le_of_ble_eq_true rfl⟩) hK hP hD hS hA [0, 1, 2, 3, 4, 5, 6, 7, 8, 9, 10, 11, 12] [] 13 rfl rfl kR0 rfl (by decide +kernel) rfl rfl rfl rfl hl.1 rfl (Nat.le_of_ble_eq_true rfl) dX5_count_71 ⟨Nat.le_of_ble_eq_true rfl, Nat.le_of_ble_eq_true rfl⟩ (fun H locs hP hD hS => ?_)
                    refine lv_if_eq (tgt := 81) hx hb dX5_count_74 (by decide) (fun c_74 => ?_) (fun c_74 => ?_)
                    · have hf := kit c_74 hf
                      refine lv_iconst (v := 0) hx hb dX5_count_81 (by decide) ?_
                      obtain ⟨h_82, hf⟩ := rdc_some hf
                      refine kc_zast hx hb hK hP hD hS 6 1 rfl rfl knar0 h_82 dX5_count_82 (fun H locs hP hD hS => ?_)
                      have hP : va_P D vwCl (PX5 a0 a1 a2 a3 a4 a5 a6 a7 a8 a9 a10 a11 a12 cyI cyZ w_thrown w_size w_kinds w_as w_bs w_registers w_isMade w_steps w_stepParts w_pieces w_pieceParts w_slots (upd w_areCounted_L37 x1_L7.toNatClampNeg 0) w_registerOf w_slotOf w_pieceOf w_heldBy w_isSlotTaken w_outputs w_output) H := hP
                      have hD : va_D A (PX5 a0 a1 a2 a3 a4 a5 a6 a7 a8 a9 a10 a11 a12 cyI cyZ w_thrown w_size w_kinds w_as w_bs w_registers w_isMade w_steps w_stepParts w_pieces w_pieceParts w_slots (upd w_areCounted_L37 x1_L7.toNatClampNeg 0) w_registerOf w_slotOf w_pieceOf w_heldBy w_isSlotTaken w_outputs w_output) := hD
                      refine lv_iinc (v := (x2_L37 + 1)) (lv' := [(2, .int (x2_L37 + 1)), (1, .int x1_L7), (0, .ref a0)]) hx hb dX5_count_83 hl (k := 0) rfl rfl (by decide) rfl (fun ls hl => ?_)
                      refine lv_goto (tgt := 37) hx hb dX5_count_86 (by decide) ?_
                      exact ih (x2_L37 + 1) (upd w_areCounted_L37 x1_L7.toNatClampNeg 0) _ hf _ _ _ hP hD hS (lv_sub hl [0, 1, 2] rfl) kx
                    · have hf := kif c_74 hf
                      refine lv_iconst (v := 1) hx hb dX5_count_77 (by decide) ?_
                      refine lv_goto (tgt := 82) hx hb dX5_count_78 (by decide) ?_
                      obtain ⟨h_82, hf⟩ := rdc_some hf
                      refine kc_zast hx hb hK hP hD hS 6 1 rfl rfl knar1 h_82 dX5_count_82 (fun H locs hP hD hS => ?_)
                      have hP : va_P D vwCl (PX5 a0 a1 a2 a3 a4 a5 a6 a7 a8 a9 a10 a11 a12 cyI cyZ w_thrown w_size w_kinds w_as w_bs w_registers w_isMade w_steps w_stepParts w_pieces w_pieceParts w_slots (upd w_areCounted_L37 x1_L7.toNatClampNeg 1) w_registerOf w_slotOf w_pieceOf w_heldBy w_isSlotTaken w_outputs w_output) H := hP
                      have hD : va_D A (PX5 a0 a1 a2 a3 a4 a5 a6 a7 a8 a9 a10 a11 a12 cyI cyZ w_thrown w_size w_kinds w_as w_bs w_registers w_isMade w_steps w_stepParts w_pieces w_pieceParts w_slots (upd w_areCounted_L37 x1_L7.toNatClampNeg 1) w_registerOf w_slotOf w_pieceOf w_heldBy w_isSlotTaken w_outputs w_output) := hD
                      refine lv_iinc (v := (x2_L37 + 1)) (lv' := [(2, .int (x2_L37 + 1)), (1, .int x1_L7), (0, .ref a0)]) hx hb dX5_count_83 hl (k := 0) rfl rfl (by decide) rfl (fun ls hl => ?_)
                      refine lv_goto (tgt := 37) hx hb dX5_count_86 (by decide) ?_
                      exact ih (x2_L37 + 1) (upd w_areCounted_L37 x1_L7.toNatClampNeg 1) _ hf _ _ _ hP hD hS (lv_sub hl [0, 1, 2] rfl) kx
          obtain ⟨v37, hf37, hf⟩ := kbd hf
          refine L37 4000 (x1_L7 + 1) (upd w_areCounted_L7 x1_L7.toNatClampNeg 1) v37 hf37 _ _ _ hP hD hS (lv_sub hl [0, 1, 2] rfl) (fun H locs ls hP hD hS hl => ?_)
          refine lv_iinc (v := (x1_L7 + (-1))) (lv' := [(1, .int (x1_L7 + (-1))), (0, .ref a0)]) hx hb dX5_count_89 hl (k := 0) rfl rfl (by decide) rfl (fun ls hl => ?_)
          refine lv_goto (tgt := 7) hx hb dX5_count_92 (by decide) ?_
          exact ih (x1_L7 + (-1)) v37 _ hf _ _ _ hP hD hS (lv_sub hl [0, 1] rfl) kx
  obtain ⟨v7, hf7, hf⟩ := kbd hf
  refine L7 4000 (w_size - 1) w_areCounted v7 hf7 _ _ _ hP hD hS (lv_sub hl [0, 1] rfl) (fun H locs ls hP hD hS hl => ?_)
  obtain rfl := Option.some.inj hf
  exact ret _ _ _ _ dX5_count_95 hP hD hS

abbrev rmX5_counts : Room := { frames := 2, cells := 0, slots := 0, locals := 44 }
set_option maxHeartbeats 4000000 in
set_option maxRecDepth 100000 in
theorem c_X5_counts (l : Launch) (D : va_G) (cyI cyZ : ClassId) (a0 a1 a2 a3 a4 a5 a6 a7 a8 a9 a10 a11 a12 : Nat) (w_thrown : Int32) (w_size : Int32) (w_kinds : Nat → Int32) (w_as : Nat → Int32) (w_bs : Nat → Int32) (w_registers : Int32) (w_isMade : Int32) (w_steps : Int32) (w_stepParts : Nat → Int32) (w_pieces : Int32) (w_pieceParts : Nat → Int32) (w_slots : Int32) (w_areCounted : Nat → Int32) (w_registerOf : Nat → Int32) (w_slotOf : Nat → Int32) (w_pieceOf : Nat → Int32) (w_heldBy : Nat → Int32) (w_isSlotTaken : Nat → Int32) (w_outputs : Int32) (w_output : Nat → Int32) (p1 : Int32) (o : Int32 × Int32 × (Nat → Int32)) (hf : f_X5_counts p1 w_size w_kinds w_as w_bs w_areCounted = some o) : kMi l yX5_counts wsX5_counts rmX5_counts [.ref a0, .int p1] D (PX5 a0 a1 a2 a3 a4 a5 a6 a7 a8 a9 a10 a11 a12 cyI cyZ w_thrown w_size w_kinds w_as w_bs w_registers w_isMade w_steps w_stepParts w_pieces w_pieceParts w_slots w_areCounted w_registerOf w_slotOf w_pieceOf w_heldBy w_isSlotTaken w_outputs w_output) (PX5 a0 a1 a2 a3 a4 a5 a6 a7 a8 a9 a10 a11 a12 cyI cyZ o.2.1 w_size w_kinds w_as w_bs w_registers w_isMade w_steps w_stepParts w_pieces w_pieceParts w_slots o.2.2 w_registerOf w_slotOf w_pieceOf w_heldBy w_isSlotTaken w_outputs w_output) (kT cyI cyZ) o.1 0 0 := by
  refine kOf_i (cc := cX5_counts) (maxL := 2) (ty := .boolean) (by decide +kernel) rfl (Nat.le_of_ble_eq_true rfl) ?_
  intro p e s m args below meth c A Z ls C0 hP hK hD hA hl ret
  obtain ⟨hx, hb, hr, hml, hown, hts, hlocks⟩ := C0
  have hown : s.vm.findClass RX5 = some m.cls := hown
  have hl : lv_has ls 2 [(0, .ref a0), (1, .int p1)] := hl
  have hS : va_S A s.heap s.heap [] := va_S.rf
  have i_X5 : ∀ w ∈ wsX50, w ∈ wsX5_counts := by decide +kernel
  have k29 := hts (.fieldLink RX5 29 "RegisterAllocatorModel" "areCounted" "[Z") (by decide +kernel)
  have k51 := hts (.fieldLink RX5 51 "RegisterAllocatorModel" "thrown" "I") (by decide +kernel)
  have J14 : ∀ (x1_J14 : Int32) (t1_J14 : Int32) (w_thrown_J14 : Int32) (w_areCounted_J14 : Nat → Int32) (_ : f_X5_counts_J14 w_size w_kinds w_as w_bs x1_J14 t1_J14 w_areCounted_J14 = some o) (H : Heap) (locs : List Loc) (ls : Array Slot), va_P D vwCl (PX5 a0 a1 a2 a3 a4 a5 a6 a7 a8 a9 a10 a11 a12 cyI cyZ w_thrown_J14 w_size w_kinds w_as w_bs w_registers w_isMade w_steps w_stepParts w_pieces w_pieceParts w_slots w_areCounted_J14 w_registerOf w_slotOf w_pieceOf w_heldBy w_isSlotTaken w_outputs w_output) H → va_D A (PX5 a0 a1 a2 a3 a4 a5 a6 a7 a8 a9 a10 a11 a12 cyI cyZ w_thrown_J14 w_size w_kinds w_as w_bs w_registers w_isMade w_steps w_stepParts w_pieces w_pieceParts w_slots w_areCounted_J14 w_registerOf w_slotOf w_pieceOf w_heldBy w_isSlotTaken w_outputs w_output) → va_S A s.heap H locs → lv_has ls 2 [(0, .ref a0), (1, .int x1_J14)] → W p l e rmX5_counts s m args below meth c H locs 0 0 Z (F0 m 14 ls [.int t1_J14, .ref a0]) := by
    intro x1_J14 t1_J14 w_thrown_J14 w_areCounted_J14 hf H locs ls hP hD hS hl
    rw [f_X5_counts_J14] at hf
    refine va_put (D := D) (ci := 5) (v := .int t1_J14) (ty := .int) (C := RX5) (T := TX5) (N := 20) hx hb hts i_X5 tyX5 tyX5_ok nmX5 hown hK hP hD hS 0 rfl rfl 0 (by decide) k51 (fun _ h9 => h9) rfl (by decide +kernel) rfl (by first | rfl | decide) (Nat.le_of_ble_eq_true rfl) dX5_counts_14 (fun H locs hP hD hS => ?_)
    have hP : va_P D vwCl (PX5 a0 a1 a2 a3 a4 a5 a6 a7 a8 a9 a10 a11 a12 cyI cyZ t1_J14 w_size w_kinds w_as w_bs w_registers w_isMade w_steps w_stepParts w_pieces w_pieceParts w_slots w_areCounted_J14 w_registerOf w_slotOf w_pieceOf w_heldBy w_isSlotTaken w_outputs w_output) H := hP
    have hD : va_D A (PX5 a0 a1 a2 a3 a4 a5 a6 a7 a8 a9 a10 a11 a12 cyI cyZ t1_J14 w_size w_kinds w_as w_bs w_registers w_isMade w_steps w_stepParts w_pieces w_pieceParts w_slots w_areCounted_J14 w_registerOf w_slotOf w_pieceOf w_heldBy w_isSlotTaken w_outputs w_output) := hD
    refine lv_aload_n hx hb dX5_counts_17 rfl (lv_at hl 0 rfl) ?_
    refine va_get (D := D) (ci := 5) (v := .int t1_J14) (C := RX5) (T := TX5) (N := 20) hx hb hts i_X5 hown hK hP 0 rfl rfl 0 (by decide) k51 (fun _ h9 => h9) rfl dX5_counts_18 ?_
    refine lv_if_eq (tgt := 26) hx hb dX5_counts_21 (by decide) (fun c_21 => ?_) (fun c_21 => ?_)
    · have hf := kit c_21 hf
      refine lv_aload_n hx hb dX5_counts_26 rfl (lv_at hl 0 rfl) ?_
      obtain ⟨u27, hf27, hf⟩ := kbd hf
      refine kc_Vv (As := []) (rest := []) (wf := (PX5 a0 a1 a2 a3 a4 a5 a6 a7 a8 a9 a10 a11 a12 cyI cyZ t1_J14 w_size w_kinds w_as w_bs w_registers w_isMade w_steps w_stepParts w_pieces w_pieceParts w_slots u27 w_registerOf w_slotOf w_pieceOf w_heldBy w_isSlotTaken w_outputs w_output)) (c_X5_count l D cyI cyZ a0 a1 a2 a3 a4 a5 a6 a7 a8 a9 a10 a11 a12 t1_J14 w_size w_kinds w_as w_bs w_registers w_isMade w_steps w_stepParts w_pieces w_pieceParts w_slots w_areCounted_J14 w_registerOf w_slotOf w_pieceOf w_heldBy w_isSlotTaken w_outputs w_output u27 hf27) ⟨hx, hb, hml, hown, hts⟩ (cwV 0 hts gX5_counts_X5_count rfl rfl rfl (by decide +kernel) ⟨Nat.le_of_ble_eq_true rfl, Nat.le_of_ble_eq_true rfl⟩) hK hP hD hS hA [0, 1, 2, 3, 4, 5, 6, 7, 8, 9, 10, 11, 12] [] 13 rfl rfl kR0 rfl (by decide +kernel) rfl rfl rfl rfl hl.1 rfl (Nat.le_of_ble_eq_true rfl) dX5_counts_27 ⟨Nat.le_of_ble_eq_true rfl, Nat.le_of_ble_eq_true rfl⟩ (fun H locs hP hD hS => ?_)
      refine lv_aload_n hx hb dX5_counts_30 rfl (lv_at hl 0 rfl) ?_
      refine va_get (D := D) (ci := 5) (v := .ref a6) (C := RX5) (T := TX5) (N := 20) hx hb hts i_X5 hown hK hP 0 rfl rfl 12 (by decide) k29 (fun _ h9 => h9) rfl dX5_counts_31 ?_
      refine lv_iload_n hx hb dX5_counts_34 rfl (lv_at hl 1 rfl) ?_
      obtain ⟨h_35, hf⟩ := rdc_some hf
      refine va_zald hx hb hK hP 6 1 rfl rfl h_35 dX5_counts_35 ?_
      obtain ⟨hz, hf⟩ := zck_some hf
      obtain rfl := Option.some.inj hf
      exact ret _ _ _ _ dX5_counts_36 (znar hz) hP hD hS
    · have hf := kif c_21 hf
      refine lv_iconst (v := 0) hx hb dX5_counts_24 (by decide) ?_
      obtain rfl := Option.some.inj hf
      exact ret _ _ _ _ dX5_counts_25 (znar (Or.inl rfl)) hP hD hS
  rw [f_X5_counts] at hf
  refine lv_aload_n hx hb dX5_counts_0 rfl (lv_at hl 0 rfl) ?_
  refine lv_aload_n hx hb dX5_counts_1 rfl (lv_at hl 0 rfl) ?_
  refine lv_iload_n hx hb dX5_counts_2 rfl (lv_at hl 1 rfl) ?_
  obtain ⟨u3, hf3, hf⟩ := kbd hf
  refine kc_Vi (As := [.int p1]) (rest := [.ref a0]) (wf := (PX5 a0 a1 a2 a3 a4 a5 a6 a7 a8 a9 a10 a11 a12 cyI cyZ w_thrown w_size w_kinds w_as w_bs w_registers w_isMade w_steps w_stepParts w_pieces w_pieceParts w_slots w_areCounted w_registerOf w_slotOf w_pieceOf w_heldBy w_isSlotTaken w_outputs w_output)) (c_X5_isInstruction l D cyI cyZ a0 a1 a2 a3 a4 a5 a6 a7 a8 a9 a10 a11 a12 w_thrown w_size w_kinds w_as w_bs w_registers w_isMade w_steps w_stepParts w_pieces w_pieceParts w_slots w_areCounted w_registerOf w_slotOf w_pieceOf w_heldBy w_isSlotTaken w_outputs w_output p1 u3 hf3) ⟨hx, hb, hml, hown, hts⟩ (cwV 1 hts gX5_counts_X5_isInstruction rfl rfl rfl (by decide +kernel) ⟨Nat.le_of_ble_eq_true rfl, Nat.le_of_ble_eq_true rfl⟩) hK hP hD hS hA [0, 1, 2, 3, 4, 5, 6, 7, 8, 9, 10, 11, 12] [] 13 rfl rfl kR0 rfl (by decide +kernel) rfl rfl rfl rfl hl.1 rfl (Nat.le_of_ble_eq_true rfl) dX5_counts_3 ⟨Nat.le_of_ble_eq_true rfl, Nat.le_of_ble_eq_true rfl⟩ (fun H locs hP hD hS => ?_)
  refine lv_if_eq (tgt := 13) hx hb dX5_counts_6 (by decide) (fun c_6 => ?_) (fun c_6 => ?_)
  · have hf := kit c_6 hf
    refine lv_iconst (v := 1) hx hb dX5_counts_13 (by decide) ?_
    exact J14 p1 1 w_thrown w_areCounted hf _ _ _ hP hD hS (lv_sub hl [0, 1] rfl)
  · have hf := kif c_6 hf
    refine lv_iconst (v := 0) hx hb dX5_counts_9 (by decide) ?_
    refine lv_goto (tgt := 14) hx hb dX5_counts_10 (by decide) ?_
    exact J14 p1 0 w_thrown w_areCounted hf _ _ _ hP hD hS (lv_sub hl [0, 1] rfl)

abbrev rmX5_useFrom : Room := { frames := 1, cells := 0, slots := 0, locals := 22 }
set_option maxHeartbeats 4000000 in
set_option maxRecDepth 100000 in
theorem c_X5_useFrom (l : Launch) (D : va_G) (cyI cyZ : ClassId) (a0 a1 a2 a3 a4 a5 a6 a7 a8 a9 a10 a11 a12 : Nat) (w_thrown : Int32) (w_size : Int32) (w_kinds : Nat → Int32) (w_as : Nat → Int32) (w_bs : Nat → Int32) (w_registers : Int32) (w_isMade : Int32) (w_steps : Int32) (w_stepParts : Nat → Int32) (w_pieces : Int32) (w_pieceParts : Nat → Int32) (w_slots : Int32) (w_areCounted : Nat → Int32) (w_registerOf : Nat → Int32) (w_slotOf : Nat → Int32) (w_pieceOf : Nat → Int32) (w_heldBy : Nat → Int32) (w_isSlotTaken : Nat → Int32) (w_outputs : Int32) (w_output : Nat → Int32) (p1 : Int32) (p2 : Int32) (o : Int32) (hf : f_X5_useFrom p1 p2 w_size w_kinds w_as w_bs w_areCounted = some o) : kMi l yX5_useFrom wsX5_useFrom rmX5_useFrom [.ref a0, .int p1, .int p2] D (PX5 a0 a1 a2 a3 a4 a5 a6 a7 a8 a9 a10 a11 a12 cyI cyZ w_thrown w_size w_kinds w_as w_bs w_registers w_isMade w_steps w_stepParts w_pieces w_pieceParts w_slots w_areCounted w_registerOf w_slotOf w_pieceOf w_heldBy w_isSlotTaken w_outputs w_output) (PX5 a0 a1 a2 a3 a4 a5 a6 a7 a8 a9 a10 a11 a12 cyI cyZ w_thrown w_size w_kinds w_as w_bs w_registers w_isMade w_steps w_stepParts w_pieces w_pieceParts w_slots w_areCounted w_registerOf w_slotOf w_pieceOf w_heldBy w_isSlotTaken w_outputs w_output) (kT cyI cyZ) o 0 0 := by
  refine kOf_i (cc := cX5_useFrom) (maxL := 4) (ty := .int) (by decide +kernel) rfl (Nat.le_of_ble_eq_true rfl) ?_
  intro p e s m args below meth c A Z ls C0 hP hK hD hA hl ret
  obtain ⟨hx, hb, hr, hml, hown, hts, hlocks⟩ := C0
  have hown : s.vm.findClass RX5 = some m.cls := hown
  have hl : lv_has ls 4 [(0, .ref a0), (1, .int p1), (2, .int p2)] := hl
  have hS : va_S A s.heap s.heap [] := va_S.rf
  have i_X5 : ∀ w ∈ wsX50, w ∈ wsX5_useFrom := by decide +kernel
  have k29 := hts (.fieldLink RX5 29 "RegisterAllocatorModel" "areCounted" "[Z") (by decide +kernel)
  have k54 := hts (.fieldLink RX5 54 "RegisterAllocatorModel" "size" "I") (by decide +kernel)
  have km83 := hts (.methodLink RX5 83 Lib.Math.max.name) (by decide +kernel)
  have kmc_max := hts (.code Lib.Math.max.name Lib.Math.max.code 2 (some .int)) (by decide +kernel)
  have kmi := hts (.initialized "java/lang/Math") (by decide +kernel)
  have kms_max := hts (.static Lib.Math.max.name) (by decide +kernel)
  rw [f_X5_useFrom] at hf
  refine lv_iload_n hx hb dX5_useFrom_0 rfl (lv_at hl 2 rfl) ?_
  refine lv_iconst (v := 0) hx hb dX5_useFrom_1 (by decide) ?_
  refine va_mmax hx hb (hml.trans hl.1.symm) hown km83 kms_max kmi kmc_max (Nat.le_of_ble_eq_true rfl) (Nat.le_of_ble_eq_true rfl) (Nat.le_of_ble_eq_true rfl) (Nat.le_of_ble_eq_true rfl) dX5_useFrom_2 ?_
  refine lv_istore_n (lv' := [(3, .int (if p2 < 0 then 0 else p2)), (0, .ref a0), (1, .int p1), (2, .int p2)]) hx hb dX5_useFrom_5 rfl hl (by decide) rfl (fun ls hl => ?_)
  have L6 : ∀ (n : Nat) (x3_L6 : Int32) (_ : f_X5_useFrom_L6 w_size w_kinds w_as w_bs w_areCounted p1 n x3_L6 = some o) (H : Heap) (locs : List Loc) (ls : Array Slot), va_P D vwCl (PX5 a0 a1 a2 a3 a4 a5 a6 a7 a8 a9 a10 a11 a12 cyI cyZ w_thrown w_size w_kinds w_as w_bs w_registers w_isMade w_steps w_stepParts w_pieces w_pieceParts w_slots w_areCounted w_registerOf w_slotOf w_pieceOf w_heldBy w_isSlotTaken w_outputs w_output) H → va_D A (PX5 a0 a1 a2 a3 a4 a5 a6 a7 a8 a9 a10 a11 a12 cyI cyZ w_thrown w_size w_kinds w_as w_bs w_registers w_isMade w_steps w_stepParts w_pieces w_pieceParts w_slots w_areCounted w_registerOf w_slotOf w_pieceOf w_heldBy w_isSlotTaken w_outputs w_output) → va_S A s.heap H locs → lv_has ls 4 [(3, .int x3_L6), (0, .ref a0), (1, .int p1)] → W p l e rmX5_useFrom s m args below meth c H locs 0 0 Z (F0 m 6 ls []) := by
    intro n
    induction n with
    | zero =>
      intro x3_L6 hf
      rw [f_X5_useFrom_L6] at hf
      cases hf
    | succ n ih =>
      intro x3_L6 hf H locs ls hP hD hS hl
      rw [f_X5_useFrom_L6] at hf
      refine lv_iload_n hx hb dX5_useFrom_6 rfl (lv_at hl 0 rfl) ?_
      refine lv_aload_n hx hb dX5_useFrom_7 rfl (lv_at hl 1 rfl) ?_
      refine va_get (D := D) (ci := 5) (v := .int w_size) (C := RX5) (T := TX5) (N := 20) hx hb hts i_X5 hown hK hP 0 rfl rfl 1 (by decide) k54 (fun _ h9 => h9) rfl dX5_useFrom_8 ?_
      refine lv_icmp_ge (tgt := 40) hx hb dX5_useFrom_11 (by decide) (fun c_11 => ?_) (fun c_11 => ?_)
      · have hf := kit c_11 hf
        refine lv_iconst (v := (-1)) hx hb dX5_useFrom_40 (by decide) ?_
        obtain rfl := Option.some.inj hf
        exact ret _ _ _ _ dX5_useFrom_41 rfl hP hD hS
      · have hf := kif c_11 hf
        refine lv_aload_n hx hb dX5_useFrom_14 rfl (lv_at hl 1 rfl) ?_
        refine va_get (D := D) (ci := 5) (v := .ref a6) (C := RX5) (T := TX5) (N := 20) hx hb hts i_X5 hown hK hP 0 rfl rfl 12 (by decide) k29 (fun _ h9 => h9) rfl dX5_useFrom_15 ?_
        refine lv_iload_n hx hb dX5_useFrom_18 rfl (lv_at hl 0 rfl) ?_
        obtain ⟨h_19, hf⟩ := rdc_some hf
        refine va_zald hx hb hK hP 6 1 rfl rfl h_19 dX5_useFrom_19 ?_
        refine lv_if_eq (tgt := 34) hx hb dX5_useFrom_20 (by decide) (fun c_20 => ?_) (fun c_20 => ?_)
        · have hf := kit c_20 hf
          refine lv_iinc (v := (x3_L6 + 1)) (lv' := [(3, .int (x3_L6 + 1)), (0, .ref a0), (1, .int p1)]) hx hb dX5_useFrom_34 hl (k := 0) rfl rfl (by decide) rfl (fun ls hl => ?_)
          refine lv_goto (tgt := 6) hx hb dX5_useFrom_37 (by decide) ?_
          exact ih (x3_L6 + 1) hf _ _ _ hP hD hS (lv_sub hl [0, 1, 2] rfl)
        · have hf := kif c_20 hf
          refine lv_aload_n hx hb dX5_useFrom_23 rfl (lv_at hl 1 rfl) ?_
          refine lv_iload_n hx hb dX5_useFrom_24 rfl (lv_at hl 0 rfl) ?_
          refine lv_iload_n hx hb dX5_useFrom_25 rfl (lv_at hl 2 rfl) ?_
          obtain ⟨u26, hf26, hf⟩ := kbd hf
          refine kc_Vi (As := [.int x3_L6, .int p1]) (rest := []) (wf := (PX5 a0 a1 a2 a3 a4 a5 a6 a7 a8 a9 a10 a11 a12 cyI cyZ w_thrown w_size w_kinds w_as w_bs w_registers w_isMade w_steps w_stepParts w_pieces w_pieceParts w_slots w_areCounted w_registerOf w_slotOf w_pieceOf w_heldBy w_isSlotTaken w_outputs w_output)) (c_X5_takes l D cyI cyZ a0 a1 a2 a3 a4 a5 a6 a7 a8 a9 a10 a11 a12 w_thrown w_size w_kinds w_as w_bs w_registers w_isMade w_steps w_stepParts w_pieces w_pieceParts w_slots w_areCounted w_registerOf w_slotOf w_pieceOf w_heldBy w_isSlotTaken w_outputs w_output x3_L6 p1 u26 hf26) ⟨hx, hb, hml, hown, hts⟩ (cwV 2 hts gX5_useFrom_X5_takes rfl rfl rfl (by decide +kernel) ⟨Nat.le_of_ble_eq_true rfl, Nat.le_of_ble_eq_true rfl⟩) hK hP hD hS hA [0, 1, 2, 3, 4, 5, 6, 7, 8, 9, 10, 11, 12] [] 13 rfl rfl kR0 rfl (by decide +kernel) rfl rfl rfl rfl hl.1 rfl (Nat.le_of_ble_eq_true rfl) dX5_useFrom_26 ⟨Nat.le_of_ble_eq_true rfl, Nat.le_of_ble_eq_true rfl⟩ (fun H locs hP hD hS => ?_)
          refine lv_if_eq (tgt := 34) hx hb dX5_useFrom_29 (by decide) (fun c_29 => ?_) (fun c_29 => ?_)
          · have hf := kit c_29 hf
            refine lv_iinc (v := (x3_L6 + 1)) (lv' := [(3, .int (x3_L6 + 1)), (0, .ref a0), (1, .int p1)]) hx hb dX5_useFrom_34 hl (k := 0) rfl rfl (by decide) rfl (fun ls hl => ?_)
            refine lv_goto (tgt := 6) hx hb dX5_useFrom_37 (by decide) ?_
            exact ih (x3_L6 + 1) hf _ _ _ hP hD hS (lv_sub hl [0, 1, 2] rfl)
          · have hf := kif c_29 hf
            refine lv_iload_n hx hb dX5_useFrom_32 rfl (lv_at hl 0 rfl) ?_
            obtain rfl := Option.some.inj hf
            exact ret _ _ _ _ dX5_useFrom_33 rfl hP hD hS
  exact L6 4000 (if p2 < 0 then 0 else p2) hf _ _ _ hP hD hS (lv_sub hl [0, 1, 2] rfl)

abbrev rmX5_nextUse : Room := { frames := 2, cells := 0, slots := 0, locals := 45 }
set_option maxHeartbeats 4000000 in
set_option maxRecDepth 100000 in
theorem c_X5_nextUse (l : Launch) (D : va_G) (cyI cyZ : ClassId) (a0 a1 a2 a3 a4 a5 a6 a7 a8 a9 a10 a11 a12 : Nat) (w_thrown : Int32) (w_size : Int32) (w_kinds : Nat → Int32) (w_as : Nat → Int32) (w_bs : Nat → Int32) (w_registers : Int32) (w_isMade : Int32) (w_steps : Int32) (w_stepParts : Nat → Int32) (w_pieces : Int32) (w_pieceParts : Nat → Int32) (w_slots : Int32) (w_areCounted : Nat → Int32) (w_registerOf : Nat → Int32) (w_slotOf : Nat → Int32) (w_pieceOf : Nat → Int32) (w_heldBy : Nat → Int32) (w_isSlotTaken : Nat → Int32) (w_outputs : Int32) (w_output : Nat → Int32) (p1 : Int32) (p2 : Int32) (o : Int32 × Int32 × (Nat → Int32)) (hf : f_X5_nextUse p1 p2 w_size w_kinds w_as w_bs w_areCounted = some o) : kMi l yX5_nextUse wsX5_nextUse rmX5_nextUse [.ref a0, .int p1, .int p2] D (PX5 a0 a1 a2 a3 a4 a5 a6 a7 a8 a9 a10 a11 a12 cyI cyZ w_thrown w_size w_kinds w_as w_bs w_registers w_isMade w_steps w_stepParts w_pieces w_pieceParts w_slots w_areCounted w_registerOf w_slotOf w_pieceOf w_heldBy w_isSlotTaken w_outputs w_output) (PX5 a0 a1 a2 a3 a4 a5 a6 a7 a8 a9 a10 a11 a12 cyI cyZ o.2.1 w_size w_kinds w_as w_bs w_registers w_isMade w_steps w_stepParts w_pieces w_pieceParts w_slots o.2.2 w_registerOf w_slotOf w_pieceOf w_heldBy w_isSlotTaken w_outputs w_output) (kT cyI cyZ) o.1 0 0 := by
  refine kOf_i (cc := cX5_nextUse) (maxL := 3) (ty := .int) (by decide +kernel) rfl (Nat.le_of_ble_eq_true rfl) ?_
  intro p e s m args below meth c A Z ls C0 hP hK hD hA hl ret
  obtain ⟨hx, hb, hr, hml, hown, hts, hlocks⟩ := C0
  have hown : s.vm.findClass RX5 = some m.cls := hown
  have hl : lv_has ls 3 [(0, .ref a0), (1, .int p1), (2, .int p2)] := hl
  have hS : va_S A s.heap s.heap [] := va_S.rf
  have i_X5 : ∀ w ∈ wsX50, w ∈ wsX5_nextUse := by decide +kernel
  have k51 := hts (.fieldLink RX5 51 "RegisterAllocatorModel" "thrown" "I") (by decide +kernel)
  rw [f_X5_nextUse] at hf
  refine lv_aload_n hx hb dX5_nextUse_0 rfl (lv_at hl 0 rfl) ?_
  refine lv_iconst (v := 0) hx hb dX5_nextUse_1 (by decide) ?_
  refine va_put (D := D) (ci := 5) (v := .int 0) (ty := .int) (C := RX5) (T := TX5) (N := 20) hx hb hts i_X5 tyX5 tyX5_ok nmX5 hown hK hP hD hS 0 rfl rfl 0 (by decide) k51 (fun _ h9 => h9) rfl (by decide +kernel) rfl (by first | rfl | decide) (Nat.le_of_ble_eq_true rfl) dX5_nextUse_2 (fun H locs hP hD hS => ?_)
  have hP : va_P D vwCl (PX5 a0 a1 a2 a3 a4 a5 a6 a7 a8 a9 a10 a11 a12 cyI cyZ 0 w_size w_kinds w_as w_bs w_registers w_isMade w_steps w_stepParts w_pieces w_pieceParts w_slots w_areCounted w_registerOf w_slotOf w_pieceOf w_heldBy w_isSlotTaken w_outputs w_output) H := hP
  have hD : va_D A (PX5 a0 a1 a2 a3 a4 a5 a6 a7 a8 a9 a10 a11 a12 cyI cyZ 0 w_size w_kinds w_as w_bs w_registers w_isMade w_steps w_stepParts w_pieces w_pieceParts w_slots w_areCounted w_registerOf w_slotOf w_pieceOf w_heldBy w_isSlotTaken w_outputs w_output) := hD
  refine lv_aload_n hx hb dX5_nextUse_5 rfl (lv_at hl 0 rfl) ?_
  refine lv_iload_n hx hb dX5_nextUse_6 rfl (lv_at hl 1 rfl) ?_
  obtain ⟨u7, hf7, hf⟩ := kbd hf
  refine kc_Vi (As := [.int p1]) (rest := []) (wf := (PX5 a0 a1 a2 a3 a4 a5 a6 a7 a8 a9 a10 a11 a12 cyI cyZ 0 w_size w_kinds w_as w_bs w_registers w_isMade w_steps w_stepParts w_pieces w_pieceParts w_slots w_areCounted w_registerOf w_slotOf w_pieceOf w_heldBy w_isSlotTaken w_outputs w_output)) (c_X5_isInstruction l D cyI cyZ a0 a1 a2 a3 a4 a5 a6 a7 a8 a9 a10 a11 a12 0 w_size w_kinds w_as w_bs w_registers w_isMade w_steps w_stepParts w_pieces w_pieceParts w_slots w_areCounted w_registerOf w_slotOf w_pieceOf w_heldBy w_isSlotTaken w_outputs w_output p1 u7 hf7) ⟨hx, hb, hml, hown, hts⟩ (cwV 1 hts gX5_nextUse_X5_isInstruction rfl rfl rfl (by decide +kernel) ⟨Nat.le_of_ble_eq_true rfl, Nat.le_of_ble_eq_true rfl⟩) hK hP hD hS hA [0, 1, 2, 3, 4, 5, 6, 7, 8, 9, 10, 11, 12] [] 13 rfl rfl kR0 rfl (by decide +kernel) rfl rfl rfl rfl hl.1 rfl (Nat.le_of_ble_eq_true rfl) dX5_nextUse_7 ⟨Nat.le_of_ble_eq_true rfl, Nat.le_of_ble_eq_true rfl⟩ (fun H locs hP hD hS => ?_)
  refine lv_if_ne (tgt := 19) hx hb dX5_nextUse_10 (by decide) (fun c_10 => ?_) (fun c_10 => ?_)
  · have hf := kif c_10 hf
    refine lv_aload_n hx hb dX5_nextUse_19 rfl (lv_at hl 0 rfl) ?_
    obtain ⟨u20, hf20, hf⟩ := kbd hf
    refine kc_Vv (As := []) (rest := []) (wf := (PX5 a0 a1 a2 a3 a4 a5 a6 a7 a8 a9 a10 a11 a12 cyI cyZ 0 w_size w_kinds w_as w_bs w_registers w_isMade w_steps w_stepParts w_pieces w_pieceParts w_slots u20 w_registerOf w_slotOf w_pieceOf w_heldBy w_isSlotTaken w_outputs w_output)) (c_X5_count l D cyI cyZ a0 a1 a2 a3 a4 a5 a6 a7 a8 a9 a10 a11 a12 0 w_size w_kinds w_as w_bs w_registers w_isMade w_steps w_stepParts w_pieces w_pieceParts w_slots w_areCounted w_registerOf w_slotOf w_pieceOf w_heldBy w_isSlotTaken w_outputs w_output u20 hf20) ⟨hx, hb, hml, hown, hts⟩ (cwV 0 hts gX5_nextUse_X5_count rfl rfl rfl (by decide +kernel) ⟨Nat.le_of_ble_eq_true rfl, Nat.le_of_ble_eq_true rfl⟩) hK hP hD hS hA [0, 1, 2, 3, 4, 5, 6, 7, 8, 9, 10, 11, 12] [] 13 rfl rfl kR0 rfl (by decide +kernel) rfl rfl rfl rfl hl.1 rfl (Nat.le_of_ble_eq_true rfl) dX5_nextUse_20 ⟨Nat.le_of_ble_eq_true rfl, Nat.le_of_ble_eq_true rfl⟩ (fun H locs hP hD hS => ?_)
    refine lv_aload_n hx hb dX5_nextUse_23 rfl (lv_at hl 0 rfl) ?_
    refine lv_iload_n hx hb dX5_nextUse_24 rfl (lv_at hl 1 rfl) ?_
    refine lv_iload_n hx hb dX5_nextUse_25 rfl (lv_at hl 2 rfl) ?_
    obtain ⟨u26, hf26, hf⟩ := kbd hf
    refine kc_Vi (As := [.int p1, .int p2]) (rest := []) (wf := (PX5 a0 a1 a2 a3 a4 a5 a6 a7 a8 a9 a10 a11 a12 cyI cyZ 0 w_size w_kinds w_as w_bs w_registers w_isMade w_steps w_stepParts w_pieces w_pieceParts w_slots u20 w_registerOf w_slotOf w_pieceOf w_heldBy w_isSlotTaken w_outputs w_output)) (c_X5_useFrom l D cyI cyZ a0 a1 a2 a3 a4 a5 a6 a7 a8 a9 a10 a11 a12 0 w_size w_kinds w_as w_bs w_registers w_isMade w_steps w_stepParts w_pieces w_pieceParts w_slots u20 w_registerOf w_slotOf w_pieceOf w_heldBy w_isSlotTaken w_outputs w_output p1 p2 u26 hf26) ⟨hx, hb, hml, hown, hts⟩ (cwV 2 hts gX5_nextUse_X5_useFrom rfl rfl rfl (by decide +kernel) ⟨Nat.le_of_ble_eq_true rfl, Nat.le_of_ble_eq_true rfl⟩) hK hP hD hS hA [0, 1, 2, 3, 4, 5, 6, 7, 8, 9, 10, 11, 12] [] 13 rfl rfl kR0 rfl (by decide +kernel) rfl rfl rfl rfl hl.1 rfl (Nat.le_of_ble_eq_true rfl) dX5_nextUse_26 ⟨Nat.le_of_ble_eq_true rfl, Nat.le_of_ble_eq_true rfl⟩ (fun H locs hP hD hS => ?_)
    obtain rfl := Option.some.inj hf
    exact ret _ _ _ _ dX5_nextUse_29 rfl hP hD hS
  · have hf := kit c_10 hf
    refine lv_aload_n hx hb dX5_nextUse_13 rfl (lv_at hl 0 rfl) ?_
    refine lv_iconst (v := 1) hx hb dX5_nextUse_14 (by decide) ?_
    obtain ⟨⟨u15_0, u15_1⟩, hf15, hf⟩ := kbd hf
    try dsimp only at hf
    refine kc_Vi (As := [.int 1]) (rest := []) (wf := (PX5 a0 a1 a2 a3 a4 a5 a6 a7 a8 a9 a10 a11 a12 cyI cyZ u15_1 w_size w_kinds w_as w_bs w_registers w_isMade w_steps w_stepParts w_pieces w_pieceParts w_slots w_areCounted w_registerOf w_slotOf w_pieceOf w_heldBy w_isSlotTaken w_outputs w_output)) (c_X5_fail l D cyI cyZ a0 a1 a2 a3 a4 a5 a6 a7 a8 a9 a10 a11 a12 0 w_size w_kinds w_as w_bs w_registers w_isMade w_steps w_stepParts w_pieces w_pieceParts w_slots w_areCounted w_registerOf w_slotOf w_pieceOf w_heldBy w_isSlotTaken w_outputs w_output 1 (u15_0, u15_1) hf15) ⟨hx, hb, hml, hown, hts⟩ (cwV 1 hts gX5_nextUse_X5_fail rfl rfl rfl (by decide +kernel) ⟨Nat.le_of_ble_eq_true rfl, Nat.le_of_ble_eq_true rfl⟩) hK hP hD hS hA [0, 1, 2, 3, 4, 5, 6, 7, 8, 9, 10, 11, 12] [] 13 rfl rfl kR0 rfl (by decide +kernel) rfl rfl rfl rfl hl.1 rfl (Nat.le_of_ble_eq_true rfl) dX5_nextUse_15 ⟨Nat.le_of_ble_eq_true rfl, Nat.le_of_ble_eq_true rfl⟩ (fun H locs hP hD hS => ?_)
    obtain rfl := Option.some.inj hf
    exact ret _ _ _ _ dX5_nextUse_18 rfl hP hD hS

abbrev rmX5_pressure : Room := { frames := 2, cells := 0, slots := 0, locals := 45 }
set_option maxHeartbeats 4000000 in
set_option maxRecDepth 100000 in
theorem c_X5_pressure (l : Launch) (D : va_G) (cyI cyZ : ClassId) (a0 a1 a2 a3 a4 a5 a6 a7 a8 a9 a10 a11 a12 : Nat) (w_thrown : Int32) (w_size : Int32) (w_kinds : Nat → Int32) (w_as : Nat → Int32) (w_bs : Nat → Int32) (w_registers : Int32) (w_isMade : Int32) (w_steps : Int32) (w_stepParts : Nat → Int32) (w_pieces : Int32) (w_pieceParts : Nat → Int32) (w_slots : Int32) (w_areCounted : Nat → Int32) (w_registerOf : Nat → Int32) (w_slotOf : Nat → Int32) (w_pieceOf : Nat → Int32) (w_heldBy : Nat → Int32) (w_isSlotTaken : Nat → Int32) (w_outputs : Int32) (w_output : Nat → Int32) (p1 : Int32) (o : Int32 × Int32 × (Nat → Int32)) (hf : f_X5_pressure p1 w_size w_kinds w_as w_bs w_areCounted = some o) : kMi l yX5_pressure wsX5_pressure rmX5_pressure [.ref a0, .int p1] D (PX5 a0 a1 a2 a3 a4 a5 a6 a7 a8 a9 a10 a11 a12 cyI cyZ w_thrown w_size w_kinds w_as w_bs w_registers w_isMade w_steps w_stepParts w_pieces w_pieceParts w_slots w_areCounted w_registerOf w_slotOf w_pieceOf w_heldBy w_isSlotTaken w_outputs w_output) (PX5 a0 a1 a2 a3 a4 a5 a6 a7 a8 a9 a10 a11 a12 cyI cyZ o.2.1 w_size w_kinds w_as w_bs w_registers w_isMade w_steps w_stepParts w_pieces w_pieceParts w_slots o.2.2 w_registerOf w_slotOf w_pieceOf w_heldBy w_isSlotTaken w_outputs w_output) (kT cyI cyZ) o.1 0 0 := by
  refine kOf_i (cc := cX5_pressure) (maxL := 4) (ty := .int) (by decide +kernel) rfl (Nat.le_of_ble_eq_true rfl) ?_
  intro p e s m args below meth c A Z ls C0 hP hK hD hA hl ret
  obtain ⟨hx, hb, hr, hml, hown, hts, hlocks⟩ := C0
  have hown : s.vm.findClass RX5 = some m.cls := hown
  have hl : lv_has ls 4 [(0, .ref a0), (1, .int p1)] := hl
  have hS : va_S A s.heap s.heap [] := va_S.rf
  have i_X5 : ∀ w ∈ wsX50, w ∈ wsX5_pressure := by decide +kernel
  have k51 := hts (.fieldLink RX5 51 "RegisterAllocatorModel" "thrown" "I") (by decide +kernel)
  rw [f_X5_pressure] at hf
  refine lv_aload_n hx hb dX5_pressure_0 rfl (lv_at hl 0 rfl) ?_
  refine lv_iconst (v := 0) hx hb dX5_pressure_1 (by decide) ?_
  refine va_put (D := D) (ci := 5) (v := .int 0) (ty := .int) (C := RX5) (T := TX5) (N := 20) hx hb hts i_X5 tyX5 tyX5_ok nmX5 hown hK hP hD hS 0 rfl rfl 0 (by decide) k51 (fun _ h9 => h9) rfl (by decide +kernel) rfl (by first | rfl | decide) (Nat.le_of_ble_eq_true rfl) dX5_pressure_2 (fun H locs hP hD hS => ?_)
  have hP : va_P D vwCl (PX5 a0 a1 a2 a3 a4 a5 a6 a7 a8 a9 a10 a11 a12 cyI cyZ 0 w_size w_kinds w_as w_bs w_registers w_isMade w_steps w_stepParts w_pieces w_pieceParts w_slots w_areCounted w_registerOf w_slotOf w_pieceOf w_heldBy w_isSlotTaken w_outputs w_output) H := hP
  have hD : va_D A (PX5 a0 a1 a2 a3 a4 a5 a6 a7 a8 a9 a10 a11 a12 cyI cyZ 0 w_size w_kinds w_as w_bs w_registers w_isMade w_steps w_stepParts w_pieces w_pieceParts w_slots w_areCounted w_registerOf w_slotOf w_pieceOf w_heldBy w_isSlotTaken w_outputs w_output) := hD
  refine lv_aload_n hx hb dX5_pressure_5 rfl (lv_at hl 0 rfl) ?_
  refine lv_iload_n hx hb dX5_pressure_6 rfl (lv_at hl 1 rfl) ?_
  obtain ⟨u7, hf7, hf⟩ := kbd hf
  refine kc_Vi (As := [.int p1]) (rest := []) (wf := (PX5 a0 a1 a2 a3 a4 a5 a6 a7 a8 a9 a10 a11 a12 cyI cyZ 0 w_size w_kinds w_as w_bs w_registers w_isMade w_steps w_stepParts w_pieces w_pieceParts w_slots w_areCounted w_registerOf w_slotOf w_pieceOf w_heldBy w_isSlotTaken w_outputs w_output)) (c_X5_isInstruction l D cyI cyZ a0 a1 a2 a3 a4 a5 a6 a7 a8 a9 a10 a11 a12 0 w_size w_kinds w_as w_bs w_registers w_isMade w_steps w_stepParts w_pieces w_pieceParts w_slots w_areCounted w_registerOf w_slotOf w_pieceOf w_heldBy w_isSlotTaken w_outputs w_output p1 u7 hf7) ⟨hx, hb, hml, hown, hts⟩ (cwV 1 hts gX5_pressure_X5_isInstruction rfl rfl rfl (by decide +kernel) ⟨Nat.le_of_ble_eq_true rfl, Nat.le_of_ble_eq_true rfl⟩) hK hP hD hS hA [0, 1, 2, 3, 4, 5, 6, 7, 8, 9, 10, 11, 12] [] 13 rfl rfl kR0 rfl (by decide +kernel) rfl rfl rfl rfl hl.1 rfl (Nat.le_of_ble_eq_true rfl) dX5_pressure_7 ⟨Nat.le_of_ble_eq_true rfl, Nat.le_of_ble_eq_true rfl⟩ (fun H locs hP hD hS => ?_)
  refine lv_if_ne (tgt := 19) hx hb dX5_pressure_10 (by decide) (fun c_10 => ?_) (fun c_10 => ?_)
  · have hf := kif c_10 hf
    refine lv_aload_n hx hb dX5_pressure_19 rfl (lv_at hl 0 rfl) ?_
    obtain ⟨u20, hf20, hf⟩ := kbd hf
    refine kc_Vv (As := []) (rest := []) (wf := (PX5 a0 a1 a2 a3 a4 a5 a6 a7 a8 a9 a10 a11 a12 cyI cyZ 0 w_size w_kinds w_as w_bs w_registers w_isMade w_steps w_stepParts w_pieces w_pieceParts w_slots u20 w_registerOf w_slotOf w_pieceOf w_heldBy w_isSlotTaken w_outputs w_output)) (c_X5_count l D cyI cyZ a0 a1 a2 a3 a4 a5 a6 a7 a8 a9 a10 a11 a12 0 w_size w_kinds w_as w_bs w_registers w_isMade w_steps w_stepParts w_pieces w_pieceParts w_slots w_areCounted w_registerOf w_slotOf w_pieceOf w_heldBy w_isSlotTaken w_outputs w_output u20 hf20) ⟨hx, hb, hml, hown, hts⟩ (cwV 0 hts gX5_pressure_X5_count rfl rfl rfl (by decide +kernel) ⟨Nat.le_of_ble_eq_true rfl, Nat.le_of_ble_eq_true rfl⟩) hK hP hD hS hA [0, 1, 2, 3, 4, 5, 6, 7, 8, 9, 10, 11, 12] [] 13 rfl rfl kR0 rfl (by decide +kernel) rfl rfl rfl rfl hl.1 rfl (Nat.le_of_ble_eq_true rfl) dX5_pressure_20 ⟨Nat.le_of_ble_eq_true rfl, Nat.le_of_ble_eq_true rfl⟩ (fun H locs hP hD hS => ?_)
    refine lv_iconst (v := 0) hx hb dX5_pressure_23 (by decide) ?_
    refine lv_istore_n (lv' := [(2, .int 0), (0, .ref a0), (1, .int p1)]) hx hb dX5_pressure_24 rfl hl (by decide) rfl (fun ls hl => ?_)
    refine lv_iconst (v := 0) hx hb dX5_pressure_25 (by decide) ?_
    refine lv_istore_n (lv' := [(3, .int 0), (2, .int 0), (0, .ref a0), (1, .int p1)]) hx hb dX5_pressure_26 rfl hl (by decide) rfl (fun ls hl => ?_)
    have L27 : ∀ (n : Nat) (x3_L27 : Int32) (x2_L27 : Int32) (o9 : Int32) (_ : f_X5_pressure_L27 w_size w_kinds w_as w_bs p1 u20 n x3_L27 x2_L27 = some o9) (H : Heap) (locs : List Loc) (ls : Array Slot), va_P D vwCl (PX5 a0 a1 a2 a3 a4 a5 a6 a7 a8 a9 a10 a11 a12 cyI cyZ 0 w_size w_kinds w_as w_bs w_registers w_isMade w_steps w_stepParts w_pieces w_pieceParts w_slots u20 w_registerOf w_slotOf w_pieceOf w_heldBy w_isSlotTaken w_outputs w_output) H → va_D A (PX5 a0 a1 a2 a3 a4 a5 a6 a7 a8 a9 a10 a11 a12 cyI cyZ 0 w_size w_kinds w_as w_bs w_registers w_isMade w_steps w_stepParts w_pieces w_pieceParts w_slots u20 w_registerOf w_slotOf w_pieceOf w_heldBy w_isSlotTaken w_outputs w_output) → va_S A s.heap H locs → lv_has ls 4 [(3, .int x3_L27), (2, .int x2_L27), (0, .ref a0), (1, .int p1)] → (∀ (H : Heap) (locs : List Loc) (ls : Array Slot), va_P D vwCl (PX5 a0 a1 a2 a3 a4 a5 a6 a7 a8 a9 a10 a11 a12 cyI cyZ 0 w_size w_kinds w_as w_bs w_registers w_isMade w_steps w_stepParts w_pieces w_pieceParts w_slots u20 w_registerOf w_slotOf w_pieceOf w_heldBy w_isSlotTaken w_outputs w_output) H → va_D A (PX5 a0 a1 a2 a3 a4 a5 a6 a7 a8 a9 a10 a11 a12 cyI cyZ 0 w_size w_kinds w_as w_bs w_registers w_isMade w_steps w_stepParts w_pieces w_pieceParts w_slots u20 w_registerOf w_slotOf w_pieceOf w_heldBy w_isSlotTaken w_outputs w_output) → va_S A s.heap H locs → lv_has ls 4 [(2, .int o9)] → W p l e rmX5_pressure s m args below meth c H locs 0 0 Z (F0 m 58 ls [])) → W p l e rmX5_pressure s m args below meth c H locs 0 0 Z (F0 m 27 ls []) := by
      intro n
      induction n with
      | zero =>
        intro x3_L27 x2_L27 o9 hf
        rw [f_X5_pressure_L27] at hf
        cases hf
      | succ n ih =>
        intro x3_L27 x2_L27 o9 hf H locs ls hP hD hS hl kx
        rw [f_X5_pressure_L27] at hf
        refine lv_iload_n hx hb dX5_pressure_27 rfl (lv_at hl 0 rfl) ?_
        refine lv_iload_n hx hb dX5_pressure_28 rfl (lv_at hl 3 rfl) ?_
        refine lv_icmp_gt (tgt := 58) hx hb dX5_pressure_29 (by decide) (fun c_29 => ?_) (fun c_29 => ?_)
        · have hf := kit c_29 hf
          obtain rfl := Option.some.inj hf
          exact kx _ _ _ hP hD hS (lv_sub hl [1] rfl)
        · have hf := kif c_29 hf
          refine lv_iload_n hx hb dX5_pressure_32 rfl (lv_at hl 1 rfl) ?_
          refine lv_aload_n hx hb dX5_pressure_33 rfl (lv_at hl 2 rfl) ?_
          refine lv_iload_n hx hb dX5_pressure_34 rfl (lv_at hl 0 rfl) ?_
          refine lv_iload_n hx hb dX5_pressure_35 rfl (lv_at hl 3 rfl) ?_
          refine lv_iconst (v := 1) hx hb dX5_pressure_36 (by decide) ?_
          refine lv_iadd hx hb dX5_pressure_37 ?_
          obtain ⟨u38, hf38, hf⟩ := kbd hf
          refine kc_Vi (As := [.int x3_L27, .int (p1 + 1)]) (rest := [.int x2_L27]) (wf := (PX5 a0 a1 a2 a3 a4 a5 a6 a7 a8 a9 a10 a11 a12 cyI cyZ 0 w_size w_kinds w_as w_bs w_registers w_isMade w_steps w_stepParts w_pieces w_pieceParts w_slots u20 w_registerOf w_slotOf w_pieceOf w_heldBy w_isSlotTaken w_outputs w_output)) (c_X5_useFrom l D cyI cyZ a0 a1 a2 a3 a4 a5 a6 a7 a8 a9 a10 a11 a12 0 w_size w_kinds w_as w_bs w_registers w_isMade w_steps w_stepParts w_pieces w_pieceParts w_slots u20 w_registerOf w_slotOf w_pieceOf w_heldBy w_isSlotTaken w_outputs w_output x3_L27 (p1 + 1) u38 hf38) ⟨hx, hb, hml, hown, hts⟩ (cwV 2 hts gX5_pressure_X5_useFrom rfl rfl rfl (by decide +kernel) ⟨Nat.le_of_ble_eq_true rfl, Nat.le_of_ble_eq_true rfl⟩) hK hP hD hS hA [0, 1, 2, 3, 4, 5, 6, 7, 8, 9, 10, 11, 12] [] 13 rfl rfl kR0 rfl (by decide +kernel) rfl rfl rfl rfl hl.1 rfl (Nat.le_of_ble_eq_true rfl) dX5_pressure_38 ⟨Nat.le_of_ble_eq_true rfl, Nat.le_of_ble_eq_true rfl⟩ (fun H locs hP hD hS => ?_)
          refine lv_iconst (v := (-1)) hx hb dX5_pressure_41 (by decide) ?_
          refine lv_icmp_ne (tgt := 49) hx hb dX5_pressure_42 (by decide) (fun c_42 => ?_) (fun c_42 => ?_)
          · have hf := kif c_42 hf
            refine lv_iconst (v := 1) hx hb dX5_pressure_49 (by decide) ?_
            refine lv_iadd hx hb dX5_pressure_50 ?_
            refine lv_istore_n (lv' := [(2, .int (x2_L27 + 1)), (3, .int x3_L27), (0, .ref a0), (1, .int p1)]) hx hb dX5_pressure_51 rfl hl (by decide) rfl (fun ls hl => ?_)
            refine lv_iinc (v := (x3_L27 + 1)) (lv' := [(3, .int (x3_L27 + 1)), (2, .int (x2_L27 + 1)), (0, .ref a0), (1, .int p1)]) hx hb dX5_pressure_52 hl (k := 1) rfl rfl (by decide) rfl (fun ls hl => ?_)
            refine lv_goto (tgt := 27) hx hb dX5_pressure_55 (by decide) ?_
            exact ih (x3_L27 + 1) (x2_L27 + 1) _ hf _ _ _ hP hD hS (lv_sub hl [0, 1, 2, 3] rfl) kx
          · have hf := kit c_42 hf
            refine lv_iconst (v := 0) hx hb dX5_pressure_45 (by decide) ?_
            refine lv_goto (tgt := 50) hx hb dX5_pressure_46 (by decide) ?_
            refine lv_iadd hx hb dX5_pressure_50 ?_
            refine lv_istore_n (lv' := [(2, .int (x2_L27 + 0)), (3, .int x3_L27), (0, .ref a0), (1, .int p1)]) hx hb dX5_pressure_51 rfl hl (by decide) rfl (fun ls hl => ?_)
            refine lv_iinc (v := (x3_L27 + 1)) (lv' := [(3, .int (x3_L27 + 1)), (2, .int (x2_L27 + 0)), (0, .ref a0), (1, .int p1)]) hx hb dX5_pressure_52 hl (k := 1) rfl rfl (by decide) rfl (fun ls hl => ?_)
            refine lv_goto (tgt := 27) hx hb dX5_pressure_55 (by decide) ?_
            exact ih (x3_L27 + 1) (x2_L27 + 0) _ hf _ _ _ hP hD hS (lv_sub hl [0, 1, 2, 3] rfl) kx
    obtain ⟨v27, hf27, hf⟩ := kbd hf
    refine L27 4000 0 0 v27 hf27 _ _ _ hP hD hS (lv_sub hl [0, 1, 2, 3] rfl) (fun H locs ls hP hD hS hl => ?_)
    refine lv_iload_n hx hb dX5_pressure_58 rfl (lv_at hl 0 rfl) ?_
    obtain rfl := Option.some.inj hf
    exact ret _ _ _ _ dX5_pressure_59 rfl hP hD hS
  · have hf := kit c_10 hf
    refine lv_aload_n hx hb dX5_pressure_13 rfl (lv_at hl 0 rfl) ?_
    refine lv_iconst (v := 1) hx hb dX5_pressure_14 (by decide) ?_
    obtain ⟨⟨u15_0, u15_1⟩, hf15, hf⟩ := kbd hf
    try dsimp only at hf
    refine kc_Vi (As := [.int 1]) (rest := []) (wf := (PX5 a0 a1 a2 a3 a4 a5 a6 a7 a8 a9 a10 a11 a12 cyI cyZ u15_1 w_size w_kinds w_as w_bs w_registers w_isMade w_steps w_stepParts w_pieces w_pieceParts w_slots w_areCounted w_registerOf w_slotOf w_pieceOf w_heldBy w_isSlotTaken w_outputs w_output)) (c_X5_fail l D cyI cyZ a0 a1 a2 a3 a4 a5 a6 a7 a8 a9 a10 a11 a12 0 w_size w_kinds w_as w_bs w_registers w_isMade w_steps w_stepParts w_pieces w_pieceParts w_slots w_areCounted w_registerOf w_slotOf w_pieceOf w_heldBy w_isSlotTaken w_outputs w_output 1 (u15_0, u15_1) hf15) ⟨hx, hb, hml, hown, hts⟩ (cwV 1 hts gX5_pressure_X5_fail rfl rfl rfl (by decide +kernel) ⟨Nat.le_of_ble_eq_true rfl, Nat.le_of_ble_eq_true rfl⟩) hK hP hD hS hA [0, 1, 2, 3, 4, 5, 6, 7, 8, 9, 10, 11, 12] [] 13 rfl rfl kR0 rfl (by decide +kernel) rfl rfl rfl rfl hl.1 rfl (Nat.le_of_ble_eq_true rfl) dX5_pressure_15 ⟨Nat.le_of_ble_eq_true rfl, Nat.le_of_ble_eq_true rfl⟩ (fun H locs hP hD hS => ?_)
    obtain rfl := Option.some.inj hf
    exact ret _ _ _ _ dX5_pressure_18 rfl hP hD hS

abbrev rmX5_setRegisters : Room := { frames := 1, cells := 0, slots := 0, locals := 21 }
set_option maxHeartbeats 4000000 in
set_option maxRecDepth 100000 in
theorem c_X5_setRegisters (l : Launch) (D : va_G) (cyI cyZ : ClassId) (a0 a1 a2 a3 a4 a5 a6 a7 a8 a9 a10 a11 a12 : Nat) (w_thrown : Int32) (w_size : Int32) (w_kinds : Nat → Int32) (w_as : Nat → Int32) (w_bs : Nat → Int32) (w_registers : Int32) (w_isMade : Int32) (w_steps : Int32) (w_stepParts : Nat → Int32) (w_pieces : Int32) (w_pieceParts : Nat → Int32) (w_slots : Int32) (w_areCounted : Nat → Int32) (w_registerOf : Nat → Int32) (w_slotOf : Nat → Int32) (w_pieceOf : Nat → Int32) (w_heldBy : Nat → Int32) (w_isSlotTaken : Nat → Int32) (w_outputs : Int32) (w_output : Nat → Int32) (p1 : Int32) (o : Int32 × Int32 × Int32 × Int32) (hf : f_X5_setRegisters p1 w_registers w_isMade = some o) : kMi l yX5_setRegisters wsX5_setRegisters rmX5_setRegisters [.ref a0, .int p1] D (PX5 a0 a1 a2 a3 a4 a5 a6 a7 a8 a9 a10 a11 a12 cyI cyZ w_thrown w_size w_kinds w_as w_bs w_registers w_isMade w_steps w_stepParts w_pieces w_pieceParts w_slots w_areCounted w_registerOf w_slotOf w_pieceOf w_heldBy w_isSlotTaken w_outputs w_output) (PX5 a0 a1 a2 a3 a4 a5 a6 a7 a8 a9 a10 a11 a12 cyI cyZ o.2.1 w_size w_kinds w_as w_bs o.2.2.1 o.2.2.2 w_steps w_stepParts w_pieces w_pieceParts w_slots w_areCounted w_registerOf w_slotOf w_pieceOf w_heldBy w_isSlotTaken w_outputs w_output) (kT cyI cyZ) o.1 0 0 := by
  refine kOf_i (cc := cX5_setRegisters) (maxL := 3) (ty := .int) (by decide +kernel) rfl (Nat.le_of_ble_eq_true rfl) ?_
  intro p e s m args below meth c A Z ls C0 hP hK hD hA hl ret
  obtain ⟨hx, hb, hr, hml, hown, hts, hlocks⟩ := C0
  have hown : s.vm.findClass RX5 = some m.cls := hown
  have hl : lv_has ls 3 [(0, .ref a0), (1, .int p1)] := hl
  have hS : va_S A s.heap s.heap [] := va_S.rf
  have i_X5 : ∀ w ∈ wsX50, w ∈ wsX5_setRegisters := by decide +kernel
  have k19 := hts (.fieldLink RX5 19 "RegisterAllocatorModel" "registers" "I") (by decide +kernel)
  have k51 := hts (.fieldLink RX5 51 "RegisterAllocatorModel" "thrown" "I") (by decide +kernel)
  have k61 := hts (.fieldLink RX5 61 "RegisterAllocatorModel" "isMade" "Z") (by decide +kernel)
  rw [f_X5_setRegisters] at hf
  refine lv_aload_n hx hb dX5_setRegisters_0 rfl (lv_at hl 0 rfl) ?_
  refine lv_iconst (v := 0) hx hb dX5_setRegisters_1 (by decide) ?_
  refine va_put (D := D) (ci := 5) (v := .int 0) (ty := .int) (C := RX5) (T := TX5) (N := 20) hx hb hts i_X5 tyX5 tyX5_ok nmX5 hown hK hP hD hS 0 rfl rfl 0 (by decide) k51 (fun _ h9 => h9) rfl (by decide +kernel) rfl (by first | rfl | decide) (Nat.le_of_ble_eq_true rfl) dX5_setRegisters_2 (fun H locs hP hD hS => ?_)
  have hP : va_P D vwCl (PX5 a0 a1 a2 a3 a4 a5 a6 a7 a8 a9 a10 a11 a12 cyI cyZ 0 w_size w_kinds w_as w_bs w_registers w_isMade w_steps w_stepParts w_pieces w_pieceParts w_slots w_areCounted w_registerOf w_slotOf w_pieceOf w_heldBy w_isSlotTaken w_outputs w_output) H := hP
  have hD : va_D A (PX5 a0 a1 a2 a3 a4 a5 a6 a7 a8 a9 a10 a11 a12 cyI cyZ 0 w_size w_kinds w_as w_bs w_registers w_isMade w_steps w_stepParts w_pieces w_pieceParts w_slots w_areCounted w_registerOf w_slotOf w_pieceOf w_heldBy w_isSlotTaken w_outputs w_output) := hD
  refine lv_iload_n hx hb dX5_setRegisters_5 rfl (lv_at hl 1 rfl) ?_
  refine lv_iconst (v := 2) hx hb dX5_setRegisters_6 (by decide) ?_
  refine lv_icmp_lt (tgt := 16) hx hb dX5_setRegisters_7 (by decide) (fun c_7 => ?_) (fun c_7 => ?_)
  · have hf := kit c_7 hf
    refine lv_aload_n hx hb dX5_setRegisters_16 rfl (lv_at hl 0 rfl) ?_
    refine lv_iconst (v := 1) hx hb dX5_setRegisters_17 (by decide) ?_
    obtain ⟨⟨u18_0, u18_1⟩, hf18, hf⟩ := kbd hf
    try dsimp only at hf
    refine kc_Vi (As := [.int 1]) (rest := []) (wf := (PX5 a0 a1 a2 a3 a4 a5 a6 a7 a8 a9 a10 a11 a12 cyI cyZ u18_1 w_size w_kinds w_as w_bs w_registers w_isMade w_steps w_stepParts w_pieces w_pieceParts w_slots w_areCounted w_registerOf w_slotOf w_pieceOf w_heldBy w_isSlotTaken w_outputs w_output)) (c_X5_fail l D cyI cyZ a0 a1 a2 a3 a4 a5 a6 a7 a8 a9 a10 a11 a12 0 w_size w_kinds w_as w_bs w_registers w_isMade w_steps w_stepParts w_pieces w_pieceParts w_slots w_areCounted w_registerOf w_slotOf w_pieceOf w_heldBy w_isSlotTaken w_outputs w_output 1 (u18_0, u18_1) hf18) ⟨hx, hb, hml, hown, hts⟩ (cwV 1 hts gX5_setRegisters_X5_fail rfl rfl rfl (by decide +kernel) ⟨Nat.le_of_ble_eq_true rfl, Nat.le_of_ble_eq_true rfl⟩) hK hP hD hS hA [0, 1, 2, 3, 4, 5, 6, 7, 8, 9, 10, 11, 12] [] 13 rfl rfl kR0 rfl (by decide +kernel) rfl rfl rfl rfl hl.1 rfl (Nat.le_of_ble_eq_true rfl) dX5_setRegisters_18 ⟨Nat.le_of_ble_eq_true rfl, Nat.le_of_ble_eq_true rfl⟩ (fun H locs hP hD hS => ?_)
    obtain rfl := Option.some.inj hf
    exact ret _ _ _ _ dX5_setRegisters_21 rfl hP hD hS
  · have hf := kif c_7 hf
    refine lv_iload_n hx hb dX5_setRegisters_10 rfl (lv_at hl 1 rfl) ?_
    refine lv_bipush (v := 8) hx hb dX5_setRegisters_11 (by decide) ?_
    refine lv_icmp_le (tgt := 22) hx hb dX5_setRegisters_13 (by decide) (fun c_13 => ?_) (fun c_13 => ?_)
    · have hf := kit c_13 hf
      refine lv_aload_n hx hb dX5_setRegisters_22 rfl (lv_at hl 0 rfl) ?_
      refine va_get (D := D) (ci := 5) (v := .int w_registers) (C := RX5) (T := TX5) (N := 20) hx hb hts i_X5 hown hK hP 0 rfl rfl 5 (by decide) k19 (fun _ h9 => h9) rfl dX5_setRegisters_23 ?_
      refine lv_istore_n (lv' := [(2, .int w_registers), (0, .ref a0), (1, .int p1)]) hx hb dX5_setRegisters_26 rfl hl (by decide) rfl (fun ls hl => ?_)
      refine lv_aload_n hx hb dX5_setRegisters_27 rfl (lv_at hl 1 rfl) ?_
      refine lv_iload_n hx hb dX5_setRegisters_28 rfl (lv_at hl 2 rfl) ?_
      refine va_put (D := D) (ci := 5) (v := .int p1) (ty := .int) (C := RX5) (T := TX5) (N := 20) hx hb hts i_X5 tyX5 tyX5_ok nmX5 hown hK hP hD hS 0 rfl rfl 5 (by decide) k19 (fun _ h9 => h9) rfl (by decide +kernel) rfl (by first | rfl | decide) (Nat.le_of_ble_eq_true rfl) dX5_setRegisters_29 (fun H locs hP hD hS => ?_)
      have hP : va_P D vwCl (PX5 a0 a1 a2 a3 a4 a5 a6 a7 a8 a9 a10 a11 a12 cyI cyZ 0 w_size w_kinds w_as w_bs p1 w_isMade w_steps w_stepParts w_pieces w_pieceParts w_slots w_areCounted w_registerOf w_slotOf w_pieceOf w_heldBy w_isSlotTaken w_outputs w_output) H := hP
      have hD : va_D A (PX5 a0 a1 a2 a3 a4 a5 a6 a7 a8 a9 a10 a11 a12 cyI cyZ 0 w_size w_kinds w_as w_bs p1 w_isMade w_steps w_stepParts w_pieces w_pieceParts w_slots w_areCounted w_registerOf w_slotOf w_pieceOf w_heldBy w_isSlotTaken w_outputs w_output) := hD
      refine lv_aload_n hx hb dX5_setRegisters_32 rfl (lv_at hl 1 rfl) ?_
      refine lv_iconst (v := 0) hx hb dX5_setRegisters_33 (by decide) ?_
      refine va_put (D := D) (ci := 5) (v := .int 0) (ty := .boolean) (C := RX5) (T := TX5) (N := 20) hx hb hts i_X5 tyX5 tyX5_ok nmX5 hown hK hP hD hS 0 rfl rfl 6 (by decide) k61 (fun _ h9 => h9) rfl (by decide +kernel) (by decide) (by first | rfl | decide) (Nat.le_of_ble_eq_true rfl) dX5_setRegisters_34 (fun H locs hP hD hS => ?_)
      have hP : va_P D vwCl (PX5 a0 a1 a2 a3 a4 a5 a6 a7 a8 a9 a10 a11 a12 cyI cyZ 0 w_size w_kinds w_as w_bs p1 0 w_steps w_stepParts w_pieces w_pieceParts w_slots w_areCounted w_registerOf w_slotOf w_pieceOf w_heldBy w_isSlotTaken w_outputs w_output) H := hP
      have hD : va_D A (PX5 a0 a1 a2 a3 a4 a5 a6 a7 a8 a9 a10 a11 a12 cyI cyZ 0 w_size w_kinds w_as w_bs p1 0 w_steps w_stepParts w_pieces w_pieceParts w_slots w_areCounted w_registerOf w_slotOf w_pieceOf w_heldBy w_isSlotTaken w_outputs w_output) := hD
      refine lv_iload_n hx hb dX5_setRegisters_37 rfl (lv_at hl 0 rfl) ?_
      obtain rfl := Option.some.inj hf
      exact ret _ _ _ _ dX5_setRegisters_38 rfl hP hD hS
    · have hf := kif c_13 hf
      refine lv_aload_n hx hb dX5_setRegisters_16 rfl (lv_at hl 0 rfl) ?_
      refine lv_iconst (v := 1) hx hb dX5_setRegisters_17 (by decide) ?_
      obtain ⟨⟨u18_0, u18_1⟩, hf18, hf⟩ := kbd hf
      try dsimp only at hf
      refine kc_Vi (As := [.int 1]) (rest := []) (wf := (PX5 a0 a1 a2 a3 a4 a5 a6 a7 a8 a9 a10 a11 a12 cyI cyZ u18_1 w_size w_kinds w_as w_bs w_registers w_isMade w_steps w_stepParts w_pieces w_pieceParts w_slots w_areCounted w_registerOf w_slotOf w_pieceOf w_heldBy w_isSlotTaken w_outputs w_output)) (c_X5_fail l D cyI cyZ a0 a1 a2 a3 a4 a5 a6 a7 a8 a9 a10 a11 a12 0 w_size w_kinds w_as w_bs w_registers w_isMade w_steps w_stepParts w_pieces w_pieceParts w_slots w_areCounted w_registerOf w_slotOf w_pieceOf w_heldBy w_isSlotTaken w_outputs w_output 1 (u18_0, u18_1) hf18) ⟨hx, hb, hml, hown, hts⟩ (cwV 1 hts gX5_setRegisters_X5_fail rfl rfl rfl (by decide +kernel) ⟨Nat.le_of_ble_eq_true rfl, Nat.le_of_ble_eq_true rfl⟩) hK hP hD hS hA [0, 1, 2, 3, 4, 5, 6, 7, 8, 9, 10, 11, 12] [] 13 rfl rfl kR0 rfl (by decide +kernel) rfl rfl rfl rfl hl.1 rfl (Nat.le_of_ble_eq_true rfl) dX5_setRegisters_18 ⟨Nat.le_of_ble_eq_true rfl, Nat.le_of_ble_eq_true rfl⟩ (fun H locs hP hD hS => ?_)
      obtain rfl := Option.some.inj hf
      exact ret _ _ _ _ dX5_setRegisters_21 rfl hP hD hS

abbrev rmX5_add : Room := { frames := 0, cells := 0, slots := 0, locals := 0 }
set_option maxHeartbeats 4000000 in
set_option maxRecDepth 100000 in
theorem c_X5_add (l : Launch) (D : va_G) (cyI cyZ : ClassId) (a0 a1 a2 a3 a4 a5 a6 a7 a8 a9 a10 a11 a12 : Nat) (w_thrown : Int32) (w_size : Int32) (w_kinds : Nat → Int32) (w_as : Nat → Int32) (w_bs : Nat → Int32) (w_registers : Int32) (w_isMade : Int32) (w_steps : Int32) (w_stepParts : Nat → Int32) (w_pieces : Int32) (w_pieceParts : Nat → Int32) (w_slots : Int32) (w_areCounted : Nat → Int32) (w_registerOf : Nat → Int32) (w_slotOf : Nat → Int32) (w_pieceOf : Nat → Int32) (w_heldBy : Nat → Int32) (w_isSlotTaken : Nat → Int32) (w_outputs : Int32) (w_output : Nat → Int32) (p1 : Int32) (p2 : Int32) (p3 : Int32) (p4 : Int32) (o : Int32 × (Nat → Int32)) (hf : f_X5_add p1 p2 p3 p4 w_steps w_stepParts = some o) : kMv l yX5_add wsX5_add rmX5_add [.ref a0, .int p1, .int p2, .int p3, .int p4] D (PX5 a0 a1 a2 a3 a4 a5 a6 a7 a8 a9 a10 a11 a12 cyI cyZ w_thrown w_size w_kinds w_as w_bs w_registers w_isMade w_steps w_stepParts w_pieces w_pieceParts w_slots w_areCounted w_registerOf w_slotOf w_pieceOf w_heldBy w_isSlotTaken w_outputs w_output) (PX5 a0 a1 a2 a3 a4 a5 a6 a7 a8 a9 a10 a11 a12 cyI cyZ w_thrown w_size w_kinds w_as w_bs w_registers w_isMade o.1 o.2 w_pieces w_pieceParts w_slots w_areCounted w_registerOf w_slotOf w_pieceOf w_heldBy w_isSlotTaken w_outputs w_output) (kT cyI cyZ) 0 0 := by
  refine kOf_v (cc := cX5_add) (maxL := 6) (by decide +kernel) rfl (Nat.le_of_ble_eq_true rfl) ?_
  intro p e s m args below meth c A Z ls C0 hP hK hD hA hl ret
  obtain ⟨hx, hb, hr, hml, hown, hts, hlocks⟩ := C0
  have hown : s.vm.findClass RX5 = some m.cls := hown
  have hl : lv_has ls 6 [(0, .ref a0), (1, .int p1), (2, .int p2), (3, .int p3), (4, .int p4)] := hl
  have hS : va_S A s.heap s.heap [] := va_S.rf
  have i_X5 : ∀ w ∈ wsX50, w ∈ wsX5_add := by decide +kernel
  have k23 := hts (.fieldLink RX5 23 "RegisterAllocatorModel" "stepParts" "[I") (by decide +kernel)
  have k92 := hts (.fieldLink RX5 92 "RegisterAllocatorModel" "steps" "I") (by decide +kernel)
  rw [f_X5_add] at hf
  refine lv_iconst (v := 4) hx hb dX5_add_0 (by decide) ?_
  refine lv_aload_n hx hb dX5_add_1 rfl (lv_at hl 0 rfl) ?_
  refine va_get (D := D) (ci := 5) (v := .int w_steps) (C := RX5) (T := TX5) (N := 20) hx hb hts i_X5 hown hK hP 0 rfl rfl 7 (by decide) k92 (fun _ h9 => h9) rfl dX5_add_2 ?_
  refine lv_imul hx hb dX5_add_5 ?_
  refine lv_istore (lv' := [(5, .int (4 * w_steps)), (0, .ref a0), (1, .int p1), (2, .int p2), (3, .int p3), (4, .int p4)]) hx hb dX5_add_6 hl (by decide) rfl (fun ls hl => ?_)
  refine lv_aload_n hx hb dX5_add_8 rfl (lv_at hl 1 rfl) ?_
  refine va_get (D := D) (ci := 5) (v := .ref a4) (C := RX5) (T := TX5) (N := 20) hx hb hts i_X5 hown hK hP 0 rfl rfl 8 (by decide) k23 (fun _ h9 => h9) rfl dX5_add_9 ?_
  refine lv_iload hx hb dX5_add_12 (lv_at hl 0 rfl) ?_
  refine lv_iload_n hx hb dX5_add_14 rfl (lv_at hl 2 rfl) ?_
  obtain ⟨h_15, hf⟩ := rdc_some hf
  refine va_iast hx hb hK hP hD hS 4 0 rfl rfl h_15 dX5_add_15 (fun H locs hP hD hS => ?_)
  have hP : va_P D vwCl (PX5 a0 a1 a2 a3 a4 a5 a6 a7 a8 a9 a10 a11 a12 cyI cyZ w_thrown w_size w_kinds w_as w_bs w_registers w_isMade w_steps (upd w_stepParts (4 * w_steps).toNatClampNeg p1) w_pieces w_pieceParts w_slots w_areCounted w_registerOf w_slotOf w_pieceOf w_heldBy w_isSlotTaken w_outputs w_output) H := hP
  have hD : va_D A (PX5 a0 a1 a2 a3 a4 a5 a6 a7 a8 a9 a10 a11 a12 cyI cyZ w_thrown w_size w_kinds w_as w_bs w_registers w_isMade w_steps (upd w_stepParts (4 * w_steps).toNatClampNeg p1) w_pieces w_pieceParts w_slots w_areCounted w_registerOf w_slotOf w_pieceOf w_heldBy w_isSlotTaken w_outputs w_output) := hD
  refine lv_aload_n hx hb dX5_add_16 rfl (lv_at hl 1 rfl) ?_
  refine va_get (D := D) (ci := 5) (v := .ref a4) (C := RX5) (T := TX5) (N := 20) hx hb hts i_X5 hown hK hP 0 rfl rfl 8 (by decide) k23 (fun _ h9 => h9) rfl dX5_add_17 ?_
  refine lv_iload hx hb dX5_add_20 (lv_at hl 0 rfl) ?_
  refine lv_iconst (v := 1) hx hb dX5_add_22 (by decide) ?_
  refine lv_iadd hx hb dX5_add_23 ?_
  refine lv_iload_n hx hb dX5_add_24 rfl (lv_at hl 3 rfl) ?_
  obtain ⟨h_25, hf⟩ := rdc_some hf
  refine va_iast hx hb hK hP hD hS 4 0 rfl rfl h_25 dX5_add_25 (fun H locs hP hD hS => ?_)
  have hP : va_P D vwCl (PX5 a0 a1 a2 a3 a4 a5 a6 a7 a8 a9 a10 a11 a12 cyI cyZ w_thrown w_size w_kinds w_as w_bs w_registers w_isMade w_steps (upd (upd w_stepParts (4 * w_steps).toNatClampNeg p1) ((4 * w_steps) + 1).toNatClampNeg p2) w_pieces w_pieceParts w_slots w_areCounted w_registerOf w_slotOf w_pieceOf w_heldBy w_isSlotTaken w_outputs w_output) H := hP
  have hD : va_D A (PX5 a0 a1 a2 a3 a4 a5 a6 a7 a8 a9 a10 a11 a12 cyI cyZ w_thrown w_size w_kinds w_as w_bs w_registers w_isMade w_steps (upd (upd w_stepParts (4 * w_steps).toNatClampNeg p1) ((4 * w_steps) + 1).toNatClampNeg p2) w_pieces w_pieceParts w_slots w_areCounted w_registerOf w_slotOf w_pieceOf w_heldBy w_isSlotTaken w_outputs w_output) := hD
  refine lv_aload_n hx hb dX5_add_26 rfl (lv_at hl 1 rfl) ?_
  refine va_get (D := D) (ci := 5) (v := .ref a4) (C := RX5) (T := TX5) (N := 20) hx hb hts i_X5 hown hK hP 0 rfl rfl 8 (by decide) k23 (fun _ h9 => h9) rfl dX5_add_27 ?_
  refine lv_iload hx hb dX5_add_30 (lv_at hl 0 rfl) ?_
  refine lv_iconst (v := 2) hx hb dX5_add_32 (by decide) ?_
  refine lv_iadd hx hb dX5_add_33 ?_
  refine lv_iload_n hx hb dX5_add_34 rfl (lv_at hl 4 rfl) ?_
  obtain ⟨h_35, hf⟩ := rdc_some hf
  refine va_iast hx hb hK hP hD hS 4 0 rfl rfl h_35 dX5_add_35 (fun H locs hP hD hS => ?_)
  have hP : va_P D vwCl (PX5 a0 a1 a2 a3 a4 a5 a6 a7 a8 a9 a10 a11 a12 cyI cyZ w_thrown w_size w_kinds w_as w_bs w_registers w_isMade w_steps (upd (upd (upd w_stepParts (4 * w_steps).toNatClampNeg p1) ((4 * w_steps) + 1).toNatClampNeg p2) ((4 * w_steps) + 2).toNatClampNeg p3) w_pieces w_pieceParts w_slots w_areCounted w_registerOf w_slotOf w_pieceOf w_heldBy w_isSlotTaken w_outputs w_output) H := hP
  have hD : va_D A (PX5 a0 a1 a2 a3 a4 a5 a6 a7 a8 a9 a10 a11 a12 cyI cyZ w_thrown w_size w_kinds w_as w_bs w_registers w_isMade w_steps (upd (upd (upd w_stepParts (4 * w_steps).toNatClampNeg p1) ((4 * w_steps) + 1).toNatClampNeg p2) ((4 * w_steps) + 2).toNatClampNeg p3) w_pieces w_pieceParts w_slots w_areCounted w_registerOf w_slotOf w_pieceOf w_heldBy w_isSlotTaken w_outputs w_output) := hD
  refine lv_aload_n hx hb dX5_add_36 rfl (lv_at hl 1 rfl) ?_
  refine va_get (D := D) (ci := 5) (v := .ref a4) (C := RX5) (T := TX5) (N := 20) hx hb hts i_X5 hown hK hP 0 rfl rfl 8 (by decide) k23 (fun _ h9 => h9) rfl dX5_add_37 ?_
  refine lv_iload hx hb dX5_add_40 (lv_at hl 0 rfl) ?_
  refine lv_iconst (v := 3) hx hb dX5_add_42 (by decide) ?_
  refine lv_iadd hx hb dX5_add_43 ?_
  refine lv_iload hx hb dX5_add_44 (lv_at hl 5 rfl) ?_
  obtain ⟨h_46, hf⟩ := rdc_some hf
  refine va_iast hx hb hK hP hD hS 4 0 rfl rfl h_46 dX5_add_46 (fun H locs hP hD hS => ?_)
  have hP : va_P D vwCl (PX5 a0 a1 a2 a3 a4 a5 a6 a7 a8 a9 a10 a11 a12 cyI cyZ w_thrown w_size w_kinds w_as w_bs w_registers w_isMade w_steps (upd (upd (upd (upd w_stepParts (4 * w_steps).toNatClampNeg p1) ((4 * w_steps) + 1).toNatClampNeg p2) ((4 * w_steps) + 2).toNatClampNeg p3) ((4 * w_steps) + 3).toNatClampNeg p4) w_pieces w_pieceParts w_slots w_areCounted w_registerOf w_slotOf w_pieceOf w_heldBy w_isSlotTaken w_outputs w_output) H := hP
  have hD : va_D A (PX5 a0 a1 a2 a3 a4 a5 a6 a7 a8 a9 a10 a11 a12 cyI cyZ w_thrown w_size w_kinds w_as w_bs w_registers w_isMade w_steps (upd (upd (upd (upd w_stepParts (4 * w_steps).toNatClampNeg p1) ((4 * w_steps) + 1).toNatClampNeg p2) ((4 * w_steps) + 2).toNatClampNeg p3) ((4 * w_steps) + 3).toNatClampNeg p4) w_pieces w_pieceParts w_slots w_areCounted w_registerOf w_slotOf w_pieceOf w_heldBy w_isSlotTaken w_outputs w_output) := hD
  refine lv_aload_n hx hb dX5_add_47 rfl (lv_at hl 1 rfl) ?_
  refine lv_dup hx hb dX5_add_48 rfl ?_
  refine va_get (D := D) (ci := 5) (v := .int w_steps) (C := RX5) (T := TX5) (N := 20) hx hb hts i_X5 hown hK hP 0 rfl rfl 7 (by decide) k92 (fun _ h9 => h9) rfl dX5_add_49 ?_
  refine lv_iconst (v := 1) hx hb dX5_add_52 (by decide) ?_
  refine lv_iadd hx hb dX5_add_53 ?_
  refine va_put (D := D) (ci := 5) (v := .int (w_steps + 1)) (ty := .int) (C := RX5) (T := TX5) (N := 20) hx hb hts i_X5 tyX5 tyX5_ok nmX5 hown hK hP hD hS 0 rfl rfl 7 (by decide) k92 (fun _ h9 => h9) rfl (by decide +kernel) rfl (by first | rfl | decide) (Nat.le_of_ble_eq_true rfl) dX5_add_54 (fun H locs hP hD hS => ?_)
  have hP : va_P D vwCl (PX5 a0 a1 a2 a3 a4 a5 a6 a7 a8 a9 a10 a11 a12 cyI cyZ w_thrown w_size w_kinds w_as w_bs w_registers w_isMade (w_steps + 1) (upd (upd (upd (upd w_stepParts (4 * w_steps).toNatClampNeg p1) ((4 * w_steps) + 1).toNatClampNeg p2) ((4 * w_steps) + 2).toNatClampNeg p3) ((4 * w_steps) + 3).toNatClampNeg p4) w_pieces w_pieceParts w_slots w_areCounted w_registerOf w_slotOf w_pieceOf w_heldBy w_isSlotTaken w_outputs w_output) H := hP
  have hD : va_D A (PX5 a0 a1 a2 a3 a4 a5 a6 a7 a8 a9 a10 a11 a12 cyI cyZ w_thrown w_size w_kinds w_as w_bs w_registers w_isMade (w_steps + 1) (upd (upd (upd (upd w_stepParts (4 * w_steps).toNatClampNeg p1) ((4 * w_steps) + 1).toNatClampNeg p2) ((4 * w_steps) + 2).toNatClampNeg p3) ((4 * w_steps) + 3).toNatClampNeg p4) w_pieces w_pieceParts w_slots w_areCounted w_registerOf w_slotOf w_pieceOf w_heldBy w_isSlotTaken w_outputs w_output) := hD
  obtain rfl := Option.some.inj hf
  exact ret _ _ _ _ dX5_add_57 hP hD hS

abbrev rmX5_begin : Room := { frames := 0, cells := 0, slots := 0, locals := 0 }
set_option maxHeartbeats 4000000 in
set_option maxRecDepth 100000 in
theorem c_X5_begin (l : Launch) (D : va_G) (cyI cyZ : ClassId) (a0 a1 a2 a3 a4 a5 a6 a7 a8 a9 a10 a11 a12 : Nat) (w_thrown : Int32) (w_size : Int32) (w_kinds : Nat → Int32) (w_as : Nat → Int32) (w_bs : Nat → Int32) (w_registers : Int32) (w_isMade : Int32) (w_steps : Int32) (w_stepParts : Nat → Int32) (w_pieces : Int32) (w_pieceParts : Nat → Int32) (w_slots : Int32) (w_areCounted : Nat → Int32) (w_registerOf : Nat → Int32) (w_slotOf : Nat → Int32) (w_pieceOf : Nat → Int32) (w_heldBy : Nat → Int32) (w_isSlotTaken : Nat → Int32) (w_outputs : Int32) (w_output : Nat → Int32) (p1 : Int32) (p2 : Int32) (o : Int32 × (Nat → Int32) × (Nat → Int32) × (Nat → Int32) × (Nat → Int32)) (hf : f_X5_begin p1 p2 w_steps w_pieces w_pieceParts w_registerOf w_pieceOf w_heldBy = some o) : kMv l yX5_begin wsX5_begin rmX5_begin [.ref a0, .int p1, .int p2] D (PX5 a0 a1 a2 a3 a4 a5 a6 a7 a8 a9 a10 a11 a12 cyI cyZ w_thrown w_size w_kinds w_as w_bs w_registers w_isMade w_steps w_stepParts w_pieces w_pieceParts w_slots w_areCounted w_registerOf w_slotOf w_pieceOf w_heldBy w_isSlotTaken w_outputs w_output) (PX5 a0 a1 a2 a3 a4 a5 a6 a7 a8 a9 a10 a11 a12 cyI cyZ w_thrown w_size w_kinds w_as w_bs w_registers w_isMade w_steps w_stepParts o.1 o.2.1 w_slots w_areCounted o.2.2.1 w_slotOf o.2.2.2.1 o.2.2.2.2 w_isSlotTaken w_outputs w_output) (kT cyI cyZ) 0 0 := by
  refine kOf_v (cc := cX5_begin) (maxL := 4) (by decide +kernel) rfl (Nat.le_of_ble_eq_true rfl) ?_
  intro p e s m args below meth c A Z ls C0 hP hK hD hA hl ret
  obtain ⟨hx, hb, hr, hml, hown, hts, hlocks⟩ := C0
  have hown : s.vm.findClass RX5 = some m.cls := hown
  have hl : lv_has ls 4 [(0, .ref a0), (1, .int p1), (2, .int p2)] := hl
  have hS : va_S A s.heap s.heap [] := va_S.rf
  have i_X5 : ∀ w ∈ wsX50, w ∈ wsX5_begin := by decide +kernel
  have k26 := hts (.fieldLink RX5 26 "RegisterAllocatorModel" "pieceParts" "[I") (by decide +kernel)
  have k33 := hts (.fieldLink RX5 33 "RegisterAllocatorModel" "registerOf" "[I") (by decide +kernel)
  have k39 := hts (.fieldLink RX5 39 "RegisterAllocatorModel" "pieceOf" "[I") (by decide +kernel)
  have k42 := hts (.fieldLink RX5 42 "RegisterAllocatorModel" "heldBy" "[I") (by decide +kernel)
  have k92 := hts (.fieldLink RX5 92 "RegisterAllocatorModel" "steps" "I") (by decide +kernel)
  have k95 := hts (.fieldLink RX5 95 "RegisterAllocatorModel" "pieces" "I") (by decide +kernel)
  rw [f_X5_begin] at hf
  refine lv_aload_n hx hb dX5_begin_0 rfl (lv_at hl 0 rfl) ?_
  refine va_get (D := D) (ci := 5) (v := .ref a7) (C := RX5) (T := TX5) (N := 20) hx hb hts i_X5 hown hK hP 0 rfl rfl 13 (by decide) k33 (fun _ h9 => h9) rfl dX5_begin_1 ?_
  refine lv_iload_n hx hb dX5_begin_4 rfl (lv_at hl 1 rfl) ?_
  refine lv_iload_n hx hb dX5_begin_5 rfl (lv_at hl 2 rfl) ?_
  obtain ⟨h_6, hf⟩ := rdc_some hf
  refine va_iast hx hb hK hP hD hS 7 0 rfl rfl h_6 dX5_begin_6 (fun H locs hP hD hS => ?_)
  have hP : va_P D vwCl (PX5 a0 a1 a2 a3 a4 a5 a6 a7 a8 a9 a10 a11 a12 cyI cyZ w_thrown w_size w_kinds w_as w_bs w_registers w_isMade w_steps w_stepParts w_pieces w_pieceParts w_slots w_areCounted (upd w_registerOf p1.toNatClampNeg p2) w_slotOf w_pieceOf w_heldBy w_isSlotTaken w_outputs w_output) H := hP
  have hD : va_D A (PX5 a0 a1 a2 a3 a4 a5 a6 a7 a8 a9 a10 a11 a12 cyI cyZ w_thrown w_size w_kinds w_as w_bs w_registers w_isMade w_steps w_stepParts w_pieces w_pieceParts w_slots w_areCounted (upd w_registerOf p1.toNatClampNeg p2) w_slotOf w_pieceOf w_heldBy w_isSlotTaken w_outputs w_output) := hD
  refine lv_aload_n hx hb dX5_begin_7 rfl (lv_at hl 0 rfl) ?_
  refine va_get (D := D) (ci := 5) (v := .ref a10) (C := RX5) (T := TX5) (N := 20) hx hb hts i_X5 hown hK hP 0 rfl rfl 16 (by decide) k42 (fun _ h9 => h9) rfl dX5_begin_8 ?_
  refine lv_iload_n hx hb dX5_begin_11 rfl (lv_at hl 2 rfl) ?_
  refine lv_iload_n hx hb dX5_begin_12 rfl (lv_at hl 1 rfl) ?_
  obtain ⟨h_13, hf⟩ := rdc_some hf
  refine va_iast hx hb hK hP hD hS 10 0 rfl rfl h_13 dX5_begin_13 (fun H locs hP hD hS => ?_)
  have hP : va_P D vwCl (PX5 a0 a1 a2 a3 a4 a5 a6 a7 a8 a9 a10 a11 a12 cyI cyZ w_thrown w_size w_kinds w_as w_bs w_registers w_isMade w_steps w_stepParts w_pieces w_pieceParts w_slots w_areCounted (upd w_registerOf p1.toNatClampNeg p2) w_slotOf w_pieceOf (upd w_heldBy p2.toNatClampNeg p1) w_isSlotTaken w_outputs w_output) H := hP
  have hD : va_D A (PX5 a0 a1 a2 a3 a4 a5 a6 a7 a8 a9 a10 a11 a12 cyI cyZ w_thrown w_size w_kinds w_as w_bs w_registers w_isMade w_steps w_stepParts w_pieces w_pieceParts w_slots w_areCounted (upd w_registerOf p1.toNatClampNeg p2) w_slotOf w_pieceOf (upd w_heldBy p2.toNatClampNeg p1) w_isSlotTaken w_outputs w_output) := hD
  refine lv_aload_n hx hb dX5_begin_14 rfl (lv_at hl 0 rfl) ?_
  refine va_get (D := D) (ci := 5) (v := .ref a9) (C := RX5) (T := TX5) (N := 20) hx hb hts i_X5 hown hK hP 0 rfl rfl 15 (by decide) k39 (fun _ h9 => h9) rfl dX5_begin_15 ?_
  refine lv_iload_n hx hb dX5_begin_18 rfl (lv_at hl 1 rfl) ?_
  refine lv_aload_n hx hb dX5_begin_19 rfl (lv_at hl 0 rfl) ?_
  refine va_get (D := D) (ci := 5) (v := .int w_pieces) (C := RX5) (T := TX5) (N := 20) hx hb hts i_X5 hown hK hP 0 rfl rfl 9 (by decide) k95 (fun _ h9 => h9) rfl dX5_begin_20 ?_
  obtain ⟨h_23, hf⟩ := rdc_some hf
  refine va_iast hx hb hK hP hD hS 9 0 rfl rfl h_23 dX5_begin_23 (fun H locs hP hD hS => ?_)
  have hP : va_P D vwCl (PX5 a0 a1 a2 a3 a4 a5 a6 a7 a8 a9 a10 a11 a12 cyI cyZ w_thrown w_size w_kinds w_as w_bs w_registers w_isMade w_steps w_stepParts w_pieces w_pieceParts w_slots w_areCounted (upd w_registerOf p1.toNatClampNeg p2) w_slotOf (upd w_pieceOf p1.toNatClampNeg w_pieces) (upd w_heldBy p2.toNatClampNeg p1) w_isSlotTaken w_outputs w_output) H := hP
  have hD : va_D A (PX5 a0 a1 a2 a3 a4 a5 a6 a7 a8 a9 a10 a11 a12 cyI cyZ w_thrown w_size w_kinds w_as w_bs w_registers w_isMade w_steps w_stepParts w_pieces w_pieceParts w_slots w_areCounted (upd w_registerOf p1.toNatClampNeg p2) w_slotOf (upd w_pieceOf p1.toNatClampNeg w_pieces) (upd w_heldBy p2.toNatClampNeg p1) w_isSlotTaken w_outputs w_output) := hD
  refine lv_iconst (v := 4) hx hb dX5_begin_24 (by decide) ?_
  refine lv_aload_n hx hb dX5_begin_25 rfl (lv_at hl 0 rfl) ?_
  refine va_get (D := D) (ci := 5) (v := .int w_pieces) (C := RX5) (T := TX5) (N := 20) hx hb hts i_X5 hown hK hP 0 rfl rfl 9 (by decide) k95 (fun _ h9 => h9) rfl dX5_begin_26 ?_
  refine lv_imul hx hb dX5_begin_29 ?_
  refine lv_istore_n (lv' := [(3, .int (4 * w_pieces)), (0, .ref a0), (1, .int p1), (2, .int p2)]) hx hb dX5_begin_30 rfl hl (by decide) rfl (fun ls hl => ?_)
  refine lv_aload_n hx hb dX5_begin_31 rfl (lv_at hl 1 rfl) ?_
  refine va_get (D := D) (ci := 5) (v := .ref a5) (C := RX5) (T := TX5) (N := 20) hx hb hts i_X5 hown hK hP 0 rfl rfl 10 (by decide) k26 (fun _ h9 => h9) rfl dX5_begin_32 ?_
  refine lv_iload_n hx hb dX5_begin_35 rfl (lv_at hl 0 rfl) ?_
  refine lv_iload_n hx hb dX5_begin_36 rfl (lv_at hl 2 rfl) ?_
  obtain ⟨h_37, hf⟩ := rdc_some hf
  refine va_iast hx hb hK hP hD hS 5 0 rfl rfl h_37 dX5_begin_37 (fun H locs hP hD hS => ?_)
  have hP : va_P D vwCl (PX5 a0 a1 a2 a3 a4 a5 a6 a7 a8 a9 a10 a11 a12 cyI cyZ w_thrown w_size w_kinds w_as w_bs w_registers w_isMade w_steps w_stepParts w_pieces (upd w_pieceParts (4 * w_pieces).toNatClampNeg p1) w_slots w_areCounted (upd w_registerOf p1.toNatClampNeg p2) w_slotOf (upd w_pieceOf p1.toNatClampNeg w_pieces) (upd w_heldBy p2.toNatClampNeg p1) w_isSlotTaken w_outputs w_output) H := hP
  have hD : va_D A (PX5 a0 a1 a2 a3 a4 a5 a6 a7 a8 a9 a10 a11 a12 cyI cyZ w_thrown w_size w_kinds w_as w_bs w_registers w_isMade w_steps w_stepParts w_pieces (upd w_pieceParts (4 * w_pieces).toNatClampNeg p1) w_slots w_areCounted (upd w_registerOf p1.toNatClampNeg p2) w_slotOf (upd w_pieceOf p1.toNatClampNeg w_pieces) (upd w_heldBy p2.toNatClampNeg p1) w_isSlotTaken w_outputs w_output) := hD
  refine lv_aload_n hx hb dX5_begin_38 rfl (lv_at hl 1 rfl) ?_
  refine va_get (D := D) (ci := 5) (v := .ref a5) (C := RX5) (T := TX5) (N := 20) hx hb hts i_X5 hown hK hP 0 rfl rfl 10 (by decide) k26 (fun _ h9 => h9) rfl dX5_begin_39 ?_
  refine lv_iload_n hx hb dX5_begin_42 rfl (lv_at hl 0 rfl) ?_
  refine lv_iconst (v := 1) hx hb dX5_begin_43 (by decide) ?_
  refine lv_iadd hx hb dX5_begin_44 ?_
  refine lv_iload_n hx hb dX5_begin_45 rfl (lv_at hl 3 rfl) ?_
  obtain ⟨h_46, hf⟩ := rdc_some hf
  refine va_iast hx hb hK hP hD hS 5 0 rfl rfl h_46 dX5_begin_46 (fun H locs hP hD hS => ?_)
  have hP : va_P D vwCl (PX5 a0 a1 a2 a3 a4 a5 a6 a7 a8 a9 a10 a11 a12 cyI cyZ w_thrown w_size w_kinds w_as w_bs w_registers w_isMade w_steps w_stepParts w_pieces (upd (upd w_pieceParts (4 * w_pieces).toNatClampNeg p1) ((4 * w_pieces) + 1).toNatClampNeg p2) w_slots w_areCounted (upd w_registerOf p1.toNatClampNeg p2) w_slotOf (upd w_pieceOf p1.toNatClampNeg w_pieces) (upd w_heldBy p2.toNatClampNeg p1) w_isSlotTaken w_outputs w_output) H := hP
  have hD : va_D A (PX5 a0 a1 a2 a3 a4 a5 a6 a7 a8 a9 a10 a11 a12 cyI cyZ w_thrown w_size w_kinds w_as w_bs w_registers w_isMade w_steps w_stepParts w_pieces (upd (upd w_pieceParts (4 * w_pieces).toNatClampNeg p1) ((4 * w_pieces) + 1).toNatClampNeg p2) w_slots w_areCounted (upd w_registerOf p1.toNatClampNeg p2) w_slotOf (upd w_pieceOf p1.toNatClampNeg w_pieces) (upd w_heldBy p2.toNatClampNeg p1) w_isSlotTaken w_outputs w_output) := hD
  refine lv_aload_n hx hb dX5_begin_47 rfl (lv_at hl 1 rfl) ?_
  refine va_get (D := D) (ci := 5) (v := .ref a5) (C := RX5) (T := TX5) (N := 20) hx hb hts i_X5 hown hK hP 0 rfl rfl 10 (by decide) k26 (fun _ h9 => h9) rfl dX5_begin_48 ?_
  refine lv_iload_n hx hb dX5_begin_51 rfl (lv_at hl 0 rfl) ?_
  refine lv_iconst (v := 2) hx hb dX5_begin_52 (by decide) ?_
  refine lv_iadd hx hb dX5_begin_53 ?_
  refine lv_aload_n hx hb dX5_begin_54 rfl (lv_at hl 1 rfl) ?_
  refine va_get (D := D) (ci := 5) (v := .int w_steps) (C := RX5) (T := TX5) (N := 20) hx hb hts i_X5 hown hK hP 0 rfl rfl 7 (by decide) k92 (fun _ h9 => h9) rfl dX5_begin_55 ?_
  refine lv_iconst (v := 1) hx hb dX5_begin_58 (by decide) ?_
  refine lv_isub hx hb dX5_begin_59 ?_
  obtain ⟨h_60, hf⟩ := rdc_some hf
  refine va_iast hx hb hK hP hD hS 5 0 rfl rfl h_60 dX5_begin_60 (fun H locs hP hD hS => ?_)
  have hP : va_P D vwCl (PX5 a0 a1 a2 a3 a4 a5 a6 a7 a8 a9 a10 a11 a12 cyI cyZ w_thrown w_size w_kinds w_as w_bs w_registers w_isMade w_steps w_stepParts w_pieces (upd (upd (upd w_pieceParts (4 * w_pieces).toNatClampNeg p1) ((4 * w_pieces) + 1).toNatClampNeg p2) ((4 * w_pieces) + 2).toNatClampNeg (w_steps - 1)) w_slots w_areCounted (upd w_registerOf p1.toNatClampNeg p2) w_slotOf (upd w_pieceOf p1.toNatClampNeg w_pieces) (upd w_heldBy p2.toNatClampNeg p1) w_isSlotTaken w_outputs w_output) H := hP
  have hD : va_D A (PX5 a0 a1 a2 a3 a4 a5 a6 a7 a8 a9 a10 a11 a12 cyI cyZ w_thrown w_size w_kinds w_as w_bs w_registers w_isMade w_steps w_stepParts w_pieces (upd (upd (upd w_pieceParts (4 * w_pieces).toNatClampNeg p1) ((4 * w_pieces) + 1).toNatClampNeg p2) ((4 * w_pieces) + 2).toNatClampNeg (w_steps - 1)) w_slots w_areCounted (upd w_registerOf p1.toNatClampNeg p2) w_slotOf (upd w_pieceOf p1.toNatClampNeg w_pieces) (upd w_heldBy p2.toNatClampNeg p1) w_isSlotTaken w_outputs w_output) := hD
  refine lv_aload_n hx hb dX5_begin_61 rfl (lv_at hl 1 rfl) ?_
  refine va_get (D := D) (ci := 5) (v := .ref a5) (C := RX5) (T := TX5) (N := 20) hx hb hts i_X5 hown hK hP 0 rfl rfl 10 (by decide) k26 (fun _ h9 => h9) rfl dX5_begin_62 ?_
  refine lv_iload_n hx hb dX5_begin_65 rfl (lv_at hl 0 rfl) ?_
  refine lv_iconst (v := 3) hx hb dX5_begin_66 (by decide) ?_
  refine lv_iadd hx hb dX5_begin_67 ?_
  refine lv_aload_n hx hb dX5_begin_68 rfl (lv_at hl 1 rfl) ?_
  refine va_get (D := D) (ci := 5) (v := .int w_steps) (C := RX5) (T := TX5) (N := 20) hx hb hts i_X5 hown hK hP 0 rfl rfl 7 (by decide) k92 (fun _ h9 => h9) rfl dX5_begin_69 ?_
  refine lv_iconst (v := 1) hx hb dX5_begin_72 (by decide) ?_
  refine lv_isub hx hb dX5_begin_73 ?_
  obtain ⟨h_74, hf⟩ := rdc_some hf
  refine va_iast hx hb hK hP hD hS 5 0 rfl rfl h_74 dX5_begin_74 (fun H locs hP hD hS => ?_)
  have hP : va_P D vwCl (PX5 a0 a1 a2 a3 a4 a5 a6 a7 a8 a9 a10 a11 a12 cyI cyZ w_thrown w_size w_kinds w_as w_bs w_registers w_isMade w_steps w_stepParts w_pieces (upd (upd (upd (upd w_pieceParts (4 * w_pieces).toNatClampNeg p1) ((4 * w_pieces) + 1).toNatClampNeg p2) ((4 * w_pieces) + 2).toNatClampNeg (w_steps - 1)) ((4 * w_pieces) + 3).toNatClampNeg (w_steps - 1)) w_slots w_areCounted (upd w_registerOf p1.toNatClampNeg p2) w_slotOf (upd w_pieceOf p1.toNatClampNeg w_pieces) (upd w_heldBy p2.toNatClampNeg p1) w_isSlotTaken w_outputs w_output) H := hP
  have hD : va_D A (PX5 a0 a1 a2 a3 a4 a5 a6 a7 a8 a9 a10 a11 a12 cyI cyZ w_thrown w_size w_kinds w_as w_bs w_registers w_isMade w_steps w_stepParts w_pieces (upd (upd (upd (upd w_pieceParts (4 * w_pieces).toNatClampNeg p1) ((4 * w_pieces) + 1).toNatClampNeg p2) ((4 * w_pieces) + 2).toNatClampNeg (w_steps - 1)) ((4 * w_pieces) + 3).toNatClampNeg (w_steps - 1)) w_slots w_areCounted (upd w_registerOf p1.toNatClampNeg p2) w_slotOf (upd w_pieceOf p1.toNatClampNeg w_pieces) (upd w_heldBy p2.toNatClampNeg p1) w_isSlotTaken w_outputs w_output) := hD
  refine lv_aload_n hx hb dX5_begin_75 rfl (lv_at hl 1 rfl) ?_
  refine lv_dup hx hb dX5_begin_76 rfl ?_
  refine va_get (D := D) (ci := 5) (v := .int w_pieces) (C := RX5) (T := TX5) (N := 20) hx hb hts i_X5 hown hK hP 0 rfl rfl 9 (by decide) k95 (fun _ h9 => h9) rfl dX5_begin_77 ?_
  refine lv_iconst (v := 1) hx hb dX5_begin_80 (by decide) ?_
  refine lv_iadd hx hb dX5_begin_81 ?_
  refine va_put (D := D) (ci := 5) (v := .int (w_pieces + 1)) (ty := .int) (C := RX5) (T := TX5) (N := 20) hx hb hts i_X5 tyX5 tyX5_ok nmX5 hown hK hP hD hS 0 rfl rfl 9 (by decide) k95 (fun _ h9 => h9) rfl (by decide +kernel) rfl (by first | rfl | decide) (Nat.le_of_ble_eq_true rfl) dX5_begin_82 (fun H locs hP hD hS => ?_)
  have hP : va_P D vwCl (PX5 a0 a1 a2 a3 a4 a5 a6 a7 a8 a9 a10 a11 a12 cyI cyZ w_thrown w_size w_kinds w_as w_bs w_registers w_isMade w_steps w_stepParts (w_pieces + 1) (upd (upd (upd (upd w_pieceParts (4 * w_pieces).toNatClampNeg p1) ((4 * w_pieces) + 1).toNatClampNeg p2) ((4 * w_pieces) + 2).toNatClampNeg (w_steps - 1)) ((4 * w_pieces) + 3).toNatClampNeg (w_steps - 1)) w_slots w_areCounted (upd w_registerOf p1.toNatClampNeg p2) w_slotOf (upd w_pieceOf p1.toNatClampNeg w_pieces) (upd w_heldBy p2.toNatClampNeg p1) w_isSlotTaken w_outputs w_output) H := hP
  have hD : va_D A (PX5 a0 a1 a2 a3 a4 a5 a6 a7 a8 a9 a10 a11 a12 cyI cyZ w_thrown w_size w_kinds w_as w_bs w_registers w_isMade w_steps w_stepParts (w_pieces + 1) (upd (upd (upd (upd w_pieceParts (4 * w_pieces).toNatClampNeg p1) ((4 * w_pieces) + 1).toNatClampNeg p2) ((4 * w_pieces) + 2).toNatClampNeg (w_steps - 1)) ((4 * w_pieces) + 3).toNatClampNeg (w_steps - 1)) w_slots w_areCounted (upd w_registerOf p1.toNatClampNeg p2) w_slotOf (upd w_pieceOf p1.toNatClampNeg w_pieces) (upd w_heldBy p2.toNatClampNeg p1) w_isSlotTaken w_outputs w_output) := hD
  obtain rfl := Option.some.inj hf
  exact ret _ _ _ _ dX5_begin_85 hP hD hS

abbrev rmX5_reads : Room := { frames := 0, cells := 0, slots := 0, locals := 0 }
set_option maxHeartbeats 4000000 in
set_option maxRecDepth 100000 in
theorem c_X5_reads (l : Launch) (D : va_G) (cyI cyZ : ClassId) (a0 a1 a2 a3 a4 a5 a6 a7 a8 a9 a10 a11 a12 : Nat) (w_thrown : Int32) (w_size : Int32) (w_kinds : Nat → Int32) (w_as : Nat → Int32) (w_bs : Nat → Int32) (w_registers : Int32) (w_isMade : Int32) (w_steps : Int32) (w_stepParts : Nat → Int32) (w_pieces : Int32) (w_pieceParts : Nat → Int32) (w_slots : Int32) (w_areCounted : Nat → Int32) (w_registerOf : Nat → Int32) (w_slotOf : Nat → Int32) (w_pieceOf : Nat → Int32) (w_heldBy : Nat → Int32) (w_isSlotTaken : Nat → Int32) (w_outputs : Int32) (w_output : Nat → Int32) (p1 : Int32) (o : (Nat → Int32)) (hf : f_X5_reads p1 w_steps w_pieceParts w_pieceOf = some o) : kMv l yX5_reads wsX5_reads rmX5_reads [.ref a0, .int p1] D (PX5 a0 a1 a2 a3 a4 a5 a6 a7 a8 a9 a10 a11 a12 cyI cyZ w_thrown w_size w_kinds w_as w_bs w_registers w_isMade w_steps w_stepParts w_pieces w_pieceParts w_slots w_areCounted w_registerOf w_slotOf w_pieceOf w_heldBy w_isSlotTaken w_outputs w_output) (PX5 a0 a1 a2 a3 a4 a5 a6 a7 a8 a9 a10 a11 a12 cyI cyZ w_thrown w_size w_kinds w_as w_bs w_registers w_isMade w_steps w_stepParts w_pieces o w_slots w_areCounted w_registerOf w_slotOf w_pieceOf w_heldBy w_isSlotTaken w_outputs w_output) (kT cyI cyZ) 0 0 := by
  refine kOf_v (cc := cX5_reads) (maxL := 2) (by decide +kernel) rfl (Nat.le_of_ble_eq_true rfl) ?_
  intro p e s m args below meth c A Z ls C0 hP hK hD hA hl ret
  obtain ⟨hx, hb, hr, hml, hown, hts, hlocks⟩ := C0
  have hown : s.vm.findClass RX5 = some m.cls := hown
  have hl : lv_has ls 2 [(0, .ref a0), (1, .int p1)] := hl
  have hS : va_S A s.heap s.heap [] := va_S.rf
  have i_X5 : ∀ w ∈ wsX50, w ∈ wsX5_reads := by decide +kernel
  have k26 := hts (.fieldLink RX5 26 "RegisterAllocatorModel" "pieceParts" "[I") (by decide +kernel)
  have k39 := hts (.fieldLink RX5 39 "RegisterAllocatorModel" "pieceOf" "[I") (by decide +kernel)
  have k92 := hts (.fieldLink RX5 92 "RegisterAllocatorModel" "steps" "I") (by decide +kernel)
  rw [f_X5_reads] at hf
  refine lv_aload_n hx hb dX5_reads_0 rfl (lv_at hl 0 rfl) ?_
  refine va_get (D := D) (ci := 5) (v := .ref a5) (C := RX5) (T := TX5) (N := 20) hx hb hts i_X5 hown hK hP 0 rfl rfl 10 (by decide) k26 (fun _ h9 => h9) rfl dX5_reads_1 ?_
  refine lv_iconst (v := 4) hx hb dX5_reads_4 (by decide) ?_
  refine lv_aload_n hx hb dX5_reads_5 rfl (lv_at hl 0 rfl) ?_
  refine va_get (D := D) (ci := 5) (v := .ref a9) (C := RX5) (T := TX5) (N := 20) hx hb hts i_X5 hown hK hP 0 rfl rfl 15 (by decide) k39 (fun _ h9 => h9) rfl dX5_reads_6 ?_
  refine lv_iload_n hx hb dX5_reads_9 rfl (lv_at hl 1 rfl) ?_
  obtain ⟨h_10, hf⟩ := rdc_some hf
  refine va_iald hx hb hK hP 9 0 rfl rfl h_10 dX5_reads_10 ?_
  refine lv_imul hx hb dX5_reads_11 ?_
  refine lv_iconst (v := 3) hx hb dX5_reads_12 (by decide) ?_
  refine lv_iadd hx hb dX5_reads_13 ?_
  refine lv_aload_n hx hb dX5_reads_14 rfl (lv_at hl 0 rfl) ?_
  refine va_get (D := D) (ci := 5) (v := .int w_steps) (C := RX5) (T := TX5) (N := 20) hx hb hts i_X5 hown hK hP 0 rfl rfl 7 (by decide) k92 (fun _ h9 => h9) rfl dX5_reads_15 ?_
  refine lv_iconst (v := 1) hx hb dX5_reads_18 (by decide) ?_
  refine lv_isub hx hb dX5_reads_19 ?_
  obtain ⟨h_20, hf⟩ := rdc_some hf
  refine va_iast hx hb hK hP hD hS 5 0 rfl rfl h_20 dX5_reads_20 (fun H locs hP hD hS => ?_)
  have hP : va_P D vwCl (PX5 a0 a1 a2 a3 a4 a5 a6 a7 a8 a9 a10 a11 a12 cyI cyZ w_thrown w_size w_kinds w_as w_bs w_registers w_isMade w_steps w_stepParts w_pieces (upd w_pieceParts ((4 * (w_pieceOf p1.toNatClampNeg)) + 3).toNatClampNeg (w_steps - 1)) w_slots w_areCounted w_registerOf w_slotOf w_pieceOf w_heldBy w_isSlotTaken w_outputs w_output) H := hP
  have hD : va_D A (PX5 a0 a1 a2 a3 a4 a5 a6 a7 a8 a9 a10 a11 a12 cyI cyZ w_thrown w_size w_kinds w_as w_bs w_registers w_isMade w_steps w_stepParts w_pieces (upd w_pieceParts ((4 * (w_pieceOf p1.toNatClampNeg)) + 3).toNatClampNeg (w_steps - 1)) w_slots w_areCounted w_registerOf w_slotOf w_pieceOf w_heldBy w_isSlotTaken w_outputs w_output) := hD
  obtain rfl := Option.some.inj hf
  exact ret _ _ _ _ dX5_reads_21 hP hD hS

abbrev rmX5_leave : Room := { frames := 0, cells := 0, slots := 0, locals := 0 }
set_option maxHeartbeats 4000000 in
set_option maxRecDepth 100000 in
theorem c_X5_leave (l : Launch) (D : va_G) (cyI cyZ : ClassId) (a0 a1 a2 a3 a4 a5 a6 a7 a8 a9 a10 a11 a12 : Nat) (w_thrown : Int32) (w_size : Int32) (w_kinds : Nat → Int32) (w_as : Nat → Int32) (w_bs : Nat → Int32) (w_registers : Int32) (w_isMade : Int32) (w_steps : Int32) (w_stepParts : Nat → Int32) (w_pieces : Int32) (w_pieceParts : Nat → Int32) (w_slots : Int32) (w_areCounted : Nat → Int32) (w_registerOf : Nat → Int32) (w_slotOf : Nat → Int32) (w_pieceOf : Nat → Int32) (w_heldBy : Nat → Int32) (w_isSlotTaken : Nat → Int32) (w_outputs : Int32) (w_output : Nat → Int32) (p1 : Int32) (o : (Nat → Int32) × (Nat → Int32)) (hf : f_X5_leave p1 w_registerOf w_heldBy = some o) : kMv l yX5_leave wsX5_leave rmX5_leave [.ref a0, .int p1] D (PX5 a0 a1 a2 a3 a4 a5 a6 a7 a8 a9 a10 a11 a12 cyI cyZ w_thrown w_size w_kinds w_as w_bs w_registers w_isMade w_steps w_stepParts w_pieces w_pieceParts w_slots w_areCounted w_registerOf w_slotOf w_pieceOf w_heldBy w_isSlotTaken w_outputs w_output) (PX5 a0 a1 a2 a3 a4 a5 a6 a7 a8 a9 a10 a11 a12 cyI cyZ w_thrown w_size w_kinds w_as w_bs w_registers w_isMade w_steps w_stepParts w_pieces w_pieceParts w_slots w_areCounted o.1 w_slotOf w_pieceOf o.2 w_isSlotTaken w_outputs w_output) (kT cyI cyZ) 0 0 := by
  refine kOf_v (cc := cX5_leave) (maxL := 2) (by decide +kernel) rfl (Nat.le_of_ble_eq_true rfl) ?_
  intro p e s m args below meth c A Z ls C0 hP hK hD hA hl ret
  obtain ⟨hx, hb, hr, hml, hown, hts, hlocks⟩ := C0
  have hown : s.vm.findClass RX5 = some m.cls := hown
  have hl : lv_has ls 2 [(0, .ref a0), (1, .int p1)] := hl
  have hS : va_S A s.heap s.heap [] := va_S.rf
  have i_X5 : ∀ w ∈ wsX50, w ∈ wsX5_leave := by decide +kernel
  have k33 := hts (.fieldLink RX5 33 "RegisterAllocatorModel" "registerOf" "[I") (by decide +kernel)
  have k42 := hts (.fieldLink RX5 42 "RegisterAllocatorModel" "heldBy" "[I") (by decide +kernel)
  rw [f_X5_leave] at hf
  refine lv_aload_n hx hb dX5_leave_0 rfl (lv_at hl 0 rfl) ?_
  refine va_get (D := D) (ci := 5) (v := .ref a10) (C := RX5) (T := TX5) (N := 20) hx hb hts i_X5 hown hK hP 0 rfl rfl 16 (by decide) k42 (fun _ h9 => h9) rfl dX5_leave_1 ?_
  refine lv_aload_n hx hb dX5_leave_4 rfl (lv_at hl 0 rfl) ?_
  refine va_get (D := D) (ci := 5) (v := .ref a7) (C := RX5) (T := TX5) (N := 20) hx hb hts i_X5 hown hK hP 0 rfl rfl 13 (by decide) k33 (fun _ h9 => h9) rfl dX5_leave_5 ?_
  refine lv_iload_n hx hb dX5_leave_8 rfl (lv_at hl 1 rfl) ?_
  obtain ⟨h_9, hf⟩ := rdc_some hf
  refine va_iald hx hb hK hP 7 0 rfl rfl h_9 dX5_leave_9 ?_
  refine lv_iconst (v := (-1)) hx hb dX5_leave_10 (by decide) ?_
  obtain ⟨h_11, hf⟩ := rdc_some hf
  refine va_iast hx hb hK hP hD hS 10 0 rfl rfl h_11 dX5_leave_11 (fun H locs hP hD hS => ?_)
  have hP : va_P D vwCl (PX5 a0 a1 a2 a3 a4 a5 a6 a7 a8 a9 a10 a11 a12 cyI cyZ w_thrown w_size w_kinds w_as w_bs w_registers w_isMade w_steps w_stepParts w_pieces w_pieceParts w_slots w_areCounted w_registerOf w_slotOf w_pieceOf (upd w_heldBy (w_registerOf p1.toNatClampNeg).toNatClampNeg (-1)) w_isSlotTaken w_outputs w_output) H := hP
  have hD : va_D A (PX5 a0 a1 a2 a3 a4 a5 a6 a7 a8 a9 a10 a11 a12 cyI cyZ w_thrown w_size w_kinds w_as w_bs w_registers w_isMade w_steps w_stepParts w_pieces w_pieceParts w_slots w_areCounted w_registerOf w_slotOf w_pieceOf (upd w_heldBy (w_registerOf p1.toNatClampNeg).toNatClampNeg (-1)) w_isSlotTaken w_outputs w_output) := hD
  refine lv_aload_n hx hb dX5_leave_12 rfl (lv_at hl 0 rfl) ?_
  refine va_get (D := D) (ci := 5) (v := .ref a7) (C := RX5) (T := TX5) (N := 20) hx hb hts i_X5 hown hK hP 0 rfl rfl 13 (by decide) k33 (fun _ h9 => h9) rfl dX5_leave_13 ?_
  refine lv_iload_n hx hb dX5_leave_16 rfl (lv_at hl 1 rfl) ?_
  refine lv_iconst (v := (-1)) hx hb dX5_leave_17 (by decide) ?_
  obtain ⟨h_18, hf⟩ := rdc_some hf
  refine va_iast hx hb hK hP hD hS 7 0 rfl rfl h_18 dX5_leave_18 (fun H locs hP hD hS => ?_)
  have hP : va_P D vwCl (PX5 a0 a1 a2 a3 a4 a5 a6 a7 a8 a9 a10 a11 a12 cyI cyZ w_thrown w_size w_kinds w_as w_bs w_registers w_isMade w_steps w_stepParts w_pieces w_pieceParts w_slots w_areCounted (upd w_registerOf p1.toNatClampNeg (-1)) w_slotOf w_pieceOf (upd w_heldBy (w_registerOf p1.toNatClampNeg).toNatClampNeg (-1)) w_isSlotTaken w_outputs w_output) H := hP
  have hD : va_D A (PX5 a0 a1 a2 a3 a4 a5 a6 a7 a8 a9 a10 a11 a12 cyI cyZ w_thrown w_size w_kinds w_as w_bs w_registers w_isMade w_steps w_stepParts w_pieces w_pieceParts w_slots w_areCounted (upd w_registerOf p1.toNatClampNeg (-1)) w_slotOf w_pieceOf (upd w_heldBy (w_registerOf p1.toNatClampNeg).toNatClampNeg (-1)) w_isSlotTaken w_outputs w_output) := hD
  obtain rfl := Option.some.inj hf
  exact ret _ _ _ _ dX5_leave_19 hP hD hS

abbrev rmX5_isBefore : Room := { frames := 2, cells := 0, slots := 0, locals := 45 }
set_option maxHeartbeats 4000000 in
set_option maxRecDepth 100000 in
theorem c_X5_isBefore (l : Launch) (D : va_G) (cyI cyZ : ClassId) (a0 a1 a2 a3 a4 a5 a6 a7 a8 a9 a10 a11 a12 : Nat) (w_thrown : Int32) (w_size : Int32) (w_kinds : Nat → Int32) (w_as : Nat → Int32) (w_bs : Nat → Int32) (w_registers : Int32) (w_isMade : Int32) (w_steps : Int32) (w_stepParts : Nat → Int32) (w_pieces : Int32) (w_pieceParts : Nat → Int32) (w_slots : Int32) (w_areCounted : Nat → Int32) (w_registerOf : Nat → Int32) (w_slotOf : Nat → Int32) (w_pieceOf : Nat → Int32) (w_heldBy : Nat → Int32) (w_isSlotTaken : Nat → Int32) (w_outputs : Int32) (w_output : Nat → Int32) (p1 : Int32) (p2 : Int32) (p3 : Int32) (o : Int32) (hf : f_X5_isBefore p1 p2 p3 w_size w_kinds w_as w_bs w_areCounted w_slotOf = some o) : kMi l yX5_isBefore wsX5_isBefore rmX5_isBefore [.ref a0, .int p1, .int p2, .int p3] D (PX5 a0 a1 a2 a3 a4 a5 a6 a7 a8 a9 a10 a11 a12 cyI cyZ w_thrown w_size w_kinds w_as w_bs w_registers w_isMade w_steps w_stepParts w_pieces w_pieceParts w_slots w_areCounted w_registerOf w_slotOf w_pieceOf w_heldBy w_isSlotTaken w_outputs w_output) (PX5 a0 a1 a2 a3 a4 a5 a6 a7 a8 a9 a10 a11 a12 cyI cyZ w_thrown w_size w_kinds w_as w_bs w_registers w_isMade w_steps w_stepParts w_pieces w_pieceParts w_slots w_areCounted w_registerOf w_slotOf w_pieceOf w_heldBy w_isSlotTaken w_outputs w_output) (kT cyI cyZ) o 0 0 := by
  refine kOf_i (cc := cX5_isBefore) (maxL := 7) (ty := .boolean) (by decide +kernel) rfl (Nat.le_of_ble_eq_true rfl) ?_
  intro p e s m args below meth c A Z ls C0 hP hK hD hA hl ret
  obtain ⟨hx, hb, hr, hml, hown, hts, hlocks⟩ := C0
  have hown : s.vm.findClass RX5 = some m.cls := hown
  have hl : lv_has ls 7 [(0, .ref a0), (1, .int p1), (2, .int p2), (3, .int p3)] := hl
  have hS : va_S A s.heap s.heap [] := va_S.rf
  have i_X5 : ∀ w ∈ wsX50, w ∈ wsX5_isBefore := by decide +kernel
  have k36 := hts (.fieldLink RX5 36 "RegisterAllocatorModel" "slotOf" "[I") (by decide +kernel)
  have k9 := hts (.fieldLink RX5 9 "RegisterAllocatorModel" "kinds" "[I") (by decide +kernel)
  have J72 : ∀ (x6_J72 : Int32) (x1_J72 : Int32) (x2_J72 : Int32) (t0_J72 : Int32) (t1_J72 : Int32) (_ : f_X5_isBefore_J72 w_slotOf x6_J72 x1_J72 x2_J72 t0_J72 t1_J72 = some o) (H : Heap) (locs : List Loc) (ls : Array Slot), va_P D vwCl (PX5 a0 a1 a2 a3 a4 a5 a6 a7 a8 a9 a10 a11 a12 cyI cyZ w_thrown w_size w_kinds w_as w_bs w_registers w_isMade w_steps w_stepParts w_pieces w_pieceParts w_slots w_areCounted w_registerOf w_slotOf w_pieceOf w_heldBy w_isSlotTaken w_outputs w_output) H → va_D A (PX5 a0 a1 a2 a3 a4 a5 a6 a7 a8 a9 a10 a11 a12 cyI cyZ w_thrown w_size w_kinds w_as w_bs w_registers w_isMade w_steps w_stepParts w_pieces w_pieceParts w_slots w_areCounted w_registerOf w_slotOf w_pieceOf w_heldBy w_isSlotTaken w_outputs w_output) → va_S A s.heap H locs → lv_has ls 7 [(6, .int x6_J72), (0, .ref a0), (1, .int x1_J72), (2, .int x2_J72)] → W p l e rmX5_isBefore s m args below meth c H locs 0 0 Z (F0 m 72 ls [.int t1_J72, .int t0_J72]) := by
    intro x6_J72 x1_J72 x2_J72 t0_J72 t1_J72 hf H locs ls hP hD hS hl
    rw [f_X5_isBefore_J72] at hf
    refine lv_icmp_eq (tgt := 78) hx hb dX5_isBefore_72 (by decide) (fun c_72 => ?_) (fun c_72 => ?_)
    · have hf := kit c_72 hf
      refine lv_aload_n hx hb dX5_isBefore_78 rfl (lv_at hl 1 rfl) ?_
      refine va_get (D := D) (ci := 5) (v := .ref a8) (C := RX5) (T := TX5) (N := 20) hx hb hts i_X5 hown hK hP 0 rfl rfl 14 (by decide) k36 (fun _ h9 => h9) rfl dX5_isBefore_79 ?_
      refine lv_iload_n hx hb dX5_isBefore_82 rfl (lv_at hl 2 rfl) ?_
      obtain ⟨h_83, hf⟩ := rdc_some hf
      refine va_iald hx hb hK hP 8 0 rfl rfl h_83 dX5_isBefore_83 ?_
      refine lv_iconst (v := (-1)) hx hb dX5_isBefore_84 (by decide) ?_
      refine lv_icmp_eq (tgt := 102) hx hb dX5_isBefore_85 (by decide) (fun c_85 => ?_) (fun c_85 => ?_)
      · have hf := kit c_85 hf
        refine lv_iconst (v := 0) hx hb dX5_isBefore_102 (by decide) ?_
        obtain rfl := Option.some.inj hf
        exact ret _ _ _ _ dX5_isBefore_103 (znar (Or.inl rfl)) hP hD hS
      · have hf := kif c_85 hf
        refine lv_aload_n hx hb dX5_isBefore_88 rfl (lv_at hl 1 rfl) ?_
        refine va_get (D := D) (ci := 5) (v := .ref a8) (C := RX5) (T := TX5) (N := 20) hx hb hts i_X5 hown hK hP 0 rfl rfl 14 (by decide) k36 (fun _ h9 => h9) rfl dX5_isBefore_89 ?_
        refine lv_iload_n hx hb dX5_isBefore_92 rfl (lv_at hl 3 rfl) ?_
        obtain ⟨h_93, hf⟩ := rdc_some hf
        refine va_iald hx hb hK hP 8 0 rfl rfl h_93 dX5_isBefore_93 ?_
        refine lv_iconst (v := (-1)) hx hb dX5_isBefore_94 (by decide) ?_
        refine lv_icmp_ne (tgt := 102) hx hb dX5_isBefore_95 (by decide) (fun c_95 => ?_) (fun c_95 => ?_)
        · have hf := kif c_95 hf
          refine lv_iconst (v := 0) hx hb dX5_isBefore_102 (by decide) ?_
          obtain rfl := Option.some.inj hf
          exact ret _ _ _ _ dX5_isBefore_103 (znar (Or.inl rfl)) hP hD hS
        · have hf := kit c_95 hf
          refine lv_iconst (v := 1) hx hb dX5_isBefore_98 (by decide) ?_
          refine lv_goto (tgt := 103) hx hb dX5_isBefore_99 (by decide) ?_
          obtain rfl := Option.some.inj hf
          exact ret _ _ _ _ dX5_isBefore_103 (znar (Or.inr rfl)) hP hD hS
    · have hf := kif c_72 hf
      refine lv_iload hx hb dX5_isBefore_75 (lv_at hl 0 rfl) ?_
      obtain ⟨hz, hf⟩ := zck_some hf
      obtain rfl := Option.some.inj hf
      exact ret _ _ _ _ dX5_isBefore_77 (znar hz) hP hD hS
  have J54 : ∀ (x1_J54 : Int32) (x2_J54 : Int32) (t0_J54 : Int32) (_ : f_X5_isBefore_J54 w_kinds w_slotOf x1_J54 x2_J54 t0_J54 = some o) (H : Heap) (locs : List Loc) (ls : Array Slot), va_P D vwCl (PX5 a0 a1 a2 a3 a4 a5 a6 a7 a8 a9 a10 a11 a12 cyI cyZ w_thrown w_size w_kinds w_as w_bs w_registers w_isMade w_steps w_stepParts w_pieces w_pieceParts w_slots w_areCounted w_registerOf w_slotOf w_pieceOf w_heldBy w_isSlotTaken w_outputs w_output) H → va_D A (PX5 a0 a1 a2 a3 a4 a5 a6 a7 a8 a9 a10 a11 a12 cyI cyZ w_thrown w_size w_kinds w_as w_bs w_registers w_isMade w_steps w_stepParts w_pieces w_pieceParts w_slots w_areCounted w_registerOf w_slotOf w_pieceOf w_heldBy w_isSlotTaken w_outputs w_output) → va_S A s.heap H locs → lv_has ls 7 [(0, .ref a0), (1, .int x1_J54), (2, .int x2_J54)] → W p l e rmX5_isBefore s m args below meth c H locs 0 0 Z (F0 m 54 ls [.int t0_J54]) := by
    intro x1_J54 x2_J54 t0_J54 hf H locs ls hP hD hS hl
    rw [f_X5_isBefore_J54] at hf
    refine lv_istore (lv' := [(6, .int t0_J54), (0, .ref a0), (1, .int x1_J54), (2, .int x2_J54)]) hx hb dX5_isBefore_54 hl (by decide) rfl (fun ls hl => ?_)
    refine lv_iload hx hb dX5_isBefore_56 (lv_at hl 0 rfl) ?_
    refine lv_aload_n hx hb dX5_isBefore_58 rfl (lv_at hl 1 rfl) ?_
    refine va_get (D := D) (ci := 5) (v := .ref a1) (C := RX5) (T := TX5) (N := 20) hx hb hts i_X5 hown hK hP 0 rfl rfl 2 (by decide) k9 (fun _ h9 => h9) rfl dX5_isBefore_59 ?_
    refine lv_iload_n hx hb dX5_isBefore_62 rfl (lv_at hl 3 rfl) ?_
    obtain ⟨h_63, hf⟩ := rdc_some hf
    refine va_iald hx hb hK hP 1 0 rfl rfl h_63 dX5_isBefore_63 ?_
    refine lv_if_ne (tgt := 71) hx hb dX5_isBefore_64 (by decide) (fun c_64 => ?_) (fun c_64 => ?_)
    · have hf := kif c_64 hf
      refine lv_iconst (v := 0) hx hb dX5_isBefore_71 (by decide) ?_
      exact J72 t0_J54 x1_J54 x2_J54 t0_J54 0 hf _ _ _ hP hD hS (lv_sub hl [0, 1, 2, 3] rfl)
    · have hf := kit c_64 hf
      refine lv_iconst (v := 1) hx hb dX5_isBefore_67 (by decide) ?_
      refine lv_goto (tgt := 72) hx hb dX5_isBefore_68 (by decide) ?_
      exact J72 t0_J54 x1_J54 x2_J54 t0_J54 1 hf _ _ _ hP hD hS (lv_sub hl [0, 1, 2, 3] rfl)
  rw [f_X5_isBefore] at hf
  refine lv_aload_n hx hb dX5_isBefore_0 rfl (lv_at hl 0 rfl) ?_
  refine lv_iload_n hx hb dX5_isBefore_1 rfl (lv_at hl 1 rfl) ?_
  refine lv_iload_n hx hb dX5_isBefore_2 rfl (lv_at hl 3 rfl) ?_
  refine lv_iconst (v := 1) hx hb dX5_isBefore_3 (by decide) ?_
  refine lv_iadd hx hb dX5_isBefore_4 ?_
  obtain ⟨u5, hf5, hf⟩ := kbd hf
  refine kc_Vi (As := [.int p1, .int (p3 + 1)]) (rest := []) (wf := (PX5 a0 a1 a2 a3 a4 a5 a6 a7 a8 a9 a10 a11 a12 cyI cyZ w_thrown w_size w_kinds w_as w_bs w_registers w_isMade w_steps w_stepParts w_pieces w_pieceParts w_slots w_areCounted w_registerOf w_slotOf w_pieceOf w_heldBy w_isSlotTaken w_outputs w_output)) (c_X5_useFrom l D cyI cyZ a0 a1 a2 a3 a4 a5 a6 a7 a8 a9 a10 a11 a12 w_thrown w_size w_kinds w_as w_bs w_registers w_isMade w_steps w_stepParts w_pieces w_pieceParts w_slots w_areCounted w_registerOf w_slotOf w_pieceOf w_heldBy w_isSlotTaken w_outputs w_output p1 (p3 + 1) u5 hf5) ⟨hx, hb, hml, hown, hts⟩ (cwV 2 hts gX5_isBefore_X5_useFrom rfl rfl rfl (by decide +kernel) ⟨Nat.le_of_ble_eq_true rfl, Nat.le_of_ble_eq_true rfl⟩) hK hP hD hS hA [0, 1, 2, 3, 4, 5, 6, 7, 8, 9, 10, 11, 12] [] 13 rfl rfl kR0 rfl (by decide +kernel) rfl rfl rfl rfl hl.1 rfl (Nat.le_of_ble_eq_true rfl) dX5_isBefore_5 ⟨Nat.le_of_ble_eq_true rfl, Nat.le_of_ble_eq_true rfl⟩ (fun H locs hP hD hS => ?_)
  refine lv_istore (lv' := [(4, .int u5), (0, .ref a0), (1, .int p1), (2, .int p2), (3, .int p3)]) hx hb dX5_isBefore_8 hl (by decide) rfl (fun ls hl => ?_)
  refine lv_aload_n hx hb dX5_isBefore_10 rfl (lv_at hl 1 rfl) ?_
  refine lv_iload_n hx hb dX5_isBefore_11 rfl (lv_at hl 3 rfl) ?_
  refine lv_iload_n hx hb dX5_isBefore_12 rfl (lv_at hl 4 rfl) ?_
  refine lv_iconst (v := 1) hx hb dX5_isBefore_13 (by decide) ?_
  refine lv_iadd hx hb dX5_isBefore_14 ?_
  obtain ⟨u15, hf15, hf⟩ := kbd hf
  refine kc_Vi (As := [.int p2, .int (p3 + 1)]) (rest := []) (wf := (PX5 a0 a1 a2 a3 a4 a5 a6 a7 a8 a9 a10 a11 a12 cyI cyZ w_thrown w_size w_kinds w_as w_bs w_registers w_isMade w_steps w_stepParts w_pieces w_pieceParts w_slots w_areCounted w_registerOf w_slotOf w_pieceOf w_heldBy w_isSlotTaken w_outputs w_output)) (c_X5_useFrom l D cyI cyZ a0 a1 a2 a3 a4 a5 a6 a7 a8 a9 a10 a11 a12 w_thrown w_size w_kinds w_as w_bs w_registers w_isMade w_steps w_stepParts w_pieces w_pieceParts w_slots w_areCounted w_registerOf w_slotOf w_pieceOf w_heldBy w_isSlotTaken w_outputs w_output p2 (p3 + 1) u15 hf15) ⟨hx, hb, hml, hown, hts⟩ (cwV 2 hts gX5_isBefore_X5_useFrom rfl rfl rfl (by decide +kernel) ⟨Nat.le_of_ble_eq_true rfl, Nat.le_of_ble_eq_true rfl⟩) hK hP hD hS hA [0, 1, 2, 3, 4, 5, 6, 7, 8, 9, 10, 11, 12] [] 13 rfl rfl kR0 rfl (by decide +kernel) rfl rfl rfl rfl hl.1 rfl (Nat.le_of_ble_eq_true rfl) dX5_isBefore_15 ⟨Nat.le_of_ble_eq_true rfl, Nat.le_of_ble_eq_true rfl⟩ (fun H locs hP hD hS => ?_)
  refine lv_istore (lv' := [(5, .int u15), (4, .int u5), (0, .ref a0), (1, .int p1), (2, .int p2), (3, .int p3)]) hx hb dX5_isBefore_18 hl (by decide) rfl (fun ls hl => ?_)
  refine lv_iload hx hb dX5_isBefore_20 (lv_at hl 1 rfl) ?_
  refine lv_iload hx hb dX5_isBefore_22 (lv_at hl 0 rfl) ?_
  refine lv_icmp_eq (tgt := 40) hx hb dX5_isBefore_24 (by decide) (fun c_24 => ?_) (fun c_24 => ?_)
  · have hf := kit c_24 hf
    refine lv_aload_n hx hb dX5_isBefore_40 rfl (lv_at hl 2 rfl) ?_
    refine va_get (D := D) (ci := 5) (v := .ref a1) (C := RX5) (T := TX5) (N := 20) hx hb hts i_X5 hown hK hP 0 rfl rfl 2 (by decide) k9 (fun _ h9 => h9) rfl dX5_isBefore_41 ?_
    refine lv_iload_n hx hb dX5_isBefore_44 rfl (lv_at hl 3 rfl) ?_
    obtain ⟨h_45, hf⟩ := rdc_some hf
    refine va_iald hx hb hK hP 1 0 rfl rfl h_45 dX5_isBefore_45 ?_
    refine lv_if_ne (tgt := 53) hx hb dX5_isBefore_46 (by decide) (fun c_46 => ?_) (fun c_46 => ?_)
    · have hf := kif c_46 hf
      refine lv_iconst (v := 0) hx hb dX5_isBefore_53 (by decide) ?_
      exact J54 p1 p2 0 hf _ _ _ hP hD hS (lv_sub hl [2, 3, 4] rfl)
    · have hf := kit c_46 hf
      refine lv_iconst (v := 1) hx hb dX5_isBefore_49 (by decide) ?_
      refine lv_goto (tgt := 54) hx hb dX5_isBefore_50 (by decide) ?_
      exact J54 p1 p2 1 hf _ _ _ hP hD hS (lv_sub hl [2, 3, 4] rfl)
  · have hf := kif c_24 hf
    refine lv_iload hx hb dX5_isBefore_27 (lv_at hl 1 rfl) ?_
    refine lv_iload hx hb dX5_isBefore_29 (lv_at hl 0 rfl) ?_
    refine lv_icmp_le (tgt := 38) hx hb dX5_isBefore_31 (by decide) (fun c_31 => ?_) (fun c_31 => ?_)
    · have hf := kit c_31 hf
      refine lv_iconst (v := 0) hx hb dX5_isBefore_38 (by decide) ?_
      obtain rfl := Option.some.inj hf
      exact ret _ _ _ _ dX5_isBefore_39 (znar (Or.inl rfl)) hP hD hS
    · have hf := kif c_31 hf
      refine lv_iconst (v := 1) hx hb dX5_isBefore_34 (by decide) ?_
      refine lv_goto (tgt := 39) hx hb dX5_isBefore_35 (by decide) ?_
      obtain rfl := Option.some.inj hf
      exact ret _ _ _ _ dX5_isBefore_39 (znar (Or.inr rfl)) hP hD hS

abbrev rmX5_get : Room := { frames := 3, cells := 0, slots := 0, locals := 71 }
set_option maxHeartbeats 4000000 in
set_option maxRecDepth 100000 in
theorem c_X5_get (l : Launch) (D : va_G) (cyI cyZ : ClassId) (a0 a1 a2 a3 a4 a5 a6 a7 a8 a9 a10 a11 a12 : Nat) (w_thrown : Int32) (w_size : Int32) (w_kinds : Nat → Int32) (w_as : Nat → Int32) (w_bs : Nat → Int32) (w_registers : Int32) (w_isMade : Int32) (w_steps : Int32) (w_stepParts : Nat → Int32) (w_pieces : Int32) (w_pieceParts : Nat → Int32) (w_slots : Int32) (w_areCounted : Nat → Int32) (w_registerOf : Nat → Int32) (w_slotOf : Nat → Int32) (w_pieceOf : Nat → Int32) (w_heldBy : Nat → Int32) (w_isSlotTaken : Nat → Int32) (w_outputs : Int32) (w_output : Nat → Int32) (p1 : Int32) (p2 : Int32) (p3 : Int32) (o : Int32 × Int32 × (Nat → Int32) × (Nat → Int32) × Int32 × (Nat → Int32) × (Nat → Int32) × (Nat → Int32) × (Nat → Int32)) (hf : f_X5_get p1 p2 p3 w_size w_kinds w_as w_bs w_steps w_stepParts w_pieceParts w_slots w_areCounted w_registerOf w_slotOf w_pieceOf w_heldBy w_isSlotTaken = some o) : kMi l yX5_get wsX5_get rmX5_get [.ref a0, .int p1, .int p2, .int p3] D (PX5 a0 a1 a2 a3 a4 a5 a6 a7 a8 a9 a10 a11 a12 cyI cyZ w_thrown w_size w_kinds w_as w_bs w_registers w_isMade w_steps w_stepParts w_pieces w_pieceParts w_slots w_areCounted w_registerOf w_slotOf w_pieceOf w_heldBy w_isSlotTaken w_outputs w_output) (PX5 a0 a1 a2 a3 a4 a5 a6 a7 a8 a9 a10 a11 a12 cyI cyZ w_thrown w_size w_kinds w_as w_bs w_registers w_isMade o.2.1 o.2.2.1 w_pieces o.2.2.2.1 o.2.2.2.2.1 w_areCounted o.2.2.2.2.2.1 o.2.2.2.2.2.2.1 w_pieceOf o.2.2.2.2.2.2.2.1 o.2.2.2.2.2.2.2.2 w_outputs w_output) (kT cyI cyZ) o.1 0 0 := by
  refine kOf_i (cc := cX5_get) (maxL := 7) (ty := .int) (by decide +kernel) rfl (Nat.le_of_ble_eq_true rfl) ?_
  intro p e s m args below meth c A Z ls C0 hP hK hD hA hl ret
  obtain ⟨hx, hb, hr, hml, hown, hts, hlocks⟩ := C0
  have hown : s.vm.findClass RX5 = some m.cls := hown
  have hl : lv_has ls 7 [(0, .ref a0), (1, .int p1), (2, .int p2), (3, .int p3)] := hl
  have hS : va_S A s.heap s.heap [] := va_S.rf
  have i_X5 : ∀ w ∈ wsX50, w ∈ wsX5_get := by decide +kernel
  have k102 := hts (.fieldLink RX5 102 "RegisterAllocatorModel" "slots" "I") (by decide +kernel)
  have k36 := hts (.fieldLink RX5 36 "RegisterAllocatorModel" "slotOf" "[I") (by decide +kernel)
  have k42 := hts (.fieldLink RX5 42 "RegisterAllocatorModel" "heldBy" "[I") (by decide +kernel)
  have k45 := hts (.fieldLink RX5 45 "RegisterAllocatorModel" "isSlotTaken" "[Z") (by decide +kernel)
  have k9 := hts (.fieldLink RX5 9 "RegisterAllocatorModel" "kinds" "[I") (by decide +kernel)
  have km83 := hts (.methodLink RX5 83 Lib.Math.max.name) (by decide +kernel)
  have kmc_max := hts (.code Lib.Math.max.name Lib.Math.max.code 2 (some .int)) (by decide +kernel)
  have kmi := hts (.initialized "java/lang/Math") (by decide +kernel)
  have kms_max := hts (.static Lib.Math.max.name) (by decide +kernel)
  rw [f_X5_get] at hf
  refine lv_iconst (v := (-1)) hx hb dX5_get_0 (by decide) ?_
  refine lv_istore (lv' := [(4, .int (-1)), (0, .ref a0), (1, .int p1), (2, .int p2), (3, .int p3)]) hx hb dX5_get_1 hl (by decide) rfl (fun ls hl => ?_)
  refine lv_iload_n hx hb dX5_get_3 rfl (lv_at hl 4 rfl) ?_
  refine lv_iconst (v := 1) hx hb dX5_get_4 (by decide) ?_
  refine lv_isub hx hb dX5_get_5 ?_
  refine lv_istore (lv' := [(5, .int (p3 - 1)), (4, .int (-1)), (0, .ref a0), (1, .int p1), (2, .int p2), (3, .int p3)]) hx hb dX5_get_6 hl (by decide) rfl (fun ls hl => ?_)
  have L8 : ∀ (n : Nat) (x5_L8 : Int32) (x4_L8 : Int32) (o9 : Int32) (_ : f_X5_get_L8 w_heldBy n x5_L8 x4_L8 = some o9) (H : Heap) (locs : List Loc) (ls : Array Slot), va_P D vwCl (PX5 a0 a1 a2 a3 a4 a5 a6 a7 a8 a9 a10 a11 a12 cyI cyZ w_thrown w_size w_kinds w_as w_bs w_registers w_isMade w_steps w_stepParts w_pieces w_pieceParts w_slots w_areCounted w_registerOf w_slotOf w_pieceOf w_heldBy w_isSlotTaken w_outputs w_output) H → va_D A (PX5 a0 a1 a2 a3 a4 a5 a6 a7 a8 a9 a10 a11 a12 cyI cyZ w_thrown w_size w_kinds w_as w_bs w_registers w_isMade w_steps w_stepParts w_pieces w_pieceParts w_slots w_areCounted w_registerOf w_slotOf w_pieceOf w_heldBy w_isSlotTaken w_outputs w_output) → va_S A s.heap H locs → lv_has ls 7 [(5, .int x5_L8), (4, .int x4_L8), (0, .ref a0), (1, .int p1), (2, .int p2), (3, .int p3)] → (∀ (H : Heap) (locs : List Loc) (ls : Array Slot), va_P D vwCl (PX5 a0 a1 a2 a3 a4 a5 a6 a7 a8 a9 a10 a11 a12 cyI cyZ w_thrown w_size w_kinds w_as w_bs w_registers w_isMade w_steps w_stepParts w_pieces w_pieceParts w_slots w_areCounted w_registerOf w_slotOf w_pieceOf w_heldBy w_isSlotTaken w_outputs w_output) H → va_D A (PX5 a0 a1 a2 a3 a4 a5 a6 a7 a8 a9 a10 a11 a12 cyI cyZ w_thrown w_size w_kinds w_as w_bs w_registers w_isMade w_steps w_stepParts w_pieces w_pieceParts w_slots w_areCounted w_registerOf w_slotOf w_pieceOf w_heldBy w_isSlotTaken w_outputs w_output) → va_S A s.heap H locs → lv_has ls 7 [(4, .int o9), (0, .ref a0), (1, .int p1), (2, .int p2), (3, .int p3)] → W p l e rmX5_get s m args below meth c H locs 0 0 Z (F0 m 34 ls [])) → W p l e rmX5_get s m args below meth c H locs 0 0 Z (F0 m 8 ls []) := by
    intro n
    induction n with
    | zero =>
      intro x5_L8 x4_L8 o9 hf
      rw [f_X5_get_L8] at hf
      cases hf
    | succ n ih =>
      intro x5_L8 x4_L8 o9 hf H locs ls hP hD hS hl kx
      rw [f_X5_get_L8] at hf
      refine lv_iload hx hb dX5_get_8 (lv_at hl 0 rfl) ?_
      refine lv_if_lt (tgt := 34) hx hb dX5_get_10 (by decide) (fun c_10 => ?_) (fun c_10 => ?_)
      · have hf := kit c_10 hf
        obtain rfl := Option.some.inj hf
        exact kx _ _ _ hP hD hS (lv_sub hl [1, 2, 3, 4, 5] rfl)
      · have hf := kif c_10 hf
        refine lv_aload_n hx hb dX5_get_13 rfl (lv_at hl 2 rfl) ?_
        refine va_get (D := D) (ci := 5) (v := .ref a10) (C := RX5) (T := TX5) (N := 20) hx hb hts i_X5 hown hK hP 0 rfl rfl 16 (by decide) k42 (fun _ h9 => h9) rfl dX5_get_14 ?_
        refine lv_iload hx hb dX5_get_17 (lv_at hl 0 rfl) ?_
        obtain ⟨h_19, hf⟩ := rdc_some hf
        refine va_iald hx hb hK hP 10 0 rfl rfl h_19 dX5_get_19 ?_
        refine lv_iconst (v := (-1)) hx hb dX5_get_20 (by decide) ?_
        refine lv_icmp_ne (tgt := 28) hx hb dX5_get_21 (by decide) (fun c_21 => ?_) (fun c_21 => ?_)
        · have hf := kif c_21 hf
          refine lv_iinc (v := (x5_L8 + (-1))) (lv' := [(5, .int (x5_L8 + (-1))), (4, .int x4_L8), (0, .ref a0), (1, .int p1), (2, .int p2), (3, .int p3)]) hx hb dX5_get_28 hl (k := 0) rfl rfl (by decide) rfl (fun ls hl => ?_)
          refine lv_goto (tgt := 8) hx hb dX5_get_31 (by decide) ?_
          exact ih (x5_L8 + (-1)) x4_L8 _ hf _ _ _ hP hD hS (lv_sub hl [0, 1, 2, 3, 4, 5] rfl) kx
        · have hf := kit c_21 hf
          refine lv_iload hx hb dX5_get_24 (lv_at hl 0 rfl) ?_
          refine lv_istore (lv' := [(4, .int x5_L8), (5, .int x5_L8), (0, .ref a0), (1, .int p1), (2, .int p2), (3, .int p3)]) hx hb dX5_get_26 hl (by decide) rfl (fun ls hl => ?_)
          refine lv_iinc (v := (x5_L8 + (-1))) (lv' := [(5, .int (x5_L8 + (-1))), (4, .int x5_L8), (0, .ref a0), (1, .int p1), (2, .int p2), (3, .int p3)]) hx hb dX5_get_28 hl (k := 1) rfl rfl (by decide) rfl (fun ls hl => ?_)
          refine lv_goto (tgt := 8) hx hb dX5_get_31 (by decide) ?_
          exact ih (x5_L8 + (-1)) x5_L8 _ hf _ _ _ hP hD hS (lv_sub hl [0, 1, 2, 3, 4, 5] rfl) kx
  obtain ⟨v8, hf8, hf⟩ := kbd hf
  refine L8 4000 (p3 - 1) (-1) v8 hf8 _ _ _ hP hD hS (lv_sub hl [0, 1, 2, 3, 4, 5] rfl) (fun H locs ls hP hD hS hl => ?_)
  refine lv_iload hx hb dX5_get_34 (lv_at hl 0 rfl) ?_
  refine lv_iconst (v := (-1)) hx hb dX5_get_36 (by decide) ?_
  refine lv_icmp_eq (tgt := 43) hx hb dX5_get_37 (by decide) (fun c_37 => ?_) (fun c_37 => ?_)
  · have hf := kit c_37 hf
    refine lv_iconst (v := 0) hx hb dX5_get_43 (by decide) ?_
    refine lv_istore (lv' := [(5, .int 0), (4, .int v8), (0, .ref a0), (1, .int p1), (2, .int p2), (3, .int p3)]) hx hb dX5_get_44 hl (by decide) rfl (fun ls hl => ?_)
    have L46 : ∀ (n : Nat) (x5_L46 : Int32) (x4_L46 : Int32) (o9 : Int32) (_ : f_X5_get_L46 w_size w_kinds w_as w_bs w_areCounted w_slotOf w_heldBy p1 p2 p3 n x5_L46 x4_L46 = some o9) (H : Heap) (locs : List Loc) (ls : Array Slot), va_P D vwCl (PX5 a0 a1 a2 a3 a4 a5 a6 a7 a8 a9 a10 a11 a12 cyI cyZ w_thrown w_size w_kinds w_as w_bs w_registers w_isMade w_steps w_stepParts w_pieces w_pieceParts w_slots w_areCounted w_registerOf w_slotOf w_pieceOf w_heldBy w_isSlotTaken w_outputs w_output) H → va_D A (PX5 a0 a1 a2 a3 a4 a5 a6 a7 a8 a9 a10 a11 a12 cyI cyZ w_thrown w_size w_kinds w_as w_bs w_registers w_isMade w_steps w_stepParts w_pieces w_pieceParts w_slots w_areCounted w_registerOf w_slotOf w_pieceOf w_heldBy w_isSlotTaken w_outputs w_output) → va_S A s.heap H locs → lv_has ls 7 [(5, .int x5_L46), (4, .int x4_L46), (0, .ref a0), (1, .int p1), (2, .int p2), (3, .int p3)] → (∀ (H : Heap) (locs : List Loc) (ls : Array Slot), va_P D vwCl (PX5 a0 a1 a2 a3 a4 a5 a6 a7 a8 a9 a10 a11 a12 cyI cyZ w_thrown w_size w_kinds w_as w_bs w_registers w_isMade w_steps w_stepParts w_pieces w_pieceParts w_slots w_areCounted w_registerOf w_slotOf w_pieceOf w_heldBy w_isSlotTaken w_outputs w_output) H → va_D A (PX5 a0 a1 a2 a3 a4 a5 a6 a7 a8 a9 a10 a11 a12 cyI cyZ w_thrown w_size w_kinds w_as w_bs w_registers w_isMade w_steps w_stepParts w_pieces w_pieceParts w_slots w_areCounted w_registerOf w_slotOf w_pieceOf w_heldBy w_isSlotTaken w_outputs w_output) → va_S A s.heap H locs → lv_has ls 7 [(4, .int o9), (0, .ref a0)] → W p l e rmX5_get s m args below meth c H locs 0 0 Z (F0 m 112 ls [])) → W p l e rmX5_get s m args below meth c H locs 0 0 Z (F0 m 46 ls []) := by
      intro n
      induction n with
      | zero =>
        intro x5_L46 x4_L46 o9 hf
        rw [f_X5_get_L46] at hf
        cases hf
      | succ n ih =>
        intro x5_L46 x4_L46 o9 hf H locs ls hP hD hS hl kx
        rw [f_X5_get_L46] at hf
        refine lv_iload hx hb dX5_get_46 (lv_at hl 0 rfl) ?_
        refine lv_iload_n hx hb dX5_get_48 rfl (lv_at hl 5 rfl) ?_
        refine lv_icmp_ge (tgt := 112) hx hb dX5_get_49 (by decide) (fun c_49 => ?_) (fun c_49 => ?_)
        · have hf := kit c_49 hf
          obtain rfl := Option.some.inj hf
          exact kx _ _ _ hP hD hS (lv_sub hl [1, 2] rfl)
        · have hf := kif c_49 hf
          refine lv_iload_n hx hb dX5_get_52 rfl (lv_at hl 4 rfl) ?_
          refine lv_if_eq (tgt := 74) hx hb dX5_get_53 (by decide) (fun c_53 => ?_) (fun c_53 => ?_)
          · have hf := kit c_53 hf
            refine lv_iload hx hb dX5_get_74 (lv_at hl 1 rfl) ?_
            refine lv_iconst (v := (-1)) hx hb dX5_get_76 (by decide) ?_
            refine lv_icmp_eq (tgt := 102) hx hb dX5_get_77 (by decide) (fun c_77 => ?_) (fun c_77 => ?_)
            · have hf := kit c_77 hf
              refine lv_iload hx hb dX5_get_102 (lv_at hl 0 rfl) ?_
              refine lv_istore (lv' := [(4, .int x5_L46), (5, .int x5_L46), (0, .ref a0), (1, .int p1), (2, .int p2), (3, .int p3)]) hx hb dX5_get_104 hl (by decide) rfl (fun ls hl => ?_)
              refine lv_iinc (v := (x5_L46 + 1)) (lv' := [(5, .int (x5_L46 + 1)), (4, .int x5_L46), (0, .ref a0), (1, .int p1), (2, .int p2), (3, .int p3)]) hx hb dX5_get_106 hl (k := 1) rfl rfl (by decide) rfl (fun ls hl => ?_)
              refine lv_goto (tgt := 46) hx hb dX5_get_109 (by decide) ?_
              exact ih (x5_L46 + 1) x5_L46 _ hf _ _ _ hP hD hS (lv_sub hl [0, 1, 2, 3, 4, 5] rfl) kx
            · have hf := kif c_77 hf
              refine lv_aload_n hx hb dX5_get_80 rfl (lv_at hl 2 rfl) ?_
              refine lv_aload_n hx hb dX5_get_81 rfl (lv_at hl 2 rfl) ?_
              refine va_get (D := D) (ci := 5) (v := .ref a10) (C := RX5) (T := TX5) (N := 20) hx hb hts i_X5 hown hK hP 0 rfl rfl 16 (by decide) k42 (fun _ h9 => h9) rfl dX5_get_82 ?_
              refine lv_iload hx hb dX5_get_85 (lv_at hl 0 rfl) ?_
              obtain ⟨h_87, hf⟩ := rdc_some hf
              refine va_iald hx hb hK hP 10 0 rfl rfl h_87 dX5_get_87 ?_
              refine lv_aload_n hx hb dX5_get_88 rfl (lv_at hl 2 rfl) ?_
              refine va_get (D := D) (ci := 5) (v := .ref a10) (C := RX5) (T := TX5) (N := 20) hx hb hts i_X5 hown hK hP 0 rfl rfl 16 (by decide) k42 (fun _ h9 => h9) rfl dX5_get_89 ?_
              refine lv_iload hx hb dX5_get_92 (lv_at hl 1 rfl) ?_
              obtain ⟨h_94, hf⟩ := rdc_some hf
              refine va_iald hx hb hK hP 10 0 rfl rfl h_94 dX5_get_94 ?_
              refine lv_iload_n hx hb dX5_get_95 rfl (lv_at hl 3 rfl) ?_
              obtain ⟨u96, hf96, hf⟩ := kbd hf
              refine kc_Vi (As := [.int (w_heldBy x5_L46.toNatClampNeg), .int (w_heldBy x4_L46.toNatClampNeg), .int p1]) (rest := []) (wf := (PX5 a0 a1 a2 a3 a4 a5 a6 a7 a8 a9 a10 a11 a12 cyI cyZ w_thrown w_size w_kinds w_as w_bs w_registers w_isMade w_steps w_stepParts w_pieces w_pieceParts w_slots w_areCounted w_registerOf w_slotOf w_pieceOf w_heldBy w_isSlotTaken w_outputs w_output)) (c_X5_isBefore l D cyI cyZ a0 a1 a2 a3 a4 a5 a6 a7 a8 a9 a10 a11 a12 w_thrown w_size w_kinds w_as w_bs w_registers w_isMade w_steps w_stepParts w_pieces w_pieceParts w_slots w_areCounted w_registerOf w_slotOf w_pieceOf w_heldBy w_isSlotTaken w_outputs w_output (w_heldBy x5_L46.toNatClampNeg) (w_heldBy x4_L46.toNatClampNeg) p1 u96 hf96) ⟨hx, hb, hml, hown, hts⟩ (cwV 3 hts gX5_get_X5_isBefore rfl rfl rfl (by decide +kernel) ⟨Nat.le_of_ble_eq_true rfl, Nat.le_of_ble_eq_true rfl⟩) hK hP hD hS hA [0, 1, 2, 3, 4, 5, 6, 7, 8, 9, 10, 11, 12] [] 13 rfl rfl kR0 rfl (by decide +kernel) rfl rfl rfl rfl hl.1 rfl (Nat.le_of_ble_eq_true rfl) dX5_get_96 ⟨Nat.le_of_ble_eq_true rfl, Nat.le_of_ble_eq_true rfl⟩ (fun H locs hP hD hS => ?_)
              refine lv_if_eq (tgt := 106) hx hb dX5_get_99 (by decide) (fun c_99 => ?_) (fun c_99 => ?_)
              · have hf := kit c_99 hf
                refine lv_iinc (v := (x5_L46 + 1)) (lv' := [(5, .int (x5_L46 + 1)), (4, .int x4_L46), (0, .ref a0), (1, .int p1), (2, .int p2), (3, .int p3)]) hx hb dX5_get_106 hl (k := 0) rfl rfl (by decide) rfl (fun ls hl => ?_)
                refine lv_goto (tgt := 46) hx hb dX5_get_109 (by decide) ?_
                exact ih (x5_L46 + 1) x4_L46 _ hf _ _ _ hP hD hS (lv_sub hl [0, 1, 2, 3, 4, 5] rfl) kx
              · have hf := kif c_99 hf
                refine lv_iload hx hb dX5_get_102 (lv_at hl 0 rfl) ?_
                refine lv_istore (lv' := [(4, .int x5_L46), (5, .int x5_L46), (0, .ref a0), (1, .int p1), (2, .int p2), (3, .int p3)]) hx hb dX5_get_104 hl (by decide) rfl (fun ls hl => ?_)
                refine lv_iinc (v := (x5_L46 + 1)) (lv' := [(5, .int (x5_L46 + 1)), (4, .int x5_L46), (0, .ref a0), (1, .int p1), (2, .int p2), (3, .int p3)]) hx hb dX5_get_106 hl (k := 1) rfl rfl (by decide) rfl (fun ls hl => ?_)
                refine lv_goto (tgt := 46) hx hb dX5_get_109 (by decide) ?_
                exact ih (x5_L46 + 1) x5_L46 _ hf _ _ _ hP hD hS (lv_sub hl [0, 1, 2, 3, 4, 5] rfl) kx
          · have hf := kif c_53 hf
            refine lv_aload_n hx hb dX5_get_56 rfl (lv_at hl 2 rfl) ?_
            refine lv_iload_n hx hb dX5_get_57 rfl (lv_at hl 3 rfl) ?_
            refine lv_aload_n hx hb dX5_get_58 rfl (lv_at hl 2 rfl) ?_
            refine va_get (D := D) (ci := 5) (v := .ref a10) (C := RX5) (T := TX5) (N := 20) hx hb hts i_X5 hown hK hP 0 rfl rfl 16 (by decide) k42 (fun _ h9 => h9) rfl dX5_get_59 ?_
            refine lv_iload hx hb dX5_get_62 (lv_at hl 0 rfl) ?_
            obtain ⟨h_64, hf⟩ := rdc_some hf
            refine va_iald hx hb hK hP 10 0 rfl rfl h_64 dX5_get_64 ?_
            obtain ⟨u65, hf65, hf⟩ := kbd hf
            refine kc_Vi (As := [.int p1, .int (w_heldBy x5_L46.toNatClampNeg)]) (rest := []) (wf := (PX5 a0 a1 a2 a3 a4 a5 a6 a7 a8 a9 a10 a11 a12 cyI cyZ w_thrown w_size w_kinds w_as w_bs w_registers w_isMade w_steps w_stepParts w_pieces w_pieceParts w_slots w_areCounted w_registerOf w_slotOf w_pieceOf w_heldBy w_isSlotTaken w_outputs w_output)) (c_X5_takes l D cyI cyZ a0 a1 a2 a3 a4 a5 a6 a7 a8 a9 a10 a11 a12 w_thrown w_size w_kinds w_as w_bs w_registers w_isMade w_steps w_stepParts w_pieces w_pieceParts w_slots w_areCounted w_registerOf w_slotOf w_pieceOf w_heldBy w_isSlotTaken w_outputs w_output p1 (w_heldBy x5_L46.toNatClampNeg) u65 hf65) ⟨hx, hb, hml, hown, hts⟩ (cwV 2 hts gX5_get_X5_takes rfl rfl rfl (by decide +kernel) ⟨Nat.le_of_ble_eq_true rfl, Nat.le_of_ble_eq_true rfl⟩) hK hP hD hS hA [0, 1, 2, 3, 4, 5, 6, 7, 8, 9, 10, 11, 12] [] 13 rfl rfl kR0 rfl (by decide +kernel) rfl rfl rfl rfl hl.1 rfl (Nat.le_of_ble_eq_true rfl) dX5_get_65 ⟨Nat.le_of_ble_eq_true rfl, Nat.le_of_ble_eq_true rfl⟩ (fun H locs hP hD hS => ?_)
            refine lv_if_eq (tgt := 74) hx hb dX5_get_68 (by decide) (fun c_68 => ?_) (fun c_68 => ?_)
            · have hf := kit c_68 hf
              refine lv_iload hx hb dX5_get_74 (lv_at hl 1 rfl) ?_
              refine lv_iconst (v := (-1)) hx hb dX5_get_76 (by decide) ?_
              refine lv_icmp_eq (tgt := 102) hx hb dX5_get_77 (by decide) (fun c_77 => ?_) (fun c_77 => ?_)
              · have hf := kit c_77 hf
                refine lv_iload hx hb dX5_get_102 (lv_at hl 0 rfl) ?_
                refine lv_istore (lv' := [(4, .int x5_L46), (5, .int x5_L46), (0, .ref a0), (1, .int p1), (2, .int p2), (3, .int p3)]) hx hb dX5_get_104 hl (by decide) rfl (fun ls hl => ?_)
                refine lv_iinc (v := (x5_L46 + 1)) (lv' := [(5, .int (x5_L46 + 1)), (4, .int x5_L46), (0, .ref a0), (1, .int p1), (2, .int p2), (3, .int p3)]) hx hb dX5_get_106 hl (k := 1) rfl rfl (by decide) rfl (fun ls hl => ?_)
                refine lv_goto (tgt := 46) hx hb dX5_get_109 (by decide) ?_
                exact ih (x5_L46 + 1) x5_L46 _ hf _ _ _ hP hD hS (lv_sub hl [0, 1, 2, 3, 4, 5] rfl) kx
              · have hf := kif c_77 hf
                refine lv_aload_n hx hb dX5_get_80 rfl (lv_at hl 2 rfl) ?_
                refine lv_aload_n hx hb dX5_get_81 rfl (lv_at hl 2 rfl) ?_
                refine va_get (D := D) (ci := 5) (v := .ref a10) (C := RX5) (T := TX5) (N := 20) hx hb hts i_X5 hown hK hP 0 rfl rfl 16 (by decide) k42 (fun _ h9 => h9) rfl dX5_get_82 ?_
                refine lv_iload hx hb dX5_get_85 (lv_at hl 0 rfl) ?_
                obtain ⟨h_87, hf⟩ := rdc_some hf
                refine va_iald hx hb hK hP 10 0 rfl rfl h_87 dX5_get_87 ?_
                refine lv_aload_n hx hb dX5_get_88 rfl (lv_at hl 2 rfl) ?_
                refine va_get (D := D) (ci := 5) (v := .ref a10) (C := RX5) (T := TX5) (N := 20) hx hb hts i_X5 hown hK hP 0 rfl rfl 16 (by decide) k42 (fun _ h9 => h9) rfl dX5_get_89 ?_
                refine lv_iload hx hb dX5_get_92 (lv_at hl 1 rfl) ?_
                obtain ⟨h_94, hf⟩ := rdc_some hf
                refine va_iald hx hb hK hP 10 0 rfl rfl h_94 dX5_get_94 ?_
                refine lv_iload_n hx hb dX5_get_95 rfl (lv_at hl 3 rfl) ?_
                obtain ⟨u96, hf96, hf⟩ := kbd hf
                refine kc_Vi (As := [.int (w_heldBy x5_L46.toNatClampNeg), .int (w_heldBy x4_L46.toNatClampNeg), .int p1]) (rest := []) (wf := (PX5 a0 a1 a2 a3 a4 a5 a6 a7 a8 a9 a10 a11 a12 cyI cyZ w_thrown w_size w_kinds w_as w_bs w_registers w_isMade w_steps w_stepParts w_pieces w_pieceParts w_slots w_areCounted w_registerOf w_slotOf w_pieceOf w_heldBy w_isSlotTaken w_outputs w_output)) (c_X5_isBefore l D cyI cyZ a0 a1 a2 a3 a4 a5 a6 a7 a8 a9 a10 a11 a12 w_thrown w_size w_kinds w_as w_bs w_registers w_isMade w_steps w_stepParts w_pieces w_pieceParts w_slots w_areCounted w_registerOf w_slotOf w_pieceOf w_heldBy w_isSlotTaken w_outputs w_output (w_heldBy x5_L46.toNatClampNeg) (w_heldBy x4_L46.toNatClampNeg) p1 u96 hf96) ⟨hx, hb, hml, hown, hts⟩ (cwV 3 hts gX5_get_X5_isBefore rfl rfl rfl (by decide +kernel) ⟨Nat.le_of_ble_eq_true rfl, Nat.le_of_ble_eq_true rfl⟩) hK hP hD hS hA [0, 1, 2, 3, 4, 5, 6, 7, 8, 9, 10, 11, 12] [] 13 rfl rfl kR0 rfl (by decide +kernel) rfl rfl rfl rfl hl.1 rfl (Nat.le_of_ble_eq_true rfl) dX5_get_96 ⟨Nat.le_of_ble_eq_true rfl, Nat.le_of_ble_eq_true rfl⟩ (fun H locs hP hD hS => ?_)
                refine lv_if_eq (tgt := 106) hx hb dX5_get_99 (by decide) (fun c_99 => ?_) (fun c_99 => ?_)
                · have hf := kit c_99 hf
                  refine lv_iinc (v := (x5_L46 + 1)) (lv' := [(5, .int (x5_L46 + 1)), (4, .int x4_L46), (0, .ref a0), (1, .int p1), (2, .int p2), (3, .int p3)]) hx hb dX5_get_106 hl (k := 0) rfl rfl (by decide) rfl (fun ls hl => ?_)
                  refine lv_goto (tgt := 46) hx hb dX5_get_109 (by decide) ?_
                  exact ih (x5_L46 + 1) x4_L46 _ hf _ _ _ hP hD hS (lv_sub hl [0, 1, 2, 3, 4, 5] rfl) kx
                · have hf := kif c_99 hf
                  refine lv_iload hx hb dX5_get_102 (lv_at hl 0 rfl) ?_
                  refine lv_istore (lv' := [(4, .int x5_L46), (5, .int x5_L46), (0, .ref a0), (1, .int p1), (2, .int p2), (3, .int p3)]) hx hb dX5_get_104 hl (by decide) rfl (fun ls hl => ?_)
                  refine lv_iinc (v := (x5_L46 + 1)) (lv' := [(5, .int (x5_L46 + 1)), (4, .int x5_L46), (0, .ref a0), (1, .int p1), (2, .int p2), (3, .int p3)]) hx hb dX5_get_106 hl (k := 1) rfl rfl (by decide) rfl (fun ls hl => ?_)
                  refine lv_goto (tgt := 46) hx hb dX5_get_109 (by decide) ?_
                  exact ih (x5_L46 + 1) x5_L46 _ hf _ _ _ hP hD hS (lv_sub hl [0, 1, 2, 3, 4, 5] rfl) kx
            · have hf := kif c_68 hf
              refine lv_goto (tgt := 106) hx hb dX5_get_71 (by decide) ?_
              refine lv_iinc (v := (x5_L46 + 1)) (lv' := [(5, .int (x5_L46 + 1)), (4, .int x4_L46), (0, .ref a0), (1, .int p1), (2, .int p2), (3, .int p3)]) hx hb dX5_get_106 hl (k := 0) rfl rfl (by decide) rfl (fun ls hl => ?_)
              refine lv_goto (tgt := 46) hx hb dX5_get_109 (by decide) ?_
              exact ih (x5_L46 + 1) x4_L46 _ hf _ _ _ hP hD hS (lv_sub hl [0, 1, 2, 3, 4, 5] rfl) kx
    obtain ⟨v46, hf46, hf⟩ := kbd hf
    refine L46 4000 0 v8 v46 hf46 _ _ _ hP hD hS (lv_sub hl [0, 1, 2, 3, 4, 5] rfl) (fun H locs ls hP hD hS hl => ?_)
    refine lv_aload_n hx hb dX5_get_112 rfl (lv_at hl 1 rfl) ?_
    refine va_get (D := D) (ci := 5) (v := .ref a10) (C := RX5) (T := TX5) (N := 20) hx hb hts i_X5 hown hK hP 0 rfl rfl 16 (by decide) k42 (fun _ h9 => h9) rfl dX5_get_113 ?_
    refine lv_iload hx hb dX5_get_116 (lv_at hl 0 rfl) ?_
    obtain ⟨h_118, hf⟩ := rdc_some hf
    refine va_iald hx hb hK hP 10 0 rfl rfl h_118 dX5_get_118 ?_
    refine lv_istore (lv' := [(5, .int (w_heldBy v46.toNatClampNeg)), (4, .int v46), (0, .ref a0)]) hx hb dX5_get_119 hl (by decide) rfl (fun ls hl => ?_)
    refine lv_aload_n hx hb dX5_get_121 rfl (lv_at hl 2 rfl) ?_
    refine va_get (D := D) (ci := 5) (v := .ref a1) (C := RX5) (T := TX5) (N := 20) hx hb hts i_X5 hown hK hP 0 rfl rfl 2 (by decide) k9 (fun _ h9 => h9) rfl dX5_get_122 ?_
    refine lv_iload hx hb dX5_get_125 (lv_at hl 0 rfl) ?_
    obtain ⟨h_127, hf⟩ := rdc_some hf
    refine va_iald hx hb hK hP 1 0 rfl rfl h_127 dX5_get_127 ?_
    refine lv_if_eq (tgt := 210) hx hb dX5_get_128 (by decide) (fun c_128 => ?_) (fun c_128 => ?_)
    · have hf := kit c_128 hf
      refine lv_aload_n hx hb dX5_get_210 rfl (lv_at hl 2 rfl) ?_
      refine lv_iload hx hb dX5_get_211 (lv_at hl 0 rfl) ?_
      obtain ⟨⟨u213_0, u213_1⟩, hf213, hf⟩ := kbd hf
      try dsimp only at hf
      refine kc_Vv (As := [.int (w_heldBy v46.toNatClampNeg)]) (rest := []) (wf := (PX5 a0 a1 a2 a3 a4 a5 a6 a7 a8 a9 a10 a11 a12 cyI cyZ w_thrown w_size w_kinds w_as w_bs w_registers w_isMade w_steps w_stepParts w_pieces w_pieceParts w_slots w_areCounted u213_0 w_slotOf w_pieceOf u213_1 w_isSlotTaken w_outputs w_output)) (c_X5_leave l D cyI cyZ a0 a1 a2 a3 a4 a5 a6 a7 a8 a9 a10 a11 a12 w_thrown w_size w_kinds w_as w_bs w_registers w_isMade w_steps w_stepParts w_pieces w_pieceParts w_slots w_areCounted w_registerOf w_slotOf w_pieceOf w_heldBy w_isSlotTaken w_outputs w_output (w_heldBy v46.toNatClampNeg) (u213_0, u213_1) hf213) ⟨hx, hb, hml, hown, hts⟩ (cwV 1 hts gX5_get_X5_leave rfl rfl rfl (by decide +kernel) ⟨Nat.le_of_ble_eq_true rfl, Nat.le_of_ble_eq_true rfl⟩) hK hP hD hS hA [0, 1, 2, 3, 4, 5, 6, 7, 8, 9, 10, 11, 12] [] 13 rfl rfl kR0 rfl (by decide +kernel) rfl rfl rfl rfl hl.1 rfl (Nat.le_of_ble_eq_true rfl) dX5_get_213 ⟨Nat.le_of_ble_eq_true rfl, Nat.le_of_ble_eq_true rfl⟩ (fun H locs hP hD hS => ?_)
      refine lv_iload hx hb dX5_get_216 (lv_at hl 1 rfl) ?_
      obtain rfl := Option.some.inj hf
      exact ret _ _ _ _ dX5_get_218 rfl hP hD hS
    · have hf := kif c_128 hf
      refine lv_aload_n hx hb dX5_get_131 rfl (lv_at hl 2 rfl) ?_
      refine va_get (D := D) (ci := 5) (v := .ref a8) (C := RX5) (T := TX5) (N := 20) hx hb hts i_X5 hown hK hP 0 rfl rfl 14 (by decide) k36 (fun _ h9 => h9) rfl dX5_get_132 ?_
      refine lv_iload hx hb dX5_get_135 (lv_at hl 0 rfl) ?_
      obtain ⟨h_137, hf⟩ := rdc_some hf
      refine va_iald hx hb hK hP 8 0 rfl rfl h_137 dX5_get_137 ?_
      refine lv_iconst (v := (-1)) hx hb dX5_get_138 (by decide) ?_
      refine lv_icmp_ne (tgt := 210) hx hb dX5_get_139 (by decide) (fun c_139 => ?_) (fun c_139 => ?_)
      · have hf := kif c_139 hf
        refine lv_aload_n hx hb dX5_get_210 rfl (lv_at hl 2 rfl) ?_
        refine lv_iload hx hb dX5_get_211 (lv_at hl 0 rfl) ?_
        obtain ⟨⟨u213_0, u213_1⟩, hf213, hf⟩ := kbd hf
        try dsimp only at hf
        refine kc_Vv (As := [.int (w_heldBy v46.toNatClampNeg)]) (rest := []) (wf := (PX5 a0 a1 a2 a3 a4 a5 a6 a7 a8 a9 a10 a11 a12 cyI cyZ w_thrown w_size w_kinds w_as w_bs w_registers w_isMade w_steps w_stepParts w_pieces w_pieceParts w_slots w_areCounted u213_0 w_slotOf w_pieceOf u213_1 w_isSlotTaken w_outputs w_output)) (c_X5_leave l D cyI cyZ a0 a1 a2 a3 a4 a5 a6 a7 a8 a9 a10 a11 a12 w_thrown w_size w_kinds w_as w_bs w_registers w_isMade w_steps w_stepParts w_pieces w_pieceParts w_slots w_areCounted w_registerOf w_slotOf w_pieceOf w_heldBy w_isSlotTaken w_outputs w_output (w_heldBy v46.toNatClampNeg) (u213_0, u213_1) hf213) ⟨hx, hb, hml, hown, hts⟩ (cwV 1 hts gX5_get_X5_leave rfl rfl rfl (by decide +kernel) ⟨Nat.le_of_ble_eq_true rfl, Nat.le_of_ble_eq_true rfl⟩) hK hP hD hS hA [0, 1, 2, 3, 4, 5, 6, 7, 8, 9, 10, 11, 12] [] 13 rfl rfl kR0 rfl (by decide +kernel) rfl rfl rfl rfl hl.1 rfl (Nat.le_of_ble_eq_true rfl) dX5_get_213 ⟨Nat.le_of_ble_eq_true rfl, Nat.le_of_ble_eq_true rfl⟩ (fun H locs hP hD hS => ?_)
        refine lv_iload hx hb dX5_get_216 (lv_at hl 1 rfl) ?_
        obtain rfl := Option.some.inj hf
        exact ret _ _ _ _ dX5_get_218 rfl hP hD hS
      · have hf := kit c_139 hf
        refine lv_iconst (v := 0) hx hb dX5_get_142 (by decide) ?_
        refine lv_istore (lv' := [(6, .int 0), (5, .int (w_heldBy v46.toNatClampNeg)), (4, .int v46), (0, .ref a0)]) hx hb dX5_get_143 hl (by decide) rfl (fun ls hl => ?_)
        have L145 : ∀ (n : Nat) (x6_L145 : Int32) (o9 : Int32) (_ : f_X5_get_L145 w_isSlotTaken n x6_L145 = some o9) (H : Heap) (locs : List Loc) (ls : Array Slot), va_P D vwCl (PX5 a0 a1 a2 a3 a4 a5 a6 a7 a8 a9 a10 a11 a12 cyI cyZ w_thrown w_size w_kinds w_as w_bs w_registers w_isMade w_steps w_stepParts w_pieces w_pieceParts w_slots w_areCounted w_registerOf w_slotOf w_pieceOf w_heldBy w_isSlotTaken w_outputs w_output) H → va_D A (PX5 a0 a1 a2 a3 a4 a5 a6 a7 a8 a9 a10 a11 a12 cyI cyZ w_thrown w_size w_kinds w_as w_bs w_registers w_isMade w_steps w_stepParts w_pieces w_pieceParts w_slots w_areCounted w_registerOf w_slotOf w_pieceOf w_heldBy w_isSlotTaken w_outputs w_output) → va_S A s.heap H locs → lv_has ls 7 [(6, .int x6_L145), (5, .int (w_heldBy v46.toNatClampNeg)), (4, .int v46), (0, .ref a0)] → (∀ (H : Heap) (locs : List Loc) (ls : Array Slot), va_P D vwCl (PX5 a0 a1 a2 a3 a4 a5 a6 a7 a8 a9 a10 a11 a12 cyI cyZ w_thrown w_size w_kinds w_as w_bs w_registers w_isMade w_steps w_stepParts w_pieces w_pieceParts w_slots w_areCounted w_registerOf w_slotOf w_pieceOf w_heldBy w_isSlotTaken w_outputs w_output) H → va_D A (PX5 a0 a1 a2 a3 a4 a5 a6 a7 a8 a9 a10 a11 a12 cyI cyZ w_thrown w_size w_kinds w_as w_bs w_registers w_isMade w_steps w_stepParts w_pieces w_pieceParts w_slots w_areCounted w_registerOf w_slotOf w_pieceOf w_heldBy w_isSlotTaken w_outputs w_output) → va_S A s.heap H locs → lv_has ls 7 [(6, .int o9), (5, .int (w_heldBy v46.toNatClampNeg)), (4, .int v46), (0, .ref a0)] → W p l e rmX5_get s m args below meth c H locs 0 0 Z (F0 m 161 ls [])) → W p l e rmX5_get s m args below meth c H locs 0 0 Z (F0 m 145 ls []) := by
          intro n
          induction n with
          | zero =>
            intro x6_L145 o9 hf
            rw [f_X5_get_L145] at hf
            cases hf
          | succ n ih =>
            intro x6_L145 o9 hf H locs ls hP hD hS hl kx
            rw [f_X5_get_L145] at hf
            refine lv_aload_n hx hb dX5_get_145 rfl (lv_at hl 3 rfl) ?_
            refine va_get (D := D) (ci := 5) (v := .ref a11) (C := RX5) (T := TX5) (N := 20) hx hb hts i_X5 hown hK hP 0 rfl rfl 17 (by decide) k45 (fun _ h9 => h9) rfl dX5_get_146 ?_
            refine lv_iload hx hb dX5_get_149 (lv_at hl 0 rfl) ?_
            obtain ⟨h_151, hf⟩ := rdc_some hf
            refine va_zald hx hb hK hP 11 1 rfl rfl h_151 dX5_get_151 ?_
            refine lv_if_eq (tgt := 161) hx hb dX5_get_152 (by decide) (fun c_152 => ?_) (fun c_152 => ?_)
            · have hf := kit c_152 hf
              obtain rfl := Option.some.inj hf
              exact kx _ _ _ hP hD hS (lv_sub hl [0, 1, 2, 3] rfl)
            · have hf := kif c_152 hf
              refine lv_iinc (v := (x6_L145 + 1)) (lv' := [(6, .int (x6_L145 + 1)), (5, .int (w_heldBy v46.toNatClampNeg)), (4, .int v46), (0, .ref a0)]) hx hb dX5_get_155 hl (k := 0) rfl rfl (by decide) rfl (fun ls hl => ?_)
              refine lv_goto (tgt := 145) hx hb dX5_get_158 (by decide) ?_
              exact ih (x6_L145 + 1) _ hf _ _ _ hP hD hS (lv_sub hl [0, 1, 2, 3] rfl) kx
        obtain ⟨v145, hf145, hf⟩ := kbd hf
        refine L145 4000 0 v145 hf145 _ _ _ hP hD hS (lv_sub hl [0, 1, 2, 3] rfl) (fun H locs ls hP hD hS hl => ?_)
        refine lv_aload_n hx hb dX5_get_161 rfl (lv_at hl 3 rfl) ?_
        refine va_get (D := D) (ci := 5) (v := .ref a11) (C := RX5) (T := TX5) (N := 20) hx hb hts i_X5 hown hK hP 0 rfl rfl 17 (by decide) k45 (fun _ h9 => h9) rfl dX5_get_162 ?_
        refine lv_iload hx hb dX5_get_165 (lv_at hl 0 rfl) ?_
        refine lv_iconst (v := 1) hx hb dX5_get_167 (by decide) ?_
        obtain ⟨h_168, hf⟩ := rdc_some hf
        refine kc_zast hx hb hK hP hD hS 11 1 rfl rfl knar1 h_168 dX5_get_168 (fun H locs hP hD hS => ?_)
        have hP : va_P D vwCl (PX5 a0 a1 a2 a3 a4 a5 a6 a7 a8 a9 a10 a11 a12 cyI cyZ w_thrown w_size w_kinds w_as w_bs w_registers w_isMade w_steps w_stepParts w_pieces w_pieceParts w_slots w_areCounted w_registerOf w_slotOf w_pieceOf w_heldBy (upd w_isSlotTaken v145.toNatClampNeg 1) w_outputs w_output) H := hP
        have hD : va_D A (PX5 a0 a1 a2 a3 a4 a5 a6 a7 a8 a9 a10 a11 a12 cyI cyZ w_thrown w_size w_kinds w_as w_bs w_registers w_isMade w_steps w_stepParts w_pieces w_pieceParts w_slots w_areCounted w_registerOf w_slotOf w_pieceOf w_heldBy (upd w_isSlotTaken v145.toNatClampNeg 1) w_outputs w_output) := hD
        refine lv_aload_n hx hb dX5_get_169 rfl (lv_at hl 3 rfl) ?_
        refine va_get (D := D) (ci := 5) (v := .ref a8) (C := RX5) (T := TX5) (N := 20) hx hb hts i_X5 hown hK hP 0 rfl rfl 14 (by decide) k36 (fun _ h9 => h9) rfl dX5_get_170 ?_
        refine lv_iload hx hb dX5_get_173 (lv_at hl 1 rfl) ?_
        refine lv_iload hx hb dX5_get_175 (lv_at hl 0 rfl) ?_
        obtain ⟨h_177, hf⟩ := rdc_some hf
        refine va_iast hx hb hK hP hD hS 8 0 rfl rfl h_177 dX5_get_177 (fun H locs hP hD hS => ?_)
        have hP : va_P D vwCl (PX5 a0 a1 a2 a3 a4 a5 a6 a7 a8 a9 a10 a11 a12 cyI cyZ w_thrown w_size w_kinds w_as w_bs w_registers w_isMade w_steps w_stepParts w_pieces w_pieceParts w_slots w_areCounted w_registerOf (upd w_slotOf (w_heldBy v46.toNatClampNeg).toNatClampNeg v145) w_pieceOf w_heldBy (upd w_isSlotTaken v145.toNatClampNeg 1) w_outputs w_output) H := hP
        have hD : va_D A (PX5 a0 a1 a2 a3 a4 a5 a6 a7 a8 a9 a10 a11 a12 cyI cyZ w_thrown w_size w_kinds w_as w_bs w_registers w_isMade w_steps w_stepParts w_pieces w_pieceParts w_slots w_areCounted w_registerOf (upd w_slotOf (w_heldBy v46.toNatClampNeg).toNatClampNeg v145) w_pieceOf w_heldBy (upd w_isSlotTaken v145.toNatClampNeg 1) w_outputs w_output) := hD
        refine lv_aload_n hx hb dX5_get_178 rfl (lv_at hl 3 rfl) ?_
        refine lv_aload_n hx hb dX5_get_179 rfl (lv_at hl 3 rfl) ?_
        refine va_get (D := D) (ci := 5) (v := .int w_slots) (C := RX5) (T := TX5) (N := 20) hx hb hts i_X5 hown hK hP 0 rfl rfl 11 (by decide) k102 (fun _ h9 => h9) rfl dX5_get_180 ?_
        refine lv_iload hx hb dX5_get_183 (lv_at hl 0 rfl) ?_
        refine lv_iconst (v := 1) hx hb dX5_get_185 (by decide) ?_
        refine lv_iadd hx hb dX5_get_186 ?_
        refine va_mmax hx hb (hml.trans hl.1.symm) hown km83 kms_max kmi kmc_max (Nat.le_of_ble_eq_true rfl) (Nat.le_of_ble_eq_true rfl) (Nat.le_of_ble_eq_true rfl) (Nat.le_of_ble_eq_true rfl) dX5_get_187 ?_
        refine va_put (D := D) (ci := 5) (v := .int (if w_slots < (v145 + 1) then (v145 + 1) else w_slots)) (ty := .int) (C := RX5) (T := TX5) (N := 20) hx hb hts i_X5 tyX5 tyX5_ok nmX5 hown hK hP hD hS 0 rfl rfl 11 (by decide) k102 (fun _ h9 => h9) rfl (by decide +kernel) rfl (by first | rfl | decide) (Nat.le_of_ble_eq_true rfl) dX5_get_190 (fun H locs hP hD hS => ?_)
        have hP : va_P D vwCl (PX5 a0 a1 a2 a3 a4 a5 a6 a7 a8 a9 a10 a11 a12 cyI cyZ w_thrown w_size w_kinds w_as w_bs w_registers w_isMade w_steps w_stepParts w_pieces w_pieceParts (if w_slots < (v145 + 1) then (v145 + 1) else w_slots) w_areCounted w_registerOf (upd w_slotOf (w_heldBy v46.toNatClampNeg).toNatClampNeg v145) w_pieceOf w_heldBy (upd w_isSlotTaken v145.toNatClampNeg 1) w_outputs w_output) H := hP
        have hD : va_D A (PX5 a0 a1 a2 a3 a4 a5 a6 a7 a8 a9 a10 a11 a12 cyI cyZ w_thrown w_size w_kinds w_as w_bs w_registers w_isMade w_steps w_stepParts w_pieces w_pieceParts (if w_slots < (v145 + 1) then (v145 + 1) else w_slots) w_areCounted w_registerOf (upd w_slotOf (w_heldBy v46.toNatClampNeg).toNatClampNeg v145) w_pieceOf w_heldBy (upd w_isSlotTaken v145.toNatClampNeg 1) w_outputs w_output) := hD
        refine lv_aload_n hx hb dX5_get_193 rfl (lv_at hl 3 rfl) ?_
        refine lv_bipush (v := 8) hx hb dX5_get_194 (by decide) ?_
        refine lv_iload hx hb dX5_get_196 (lv_at hl 2 rfl) ?_
        refine lv_iload hx hb dX5_get_198 (lv_at hl 0 rfl) ?_
        refine lv_iconst (v := (-1)) hx hb dX5_get_200 (by decide) ?_
        obtain ⟨⟨u201_0, u201_1⟩, hf201, hf⟩ := kbd hf
        try dsimp only at hf
        refine kc_Vv (As := [.int 8, .int v46, .int v145, .int (-1)]) (rest := []) (wf := (PX5 a0 a1 a2 a3 a4 a5 a6 a7 a8 a9 a10 a11 a12 cyI cyZ w_thrown w_size w_kinds w_as w_bs w_registers w_isMade u201_0 u201_1 w_pieces w_pieceParts (if w_slots < (v145 + 1) then (v145 + 1) else w_slots) w_areCounted w_registerOf (upd w_slotOf (w_heldBy v46.toNatClampNeg).toNatClampNeg v145) w_pieceOf w_heldBy (upd w_isSlotTaken v145.toNatClampNeg 1) w_outputs w_output)) (c_X5_add l D cyI cyZ a0 a1 a2 a3 a4 a5 a6 a7 a8 a9 a10 a11 a12 w_thrown w_size w_kinds w_as w_bs w_registers w_isMade w_steps w_stepParts w_pieces w_pieceParts (if w_slots < (v145 + 1) then (v145 + 1) else w_slots) w_areCounted w_registerOf (upd w_slotOf (w_heldBy v46.toNatClampNeg).toNatClampNeg v145) w_pieceOf w_heldBy (upd w_isSlotTaken v145.toNatClampNeg 1) w_outputs w_output 8 v46 v145 (-1) (u201_0, u201_1) hf201) ⟨hx, hb, hml, hown, hts⟩ (cwV 4 hts gX5_get_X5_add rfl rfl rfl (by decide +kernel) ⟨Nat.le_of_ble_eq_true rfl, Nat.le_of_ble_eq_true rfl⟩) hK hP hD hS hA [0, 1, 2, 3, 4, 5, 6, 7, 8, 9, 10, 11, 12] [] 13 rfl rfl kR0 rfl (by decide +kernel) rfl rfl rfl rfl hl.1 rfl (Nat.le_of_ble_eq_true rfl) dX5_get_201 ⟨Nat.le_of_ble_eq_true rfl, Nat.le_of_ble_eq_true rfl⟩ (fun H locs hP hD hS => ?_)
        refine lv_aload_n hx hb dX5_get_204 rfl (lv_at hl 3 rfl) ?_
        refine lv_iload hx hb dX5_get_205 (lv_at hl 1 rfl) ?_
        obtain ⟨u207, hf207, hf⟩ := kbd hf
        refine kc_Vv (As := [.int (w_heldBy v46.toNatClampNeg)]) (rest := []) (wf := (PX5 a0 a1 a2 a3 a4 a5 a6 a7 a8 a9 a10 a11 a12 cyI cyZ w_thrown w_size w_kinds w_as w_bs w_registers w_isMade u201_0 u201_1 w_pieces u207 (if w_slots < (v145 + 1) then (v145 + 1) else w_slots) w_areCounted w_registerOf (upd w_slotOf (w_heldBy v46.toNatClampNeg).toNatClampNeg v145) w_pieceOf w_heldBy (upd w_isSlotTaken v145.toNatClampNeg 1) w_outputs w_output)) (c_X5_reads l D cyI cyZ a0 a1 a2 a3 a4 a5 a6 a7 a8 a9 a10 a11 a12 w_thrown w_size w_kinds w_as w_bs w_registers w_isMade u201_0 u201_1 w_pieces w_pieceParts (if w_slots < (v145 + 1) then (v145 + 1) else w_slots) w_areCounted w_registerOf (upd w_slotOf (w_heldBy v46.toNatClampNeg).toNatClampNeg v145) w_pieceOf w_heldBy (upd w_isSlotTaken v145.toNatClampNeg 1) w_outputs w_output (w_heldBy v46.toNatClampNeg) u207 hf207) ⟨hx, hb, hml, hown, hts⟩ (cwV 1 hts gX5_get_X5_reads rfl rfl rfl (by decide +kernel) ⟨Nat.le_of_ble_eq_true rfl, Nat.le_of_ble_eq_true rfl⟩) hK hP hD hS hA [0, 1, 2, 3, 4, 5, 6, 7, 8, 9, 10, 11, 12] [] 13 rfl rfl kR0 rfl (by decide +kernel) rfl rfl rfl rfl hl.1 rfl (Nat.le_of_ble_eq_true rfl) dX5_get_207 ⟨Nat.le_of_ble_eq_true rfl, Nat.le_of_ble_eq_true rfl⟩ (fun H locs hP hD hS => ?_)
        refine lv_aload_n hx hb dX5_get_210 rfl (lv_at hl 3 rfl) ?_
        refine lv_iload hx hb dX5_get_211 (lv_at hl 1 rfl) ?_
        obtain ⟨⟨u213_0, u213_1⟩, hf213, hf⟩ := kbd hf
        try dsimp only at hf
        refine kc_Vv (As := [.int (w_heldBy v46.toNatClampNeg)]) (rest := []) (wf := (PX5 a0 a1 a2 a3 a4 a5 a6 a7 a8 a9 a10 a11 a12 cyI cyZ w_thrown w_size w_kinds w_as w_bs w_registers w_isMade u201_0 u201_1 w_pieces u207 (if w_slots < (v145 + 1) then (v145 + 1) else w_slots) w_areCounted u213_0 (upd w_slotOf (w_heldBy v46.toNatClampNeg).toNatClampNeg v145) w_pieceOf u213_1 (upd w_isSlotTaken v145.toNatClampNeg 1) w_outputs w_output)) (c_X5_leave l D cyI cyZ a0 a1 a2 a3 a4 a5 a6 a7 a8 a9 a10 a11 a12 w_thrown w_size w_kinds w_as w_bs w_registers w_isMade u201_0 u201_1 w_pieces u207 (if w_slots < (v145 + 1) then (v145 + 1) else w_slots) w_areCounted w_registerOf (upd w_slotOf (w_heldBy v46.toNatClampNeg).toNatClampNeg v145) w_pieceOf w_heldBy (upd w_isSlotTaken v145.toNatClampNeg 1) w_outputs w_output (w_heldBy v46.toNatClampNeg) (u213_0, u213_1) hf213) ⟨hx, hb, hml, hown, hts⟩ (cwV 1 hts gX5_get_X5_leave rfl rfl rfl (by decide +kernel) ⟨Nat.le_of_ble_eq_true rfl, Nat.le_of_ble_eq_true rfl⟩) hK hP hD hS hA [0, 1, 2, 3, 4, 5, 6, 7, 8, 9, 10, 11, 12] [] 13 rfl rfl kR0 rfl (by decide +kernel) rfl rfl rfl rfl hl.1 rfl (Nat.le_of_ble_eq_true rfl) dX5_get_213 ⟨Nat.le_of_ble_eq_true rfl, Nat.le_of_ble_eq_true rfl⟩ (fun H locs hP hD hS => ?_)
        refine lv_iload hx hb dX5_get_216 (lv_at hl 2 rfl) ?_
        obtain rfl := Option.some.inj hf
        exact ret _ _ _ _ dX5_get_218 rfl hP hD hS
  · have hf := kif c_37 hf
    refine lv_iload hx hb dX5_get_40 (lv_at hl 0 rfl) ?_
    obtain rfl := Option.some.inj hf
    exact ret _ _ _ _ dX5_get_42 rfl hP hD hS

abbrev rmX5_bring : Room := { frames := 4, cells := 0, slots := 0, locals := 97 }
set_option maxHeartbeats 4000000 in
set_option maxRecDepth 100000 in
theorem c_X5_bring (l : Launch) (D : va_G) (cyI cyZ : ClassId) (a0 a1 a2 a3 a4 a5 a6 a7 a8 a9 a10 a11 a12 : Nat) (w_thrown : Int32) (w_size : Int32) (w_kinds : Nat → Int32) (w_as : Nat → Int32) (w_bs : Nat → Int32) (w_registers : Int32) (w_isMade : Int32) (w_steps : Int32) (w_stepParts : Nat → Int32) (w_pieces : Int32) (w_pieceParts : Nat → Int32) (w_slots : Int32) (w_areCounted : Nat → Int32) (w_registerOf : Nat → Int32) (w_slotOf : Nat → Int32) (w_pieceOf : Nat → Int32) (w_heldBy : Nat → Int32) (w_isSlotTaken : Nat → Int32) (w_outputs : Int32) (w_output : Nat → Int32) (p1 : Int32) (p2 : Int32) (p3 : Int32) (o : Int32 × (Nat → Int32) × Int32 × (Nat → Int32) × Int32 × (Nat → Int32) × (Nat → Int32) × (Nat → Int32) × (Nat → Int32) × (Nat → Int32)) (hf : f_X5_bring p1 p2 p3 w_size w_kinds w_as w_bs w_steps w_stepParts w_pieces w_pieceParts w_slots w_areCounted w_registerOf w_slotOf w_pieceOf w_heldBy w_isSlotTaken = some o) : kMv l yX5_bring wsX5_bring rmX5_bring [.ref a0, .int p1, .int p2, .int p3] D (PX5 a0 a1 a2 a3 a4 a5 a6 a7 a8 a9 a10 a11 a12 cyI cyZ w_thrown w_size w_kinds w_as w_bs w_registers w_isMade w_steps w_stepParts w_pieces w_pieceParts w_slots w_areCounted w_registerOf w_slotOf w_pieceOf w_heldBy w_isSlotTaken w_outputs w_output) (PX5 a0 a1 a2 a3 a4 a5 a6 a7 a8 a9 a10 a11 a12 cyI cyZ w_thrown w_size w_kinds w_as w_bs w_registers w_isMade o.1 o.2.1 o.2.2.1 o.2.2.2.1 o.2.2.2.2.1 w_areCounted o.2.2.2.2.2.1 o.2.2.2.2.2.2.1 o.2.2.2.2.2.2.2.1 o.2.2.2.2.2.2.2.2.1 o.2.2.2.2.2.2.2.2.2 w_outputs w_output) (kT cyI cyZ) 0 0 := by
  refine kOf_v (cc := cX5_bring) (maxL := 5) (by decide +kernel) rfl (Nat.le_of_ble_eq_true rfl) ?_
  intro p e s m args below meth c A Z ls C0 hP hK hD hA hl ret
  obtain ⟨hx, hb, hr, hml, hown, hts, hlocks⟩ := C0
  have hown : s.vm.findClass RX5 = some m.cls := hown
  have hl : lv_has ls 5 [(0, .ref a0), (1, .int p1), (2, .int p2), (3, .int p3)] := hl
  have hS : va_S A s.heap s.heap [] := va_S.rf
  have i_X5 : ∀ w ∈ wsX50, w ∈ wsX5_bring := by decide +kernel
  have k13 := hts (.fieldLink RX5 13 "RegisterAllocatorModel" "as" "[I") (by decide +kernel)
  have k33 := hts (.fieldLink RX5 33 "RegisterAllocatorModel" "registerOf" "[I") (by decide +kernel)
  have k36 := hts (.fieldLink RX5 36 "RegisterAllocatorModel" "slotOf" "[I") (by decide +kernel)
  have k9 := hts (.fieldLink RX5 9 "RegisterAllocatorModel" "kinds" "[I") (by decide +kernel)
  rw [f_X5_bring] at hf
  refine lv_aload_n hx hb dX5_bring_0 rfl (lv_at hl 0 rfl) ?_
  refine va_get (D := D) (ci := 5) (v := .ref a7) (C := RX5) (T := TX5) (N := 20) hx hb hts i_X5 hown hK hP 0 rfl rfl 13 (by decide) k33 (fun _ h9 => h9) rfl dX5_bring_1 ?_
  refine lv_iload_n hx hb dX5_bring_4 rfl (lv_at hl 1 rfl) ?_
  obtain ⟨h_5, hf⟩ := rdc_some hf
  refine va_iald hx hb hK hP 7 0 rfl rfl h_5 dX5_bring_5 ?_
  refine lv_iconst (v := (-1)) hx hb dX5_bring_6 (by decide) ?_
  refine lv_icmp_eq (tgt := 11) hx hb dX5_bring_7 (by decide) (fun c_7 => ?_) (fun c_7 => ?_)
  · have hf := kit c_7 hf
    refine lv_aload_n hx hb dX5_bring_11 rfl (lv_at hl 0 rfl) ?_
    refine lv_iload_n hx hb dX5_bring_12 rfl (lv_at hl 2 rfl) ?_
    refine lv_iconst (v := 1) hx hb dX5_bring_13 (by decide) ?_
    refine lv_iload_n hx hb dX5_bring_14 rfl (lv_at hl 3 rfl) ?_
    obtain ⟨⟨u15_0, u15_1, u15_2, u15_3, u15_4, u15_5, u15_6, u15_7, u15_8⟩, hf15, hf⟩ := kbd hf
    try dsimp only at hf
    refine kc_Vi (As := [.int p2, .int 1, .int p3]) (rest := []) (wf := (PX5 a0 a1 a2 a3 a4 a5 a6 a7 a8 a9 a10 a11 a12 cyI cyZ w_thrown w_size w_kinds w_as w_bs w_registers w_isMade u15_1 u15_2 w_pieces u15_3 u15_4 w_areCounted u15_5 u15_6 w_pieceOf u15_7 u15_8 w_outputs w_output)) (c_X5_get l D cyI cyZ a0 a1 a2 a3 a4 a5 a6 a7 a8 a9 a10 a11 a12 w_thrown w_size w_kinds w_as w_bs w_registers w_isMade w_steps w_stepParts w_pieces w_pieceParts w_slots w_areCounted w_registerOf w_slotOf w_pieceOf w_heldBy w_isSlotTaken w_outputs w_output p2 1 p3 (u15_0, u15_1, u15_2, u15_3, u15_4, u15_5, u15_6, u15_7, u15_8) hf15) ⟨hx, hb, hml, hown, hts⟩ (cwV 3 hts gX5_bring_X5_get rfl rfl rfl (by decide +kernel) ⟨Nat.le_of_ble_eq_true rfl, Nat.le_of_ble_eq_true rfl⟩) hK hP hD hS hA [0, 1, 2, 3, 4, 5, 6, 7, 8, 9, 10, 11, 12] [] 13 rfl rfl kR0 rfl (by decide +kernel) rfl rfl rfl rfl hl.1 rfl (Nat.le_of_ble_eq_true rfl) dX5_bring_15 ⟨Nat.le_of_ble_eq_true rfl, Nat.le_of_ble_eq_true rfl⟩ (fun H locs hP hD hS => ?_)
    refine lv_istore (lv' := [(4, .int u15_0), (0, .ref a0), (1, .int p1), (2, .int p2), (3, .int p3)]) hx hb dX5_bring_18 hl (by decide) rfl (fun ls hl => ?_)
    refine lv_aload_n hx hb dX5_bring_20 rfl (lv_at hl 1 rfl) ?_
    refine va_get (D := D) (ci := 5) (v := .ref a1) (C := RX5) (T := TX5) (N := 20) hx hb hts i_X5 hown hK hP 0 rfl rfl 2 (by decide) k9 (fun _ h9 => h9) rfl dX5_bring_21 ?_
    refine lv_iload_n hx hb dX5_bring_24 rfl (lv_at hl 2 rfl) ?_
    obtain ⟨h_25, hf⟩ := rdc_some hf
    refine va_iald hx hb hK hP 1 0 rfl rfl h_25 dX5_bring_25 ?_
    refine lv_if_ne (tgt := 46) hx hb dX5_bring_26 (by decide) (fun c_26 => ?_) (fun c_26 => ?_)
    · have hf := kif c_26 hf
      refine lv_aload_n hx hb dX5_bring_46 rfl (lv_at hl 1 rfl) ?_
      refine lv_bipush (v := 7) hx hb dX5_bring_47 (by decide) ?_
      refine lv_iload hx hb dX5_bring_49 (lv_at hl 0 rfl) ?_
      refine lv_aload_n hx hb dX5_bring_51 rfl (lv_at hl 1 rfl) ?_
      refine va_get (D := D) (ci := 5) (v := .ref a8) (C := RX5) (T := TX5) (N := 20) hx hb hts i_X5 hown hK hP 0 rfl rfl 14 (by decide) k36 (fun _ h9 => h9) rfl dX5_bring_52 ?_
      refine lv_iload_n hx hb dX5_bring_55 rfl (lv_at hl 2 rfl) ?_
      obtain ⟨h_56, hf⟩ := rdc_some hf
      refine va_iald hx hb hK hP 8 0 rfl rfl h_56 dX5_bring_56 ?_
      refine lv_iconst (v := (-1)) hx hb dX5_bring_57 (by decide) ?_
      obtain ⟨⟨u58_0, u58_1⟩, hf58, hf⟩ := kbd hf
      try dsimp only at hf
      refine kc_Vv (As := [.int 7, .int u15_0, .int (u15_6 p1.toNatClampNeg), .int (-1)]) (rest := []) (wf := (PX5 a0 a1 a2 a3 a4 a5 a6 a7 a8 a9 a10 a11 a12 cyI cyZ w_thrown w_size w_kinds w_as w_bs w_registers w_isMade u58_0 u58_1 w_pieces u15_3 u15_4 w_areCounted u15_5 u15_6 w_pieceOf u15_7 u15_8 w_outputs w_output)) (c_X5_add l D cyI cyZ a0 a1 a2 a3 a4 a5 a6 a7 a8 a9 a10 a11 a12 w_thrown w_size w_kinds w_as w_bs w_registers w_isMade u15_1 u15_2 w_pieces u15_3 u15_4 w_areCounted u15_5 u15_6 w_pieceOf u15_7 u15_8 w_outputs w_output 7 u15_0 (u15_6 p1.toNatClampNeg) (-1) (u58_0, u58_1) hf58) ⟨hx, hb, hml, hown, hts⟩ (cwV 4 hts gX5_bring_X5_add rfl rfl rfl (by decide +kernel) ⟨Nat.le_of_ble_eq_true rfl, Nat.le_of_ble_eq_true rfl⟩) hK hP hD hS hA [0, 1, 2, 3, 4, 5, 6, 7, 8, 9, 10, 11, 12] [] 13 rfl rfl kR0 rfl (by decide +kernel) rfl rfl rfl rfl hl.1 rfl (Nat.le_of_ble_eq_true rfl) dX5_bring_58 ⟨Nat.le_of_ble_eq_true rfl, Nat.le_of_ble_eq_true rfl⟩ (fun H locs hP hD hS => ?_)
      refine lv_aload_n hx hb dX5_bring_61 rfl (lv_at hl 1 rfl) ?_
      refine lv_iload_n hx hb dX5_bring_62 rfl (lv_at hl 2 rfl) ?_
      refine lv_iload hx hb dX5_bring_63 (lv_at hl 0 rfl) ?_
      obtain ⟨⟨u65_0, u65_1, u65_2, u65_3, u65_4⟩, hf65, hf⟩ := kbd hf
      try dsimp only at hf
      refine kc_Vv (As := [.int p1, .int u15_0]) (rest := []) (wf := (PX5 a0 a1 a2 a3 a4 a5 a6 a7 a8 a9 a10 a11 a12 cyI cyZ w_thrown w_size w_kinds w_as w_bs w_registers w_isMade u58_0 u58_1 u65_0 u65_1 u15_4 w_areCounted u65_2 u15_6 u65_3 u65_4 u15_8 w_outputs w_output)) (c_X5_begin l D cyI cyZ a0 a1 a2 a3 a4 a5 a6 a7 a8 a9 a10 a11 a12 w_thrown w_size w_kinds w_as w_bs w_registers w_isMade u58_0 u58_1 w_pieces u15_3 u15_4 w_areCounted u15_5 u15_6 w_pieceOf u15_7 u15_8 w_outputs w_output p1 u15_0 (u65_0, u65_1, u65_2, u65_3, u65_4) hf65) ⟨hx, hb, hml, hown, hts⟩ (cwV 2 hts gX5_bring_X5_begin rfl rfl rfl (by decide +kernel) ⟨Nat.le_of_ble_eq_true rfl, Nat.le_of_ble_eq_true rfl⟩) hK hP hD hS hA [0, 1, 2, 3, 4, 5, 6, 7, 8, 9, 10, 11, 12] [] 13 rfl rfl kR0 rfl (by decide +kernel) rfl rfl rfl rfl hl.1 rfl (Nat.le_of_ble_eq_true rfl) dX5_bring_65 ⟨Nat.le_of_ble_eq_true rfl, Nat.le_of_ble_eq_true rfl⟩ (fun H locs hP hD hS => ?_)
      obtain rfl := Option.some.inj hf
      exact ret _ _ _ _ dX5_bring_68 hP hD hS
    · have hf := kit c_26 hf
      refine lv_aload_n hx hb dX5_bring_29 rfl (lv_at hl 1 rfl) ?_
      refine lv_iconst (v := 0) hx hb dX5_bring_30 (by decide) ?_
      refine lv_iload hx hb dX5_bring_31 (lv_at hl 0 rfl) ?_
      refine lv_aload_n hx hb dX5_bring_33 rfl (lv_at hl 1 rfl) ?_
      refine va_get (D := D) (ci := 5) (v := .ref a2) (C := RX5) (T := TX5) (N := 20) hx hb hts i_X5 hown hK hP 0 rfl rfl 3 (by decide) k13 (fun _ h9 => h9) rfl dX5_bring_34 ?_
      refine lv_iload_n hx hb dX5_bring_37 rfl (lv_at hl 2 rfl) ?_
      obtain ⟨h_38, hf⟩ := rdc_some hf
      refine va_iald hx hb hK hP 2 0 rfl rfl h_38 dX5_bring_38 ?_
      refine lv_iconst (v := (-1)) hx hb dX5_bring_39 (by decide) ?_
      obtain ⟨⟨u40_0, u40_1⟩, hf40, hf⟩ := kbd hf
      try dsimp only at hf
      refine kc_Vv (As := [.int 0, .int u15_0, .int (w_as p1.toNatClampNeg), .int (-1)]) (rest := []) (wf := (PX5 a0 a1 a2 a3 a4 a5 a6 a7 a8 a9 a10 a11 a12 cyI cyZ w_thrown w_size w_kinds w_as w_bs w_registers w_isMade u40_0 u40_1 w_pieces u15_3 u15_4 w_areCounted u15_5 u15_6 w_pieceOf u15_7 u15_8 w_outputs w_output)) (c_X5_add l D cyI cyZ a0 a1 a2 a3 a4 a5 a6 a7 a8 a9 a10 a11 a12 w_thrown w_size w_kinds w_as w_bs w_registers w_isMade u15_1 u15_2 w_pieces u15_3 u15_4 w_areCounted u15_5 u15_6 w_pieceOf u15_7 u15_8 w_outputs w_output 0 u15_0 (w_as p1.toNatClampNeg) (-1) (u40_0, u40_1) hf40) ⟨hx, hb, hml, hown, hts⟩ (cwV 4 hts gX5_bring_X5_add rfl rfl rfl (by decide +kernel) ⟨Nat.le_of_ble_eq_true rfl, Nat.le_of_ble_eq_true rfl⟩) hK hP hD hS hA [0, 1, 2, 3, 4, 5, 6, 7, 8, 9, 10, 11, 12] [] 13 rfl rfl kR0 rfl (by decide +kernel) rfl rfl rfl rfl hl.1 rfl (Nat.le_of_ble_eq_true rfl) dX5_bring_40 ⟨Nat.le_of_ble_eq_true rfl, Nat.le_of_ble_eq_true rfl⟩ (fun H locs hP hD hS => ?_)
      refine lv_goto (tgt := 61) hx hb dX5_bring_43 (by decide) ?_
      refine lv_aload_n hx hb dX5_bring_61 rfl (lv_at hl 1 rfl) ?_
      refine lv_iload_n hx hb dX5_bring_62 rfl (lv_at hl 2 rfl) ?_
      refine lv_iload hx hb dX5_bring_63 (lv_at hl 0 rfl) ?_
      obtain ⟨⟨u65_0, u65_1, u65_2, u65_3, u65_4⟩, hf65, hf⟩ := kbd hf
      try dsimp only at hf
      refine kc_Vv (As := [.int p1, .int u15_0]) (rest := []) (wf := (PX5 a0 a1 a2 a3 a4 a5 a6 a7 a8 a9 a10 a11 a12 cyI cyZ w_thrown w_size w_kinds w_as w_bs w_registers w_isMade u40_0 u40_1 u65_0 u65_1 u15_4 w_areCounted u65_2 u15_6 u65_3 u65_4 u15_8 w_outputs w_output)) (c_X5_begin l D cyI cyZ a0 a1 a2 a3 a4 a5 a6 a7 a8 a9 a10 a11 a12 w_thrown w_size w_kinds w_as w_bs w_registers w_isMade u40_0 u40_1 w_pieces u15_3 u15_4 w_areCounted u15_5 u15_6 w_pieceOf u15_7 u15_8 w_outputs w_output p1 u15_0 (u65_0, u65_1, u65_2, u65_3, u65_4) hf65) ⟨hx, hb, hml, hown, hts⟩ (cwV 2 hts gX5_bring_X5_begin rfl rfl rfl (by decide +kernel) ⟨Nat.le_of_ble_eq_true rfl, Nat.le_of_ble_eq_true rfl⟩) hK hP hD hS hA [0, 1, 2, 3, 4, 5, 6, 7, 8, 9, 10, 11, 12] [] 13 rfl rfl kR0 rfl (by decide +kernel) rfl rfl rfl rfl hl.1 rfl (Nat.le_of_ble_eq_true rfl) dX5_bring_65 ⟨Nat.le_of_ble_eq_true rfl, Nat.le_of_ble_eq_true rfl⟩ (fun H locs hP hD hS => ?_)
      obtain rfl := Option.some.inj hf
      exact ret _ _ _ _ dX5_bring_68 hP hD hS
  · have hf := kif c_7 hf
    obtain rfl := Option.some.inj hf
    exact ret _ _ _ _ dX5_bring_10 hP hD hS

abbrev rmX5_ends : Room := { frames := 2, cells := 0, slots := 0, locals := 45 }
set_option maxHeartbeats 4000000 in
set_option maxRecDepth 100000 in
theorem c_X5_ends (l : Launch) (D : va_G) (cyI cyZ : ClassId) (a0 a1 a2 a3 a4 a5 a6 a7 a8 a9 a10 a11 a12 : Nat) (w_thrown : Int32) (w_size : Int32) (w_kinds : Nat → Int32) (w_as : Nat → Int32) (w_bs : Nat → Int32) (w_registers : Int32) (w_isMade : Int32) (w_steps : Int32) (w_stepParts : Nat → Int32) (w_pieces : Int32) (w_pieceParts : Nat → Int32) (w_slots : Int32) (w_areCounted : Nat → Int32) (w_registerOf : Nat → Int32) (w_slotOf : Nat → Int32) (w_pieceOf : Nat → Int32) (w_heldBy : Nat → Int32) (w_isSlotTaken : Nat → Int32) (w_outputs : Int32) (w_output : Nat → Int32) (p1 : Int32) (p2 : Int32) (o : Int32 × (Nat → Int32) × (Nat → Int32) × (Nat → Int32) × (Nat → Int32)) (hf : f_X5_ends p1 p2 w_size w_kinds w_as w_bs w_areCounted w_registerOf w_slotOf w_heldBy w_isSlotTaken = some o) : kMi l yX5_ends wsX5_ends rmX5_ends [.ref a0, .int p1, .int p2] D (PX5 a0 a1 a2 a3 a4 a5 a6 a7 a8 a9 a10 a11 a12 cyI cyZ w_thrown w_size w_kinds w_as w_bs w_registers w_isMade w_steps w_stepParts w_pieces w_pieceParts w_slots w_areCounted w_registerOf w_slotOf w_pieceOf w_heldBy w_isSlotTaken w_outputs w_output) (PX5 a0 a1 a2 a3 a4 a5 a6 a7 a8 a9 a10 a11 a12 cyI cyZ w_thrown w_size w_kinds w_as w_bs w_registers w_isMade w_steps w_stepParts w_pieces w_pieceParts w_slots w_areCounted o.2.1 o.2.2.1 w_pieceOf o.2.2.2.1 o.2.2.2.2 w_outputs w_output) (kT cyI cyZ) o.1 0 0 := by
  refine kOf_i (cc := cX5_ends) (maxL := 3) (ty := .boolean) (by decide +kernel) rfl (Nat.le_of_ble_eq_true rfl) ?_
  intro p e s m args below meth c A Z ls C0 hP hK hD hA hl ret
  obtain ⟨hx, hb, hr, hml, hown, hts, hlocks⟩ := C0
  have hown : s.vm.findClass RX5 = some m.cls := hown
  have hl : lv_has ls 3 [(0, .ref a0), (1, .int p1), (2, .int p2)] := hl
  have hS : va_S A s.heap s.heap [] := va_S.rf
  have i_X5 : ∀ w ∈ wsX50, w ∈ wsX5_ends := by decide +kernel
  have k33 := hts (.fieldLink RX5 33 "RegisterAllocatorModel" "registerOf" "[I") (by decide +kernel)
  have k36 := hts (.fieldLink RX5 36 "RegisterAllocatorModel" "slotOf" "[I") (by decide +kernel)
  have k45 := hts (.fieldLink RX5 45 "RegisterAllocatorModel" "isSlotTaken" "[Z") (by decide +kernel)
  rw [f_X5_ends] at hf
  refine lv_aload_n hx hb dX5_ends_0 rfl (lv_at hl 0 rfl) ?_
  refine va_get (D := D) (ci := 5) (v := .ref a7) (C := RX5) (T := TX5) (N := 20) hx hb hts i_X5 hown hK hP 0 rfl rfl 13 (by decide) k33 (fun _ h9 => h9) rfl dX5_ends_1 ?_
  refine lv_iload_n hx hb dX5_ends_4 rfl (lv_at hl 1 rfl) ?_
  obtain ⟨h_5, hf⟩ := rdc_some hf
  refine va_iald hx hb hK hP 7 0 rfl rfl h_5 dX5_ends_5 ?_
  refine lv_iconst (v := (-1)) hx hb dX5_ends_6 (by decide) ?_
  refine lv_icmp_eq (tgt := 22) hx hb dX5_ends_7 (by decide) (fun c_7 => ?_) (fun c_7 => ?_)
  · have hf := kit c_7 hf
    refine lv_iconst (v := 0) hx hb dX5_ends_22 (by decide) ?_
    obtain rfl := Option.some.inj hf
    exact ret _ _ _ _ dX5_ends_23 (znar (Or.inl rfl)) hP hD hS
  · have hf := kif c_7 hf
    refine lv_aload_n hx hb dX5_ends_10 rfl (lv_at hl 0 rfl) ?_
    refine lv_iload_n hx hb dX5_ends_11 rfl (lv_at hl 1 rfl) ?_
    refine lv_iload_n hx hb dX5_ends_12 rfl (lv_at hl 2 rfl) ?_
    refine lv_iconst (v := 1) hx hb dX5_ends_13 (by decide) ?_
    refine lv_iadd hx hb dX5_ends_14 ?_
    obtain ⟨u15, hf15, hf⟩ := kbd hf
    refine kc_Vi (As := [.int p1, .int (p2 + 1)]) (rest := []) (wf := (PX5 a0 a1 a2 a3 a4 a5 a6 a7 a8 a9 a10 a11 a12 cyI cyZ w_thrown w_size w_kinds w_as w_bs w_registers w_isMade w_steps w_stepParts w_pieces w_pieceParts w_slots w_areCounted w_registerOf w_slotOf w_pieceOf w_heldBy w_isSlotTaken w_outputs w_output)) (c_X5_useFrom l D cyI cyZ a0 a1 a2 a3 a4 a5 a6 a7 a8 a9 a10 a11 a12 w_thrown w_size w_kinds w_as w_bs w_registers w_isMade w_steps w_stepParts w_pieces w_pieceParts w_slots w_areCounted w_registerOf w_slotOf w_pieceOf w_heldBy w_isSlotTaken w_outputs w_output p1 (p2 + 1) u15 hf15) ⟨hx, hb, hml, hown, hts⟩ (cwV 2 hts gX5_ends_X5_useFrom rfl rfl rfl (by decide +kernel) ⟨Nat.le_of_ble_eq_true rfl, Nat.le_of_ble_eq_true rfl⟩) hK hP hD hS hA [0, 1, 2, 3, 4, 5, 6, 7, 8, 9, 10, 11, 12] [] 13 rfl rfl kR0 rfl (by decide +kernel) rfl rfl rfl rfl hl.1 rfl (Nat.le_of_ble_eq_true rfl) dX5_ends_15 ⟨Nat.le_of_ble_eq_true rfl, Nat.le_of_ble_eq_true rfl⟩ (fun H locs hP hD hS => ?_)
    refine lv_iconst (v := (-1)) hx hb dX5_ends_18 (by decide) ?_
    refine lv_icmp_eq (tgt := 24) hx hb dX5_ends_19 (by decide) (fun c_19 => ?_) (fun c_19 => ?_)
    · have hf := kit c_19 hf
      refine lv_aload_n hx hb dX5_ends_24 rfl (lv_at hl 0 rfl) ?_
      refine lv_iload_n hx hb dX5_ends_25 rfl (lv_at hl 1 rfl) ?_
      obtain ⟨⟨u26_0, u26_1⟩, hf26, hf⟩ := kbd hf
      try dsimp only at hf
      refine kc_Vv (As := [.int p1]) (rest := []) (wf := (PX5 a0 a1 a2 a3 a4 a5 a6 a7 a8 a9 a10 a11 a12 cyI cyZ w_thrown w_size w_kinds w_as w_bs w_registers w_isMade w_steps w_stepParts w_pieces w_pieceParts w_slots w_areCounted u26_0 w_slotOf w_pieceOf u26_1 w_isSlotTaken w_outputs w_output)) (c_X5_leave l D cyI cyZ a0 a1 a2 a3 a4 a5 a6 a7 a8 a9 a10 a11 a12 w_thrown w_size w_kinds w_as w_bs w_registers w_isMade w_steps w_stepParts w_pieces w_pieceParts w_slots w_areCounted w_registerOf w_slotOf w_pieceOf w_heldBy w_isSlotTaken w_outputs w_output p1 (u26_0, u26_1) hf26) ⟨hx, hb, hml, hown, hts⟩ (cwV 1 hts gX5_ends_X5_leave rfl rfl rfl (by decide +kernel) ⟨Nat.le_of_ble_eq_true rfl, Nat.le_of_ble_eq_true rfl⟩) hK hP hD hS hA [0, 1, 2, 3, 4, 5, 6, 7, 8, 9, 10, 11, 12] [] 13 rfl rfl kR0 rfl (by decide +kernel) rfl rfl rfl rfl hl.1 rfl (Nat.le_of_ble_eq_true rfl) dX5_ends_26 ⟨Nat.le_of_ble_eq_true rfl, Nat.le_of_ble_eq_true rfl⟩ (fun H locs hP hD hS => ?_)
      refine lv_aload_n hx hb dX5_ends_29 rfl (lv_at hl 0 rfl) ?_
      refine va_get (D := D) (ci := 5) (v := .ref a8) (C := RX5) (T := TX5) (N := 20) hx hb hts i_X5 hown hK hP 0 rfl rfl 14 (by decide) k36 (fun _ h9 => h9) rfl dX5_ends_30 ?_
      refine lv_iload_n hx hb dX5_ends_33 rfl (lv_at hl 1 rfl) ?_
      obtain ⟨h_34, hf⟩ := rdc_some hf
      refine va_iald hx hb hK hP 8 0 rfl rfl h_34 dX5_ends_34 ?_
      refine lv_iconst (v := (-1)) hx hb dX5_ends_35 (by decide) ?_
      refine lv_icmp_eq (tgt := 51) hx hb dX5_ends_36 (by decide) (fun c_36 => ?_) (fun c_36 => ?_)
      · have hf := kit c_36 hf
        refine lv_aload_n hx hb dX5_ends_51 rfl (lv_at hl 0 rfl) ?_
        refine va_get (D := D) (ci := 5) (v := .ref a8) (C := RX5) (T := TX5) (N := 20) hx hb hts i_X5 hown hK hP 0 rfl rfl 14 (by decide) k36 (fun _ h9 => h9) rfl dX5_ends_52 ?_
        refine lv_iload_n hx hb dX5_ends_55 rfl (lv_at hl 1 rfl) ?_
        refine lv_iconst (v := (-1)) hx hb dX5_ends_56 (by decide) ?_
        obtain ⟨h_57, hf⟩ := rdc_some hf
        refine va_iast hx hb hK hP hD hS 8 0 rfl rfl h_57 dX5_ends_57 (fun H locs hP hD hS => ?_)
        have hP : va_P D vwCl (PX5 a0 a1 a2 a3 a4 a5 a6 a7 a8 a9 a10 a11 a12 cyI cyZ w_thrown w_size w_kinds w_as w_bs w_registers w_isMade w_steps w_stepParts w_pieces w_pieceParts w_slots w_areCounted u26_0 (upd w_slotOf p1.toNatClampNeg (-1)) w_pieceOf u26_1 w_isSlotTaken w_outputs w_output) H := hP
        have hD : va_D A (PX5 a0 a1 a2 a3 a4 a5 a6 a7 a8 a9 a10 a11 a12 cyI cyZ w_thrown w_size w_kinds w_as w_bs w_registers w_isMade w_steps w_stepParts w_pieces w_pieceParts w_slots w_areCounted u26_0 (upd w_slotOf p1.toNatClampNeg (-1)) w_pieceOf u26_1 w_isSlotTaken w_outputs w_output) := hD
        refine lv_iconst (v := 1) hx hb dX5_ends_58 (by decide) ?_
        obtain rfl := Option.some.inj hf
        exact ret _ _ _ _ dX5_ends_59 (znar (Or.inr rfl)) hP hD hS
      · have hf := kif c_36 hf
        refine lv_aload_n hx hb dX5_ends_39 rfl (lv_at hl 0 rfl) ?_
        refine va_get (D := D) (ci := 5) (v := .ref a11) (C := RX5) (T := TX5) (N := 20) hx hb hts i_X5 hown hK hP 0 rfl rfl 17 (by decide) k45 (fun _ h9 => h9) rfl dX5_ends_40 ?_
        refine lv_aload_n hx hb dX5_ends_43 rfl (lv_at hl 0 rfl) ?_
        refine va_get (D := D) (ci := 5) (v := .ref a8) (C := RX5) (T := TX5) (N := 20) hx hb hts i_X5 hown hK hP 0 rfl rfl 14 (by decide) k36 (fun _ h9 => h9) rfl dX5_ends_44 ?_
        refine lv_iload_n hx hb dX5_ends_47 rfl (lv_at hl 1 rfl) ?_
        obtain ⟨h_48, hf⟩ := rdc_some hf
        refine va_iald hx hb hK hP 8 0 rfl rfl h_48 dX5_ends_48 ?_
        refine lv_iconst (v := 0) hx hb dX5_ends_49 (by decide) ?_
        obtain ⟨h_50, hf⟩ := rdc_some hf
        refine kc_zast hx hb hK hP hD hS 11 1 rfl rfl knar0 h_50 dX5_ends_50 (fun H locs hP hD hS => ?_)
        have hP : va_P D vwCl (PX5 a0 a1 a2 a3 a4 a5 a6 a7 a8 a9 a10 a11 a12 cyI cyZ w_thrown w_size w_kinds w_as w_bs w_registers w_isMade w_steps w_stepParts w_pieces w_pieceParts w_slots w_areCounted u26_0 w_slotOf w_pieceOf u26_1 (upd w_isSlotTaken (w_slotOf p1.toNatClampNeg).toNatClampNeg 0) w_outputs w_output) H := hP
        have hD : va_D A (PX5 a0 a1 a2 a3 a4 a5 a6 a7 a8 a9 a10 a11 a12 cyI cyZ w_thrown w_size w_kinds w_as w_bs w_registers w_isMade w_steps w_stepParts w_pieces w_pieceParts w_slots w_areCounted u26_0 w_slotOf w_pieceOf u26_1 (upd w_isSlotTaken (w_slotOf p1.toNatClampNeg).toNatClampNeg 0) w_outputs w_output) := hD
        refine lv_aload_n hx hb dX5_ends_51 rfl (lv_at hl 0 rfl) ?_
        refine va_get (D := D) (ci := 5) (v := .ref a8) (C := RX5) (T := TX5) (N := 20) hx hb hts i_X5 hown hK hP 0 rfl rfl 14 (by decide) k36 (fun _ h9 => h9) rfl dX5_ends_52 ?_
        refine lv_iload_n hx hb dX5_ends_55 rfl (lv_at hl 1 rfl) ?_
        refine lv_iconst (v := (-1)) hx hb dX5_ends_56 (by decide) ?_
        obtain ⟨h_57, hf⟩ := rdc_some hf
        refine va_iast hx hb hK hP hD hS 8 0 rfl rfl h_57 dX5_ends_57 (fun H locs hP hD hS => ?_)
        have hP : va_P D vwCl (PX5 a0 a1 a2 a3 a4 a5 a6 a7 a8 a9 a10 a11 a12 cyI cyZ w_thrown w_size w_kinds w_as w_bs w_registers w_isMade w_steps w_stepParts w_pieces w_pieceParts w_slots w_areCounted u26_0 (upd w_slotOf p1.toNatClampNeg (-1)) w_pieceOf u26_1 (upd w_isSlotTaken (w_slotOf p1.toNatClampNeg).toNatClampNeg 0) w_outputs w_output) H := hP
        have hD : va_D A (PX5 a0 a1 a2 a3 a4 a5 a6 a7 a8 a9 a10 a11 a12 cyI cyZ w_thrown w_size w_kinds w_as w_bs w_registers w_isMade w_steps w_stepParts w_pieces w_pieceParts w_slots w_areCounted u26_0 (upd w_slotOf p1.toNatClampNeg (-1)) w_pieceOf u26_1 (upd w_isSlotTaken (w_slotOf p1.toNatClampNeg).toNatClampNeg 0) w_outputs w_output) := hD
        refine lv_iconst (v := 1) hx hb dX5_ends_58 (by decide) ?_
        obtain rfl := Option.some.inj hf
        exact ret _ _ _ _ dX5_ends_59 (znar (Or.inr rfl)) hP hD hS
    · have hf := kif c_19 hf
      refine lv_iconst (v := 0) hx hb dX5_ends_22 (by decide) ?_
      obtain rfl := Option.some.inj hf
      exact ret _ _ _ _ dX5_ends_23 (znar (Or.inl rfl)) hP hD hS

abbrev rmX5_doInstruction : Room := { frames := 5, cells := 0, slots := 0, locals := 121 }
set_option maxHeartbeats 4000000 in
set_option maxRecDepth 100000 in
theorem c_X5_doInstruction (l : Launch) (D : va_G) (cyI cyZ : ClassId) (a0 a1 a2 a3 a4 a5 a6 a7 a8 a9 a10 a11 a12 : Nat) (w_thrown : Int32) (w_size : Int32) (w_kinds : Nat → Int32) (w_as : Nat → Int32) (w_bs : Nat → Int32) (w_registers : Int32) (w_isMade : Int32) (w_steps : Int32) (w_stepParts : Nat → Int32) (w_pieces : Int32) (w_pieceParts : Nat → Int32) (w_slots : Int32) (w_areCounted : Nat → Int32) (w_registerOf : Nat → Int32) (w_slotOf : Nat → Int32) (w_pieceOf : Nat → Int32) (w_heldBy : Nat → Int32) (w_isSlotTaken : Nat → Int32) (w_outputs : Int32) (w_output : Nat → Int32) (p1 : Int32) (p2 : Int32) (o : Int32 × (Nat → Int32) × Int32 × (Nat → Int32) × Int32 × (Nat → Int32) × (Nat → Int32) × (Nat → Int32) × (Nat → Int32) × (Nat → Int32)) (hf : f_X5_doInstruction p1 p2 w_size w_kinds w_as w_bs w_steps w_stepParts w_pieces w_pieceParts w_slots w_areCounted w_registerOf w_slotOf w_pieceOf w_heldBy w_isSlotTaken = some o) : kMv l yX5_doInstruction wsX5_doInstruction rmX5_doInstruction [.ref a0, .int p1, .int p2] D (PX5 a0 a1 a2 a3 a4 a5 a6 a7 a8 a9 a10 a11 a12 cyI cyZ w_thrown w_size w_kinds w_as w_bs w_registers w_isMade w_steps w_stepParts w_pieces w_pieceParts w_slots w_areCounted w_registerOf w_slotOf w_pieceOf w_heldBy w_isSlotTaken w_outputs w_output) (PX5 a0 a1 a2 a3 a4 a5 a6 a7 a8 a9 a10 a11 a12 cyI cyZ w_thrown w_size w_kinds w_as w_bs w_registers w_isMade o.1 o.2.1 o.2.2.1 o.2.2.2.1 o.2.2.2.2.1 w_areCounted o.2.2.2.2.2.1 o.2.2.2.2.2.2.1 o.2.2.2.2.2.2.2.1 o.2.2.2.2.2.2.2.2.1 o.2.2.2.2.2.2.2.2.2 w_outputs w_output) (kT cyI cyZ) 0 0 := by
  refine kOf_v (cc := cX5_doInstruction) (maxL := 10) (by decide +kernel) rfl (Nat.le_of_ble_eq_true rfl) ?_
  intro p e s m args below meth c A Z ls C0 hP hK hD hA hl ret
  obtain ⟨hx, hb, hr, hml, hown, hts, hlocks⟩ := C0
  have hown : s.vm.findClass RX5 = some m.cls := hown
  have hl : lv_has ls 10 [(0, .ref a0), (1, .int p1), (2, .int p2)] := hl
  have hS : va_S A s.heap s.heap [] := va_S.rf
  have i_X5 : ∀ w ∈ wsX50, w ∈ wsX5_doInstruction := by decide +kernel
  have k13 := hts (.fieldLink RX5 13 "RegisterAllocatorModel" "as" "[I") (by decide +kernel)
  have k16 := hts (.fieldLink RX5 16 "RegisterAllocatorModel" "bs" "[I") (by decide +kernel)
  have k33 := hts (.fieldLink RX5 33 "RegisterAllocatorModel" "registerOf" "[I") (by decide +kernel)
  have k9 := hts (.fieldLink RX5 9 "RegisterAllocatorModel" "kinds" "[I") (by decide +kernel)
  have J184 : ∀ (x4_J184 : Int32) (x3_J184 : Int32) (w_steps_J184 : Int32) (w_stepParts_J184 : Nat → Int32) (w_pieces_J184 : Int32) (w_pieceParts_J184 : Nat → Int32) (w_slots_J184 : Int32) (w_registerOf_J184 : Nat → Int32) (w_slotOf_J184 : Nat → Int32) (w_pieceOf_J184 : Nat → Int32) (w_heldBy_J184 : Nat → Int32) (w_isSlotTaken_J184 : Nat → Int32) (_ : f_X5_doInstruction_J184 x4_J184 x3_J184 w_steps_J184 w_stepParts_J184 w_pieces_J184 w_pieceParts_J184 w_slots_J184 w_registerOf_J184 w_slotOf_J184 w_pieceOf_J184 w_heldBy_J184 w_isSlotTaken_J184 = some o) (H : Heap) (locs : List Loc) (ls : Array Slot), va_P D vwCl (PX5 a0 a1 a2 a3 a4 a5 a6 a7 a8 a9 a10 a11 a12 cyI cyZ w_thrown w_size w_kinds w_as w_bs w_registers w_isMade w_steps_J184 w_stepParts_J184 w_pieces_J184 w_pieceParts_J184 w_slots_J184 w_areCounted w_registerOf_J184 w_slotOf_J184 w_pieceOf_J184 w_heldBy_J184 w_isSlotTaken_J184 w_outputs w_output) H → va_D A (PX5 a0 a1 a2 a3 a4 a5 a6 a7 a8 a9 a10 a11 a12 cyI cyZ w_thrown w_size w_kinds w_as w_bs w_registers w_isMade w_steps_J184 w_stepParts_J184 w_pieces_J184 w_pieceParts_J184 w_slots_J184 w_areCounted w_registerOf_J184 w_slotOf_J184 w_pieceOf_J184 w_heldBy_J184 w_isSlotTaken_J184 w_outputs w_output) → va_S A s.heap H locs → lv_has ls 10 [(4, .int x4_J184), (3, .int x3_J184), (0, .ref a0)] → W p l e rmX5_doInstruction s m args below meth c H locs 0 0 Z (F0 m 184 ls []) := by
    intro x4_J184 x3_J184 w_steps_J184 w_stepParts_J184 w_pieces_J184 w_pieceParts_J184 w_slots_J184 w_registerOf_J184 w_slotOf_J184 w_pieceOf_J184 w_heldBy_J184 w_isSlotTaken_J184 hf H locs ls hP hD hS hl
    rw [f_X5_doInstruction_J184] at hf
    refine lv_aload_n hx hb dX5_doInstruction_184 rfl (lv_at hl 2 rfl) ?_
    refine lv_iload_n hx hb dX5_doInstruction_185 rfl (lv_at hl 1 rfl) ?_
    obtain ⟨u186, hf186, hf⟩ := kbd hf
    refine kc_Vv (As := [.int x3_J184]) (rest := []) (wf := (PX5 a0 a1 a2 a3 a4 a5 a6 a7 a8 a9 a10 a11 a12 cyI cyZ w_thrown w_size w_kinds w_as w_bs w_registers w_isMade w_steps_J184 w_stepParts_J184 w_pieces_J184 u186 w_slots_J184 w_areCounted w_registerOf_J184 w_slotOf_J184 w_pieceOf_J184 w_heldBy_J184 w_isSlotTaken_J184 w_outputs w_output)) (c_X5_reads l D cyI cyZ a0 a1 a2 a3 a4 a5 a6 a7 a8 a9 a10 a11 a12 w_thrown w_size w_kinds w_as w_bs w_registers w_isMade w_steps_J184 w_stepParts_J184 w_pieces_J184 w_pieceParts_J184 w_slots_J184 w_areCounted w_registerOf_J184 w_slotOf_J184 w_pieceOf_J184 w_heldBy_J184 w_isSlotTaken_J184 w_outputs w_output x3_J184 u186 hf186) ⟨hx, hb, hml, hown, hts⟩ (cwV 1 hts gX5_doInstruction_X5_reads rfl rfl rfl (by decide +kernel) ⟨Nat.le_of_ble_eq_true rfl, Nat.le_of_ble_eq_true rfl⟩) hK hP hD hS hA [0, 1, 2, 3, 4, 5, 6, 7, 8, 9, 10, 11, 12] [] 13 rfl rfl kR0 rfl (by decide +kernel) rfl rfl rfl rfl hl.1 rfl (Nat.le_of_ble_eq_true rfl) dX5_doInstruction_186 ⟨Nat.le_of_ble_eq_true rfl, Nat.le_of_ble_eq_true rfl⟩ (fun H locs hP hD hS => ?_)
    refine lv_iload hx hb dX5_doInstruction_189 (lv_at hl 0 rfl) ?_
    refine lv_iconst (v := (-1)) hx hb dX5_doInstruction_191 (by decide) ?_
    refine lv_icmp_eq (tgt := 201) hx hb dX5_doInstruction_192 (by decide) (fun c_192 => ?_) (fun c_192 => ?_)
    · have hf := kit c_192 hf
      obtain rfl := Option.some.inj hf
      exact ret _ _ _ _ dX5_doInstruction_201 hP hD hS
    · have hf := kif c_192 hf
      refine lv_aload_n hx hb dX5_doInstruction_195 rfl (lv_at hl 2 rfl) ?_
      refine lv_iload hx hb dX5_doInstruction_196 (lv_at hl 0 rfl) ?_
      obtain ⟨u198, hf198, hf⟩ := kbd hf
      refine kc_Vv (As := [.int x4_J184]) (rest := []) (wf := (PX5 a0 a1 a2 a3 a4 a5 a6 a7 a8 a9 a10 a11 a12 cyI cyZ w_thrown w_size w_kinds w_as w_bs w_registers w_isMade w_steps_J184 w_stepParts_J184 w_pieces_J184 u198 w_slots_J184 w_areCounted w_registerOf_J184 w_slotOf_J184 w_pieceOf_J184 w_heldBy_J184 w_isSlotTaken_J184 w_outputs w_output)) (c_X5_reads l D cyI cyZ a0 a1 a2 a3 a4 a5 a6 a7 a8 a9 a10 a11 a12 w_thrown w_size w_kinds w_as w_bs w_registers w_isMade w_steps_J184 w_stepParts_J184 w_pieces_J184 u186 w_slots_J184 w_areCounted w_registerOf_J184 w_slotOf_J184 w_pieceOf_J184 w_heldBy_J184 w_isSlotTaken_J184 w_outputs w_output x4_J184 u198 hf198) ⟨hx, hb, hml, hown, hts⟩ (cwV 1 hts gX5_doInstruction_X5_reads rfl rfl rfl (by decide +kernel) ⟨Nat.le_of_ble_eq_true rfl, Nat.le_of_ble_eq_true rfl⟩) hK hP hD hS hA [0, 1, 2, 3, 4, 5, 6, 7, 8, 9, 10, 11, 12] [] 13 rfl rfl kR0 rfl (by decide +kernel) rfl rfl rfl rfl hl.1 rfl (Nat.le_of_ble_eq_true rfl) dX5_doInstruction_198 ⟨Nat.le_of_ble_eq_true rfl, Nat.le_of_ble_eq_true rfl⟩ (fun H locs hP hD hS => ?_)
      obtain rfl := Option.some.inj hf
      exact ret _ _ _ _ dX5_doInstruction_201 hP hD hS
  have J168 : ∀ (x9_J168 : Int32) (x6_J168 : Int32) (x5_J168 : Int32) (x4_J168 : Int32) (x3_J168 : Int32) (x1_J168 : Int32) (t1_J168 : Int32) (w_steps_J168 : Int32) (w_stepParts_J168 : Nat → Int32) (w_pieces_J168 : Int32) (w_pieceParts_J168 : Nat → Int32) (w_slots_J168 : Int32) (w_registerOf_J168 : Nat → Int32) (w_slotOf_J168 : Nat → Int32) (w_pieceOf_J168 : Nat → Int32) (w_heldBy_J168 : Nat → Int32) (w_isSlotTaken_J168 : Nat → Int32) (_ : f_X5_doInstruction_J168 x9_J168 x6_J168 x5_J168 x4_J168 x3_J168 x1_J168 t1_J168 w_steps_J168 w_stepParts_J168 w_pieces_J168 w_pieceParts_J168 w_slots_J168 w_registerOf_J168 w_slotOf_J168 w_pieceOf_J168 w_heldBy_J168 w_isSlotTaken_J168 = some o) (H : Heap) (locs : List Loc) (ls : Array Slot), va_P D vwCl (PX5 a0 a1 a2 a3 a4 a5 a6 a7 a8 a9 a10 a11 a12 cyI cyZ w_thrown w_size w_kinds w_as w_bs w_registers w_isMade w_steps_J168 w_stepParts_J168 w_pieces_J168 w_pieceParts_J168 w_slots_J168 w_areCounted w_registerOf_J168 w_slotOf_J168 w_pieceOf_J168 w_heldBy_J168 w_isSlotTaken_J168 w_outputs w_output) H → va_D A (PX5 a0 a1 a2 a3 a4 a5 a6 a7 a8 a9 a10 a11 a12 cyI cyZ w_thrown w_size w_kinds w_as w_bs w_registers w_isMade w_steps_J168 w_stepParts_J168 w_pieces_J168 w_pieceParts_J168 w_slots_J168 w_areCounted w_registerOf_J168 w_slotOf_J168 w_pieceOf_J168 w_heldBy_J168 w_isSlotTaken_J168 w_outputs w_output) → va_S A s.heap H locs → lv_has ls 10 [(9, .int x9_J168), (6, .int x6_J168), (5, .int x5_J168), (4, .int x4_J168), (3, .int x3_J168), (0, .ref a0), (1, .int x1_J168)] → W p l e rmX5_doInstruction s m args below meth c H locs 0 0 Z (F0 m 168 ls [.int t1_J168, .ref a0]) := by
    intro x9_J168 x6_J168 x5_J168 x4_J168 x3_J168 x1_J168 t1_J168 w_steps_J168 w_stepParts_J168 w_pieces_J168 w_pieceParts_J168 w_slots_J168 w_registerOf_J168 w_slotOf_J168 w_pieceOf_J168 w_heldBy_J168 w_isSlotTaken_J168 hf H locs ls hP hD hS hl
    rw [f_X5_doInstruction_J168] at hf
    refine lv_iload hx hb dX5_doInstruction_168 (lv_at hl 0 rfl) ?_
    refine lv_iload hx hb dX5_doInstruction_170 (lv_at hl 2 rfl) ?_
    refine lv_iload hx hb dX5_doInstruction_172 (lv_at hl 1 rfl) ?_
    obtain ⟨⟨u174_0, u174_1⟩, hf174, hf⟩ := kbd hf
    try dsimp only at hf
    refine kc_Vv (As := [.int t1_J168, .int x9_J168, .int x5_J168, .int x6_J168]) (rest := []) (wf := (PX5 a0 a1 a2 a3 a4 a5 a6 a7 a8 a9 a10 a11 a12 cyI cyZ w_thrown w_size w_kinds w_as w_bs w_registers w_isMade u174_0 u174_1 w_pieces_J168 w_pieceParts_J168 w_slots_J168 w_areCounted w_registerOf_J168 w_slotOf_J168 w_pieceOf_J168 w_heldBy_J168 w_isSlotTaken_J168 w_outputs w_output)) (c_X5_add l D cyI cyZ a0 a1 a2 a3 a4 a5 a6 a7 a8 a9 a10 a11 a12 w_thrown w_size w_kinds w_as w_bs w_registers w_isMade w_steps_J168 w_stepParts_J168 w_pieces_J168 w_pieceParts_J168 w_slots_J168 w_areCounted w_registerOf_J168 w_slotOf_J168 w_pieceOf_J168 w_heldBy_J168 w_isSlotTaken_J168 w_outputs w_output t1_J168 x9_J168 x5_J168 x6_J168 (u174_0, u174_1) hf174) ⟨hx, hb, hml, hown, hts⟩ (cwV 4 hts gX5_doInstruction_X5_add rfl rfl rfl (by decide +kernel) ⟨Nat.le_of_ble_eq_true rfl, Nat.le_of_ble_eq_true rfl⟩) hK hP hD hS hA [0, 1, 2, 3, 4, 5, 6, 7, 8, 9, 10, 11, 12] [] 13 rfl rfl kR0 rfl (by decide +kernel) rfl rfl rfl rfl hl.1 rfl (Nat.le_of_ble_eq_true rfl) dX5_doInstruction_174 ⟨Nat.le_of_ble_eq_true rfl, Nat.le_of_ble_eq_true rfl⟩ (fun H locs hP hD hS => ?_)
    refine lv_aload_n hx hb dX5_doInstruction_177 rfl (lv_at hl 5 rfl) ?_
    refine lv_iload_n hx hb dX5_doInstruction_178 rfl (lv_at hl 6 rfl) ?_
    refine lv_iload hx hb dX5_doInstruction_179 (lv_at hl 0 rfl) ?_
    obtain ⟨⟨u181_0, u181_1, u181_2, u181_3, u181_4⟩, hf181, hf⟩ := kbd hf
    try dsimp only at hf
    refine kc_Vv (As := [.int x1_J168, .int x9_J168]) (rest := []) (wf := (PX5 a0 a1 a2 a3 a4 a5 a6 a7 a8 a9 a10 a11 a12 cyI cyZ w_thrown w_size w_kinds w_as w_bs w_registers w_isMade u174_0 u174_1 u181_0 u181_1 w_slots_J168 w_areCounted u181_2 w_slotOf_J168 u181_3 u181_4 w_isSlotTaken_J168 w_outputs w_output)) (c_X5_begin l D cyI cyZ a0 a1 a2 a3 a4 a5 a6 a7 a8 a9 a10 a11 a12 w_thrown w_size w_kinds w_as w_bs w_registers w_isMade u174_0 u174_1 w_pieces_J168 w_pieceParts_J168 w_slots_J168 w_areCounted w_registerOf_J168 w_slotOf_J168 w_pieceOf_J168 w_heldBy_J168 w_isSlotTaken_J168 w_outputs w_output x1_J168 x9_J168 (u181_0, u181_1, u181_2, u181_3, u181_4) hf181) ⟨hx, hb, hml, hown, hts⟩ (cwV 2 hts gX5_doInstruction_X5_begin rfl rfl rfl (by decide +kernel) ⟨Nat.le_of_ble_eq_true rfl, Nat.le_of_ble_eq_true rfl⟩) hK hP hD hS hA [0, 1, 2, 3, 4, 5, 6, 7, 8, 9, 10, 11, 12] [] 13 rfl rfl kR0 rfl (by decide +kernel) rfl rfl rfl rfl hl.1 rfl (Nat.le_of_ble_eq_true rfl) dX5_doInstruction_181 ⟨Nat.le_of_ble_eq_true rfl, Nat.le_of_ble_eq_true rfl⟩ (fun H locs hP hD hS => ?_)
    exact J184 x4_J168 x3_J168 u174_0 u174_1 u181_0 u181_1 w_slots_J168 u181_2 w_slotOf_J168 u181_3 u181_4 w_isSlotTaken_J168 hf _ _ _ hP hD hS (lv_sub hl [3, 4, 5] rfl)
  have J145 : ∀ (x6_J145 : Int32) (x5_J145 : Int32) (x4_J145 : Int32) (x3_J145 : Int32) (x1_J145 : Int32) (t0_J145 : Int32) (w_steps_J145 : Int32) (w_stepParts_J145 : Nat → Int32) (w_pieces_J145 : Int32) (w_pieceParts_J145 : Nat → Int32) (w_slots_J145 : Int32) (w_registerOf_J145 : Nat → Int32) (w_slotOf_J145 : Nat → Int32) (w_pieceOf_J145 : Nat → Int32) (w_heldBy_J145 : Nat → Int32) (w_isSlotTaken_J145 : Nat → Int32) (_ : f_X5_doInstruction_J145 w_kinds x6_J145 x5_J145 x4_J145 x3_J145 x1_J145 t0_J145 w_steps_J145 w_stepParts_J145 w_pieces_J145 w_pieceParts_J145 w_slots_J145 w_registerOf_J145 w_slotOf_J145 w_pieceOf_J145 w_heldBy_J145 w_isSlotTaken_J145 = some o) (H : Heap) (locs : List Loc) (ls : Array Slot), va_P D vwCl (PX5 a0 a1 a2 a3 a4 a5 a6 a7 a8 a9 a10 a11 a12 cyI cyZ w_thrown w_size w_kinds w_as w_bs w_registers w_isMade w_steps_J145 w_stepParts_J145 w_pieces_J145 w_pieceParts_J145 w_slots_J145 w_areCounted w_registerOf_J145 w_slotOf_J145 w_pieceOf_J145 w_heldBy_J145 w_isSlotTaken_J145 w_outputs w_output) H → va_D A (PX5 a0 a1 a2 a3 a4 a5 a6 a7 a8 a9 a10 a11 a12 cyI cyZ w_thrown w_size w_kinds w_as w_bs w_registers w_isMade w_steps_J145 w_stepParts_J145 w_pieces_J145 w_pieceParts_J145 w_slots_J145 w_areCounted w_registerOf_J145 w_slotOf_J145 w_pieceOf_J145 w_heldBy_J145 w_isSlotTaken_J145 w_outputs w_output) → va_S A s.heap H locs → lv_has ls 10 [(6, .int x6_J145), (5, .int x5_J145), (4, .int x4_J145), (3, .int x3_J145), (0, .ref a0), (1, .int x1_J145)] → W p l e rmX5_doInstruction s m args below meth c H locs 0 0 Z (F0 m 145 ls [.int t0_J145]) := by
    intro x6_J145 x5_J145 x4_J145 x3_J145 x1_J145 t0_J145 w_steps_J145 w_stepParts_J145 w_pieces_J145 w_pieceParts_J145 w_slots_J145 w_registerOf_J145 w_slotOf_J145 w_pieceOf_J145 w_heldBy_J145 w_isSlotTaken_J145 hf H locs ls hP hD hS hl
    rw [f_X5_doInstruction_J145] at hf
    refine lv_istore (lv' := [(9, .int t0_J145), (6, .int x6_J145), (5, .int x5_J145), (4, .int x4_J145), (3, .int x3_J145), (0, .ref a0), (1, .int x1_J145)]) hx hb dX5_doInstruction_145 hl (by decide) rfl (fun ls hl => ?_)
    refine lv_aload_n hx hb dX5_doInstruction_147 rfl (lv_at hl 5 rfl) ?_
    refine lv_aload_n hx hb dX5_doInstruction_148 rfl (lv_at hl 5 rfl) ?_
    refine va_get (D := D) (ci := 5) (v := .ref a1) (C := RX5) (T := TX5) (N := 20) hx hb hts i_X5 hown hK hP 0 rfl rfl 2 (by decide) k9 (fun _ h9 => h9) rfl dX5_doInstruction_149 ?_
    refine lv_iload_n hx hb dX5_doInstruction_152 rfl (lv_at hl 6 rfl) ?_
    obtain ⟨h_153, hf⟩ := rdc_some hf
    refine va_iald hx hb hK hP 1 0 rfl rfl h_153 dX5_doInstruction_153 ?_
    refine lv_iconst (v := 5) hx hb dX5_doInstruction_154 (by decide) ?_
    refine lv_icmp_ne (tgt := 162) hx hb dX5_doInstruction_155 (by decide) (fun c_155 => ?_) (fun c_155 => ?_)
    · have hf := kif c_155 hf
      refine lv_aload_n hx hb dX5_doInstruction_162 rfl (lv_at hl 5 rfl) ?_
      refine va_get (D := D) (ci := 5) (v := .ref a1) (C := RX5) (T := TX5) (N := 20) hx hb hts i_X5 hown hK hP 0 rfl rfl 2 (by decide) k9 (fun _ h9 => h9) rfl dX5_doInstruction_163 ?_
      refine lv_iload_n hx hb dX5_doInstruction_166 rfl (lv_at hl 6 rfl) ?_
      obtain ⟨h_167, hf⟩ := rdc_some hf
      refine va_iald hx hb hK hP 1 0 rfl rfl h_167 dX5_doInstruction_167 ?_
      exact J168 t0_J145 x6_J145 x5_J145 x4_J145 x3_J145 x1_J145 (w_kinds x1_J145.toNatClampNeg) w_steps_J145 w_stepParts_J145 w_pieces_J145 w_pieceParts_J145 w_slots_J145 w_registerOf_J145 w_slotOf_J145 w_pieceOf_J145 w_heldBy_J145 w_isSlotTaken_J145 hf _ _ _ hP hD hS (lv_sub hl [0, 1, 2, 3, 4, 5, 6] rfl)
    · have hf := kit c_155 hf
      refine lv_iconst (v := 5) hx hb dX5_doInstruction_158 (by decide) ?_
      refine lv_goto (tgt := 168) hx hb dX5_doInstruction_159 (by decide) ?_
      exact J168 t0_J145 x6_J145 x5_J145 x4_J145 x3_J145 x1_J145 5 w_steps_J145 w_stepParts_J145 w_pieces_J145 w_pieceParts_J145 w_slots_J145 w_registerOf_J145 w_slotOf_J145 w_pieceOf_J145 w_heldBy_J145 w_isSlotTaken_J145 hf _ _ _ hP hD hS (lv_sub hl [0, 1, 2, 3, 4, 5, 6] rfl)
  have J92 : ∀ (x7_J92 : Int32) (x6_J92 : Int32) (x5_J92 : Int32) (x4_J92 : Int32) (x3_J92 : Int32) (x1_J92 : Int32) (x2_J92 : Int32) (t0_J92 : Int32) (w_steps_J92 : Int32) (w_stepParts_J92 : Nat → Int32) (w_pieces_J92 : Int32) (w_pieceParts_J92 : Nat → Int32) (w_slots_J92 : Int32) (w_registerOf_J92 : Nat → Int32) (w_slotOf_J92 : Nat → Int32) (w_pieceOf_J92 : Nat → Int32) (w_heldBy_J92 : Nat → Int32) (w_isSlotTaken_J92 : Nat → Int32) (_ : f_X5_doInstruction_J92 w_size w_kinds w_as w_bs w_areCounted x7_J92 x6_J92 x5_J92 x4_J92 x3_J92 x1_J92 x2_J92 t0_J92 w_steps_J92 w_stepParts_J92 w_pieces_J92 w_pieceParts_J92 w_slots_J92 w_registerOf_J92 w_slotOf_J92 w_pieceOf_J92 w_heldBy_J92 w_isSlotTaken_J92 = some o) (H : Heap) (locs : List Loc) (ls : Array Slot), va_P D vwCl (PX5 a0 a1 a2 a3 a4 a5 a6 a7 a8 a9 a10 a11 a12 cyI cyZ w_thrown w_size w_kinds w_as w_bs w_registers w_isMade w_steps_J92 w_stepParts_J92 w_pieces_J92 w_pieceParts_J92 w_slots_J92 w_areCounted w_registerOf_J92 w_slotOf_J92 w_pieceOf_J92 w_heldBy_J92 w_isSlotTaken_J92 w_outputs w_output) H → va_D A (PX5 a0 a1 a2 a3 a4 a5 a6 a7 a8 a9 a10 a11 a12 cyI cyZ w_thrown w_size w_kinds w_as w_bs w_registers w_isMade w_steps_J92 w_stepParts_J92 w_pieces_J92 w_pieceParts_J92 w_slots_J92 w_areCounted w_registerOf_J92 w_slotOf_J92 w_pieceOf_J92 w_heldBy_J92 w_isSlotTaken_J92 w_outputs w_output) → va_S A s.heap H locs → lv_has ls 10 [(7, .int x7_J92), (6, .int x6_J92), (5, .int x5_J92), (4, .int x4_J92), (3, .int x3_J92), (0, .ref a0), (1, .int x1_J92), (2, .int x2_J92)] → W p l e rmX5_doInstruction s m args below meth c H locs 0 0 Z (F0 m 92 ls [.int t0_J92]) := by
    intro x7_J92 x6_J92 x5_J92 x4_J92 x3_J92 x1_J92 x2_J92 t0_J92 w_steps_J92 w_stepParts_J92 w_pieces_J92 w_pieceParts_J92 w_slots_J92 w_registerOf_J92 w_slotOf_J92 w_pieceOf_J92 w_heldBy_J92 w_isSlotTaken_J92 hf H locs ls hP hD hS hl
    rw [f_X5_doInstruction_J92] at hf
    refine lv_istore (lv' := [(8, .int t0_J92), (7, .int x7_J92), (6, .int x6_J92), (5, .int x5_J92), (4, .int x4_J92), (3, .int x3_J92), (0, .ref a0), (1, .int x1_J92), (2, .int x2_J92)]) hx hb dX5_doInstruction_92 hl (by decide) rfl (fun ls hl => ?_)
    refine lv_aload_n hx hb dX5_doInstruction_94 rfl (lv_at hl 6 rfl) ?_
    refine va_get (D := D) (ci := 5) (v := .ref a1) (C := RX5) (T := TX5) (N := 20) hx hb hts i_X5 hown hK hP 0 rfl rfl 2 (by decide) k9 (fun _ h9 => h9) rfl dX5_doInstruction_95 ?_
    refine lv_iload_n hx hb dX5_doInstruction_98 rfl (lv_at hl 7 rfl) ?_
    obtain ⟨h_99, hf⟩ := rdc_some hf
    refine va_iald hx hb hK hP 1 0 rfl rfl h_99 dX5_doInstruction_99 ?_
    refine lv_bipush (v := 6) hx hb dX5_doInstruction_100 (by decide) ?_
    refine lv_icmp_ne (tgt := 118) hx hb dX5_doInstruction_102 (by decide) (fun c_102 => ?_) (fun c_102 => ?_)
    · have hf := kif c_102 hf
      refine lv_iload hx hb dX5_doInstruction_118 (lv_at hl 1 rfl) ?_
      refine lv_if_eq (tgt := 128) hx hb dX5_doInstruction_120 (by decide) (fun c_120 => ?_) (fun c_120 => ?_)
      · have hf := kit c_120 hf
        refine lv_iload hx hb dX5_doInstruction_128 (lv_at hl 0 rfl) ?_
        refine lv_if_eq (tgt := 138) hx hb dX5_doInstruction_130 (by decide) (fun c_130 => ?_) (fun c_130 => ?_)
        · have hf := kit c_130 hf
          refine lv_aload_n hx hb dX5_doInstruction_138 rfl (lv_at hl 6 rfl) ?_
          refine lv_iload_n hx hb dX5_doInstruction_139 rfl (lv_at hl 7 rfl) ?_
          refine lv_iconst (v := 0) hx hb dX5_doInstruction_140 (by decide) ?_
          refine lv_iload_n hx hb dX5_doInstruction_141 rfl (lv_at hl 8 rfl) ?_
          obtain ⟨⟨u142_0, u142_1, u142_2, u142_3, u142_4, u142_5, u142_6, u142_7, u142_8⟩, hf142, hf⟩ := kbd hf
          try dsimp only at hf
          refine kc_Vi (As := [.int x1_J92, .int 0, .int x2_J92]) (rest := []) (wf := (PX5 a0 a1 a2 a3 a4 a5 a6 a7 a8 a9 a10 a11 a12 cyI cyZ w_thrown w_size w_kinds w_as w_bs w_registers w_isMade u142_1 u142_2 w_pieces_J92 u142_3 u142_4 w_areCounted u142_5 u142_6 w_pieceOf_J92 u142_7 u142_8 w_outputs w_output)) (c_X5_get l D cyI cyZ a0 a1 a2 a3 a4 a5 a6 a7 a8 a9 a10 a11 a12 w_thrown w_size w_kinds w_as w_bs w_registers w_isMade w_steps_J92 w_stepParts_J92 w_pieces_J92 w_pieceParts_J92 w_slots_J92 w_areCounted w_registerOf_J92 w_slotOf_J92 w_pieceOf_J92 w_heldBy_J92 w_isSlotTaken_J92 w_outputs w_output x1_J92 0 x2_J92 (u142_0, u142_1, u142_2, u142_3, u142_4, u142_5, u142_6, u142_7, u142_8) hf142) ⟨hx, hb, hml, hown, hts⟩ (cwV 3 hts gX5_doInstruction_X5_get rfl rfl rfl (by decide +kernel) ⟨Nat.le_of_ble_eq_true rfl, Nat.le_of_ble_eq_true rfl⟩) hK hP hD hS hA [0, 1, 2, 3, 4, 5, 6, 7, 8, 9, 10, 11, 12] [] 13 rfl rfl kR0 rfl (by decide +kernel) rfl rfl rfl rfl hl.1 rfl (Nat.le_of_ble_eq_true rfl) dX5_doInstruction_142 ⟨Nat.le_of_ble_eq_true rfl, Nat.le_of_ble_eq_true rfl⟩ (fun H locs hP hD hS => ?_)
          exact J145 x6_J92 x5_J92 x4_J92 x3_J92 x1_J92 u142_0 u142_1 u142_2 w_pieces_J92 u142_3 u142_4 u142_5 u142_6 w_pieceOf_J92 u142_7 u142_8 hf _ _ _ hP hD hS (lv_sub hl [2, 3, 4, 5, 6, 7] rfl)
        · have hf := kif c_130 hf
          refine lv_iload hx hb dX5_doInstruction_133 (lv_at hl 2 rfl) ?_
          refine lv_goto (tgt := 145) hx hb dX5_doInstruction_135 (by decide) ?_
          exact J145 x6_J92 x5_J92 x4_J92 x3_J92 x1_J92 x6_J92 w_steps_J92 w_stepParts_J92 w_pieces_J92 w_pieceParts_J92 w_slots_J92 w_registerOf_J92 w_slotOf_J92 w_pieceOf_J92 w_heldBy_J92 w_isSlotTaken_J92 hf _ _ _ hP hD hS (lv_sub hl [2, 3, 4, 5, 6, 7] rfl)
      · have hf := kif c_120 hf
        refine lv_iload hx hb dX5_doInstruction_123 (lv_at hl 3 rfl) ?_
        refine lv_goto (tgt := 145) hx hb dX5_doInstruction_125 (by decide) ?_
        exact J145 x6_J92 x5_J92 x4_J92 x3_J92 x1_J92 x5_J92 w_steps_J92 w_stepParts_J92 w_pieces_J92 w_pieceParts_J92 w_slots_J92 w_registerOf_J92 w_slotOf_J92 w_pieceOf_J92 w_heldBy_J92 w_isSlotTaken_J92 hf _ _ _ hP hD hS (lv_sub hl [2, 3, 4, 5, 6, 7] rfl)
    · have hf := kit c_102 hf
      refine lv_aload_n hx hb dX5_doInstruction_105 rfl (lv_at hl 6 rfl) ?_
      refine lv_bipush (v := 6) hx hb dX5_doInstruction_106 (by decide) ?_
      refine lv_iload hx hb dX5_doInstruction_108 (lv_at hl 3 rfl) ?_
      refine lv_iconst (v := (-1)) hx hb dX5_doInstruction_110 (by decide) ?_
      refine lv_iconst (v := (-1)) hx hb dX5_doInstruction_111 (by decide) ?_
      obtain ⟨⟨u112_0, u112_1⟩, hf112, hf⟩ := kbd hf
      try dsimp only at hf
      refine kc_Vv (As := [.int 6, .int x5_J92, .int (-1), .int (-1)]) (rest := []) (wf := (PX5 a0 a1 a2 a3 a4 a5 a6 a7 a8 a9 a10 a11 a12 cyI cyZ w_thrown w_size w_kinds w_as w_bs w_registers w_isMade u112_0 u112_1 w_pieces_J92 w_pieceParts_J92 w_slots_J92 w_areCounted w_registerOf_J92 w_slotOf_J92 w_pieceOf_J92 w_heldBy_J92 w_isSlotTaken_J92 w_outputs w_output)) (c_X5_add l D cyI cyZ a0 a1 a2 a3 a4 a5 a6 a7 a8 a9 a10 a11 a12 w_thrown w_size w_kinds w_as w_bs w_registers w_isMade w_steps_J92 w_stepParts_J92 w_pieces_J92 w_pieceParts_J92 w_slots_J92 w_areCounted w_registerOf_J92 w_slotOf_J92 w_pieceOf_J92 w_heldBy_J92 w_isSlotTaken_J92 w_outputs w_output 6 x5_J92 (-1) (-1) (u112_0, u112_1) hf112) ⟨hx, hb, hml, hown, hts⟩ (cwV 4 hts gX5_doInstruction_X5_add rfl rfl rfl (by decide +kernel) ⟨Nat.le_of_ble_eq_true rfl, Nat.le_of_ble_eq_true rfl⟩) hK hP hD hS hA [0, 1, 2, 3, 4, 5, 6, 7, 8, 9, 10, 11, 12] [] 13 rfl rfl kR0 rfl (by decide +kernel) rfl rfl rfl rfl hl.1 rfl (Nat.le_of_ble_eq_true rfl) dX5_doInstruction_112 ⟨Nat.le_of_ble_eq_true rfl, Nat.le_of_ble_eq_true rfl⟩ (fun H locs hP hD hS => ?_)
      refine lv_goto (tgt := 184) hx hb dX5_doInstruction_115 (by decide) ?_
      exact J184 x4_J92 x3_J92 u112_0 u112_1 w_pieces_J92 w_pieceParts_J92 w_slots_J92 w_registerOf_J92 w_slotOf_J92 w_pieceOf_J92 w_heldBy_J92 w_isSlotTaken_J92 hf _ _ _ hP hD hS (lv_sub hl [4, 5, 6] rfl)
  have J91 : ∀ (x7_J91 : Int32) (x6_J91 : Int32) (x5_J91 : Int32) (x4_J91 : Int32) (x3_J91 : Int32) (x1_J91 : Int32) (x2_J91 : Int32) (w_steps_J91 : Int32) (w_stepParts_J91 : Nat → Int32) (w_pieces_J91 : Int32) (w_pieceParts_J91 : Nat → Int32) (w_slots_J91 : Int32) (w_registerOf_J91 : Nat → Int32) (w_slotOf_J91 : Nat → Int32) (w_pieceOf_J91 : Nat → Int32) (w_heldBy_J91 : Nat → Int32) (w_isSlotTaken_J91 : Nat → Int32) (_ : f_X5_doInstruction_J91 w_size w_kinds w_as w_bs w_areCounted x7_J91 x6_J91 x5_J91 x4_J91 x3_J91 x1_J91 x2_J91 w_steps_J91 w_stepParts_J91 w_pieces_J91 w_pieceParts_J91 w_slots_J91 w_registerOf_J91 w_slotOf_J91 w_pieceOf_J91 w_heldBy_J91 w_isSlotTaken_J91 = some o) (H : Heap) (locs : List Loc) (ls : Array Slot), va_P D vwCl (PX5 a0 a1 a2 a3 a4 a5 a6 a7 a8 a9 a10 a11 a12 cyI cyZ w_thrown w_size w_kinds w_as w_bs w_registers w_isMade w_steps_J91 w_stepParts_J91 w_pieces_J91 w_pieceParts_J91 w_slots_J91 w_areCounted w_registerOf_J91 w_slotOf_J91 w_pieceOf_J91 w_heldBy_J91 w_isSlotTaken_J91 w_outputs w_output) H → va_D A (PX5 a0 a1 a2 a3 a4 a5 a6 a7 a8 a9 a10 a11 a12 cyI cyZ w_thrown w_size w_kinds w_as w_bs w_registers w_isMade w_steps_J91 w_stepParts_J91 w_pieces_J91 w_pieceParts_J91 w_slots_J91 w_areCounted w_registerOf_J91 w_slotOf_J91 w_pieceOf_J91 w_heldBy_J91 w_isSlotTaken_J91 w_outputs w_output) → va_S A s.heap H locs → lv_has ls 10 [(7, .int x7_J91), (6, .int x6_J91), (5, .int x5_J91), (4, .int x4_J91), (3, .int x3_J91), (0, .ref a0), (1, .int x1_J91), (2, .int x2_J91)] → W p l e rmX5_doInstruction s m args below meth c H locs 0 0 Z (F0 m 91 ls []) := by
    intro x7_J91 x6_J91 x5_J91 x4_J91 x3_J91 x1_J91 x2_J91 w_steps_J91 w_stepParts_J91 w_pieces_J91 w_pieceParts_J91 w_slots_J91 w_registerOf_J91 w_slotOf_J91 w_pieceOf_J91 w_heldBy_J91 w_isSlotTaken_J91 hf H locs ls hP hD hS hl
    rw [f_X5_doInstruction_J91] at hf
    refine lv_iconst (v := 0) hx hb dX5_doInstruction_91 (by decide) ?_
    exact J92 x7_J91 x6_J91 x5_J91 x4_J91 x3_J91 x1_J91 x2_J91 0 w_steps_J91 w_stepParts_J91 w_pieces_J91 w_pieceParts_J91 w_slots_J91 w_registerOf_J91 w_slotOf_J91 w_pieceOf_J91 w_heldBy_J91 w_isSlotTaken_J91 hf _ _ _ hP hD hS (lv_sub hl [0, 1, 2, 3, 4, 5, 6, 7] rfl)
  have J61 : ∀ (x5_J61 : Int32) (x4_J61 : Int32) (x3_J61 : Int32) (x1_J61 : Int32) (x2_J61 : Int32) (t0_J61 : Int32) (w_steps_J61 : Int32) (w_stepParts_J61 : Nat → Int32) (w_pieces_J61 : Int32) (w_pieceParts_J61 : Nat → Int32) (w_slots_J61 : Int32) (w_registerOf_J61 : Nat → Int32) (w_slotOf_J61 : Nat → Int32) (w_pieceOf_J61 : Nat → Int32) (w_heldBy_J61 : Nat → Int32) (w_isSlotTaken_J61 : Nat → Int32) (_ : f_X5_doInstruction_J61 w_size w_kinds w_as w_bs w_areCounted x5_J61 x4_J61 x3_J61 x1_J61 x2_J61 t0_J61 w_steps_J61 w_stepParts_J61 w_pieces_J61 w_pieceParts_J61 w_slots_J61 w_registerOf_J61 w_slotOf_J61 w_pieceOf_J61 w_heldBy_J61 w_isSlotTaken_J61 = some o) (H : Heap) (locs : List Loc) (ls : Array Slot), va_P D vwCl (PX5 a0 a1 a2 a3 a4 a5 a6 a7 a8 a9 a10 a11 a12 cyI cyZ w_thrown w_size w_kinds w_as w_bs w_registers w_isMade w_steps_J61 w_stepParts_J61 w_pieces_J61 w_pieceParts_J61 w_slots_J61 w_areCounted w_registerOf_J61 w_slotOf_J61 w_pieceOf_J61 w_heldBy_J61 w_isSlotTaken_J61 w_outputs w_output) H → va_D A (PX5 a0 a1 a2 a3 a4 a5 a6 a7 a8 a9 a10 a11 a12 cyI cyZ w_thrown w_size w_kinds w_as w_bs w_registers w_isMade w_steps_J61 w_stepParts_J61 w_pieces_J61 w_pieceParts_J61 w_slots_J61 w_areCounted w_registerOf_J61 w_slotOf_J61 w_pieceOf_J61 w_heldBy_J61 w_isSlotTaken_J61 w_outputs w_output) → va_S A s.heap H locs → lv_has ls 10 [(5, .int x5_J61), (4, .int x4_J61), (3, .int x3_J61), (0, .ref a0), (1, .int x1_J61), (2, .int x2_J61)] → W p l e rmX5_doInstruction s m args below meth c H locs 0 0 Z (F0 m 61 ls [.int t0_J61]) := by
    intro x5_J61 x4_J61 x3_J61 x1_J61 x2_J61 t0_J61 w_steps_J61 w_stepParts_J61 w_pieces_J61 w_pieceParts_J61 w_slots_J61 w_registerOf_J61 w_slotOf_J61 w_pieceOf_J61 w_heldBy_J61 w_isSlotTaken_J61 hf H locs ls hP hD hS hl
    rw [f_X5_doInstruction_J61] at hf
    refine lv_istore (lv' := [(6, .int t0_J61), (5, .int x5_J61), (4, .int x4_J61), (3, .int x3_J61), (0, .ref a0), (1, .int x1_J61), (2, .int x2_J61)]) hx hb dX5_doInstruction_61 hl (by decide) rfl (fun ls hl => ?_)
    refine lv_aload_n hx hb dX5_doInstruction_63 rfl (lv_at hl 4 rfl) ?_
    refine lv_iload_n hx hb dX5_doInstruction_64 rfl (lv_at hl 3 rfl) ?_
    refine lv_iload_n hx hb dX5_doInstruction_65 rfl (lv_at hl 5 rfl) ?_
    obtain ⟨⟨u66_0, u66_1, u66_2, u66_3, u66_4⟩, hf66, hf⟩ := kbd hf
    try dsimp only at hf
    refine kc_Vi (As := [.int x3_J61, .int x1_J61]) (rest := []) (wf := (PX5 a0 a1 a2 a3 a4 a5 a6 a7 a8 a9 a10 a11 a12 cyI cyZ w_thrown w_size w_kinds w_as w_bs w_registers w_isMade w_steps_J61 w_stepParts_J61 w_pieces_J61 w_pieceParts_J61 w_slots_J61 w_areCounted u66_1 u66_2 w_pieceOf_J61 u66_3 u66_4 w_outputs w_output)) (c_X5_ends l D cyI cyZ a0 a1 a2 a3 a4 a5 a6 a7 a8 a9 a10 a11 a12 w_thrown w_size w_kinds w_as w_bs w_registers w_isMade w_steps_J61 w_stepParts_J61 w_pieces_J61 w_pieceParts_J61 w_slots_J61 w_areCounted w_registerOf_J61 w_slotOf_J61 w_pieceOf_J61 w_heldBy_J61 w_isSlotTaken_J61 w_outputs w_output x3_J61 x1_J61 (u66_0, u66_1, u66_2, u66_3, u66_4) hf66) ⟨hx, hb, hml, hown, hts⟩ (cwV 2 hts gX5_doInstruction_X5_ends rfl rfl rfl (by decide +kernel) ⟨Nat.le_of_ble_eq_true rfl, Nat.le_of_ble_eq_true rfl⟩) hK hP hD hS hA [0, 1, 2, 3, 4, 5, 6, 7, 8, 9, 10, 11, 12] [] 13 rfl rfl kR0 rfl (by decide +kernel) rfl rfl rfl rfl hl.1 rfl (Nat.le_of_ble_eq_true rfl) dX5_doInstruction_66 ⟨Nat.le_of_ble_eq_true rfl, Nat.le_of_ble_eq_true rfl⟩ (fun H locs hP hD hS => ?_)
    refine lv_istore (lv' := [(7, .int u66_0), (6, .int t0_J61), (5, .int x5_J61), (4, .int x4_J61), (3, .int x3_J61), (0, .ref a0), (1, .int x1_J61), (2, .int x2_J61)]) hx hb dX5_doInstruction_69 hl (by decide) rfl (fun ls hl => ?_)
    refine lv_iload hx hb dX5_doInstruction_71 (lv_at hl 3 rfl) ?_
    refine lv_iconst (v := (-1)) hx hb dX5_doInstruction_73 (by decide) ?_
    refine lv_icmp_eq (tgt := 91) hx hb dX5_doInstruction_74 (by decide) (fun c_74 => ?_) (fun c_74 => ?_)
    · have hf := kit c_74 hf
      exact J91 u66_0 t0_J61 x5_J61 x4_J61 x3_J61 x1_J61 x2_J61 w_steps_J61 w_stepParts_J61 w_pieces_J61 w_pieceParts_J61 w_slots_J61 u66_1 u66_2 w_pieceOf_J61 u66_3 u66_4 hf _ _ _ hP hD hS (lv_sub hl [0, 1, 2, 3, 4, 5, 6, 7] rfl)
    · have hf := kif c_74 hf
      refine lv_aload_n hx hb dX5_doInstruction_77 rfl (lv_at hl 5 rfl) ?_
      refine lv_iload hx hb dX5_doInstruction_78 (lv_at hl 3 rfl) ?_
      refine lv_iload_n hx hb dX5_doInstruction_80 rfl (lv_at hl 6 rfl) ?_
      obtain ⟨⟨u81_0, u81_1, u81_2, u81_3, u81_4⟩, hf81, hf⟩ := kbd hf
      try dsimp only at hf
      refine kc_Vi (As := [.int x4_J61, .int x1_J61]) (rest := []) (wf := (PX5 a0 a1 a2 a3 a4 a5 a6 a7 a8 a9 a10 a11 a12 cyI cyZ w_thrown w_size w_kinds w_as w_bs w_registers w_isMade w_steps_J61 w_stepParts_J61 w_pieces_J61 w_pieceParts_J61 w_slots_J61 w_areCounted u81_1 u81_2 w_pieceOf_J61 u81_3 u81_4 w_outputs w_output)) (c_X5_ends l D cyI cyZ a0 a1 a2 a3 a4 a5 a6 a7 a8 a9 a10 a11 a12 w_thrown w_size w_kinds w_as w_bs w_registers w_isMade w_steps_J61 w_stepParts_J61 w_pieces_J61 w_pieceParts_J61 w_slots_J61 w_areCounted u66_1 u66_2 w_pieceOf_J61 u66_3 u66_4 w_outputs w_output x4_J61 x1_J61 (u81_0, u81_1, u81_2, u81_3, u81_4) hf81) ⟨hx, hb, hml, hown, hts⟩ (cwV 2 hts gX5_doInstruction_X5_ends rfl rfl rfl (by decide +kernel) ⟨Nat.le_of_ble_eq_true rfl, Nat.le_of_ble_eq_true rfl⟩) hK hP hD hS hA [0, 1, 2, 3, 4, 5, 6, 7, 8, 9, 10, 11, 12] [] 13 rfl rfl kR0 rfl (by decide +kernel) rfl rfl rfl rfl hl.1 rfl (Nat.le_of_ble_eq_true rfl) dX5_doInstruction_81 ⟨Nat.le_of_ble_eq_true rfl, Nat.le_of_ble_eq_true rfl⟩ (fun H locs hP hD hS => ?_)
      refine lv_if_eq (tgt := 91) hx hb dX5_doInstruction_84 (by decide) (fun c_84 => ?_) (fun c_84 => ?_)
      · have hf := kit c_84 hf
        exact J91 u66_0 t0_J61 x5_J61 x4_J61 x3_J61 x1_J61 x2_J61 w_steps_J61 w_stepParts_J61 w_pieces_J61 w_pieceParts_J61 w_slots_J61 u81_1 u81_2 w_pieceOf_J61 u81_3 u81_4 hf _ _ _ hP hD hS (lv_sub hl [0, 1, 2, 3, 4, 5, 6, 7] rfl)
      · have hf := kif c_84 hf
        refine lv_iconst (v := 1) hx hb dX5_doInstruction_87 (by decide) ?_
        refine lv_goto (tgt := 92) hx hb dX5_doInstruction_88 (by decide) ?_
        exact J92 u66_0 t0_J61 x5_J61 x4_J61 x3_J61 x1_J61 x2_J61 1 w_steps_J61 w_stepParts_J61 w_pieces_J61 w_pieceParts_J61 w_slots_J61 u81_1 u81_2 w_pieceOf_J61 u81_3 u81_4 hf _ _ _ hP hD hS (lv_sub hl [0, 1, 2, 3, 4, 5, 6, 7] rfl)
  have J36 : ∀ (x4_J36 : Int32) (x3_J36 : Int32) (x1_J36 : Int32) (x2_J36 : Int32) (w_steps_J36 : Int32) (w_stepParts_J36 : Nat → Int32) (w_pieces_J36 : Int32) (w_pieceParts_J36 : Nat → Int32) (w_slots_J36 : Int32) (w_registerOf_J36 : Nat → Int32) (w_slotOf_J36 : Nat → Int32) (w_pieceOf_J36 : Nat → Int32) (w_heldBy_J36 : Nat → Int32) (w_isSlotTaken_J36 : Nat → Int32) (_ : f_X5_doInstruction_J36 w_size w_kinds w_as w_bs w_areCounted x4_J36 x3_J36 x1_J36 x2_J36 w_steps_J36 w_stepParts_J36 w_pieces_J36 w_pieceParts_J36 w_slots_J36 w_registerOf_J36 w_slotOf_J36 w_pieceOf_J36 w_heldBy_J36 w_isSlotTaken_J36 = some o) (H : Heap) (locs : List Loc) (ls : Array Slot), va_P D vwCl (PX5 a0 a1 a2 a3 a4 a5 a6 a7 a8 a9 a10 a11 a12 cyI cyZ w_thrown w_size w_kinds w_as w_bs w_registers w_isMade w_steps_J36 w_stepParts_J36 w_pieces_J36 w_pieceParts_J36 w_slots_J36 w_areCounted w_registerOf_J36 w_slotOf_J36 w_pieceOf_J36 w_heldBy_J36 w_isSlotTaken_J36 w_outputs w_output) H → va_D A (PX5 a0 a1 a2 a3 a4 a5 a6 a7 a8 a9 a10 a11 a12 cyI cyZ w_thrown w_size w_kinds w_as w_bs w_registers w_isMade w_steps_J36 w_stepParts_J36 w_pieces_J36 w_pieceParts_J36 w_slots_J36 w_areCounted w_registerOf_J36 w_slotOf_J36 w_pieceOf_J36 w_heldBy_J36 w_isSlotTaken_J36 w_outputs w_output) → va_S A s.heap H locs → lv_has ls 10 [(4, .int x4_J36), (3, .int x3_J36), (0, .ref a0), (1, .int x1_J36), (2, .int x2_J36)] → W p l e rmX5_doInstruction s m args below meth c H locs 0 0 Z (F0 m 36 ls []) := by
    intro x4_J36 x3_J36 x1_J36 x2_J36 w_steps_J36 w_stepParts_J36 w_pieces_J36 w_pieceParts_J36 w_slots_J36 w_registerOf_J36 w_slotOf_J36 w_pieceOf_J36 w_heldBy_J36 w_isSlotTaken_J36 hf H locs ls hP hD hS hl
    rw [f_X5_doInstruction_J36] at hf
    refine lv_aload_n hx hb dX5_doInstruction_36 rfl (lv_at hl 2 rfl) ?_
    refine va_get (D := D) (ci := 5) (v := .ref a7) (C := RX5) (T := TX5) (N := 20) hx hb hts i_X5 hown hK hP 0 rfl rfl 13 (by decide) k33 (fun _ h9 => h9) rfl dX5_doInstruction_37 ?_
    refine lv_iload_n hx hb dX5_doInstruction_40 rfl (lv_at hl 1 rfl) ?_
    obtain ⟨h_41, hf⟩ := rdc_some hf
    refine va_iald hx hb hK hP 7 0 rfl rfl h_41 dX5_doInstruction_41 ?_
    refine lv_istore (lv' := [(5, .int (w_registerOf_J36 x3_J36.toNatClampNeg)), (4, .int x4_J36), (3, .int x3_J36), (0, .ref a0), (1, .int x1_J36), (2, .int x2_J36)]) hx hb dX5_doInstruction_42 hl (by decide) rfl (fun ls hl => ?_)
    refine lv_iload hx hb dX5_doInstruction_44 (lv_at hl 1 rfl) ?_
    refine lv_iconst (v := (-1)) hx hb dX5_doInstruction_46 (by decide) ?_
    refine lv_icmp_ne (tgt := 54) hx hb dX5_doInstruction_47 (by decide) (fun c_47 => ?_) (fun c_47 => ?_)
    · have hf := kif c_47 hf
      refine lv_aload_n hx hb dX5_doInstruction_54 rfl (lv_at hl 3 rfl) ?_
      refine va_get (D := D) (ci := 5) (v := .ref a7) (C := RX5) (T := TX5) (N := 20) hx hb hts i_X5 hown hK hP 0 rfl rfl 13 (by decide) k33 (fun _ h9 => h9) rfl dX5_doInstruction_55 ?_
      refine lv_iload hx hb dX5_doInstruction_58 (lv_at hl 1 rfl) ?_
      obtain ⟨h_60, hf⟩ := rdc_some hf
      refine va_iald hx hb hK hP 7 0 rfl rfl h_60 dX5_doInstruction_60 ?_
      exact J61 (w_registerOf_J36 x3_J36.toNatClampNeg) x4_J36 x3_J36 x1_J36 x2_J36 (w_registerOf_J36 x4_J36.toNatClampNeg) w_steps_J36 w_stepParts_J36 w_pieces_J36 w_pieceParts_J36 w_slots_J36 w_registerOf_J36 w_slotOf_J36 w_pieceOf_J36 w_heldBy_J36 w_isSlotTaken_J36 hf _ _ _ hP hD hS (lv_sub hl [0, 1, 2, 3, 4, 5] rfl)
    · have hf := kit c_47 hf
      refine lv_iconst (v := (-1)) hx hb dX5_doInstruction_50 (by decide) ?_
      refine lv_goto (tgt := 61) hx hb dX5_doInstruction_51 (by decide) ?_
      exact J61 (w_registerOf_J36 x3_J36.toNatClampNeg) x4_J36 x3_J36 x1_J36 x2_J36 (-1) w_steps_J36 w_stepParts_J36 w_pieces_J36 w_pieceParts_J36 w_slots_J36 w_registerOf_J36 w_slotOf_J36 w_pieceOf_J36 w_heldBy_J36 w_isSlotTaken_J36 hf _ _ _ hP hD hS (lv_sub hl [0, 1, 2, 3, 4, 5] rfl)
  rw [f_X5_doInstruction] at hf
  refine lv_aload_n hx hb dX5_doInstruction_0 rfl (lv_at hl 0 rfl) ?_
  refine va_get (D := D) (ci := 5) (v := .ref a2) (C := RX5) (T := TX5) (N := 20) hx hb hts i_X5 hown hK hP 0 rfl rfl 3 (by decide) k13 (fun _ h9 => h9) rfl dX5_doInstruction_1 ?_
  refine lv_iload_n hx hb dX5_doInstruction_4 rfl (lv_at hl 1 rfl) ?_
  obtain ⟨h_5, hf⟩ := rdc_some hf
  refine va_iald hx hb hK hP 2 0 rfl rfl h_5 dX5_doInstruction_5 ?_
  refine lv_istore_n (lv' := [(3, .int (w_as p1.toNatClampNeg)), (0, .ref a0), (1, .int p1), (2, .int p2)]) hx hb dX5_doInstruction_6 rfl hl (by decide) rfl (fun ls hl => ?_)
  refine lv_aload_n hx hb dX5_doInstruction_7 rfl (lv_at hl 1 rfl) ?_
  refine va_get (D := D) (ci := 5) (v := .ref a3) (C := RX5) (T := TX5) (N := 20) hx hb hts i_X5 hown hK hP 0 rfl rfl 4 (by decide) k16 (fun _ h9 => h9) rfl dX5_doInstruction_8 ?_
  refine lv_iload_n hx hb dX5_doInstruction_11 rfl (lv_at hl 2 rfl) ?_
  obtain ⟨h_12, hf⟩ := rdc_some hf
  refine va_iald hx hb hK hP 3 0 rfl rfl h_12 dX5_doInstruction_12 ?_
  refine lv_istore (lv' := [(4, .int (w_bs p1.toNatClampNeg)), (3, .int (w_as p1.toNatClampNeg)), (0, .ref a0), (1, .int p1), (2, .int p2)]) hx hb dX5_doInstruction_13 hl (by decide) rfl (fun ls hl => ?_)
  refine lv_aload_n hx hb dX5_doInstruction_15 rfl (lv_at hl 2 rfl) ?_
  refine lv_iload_n hx hb dX5_doInstruction_16 rfl (lv_at hl 1 rfl) ?_
  refine lv_iload_n hx hb dX5_doInstruction_17 rfl (lv_at hl 3 rfl) ?_
  refine lv_iload_n hx hb dX5_doInstruction_18 rfl (lv_at hl 4 rfl) ?_
  obtain ⟨⟨u19_0, u19_1, u19_2, u19_3, u19_4, u19_5, u19_6, u19_7, u19_8, u19_9⟩, hf19, hf⟩ := kbd hf
  try dsimp only at hf
  refine kc_Vv (As := [.int (w_as p1.toNatClampNeg), .int p1, .int p2]) (rest := []) (wf := (PX5 a0 a1 a2 a3 a4 a5 a6 a7 a8 a9 a10 a11 a12 cyI cyZ w_thrown w_size w_kinds w_as w_bs w_registers w_isMade u19_0 u19_1 u19_2 u19_3 u19_4 w_areCounted u19_5 u19_6 u19_7 u19_8 u19_9 w_outputs w_output)) (c_X5_bring l D cyI cyZ a0 a1 a2 a3 a4 a5 a6 a7 a8 a9 a10 a11 a12 w_thrown w_size w_kinds w_as w_bs w_registers w_isMade w_steps w_stepParts w_pieces w_pieceParts w_slots w_areCounted w_registerOf w_slotOf w_pieceOf w_heldBy w_isSlotTaken w_outputs w_output (w_as p1.toNatClampNeg) p1 p2 (u19_0, u19_1, u19_2, u19_3, u19_4, u19_5, u19_6, u19_7, u19_8, u19_9) hf19) ⟨hx, hb, hml, hown, hts⟩ (cwV 3 hts gX5_doInstruction_X5_bring rfl rfl rfl (by decide +kernel) ⟨Nat.le_of_ble_eq_true rfl, Nat.le_of_ble_eq_true rfl⟩) hK hP hD hS hA [0, 1, 2, 3, 4, 5, 6, 7, 8, 9, 10, 11, 12] [] 13 rfl rfl kR0 rfl (by decide +kernel) rfl rfl rfl rfl hl.1 rfl (Nat.le_of_ble_eq_true rfl) dX5_doInstruction_19 ⟨Nat.le_of_ble_eq_true rfl, Nat.le_of_ble_eq_true rfl⟩ (fun H locs hP hD hS => ?_)
  refine lv_iload hx hb dX5_doInstruction_22 (lv_at hl 0 rfl) ?_
  refine lv_iconst (v := (-1)) hx hb dX5_doInstruction_24 (by decide) ?_
  refine lv_icmp_eq (tgt := 36) hx hb dX5_doInstruction_25 (by decide) (fun c_25 => ?_) (fun c_25 => ?_)
  · have hf := kit c_25 hf
    exact J36 (w_bs p1.toNatClampNeg) (w_as p1.toNatClampNeg) p1 p2 u19_0 u19_1 u19_2 u19_3 u19_4 u19_5 u19_6 u19_7 u19_8 u19_9 hf _ _ _ hP hD hS (lv_sub hl [0, 1, 2, 3, 4] rfl)
  · have hf := kif c_25 hf
    refine lv_aload_n hx hb dX5_doInstruction_28 rfl (lv_at hl 2 rfl) ?_
    refine lv_iload hx hb dX5_doInstruction_29 (lv_at hl 0 rfl) ?_
    refine lv_iload_n hx hb dX5_doInstruction_31 rfl (lv_at hl 3 rfl) ?_
    refine lv_iload_n hx hb dX5_doInstruction_32 rfl (lv_at hl 4 rfl) ?_
    obtain ⟨⟨u33_0, u33_1, u33_2, u33_3, u33_4, u33_5, u33_6, u33_7, u33_8, u33_9⟩, hf33, hf⟩ := kbd hf
    try dsimp only at hf
    refine kc_Vv (As := [.int (w_bs p1.toNatClampNeg), .int p1, .int p2]) (rest := []) (wf := (PX5 a0 a1 a2 a3 a4 a5 a6 a7 a8 a9 a10 a11 a12 cyI cyZ w_thrown w_size w_kinds w_as w_bs w_registers w_isMade u33_0 u33_1 u33_2 u33_3 u33_4 w_areCounted u33_5 u33_6 u33_7 u33_8 u33_9 w_outputs w_output)) (c_X5_bring l D cyI cyZ a0 a1 a2 a3 a4 a5 a6 a7 a8 a9 a10 a11 a12 w_thrown w_size w_kinds w_as w_bs w_registers w_isMade u19_0 u19_1 u19_2 u19_3 u19_4 w_areCounted u19_5 u19_6 u19_7 u19_8 u19_9 w_outputs w_output (w_bs p1.toNatClampNeg) p1 p2 (u33_0, u33_1, u33_2, u33_3, u33_4, u33_5, u33_6, u33_7, u33_8, u33_9) hf33) ⟨hx, hb, hml, hown, hts⟩ (cwV 3 hts gX5_doInstruction_X5_bring rfl rfl rfl (by decide +kernel) ⟨Nat.le_of_ble_eq_true rfl, Nat.le_of_ble_eq_true rfl⟩) hK hP hD hS hA [0, 1, 2, 3, 4, 5, 6, 7, 8, 9, 10, 11, 12] [] 13 rfl rfl kR0 rfl (by decide +kernel) rfl rfl rfl rfl hl.1 rfl (Nat.le_of_ble_eq_true rfl) dX5_doInstruction_33 ⟨Nat.le_of_ble_eq_true rfl, Nat.le_of_ble_eq_true rfl⟩ (fun H locs hP hD hS => ?_)
    exact J36 (w_bs p1.toNatClampNeg) (w_as p1.toNatClampNeg) p1 p2 u33_0 u33_1 u33_2 u33_3 u33_4 u33_5 u33_6 u33_7 u33_8 u33_9 hf _ _ _ hP hD hS (lv_sub hl [0, 1, 2, 3, 4] rfl)

abbrev rmX5_make : Room := { frames := 6, cells := 0, slots := 0, locals := 150 }
set_option maxHeartbeats 4000000 in
set_option maxRecDepth 100000 in
theorem c_X5_make (l : Launch) (D : va_G) (cyI cyZ : ClassId) (a0 a1 a2 a3 a4 a5 a6 a7 a8 a9 a10 a11 a12 : Nat) (w_thrown : Int32) (w_size : Int32) (w_kinds : Nat → Int32) (w_as : Nat → Int32) (w_bs : Nat → Int32) (w_registers : Int32) (w_isMade : Int32) (w_steps : Int32) (w_stepParts : Nat → Int32) (w_pieces : Int32) (w_pieceParts : Nat → Int32) (w_slots : Int32) (w_areCounted : Nat → Int32) (w_registerOf : Nat → Int32) (w_slotOf : Nat → Int32) (w_pieceOf : Nat → Int32) (w_heldBy : Nat → Int32) (w_isSlotTaken : Nat → Int32) (w_outputs : Int32) (w_output : Nat → Int32) (p1 : Int32) (o : Int32 × (Nat → Int32) × Int32 × (Nat → Int32) × Int32 × (Nat → Int32) × (Nat → Int32) × (Nat → Int32) × (Nat → Int32) × (Nat → Int32) × (Nat → Int32)) (hf : f_X5_make p1 w_size w_kinds w_as w_bs w_stepParts w_pieceParts w_areCounted w_registerOf w_slotOf w_pieceOf w_heldBy w_isSlotTaken = some o) : kMv l yX5_make wsX5_make rmX5_make [.ref a0, .int p1] D (PX5 a0 a1 a2 a3 a4 a5 a6 a7 a8 a9 a10 a11 a12 cyI cyZ w_thrown w_size w_kinds w_as w_bs w_registers w_isMade w_steps w_stepParts w_pieces w_pieceParts w_slots w_areCounted w_registerOf w_slotOf w_pieceOf w_heldBy w_isSlotTaken w_outputs w_output) (PX5 a0 a1 a2 a3 a4 a5 a6 a7 a8 a9 a10 a11 a12 cyI cyZ w_thrown w_size w_kinds w_as w_bs w_registers w_isMade o.1 o.2.1 o.2.2.1 o.2.2.2.1 o.2.2.2.2.1 o.2.2.2.2.2.1 o.2.2.2.2.2.2.1 o.2.2.2.2.2.2.2.1 o.2.2.2.2.2.2.2.2.1 o.2.2.2.2.2.2.2.2.2.1 o.2.2.2.2.2.2.2.2.2.2 w_outputs w_output) (kT cyI cyZ) 0 0 := by
  refine kOf_v (cc := cX5_make) (maxL := 3) (by decide +kernel) rfl (Nat.le_of_ble_eq_true rfl) ?_
  intro p e s m args below meth c A Z ls C0 hP hK hD hA hl ret
  obtain ⟨hx, hb, hr, hml, hown, hts, hlocks⟩ := C0
  have hown : s.vm.findClass RX5 = some m.cls := hown
  have hl : lv_has ls 3 [(0, .ref a0), (1, .int p1)] := hl
  have hS : va_S A s.heap s.heap [] := va_S.rf
  have i_X5 : ∀ w ∈ wsX50, w ∈ wsX5_make := by decide +kernel
  have k102 := hts (.fieldLink RX5 102 "RegisterAllocatorModel" "slots" "I") (by decide +kernel)
  have k29 := hts (.fieldLink RX5 29 "RegisterAllocatorModel" "areCounted" "[Z") (by decide +kernel)
  have k33 := hts (.fieldLink RX5 33 "RegisterAllocatorModel" "registerOf" "[I") (by decide +kernel)
  have k36 := hts (.fieldLink RX5 36 "RegisterAllocatorModel" "slotOf" "[I") (by decide +kernel)
  have k42 := hts (.fieldLink RX5 42 "RegisterAllocatorModel" "heldBy" "[I") (by decide +kernel)
  have k45 := hts (.fieldLink RX5 45 "RegisterAllocatorModel" "isSlotTaken" "[Z") (by decide +kernel)
  have k54 := hts (.fieldLink RX5 54 "RegisterAllocatorModel" "size" "I") (by decide +kernel)
  have k9 := hts (.fieldLink RX5 9 "RegisterAllocatorModel" "kinds" "[I") (by decide +kernel)
  have k92 := hts (.fieldLink RX5 92 "RegisterAllocatorModel" "steps" "I") (by decide +kernel)
  have k95 := hts (.fieldLink RX5 95 "RegisterAllocatorModel" "pieces" "I") (by decide +kernel)
  rw [f_X5_make] at hf
  refine lv_aload_n hx hb dX5_make_0 rfl (lv_at hl 0 rfl) ?_
  obtain ⟨u1, hf1, hf⟩ := kbd hf
  refine kc_Vv (As := []) (rest := []) (wf := (PX5 a0 a1 a2 a3 a4 a5 a6 a7 a8 a9 a10 a11 a12 cyI cyZ w_thrown w_size w_kinds w_as w_bs w_registers w_isMade w_steps w_stepParts w_pieces w_pieceParts w_slots u1 w_registerOf w_slotOf w_pieceOf w_heldBy w_isSlotTaken w_outputs w_output)) (c_X5_count l D cyI cyZ a0 a1 a2 a3 a4 a5 a6 a7 a8 a9 a10 a11 a12 w_thrown w_size w_kinds w_as w_bs w_registers w_isMade w_steps w_stepParts w_pieces w_pieceParts w_slots w_areCounted w_registerOf w_slotOf w_pieceOf w_heldBy w_isSlotTaken w_outputs w_output u1 hf1) ⟨hx, hb, hml, hown, hts⟩ (cwV 0 hts gX5_make_X5_count rfl rfl rfl (by decide +kernel) ⟨Nat.le_of_ble_eq_true rfl, Nat.le_of_ble_eq_true rfl⟩) hK hP hD hS hA [0, 1, 2, 3, 4, 5, 6, 7, 8, 9, 10, 11, 12] [] 13 rfl rfl kR0 rfl (by decide +kernel) rfl rfl rfl rfl hl.1 rfl (Nat.le_of_ble_eq_true rfl) dX5_make_1 ⟨Nat.le_of_ble_eq_true rfl, Nat.le_of_ble_eq_true rfl⟩ (fun H locs hP hD hS => ?_)
  refine lv_aload_n hx hb dX5_make_4 rfl (lv_at hl 0 rfl) ?_
  refine lv_iconst (v := 0) hx hb dX5_make_5 (by decide) ?_
  refine va_put (D := D) (ci := 5) (v := .int 0) (ty := .int) (C := RX5) (T := TX5) (N := 20) hx hb hts i_X5 tyX5 tyX5_ok nmX5 hown hK hP hD hS 0 rfl rfl 7 (by decide) k92 (fun _ h9 => h9) rfl (by decide +kernel) rfl (by first | rfl | decide) (Nat.le_of_ble_eq_true rfl) dX5_make_6 (fun H locs hP hD hS => ?_)
  have hP : va_P D vwCl (PX5 a0 a1 a2 a3 a4 a5 a6 a7 a8 a9 a10 a11 a12 cyI cyZ w_thrown w_size w_kinds w_as w_bs w_registers w_isMade 0 w_stepParts w_pieces w_pieceParts w_slots u1 w_registerOf w_slotOf w_pieceOf w_heldBy w_isSlotTaken w_outputs w_output) H := hP
  have hD : va_D A (PX5 a0 a1 a2 a3 a4 a5 a6 a7 a8 a9 a10 a11 a12 cyI cyZ w_thrown w_size w_kinds w_as w_bs w_registers w_isMade 0 w_stepParts w_pieces w_pieceParts w_slots u1 w_registerOf w_slotOf w_pieceOf w_heldBy w_isSlotTaken w_outputs w_output) := hD
  refine lv_aload_n hx hb dX5_make_9 rfl (lv_at hl 0 rfl) ?_
  refine lv_iconst (v := 0) hx hb dX5_make_10 (by decide) ?_
  refine va_put (D := D) (ci := 5) (v := .int 0) (ty := .int) (C := RX5) (T := TX5) (N := 20) hx hb hts i_X5 tyX5 tyX5_ok nmX5 hown hK hP hD hS 0 rfl rfl 9 (by decide) k95 (fun _ h9 => h9) rfl (by decide +kernel) rfl (by first | rfl | decide) (Nat.le_of_ble_eq_true rfl) dX5_make_11 (fun H locs hP hD hS => ?_)
  have hP : va_P D vwCl (PX5 a0 a1 a2 a3 a4 a5 a6 a7 a8 a9 a10 a11 a12 cyI cyZ w_thrown w_size w_kinds w_as w_bs w_registers w_isMade 0 w_stepParts 0 w_pieceParts w_slots u1 w_registerOf w_slotOf w_pieceOf w_heldBy w_isSlotTaken w_outputs w_output) H := hP
  have hD : va_D A (PX5 a0 a1 a2 a3 a4 a5 a6 a7 a8 a9 a10 a11 a12 cyI cyZ w_thrown w_size w_kinds w_as w_bs w_registers w_isMade 0 w_stepParts 0 w_pieceParts w_slots u1 w_registerOf w_slotOf w_pieceOf w_heldBy w_isSlotTaken w_outputs w_output) := hD
  refine lv_aload_n hx hb dX5_make_14 rfl (lv_at hl 0 rfl) ?_
  refine lv_iconst (v := 0) hx hb dX5_make_15 (by decide) ?_
  refine va_put (D := D) (ci := 5) (v := .int 0) (ty := .int) (C := RX5) (T := TX5) (N := 20) hx hb hts i_X5 tyX5 tyX5_ok nmX5 hown hK hP hD hS 0 rfl rfl 11 (by decide) k102 (fun _ h9 => h9) rfl (by decide +kernel) rfl (by first | rfl | decide) (Nat.le_of_ble_eq_true rfl) dX5_make_16 (fun H locs hP hD hS => ?_)
  have hP : va_P D vwCl (PX5 a0 a1 a2 a3 a4 a5 a6 a7 a8 a9 a10 a11 a12 cyI cyZ w_thrown w_size w_kinds w_as w_bs w_registers w_isMade 0 w_stepParts 0 w_pieceParts 0 u1 w_registerOf w_slotOf w_pieceOf w_heldBy w_isSlotTaken w_outputs w_output) H := hP
  have hD : va_D A (PX5 a0 a1 a2 a3 a4 a5 a6 a7 a8 a9 a10 a11 a12 cyI cyZ w_thrown w_size w_kinds w_as w_bs w_registers w_isMade 0 w_stepParts 0 w_pieceParts 0 u1 w_registerOf w_slotOf w_pieceOf w_heldBy w_isSlotTaken w_outputs w_output) := hD
  refine lv_iconst (v := 0) hx hb dX5_make_19 (by decide) ?_
  refine lv_istore_n (lv' := [(2, .int 0), (0, .ref a0), (1, .int p1)]) hx hb dX5_make_20 rfl hl (by decide) rfl (fun ls hl => ?_)
  have L21 : ∀ (n : Nat) (x2_L21 : Int32) (w_registerOf_L21 : Nat → Int32) (w_slotOf_L21 : Nat → Int32) (w_isSlotTaken_L21 : Nat → Int32) (o9 : (Nat → Int32) × (Nat → Int32) × (Nat → Int32)) (_ : f_X5_make_L21 n x2_L21 w_registerOf_L21 w_slotOf_L21 w_isSlotTaken_L21 = some o9) (H : Heap) (locs : List Loc) (ls : Array Slot), va_P D vwCl (PX5 a0 a1 a2 a3 a4 a5 a6 a7 a8 a9 a10 a11 a12 cyI cyZ w_thrown w_size w_kinds w_as w_bs w_registers w_isMade 0 w_stepParts 0 w_pieceParts 0 u1 w_registerOf_L21 w_slotOf_L21 w_pieceOf w_heldBy w_isSlotTaken_L21 w_outputs w_output) H → va_D A (PX5 a0 a1 a2 a3 a4 a5 a6 a7 a8 a9 a10 a11 a12 cyI cyZ w_thrown w_size w_kinds w_as w_bs w_registers w_isMade 0 w_stepParts 0 w_pieceParts 0 u1 w_registerOf_L21 w_slotOf_L21 w_pieceOf w_heldBy w_isSlotTaken_L21 w_outputs w_output) → va_S A s.heap H locs → lv_has ls 3 [(2, .int x2_L21), (0, .ref a0), (1, .int p1)] → (∀ (H : Heap) (locs : List Loc) (ls : Array Slot), va_P D vwCl (PX5 a0 a1 a2 a3 a4 a5 a6 a7 a8 a9 a10 a11 a12 cyI cyZ w_thrown w_size w_kinds w_as w_bs w_registers w_isMade 0 w_stepParts 0 w_pieceParts 0 u1 o9.1 o9.2.1 w_pieceOf w_heldBy o9.2.2 w_outputs w_output) H → va_D A (PX5 a0 a1 a2 a3 a4 a5 a6 a7 a8 a9 a10 a11 a12 cyI cyZ w_thrown w_size w_kinds w_as w_bs w_registers w_isMade 0 w_stepParts 0 w_pieceParts 0 u1 o9.1 o9.2.1 w_pieceOf w_heldBy o9.2.2 w_outputs w_output) → va_S A s.heap H locs → lv_has ls 3 [(0, .ref a0), (1, .int p1)] → W p l e rmX5_make s m args below meth c H locs 0 0 Z (F0 m 54 ls [])) → W p l e rmX5_make s m args below meth c H locs 0 0 Z (F0 m 21 ls []) := by
    intro n
    induction n with
    | zero =>
      intro x2_L21 w_registerOf_L21 w_slotOf_L21 w_isSlotTaken_L21 o9 hf
      rw [f_X5_make_L21] at hf
      cases hf
    | succ n ih =>
      intro x2_L21 w_registerOf_L21 w_slotOf_L21 w_isSlotTaken_L21 o9 hf H locs ls hP hD hS hl kx
      rw [f_X5_make_L21] at hf
      refine lv_iload_n hx hb dX5_make_21 rfl (lv_at hl 0 rfl) ?_
      refine lv_bipush (v := 60) hx hb dX5_make_22 (by decide) ?_
      refine lv_icmp_ge (tgt := 54) hx hb dX5_make_24 (by decide) (fun c_24 => ?_) (fun c_24 => ?_)
      · have hf := kit c_24 hf
        obtain rfl := Option.some.inj hf
        exact kx _ _ _ hP hD hS (lv_sub hl [1, 2] rfl)
      · have hf := kif c_24 hf
        refine lv_aload_n hx hb dX5_make_27 rfl (lv_at hl 1 rfl) ?_
        refine va_get (D := D) (ci := 5) (v := .ref a7) (C := RX5) (T := TX5) (N := 20) hx hb hts i_X5 hown hK hP 0 rfl rfl 13 (by decide) k33 (fun _ h9 => h9) rfl dX5_make_28 ?_
        refine lv_iload_n hx hb dX5_make_31 rfl (lv_at hl 0 rfl) ?_
        refine lv_iconst (v := (-1)) hx hb dX5_make_32 (by decide) ?_
        obtain ⟨h_33, hf⟩ := rdc_some hf
        refine va_iast hx hb hK hP hD hS 7 0 rfl rfl h_33 dX5_make_33 (fun H locs hP hD hS => ?_)
        have hP : va_P D vwCl (PX5 a0 a1 a2 a3 a4 a5 a6 a7 a8 a9 a10 a11 a12 cyI cyZ w_thrown w_size w_kinds w_as w_bs w_registers w_isMade 0 w_stepParts 0 w_pieceParts 0 u1 (upd w_registerOf_L21 x2_L21.toNatClampNeg (-1)) w_slotOf_L21 w_pieceOf w_heldBy w_isSlotTaken_L21 w_outputs w_output) H := hP
        have hD : va_D A (PX5 a0 a1 a2 a3 a4 a5 a6 a7 a8 a9 a10 a11 a12 cyI cyZ w_thrown w_size w_kinds w_as w_bs w_registers w_isMade 0 w_stepParts 0 w_pieceParts 0 u1 (upd w_registerOf_L21 x2_L21.toNatClampNeg (-1)) w_slotOf_L21 w_pieceOf w_heldBy w_isSlotTaken_L21 w_outputs w_output) := hD
        refine lv_aload_n hx hb dX5_make_34 rfl (lv_at hl 1 rfl) ?_
        refine va_get (D := D) (ci := 5) (v := .ref a8) (C := RX5) (T := TX5) (N := 20) hx hb hts i_X5 hown hK hP 0 rfl rfl 14 (by decide) k36 (fun _ h9 => h9) rfl dX5_make_35 ?_
        refine lv_iload_n hx hb dX5_make_38 rfl (lv_at hl 0 rfl) ?_
        refine lv_iconst (v := (-1)) hx hb dX5_make_39 (by decide) ?_
        obtain ⟨h_40, hf⟩ := rdc_some hf
        refine va_iast hx hb hK hP hD hS 8 0 rfl rfl h_40 dX5_make_40 (fun H locs hP hD hS => ?_)
        have hP : va_P D vwCl (PX5 a0 a1 a2 a3 a4 a5 a6 a7 a8 a9 a10 a11 a12 cyI cyZ w_thrown w_size w_kinds w_as w_bs w_registers w_isMade 0 w_stepParts 0 w_pieceParts 0 u1 (upd w_registerOf_L21 x2_L21.toNatClampNeg (-1)) (upd w_slotOf_L21 x2_L21.toNatClampNeg (-1)) w_pieceOf w_heldBy w_isSlotTaken_L21 w_outputs w_output) H := hP
        have hD : va_D A (PX5 a0 a1 a2 a3 a4 a5 a6 a7 a8 a9 a10 a11 a12 cyI cyZ w_thrown w_size w_kinds w_as w_bs w_registers w_isMade 0 w_stepParts 0 w_pieceParts 0 u1 (upd w_registerOf_L21 x2_L21.toNatClampNeg (-1)) (upd w_slotOf_L21 x2_L21.toNatClampNeg (-1)) w_pieceOf w_heldBy w_isSlotTaken_L21 w_outputs w_output) := hD
        refine lv_aload_n hx hb dX5_make_41 rfl (lv_at hl 1 rfl) ?_
        refine va_get (D := D) (ci := 5) (v := .ref a11) (C := RX5) (T := TX5) (N := 20) hx hb hts i_X5 hown hK hP 0 rfl rfl 17 (by decide) k45 (fun _ h9 => h9) rfl dX5_make_42 ?_
        refine lv_iload_n hx hb dX5_make_45 rfl (lv_at hl 0 rfl) ?_
        refine lv_iconst (v := 0) hx hb dX5_make_46 (by decide) ?_
        obtain ⟨h_47, hf⟩ := rdc_some hf
        refine kc_zast hx hb hK hP hD hS 11 1 rfl rfl knar0 h_47 dX5_make_47 (fun H locs hP hD hS => ?_)
        have hP : va_P D vwCl (PX5 a0 a1 a2 a3 a4 a5 a6 a7 a8 a9 a10 a11 a12 cyI cyZ w_thrown w_size w_kinds w_as w_bs w_registers w_isMade 0 w_stepParts 0 w_pieceParts 0 u1 (upd w_registerOf_L21 x2_L21.toNatClampNeg (-1)) (upd w_slotOf_L21 x2_L21.toNatClampNeg (-1)) w_pieceOf w_heldBy (upd w_isSlotTaken_L21 x2_L21.toNatClampNeg 0) w_outputs w_output) H := hP
        have hD : va_D A (PX5 a0 a1 a2 a3 a4 a5 a6 a7 a8 a9 a10 a11 a12 cyI cyZ w_thrown w_size w_kinds w_as w_bs w_registers w_isMade 0 w_stepParts 0 w_pieceParts 0 u1 (upd w_registerOf_L21 x2_L21.toNatClampNeg (-1)) (upd w_slotOf_L21 x2_L21.toNatClampNeg (-1)) w_pieceOf w_heldBy (upd w_isSlotTaken_L21 x2_L21.toNatClampNeg 0) w_outputs w_output) := hD
        refine lv_iinc (v := (x2_L21 + 1)) (lv' := [(2, .int (x2_L21 + 1)), (0, .ref a0), (1, .int p1)]) hx hb dX5_make_48 hl (k := 0) rfl rfl (by decide) rfl (fun ls hl => ?_)
        refine lv_goto (tgt := 21) hx hb dX5_make_51 (by decide) ?_
        exact ih (x2_L21 + 1) (upd w_registerOf_L21 x2_L21.toNatClampNeg (-1)) (upd w_slotOf_L21 x2_L21.toNatClampNeg (-1)) (upd w_isSlotTaken_L21 x2_L21.toNatClampNeg 0) _ hf _ _ _ hP hD hS (lv_sub hl [0, 1, 2] rfl) kx
  obtain ⟨⟨v21_0, v21_1, v21_2⟩, hf21, hf⟩ := kbd hf
  try dsimp only at hf
  refine L21 4000 0 w_registerOf w_slotOf w_isSlotTaken (v21_0, v21_1, v21_2) hf21 _ _ _ hP hD hS (lv_sub hl [0, 1, 2] rfl) (fun H locs ls hP hD hS hl => ?_)
  have hP : va_P D vwCl (PX5 a0 a1 a2 a3 a4 a5 a6 a7 a8 a9 a10 a11 a12 cyI cyZ w_thrown w_size w_kinds w_as w_bs w_registers w_isMade 0 w_stepParts 0 w_pieceParts 0 u1 v21_0 v21_1 w_pieceOf w_heldBy v21_2 w_outputs w_output) H := hP
  have hD : va_D A (PX5 a0 a1 a2 a3 a4 a5 a6 a7 a8 a9 a10 a11 a12 cyI cyZ w_thrown w_size w_kinds w_as w_bs w_registers w_isMade 0 w_stepParts 0 w_pieceParts 0 u1 v21_0 v21_1 w_pieceOf w_heldBy v21_2 w_outputs w_output) := hD
  have hl : lv_has ls 3 [(0, .ref a0), (1, .int p1)] := hl
  refine lv_iconst (v := 0) hx hb dX5_make_54 (by decide) ?_
  refine lv_istore_n (lv' := [(2, .int 0), (0, .ref a0), (1, .int p1)]) hx hb dX5_make_55 rfl hl (by decide) rfl (fun ls hl => ?_)
  have L56 : ∀ (n : Nat) (x2_L56 : Int32) (w_heldBy_L56 : Nat → Int32) (o9 : (Nat → Int32)) (_ : f_X5_make_L56 n x2_L56 w_heldBy_L56 = some o9) (H : Heap) (locs : List Loc) (ls : Array Slot), va_P D vwCl (PX5 a0 a1 a2 a3 a4 a5 a6 a7 a8 a9 a10 a11 a12 cyI cyZ w_thrown w_size w_kinds w_as w_bs w_registers w_isMade 0 w_stepParts 0 w_pieceParts 0 u1 v21_0 v21_1 w_pieceOf w_heldBy_L56 v21_2 w_outputs w_output) H → va_D A (PX5 a0 a1 a2 a3 a4 a5 a6 a7 a8 a9 a10 a11 a12 cyI cyZ w_thrown w_size w_kinds w_as w_bs w_registers w_isMade 0 w_stepParts 0 w_pieceParts 0 u1 v21_0 v21_1 w_pieceOf w_heldBy_L56 v21_2 w_outputs w_output) → va_S A s.heap H locs → lv_has ls 3 [(2, .int x2_L56), (0, .ref a0), (1, .int p1)] → (∀ (H : Heap) (locs : List Loc) (ls : Array Slot), va_P D vwCl (PX5 a0 a1 a2 a3 a4 a5 a6 a7 a8 a9 a10 a11 a12 cyI cyZ w_thrown w_size w_kinds w_as w_bs w_registers w_isMade 0 w_stepParts 0 w_pieceParts 0 u1 v21_0 v21_1 w_pieceOf o9 v21_2 w_outputs w_output) H → va_D A (PX5 a0 a1 a2 a3 a4 a5 a6 a7 a8 a9 a10 a11 a12 cyI cyZ w_thrown w_size w_kinds w_as w_bs w_registers w_isMade 0 w_stepParts 0 w_pieceParts 0 u1 v21_0 v21_1 w_pieceOf o9 v21_2 w_outputs w_output) → va_S A s.heap H locs → lv_has ls 3 [(0, .ref a0), (1, .int p1)] → W p l e rmX5_make s m args below meth c H locs 0 0 Z (F0 m 75 ls [])) → W p l e rmX5_make s m args below meth c H locs 0 0 Z (F0 m 56 ls []) := by
    intro n
    induction n with
    | zero =>
      intro x2_L56 w_heldBy_L56 o9 hf
      rw [f_X5_make_L56] at hf
      cases hf
    | succ n ih =>
      intro x2_L56 w_heldBy_L56 o9 hf H locs ls hP hD hS hl kx
      rw [f_X5_make_L56] at hf
      refine lv_iload_n hx hb dX5_make_56 rfl (lv_at hl 0 rfl) ?_
      refine lv_bipush (v := 8) hx hb dX5_make_57 (by decide) ?_
      refine lv_icmp_ge (tgt := 75) hx hb dX5_make_59 (by decide) (fun c_59 => ?_) (fun c_59 => ?_)
      · have hf := kit c_59 hf
        obtain rfl := Option.some.inj hf
        exact kx _ _ _ hP hD hS (lv_sub hl [1, 2] rfl)
      · have hf := kif c_59 hf
        refine lv_aload_n hx hb dX5_make_62 rfl (lv_at hl 1 rfl) ?_
        refine va_get (D := D) (ci := 5) (v := .ref a10) (C := RX5) (T := TX5) (N := 20) hx hb hts i_X5 hown hK hP 0 rfl rfl 16 (by decide) k42 (fun _ h9 => h9) rfl dX5_make_63 ?_
        refine lv_iload_n hx hb dX5_make_66 rfl (lv_at hl 0 rfl) ?_
        refine lv_iconst (v := (-1)) hx hb dX5_make_67 (by decide) ?_
        obtain ⟨h_68, hf⟩ := rdc_some hf
        refine va_iast hx hb hK hP hD hS 10 0 rfl rfl h_68 dX5_make_68 (fun H locs hP hD hS => ?_)
        have hP : va_P D vwCl (PX5 a0 a1 a2 a3 a4 a5 a6 a7 a8 a9 a10 a11 a12 cyI cyZ w_thrown w_size w_kinds w_as w_bs w_registers w_isMade 0 w_stepParts 0 w_pieceParts 0 u1 v21_0 v21_1 w_pieceOf (upd w_heldBy_L56 x2_L56.toNatClampNeg (-1)) v21_2 w_outputs w_output) H := hP
        have hD : va_D A (PX5 a0 a1 a2 a3 a4 a5 a6 a7 a8 a9 a10 a11 a12 cyI cyZ w_thrown w_size w_kinds w_as w_bs w_registers w_isMade 0 w_stepParts 0 w_pieceParts 0 u1 v21_0 v21_1 w_pieceOf (upd w_heldBy_L56 x2_L56.toNatClampNeg (-1)) v21_2 w_outputs w_output) := hD
        refine lv_iinc (v := (x2_L56 + 1)) (lv' := [(2, .int (x2_L56 + 1)), (0, .ref a0), (1, .int p1)]) hx hb dX5_make_69 hl (k := 0) rfl rfl (by decide) rfl (fun ls hl => ?_)
        refine lv_goto (tgt := 56) hx hb dX5_make_72 (by decide) ?_
        exact ih (x2_L56 + 1) (upd w_heldBy_L56 x2_L56.toNatClampNeg (-1)) _ hf _ _ _ hP hD hS (lv_sub hl [0, 1, 2] rfl) kx
  obtain ⟨v56, hf56, hf⟩ := kbd hf
  refine L56 4000 0 w_heldBy v56 hf56 _ _ _ hP hD hS (lv_sub hl [0, 1, 2] rfl) (fun H locs ls hP hD hS hl => ?_)
  refine lv_iconst (v := 0) hx hb dX5_make_75 (by decide) ?_
  refine lv_istore_n (lv' := [(2, .int 0), (0, .ref a0), (1, .int p1)]) hx hb dX5_make_76 rfl hl (by decide) rfl (fun ls hl => ?_)
  have L77 : ∀ (n : Nat) (x2_L77 : Int32) (w_steps_L77 : Int32) (w_stepParts_L77 : Nat → Int32) (w_pieces_L77 : Int32) (w_pieceParts_L77 : Nat → Int32) (w_slots_L77 : Int32) (w_registerOf_L77 : Nat → Int32) (w_slotOf_L77 : Nat → Int32) (w_pieceOf_L77 : Nat → Int32) (w_heldBy_L77 : Nat → Int32) (w_isSlotTaken_L77 : Nat → Int32) (o9 : Int32 × (Nat → Int32) × Int32 × (Nat → Int32) × Int32 × (Nat → Int32) × (Nat → Int32) × (Nat → Int32) × (Nat → Int32) × (Nat → Int32)) (_ : f_X5_make_L77 w_size w_kinds w_as w_bs p1 u1 n x2_L77 w_steps_L77 w_stepParts_L77 w_pieces_L77 w_pieceParts_L77 w_slots_L77 w_registerOf_L77 w_slotOf_L77 w_pieceOf_L77 w_heldBy_L77 w_isSlotTaken_L77 = some o9) (H : Heap) (locs : List Loc) (ls : Array Slot), va_P D vwCl (PX5 a0 a1 a2 a3 a4 a5 a6 a7 a8 a9 a10 a11 a12 cyI cyZ w_thrown w_size w_kinds w_as w_bs w_registers w_isMade w_steps_L77 w_stepParts_L77 w_pieces_L77 w_pieceParts_L77 w_slots_L77 u1 w_registerOf_L77 w_slotOf_L77 w_pieceOf_L77 w_heldBy_L77 w_isSlotTaken_L77 w_outputs w_output) H → va_D A (PX5 a0 a1 a2 a3 a4 a5 a6 a7 a8 a9 a10 a11 a12 cyI cyZ w_thrown w_size w_kinds w_as w_bs w_registers w_isMade w_steps_L77 w_stepParts_L77 w_pieces_L77 w_pieceParts_L77 w_slots_L77 u1 w_registerOf_L77 w_slotOf_L77 w_pieceOf_L77 w_heldBy_L77 w_isSlotTaken_L77 w_outputs w_output) → va_S A s.heap H locs → lv_has ls 3 [(2, .int x2_L77), (0, .ref a0), (1, .int p1)] → (∀ (H : Heap) (locs : List Loc) (ls : Array Slot), va_P D vwCl (PX5 a0 a1 a2 a3 a4 a5 a6 a7 a8 a9 a10 a11 a12 cyI cyZ w_thrown w_size w_kinds w_as w_bs w_registers w_isMade o9.1 o9.2.1 o9.2.2.1 o9.2.2.2.1 o9.2.2.2.2.1 u1 o9.2.2.2.2.2.1 o9.2.2.2.2.2.2.1 o9.2.2.2.2.2.2.2.1 o9.2.2.2.2.2.2.2.2.1 o9.2.2.2.2.2.2.2.2.2 w_outputs w_output) H → va_D A (PX5 a0 a1 a2 a3 a4 a5 a6 a7 a8 a9 a10 a11 a12 cyI cyZ w_thrown w_size w_kinds w_as w_bs w_registers w_isMade o9.1 o9.2.1 o9.2.2.1 o9.2.2.2.1 o9.2.2.2.2.1 u1 o9.2.2.2.2.2.1 o9.2.2.2.2.2.2.1 o9.2.2.2.2.2.2.2.1 o9.2.2.2.2.2.2.2.2.1 o9.2.2.2.2.2.2.2.2.2 w_outputs w_output) → va_S A s.heap H locs → lv_has ls 3 [] → W p l e rmX5_make s m args below meth c H locs 0 0 Z (F0 m 115 ls [])) → W p l e rmX5_make s m args below meth c H locs 0 0 Z (F0 m 77 ls []) := by
    intro n
    induction n with
    | zero =>
      intro x2_L77 w_steps_L77 w_stepParts_L77 w_pieces_L77 w_pieceParts_L77 w_slots_L77 w_registerOf_L77 w_slotOf_L77 w_pieceOf_L77 w_heldBy_L77 w_isSlotTaken_L77 o9 hf
      rw [f_X5_make_L77] at hf
      cases hf
    | succ n ih =>
      intro x2_L77 w_steps_L77 w_stepParts_L77 w_pieces_L77 w_pieceParts_L77 w_slots_L77 w_registerOf_L77 w_slotOf_L77 w_pieceOf_L77 w_heldBy_L77 w_isSlotTaken_L77 o9 hf H locs ls hP hD hS hl kx
      rw [f_X5_make_L77] at hf
      refine lv_iload_n hx hb dX5_make_77 rfl (lv_at hl 0 rfl) ?_
      refine lv_aload_n hx hb dX5_make_78 rfl (lv_at hl 1 rfl) ?_
      refine va_get (D := D) (ci := 5) (v := .int w_size) (C := RX5) (T := TX5) (N := 20) hx hb hts i_X5 hown hK hP 0 rfl rfl 1 (by decide) k54 (fun _ h9 => h9) rfl dX5_make_79 ?_
      refine lv_icmp_ge (tgt := 115) hx hb dX5_make_82 (by decide) (fun c_82 => ?_) (fun c_82 => ?_)
      · have hf := kit c_82 hf
        obtain rfl := Option.some.inj hf
        exact kx _ _ _ hP hD hS (lv_sub hl [] rfl)
      · have hf := kif c_82 hf
        refine lv_aload_n hx hb dX5_make_85 rfl (lv_at hl 1 rfl) ?_
        refine va_get (D := D) (ci := 5) (v := .ref a6) (C := RX5) (T := TX5) (N := 20) hx hb hts i_X5 hown hK hP 0 rfl rfl 12 (by decide) k29 (fun _ h9 => h9) rfl dX5_make_86 ?_
        refine lv_iload_n hx hb dX5_make_89 rfl (lv_at hl 0 rfl) ?_
        obtain ⟨h_90, hf⟩ := rdc_some hf
        refine va_zald hx hb hK hP 6 1 rfl rfl h_90 dX5_make_90 ?_
        refine lv_if_eq (tgt := 109) hx hb dX5_make_91 (by decide) (fun c_91 => ?_) (fun c_91 => ?_)
        · have hf := kit c_91 hf
          refine lv_iinc (v := (x2_L77 + 1)) (lv' := [(2, .int (x2_L77 + 1)), (0, .ref a0), (1, .int p1)]) hx hb dX5_make_109 hl (k := 0) rfl rfl (by decide) rfl (fun ls hl => ?_)
          refine lv_goto (tgt := 77) hx hb dX5_make_112 (by decide) ?_
          exact ih (x2_L77 + 1) w_steps_L77 w_stepParts_L77 w_pieces_L77 w_pieceParts_L77 w_slots_L77 w_registerOf_L77 w_slotOf_L77 w_pieceOf_L77 w_heldBy_L77 w_isSlotTaken_L77 _ hf _ _ _ hP hD hS (lv_sub hl [0, 1, 2] rfl) kx
        · have hf := kif c_91 hf
          refine lv_aload_n hx hb dX5_make_94 rfl (lv_at hl 1 rfl) ?_
          refine va_get (D := D) (ci := 5) (v := .ref a1) (C := RX5) (T := TX5) (N := 20) hx hb hts i_X5 hown hK hP 0 rfl rfl 2 (by decide) k9 (fun _ h9 => h9) rfl dX5_make_95 ?_
          refine lv_iload_n hx hb dX5_make_98 rfl (lv_at hl 0 rfl) ?_
          obtain ⟨h_99, hf⟩ := rdc_some hf
          refine va_iald hx hb hK hP 1 0 rfl rfl h_99 dX5_make_99 ?_
          refine lv_if_eq (tgt := 109) hx hb dX5_make_100 (by decide) (fun c_100 => ?_) (fun c_100 => ?_)
          · have hf := kit c_100 hf
            refine lv_iinc (v := (x2_L77 + 1)) (lv' := [(2, .int (x2_L77 + 1)), (0, .ref a0), (1, .int p1)]) hx hb dX5_make_109 hl (k := 0) rfl rfl (by decide) rfl (fun ls hl => ?_)
            refine lv_goto (tgt := 77) hx hb dX5_make_112 (by decide) ?_
            exact ih (x2_L77 + 1) w_steps_L77 w_stepParts_L77 w_pieces_L77 w_pieceParts_L77 w_slots_L77 w_registerOf_L77 w_slotOf_L77 w_pieceOf_L77 w_heldBy_L77 w_isSlotTaken_L77 _ hf _ _ _ hP hD hS (lv_sub hl [0, 1, 2] rfl) kx
          · have hf := kif c_100 hf
            refine lv_aload_n hx hb dX5_make_103 rfl (lv_at hl 1 rfl) ?_
            refine lv_iload_n hx hb dX5_make_104 rfl (lv_at hl 0 rfl) ?_
            refine lv_iload_n hx hb dX5_make_105 rfl (lv_at hl 2 rfl) ?_
            obtain ⟨⟨u106_0, u106_1, u106_2, u106_3, u106_4, u106_5, u106_6, u106_7, u106_8, u106_9⟩, hf106, hf⟩ := kbd hf
            try dsimp only at hf
            refine kc_Vv (As := [.int x2_L77, .int p1]) (rest := []) (wf := (PX5 a0 a1 a2 a3 a4 a5 a6 a7 a8 a9 a10 a11 a12 cyI cyZ w_thrown w_size w_kinds w_as w_bs w_registers w_isMade u106_0 u106_1 u106_2 u106_3 u106_4 u1 u106_5 u106_6 u106_7 u106_8 u106_9 w_outputs w_output)) (c_X5_doInstruction l D cyI cyZ a0 a1 a2 a3 a4 a5 a6 a7 a8 a9 a10 a11 a12 w_thrown w_size w_kinds w_as w_bs w_registers w_isMade w_steps_L77 w_stepParts_L77 w_pieces_L77 w_pieceParts_L77 w_slots_L77 u1 w_registerOf_L77 w_slotOf_L77 w_pieceOf_L77 w_heldBy_L77 w_isSlotTaken_L77 w_outputs w_output x2_L77 p1 (u106_0, u106_1, u106_2, u106_3, u106_4, u106_5, u106_6, u106_7, u106_8, u106_9) hf106) ⟨hx, hb, hml, hown, hts⟩ (cwV 2 hts gX5_make_X5_doInstruction rfl rfl rfl (by decide +kernel) ⟨Nat.le_of_ble_eq_true rfl, Nat.le_of_ble_eq_true rfl⟩) hK hP hD hS hA [0, 1, 2, 3, 4, 5, 6, 7, 8, 9, 10, 11, 12] [] 13 rfl rfl kR0 rfl (by decide +kernel) rfl rfl rfl rfl hl.1 rfl (Nat.le_of_ble_eq_true rfl) dX5_make_106 ⟨Nat.le_of_ble_eq_true rfl, Nat.le_of_ble_eq_true rfl⟩ (fun H locs hP hD hS => ?_)
            refine lv_iinc (v := (x2_L77 + 1)) (lv' := [(2, .int (x2_L77 + 1)), (0, .ref a0), (1, .int p1)]) hx hb dX5_make_109 hl (k := 0) rfl rfl (by decide) rfl (fun ls hl => ?_)
            refine lv_goto (tgt := 77) hx hb dX5_make_112 (by decide) ?_
            exact ih (x2_L77 + 1) u106_0 u106_1 u106_2 u106_3 u106_4 u106_5 u106_6 u106_7 u106_8 u106_9 _ hf _ _ _ hP hD hS (lv_sub hl [0, 1, 2] rfl) kx
  obtain ⟨⟨v77_0, v77_1, v77_2, v77_3, v77_4, v77_5, v77_6, v77_7, v77_8, v77_9⟩, hf77, hf⟩ := kbd hf
  try dsimp only at hf
  refine L77 4000 0 0 w_stepParts 0 w_pieceParts 0 v21_0 v21_1 w_pieceOf v56 v21_2 (v77_0, v77_1, v77_2, v77_3, v77_4, v77_5, v77_6, v77_7, v77_8, v77_9) hf77 _ _ _ hP hD hS (lv_sub hl [0, 1, 2] rfl) (fun H locs ls hP hD hS hl => ?_)
  have hP : va_P D vwCl (PX5 a0 a1 a2 a3 a4 a5 a6 a7 a8 a9 a10 a11 a12 cyI cyZ w_thrown w_size w_kinds w_as w_bs w_registers w_isMade v77_0 v77_1 v77_2 v77_3 v77_4 u1 v77_5 v77_6 v77_7 v77_8 v77_9 w_outputs w_output) H := hP
  have hD : va_D A (PX5 a0 a1 a2 a3 a4 a5 a6 a7 a8 a9 a10 a11 a12 cyI cyZ w_thrown w_size w_kinds w_as w_bs w_registers w_isMade v77_0 v77_1 v77_2 v77_3 v77_4 u1 v77_5 v77_6 v77_7 v77_8 v77_9 w_outputs w_output) := hD
  have hl : lv_has ls 3 [] := hl
  obtain rfl := Option.some.inj hf
  exact ret _ _ _ _ dX5_make_115 hP hD hS

abbrev rmX5_allocate : Room := { frames := 7, cells := 0, slots := 0, locals := 172 }
set_option maxHeartbeats 4000000 in
set_option maxRecDepth 100000 in
theorem c_X5_allocate (l : Launch) (D : va_G) (cyI cyZ : ClassId) (a0 a1 a2 a3 a4 a5 a6 a7 a8 a9 a10 a11 a12 : Nat) (w_thrown : Int32) (w_size : Int32) (w_kinds : Nat → Int32) (w_as : Nat → Int32) (w_bs : Nat → Int32) (w_registers : Int32) (w_isMade : Int32) (w_steps : Int32) (w_stepParts : Nat → Int32) (w_pieces : Int32) (w_pieceParts : Nat → Int32) (w_slots : Int32) (w_areCounted : Nat → Int32) (w_registerOf : Nat → Int32) (w_slotOf : Nat → Int32) (w_pieceOf : Nat → Int32) (w_heldBy : Nat → Int32) (w_isSlotTaken : Nat → Int32) (w_outputs : Int32) (w_output : Nat → Int32) (o : Int32 × Int32 × Int32 × Int32 × (Nat → Int32) × Int32 × (Nat → Int32) × Int32 × (Nat → Int32) × (Nat → Int32) × (Nat → Int32) × (Nat → Int32) × (Nat → Int32) × (Nat → Int32)) (hf : f_X5_allocate w_size w_kinds w_as w_bs w_registers w_stepParts w_pieceParts w_areCounted w_registerOf w_slotOf w_pieceOf w_heldBy w_isSlotTaken = some o) : kMi l yX5_allocate wsX5_allocate rmX5_allocate [.ref a0] D (PX5 a0 a1 a2 a3 a4 a5 a6 a7 a8 a9 a10 a11 a12 cyI cyZ w_thrown w_size w_kinds w_as w_bs w_registers w_isMade w_steps w_stepParts w_pieces w_pieceParts w_slots w_areCounted w_registerOf w_slotOf w_pieceOf w_heldBy w_isSlotTaken w_outputs w_output) (PX5 a0 a1 a2 a3 a4 a5 a6 a7 a8 a9 a10 a11 a12 cyI cyZ o.2.1 w_size w_kinds w_as w_bs w_registers o.2.2.1 o.2.2.2.1 o.2.2.2.2.1 o.2.2.2.2.2.1 o.2.2.2.2.2.2.1 o.2.2.2.2.2.2.2.1 o.2.2.2.2.2.2.2.2.1 o.2.2.2.2.2.2.2.2.2.1 o.2.2.2.2.2.2.2.2.2.2.1 o.2.2.2.2.2.2.2.2.2.2.2.1 o.2.2.2.2.2.2.2.2.2.2.2.2.1 o.2.2.2.2.2.2.2.2.2.2.2.2.2 w_outputs w_output) (kT cyI cyZ) o.1 0 0 := by
  refine kOf_i (cc := cX5_allocate) (maxL := 1) (ty := .int) (by decide +kernel) rfl (Nat.le_of_ble_eq_true rfl) ?_
  intro p e s m args below meth c A Z ls C0 hP hK hD hA hl ret
  obtain ⟨hx, hb, hr, hml, hown, hts, hlocks⟩ := C0
  have hown : s.vm.findClass RX5 = some m.cls := hown
  have hl : lv_has ls 1 [(0, .ref a0)] := hl
  have hS : va_S A s.heap s.heap [] := va_S.rf
  have i_X5 : ∀ w ∈ wsX50, w ∈ wsX5_allocate := by decide +kernel
  have k19 := hts (.fieldLink RX5 19 "RegisterAllocatorModel" "registers" "I") (by decide +kernel)
  have k51 := hts (.fieldLink RX5 51 "RegisterAllocatorModel" "thrown" "I") (by decide +kernel)
  have k61 := hts (.fieldLink RX5 61 "RegisterAllocatorModel" "isMade" "Z") (by decide +kernel)
  have k92 := hts (.fieldLink RX5 92 "RegisterAllocatorModel" "steps" "I") (by decide +kernel)
  rw [f_X5_allocate] at hf
  refine lv_aload_n hx hb dX5_allocate_0 rfl (lv_at hl 0 rfl) ?_
  refine lv_iconst (v := 0) hx hb dX5_allocate_1 (by decide) ?_
  refine va_put (D := D) (ci := 5) (v := .int 0) (ty := .int) (C := RX5) (T := TX5) (N := 20) hx hb hts i_X5 tyX5 tyX5_ok nmX5 hown hK hP hD hS 0 rfl rfl 0 (by decide) k51 (fun _ h9 => h9) rfl (by decide +kernel) rfl (by first | rfl | decide) (Nat.le_of_ble_eq_true rfl) dX5_allocate_2 (fun H locs hP hD hS => ?_)
  have hP : va_P D vwCl (PX5 a0 a1 a2 a3 a4 a5 a6 a7 a8 a9 a10 a11 a12 cyI cyZ 0 w_size w_kinds w_as w_bs w_registers w_isMade w_steps w_stepParts w_pieces w_pieceParts w_slots w_areCounted w_registerOf w_slotOf w_pieceOf w_heldBy w_isSlotTaken w_outputs w_output) H := hP
  have hD : va_D A (PX5 a0 a1 a2 a3 a4 a5 a6 a7 a8 a9 a10 a11 a12 cyI cyZ 0 w_size w_kinds w_as w_bs w_registers w_isMade w_steps w_stepParts w_pieces w_pieceParts w_slots w_areCounted w_registerOf w_slotOf w_pieceOf w_heldBy w_isSlotTaken w_outputs w_output) := hD
  refine lv_aload_n hx hb dX5_allocate_5 rfl (lv_at hl 0 rfl) ?_
  refine lv_aload_n hx hb dX5_allocate_6 rfl (lv_at hl 0 rfl) ?_
  refine va_get (D := D) (ci := 5) (v := .int w_registers) (C := RX5) (T := TX5) (N := 20) hx hb hts i_X5 hown hK hP 0 rfl rfl 5 (by decide) k19 (fun _ h9 => h9) rfl dX5_allocate_7 ?_
  obtain ⟨⟨u10_0, u10_1, u10_2, u10_3, u10_4, u10_5, u10_6, u10_7, u10_8, u10_9, u10_10⟩, hf10, hf⟩ := kbd hf
  try dsimp only at hf
  refine kc_Vv (As := [.int w_registers]) (rest := []) (wf := (PX5 a0 a1 a2 a3 a4 a5 a6 a7 a8 a9 a10 a11 a12 cyI cyZ 0 w_size w_kinds w_as w_bs w_registers w_isMade u10_0 u10_1 u10_2 u10_3 u10_4 u10_5 u10_6 u10_7 u10_8 u10_9 u10_10 w_outputs w_output)) (c_X5_make l D cyI cyZ a0 a1 a2 a3 a4 a5 a6 a7 a8 a9 a10 a11 a12 0 w_size w_kinds w_as w_bs w_registers w_isMade w_steps w_stepParts w_pieces w_pieceParts w_slots w_areCounted w_registerOf w_slotOf w_pieceOf w_heldBy w_isSlotTaken w_outputs w_output w_registers (u10_0, u10_1, u10_2, u10_3, u10_4, u10_5, u10_6, u10_7, u10_8, u10_9, u10_10) hf10) ⟨hx, hb, hml, hown, hts⟩ (cwV 1 hts gX5_allocate_X5_make rfl rfl rfl (by decide +kernel) ⟨Nat.le_of_ble_eq_true rfl, Nat.le_of_ble_eq_true rfl⟩) hK hP hD hS hA [0, 1, 2, 3, 4, 5, 6, 7, 8, 9, 10, 11, 12] [] 13 rfl rfl kR0 rfl (by decide +kernel) rfl rfl rfl rfl hl.1 rfl (Nat.le_of_ble_eq_true rfl) dX5_allocate_10 ⟨Nat.le_of_ble_eq_true rfl, Nat.le_of_ble_eq_true rfl⟩ (fun H locs hP hD hS => ?_)
  refine lv_aload_n hx hb dX5_allocate_13 rfl (lv_at hl 0 rfl) ?_
  refine lv_iconst (v := 1) hx hb dX5_allocate_14 (by decide) ?_
  refine va_put (D := D) (ci := 5) (v := .int 1) (ty := .boolean) (C := RX5) (T := TX5) (N := 20) hx hb hts i_X5 tyX5 tyX5_ok nmX5 hown hK hP hD hS 0 rfl rfl 6 (by decide) k61 (fun _ h9 => h9) rfl (by decide +kernel) (by decide) (by first | rfl | decide) (Nat.le_of_ble_eq_true rfl) dX5_allocate_15 (fun H locs hP hD hS => ?_)
  have hP : va_P D vwCl (PX5 a0 a1 a2 a3 a4 a5 a6 a7 a8 a9 a10 a11 a12 cyI cyZ 0 w_size w_kinds w_as w_bs w_registers 1 u10_0 u10_1 u10_2 u10_3 u10_4 u10_5 u10_6 u10_7 u10_8 u10_9 u10_10 w_outputs w_output) H := hP
  have hD : va_D A (PX5 a0 a1 a2 a3 a4 a5 a6 a7 a8 a9 a10 a11 a12 cyI cyZ 0 w_size w_kinds w_as w_bs w_registers 1 u10_0 u10_1 u10_2 u10_3 u10_4 u10_5 u10_6 u10_7 u10_8 u10_9 u10_10 w_outputs w_output) := hD
  refine lv_aload_n hx hb dX5_allocate_18 rfl (lv_at hl 0 rfl) ?_
  refine va_get (D := D) (ci := 5) (v := .int u10_0) (C := RX5) (T := TX5) (N := 20) hx hb hts i_X5 hown hK hP 0 rfl rfl 7 (by decide) k92 (fun _ h9 => h9) rfl dX5_allocate_19 ?_
  obtain rfl := Option.some.inj hf
  exact ret _ _ _ _ dX5_allocate_22 rfl hP hD hS

abbrev rmX5_isAllocated : Room := { frames := 0, cells := 0, slots := 0, locals := 0 }
set_option maxHeartbeats 4000000 in
set_option maxRecDepth 100000 in
theorem c_X5_isAllocated (l : Launch) (D : va_G) (cyI cyZ : ClassId) (a0 a1 a2 a3 a4 a5 a6 a7 a8 a9 a10 a11 a12 : Nat) (w_thrown : Int32) (w_size : Int32) (w_kinds : Nat → Int32) (w_as : Nat → Int32) (w_bs : Nat → Int32) (w_registers : Int32) (w_isMade : Int32) (w_steps : Int32) (w_stepParts : Nat → Int32) (w_pieces : Int32) (w_pieceParts : Nat → Int32) (w_slots : Int32) (w_areCounted : Nat → Int32) (w_registerOf : Nat → Int32) (w_slotOf : Nat → Int32) (w_pieceOf : Nat → Int32) (w_heldBy : Nat → Int32) (w_isSlotTaken : Nat → Int32) (w_outputs : Int32) (w_output : Nat → Int32) (o : Int32 × Int32) (hf : f_X5_isAllocated w_isMade = some o) : kMi l yX5_isAllocated wsX5_isAllocated rmX5_isAllocated [.ref a0] D (PX5 a0 a1 a2 a3 a4 a5 a6 a7 a8 a9 a10 a11 a12 cyI cyZ w_thrown w_size w_kinds w_as w_bs w_registers w_isMade w_steps w_stepParts w_pieces w_pieceParts w_slots w_areCounted w_registerOf w_slotOf w_pieceOf w_heldBy w_isSlotTaken w_outputs w_output) (PX5 a0 a1 a2 a3 a4 a5 a6 a7 a8 a9 a10 a11 a12 cyI cyZ o.2 w_size w_kinds w_as w_bs w_registers w_isMade w_steps w_stepParts w_pieces w_pieceParts w_slots w_areCounted w_registerOf w_slotOf w_pieceOf w_heldBy w_isSlotTaken w_outputs w_output) (kT cyI cyZ) o.1 0 0 := by
  refine kOf_i (cc := cX5_isAllocated) (maxL := 1) (ty := .boolean) (by decide +kernel) rfl (Nat.le_of_ble_eq_true rfl) ?_
  intro p e s m args below meth c A Z ls C0 hP hK hD hA hl ret
  obtain ⟨hx, hb, hr, hml, hown, hts, hlocks⟩ := C0
  have hown : s.vm.findClass RX5 = some m.cls := hown
  have hl : lv_has ls 1 [(0, .ref a0)] := hl
  have hS : va_S A s.heap s.heap [] := va_S.rf
  have i_X5 : ∀ w ∈ wsX50, w ∈ wsX5_isAllocated := by decide +kernel
  have k51 := hts (.fieldLink RX5 51 "RegisterAllocatorModel" "thrown" "I") (by decide +kernel)
  have k61 := hts (.fieldLink RX5 61 "RegisterAllocatorModel" "isMade" "Z") (by decide +kernel)
  rw [f_X5_isAllocated] at hf
  refine lv_aload_n hx hb dX5_isAllocated_0 rfl (lv_at hl 0 rfl) ?_
  refine lv_iconst (v := 0) hx hb dX5_isAllocated_1 (by decide) ?_
  refine va_put (D := D) (ci := 5) (v := .int 0) (ty := .int) (C := RX5) (T := TX5) (N := 20) hx hb hts i_X5 tyX5 tyX5_ok nmX5 hown hK hP hD hS 0 rfl rfl 0 (by decide) k51 (fun _ h9 => h9) rfl (by decide +kernel) rfl (by first | rfl | decide) (Nat.le_of_ble_eq_true rfl) dX5_isAllocated_2 (fun H locs hP hD hS => ?_)
  have hP : va_P D vwCl (PX5 a0 a1 a2 a3 a4 a5 a6 a7 a8 a9 a10 a11 a12 cyI cyZ 0 w_size w_kinds w_as w_bs w_registers w_isMade w_steps w_stepParts w_pieces w_pieceParts w_slots w_areCounted w_registerOf w_slotOf w_pieceOf w_heldBy w_isSlotTaken w_outputs w_output) H := hP
  have hD : va_D A (PX5 a0 a1 a2 a3 a4 a5 a6 a7 a8 a9 a10 a11 a12 cyI cyZ 0 w_size w_kinds w_as w_bs w_registers w_isMade w_steps w_stepParts w_pieces w_pieceParts w_slots w_areCounted w_registerOf w_slotOf w_pieceOf w_heldBy w_isSlotTaken w_outputs w_output) := hD
  refine lv_aload_n hx hb dX5_isAllocated_5 rfl (lv_at hl 0 rfl) ?_
  refine va_get (D := D) (ci := 5) (v := .int w_isMade) (C := RX5) (T := TX5) (N := 20) hx hb hts i_X5 hown hK hP 0 rfl rfl 6 (by decide) k61 (fun _ h9 => h9) rfl dX5_isAllocated_6 ?_
  obtain ⟨hz, hf⟩ := zck_some hf
  obtain rfl := Option.some.inj hf
  exact ret _ _ _ _ dX5_isAllocated_9 (znar hz) hP hD hS

abbrev rmX5_step : Room := { frames := 1, cells := 0, slots := 0, locals := 21 }
set_option maxHeartbeats 4000000 in
set_option maxRecDepth 100000 in
theorem c_X5_step (l : Launch) (D : va_G) (cyI cyZ : ClassId) (a0 a1 a2 a3 a4 a5 a6 a7 a8 a9 a10 a11 a12 : Nat) (w_thrown : Int32) (w_size : Int32) (w_kinds : Nat → Int32) (w_as : Nat → Int32) (w_bs : Nat → Int32) (w_registers : Int32) (w_isMade : Int32) (w_steps : Int32) (w_stepParts : Nat → Int32) (w_pieces : Int32) (w_pieceParts : Nat → Int32) (w_slots : Int32) (w_areCounted : Nat → Int32) (w_registerOf : Nat → Int32) (w_slotOf : Nat → Int32) (w_pieceOf : Nat → Int32) (w_heldBy : Nat → Int32) (w_isSlotTaken : Nat → Int32) (w_outputs : Int32) (w_output : Nat → Int32) (p1 : Int32) (p2 : Int32) (o : Int32 × Int32) (hf : f_X5_step p1 p2 w_isMade w_steps w_stepParts = some o) : kMi l yX5_step wsX5_step rmX5_step [.ref a0, .int p1, .int p2] D (PX5 a0 a1 a2 a3 a4 a5 a6 a7 a8 a9 a10 a11 a12 cyI cyZ w_thrown w_size w_kinds w_as w_bs w_registers w_isMade w_steps w_stepParts w_pieces w_pieceParts w_slots w_areCounted w_registerOf w_slotOf w_pieceOf w_heldBy w_isSlotTaken w_outputs w_output) (PX5 a0 a1 a2 a3 a4 a5 a6 a7 a8 a9 a10 a11 a12 cyI cyZ o.2 w_size w_kinds w_as w_bs w_registers w_isMade w_steps w_stepParts w_pieces w_pieceParts w_slots w_areCounted w_registerOf w_slotOf w_pieceOf w_heldBy w_isSlotTaken w_outputs w_output) (kT cyI cyZ) o.1 0 0 := by
  refine kOf_i (cc := cX5_step) (maxL := 3) (ty := .int) (by decide +kernel) rfl (Nat.le_of_ble_eq_true rfl) ?_
  intro p e s m args below meth c A Z ls C0 hP hK hD hA hl ret
  obtain ⟨hx, hb, hr, hml, hown, hts, hlocks⟩ := C0
  have hown : s.vm.findClass RX5 = some m.cls := hown
  have hl : lv_has ls 3 [(0, .ref a0), (1, .int p1), (2, .int p2)] := hl
  have hS : va_S A s.heap s.heap [] := va_S.rf
  have i_X5 : ∀ w ∈ wsX50, w ∈ wsX5_step := by decide +kernel
  have k23 := hts (.fieldLink RX5 23 "RegisterAllocatorModel" "stepParts" "[I") (by decide +kernel)
  have k51 := hts (.fieldLink RX5 51 "RegisterAllocatorModel" "thrown" "I") (by decide +kernel)
  have k61 := hts (.fieldLink RX5 61 "RegisterAllocatorModel" "isMade" "Z") (by decide +kernel)
  have k92 := hts (.fieldLink RX5 92 "RegisterAllocatorModel" "steps" "I") (by decide +kernel)
  rw [f_X5_step] at hf
  refine lv_aload_n hx hb dX5_step_0 rfl (lv_at hl 0 rfl) ?_
  refine lv_iconst (v := 0) hx hb dX5_step_1 (by decide) ?_
  refine va_put (D := D) (ci := 5) (v := .int 0) (ty := .int) (C := RX5) (T := TX5) (N := 20) hx hb hts i_X5 tyX5 tyX5_ok nmX5 hown hK hP hD hS 0 rfl rfl 0 (by decide) k51 (fun _ h9 => h9) rfl (by decide +kernel) rfl (by first | rfl | decide) (Nat.le_of_ble_eq_true rfl) dX5_step_2 (fun H locs hP hD hS => ?_)
  have hP : va_P D vwCl (PX5 a0 a1 a2 a3 a4 a5 a6 a7 a8 a9 a10 a11 a12 cyI cyZ 0 w_size w_kinds w_as w_bs w_registers w_isMade w_steps w_stepParts w_pieces w_pieceParts w_slots w_areCounted w_registerOf w_slotOf w_pieceOf w_heldBy w_isSlotTaken w_outputs w_output) H := hP
  have hD : va_D A (PX5 a0 a1 a2 a3 a4 a5 a6 a7 a8 a9 a10 a11 a12 cyI cyZ 0 w_size w_kinds w_as w_bs w_registers w_isMade w_steps w_stepParts w_pieces w_pieceParts w_slots w_areCounted w_registerOf w_slotOf w_pieceOf w_heldBy w_isSlotTaken w_outputs w_output) := hD
  refine lv_aload_n hx hb dX5_step_5 rfl (lv_at hl 0 rfl) ?_
  refine va_get (D := D) (ci := 5) (v := .int w_isMade) (C := RX5) (T := TX5) (N := 20) hx hb hts i_X5 hown hK hP 0 rfl rfl 6 (by decide) k61 (fun _ h9 => h9) rfl dX5_step_6 ?_
  refine lv_if_ne (tgt := 18) hx hb dX5_step_9 (by decide) (fun c_9 => ?_) (fun c_9 => ?_)
  · have hf := kif c_9 hf
    refine lv_iload_n hx hb dX5_step_18 rfl (lv_at hl 1 rfl) ?_
    refine lv_if_lt (tgt := 52) hx hb dX5_step_19 (by decide) (fun c_19 => ?_) (fun c_19 => ?_)
    · have hf := kit c_19 hf
      refine lv_aload_n hx hb dX5_step_52 rfl (lv_at hl 0 rfl) ?_
      refine lv_iconst (v := 2) hx hb dX5_step_53 (by decide) ?_
      obtain ⟨⟨u54_0, u54_1⟩, hf54, hf⟩ := kbd hf
      try dsimp only at hf
      refine kc_Vi (As := [.int 2]) (rest := []) (wf := (PX5 a0 a1 a2 a3 a4 a5 a6 a7 a8 a9 a10 a11 a12 cyI cyZ u54_1 w_size w_kinds w_as w_bs w_registers w_isMade w_steps w_stepParts w_pieces w_pieceParts w_slots w_areCounted w_registerOf w_slotOf w_pieceOf w_heldBy w_isSlotTaken w_outputs w_output)) (c_X5_fail l D cyI cyZ a0 a1 a2 a3 a4 a5 a6 a7 a8 a9 a10 a11 a12 0 w_size w_kinds w_as w_bs w_registers w_isMade w_steps w_stepParts w_pieces w_pieceParts w_slots w_areCounted w_registerOf w_slotOf w_pieceOf w_heldBy w_isSlotTaken w_outputs w_output 2 (u54_0, u54_1) hf54) ⟨hx, hb, hml, hown, hts⟩ (cwV 1 hts gX5_step_X5_fail rfl rfl rfl (by decide +kernel) ⟨Nat.le_of_ble_eq_true rfl, Nat.le_of_ble_eq_true rfl⟩) hK hP hD hS hA [0, 1, 2, 3, 4, 5, 6, 7, 8, 9, 10, 11, 12] [] 13 rfl rfl kR0 rfl (by decide +kernel) rfl rfl rfl rfl hl.1 rfl (Nat.le_of_ble_eq_true rfl) dX5_step_54 ⟨Nat.le_of_ble_eq_true rfl, Nat.le_of_ble_eq_true rfl⟩ (fun H locs hP hD hS => ?_)
      obtain rfl := Option.some.inj hf
      exact ret _ _ _ _ dX5_step_57 rfl hP hD hS
    · have hf := kif c_19 hf
      refine lv_iload_n hx hb dX5_step_22 rfl (lv_at hl 1 rfl) ?_
      refine lv_aload_n hx hb dX5_step_23 rfl (lv_at hl 0 rfl) ?_
      refine va_get (D := D) (ci := 5) (v := .int w_steps) (C := RX5) (T := TX5) (N := 20) hx hb hts i_X5 hown hK hP 0 rfl rfl 7 (by decide) k92 (fun _ h9 => h9) rfl dX5_step_24 ?_
      refine lv_icmp_ge (tgt := 52) hx hb dX5_step_27 (by decide) (fun c_27 => ?_) (fun c_27 => ?_)
      · have hf := kit c_27 hf
        refine lv_aload_n hx hb dX5_step_52 rfl (lv_at hl 0 rfl) ?_
        refine lv_iconst (v := 2) hx hb dX5_step_53 (by decide) ?_
        obtain ⟨⟨u54_0, u54_1⟩, hf54, hf⟩ := kbd hf
        try dsimp only at hf
        refine kc_Vi (As := [.int 2]) (rest := []) (wf := (PX5 a0 a1 a2 a3 a4 a5 a6 a7 a8 a9 a10 a11 a12 cyI cyZ u54_1 w_size w_kinds w_as w_bs w_registers w_isMade w_steps w_stepParts w_pieces w_pieceParts w_slots w_areCounted w_registerOf w_slotOf w_pieceOf w_heldBy w_isSlotTaken w_outputs w_output)) (c_X5_fail l D cyI cyZ a0 a1 a2 a3 a4 a5 a6 a7 a8 a9 a10 a11 a12 0 w_size w_kinds w_as w_bs w_registers w_isMade w_steps w_stepParts w_pieces w_pieceParts w_slots w_areCounted w_registerOf w_slotOf w_pieceOf w_heldBy w_isSlotTaken w_outputs w_output 2 (u54_0, u54_1) hf54) ⟨hx, hb, hml, hown, hts⟩ (cwV 1 hts gX5_step_X5_fail rfl rfl rfl (by decide +kernel) ⟨Nat.le_of_ble_eq_true rfl, Nat.le_of_ble_eq_true rfl⟩) hK hP hD hS hA [0, 1, 2, 3, 4, 5, 6, 7, 8, 9, 10, 11, 12] [] 13 rfl rfl kR0 rfl (by decide +kernel) rfl rfl rfl rfl hl.1 rfl (Nat.le_of_ble_eq_true rfl) dX5_step_54 ⟨Nat.le_of_ble_eq_true rfl, Nat.le_of_ble_eq_true rfl⟩ (fun H locs hP hD hS => ?_)
        obtain rfl := Option.some.inj hf
        exact ret _ _ _ _ dX5_step_57 rfl hP hD hS
      · have hf := kif c_27 hf
        refine lv_iload_n hx hb dX5_step_30 rfl (lv_at hl 2 rfl) ?_
        refine lv_if_lt (tgt := 52) hx hb dX5_step_31 (by decide) (fun c_31 => ?_) (fun c_31 => ?_)
        · have hf := kit c_31 hf
          refine lv_aload_n hx hb dX5_step_52 rfl (lv_at hl 0 rfl) ?_
          refine lv_iconst (v := 2) hx hb dX5_step_53 (by decide) ?_
          obtain ⟨⟨u54_0, u54_1⟩, hf54, hf⟩ := kbd hf
          try dsimp only at hf
          refine kc_Vi (As := [.int 2]) (rest := []) (wf := (PX5 a0 a1 a2 a3 a4 a5 a6 a7 a8 a9 a10 a11 a12 cyI cyZ u54_1 w_size w_kinds w_as w_bs w_registers w_isMade w_steps w_stepParts w_pieces w_pieceParts w_slots w_areCounted w_registerOf w_slotOf w_pieceOf w_heldBy w_isSlotTaken w_outputs w_output)) (c_X5_fail l D cyI cyZ a0 a1 a2 a3 a4 a5 a6 a7 a8 a9 a10 a11 a12 0 w_size w_kinds w_as w_bs w_registers w_isMade w_steps w_stepParts w_pieces w_pieceParts w_slots w_areCounted w_registerOf w_slotOf w_pieceOf w_heldBy w_isSlotTaken w_outputs w_output 2 (u54_0, u54_1) hf54) ⟨hx, hb, hml, hown, hts⟩ (cwV 1 hts gX5_step_X5_fail rfl rfl rfl (by decide +kernel) ⟨Nat.le_of_ble_eq_true rfl, Nat.le_of_ble_eq_true rfl⟩) hK hP hD hS hA [0, 1, 2, 3, 4, 5, 6, 7, 8, 9, 10, 11, 12] [] 13 rfl rfl kR0 rfl (by decide +kernel) rfl rfl rfl rfl hl.1 rfl (Nat.le_of_ble_eq_true rfl) dX5_step_54 ⟨Nat.le_of_ble_eq_true rfl, Nat.le_of_ble_eq_true rfl⟩ (fun H locs hP hD hS => ?_)
          obtain rfl := Option.some.inj hf
          exact ret _ _ _ _ dX5_step_57 rfl hP hD hS
        · have hf := kif c_31 hf
          refine lv_iload_n hx hb dX5_step_34 rfl (lv_at hl 2 rfl) ?_
          refine lv_iconst (v := 3) hx hb dX5_step_35 (by decide) ?_
          refine lv_icmp_gt (tgt := 52) hx hb dX5_step_36 (by decide) (fun c_36 => ?_) (fun c_36 => ?_)
          · have hf := kit c_36 hf
            refine lv_aload_n hx hb dX5_step_52 rfl (lv_at hl 0 rfl) ?_
            refine lv_iconst (v := 2) hx hb dX5_step_53 (by decide) ?_
            obtain ⟨⟨u54_0, u54_1⟩, hf54, hf⟩ := kbd hf
            try dsimp only at hf
            refine kc_Vi (As := [.int 2]) (rest := []) (wf := (PX5 a0 a1 a2 a3 a4 a5 a6 a7 a8 a9 a10 a11 a12 cyI cyZ u54_1 w_size w_kinds w_as w_bs w_registers w_isMade w_steps w_stepParts w_pieces w_pieceParts w_slots w_areCounted w_registerOf w_slotOf w_pieceOf w_heldBy w_isSlotTaken w_outputs w_output)) (c_X5_fail l D cyI cyZ a0 a1 a2 a3 a4 a5 a6 a7 a8 a9 a10 a11 a12 0 w_size w_kinds w_as w_bs w_registers w_isMade w_steps w_stepParts w_pieces w_pieceParts w_slots w_areCounted w_registerOf w_slotOf w_pieceOf w_heldBy w_isSlotTaken w_outputs w_output 2 (u54_0, u54_1) hf54) ⟨hx, hb, hml, hown, hts⟩ (cwV 1 hts gX5_step_X5_fail rfl rfl rfl (by decide +kernel) ⟨Nat.le_of_ble_eq_true rfl, Nat.le_of_ble_eq_true rfl⟩) hK hP hD hS hA [0, 1, 2, 3, 4, 5, 6, 7, 8, 9, 10, 11, 12] [] 13 rfl rfl kR0 rfl (by decide +kernel) rfl rfl rfl rfl hl.1 rfl (Nat.le_of_ble_eq_true rfl) dX5_step_54 ⟨Nat.le_of_ble_eq_true rfl, Nat.le_of_ble_eq_true rfl⟩ (fun H locs hP hD hS => ?_)
            obtain rfl := Option.some.inj hf
            exact ret _ _ _ _ dX5_step_57 rfl hP hD hS
          · have hf := kif c_36 hf
            refine lv_aload_n hx hb dX5_step_39 rfl (lv_at hl 0 rfl) ?_
            refine va_get (D := D) (ci := 5) (v := .ref a4) (C := RX5) (T := TX5) (N := 20) hx hb hts i_X5 hown hK hP 0 rfl rfl 8 (by decide) k23 (fun _ h9 => h9) rfl dX5_step_40 ?_
            refine lv_iconst (v := 4) hx hb dX5_step_43 (by decide) ?_
            refine lv_iload_n hx hb dX5_step_44 rfl (lv_at hl 1 rfl) ?_
            refine lv_imul hx hb dX5_step_45 ?_
            refine lv_iload_n hx hb dX5_step_46 rfl (lv_at hl 2 rfl) ?_
            refine lv_iadd hx hb dX5_step_47 ?_
            obtain ⟨h_48, hf⟩ := rdc_some hf
            refine va_iald hx hb hK hP 4 0 rfl rfl h_48 dX5_step_48 ?_
            refine lv_goto (tgt := 57) hx hb dX5_step_49 (by decide) ?_
            obtain rfl := Option.some.inj hf
            exact ret _ _ _ _ dX5_step_57 rfl hP hD hS
  · have hf := kit c_9 hf
    refine lv_aload_n hx hb dX5_step_12 rfl (lv_at hl 0 rfl) ?_
    refine lv_iconst (v := 1) hx hb dX5_step_13 (by decide) ?_
    obtain ⟨⟨u14_0, u14_1⟩, hf14, hf⟩ := kbd hf
    try dsimp only at hf
    refine kc_Vi (As := [.int 1]) (rest := []) (wf := (PX5 a0 a1 a2 a3 a4 a5 a6 a7 a8 a9 a10 a11 a12 cyI cyZ u14_1 w_size w_kinds w_as w_bs w_registers w_isMade w_steps w_stepParts w_pieces w_pieceParts w_slots w_areCounted w_registerOf w_slotOf w_pieceOf w_heldBy w_isSlotTaken w_outputs w_output)) (c_X5_fail l D cyI cyZ a0 a1 a2 a3 a4 a5 a6 a7 a8 a9 a10 a11 a12 0 w_size w_kinds w_as w_bs w_registers w_isMade w_steps w_stepParts w_pieces w_pieceParts w_slots w_areCounted w_registerOf w_slotOf w_pieceOf w_heldBy w_isSlotTaken w_outputs w_output 1 (u14_0, u14_1) hf14) ⟨hx, hb, hml, hown, hts⟩ (cwV 1 hts gX5_step_X5_fail rfl rfl rfl (by decide +kernel) ⟨Nat.le_of_ble_eq_true rfl, Nat.le_of_ble_eq_true rfl⟩) hK hP hD hS hA [0, 1, 2, 3, 4, 5, 6, 7, 8, 9, 10, 11, 12] [] 13 rfl rfl kR0 rfl (by decide +kernel) rfl rfl rfl rfl hl.1 rfl (Nat.le_of_ble_eq_true rfl) dX5_step_14 ⟨Nat.le_of_ble_eq_true rfl, Nat.le_of_ble_eq_true rfl⟩ (fun H locs hP hD hS => ?_)
    obtain rfl := Option.some.inj hf
    exact ret _ _ _ _ dX5_step_17 rfl hP hD hS

abbrev rmX5_stepsOf : Room := { frames := 0, cells := 0, slots := 0, locals := 0 }
set_option maxHeartbeats 4000000 in
set_option maxRecDepth 100000 in
theorem c_X5_stepsOf (l : Launch) (D : va_G) (cyI cyZ : ClassId) (a0 a1 a2 a3 a4 a5 a6 a7 a8 a9 a10 a11 a12 : Nat) (w_thrown : Int32) (w_size : Int32) (w_kinds : Nat → Int32) (w_as : Nat → Int32) (w_bs : Nat → Int32) (w_registers : Int32) (w_isMade : Int32) (w_steps : Int32) (w_stepParts : Nat → Int32) (w_pieces : Int32) (w_pieceParts : Nat → Int32) (w_slots : Int32) (w_areCounted : Nat → Int32) (w_registerOf : Nat → Int32) (w_slotOf : Nat → Int32) (w_pieceOf : Nat → Int32) (w_heldBy : Nat → Int32) (w_isSlotTaken : Nat → Int32) (w_outputs : Int32) (w_output : Nat → Int32) (p1 : Int32) (o : Int32) (hf : f_X5_stepsOf p1 w_steps w_stepParts = some o) : kMi l yX5_stepsOf wsX5_stepsOf rmX5_stepsOf [.ref a0, .int p1] D (PX5 a0 a1 a2 a3 a4 a5 a6 a7 a8 a9 a10 a11 a12 cyI cyZ w_thrown w_size w_kinds w_as w_bs w_registers w_isMade w_steps w_stepParts w_pieces w_pieceParts w_slots w_areCounted w_registerOf w_slotOf w_pieceOf w_heldBy w_isSlotTaken w_outputs w_output) (PX5 a0 a1 a2 a3 a4 a5 a6 a7 a8 a9 a10 a11 a12 cyI cyZ w_thrown w_size w_kinds w_as w_bs w_registers w_isMade w_steps w_stepParts w_pieces w_pieceParts w_slots w_areCounted w_registerOf w_slotOf w_pieceOf w_heldBy w_isSlotTaken w_outputs w_output) (kT cyI cyZ) o 0 0 := by
  refine kOf_i (cc := cX5_stepsOf) (maxL := 4) (ty := .int) (by decide +kernel) rfl (Nat.le_of_ble_eq_true rfl) ?_
  intro p e s m args below meth c A Z ls C0 hP hK hD hA hl ret
  obtain ⟨hx, hb, hr, hml, hown, hts, hlocks⟩ := C0
  have hown : s.vm.findClass RX5 = some m.cls := hown
  have hl : lv_has ls 4 [(0, .ref a0), (1, .int p1)] := hl
  have hS : va_S A s.heap s.heap [] := va_S.rf
  have i_X5 : ∀ w ∈ wsX50, w ∈ wsX5_stepsOf := by decide +kernel
  have k23 := hts (.fieldLink RX5 23 "RegisterAllocatorModel" "stepParts" "[I") (by decide +kernel)
  have k92 := hts (.fieldLink RX5 92 "RegisterAllocatorModel" "steps" "I") (by decide +kernel)
  rw [f_X5_stepsOf] at hf
  refine lv_iconst (v := 0) hx hb dX5_stepsOf_0 (by decide) ?_
  refine lv_istore_n (lv' := [(2, .int 0), (0, .ref a0), (1, .int p1)]) hx hb dX5_stepsOf_1 rfl hl (by decide) rfl (fun ls hl => ?_)
  refine lv_iconst (v := 0) hx hb dX5_stepsOf_2 (by decide) ?_
  refine lv_istore_n (lv' := [(3, .int 0), (2, .int 0), (0, .ref a0), (1, .int p1)]) hx hb dX5_stepsOf_3 rfl hl (by decide) rfl (fun ls hl => ?_)
  have L4 : ∀ (n : Nat) (x3_L4 : Int32) (x2_L4 : Int32) (o9 : Int32) (_ : f_X5_stepsOf_L4 w_steps w_stepParts p1 n x3_L4 x2_L4 = some o9) (H : Heap) (locs : List Loc) (ls : Array Slot), va_P D vwCl (PX5 a0 a1 a2 a3 a4 a5 a6 a7 a8 a9 a10 a11 a12 cyI cyZ w_thrown w_size w_kinds w_as w_bs w_registers w_isMade w_steps w_stepParts w_pieces w_pieceParts w_slots w_areCounted w_registerOf w_slotOf w_pieceOf w_heldBy w_isSlotTaken w_outputs w_output) H → va_D A (PX5 a0 a1 a2 a3 a4 a5 a6 a7 a8 a9 a10 a11 a12 cyI cyZ w_thrown w_size w_kinds w_as w_bs w_registers w_isMade w_steps w_stepParts w_pieces w_pieceParts w_slots w_areCounted w_registerOf w_slotOf w_pieceOf w_heldBy w_isSlotTaken w_outputs w_output) → va_S A s.heap H locs → lv_has ls 4 [(3, .int x3_L4), (2, .int x2_L4), (0, .ref a0), (1, .int p1)] → (∀ (H : Heap) (locs : List Loc) (ls : Array Slot), va_P D vwCl (PX5 a0 a1 a2 a3 a4 a5 a6 a7 a8 a9 a10 a11 a12 cyI cyZ w_thrown w_size w_kinds w_as w_bs w_registers w_isMade w_steps w_stepParts w_pieces w_pieceParts w_slots w_areCounted w_registerOf w_slotOf w_pieceOf w_heldBy w_isSlotTaken w_outputs w_output) H → va_D A (PX5 a0 a1 a2 a3 a4 a5 a6 a7 a8 a9 a10 a11 a12 cyI cyZ w_thrown w_size w_kinds w_as w_bs w_registers w_isMade w_steps w_stepParts w_pieces w_pieceParts w_slots w_areCounted w_registerOf w_slotOf w_pieceOf w_heldBy w_isSlotTaken w_outputs w_output) → va_S A s.heap H locs → lv_has ls 4 [(2, .int o9)] → W p l e rmX5_stepsOf s m args below meth c H locs 0 0 Z (F0 m 38 ls [])) → W p l e rmX5_stepsOf s m args below meth c H locs 0 0 Z (F0 m 4 ls []) := by
    intro n
    induction n with
    | zero =>
      intro x3_L4 x2_L4 o9 hf
      rw [f_X5_stepsOf_L4] at hf
      cases hf
    | succ n ih =>
      intro x3_L4 x2_L4 o9 hf H locs ls hP hD hS hl kx
      rw [f_X5_stepsOf_L4] at hf
      refine lv_iload_n hx hb dX5_stepsOf_4 rfl (lv_at hl 0 rfl) ?_
      refine lv_aload_n hx hb dX5_stepsOf_5 rfl (lv_at hl 2 rfl) ?_
      refine va_get (D := D) (ci := 5) (v := .int w_steps) (C := RX5) (T := TX5) (N := 20) hx hb hts i_X5 hown hK hP 0 rfl rfl 7 (by decide) k92 (fun _ h9 => h9) rfl dX5_stepsOf_6 ?_
      refine lv_icmp_ge (tgt := 38) hx hb dX5_stepsOf_9 (by decide) (fun c_9 => ?_) (fun c_9 => ?_)
      · have hf := kit c_9 hf
        obtain rfl := Option.some.inj hf
        exact kx _ _ _ hP hD hS (lv_sub hl [1] rfl)
      · have hf := kif c_9 hf
        refine lv_iload_n hx hb dX5_stepsOf_12 rfl (lv_at hl 1 rfl) ?_
        refine lv_aload_n hx hb dX5_stepsOf_13 rfl (lv_at hl 2 rfl) ?_
        refine va_get (D := D) (ci := 5) (v := .ref a4) (C := RX5) (T := TX5) (N := 20) hx hb hts i_X5 hown hK hP 0 rfl rfl 8 (by decide) k23 (fun _ h9 => h9) rfl dX5_stepsOf_14 ?_
        refine lv_iconst (v := 4) hx hb dX5_stepsOf_17 (by decide) ?_
        refine lv_iload_n hx hb dX5_stepsOf_18 rfl (lv_at hl 0 rfl) ?_
        refine lv_imul hx hb dX5_stepsOf_19 ?_
        obtain ⟨h_20, hf⟩ := rdc_some hf
        refine va_iald hx hb hK hP 4 0 rfl rfl h_20 dX5_stepsOf_20 ?_
        refine lv_iload_n hx hb dX5_stepsOf_21 rfl (lv_at hl 3 rfl) ?_
        refine lv_icmp_ne (tgt := 29) hx hb dX5_stepsOf_22 (by decide) (fun c_22 => ?_) (fun c_22 => ?_)
        · have hf := kif c_22 hf
          refine lv_iconst (v := 0) hx hb dX5_stepsOf_29 (by decide) ?_
          refine lv_iadd hx hb dX5_stepsOf_30 ?_
          refine lv_istore_n (lv' := [(2, .int (x2_L4 + 0)), (3, .int x3_L4), (0, .ref a0), (1, .int p1)]) hx hb dX5_stepsOf_31 rfl hl (by decide) rfl (fun ls hl => ?_)
          refine lv_iinc (v := (x3_L4 + 1)) (lv' := [(3, .int (x3_L4 + 1)), (2, .int (x2_L4 + 0)), (0, .ref a0), (1, .int p1)]) hx hb dX5_stepsOf_32 hl (k := 1) rfl rfl (by decide) rfl (fun ls hl => ?_)
          refine lv_goto (tgt := 4) hx hb dX5_stepsOf_35 (by decide) ?_
          exact ih (x3_L4 + 1) (x2_L4 + 0) _ hf _ _ _ hP hD hS (lv_sub hl [0, 1, 2, 3] rfl) kx
        · have hf := kit c_22 hf
          refine lv_iconst (v := 1) hx hb dX5_stepsOf_25 (by decide) ?_
          refine lv_goto (tgt := 30) hx hb dX5_stepsOf_26 (by decide) ?_
          refine lv_iadd hx hb dX5_stepsOf_30 ?_
          refine lv_istore_n (lv' := [(2, .int (x2_L4 + 1)), (3, .int x3_L4), (0, .ref a0), (1, .int p1)]) hx hb dX5_stepsOf_31 rfl hl (by decide) rfl (fun ls hl => ?_)
          refine lv_iinc (v := (x3_L4 + 1)) (lv' := [(3, .int (x3_L4 + 1)), (2, .int (x2_L4 + 1)), (0, .ref a0), (1, .int p1)]) hx hb dX5_stepsOf_32 hl (k := 1) rfl rfl (by decide) rfl (fun ls hl => ?_)
          refine lv_goto (tgt := 4) hx hb dX5_stepsOf_35 (by decide) ?_
          exact ih (x3_L4 + 1) (x2_L4 + 1) _ hf _ _ _ hP hD hS (lv_sub hl [0, 1, 2, 3] rfl) kx
  obtain ⟨v4, hf4, hf⟩ := kbd hf
  refine L4 4000 0 0 v4 hf4 _ _ _ hP hD hS (lv_sub hl [0, 1, 2, 3] rfl) (fun H locs ls hP hD hS hl => ?_)
  refine lv_iload_n hx hb dX5_stepsOf_38 rfl (lv_at hl 0 rfl) ?_
  obtain rfl := Option.some.inj hf
  exact ret _ _ _ _ dX5_stepsOf_39 rfl hP hD hS

abbrev rmX5_stepCount : Room := { frames := 1, cells := 0, slots := 0, locals := 23 }
set_option maxHeartbeats 4000000 in
set_option maxRecDepth 100000 in
theorem c_X5_stepCount (l : Launch) (D : va_G) (cyI cyZ : ClassId) (a0 a1 a2 a3 a4 a5 a6 a7 a8 a9 a10 a11 a12 : Nat) (w_thrown : Int32) (w_size : Int32) (w_kinds : Nat → Int32) (w_as : Nat → Int32) (w_bs : Nat → Int32) (w_registers : Int32) (w_isMade : Int32) (w_steps : Int32) (w_stepParts : Nat → Int32) (w_pieces : Int32) (w_pieceParts : Nat → Int32) (w_slots : Int32) (w_areCounted : Nat → Int32) (w_registerOf : Nat → Int32) (w_slotOf : Nat → Int32) (w_pieceOf : Nat → Int32) (w_heldBy : Nat → Int32) (w_isSlotTaken : Nat → Int32) (w_outputs : Int32) (w_output : Nat → Int32) (p1 : Int32) (o : Int32 × Int32) (hf : f_X5_stepCount p1 w_isMade w_steps w_stepParts = some o) : kMi l yX5_stepCount wsX5_stepCount rmX5_stepCount [.ref a0, .int p1] D (PX5 a0 a1 a2 a3 a4 a5 a6 a7 a8 a9 a10 a11 a12 cyI cyZ w_thrown w_size w_kinds w_as w_bs w_registers w_isMade w_steps w_stepParts w_pieces w_pieceParts w_slots w_areCounted w_registerOf w_slotOf w_pieceOf w_heldBy w_isSlotTaken w_outputs w_output) (PX5 a0 a1 a2 a3 a4 a5 a6 a7 a8 a9 a10 a11 a12 cyI cyZ o.2 w_size w_kinds w_as w_bs w_registers w_isMade w_steps w_stepParts w_pieces w_pieceParts w_slots w_areCounted w_registerOf w_slotOf w_pieceOf w_heldBy w_isSlotTaken w_outputs w_output) (kT cyI cyZ) o.1 0 0 := by
  refine kOf_i (cc := cX5_stepCount) (maxL := 2) (ty := .int) (by decide +kernel) rfl (Nat.le_of_ble_eq_true rfl) ?_
  intro p e s m args below meth c A Z ls C0 hP hK hD hA hl ret
  obtain ⟨hx, hb, hr, hml, hown, hts, hlocks⟩ := C0
  have hown : s.vm.findClass RX5 = some m.cls := hown
  have hl : lv_has ls 2 [(0, .ref a0), (1, .int p1)] := hl
  have hS : va_S A s.heap s.heap [] := va_S.rf
  have i_X5 : ∀ w ∈ wsX50, w ∈ wsX5_stepCount := by decide +kernel
  have k51 := hts (.fieldLink RX5 51 "RegisterAllocatorModel" "thrown" "I") (by decide +kernel)
  have k61 := hts (.fieldLink RX5 61 "RegisterAllocatorModel" "isMade" "Z") (by decide +kernel)
  rw [f_X5_stepCount] at hf
  refine lv_aload_n hx hb dX5_stepCount_0 rfl (lv_at hl 0 rfl) ?_
  refine lv_iconst (v := 0) hx hb dX5_stepCount_1 (by decide) ?_
  refine va_put (D := D) (ci := 5) (v := .int 0) (ty := .int) (C := RX5) (T := TX5) (N := 20) hx hb hts i_X5 tyX5 tyX5_ok nmX5 hown hK hP hD hS 0 rfl rfl 0 (by decide) k51 (fun _ h9 => h9) rfl (by decide +kernel) rfl (by first | rfl | decide) (Nat.le_of_ble_eq_true rfl) dX5_stepCount_2 (fun H locs hP hD hS => ?_)
  have hP : va_P D vwCl (PX5 a0 a1 a2 a3 a4 a5 a6 a7 a8 a9 a10 a11 a12 cyI cyZ 0 w_size w_kinds w_as w_bs w_registers w_isMade w_steps w_stepParts w_pieces w_pieceParts w_slots w_areCounted w_registerOf w_slotOf w_pieceOf w_heldBy w_isSlotTaken w_outputs w_output) H := hP
  have hD : va_D A (PX5 a0 a1 a2 a3 a4 a5 a6 a7 a8 a9 a10 a11 a12 cyI cyZ 0 w_size w_kinds w_as w_bs w_registers w_isMade w_steps w_stepParts w_pieces w_pieceParts w_slots w_areCounted w_registerOf w_slotOf w_pieceOf w_heldBy w_isSlotTaken w_outputs w_output) := hD
  refine lv_aload_n hx hb dX5_stepCount_5 rfl (lv_at hl 0 rfl) ?_
  refine va_get (D := D) (ci := 5) (v := .int w_isMade) (C := RX5) (T := TX5) (N := 20) hx hb hts i_X5 hown hK hP 0 rfl rfl 6 (by decide) k61 (fun _ h9 => h9) rfl dX5_stepCount_6 ?_
  refine lv_if_ne (tgt := 18) hx hb dX5_stepCount_9 (by decide) (fun c_9 => ?_) (fun c_9 => ?_)
  · have hf := kif c_9 hf
    refine lv_iload_n hx hb dX5_stepCount_18 rfl (lv_at hl 1 rfl) ?_
    refine lv_if_lt (tgt := 36) hx hb dX5_stepCount_19 (by decide) (fun c_19 => ?_) (fun c_19 => ?_)
    · have hf := kit c_19 hf
      refine lv_aload_n hx hb dX5_stepCount_36 rfl (lv_at hl 0 rfl) ?_
      refine lv_iconst (v := 2) hx hb dX5_stepCount_37 (by decide) ?_
      obtain ⟨⟨u38_0, u38_1⟩, hf38, hf⟩ := kbd hf
      try dsimp only at hf
      refine kc_Vi (As := [.int 2]) (rest := []) (wf := (PX5 a0 a1 a2 a3 a4 a5 a6 a7 a8 a9 a10 a11 a12 cyI cyZ u38_1 w_size w_kinds w_as w_bs w_registers w_isMade w_steps w_stepParts w_pieces w_pieceParts w_slots w_areCounted w_registerOf w_slotOf w_pieceOf w_heldBy w_isSlotTaken w_outputs w_output)) (c_X5_fail l D cyI cyZ a0 a1 a2 a3 a4 a5 a6 a7 a8 a9 a10 a11 a12 0 w_size w_kinds w_as w_bs w_registers w_isMade w_steps w_stepParts w_pieces w_pieceParts w_slots w_areCounted w_registerOf w_slotOf w_pieceOf w_heldBy w_isSlotTaken w_outputs w_output 2 (u38_0, u38_1) hf38) ⟨hx, hb, hml, hown, hts⟩ (cwV 1 hts gX5_stepCount_X5_fail rfl rfl rfl (by decide +kernel) ⟨Nat.le_of_ble_eq_true rfl, Nat.le_of_ble_eq_true rfl⟩) hK hP hD hS hA [0, 1, 2, 3, 4, 5, 6, 7, 8, 9, 10, 11, 12] [] 13 rfl rfl kR0 rfl (by decide +kernel) rfl rfl rfl rfl hl.1 rfl (Nat.le_of_ble_eq_true rfl) dX5_stepCount_38 ⟨Nat.le_of_ble_eq_true rfl, Nat.le_of_ble_eq_true rfl⟩ (fun H locs hP hD hS => ?_)
      obtain rfl := Option.some.inj hf
      exact ret _ _ _ _ dX5_stepCount_41 rfl hP hD hS
    · have hf := kif c_19 hf
      refine lv_iload_n hx hb dX5_stepCount_22 rfl (lv_at hl 1 rfl) ?_
      refine lv_bipush (v := 8) hx hb dX5_stepCount_23 (by decide) ?_
      refine lv_icmp_gt (tgt := 36) hx hb dX5_stepCount_25 (by decide) (fun c_25 => ?_) (fun c_25 => ?_)
      · have hf := kit c_25 hf
        refine lv_aload_n hx hb dX5_stepCount_36 rfl (lv_at hl 0 rfl) ?_
        refine lv_iconst (v := 2) hx hb dX5_stepCount_37 (by decide) ?_
        obtain ⟨⟨u38_0, u38_1⟩, hf38, hf⟩ := kbd hf
        try dsimp only at hf
        refine kc_Vi (As := [.int 2]) (rest := []) (wf := (PX5 a0 a1 a2 a3 a4 a5 a6 a7 a8 a9 a10 a11 a12 cyI cyZ u38_1 w_size w_kinds w_as w_bs w_registers w_isMade w_steps w_stepParts w_pieces w_pieceParts w_slots w_areCounted w_registerOf w_slotOf w_pieceOf w_heldBy w_isSlotTaken w_outputs w_output)) (c_X5_fail l D cyI cyZ a0 a1 a2 a3 a4 a5 a6 a7 a8 a9 a10 a11 a12 0 w_size w_kinds w_as w_bs w_registers w_isMade w_steps w_stepParts w_pieces w_pieceParts w_slots w_areCounted w_registerOf w_slotOf w_pieceOf w_heldBy w_isSlotTaken w_outputs w_output 2 (u38_0, u38_1) hf38) ⟨hx, hb, hml, hown, hts⟩ (cwV 1 hts gX5_stepCount_X5_fail rfl rfl rfl (by decide +kernel) ⟨Nat.le_of_ble_eq_true rfl, Nat.le_of_ble_eq_true rfl⟩) hK hP hD hS hA [0, 1, 2, 3, 4, 5, 6, 7, 8, 9, 10, 11, 12] [] 13 rfl rfl kR0 rfl (by decide +kernel) rfl rfl rfl rfl hl.1 rfl (Nat.le_of_ble_eq_true rfl) dX5_stepCount_38 ⟨Nat.le_of_ble_eq_true rfl, Nat.le_of_ble_eq_true rfl⟩ (fun H locs hP hD hS => ?_)
        obtain rfl := Option.some.inj hf
        exact ret _ _ _ _ dX5_stepCount_41 rfl hP hD hS
      · have hf := kif c_25 hf
        refine lv_aload_n hx hb dX5_stepCount_28 rfl (lv_at hl 0 rfl) ?_
        refine lv_iload_n hx hb dX5_stepCount_29 rfl (lv_at hl 1 rfl) ?_
        obtain ⟨u30, hf30, hf⟩ := kbd hf
        refine kc_Vi (As := [.int p1]) (rest := []) (wf := (PX5 a0 a1 a2 a3 a4 a5 a6 a7 a8 a9 a10 a11 a12 cyI cyZ 0 w_size w_kinds w_as w_bs w_registers w_isMade w_steps w_stepParts w_pieces w_pieceParts w_slots w_areCounted w_registerOf w_slotOf w_pieceOf w_heldBy w_isSlotTaken w_outputs w_output)) (c_X5_stepsOf l D cyI cyZ a0 a1 a2 a3 a4 a5 a6 a7 a8 a9 a10 a11 a12 0 w_size w_kinds w_as w_bs w_registers w_isMade w_steps w_stepParts w_pieces w_pieceParts w_slots w_areCounted w_registerOf w_slotOf w_pieceOf w_heldBy w_isSlotTaken w_outputs w_output p1 u30 hf30) ⟨hx, hb, hml, hown, hts⟩ (cwV 1 hts gX5_stepCount_X5_stepsOf rfl rfl rfl (by decide +kernel) ⟨Nat.le_of_ble_eq_true rfl, Nat.le_of_ble_eq_true rfl⟩) hK hP hD hS hA [0, 1, 2, 3, 4, 5, 6, 7, 8, 9, 10, 11, 12] [] 13 rfl rfl kR0 rfl (by decide +kernel) rfl rfl rfl rfl hl.1 rfl (Nat.le_of_ble_eq_true rfl) dX5_stepCount_30 ⟨Nat.le_of_ble_eq_true rfl, Nat.le_of_ble_eq_true rfl⟩ (fun H locs hP hD hS => ?_)
        refine lv_goto (tgt := 41) hx hb dX5_stepCount_33 (by decide) ?_
        obtain rfl := Option.some.inj hf
        exact ret _ _ _ _ dX5_stepCount_41 rfl hP hD hS
  · have hf := kit c_9 hf
    refine lv_aload_n hx hb dX5_stepCount_12 rfl (lv_at hl 0 rfl) ?_
    refine lv_iconst (v := 1) hx hb dX5_stepCount_13 (by decide) ?_
    obtain ⟨⟨u14_0, u14_1⟩, hf14, hf⟩ := kbd hf
    try dsimp only at hf
    refine kc_Vi (As := [.int 1]) (rest := []) (wf := (PX5 a0 a1 a2 a3 a4 a5 a6 a7 a8 a9 a10 a11 a12 cyI cyZ u14_1 w_size w_kinds w_as w_bs w_registers w_isMade w_steps w_stepParts w_pieces w_pieceParts w_slots w_areCounted w_registerOf w_slotOf w_pieceOf w_heldBy w_isSlotTaken w_outputs w_output)) (c_X5_fail l D cyI cyZ a0 a1 a2 a3 a4 a5 a6 a7 a8 a9 a10 a11 a12 0 w_size w_kinds w_as w_bs w_registers w_isMade w_steps w_stepParts w_pieces w_pieceParts w_slots w_areCounted w_registerOf w_slotOf w_pieceOf w_heldBy w_isSlotTaken w_outputs w_output 1 (u14_0, u14_1) hf14) ⟨hx, hb, hml, hown, hts⟩ (cwV 1 hts gX5_stepCount_X5_fail rfl rfl rfl (by decide +kernel) ⟨Nat.le_of_ble_eq_true rfl, Nat.le_of_ble_eq_true rfl⟩) hK hP hD hS hA [0, 1, 2, 3, 4, 5, 6, 7, 8, 9, 10, 11, 12] [] 13 rfl rfl kR0 rfl (by decide +kernel) rfl rfl rfl rfl hl.1 rfl (Nat.le_of_ble_eq_true rfl) dX5_stepCount_14 ⟨Nat.le_of_ble_eq_true rfl, Nat.le_of_ble_eq_true rfl⟩ (fun H locs hP hD hS => ?_)
    obtain rfl := Option.some.inj hf
    exact ret _ _ _ _ dX5_stepCount_17 rfl hP hD hS

abbrev rmX5_slots : Room := { frames := 1, cells := 0, slots := 0, locals := 21 }
set_option maxHeartbeats 4000000 in
set_option maxRecDepth 100000 in
theorem c_X5_slots (l : Launch) (D : va_G) (cyI cyZ : ClassId) (a0 a1 a2 a3 a4 a5 a6 a7 a8 a9 a10 a11 a12 : Nat) (w_thrown : Int32) (w_size : Int32) (w_kinds : Nat → Int32) (w_as : Nat → Int32) (w_bs : Nat → Int32) (w_registers : Int32) (w_isMade : Int32) (w_steps : Int32) (w_stepParts : Nat → Int32) (w_pieces : Int32) (w_pieceParts : Nat → Int32) (w_slots : Int32) (w_areCounted : Nat → Int32) (w_registerOf : Nat → Int32) (w_slotOf : Nat → Int32) (w_pieceOf : Nat → Int32) (w_heldBy : Nat → Int32) (w_isSlotTaken : Nat → Int32) (w_outputs : Int32) (w_output : Nat → Int32) (o : Int32 × Int32) (hf : f_X5_slots w_isMade w_slots = some o) : kMi l yX5_slots wsX5_slots rmX5_slots [.ref a0] D (PX5 a0 a1 a2 a3 a4 a5 a6 a7 a8 a9 a10 a11 a12 cyI cyZ w_thrown w_size w_kinds w_as w_bs w_registers w_isMade w_steps w_stepParts w_pieces w_pieceParts w_slots w_areCounted w_registerOf w_slotOf w_pieceOf w_heldBy w_isSlotTaken w_outputs w_output) (PX5 a0 a1 a2 a3 a4 a5 a6 a7 a8 a9 a10 a11 a12 cyI cyZ o.2 w_size w_kinds w_as w_bs w_registers w_isMade w_steps w_stepParts w_pieces w_pieceParts w_slots w_areCounted w_registerOf w_slotOf w_pieceOf w_heldBy w_isSlotTaken w_outputs w_output) (kT cyI cyZ) o.1 0 0 := by
  refine kOf_i (cc := cX5_slots) (maxL := 1) (ty := .int) (by decide +kernel) rfl (Nat.le_of_ble_eq_true rfl) ?_
  intro p e s m args below meth c A Z ls C0 hP hK hD hA hl ret
  obtain ⟨hx, hb, hr, hml, hown, hts, hlocks⟩ := C0
  have hown : s.vm.findClass RX5 = some m.cls := hown
  have hl : lv_has ls 1 [(0, .ref a0)] := hl
  have hS : va_S A s.heap s.heap [] := va_S.rf
  have i_X5 : ∀ w ∈ wsX50, w ∈ wsX5_slots := by decide +kernel
  have k102 := hts (.fieldLink RX5 102 "RegisterAllocatorModel" "slots" "I") (by decide +kernel)
  have k51 := hts (.fieldLink RX5 51 "RegisterAllocatorModel" "thrown" "I") (by decide +kernel)
  have k61 := hts (.fieldLink RX5 61 "RegisterAllocatorModel" "isMade" "Z") (by decide +kernel)
  rw [f_X5_slots] at hf
  refine lv_aload_n hx hb dX5_slots_0 rfl (lv_at hl 0 rfl) ?_
  refine lv_iconst (v := 0) hx hb dX5_slots_1 (by decide) ?_
  refine va_put (D := D) (ci := 5) (v := .int 0) (ty := .int) (C := RX5) (T := TX5) (N := 20) hx hb hts i_X5 tyX5 tyX5_ok nmX5 hown hK hP hD hS 0 rfl rfl 0 (by decide) k51 (fun _ h9 => h9) rfl (by decide +kernel) rfl (by first | rfl | decide) (Nat.le_of_ble_eq_true rfl) dX5_slots_2 (fun H locs hP hD hS => ?_)
  have hP : va_P D vwCl (PX5 a0 a1 a2 a3 a4 a5 a6 a7 a8 a9 a10 a11 a12 cyI cyZ 0 w_size w_kinds w_as w_bs w_registers w_isMade w_steps w_stepParts w_pieces w_pieceParts w_slots w_areCounted w_registerOf w_slotOf w_pieceOf w_heldBy w_isSlotTaken w_outputs w_output) H := hP
  have hD : va_D A (PX5 a0 a1 a2 a3 a4 a5 a6 a7 a8 a9 a10 a11 a12 cyI cyZ 0 w_size w_kinds w_as w_bs w_registers w_isMade w_steps w_stepParts w_pieces w_pieceParts w_slots w_areCounted w_registerOf w_slotOf w_pieceOf w_heldBy w_isSlotTaken w_outputs w_output) := hD
  refine lv_aload_n hx hb dX5_slots_5 rfl (lv_at hl 0 rfl) ?_
  refine va_get (D := D) (ci := 5) (v := .int w_isMade) (C := RX5) (T := TX5) (N := 20) hx hb hts i_X5 hown hK hP 0 rfl rfl 6 (by decide) k61 (fun _ h9 => h9) rfl dX5_slots_6 ?_
  refine lv_if_eq (tgt := 19) hx hb dX5_slots_9 (by decide) (fun c_9 => ?_) (fun c_9 => ?_)
  · have hf := kit c_9 hf
    refine lv_aload_n hx hb dX5_slots_19 rfl (lv_at hl 0 rfl) ?_
    refine lv_iconst (v := 1) hx hb dX5_slots_20 (by decide) ?_
    obtain ⟨⟨u21_0, u21_1⟩, hf21, hf⟩ := kbd hf
    try dsimp only at hf
    refine kc_Vi (As := [.int 1]) (rest := []) (wf := (PX5 a0 a1 a2 a3 a4 a5 a6 a7 a8 a9 a10 a11 a12 cyI cyZ u21_1 w_size w_kinds w_as w_bs w_registers w_isMade w_steps w_stepParts w_pieces w_pieceParts w_slots w_areCounted w_registerOf w_slotOf w_pieceOf w_heldBy w_isSlotTaken w_outputs w_output)) (c_X5_fail l D cyI cyZ a0 a1 a2 a3 a4 a5 a6 a7 a8 a9 a10 a11 a12 0 w_size w_kinds w_as w_bs w_registers w_isMade w_steps w_stepParts w_pieces w_pieceParts w_slots w_areCounted w_registerOf w_slotOf w_pieceOf w_heldBy w_isSlotTaken w_outputs w_output 1 (u21_0, u21_1) hf21) ⟨hx, hb, hml, hown, hts⟩ (cwV 1 hts gX5_slots_X5_fail rfl rfl rfl (by decide +kernel) ⟨Nat.le_of_ble_eq_true rfl, Nat.le_of_ble_eq_true rfl⟩) hK hP hD hS hA [0, 1, 2, 3, 4, 5, 6, 7, 8, 9, 10, 11, 12] [] 13 rfl rfl kR0 rfl (by decide +kernel) rfl rfl rfl rfl hl.1 rfl (Nat.le_of_ble_eq_true rfl) dX5_slots_21 ⟨Nat.le_of_ble_eq_true rfl, Nat.le_of_ble_eq_true rfl⟩ (fun H locs hP hD hS => ?_)
    obtain rfl := Option.some.inj hf
    exact ret _ _ _ _ dX5_slots_24 rfl hP hD hS
  · have hf := kif c_9 hf
    refine lv_aload_n hx hb dX5_slots_12 rfl (lv_at hl 0 rfl) ?_
    refine va_get (D := D) (ci := 5) (v := .int w_slots) (C := RX5) (T := TX5) (N := 20) hx hb hts i_X5 hown hK hP 0 rfl rfl 11 (by decide) k102 (fun _ h9 => h9) rfl dX5_slots_13 ?_
    refine lv_goto (tgt := 24) hx hb dX5_slots_16 (by decide) ?_
    obtain rfl := Option.some.inj hf
    exact ret _ _ _ _ dX5_slots_24 rfl hP hD hS

abbrev rmX5_pieceCount : Room := { frames := 1, cells := 0, slots := 0, locals := 21 }
set_option maxHeartbeats 4000000 in
set_option maxRecDepth 100000 in
theorem c_X5_pieceCount (l : Launch) (D : va_G) (cyI cyZ : ClassId) (a0 a1 a2 a3 a4 a5 a6 a7 a8 a9 a10 a11 a12 : Nat) (w_thrown : Int32) (w_size : Int32) (w_kinds : Nat → Int32) (w_as : Nat → Int32) (w_bs : Nat → Int32) (w_registers : Int32) (w_isMade : Int32) (w_steps : Int32) (w_stepParts : Nat → Int32) (w_pieces : Int32) (w_pieceParts : Nat → Int32) (w_slots : Int32) (w_areCounted : Nat → Int32) (w_registerOf : Nat → Int32) (w_slotOf : Nat → Int32) (w_pieceOf : Nat → Int32) (w_heldBy : Nat → Int32) (w_isSlotTaken : Nat → Int32) (w_outputs : Int32) (w_output : Nat → Int32) (o : Int32 × Int32) (hf : f_X5_pieceCount w_isMade w_pieces = some o) : kMi l yX5_pieceCount wsX5_pieceCount rmX5_pieceCount [.ref a0] D (PX5 a0 a1 a2 a3 a4 a5 a6 a7 a8 a9 a10 a11 a12 cyI cyZ w_thrown w_size w_kinds w_as w_bs w_registers w_isMade w_steps w_stepParts w_pieces w_pieceParts w_slots w_areCounted w_registerOf w_slotOf w_pieceOf w_heldBy w_isSlotTaken w_outputs w_output) (PX5 a0 a1 a2 a3 a4 a5 a6 a7 a8 a9 a10 a11 a12 cyI cyZ o.2 w_size w_kinds w_as w_bs w_registers w_isMade w_steps w_stepParts w_pieces w_pieceParts w_slots w_areCounted w_registerOf w_slotOf w_pieceOf w_heldBy w_isSlotTaken w_outputs w_output) (kT cyI cyZ) o.1 0 0 := by
  refine kOf_i (cc := cX5_pieceCount) (maxL := 1) (ty := .int) (by decide +kernel) rfl (Nat.le_of_ble_eq_true rfl) ?_
  intro p e s m args below meth c A Z ls C0 hP hK hD hA hl ret
  obtain ⟨hx, hb, hr, hml, hown, hts, hlocks⟩ := C0
  have hown : s.vm.findClass RX5 = some m.cls := hown
  have hl : lv_has ls 1 [(0, .ref a0)] := hl
  have hS : va_S A s.heap s.heap [] := va_S.rf
  have i_X5 : ∀ w ∈ wsX50, w ∈ wsX5_pieceCount := by decide +kernel
  have k51 := hts (.fieldLink RX5 51 "RegisterAllocatorModel" "thrown" "I") (by decide +kernel)
  have k61 := hts (.fieldLink RX5 61 "RegisterAllocatorModel" "isMade" "Z") (by decide +kernel)
  have k95 := hts (.fieldLink RX5 95 "RegisterAllocatorModel" "pieces" "I") (by decide +kernel)
  rw [f_X5_pieceCount] at hf
  refine lv_aload_n hx hb dX5_pieceCount_0 rfl (lv_at hl 0 rfl) ?_
  refine lv_iconst (v := 0) hx hb dX5_pieceCount_1 (by decide) ?_
  refine va_put (D := D) (ci := 5) (v := .int 0) (ty := .int) (C := RX5) (T := TX5) (N := 20) hx hb hts i_X5 tyX5 tyX5_ok nmX5 hown hK hP hD hS 0 rfl rfl 0 (by decide) k51 (fun _ h9 => h9) rfl (by decide +kernel) rfl (by first | rfl | decide) (Nat.le_of_ble_eq_true rfl) dX5_pieceCount_2 (fun H locs hP hD hS => ?_)
  have hP : va_P D vwCl (PX5 a0 a1 a2 a3 a4 a5 a6 a7 a8 a9 a10 a11 a12 cyI cyZ 0 w_size w_kinds w_as w_bs w_registers w_isMade w_steps w_stepParts w_pieces w_pieceParts w_slots w_areCounted w_registerOf w_slotOf w_pieceOf w_heldBy w_isSlotTaken w_outputs w_output) H := hP
  have hD : va_D A (PX5 a0 a1 a2 a3 a4 a5 a6 a7 a8 a9 a10 a11 a12 cyI cyZ 0 w_size w_kinds w_as w_bs w_registers w_isMade w_steps w_stepParts w_pieces w_pieceParts w_slots w_areCounted w_registerOf w_slotOf w_pieceOf w_heldBy w_isSlotTaken w_outputs w_output) := hD
  refine lv_aload_n hx hb dX5_pieceCount_5 rfl (lv_at hl 0 rfl) ?_
  refine va_get (D := D) (ci := 5) (v := .int w_isMade) (C := RX5) (T := TX5) (N := 20) hx hb hts i_X5 hown hK hP 0 rfl rfl 6 (by decide) k61 (fun _ h9 => h9) rfl dX5_pieceCount_6 ?_
  refine lv_if_eq (tgt := 19) hx hb dX5_pieceCount_9 (by decide) (fun c_9 => ?_) (fun c_9 => ?_)
  · have hf := kit c_9 hf
    refine lv_aload_n hx hb dX5_pieceCount_19 rfl (lv_at hl 0 rfl) ?_
    refine lv_iconst (v := 1) hx hb dX5_pieceCount_20 (by decide) ?_
    obtain ⟨⟨u21_0, u21_1⟩, hf21, hf⟩ := kbd hf
    try dsimp only at hf
    refine kc_Vi (As := [.int 1]) (rest := []) (wf := (PX5 a0 a1 a2 a3 a4 a5 a6 a7 a8 a9 a10 a11 a12 cyI cyZ u21_1 w_size w_kinds w_as w_bs w_registers w_isMade w_steps w_stepParts w_pieces w_pieceParts w_slots w_areCounted w_registerOf w_slotOf w_pieceOf w_heldBy w_isSlotTaken w_outputs w_output)) (c_X5_fail l D cyI cyZ a0 a1 a2 a3 a4 a5 a6 a7 a8 a9 a10 a11 a12 0 w_size w_kinds w_as w_bs w_registers w_isMade w_steps w_stepParts w_pieces w_pieceParts w_slots w_areCounted w_registerOf w_slotOf w_pieceOf w_heldBy w_isSlotTaken w_outputs w_output 1 (u21_0, u21_1) hf21) ⟨hx, hb, hml, hown, hts⟩ (cwV 1 hts gX5_pieceCount_X5_fail rfl rfl rfl (by decide +kernel) ⟨Nat.le_of_ble_eq_true rfl, Nat.le_of_ble_eq_true rfl⟩) hK hP hD hS hA [0, 1, 2, 3, 4, 5, 6, 7, 8, 9, 10, 11, 12] [] 13 rfl rfl kR0 rfl (by decide +kernel) rfl rfl rfl rfl hl.1 rfl (Nat.le_of_ble_eq_true rfl) dX5_pieceCount_21 ⟨Nat.le_of_ble_eq_true rfl, Nat.le_of_ble_eq_true rfl⟩ (fun H locs hP hD hS => ?_)
    obtain rfl := Option.some.inj hf
    exact ret _ _ _ _ dX5_pieceCount_24 rfl hP hD hS
  · have hf := kif c_9 hf
    refine lv_aload_n hx hb dX5_pieceCount_12 rfl (lv_at hl 0 rfl) ?_
    refine va_get (D := D) (ci := 5) (v := .int w_pieces) (C := RX5) (T := TX5) (N := 20) hx hb hts i_X5 hown hK hP 0 rfl rfl 9 (by decide) k95 (fun _ h9 => h9) rfl dX5_pieceCount_13 ?_
    refine lv_goto (tgt := 24) hx hb dX5_pieceCount_16 (by decide) ?_
    obtain rfl := Option.some.inj hf
    exact ret _ _ _ _ dX5_pieceCount_24 rfl hP hD hS

abbrev rmX5_piece : Room := { frames := 1, cells := 0, slots := 0, locals := 21 }
set_option maxHeartbeats 4000000 in
set_option maxRecDepth 100000 in
theorem c_X5_piece (l : Launch) (D : va_G) (cyI cyZ : ClassId) (a0 a1 a2 a3 a4 a5 a6 a7 a8 a9 a10 a11 a12 : Nat) (w_thrown : Int32) (w_size : Int32) (w_kinds : Nat → Int32) (w_as : Nat → Int32) (w_bs : Nat → Int32) (w_registers : Int32) (w_isMade : Int32) (w_steps : Int32) (w_stepParts : Nat → Int32) (w_pieces : Int32) (w_pieceParts : Nat → Int32) (w_slots : Int32) (w_areCounted : Nat → Int32) (w_registerOf : Nat → Int32) (w_slotOf : Nat → Int32) (w_pieceOf : Nat → Int32) (w_heldBy : Nat → Int32) (w_isSlotTaken : Nat → Int32) (w_outputs : Int32) (w_output : Nat → Int32) (p1 : Int32) (p2 : Int32) (o : Int32 × Int32) (hf : f_X5_piece p1 p2 w_isMade w_pieces w_pieceParts = some o) : kMi l yX5_piece wsX5_piece rmX5_piece [.ref a0, .int p1, .int p2] D (PX5 a0 a1 a2 a3 a4 a5 a6 a7 a8 a9 a10 a11 a12 cyI cyZ w_thrown w_size w_kinds w_as w_bs w_registers w_isMade w_steps w_stepParts w_pieces w_pieceParts w_slots w_areCounted w_registerOf w_slotOf w_pieceOf w_heldBy w_isSlotTaken w_outputs w_output) (PX5 a0 a1 a2 a3 a4 a5 a6 a7 a8 a9 a10 a11 a12 cyI cyZ o.2 w_size w_kinds w_as w_bs w_registers w_isMade w_steps w_stepParts w_pieces w_pieceParts w_slots w_areCounted w_registerOf w_slotOf w_pieceOf w_heldBy w_isSlotTaken w_outputs w_output) (kT cyI cyZ) o.1 0 0 := by
  refine kOf_i (cc := cX5_piece) (maxL := 3) (ty := .int) (by decide +kernel) rfl (Nat.le_of_ble_eq_true rfl) ?_
  intro p e s m args below meth c A Z ls C0 hP hK hD hA hl ret
  obtain ⟨hx, hb, hr, hml, hown, hts, hlocks⟩ := C0
  have hown : s.vm.findClass RX5 = some m.cls := hown
  have hl : lv_has ls 3 [(0, .ref a0), (1, .int p1), (2, .int p2)] := hl
  have hS : va_S A s.heap s.heap [] := va_S.rf
  have i_X5 : ∀ w ∈ wsX50, w ∈ wsX5_piece := by decide +kernel
  have k26 := hts (.fieldLink RX5 26 "RegisterAllocatorModel" "pieceParts" "[I") (by decide +kernel)
  have k51 := hts (.fieldLink RX5 51 "RegisterAllocatorModel" "thrown" "I") (by decide +kernel)
  have k61 := hts (.fieldLink RX5 61 "RegisterAllocatorModel" "isMade" "Z") (by decide +kernel)
  have k95 := hts (.fieldLink RX5 95 "RegisterAllocatorModel" "pieces" "I") (by decide +kernel)
  rw [f_X5_piece] at hf
  refine lv_aload_n hx hb dX5_piece_0 rfl (lv_at hl 0 rfl) ?_
  refine lv_iconst (v := 0) hx hb dX5_piece_1 (by decide) ?_
  refine va_put (D := D) (ci := 5) (v := .int 0) (ty := .int) (C := RX5) (T := TX5) (N := 20) hx hb hts i_X5 tyX5 tyX5_ok nmX5 hown hK hP hD hS 0 rfl rfl 0 (by decide) k51 (fun _ h9 => h9) rfl (by decide +kernel) rfl (by first | rfl | decide) (Nat.le_of_ble_eq_true rfl) dX5_piece_2 (fun H locs hP hD hS => ?_)
  have hP : va_P D vwCl (PX5 a0 a1 a2 a3 a4 a5 a6 a7 a8 a9 a10 a11 a12 cyI cyZ 0 w_size w_kinds w_as w_bs w_registers w_isMade w_steps w_stepParts w_pieces w_pieceParts w_slots w_areCounted w_registerOf w_slotOf w_pieceOf w_heldBy w_isSlotTaken w_outputs w_output) H := hP
  have hD : va_D A (PX5 a0 a1 a2 a3 a4 a5 a6 a7 a8 a9 a10 a11 a12 cyI cyZ 0 w_size w_kinds w_as w_bs w_registers w_isMade w_steps w_stepParts w_pieces w_pieceParts w_slots w_areCounted w_registerOf w_slotOf w_pieceOf w_heldBy w_isSlotTaken w_outputs w_output) := hD
  refine lv_aload_n hx hb dX5_piece_5 rfl (lv_at hl 0 rfl) ?_
  refine va_get (D := D) (ci := 5) (v := .int w_isMade) (C := RX5) (T := TX5) (N := 20) hx hb hts i_X5 hown hK hP 0 rfl rfl 6 (by decide) k61 (fun _ h9 => h9) rfl dX5_piece_6 ?_
  refine lv_if_ne (tgt := 18) hx hb dX5_piece_9 (by decide) (fun c_9 => ?_) (fun c_9 => ?_)
  · have hf := kif c_9 hf
    refine lv_iload_n hx hb dX5_piece_18 rfl (lv_at hl 1 rfl) ?_
    refine lv_if_lt (tgt := 52) hx hb dX5_piece_19 (by decide) (fun c_19 => ?_) (fun c_19 => ?_)
    · have hf := kit c_19 hf
      refine lv_aload_n hx hb dX5_piece_52 rfl (lv_at hl 0 rfl) ?_
      refine lv_iconst (v := 2) hx hb dX5_piece_53 (by decide) ?_
      obtain ⟨⟨u54_0, u54_1⟩, hf54, hf⟩ := kbd hf
      try dsimp only at hf
      refine kc_Vi (As := [.int 2]) (rest := []) (wf := (PX5 a0 a1 a2 a3 a4 a5 a6 a7 a8 a9 a10 a11 a12 cyI cyZ u54_1 w_size w_kinds w_as w_bs w_registers w_isMade w_steps w_stepParts w_pieces w_pieceParts w_slots w_areCounted w_registerOf w_slotOf w_pieceOf w_heldBy w_isSlotTaken w_outputs w_output)) (c_X5_fail l D cyI cyZ a0 a1 a2 a3 a4 a5 a6 a7 a8 a9 a10 a11 a12 0 w_size w_kinds w_as w_bs w_registers w_isMade w_steps w_stepParts w_pieces w_pieceParts w_slots w_areCounted w_registerOf w_slotOf w_pieceOf w_heldBy w_isSlotTaken w_outputs w_output 2 (u54_0, u54_1) hf54) ⟨hx, hb, hml, hown, hts⟩ (cwV 1 hts gX5_piece_X5_fail rfl rfl rfl (by decide +kernel) ⟨Nat.le_of_ble_eq_true rfl, Nat.le_of_ble_eq_true rfl⟩) hK hP hD hS hA [0, 1, 2, 3, 4, 5, 6, 7, 8, 9, 10, 11, 12] [] 13 rfl rfl kR0 rfl (by decide +kernel) rfl rfl rfl rfl hl.1 rfl (Nat.le_of_ble_eq_true rfl) dX5_piece_54 ⟨Nat.le_of_ble_eq_true rfl, Nat.le_of_ble_eq_true rfl⟩ (fun H locs hP hD hS => ?_)
      obtain rfl := Option.some.inj hf
      exact ret _ _ _ _ dX5_piece_57 rfl hP hD hS
    · have hf := kif c_19 hf
      refine lv_iload_n hx hb dX5_piece_22 rfl (lv_at hl 1 rfl) ?_
      refine lv_aload_n hx hb dX5_piece_23 rfl (lv_at hl 0 rfl) ?_
      refine va_get (D := D) (ci := 5) (v := .int w_pieces) (C := RX5) (T := TX5) (N := 20) hx hb hts i_X5 hown hK hP 0 rfl rfl 9 (by decide) k95 (fun _ h9 => h9) rfl dX5_piece_24 ?_
      refine lv_icmp_ge (tgt := 52) hx hb dX5_piece_27 (by decide) (fun c_27 => ?_) (fun c_27 => ?_)
      · have hf := kit c_27 hf
        refine lv_aload_n hx hb dX5_piece_52 rfl (lv_at hl 0 rfl) ?_
        refine lv_iconst (v := 2) hx hb dX5_piece_53 (by decide) ?_
        obtain ⟨⟨u54_0, u54_1⟩, hf54, hf⟩ := kbd hf
        try dsimp only at hf
        refine kc_Vi (As := [.int 2]) (rest := []) (wf := (PX5 a0 a1 a2 a3 a4 a5 a6 a7 a8 a9 a10 a11 a12 cyI cyZ u54_1 w_size w_kinds w_as w_bs w_registers w_isMade w_steps w_stepParts w_pieces w_pieceParts w_slots w_areCounted w_registerOf w_slotOf w_pieceOf w_heldBy w_isSlotTaken w_outputs w_output)) (c_X5_fail l D cyI cyZ a0 a1 a2 a3 a4 a5 a6 a7 a8 a9 a10 a11 a12 0 w_size w_kinds w_as w_bs w_registers w_isMade w_steps w_stepParts w_pieces w_pieceParts w_slots w_areCounted w_registerOf w_slotOf w_pieceOf w_heldBy w_isSlotTaken w_outputs w_output 2 (u54_0, u54_1) hf54) ⟨hx, hb, hml, hown, hts⟩ (cwV 1 hts gX5_piece_X5_fail rfl rfl rfl (by decide +kernel) ⟨Nat.le_of_ble_eq_true rfl, Nat.le_of_ble_eq_true rfl⟩) hK hP hD hS hA [0, 1, 2, 3, 4, 5, 6, 7, 8, 9, 10, 11, 12] [] 13 rfl rfl kR0 rfl (by decide +kernel) rfl rfl rfl rfl hl.1 rfl (Nat.le_of_ble_eq_true rfl) dX5_piece_54 ⟨Nat.le_of_ble_eq_true rfl, Nat.le_of_ble_eq_true rfl⟩ (fun H locs hP hD hS => ?_)
        obtain rfl := Option.some.inj hf
        exact ret _ _ _ _ dX5_piece_57 rfl hP hD hS
      · have hf := kif c_27 hf
        refine lv_iload_n hx hb dX5_piece_30 rfl (lv_at hl 2 rfl) ?_
        refine lv_if_lt (tgt := 52) hx hb dX5_piece_31 (by decide) (fun c_31 => ?_) (fun c_31 => ?_)
        · have hf := kit c_31 hf
          refine lv_aload_n hx hb dX5_piece_52 rfl (lv_at hl 0 rfl) ?_
          refine lv_iconst (v := 2) hx hb dX5_piece_53 (by decide) ?_
          obtain ⟨⟨u54_0, u54_1⟩, hf54, hf⟩ := kbd hf
          try dsimp only at hf
          refine kc_Vi (As := [.int 2]) (rest := []) (wf := (PX5 a0 a1 a2 a3 a4 a5 a6 a7 a8 a9 a10 a11 a12 cyI cyZ u54_1 w_size w_kinds w_as w_bs w_registers w_isMade w_steps w_stepParts w_pieces w_pieceParts w_slots w_areCounted w_registerOf w_slotOf w_pieceOf w_heldBy w_isSlotTaken w_outputs w_output)) (c_X5_fail l D cyI cyZ a0 a1 a2 a3 a4 a5 a6 a7 a8 a9 a10 a11 a12 0 w_size w_kinds w_as w_bs w_registers w_isMade w_steps w_stepParts w_pieces w_pieceParts w_slots w_areCounted w_registerOf w_slotOf w_pieceOf w_heldBy w_isSlotTaken w_outputs w_output 2 (u54_0, u54_1) hf54) ⟨hx, hb, hml, hown, hts⟩ (cwV 1 hts gX5_piece_X5_fail rfl rfl rfl (by decide +kernel) ⟨Nat.le_of_ble_eq_true rfl, Nat.le_of_ble_eq_true rfl⟩) hK hP hD hS hA [0, 1, 2, 3, 4, 5, 6, 7, 8, 9, 10, 11, 12] [] 13 rfl rfl kR0 rfl (by decide +kernel) rfl rfl rfl rfl hl.1 rfl (Nat.le_of_ble_eq_true rfl) dX5_piece_54 ⟨Nat.le_of_ble_eq_true rfl, Nat.le_of_ble_eq_true rfl⟩ (fun H locs hP hD hS => ?_)
          obtain rfl := Option.some.inj hf
          exact ret _ _ _ _ dX5_piece_57 rfl hP hD hS
        · have hf := kif c_31 hf
          refine lv_iload_n hx hb dX5_piece_34 rfl (lv_at hl 2 rfl) ?_
          refine lv_iconst (v := 3) hx hb dX5_piece_35 (by decide) ?_
          refine lv_icmp_gt (tgt := 52) hx hb dX5_piece_36 (by decide) (fun c_36 => ?_) (fun c_36 => ?_)
          · have hf := kit c_36 hf
            refine lv_aload_n hx hb dX5_piece_52 rfl (lv_at hl 0 rfl) ?_
            refine lv_iconst (v := 2) hx hb dX5_piece_53 (by decide) ?_
            obtain ⟨⟨u54_0, u54_1⟩, hf54, hf⟩ := kbd hf
            try dsimp only at hf
            refine kc_Vi (As := [.int 2]) (rest := []) (wf := (PX5 a0 a1 a2 a3 a4 a5 a6 a7 a8 a9 a10 a11 a12 cyI cyZ u54_1 w_size w_kinds w_as w_bs w_registers w_isMade w_steps w_stepParts w_pieces w_pieceParts w_slots w_areCounted w_registerOf w_slotOf w_pieceOf w_heldBy w_isSlotTaken w_outputs w_output)) (c_X5_fail l D cyI cyZ a0 a1 a2 a3 a4 a5 a6 a7 a8 a9 a10 a11 a12 0 w_size w_kinds w_as w_bs w_registers w_isMade w_steps w_stepParts w_pieces w_pieceParts w_slots w_areCounted w_registerOf w_slotOf w_pieceOf w_heldBy w_isSlotTaken w_outputs w_output 2 (u54_0, u54_1) hf54) ⟨hx, hb, hml, hown, hts⟩ (cwV 1 hts gX5_piece_X5_fail rfl rfl rfl (by decide +kernel) ⟨Nat.le_of_ble_eq_true rfl, Nat.le_of_ble_eq_true rfl⟩) hK hP hD hS hA [0, 1, 2, 3, 4, 5, 6, 7, 8, 9, 10, 11, 12] [] 13 rfl rfl kR0 rfl (by decide +kernel) rfl rfl rfl rfl hl.1 rfl (Nat.le_of_ble_eq_true rfl) dX5_piece_54 ⟨Nat.le_of_ble_eq_true rfl, Nat.le_of_ble_eq_true rfl⟩ (fun H locs hP hD hS => ?_)
            obtain rfl := Option.some.inj hf
            exact ret _ _ _ _ dX5_piece_57 rfl hP hD hS
          · have hf := kif c_36 hf
            refine lv_aload_n hx hb dX5_piece_39 rfl (lv_at hl 0 rfl) ?_
            refine va_get (D := D) (ci := 5) (v := .ref a5) (C := RX5) (T := TX5) (N := 20) hx hb hts i_X5 hown hK hP 0 rfl rfl 10 (by decide) k26 (fun _ h9 => h9) rfl dX5_piece_40 ?_
            refine lv_iconst (v := 4) hx hb dX5_piece_43 (by decide) ?_
            refine lv_iload_n hx hb dX5_piece_44 rfl (lv_at hl 1 rfl) ?_
            refine lv_imul hx hb dX5_piece_45 ?_
            refine lv_iload_n hx hb dX5_piece_46 rfl (lv_at hl 2 rfl) ?_
            refine lv_iadd hx hb dX5_piece_47 ?_
            obtain ⟨h_48, hf⟩ := rdc_some hf
            refine va_iald hx hb hK hP 5 0 rfl rfl h_48 dX5_piece_48 ?_
            refine lv_goto (tgt := 57) hx hb dX5_piece_49 (by decide) ?_
            obtain rfl := Option.some.inj hf
            exact ret _ _ _ _ dX5_piece_57 rfl hP hD hS
  · have hf := kit c_9 hf
    refine lv_aload_n hx hb dX5_piece_12 rfl (lv_at hl 0 rfl) ?_
    refine lv_iconst (v := 1) hx hb dX5_piece_13 (by decide) ?_
    obtain ⟨⟨u14_0, u14_1⟩, hf14, hf⟩ := kbd hf
    try dsimp only at hf
    refine kc_Vi (As := [.int 1]) (rest := []) (wf := (PX5 a0 a1 a2 a3 a4 a5 a6 a7 a8 a9 a10 a11 a12 cyI cyZ u14_1 w_size w_kinds w_as w_bs w_registers w_isMade w_steps w_stepParts w_pieces w_pieceParts w_slots w_areCounted w_registerOf w_slotOf w_pieceOf w_heldBy w_isSlotTaken w_outputs w_output)) (c_X5_fail l D cyI cyZ a0 a1 a2 a3 a4 a5 a6 a7 a8 a9 a10 a11 a12 0 w_size w_kinds w_as w_bs w_registers w_isMade w_steps w_stepParts w_pieces w_pieceParts w_slots w_areCounted w_registerOf w_slotOf w_pieceOf w_heldBy w_isSlotTaken w_outputs w_output 1 (u14_0, u14_1) hf14) ⟨hx, hb, hml, hown, hts⟩ (cwV 1 hts gX5_piece_X5_fail rfl rfl rfl (by decide +kernel) ⟨Nat.le_of_ble_eq_true rfl, Nat.le_of_ble_eq_true rfl⟩) hK hP hD hS hA [0, 1, 2, 3, 4, 5, 6, 7, 8, 9, 10, 11, 12] [] 13 rfl rfl kR0 rfl (by decide +kernel) rfl rfl rfl rfl hl.1 rfl (Nat.le_of_ble_eq_true rfl) dX5_piece_14 ⟨Nat.le_of_ble_eq_true rfl, Nat.le_of_ble_eq_true rfl⟩ (fun H locs hP hD hS => ?_)
    obtain rfl := Option.some.inj hf
    exact ret _ _ _ _ dX5_piece_17 rfl hP hD hS

abbrev rmX5_comfortable : Room := { frames := 7, cells := 0, slots := 0, locals := 172 }
set_option maxHeartbeats 4000000 in
set_option maxRecDepth 100000 in
theorem c_X5_comfortable (l : Launch) (D : va_G) (cyI cyZ : ClassId) (a0 a1 a2 a3 a4 a5 a6 a7 a8 a9 a10 a11 a12 : Nat) (w_thrown : Int32) (w_size : Int32) (w_kinds : Nat → Int32) (w_as : Nat → Int32) (w_bs : Nat → Int32) (w_registers : Int32) (w_isMade : Int32) (w_steps : Int32) (w_stepParts : Nat → Int32) (w_pieces : Int32) (w_pieceParts : Nat → Int32) (w_slots : Int32) (w_areCounted : Nat → Int32) (w_registerOf : Nat → Int32) (w_slotOf : Nat → Int32) (w_pieceOf : Nat → Int32) (w_heldBy : Nat → Int32) (w_isSlotTaken : Nat → Int32) (w_outputs : Int32) (w_output : Nat → Int32) (o : Int32 × Int32 × Int32 × (Nat → Int32) × Int32 × (Nat → Int32) × Int32 × (Nat → Int32) × (Nat → Int32) × (Nat → Int32) × (Nat → Int32) × (Nat → Int32) × (Nat → Int32)) (hf : f_X5_comfortable w_size w_kinds w_as w_bs w_registers w_isMade w_steps w_stepParts w_pieces w_pieceParts w_slots w_areCounted w_registerOf w_slotOf w_pieceOf w_heldBy w_isSlotTaken = some o) : kMi l yX5_comfortable wsX5_comfortable rmX5_comfortable [.ref a0] D (PX5 a0 a1 a2 a3 a4 a5 a6 a7 a8 a9 a10 a11 a12 cyI cyZ w_thrown w_size w_kinds w_as w_bs w_registers w_isMade w_steps w_stepParts w_pieces w_pieceParts w_slots w_areCounted w_registerOf w_slotOf w_pieceOf w_heldBy w_isSlotTaken w_outputs w_output) (PX5 a0 a1 a2 a3 a4 a5 a6 a7 a8 a9 a10 a11 a12 cyI cyZ o.2.1 w_size w_kinds w_as w_bs w_registers w_isMade o.2.2.1 o.2.2.2.1 o.2.2.2.2.1 o.2.2.2.2.2.1 o.2.2.2.2.2.2.1 o.2.2.2.2.2.2.2.1 o.2.2.2.2.2.2.2.2.1 o.2.2.2.2.2.2.2.2.2.1 o.2.2.2.2.2.2.2.2.2.2.1 o.2.2.2.2.2.2.2.2.2.2.2.1 o.2.2.2.2.2.2.2.2.2.2.2.2 w_outputs w_output) (kT cyI cyZ) o.1 0 0 := by
  refine kOf_i (cc := cX5_comfortable) (maxL := 3) (ty := .int) (by decide +kernel) rfl (Nat.le_of_ble_eq_true rfl) ?_
  intro p e s m args below meth c A Z ls C0 hP hK hD hA hl ret
  obtain ⟨hx, hb, hr, hml, hown, hts, hlocks⟩ := C0
  have hown : s.vm.findClass RX5 = some m.cls := hown
  have hl : lv_has ls 3 [(0, .ref a0)] := hl
  have hS : va_S A s.heap s.heap [] := va_S.rf
  have i_X5 : ∀ w ∈ wsX50, w ∈ wsX5_comfortable := by decide +kernel
  have k19 := hts (.fieldLink RX5 19 "RegisterAllocatorModel" "registers" "I") (by decide +kernel)
  have k51 := hts (.fieldLink RX5 51 "RegisterAllocatorModel" "thrown" "I") (by decide +kernel)
  have k61 := hts (.fieldLink RX5 61 "RegisterAllocatorModel" "isMade" "Z") (by decide +kernel)
  have J51 : ∀ (x1_J51 : Int32) (w_thrown_J51 : Int32) (w_steps_J51 : Int32) (w_stepParts_J51 : Nat → Int32) (w_pieces_J51 : Int32) (w_pieceParts_J51 : Nat → Int32) (w_slots_J51 : Int32) (w_areCounted_J51 : Nat → Int32) (w_registerOf_J51 : Nat → Int32) (w_slotOf_J51 : Nat → Int32) (w_pieceOf_J51 : Nat → Int32) (w_heldBy_J51 : Nat → Int32) (w_isSlotTaken_J51 : Nat → Int32) (_ : f_X5_comfortable_J51 w_size w_kinds w_as w_bs w_registers w_isMade x1_J51 w_thrown_J51 w_steps_J51 w_stepParts_J51 w_pieces_J51 w_pieceParts_J51 w_slots_J51 w_areCounted_J51 w_registerOf_J51 w_slotOf_J51 w_pieceOf_J51 w_heldBy_J51 w_isSlotTaken_J51 = some o) (H : Heap) (locs : List Loc) (ls : Array Slot), va_P D vwCl (PX5 a0 a1 a2 a3 a4 a5 a6 a7 a8 a9 a10 a11 a12 cyI cyZ w_thrown_J51 w_size w_kinds w_as w_bs w_registers w_isMade w_steps_J51 w_stepParts_J51 w_pieces_J51 w_pieceParts_J51 w_slots_J51 w_areCounted_J51 w_registerOf_J51 w_slotOf_J51 w_pieceOf_J51 w_heldBy_J51 w_isSlotTaken_J51 w_outputs w_output) H → va_D A (PX5 a0 a1 a2 a3 a4 a5 a6 a7 a8 a9 a10 a11 a12 cyI cyZ w_thrown_J51 w_size w_kinds w_as w_bs w_registers w_isMade w_steps_J51 w_stepParts_J51 w_pieces_J51 w_pieceParts_J51 w_slots_J51 w_areCounted_J51 w_registerOf_J51 w_slotOf_J51 w_pieceOf_J51 w_heldBy_J51 w_isSlotTaken_J51 w_outputs w_output) → va_S A s.heap H locs → lv_has ls 3 [(1, .int x1_J51), (0, .ref a0)] → W p l e rmX5_comfortable s m args below meth c H locs 0 0 Z (F0 m 51 ls []) := by
    intro x1_J51 w_thrown_J51 w_steps_J51 w_stepParts_J51 w_pieces_J51 w_pieceParts_J51 w_slots_J51 w_areCounted_J51 w_registerOf_J51 w_slotOf_J51 w_pieceOf_J51 w_heldBy_J51 w_isSlotTaken_J51 hf H locs ls hP hD hS hl
    rw [f_X5_comfortable_J51] at hf
    refine lv_aload_n hx hb dX5_comfortable_51 rfl (lv_at hl 1 rfl) ?_
    refine va_get (D := D) (ci := 5) (v := .int w_isMade) (C := RX5) (T := TX5) (N := 20) hx hb hts i_X5 hown hK hP 0 rfl rfl 6 (by decide) k61 (fun _ h9 => h9) rfl dX5_comfortable_52 ?_
    refine lv_if_eq (tgt := 66) hx hb dX5_comfortable_55 (by decide) (fun c_55 => ?_) (fun c_55 => ?_)
    · have hf := kit c_55 hf
      refine lv_iload_n hx hb dX5_comfortable_66 rfl (lv_at hl 0 rfl) ?_
      obtain rfl := Option.some.inj hf
      exact ret _ _ _ _ dX5_comfortable_67 rfl hP hD hS
    · have hf := kif c_55 hf
      refine lv_aload_n hx hb dX5_comfortable_58 rfl (lv_at hl 1 rfl) ?_
      refine lv_aload_n hx hb dX5_comfortable_59 rfl (lv_at hl 1 rfl) ?_
      refine va_get (D := D) (ci := 5) (v := .int w_registers) (C := RX5) (T := TX5) (N := 20) hx hb hts i_X5 hown hK hP 0 rfl rfl 5 (by decide) k19 (fun _ h9 => h9) rfl dX5_comfortable_60 ?_
      obtain ⟨⟨u63_0, u63_1, u63_2, u63_3, u63_4, u63_5, u63_6, u63_7, u63_8, u63_9, u63_10⟩, hf63, hf⟩ := kbd hf
      try dsimp only at hf
      refine kc_Vv (As := [.int w_registers]) (rest := []) (wf := (PX5 a0 a1 a2 a3 a4 a5 a6 a7 a8 a9 a10 a11 a12 cyI cyZ w_thrown_J51 w_size w_kinds w_as w_bs w_registers w_isMade u63_0 u63_1 u63_2 u63_3 u63_4 u63_5 u63_6 u63_7 u63_8 u63_9 u63_10 w_outputs w_output)) (c_X5_make l D cyI cyZ a0 a1 a2 a3 a4 a5 a6 a7 a8 a9 a10 a11 a12 w_thrown_J51 w_size w_kinds w_as w_bs w_registers w_isMade w_steps_J51 w_stepParts_J51 w_pieces_J51 w_pieceParts_J51 w_slots_J51 w_areCounted_J51 w_registerOf_J51 w_slotOf_J51 w_pieceOf_J51 w_heldBy_J51 w_isSlotTaken_J51 w_outputs w_output w_registers (u63_0, u63_1, u63_2, u63_3, u63_4, u63_5, u63_6, u63_7, u63_8, u63_9, u63_10) hf63) ⟨hx, hb, hml, hown, hts⟩ (cwV 1 hts gX5_comfortable_X5_make rfl rfl rfl (by decide +kernel) ⟨Nat.le_of_ble_eq_true rfl, Nat.le_of_ble_eq_true rfl⟩) hK hP hD hS hA [0, 1, 2, 3, 4, 5, 6, 7, 8, 9, 10, 11, 12] [] 13 rfl rfl kR0 rfl (by decide +kernel) rfl rfl rfl rfl hl.1 rfl (Nat.le_of_ble_eq_true rfl) dX5_comfortable_63 ⟨Nat.le_of_ble_eq_true rfl, Nat.le_of_ble_eq_true rfl⟩ (fun H locs hP hD hS => ?_)
      refine lv_iload_n hx hb dX5_comfortable_66 rfl (lv_at hl 0 rfl) ?_
      obtain rfl := Option.some.inj hf
      exact ret _ _ _ _ dX5_comfortable_67 rfl hP hD hS
  rw [f_X5_comfortable] at hf
  refine lv_aload_n hx hb dX5_comfortable_0 rfl (lv_at hl 0 rfl) ?_
  refine lv_iconst (v := 0) hx hb dX5_comfortable_1 (by decide) ?_
  refine va_put (D := D) (ci := 5) (v := .int 0) (ty := .int) (C := RX5) (T := TX5) (N := 20) hx hb hts i_X5 tyX5 tyX5_ok nmX5 hown hK hP hD hS 0 rfl rfl 0 (by decide) k51 (fun _ h9 => h9) rfl (by decide +kernel) rfl (by first | rfl | decide) (Nat.le_of_ble_eq_true rfl) dX5_comfortable_2 (fun H locs hP hD hS => ?_)
  have hP : va_P D vwCl (PX5 a0 a1 a2 a3 a4 a5 a6 a7 a8 a9 a10 a11 a12 cyI cyZ 0 w_size w_kinds w_as w_bs w_registers w_isMade w_steps w_stepParts w_pieces w_pieceParts w_slots w_areCounted w_registerOf w_slotOf w_pieceOf w_heldBy w_isSlotTaken w_outputs w_output) H := hP
  have hD : va_D A (PX5 a0 a1 a2 a3 a4 a5 a6 a7 a8 a9 a10 a11 a12 cyI cyZ 0 w_size w_kinds w_as w_bs w_registers w_isMade w_steps w_stepParts w_pieces w_pieceParts w_slots w_areCounted w_registerOf w_slotOf w_pieceOf w_heldBy w_isSlotTaken w_outputs w_output) := hD
  refine lv_iconst (v := (-1)) hx hb dX5_comfortable_5 (by decide) ?_
  refine lv_istore_n (lv' := [(1, .int (-1)), (0, .ref a0)]) hx hb dX5_comfortable_6 rfl hl (by decide) rfl (fun ls hl => ?_)
  refine lv_iconst (v := 2) hx hb dX5_comfortable_7 (by decide) ?_
  refine lv_istore_n (lv' := [(2, .int 2), (1, .int (-1)), (0, .ref a0)]) hx hb dX5_comfortable_8 rfl hl (by decide) rfl (fun ls hl => ?_)
  have L9 : ∀ (n : Nat) (x2_L9 : Int32) (x1_L9 : Int32) (w_steps_L9 : Int32) (w_stepParts_L9 : Nat → Int32) (w_pieces_L9 : Int32) (w_pieceParts_L9 : Nat → Int32) (w_slots_L9 : Int32) (w_areCounted_L9 : Nat → Int32) (w_registerOf_L9 : Nat → Int32) (w_slotOf_L9 : Nat → Int32) (w_pieceOf_L9 : Nat → Int32) (w_heldBy_L9 : Nat → Int32) (w_isSlotTaken_L9 : Nat → Int32) (o9 : Int32 × Int32 × (Nat → Int32) × Int32 × (Nat → Int32) × Int32 × (Nat → Int32) × (Nat → Int32) × (Nat → Int32) × (Nat → Int32) × (Nat → Int32) × (Nat → Int32)) (_ : f_X5_comfortable_L9 w_size w_kinds w_as w_bs n x2_L9 x1_L9 w_steps_L9 w_stepParts_L9 w_pieces_L9 w_pieceParts_L9 w_slots_L9 w_areCounted_L9 w_registerOf_L9 w_slotOf_L9 w_pieceOf_L9 w_heldBy_L9 w_isSlotTaken_L9 = some o9) (H : Heap) (locs : List Loc) (ls : Array Slot), va_P D vwCl (PX5 a0 a1 a2 a3 a4 a5 a6 a7 a8 a9 a10 a11 a12 cyI cyZ 0 w_size w_kinds w_as w_bs w_registers w_isMade w_steps_L9 w_stepParts_L9 w_pieces_L9 w_pieceParts_L9 w_slots_L9 w_areCounted_L9 w_registerOf_L9 w_slotOf_L9 w_pieceOf_L9 w_heldBy_L9 w_isSlotTaken_L9 w_outputs w_output) H → va_D A (PX5 a0 a1 a2 a3 a4 a5 a6 a7 a8 a9 a10 a11 a12 cyI cyZ 0 w_size w_kinds w_as w_bs w_registers w_isMade w_steps_L9 w_stepParts_L9 w_pieces_L9 w_pieceParts_L9 w_slots_L9 w_areCounted_L9 w_registerOf_L9 w_slotOf_L9 w_pieceOf_L9 w_heldBy_L9 w_isSlotTaken_L9 w_outputs w_output) → va_S A s.heap H locs → lv_has ls 3 [(2, .int x2_L9), (1, .int x1_L9), (0, .ref a0)] → (∀ (H : Heap) (locs : List Loc) (ls : Array Slot), va_P D vwCl (PX5 a0 a1 a2 a3 a4 a5 a6 a7 a8 a9 a10 a11 a12 cyI cyZ 0 w_size w_kinds w_as w_bs w_registers w_isMade o9.2.1 o9.2.2.1 o9.2.2.2.1 o9.2.2.2.2.1 o9.2.2.2.2.2.1 o9.2.2.2.2.2.2.1 o9.2.2.2.2.2.2.2.1 o9.2.2.2.2.2.2.2.2.1 o9.2.2.2.2.2.2.2.2.2.1 o9.2.2.2.2.2.2.2.2.2.2.1 o9.2.2.2.2.2.2.2.2.2.2.2 w_outputs w_output) H → va_D A (PX5 a0 a1 a2 a3 a4 a5 a6 a7 a8 a9 a10 a11 a12 cyI cyZ 0 w_size w_kinds w_as w_bs w_registers w_isMade o9.2.1 o9.2.2.1 o9.2.2.2.1 o9.2.2.2.2.1 o9.2.2.2.2.2.1 o9.2.2.2.2.2.2.1 o9.2.2.2.2.2.2.2.1 o9.2.2.2.2.2.2.2.2.1 o9.2.2.2.2.2.2.2.2.2.1 o9.2.2.2.2.2.2.2.2.2.2.1 o9.2.2.2.2.2.2.2.2.2.2.2 w_outputs w_output) → va_S A s.heap H locs → lv_has ls 3 [(1, .int o9.1), (0, .ref a0)] → W p l e rmX5_comfortable s m args below meth c H locs 0 0 Z (F0 m 51 ls [])) → W p l e rmX5_comfortable s m args below meth c H locs 0 0 Z (F0 m 9 ls []) := by
    intro n
    induction n with
    | zero =>
      intro x2_L9 x1_L9 w_steps_L9 w_stepParts_L9 w_pieces_L9 w_pieceParts_L9 w_slots_L9 w_areCounted_L9 w_registerOf_L9 w_slotOf_L9 w_pieceOf_L9 w_heldBy_L9 w_isSlotTaken_L9 o9 hf
      rw [f_X5_comfortable_L9] at hf
      cases hf
    | succ n ih =>
      intro x2_L9 x1_L9 w_steps_L9 w_stepParts_L9 w_pieces_L9 w_pieceParts_L9 w_slots_L9 w_areCounted_L9 w_registerOf_L9 w_slotOf_L9 w_pieceOf_L9 w_heldBy_L9 w_isSlotTaken_L9 o9 hf H locs ls hP hD hS hl kx
      rw [f_X5_comfortable_L9] at hf
      refine lv_iload_n hx hb dX5_comfortable_9 rfl (lv_at hl 0 rfl) ?_
      refine lv_bipush (v := 8) hx hb dX5_comfortable_10 (by decide) ?_
      refine lv_icmp_gt (tgt := 51) hx hb dX5_comfortable_12 (by decide) (fun c_12 => ?_) (fun c_12 => ?_)
      · have hf := kit c_12 hf
        obtain rfl := Option.some.inj hf
        exact kx _ _ _ hP hD hS (lv_sub hl [1, 2] rfl)
      · have hf := kif c_12 hf
        refine lv_iload_n hx hb dX5_comfortable_15 rfl (lv_at hl 1 rfl) ?_
        refine lv_iconst (v := (-1)) hx hb dX5_comfortable_16 (by decide) ?_
        refine lv_icmp_ne (tgt := 51) hx hb dX5_comfortable_17 (by decide) (fun c_17 => ?_) (fun c_17 => ?_)
        · have hf := kif c_17 hf
          obtain rfl := Option.some.inj hf
          exact kx _ _ _ hP hD hS (lv_sub hl [1, 2] rfl)
        · have hf := kit c_17 hf
          refine lv_aload_n hx hb dX5_comfortable_20 rfl (lv_at hl 2 rfl) ?_
          refine lv_iload_n hx hb dX5_comfortable_21 rfl (lv_at hl 0 rfl) ?_
          obtain ⟨⟨u22_0, u22_1, u22_2, u22_3, u22_4, u22_5, u22_6, u22_7, u22_8, u22_9, u22_10⟩, hf22, hf⟩ := kbd hf
          try dsimp only at hf
          refine kc_Vv (As := [.int x2_L9]) (rest := []) (wf := (PX5 a0 a1 a2 a3 a4 a5 a6 a7 a8 a9 a10 a11 a12 cyI cyZ 0 w_size w_kinds w_as w_bs w_registers w_isMade u22_0 u22_1 u22_2 u22_3 u22_4 u22_5 u22_6 u22_7 u22_8 u22_9 u22_10 w_outputs w_output)) (c_X5_make l D cyI cyZ a0 a1 a2 a3 a4 a5 a6 a7 a8 a9 a10 a11 a12 0 w_size w_kinds w_as w_bs w_registers w_isMade w_steps_L9 w_stepParts_L9 w_pieces_L9 w_pieceParts_L9 w_slots_L9 w_areCounted_L9 w_registerOf_L9 w_slotOf_L9 w_pieceOf_L9 w_heldBy_L9 w_isSlotTaken_L9 w_outputs w_output x2_L9 (u22_0, u22_1, u22_2, u22_3, u22_4, u22_5, u22_6, u22_7, u22_8, u22_9, u22_10) hf22) ⟨hx, hb, hml, hown, hts⟩ (cwV 1 hts gX5_comfortable_X5_make rfl rfl rfl (by decide +kernel) ⟨Nat.le_of_ble_eq_true rfl, Nat.le_of_ble_eq_true rfl⟩) hK hP hD hS hA [0, 1, 2, 3, 4, 5, 6, 7, 8, 9, 10, 11, 12] [] 13 rfl rfl kR0 rfl (by decide +kernel) rfl rfl rfl rfl hl.1 rfl (Nat.le_of_ble_eq_true rfl) dX5_comfortable_22 ⟨Nat.le_of_ble_eq_true rfl, Nat.le_of_ble_eq_true rfl⟩ (fun H locs hP hD hS => ?_)
          refine lv_aload_n hx hb dX5_comfortable_25 rfl (lv_at hl 2 rfl) ?_
          refine lv_bipush (v := 7) hx hb dX5_comfortable_26 (by decide) ?_
          obtain ⟨u28, hf28, hf⟩ := kbd hf
          refine kc_Vi (As := [.int 7]) (rest := []) (wf := (PX5 a0 a1 a2 a3 a4 a5 a6 a7 a8 a9 a10 a11 a12 cyI cyZ 0 w_size w_kinds w_as w_bs w_registers w_isMade u22_0 u22_1 u22_2 u22_3 u22_4 u22_5 u22_6 u22_7 u22_8 u22_9 u22_10 w_outputs w_output)) (c_X5_stepsOf l D cyI cyZ a0 a1 a2 a3 a4 a5 a6 a7 a8 a9 a10 a11 a12 0 w_size w_kinds w_as w_bs w_registers w_isMade u22_0 u22_1 u22_2 u22_3 u22_4 u22_5 u22_6 u22_7 u22_8 u22_9 u22_10 w_outputs w_output 7 u28 hf28) ⟨hx, hb, hml, hown, hts⟩ (cwV 1 hts gX5_comfortable_X5_stepsOf rfl rfl rfl (by decide +kernel) ⟨Nat.le_of_ble_eq_true rfl, Nat.le_of_ble_eq_true rfl⟩) hK hP hD hS hA [0, 1, 2, 3, 4, 5, 6, 7, 8, 9, 10, 11, 12] [] 13 rfl rfl kR0 rfl (by decide +kernel) rfl rfl rfl rfl hl.1 rfl (Nat.le_of_ble_eq_true rfl) dX5_comfortable_28 ⟨Nat.le_of_ble_eq_true rfl, Nat.le_of_ble_eq_true rfl⟩ (fun H locs hP hD hS => ?_)
          refine lv_if_ne (tgt := 45) hx hb dX5_comfortable_31 (by decide) (fun c_31 => ?_) (fun c_31 => ?_)
          · have hf := kif c_31 hf
            refine lv_iinc (v := (x2_L9 + 1)) (lv' := [(2, .int (x2_L9 + 1)), (1, .int x1_L9), (0, .ref a0)]) hx hb dX5_comfortable_45 hl (k := 0) rfl rfl (by decide) rfl (fun ls hl => ?_)
            refine lv_goto (tgt := 9) hx hb dX5_comfortable_48 (by decide) ?_
            exact ih (x2_L9 + 1) x1_L9 u22_0 u22_1 u22_2 u22_3 u22_4 u22_5 u22_6 u22_7 u22_8 u22_9 u22_10 _ hf _ _ _ hP hD hS (lv_sub hl [0, 1, 2] rfl) kx
          · have hf := kit c_31 hf
            refine lv_aload_n hx hb dX5_comfortable_34 rfl (lv_at hl 2 rfl) ?_
            refine lv_bipush (v := 8) hx hb dX5_comfortable_35 (by decide) ?_
            obtain ⟨u37, hf37, hf⟩ := kbd hf
            refine kc_Vi (As := [.int 8]) (rest := []) (wf := (PX5 a0 a1 a2 a3 a4 a5 a6 a7 a8 a9 a10 a11 a12 cyI cyZ 0 w_size w_kinds w_as w_bs w_registers w_isMade u22_0 u22_1 u22_2 u22_3 u22_4 u22_5 u22_6 u22_7 u22_8 u22_9 u22_10 w_outputs w_output)) (c_X5_stepsOf l D cyI cyZ a0 a1 a2 a3 a4 a5 a6 a7 a8 a9 a10 a11 a12 0 w_size w_kinds w_as w_bs w_registers w_isMade u22_0 u22_1 u22_2 u22_3 u22_4 u22_5 u22_6 u22_7 u22_8 u22_9 u22_10 w_outputs w_output 8 u37 hf37) ⟨hx, hb, hml, hown, hts⟩ (cwV 1 hts gX5_comfortable_X5_stepsOf rfl rfl rfl (by decide +kernel) ⟨Nat.le_of_ble_eq_true rfl, Nat.le_of_ble_eq_true rfl⟩) hK hP hD hS hA [0, 1, 2, 3, 4, 5, 6, 7, 8, 9, 10, 11, 12] [] 13 rfl rfl kR0 rfl (by decide +kernel) rfl rfl rfl rfl hl.1 rfl (Nat.le_of_ble_eq_true rfl) dX5_comfortable_37 ⟨Nat.le_of_ble_eq_true rfl, Nat.le_of_ble_eq_true rfl⟩ (fun H locs hP hD hS => ?_)
            refine lv_if_ne (tgt := 45) hx hb dX5_comfortable_40 (by decide) (fun c_40 => ?_) (fun c_40 => ?_)
            · have hf := kif c_40 hf
              refine lv_iinc (v := (x2_L9 + 1)) (lv' := [(2, .int (x2_L9 + 1)), (1, .int x1_L9), (0, .ref a0)]) hx hb dX5_comfortable_45 hl (k := 0) rfl rfl (by decide) rfl (fun ls hl => ?_)
              refine lv_goto (tgt := 9) hx hb dX5_comfortable_48 (by decide) ?_
              exact ih (x2_L9 + 1) x1_L9 u22_0 u22_1 u22_2 u22_3 u22_4 u22_5 u22_6 u22_7 u22_8 u22_9 u22_10 _ hf _ _ _ hP hD hS (lv_sub hl [0, 1, 2] rfl) kx
            · have hf := kit c_40 hf
              refine lv_iload_n hx hb dX5_comfortable_43 rfl (lv_at hl 0 rfl) ?_
              refine lv_istore_n (lv' := [(1, .int x2_L9), (2, .int x2_L9), (0, .ref a0)]) hx hb dX5_comfortable_44 rfl hl (by decide) rfl (fun ls hl => ?_)
              refine lv_iinc (v := (x2_L9 + 1)) (lv' := [(2, .int (x2_L9 + 1)), (1, .int x2_L9), (0, .ref a0)]) hx hb dX5_comfortable_45 hl (k := 1) rfl rfl (by decide) rfl (fun ls hl => ?_)
              refine lv_goto (tgt := 9) hx hb dX5_comfortable_48 (by decide) ?_
              exact ih (x2_L9 + 1) x2_L9 u22_0 u22_1 u22_2 u22_3 u22_4 u22_5 u22_6 u22_7 u22_8 u22_9 u22_10 _ hf _ _ _ hP hD hS (lv_sub hl [0, 1, 2] rfl) kx
  obtain ⟨⟨v9_0, v9_1, v9_2, v9_3, v9_4, v9_5, v9_6, v9_7, v9_8, v9_9, v9_10, v9_11⟩, hf9, hf⟩ := kbd hf
  try dsimp only at hf
  refine L9 4000 2 (-1) w_steps w_stepParts w_pieces w_pieceParts w_slots w_areCounted w_registerOf w_slotOf w_pieceOf w_heldBy w_isSlotTaken (v9_0, v9_1, v9_2, v9_3, v9_4, v9_5, v9_6, v9_7, v9_8, v9_9, v9_10, v9_11) hf9 _ _ _ hP hD hS (lv_sub hl [0, 1, 2] rfl) (fun H locs ls hP hD hS hl => ?_)
  have hP : va_P D vwCl (PX5 a0 a1 a2 a3 a4 a5 a6 a7 a8 a9 a10 a11 a12 cyI cyZ 0 w_size w_kinds w_as w_bs w_registers w_isMade v9_1 v9_2 v9_3 v9_4 v9_5 v9_6 v9_7 v9_8 v9_9 v9_10 v9_11 w_outputs w_output) H := hP
  have hD : va_D A (PX5 a0 a1 a2 a3 a4 a5 a6 a7 a8 a9 a10 a11 a12 cyI cyZ 0 w_size w_kinds w_as w_bs w_registers w_isMade v9_1 v9_2 v9_3 v9_4 v9_5 v9_6 v9_7 v9_8 v9_9 v9_10 v9_11 w_outputs w_output) := hD
  have hl : lv_has ls 3 [(1, .int v9_0), (0, .ref a0)] := hl
  exact J51 v9_0 0 v9_1 v9_2 v9_3 v9_4 v9_5 v9_6 v9_7 v9_8 v9_9 v9_10 v9_11 hf _ _ _ hP hD hS (lv_sub hl [0, 1] rfl)

abbrev rmX5_run : Room := { frames := 1, cells := 2, slots := 68, locals := 21 }
set_option maxHeartbeats 4000000 in
set_option maxRecDepth 100000 in
theorem c_X5_run (l : Launch) (D : va_G) (cyI cyZ : ClassId) (a0 a1 a2 a3 a4 a5 a6 a7 a8 a9 a10 a11 a12 : Nat) (w_thrown : Int32) (w_size : Int32) (w_kinds : Nat → Int32) (w_as : Nat → Int32) (w_bs : Nat → Int32) (w_registers : Int32) (w_isMade : Int32) (w_steps : Int32) (w_stepParts : Nat → Int32) (w_pieces : Int32) (w_pieceParts : Nat → Int32) (w_slots : Int32) (w_areCounted : Nat → Int32) (w_registerOf : Nat → Int32) (w_slotOf : Nat → Int32) (w_pieceOf : Nat → Int32) (w_heldBy : Nat → Int32) (w_isSlotTaken : Nat → Int32) (w_outputs : Int32) (w_output : Nat → Int32) (o : Int32 × Int32 × Int32 × (Nat → Int32)) (hf : f_X5_run w_isMade w_steps w_stepParts w_outputs w_output = some o) : kMi l yX5_run wsX5_run rmX5_run [.ref a0] D (PX5 a0 a1 a2 a3 a4 a5 a6 a7 a8 a9 a10 a11 a12 cyI cyZ w_thrown w_size w_kinds w_as w_bs w_registers w_isMade w_steps w_stepParts w_pieces w_pieceParts w_slots w_areCounted w_registerOf w_slotOf w_pieceOf w_heldBy w_isSlotTaken w_outputs w_output) (PX5 a0 a1 a2 a3 a4 a5 a6 a7 a8 a9 a10 a11 a12 cyI cyZ o.2.1 w_size w_kinds w_as w_bs w_registers w_isMade w_steps w_stepParts w_pieces w_pieceParts w_slots w_areCounted w_registerOf w_slotOf w_pieceOf w_heldBy w_isSlotTaken o.2.2.1 o.2.2.2) (kT cyI cyZ) o.1 2 68 := by
  refine kOf_i (cc := cX5_run) (maxL := 7) (ty := .int) (by decide +kernel) rfl (Nat.le_of_ble_eq_true rfl) ?_
  intro p e s m args below meth c A Z ls C0 hP hK hD hA hl ret
  obtain ⟨hx, hb, hr, hml, hown, hts, hlocks⟩ := C0
  have hown : s.vm.findClass RX5 = some m.cls := hown
  have hl : lv_has ls 7 [(0, .ref a0)] := hl
  have hS : va_S A s.heap s.heap [] := va_S.rf
  have i_X5 : ∀ w ∈ wsX50, w ∈ wsX5_run := by decide +kernel
  have k140 := hts (.fieldLink RX5 140 "RegisterAllocatorModel" "outputs" "I") (by decide +kernel)
  have k23 := hts (.fieldLink RX5 23 "RegisterAllocatorModel" "stepParts" "[I") (by decide +kernel)
  have k48 := hts (.fieldLink RX5 48 "RegisterAllocatorModel" "output" "[I") (by decide +kernel)
  have k51 := hts (.fieldLink RX5 51 "RegisterAllocatorModel" "thrown" "I") (by decide +kernel)
  have k61 := hts (.fieldLink RX5 61 "RegisterAllocatorModel" "isMade" "Z") (by decide +kernel)
  have k92 := hts (.fieldLink RX5 92 "RegisterAllocatorModel" "steps" "I") (by decide +kernel)
  have ka_int := hts (.arrayClass .int) (by decide +kernel)
  rw [f_X5_run] at hf
  refine lv_aload_n hx hb dX5_run_0 rfl (lv_at hl 0 rfl) ?_
  refine lv_iconst (v := 0) hx hb dX5_run_1 (by decide) ?_
  refine va_put (D := D) (ci := 5) (v := .int 0) (ty := .int) (C := RX5) (T := TX5) (N := 20) hx hb hts i_X5 tyX5 tyX5_ok nmX5 hown hK hP hD hS 0 rfl rfl 0 (by decide) k51 (fun _ h9 => h9) rfl (by decide +kernel) rfl (by first | rfl | decide) (Nat.le_of_ble_eq_true rfl) dX5_run_2 (fun H locs hP hD hS => ?_)
  have hP : va_P D vwCl (PX5 a0 a1 a2 a3 a4 a5 a6 a7 a8 a9 a10 a11 a12 cyI cyZ 0 w_size w_kinds w_as w_bs w_registers w_isMade w_steps w_stepParts w_pieces w_pieceParts w_slots w_areCounted w_registerOf w_slotOf w_pieceOf w_heldBy w_isSlotTaken w_outputs w_output) H := hP
  have hD : va_D A (PX5 a0 a1 a2 a3 a4 a5 a6 a7 a8 a9 a10 a11 a12 cyI cyZ 0 w_size w_kinds w_as w_bs w_registers w_isMade w_steps w_stepParts w_pieces w_pieceParts w_slots w_areCounted w_registerOf w_slotOf w_pieceOf w_heldBy w_isSlotTaken w_outputs w_output) := hD
  refine lv_aload_n hx hb dX5_run_5 rfl (lv_at hl 0 rfl) ?_
  refine va_get (D := D) (ci := 5) (v := .int w_isMade) (C := RX5) (T := TX5) (N := 20) hx hb hts i_X5 hown hK hP 0 rfl rfl 6 (by decide) k61 (fun _ h9 => h9) rfl dX5_run_6 ?_
  refine lv_if_ne (tgt := 18) hx hb dX5_run_9 (by decide) (fun c_9 => ?_) (fun c_9 => ?_)
  · have hf := kif c_9 hf
    refine lv_bipush (v := 8) hx hb dX5_run_18 (by decide) ?_
    refine kc_newa (atype := .int) (ty := .int) (N' := 8) hx hb ka_int rfl hK 0 rfl (by intro C h; cases h) hP hD hS hA (a0 := (8, .inl (fun _ => 0))) (fun cA => rfl) (by decide) rfl (Nat.le_of_ble_eq_true rfl) (Nat.le_of_ble_eq_true rfl) (Nat.le_of_ble_eq_true rfl) dX5_run_20 (fun q20 H hP hD hS => ?_)
    have hP : va_P D vwCl (PX5 a0 a1 a2 a3 a4 a5 a6 a7 a8 a9 a10 a11 a12 cyI cyZ 0 w_size w_kinds w_as w_bs w_registers w_isMade w_steps w_stepParts w_pieces w_pieceParts w_slots w_areCounted w_registerOf w_slotOf w_pieceOf w_heldBy w_isSlotTaken w_outputs w_output ++ [(q20, .inl (cyI, 8, .inl (fun _ => 0)))]) H := hP
    have hD : va_D A (PX5 a0 a1 a2 a3 a4 a5 a6 a7 a8 a9 a10 a11 a12 cyI cyZ 0 w_size w_kinds w_as w_bs w_registers w_isMade w_steps w_stepParts w_pieces w_pieceParts w_slots w_areCounted w_registerOf w_slotOf w_pieceOf w_heldBy w_isSlotTaken w_outputs w_output ++ [(q20, .inl (cyI, 8, .inl (fun _ => 0)))]) := hD
    refine lv_astore_n (lv' := [(1, .ref q20), (0, .ref a0)]) hx hb dX5_run_22 rfl hl (by decide) rfl (fun ls hl => ?_)
    refine lv_bipush (v := 60) hx hb dX5_run_23 (by decide) ?_
    refine kc_newa (atype := .int) (ty := .int) (N' := 60) hx hb ka_int rfl hK 0 rfl (by intro C h; cases h) hP hD hS hA (a0 := (60, .inl (fun _ => 0))) (fun cA => rfl) (by decide) rfl (Nat.le_of_ble_eq_true rfl) (Nat.le_of_ble_eq_true rfl) (Nat.le_of_ble_eq_true rfl) dX5_run_25 (fun q25 H hP hD hS => ?_)
    have hP : va_P D vwCl (PX5 a0 a1 a2 a3 a4 a5 a6 a7 a8 a9 a10 a11 a12 cyI cyZ 0 w_size w_kinds w_as w_bs w_registers w_isMade w_steps w_stepParts w_pieces w_pieceParts w_slots w_areCounted w_registerOf w_slotOf w_pieceOf w_heldBy w_isSlotTaken w_outputs w_output ++ [(q20, .inl (cyI, 8, .inl (fun _ => 0))), (q25, .inl (cyI, 60, .inl (fun _ => 0)))]) H := hP
    have hD : va_D A (PX5 a0 a1 a2 a3 a4 a5 a6 a7 a8 a9 a10 a11 a12 cyI cyZ 0 w_size w_kinds w_as w_bs w_registers w_isMade w_steps w_stepParts w_pieces w_pieceParts w_slots w_areCounted w_registerOf w_slotOf w_pieceOf w_heldBy w_isSlotTaken w_outputs w_output ++ [(q20, .inl (cyI, 8, .inl (fun _ => 0))), (q25, .inl (cyI, 60, .inl (fun _ => 0)))]) := hD
    refine lv_astore_n (lv' := [(2, .ref q25), (1, .ref q20), (0, .ref a0)]) hx hb dX5_run_27 rfl hl (by decide) rfl (fun ls hl => ?_)
    refine lv_aload_n hx hb dX5_run_28 rfl (lv_at hl 2 rfl) ?_
    refine lv_iconst (v := 0) hx hb dX5_run_29 (by decide) ?_
    refine va_put (D := D) (ci := 5) (v := .int 0) (ty := .int) (C := RX5) (T := TX5) (N := 20) hx hb hts i_X5 tyX5 tyX5_ok nmX5 hown hK hP hD hS 0 rfl rfl 18 (by decide) k140 (fun _ h9 => h9) rfl (by decide +kernel) rfl (by first | rfl | decide) (Nat.le_of_ble_eq_true rfl) dX5_run_30 (fun H locs hP hD hS => ?_)
    have hP : va_P D vwCl (PX5 a0 a1 a2 a3 a4 a5 a6 a7 a8 a9 a10 a11 a12 cyI cyZ 0 w_size w_kinds w_as w_bs w_registers w_isMade w_steps w_stepParts w_pieces w_pieceParts w_slots w_areCounted w_registerOf w_slotOf w_pieceOf w_heldBy w_isSlotTaken 0 w_output ++ [(q20, .inl (cyI, 8, .inl (fun _ => 0))), (q25, .inl (cyI, 60, .inl (fun _ => 0)))]) H := hP
    have hD : va_D A (PX5 a0 a1 a2 a3 a4 a5 a6 a7 a8 a9 a10 a11 a12 cyI cyZ 0 w_size w_kinds w_as w_bs w_registers w_isMade w_steps w_stepParts w_pieces w_pieceParts w_slots w_areCounted w_registerOf w_slotOf w_pieceOf w_heldBy w_isSlotTaken 0 w_output ++ [(q20, .inl (cyI, 8, .inl (fun _ => 0))), (q25, .inl (cyI, 60, .inl (fun _ => 0)))]) := hD
    refine lv_iconst (v := 0) hx hb dX5_run_33 (by decide) ?_
    refine lv_istore_n (lv' := [(3, .int 0), (2, .ref q25), (1, .ref q20), (0, .ref a0)]) hx hb dX5_run_34 rfl hl (by decide) rfl (fun ls hl => ?_)
    have L35 : ∀ (n : Nat) (x3_L35 : Int32) (w_outputs_L35 : Int32) (w_output_L35 : Nat → Int32) (e_q20_L35 : Nat → Int32) (e_q25_L35 : Nat → Int32) (o9 : Int32 × (Nat → Int32) × (Nat → Int32) × (Nat → Int32)) (_ : f_X5_run_L35 w_steps w_stepParts n x3_L35 w_outputs_L35 w_output_L35 e_q20_L35 e_q25_L35 = some o9) (H : Heap) (locs : List Loc) (ls : Array Slot), va_P D vwCl (PX5 a0 a1 a2 a3 a4 a5 a6 a7 a8 a9 a10 a11 a12 cyI cyZ 0 w_size w_kinds w_as w_bs w_registers w_isMade w_steps w_stepParts w_pieces w_pieceParts w_slots w_areCounted w_registerOf w_slotOf w_pieceOf w_heldBy w_isSlotTaken w_outputs_L35 w_output_L35 ++ [(q20, .inl (cyI, 8, .inl e_q20_L35)), (q25, .inl (cyI, 60, .inl e_q25_L35))]) H → va_D A (PX5 a0 a1 a2 a3 a4 a5 a6 a7 a8 a9 a10 a11 a12 cyI cyZ 0 w_size w_kinds w_as w_bs w_registers w_isMade w_steps w_stepParts w_pieces w_pieceParts w_slots w_areCounted w_registerOf w_slotOf w_pieceOf w_heldBy w_isSlotTaken w_outputs_L35 w_output_L35 ++ [(q20, .inl (cyI, 8, .inl e_q20_L35)), (q25, .inl (cyI, 60, .inl e_q25_L35))]) → va_S A s.heap H locs → lv_has ls 7 [(3, .int x3_L35), (2, .ref q25), (1, .ref q20), (0, .ref a0)] → (∀ (H : Heap) (locs : List Loc) (ls : Array Slot), va_P D vwCl (PX5 a0 a1 a2 a3 a4 a5 a6 a7 a8 a9 a10 a11 a12 cyI cyZ 0 w_size w_kinds w_as w_bs w_registers w_isMade w_steps w_stepParts w_pieces w_pieceParts w_slots w_areCounted w_registerOf w_slotOf w_pieceOf w_heldBy w_isSlotTaken o9.1 o9.2.1 ++ [(q20, .inl (cyI, 8, .inl o9.2.2.1)), (q25, .inl (cyI, 60, .inl o9.2.2.2))]) H → va_D A (PX5 a0 a1 a2 a3 a4 a5 a6 a7 a8 a9 a10 a11 a12 cyI cyZ 0 w_size w_kinds w_as w_bs w_registers w_isMade w_steps w_stepParts w_pieces w_pieceParts w_slots w_areCounted w_registerOf w_slotOf w_pieceOf w_heldBy w_isSlotTaken o9.1 o9.2.1 ++ [(q20, .inl (cyI, 8, .inl o9.2.2.1)), (q25, .inl (cyI, 60, .inl o9.2.2.2))]) → va_S A s.heap H locs → lv_has ls 7 [(0, .ref a0)] → W p l e rmX5_run s m args below meth c H locs 2 68 Z (F0 m 267 ls [])) → W p l e rmX5_run s m args below meth c H locs 2 68 Z (F0 m 35 ls []) := by
      intro n
      induction n with
      | zero =>
        intro x3_L35 w_outputs_L35 w_output_L35 e_q20_L35 e_q25_L35 o9 hf
        rw [f_X5_run_L35] at hf
        cases hf
      | succ n ih =>
        intro x3_L35 w_outputs_L35 w_output_L35 e_q20_L35 e_q25_L35 o9 hf H locs ls hP hD hS hl kx
        rw [f_X5_run_L35] at hf
        refine lv_iload_n hx hb dX5_run_35 rfl (lv_at hl 0 rfl) ?_
        refine lv_aload_n hx hb dX5_run_36 rfl (lv_at hl 3 rfl) ?_
        refine va_get (D := D) (ci := 5) (v := .int w_steps) (C := RX5) (T := TX5) (N := 20) hx hb hts i_X5 hown hK hP 0 rfl rfl 7 (by decide) k92 (fun _ h9 => h9) rfl dX5_run_37 ?_
        refine lv_icmp_ge (tgt := 267) hx hb dX5_run_40 (by decide) (fun c_40 => ?_) (fun c_40 => ?_)
        · have hf := kit c_40 hf
          obtain rfl := Option.some.inj hf
          exact kx _ _ _ hP hD hS (lv_sub hl [3] rfl)
        · have hf := kif c_40 hf
          refine lv_aload_n hx hb dX5_run_43 rfl (lv_at hl 3 rfl) ?_
          refine va_get (D := D) (ci := 5) (v := .ref a4) (C := RX5) (T := TX5) (N := 20) hx hb hts i_X5 hown hK hP 0 rfl rfl 8 (by decide) k23 (fun _ h9 => h9) rfl dX5_run_44 ?_
          refine lv_iconst (v := 4) hx hb dX5_run_47 (by decide) ?_
          refine lv_iload_n hx hb dX5_run_48 rfl (lv_at hl 0 rfl) ?_
          refine lv_imul hx hb dX5_run_49 ?_
          refine lv_iconst (v := 1) hx hb dX5_run_50 (by decide) ?_
          refine lv_iadd hx hb dX5_run_51 ?_
          obtain ⟨h_52, hf⟩ := rdc_some hf
          refine va_iald hx hb hK hP 4 0 rfl rfl h_52 dX5_run_52 ?_
          refine lv_istore (lv' := [(4, .int (w_stepParts ((4 * x3_L35) + 1).toNatClampNeg)), (3, .int x3_L35), (2, .ref q25), (1, .ref q20), (0, .ref a0)]) hx hb dX5_run_53 hl (by decide) rfl (fun ls hl => ?_)
          refine lv_aload_n hx hb dX5_run_55 rfl (lv_at hl 4 rfl) ?_
          refine va_get (D := D) (ci := 5) (v := .ref a4) (C := RX5) (T := TX5) (N := 20) hx hb hts i_X5 hown hK hP 0 rfl rfl 8 (by decide) k23 (fun _ h9 => h9) rfl dX5_run_56 ?_
          refine lv_iconst (v := 4) hx hb dX5_run_59 (by decide) ?_
          refine lv_iload_n hx hb dX5_run_60 rfl (lv_at hl 1 rfl) ?_
          refine lv_imul hx hb dX5_run_61 ?_
          refine lv_iconst (v := 2) hx hb dX5_run_62 (by decide) ?_
          refine lv_iadd hx hb dX5_run_63 ?_
          obtain ⟨h_64, hf⟩ := rdc_some hf
          refine va_iald hx hb hK hP 4 0 rfl rfl h_64 dX5_run_64 ?_
          refine lv_istore (lv' := [(5, .int (w_stepParts ((4 * x3_L35) + 2).toNatClampNeg)), (4, .int (w_stepParts ((4 * x3_L35) + 1).toNatClampNeg)), (3, .int x3_L35), (2, .ref q25), (1, .ref q20), (0, .ref a0)]) hx hb dX5_run_65 hl (by decide) rfl (fun ls hl => ?_)
          refine lv_aload_n hx hb dX5_run_67 rfl (lv_at hl 5 rfl) ?_
          refine va_get (D := D) (ci := 5) (v := .ref a4) (C := RX5) (T := TX5) (N := 20) hx hb hts i_X5 hown hK hP 0 rfl rfl 8 (by decide) k23 (fun _ h9 => h9) rfl dX5_run_68 ?_
          refine lv_iconst (v := 4) hx hb dX5_run_71 (by decide) ?_
          refine lv_iload_n hx hb dX5_run_72 rfl (lv_at hl 2 rfl) ?_
          refine lv_imul hx hb dX5_run_73 ?_
          refine lv_iconst (v := 3) hx hb dX5_run_74 (by decide) ?_
          refine lv_iadd hx hb dX5_run_75 ?_
          obtain ⟨h_76, hf⟩ := rdc_some hf
          refine va_iald hx hb hK hP 4 0 rfl rfl h_76 dX5_run_76 ?_
          refine lv_istore (lv' := [(6, .int (w_stepParts ((4 * x3_L35) + 3).toNatClampNeg)), (5, .int (w_stepParts ((4 * x3_L35) + 2).toNatClampNeg)), (4, .int (w_stepParts ((4 * x3_L35) + 1).toNatClampNeg)), (3, .int x3_L35), (2, .ref q25), (1, .ref q20), (0, .ref a0)]) hx hb dX5_run_77 hl (by decide) rfl (fun ls hl => ?_)
          refine lv_aload_n hx hb dX5_run_79 rfl (lv_at hl 6 rfl) ?_
          refine va_get (D := D) (ci := 5) (v := .ref a4) (C := RX5) (T := TX5) (N := 20) hx hb hts i_X5 hown hK hP 0 rfl rfl 8 (by decide) k23 (fun _ h9 => h9) rfl dX5_run_80 ?_
          refine lv_iconst (v := 4) hx hb dX5_run_83 (by decide) ?_
          refine lv_iload_n hx hb dX5_run_84 rfl (lv_at hl 3 rfl) ?_
          refine lv_imul hx hb dX5_run_85 ?_
          obtain ⟨h_86, hf⟩ := rdc_some hf
          refine va_iald hx hb hK hP 4 0 rfl rfl h_86 dX5_run_86 ?_
          by_cases c_87_0 : (w_stepParts (4 * x3_L35).toNatClampNeg) = 0
          · have hf := kit c_87_0 hf
            refine lv_tableIn (off := 45) (tgt := 132) hx hb dX5_run_87 (by rw [c_87_0]; decide) (by rw [c_87_0]; decide) (by rw [c_87_0]; rfl) (by decide) ?_
            refine lv_aload_n hx hb dX5_run_132 rfl (lv_at hl 5 rfl) ?_
            refine lv_iload hx hb dX5_run_133 (lv_at hl 2 rfl) ?_
            refine lv_iload hx hb dX5_run_135 (lv_at hl 1 rfl) ?_
            obtain ⟨h_137, hf⟩ := rdc_some hf
            refine va_iast hx hb hK hP hD hS 13 0 rfl rfl h_137 dX5_run_137 (fun H locs hP hD hS => ?_)
            have hP : va_P D vwCl (PX5 a0 a1 a2 a3 a4 a5 a6 a7 a8 a9 a10 a11 a12 cyI cyZ 0 w_size w_kinds w_as w_bs w_registers w_isMade w_steps w_stepParts w_pieces w_pieceParts w_slots w_areCounted w_registerOf w_slotOf w_pieceOf w_heldBy w_isSlotTaken w_outputs_L35 w_output_L35 ++ [(q20, .inl (cyI, 8, .inl (upd e_q20_L35 (w_stepParts ((4 * x3_L35) + 1).toNatClampNeg).toNatClampNeg (w_stepParts ((4 * x3_L35) + 2).toNatClampNeg)))), (q25, .inl (cyI, 60, .inl e_q25_L35))]) H := hP
            have hD : va_D A (PX5 a0 a1 a2 a3 a4 a5 a6 a7 a8 a9 a10 a11 a12 cyI cyZ 0 w_size w_kinds w_as w_bs w_registers w_isMade w_steps w_stepParts w_pieces w_pieceParts w_slots w_areCounted w_registerOf w_slotOf w_pieceOf w_heldBy w_isSlotTaken w_outputs_L35 w_output_L35 ++ [(q20, .inl (cyI, 8, .inl (upd e_q20_L35 (w_stepParts ((4 * x3_L35) + 1).toNatClampNeg).toNatClampNeg (w_stepParts ((4 * x3_L35) + 2).toNatClampNeg)))), (q25, .inl (cyI, 60, .inl e_q25_L35))]) := hD
            refine lv_goto (tgt := 261) hx hb dX5_run_138 (by decide) ?_
            refine lv_iinc (v := (x3_L35 + 1)) (lv' := [(3, .int (x3_L35 + 1)), (6, .int (w_stepParts ((4 * x3_L35) + 3).toNatClampNeg)), (5, .int (w_stepParts ((4 * x3_L35) + 2).toNatClampNeg)), (4, .int (w_stepParts ((4 * x3_L35) + 1).toNatClampNeg)), (2, .ref q25), (1, .ref q20), (0, .ref a0)]) hx hb dX5_run_261 hl (k := 3) rfl rfl (by decide) rfl (fun ls hl => ?_)
            refine lv_goto (tgt := 35) hx hb dX5_run_264 (by decide) ?_
            exact ih (x3_L35 + 1) w_outputs_L35 w_output_L35 (upd e_q20_L35 (w_stepParts ((4 * x3_L35) + 1).toNatClampNeg).toNatClampNeg (w_stepParts ((4 * x3_L35) + 2).toNatClampNeg)) e_q25_L35 _ hf _ _ _ hP hD hS (lv_sub hl [0, 4, 5, 6] rfl) kx
          have hf := kif c_87_0 hf
          by_cases c_87_1 : (w_stepParts (4 * x3_L35).toNatClampNeg) = 1
          · have hf := kit c_87_1 hf
            refine lv_tableIn (off := 54) (tgt := 141) hx hb dX5_run_87 (by rw [c_87_1]; decide) (by rw [c_87_1]; decide) (by rw [c_87_1]; rfl) (by decide) ?_
            refine lv_aload_n hx hb dX5_run_141 rfl (lv_at hl 5 rfl) ?_
            refine lv_iload hx hb dX5_run_142 (lv_at hl 2 rfl) ?_
            refine lv_aload_n hx hb dX5_run_144 rfl (lv_at hl 5 rfl) ?_
            refine lv_iload hx hb dX5_run_145 (lv_at hl 1 rfl) ?_
            obtain ⟨h_147, hf⟩ := rdc_some hf
            refine va_iald hx hb hK hP 13 0 rfl rfl h_147 dX5_run_147 ?_
            refine lv_aload_n hx hb dX5_run_148 rfl (lv_at hl 5 rfl) ?_
            refine lv_iload hx hb dX5_run_149 (lv_at hl 0 rfl) ?_
            obtain ⟨h_151, hf⟩ := rdc_some hf
            refine va_iald hx hb hK hP 13 0 rfl rfl h_151 dX5_run_151 ?_
            refine lv_iadd hx hb dX5_run_152 ?_
            obtain ⟨h_153, hf⟩ := rdc_some hf
            refine va_iast hx hb hK hP hD hS 13 0 rfl rfl h_153 dX5_run_153 (fun H locs hP hD hS => ?_)
            have hP : va_P D vwCl (PX5 a0 a1 a2 a3 a4 a5 a6 a7 a8 a9 a10 a11 a12 cyI cyZ 0 w_size w_kinds w_as w_bs w_registers w_isMade w_steps w_stepParts w_pieces w_pieceParts w_slots w_areCounted w_registerOf w_slotOf w_pieceOf w_heldBy w_isSlotTaken w_outputs_L35 w_output_L35 ++ [(q20, .inl (cyI, 8, .inl (upd e_q20_L35 (w_stepParts ((4 * x3_L35) + 1).toNatClampNeg).toNatClampNeg ((e_q20_L35 (w_stepParts ((4 * x3_L35) + 2).toNatClampNeg).toNatClampNeg) + (e_q20_L35 (w_stepParts ((4 * x3_L35) + 3).toNatClampNeg).toNatClampNeg))))), (q25, .inl (cyI, 60, .inl e_q25_L35))]) H := hP
            have hD : va_D A (PX5 a0 a1 a2 a3 a4 a5 a6 a7 a8 a9 a10 a11 a12 cyI cyZ 0 w_size w_kinds w_as w_bs w_registers w_isMade w_steps w_stepParts w_pieces w_pieceParts w_slots w_areCounted w_registerOf w_slotOf w_pieceOf w_heldBy w_isSlotTaken w_outputs_L35 w_output_L35 ++ [(q20, .inl (cyI, 8, .inl (upd e_q20_L35 (w_stepParts ((4 * x3_L35) + 1).toNatClampNeg).toNatClampNeg ((e_q20_L35 (w_stepParts ((4 * x3_L35) + 2).toNatClampNeg).toNatClampNeg) + (e_q20_L35 (w_stepParts ((4 * x3_L35) + 3).toNatClampNeg).toNatClampNeg))))), (q25, .inl (cyI, 60, .inl e_q25_L35))]) := hD
            refine lv_goto (tgt := 261) hx hb dX5_run_154 (by decide) ?_
            refine lv_iinc (v := (x3_L35 + 1)) (lv' := [(3, .int (x3_L35 + 1)), (6, .int (w_stepParts ((4 * x3_L35) + 3).toNatClampNeg)), (5, .int (w_stepParts ((4 * x3_L35) + 2).toNatClampNeg)), (4, .int (w_stepParts ((4 * x3_L35) + 1).toNatClampNeg)), (2, .ref q25), (1, .ref q20), (0, .ref a0)]) hx hb dX5_run_261 hl (k := 3) rfl rfl (by decide) rfl (fun ls hl => ?_)
            refine lv_goto (tgt := 35) hx hb dX5_run_264 (by decide) ?_
            exact ih (x3_L35 + 1) w_outputs_L35 w_output_L35 (upd e_q20_L35 (w_stepParts ((4 * x3_L35) + 1).toNatClampNeg).toNatClampNeg ((e_q20_L35 (w_stepParts ((4 * x3_L35) + 2).toNatClampNeg).toNatClampNeg) + (e_q20_L35 (w_stepParts ((4 * x3_L35) + 3).toNatClampNeg).toNatClampNeg))) e_q25_L35 _ hf _ _ _ hP hD hS (lv_sub hl [0, 4, 5, 6] rfl) kx
          have hf := kif c_87_1 hf
          by_cases c_87_2 : (w_stepParts (4 * x3_L35).toNatClampNeg) = 2
          · have hf := kit c_87_2 hf
            refine lv_tableIn (off := 70) (tgt := 157) hx hb dX5_run_87 (by rw [c_87_2]; decide) (by rw [c_87_2]; decide) (by rw [c_87_2]; rfl) (by decide) ?_
            refine lv_aload_n hx hb dX5_run_157 rfl (lv_at hl 5 rfl) ?_
            refine lv_iload hx hb dX5_run_158 (lv_at hl 2 rfl) ?_
            refine lv_aload_n hx hb dX5_run_160 rfl (lv_at hl 5 rfl) ?_
            refine lv_iload hx hb dX5_run_161 (lv_at hl 1 rfl) ?_
            obtain ⟨h_163, hf⟩ := rdc_some hf
            refine va_iald hx hb hK hP 13 0 rfl rfl h_163 dX5_run_163 ?_
            refine lv_aload_n hx hb dX5_run_164 rfl (lv_at hl 5 rfl) ?_
            refine lv_iload hx hb dX5_run_165 (lv_at hl 0 rfl) ?_
            obtain ⟨h_167, hf⟩ := rdc_some hf
            refine va_iald hx hb hK hP 13 0 rfl rfl h_167 dX5_run_167 ?_
            refine lv_isub hx hb dX5_run_168 ?_
            obtain ⟨h_169, hf⟩ := rdc_some hf
            refine va_iast hx hb hK hP hD hS 13 0 rfl rfl h_169 dX5_run_169 (fun H locs hP hD hS => ?_)
            have hP : va_P D vwCl (PX5 a0 a1 a2 a3 a4 a5 a6 a7 a8 a9 a10 a11 a12 cyI cyZ 0 w_size w_kinds w_as w_bs w_registers w_isMade w_steps w_stepParts w_pieces w_pieceParts w_slots w_areCounted w_registerOf w_slotOf w_pieceOf w_heldBy w_isSlotTaken w_outputs_L35 w_output_L35 ++ [(q20, .inl (cyI, 8, .inl (upd e_q20_L35 (w_stepParts ((4 * x3_L35) + 1).toNatClampNeg).toNatClampNeg ((e_q20_L35 (w_stepParts ((4 * x3_L35) + 2).toNatClampNeg).toNatClampNeg) - (e_q20_L35 (w_stepParts ((4 * x3_L35) + 3).toNatClampNeg).toNatClampNeg))))), (q25, .inl (cyI, 60, .inl e_q25_L35))]) H := hP
            have hD : va_D A (PX5 a0 a1 a2 a3 a4 a5 a6 a7 a8 a9 a10 a11 a12 cyI cyZ 0 w_size w_kinds w_as w_bs w_registers w_isMade w_steps w_stepParts w_pieces w_pieceParts w_slots w_areCounted w_registerOf w_slotOf w_pieceOf w_heldBy w_isSlotTaken w_outputs_L35 w_output_L35 ++ [(q20, .inl (cyI, 8, .inl (upd e_q20_L35 (w_stepParts ((4 * x3_L35) + 1).toNatClampNeg).toNatClampNeg ((e_q20_L35 (w_stepParts ((4 * x3_L35) + 2).toNatClampNeg).toNatClampNeg) - (e_q20_L35 (w_stepParts ((4 * x3_L35) + 3).toNatClampNeg).toNatClampNeg))))), (q25, .inl (cyI, 60, .inl e_q25_L35))]) := hD
            refine lv_goto (tgt := 261) hx hb dX5_run_170 (by decide) ?_
            refine lv_iinc (v := (x3_L35 + 1)) (lv' := [(3, .int (x3_L35 + 1)), (6, .int (w_stepParts ((4 * x3_L35) + 3).toNatClampNeg)), (5, .int (w_stepParts ((4 * x3_L35) + 2).toNatClampNeg)), (4, .int (w_stepParts ((4 * x3_L35) + 1).toNatClampNeg)), (2, .ref q25), (1, .ref q20), (0, .ref a0)]) hx hb dX5_run_261 hl (k := 3) rfl rfl (by decide) rfl (fun ls hl => ?_)
            refine lv_goto (tgt := 35) hx hb dX5_run_264 (by decide) ?_
            exact ih (x3_L35 + 1) w_outputs_L35 w_output_L35 (upd e_q20_L35 (w_stepParts ((4 * x3_L35) + 1).toNatClampNeg).toNatClampNeg ((e_q20_L35 (w_stepParts ((4 * x3_L35) + 2).toNatClampNeg).toNatClampNeg) - (e_q20_L35 (w_stepParts ((4 * x3_L35) + 3).toNatClampNeg).toNatClampNeg))) e_q25_L35 _ hf _ _ _ hP hD hS (lv_sub hl [0, 4, 5, 6] rfl) kx
          have hf := kif c_87_2 hf
          by_cases c_87_3 : (w_stepParts (4 * x3_L35).toNatClampNeg) = 3
          · have hf := kit c_87_3 hf
            refine lv_tableIn (off := 86) (tgt := 173) hx hb dX5_run_87 (by rw [c_87_3]; decide) (by rw [c_87_3]; decide) (by rw [c_87_3]; rfl) (by decide) ?_
            refine lv_aload_n hx hb dX5_run_173 rfl (lv_at hl 5 rfl) ?_
            refine lv_iload hx hb dX5_run_174 (lv_at hl 2 rfl) ?_
            refine lv_aload_n hx hb dX5_run_176 rfl (lv_at hl 5 rfl) ?_
            refine lv_iload hx hb dX5_run_177 (lv_at hl 1 rfl) ?_
            obtain ⟨h_179, hf⟩ := rdc_some hf
            refine va_iald hx hb hK hP 13 0 rfl rfl h_179 dX5_run_179 ?_
            refine lv_aload_n hx hb dX5_run_180 rfl (lv_at hl 5 rfl) ?_
            refine lv_iload hx hb dX5_run_181 (lv_at hl 0 rfl) ?_
            obtain ⟨h_183, hf⟩ := rdc_some hf
            refine va_iald hx hb hK hP 13 0 rfl rfl h_183 dX5_run_183 ?_
            refine lv_imul hx hb dX5_run_184 ?_
            obtain ⟨h_185, hf⟩ := rdc_some hf
            refine va_iast hx hb hK hP hD hS 13 0 rfl rfl h_185 dX5_run_185 (fun H locs hP hD hS => ?_)
            have hP : va_P D vwCl (PX5 a0 a1 a2 a3 a4 a5 a6 a7 a8 a9 a10 a11 a12 cyI cyZ 0 w_size w_kinds w_as w_bs w_registers w_isMade w_steps w_stepParts w_pieces w_pieceParts w_slots w_areCounted w_registerOf w_slotOf w_pieceOf w_heldBy w_isSlotTaken w_outputs_L35 w_output_L35 ++ [(q20, .inl (cyI, 8, .inl (upd e_q20_L35 (w_stepParts ((4 * x3_L35) + 1).toNatClampNeg).toNatClampNeg ((e_q20_L35 (w_stepParts ((4 * x3_L35) + 2).toNatClampNeg).toNatClampNeg) * (e_q20_L35 (w_stepParts ((4 * x3_L35) + 3).toNatClampNeg).toNatClampNeg))))), (q25, .inl (cyI, 60, .inl e_q25_L35))]) H := hP
            have hD : va_D A (PX5 a0 a1 a2 a3 a4 a5 a6 a7 a8 a9 a10 a11 a12 cyI cyZ 0 w_size w_kinds w_as w_bs w_registers w_isMade w_steps w_stepParts w_pieces w_pieceParts w_slots w_areCounted w_registerOf w_slotOf w_pieceOf w_heldBy w_isSlotTaken w_outputs_L35 w_output_L35 ++ [(q20, .inl (cyI, 8, .inl (upd e_q20_L35 (w_stepParts ((4 * x3_L35) + 1).toNatClampNeg).toNatClampNeg ((e_q20_L35 (w_stepParts ((4 * x3_L35) + 2).toNatClampNeg).toNatClampNeg) * (e_q20_L35 (w_stepParts ((4 * x3_L35) + 3).toNatClampNeg).toNatClampNeg))))), (q25, .inl (cyI, 60, .inl e_q25_L35))]) := hD
            refine lv_goto (tgt := 261) hx hb dX5_run_186 (by decide) ?_
            refine lv_iinc (v := (x3_L35 + 1)) (lv' := [(3, .int (x3_L35 + 1)), (6, .int (w_stepParts ((4 * x3_L35) + 3).toNatClampNeg)), (5, .int (w_stepParts ((4 * x3_L35) + 2).toNatClampNeg)), (4, .int (w_stepParts ((4 * x3_L35) + 1).toNatClampNeg)), (2, .ref q25), (1, .ref q20), (0, .ref a0)]) hx hb dX5_run_261 hl (k := 3) rfl rfl (by decide) rfl (fun ls hl => ?_)
            refine lv_goto (tgt := 35) hx hb dX5_run_264 (by decide) ?_
            exact ih (x3_L35 + 1) w_outputs_L35 w_output_L35 (upd e_q20_L35 (w_stepParts ((4 * x3_L35) + 1).toNatClampNeg).toNatClampNeg ((e_q20_L35 (w_stepParts ((4 * x3_L35) + 2).toNatClampNeg).toNatClampNeg) * (e_q20_L35 (w_stepParts ((4 * x3_L35) + 3).toNatClampNeg).toNatClampNeg))) e_q25_L35 _ hf _ _ _ hP hD hS (lv_sub hl [0, 4, 5, 6] rfl) kx
          have hf := kif c_87_3 hf
          by_cases c_87_4 : (w_stepParts (4 * x3_L35).toNatClampNeg) = 4
          · have hf := kit c_87_4 hf
            refine lv_tableIn (off := 102) (tgt := 189) hx hb dX5_run_87 (by rw [c_87_4]; decide) (by rw [c_87_4]; decide) (by rw [c_87_4]; rfl) (by decide) ?_
            refine lv_aload_n hx hb dX5_run_189 rfl (lv_at hl 5 rfl) ?_
            refine lv_iload hx hb dX5_run_190 (lv_at hl 2 rfl) ?_
            refine lv_aload_n hx hb dX5_run_192 rfl (lv_at hl 5 rfl) ?_
            refine lv_iload hx hb dX5_run_193 (lv_at hl 1 rfl) ?_
            obtain ⟨h_195, hf⟩ := rdc_some hf
            refine va_iald hx hb hK hP 13 0 rfl rfl h_195 dX5_run_195 ?_
            refine lv_aload_n hx hb dX5_run_196 rfl (lv_at hl 5 rfl) ?_
            refine lv_iload hx hb dX5_run_197 (lv_at hl 0 rfl) ?_
            obtain ⟨h_199, hf⟩ := rdc_some hf
            refine va_iald hx hb hK hP 13 0 rfl rfl h_199 dX5_run_199 ?_
            refine lv_ixor hx hb dX5_run_200 ?_
            obtain ⟨h_201, hf⟩ := rdc_some hf
            refine va_iast hx hb hK hP hD hS 13 0 rfl rfl h_201 dX5_run_201 (fun H locs hP hD hS => ?_)
            have hP : va_P D vwCl (PX5 a0 a1 a2 a3 a4 a5 a6 a7 a8 a9 a10 a11 a12 cyI cyZ 0 w_size w_kinds w_as w_bs w_registers w_isMade w_steps w_stepParts w_pieces w_pieceParts w_slots w_areCounted w_registerOf w_slotOf w_pieceOf w_heldBy w_isSlotTaken w_outputs_L35 w_output_L35 ++ [(q20, .inl (cyI, 8, .inl (upd e_q20_L35 (w_stepParts ((4 * x3_L35) + 1).toNatClampNeg).toNatClampNeg ((e_q20_L35 (w_stepParts ((4 * x3_L35) + 2).toNatClampNeg).toNatClampNeg) ^^^ (e_q20_L35 (w_stepParts ((4 * x3_L35) + 3).toNatClampNeg).toNatClampNeg))))), (q25, .inl (cyI, 60, .inl e_q25_L35))]) H := hP
            have hD : va_D A (PX5 a0 a1 a2 a3 a4 a5 a6 a7 a8 a9 a10 a11 a12 cyI cyZ 0 w_size w_kinds w_as w_bs w_registers w_isMade w_steps w_stepParts w_pieces w_pieceParts w_slots w_areCounted w_registerOf w_slotOf w_pieceOf w_heldBy w_isSlotTaken w_outputs_L35 w_output_L35 ++ [(q20, .inl (cyI, 8, .inl (upd e_q20_L35 (w_stepParts ((4 * x3_L35) + 1).toNatClampNeg).toNatClampNeg ((e_q20_L35 (w_stepParts ((4 * x3_L35) + 2).toNatClampNeg).toNatClampNeg) ^^^ (e_q20_L35 (w_stepParts ((4 * x3_L35) + 3).toNatClampNeg).toNatClampNeg))))), (q25, .inl (cyI, 60, .inl e_q25_L35))]) := hD
            refine lv_goto (tgt := 261) hx hb dX5_run_202 (by decide) ?_
            refine lv_iinc (v := (x3_L35 + 1)) (lv' := [(3, .int (x3_L35 + 1)), (6, .int (w_stepParts ((4 * x3_L35) + 3).toNatClampNeg)), (5, .int (w_stepParts ((4 * x3_L35) + 2).toNatClampNeg)), (4, .int (w_stepParts ((4 * x3_L35) + 1).toNatClampNeg)), (2, .ref q25), (1, .ref q20), (0, .ref a0)]) hx hb dX5_run_261 hl (k := 3) rfl rfl (by decide) rfl (fun ls hl => ?_)
            refine lv_goto (tgt := 35) hx hb dX5_run_264 (by decide) ?_
            exact ih (x3_L35 + 1) w_outputs_L35 w_output_L35 (upd e_q20_L35 (w_stepParts ((4 * x3_L35) + 1).toNatClampNeg).toNatClampNeg ((e_q20_L35 (w_stepParts ((4 * x3_L35) + 2).toNatClampNeg).toNatClampNeg) ^^^ (e_q20_L35 (w_stepParts ((4 * x3_L35) + 3).toNatClampNeg).toNatClampNeg))) e_q25_L35 _ hf _ _ _ hP hD hS (lv_sub hl [0, 4, 5, 6] rfl) kx
          have hf := kif c_87_4 hf
          by_cases c_87_5 : (w_stepParts (4 * x3_L35).toNatClampNeg) = 5
          · have hf := kit c_87_5 hf
            refine lv_tableIn (off := 118) (tgt := 205) hx hb dX5_run_87 (by rw [c_87_5]; decide) (by rw [c_87_5]; decide) (by rw [c_87_5]; rfl) (by decide) ?_
            refine lv_aload_n hx hb dX5_run_205 rfl (lv_at hl 5 rfl) ?_
            refine lv_iload hx hb dX5_run_206 (lv_at hl 2 rfl) ?_
            refine lv_aload_n hx hb dX5_run_208 rfl (lv_at hl 5 rfl) ?_
            refine lv_iload hx hb dX5_run_209 (lv_at hl 1 rfl) ?_
            obtain ⟨h_211, hf⟩ := rdc_some hf
            refine va_iald hx hb hK hP 13 0 rfl rfl h_211 dX5_run_211 ?_
            obtain ⟨h_212, hf⟩ := rdc_some hf
            refine va_iast hx hb hK hP hD hS 13 0 rfl rfl h_212 dX5_run_212 (fun H locs hP hD hS => ?_)
            have hP : va_P D vwCl (PX5 a0 a1 a2 a3 a4 a5 a6 a7 a8 a9 a10 a11 a12 cyI cyZ 0 w_size w_kinds w_as w_bs w_registers w_isMade w_steps w_stepParts w_pieces w_pieceParts w_slots w_areCounted w_registerOf w_slotOf w_pieceOf w_heldBy w_isSlotTaken w_outputs_L35 w_output_L35 ++ [(q20, .inl (cyI, 8, .inl (upd e_q20_L35 (w_stepParts ((4 * x3_L35) + 1).toNatClampNeg).toNatClampNeg (e_q20_L35 (w_stepParts ((4 * x3_L35) + 2).toNatClampNeg).toNatClampNeg)))), (q25, .inl (cyI, 60, .inl e_q25_L35))]) H := hP
            have hD : va_D A (PX5 a0 a1 a2 a3 a4 a5 a6 a7 a8 a9 a10 a11 a12 cyI cyZ 0 w_size w_kinds w_as w_bs w_registers w_isMade w_steps w_stepParts w_pieces w_pieceParts w_slots w_areCounted w_registerOf w_slotOf w_pieceOf w_heldBy w_isSlotTaken w_outputs_L35 w_output_L35 ++ [(q20, .inl (cyI, 8, .inl (upd e_q20_L35 (w_stepParts ((4 * x3_L35) + 1).toNatClampNeg).toNatClampNeg (e_q20_L35 (w_stepParts ((4 * x3_L35) + 2).toNatClampNeg).toNatClampNeg)))), (q25, .inl (cyI, 60, .inl e_q25_L35))]) := hD
            refine lv_goto (tgt := 261) hx hb dX5_run_213 (by decide) ?_
            refine lv_iinc (v := (x3_L35 + 1)) (lv' := [(3, .int (x3_L35 + 1)), (6, .int (w_stepParts ((4 * x3_L35) + 3).toNatClampNeg)), (5, .int (w_stepParts ((4 * x3_L35) + 2).toNatClampNeg)), (4, .int (w_stepParts ((4 * x3_L35) + 1).toNatClampNeg)), (2, .ref q25), (1, .ref q20), (0, .ref a0)]) hx hb dX5_run_261 hl (k := 3) rfl rfl (by decide) rfl (fun ls hl => ?_)
            refine lv_goto (tgt := 35) hx hb dX5_run_264 (by decide) ?_
            exact ih (x3_L35 + 1) w_outputs_L35 w_output_L35 (upd e_q20_L35 (w_stepParts ((4 * x3_L35) + 1).toNatClampNeg).toNatClampNeg (e_q20_L35 (w_stepParts ((4 * x3_L35) + 2).toNatClampNeg).toNatClampNeg)) e_q25_L35 _ hf _ _ _ hP hD hS (lv_sub hl [0, 4, 5, 6] rfl) kx
          have hf := kif c_87_5 hf
          by_cases c_87_6 : (w_stepParts (4 * x3_L35).toNatClampNeg) = 6
          · have hf := kit c_87_6 hf
            refine lv_tableIn (off := 129) (tgt := 216) hx hb dX5_run_87 (by rw [c_87_6]; decide) (by rw [c_87_6]; decide) (by rw [c_87_6]; rfl) (by decide) ?_
            refine lv_aload_n hx hb dX5_run_216 rfl (lv_at hl 6 rfl) ?_
            refine va_get (D := D) (ci := 5) (v := .ref a12) (C := RX5) (T := TX5) (N := 20) hx hb hts i_X5 hown hK hP 0 rfl rfl 19 (by decide) k48 (fun _ h9 => h9) rfl dX5_run_217 ?_
            refine lv_aload_n hx hb dX5_run_220 rfl (lv_at hl 6 rfl) ?_
            refine va_get (D := D) (ci := 5) (v := .int w_outputs_L35) (C := RX5) (T := TX5) (N := 20) hx hb hts i_X5 hown hK hP 0 rfl rfl 18 (by decide) k140 (fun _ h9 => h9) rfl dX5_run_221 ?_
            refine lv_aload_n hx hb dX5_run_224 rfl (lv_at hl 5 rfl) ?_
            refine lv_iload hx hb dX5_run_225 (lv_at hl 2 rfl) ?_
            obtain ⟨h_227, hf⟩ := rdc_some hf
            refine va_iald hx hb hK hP 13 0 rfl rfl h_227 dX5_run_227 ?_
            obtain ⟨h_228, hf⟩ := rdc_some hf
            refine va_iast hx hb hK hP hD hS 12 0 rfl rfl h_228 dX5_run_228 (fun H locs hP hD hS => ?_)
            have hP : va_P D vwCl (PX5 a0 a1 a2 a3 a4 a5 a6 a7 a8 a9 a10 a11 a12 cyI cyZ 0 w_size w_kinds w_as w_bs w_registers w_isMade w_steps w_stepParts w_pieces w_pieceParts w_slots w_areCounted w_registerOf w_slotOf w_pieceOf w_heldBy w_isSlotTaken w_outputs_L35 (upd w_output_L35 w_outputs_L35.toNatClampNeg (e_q20_L35 (w_stepParts ((4 * x3_L35) + 1).toNatClampNeg).toNatClampNeg)) ++ [(q20, .inl (cyI, 8, .inl e_q20_L35)), (q25, .inl (cyI, 60, .inl e_q25_L35))]) H := hP
            have hD : va_D A (PX5 a0 a1 a2 a3 a4 a5 a6 a7 a8 a9 a10 a11 a12 cyI cyZ 0 w_size w_kinds w_as w_bs w_registers w_isMade w_steps w_stepParts w_pieces w_pieceParts w_slots w_areCounted w_registerOf w_slotOf w_pieceOf w_heldBy w_isSlotTaken w_outputs_L35 (upd w_output_L35 w_outputs_L35.toNatClampNeg (e_q20_L35 (w_stepParts ((4 * x3_L35) + 1).toNatClampNeg).toNatClampNeg)) ++ [(q20, .inl (cyI, 8, .inl e_q20_L35)), (q25, .inl (cyI, 60, .inl e_q25_L35))]) := hD
            refine lv_aload_n hx hb dX5_run_229 rfl (lv_at hl 6 rfl) ?_
            refine lv_dup hx hb dX5_run_230 rfl ?_
            refine va_get (D := D) (ci := 5) (v := .int w_outputs_L35) (C := RX5) (T := TX5) (N := 20) hx hb hts i_X5 hown hK hP 0 rfl rfl 18 (by decide) k140 (fun _ h9 => h9) rfl dX5_run_231 ?_
            refine lv_iconst (v := 1) hx hb dX5_run_234 (by decide) ?_
            refine lv_iadd hx hb dX5_run_235 ?_
            refine va_put (D := D) (ci := 5) (v := .int (w_outputs_L35 + 1)) (ty := .int) (C := RX5) (T := TX5) (N := 20) hx hb hts i_X5 tyX5 tyX5_ok nmX5 hown hK hP hD hS 0 rfl rfl 18 (by decide) k140 (fun _ h9 => h9) rfl (by decide +kernel) rfl (by first | rfl | decide) (Nat.le_of_ble_eq_true rfl) dX5_run_236 (fun H locs hP hD hS => ?_)
            have hP : va_P D vwCl (PX5 a0 a1 a2 a3 a4 a5 a6 a7 a8 a9 a10 a11 a12 cyI cyZ 0 w_size w_kinds w_as w_bs w_registers w_isMade w_steps w_stepParts w_pieces w_pieceParts w_slots w_areCounted w_registerOf w_slotOf w_pieceOf w_heldBy w_isSlotTaken (w_outputs_L35 + 1) (upd w_output_L35 w_outputs_L35.toNatClampNeg (e_q20_L35 (w_stepParts ((4 * x3_L35) + 1).toNatClampNeg).toNatClampNeg)) ++ [(q20, .inl (cyI, 8, .inl e_q20_L35)), (q25, .inl (cyI, 60, .inl e_q25_L35))]) H := hP
            have hD : va_D A (PX5 a0 a1 a2 a3 a4 a5 a6 a7 a8 a9 a10 a11 a12 cyI cyZ 0 w_size w_kinds w_as w_bs w_registers w_isMade w_steps w_stepParts w_pieces w_pieceParts w_slots w_areCounted w_registerOf w_slotOf w_pieceOf w_heldBy w_isSlotTaken (w_outputs_L35 + 1) (upd w_output_L35 w_outputs_L35.toNatClampNeg (e_q20_L35 (w_stepParts ((4 * x3_L35) + 1).toNatClampNeg).toNatClampNeg)) ++ [(q20, .inl (cyI, 8, .inl e_q20_L35)), (q25, .inl (cyI, 60, .inl e_q25_L35))]) := hD
            refine lv_goto (tgt := 261) hx hb dX5_run_239 (by decide) ?_
            refine lv_iinc (v := (x3_L35 + 1)) (lv' := [(3, .int (x3_L35 + 1)), (6, .int (w_stepParts ((4 * x3_L35) + 3).toNatClampNeg)), (5, .int (w_stepParts ((4 * x3_L35) + 2).toNatClampNeg)), (4, .int (w_stepParts ((4 * x3_L35) + 1).toNatClampNeg)), (2, .ref q25), (1, .ref q20), (0, .ref a0)]) hx hb dX5_run_261 hl (k := 3) rfl rfl (by decide) rfl (fun ls hl => ?_)
            refine lv_goto (tgt := 35) hx hb dX5_run_264 (by decide) ?_
            exact ih (x3_L35 + 1) (w_outputs_L35 + 1) (upd w_output_L35 w_outputs_L35.toNatClampNeg (e_q20_L35 (w_stepParts ((4 * x3_L35) + 1).toNatClampNeg).toNatClampNeg)) e_q20_L35 e_q25_L35 _ hf _ _ _ hP hD hS (lv_sub hl [0, 4, 5, 6] rfl) kx
          have hf := kif c_87_6 hf
          by_cases c_87_7 : (w_stepParts (4 * x3_L35).toNatClampNeg) = 7
          · have hf := kit c_87_7 hf
            refine lv_tableIn (off := 155) (tgt := 242) hx hb dX5_run_87 (by rw [c_87_7]; decide) (by rw [c_87_7]; decide) (by rw [c_87_7]; rfl) (by decide) ?_
            refine lv_aload_n hx hb dX5_run_242 rfl (lv_at hl 5 rfl) ?_
            refine lv_iload hx hb dX5_run_243 (lv_at hl 2 rfl) ?_
            refine lv_aload_n hx hb dX5_run_245 rfl (lv_at hl 4 rfl) ?_
            refine lv_iload hx hb dX5_run_246 (lv_at hl 1 rfl) ?_
            obtain ⟨h_248, hf⟩ := rdc_some hf
            refine va_iald hx hb hK hP 14 0 rfl rfl h_248 dX5_run_248 ?_
            obtain ⟨h_249, hf⟩ := rdc_some hf
            refine va_iast hx hb hK hP hD hS 13 0 rfl rfl h_249 dX5_run_249 (fun H locs hP hD hS => ?_)
            have hP : va_P D vwCl (PX5 a0 a1 a2 a3 a4 a5 a6 a7 a8 a9 a10 a11 a12 cyI cyZ 0 w_size w_kinds w_as w_bs w_registers w_isMade w_steps w_stepParts w_pieces w_pieceParts w_slots w_areCounted w_registerOf w_slotOf w_pieceOf w_heldBy w_isSlotTaken w_outputs_L35 w_output_L35 ++ [(q20, .inl (cyI, 8, .inl (upd e_q20_L35 (w_stepParts ((4 * x3_L35) + 1).toNatClampNeg).toNatClampNeg (e_q25_L35 (w_stepParts ((4 * x3_L35) + 2).toNatClampNeg).toNatClampNeg)))), (q25, .inl (cyI, 60, .inl e_q25_L35))]) H := hP
            have hD : va_D A (PX5 a0 a1 a2 a3 a4 a5 a6 a7 a8 a9 a10 a11 a12 cyI cyZ 0 w_size w_kinds w_as w_bs w_registers w_isMade w_steps w_stepParts w_pieces w_pieceParts w_slots w_areCounted w_registerOf w_slotOf w_pieceOf w_heldBy w_isSlotTaken w_outputs_L35 w_output_L35 ++ [(q20, .inl (cyI, 8, .inl (upd e_q20_L35 (w_stepParts ((4 * x3_L35) + 1).toNatClampNeg).toNatClampNeg (e_q25_L35 (w_stepParts ((4 * x3_L35) + 2).toNatClampNeg).toNatClampNeg)))), (q25, .inl (cyI, 60, .inl e_q25_L35))]) := hD
            refine lv_goto (tgt := 261) hx hb dX5_run_250 (by decide) ?_
            refine lv_iinc (v := (x3_L35 + 1)) (lv' := [(3, .int (x3_L35 + 1)), (6, .int (w_stepParts ((4 * x3_L35) + 3).toNatClampNeg)), (5, .int (w_stepParts ((4 * x3_L35) + 2).toNatClampNeg)), (4, .int (w_stepParts ((4 * x3_L35) + 1).toNatClampNeg)), (2, .ref q25), (1, .ref q20), (0, .ref a0)]) hx hb dX5_run_261 hl (k := 3) rfl rfl (by decide) rfl (fun ls hl => ?_)
            refine lv_goto (tgt := 35) hx hb dX5_run_264 (by decide) ?_
            exact ih (x3_L35 + 1) w_outputs_L35 w_output_L35 (upd e_q20_L35 (w_stepParts ((4 * x3_L35) + 1).toNatClampNeg).toNatClampNeg (e_q25_L35 (w_stepParts ((4 * x3_L35) + 2).toNatClampNeg).toNatClampNeg)) e_q25_L35 _ hf _ _ _ hP hD hS (lv_sub hl [0, 4, 5, 6] rfl) kx
          have hf := kif c_87_7 hf
          have c_87_0_ := lv_neT (a := 0) c_87_0 (by decide)
          have c_87_1_ := lv_neT (a := 1) c_87_1 (by decide)
          have c_87_2_ := lv_neT (a := 2) c_87_2 (by decide)
          have c_87_3_ := lv_neT (a := 3) c_87_3 (by decide)
          have c_87_4_ := lv_neT (a := 4) c_87_4 (by decide)
          have c_87_5_ := lv_neT (a := 5) c_87_5 (by decide)
          have c_87_6_ := lv_neT (a := 6) c_87_6 (by decide)
          have c_87_7_ := lv_neT (a := 7) c_87_7 (by decide)
          refine lv_tableOut (tgt := 253) hx hb dX5_run_87 (by omega) (by decide) ?_
          refine lv_aload_n hx hb dX5_run_253 rfl (lv_at hl 4 rfl) ?_
          refine lv_iload hx hb dX5_run_254 (lv_at hl 1 rfl) ?_
          refine lv_aload_n hx hb dX5_run_256 rfl (lv_at hl 5 rfl) ?_
          refine lv_iload hx hb dX5_run_257 (lv_at hl 2 rfl) ?_
          obtain ⟨h_259, hf⟩ := rdc_some hf
          refine va_iald hx hb hK hP 13 0 rfl rfl h_259 dX5_run_259 ?_
          obtain ⟨h_260, hf⟩ := rdc_some hf
          refine va_iast hx hb hK hP hD hS 14 0 rfl rfl h_260 dX5_run_260 (fun H locs hP hD hS => ?_)
          have hP : va_P D vwCl (PX5 a0 a1 a2 a3 a4 a5 a6 a7 a8 a9 a10 a11 a12 cyI cyZ 0 w_size w_kinds w_as w_bs w_registers w_isMade w_steps w_stepParts w_pieces w_pieceParts w_slots w_areCounted w_registerOf w_slotOf w_pieceOf w_heldBy w_isSlotTaken w_outputs_L35 w_output_L35 ++ [(q20, .inl (cyI, 8, .inl e_q20_L35)), (q25, .inl (cyI, 60, .inl (upd e_q25_L35 (w_stepParts ((4 * x3_L35) + 2).toNatClampNeg).toNatClampNeg (e_q20_L35 (w_stepParts ((4 * x3_L35) + 1).toNatClampNeg).toNatClampNeg))))]) H := hP
          have hD : va_D A (PX5 a0 a1 a2 a3 a4 a5 a6 a7 a8 a9 a10 a11 a12 cyI cyZ 0 w_size w_kinds w_as w_bs w_registers w_isMade w_steps w_stepParts w_pieces w_pieceParts w_slots w_areCounted w_registerOf w_slotOf w_pieceOf w_heldBy w_isSlotTaken w_outputs_L35 w_output_L35 ++ [(q20, .inl (cyI, 8, .inl e_q20_L35)), (q25, .inl (cyI, 60, .inl (upd e_q25_L35 (w_stepParts ((4 * x3_L35) + 2).toNatClampNeg).toNatClampNeg (e_q20_L35 (w_stepParts ((4 * x3_L35) + 1).toNatClampNeg).toNatClampNeg))))]) := hD
          refine lv_iinc (v := (x3_L35 + 1)) (lv' := [(3, .int (x3_L35 + 1)), (6, .int (w_stepParts ((4 * x3_L35) + 3).toNatClampNeg)), (5, .int (w_stepParts ((4 * x3_L35) + 2).toNatClampNeg)), (4, .int (w_stepParts ((4 * x3_L35) + 1).toNatClampNeg)), (2, .ref q25), (1, .ref q20), (0, .ref a0)]) hx hb dX5_run_261 hl (k := 3) rfl rfl (by decide) rfl (fun ls hl => ?_)
          refine lv_goto (tgt := 35) hx hb dX5_run_264 (by decide) ?_
          exact ih (x3_L35 + 1) w_outputs_L35 w_output_L35 e_q20_L35 (upd e_q25_L35 (w_stepParts ((4 * x3_L35) + 2).toNatClampNeg).toNatClampNeg (e_q20_L35 (w_stepParts ((4 * x3_L35) + 1).toNatClampNeg).toNatClampNeg)) _ hf _ _ _ hP hD hS (lv_sub hl [0, 4, 5, 6] rfl) kx
    obtain ⟨⟨v35_0, v35_1, v35_2, v35_3⟩, hf35, hf⟩ := kbd hf
    try dsimp only at hf
    refine L35 4000 0 0 w_output (fun _ => 0) (fun _ => 0) (v35_0, v35_1, v35_2, v35_3) hf35 _ _ _ hP hD hS (lv_sub hl [0, 1, 2, 3] rfl) (fun H locs ls hP hD hS hl => ?_)
    have hP : va_P D vwCl (PX5 a0 a1 a2 a3 a4 a5 a6 a7 a8 a9 a10 a11 a12 cyI cyZ 0 w_size w_kinds w_as w_bs w_registers w_isMade w_steps w_stepParts w_pieces w_pieceParts w_slots w_areCounted w_registerOf w_slotOf w_pieceOf w_heldBy w_isSlotTaken v35_0 v35_1 ++ [(q20, .inl (cyI, 8, .inl v35_2)), (q25, .inl (cyI, 60, .inl v35_3))]) H := hP
    have hD : va_D A (PX5 a0 a1 a2 a3 a4 a5 a6 a7 a8 a9 a10 a11 a12 cyI cyZ 0 w_size w_kinds w_as w_bs w_registers w_isMade w_steps w_stepParts w_pieces w_pieceParts w_slots w_areCounted w_registerOf w_slotOf w_pieceOf w_heldBy w_isSlotTaken v35_0 v35_1 ++ [(q20, .inl (cyI, 8, .inl v35_2)), (q25, .inl (cyI, 60, .inl v35_3))]) := hD
    have hl : lv_has ls 7 [(0, .ref a0)] := hl
    refine lv_aload_n hx hb dX5_run_267 rfl (lv_at hl 0 rfl) ?_
    refine va_get (D := D) (ci := 5) (v := .int v35_0) (C := RX5) (T := TX5) (N := 20) hx hb hts i_X5 hown hK hP 0 rfl rfl 18 (by decide) k140 (fun _ h9 => h9) rfl dX5_run_268 ?_
    obtain rfl := Option.some.inj hf
    have hP : va_P D vwCl (PX5 a0 a1 a2 a3 a4 a5 a6 a7 a8 a9 a10 a11 a12 cyI cyZ 0 w_size w_kinds w_as w_bs w_registers w_isMade w_steps w_stepParts w_pieces w_pieceParts w_slots w_areCounted w_registerOf w_slotOf w_pieceOf w_heldBy w_isSlotTaken v35_0 v35_1) H := kSub hP [0, 1, 2, 3, 4, 5, 6, 7, 8, 9, 10, 11, 12] rfl
    have hD : va_D A (PX5 a0 a1 a2 a3 a4 a5 a6 a7 a8 a9 a10 a11 a12 cyI cyZ 0 w_size w_kinds w_as w_bs w_registers w_isMade w_steps w_stepParts w_pieces w_pieceParts w_slots w_areCounted w_registerOf w_slotOf w_pieceOf w_heldBy w_isSlotTaken v35_0 v35_1) := hD.sub [0, 1, 2, 3, 4, 5, 6, 7, 8, 9, 10, 11, 12] (by decide +kernel) rfl
    exact ret _ _ _ _ dX5_run_271 rfl hP hD hS
  · have hf := kit c_9 hf
    refine lv_aload_n hx hb dX5_run_12 rfl (lv_at hl 0 rfl) ?_
    refine lv_iconst (v := 1) hx hb dX5_run_13 (by decide) ?_
    obtain ⟨⟨u14_0, u14_1⟩, hf14, hf⟩ := kbd hf
    try dsimp only at hf
    refine kc_Vi (As := [.int 1]) (rest := []) (wf := (PX5 a0 a1 a2 a3 a4 a5 a6 a7 a8 a9 a10 a11 a12 cyI cyZ u14_1 w_size w_kinds w_as w_bs w_registers w_isMade w_steps w_stepParts w_pieces w_pieceParts w_slots w_areCounted w_registerOf w_slotOf w_pieceOf w_heldBy w_isSlotTaken w_outputs w_output)) (c_X5_fail l D cyI cyZ a0 a1 a2 a3 a4 a5 a6 a7 a8 a9 a10 a11 a12 0 w_size w_kinds w_as w_bs w_registers w_isMade w_steps w_stepParts w_pieces w_pieceParts w_slots w_areCounted w_registerOf w_slotOf w_pieceOf w_heldBy w_isSlotTaken w_outputs w_output 1 (u14_0, u14_1) hf14) ⟨hx, hb, hml, hown, hts⟩ (cwV 1 hts gX5_run_X5_fail rfl rfl rfl (by decide +kernel) ⟨Nat.le_of_ble_eq_true rfl, Nat.le_of_ble_eq_true rfl⟩) hK hP hD hS hA [0, 1, 2, 3, 4, 5, 6, 7, 8, 9, 10, 11, 12] [] 13 rfl rfl kR0 rfl (by decide +kernel) rfl rfl rfl rfl hl.1 rfl (Nat.le_of_ble_eq_true rfl) dX5_run_14 ⟨Nat.le_of_ble_eq_true rfl, Nat.le_of_ble_eq_true rfl⟩ (fun H locs hP hD hS => ?_)
    obtain rfl := Option.some.inj hf
    refine W.widen (k := 2) (n := 68) (Nat.le_of_ble_eq_true rfl) (Nat.le_of_ble_eq_true rfl) ?_
    exact ret _ _ _ _ dX5_run_17 rfl hP hD hS

abbrev rmX5_output : Room := { frames := 1, cells := 0, slots := 0, locals := 21 }
set_option maxHeartbeats 4000000 in
set_option maxRecDepth 100000 in
theorem c_X5_output (l : Launch) (D : va_G) (cyI cyZ : ClassId) (a0 a1 a2 a3 a4 a5 a6 a7 a8 a9 a10 a11 a12 : Nat) (w_thrown : Int32) (w_size : Int32) (w_kinds : Nat → Int32) (w_as : Nat → Int32) (w_bs : Nat → Int32) (w_registers : Int32) (w_isMade : Int32) (w_steps : Int32) (w_stepParts : Nat → Int32) (w_pieces : Int32) (w_pieceParts : Nat → Int32) (w_slots : Int32) (w_areCounted : Nat → Int32) (w_registerOf : Nat → Int32) (w_slotOf : Nat → Int32) (w_pieceOf : Nat → Int32) (w_heldBy : Nat → Int32) (w_isSlotTaken : Nat → Int32) (w_outputs : Int32) (w_output : Nat → Int32) (p1 : Int32) (o : Int32 × Int32) (hf : f_X5_output p1 w_outputs w_output = some o) : kMi l yX5_output wsX5_output rmX5_output [.ref a0, .int p1] D (PX5 a0 a1 a2 a3 a4 a5 a6 a7 a8 a9 a10 a11 a12 cyI cyZ w_thrown w_size w_kinds w_as w_bs w_registers w_isMade w_steps w_stepParts w_pieces w_pieceParts w_slots w_areCounted w_registerOf w_slotOf w_pieceOf w_heldBy w_isSlotTaken w_outputs w_output) (PX5 a0 a1 a2 a3 a4 a5 a6 a7 a8 a9 a10 a11 a12 cyI cyZ o.2 w_size w_kinds w_as w_bs w_registers w_isMade w_steps w_stepParts w_pieces w_pieceParts w_slots w_areCounted w_registerOf w_slotOf w_pieceOf w_heldBy w_isSlotTaken w_outputs w_output) (kT cyI cyZ) o.1 0 0 := by
  refine kOf_i (cc := cX5_output) (maxL := 2) (ty := .int) (by decide +kernel) rfl (Nat.le_of_ble_eq_true rfl) ?_
  intro p e s m args below meth c A Z ls C0 hP hK hD hA hl ret
  obtain ⟨hx, hb, hr, hml, hown, hts, hlocks⟩ := C0
  have hown : s.vm.findClass RX5 = some m.cls := hown
  have hl : lv_has ls 2 [(0, .ref a0), (1, .int p1)] := hl
  have hS : va_S A s.heap s.heap [] := va_S.rf
  have i_X5 : ∀ w ∈ wsX50, w ∈ wsX5_output := by decide +kernel
  have k140 := hts (.fieldLink RX5 140 "RegisterAllocatorModel" "outputs" "I") (by decide +kernel)
  have k48 := hts (.fieldLink RX5 48 "RegisterAllocatorModel" "output" "[I") (by decide +kernel)
  have k51 := hts (.fieldLink RX5 51 "RegisterAllocatorModel" "thrown" "I") (by decide +kernel)
  rw [f_X5_output] at hf
  refine lv_aload_n hx hb dX5_output_0 rfl (lv_at hl 0 rfl) ?_
  refine lv_iconst (v := 0) hx hb dX5_output_1 (by decide) ?_
  refine va_put (D := D) (ci := 5) (v := .int 0) (ty := .int) (C := RX5) (T := TX5) (N := 20) hx hb hts i_X5 tyX5 tyX5_ok nmX5 hown hK hP hD hS 0 rfl rfl 0 (by decide) k51 (fun _ h9 => h9) rfl (by decide +kernel) rfl (by first | rfl | decide) (Nat.le_of_ble_eq_true rfl) dX5_output_2 (fun H locs hP hD hS => ?_)
  have hP : va_P D vwCl (PX5 a0 a1 a2 a3 a4 a5 a6 a7 a8 a9 a10 a11 a12 cyI cyZ 0 w_size w_kinds w_as w_bs w_registers w_isMade w_steps w_stepParts w_pieces w_pieceParts w_slots w_areCounted w_registerOf w_slotOf w_pieceOf w_heldBy w_isSlotTaken w_outputs w_output) H := hP
  have hD : va_D A (PX5 a0 a1 a2 a3 a4 a5 a6 a7 a8 a9 a10 a11 a12 cyI cyZ 0 w_size w_kinds w_as w_bs w_registers w_isMade w_steps w_stepParts w_pieces w_pieceParts w_slots w_areCounted w_registerOf w_slotOf w_pieceOf w_heldBy w_isSlotTaken w_outputs w_output) := hD
  refine lv_iload_n hx hb dX5_output_5 rfl (lv_at hl 1 rfl) ?_
  refine lv_if_lt (tgt := 26) hx hb dX5_output_6 (by decide) (fun c_6 => ?_) (fun c_6 => ?_)
  · have hf := kit c_6 hf
    refine lv_aload_n hx hb dX5_output_26 rfl (lv_at hl 0 rfl) ?_
    refine lv_iconst (v := 1) hx hb dX5_output_27 (by decide) ?_
    obtain ⟨⟨u28_0, u28_1⟩, hf28, hf⟩ := kbd hf
    try dsimp only at hf
    refine kc_Vi (As := [.int 1]) (rest := []) (wf := (PX5 a0 a1 a2 a3 a4 a5 a6 a7 a8 a9 a10 a11 a12 cyI cyZ u28_1 w_size w_kinds w_as w_bs w_registers w_isMade w_steps w_stepParts w_pieces w_pieceParts w_slots w_areCounted w_registerOf w_slotOf w_pieceOf w_heldBy w_isSlotTaken w_outputs w_output)) (c_X5_fail l D cyI cyZ a0 a1 a2 a3 a4 a5 a6 a7 a8 a9 a10 a11 a12 0 w_size w_kinds w_as w_bs w_registers w_isMade w_steps w_stepParts w_pieces w_pieceParts w_slots w_areCounted w_registerOf w_slotOf w_pieceOf w_heldBy w_isSlotTaken w_outputs w_output 1 (u28_0, u28_1) hf28) ⟨hx, hb, hml, hown, hts⟩ (cwV 1 hts gX5_output_X5_fail rfl rfl rfl (by decide +kernel) ⟨Nat.le_of_ble_eq_true rfl, Nat.le_of_ble_eq_true rfl⟩) hK hP hD hS hA [0, 1, 2, 3, 4, 5, 6, 7, 8, 9, 10, 11, 12] [] 13 rfl rfl kR0 rfl (by decide +kernel) rfl rfl rfl rfl hl.1 rfl (Nat.le_of_ble_eq_true rfl) dX5_output_28 ⟨Nat.le_of_ble_eq_true rfl, Nat.le_of_ble_eq_true rfl⟩ (fun H locs hP hD hS => ?_)
    obtain rfl := Option.some.inj hf
    exact ret _ _ _ _ dX5_output_31 rfl hP hD hS
  · have hf := kif c_6 hf
    refine lv_iload_n hx hb dX5_output_9 rfl (lv_at hl 1 rfl) ?_
    refine lv_aload_n hx hb dX5_output_10 rfl (lv_at hl 0 rfl) ?_
    refine va_get (D := D) (ci := 5) (v := .int w_outputs) (C := RX5) (T := TX5) (N := 20) hx hb hts i_X5 hown hK hP 0 rfl rfl 18 (by decide) k140 (fun _ h9 => h9) rfl dX5_output_11 ?_
    refine lv_icmp_ge (tgt := 26) hx hb dX5_output_14 (by decide) (fun c_14 => ?_) (fun c_14 => ?_)
    · have hf := kit c_14 hf
      refine lv_aload_n hx hb dX5_output_26 rfl (lv_at hl 0 rfl) ?_
      refine lv_iconst (v := 1) hx hb dX5_output_27 (by decide) ?_
      obtain ⟨⟨u28_0, u28_1⟩, hf28, hf⟩ := kbd hf
      try dsimp only at hf
      refine kc_Vi (As := [.int 1]) (rest := []) (wf := (PX5 a0 a1 a2 a3 a4 a5 a6 a7 a8 a9 a10 a11 a12 cyI cyZ u28_1 w_size w_kinds w_as w_bs w_registers w_isMade w_steps w_stepParts w_pieces w_pieceParts w_slots w_areCounted w_registerOf w_slotOf w_pieceOf w_heldBy w_isSlotTaken w_outputs w_output)) (c_X5_fail l D cyI cyZ a0 a1 a2 a3 a4 a5 a6 a7 a8 a9 a10 a11 a12 0 w_size w_kinds w_as w_bs w_registers w_isMade w_steps w_stepParts w_pieces w_pieceParts w_slots w_areCounted w_registerOf w_slotOf w_pieceOf w_heldBy w_isSlotTaken w_outputs w_output 1 (u28_0, u28_1) hf28) ⟨hx, hb, hml, hown, hts⟩ (cwV 1 hts gX5_output_X5_fail rfl rfl rfl (by decide +kernel) ⟨Nat.le_of_ble_eq_true rfl, Nat.le_of_ble_eq_true rfl⟩) hK hP hD hS hA [0, 1, 2, 3, 4, 5, 6, 7, 8, 9, 10, 11, 12] [] 13 rfl rfl kR0 rfl (by decide +kernel) rfl rfl rfl rfl hl.1 rfl (Nat.le_of_ble_eq_true rfl) dX5_output_28 ⟨Nat.le_of_ble_eq_true rfl, Nat.le_of_ble_eq_true rfl⟩ (fun H locs hP hD hS => ?_)
      obtain rfl := Option.some.inj hf
      exact ret _ _ _ _ dX5_output_31 rfl hP hD hS
    · have hf := kif c_14 hf
      refine lv_aload_n hx hb dX5_output_17 rfl (lv_at hl 0 rfl) ?_
      refine va_get (D := D) (ci := 5) (v := .ref a12) (C := RX5) (T := TX5) (N := 20) hx hb hts i_X5 hown hK hP 0 rfl rfl 19 (by decide) k48 (fun _ h9 => h9) rfl dX5_output_18 ?_
      refine lv_iload_n hx hb dX5_output_21 rfl (lv_at hl 1 rfl) ?_
      obtain ⟨h_22, hf⟩ := rdc_some hf
      refine va_iald hx hb hK hP 12 0 rfl rfl h_22 dX5_output_22 ?_
      refine lv_goto (tgt := 31) hx hb dX5_output_23 (by decide) ?_
      obtain rfl := Option.some.inj hf
      exact ret _ _ _ _ dX5_output_31 rfl hP hD hS

abbrev rmX5_digest : Room := { frames := 0, cells := 0, slots := 0, locals := 0 }
set_option maxHeartbeats 4000000 in
set_option maxRecDepth 100000 in
theorem c_X5_digest (l : Launch) (D : va_G) (cyI cyZ : ClassId) (a0 a1 a2 a3 a4 a5 a6 a7 a8 a9 a10 a11 a12 : Nat) (w_thrown : Int32) (w_size : Int32) (w_kinds : Nat → Int32) (w_as : Nat → Int32) (w_bs : Nat → Int32) (w_registers : Int32) (w_isMade : Int32) (w_steps : Int32) (w_stepParts : Nat → Int32) (w_pieces : Int32) (w_pieceParts : Nat → Int32) (w_slots : Int32) (w_areCounted : Nat → Int32) (w_registerOf : Nat → Int32) (w_slotOf : Nat → Int32) (w_pieceOf : Nat → Int32) (w_heldBy : Nat → Int32) (w_isSlotTaken : Nat → Int32) (w_outputs : Int32) (w_output : Nat → Int32) (o : Int64 × Int32) (hf : f_X5_digest w_size w_kinds w_registers w_isMade w_steps w_stepParts w_outputs w_output = some o) : kMl l yX5_digest wsX5_digest rmX5_digest [.ref a0] D (PX5 a0 a1 a2 a3 a4 a5 a6 a7 a8 a9 a10 a11 a12 cyI cyZ w_thrown w_size w_kinds w_as w_bs w_registers w_isMade w_steps w_stepParts w_pieces w_pieceParts w_slots w_areCounted w_registerOf w_slotOf w_pieceOf w_heldBy w_isSlotTaken w_outputs w_output) (PX5 a0 a1 a2 a3 a4 a5 a6 a7 a8 a9 a10 a11 a12 cyI cyZ o.2 w_size w_kinds w_as w_bs w_registers w_isMade w_steps w_stepParts w_pieces w_pieceParts w_slots w_areCounted w_registerOf w_slotOf w_pieceOf w_heldBy w_isSlotTaken w_outputs w_output) (kT cyI cyZ) o.1 0 0 := by
  refine kOf_l (cc := cX5_digest) (maxL := 4) (by decide +kernel) rfl (Nat.le_of_ble_eq_true rfl) ?_
  intro p e s m args below meth c A Z ls C0 hP hK hD hA hl ret
  obtain ⟨hx, hb, hr, hml, hown, hts, hlocks⟩ := C0
  have hown : s.vm.findClass RX5 = some m.cls := hown
  have hl : lv_has ls 4 [(0, .ref a0)] := hl
  have hS : va_S A s.heap s.heap [] := va_S.rf
  have i_X5 : ∀ w ∈ wsX50, w ∈ wsX5_digest := by decide +kernel
  have k140 := hts (.fieldLink RX5 140 "RegisterAllocatorModel" "outputs" "I") (by decide +kernel)
  have k19 := hts (.fieldLink RX5 19 "RegisterAllocatorModel" "registers" "I") (by decide +kernel)
  have k23 := hts (.fieldLink RX5 23 "RegisterAllocatorModel" "stepParts" "[I") (by decide +kernel)
  have k48 := hts (.fieldLink RX5 48 "RegisterAllocatorModel" "output" "[I") (by decide +kernel)
  have k51 := hts (.fieldLink RX5 51 "RegisterAllocatorModel" "thrown" "I") (by decide +kernel)
  have k54 := hts (.fieldLink RX5 54 "RegisterAllocatorModel" "size" "I") (by decide +kernel)
  have k61 := hts (.fieldLink RX5 61 "RegisterAllocatorModel" "isMade" "Z") (by decide +kernel)
  have k9 := hts (.fieldLink RX5 9 "RegisterAllocatorModel" "kinds" "[I") (by decide +kernel)
  have k92 := hts (.fieldLink RX5 92 "RegisterAllocatorModel" "steps" "I") (by decide +kernel)
  have kc143 := hts (.constantLong RX5 143 2573) (by decide +kernel)
  have kc145 := hts (.constantLong RX5 145 31) (by decide +kernel)
  have J106 : ∀ (x1_J106 : Int64) (w_thrown_J106 : Int32) (_ : f_X5_digest_J106 w_outputs w_output x1_J106 w_thrown_J106 = some o) (H : Heap) (locs : List Loc) (ls : Array Slot), va_P D vwCl (PX5 a0 a1 a2 a3 a4 a5 a6 a7 a8 a9 a10 a11 a12 cyI cyZ w_thrown_J106 w_size w_kinds w_as w_bs w_registers w_isMade w_steps w_stepParts w_pieces w_pieceParts w_slots w_areCounted w_registerOf w_slotOf w_pieceOf w_heldBy w_isSlotTaken w_outputs w_output) H → va_D A (PX5 a0 a1 a2 a3 a4 a5 a6 a7 a8 a9 a10 a11 a12 cyI cyZ w_thrown_J106 w_size w_kinds w_as w_bs w_registers w_isMade w_steps w_stepParts w_pieces w_pieceParts w_slots w_areCounted w_registerOf w_slotOf w_pieceOf w_heldBy w_isSlotTaken w_outputs w_output) → va_S A s.heap H locs → lv_has ls 4 [(1, .long x1_J106), (0, .ref a0)] → W p l e rmX5_digest s m args below meth c H locs 0 0 Z (F0 m 106 ls []) := by
    intro x1_J106 w_thrown_J106 hf H locs ls hP hD hS hl
    rw [f_X5_digest_J106] at hf
    refine lv_lload_n hx hb dX5_digest_106 rfl (lv_at hl 0 rfl) ?_
    refine lv_ldc2 hx hb hown kc145 dX5_digest_107 ?_
    refine lv_lmul hx hb dX5_digest_110 ?_
    refine lv_aload_n hx hb dX5_digest_111 rfl (lv_at hl 1 rfl) ?_
    refine va_get (D := D) (ci := 5) (v := .int w_outputs) (C := RX5) (T := TX5) (N := 20) hx hb hts i_X5 hown hK hP 0 rfl rfl 18 (by decide) k140 (fun _ h9 => h9) rfl dX5_digest_112 ?_
    refine lv_i2l hx hb dX5_digest_115 rfl ?_
    refine lv_ladd hx hb dX5_digest_116 ?_
    refine lv_lstore_n (lv' := [(1, .long ((x1_J106 * 31) + w_outputs.toInt64)), (0, .ref a0)]) hx hb dX5_digest_117 rfl hl (by decide) rfl (fun ls hl => ?_)
    refine lv_iconst (v := 0) hx hb dX5_digest_118 (by decide) ?_
    refine lv_istore_n (lv' := [(3, .int 0), (1, .long ((x1_J106 * 31) + w_outputs.toInt64)), (0, .ref a0)]) hx hb dX5_digest_119 rfl hl (by decide) rfl (fun ls hl => ?_)
    have L120 : ∀ (n : Nat) (x3_L120 : Int32) (x1_L120 : Int64) (o9 : Int64) (_ : f_X5_digest_L120 w_outputs w_output n x3_L120 x1_L120 = some o9) (H : Heap) (locs : List Loc) (ls : Array Slot), va_P D vwCl (PX5 a0 a1 a2 a3 a4 a5 a6 a7 a8 a9 a10 a11 a12 cyI cyZ w_thrown_J106 w_size w_kinds w_as w_bs w_registers w_isMade w_steps w_stepParts w_pieces w_pieceParts w_slots w_areCounted w_registerOf w_slotOf w_pieceOf w_heldBy w_isSlotTaken w_outputs w_output) H → va_D A (PX5 a0 a1 a2 a3 a4 a5 a6 a7 a8 a9 a10 a11 a12 cyI cyZ w_thrown_J106 w_size w_kinds w_as w_bs w_registers w_isMade w_steps w_stepParts w_pieces w_pieceParts w_slots w_areCounted w_registerOf w_slotOf w_pieceOf w_heldBy w_isSlotTaken w_outputs w_output) → va_S A s.heap H locs → lv_has ls 4 [(3, .int x3_L120), (1, .long x1_L120), (0, .ref a0)] → (∀ (H : Heap) (locs : List Loc) (ls : Array Slot), va_P D vwCl (PX5 a0 a1 a2 a3 a4 a5 a6 a7 a8 a9 a10 a11 a12 cyI cyZ w_thrown_J106 w_size w_kinds w_as w_bs w_registers w_isMade w_steps w_stepParts w_pieces w_pieceParts w_slots w_areCounted w_registerOf w_slotOf w_pieceOf w_heldBy w_isSlotTaken w_outputs w_output) H → va_D A (PX5 a0 a1 a2 a3 a4 a5 a6 a7 a8 a9 a10 a11 a12 cyI cyZ w_thrown_J106 w_size w_kinds w_as w_bs w_registers w_isMade w_steps w_stepParts w_pieces w_pieceParts w_slots w_areCounted w_registerOf w_slotOf w_pieceOf w_heldBy w_isSlotTaken w_outputs w_output) → va_S A s.heap H locs → lv_has ls 4 [(1, .long o9)] → W p l e rmX5_digest s m args below meth c H locs 0 0 Z (F0 m 148 ls [])) → W p l e rmX5_digest s m args below meth c H locs 0 0 Z (F0 m 120 ls []) := by
      intro n
      induction n with
      | zero =>
        intro x3_L120 x1_L120 o9 hf
        rw [f_X5_digest_L120] at hf
        cases hf
      | succ n ih =>
        intro x3_L120 x1_L120 o9 hf H locs ls hP hD hS hl kx
        rw [f_X5_digest_L120] at hf
        refine lv_iload_n hx hb dX5_digest_120 rfl (lv_at hl 0 rfl) ?_
        refine lv_aload_n hx hb dX5_digest_121 rfl (lv_at hl 2 rfl) ?_
        refine va_get (D := D) (ci := 5) (v := .int w_outputs) (C := RX5) (T := TX5) (N := 20) hx hb hts i_X5 hown hK hP 0 rfl rfl 18 (by decide) k140 (fun _ h9 => h9) rfl dX5_digest_122 ?_
        refine lv_icmp_ge (tgt := 148) hx hb dX5_digest_125 (by decide) (fun c_125 => ?_) (fun c_125 => ?_)
        · have hf := kit c_125 hf
          obtain rfl := Option.some.inj hf
          exact kx _ _ _ hP hD hS (lv_sub hl [1] rfl)
        · have hf := kif c_125 hf
          refine lv_lload_n hx hb dX5_digest_128 rfl (lv_at hl 1 rfl) ?_
          refine lv_ldc2 hx hb hown kc145 dX5_digest_129 ?_
          refine lv_lmul hx hb dX5_digest_132 ?_
          refine lv_aload_n hx hb dX5_digest_133 rfl (lv_at hl 2 rfl) ?_
          refine va_get (D := D) (ci := 5) (v := .ref a12) (C := RX5) (T := TX5) (N := 20) hx hb hts i_X5 hown hK hP 0 rfl rfl 19 (by decide) k48 (fun _ h9 => h9) rfl dX5_digest_134 ?_
          refine lv_iload_n hx hb dX5_digest_137 rfl (lv_at hl 0 rfl) ?_
          obtain ⟨h_138, hf⟩ := rdc_some hf
          refine va_iald hx hb hK hP 12 0 rfl rfl h_138 dX5_digest_138 ?_
          refine lv_i2l hx hb dX5_digest_139 rfl ?_
          refine lv_ladd hx hb dX5_digest_140 ?_
          refine lv_lstore_n (lv' := [(1, .long ((x1_L120 * 31) + ((w_output x3_L120.toNatClampNeg).toInt64))), (3, .int x3_L120), (0, .ref a0)]) hx hb dX5_digest_141 rfl hl (by decide) rfl (fun ls hl => ?_)
          refine lv_iinc (v := (x3_L120 + 1)) (lv' := [(3, .int (x3_L120 + 1)), (1, .long ((x1_L120 * 31) + ((w_output x3_L120.toNatClampNeg).toInt64))), (0, .ref a0)]) hx hb dX5_digest_142 hl (k := 1) rfl rfl (by decide) rfl (fun ls hl => ?_)
          refine lv_goto (tgt := 120) hx hb dX5_digest_145 (by decide) ?_
          exact ih (x3_L120 + 1) ((x1_L120 * 31) + ((w_output x3_L120.toNatClampNeg).toInt64)) _ hf _ _ _ hP hD hS (lv_sub hl [0, 1, 2] rfl) kx
    obtain ⟨v120, hf120, hf⟩ := kbd hf
    refine L120 4000 0 ((x1_J106 * 31) + w_outputs.toInt64) v120 hf120 _ _ _ hP hD hS (lv_sub hl [0, 1, 2] rfl) (fun H locs ls hP hD hS hl => ?_)
    refine lv_lload_n hx hb dX5_digest_148 rfl (lv_at hl 0 rfl) ?_
    obtain rfl := Option.some.inj hf
    exact ret _ _ _ _ dX5_digest_149 hP hD hS
  rw [f_X5_digest] at hf
  refine lv_aload_n hx hb dX5_digest_0 rfl (lv_at hl 0 rfl) ?_
  refine lv_iconst (v := 0) hx hb dX5_digest_1 (by decide) ?_
  refine va_put (D := D) (ci := 5) (v := .int 0) (ty := .int) (C := RX5) (T := TX5) (N := 20) hx hb hts i_X5 tyX5 tyX5_ok nmX5 hown hK hP hD hS 0 rfl rfl 0 (by decide) k51 (fun _ h9 => h9) rfl (by decide +kernel) rfl (by first | rfl | decide) (Nat.le_of_ble_eq_true rfl) dX5_digest_2 (fun H locs hP hD hS => ?_)
  have hP : va_P D vwCl (PX5 a0 a1 a2 a3 a4 a5 a6 a7 a8 a9 a10 a11 a12 cyI cyZ 0 w_size w_kinds w_as w_bs w_registers w_isMade w_steps w_stepParts w_pieces w_pieceParts w_slots w_areCounted w_registerOf w_slotOf w_pieceOf w_heldBy w_isSlotTaken w_outputs w_output) H := hP
  have hD : va_D A (PX5 a0 a1 a2 a3 a4 a5 a6 a7 a8 a9 a10 a11 a12 cyI cyZ 0 w_size w_kinds w_as w_bs w_registers w_isMade w_steps w_stepParts w_pieces w_pieceParts w_slots w_areCounted w_registerOf w_slotOf w_pieceOf w_heldBy w_isSlotTaken w_outputs w_output) := hD
  refine lv_ldc2 hx hb hown kc143 dX5_digest_5 ?_
  refine lv_aload_n hx hb dX5_digest_8 rfl (lv_at hl 0 rfl) ?_
  refine va_get (D := D) (ci := 5) (v := .int w_registers) (C := RX5) (T := TX5) (N := 20) hx hb hts i_X5 hown hK hP 0 rfl rfl 5 (by decide) k19 (fun _ h9 => h9) rfl dX5_digest_9 ?_
  refine lv_i2l hx hb dX5_digest_12 rfl ?_
  refine lv_ladd hx hb dX5_digest_13 ?_
  refine lv_ldc2 hx hb hown kc145 dX5_digest_14 ?_
  refine lv_lmul hx hb dX5_digest_17 ?_
  refine lv_aload_n hx hb dX5_digest_18 rfl (lv_at hl 0 rfl) ?_
  refine va_get (D := D) (ci := 5) (v := .int w_size) (C := RX5) (T := TX5) (N := 20) hx hb hts i_X5 hown hK hP 0 rfl rfl 1 (by decide) k54 (fun _ h9 => h9) rfl dX5_digest_19 ?_
  refine lv_i2l hx hb dX5_digest_22 rfl ?_
  refine lv_ladd hx hb dX5_digest_23 ?_
  refine lv_lstore_n (lv' := [(1, .long (((2573 + w_registers.toInt64) * 31) + w_size.toInt64)), (0, .ref a0)]) hx hb dX5_digest_24 rfl hl (by decide) rfl (fun ls hl => ?_)
  refine lv_iconst (v := 0) hx hb dX5_digest_25 (by decide) ?_
  refine lv_istore_n (lv' := [(3, .int 0), (1, .long (((2573 + w_registers.toInt64) * 31) + w_size.toInt64)), (0, .ref a0)]) hx hb dX5_digest_26 rfl hl (by decide) rfl (fun ls hl => ?_)
  have L27 : ∀ (n : Nat) (x3_L27 : Int32) (x1_L27 : Int64) (o9 : Int64) (_ : f_X5_digest_L27 w_size w_kinds n x3_L27 x1_L27 = some o9) (H : Heap) (locs : List Loc) (ls : Array Slot), va_P D vwCl (PX5 a0 a1 a2 a3 a4 a5 a6 a7 a8 a9 a10 a11 a12 cyI cyZ 0 w_size w_kinds w_as w_bs w_registers w_isMade w_steps w_stepParts w_pieces w_pieceParts w_slots w_areCounted w_registerOf w_slotOf w_pieceOf w_heldBy w_isSlotTaken w_outputs w_output) H → va_D A (PX5 a0 a1 a2 a3 a4 a5 a6 a7 a8 a9 a10 a11 a12 cyI cyZ 0 w_size w_kinds w_as w_bs w_registers w_isMade w_steps w_stepParts w_pieces w_pieceParts w_slots w_areCounted w_registerOf w_slotOf w_pieceOf w_heldBy w_isSlotTaken w_outputs w_output) → va_S A s.heap H locs → lv_has ls 4 [(3, .int x3_L27), (1, .long x1_L27), (0, .ref a0)] → (∀ (H : Heap) (locs : List Loc) (ls : Array Slot), va_P D vwCl (PX5 a0 a1 a2 a3 a4 a5 a6 a7 a8 a9 a10 a11 a12 cyI cyZ 0 w_size w_kinds w_as w_bs w_registers w_isMade w_steps w_stepParts w_pieces w_pieceParts w_slots w_areCounted w_registerOf w_slotOf w_pieceOf w_heldBy w_isSlotTaken w_outputs w_output) H → va_D A (PX5 a0 a1 a2 a3 a4 a5 a6 a7 a8 a9 a10 a11 a12 cyI cyZ 0 w_size w_kinds w_as w_bs w_registers w_isMade w_steps w_stepParts w_pieces w_pieceParts w_slots w_areCounted w_registerOf w_slotOf w_pieceOf w_heldBy w_isSlotTaken w_outputs w_output) → va_S A s.heap H locs → lv_has ls 4 [(1, .long o9), (0, .ref a0)] → W p l e rmX5_digest s m args below meth c H locs 0 0 Z (F0 m 55 ls [])) → W p l e rmX5_digest s m args below meth c H locs 0 0 Z (F0 m 27 ls []) := by
    intro n
    induction n with
    | zero =>
      intro x3_L27 x1_L27 o9 hf
      rw [f_X5_digest_L27] at hf
      cases hf
    | succ n ih =>
      intro x3_L27 x1_L27 o9 hf H locs ls hP hD hS hl kx
      rw [f_X5_digest_L27] at hf
      refine lv_iload_n hx hb dX5_digest_27 rfl (lv_at hl 0 rfl) ?_
      refine lv_aload_n hx hb dX5_digest_28 rfl (lv_at hl 2 rfl) ?_
      refine va_get (D := D) (ci := 5) (v := .int w_size) (C := RX5) (T := TX5) (N := 20) hx hb hts i_X5 hown hK hP 0 rfl rfl 1 (by decide) k54 (fun _ h9 => h9) rfl dX5_digest_29 ?_
      refine lv_icmp_ge (tgt := 55) hx hb dX5_digest_32 (by decide) (fun c_32 => ?_) (fun c_32 => ?_)
      · have hf := kit c_32 hf
        obtain rfl := Option.some.inj hf
        exact kx _ _ _ hP hD hS (lv_sub hl [1, 2] rfl)
      · have hf := kif c_32 hf
        refine lv_lload_n hx hb dX5_digest_35 rfl (lv_at hl 1 rfl) ?_
        refine lv_ldc2 hx hb hown kc145 dX5_digest_36 ?_
        refine lv_lmul hx hb dX5_digest_39 ?_
        refine lv_aload_n hx hb dX5_digest_40 rfl (lv_at hl 2 rfl) ?_
        refine va_get (D := D) (ci := 5) (v := .ref a1) (C := RX5) (T := TX5) (N := 20) hx hb hts i_X5 hown hK hP 0 rfl rfl 2 (by decide) k9 (fun _ h9 => h9) rfl dX5_digest_41 ?_
        refine lv_iload_n hx hb dX5_digest_44 rfl (lv_at hl 0 rfl) ?_
        obtain ⟨h_45, hf⟩ := rdc_some hf
        refine va_iald hx hb hK hP 1 0 rfl rfl h_45 dX5_digest_45 ?_
        refine lv_i2l hx hb dX5_digest_46 rfl ?_
        refine lv_ladd hx hb dX5_digest_47 ?_
        refine lv_lstore_n (lv' := [(1, .long ((x1_L27 * 31) + ((w_kinds x3_L27.toNatClampNeg).toInt64))), (3, .int x3_L27), (0, .ref a0)]) hx hb dX5_digest_48 rfl hl (by decide) rfl (fun ls hl => ?_)
        refine lv_iinc (v := (x3_L27 + 1)) (lv' := [(3, .int (x3_L27 + 1)), (1, .long ((x1_L27 * 31) + ((w_kinds x3_L27.toNatClampNeg).toInt64))), (0, .ref a0)]) hx hb dX5_digest_49 hl (k := 1) rfl rfl (by decide) rfl (fun ls hl => ?_)
        refine lv_goto (tgt := 27) hx hb dX5_digest_52 (by decide) ?_
        exact ih (x3_L27 + 1) ((x1_L27 * 31) + ((w_kinds x3_L27.toNatClampNeg).toInt64)) _ hf _ _ _ hP hD hS (lv_sub hl [0, 1, 2] rfl) kx
  obtain ⟨v27, hf27, hf⟩ := kbd hf
  refine L27 4000 0 (((2573 + w_registers.toInt64) * 31) + w_size.toInt64) v27 hf27 _ _ _ hP hD hS (lv_sub hl [0, 1, 2] rfl) (fun H locs ls hP hD hS hl => ?_)
  refine lv_aload_n hx hb dX5_digest_55 rfl (lv_at hl 1 rfl) ?_
  refine va_get (D := D) (ci := 5) (v := .int w_isMade) (C := RX5) (T := TX5) (N := 20) hx hb hts i_X5 hown hK hP 0 rfl rfl 6 (by decide) k61 (fun _ h9 => h9) rfl dX5_digest_56 ?_
  refine lv_if_eq (tgt := 106) hx hb dX5_digest_59 (by decide) (fun c_59 => ?_) (fun c_59 => ?_)
  · have hf := kit c_59 hf
    exact J106 v27 0 hf _ _ _ hP hD hS (lv_sub hl [0, 1] rfl)
  · have hf := kif c_59 hf
    refine lv_lload_n hx hb dX5_digest_62 rfl (lv_at hl 0 rfl) ?_
    refine lv_ldc2 hx hb hown kc145 dX5_digest_63 ?_
    refine lv_lmul hx hb dX5_digest_66 ?_
    refine lv_aload_n hx hb dX5_digest_67 rfl (lv_at hl 1 rfl) ?_
    refine va_get (D := D) (ci := 5) (v := .int w_steps) (C := RX5) (T := TX5) (N := 20) hx hb hts i_X5 hown hK hP 0 rfl rfl 7 (by decide) k92 (fun _ h9 => h9) rfl dX5_digest_68 ?_
    refine lv_i2l hx hb dX5_digest_71 rfl ?_
    refine lv_ladd hx hb dX5_digest_72 ?_
    refine lv_lstore_n (lv' := [(1, .long ((v27 * 31) + w_steps.toInt64)), (0, .ref a0)]) hx hb dX5_digest_73 rfl hl (by decide) rfl (fun ls hl => ?_)
    refine lv_iconst (v := 0) hx hb dX5_digest_74 (by decide) ?_
    refine lv_istore_n (lv' := [(3, .int 0), (1, .long ((v27 * 31) + w_steps.toInt64)), (0, .ref a0)]) hx hb dX5_digest_75 rfl hl (by decide) rfl (fun ls hl => ?_)
    have L76 : ∀ (n : Nat) (x3_L76 : Int32) (x1_L76 : Int64) (o9 : Int64) (_ : f_X5_digest_L76 w_steps w_stepParts n x3_L76 x1_L76 = some o9) (H : Heap) (locs : List Loc) (ls : Array Slot), va_P D vwCl (PX5 a0 a1 a2 a3 a4 a5 a6 a7 a8 a9 a10 a11 a12 cyI cyZ 0 w_size w_kinds w_as w_bs w_registers w_isMade w_steps w_stepParts w_pieces w_pieceParts w_slots w_areCounted w_registerOf w_slotOf w_pieceOf w_heldBy w_isSlotTaken w_outputs w_output) H → va_D A (PX5 a0 a1 a2 a3 a4 a5 a6 a7 a8 a9 a10 a11 a12 cyI cyZ 0 w_size w_kinds w_as w_bs w_registers w_isMade w_steps w_stepParts w_pieces w_pieceParts w_slots w_areCounted w_registerOf w_slotOf w_pieceOf w_heldBy w_isSlotTaken w_outputs w_output) → va_S A s.heap H locs → lv_has ls 4 [(3, .int x3_L76), (1, .long x1_L76), (0, .ref a0)] → (∀ (H : Heap) (locs : List Loc) (ls : Array Slot), va_P D vwCl (PX5 a0 a1 a2 a3 a4 a5 a6 a7 a8 a9 a10 a11 a12 cyI cyZ 0 w_size w_kinds w_as w_bs w_registers w_isMade w_steps w_stepParts w_pieces w_pieceParts w_slots w_areCounted w_registerOf w_slotOf w_pieceOf w_heldBy w_isSlotTaken w_outputs w_output) H → va_D A (PX5 a0 a1 a2 a3 a4 a5 a6 a7 a8 a9 a10 a11 a12 cyI cyZ 0 w_size w_kinds w_as w_bs w_registers w_isMade w_steps w_stepParts w_pieces w_pieceParts w_slots w_areCounted w_registerOf w_slotOf w_pieceOf w_heldBy w_isSlotTaken w_outputs w_output) → va_S A s.heap H locs → lv_has ls 4 [(1, .long o9), (0, .ref a0)] → W p l e rmX5_digest s m args below meth c H locs 0 0 Z (F0 m 106 ls [])) → W p l e rmX5_digest s m args below meth c H locs 0 0 Z (F0 m 76 ls []) := by
      intro n
      induction n with
      | zero =>
        intro x3_L76 x1_L76 o9 hf
        rw [f_X5_digest_L76] at hf
        cases hf
      | succ n ih =>
        intro x3_L76 x1_L76 o9 hf H locs ls hP hD hS hl kx
        rw [f_X5_digest_L76] at hf
        refine lv_iload_n hx hb dX5_digest_76 rfl (lv_at hl 0 rfl) ?_
        refine lv_iconst (v := 4) hx hb dX5_digest_77 (by decide) ?_
        refine lv_aload_n hx hb dX5_digest_78 rfl (lv_at hl 2 rfl) ?_
        refine va_get (D := D) (ci := 5) (v := .int w_steps) (C := RX5) (T := TX5) (N := 20) hx hb hts i_X5 hown hK hP 0 rfl rfl 7 (by decide) k92 (fun _ h9 => h9) rfl dX5_digest_79 ?_
        refine lv_imul hx hb dX5_digest_82 ?_
        refine lv_icmp_ge (tgt := 106) hx hb dX5_digest_83 (by decide) (fun c_83 => ?_) (fun c_83 => ?_)
        · have hf := kit c_83 hf
          obtain rfl := Option.some.inj hf
          exact kx _ _ _ hP hD hS (lv_sub hl [1, 2] rfl)
        · have hf := kif c_83 hf
          refine lv_lload_n hx hb dX5_digest_86 rfl (lv_at hl 1 rfl) ?_
          refine lv_ldc2 hx hb hown kc145 dX5_digest_87 ?_
          refine lv_lmul hx hb dX5_digest_90 ?_
          refine lv_aload_n hx hb dX5_digest_91 rfl (lv_at hl 2 rfl) ?_
          refine va_get (D := D) (ci := 5) (v := .ref a4) (C := RX5) (T := TX5) (N := 20) hx hb hts i_X5 hown hK hP 0 rfl rfl 8 (by decide) k23 (fun _ h9 => h9) rfl dX5_digest_92 ?_
          refine lv_iload_n hx hb dX5_digest_95 rfl (lv_at hl 0 rfl) ?_
          obtain ⟨h_96, hf⟩ := rdc_some hf
          refine va_iald hx hb hK hP 4 0 rfl rfl h_96 dX5_digest_96 ?_
          refine lv_i2l hx hb dX5_digest_97 rfl ?_
          refine lv_ladd hx hb dX5_digest_98 ?_
          refine lv_lstore_n (lv' := [(1, .long ((x1_L76 * 31) + ((w_stepParts x3_L76.toNatClampNeg).toInt64))), (3, .int x3_L76), (0, .ref a0)]) hx hb dX5_digest_99 rfl hl (by decide) rfl (fun ls hl => ?_)
          refine lv_iinc (v := (x3_L76 + 1)) (lv' := [(3, .int (x3_L76 + 1)), (1, .long ((x1_L76 * 31) + ((w_stepParts x3_L76.toNatClampNeg).toInt64))), (0, .ref a0)]) hx hb dX5_digest_100 hl (k := 1) rfl rfl (by decide) rfl (fun ls hl => ?_)
          refine lv_goto (tgt := 76) hx hb dX5_digest_103 (by decide) ?_
          exact ih (x3_L76 + 1) ((x1_L76 * 31) + ((w_stepParts x3_L76.toNatClampNeg).toInt64)) _ hf _ _ _ hP hD hS (lv_sub hl [0, 1, 2] rfl) kx
    obtain ⟨v76, hf76, hf⟩ := kbd hf
    refine L76 4000 0 ((v27 * 31) + w_steps.toInt64) v76 hf76 _ _ _ hP hD hS (lv_sub hl [0, 1, 2] rfl) (fun H locs ls hP hD hS hl => ?_)
    exact J106 v76 0 hf _ _ _ hP hD hS (lv_sub hl [0, 1] rfl)
