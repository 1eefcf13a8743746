abbrev rmX0_steps : Room := { frames := 0, cells := 0, slots := 0, locals := 0 }
set_option maxHeartbeats 4000000 in
set_option maxRecDepth 100000 in
theorem c_X0_steps (l : Launch) (D : va_G) (cyI cyZ : ClassId) (a0 a1 a2 a3 a4 a5 a6 a7 a8 a9 a10 a11 a12 a13 a14 a15 a16 : Nat) (w_code_kinds : Nat → Int32) (w_code_firsts : Nat → Int32) (w_code_seconds : Nat → Int32) (w_code_ints : Nat → Int32) (w_code_counting : Nat → Int32) (w_code_length : Int32) (w_steps_numbers : Nat → Int32) (w_steps_length : Int32) (w_pieces_numbers : Nat → Int32) (w_pieces_length : Int32) (w_valueIn : Nat → Int32) (w_registerOf : Nat → Int32) (w_slotOf : Nat → Int32) (w_pieceOf : Nat → Int32) (w_upcoming : Nat → Int32) (w_slotTaken : Nat → Int32) (w_registers : Int32) (w_slotCount : Int32) : kMr l yX0_steps wsX0_steps rmX0_steps [.ref a0] D (PX0 a0 a1 a2 a3 a4 a5 a6 a7 a8 a9 a10 a11 a12 a13 a14 a15 a16 cyI cyZ w_code_kinds w_code_firsts w_code_seconds w_code_ints w_code_counting w_code_length w_steps_numbers w_steps_length w_pieces_numbers w_pieces_length w_valueIn w_registerOf w_slotOf w_pieceOf w_upcoming w_slotTaken w_registers w_slotCount) (PX0 a0 a1 a2 a3 a4 a5 a6 a7 a8 a9 a10 a11 a12 a13 a14 a15 a16 cyI cyZ w_code_kinds w_code_firsts w_code_seconds w_code_ints w_code_counting w_code_length w_steps_numbers w_steps_length w_pieces_numbers w_pieces_length w_valueIn w_registerOf w_slotOf w_pieceOf w_upcoming w_slotTaken w_registers w_slotCount) (kT cyI cyZ) a7 0 0 := by
  refine kOf_r (cc := cX0_steps) (maxL := 1) (C := "RegisterAllocator$Rows") (by decide +kernel) rfl (Nat.le_of_ble_eq_true rfl) ?_
  intro p e s m args below meth c A Z ls C0 hP hK hD hA hl ret
  obtain ⟨hx, hb, hr, hml, hown, hts, hlocks⟩ := C0
  have hown : s.vm.findClass RX0 = some m.cls := hown
  have hl : lv_has ls 1 [(0, .ref a0)] := hl
  have hS : va_S A s.heap s.heap [] := va_S.rf
  have i_X0 : ∀ w ∈ wsX00, w ∈ wsX0_steps := by decide +kernel
  have k20 := hts (.fieldLink RX0 20 "RegisterAllocator$Allocation" "steps" "LRegisterAllocator$Rows;") (by decide +kernel)
  refine lv_aload_n hx hb dX0_steps_0 rfl (lv_at hl 0 rfl) ?_
  refine va_get (D := D) (ci := 0) (v := .ref a7) (C := RX0) (T := TX0) (N := 11) hx hb hts i_X0 hown hK hP 0 rfl rfl 1 (by decide) k20 (fun _ h9 => h9) rfl dX0_steps_1 ?_
  exact ret _ _ _ _ dX0_steps_4 hP hD hS

abbrev rmX0_pieces : Room := { frames := 0, cells := 0, slots := 0, locals := 0 }
set_option maxHeartbeats 4000000 in
set_option maxRecDepth 100000 in
theorem c_X0_pieces (l : Launch) (D : va_G) (cyI cyZ : ClassId) (a0 a1 a2 a3 a4 a5 a6 a7 a8 a9 a10 a11 a12 a13 a14 a15 a16 : Nat) (w_code_kinds : Nat → Int32) (w_code_firsts : Nat → Int32) (w_code_seconds : Nat → Int32) (w_code_ints : Nat → Int32) (w_code_counting : Nat → Int32) (w_code_length : Int32) (w_steps_numbers : Nat → Int32) (w_steps_length : Int32) (w_pieces_numbers : Nat → Int32) (w_pieces_length : Int32) (w_valueIn : Nat → Int32) (w_registerOf : Nat → Int32) (w_slotOf : Nat → Int32) (w_pieceOf : Nat → Int32) (w_upcoming : Nat → Int32) (w_slotTaken : Nat → Int32) (w_registers : Int32) (w_slotCount : Int32) : kMr l yX0_pieces wsX0_pieces rmX0_pieces [.ref a0] D (PX0 a0 a1 a2 a3 a4 a5 a6 a7 a8 a9 a10 a11 a12 a13 a14 a15 a16 cyI cyZ w_code_kinds w_code_firsts w_code_seconds w_code_ints w_code_counting w_code_length w_steps_numbers w_steps_length w_pieces_numbers w_pieces_length w_valueIn w_registerOf w_slotOf w_pieceOf w_upcoming w_slotTaken w_registers w_slotCount) (PX0 a0 a1 a2 a3 a4 a5 a6 a7 a8 a9 a10 a11 a12 a13 a14 a15 a16 cyI cyZ w_code_kinds w_code_firsts w_code_seconds w_code_ints w_code_counting w_code_length w_steps_numbers w_steps_length w_pieces_numbers w_pieces_length w_valueIn w_registerOf w_slotOf w_pieceOf w_upcoming w_slotTaken w_registers w_slotCount) (kT cyI cyZ) a9 0 0 := by
  refine kOf_r (cc := cX0_pieces) (maxL := 1) (C := "RegisterAllocator$Rows") (by decide +kernel) rfl (Nat.le_of_ble_eq_true rfl) ?_
  intro p e s m args below meth c A Z ls C0 hP hK hD hA hl ret
  obtain ⟨hx, hb, hr, hml, hown, hts, hlocks⟩ := C0
  have hown : s.vm.findClass RX0 = some m.cls := hown
  have hl : lv_has ls 1 [(0, .ref a0)] := hl
  have hS : va_S A s.heap s.heap [] := va_S.rf
  have i_X0 : ∀ w ∈ wsX00, w ∈ wsX0_pieces := by decide +kernel
  have k24 := hts (.fieldLink RX0 24 "RegisterAllocator$Allocation" "pieces" "LRegisterAllocator$Rows;") (by decide +kernel)
  refine lv_aload_n hx hb dX0_pieces_0 rfl (lv_at hl 0 rfl) ?_
  refine va_get (D := D) (ci := 0) (v := .ref a9) (C := RX0) (T := TX0) (N := 11) hx hb hts i_X0 hown hK hP 0 rfl rfl 2 (by decide) k24 (fun _ h9 => h9) rfl dX0_pieces_1 ?_
  exact ret _ _ _ _ dX0_pieces_4 hP hD hS

abbrev rmX0_slotCount : Room := { frames := 0, cells := 0, slots := 0, locals := 0 }
set_option maxHeartbeats 4000000 in
set_option maxRecDepth 100000 in
theorem c_X0_slotCount (l : Launch) (D : va_G) (cyI cyZ : ClassId) (a0 a1 a2 a3 a4 a5 a6 a7 a8 a9 a10 a11 a12 a13 a14 a15 a16 : Nat) (w_code_kinds : Nat → Int32) (w_code_firsts : Nat → Int32) (w_code_seconds : Nat → Int32) (w_code_ints : Nat → Int32) (w_code_counting : Nat → Int32) (w_code_length : Int32) (w_steps_numbers : Nat → Int32) (w_steps_length : Int32) (w_pieces_numbers : Nat → Int32) (w_pieces_length : Int32) (w_valueIn : Nat → Int32) (w_registerOf : Nat → Int32) (w_slotOf : Nat → Int32) (w_pieceOf : Nat → Int32) (w_upcoming : Nat → Int32) (w_slotTaken : Nat → Int32) (w_registers : Int32) (w_slotCount : Int32) (o : Int32) (hf : f_X0_slotCount w_slotCount = some o) : kMi l yX0_slotCount wsX0_slotCount rmX0_slotCount [.ref a0] D (PX0 a0 a1 a2 a3 a4 a5 a6 a7 a8 a9 a10 a11 a12 a13 a14 a15 a16 cyI cyZ w_code_kinds w_code_firsts w_code_seconds w_code_ints w_code_counting w_code_length w_steps_numbers w_steps_length w_pieces_numbers w_pieces_length w_valueIn w_registerOf w_slotOf w_pieceOf w_upcoming w_slotTaken w_registers w_slotCount) (PX0 a0 a1 a2 a3 a4 a5 a6 a7 a8 a9 a10 a11 a12 a13 a14 a15 a16 cyI cyZ w_code_kinds w_code_firsts w_code_seconds w_code_ints w_code_counting w_code_length w_steps_numbers w_steps_length w_pieces_numbers w_pieces_length w_valueIn w_registerOf w_slotOf w_pieceOf w_upcoming w_slotTaken w_registers w_slotCount) (kT cyI cyZ) o 0 0 := by
  refine kOf_i (cc := cX0_slotCount) (maxL := 1) (ty := .int) (by decide +kernel) rfl (Nat.le_of_ble_eq_true rfl) ?_
  intro p e s m args below meth c A Z ls C0 hP hK hD hA hl ret
  obtain ⟨hx, hb, hr, hml, hown, hts, hlocks⟩ := C0
  have hown : s.vm.findClass RX0 = some m.cls := hown
  have hl : lv_has ls 1 [(0, .ref a0)] := hl
  have hS : va_S A s.heap s.heap [] := va_S.rf
  have i_X0 : ∀ w ∈ wsX00, w ∈ wsX0_slotCount := by decide +kernel
  have k51 := hts (.fieldLink RX0 51 "RegisterAllocator$Allocation" "slotCount" "I") (by decide +kernel)
  rw [f_X0_slotCount] at hf
  refine lv_aload_n hx hb dX0_slotCount_0 rfl (lv_at hl 0 rfl) ?_
  refine va_get (D := D) (ci := 0) (v := .int w_slotCount) (C := RX0) (T := TX0) (N := 11) hx hb hts i_X0 hown hK hP 0 rfl rfl 10 (by decide) k51 (fun _ h9 => h9) rfl dX0_slotCount_1 ?_
  obtain rfl := Option.some.inj hf
  exact ret _ _ _ _ dX0_slotCount_4 rfl hP hD hS

abbrev rmX0_clear : Room := { frames := 2, cells := 0, slots := 0, locals := 44 }
set_option maxHeartbeats 4000000 in
set_option maxRecDepth 100000 in
theorem c_X0_clear (l : Launch) (D : va_G) (cyI cyZ : ClassId) (a0 a1 a2 a3 a4 a5 a6 a7 a8 a9 a10 a11 a12 a13 a14 a15 a16 : Nat) (w_code_kinds : Nat → Int32) (w_code_firsts : Nat → Int32) (w_code_seconds : Nat → Int32) (w_code_ints : Nat → Int32) (w_code_counting : Nat → Int32) (w_code_length : Int32) (w_steps_numbers : Nat → Int32) (w_steps_length : Int32) (w_pieces_numbers : Nat → Int32) (w_pieces_length : Int32) (w_valueIn : Nat → Int32) (w_registerOf : Nat → Int32) (w_slotOf : Nat → Int32) (w_pieceOf : Nat → Int32) (w_upcoming : Nat → Int32) (w_slotTaken : Nat → Int32) (w_registers : Int32) (w_slotCount : Int32) (p1 : Int32) (o : Int32 × Int32 × (Nat → Int32) × (Nat → Int32) × (Nat → Int32) × (Nat → Int32) × (Nat → Int32) × (Nat → Int32) × Int32 × Int32) (hf : f_X0_clear p1 w_code_firsts w_code_seconds w_code_counting w_code_length w_valueIn w_registerOf w_slotOf w_pieceOf w_upcoming w_slotTaken = some o) : kMv l yX0_clear wsX0_clear rmX0_clear [.ref a0, .int p1] D (PX0 a0 a1 a2 a3 a4 a5 a6 a7 a8 a9 a10 a11 a12 a13 a14 a15 a16 cyI cyZ w_code_kinds w_code_firsts w_code_seconds w_code_ints w_code_counting w_code_length w_steps_numbers w_steps_length w_pieces_numbers w_pieces_length w_valueIn w_registerOf w_slotOf w_pieceOf w_upcoming w_slotTaken w_registers w_slotCount) (PX0 a0 a1 a2 a3 a4 a5 a6 a7 a8 a9 a10 a11 a12 a13 a14 a15 a16 cyI cyZ w_code_kinds w_code_firsts w_code_seconds w_code_ints w_code_counting w_code_length w_steps_numbers o.1 w_pieces_numbers o.2.1 o.2.2.1 o.2.2.2.1 o.2.2.2.2.1 o.2.2.2.2.2.1 o.2.2.2.2.2.2.1 o.2.2.2.2.2.2.2.1 o.2.2.2.2.2.2.2.2.1 o.2.2.2.2.2.2.2.2.2) (kT cyI cyZ) 0 0 := by
  refine kOf_v (cc := cX0_clear) (maxL := 3) (by decide +kernel) rfl (Nat.le_of_ble_eq_true rfl) ?_
  intro p e s m args below meth c A Z ls C0 hP hK hD hA hl ret
  obtain ⟨hx, hb, hr, hml, hown, hts, hlocks⟩ := C0
  have hown : s.vm.findClass RX0 = some m.cls := hown
  have hl : lv_has ls 3 [(0, .ref a0), (1, .int p1)] := hl
  have hS : va_S A s.heap s.heap [] := va_S.rf
  have i_X0 : ∀ w ∈ wsX00, w ∈ wsX0_clear := by decide +kernel
  have k20 := hts (.fieldLink RX0 20 "RegisterAllocator$Allocation" "steps" "LRegisterAllocator$Rows;") (by decide +kernel)
  have k24 := hts (.fieldLink RX0 24 "RegisterAllocator$Allocation" "pieces" "LRegisterAllocator$Rows;") (by decide +kernel)
  have k27 := hts (.fieldLink RX0 27 "RegisterAllocator$Allocation" "valueIn" "[I") (by decide +kernel)
  have k31 := hts (.fieldLink RX0 31 "RegisterAllocator$Allocation" "registerOf" "[I") (by decide +kernel)
  have k34 := hts (.fieldLink RX0 34 "RegisterAllocator$Allocation" "slotOf" "[I") (by decide +kernel)
  have k37 := hts (.fieldLink RX0 37 "RegisterAllocator$Allocation" "pieceOf" "[I") (by decide +kernel)
  have k40 := hts (.fieldLink RX0 40 "RegisterAllocator$Allocation" "upcoming" "[I") (by decide +kernel)
  have k43 := hts (.fieldLink RX0 43 "RegisterAllocator$Allocation" "slotTaken" "[Z") (by decide +kernel)
  have k47 := hts (.fieldLink RX0 47 "RegisterAllocator$Allocation" "registers" "I") (by decide +kernel)
  have k51 := hts (.fieldLink RX0 51 "RegisterAllocator$Allocation" "slotCount" "I") (by decide +kernel)
  have k9 := hts (.fieldLink RX0 9 "RegisterAllocator$Allocation" "code" "LRegisterAllocator$Code;") (by decide +kernel)
  have km79 := hts (.methodLink RX0 79 Lib.Math.min.name) (by decide +kernel)
  have km85 := hts (.methodLink RX0 85 Lib.Math.max.name) (by decide +kernel)
  have kmc_max := hts (.code Lib.Math.max.name Lib.Math.max.code 2 (some .int)) (by decide +kernel)
  have kmc_min := hts (.code Lib.Math.min.name Lib.Math.min.code 2 (some .int)) (by decide +kernel)
  have kmi := hts (.initialized "java/lang/Math") (by decide +kernel)
  have kms_max := hts (.static Lib.Math.max.name) (by decide +kernel)
  have kms_min := hts (.static Lib.Math.min.name) (by decide +kernel)
  rw [f_X0_clear] at hf
  refine lv_aload_n hx hb dX0_clear_0 rfl (lv_at hl 0 rfl) ?_
  refine va_get (D := D) (ci := 0) (v := .ref a7) (C := RX0) (T := TX0) (N := 11) hx hb hts i_X0 hown hK hP 0 rfl rfl 1 (by decide) k20 (fun _ h9 => h9) rfl dX0_clear_1 ?_
  obtain ⟨u4, hf4, hf⟩ := kbd hf
  refine kc_Vv (As := []) (rest := []) (wf := (PX0 a0 a1 a2 a3 a4 a5 a6 a7 a8 a9 a10 a11 a12 a13 a14 a15 a16 cyI cyZ w_code_kinds w_code_firsts w_code_seconds w_code_ints w_code_counting w_code_length w_steps_numbers u4 w_pieces_numbers w_pieces_length w_valueIn w_registerOf w_slotOf w_pieceOf w_upcoming w_slotTaken w_registers w_slotCount)) (c_X3_clear l D cyI cyZ a7 a8 960 w_steps_numbers 240 w_steps_length u4 hf4) ⟨hx, hb, hml, hown, hts⟩ (cwV 0 hts gX0_clear_X3_clear rfl rfl rfl (by decide +kernel) ⟨Nat.le_of_ble_eq_true rfl, Nat.le_of_ble_eq_true rfl⟩) hK hP hD hS hA [7, 8] [0, 1, 2, 3, 4, 5, 6, 9, 10, 11, 12, 13, 14, 15, 16] 17 rfl rfl (kR1 _ rfl rfl (kR1 _ rfl rfl (kR1 _ rfl rfl (kR1 _ rfl rfl (kR1 _ rfl rfl (kR1 _ rfl rfl (kR1 _ rfl rfl (kR1 _ rfl rfl (kR1 _ rfl rfl (kR1 _ rfl rfl (kR1 _ rfl rfl (kR1 _ rfl rfl (kR1 _ rfl rfl (kR1 _ rfl rfl (kR1 _ rfl rfl kR0))))))))))))))) rfl (by decide +kernel) rfl rfl rfl rfl hl.1 rfl (Nat.le_of_ble_eq_true rfl) dX0_clear_4 ⟨Nat.le_of_ble_eq_true rfl, Nat.le_of_ble_eq_true rfl⟩ (fun H locs hP hD hS => ?_)
  refine lv_aload_n hx hb dX0_clear_7 rfl (lv_at hl 0 rfl) ?_
  refine va_get (D := D) (ci := 0) (v := .ref a9) (C := RX0) (T := TX0) (N := 11) hx hb hts i_X0 hown hK hP 0 rfl rfl 2 (by decide) k24 (fun _ h9 => h9) rfl dX0_clear_8 ?_
  obtain ⟨u11, hf11, hf⟩ := kbd hf
  refine kc_Vv (As := []) (rest := []) (wf := (PX0 a0 a1 a2 a3 a4 a5 a6 a7 a8 a9 a10 a11 a12 a13 a14 a15 a16 cyI cyZ w_code_kinds w_code_firsts w_code_seconds w_code_ints w_code_counting w_code_length w_steps_numbers u4 w_pieces_numbers u11 w_valueIn w_registerOf w_slotOf w_pieceOf w_upcoming w_slotTaken w_registers w_slotCount)) (c_X3_clear l D cyI cyZ a9 a10 720 w_pieces_numbers 180 w_pieces_length u11 hf11) ⟨hx, hb, hml, hown, hts⟩ (cwV 0 hts gX0_clear_X3_clear rfl rfl rfl (by decide +kernel) ⟨Nat.le_of_ble_eq_true rfl, Nat.le_of_ble_eq_true rfl⟩) hK hP hD hS hA [9, 10] [0, 1, 2, 3, 4, 5, 6, 7, 8, 11, 12, 13, 14, 15, 16] 17 rfl rfl (kR1 _ rfl rfl (kR1 _ rfl rfl (kR1 _ rfl rfl (kR1 _ rfl rfl (kR1 _ rfl rfl (kR1 _ rfl rfl (kR1 _ rfl rfl (kR1 _ rfl rfl (kR1 _ rfl rfl (kR1 _ rfl rfl (kR1 _ rfl rfl (kR1 _ rfl rfl (kR1 _ rfl rfl (kR1 _ rfl rfl (kR1 _ rfl rfl kR0))))))))))))))) rfl (by decide +kernel) rfl rfl rfl rfl hl.1 rfl (Nat.le_of_ble_eq_true rfl) dX0_clear_11 ⟨Nat.le_of_ble_eq_true rfl, Nat.le_of_ble_eq_true rfl⟩ (fun H locs hP hD hS => ?_)
  refine lv_aload_n hx hb dX0_clear_14 rfl (lv_at hl 0 rfl) ?_
  refine lv_iconst (v := 2) hx hb dX0_clear_15 (by decide) ?_
  refine lv_iload_n hx hb dX0_clear_16 rfl (lv_at hl 1 rfl) ?_
  refine lv_bipush (v := 8) hx hb dX0_clear_17 (by decide) ?_
  refine va_mmin hx hb (hml.trans hl.1.symm) hown km79 kms_min kmi kmc_min (Nat.le_of_ble_eq_true rfl) (Nat.le_of_ble_eq_true rfl) (Nat.le_of_ble_eq_true rfl) (Nat.le_of_ble_eq_true rfl) dX0_clear_19 ?_
  refine va_mmax hx hb (hml.trans hl.1.symm) hown km85 kms_max kmi kmc_max (Nat.le_of_ble_eq_true rfl) (Nat.le_of_ble_eq_true rfl) (Nat.le_of_ble_eq_true rfl) (Nat.le_of_ble_eq_true rfl) dX0_clear_22 ?_
  refine va_put (D := D) (ci := 0) (v := .int (if 2 < (if 8 < p1 then 8 else p1) then (if 8 < p1 then 8 else p1) else 2)) (ty := .int) (C := RX0) (T := TX0) (N := 11) hx hb hts i_X0 tyX0 tyX0_ok nmX0 hown hK hP hD hS 0 rfl rfl 9 (by decide) k47 (fun _ h9 => h9) rfl (by decide +kernel) rfl (by first | rfl | decide) (Nat.le_of_ble_eq_true rfl) dX0_clear_25 (fun H locs hP hD hS => ?_)
  have hP : va_P D vwCl (PX0 a0 a1 a2 a3 a4 a5 a6 a7 a8 a9 a10 a11 a12 a13 a14 a15 a16 cyI cyZ w_code_kinds w_code_firsts w_code_seconds w_code_ints w_code_counting w_code_length w_steps_numbers u4 w_pieces_numbers u11 w_valueIn w_registerOf w_slotOf w_pieceOf w_upcoming w_slotTaken (if 2 < (if 8 < p1 then 8 else p1) then (if 8 < p1 then 8 else p1) else 2) w_slotCount) H := hP
  have hD : va_D A (PX0 a0 a1 a2 a3 a4 a5 a6 a7 a8 a9 a10 a11 a12 a13 a14 a15 a16 cyI cyZ w_code_kinds w_code_firsts w_code_seconds w_code_ints w_code_counting w_code_length w_steps_numbers u4 w_pieces_numbers u11 w_valueIn w_registerOf w_slotOf w_pieceOf w_upcoming w_slotTaken (if 2 < (if 8 < p1 then 8 else p1) then (if 8 < p1 then 8 else p1) else 2) w_slotCount) := hD
  refine lv_aload_n hx hb dX0_clear_28 rfl (lv_at hl 0 rfl) ?_
  refine lv_iconst (v := 0) hx hb dX0_clear_29 (by decide) ?_
  refine va_put (D := D) (ci := 0) (v := .int 0) (ty := .int) (C := RX0) (T := TX0) (N := 11) hx hb hts i_X0 tyX0 tyX0_ok nmX0 hown hK hP hD hS 0 rfl rfl 10 (by decide) k51 (fun _ h9 => h9) rfl (by decide +kernel) rfl (by first | rfl | decide) (Nat.le_of_ble_eq_true rfl) dX0_clear_30 (fun H locs hP hD hS => ?_)
  have hP : va_P D vwCl (PX0 a0 a1 a2 a3 a4 a5 a6 a7 a8 a9 a10 a11 a12 a13 a14 a15 a16 cyI cyZ w_code_kinds w_code_firsts w_code_seconds w_code_ints w_code_counting w_code_length w_steps_numbers u4 w_pieces_numbers u11 w_valueIn w_registerOf w_slotOf w_pieceOf w_upcoming w_slotTaken (if 2 < (if 8 < p1 then 8 else p1) then (if 8 < p1 then 8 else p1) else 2) 0) H := hP
  have hD : va_D A (PX0 a0 a1 a2 a3 a4 a5 a6 a7 a8 a9 a10 a11 a12 a13 a14 a15 a16 cyI cyZ w_code_kinds w_code_firsts w_code_seconds w_code_ints w_code_counting w_code_length w_steps_numbers u4 w_pieces_numbers u11 w_valueIn w_registerOf w_slotOf w_pieceOf w_upcoming w_slotTaken (if 2 < (if 8 < p1 then 8 else p1) then (if 8 < p1 then 8 else p1) else 2) 0) := hD
  refine lv_iconst (v := 0) hx hb dX0_clear_33 (by decide) ?_
  refine lv_istore_n (lv' := [(2, .int 0), (0, .ref a0), (1, .int p1)]) hx hb dX0_clear_34 rfl hl (by decide) rfl (fun ls hl => ?_)
  have L35 : ∀ (n : Nat) (x2_L35 : Int32) (w_valueIn_L35 : Nat → Int32) (o9 : (Nat → Int32)) (_ : f_X0_clear_L35 n x2_L35 w_valueIn_L35 = some o9) (H : Heap) (locs : List Loc) (ls : Array Slot), va_P D vwCl (PX0 a0 a1 a2 a3 a4 a5 a6 a7 a8 a9 a10 a11 a12 a13 a14 a15 a16 cyI cyZ w_code_kinds w_code_firsts w_code_seconds w_code_ints w_code_counting w_code_length w_steps_numbers u4 w_pieces_numbers u11 w_valueIn_L35 w_registerOf w_slotOf w_pieceOf w_upcoming w_slotTaken (if 2 < (if 8 < p1 then 8 else p1) then (if 8 < p1 then 8 else p1) else 2) 0) H → va_D A (PX0 a0 a1 a2 a3 a4 a5 a6 a7 a8 a9 a10 a11 a12 a13 a14 a15 a16 cyI cyZ w_code_kinds w_code_firsts w_code_seconds w_code_ints w_code_counting w_code_length w_steps_numbers u4 w_pieces_numbers u11 w_valueIn_L35 w_registerOf w_slotOf w_pieceOf w_upcoming w_slotTaken (if 2 < (if 8 < p1 then 8 else p1) then (if 8 < p1 then 8 else p1) else 2) 0) → va_S A s.heap H locs → lv_has ls 3 [(2, .int x2_L35), (0, .ref a0)] → (∀ (H : Heap) (locs : List Loc) (ls : Array Slot), va_P D vwCl (PX0 a0 a1 a2 a3 a4 a5 a6 a7 a8 a9 a10 a11 a12 a13 a14 a15 a16 cyI cyZ w_code_kinds w_code_firsts w_code_seconds w_code_ints w_code_counting w_code_length w_steps_numbers u4 w_pieces_numbers u11 o9 w_registerOf w_slotOf w_pieceOf w_upcoming w_slotTaken (if 2 < (if 8 < p1 then 8 else p1) then (if 8 < p1 then 8 else p1) else 2) 0) H → va_D A (PX0 a0 a1 a2 a3 a4 a5 a6 a7 a8 a9 a10 a11 a12 a13 a14 a15 a16 cyI cyZ w_code_kinds w_code_firsts w_code_seconds w_code_ints w_code_counting w_code_length w_steps_numbers u4 w_pieces_numbers u11 o9 w_registerOf w_slotOf w_pieceOf w_upcoming w_slotTaken (if 2 < (if 8 < p1 then 8 else p1) then (if 8 < p1 then 8 else p1) else 2) 0) → va_S A s.heap H locs → lv_has ls 3 [(0, .ref a0)] → W p l e rmX0_clear s m args below meth c H locs 0 0 Z (F0 m 54 ls [])) → W p l e rmX0_clear s m args below meth c H locs 0 0 Z (F0 m 35 ls []) := by
    intro n
    induction n with
    | zero =>
      intro x2_L35 w_valueIn_L35 o9 hf
      rw [f_X0_clear_L35] at hf
      cases hf
    | succ n ih =>
      intro x2_L35 w_valueIn_L35 o9 hf H locs ls hP hD hS hl kx
      rw [f_X0_clear_L35] at hf
      refine lv_iload_n hx hb dX0_clear_35 rfl (lv_at hl 0 rfl) ?_
      refine lv_bipush (v := 8) hx hb dX0_clear_36 (by decide) ?_
      refine lv_icmp_ge (tgt := 54) hx hb dX0_clear_38 (by decide) (fun c_38 => ?_) (fun c_38 => ?_)
      · have hf := kit c_38 hf
        obtain rfl := Option.some.inj hf
        exact kx _ _ _ hP hD hS (lv_sub hl [1] rfl)
      · have hf := kif c_38 hf
        refine lv_aload_n hx hb dX0_clear_41 rfl (lv_at hl 1 rfl) ?_
        refine va_get (D := D) (ci := 0) (v := .ref a11) (C := RX0) (T := TX0) (N := 11) hx hb hts i_X0 hown hK hP 0 rfl rfl 3 (by decide) k27 (fun _ h9 => h9) rfl dX0_clear_42 ?_
        refine lv_iload_n hx hb dX0_clear_45 rfl (lv_at hl 0 rfl) ?_
        refine lv_iconst (v := (-1)) hx hb dX0_clear_46 (by decide) ?_
        obtain ⟨h_47, hf⟩ := rdc_some hf
        refine va_iast hx hb hK hP hD hS 11 0 rfl rfl h_47 dX0_clear_47 (fun H locs hP hD hS => ?_)
        have hP : va_P D vwCl (PX0 a0 a1 a2 a3 a4 a5 a6 a7 a8 a9 a10 a11 a12 a13 a14 a15 a16 cyI cyZ w_code_kinds w_code_firsts w_code_seconds w_code_ints w_code_counting w_code_length w_steps_numbers u4 w_pieces_numbers u11 (upd w_valueIn_L35 x2_L35.toNatClampNeg (-1)) w_registerOf w_slotOf w_pieceOf w_upcoming w_slotTaken (if 2 < (if 8 < p1 then 8 else p1) then (if 8 < p1 then 8 else p1) else 2) 0) H := hP
        have hD : va_D A (PX0 a0 a1 a2 a3 a4 a5 a6 a7 a8 a9 a10 a11 a12 a13 a14 a15 a16 cyI cyZ w_code_kinds w_code_firsts w_code_seconds w_code_ints w_code_counting w_code_length w_steps_numbers u4 w_pieces_numbers u11 (upd w_valueIn_L35 x2_L35.toNatClampNeg (-1)) w_registerOf w_slotOf w_pieceOf w_upcoming w_slotTaken (if 2 < (if 8 < p1 then 8 else p1) then (if 8 < p1 then 8 else p1) else 2) 0) := hD
        refine lv_iinc (v := (x2_L35 + 1)) (lv' := [(2, .int (x2_L35 + 1)), (0, .ref a0)]) hx hb dX0_clear_48 hl (k := 0) rfl rfl (by decide) rfl (fun ls hl => ?_)
        refine lv_goto (tgt := 35) hx hb dX0_clear_51 (by decide) ?_
        exact ih (x2_L35 + 1) (upd w_valueIn_L35 x2_L35.toNatClampNeg (-1)) _ hf _ _ _ hP hD hS (lv_sub hl [0, 1] rfl) kx
  obtain ⟨v35, hf35, hf⟩ := kbd hf
  refine L35 4000 0 w_valueIn v35 hf35 _ _ _ hP hD hS (lv_sub hl [0, 1] rfl) (fun H locs ls hP hD hS hl => ?_)
  refine lv_iconst (v := 0) hx hb dX0_clear_54 (by decide) ?_
  refine lv_istore_n (lv' := [(2, .int 0), (0, .ref a0)]) hx hb dX0_clear_55 rfl hl (by decide) rfl (fun ls hl => ?_)
  have L56 : ∀ (n : Nat) (x2_L56 : Int32) (w_registerOf_L56 : Nat → Int32) (w_slotOf_L56 : Nat → Int32) (w_pieceOf_L56 : Nat → Int32) (w_upcoming_L56 : Nat → Int32) (w_slotTaken_L56 : Nat → Int32) (o9 : (Nat → Int32) × (Nat → Int32) × (Nat → Int32) × (Nat → Int32) × (Nat → Int32)) (_ : f_X0_clear_L56 w_code_firsts w_code_seconds w_code_counting w_code_length n x2_L56 w_registerOf_L56 w_slotOf_L56 w_pieceOf_L56 w_upcoming_L56 w_slotTaken_L56 = some o9) (H : Heap) (locs : List Loc) (ls : Array Slot), va_P D vwCl (PX0 a0 a1 a2 a3 a4 a5 a6 a7 a8 a9 a10 a11 a12 a13 a14 a15 a16 cyI cyZ w_code_kinds w_code_firsts w_code_seconds w_code_ints w_code_counting w_code_length w_steps_numbers u4 w_pieces_numbers u11 v35 w_registerOf_L56 w_slotOf_L56 w_pieceOf_L56 w_upcoming_L56 w_slotTaken_L56 (if 2 < (if 8 < p1 then 8 else p1) then (if 8 < p1 then 8 else p1) else 2) 0) H → va_D A (PX0 a0 a1 a2 a3 a4 a5 a6 a7 a8 a9 a10 a11 a12 a13 a14 a15 a16 cyI cyZ w_code_kinds w_code_firsts w_code_seconds w_code_ints w_code_counting w_code_length w_steps_numbers u4 w_pieces_numbers u11 v35 w_registerOf_L56 w_slotOf_L56 w_pieceOf_L56 w_upcoming_L56 w_slotTaken_L56 (if 2 < (if 8 < p1 then 8 else p1) then (if 8 < p1 then 8 else p1) else 2) 0) → va_S A s.heap H locs → lv_has ls 3 [(2, .int x2_L56), (0, .ref a0)] → (∀ (H : Heap) (locs : List Loc) (ls : Array Slot), va_P D vwCl (PX0 a0 a1 a2 a3 a4 a5 a6 a7 a8 a9 a10 a11 a12 a13 a14 a15 a16 cyI cyZ w_code_kinds w_code_firsts w_code_seconds w_code_ints w_code_counting w_code_length w_steps_numbers u4 w_pieces_numbers u11 v35 o9.1 o9.2.1 o9.2.2.1 o9.2.2.2.1 o9.2.2.2.2 (if 2 < (if 8 < p1 then 8 else p1) then (if 8 < p1 then 8 else p1) else 2) 0) H → va_D A (PX0 a0 a1 a2 a3 a4 a5 a6 a7 a8 a9 a10 a11 a12 a13 a14 a15 a16 cyI cyZ w_code_kinds w_code_firsts w_code_seconds w_code_ints w_code_counting w_code_length w_steps_numbers u4 w_pieces_numbers u11 v35 o9.1 o9.2.1 o9.2.2.1 o9.2.2.2.1 o9.2.2.2.2 (if 2 < (if 8 < p1 then 8 else p1) then (if 8 < p1 then 8 else p1) else 2) 0) → va_S A s.heap H locs → lv_has ls 3 [] → W p l e rmX0_clear s m args below meth c H locs 0 0 Z (F0 m 113 ls [])) → W p l e rmX0_clear s m args below meth c H locs 0 0 Z (F0 m 56 ls []) := by
    intro n
    induction n with
    | zero =>
      intro x2_L56 w_registerOf_L56 w_slotOf_L56 w_pieceOf_L56 w_upcoming_L56 w_slotTaken_L56 o9 hf
      rw [f_X0_clear_L56] at hf
      cases hf
    | succ n ih =>
      intro x2_L56 w_registerOf_L56 w_slotOf_L56 w_pieceOf_L56 w_upcoming_L56 w_slotTaken_L56 o9 hf H locs ls hP hD hS hl kx
      rw [f_X0_clear_L56] at hf
      refine lv_iload_n hx hb dX0_clear_56 rfl (lv_at hl 0 rfl) ?_
      refine lv_bipush (v := 60) hx hb dX0_clear_57 (by decide) ?_
      refine lv_icmp_ge (tgt := 113) hx hb dX0_clear_59 (by decide) (fun c_59 => ?_) (fun c_59 => ?_)
      · have hf := kit c_59 hf
        obtain rfl := Option.some.inj hf
        exact kx _ _ _ hP hD hS (lv_sub hl [] rfl)
      · have hf := kif c_59 hf
        refine lv_aload_n hx hb dX0_clear_62 rfl (lv_at hl 1 rfl) ?_
        refine va_get (D := D) (ci := 0) (v := .ref a12) (C := RX0) (T := TX0) (N := 11) hx hb hts i_X0 hown hK hP 0 rfl rfl 4 (by decide) k31 (fun _ h9 => h9) rfl dX0_clear_63 ?_
        refine lv_iload_n hx hb dX0_clear_66 rfl (lv_at hl 0 rfl) ?_
        refine lv_iconst (v := (-1)) hx hb dX0_clear_67 (by decide) ?_
        obtain ⟨h_68, hf⟩ := rdc_some hf
        refine va_iast hx hb hK hP hD hS 12 0 rfl rfl h_68 dX0_clear_68 (fun H locs hP hD hS => ?_)
        have hP : va_P D vwCl (PX0 a0 a1 a2 a3 a4 a5 a6 a7 a8 a9 a10 a11 a12 a13 a14 a15 a16 cyI cyZ w_code_kinds w_code_firsts w_code_seconds w_code_ints w_code_counting w_code_length w_steps_numbers u4 w_pieces_numbers u11 v35 (upd w_registerOf_L56 x2_L56.toNatClampNeg (-1)) w_slotOf_L56 w_pieceOf_L56 w_upcoming_L56 w_slotTaken_L56 (if 2 < (if 8 < p1 then 8 else p1) then (if 8 < p1 then 8 else p1) else 2) 0) H := hP
        have hD : va_D A (PX0 a0 a1 a2 a3 a4 a5 a6 a7 a8 a9 a10 a11 a12 a13 a14 a15 a16 cyI cyZ w_code_kinds w_code_firsts w_code_seconds w_code_ints w_code_counting w_code_length w_steps_numbers u4 w_pieces_numbers u11 v35 (upd w_registerOf_L56 x2_L56.toNatClampNeg (-1)) w_slotOf_L56 w_pieceOf_L56 w_upcoming_L56 w_slotTaken_L56 (if 2 < (if 8 < p1 then 8 else p1) then (if 8 < p1 then 8 else p1) else 2) 0) := hD
        refine lv_aload_n hx hb dX0_clear_69 rfl (lv_at hl 1 rfl) ?_
        refine va_get (D := D) (ci := 0) (v := .ref a13) (C := RX0) (T := TX0) (N := 11) hx hb hts i_X0 hown hK hP 0 rfl rfl 5 (by decide) k34 (fun _ h9 => h9) rfl dX0_clear_70 ?_
        refine lv_iload_n hx hb dX0_clear_73 rfl (lv_at hl 0 rfl) ?_
        refine lv_iconst (v := (-1)) hx hb dX0_clear_74 (by decide) ?_
        obtain ⟨h_75, hf⟩ := rdc_some hf
        refine va_iast hx hb hK hP hD hS 13 0 rfl rfl h_75 dX0_clear_75 (fun H locs hP hD hS => ?_)
        have hP : va_P D vwCl (PX0 a0 a1 a2 a3 a4 a5 a6 a7 a8 a9 a10 a11 a12 a13 a14 a15 a16 cyI cyZ w_code_kinds w_code_firsts w_code_seconds w_code_ints w_code_counting w_code_length w_steps_numbers u4 w_pieces_numbers u11 v35 (upd w_registerOf_L56 x2_L56.toNatClampNeg (-1)) (upd w_slotOf_L56 x2_L56.toNatClampNeg (-1)) w_pieceOf_L56 w_upcoming_L56 w_slotTaken_L56 (if 2 < (if 8 < p1 then 8 else p1) then (if 8 < p1 then 8 else p1) else 2) 0) H := hP
        have hD : va_D A (PX0 a0 a1 a2 a3 a4 a5 a6 a7 a8 a9 a10 a11 a12 a13 a14 a15 a16 cyI cyZ w_code_kinds w_code_firsts w_code_seconds w_code_ints w_code_counting w_code_length w_steps_numbers u4 w_pieces_numbers u11 v35 (upd w_registerOf_L56 x2_L56.toNatClampNeg (-1)) (upd w_slotOf_L56 x2_L56.toNatClampNeg (-1)) w_pieceOf_L56 w_upcoming_L56 w_slotTaken_L56 (if 2 < (if 8 < p1 then 8 else p1) then (if 8 < p1 then 8 else p1) else 2) 0) := hD
        refine lv_aload_n hx hb dX0_clear_76 rfl (lv_at hl 1 rfl) ?_
        refine va_get (D := D) (ci := 0) (v := .ref a14) (C := RX0) (T := TX0) (N := 11) hx hb hts i_X0 hown hK hP 0 rfl rfl 6 (by decide) k37 (fun _ h9 => h9) rfl dX0_clear_77 ?_
        refine lv_iload_n hx hb dX0_clear_80 rfl (lv_at hl 0 rfl) ?_
        refine lv_iconst (v := (-1)) hx hb dX0_clear_81 (by decide) ?_
        obtain ⟨h_82, hf⟩ := rdc_some hf
        refine va_iast hx hb hK hP hD hS 14 0 rfl rfl h_82 dX0_clear_82 (fun H locs hP hD hS => ?_)
        have hP : va_P D vwCl (PX0 a0 a1 a2 a3 a4 a5 a6 a7 a8 a9 a10 a11 a12 a13 a14 a15 a16 cyI cyZ w_code_kinds w_code_firsts w_code_seconds w_code_ints w_code_counting w_code_length w_steps_numbers u4 w_pieces_numbers u11 v35 (upd w_registerOf_L56 x2_L56.toNatClampNeg (-1)) (upd w_slotOf_L56 x2_L56.toNatClampNeg (-1)) (upd w_pieceOf_L56 x2_L56.toNatClampNeg (-1)) w_upcoming_L56 w_slotTaken_L56 (if 2 < (if 8 < p1 then 8 else p1) then (if 8 < p1 then 8 else p1) else 2) 0) H := hP
        have hD : va_D A (PX0 a0 a1 a2 a3 a4 a5 a6 a7 a8 a9 a10 a11 a12 a13 a14 a15 a16 cyI cyZ w_code_kinds w_code_firsts w_code_seconds w_code_ints w_code_counting w_code_length w_steps_numbers u4 w_pieces_numbers u11 v35 (upd w_registerOf_L56 x2_L56.toNatClampNeg (-1)) (upd w_slotOf_L56 x2_L56.toNatClampNeg (-1)) (upd w_pieceOf_L56 x2_L56.toNatClampNeg (-1)) w_upcoming_L56 w_slotTaken_L56 (if 2 < (if 8 < p1 then 8 else p1) then (if 8 < p1 then 8 else p1) else 2) 0) := hD
        refine lv_aload_n hx hb dX0_clear_83 rfl (lv_at hl 1 rfl) ?_
        refine va_get (D := D) (ci := 0) (v := .ref a15) (C := RX0) (T := TX0) (N := 11) hx hb hts i_X0 hown hK hP 0 rfl rfl 7 (by decide) k40 (fun _ h9 => h9) rfl dX0_clear_84 ?_
        refine lv_iload_n hx hb dX0_clear_87 rfl (lv_at hl 0 rfl) ?_
        refine lv_aload_n hx hb dX0_clear_88 rfl (lv_at hl 1 rfl) ?_
        refine va_get (D := D) (ci := 0) (v := .ref a1) (C := RX0) (T := TX0) (N := 11) hx hb hts i_X0 hown hK hP 0 rfl rfl 0 (by decide) k9 (fun _ h9 => h9) rfl dX0_clear_89 ?_
        refine lv_iload_n hx hb dX0_clear_92 rfl (lv_at hl 0 rfl) ?_
        refine lv_iload_n hx hb dX0_clear_93 rfl (lv_at hl 0 rfl) ?_
        refine lv_iconst (v := 1) hx hb dX0_clear_94 (by decide) ?_
        refine lv_iadd hx hb dX0_clear_95 ?_
        obtain ⟨u96, hf96, hf⟩ := kbd hf
        refine kc_Vi (As := [.int x2_L56, .int (x2_L56 + 1)]) (rest := [.int x2_L56, .ref a15]) (wf := (PX0 a0 a1 a2 a3 a4 a5 a6 a7 a8 a9 a10 a11 a12 a13 a14 a15 a16 cyI cyZ w_code_kinds w_code_firsts w_code_seconds w_code_ints w_code_counting w_code_length w_steps_numbers u4 w_pieces_numbers u11 v35 (upd w_registerOf_L56 x2_L56.toNatClampNeg (-1)) (upd w_slotOf_L56 x2_L56.toNatClampNeg (-1)) (upd w_pieceOf_L56 x2_L56.toNatClampNeg (-1)) w_upcoming_L56 w_slotTaken_L56 (if 2 < (if 8 < p1 then 8 else p1) then (if 8 < p1 then 8 else p1) else 2) 0)) (c_X1_firstUse l D cyI cyZ a1 a2 a3 a4 a5 a6 w_code_kinds w_code_firsts w_code_seconds w_code_ints w_code_counting w_code_length x2_L56 (x2_L56 + 1) u96 hf96) ⟨hx, hb, hml, hown, hts⟩ (cwV 2 hts gX0_clear_X1_firstUse rfl rfl rfl (by decide +kernel) ⟨Nat.le_of_ble_eq_true rfl, Nat.le_of_ble_eq_true rfl⟩) hK hP hD hS hA [1, 2, 3, 4, 5, 6] [0, 7, 8, 9, 10, 11, 12, 13, 14, 15, 16] 17 rfl rfl (kR1 _ rfl rfl (kR1 _ rfl rfl (kR1 _ rfl rfl (kR1 _ rfl rfl (kR1 _ rfl rfl (kR1 _ rfl rfl (kR1 _ rfl rfl (kR1 _ rfl rfl (kR1 _ rfl rfl (kR1 _ rfl rfl (kR1 _ rfl rfl kR0))))))))))) rfl (by decide +kernel) rfl rfl rfl rfl hl.1 rfl (Nat.le_of_ble_eq_true rfl) dX0_clear_96 ⟨Nat.le_of_ble_eq_true rfl, Nat.le_of_ble_eq_true rfl⟩ (fun H locs hP hD hS => ?_)
        obtain ⟨h_99, hf⟩ := rdc_some hf
        refine va_iast hx hb hK hP hD hS 15 0 rfl rfl h_99 dX0_clear_99 (fun H locs hP hD hS => ?_)
        have hP : va_P D vwCl (PX0 a0 a1 a2 a3 a4 a5 a6 a7 a8 a9 a10 a11 a12 a13 a14 a15 a16 cyI cyZ w_code_kinds w_code_firsts w_code_seconds w_code_ints w_code_counting w_code_length w_steps_numbers u4 w_pieces_numbers u11 v35 (upd w_registerOf_L56 x2_L56.toNatClampNeg (-1)) (upd w_slotOf_L56 x2_L56.toNatClampNeg (-1)) (upd w_pieceOf_L56 x2_L56.toNatClampNeg (-1)) (upd w_upcoming_L56 x2_L56.toNatClampNeg u96) w_slotTaken_L56 (if 2 < (if 8 < p1 then 8 else p1) then (if 8 < p1 then 8 else p1) else 2) 0) H := hP
        have hD : va_D A (PX0 a0 a1 a2 a3 a4 a5 a6 a7 a8 a9 a10 a11 a12 a13 a14 a15 a16 cyI cyZ w_code_kinds w_code_firsts w_code_seconds w_code_ints w_code_counting w_code_length w_steps_numbers u4 w_pieces_numbers u11 v35 (upd w_registerOf_L56 x2_L56.toNatClampNeg (-1)) (upd w_slotOf_L56 x2_L56.toNatClampNeg (-1)) (upd w_pieceOf_L56 x2_L56.toNatClampNeg (-1)) (upd w_upcoming_L56 x2_L56.toNatClampNeg u96) w_slotTaken_L56 (if 2 < (if 8 < p1 then 8 else p1) then (if 8 < p1 then 8 else p1) else 2) 0) := hD
        refine lv_aload_n hx hb dX0_clear_100 rfl (lv_at hl 1 rfl) ?_
        refine va_get (D := D) (ci := 0) (v := .ref a16) (C := RX0) (T := TX0) (N := 11) hx hb hts i_X0 hown hK hP 0 rfl rfl 8 (by decide) k43 (fun _ h9 => h9) rfl dX0_clear_101 ?_
        refine lv_iload_n hx hb dX0_clear_104 rfl (lv_at hl 0 rfl) ?_
        refine lv_iconst (v := 0) hx hb dX0_clear_105 (by decide) ?_
        obtain ⟨h_106, hf⟩ := rdc_some hf
        refine kc_zast hx hb hK hP hD hS 16 1 rfl rfl knar0 h_106 dX0_clear_106 (fun H locs hP hD hS => ?_)
        have hP : va_P D vwCl (PX0 a0 a1 a2 a3 a4 a5 a6 a7 a8 a9 a10 a11 a12 a13 a14 a15 a16 cyI cyZ w_code_kinds w_code_firsts w_code_seconds w_code_ints w_code_counting w_code_length w_steps_numbers u4 w_pieces_numbers u11 v35 (upd w_registerOf_L56 x2_L56.toNatClampNeg (-1)) (upd w_slotOf_L56 x2_L56.toNatClampNeg (-1)) (upd w_pieceOf_L56 x2_L56.toNatClampNeg (-1)) (upd w_upcoming_L56 x2_L56.toNatClampNeg u96) (upd w_slotTaken_L56 x2_L56.toNatClampNeg 0) (if 2 < (if 8 < p1 then 8 else p1) then (if 8 < p1 then 8 else p1) else 2) 0) H := hP
        have hD : va_D A (PX0 a0 a1 a2 a3 a4 a5 a6 a7 a8 a9 a10 a11 a12 a13 a14 a15 a16 cyI cyZ w_code_kinds w_code_firsts w_code_seconds w_code_ints w_code_counting w_code_length w_steps_numbers u4 w_pieces_numbers u11 v35 (upd w_registerOf_L56 x2_L56.toNatClampNeg (-1)) (upd w_slotOf_L56 x2_L56.toNatClampNeg (-1)) (upd w_pieceOf_L56 x2_L56.toNatClampNeg (-1)) (upd w_upcoming_L56 x2_L56.toNatClampNeg u96) (upd w_slotTaken_L56 x2_L56.toNatClampNeg 0) (if 2 < (if 8 < p1 then 8 else p1) then (if 8 < p1 then 8 else p1) else 2) 0) := hD
        refine lv_iinc (v := (x2_L56 + 1)) (lv' := [(2, .int (x2_L56 + 1)), (0, .ref a0)]) hx hb dX0_clear_107 hl (k := 0) rfl rfl (by decide) rfl (fun ls hl => ?_)
        refine lv_goto (tgt := 56) hx hb dX0_clear_110 (by decide) ?_
        exact ih (x2_L56 + 1) (upd w_registerOf_L56 x2_L56.toNatClampNeg (-1)) (upd w_slotOf_L56 x2_L56.toNatClampNeg (-1)) (upd w_pieceOf_L56 x2_L56.toNatClampNeg (-1)) (upd w_upcoming_L56 x2_L56.toNatClampNeg u96) (upd w_slotTaken_L56 x2_L56.toNatClampNeg 0) _ hf _ _ _ hP hD hS (lv_sub hl [0, 1] rfl) kx
  obtain ⟨⟨v56_0, v56_1, v56_2, v56_3, v56_4⟩, hf56, hf⟩ := kbd hf
  try dsimp only at hf
  refine L56 4000 0 w_registerOf w_slotOf w_pieceOf w_upcoming w_slotTaken (v56_0, v56_1, v56_2, v56_3, v56_4) hf56 _ _ _ hP hD hS (lv_sub hl [0, 1] rfl) (fun H locs ls hP hD hS hl => ?_)
  have hP : va_P D vwCl (PX0 a0 a1 a2 a3 a4 a5 a6 a7 a8 a9 a10 a11 a12 a13 a14 a15 a16 cyI cyZ w_code_kinds w_code_firsts w_code_seconds w_code_ints w_code_counting w_code_length w_steps_numbers u4 w_pieces_numbers u11 v35 v56_0 v56_1 v56_2 v56_3 v56_4 (if 2 < (if 8 < p1 then 8 else p1) then (if 8 < p1 then 8 else p1) else 2) 0) H := hP
  have hD : va_D A (PX0 a0 a1 a2 a3 a4 a5 a6 a7 a8 a9 a10 a11 a12 a13 a14 a15 a16 cyI cyZ w_code_kinds w_code_firsts w_code_seconds w_code_ints w_code_counting w_code_length w_steps_numbers u4 w_pieces_numbers u11 v35 v56_0 v56_1 v56_2 v56_3 v56_4 (if 2 < (if 8 < p1 then 8 else p1) then (if 8 < p1 then 8 else p1) else 2) 0) := hD
  have hl : lv_has ls 3 [] := hl
  obtain rfl := Option.some.inj hf
  exact ret _ _ _ _ dX0_clear_113 hP hD hS

abbrev rmX0_isRow : Room := { frames := 0, cells := 0, slots := 0, locals := 0 }
set_option maxHeartbeats 4000000 in
set_option maxRecDepth 100000 in
theorem c_X0_isRow (l : Launch) (D : va_G) (cyI cyZ : ClassId) (_z : Nat) (p1 : Int32) (o : Int32) (hf : f_X0_isRow p1 = some o) : kMi l yX0_isRow wsX0_isRow rmX0_isRow [.int p1] D [] [] (kT cyI cyZ) o 0 0 := by
  refine kOf_i (cc := cX0_isRow) (maxL := 1) (ty := .boolean) (by decide +kernel) rfl (Nat.le_of_ble_eq_true rfl) ?_
  intro p e s m args below meth c A Z ls C0 hP hK hD hA hl ret
  obtain ⟨hx, hb, hr, hml, hown, hts, hlocks⟩ := C0
  have hown : s.vm.findClass RX0 = some m.cls := hown
  have hl : lv_has ls 1 [(0, .int p1)] := hl
  have hS : va_S A s.heap s.heap [] := va_S.rf
  rw [f_X0_isRow] at hf
  refine lv_iload_n hx hb dX0_isRow_0 rfl (lv_at hl 0 rfl) ?_
  refine lv_if_lt (tgt := 14) hx hb dX0_isRow_1 (by decide) (fun c_1 => ?_) (fun c_1 => ?_)
  · have hf := kit c_1 hf
    refine lv_iconst (v := 0) hx hb dX0_isRow_14 (by decide) ?_
    obtain rfl := Option.some.inj hf
    exact ret _ _ _ _ dX0_isRow_15 (znar (Or.inl rfl)) hP hD hS
  · have hf := kif c_1 hf
    refine lv_iload_n hx hb dX0_isRow_4 rfl (lv_at hl 0 rfl) ?_
    refine lv_bipush (v := 60) hx hb dX0_isRow_5 (by decide) ?_
    refine lv_icmp_ge (tgt := 14) hx hb dX0_isRow_7 (by decide) (fun c_7 => ?_) (fun c_7 => ?_)
    · have hf := kit c_7 hf
      refine lv_iconst (v := 0) hx hb dX0_isRow_14 (by decide) ?_
      obtain rfl := Option.some.inj hf
      exact ret _ _ _ _ dX0_isRow_15 (znar (Or.inl rfl)) hP hD hS
    · have hf := kif c_7 hf
      refine lv_iconst (v := 1) hx hb dX0_isRow_10 (by decide) ?_
      refine lv_goto (tgt := 15) hx hb dX0_isRow_11 (by decide) ?_
      obtain rfl := Option.some.inj hf
      exact ret _ _ _ _ dX0_isRow_15 (znar (Or.inr rfl)) hP hD hS

abbrev rmX0_isMissing : Room := { frames := 1, cells := 0, slots := 0, locals := 20 }
set_option maxHeartbeats 4000000 in
set_option maxRecDepth 100000 in
theorem c_X0_isMissing (l : Launch) (D : va_G) (cyI cyZ : ClassId) (a0 a1 a2 a3 a4 a5 a6 a7 a8 a9 a10 a11 a12 a13 a14 a15 a16 : Nat) (w_code_kinds : Nat → Int32) (w_code_firsts : Nat → Int32) (w_code_seconds : Nat → Int32) (w_code_ints : Nat → Int32) (w_code_counting : Nat → Int32) (w_code_length : Int32) (w_steps_numbers : Nat → Int32) (w_steps_length : Int32) (w_pieces_numbers : Nat → Int32) (w_pieces_length : Int32) (w_valueIn : Nat → Int32) (w_registerOf : Nat → Int32) (w_slotOf : Nat → Int32) (w_pieceOf : Nat → Int32) (w_upcoming : Nat → Int32) (w_slotTaken : Nat → Int32) (w_registers : Int32) (w_slotCount : Int32) (p1 : Int32) (o : Int32) (hf : f_X0_isMissing p1 w_registerOf = some o) : kMi l yX0_isMissing wsX0_isMissing rmX0_isMissing [.ref a0, .int p1] D (PX0 a0 a1 a2 a3 a4 a5 a6 a7 a8 a9 a10 a11 a12 a13 a14 a15 a16 cyI cyZ w_code_kinds w_code_firsts w_code_seconds w_code_ints w_code_counting w_code_length w_steps_numbers w_steps_length w_pieces_numbers w_pieces_length w_valueIn w_registerOf w_slotOf w_pieceOf w_upcoming w_slotTaken w_registers w_slotCount) (PX0 a0 a1 a2 a3 a4 a5 a6 a7 a8 a9 a10 a11 a12 a13 a14 a15 a16 cyI cyZ w_code_kinds w_code_firsts w_code_seconds w_code_ints w_code_counting w_code_length w_steps_numbers w_steps_length w_pieces_numbers w_pieces_length w_valueIn w_registerOf w_slotOf w_pieceOf w_upcoming w_slotTaken w_registers w_slotCount) (kT cyI cyZ) o 0 0 := by
  refine kOf_i (cc := cX0_isMissing) (maxL := 2) (ty := .boolean) (by decide +kernel) rfl (Nat.le_of_ble_eq_true rfl) ?_
  intro p e s m args below meth c A Z ls C0 hP hK hD hA hl ret
  obtain ⟨hx, hb, hr, hml, hown, hts, hlocks⟩ := C0
  have hown : s.vm.findClass RX0 = some m.cls := hown
  have hl : lv_has ls 2 [(0, .ref a0), (1, .int p1)] := hl
  have hS : va_S A s.heap s.heap [] := va_S.rf
  have i_X0 : ∀ w ∈ wsX00, w ∈ wsX0_isMissing := by decide +kernel
  have k31 := hts (.fieldLink RX0 31 "RegisterAllocator$Allocation" "registerOf" "[I") (by decide +kernel)
  rw [f_X0_isMissing] at hf
  refine lv_iload_n hx hb dX0_isMissing_0 rfl (lv_at hl 1 rfl) ?_
  obtain ⟨u1, hf1, hf⟩ := kbd hf
  refine kc_Si (As := [.int p1]) (rest := []) (wf := (PX0 a0 a1 a2 a3 a4 a5 a6 a7 a8 a9 a10 a11 a12 a13 a14 a15 a16 cyI cyZ w_code_kinds w_code_firsts w_code_seconds w_code_ints w_code_counting w_code_length w_steps_numbers w_steps_length w_pieces_numbers w_pieces_length w_valueIn w_registerOf w_slotOf w_pieceOf w_upcoming w_slotTaken w_registers w_slotCount)) (c_X0_isRow l D cyI cyZ 0 p1 u1 hf1) ⟨hx, hb, hml, hown, hts⟩ (cwS 1 hts gX0_isMissing_X0_isRow rfl rfl rfl (by decide +kernel) ⟨Nat.le_of_ble_eq_true rfl, Nat.le_of_ble_eq_true rfl⟩) hK hP hD hS hA [] [0, 1, 2, 3, 4, 5, 6, 7, 8, 9, 10, 11, 12, 13, 14, 15, 16] 17 rfl rfl (kR1 _ rfl rfl (kR1 _ rfl rfl (kR1 _ rfl rfl (kR1 _ rfl rfl (kR1 _ rfl rfl (kR1 _ rfl rfl (kR1 _ rfl rfl (kR1 _ rfl rfl (kR1 _ rfl rfl (kR1 _ rfl rfl (kR1 _ rfl rfl (kR1 _ rfl rfl (kR1 _ rfl rfl (kR1 _ rfl rfl (kR1 _ rfl rfl (kR1 _ rfl rfl (kR1 _ rfl rfl kR0))))))))))))))))) rfl (by decide +kernel) rfl hl.1 rfl (Nat.le_of_ble_eq_true rfl) dX0_isMissing_1 ⟨Nat.le_of_ble_eq_true rfl, Nat.le_of_ble_eq_true rfl⟩ (fun H locs hP hD hS => ?_)
  refine lv_if_eq (tgt := 21) hx hb dX0_isMissing_4 (by decide) (fun c_4 => ?_) (fun c_4 => ?_)
  · have hf := kit c_4 hf
    refine lv_iconst (v := 0) hx hb dX0_isMissing_21 (by decide) ?_
    obtain rfl := Option.some.inj hf
    exact ret _ _ _ _ dX0_isMissing_22 (znar (Or.inl rfl)) hP hD hS
  · have hf := kif c_4 hf
    refine lv_aload_n hx hb dX0_isMissing_7 rfl (lv_at hl 0 rfl) ?_
    refine va_get (D := D) (ci := 0) (v := .ref a12) (C := RX0) (T := TX0) (N := 11) hx hb hts i_X0 hown hK hP 0 rfl rfl 4 (by decide) k31 (fun _ h9 => h9) rfl dX0_isMissing_8 ?_
    refine lv_iload_n hx hb dX0_isMissing_11 rfl (lv_at hl 1 rfl) ?_
    obtain ⟨h_12, hf⟩ := rdc_some hf
    refine va_iald hx hb hK hP 12 0 rfl rfl h_12 dX0_isMissing_12 ?_
    refine lv_iconst (v := (-1)) hx hb dX0_isMissing_13 (by decide) ?_
    refine lv_icmp_ne (tgt := 21) hx hb dX0_isMissing_14 (by decide) (fun c_14 => ?_) (fun c_14 => ?_)
    · have hf := kif c_14 hf
      refine lv_iconst (v := 0) hx hb dX0_isMissing_21 (by decide) ?_
      obtain rfl := Option.some.inj hf
      exact ret _ _ _ _ dX0_isMissing_22 (znar (Or.inl rfl)) hP hD hS
    · have hf := kit c_14 hf
      refine lv_iconst (v := 1) hx hb dX0_isMissing_17 (by decide) ?_
      refine lv_goto (tgt := 22) hx hb dX0_isMissing_18 (by decide) ?_
      obtain rfl := Option.some.inj hf
      exact ret _ _ _ _ dX0_isMissing_22 (znar (Or.inr rfl)) hP hD hS

abbrev rmX0_isRegister : Room := { frames := 0, cells := 0, slots := 0, locals := 0 }
set_option maxHeartbeats 4000000 in
set_option maxRecDepth 100000 in
theorem c_X0_isRegister (l : Launch) (D : va_G) (cyI cyZ : ClassId) (a0 a1 a2 a3 a4 a5 a6 a7 a8 a9 a10 a11 a12 a13 a14 a15 a16 : Nat) (w_code_kinds : Nat → Int32) (w_code_firsts : Nat → Int32) (w_code_seconds : Nat → Int32) (w_code_ints : Nat → Int32) (w_code_counting : Nat → Int32) (w_code_length : Int32) (w_steps_numbers : Nat → Int32) (w_steps_length : Int32) (w_pieces_numbers : Nat → Int32) (w_pieces_length : Int32) (w_valueIn : Nat → Int32) (w_registerOf : Nat → Int32) (w_slotOf : Nat → Int32) (w_pieceOf : Nat → Int32) (w_upcoming : Nat → Int32) (w_slotTaken : Nat → Int32) (w_registers : Int32) (w_slotCount : Int32) (p1 : Int32) (o : Int32) (hf : f_X0_isRegister p1 w_registers = some o) : kMi l yX0_isRegister wsX0_isRegister rmX0_isRegister [.ref a0, .int p1] D (PX0 a0 a1 a2 a3 a4 a5 a6 a7 a8 a9 a10 a11 a12 a13 a14 a15 a16 cyI cyZ w_code_kinds w_code_firsts w_code_seconds w_code_ints w_code_counting w_code_length w_steps_numbers w_steps_length w_pieces_numbers w_pieces_length w_valueIn w_registerOf w_slotOf w_pieceOf w_upcoming w_slotTaken w_registers w_slotCount) (PX0 a0 a1 a2 a3 a4 a5 a6 a7 a8 a9 a10 a11 a12 a13 a14 a15 a16 cyI cyZ w_code_kinds w_code_firsts w_code_seconds w_code_ints w_code_counting w_code_length w_steps_numbers w_steps_length w_pieces_numbers w_pieces_length w_valueIn w_registerOf w_slotOf w_pieceOf w_upcoming w_slotTaken w_registers w_slotCount) (kT cyI cyZ) o 0 0 := by
  refine kOf_i (cc := cX0_isRegister) (maxL := 2) (ty := .boolean) (by decide +kernel) rfl (Nat.le_of_ble_eq_true rfl) ?_
  intro p e s m args below meth c A Z ls C0 hP hK hD hA hl ret
  obtain ⟨hx, hb, hr, hml, hown, hts, hlocks⟩ := C0
  have hown : s.vm.findClass RX0 = some m.cls := hown
  have hl : lv_has ls 2 [(0, .ref a0), (1, .int p1)] := hl
  have hS : va_S A s.heap s.heap [] := va_S.rf
  have i_X0 : ∀ w ∈ wsX00, w ∈ wsX0_isRegister := by decide +kernel
  have k47 := hts (.fieldLink RX0 47 "RegisterAllocator$Allocation" "registers" "I") (by decide +kernel)
  rw [f_X0_isRegister] at hf
  refine lv_iload_n hx hb dX0_isRegister_0 rfl (lv_at hl 1 rfl) ?_
  refine lv_if_lt (tgt := 16) hx hb dX0_isRegister_1 (by decide) (fun c_1 => ?_) (fun c_1 => ?_)
  · have hf := kit c_1 hf
    refine lv_iconst (v := 0) hx hb dX0_isRegister_16 (by decide) ?_
    obtain rfl := Option.some.inj hf
    exact ret _ _ _ _ dX0_isRegister_17 (znar (Or.inl rfl)) hP hD hS
  · have hf := kif c_1 hf
    refine lv_iload_n hx hb dX0_isRegister_4 rfl (lv_at hl 1 rfl) ?_
    refine lv_aload_n hx hb dX0_isRegister_5 rfl (lv_at hl 0 rfl) ?_
    refine va_get (D := D) (ci := 0) (v := .int w_registers) (C := RX0) (T := TX0) (N := 11) hx hb hts i_X0 hown hK hP 0 rfl rfl 9 (by decide) k47 (fun _ h9 => h9) rfl dX0_isRegister_6 ?_
    refine lv_icmp_ge (tgt := 16) hx hb dX0_isRegister_9 (by decide) (fun c_9 => ?_) (fun c_9 => ?_)
    · have hf := kit c_9 hf
      refine lv_iconst (v := 0) hx hb dX0_isRegister_16 (by decide) ?_
      obtain rfl := Option.some.inj hf
      exact ret _ _ _ _ dX0_isRegister_17 (znar (Or.inl rfl)) hP hD hS
    · have hf := kif c_9 hf
      refine lv_iconst (v := 1) hx hb dX0_isRegister_12 (by decide) ?_
      refine lv_goto (tgt := 17) hx hb dX0_isRegister_13 (by decide) ?_
      obtain rfl := Option.some.inj hf
      exact ret _ _ _ _ dX0_isRegister_17 (znar (Or.inr rfl)) hP hD hS

abbrev rmX0_isFree : Room := { frames := 1, cells := 0, slots := 0, locals := 21 }
set_option maxHeartbeats 4000000 in
set_option maxRecDepth 100000 in
theorem c_X0_isFree (l : Launch) (D : va_G) (cyI cyZ : ClassId) (a0 a1 a2 a3 a4 a5 a6 a7 a8 a9 a10 a11 a12 a13 a14 a15 a16 : Nat) (w_code_kinds : Nat → Int32) (w_code_firsts : Nat → Int32) (w_code_seconds : Nat → Int32) (w_code_ints : Nat → Int32) (w_code_counting : Nat → Int32) (w_code_length : Int32) (w_steps_numbers : Nat → Int32) (w_steps_length : Int32) (w_pieces_numbers : Nat → Int32) (w_pieces_length : Int32) (w_valueIn : Nat → Int32) (w_registerOf : Nat → Int32) (w_slotOf : Nat → Int32) (w_pieceOf : Nat → Int32) (w_upcoming : Nat → Int32) (w_slotTaken : Nat → Int32) (w_registers : Int32) (w_slotCount : Int32) (p1 : Int32) (o : Int32) (hf : f_X0_isFree p1 w_valueIn w_registers = some o) : kMi l yX0_isFree wsX0_isFree rmX0_isFree [.ref a0, .int p1] D (PX0 a0 a1 a2 a3 a4 a5 a6 a7 a8 a9 a10 a11 a12 a13 a14 a15 a16 cyI cyZ w_code_kinds w_code_firsts w_code_seconds w_code_ints w_code_counting w_code_length w_steps_numbers w_steps_length w_pieces_numbers w_pieces_length w_valueIn w_registerOf w_slotOf w_pieceOf w_upcoming w_slotTaken w_registers w_slotCount) (PX0 a0 a1 a2 a3 a4 a5 a6 a7 a8 a9 a10 a11 a12 a13 a14 a15 a16 cyI cyZ w_code_kinds w_code_firsts w_code_seconds w_code_ints w_code_counting w_code_length w_steps_numbers w_steps_length w_pieces_numbers w_pieces_length w_valueIn w_registerOf w_slotOf w_pieceOf w_upcoming w_slotTaken w_registers w_slotCount) (kT cyI cyZ) o 0 0 := by
  refine kOf_i (cc := cX0_isFree) (maxL := 2) (ty := .boolean) (by decide +kernel) rfl (Nat.le_of_ble_eq_true rfl) ?_
  intro p e s m args below meth c A Z ls C0 hP hK hD hA hl ret
  obtain ⟨hx, hb, hr, hml, hown, hts, hlocks⟩ := C0
  have hown : s.vm.findClass RX0 = some m.cls := hown
  have hl : lv_has ls 2 [(0, .ref a0), (1, .int p1)] := hl
  have hS : va_S A s.heap s.heap [] := va_S.rf
  have i_X0 : ∀ w ∈ wsX00, w ∈ wsX0_isFree := by decide +kernel
  have k27 := hts (.fieldLink RX0 27 "RegisterAllocator$Allocation" "valueIn" "[I") (by decide +kernel)
  rw [f_X0_isFree] at hf
  refine lv_aload_n hx hb dX0_isFree_0 rfl (lv_at hl 0 rfl) ?_
  refine lv_iload_n hx hb dX0_isFree_1 rfl (lv_at hl 1 rfl) ?_
  obtain ⟨u2, hf2, hf⟩ := kbd hf
  refine kc_Vi (As := [.int p1]) (rest := []) (wf := (PX0 a0 a1 a2 a3 a4 a5 a6 a7 a8 a9 a10 a11 a12 a13 a14 a15 a16 cyI cyZ w_code_kinds w_code_firsts w_code_seconds w_code_ints w_code_counting w_code_length w_steps_numbers w_steps_length w_pieces_numbers w_pieces_length w_valueIn w_registerOf w_slotOf w_pieceOf w_upcoming w_slotTaken w_registers w_slotCount)) (c_X0_isRegister l D cyI cyZ a0 a1 a2 a3 a4 a5 a6 a7 a8 a9 a10 a11 a12 a13 a14 a15 a16 w_code_kinds w_code_firsts w_code_seconds w_code_ints w_code_counting w_code_length w_steps_numbers w_steps_length w_pieces_numbers w_pieces_length w_valueIn w_registerOf w_slotOf w_pieceOf w_upcoming w_slotTaken w_registers w_slotCount p1 u2 hf2) ⟨hx, hb, hml, hown, hts⟩ (cwV 1 hts gX0_isFree_X0_isRegister rfl rfl rfl (by decide +kernel) ⟨Nat.le_of_ble_eq_true rfl, Nat.le_of_ble_eq_true rfl⟩) hK hP hD hS hA [0, 1, 2, 3, 4, 5, 6, 7, 8, 9, 10, 11, 12, 13, 14, 15, 16] [] 17 rfl rfl kR0 rfl (by decide +kernel) rfl rfl rfl rfl hl.1 rfl (Nat.le_of_ble_eq_true rfl) dX0_isFree_2 ⟨Nat.le_of_ble_eq_true rfl, Nat.le_of_ble_eq_true rfl⟩ (fun H locs hP hD hS => ?_)
  refine lv_if_eq (tgt := 22) hx hb dX0_isFree_5 (by decide) (fun c_5 => ?_) (fun c_5 => ?_)
  · have hf := kit c_5 hf
    refine lv_iconst (v := 0) hx hb dX0_isFree_22 (by decide) ?_
    obtain rfl := Option.some.inj hf
    exact ret _ _ _ _ dX0_isFree_23 (znar (Or.inl rfl)) hP hD hS
  · have hf := kif c_5 hf
    refine lv_aload_n hx hb dX0_isFree_8 rfl (lv_at hl 0 rfl) ?_
    refine va_get (D := D) (ci := 0) (v := .ref a11) (C := RX0) (T := TX0) (N := 11) hx hb hts i_X0 hown hK hP 0 rfl rfl 3 (by decide) k27 (fun _ h9 => h9) rfl dX0_isFree_9 ?_
    refine lv_iload_n hx hb dX0_isFree_12 rfl (lv_at hl 1 rfl) ?_
    obtain ⟨h_13, hf⟩ := rdc_some hf
    refine va_iald hx hb hK hP 11 0 rfl rfl h_13 dX0_isFree_13 ?_
    refine lv_iconst (v := (-1)) hx hb dX0_isFree_14 (by decide) ?_
    refine lv_icmp_ne (tgt := 22) hx hb dX0_isFree_15 (by decide) (fun c_15 => ?_) (fun c_15 => ?_)
    · have hf := kif c_15 hf
      refine lv_iconst (v := 0) hx hb dX0_isFree_22 (by decide) ?_
      obtain rfl := Option.some.inj hf
      exact ret _ _ _ _ dX0_isFree_23 (znar (Or.inl rfl)) hP hD hS
    · have hf := kit c_15 hf
      refine lv_iconst (v := 1) hx hb dX0_isFree_18 (by decide) ?_
      refine lv_goto (tgt := 23) hx hb dX0_isFree_19 (by decide) ?_
      obtain rfl := Option.some.inj hf
      exact ret _ _ _ _ dX0_isFree_23 (znar (Or.inr rfl)) hP hD hS

abbrev rmX0_valueHeldIn : Room := { frames := 1, cells := 0, slots := 0, locals := 21 }
set_option maxHeartbeats 4000000 in
set_option maxRecDepth 100000 in
theorem c_X0_valueHeldIn (l : Launch) (D : va_G) (cyI cyZ : ClassId) (a0 a1 a2 a3 a4 a5 a6 a7 a8 a9 a10 a11 a12 a13 a14 a15 a16 : Nat) (w_code_kinds : Nat → Int32) (w_code_firsts : Nat → Int32) (w_code_seconds : Nat → Int32) (w_code_ints : Nat → Int32) (w_code_counting : Nat → Int32) (w_code_length : Int32) (w_steps_numbers : Nat → Int32) (w_steps_length : Int32) (w_pieces_numbers : Nat → Int32) (w_pieces_length : Int32) (w_valueIn : Nat → Int32) (w_registerOf : Nat → Int32) (w_slotOf : Nat → Int32) (w_pieceOf : Nat → Int32) (w_upcoming : Nat → Int32) (w_slotTaken : Nat → Int32) (w_registers : Int32) (w_slotCount : Int32) (p1 : Int32) (o : Int32) (hf : f_X0_valueHeldIn p1 w_valueIn w_registers = some o) : kMi l yX0_valueHeldIn wsX0_valueHeldIn rmX0_valueHeldIn [.ref a0, .int p1] D (PX0 a0 a1 a2 a3 a4 a5 a6 a7 a8 a9 a10 a11 a12 a13 a14 a15 a16 cyI cyZ w_code_kinds w_code_firsts w_code_seconds w_code_ints w_code_counting w_code_length w_steps_numbers w_steps_length w_pieces_numbers w_pieces_length w_valueIn w_registerOf w_slotOf w_pieceOf w_upcoming w_slotTaken w_registers w_slotCount) (PX0 a0 a1 a2 a3 a4 a5 a6 a7 a8 a9 a10 a11 a12 a13 a14 a15 a16 cyI cyZ w_code_kinds w_code_firsts w_code_seconds w_code_ints w_code_counting w_code_length w_steps_numbers w_steps_length w_pieces_numbers w_pieces_length w_valueIn w_registerOf w_slotOf w_pieceOf w_upcoming w_slotTaken w_registers w_slotCount) (kT cyI cyZ) o 0 0 := by
  refine kOf_i (cc := cX0_valueHeldIn) (maxL := 2) (ty := .int) (by decide +kernel) rfl (Nat.le_of_ble_eq_true rfl) ?_
  intro p e s m args below meth c A Z ls C0 hP hK hD hA hl ret
  obtain ⟨hx, hb, hr, hml, hown, hts, hlocks⟩ := C0
  have hown : s.vm.findClass RX0 = some m.cls := hown
  have hl : lv_has ls 2 [(0, .ref a0), (1, .int p1)] := hl
  have hS : va_S A s.heap s.heap [] := va_S.rf
  have i_X0 : ∀ w ∈ wsX00, w ∈ wsX0_valueHeldIn := by decide +kernel
  have k27 := hts (.fieldLink RX0 27 "RegisterAllocator$Allocation" "valueIn" "[I") (by decide +kernel)
  rw [f_X0_valueHeldIn] at hf
  refine lv_aload_n hx hb dX0_valueHeldIn_0 rfl (lv_at hl 0 rfl) ?_
  refine lv_iload_n hx hb dX0_valueHeldIn_1 rfl (lv_at hl 1 rfl) ?_
  obtain ⟨u2, hf2, hf⟩ := kbd hf
  refine kc_Vi (As := [.int p1]) (rest := []) (wf := (PX0 a0 a1 a2 a3 a4 a5 a6 a7 a8 a9 a10 a11 a12 a13 a14 a15 a16 cyI cyZ w_code_kinds w_code_firsts w_code_seconds w_code_ints w_code_counting w_code_length w_steps_numbers w_steps_length w_pieces_numbers w_pieces_length w_valueIn w_registerOf w_slotOf w_pieceOf w_upcoming w_slotTaken w_registers w_slotCount)) (c_X0_isRegister l D cyI cyZ a0 a1 a2 a3 a4 a5 a6 a7 a8 a9 a10 a11 a12 a13 a14 a15 a16 w_code_kinds w_code_firsts w_code_seconds w_code_ints w_code_counting w_code_length w_steps_numbers w_steps_length w_pieces_numbers w_pieces_length w_valueIn w_registerOf w_slotOf w_pieceOf w_upcoming w_slotTaken w_registers w_slotCount p1 u2 hf2) ⟨hx, hb, hml, hown, hts⟩ (cwV 1 hts gX0_valueHeldIn_X0_isRegister rfl rfl rfl (by decide +kernel) ⟨Nat.le_of_ble_eq_true rfl, Nat.le_of_ble_eq_true rfl⟩) hK hP hD hS hA [0, 1, 2, 3, 4, 5, 6, 7, 8, 9, 10, 11, 12, 13, 14, 15, 16] [] 17 rfl rfl kR0 rfl (by decide +kernel) rfl rfl rfl rfl hl.1 rfl (Nat.le_of_ble_eq_true rfl) dX0_valueHeldIn_2 ⟨Nat.le_of_ble_eq_true rfl, Nat.le_of_ble_eq_true rfl⟩ (fun H locs hP hD hS => ?_)
  refine lv_if_eq (tgt := 17) hx hb dX0_valueHeldIn_5 (by decide) (fun c_5 => ?_) (fun c_5 => ?_)
  · have hf := kit c_5 hf
    refine lv_iconst (v := (-1)) hx hb dX0_valueHeldIn_17 (by decide) ?_
    obtain rfl := Option.some.inj hf
    exact ret _ _ _ _ dX0_valueHeldIn_18 rfl hP hD hS
  · have hf := kif c_5 hf
    refine lv_aload_n hx hb dX0_valueHeldIn_8 rfl (lv_at hl 0 rfl) ?_
    refine va_get (D := D) (ci := 0) (v := .ref a11) (C := RX0) (T := TX0) (N := 11) hx hb hts i_X0 hown hK hP 0 rfl rfl 3 (by decide) k27 (fun _ h9 => h9) rfl dX0_valueHeldIn_9 ?_
    refine lv_iload_n hx hb dX0_valueHeldIn_12 rfl (lv_at hl 1 rfl) ?_
    obtain ⟨h_13, hf⟩ := rdc_some hf
    refine va_iald hx hb hK hP 11 0 rfl rfl h_13 dX0_valueHeldIn_13 ?_
    refine lv_goto (tgt := 18) hx hb dX0_valueHeldIn_14 (by decide) ?_
    obtain rfl := Option.some.inj hf
    exact ret _ _ _ _ dX0_valueHeldIn_18 rfl hP hD hS

abbrev rmX0_losesBefore : Room := { frames := 1, cells := 0, slots := 0, locals := 21 }
set_option maxHeartbeats 4000000 in
set_option maxRecDepth 100000 in
theorem c_X0_losesBefore (l : Launch) (D : va_G) (cyI cyZ : ClassId) (a0 a1 a2 a3 a4 a5 a6 a7 a8 a9 a10 a11 a12 a13 a14 a15 a16 : Nat) (w_code_kinds : Nat → Int32) (w_code_firsts : Nat → Int32) (w_code_seconds : Nat → Int32) (w_code_ints : Nat → Int32) (w_code_counting : Nat → Int32) (w_code_length : Int32) (w_steps_numbers : Nat → Int32) (w_steps_length : Int32) (w_pieces_numbers : Nat → Int32) (w_pieces_length : Int32) (w_valueIn : Nat → Int32) (w_registerOf : Nat → Int32) (w_slotOf : Nat → Int32) (w_pieceOf : Nat → Int32) (w_upcoming : Nat → Int32) (w_slotTaken : Nat → Int32) (w_registers : Int32) (w_slotCount : Int32) (p1 : Int32) (p2 : Int32) (o : Int32) (hf : f_X0_losesBefore p1 p2 w_code_kinds w_code_length w_slotOf w_upcoming = some o) : kMi l yX0_losesBefore wsX0_losesBefore rmX0_losesBefore [.ref a0, .int p1, .int p2] D (PX0 a0 a1 a2 a3 a4 a5 a6 a7 a8 a9 a10 a11 a12 a13 a14 a15 a16 cyI cyZ w_code_kinds w_code_firsts w_code_seconds w_code_ints w_code_counting w_code_length w_steps_numbers w_steps_length w_pieces_numbers w_pieces_length w_valueIn w_registerOf w_slotOf w_pieceOf w_upcoming w_slotTaken w_registers w_slotCount) (PX0 a0 a1 a2 a3 a4 a5 a6 a7 a8 a9 a10 a11 a12 a13 a14 a15 a16 cyI cyZ w_code_kinds w_code_firsts w_code_seconds w_code_ints w_code_counting w_code_length w_steps_numbers w_steps_length w_pieces_numbers w_pieces_length w_valueIn w_registerOf w_slotOf w_pieceOf w_upcoming w_slotTaken w_registers w_slotCount) (kT cyI cyZ) o 0 0 := by
  refine kOf_i (cc := cX0_losesBefore) (maxL := 4) (ty := .boolean) (by decide +kernel) rfl (Nat.le_of_ble_eq_true rfl) ?_
  intro p e s m args below meth c A Z ls C0 hP hK hD hA hl ret
  obtain ⟨hx, hb, hr, hml, hown, hts, hlocks⟩ := C0
  have hown : s.vm.findClass RX0 = some m.cls := hown
  have hl : lv_has ls 4 [(0, .ref a0), (1, .int p1), (2, .int p2)] := hl
  have hS : va_S A s.heap s.heap [] := va_S.rf
  have i_X0 : ∀ w ∈ wsX00, w ∈ wsX0_losesBefore := by decide +kernel
  have k34 := hts (.fieldLink RX0 34 "RegisterAllocator$Allocation" "slotOf" "[I") (by decide +kernel)
  have k40 := hts (.fieldLink RX0 40 "RegisterAllocator$Allocation" "upcoming" "[I") (by decide +kernel)
  have k9 := hts (.fieldLink RX0 9 "RegisterAllocator$Allocation" "code" "LRegisterAllocator$Code;") (by decide +kernel)
  rw [f_X0_losesBefore] at hf
  refine lv_iload_n hx hb dX0_losesBefore_0 rfl (lv_at hl 1 rfl) ?_
  obtain ⟨u1, hf1, hf⟩ := kbd hf
  refine kc_Si (As := [.int p1]) (rest := []) (wf := (PX0 a0 a1 a2 a3 a4 a5 a6 a7 a8 a9 a10 a11 a12 a13 a14 a15 a16 cyI cyZ w_code_kinds w_code_firsts w_code_seconds w_code_ints w_code_counting w_code_length w_steps_numbers w_steps_length w_pieces_numbers w_pieces_length w_valueIn w_registerOf w_slotOf w_pieceOf w_upcoming w_slotTaken w_registers w_slotCount)) (c_X0_isRow l D cyI cyZ 0 p1 u1 hf1) ⟨hx, hb, hml, hown, hts⟩ (cwS 1 hts gX0_losesBefore_X0_isRow rfl rfl rfl (by decide +kernel) ⟨Nat.le_of_ble_eq_true rfl, Nat.le_of_ble_eq_true rfl⟩) hK hP hD hS hA [] [0, 1, 2, 3, 4, 5, 6, 7, 8, 9, 10, 11, 12, 13, 14, 15, 16] 17 rfl rfl (kR1 _ rfl rfl (kR1 _ rfl rfl (kR1 _ rfl rfl (kR1 _ rfl rfl (kR1 _ rfl rfl (kR1 _ rfl rfl (kR1 _ rfl rfl (kR1 _ rfl rfl (kR1 _ rfl rfl (kR1 _ rfl rfl (kR1 _ rfl rfl (kR1 _ rfl rfl (kR1 _ rfl rfl (kR1 _ rfl rfl (kR1 _ rfl rfl (kR1 _ rfl rfl (kR1 _ rfl rfl kR0))))))))))))))))) rfl (by decide +kernel) rfl hl.1 rfl (Nat.le_of_ble_eq_true rfl) dX0_losesBefore_1 ⟨Nat.le_of_ble_eq_true rfl, Nat.le_of_ble_eq_true rfl⟩ (fun H locs hP hD hS => ?_)
  refine lv_if_eq (tgt := 14) hx hb dX0_losesBefore_4 (by decide) (fun c_4 => ?_) (fun c_4 => ?_)
  · have hf := kit c_4 hf
    refine lv_iconst (v := 0) hx hb dX0_losesBefore_14 (by decide) ?_
    obtain rfl := Option.some.inj hf
    exact ret _ _ _ _ dX0_losesBefore_15 (znar (Or.inl rfl)) hP hD hS
  · have hf := kif c_4 hf
    refine lv_iload_n hx hb dX0_losesBefore_7 rfl (lv_at hl 2 rfl) ?_
    obtain ⟨u8, hf8, hf⟩ := kbd hf
    refine kc_Si (As := [.int p2]) (rest := []) (wf := (PX0 a0 a1 a2 a3 a4 a5 a6 a7 a8 a9 a10 a11 a12 a13 a14 a15 a16 cyI cyZ w_code_kinds w_code_firsts w_code_seconds w_code_ints w_code_counting w_code_length w_steps_numbers w_steps_length w_pieces_numbers w_pieces_length w_valueIn w_registerOf w_slotOf w_pieceOf w_upcoming w_slotTaken w_registers w_slotCount)) (c_X0_isRow l D cyI cyZ 0 p2 u8 hf8) ⟨hx, hb, hml, hown, hts⟩ (cwS 1 hts gX0_losesBefore_X0_isRow rfl rfl rfl (by decide +kernel) ⟨Nat.le_of_ble_eq_true rfl, Nat.le_of_ble_eq_true rfl⟩) hK hP hD hS hA [] [0, 1, 2, 3, 4, 5, 6, 7, 8, 9, 10, 11, 12, 13, 14, 15, 16] 17 rfl rfl (kR1 _ rfl rfl (kR1 _ rfl rfl (kR1 _ rfl rfl (kR1 _ rfl rfl (kR1 _ rfl rfl (kR1 _ rfl rfl (kR1 _ rfl rfl (kR1 _ rfl rfl (kR1 _ rfl rfl (kR1 _ rfl rfl (kR1 _ rfl rfl (kR1 _ rfl rfl (kR1 _ rfl rfl (kR1 _ rfl rfl (kR1 _ rfl rfl (kR1 _ rfl rfl (kR1 _ rfl rfl kR0))))))))))))))))) rfl (by decide +kernel) rfl hl.1 rfl (Nat.le_of_ble_eq_true rfl) dX0_losesBefore_8 ⟨Nat.le_of_ble_eq_true rfl, Nat.le_of_ble_eq_true rfl⟩ (fun H locs hP hD hS => ?_)
    refine lv_if_ne (tgt := 16) hx hb dX0_losesBefore_11 (by decide) (fun c_11 => ?_) (fun c_11 => ?_)
    · have hf := kif c_11 hf
      refine lv_aload_n hx hb dX0_losesBefore_16 rfl (lv_at hl 0 rfl) ?_
      refine va_get (D := D) (ci := 0) (v := .ref a15) (C := RX0) (T := TX0) (N := 11) hx hb hts i_X0 hown hK hP 0 rfl rfl 7 (by decide) k40 (fun _ h9 => h9) rfl dX0_losesBefore_17 ?_
      refine lv_iload_n hx hb dX0_losesBefore_20 rfl (lv_at hl 1 rfl) ?_
      obtain ⟨h_21, hf⟩ := rdc_some hf
      refine va_iald hx hb hK hP 15 0 rfl rfl h_21 dX0_losesBefore_21 ?_
      refine lv_aload_n hx hb dX0_losesBefore_22 rfl (lv_at hl 0 rfl) ?_
      refine va_get (D := D) (ci := 0) (v := .ref a15) (C := RX0) (T := TX0) (N := 11) hx hb hts i_X0 hown hK hP 0 rfl rfl 7 (by decide) k40 (fun _ h9 => h9) rfl dX0_losesBefore_23 ?_
      refine lv_iload_n hx hb dX0_losesBefore_26 rfl (lv_at hl 2 rfl) ?_
      obtain ⟨h_27, hf⟩ := rdc_some hf
      refine va_iald hx hb hK hP 15 0 rfl rfl h_27 dX0_losesBefore_27 ?_
      refine lv_icmp_eq (tgt := 52) hx hb dX0_losesBefore_28 (by decide) (fun c_28 => ?_) (fun c_28 => ?_)
      · have hf := kit c_28 hf
        refine lv_aload_n hx hb dX0_losesBefore_52 rfl (lv_at hl 0 rfl) ?_
        refine va_get (D := D) (ci := 0) (v := .ref a1) (C := RX0) (T := TX0) (N := 11) hx hb hts i_X0 hown hK hP 0 rfl rfl 0 (by decide) k9 (fun _ h9 => h9) rfl dX0_losesBefore_53 ?_
        refine lv_iload_n hx hb dX0_losesBefore_56 rfl (lv_at hl 1 rfl) ?_
        obtain ⟨u57, hf57, hf⟩ := kbd hf
        refine kc_Vi (As := [.int p1]) (rest := []) (wf := (PX0 a0 a1 a2 a3 a4 a5 a6 a7 a8 a9 a10 a11 a12 a13 a14 a15 a16 cyI cyZ w_code_kinds w_code_firsts w_code_seconds w_code_ints w_code_counting w_code_length w_steps_numbers w_steps_length w_pieces_numbers w_pieces_length w_valueIn w_registerOf w_slotOf w_pieceOf w_upcoming w_slotTaken w_registers w_slotCount)) (c_X1_isConst l D cyI cyZ a1 a2 a3 a4 a5 a6 w_code_kinds w_code_firsts w_code_seconds w_code_ints w_code_counting w_code_length p1 u57 hf57) ⟨hx, hb, hml, hown, hts⟩ (cwV 1 hts gX0_losesBefore_X1_isConst rfl rfl rfl (by decide +kernel) ⟨Nat.le_of_ble_eq_true rfl, Nat.le_of_ble_eq_true rfl⟩) hK hP hD hS hA [1, 2, 3, 4, 5, 6] [0, 7, 8, 9, 10, 11, 12, 13, 14, 15, 16] 17 rfl rfl (kR1 _ rfl rfl (kR1 _ rfl rfl (kR1 _ rfl rfl (kR1 _ rfl rfl (kR1 _ rfl rfl (kR1 _ rfl rfl (kR1 _ rfl rfl (kR1 _ rfl rfl (kR1 _ rfl rfl (kR1 _ rfl rfl (kR1 _ rfl rfl kR0))))))))))) rfl (by decide +kernel) rfl rfl rfl rfl hl.1 rfl (Nat.le_of_ble_eq_true rfl) dX0_losesBefore_57 ⟨Nat.le_of_ble_eq_true rfl, Nat.le_of_ble_eq_true rfl⟩ (fun H locs hP hD hS => ?_)
        refine lv_istore_n (lv' := [(3, .int u57), (0, .ref a0), (1, .int p1), (2, .int p2)]) hx hb dX0_losesBefore_60 rfl hl (by decide) rfl (fun ls hl => ?_)
        refine lv_iload_n hx hb dX0_losesBefore_61 rfl (lv_at hl 0 rfl) ?_
        refine lv_aload_n hx hb dX0_losesBefore_62 rfl (lv_at hl 1 rfl) ?_
        refine va_get (D := D) (ci := 0) (v := .ref a1) (C := RX0) (T := TX0) (N := 11) hx hb hts i_X0 hown hK hP 0 rfl rfl 0 (by decide) k9 (fun _ h9 => h9) rfl dX0_losesBefore_63 ?_
        refine lv_iload_n hx hb dX0_losesBefore_66 rfl (lv_at hl 3 rfl) ?_
        obtain ⟨u67, hf67, hf⟩ := kbd hf
        refine kc_Vi (As := [.int p2]) (rest := [.int u57]) (wf := (PX0 a0 a1 a2 a3 a4 a5 a6 a7 a8 a9 a10 a11 a12 a13 a14 a15 a16 cyI cyZ w_code_kinds w_code_firsts w_code_seconds w_code_ints w_code_counting w_code_length w_steps_numbers w_steps_length w_pieces_numbers w_pieces_length w_valueIn w_registerOf w_slotOf w_pieceOf w_upcoming w_slotTaken w_registers w_slotCount)) (c_X1_isConst l D cyI cyZ a1 a2 a3 a4 a5 a6 w_code_kinds w_code_firsts w_code_seconds w_code_ints w_code_counting w_code_length p2 u67 hf67) ⟨hx, hb, hml, hown, hts⟩ (cwV 1 hts gX0_losesBefore_X1_isConst rfl rfl rfl (by decide +kernel) ⟨Nat.le_of_ble_eq_true rfl, Nat.le_of_ble_eq_true rfl⟩) hK hP hD hS hA [1, 2, 3, 4, 5, 6] [0, 7, 8, 9, 10, 11, 12, 13, 14, 15, 16] 17 rfl rfl (kR1 _ rfl rfl (kR1 _ rfl rfl (kR1 _ rfl rfl (kR1 _ rfl rfl (kR1 _ rfl rfl (kR1 _ rfl rfl (kR1 _ rfl rfl (kR1 _ rfl rfl (kR1 _ rfl rfl (kR1 _ rfl rfl (kR1 _ rfl rfl kR0))))))))))) rfl (by decide +kernel) rfl rfl rfl rfl hl.1 rfl (Nat.le_of_ble_eq_true rfl) dX0_losesBefore_67 ⟨Nat.le_of_ble_eq_true rfl, Nat.le_of_ble_eq_true rfl⟩ (fun H locs hP hD hS => ?_)
        refine lv_icmp_eq (tgt := 75) hx hb dX0_losesBefore_70 (by decide) (fun c_70 => ?_) (fun c_70 => ?_)
        · have hf := kit c_70 hf
          refine lv_aload_n hx hb dX0_losesBefore_75 rfl (lv_at hl 1 rfl) ?_
          refine va_get (D := D) (ci := 0) (v := .ref a13) (C := RX0) (T := TX0) (N := 11) hx hb hts i_X0 hown hK hP 0 rfl rfl 5 (by decide) k34 (fun _ h9 => h9) rfl dX0_losesBefore_76 ?_
          refine lv_iload_n hx hb dX0_losesBefore_79 rfl (lv_at hl 2 rfl) ?_
          obtain ⟨h_80, hf⟩ := rdc_some hf
          refine va_iald hx hb hK hP 13 0 rfl rfl h_80 dX0_losesBefore_80 ?_
          refine lv_iconst (v := (-1)) hx hb dX0_losesBefore_81 (by decide) ?_
          refine lv_icmp_eq (tgt := 99) hx hb dX0_losesBefore_82 (by decide) (fun c_82 => ?_) (fun c_82 => ?_)
          · have hf := kit c_82 hf
            refine lv_iconst (v := 0) hx hb dX0_losesBefore_99 (by decide) ?_
            obtain rfl := Option.some.inj hf
            exact ret _ _ _ _ dX0_losesBefore_100 (znar (Or.inl rfl)) hP hD hS
          · have hf := kif c_82 hf
            refine lv_aload_n hx hb dX0_losesBefore_85 rfl (lv_at hl 1 rfl) ?_
            refine va_get (D := D) (ci := 0) (v := .ref a13) (C := RX0) (T := TX0) (N := 11) hx hb hts i_X0 hown hK hP 0 rfl rfl 5 (by decide) k34 (fun _ h9 => h9) rfl dX0_losesBefore_86 ?_
            refine lv_iload_n hx hb dX0_losesBefore_89 rfl (lv_at hl 3 rfl) ?_
            obtain ⟨h_90, hf⟩ := rdc_some hf
            refine va_iald hx hb hK hP 13 0 rfl rfl h_90 dX0_losesBefore_90 ?_
            refine lv_iconst (v := (-1)) hx hb dX0_losesBefore_91 (by decide) ?_
            refine lv_icmp_ne (tgt := 99) hx hb dX0_losesBefore_92 (by decide) (fun c_92 => ?_) (fun c_92 => ?_)
            · have hf := kif c_92 hf
              refine lv_iconst (v := 0) hx hb dX0_losesBefore_99 (by decide) ?_
              obtain rfl := Option.some.inj hf
              exact ret _ _ _ _ dX0_losesBefore_100 (znar (Or.inl rfl)) hP hD hS
            · have hf := kit c_92 hf
              refine lv_iconst (v := 1) hx hb dX0_losesBefore_95 (by decide) ?_
              refine lv_goto (tgt := 100) hx hb dX0_losesBefore_96 (by decide) ?_
              obtain rfl := Option.some.inj hf
              exact ret _ _ _ _ dX0_losesBefore_100 (znar (Or.inr rfl)) hP hD hS
        · have hf := kif c_70 hf
          refine lv_iload_n hx hb dX0_losesBefore_73 rfl (lv_at hl 0 rfl) ?_
          obtain ⟨hz, hf⟩ := zck_some hf
          obtain rfl := Option.some.inj hf
          exact ret _ _ _ _ dX0_losesBefore_74 (znar hz) hP hD hS
      · have hf := kif c_28 hf
        refine lv_aload_n hx hb dX0_losesBefore_31 rfl (lv_at hl 0 rfl) ?_
        refine va_get (D := D) (ci := 0) (v := .ref a15) (C := RX0) (T := TX0) (N := 11) hx hb hts i_X0 hown hK hP 0 rfl rfl 7 (by decide) k40 (fun _ h9 => h9) rfl dX0_losesBefore_32 ?_
        refine lv_iload_n hx hb dX0_losesBefore_35 rfl (lv_at hl 1 rfl) ?_
        obtain ⟨h_36, hf⟩ := rdc_some hf
        refine va_iald hx hb hK hP 15 0 rfl rfl h_36 dX0_losesBefore_36 ?_
        refine lv_aload_n hx hb dX0_losesBefore_37 rfl (lv_at hl 0 rfl) ?_
        refine va_get (D := D) (ci := 0) (v := .ref a15) (C := RX0) (T := TX0) (N := 11) hx hb hts i_X0 hown hK hP 0 rfl rfl 7 (by decide) k40 (fun _ h9 => h9) rfl dX0_losesBefore_38 ?_
        refine lv_iload_n hx hb dX0_losesBefore_41 rfl (lv_at hl 2 rfl) ?_
        obtain ⟨h_42, hf⟩ := rdc_some hf
        refine va_iald hx hb hK hP 15 0 rfl rfl h_42 dX0_losesBefore_42 ?_
        refine lv_icmp_le (tgt := 50) hx hb dX0_losesBefore_43 (by decide) (fun c_43 => ?_) (fun c_43 => ?_)
        · have hf := kit c_43 hf
          refine lv_iconst (v := 0) hx hb dX0_losesBefore_50 (by decide) ?_
          obtain rfl := Option.some.inj hf
          exact ret _ _ _ _ dX0_losesBefore_51 (znar (Or.inl rfl)) hP hD hS
        · have hf := kif c_43 hf
          refine lv_iconst (v := 1) hx hb dX0_losesBefore_46 (by decide) ?_
          refine lv_goto (tgt := 51) hx hb dX0_losesBefore_47 (by decide) ?_
          obtain rfl := Option.some.inj hf
          exact ret _ _ _ _ dX0_losesBefore_51 (znar (Or.inr rfl)) hP hD hS
    · have hf := kit c_11 hf
      refine lv_iconst (v := 0) hx hb dX0_losesBefore_14 (by decide) ?_
      obtain rfl := Option.some.inj hf
      exact ret _ _ _ _ dX0_losesBefore_15 (znar (Or.inl rfl)) hP hD hS

abbrev rmX0_registerToLose : Room := { frames := 2, cells := 0, slots := 0, locals := 44 }
set_option maxHeartbeats 4000000 in
set_option maxRecDepth 100000 in
theorem c_X0_registerToLose (l : Launch) (D : va_G) (cyI cyZ : ClassId) (a0 a1 a2 a3 a4 a5 a6 a7 a8 a9 a10 a11 a12 a13 a14 a15 a16 : Nat) (w_code_kinds : Nat → Int32) (w_code_firsts : Nat → Int32) (w_code_seconds : Nat → Int32) (w_code_ints : Nat → Int32) (w_code_counting : Nat → Int32) (w_code_length : Int32) (w_steps_numbers : Nat → Int32) (w_steps_length : Int32) (w_pieces_numbers : Nat → Int32) (w_pieces_length : Int32) (w_valueIn : Nat → Int32) (w_registerOf : Nat → Int32) (w_slotOf : Nat → Int32) (w_pieceOf : Nat → Int32) (w_upcoming : Nat → Int32) (w_slotTaken : Nat → Int32) (w_registers : Int32) (w_slotCount : Int32) (p1 : Int32) (p2 : Int32) (o : Int32) (hf : f_X0_registerToLose p1 p2 w_code_kinds w_code_length w_valueIn w_slotOf w_upcoming w_registers = some o) : kMi l yX0_registerToLose wsX0_registerToLose rmX0_registerToLose [.ref a0, .int p1, .int p2] D (PX0 a0 a1 a2 a3 a4 a5 a6 a7 a8 a9 a10 a11 a12 a13 a14 a15 a16 cyI cyZ w_code_kinds w_code_firsts w_code_seconds w_code_ints w_code_counting w_code_length w_steps_numbers w_steps_length w_pieces_numbers w_pieces_length w_valueIn w_registerOf w_slotOf w_pieceOf w_upcoming w_slotTaken w_registers w_slotCount) (PX0 a0 a1 a2 a3 a4 a5 a6 a7 a8 a9 a10 a11 a12 a13 a14 a15 a16 cyI cyZ w_code_kinds w_code_firsts w_code_seconds w_code_ints w_code_counting w_code_length w_steps_numbers w_steps_length w_pieces_numbers w_pieces_length w_valueIn w_registerOf w_slotOf w_pieceOf w_upcoming w_slotTaken w_registers w_slotCount) (kT cyI cyZ) o 0 0 := by
  refine kOf_i (cc := cX0_registerToLose) (maxL := 7) (ty := .int) (by decide +kernel) rfl (Nat.le_of_ble_eq_true rfl) ?_
  intro p e s m args below meth c A Z ls C0 hP hK hD hA hl ret
  obtain ⟨hx, hb, hr, hml, hown, hts, hlocks⟩ := C0
  have hown : s.vm.findClass RX0 = some m.cls := hown
  have hl : lv_has ls 7 [(0, .ref a0), (1, .int p1), (2, .int p2)] := hl
  have hS : va_S A s.heap s.heap [] := va_S.rf
  have i_X0 : ∀ w ∈ wsX00, w ∈ wsX0_registerToLose := by decide +kernel
  have k47 := hts (.fieldLink RX0 47 "RegisterAllocator$Allocation" "registers" "I") (by decide +kernel)
  rw [f_X0_registerToLose] at hf
  refine lv_iconst (v := (-1)) hx hb dX0_registerToLose_0 (by decide) ?_
  refine lv_istore_n (lv' := [(3, .int (-1)), (0, .ref a0), (1, .int p1), (2, .int p2)]) hx hb dX0_registerToLose_1 rfl hl (by decide) rfl (fun ls hl => ?_)
  refine lv_iconst (v := 0) hx hb dX0_registerToLose_2 (by decide) ?_
  refine lv_istore (lv' := [(4, .int 0), (3, .int (-1)), (0, .ref a0), (1, .int p1), (2, .int p2)]) hx hb dX0_registerToLose_3 hl (by decide) rfl (fun ls hl => ?_)
  have L5 : ∀ (n : Nat) (x4_L5 : Int32) (x3_L5 : Int32) (o9 : Int32) (_ : f_X0_registerToLose_L5 w_code_kinds w_code_length w_valueIn w_slotOf w_upcoming w_registers p1 p2 n x4_L5 x3_L5 = some o9) (H : Heap) (locs : List Loc) (ls : Array Slot), va_P D vwCl (PX0 a0 a1 a2 a3 a4 a5 a6 a7 a8 a9 a10 a11 a12 a13 a14 a15 a16 cyI cyZ w_code_kinds w_code_firsts w_code_seconds w_code_ints w_code_counting w_code_length w_steps_numbers w_steps_length w_pieces_numbers w_pieces_length w_valueIn w_registerOf w_slotOf w_pieceOf w_upcoming w_slotTaken w_registers w_slotCount) H → va_D A (PX0 a0 a1 a2 a3 a4 a5 a6 a7 a8 a9 a10 a11 a12 a13 a14 a15 a16 cyI cyZ w_code_kinds w_code_firsts w_code_seconds w_code_ints w_code_counting w_code_length w_steps_numbers w_steps_length w_pieces_numbers w_pieces_length w_valueIn w_registerOf w_slotOf w_pieceOf w_upcoming w_slotTaken w_registers w_slotCount) → va_S A s.heap H locs → lv_has ls 7 [(4, .int x4_L5), (3, .int x3_L5), (0, .ref a0), (1, .int p1), (2, .int p2)] → (∀ (H : Heap) (locs : List Loc) (ls : Array Slot), va_P D vwCl (PX0 a0 a1 a2 a3 a4 a5 a6 a7 a8 a9 a10 a11 a12 a13 a14 a15 a16 cyI cyZ w_code_kinds w_code_firsts w_code_seconds w_code_ints w_code_counting w_code_length w_steps_numbers w_steps_length w_pieces_numbers w_pieces_length w_valueIn w_registerOf w_slotOf w_pieceOf w_upcoming w_slotTaken w_registers w_slotCount) H → va_D A (PX0 a0 a1 a2 a3 a4 a5 a6 a7 a8 a9 a10 a11 a12 a13 a14 a15 a16 cyI cyZ w_code_kinds w_code_firsts w_code_seconds w_code_ints w_code_counting w_code_length w_steps_numbers w_steps_length w_pieces_numbers w_pieces_length w_valueIn w_registerOf w_slotOf w_pieceOf w_upcoming w_slotTaken w_registers w_slotCount) → va_S A s.heap H locs → lv_has ls 7 [(3, .int o9)] → W p l e rmX0_registerToLose s m args below meth c H locs 0 0 Z (F0 m 74 ls [])) → W p l e rmX0_registerToLose s m args below meth c H locs 0 0 Z (F0 m 5 ls []) := by
    intro n
    induction n with
    | zero =>
      intro x4_L5 x3_L5 o9 hf
      rw [f_X0_registerToLose_L5] at hf
      cases hf
    | succ n ih =>
      intro x4_L5 x3_L5 o9 hf H locs ls hP hD hS hl kx
      rw [f_X0_registerToLose_L5] at hf
      refine lv_iload hx hb dX0_registerToLose_5 (lv_at hl 0 rfl) ?_
      refine lv_aload_n hx hb dX0_registerToLose_7 rfl (lv_at hl 2 rfl) ?_
      refine va_get (D := D) (ci := 0) (v := .int w_registers) (C := RX0) (T := TX0) (N := 11) hx hb hts i_X0 hown hK hP 0 rfl rfl 9 (by decide) k47 (fun _ h9 => h9) rfl dX0_registerToLose_8 ?_
      refine lv_icmp_ge (tgt := 74) hx hb dX0_registerToLose_11 (by decide) (fun c_11 => ?_) (fun c_11 => ?_)
      · have hf := kit c_11 hf
        obtain rfl := Option.some.inj hf
        exact kx _ _ _ hP hD hS (lv_sub hl [1] rfl)
      · have hf := kif c_11 hf
        refine lv_aload_n hx hb dX0_registerToLose_14 rfl (lv_at hl 2 rfl) ?_
        refine lv_iload hx hb dX0_registerToLose_15 (lv_at hl 0 rfl) ?_
        obtain ⟨u17, hf17, hf⟩ := kbd hf
        refine kc_Vi (As := [.int x4_L5]) (rest := []) (wf := (PX0 a0 a1 a2 a3 a4 a5 a6 a7 a8 a9 a10 a11 a12 a13 a14 a15 a16 cyI cyZ w_code_kinds w_code_firsts w_code_seconds w_code_ints w_code_counting w_code_length w_steps_numbers w_steps_length w_pieces_numbers w_pieces_length w_valueIn w_registerOf w_slotOf w_pieceOf w_upcoming w_slotTaken w_registers w_slotCount)) (c_X0_valueHeldIn l D cyI cyZ a0 a1 a2 a3 a4 a5 a6 a7 a8 a9 a10 a11 a12 a13 a14 a15 a16 w_code_kinds w_code_firsts w_code_seconds w_code_ints w_code_counting w_code_length w_steps_numbers w_steps_length w_pieces_numbers w_pieces_length w_valueIn w_registerOf w_slotOf w_pieceOf w_upcoming w_slotTaken w_registers w_slotCount x4_L5 u17 hf17) ⟨hx, hb, hml, hown, hts⟩ (cwV 1 hts gX0_registerToLose_X0_valueHeldIn rfl rfl rfl (by decide +kernel) ⟨Nat.le_of_ble_eq_true rfl, Nat.le_of_ble_eq_true rfl⟩) hK hP hD hS hA [0, 1, 2, 3, 4, 5, 6, 7, 8, 9, 10, 11, 12, 13, 14, 15, 16] [] 17 rfl rfl kR0 rfl (by decide +kernel) rfl rfl rfl rfl hl.1 rfl (Nat.le_of_ble_eq_true rfl) dX0_registerToLose_17 ⟨Nat.le_of_ble_eq_true rfl, Nat.le_of_ble_eq_true rfl⟩ (fun H locs hP hD hS => ?_)
        refine lv_istore (lv' := [(5, .int u17), (4, .int x4_L5), (3, .int x3_L5), (0, .ref a0), (1, .int p1), (2, .int p2)]) hx hb dX0_registerToLose_20 hl (by decide) rfl (fun ls hl => ?_)
        refine lv_iload hx hb dX0_registerToLose_22 (lv_at hl 0 rfl) ?_
        refine lv_iload_n hx hb dX0_registerToLose_24 rfl (lv_at hl 4 rfl) ?_
        refine lv_icmp_eq (tgt := 38) hx hb dX0_registerToLose_25 (by decide) (fun c_25 => ?_) (fun c_25 => ?_)
        · have hf := kit c_25 hf
          refine lv_iconst (v := 0) hx hb dX0_registerToLose_38 (by decide) ?_
          refine lv_istore (lv' := [(6, .int 0), (5, .int u17), (4, .int x4_L5), (3, .int x3_L5), (0, .ref a0), (1, .int p1), (2, .int p2)]) hx hb dX0_registerToLose_39 hl (by decide) rfl (fun ls hl => ?_)
          refine lv_iload hx hb dX0_registerToLose_41 (lv_at hl 0 rfl) ?_
          refine lv_if_eq (tgt := 68) hx hb dX0_registerToLose_43 (by decide) (fun c_43 => ?_) (fun c_43 => ?_)
          · refine lv_iinc (v := (x4_L5 + 1)) (lv' := [(4, .int (x4_L5 + 1)), (6, .int 0), (5, .int u17), (3, .int x3_L5), (0, .ref a0), (1, .int p1), (2, .int p2)]) hx hb dX0_registerToLose_68 hl (k := 2) rfl rfl (by decide) rfl (fun ls hl => ?_)
            refine lv_goto (tgt := 5) hx hb dX0_registerToLose_71 (by decide) ?_
            exact ih (x4_L5 + 1) x3_L5 _ hf _ _ _ hP hD hS (lv_sub hl [0, 3, 4, 5, 6] rfl) kx
          · exact absurd c_43 (by decide)
        · have hf := kif c_25 hf
          refine lv_iload hx hb dX0_registerToLose_28 (lv_at hl 0 rfl) ?_
          refine lv_iload_n hx hb dX0_registerToLose_30 rfl (lv_at hl 5 rfl) ?_
          refine lv_icmp_eq (tgt := 38) hx hb dX0_registerToLose_31 (by decide) (fun c_31 => ?_) (fun c_31 => ?_)
          · have hf := kit c_31 hf
            refine lv_iconst (v := 0) hx hb dX0_registerToLose_38 (by decide) ?_
            refine lv_istore (lv' := [(6, .int 0), (5, .int u17), (4, .int x4_L5), (3, .int x3_L5), (0, .ref a0), (1, .int p1), (2, .int p2)]) hx hb dX0_registerToLose_39 hl (by decide) rfl (fun ls hl => ?_)
            refine lv_iload hx hb dX0_registerToLose_41 (lv_at hl 0 rfl) ?_
            refine lv_if_eq (tgt := 68) hx hb dX0_registerToLose_43 (by decide) (fun c_43 => ?_) (fun c_43 => ?_)
            · refine lv_iinc (v := (x4_L5 + 1)) (lv' := [(4, .int (x4_L5 + 1)), (6, .int 0), (5, .int u17), (3, .int x3_L5), (0, .ref a0), (1, .int p1), (2, .int p2)]) hx hb dX0_registerToLose_68 hl (k := 2) rfl rfl (by decide) rfl (fun ls hl => ?_)
              refine lv_goto (tgt := 5) hx hb dX0_registerToLose_71 (by decide) ?_
              exact ih (x4_L5 + 1) x3_L5 _ hf _ _ _ hP hD hS (lv_sub hl [0, 3, 4, 5, 6] rfl) kx
            · exact absurd c_43 (by decide)
          · have hf := kif c_31 hf
            refine lv_iconst (v := 1) hx hb dX0_registerToLose_34 (by decide) ?_
            refine lv_goto (tgt := 39) hx hb dX0_registerToLose_35 (by decide) ?_
            refine lv_istore (lv' := [(6, .int 1), (5, .int u17), (4, .int x4_L5), (3, .int x3_L5), (0, .ref a0), (1, .int p1), (2, .int p2)]) hx hb dX0_registerToLose_39 hl (by decide) rfl (fun ls hl => ?_)
            refine lv_iload hx hb dX0_registerToLose_41 (lv_at hl 0 rfl) ?_
            refine lv_if_eq (tgt := 68) hx hb dX0_registerToLose_43 (by decide) (fun c_43 => ?_) (fun c_43 => ?_)
            · exact absurd c_43 (by decide)
            · refine lv_iload_n hx hb dX0_registerToLose_46 rfl (lv_at hl 3 rfl) ?_
              refine lv_iconst (v := (-1)) hx hb dX0_registerToLose_47 (by decide) ?_
              refine lv_icmp_eq (tgt := 65) hx hb dX0_registerToLose_48 (by decide) (fun c_48 => ?_) (fun c_48 => ?_)
              · have hf := kit c_48 hf
                refine lv_iload hx hb dX0_registerToLose_65 (lv_at hl 2 rfl) ?_
                refine lv_istore_n (lv' := [(3, .int x4_L5), (6, .int 1), (5, .int u17), (4, .int x4_L5), (0, .ref a0), (1, .int p1), (2, .int p2)]) hx hb dX0_registerToLose_67 rfl hl (by decide) rfl (fun ls hl => ?_)
                refine lv_iinc (v := (x4_L5 + 1)) (lv' := [(4, .int (x4_L5 + 1)), (3, .int x4_L5), (6, .int 1), (5, .int u17), (0, .ref a0), (1, .int p1), (2, .int p2)]) hx hb dX0_registerToLose_68 hl (k := 3) rfl rfl (by decide) rfl (fun ls hl => ?_)
                refine lv_goto (tgt := 5) hx hb dX0_registerToLose_71 (by decide) ?_
                exact ih (x4_L5 + 1) x4_L5 _ hf _ _ _ hP hD hS (lv_sub hl [0, 1, 4, 5, 6] rfl) kx
              · have hf := kif c_48 hf
                refine lv_aload_n hx hb dX0_registerToLose_51 rfl (lv_at hl 4 rfl) ?_
                refine lv_iload hx hb dX0_registerToLose_52 (lv_at hl 1 rfl) ?_
                refine lv_aload_n hx hb dX0_registerToLose_54 rfl (lv_at hl 4 rfl) ?_
                refine lv_iload_n hx hb dX0_registerToLose_55 rfl (lv_at hl 3 rfl) ?_
                obtain ⟨u56, hf56, hf⟩ := kbd hf
                refine kc_Vi (As := [.int x3_L5]) (rest := [.int u17, .ref a0]) (wf := (PX0 a0 a1 a2 a3 a4 a5 a6 a7 a8 a9 a10 a11 a12 a13 a14 a15 a16 cyI cyZ w_code_kinds w_code_firsts w_code_seconds w_code_ints w_code_counting w_code_length w_steps_numbers w_steps_length w_pieces_numbers w_pieces_length w_valueIn w_registerOf w_slotOf w_pieceOf w_upcoming w_slotTaken w_registers w_slotCount)) (c_X0_valueHeldIn l D cyI cyZ a0 a1 a2 a3 a4 a5 a6 a7 a8 a9 a10 a11 a12 a13 a14 a15 a16 w_code_kinds w_code_firsts w_code_seconds w_code_ints w_code_counting w_code_length w_steps_numbers w_steps_length w_pieces_numbers w_pieces_length w_valueIn w_registerOf w_slotOf w_pieceOf w_upcoming w_slotTaken w_registers w_slotCount x3_L5 u56 hf56) ⟨hx, hb, hml, hown, hts⟩ (cwV 1 hts gX0_registerToLose_X0_valueHeldIn rfl rfl rfl (by decide +kernel) ⟨Nat.le_of_ble_eq_true rfl, Nat.le_of_ble_eq_true rfl⟩) hK hP hD hS hA [0, 1, 2, 3, 4, 5, 6, 7, 8, 9, 10, 11, 12, 13, 14, 15, 16] [] 17 rfl rfl kR0 rfl (by decide +kernel) rfl rfl rfl rfl hl.1 rfl (Nat.le_of_ble_eq_true rfl) dX0_registerToLose_56 ⟨Nat.le_of_ble_eq_true rfl, Nat.le_of_ble_eq_true rfl⟩ (fun H locs hP hD hS => ?_)
                obtain ⟨u59, hf59, hf⟩ := kbd hf
                refine kc_Vi (As := [.int u17, .int u56]) (rest := []) (wf := (PX0 a0 a1 a2 a3 a4 a5 a6 a7 a8 a9 a10 a11 a12 a13 a14 a15 a16 cyI cyZ w_code_kinds w_code_firsts w_code_seconds w_code_ints w_code_counting w_code_length w_steps_numbers w_steps_length w_pieces_numbers w_pieces_length w_valueIn w_registerOf w_slotOf w_pieceOf w_upcoming w_slotTaken w_registers w_slotCount)) (c_X0_losesBefore l D cyI cyZ a0 a1 a2 a3 a4 a5 a6 a7 a8 a9 a10 a11 a12 a13 a14 a15 a16 w_code_kinds w_code_firsts w_code_seconds w_code_ints w_code_counting w_code_length w_steps_numbers w_steps_length w_pieces_numbers w_pieces_length w_valueIn w_registerOf w_slotOf w_pieceOf w_upcoming w_slotTaken w_registers w_slotCount u17 u56 u59 hf59) ⟨hx, hb, hml, hown, hts⟩ (cwV 2 hts gX0_registerToLose_X0_losesBefore rfl rfl rfl (by decide +kernel) ⟨Nat.le_of_ble_eq_true rfl, Nat.le_of_ble_eq_true rfl⟩) hK hP hD hS hA [0, 1, 2, 3, 4, 5, 6, 7, 8, 9, 10, 11, 12, 13, 14, 15, 16] [] 17 rfl rfl kR0 rfl (by decide +kernel) rfl rfl rfl rfl hl.1 rfl (Nat.le_of_ble_eq_true rfl) dX0_registerToLose_59 ⟨Nat.le_of_ble_eq_true rfl, Nat.le_of_ble_eq_true rfl⟩ (fun H locs hP hD hS => ?_)
                refine lv_if_eq (tgt := 68) hx hb dX0_registerToLose_62 (by decide) (fun c_62 => ?_) (fun c_62 => ?_)
                · have hf := kit c_62 hf
                  refine lv_iinc (v := (x4_L5 + 1)) (lv' := [(4, .int (x4_L5 + 1)), (6, .int 1), (5, .int u17), (3, .int x3_L5), (0, .ref a0), (1, .int p1), (2, .int p2)]) hx hb dX0_registerToLose_68 hl (k := 2) rfl rfl (by decide) rfl (fun ls hl => ?_)
                  refine lv_goto (tgt := 5) hx hb dX0_registerToLose_71 (by decide) ?_
                  exact ih (x4_L5 + 1) x3_L5 _ hf _ _ _ hP hD hS (lv_sub hl [0, 3, 4, 5, 6] rfl) kx
                · have hf := kif c_62 hf
                  refine lv_iload hx hb dX0_registerToLose_65 (lv_at hl 2 rfl) ?_
                  refine lv_istore_n (lv' := [(3, .int x4_L5), (6, .int 1), (5, .int u17), (4, .int x4_L5), (0, .ref a0), (1, .int p1), (2, .int p2)]) hx hb dX0_registerToLose_67 rfl hl (by decide) rfl (fun ls hl => ?_)
                  refine lv_iinc (v := (x4_L5 + 1)) (lv' := [(4, .int (x4_L5 + 1)), (3, .int x4_L5), (6, .int 1), (5, .int u17), (0, .ref a0), (1, .int p1), (2, .int p2)]) hx hb dX0_registerToLose_68 hl (k := 3) rfl rfl (by decide) rfl (fun ls hl => ?_)
                  refine lv_goto (tgt := 5) hx hb dX0_registerToLose_71 (by decide) ?_
                  exact ih (x4_L5 + 1) x4_L5 _ hf _ _ _ hP hD hS (lv_sub hl [0, 1, 4, 5, 6] rfl) kx
  obtain ⟨v5, hf5, hf⟩ := kbd hf
  refine L5 4000 0 (-1) v5 hf5 _ _ _ hP hD hS (lv_sub hl [0, 1, 2, 3, 4] rfl) (fun H locs ls hP hD hS hl => ?_)
  refine lv_iload_n hx hb dX0_registerToLose_74 rfl (lv_at hl 0 rfl) ?_
  obtain rfl := Option.some.inj hf
  exact ret _ _ _ _ dX0_registerToLose_75 rfl hP hD hS

abbrev rmX0_smallestFreeSlot : Room := { frames := 0, cells := 0, slots := 0, locals := 0 }
set_option maxHeartbeats 4000000 in
set_option maxRecDepth 100000 in
theorem c_X0_smallestFreeSlot (l : Launch) (D : va_G) (cyI cyZ : ClassId) (a0 a1 a2 a3 a4 a5 a6 a7 a8 a9 a10 a11 a12 a13 a14 a15 a16 : Nat) (w_code_kinds : Nat → Int32) (w_code_firsts : Nat → Int32) (w_code_seconds : Nat → Int32) (w_code_ints : Nat → Int32) (w_code_counting : Nat → Int32) (w_code_length : Int32) (w_steps_numbers : Nat → Int32) (w_steps_length : Int32) (w_pieces_numbers : Nat → Int32) (w_pieces_length : Int32) (w_valueIn : Nat → Int32) (w_registerOf : Nat → Int32) (w_slotOf : Nat → Int32) (w_pieceOf : Nat → Int32) (w_upcoming : Nat → Int32) (w_slotTaken : Nat → Int32) (w_registers : Int32) (w_slotCount : Int32) (o : Int32) (hf : f_X0_smallestFreeSlot w_slotTaken = some o) : kMi l yX0_smallestFreeSlot wsX0_smallestFreeSlot rmX0_smallestFreeSlot [.ref a0] D (PX0 a0 a1 a2 a3 a4 a5 a6 a7 a8 a9 a10 a11 a12 a13 a14 a15 a16 cyI cyZ w_code_kinds w_code_firsts w_code_seconds w_code_ints w_code_counting w_code_length w_steps_numbers w_steps_length w_pieces_numbers w_pieces_length w_valueIn w_registerOf w_slotOf w_pieceOf w_upcoming w_slotTaken w_registers w_slotCount) (PX0 a0 a1 a2 a3 a4 a5 a6 a7 a8 a9 a10 a11 a12 a13 a14 a15 a16 cyI cyZ w_code_kinds w_code_firsts w_code_seconds w_code_ints w_code_counting w_code_length w_steps_numbers w_steps_length w_pieces_numbers w_pieces_length w_valueIn w_registerOf w_slotOf w_pieceOf w_upcoming w_slotTaken w_registers w_slotCount) (kT cyI cyZ) o 0 0 := by
  refine kOf_i (cc := cX0_smallestFreeSlot) (maxL := 2) (ty := .int) (by decide +kernel) rfl (Nat.le_of_ble_eq_true rfl) ?_
  intro p e s m args below meth c A Z ls C0 hP hK hD hA hl ret
  obtain ⟨hx, hb, hr, hml, hown, hts, hlocks⟩ := C0
  have hown : s.vm.findClass RX0 = some m.cls := hown
  have hl : lv_has ls 2 [(0, .ref a0)] := hl
  have hS : va_S A s.heap s.heap [] := va_S.rf
  have i_X0 : ∀ w ∈ wsX00, w ∈ wsX0_smallestFreeSlot := by decide +kernel
  have k43 := hts (.fieldLink RX0 43 "RegisterAllocator$Allocation" "slotTaken" "[Z") (by decide +kernel)
  rw [f_X0_smallestFreeSlot] at hf
  refine lv_iconst (v := 0) hx hb dX0_smallestFreeSlot_0 (by decide) ?_
  refine lv_istore_n (lv' := [(1, .int 0), (0, .ref a0)]) hx hb dX0_smallestFreeSlot_1 rfl hl (by decide) rfl (fun ls hl => ?_)
  have L2 : ∀ (n : Nat) (x1_L2 : Int32) (_ : f_X0_smallestFreeSlot_L2 w_slotTaken n x1_L2 = some o) (H : Heap) (locs : List Loc) (ls : Array Slot), va_P D vwCl (PX0 a0 a1 a2 a3 a4 a5 a6 a7 a8 a9 a10 a11 a12 a13 a14 a15 a16 cyI cyZ w_code_kinds w_code_firsts w_code_seconds w_code_ints w_code_counting w_code_length w_steps_numbers w_steps_length w_pieces_numbers w_pieces_length w_valueIn w_registerOf w_slotOf w_pieceOf w_upcoming w_slotTaken w_registers w_slotCount) H → va_D A (PX0 a0 a1 a2 a3 a4 a5 a6 a7 a8 a9 a10 a11 a12 a13 a14 a15 a16 cyI cyZ w_code_kinds w_code_firsts w_code_seconds w_code_ints w_code_counting w_code_length w_steps_numbers w_steps_length w_pieces_numbers w_pieces_length w_valueIn w_registerOf w_slotOf w_pieceOf w_upcoming w_slotTaken w_registers w_slotCount) → va_S A s.heap H locs → lv_has ls 2 [(1, .int x1_L2), (0, .ref a0)] → W p l e rmX0_smallestFreeSlot s m args below meth c H locs 0 0 Z (F0 m 2 ls []) := by
    intro n
    induction n with
    | zero =>
      intro x1_L2 hf
      rw [f_X0_smallestFreeSlot_L2] at hf
      cases hf
    | succ n ih =>
      intro x1_L2 hf H locs ls hP hD hS hl
      rw [f_X0_smallestFreeSlot_L2] at hf
      refine lv_iload_n hx hb dX0_smallestFreeSlot_2 rfl (lv_at hl 0 rfl) ?_
      refine lv_bipush (v := 60) hx hb dX0_smallestFreeSlot_3 (by decide) ?_
      refine lv_icmp_ge (tgt := 25) hx hb dX0_smallestFreeSlot_5 (by decide) (fun c_5 => ?_) (fun c_5 => ?_)
      · have hf := kit c_5 hf
        refine lv_iconst (v := (-1)) hx hb dX0_smallestFreeSlot_25 (by decide) ?_
        obtain rfl := Option.some.inj hf
        exact ret _ _ _ _ dX0_smallestFreeSlot_26 rfl hP hD hS
      · have hf := kif c_5 hf
        refine lv_aload_n hx hb dX0_smallestFreeSlot_8 rfl (lv_at hl 1 rfl) ?_
        refine va_get (D := D) (ci := 0) (v := .ref a16) (C := RX0) (T := TX0) (N := 11) hx hb hts i_X0 hown hK hP 0 rfl rfl 8 (by decide) k43 (fun _ h9 => h9) rfl dX0_smallestFreeSlot_9 ?_
        refine lv_iload_n hx hb dX0_smallestFreeSlot_12 rfl (lv_at hl 0 rfl) ?_
        obtain ⟨h_13, hf⟩ := rdc_some hf
        refine va_zald hx hb hK hP 16 1 rfl rfl h_13 dX0_smallestFreeSlot_13 ?_
        refine lv_if_ne (tgt := 19) hx hb dX0_smallestFreeSlot_14 (by decide) (fun c_14 => ?_) (fun c_14 => ?_)
        · have hf := kif c_14 hf
          refine lv_iinc (v := (x1_L2 + 1)) (lv' := [(1, .int (x1_L2 + 1)), (0, .ref a0)]) hx hb dX0_smallestFreeSlot_19 hl (k := 0) rfl rfl (by decide) rfl (fun ls hl => ?_)
          refine lv_goto (tgt := 2) hx hb dX0_smallestFreeSlot_22 (by decide) ?_
          exact ih (x1_L2 + 1) hf _ _ _ hP hD hS (lv_sub hl [0, 1] rfl)
        · have hf := kit c_14 hf
          refine lv_iload_n hx hb dX0_smallestFreeSlot_17 rfl (lv_at hl 0 rfl) ?_
          obtain rfl := Option.some.inj hf
          exact ret _ _ _ _ dX0_smallestFreeSlot_18 rfl hP hD hS
  exact L2 4000 0 hf _ _ _ hP hD hS (lv_sub hl [0, 1] rfl)

abbrev rmX0_storeIfNeeded : Room := { frames := 2, cells := 0, slots := 0, locals := 45 }
set_option maxHeartbeats 4000000 in
set_option maxRecDepth 100000 in
theorem c_X0_storeIfNeeded (l : Launch) (D : va_G) (cyI cyZ : ClassId) (a0 a1 a2 a3 a4 a5 a6 a7 a8 a9 a10 a11 a12 a13 a14 a15 a16 : Nat) (w_code_kinds : Nat → Int32) (w_code_firsts : Nat → Int32) (w_code_seconds : Nat → Int32) (w_code_ints : Nat → Int32) (w_code_counting : Nat → Int32) (w_code_length : Int32) (w_steps_numbers : Nat → Int32) (w_steps_length : Int32) (w_pieces_numbers : Nat → Int32) (w_pieces_length : Int32) (w_valueIn : Nat → Int32) (w_registerOf : Nat → Int32) (w_slotOf : Nat → Int32) (w_pieceOf : Nat → Int32) (w_upcoming : Nat → Int32) (w_slotTaken : Nat → Int32) (w_registers : Int32) (w_slotCount : Int32) (p1 : Int32) (p2 : Int32) (o : (Nat → Int32) × Int32 × (Nat → Int32) × (Nat → Int32) × (Nat → Int32) × Int32) (hf : f_X0_storeIfNeeded p1 p2 w_code_kinds w_code_length w_steps_numbers w_steps_length w_pieces_numbers w_pieces_length w_slotOf w_pieceOf w_slotTaken w_slotCount = some o) : kMv l yX0_storeIfNeeded wsX0_storeIfNeeded rmX0_storeIfNeeded [.ref a0, .int p1, .int p2] D (PX0 a0 a1 a2 a3 a4 a5 a6 a7 a8 a9 a10 a11 a12 a13 a14 a15 a16 cyI cyZ w_code_kinds w_code_firsts w_code_seconds w_code_ints w_code_counting w_code_length w_steps_numbers w_steps_length w_pieces_numbers w_pieces_length w_valueIn w_registerOf w_slotOf w_pieceOf w_upcoming w_slotTaken w_registers w_slotCount) (PX0 a0 a1 a2 a3 a4 a5 a6 a7 a8 a9 a10 a11 a12 a13 a14 a15 a16 cyI cyZ w_code_kinds w_code_firsts w_code_seconds w_code_ints w_code_counting w_code_length o.1 o.2.1 o.2.2.1 w_pieces_length w_valueIn w_registerOf o.2.2.2.1 w_pieceOf w_upcoming o.2.2.2.2.1 w_registers o.2.2.2.2.2) (kT cyI cyZ) 0 0 := by
  refine kOf_v (cc := cX0_storeIfNeeded) (maxL := 5) (by decide +kernel) rfl (Nat.le_of_ble_eq_true rfl) ?_
  intro p e s m args below meth c A Z ls C0 hP hK hD hA hl ret
  obtain ⟨hx, hb, hr, hml, hown, hts, hlocks⟩ := C0
  have hown : s.vm.findClass RX0 = some m.cls := hown
  have hl : lv_has ls 5 [(0, .ref a0), (1, .int p1), (2, .int p2)] := hl
  have hS : va_S A s.heap s.heap [] := va_S.rf
  have i_X0 : ∀ w ∈ wsX00, w ∈ wsX0_storeIfNeeded := by decide +kernel
  have k20 := hts (.fieldLink RX0 20 "RegisterAllocator$Allocation" "steps" "LRegisterAllocator$Rows;") (by decide +kernel)
  have k24 := hts (.fieldLink RX0 24 "RegisterAllocator$Allocation" "pieces" "LRegisterAllocator$Rows;") (by decide +kernel)
  have k34 := hts (.fieldLink RX0 34 "RegisterAllocator$Allocation" "slotOf" "[I") (by decide +kernel)
  have k37 := hts (.fieldLink RX0 37 "RegisterAllocator$Allocation" "pieceOf" "[I") (by decide +kernel)
  have k43 := hts (.fieldLink RX0 43 "RegisterAllocator$Allocation" "slotTaken" "[Z") (by decide +kernel)
  have k51 := hts (.fieldLink RX0 51 "RegisterAllocator$Allocation" "slotCount" "I") (by decide +kernel)
  have k9 := hts (.fieldLink RX0 9 "RegisterAllocator$Allocation" "code" "LRegisterAllocator$Code;") (by decide +kernel)
  have km85 := hts (.methodLink RX0 85 Lib.Math.max.name) (by decide +kernel)
  have kmc_max := hts (.code Lib.Math.max.name Lib.Math.max.code 2 (some .int)) (by decide +kernel)
  have kmi := hts (.initialized "java/lang/Math") (by decide +kernel)
  have kms_max := hts (.static Lib.Math.max.name) (by decide +kernel)
  rw [f_X0_storeIfNeeded] at hf
  refine lv_iload_n hx hb dX0_storeIfNeeded_0 rfl (lv_at hl 1 rfl) ?_
  obtain ⟨u1, hf1, hf⟩ := kbd hf
  refine kc_Si (As := [.int p1]) (rest := []) (wf := (PX0 a0 a1 a2 a3 a4 a5 a6 a7 a8 a9 a10 a11 a12 a13 a14 a15 a16 cyI cyZ w_code_kinds w_code_firsts w_code_seconds w_code_ints w_code_counting w_code_length w_steps_numbers w_steps_length w_pieces_numbers w_pieces_length w_valueIn w_registerOf w_slotOf w_pieceOf w_upcoming w_slotTaken w_registers w_slotCount)) (c_X0_isRow l D cyI cyZ 0 p1 u1 hf1) ⟨hx, hb, hml, hown, hts⟩ (cwS 1 hts gX0_storeIfNeeded_X0_isRow rfl rfl rfl (by decide +kernel) ⟨Nat.le_of_ble_eq_true rfl, Nat.le_of_ble_eq_true rfl⟩) hK hP hD hS hA [] [0, 1, 2, 3, 4, 5, 6, 7, 8, 9, 10, 11, 12, 13, 14, 15, 16] 17 rfl rfl (kR1 _ rfl rfl (kR1 _ rfl rfl (kR1 _ rfl rfl (kR1 _ rfl rfl (kR1 _ rfl rfl (kR1 _ rfl rfl (kR1 _ rfl rfl (kR1 _ rfl rfl (kR1 _ rfl rfl (kR1 _ rfl rfl (kR1 _ rfl rfl (kR1 _ rfl rfl (kR1 _ rfl rfl (kR1 _ rfl rfl (kR1 _ rfl rfl (kR1 _ rfl rfl (kR1 _ rfl rfl kR0))))))))))))))))) rfl (by decide +kernel) rfl hl.1 rfl (Nat.le_of_ble_eq_true rfl) dX0_storeIfNeeded_1 ⟨Nat.le_of_ble_eq_true rfl, Nat.le_of_ble_eq_true rfl⟩ (fun H locs hP hD hS => ?_)
  refine lv_if_eq (tgt := 28) hx hb dX0_storeIfNeeded_4 (by decide) (fun c_4 => ?_) (fun c_4 => ?_)
  · have hf := kit c_4 hf
    obtain rfl := Option.some.inj hf
    exact ret _ _ _ _ dX0_storeIfNeeded_28 hP hD hS
  · have hf := kif c_4 hf
    refine lv_aload_n hx hb dX0_storeIfNeeded_7 rfl (lv_at hl 0 rfl) ?_
    refine va_get (D := D) (ci := 0) (v := .ref a1) (C := RX0) (T := TX0) (N := 11) hx hb hts i_X0 hown hK hP 0 rfl rfl 0 (by decide) k9 (fun _ h9 => h9) rfl dX0_storeIfNeeded_8 ?_
    refine lv_iload_n hx hb dX0_storeIfNeeded_11 rfl (lv_at hl 1 rfl) ?_
    obtain ⟨u12, hf12, hf⟩ := kbd hf
    refine kc_Vi (As := [.int p1]) (rest := []) (wf := (PX0 a0 a1 a2 a3 a4 a5 a6 a7 a8 a9 a10 a11 a12 a13 a14 a15 a16 cyI cyZ w_code_kinds w_code_firsts w_code_seconds w_code_ints w_code_counting w_code_length w_steps_numbers w_steps_length w_pieces_numbers w_pieces_length w_valueIn w_registerOf w_slotOf w_pieceOf w_upcoming w_slotTaken w_registers w_slotCount)) (c_X1_isConst l D cyI cyZ a1 a2 a3 a4 a5 a6 w_code_kinds w_code_firsts w_code_seconds w_code_ints w_code_counting w_code_length p1 u12 hf12) ⟨hx, hb, hml, hown, hts⟩ (cwV 1 hts gX0_storeIfNeeded_X1_isConst rfl rfl rfl (by decide +kernel) ⟨Nat.le_of_ble_eq_true rfl, Nat.le_of_ble_eq_true rfl⟩) hK hP hD hS hA [1, 2, 3, 4, 5, 6] [0, 7, 8, 9, 10, 11, 12, 13, 14, 15, 16] 17 rfl rfl (kR1 _ rfl rfl (kR1 _ rfl rfl (kR1 _ rfl rfl (kR1 _ rfl rfl (kR1 _ rfl rfl (kR1 _ rfl rfl (kR1 _ rfl rfl (kR1 _ rfl rfl (kR1 _ rfl rfl (kR1 _ rfl rfl (kR1 _ rfl rfl kR0))))))))))) rfl (by decide +kernel) rfl rfl rfl rfl hl.1 rfl (Nat.le_of_ble_eq_true rfl) dX0_storeIfNeeded_12 ⟨Nat.le_of_ble_eq_true rfl, Nat.le_of_ble_eq_true rfl⟩ (fun H locs hP hD hS => ?_)
    refine lv_if_ne (tgt := 28) hx hb dX0_storeIfNeeded_15 (by decide) (fun c_15 => ?_) (fun c_15 => ?_)
    · have hf := kif c_15 hf
      obtain rfl := Option.some.inj hf
      exact ret _ _ _ _ dX0_storeIfNeeded_28 hP hD hS
    · have hf := kit c_15 hf
      refine lv_aload_n hx hb dX0_storeIfNeeded_18 rfl (lv_at hl 0 rfl) ?_
      refine va_get (D := D) (ci := 0) (v := .ref a13) (C := RX0) (T := TX0) (N := 11) hx hb hts i_X0 hown hK hP 0 rfl rfl 5 (by decide) k34 (fun _ h9 => h9) rfl dX0_storeIfNeeded_19 ?_
      refine lv_iload_n hx hb dX0_storeIfNeeded_22 rfl (lv_at hl 1 rfl) ?_
      obtain ⟨h_23, hf⟩ := rdc_some hf
      refine va_iald hx hb hK hP 13 0 rfl rfl h_23 dX0_storeIfNeeded_23 ?_
      refine lv_iconst (v := (-1)) hx hb dX0_storeIfNeeded_24 (by decide) ?_
      refine lv_icmp_eq (tgt := 29) hx hb dX0_storeIfNeeded_25 (by decide) (fun c_25 => ?_) (fun c_25 => ?_)
      · have hf := kit c_25 hf
        refine lv_aload_n hx hb dX0_storeIfNeeded_29 rfl (lv_at hl 0 rfl) ?_
        obtain ⟨u30, hf30, hf⟩ := kbd hf
        refine kc_Vi (As := []) (rest := []) (wf := (PX0 a0 a1 a2 a3 a4 a5 a6 a7 a8 a9 a10 a11 a12 a13 a14 a15 a16 cyI cyZ w_code_kinds w_code_firsts w_code_seconds w_code_ints w_code_counting w_code_length w_steps_numbers w_steps_length w_pieces_numbers w_pieces_length w_valueIn w_registerOf w_slotOf w_pieceOf w_upcoming w_slotTaken w_registers w_slotCount)) (c_X0_smallestFreeSlot l D cyI cyZ a0 a1 a2 a3 a4 a5 a6 a7 a8 a9 a10 a11 a12 a13 a14 a15 a16 w_code_kinds w_code_firsts w_code_seconds w_code_ints w_code_counting w_code_length w_steps_numbers w_steps_length w_pieces_numbers w_pieces_length w_valueIn w_registerOf w_slotOf w_pieceOf w_upcoming w_slotTaken w_registers w_slotCount u30 hf30) ⟨hx, hb, hml, hown, hts⟩ (cwV 0 hts gX0_storeIfNeeded_X0_smallestFreeSlot rfl rfl rfl (by decide +kernel) ⟨Nat.le_of_ble_eq_true rfl, Nat.le_of_ble_eq_true rfl⟩) hK hP hD hS hA [0, 1, 2, 3, 4, 5, 6, 7, 8, 9, 10, 11, 12, 13, 14, 15, 16] [] 17 rfl rfl kR0 rfl (by decide +kernel) rfl rfl rfl rfl hl.1 rfl (Nat.le_of_ble_eq_true rfl) dX0_storeIfNeeded_30 ⟨Nat.le_of_ble_eq_true rfl, Nat.le_of_ble_eq_true rfl⟩ (fun H locs hP hD hS => ?_)
        refine lv_istore_n (lv' := [(3, .int u30), (0, .ref a0), (1, .int p1), (2, .int p2)]) hx hb dX0_storeIfNeeded_33 rfl hl (by decide) rfl (fun ls hl => ?_)
        refine lv_iload_n hx hb dX0_storeIfNeeded_34 rfl (lv_at hl 0 rfl) ?_
        refine lv_iconst (v := (-1)) hx hb dX0_storeIfNeeded_35 (by decide) ?_
        refine lv_icmp_ne (tgt := 40) hx hb dX0_storeIfNeeded_36 (by decide) (fun c_36 => ?_) (fun c_36 => ?_)
        · have hf := kif c_36 hf
          refine lv_aload_n hx hb dX0_storeIfNeeded_40 rfl (lv_at hl 1 rfl) ?_
          refine va_get (D := D) (ci := 0) (v := .ref a16) (C := RX0) (T := TX0) (N := 11) hx hb hts i_X0 hown hK hP 0 rfl rfl 8 (by decide) k43 (fun _ h9 => h9) rfl dX0_storeIfNeeded_41 ?_
          refine lv_iload_n hx hb dX0_storeIfNeeded_44 rfl (lv_at hl 0 rfl) ?_
          refine lv_iconst (v := 1) hx hb dX0_storeIfNeeded_45 (by decide) ?_
          obtain ⟨h_46, hf⟩ := rdc_some hf
          refine kc_zast hx hb hK hP hD hS 16 1 rfl rfl knar1 h_46 dX0_storeIfNeeded_46 (fun H locs hP hD hS => ?_)
          have hP : va_P D vwCl (PX0 a0 a1 a2 a3 a4 a5 a6 a7 a8 a9 a10 a11 a12 a13 a14 a15 a16 cyI cyZ w_code_kinds w_code_firsts w_code_seconds w_code_ints w_code_counting w_code_length w_steps_numbers w_steps_length w_pieces_numbers w_pieces_length w_valueIn w_registerOf w_slotOf w_pieceOf w_upcoming (upd w_slotTaken u30.toNatClampNeg 1) w_registers w_slotCount) H := hP
          have hD : va_D A (PX0 a0 a1 a2 a3 a4 a5 a6 a7 a8 a9 a10 a11 a12 a13 a14 a15 a16 cyI cyZ w_code_kinds w_code_firsts w_code_seconds w_code_ints w_code_counting w_code_length w_steps_numbers w_steps_length w_pieces_numbers w_pieces_length w_valueIn w_registerOf w_slotOf w_pieceOf w_upcoming (upd w_slotTaken u30.toNatClampNeg 1) w_registers w_slotCount) := hD
          refine lv_aload_n hx hb dX0_storeIfNeeded_47 rfl (lv_at hl 1 rfl) ?_
          refine va_get (D := D) (ci := 0) (v := .ref a13) (C := RX0) (T := TX0) (N := 11) hx hb hts i_X0 hown hK hP 0 rfl rfl 5 (by decide) k34 (fun _ h9 => h9) rfl dX0_storeIfNeeded_48 ?_
          refine lv_iload_n hx hb dX0_storeIfNeeded_51 rfl (lv_at hl 2 rfl) ?_
          refine lv_iload_n hx hb dX0_storeIfNeeded_52 rfl (lv_at hl 0 rfl) ?_
          obtain ⟨h_53, hf⟩ := rdc_some hf
          refine va_iast hx hb hK hP hD hS 13 0 rfl rfl h_53 dX0_storeIfNeeded_53 (fun H locs hP hD hS => ?_)
          have hP : va_P D vwCl (PX0 a0 a1 a2 a3 a4 a5 a6 a7 a8 a9 a10 a11 a12 a13 a14 a15 a16 cyI cyZ w_code_kinds w_code_firsts w_code_seconds w_code_ints w_code_counting w_code_length w_steps_numbers w_steps_length w_pieces_numbers w_pieces_length w_valueIn w_registerOf (upd w_slotOf p1.toNatClampNeg u30) w_pieceOf w_upcoming (upd w_slotTaken u30.toNatClampNeg 1) w_registers w_slotCount) H := hP
          have hD : va_D A (PX0 a0 a1 a2 a3 a4 a5 a6 a7 a8 a9 a10 a11 a12 a13 a14 a15 a16 cyI cyZ w_code_kinds w_code_firsts w_code_seconds w_code_ints w_code_counting w_code_length w_steps_numbers w_steps_length w_pieces_numbers w_pieces_length w_valueIn w_registerOf (upd w_slotOf p1.toNatClampNeg u30) w_pieceOf w_upcoming (upd w_slotTaken u30.toNatClampNeg 1) w_registers w_slotCount) := hD
          refine lv_aload_n hx hb dX0_storeIfNeeded_54 rfl (lv_at hl 1 rfl) ?_
          refine lv_aload_n hx hb dX0_storeIfNeeded_55 rfl (lv_at hl 1 rfl) ?_
          refine va_get (D := D) (ci := 0) (v := .int w_slotCount) (C := RX0) (T := TX0) (N := 11) hx hb hts i_X0 hown hK hP 0 rfl rfl 10 (by decide) k51 (fun _ h9 => h9) rfl dX0_storeIfNeeded_56 ?_
          refine lv_iload_n hx hb dX0_storeIfNeeded_59 rfl (lv_at hl 0 rfl) ?_
          refine lv_iconst (v := 1) hx hb dX0_storeIfNeeded_60 (by decide) ?_
          refine lv_iadd hx hb dX0_storeIfNeeded_61 ?_
          refine va_mmax hx hb (hml.trans hl.1.symm) hown km85 kms_max kmi kmc_max (Nat.le_of_ble_eq_true rfl) (Nat.le_of_ble_eq_true rfl) (Nat.le_of_ble_eq_true rfl) (Nat.le_of_ble_eq_true rfl) dX0_storeIfNeeded_62 ?_
          refine va_put (D := D) (ci := 0) (v := .int (if w_slotCount < (u30 + 1) then (u30 + 1) else w_slotCount)) (ty := .int) (C := RX0) (T := TX0) (N := 11) hx hb hts i_X0 tyX0 tyX0_ok nmX0 hown hK hP hD hS 0 rfl rfl 10 (by decide) k51 (fun _ h9 => h9) rfl (by decide +kernel) rfl (by first | rfl | decide) (Nat.le_of_ble_eq_true rfl) dX0_storeIfNeeded_65 (fun H locs hP hD hS => ?_)
          have hP : va_P D vwCl (PX0 a0 a1 a2 a3 a4 a5 a6 a7 a8 a9 a10 a11 a12 a13 a14 a15 a16 cyI cyZ w_code_kinds w_code_firsts w_code_seconds w_code_ints w_code_counting w_code_length w_steps_numbers w_steps_length w_pieces_numbers w_pieces_length w_valueIn w_registerOf (upd w_slotOf p1.toNatClampNeg u30) w_pieceOf w_upcoming (upd w_slotTaken u30.toNatClampNeg 1) w_registers (if w_slotCount < (u30 + 1) then (u30 + 1) else w_slotCount)) H := hP
          have hD : va_D A (PX0 a0 a1 a2 a3 a4 a5 a6 a7 a8 a9 a10 a11 a12 a13 a14 a15 a16 cyI cyZ w_code_kinds w_code_firsts w_code_seconds w_code_ints w_code_counting w_code_length w_steps_numbers w_steps_length w_pieces_numbers w_pieces_length w_valueIn w_registerOf (upd w_slotOf p1.toNatClampNeg u30) w_pieceOf w_upcoming (upd w_slotTaken u30.toNatClampNeg 1) w_registers (if w_slotCount < (u30 + 1) then (u30 + 1) else w_slotCount)) := hD
          refine lv_aload_n hx hb dX0_storeIfNeeded_68 rfl (lv_at hl 1 rfl) ?_
          refine va_get (D := D) (ci := 0) (v := .ref a7) (C := RX0) (T := TX0) (N := 11) hx hb hts i_X0 hown hK hP 0 rfl rfl 1 (by decide) k20 (fun _ h9 => h9) rfl dX0_storeIfNeeded_69 ?_
          refine lv_bipush (v := 8) hx hb dX0_storeIfNeeded_72 (by decide) ?_
          refine lv_iload_n hx hb dX0_storeIfNeeded_74 rfl (lv_at hl 3 rfl) ?_
          refine lv_iload_n hx hb dX0_storeIfNeeded_75 rfl (lv_at hl 0 rfl) ?_
          refine lv_iconst (v := (-1)) hx hb dX0_storeIfNeeded_76 (by decide) ?_
          obtain ⟨⟨u77_0, u77_1, u77_2⟩, hf77, hf⟩ := kbd hf
          try dsimp only at hf
          refine kc_Vi (As := [.int 8, .int p2, .int u30, .int (-1)]) (rest := []) (wf := (PX0 a0 a1 a2 a3 a4 a5 a6 a7 a8 a9 a10 a11 a12 a13 a14 a15 a16 cyI cyZ w_code_kinds w_code_firsts w_code_seconds w_code_ints w_code_counting w_code_length u77_1 u77_2 w_pieces_numbers w_pieces_length w_valueIn w_registerOf (upd w_slotOf p1.toNatClampNeg u30) w_pieceOf w_upcoming (upd w_slotTaken u30.toNatClampNeg 1) w_registers (if w_slotCount < (u30 + 1) then (u30 + 1) else w_slotCount))) (c_X3_append l D cyI cyZ a7 a8 960 w_steps_numbers 240 w_steps_length 8 p2 u30 (-1) (u77_0, u77_1, u77_2) hf77) ⟨hx, hb, hml, hown, hts⟩ (cwV 4 hts gX0_storeIfNeeded_X3_append rfl rfl rfl (by decide +kernel) ⟨Nat.le_of_ble_eq_true rfl, Nat.le_of_ble_eq_true rfl⟩) hK hP hD hS hA [7, 8] [0, 1, 2, 3, 4, 5, 6, 9, 10, 11, 12, 13, 14, 15, 16] 17 rfl rfl (kR1 _ rfl rfl (kR1 _ rfl rfl (kR1 _ rfl rfl (kR1 _ rfl rfl (kR1 _ rfl rfl (kR1 _ rfl rfl (kR1 _ rfl rfl (kR1 _ rfl rfl (kR1 _ rfl rfl (kR1 _ rfl rfl (kR1 _ rfl rfl (kR1 _ rfl rfl (kR1 _ rfl rfl (kR1 _ rfl rfl (kR1 _ rfl rfl kR0))))))))))))))) rfl (by decide +kernel) rfl rfl rfl rfl hl.1 rfl (Nat.le_of_ble_eq_true rfl) dX0_storeIfNeeded_77 ⟨Nat.le_of_ble_eq_true rfl, Nat.le_of_ble_eq_true rfl⟩ (fun H locs hP hD hS => ?_)
          refine lv_istore (lv' := [(4, .int u77_0), (3, .int u30), (0, .ref a0), (1, .int p1), (2, .int p2)]) hx hb dX0_storeIfNeeded_80 hl (by decide) rfl (fun ls hl => ?_)
          refine lv_aload_n hx hb dX0_storeIfNeeded_82 rfl (lv_at hl 2 rfl) ?_
          refine va_get (D := D) (ci := 0) (v := .ref a9) (C := RX0) (T := TX0) (N := 11) hx hb hts i_X0 hown hK hP 0 rfl rfl 2 (by decide) k24 (fun _ h9 => h9) rfl dX0_storeIfNeeded_83 ?_
          refine lv_aload_n hx hb dX0_storeIfNeeded_86 rfl (lv_at hl 2 rfl) ?_
          refine va_get (D := D) (ci := 0) (v := .ref a14) (C := RX0) (T := TX0) (N := 11) hx hb hts i_X0 hown hK hP 0 rfl rfl 6 (by decide) k37 (fun _ h9 => h9) rfl dX0_storeIfNeeded_87 ?_
          refine lv_iload_n hx hb dX0_storeIfNeeded_90 rfl (lv_at hl 3 rfl) ?_
          obtain ⟨h_91, hf⟩ := rdc_some hf
          refine va_iald hx hb hK hP 14 0 rfl rfl h_91 dX0_storeIfNeeded_91 ?_
          refine lv_iconst (v := 3) hx hb dX0_storeIfNeeded_92 (by decide) ?_
          refine lv_iload hx hb dX0_storeIfNeeded_93 (lv_at hl 0 rfl) ?_
          obtain ⟨u95, hf95, hf⟩ := kbd hf
          refine kc_Vv (As := [.int (w_pieceOf p1.toNatClampNeg), .int 3, .int u77_0]) (rest := []) (wf := (PX0 a0 a1 a2 a3 a4 a5 a6 a7 a8 a9 a10 a11 a12 a13 a14 a15 a16 cyI cyZ w_code_kinds w_code_firsts w_code_seconds w_code_ints w_code_counting w_code_length u77_1 u77_2 u95 w_pieces_length w_valueIn w_registerOf (upd w_slotOf p1.toNatClampNeg u30) w_pieceOf w_upcoming (upd w_slotTaken u30.toNatClampNeg 1) w_registers (if w_slotCount < (u30 + 1) then (u30 + 1) else w_slotCount))) (c_X3_put l D cyI cyZ a9 a10 720 w_pieces_numbers 180 w_pieces_length (w_pieceOf p1.toNatClampNeg) 3 u77_0 u95 hf95) ⟨hx, hb, hml, hown, hts⟩ (cwV 3 hts gX0_storeIfNeeded_X3_put rfl rfl rfl (by decide +kernel) ⟨Nat.le_of_ble_eq_true rfl, Nat.le_of_ble_eq_true rfl⟩) hK hP hD hS hA [9, 10] [0, 1, 2, 3, 4, 5, 6, 7, 8, 11, 12, 13, 14, 15, 16] 17 rfl rfl (kR1 _ rfl rfl (kR1 _ rfl rfl (kR1 _ rfl rfl (kR1 _ rfl rfl (kR1 _ rfl rfl (kR1 _ rfl rfl (kR1 _ rfl rfl (kR1 _ rfl rfl (kR1 _ rfl rfl (kR1 _ rfl rfl (kR1 _ rfl rfl (kR1 _ rfl rfl (kR1 _ rfl rfl (kR1 _ rfl rfl (kR1 _ rfl rfl kR0))))))))))))))) rfl (by decide +kernel) rfl rfl rfl rfl hl.1 rfl (Nat.le_of_ble_eq_true rfl) dX0_storeIfNeeded_95 ⟨Nat.le_of_ble_eq_true rfl, Nat.le_of_ble_eq_true rfl⟩ (fun H locs hP hD hS => ?_)
          obtain rfl := Option.some.inj hf
          exact ret _ _ _ _ dX0_storeIfNeeded_98 hP hD hS
        · have hf := kit c_36 hf
          obtain rfl := Option.some.inj hf
          exact ret _ _ _ _ dX0_storeIfNeeded_39 hP hD hS
      · have hf := kif c_25 hf
        obtain rfl := Option.some.inj hf
        exact ret _ _ _ _ dX0_storeIfNeeded_28 hP hD hS

abbrev rmX0_registerHolding : Room := { frames := 1, cells := 0, slots := 0, locals := 20 }
set_option maxHeartbeats 4000000 in
set_option maxRecDepth 100000 in
theorem c_X0_registerHolding (l : Launch) (D : va_G) (cyI cyZ : ClassId) (a0 a1 a2 a3 a4 a5 a6 a7 a8 a9 a10 a11 a12 a13 a14 a15 a16 : Nat) (w_code_kinds : Nat → Int32) (w_code_firsts : Nat → Int32) (w_code_seconds : Nat → Int32) (w_code_ints : Nat → Int32) (w_code_counting : Nat → Int32) (w_code_length : Int32) (w_steps_numbers : Nat → Int32) (w_steps_length : Int32) (w_pieces_numbers : Nat → Int32) (w_pieces_length : Int32) (w_valueIn : Nat → Int32) (w_registerOf : Nat → Int32) (w_slotOf : Nat → Int32) (w_pieceOf : Nat → Int32) (w_upcoming : Nat → Int32) (w_slotTaken : Nat → Int32) (w_registers : Int32) (w_slotCount : Int32) (p1 : Int32) (o : Int32) (hf : f_X0_registerHolding p1 w_registerOf = some o) : kMi l yX0_registerHolding wsX0_registerHolding rmX0_registerHolding [.ref a0, .int p1] D (PX0 a0 a1 a2 a3 a4 a5 a6 a7 a8 a9 a10 a11 a12 a13 a14 a15 a16 cyI cyZ w_code_kinds w_code_firsts w_code_seconds w_code_ints w_code_counting w_code_length w_steps_numbers w_steps_length w_pieces_numbers w_pieces_length w_valueIn w_registerOf w_slotOf w_pieceOf w_upcoming w_slotTaken w_registers w_slotCount) (PX0 a0 a1 a2 a3 a4 a5 a6 a7 a8 a9 a10 a11 a12 a13 a14 a15 a16 cyI cyZ w_code_kinds w_code_firsts w_code_seconds w_code_ints w_code_counting w_code_length w_steps_numbers w_steps_length w_pieces_numbers w_pieces_length w_valueIn w_registerOf w_slotOf w_pieceOf w_upcoming w_slotTaken w_registers w_slotCount) (kT cyI cyZ) o 0 0 := by
  refine kOf_i (cc := cX0_registerHolding) (maxL := 2) (ty := .int) (by decide +kernel) rfl (Nat.le_of_ble_eq_true rfl) ?_
  intro p e s m args below meth c A Z ls C0 hP hK hD hA hl ret
  obtain ⟨hx, hb, hr, hml, hown, hts, hlocks⟩ := C0
  have hown : s.vm.findClass RX0 = some m.cls := hown
  have hl : lv_has ls 2 [(0, .ref a0), (1, .int p1)] := hl
  have hS : va_S A s.heap s.heap [] := va_S.rf
  have i_X0 : ∀ w ∈ wsX00, w ∈ wsX0_registerHolding := by decide +kernel
  have k31 := hts (.fieldLink RX0 31 "RegisterAllocator$Allocation" "registerOf" "[I") (by decide +kernel)
  rw [f_X0_registerHolding] at hf
  refine lv_iload_n hx hb dX0_registerHolding_0 rfl (lv_at hl 1 rfl) ?_
  obtain ⟨u1, hf1, hf⟩ := kbd hf
  refine kc_Si (As := [.int p1]) (rest := []) (wf := (PX0 a0 a1 a2 a3 a4 a5 a6 a7 a8 a9 a10 a11 a12 a13 a14 a15 a16 cyI cyZ w_code_kinds w_code_firsts w_code_seconds w_code_ints w_code_counting w_code_length w_steps_numbers w_steps_length w_pieces_numbers w_pieces_length w_valueIn w_registerOf w_slotOf w_pieceOf w_upcoming w_slotTaken w_registers w_slotCount)) (c_X0_isRow l D cyI cyZ 0 p1 u1 hf1) ⟨hx, hb, hml, hown, hts⟩ (cwS 1 hts gX0_registerHolding_X0_isRow rfl rfl rfl (by decide +kernel) ⟨Nat.le_of_ble_eq_true rfl, Nat.le_of_ble_eq_true rfl⟩) hK hP hD hS hA [] [0, 1, 2, 3, 4, 5, 6, 7, 8, 9, 10, 11, 12, 13, 14, 15, 16] 17 rfl rfl (kR1 _ rfl rfl (kR1 _ rfl rfl (kR1 _ rfl rfl (kR1 _ rfl rfl (kR1 _ rfl rfl (kR1 _ rfl rfl (kR1 _ rfl rfl (kR1 _ rfl rfl (kR1 _ rfl rfl (kR1 _ rfl rfl (kR1 _ rfl rfl (kR1 _ rfl rfl (kR1 _ rfl rfl (kR1 _ rfl rfl (kR1 _ rfl rfl (kR1 _ rfl rfl (kR1 _ rfl rfl kR0))))))))))))))))) rfl (by decide +kernel) rfl hl.1 rfl (Nat.le_of_ble_eq_true rfl) dX0_registerHolding_1 ⟨Nat.le_of_ble_eq_true rfl, Nat.le_of_ble_eq_true rfl⟩ (fun H locs hP hD hS => ?_)
  refine lv_if_eq (tgt := 16) hx hb dX0_registerHolding_4 (by decide) (fun c_4 => ?_) (fun c_4 => ?_)
  · have hf := kit c_4 hf
    refine lv_iconst (v := (-1)) hx hb dX0_registerHolding_16 (by decide) ?_
    obtain rfl := Option.some.inj hf
    exact ret _ _ _ _ dX0_registerHolding_17 rfl hP hD hS
  · have hf := kif c_4 hf
    refine lv_aload_n hx hb dX0_registerHolding_7 rfl (lv_at hl 0 rfl) ?_
    refine va_get (D := D) (ci := 0) (v := .ref a12) (C := RX0) (T := TX0) (N := 11) hx hb hts i_X0 hown hK hP 0 rfl rfl 4 (by decide) k31 (fun _ h9 => h9) rfl dX0_registerHolding_8 ?_
    refine lv_iload_n hx hb dX0_registerHolding_11 rfl (lv_at hl 1 rfl) ?_
    obtain ⟨h_12, hf⟩ := rdc_some hf
    refine va_iald hx hb hK hP 12 0 rfl rfl h_12 dX0_registerHolding_12 ?_
    refine lv_goto (tgt := 17) hx hb dX0_registerHolding_13 (by decide) ?_
    obtain rfl := Option.some.inj hf
    exact ret _ _ _ _ dX0_registerHolding_17 rfl hP hD hS

abbrev rmX0_leaveRegister : Room := { frames := 2, cells := 0, slots := 0, locals := 41 }
set_option maxHeartbeats 4000000 in
set_option maxRecDepth 100000 in
theorem c_X0_leaveRegister (l : Launch) (D : va_G) (cyI cyZ : ClassId) (a0 a1 a2 a3 a4 a5 a6 a7 a8 a9 a10 a11 a12 a13 a14 a15 a16 : Nat) (w_code_kinds : Nat → Int32) (w_code_firsts : Nat → Int32) (w_code_seconds : Nat → Int32) (w_code_ints : Nat → Int32) (w_code_counting : Nat → Int32) (w_code_length : Int32) (w_steps_numbers : Nat → Int32) (w_steps_length : Int32) (w_pieces_numbers : Nat → Int32) (w_pieces_length : Int32) (w_valueIn : Nat → Int32) (w_registerOf : Nat → Int32) (w_slotOf : Nat → Int32) (w_pieceOf : Nat → Int32) (w_upcoming : Nat → Int32) (w_slotTaken : Nat → Int32) (w_registers : Int32) (w_slotCount : Int32) (p1 : Int32) (o : (Nat → Int32) × (Nat → Int32)) (hf : f_X0_leaveRegister p1 w_valueIn w_registerOf w_registers = some o) : kMv l yX0_leaveRegister wsX0_leaveRegister rmX0_leaveRegister [.ref a0, .int p1] D (PX0 a0 a1 a2 a3 a4 a5 a6 a7 a8 a9 a10 a11 a12 a13 a14 a15 a16 cyI cyZ w_code_kinds w_code_firsts w_code_seconds w_code_ints w_code_counting w_code_length w_steps_numbers w_steps_length w_pieces_numbers w_pieces_length w_valueIn w_registerOf w_slotOf w_pieceOf w_upcoming w_slotTaken w_registers w_slotCount) (PX0 a0 a1 a2 a3 a4 a5 a6 a7 a8 a9 a10 a11 a12 a13 a14 a15 a16 cyI cyZ w_code_kinds w_code_firsts w_code_seconds w_code_ints w_code_counting w_code_length w_steps_numbers w_steps_length w_pieces_numbers w_pieces_length o.1 o.2 w_slotOf w_pieceOf w_upcoming w_slotTaken w_registers w_slotCount) (kT cyI cyZ) 0 0 := by
  refine kOf_v (cc := cX0_leaveRegister) (maxL := 3) (by decide +kernel) rfl (Nat.le_of_ble_eq_true rfl) ?_
  intro p e s m args below meth c A Z ls C0 hP hK hD hA hl ret
  obtain ⟨hx, hb, hr, hml, hown, hts, hlocks⟩ := C0
  have hown : s.vm.findClass RX0 = some m.cls := hown
  have hl : lv_has ls 3 [(0, .ref a0), (1, .int p1)] := hl
  have hS : va_S A s.heap s.heap [] := va_S.rf
  have i_X0 : ∀ w ∈ wsX00, w ∈ wsX0_leaveRegister := by decide +kernel
  have k27 := hts (.fieldLink RX0 27 "RegisterAllocator$Allocation" "valueIn" "[I") (by decide +kernel)
  have k31 := hts (.fieldLink RX0 31 "RegisterAllocator$Allocation" "registerOf" "[I") (by decide +kernel)
  rw [f_X0_leaveRegister] at hf
  refine lv_aload_n hx hb dX0_leaveRegister_0 rfl (lv_at hl 0 rfl) ?_
  refine lv_iload_n hx hb dX0_leaveRegister_1 rfl (lv_at hl 1 rfl) ?_
  obtain ⟨u2, hf2, hf⟩ := kbd hf
  refine kc_Vi (As := [.int p1]) (rest := []) (wf := (PX0 a0 a1 a2 a3 a4 a5 a6 a7 a8 a9 a10 a11 a12 a13 a14 a15 a16 cyI cyZ w_code_kinds w_code_firsts w_code_seconds w_code_ints w_code_counting w_code_length w_steps_numbers w_steps_length w_pieces_numbers w_pieces_length w_valueIn w_registerOf w_slotOf w_pieceOf w_upcoming w_slotTaken w_registers w_slotCount)) (c_X0_registerHolding l D cyI cyZ a0 a1 a2 a3 a4 a5 a6 a7 a8 a9 a10 a11 a12 a13 a14 a15 a16 w_code_kinds w_code_firsts w_code_seconds w_code_ints w_code_counting w_code_length w_steps_numbers w_steps_length w_pieces_numbers w_pieces_length w_valueIn w_registerOf w_slotOf w_pieceOf w_upcoming w_slotTaken w_registers w_slotCount p1 u2 hf2) ⟨hx, hb, hml, hown, hts⟩ (cwV 1 hts gX0_leaveRegister_X0_registerHolding rfl rfl rfl (by decide +kernel) ⟨Nat.le_of_ble_eq_true rfl, Nat.le_of_ble_eq_true rfl⟩) hK hP hD hS hA [0, 1, 2, 3, 4, 5, 6, 7, 8, 9, 10, 11, 12, 13, 14, 15, 16] [] 17 rfl rfl kR0 rfl (by decide +kernel) rfl rfl rfl rfl hl.1 rfl (Nat.le_of_ble_eq_true rfl) dX0_leaveRegister_2 ⟨Nat.le_of_ble_eq_true rfl, Nat.le_of_ble_eq_true rfl⟩ (fun H locs hP hD hS => ?_)
  refine lv_istore_n (lv' := [(2, .int u2), (0, .ref a0), (1, .int p1)]) hx hb dX0_leaveRegister_5 rfl hl (by decide) rfl (fun ls hl => ?_)
  refine lv_aload_n hx hb dX0_leaveRegister_6 rfl (lv_at hl 1 rfl) ?_
  refine lv_iload_n hx hb dX0_leaveRegister_7 rfl (lv_at hl 0 rfl) ?_
  obtain ⟨u8, hf8, hf⟩ := kbd hf
  refine kc_Vi (As := [.int u2]) (rest := []) (wf := (PX0 a0 a1 a2 a3 a4 a5 a6 a7 a8 a9 a10 a11 a12 a13 a14 a15 a16 cyI cyZ w_code_kinds w_code_firsts w_code_seconds w_code_ints w_code_counting w_code_length w_steps_numbers w_steps_length w_pieces_numbers w_pieces_length w_valueIn w_registerOf w_slotOf w_pieceOf w_upcoming w_slotTaken w_registers w_slotCount)) (c_X0_isRegister l D cyI cyZ a0 a1 a2 a3 a4 a5 a6 a7 a8 a9 a10 a11 a12 a13 a14 a15 a16 w_code_kinds w_code_firsts w_code_seconds w_code_ints w_code_counting w_code_length w_steps_numbers w_steps_length w_pieces_numbers w_pieces_length w_valueIn w_registerOf w_slotOf w_pieceOf w_upcoming w_slotTaken w_registers w_slotCount u2 u8 hf8) ⟨hx, hb, hml, hown, hts⟩ (cwV 1 hts gX0_leaveRegister_X0_isRegister rfl rfl rfl (by decide +kernel) ⟨Nat.le_of_ble_eq_true rfl, Nat.le_of_ble_eq_true rfl⟩) hK hP hD hS hA [0, 1, 2, 3, 4, 5, 6, 7, 8, 9, 10, 11, 12, 13, 14, 15, 16] [] 17 rfl rfl kR0 rfl (by decide +kernel) rfl rfl rfl rfl hl.1 rfl (Nat.le_of_ble_eq_true rfl) dX0_leaveRegister_8 ⟨Nat.le_of_ble_eq_true rfl, Nat.le_of_ble_eq_true rfl⟩ (fun H locs hP hD hS => ?_)
  refine lv_if_eq (tgt := 28) hx hb dX0_leaveRegister_11 (by decide) (fun c_11 => ?_) (fun c_11 => ?_)
  · have hf := kit c_11 hf
    obtain rfl := Option.some.inj hf
    exact ret _ _ _ _ dX0_leaveRegister_28 hP hD hS
  · have hf := kif c_11 hf
    refine lv_aload_n hx hb dX0_leaveRegister_14 rfl (lv_at hl 1 rfl) ?_
    refine va_get (D := D) (ci := 0) (v := .ref a11) (C := RX0) (T := TX0) (N := 11) hx hb hts i_X0 hown hK hP 0 rfl rfl 3 (by decide) k27 (fun _ h9 => h9) rfl dX0_leaveRegister_15 ?_
    refine lv_iload_n hx hb dX0_leaveRegister_18 rfl (lv_at hl 0 rfl) ?_
    refine lv_iconst (v := (-1)) hx hb dX0_leaveRegister_19 (by decide) ?_
    obtain ⟨h_20, hf⟩ := rdc_some hf
    refine va_iast hx hb hK hP hD hS 11 0 rfl rfl h_20 dX0_leaveRegister_20 (fun H locs hP hD hS => ?_)
    have hP : va_P D vwCl (PX0 a0 a1 a2 a3 a4 a5 a6 a7 a8 a9 a10 a11 a12 a13 a14 a15 a16 cyI cyZ w_code_kinds w_code_firsts w_code_seconds w_code_ints w_code_counting w_code_length w_steps_numbers w_steps_length w_pieces_numbers w_pieces_length (upd w_valueIn u2.toNatClampNeg (-1)) w_registerOf w_slotOf w_pieceOf w_upcoming w_slotTaken w_registers w_slotCount) H := hP
    have hD : va_D A (PX0 a0 a1 a2 a3 a4 a5 a6 a7 a8 a9 a10 a11 a12 a13 a14 a15 a16 cyI cyZ w_code_kinds w_code_firsts w_code_seconds w_code_ints w_code_counting w_code_length w_steps_numbers w_steps_length w_pieces_numbers w_pieces_length (upd w_valueIn u2.toNatClampNeg (-1)) w_registerOf w_slotOf w_pieceOf w_upcoming w_slotTaken w_registers w_slotCount) := hD
    refine lv_aload_n hx hb dX0_leaveRegister_21 rfl (lv_at hl 1 rfl) ?_
    refine va_get (D := D) (ci := 0) (v := .ref a12) (C := RX0) (T := TX0) (N := 11) hx hb hts i_X0 hown hK hP 0 rfl rfl 4 (by decide) k31 (fun _ h9 => h9) rfl dX0_leaveRegister_22 ?_
    refine lv_iload_n hx hb dX0_leaveRegister_25 rfl (lv_at hl 2 rfl) ?_
    refine lv_iconst (v := (-1)) hx hb dX0_leaveRegister_26 (by decide) ?_
    obtain ⟨h_27, hf⟩ := rdc_some hf
    refine va_iast hx hb hK hP hD hS 12 0 rfl rfl h_27 dX0_leaveRegister_27 (fun H locs hP hD hS => ?_)
    have hP : va_P D vwCl (PX0 a0 a1 a2 a3 a4 a5 a6 a7 a8 a9 a10 a11 a12 a13 a14 a15 a16 cyI cyZ w_code_kinds w_code_firsts w_code_seconds w_code_ints w_code_counting w_code_length w_steps_numbers w_steps_length w_pieces_numbers w_pieces_length (upd w_valueIn u2.toNatClampNeg (-1)) (upd w_registerOf p1.toNatClampNeg (-1)) w_slotOf w_pieceOf w_upcoming w_slotTaken w_registers w_slotCount) H := hP
    have hD : va_D A (PX0 a0 a1 a2 a3 a4 a5 a6 a7 a8 a9 a10 a11 a12 a13 a14 a15 a16 cyI cyZ w_code_kinds w_code_firsts w_code_seconds w_code_ints w_code_counting w_code_length w_steps_numbers w_steps_length w_pieces_numbers w_pieces_length (upd w_valueIn u2.toNatClampNeg (-1)) (upd w_registerOf p1.toNatClampNeg (-1)) w_slotOf w_pieceOf w_upcoming w_slotTaken w_registers w_slotCount) := hD
    obtain rfl := Option.some.inj hf
    exact ret _ _ _ _ dX0_leaveRegister_28 hP hD hS

abbrev rmX0_getRegister : Room := { frames := 3, cells := 0, slots := 0, locals := 70 }
set_option maxHeartbeats 4000000 in
set_option maxRecDepth 100000 in
theorem c_X0_getRegister (l : Launch) (D : va_G) (cyI cyZ : ClassId) (a0 a1 a2 a3 a4 a5 a6 a7 a8 a9 a10 a11 a12 a13 a14 a15 a16 : Nat) (w_code_kinds : Nat → Int32) (w_code_firsts : Nat → Int32) (w_code_seconds : Nat → Int32) (w_code_ints : Nat → Int32) (w_code_counting : Nat → Int32) (w_code_length : Int32) (w_steps_numbers : Nat → Int32) (w_steps_length : Int32) (w_pieces_numbers : Nat → Int32) (w_pieces_length : Int32) (w_valueIn : Nat → Int32) (w_registerOf : Nat → Int32) (w_slotOf : Nat → Int32) (w_pieceOf : Nat → Int32) (w_upcoming : Nat → Int32) (w_slotTaken : Nat → Int32) (w_registers : Int32) (w_slotCount : Int32) (p1 : Int32) (p2 : Int32) (o : Int32 × (Nat → Int32) × Int32 × (Nat → Int32) × (Nat → Int32) × (Nat → Int32) × (Nat → Int32) × (Nat → Int32) × Int32) (hf : f_X0_getRegister p1 p2 w_code_kinds w_code_length w_steps_numbers w_steps_length w_pieces_numbers w_pieces_length w_valueIn w_registerOf w_slotOf w_pieceOf w_upcoming w_slotTaken w_registers w_slotCount = some o) : kMi l yX0_getRegister wsX0_getRegister rmX0_getRegister [.ref a0, .int p1, .int p2] D (PX0 a0 a1 a2 a3 a4 a5 a6 a7 a8 a9 a10 a11 a12 a13 a14 a15 a16 cyI cyZ w_code_kinds w_code_firsts w_code_seconds w_code_ints w_code_counting w_code_length w_steps_numbers w_steps_length w_pieces_numbers w_pieces_length w_valueIn w_registerOf w_slotOf w_pieceOf w_upcoming w_slotTaken w_registers w_slotCount) (PX0 a0 a1 a2 a3 a4 a5 a6 a7 a8 a9 a10 a11 a12 a13 a14 a15 a16 cyI cyZ w_code_kinds w_code_firsts w_code_seconds w_code_ints w_code_counting w_code_length o.2.1 o.2.2.1 o.2.2.2.1 w_pieces_length o.2.2.2.2.1 o.2.2.2.2.2.1 o.2.2.2.2.2.2.1 w_pieceOf w_upcoming o.2.2.2.2.2.2.2.1 w_registers o.2.2.2.2.2.2.2.2) (kT cyI cyZ) o.1 0 0 := by
  refine kOf_i (cc := cX0_getRegister) (maxL := 5) (ty := .int) (by decide +kernel) rfl (Nat.le_of_ble_eq_true rfl) ?_
  intro p e s m args below meth c A Z ls C0 hP hK hD hA hl ret
  obtain ⟨hx, hb, hr, hml, hown, hts, hlocks⟩ := C0
  have hown : s.vm.findClass RX0 = some m.cls := hown
  have hl : lv_has ls 5 [(0, .ref a0), (1, .int p1), (2, .int p2)] := hl
  have hS : va_S A s.heap s.heap [] := va_S.rf
  have i_X0 : ∀ w ∈ wsX00, w ∈ wsX0_getRegister := by decide +kernel
  have k47 := hts (.fieldLink RX0 47 "RegisterAllocator$Allocation" "registers" "I") (by decide +kernel)
  rw [f_X0_getRegister] at hf
  refine lv_iconst (v := 0) hx hb dX0_getRegister_0 (by decide) ?_
  refine lv_istore_n (lv' := [(3, .int 0), (0, .ref a0), (1, .int p1), (2, .int p2)]) hx hb dX0_getRegister_1 rfl hl (by decide) rfl (fun ls hl => ?_)
  have L2 : ∀ (n : Nat) (x3_L2 : Int32) (w_steps_numbers_L2 : Nat → Int32) (w_steps_length_L2 : Int32) (w_pieces_numbers_L2 : Nat → Int32) (w_valueIn_L2 : Nat → Int32) (w_registerOf_L2 : Nat → Int32) (w_slotOf_L2 : Nat → Int32) (w_slotTaken_L2 : Nat → Int32) (w_slotCount_L2 : Int32) (_ : f_X0_getRegister_L2 w_code_kinds w_code_length w_pieces_length w_pieceOf w_upcoming w_registers p1 p2 n x3_L2 w_steps_numbers_L2 w_steps_length_L2 w_pieces_numbers_L2 w_valueIn_L2 w_registerOf_L2 w_slotOf_L2 w_slotTaken_L2 w_slotCount_L2 = some o) (H : Heap) (locs : List Loc) (ls : Array Slot), va_P D vwCl (PX0 a0 a1 a2 a3 a4 a5 a6 a7 a8 a9 a10 a11 a12 a13 a14 a15 a16 cyI cyZ w_code_kinds w_code_firsts w_code_seconds w_code_ints w_code_counting w_code_length w_steps_numbers_L2 w_steps_length_L2 w_pieces_numbers_L2 w_pieces_length w_valueIn_L2 w_registerOf_L2 w_slotOf_L2 w_pieceOf w_upcoming w_slotTaken_L2 w_registers w_slotCount_L2) H → va_D A (PX0 a0 a1 a2 a3 a4 a5 a6 a7 a8 a9 a10 a11 a12 a13 a14 a15 a16 cyI cyZ w_code_kinds w_code_firsts w_code_seconds w_code_ints w_code_counting w_code_length w_steps_numbers_L2 w_steps_length_L2 w_pieces_numbers_L2 w_pieces_length w_valueIn_L2 w_registerOf_L2 w_slotOf_L2 w_pieceOf w_upcoming w_slotTaken_L2 w_registers w_slotCount_L2) → va_S A s.heap H locs → lv_has ls 5 [(3, .int x3_L2), (0, .ref a0), (1, .int p1), (2, .int p2)] → W p l e rmX0_getRegister s m args below meth c H locs 0 0 Z (F0 m 2 ls []) := by
    intro n
    induction n with
    | zero =>
      intro x3_L2 w_steps_numbers_L2 w_steps_length_L2 w_pieces_numbers_L2 w_valueIn_L2 w_registerOf_L2 w_slotOf_L2 w_slotTaken_L2 w_slotCount_L2 hf
      rw [f_X0_getRegister_L2] at hf
      cases hf
    | succ n ih =>
      intro x3_L2 w_steps_numbers_L2 w_steps_length_L2 w_pieces_numbers_L2 w_valueIn_L2 w_registerOf_L2 w_slotOf_L2 w_slotTaken_L2 w_slotCount_L2 hf H locs ls hP hD hS hl
      rw [f_X0_getRegister_L2] at hf
      refine lv_iload_n hx hb dX0_getRegister_2 rfl (lv_at hl 0 rfl) ?_
      refine lv_aload_n hx hb dX0_getRegister_3 rfl (lv_at hl 1 rfl) ?_
      refine va_get (D := D) (ci := 0) (v := .int w_registers) (C := RX0) (T := TX0) (N := 11) hx hb hts i_X0 hown hK hP 0 rfl rfl 9 (by decide) k47 (fun _ h9 => h9) rfl dX0_getRegister_4 ?_
      refine lv_icmp_ge (tgt := 26) hx hb dX0_getRegister_7 (by decide) (fun c_7 => ?_) (fun c_7 => ?_)
      · have hf := kit c_7 hf
        refine lv_aload_n hx hb dX0_getRegister_26 rfl (lv_at hl 1 rfl) ?_
        refine lv_iload_n hx hb dX0_getRegister_27 rfl (lv_at hl 2 rfl) ?_
        refine lv_iload_n hx hb dX0_getRegister_28 rfl (lv_at hl 3 rfl) ?_
        obtain ⟨u29, hf29, hf⟩ := kbd hf
        refine kc_Vi (As := [.int p1, .int p2]) (rest := []) (wf := (PX0 a0 a1 a2 a3 a4 a5 a6 a7 a8 a9 a10 a11 a12 a13 a14 a15 a16 cyI cyZ w_code_kinds w_code_firsts w_code_seconds w_code_ints w_code_counting w_code_length w_steps_numbers_L2 w_steps_length_L2 w_pieces_numbers_L2 w_pieces_length w_valueIn_L2 w_registerOf_L2 w_slotOf_L2 w_pieceOf w_upcoming w_slotTaken_L2 w_registers w_slotCount_L2)) (c_X0_registerToLose l D cyI cyZ a0 a1 a2 a3 a4 a5 a6 a7 a8 a9 a10 a11 a12 a13 a14 a15 a16 w_code_kinds w_code_firsts w_code_seconds w_code_ints w_code_counting w_code_length w_steps_numbers_L2 w_steps_length_L2 w_pieces_numbers_L2 w_pieces_length w_valueIn_L2 w_registerOf_L2 w_slotOf_L2 w_pieceOf w_upcoming w_slotTaken_L2 w_registers w_slotCount_L2 p1 p2 u29 hf29) ⟨hx, hb, hml, hown, hts⟩ (cwV 2 hts gX0_getRegister_X0_registerToLose rfl rfl rfl (by decide +kernel) ⟨Nat.le_of_ble_eq_true rfl, Nat.le_of_ble_eq_true rfl⟩) hK hP hD hS hA [0, 1, 2, 3, 4, 5, 6, 7, 8, 9, 10, 11, 12, 13, 14, 15, 16] [] 17 rfl rfl kR0 rfl (by decide +kernel) rfl rfl rfl rfl hl.1 rfl (Nat.le_of_ble_eq_true rfl) dX0_getRegister_29 ⟨Nat.le_of_ble_eq_true rfl, Nat.le_of_ble_eq_true rfl⟩ (fun H locs hP hD hS => ?_)
        refine lv_istore_n (lv' := [(3, .int u29), (0, .ref a0), (1, .int p1), (2, .int p2)]) hx hb dX0_getRegister_32 rfl hl (by decide) rfl (fun ls hl => ?_)
        refine lv_aload_n hx hb dX0_getRegister_33 rfl (lv_at hl 1 rfl) ?_
        refine lv_iload_n hx hb dX0_getRegister_34 rfl (lv_at hl 0 rfl) ?_
        obtain ⟨u35, hf35, hf⟩ := kbd hf
        refine kc_Vi (As := [.int u29]) (rest := []) (wf := (PX0 a0 a1 a2 a3 a4 a5 a6 a7 a8 a9 a10 a11 a12 a13 a14 a15 a16 cyI cyZ w_code_kinds w_code_firsts w_code_seconds w_code_ints w_code_counting w_code_length w_steps_numbers_L2 w_steps_length_L2 w_pieces_numbers_L2 w_pieces_length w_valueIn_L2 w_registerOf_L2 w_slotOf_L2 w_pieceOf w_upcoming w_slotTaken_L2 w_registers w_slotCount_L2)) (c_X0_valueHeldIn l D cyI cyZ a0 a1 a2 a3 a4 a5 a6 a7 a8 a9 a10 a11 a12 a13 a14 a15 a16 w_code_kinds w_code_firsts w_code_seconds w_code_ints w_code_counting w_code_length w_steps_numbers_L2 w_steps_length_L2 w_pieces_numbers_L2 w_pieces_length w_valueIn_L2 w_registerOf_L2 w_slotOf_L2 w_pieceOf w_upcoming w_slotTaken_L2 w_registers w_slotCount_L2 u29 u35 hf35) ⟨hx, hb, hml, hown, hts⟩ (cwV 1 hts gX0_getRegister_X0_valueHeldIn rfl rfl rfl (by decide +kernel) ⟨Nat.le_of_ble_eq_true rfl, Nat.le_of_ble_eq_true rfl⟩) hK hP hD hS hA [0, 1, 2, 3, 4, 5, 6, 7, 8, 9, 10, 11, 12, 13, 14, 15, 16] [] 17 rfl rfl kR0 rfl (by decide +kernel) rfl rfl rfl rfl hl.1 rfl (Nat.le_of_ble_eq_true rfl) dX0_getRegister_35 ⟨Nat.le_of_ble_eq_true rfl, Nat.le_of_ble_eq_true rfl⟩ (fun H locs hP hD hS => ?_)
        refine lv_istore (lv' := [(4, .int u35), (3, .int u29), (0, .ref a0), (1, .int p1), (2, .int p2)]) hx hb dX0_getRegister_38 hl (by decide) rfl (fun ls hl => ?_)
        refine lv_aload_n hx hb dX0_getRegister_40 rfl (lv_at hl 2 rfl) ?_
        refine lv_iload hx hb dX0_getRegister_41 (lv_at hl 0 rfl) ?_
        refine lv_iload_n hx hb dX0_getRegister_43 rfl (lv_at hl 1 rfl) ?_
        obtain ⟨⟨u44_0, u44_1, u44_2, u44_3, u44_4, u44_5⟩, hf44, hf⟩ := kbd hf
        try dsimp only at hf
        refine kc_Vv (As := [.int u35, .int u29]) (rest := []) (wf := (PX0 a0 a1 a2 a3 a4 a5 a6 a7 a8 a9 a10 a11 a12 a13 a14 a15 a16 cyI cyZ w_code_kinds w_code_firsts w_code_seconds w_code_ints w_code_counting w_code_length u44_0 u44_1 u44_2 w_pieces_length w_valueIn_L2 w_registerOf_L2 u44_3 w_pieceOf w_upcoming u44_4 w_registers u44_5)) (c_X0_storeIfNeeded l D cyI cyZ a0 a1 a2 a3 a4 a5 a6 a7 a8 a9 a10 a11 a12 a13 a14 a15 a16 w_code_kinds w_code_firsts w_code_seconds w_code_ints w_code_counting w_code_length w_steps_numbers_L2 w_steps_length_L2 w_pieces_numbers_L2 w_pieces_length w_valueIn_L2 w_registerOf_L2 w_slotOf_L2 w_pieceOf w_upcoming w_slotTaken_L2 w_registers w_slotCount_L2 u35 u29 (u44_0, u44_1, u44_2, u44_3, u44_4, u44_5) hf44) ⟨hx, hb, hml, hown, hts⟩ (cwV 2 hts gX0_getRegister_X0_storeIfNeeded rfl rfl rfl (by decide +kernel) ⟨Nat.le_of_ble_eq_true rfl, Nat.le_of_ble_eq_true rfl⟩) hK hP hD hS hA [0, 1, 2, 3, 4, 5, 6, 7, 8, 9, 10, 11, 12, 13, 14, 15, 16] [] 17 rfl rfl kR0 rfl (by decide +kernel) rfl rfl rfl rfl hl.1 rfl (Nat.le_of_ble_eq_true rfl) dX0_getRegister_44 ⟨Nat.le_of_ble_eq_true rfl, Nat.le_of_ble_eq_true rfl⟩ (fun H locs hP hD hS => ?_)
        refine lv_aload_n hx hb dX0_getRegister_47 rfl (lv_at hl 2 rfl) ?_
        refine lv_iload hx hb dX0_getRegister_48 (lv_at hl 0 rfl) ?_
        obtain ⟨⟨u50_0, u50_1⟩, hf50, hf⟩ := kbd hf
        try dsimp only at hf
        refine kc_Vv (As := [.int u35]) (rest := []) (wf := (PX0 a0 a1 a2 a3 a4 a5 a6 a7 a8 a9 a10 a11 a12 a13 a14 a15 a16 cyI cyZ w_code_kinds w_code_firsts w_code_seconds w_code_ints w_code_counting w_code_length u44_0 u44_1 u44_2 w_pieces_length u50_0 u50_1 u44_3 w_pieceOf w_upcoming u44_4 w_registers u44_5)) (c_X0_leaveRegister l D cyI cyZ a0 a1 a2 a3 a4 a5 a6 a7 a8 a9 a10 a11 a12 a13 a14 a15 a16 w_code_kinds w_code_firsts w_code_seconds w_code_ints w_code_counting w_code_length u44_0 u44_1 u44_2 w_pieces_length w_valueIn_L2 w_registerOf_L2 u44_3 w_pieceOf w_upcoming u44_4 w_registers u44_5 u35 (u50_0, u50_1) hf50) ⟨hx, hb, hml, hown, hts⟩ (cwV 1 hts gX0_getRegister_X0_leaveRegister rfl rfl rfl (by decide +kernel) ⟨Nat.le_of_ble_eq_true rfl, Nat.le_of_ble_eq_true rfl⟩) hK hP hD hS hA [0, 1, 2, 3, 4, 5, 6, 7, 8, 9, 10, 11, 12, 13, 14, 15, 16] [] 17 rfl rfl kR0 rfl (by decide +kernel) rfl rfl rfl rfl hl.1 rfl (Nat.le_of_ble_eq_true rfl) dX0_getRegister_50 ⟨Nat.le_of_ble_eq_true rfl, Nat.le_of_ble_eq_true rfl⟩ (fun H locs hP hD hS => ?_)
        refine lv_iload_n hx hb dX0_getRegister_53 rfl (lv_at hl 1 rfl) ?_
        obtain rfl := Option.some.inj hf
        exact ret _ _ _ _ dX0_getRegister_54 rfl hP hD hS
      · have hf := kif c_7 hf
        refine lv_aload_n hx hb dX0_getRegister_10 rfl (lv_at hl 1 rfl) ?_
        refine lv_iload_n hx hb dX0_getRegister_11 rfl (lv_at hl 0 rfl) ?_
        obtain ⟨u12, hf12, hf⟩ := kbd hf
        refine kc_Vi (As := [.int x3_L2]) (rest := []) (wf := (PX0 a0 a1 a2 a3 a4 a5 a6 a7 a8 a9 a10 a11 a12 a13 a14 a15 a16 cyI cyZ w_code_kinds w_code_firsts w_code_seconds w_code_ints w_code_counting w_code_length w_steps_numbers_L2 w_steps_length_L2 w_pieces_numbers_L2 w_pieces_length w_valueIn_L2 w_registerOf_L2 w_slotOf_L2 w_pieceOf w_upcoming w_slotTaken_L2 w_registers w_slotCount_L2)) (c_X0_isFree l D cyI cyZ a0 a1 a2 a3 a4 a5 a6 a7 a8 a9 a10 a11 a12 a13 a14 a15 a16 w_code_kinds w_code_firsts w_code_seconds w_code_ints w_code_counting w_code_length w_steps_numbers_L2 w_steps_length_L2 w_pieces_numbers_L2 w_pieces_length w_valueIn_L2 w_registerOf_L2 w_slotOf_L2 w_pieceOf w_upcoming w_slotTaken_L2 w_registers w_slotCount_L2 x3_L2 u12 hf12) ⟨hx, hb, hml, hown, hts⟩ (cwV 1 hts gX0_getRegister_X0_isFree rfl rfl rfl (by decide +kernel) ⟨Nat.le_of_ble_eq_true rfl, Nat.le_of_ble_eq_true rfl⟩) hK hP hD hS hA [0, 1, 2, 3, 4, 5, 6, 7, 8, 9, 10, 11, 12, 13, 14, 15, 16] [] 17 rfl rfl kR0 rfl (by decide +kernel) rfl rfl rfl rfl hl.1 rfl (Nat.le_of_ble_eq_true rfl) dX0_getRegister_12 ⟨Nat.le_of_ble_eq_true rfl, Nat.le_of_ble_eq_true rfl⟩ (fun H locs hP hD hS => ?_)
        refine lv_if_eq (tgt := 20) hx hb dX0_getRegister_15 (by decide) (fun c_15 => ?_) (fun c_15 => ?_)
        · have hf := kit c_15 hf
          refine lv_iinc (v := (x3_L2 + 1)) (lv' := [(3, .int (x3_L2 + 1)), (0, .ref a0), (1, .int p1), (2, .int p2)]) hx hb dX0_getRegister_20 hl (k := 0) rfl rfl (by decide) rfl (fun ls hl => ?_)
          refine lv_goto (tgt := 2) hx hb dX0_getRegister_23 (by decide) ?_
          exact ih (x3_L2 + 1) w_steps_numbers_L2 w_steps_length_L2 w_pieces_numbers_L2 w_valueIn_L2 w_registerOf_L2 w_slotOf_L2 w_slotTaken_L2 w_slotCount_L2 hf _ _ _ hP hD hS (lv_sub hl [0, 1, 2, 3] rfl)
        · have hf := kif c_15 hf
          refine lv_iload_n hx hb dX0_getRegister_18 rfl (lv_at hl 0 rfl) ?_
          obtain rfl := Option.some.inj hf
          exact ret _ _ _ _ dX0_getRegister_19 rfl hP hD hS
  exact L2 4000 0 w_steps_numbers w_steps_length w_pieces_numbers w_valueIn w_registerOf w_slotOf w_slotTaken w_slotCount hf _ _ _ hP hD hS (lv_sub hl [0, 1, 2, 3] rfl)

abbrev rmX0_slotHolding : Room := { frames := 1, cells := 0, slots := 0, locals := 20 }
set_option maxHeartbeats 4000000 in
set_option maxRecDepth 100000 in
theorem c_X0_slotHolding (l : Launch) (D : va_G) (cyI cyZ : ClassId) (a0 a1 a2 a3 a4 a5 a6 a7 a8 a9 a10 a11 a12 a13 a14 a15 a16 : Nat) (w_code_kinds : Nat → Int32) (w_code_firsts : Nat → Int32) (w_code_seconds : Nat → Int32) (w_code_ints : Nat → Int32) (w_code_counting : Nat → Int32) (w_code_length : Int32) (w_steps_numbers : Nat → Int32) (w_steps_length : Int32) (w_pieces_numbers : Nat → Int32) (w_pieces_length : Int32) (w_valueIn : Nat → Int32) (w_registerOf : Nat → Int32) (w_slotOf : Nat → Int32) (w_pieceOf : Nat → Int32) (w_upcoming : Nat → Int32) (w_slotTaken : Nat → Int32) (w_registers : Int32) (w_slotCount : Int32) (p1 : Int32) (o : Int32) (hf : f_X0_slotHolding p1 w_slotOf = some o) : kMi l yX0_slotHolding wsX0_slotHolding rmX0_slotHolding [.ref a0, .int p1] D (PX0 a0 a1 a2 a3 a4 a5 a6 a7 a8 a9 a10 a11 a12 a13 a14 a15 a16 cyI cyZ w_code_kinds w_code_firsts w_code_seconds w_code_ints w_code_counting w_code_length w_steps_numbers w_steps_length w_pieces_numbers w_pieces_length w_valueIn w_registerOf w_slotOf w_pieceOf w_upcoming w_slotTaken w_registers w_slotCount) (PX0 a0 a1 a2 a3 a4 a5 a6 a7 a8 a9 a10 a11 a12 a13 a14 a15 a16 cyI cyZ w_code_kinds w_code_firsts w_code_seconds w_code_ints w_code_counting w_code_length w_steps_numbers w_steps_length w_pieces_numbers w_pieces_length w_valueIn w_registerOf w_slotOf w_pieceOf w_upcoming w_slotTaken w_registers w_slotCount) (kT cyI cyZ) o 0 0 := by
  refine kOf_i (cc := cX0_slotHolding) (maxL := 2) (ty := .int) (by decide +kernel) rfl (Nat.le_of_ble_eq_true rfl) ?_
  intro p e s m args below meth c A Z ls C0 hP hK hD hA hl ret
  obtain ⟨hx, hb, hr, hml, hown, hts, hlocks⟩ := C0
  have hown : s.vm.findClass RX0 = some m.cls := hown
  have hl : lv_has ls 2 [(0, .ref a0), (1, .int p1)] := hl
  have hS : va_S A s.heap s.heap [] := va_S.rf
  have i_X0 : ∀ w ∈ wsX00, w ∈ wsX0_slotHolding := by decide +kernel
  have k34 := hts (.fieldLink RX0 34 "RegisterAllocator$Allocation" "slotOf" "[I") (by decide +kernel)
  rw [f_X0_slotHolding] at hf
  refine lv_iload_n hx hb dX0_slotHolding_0 rfl (lv_at hl 1 rfl) ?_
  obtain ⟨u1, hf1, hf⟩ := kbd hf
  refine kc_Si (As := [.int p1]) (rest := []) (wf := (PX0 a0 a1 a2 a3 a4 a5 a6 a7 a8 a9 a10 a11 a12 a13 a14 a15 a16 cyI cyZ w_code_kinds w_code_firsts w_code_seconds w_code_ints w_code_counting w_code_length w_steps_numbers w_steps_length w_pieces_numbers w_pieces_length w_valueIn w_registerOf w_slotOf w_pieceOf w_upcoming w_slotTaken w_registers w_slotCount)) (c_X0_isRow l D cyI cyZ 0 p1 u1 hf1) ⟨hx, hb, hml, hown, hts⟩ (cwS 1 hts gX0_slotHolding_X0_isRow rfl rfl rfl (by decide +kernel) ⟨Nat.le_of_ble_eq_true rfl, Nat.le_of_ble_eq_true rfl⟩) hK hP hD hS hA [] [0, 1, 2, 3, 4, 5, 6, 7, 8, 9, 10, 11, 12, 13, 14, 15, 16] 17 rfl rfl (kR1 _ rfl rfl (kR1 _ rfl rfl (kR1 _ rfl rfl (kR1 _ rfl rfl (kR1 _ rfl rfl (kR1 _ rfl rfl (kR1 _ rfl rfl (kR1 _ rfl rfl (kR1 _ rfl rfl (kR1 _ rfl rfl (kR1 _ rfl rfl (kR1 _ rfl rfl (kR1 _ rfl rfl (kR1 _ rfl rfl (kR1 _ rfl rfl (kR1 _ rfl rfl (kR1 _ rfl rfl kR0))))))))))))))))) rfl (by decide +kernel) rfl hl.1 rfl (Nat.le_of_ble_eq_true rfl) dX0_slotHolding_1 ⟨Nat.le_of_ble_eq_true rfl, Nat.le_of_ble_eq_true rfl⟩ (fun H locs hP hD hS => ?_)
  refine lv_if_eq (tgt := 16) hx hb dX0_slotHolding_4 (by decide) (fun c_4 => ?_) (fun c_4 => ?_)
  · have hf := kit c_4 hf
    refine lv_iconst (v := (-1)) hx hb dX0_slotHolding_16 (by decide) ?_
    obtain rfl := Option.some.inj hf
    exact ret _ _ _ _ dX0_slotHolding_17 rfl hP hD hS
  · have hf := kif c_4 hf
    refine lv_aload_n hx hb dX0_slotHolding_7 rfl (lv_at hl 0 rfl) ?_
    refine va_get (D := D) (ci := 0) (v := .ref a13) (C := RX0) (T := TX0) (N := 11) hx hb hts i_X0 hown hK hP 0 rfl rfl 5 (by decide) k34 (fun _ h9 => h9) rfl dX0_slotHolding_8 ?_
    refine lv_iload_n hx hb dX0_slotHolding_11 rfl (lv_at hl 1 rfl) ?_
    obtain ⟨h_12, hf⟩ := rdc_some hf
    refine va_iald hx hb hK hP 13 0 rfl rfl h_12 dX0_slotHolding_12 ?_
    refine lv_goto (tgt := 17) hx hb dX0_slotHolding_13 (by decide) ?_
    obtain rfl := Option.some.inj hf
    exact ret _ _ _ _ dX0_slotHolding_17 rfl hP hD hS

abbrev rmX0_beginPiece : Room := { frames := 1, cells := 0, slots := 0, locals := 26 }
set_option maxHeartbeats 4000000 in
set_option maxRecDepth 100000 in
theorem c_X0_beginPiece (l : Launch) (D : va_G) (cyI cyZ : ClassId) (a0 a1 a2 a3 a4 a5 a6 a7 a8 a9 a10 a11 a12 a13 a14 a15 a16 : Nat) (w_code_kinds : Nat → Int32) (w_code_firsts : Nat → Int32) (w_code_seconds : Nat → Int32) (w_code_ints : Nat → Int32) (w_code_counting : Nat → Int32) (w_code_length : Int32) (w_steps_numbers : Nat → Int32) (w_steps_length : Int32) (w_pieces_numbers : Nat → Int32) (w_pieces_length : Int32) (w_valueIn : Nat → Int32) (w_registerOf : Nat → Int32) (w_slotOf : Nat → Int32) (w_pieceOf : Nat → Int32) (w_upcoming : Nat → Int32) (w_slotTaken : Nat → Int32) (w_registers : Int32) (w_slotCount : Int32) (p1 : Int32) (p2 : Int32) (p3 : Int32) (o : (Nat → Int32) × Int32 × (Nat → Int32) × (Nat → Int32) × (Nat → Int32)) (hf : f_X0_beginPiece p1 p2 p3 w_pieces_numbers w_pieces_length w_valueIn w_registerOf w_pieceOf w_registers = some o) : kMv l yX0_beginPiece wsX0_beginPiece rmX0_beginPiece [.ref a0, .int p1, .int p2, .int p3] D (PX0 a0 a1 a2 a3 a4 a5 a6 a7 a8 a9 a10 a11 a12 a13 a14 a15 a16 cyI cyZ w_code_kinds w_code_firsts w_code_seconds w_code_ints w_code_counting w_code_length w_steps_numbers w_steps_length w_pieces_numbers w_pieces_length w_valueIn w_registerOf w_slotOf w_pieceOf w_upcoming w_slotTaken w_registers w_slotCount) (PX0 a0 a1 a2 a3 a4 a5 a6 a7 a8 a9 a10 a11 a12 a13 a14 a15 a16 cyI cyZ w_code_kinds w_code_firsts w_code_seconds w_code_ints w_code_counting w_code_length w_steps_numbers w_steps_length o.1 o.2.1 o.2.2.1 o.2.2.2.1 w_slotOf o.2.2.2.2 w_upcoming w_slotTaken w_registers w_slotCount) (kT cyI cyZ) 0 0 := by
  refine kOf_v (cc := cX0_beginPiece) (maxL := 4) (by decide +kernel) rfl (Nat.le_of_ble_eq_true rfl) ?_
  intro p e s m args below meth c A Z ls C0 hP hK hD hA hl ret
  obtain ⟨hx, hb, hr, hml, hown, hts, hlocks⟩ := C0
  have hown : s.vm.findClass RX0 = some m.cls := hown
  have hl : lv_has ls 4 [(0, .ref a0), (1, .int p1), (2, .int p2), (3, .int p3)] := hl
  have hS : va_S A s.heap s.heap [] := va_S.rf
  have i_X0 : ∀ w ∈ wsX00, w ∈ wsX0_beginPiece := by decide +kernel
  have k24 := hts (.fieldLink RX0 24 "RegisterAllocator$Allocation" "pieces" "LRegisterAllocator$Rows;") (by decide +kernel)
  have k27 := hts (.fieldLink RX0 27 "RegisterAllocator$Allocation" "valueIn" "[I") (by decide +kernel)
  have k31 := hts (.fieldLink RX0 31 "RegisterAllocator$Allocation" "registerOf" "[I") (by decide +kernel)
  have k37 := hts (.fieldLink RX0 37 "RegisterAllocator$Allocation" "pieceOf" "[I") (by decide +kernel)
  rw [f_X0_beginPiece] at hf
  refine lv_iload_n hx hb dX0_beginPiece_0 rfl (lv_at hl 1 rfl) ?_
  obtain ⟨u1, hf1, hf⟩ := kbd hf
  refine kc_Si (As := [.int p1]) (rest := []) (wf := (PX0 a0 a1 a2 a3 a4 a5 a6 a7 a8 a9 a10 a11 a12 a13 a14 a15 a16 cyI cyZ w_code_kinds w_code_firsts w_code_seconds w_code_ints w_code_counting w_code_length w_steps_numbers w_steps_length w_pieces_numbers w_pieces_length w_valueIn w_registerOf w_slotOf w_pieceOf w_upcoming w_slotTaken w_registers w_slotCount)) (c_X0_isRow l D cyI cyZ 0 p1 u1 hf1) ⟨hx, hb, hml, hown, hts⟩ (cwS 1 hts gX0_beginPiece_X0_isRow rfl rfl rfl (by decide +kernel) ⟨Nat.le_of_ble_eq_true rfl, Nat.le_of_ble_eq_true rfl⟩) hK hP hD hS hA [] [0, 1, 2, 3, 4, 5, 6, 7, 8, 9, 10, 11, 12, 13, 14, 15, 16] 17 rfl rfl (kR1 _ rfl rfl (kR1 _ rfl rfl (kR1 _ rfl rfl (kR1 _ rfl rfl (kR1 _ rfl rfl (kR1 _ rfl rfl (kR1 _ rfl rfl (kR1 _ rfl rfl (kR1 _ rfl rfl (kR1 _ rfl rfl (kR1 _ rfl rfl (kR1 _ rfl rfl (kR1 _ rfl rfl (kR1 _ rfl rfl (kR1 _ rfl rfl (kR1 _ rfl rfl (kR1 _ rfl rfl kR0))))))))))))))))) rfl (by decide +kernel) rfl hl.1 rfl (Nat.le_of_ble_eq_true rfl) dX0_beginPiece_1 ⟨Nat.le_of_ble_eq_true rfl, Nat.le_of_ble_eq_true rfl⟩ (fun H locs hP hD hS => ?_)
  refine lv_if_eq (tgt := 46) hx hb dX0_beginPiece_4 (by decide) (fun c_4 => ?_) (fun c_4 => ?_)
  · have hf := kit c_4 hf
    obtain rfl := Option.some.inj hf
    exact ret _ _ _ _ dX0_beginPiece_46 hP hD hS
  · have hf := kif c_4 hf
    refine lv_aload_n hx hb dX0_beginPiece_7 rfl (lv_at hl 0 rfl) ?_
    refine lv_iload_n hx hb dX0_beginPiece_8 rfl (lv_at hl 2 rfl) ?_
    obtain ⟨u9, hf9, hf⟩ := kbd hf
    refine kc_Vi (As := [.int p2]) (rest := []) (wf := (PX0 a0 a1 a2 a3 a4 a5 a6 a7 a8 a9 a10 a11 a12 a13 a14 a15 a16 cyI cyZ w_code_kinds w_code_firsts w_code_seconds w_code_ints w_code_counting w_code_length w_steps_numbers w_steps_length w_pieces_numbers w_pieces_length w_valueIn w_registerOf w_slotOf w_pieceOf w_upcoming w_slotTaken w_registers w_slotCount)) (c_X0_isRegister l D cyI cyZ a0 a1 a2 a3 a4 a5 a6 a7 a8 a9 a10 a11 a12 a13 a14 a15 a16 w_code_kinds w_code_firsts w_code_seconds w_code_ints w_code_counting w_code_length w_steps_numbers w_steps_length w_pieces_numbers w_pieces_length w_valueIn w_registerOf w_slotOf w_pieceOf w_upcoming w_slotTaken w_registers w_slotCount p2 u9 hf9) ⟨hx, hb, hml, hown, hts⟩ (cwV 1 hts gX0_beginPiece_X0_isRegister rfl rfl rfl (by decide +kernel) ⟨Nat.le_of_ble_eq_true rfl, Nat.le_of_ble_eq_true rfl⟩) hK hP hD hS hA [0, 1, 2, 3, 4, 5, 6, 7, 8, 9, 10, 11, 12, 13, 14, 15, 16] [] 17 rfl rfl kR0 rfl (by decide +kernel) rfl rfl rfl rfl hl.1 rfl (Nat.le_of_ble_eq_true rfl) dX0_beginPiece_9 ⟨Nat.le_of_ble_eq_true rfl, Nat.le_of_ble_eq_true rfl⟩ (fun H locs hP hD hS => ?_)
    refine lv_if_eq (tgt := 46) hx hb dX0_beginPiece_12 (by decide) (fun c_12 => ?_) (fun c_12 => ?_)
    · have hf := kit c_12 hf
      obtain rfl := Option.some.inj hf
      exact ret _ _ _ _ dX0_beginPiece_46 hP hD hS
    · have hf := kif c_12 hf
      refine lv_aload_n hx hb dX0_beginPiece_15 rfl (lv_at hl 0 rfl) ?_
      refine va_get (D := D) (ci := 0) (v := .ref a11) (C := RX0) (T := TX0) (N := 11) hx hb hts i_X0 hown hK hP 0 rfl rfl 3 (by decide) k27 (fun _ h9 => h9) rfl dX0_beginPiece_16 ?_
      refine lv_iload_n hx hb dX0_beginPiece_19 rfl (lv_at hl 2 rfl) ?_
      refine lv_iload_n hx hb dX0_beginPiece_20 rfl (lv_at hl 1 rfl) ?_
      obtain ⟨h_21, hf⟩ := rdc_some hf
      refine va_iast hx hb hK hP hD hS 11 0 rfl rfl h_21 dX0_beginPiece_21 (fun H locs hP hD hS => ?_)
      have hP : va_P D vwCl (PX0 a0 a1 a2 a3 a4 a5 a6 a7 a8 a9 a10 a11 a12 a13 a14 a15 a16 cyI cyZ w_code_kinds w_code_firsts w_code_seconds w_code_ints w_code_counting w_code_length w_steps_numbers w_steps_length w_pieces_numbers w_pieces_length (upd w_valueIn p2.toNatClampNeg p1) w_registerOf w_slotOf w_pieceOf w_upcoming w_slotTaken w_registers w_slotCount) H := hP
      have hD : va_D A (PX0 a0 a1 a2 a3 a4 a5 a6 a7 a8 a9 a10 a11 a12 a13 a14 a15 a16 cyI cyZ w_code_kinds w_code_firsts w_code_seconds w_code_ints w_code_counting w_code_length w_steps_numbers w_steps_length w_pieces_numbers w_pieces_length (upd w_valueIn p2.toNatClampNeg p1) w_registerOf w_slotOf w_pieceOf w_upcoming w_slotTaken w_registers w_slotCount) := hD
      refine lv_aload_n hx hb dX0_beginPiece_22 rfl (lv_at hl 0 rfl) ?_
      refine va_get (D := D) (ci := 0) (v := .ref a12) (C := RX0) (T := TX0) (N := 11) hx hb hts i_X0 hown hK hP 0 rfl rfl 4 (by decide) k31 (fun _ h9 => h9) rfl dX0_beginPiece_23 ?_
      refine lv_iload_n hx hb dX0_beginPiece_26 rfl (lv_at hl 1 rfl) ?_
      refine lv_iload_n hx hb dX0_beginPiece_27 rfl (lv_at hl 2 rfl) ?_
      obtain ⟨h_28, hf⟩ := rdc_some hf
      refine va_iast hx hb hK hP hD hS 12 0 rfl rfl h_28 dX0_beginPiece_28 (fun H locs hP hD hS => ?_)
      have hP : va_P D vwCl (PX0 a0 a1 a2 a3 a4 a5 a6 a7 a8 a9 a10 a11 a12 a13 a14 a15 a16 cyI cyZ w_code_kinds w_code_firsts w_code_seconds w_code_ints w_code_counting w_code_length w_steps_numbers w_steps_length w_pieces_numbers w_pieces_length (upd w_valueIn p2.toNatClampNeg p1) (upd w_registerOf p1.toNatClampNeg p2) w_slotOf w_pieceOf w_upcoming w_slotTaken w_registers w_slotCount) H := hP
      have hD : va_D A (PX0 a0 a1 a2 a3 a4 a5 a6 a7 a8 a9 a10 a11 a12 a13 a14 a15 a16 cyI cyZ w_code_kinds w_code_firsts w_code_seconds w_code_ints w_code_counting w_code_length w_steps_numbers w_steps_length w_pieces_numbers w_pieces_length (upd w_valueIn p2.toNatClampNeg p1) (upd w_registerOf p1.toNatClampNeg p2) w_slotOf w_pieceOf w_upcoming w_slotTaken w_registers w_slotCount) := hD
      refine lv_aload_n hx hb dX0_beginPiece_29 rfl (lv_at hl 0 rfl) ?_
      refine va_get (D := D) (ci := 0) (v := .ref a14) (C := RX0) (T := TX0) (N := 11) hx hb hts i_X0 hown hK hP 0 rfl rfl 6 (by decide) k37 (fun _ h9 => h9) rfl dX0_beginPiece_30 ?_
      refine lv_iload_n hx hb dX0_beginPiece_33 rfl (lv_at hl 1 rfl) ?_
      refine lv_aload_n hx hb dX0_beginPiece_34 rfl (lv_at hl 0 rfl) ?_
      refine va_get (D := D) (ci := 0) (v := .ref a9) (C := RX0) (T := TX0) (N := 11) hx hb hts i_X0 hown hK hP 0 rfl rfl 2 (by decide) k24 (fun _ h9 => h9) rfl dX0_beginPiece_35 ?_
      refine lv_iload_n hx hb dX0_beginPiece_38 rfl (lv_at hl 1 rfl) ?_
      refine lv_iload_n hx hb dX0_beginPiece_39 rfl (lv_at hl 2 rfl) ?_
      refine lv_iload_n hx hb dX0_beginPiece_40 rfl (lv_at hl 3 rfl) ?_
      refine lv_iload_n hx hb dX0_beginPiece_41 rfl (lv_at hl 3 rfl) ?_
      obtain ⟨⟨u42_0, u42_1, u42_2⟩, hf42, hf⟩ := kbd hf
      try dsimp only at hf
      refine kc_Vi (As := [.int p1, .int p2, .int p3, .int p3]) (rest := [.int p1, .ref a14]) (wf := (PX0 a0 a1 a2 a3 a4 a5 a6 a7 a8 a9 a10 a11 a12 a13 a14 a15 a16 cyI cyZ w_code_kinds w_code_firsts w_code_seconds w_code_ints w_code_counting w_code_length w_steps_numbers w_steps_length u42_1 u42_2 (upd w_valueIn p2.toNatClampNeg p1) (upd w_registerOf p1.toNatClampNeg p2) w_slotOf w_pieceOf w_upcoming w_slotTaken w_registers w_slotCount)) (c_X3_append l D cyI cyZ a9 a10 720 w_pieces_numbers 180 w_pieces_length p1 p2 p3 p3 (u42_0, u42_1, u42_2) hf42) ⟨hx, hb, hml, hown, hts⟩ (cwV 4 hts gX0_beginPiece_X3_append rfl rfl rfl (by decide +kernel) ⟨Nat.le_of_ble_eq_true rfl, Nat.le_of_ble_eq_true rfl⟩) hK hP hD hS hA [9, 10] [0, 1, 2, 3, 4, 5, 6, 7, 8, 11, 12, 13, 14, 15, 16] 17 rfl rfl (kR1 _ rfl rfl (kR1 _ rfl rfl (kR1 _ rfl rfl (kR1 _ rfl rfl (kR1 _ rfl rfl (kR1 _ rfl rfl (kR1 _ rfl rfl (kR1 _ rfl rfl (kR1 _ rfl rfl (kR1 _ rfl rfl (kR1 _ rfl rfl (kR1 _ rfl rfl (kR1 _ rfl rfl (kR1 _ rfl rfl (kR1 _ rfl rfl kR0))))))))))))))) rfl (by decide +kernel) rfl rfl rfl rfl hl.1 rfl (Nat.le_of_ble_eq_true rfl) dX0_beginPiece_42 ⟨Nat.le_of_ble_eq_true rfl, Nat.le_of_ble_eq_true rfl⟩ (fun H locs hP hD hS => ?_)
      obtain ⟨h_45, hf⟩ := rdc_some hf
      refine va_iast hx hb hK hP hD hS 14 0 rfl rfl h_45 dX0_beginPiece_45 (fun H locs hP hD hS => ?_)
      have hP : va_P D vwCl (PX0 a0 a1 a2 a3 a4 a5 a6 a7 a8 a9 a10 a11 a12 a13 a14 a15 a16 cyI cyZ w_code_kinds w_code_firsts w_code_seconds w_code_ints w_code_counting w_code_length w_steps_numbers w_steps_length u42_1 u42_2 (upd w_valueIn p2.toNatClampNeg p1) (upd w_registerOf p1.toNatClampNeg p2) w_slotOf (upd w_pieceOf p1.toNatClampNeg u42_0) w_upcoming w_slotTaken w_registers w_slotCount) H := hP
      have hD : va_D A (PX0 a0 a1 a2 a3 a4 a5 a6 a7 a8 a9 a10 a11 a12 a13 a14 a15 a16 cyI cyZ w_code_kinds w_code_firsts w_code_seconds w_code_ints w_code_counting w_code_length w_steps_numbers w_steps_length u42_1 u42_2 (upd w_valueIn p2.toNatClampNeg p1) (upd w_registerOf p1.toNatClampNeg p2) w_slotOf (upd w_pieceOf p1.toNatClampNeg u42_0) w_upcoming w_slotTaken w_registers w_slotCount) := hD
      obtain rfl := Option.some.inj hf
      exact ret _ _ _ _ dX0_beginPiece_46 hP hD hS

abbrev rmX0_fetch : Room := { frames := 2, cells := 0, slots := 0, locals := 49 }
set_option maxHeartbeats 4000000 in
set_option maxRecDepth 100000 in
theorem c_X0_fetch (l : Launch) (D : va_G) (cyI cyZ : ClassId) (a0 a1 a2 a3 a4 a5 a6 a7 a8 a9 a10 a11 a12 a13 a14 a15 a16 : Nat) (w_code_kinds : Nat → Int32) (w_code_firsts : Nat → Int32) (w_code_seconds : Nat → Int32) (w_code_ints : Nat → Int32) (w_code_counting : Nat → Int32) (w_code_length : Int32) (w_steps_numbers : Nat → Int32) (w_steps_length : Int32) (w_pieces_numbers : Nat → Int32) (w_pieces_length : Int32) (w_valueIn : Nat → Int32) (w_registerOf : Nat → Int32) (w_slotOf : Nat → Int32) (w_pieceOf : Nat → Int32) (w_upcoming : Nat → Int32) (w_slotTaken : Nat → Int32) (w_registers : Int32) (w_slotCount : Int32) (p1 : Int32) (p2 : Int32) (o : (Nat → Int32) × Int32 × (Nat → Int32) × Int32 × (Nat → Int32) × (Nat → Int32) × (Nat → Int32)) (hf : f_X0_fetch p1 p2 w_code_kinds w_code_ints w_code_length w_steps_numbers w_steps_length w_pieces_numbers w_pieces_length w_valueIn w_registerOf w_slotOf w_pieceOf w_registers = some o) : kMv l yX0_fetch wsX0_fetch rmX0_fetch [.ref a0, .int p1, .int p2] D (PX0 a0 a1 a2 a3 a4 a5 a6 a7 a8 a9 a10 a11 a12 a13 a14 a15 a16 cyI cyZ w_code_kinds w_code_firsts w_code_seconds w_code_ints w_code_counting w_code_length w_steps_numbers w_steps_length w_pieces_numbers w_pieces_length w_valueIn w_registerOf w_slotOf w_pieceOf w_upcoming w_slotTaken w_registers w_slotCount) (PX0 a0 a1 a2 a3 a4 a5 a6 a7 a8 a9 a10 a11 a12 a13 a14 a15 a16 cyI cyZ w_code_kinds w_code_firsts w_code_seconds w_code_ints w_code_counting w_code_length o.1 o.2.1 o.2.2.1 o.2.2.2.1 o.2.2.2.2.1 o.2.2.2.2.2.1 w_slotOf o.2.2.2.2.2.2 w_upcoming w_slotTaken w_registers w_slotCount) (kT cyI cyZ) 0 0 := by
  refine kOf_v (cc := cX0_fetch) (maxL := 4) (by decide +kernel) rfl (Nat.le_of_ble_eq_true rfl) ?_
  intro p e s m args below meth c A Z ls C0 hP hK hD hA hl ret
  obtain ⟨hx, hb, hr, hml, hown, hts, hlocks⟩ := C0
  have hown : s.vm.findClass RX0 = some m.cls := hown
  have hl : lv_has ls 4 [(0, .ref a0), (1, .int p1), (2, .int p2)] := hl
  have hS : va_S A s.heap s.heap [] := va_S.rf
  have i_X0 : ∀ w ∈ wsX00, w ∈ wsX0_fetch := by decide +kernel
  have k20 := hts (.fieldLink RX0 20 "RegisterAllocator$Allocation" "steps" "LRegisterAllocator$Rows;") (by decide +kernel)
  have k9 := hts (.fieldLink RX0 9 "RegisterAllocator$Allocation" "code" "LRegisterAllocator$Code;") (by decide +kernel)
  rw [f_X0_fetch] at hf
  refine lv_aload_n hx hb dX0_fetch_0 rfl (lv_at hl 0 rfl) ?_
  refine va_get (D := D) (ci := 0) (v := .ref a1) (C := RX0) (T := TX0) (N := 11) hx hb hts i_X0 hown hK hP 0 rfl rfl 0 (by decide) k9 (fun _ h9 => h9) rfl dX0_fetch_1 ?_
  refine lv_iload_n hx hb dX0_fetch_4 rfl (lv_at hl 1 rfl) ?_
  obtain ⟨u5, hf5, hf⟩ := kbd hf
  refine kc_Vi (As := [.int p1]) (rest := []) (wf := (PX0 a0 a1 a2 a3 a4 a5 a6 a7 a8 a9 a10 a11 a12 a13 a14 a15 a16 cyI cyZ w_code_kinds w_code_firsts w_code_seconds w_code_ints w_code_counting w_code_length w_steps_numbers w_steps_length w_pieces_numbers w_pieces_length w_valueIn w_registerOf w_slotOf w_pieceOf w_upcoming w_slotTaken w_registers w_slotCount)) (c_X1_isConst l D cyI cyZ a1 a2 a3 a4 a5 a6 w_code_kinds w_code_firsts w_code_seconds w_code_ints w_code_counting w_code_length p1 u5 hf5) ⟨hx, hb, hml, hown, hts⟩ (cwV 1 hts gX0_fetch_X1_isConst rfl rfl rfl (by decide +kernel) ⟨Nat.le_of_ble_eq_true rfl, Nat.le_of_ble_eq_true rfl⟩) hK hP hD hS hA [1, 2, 3, 4, 5, 6] [0, 7, 8, 9, 10, 11, 12, 13, 14, 15, 16] 17 rfl rfl (kR1 _ rfl rfl (kR1 _ rfl rfl (kR1 _ rfl rfl (kR1 _ rfl rfl (kR1 _ rfl rfl (kR1 _ rfl rfl (kR1 _ rfl rfl (kR1 _ rfl rfl (kR1 _ rfl rfl (kR1 _ rfl rfl (kR1 _ rfl rfl kR0))))))))))) rfl (by decide +kernel) rfl rfl rfl rfl hl.1 rfl (Nat.le_of_ble_eq_true rfl) dX0_fetch_5 ⟨Nat.le_of_ble_eq_true rfl, Nat.le_of_ble_eq_true rfl⟩ (fun H locs hP hD hS => ?_)
  refine lv_if_eq (tgt := 33) hx hb dX0_fetch_8 (by decide) (fun c_8 => ?_) (fun c_8 => ?_)
  · have hf := kit c_8 hf
    refine lv_aload_n hx hb dX0_fetch_33 rfl (lv_at hl 0 rfl) ?_
    refine va_get (D := D) (ci := 0) (v := .ref a7) (C := RX0) (T := TX0) (N := 11) hx hb hts i_X0 hown hK hP 0 rfl rfl 1 (by decide) k20 (fun _ h9 => h9) rfl dX0_fetch_34 ?_
    refine lv_bipush (v := 7) hx hb dX0_fetch_37 (by decide) ?_
    refine lv_iload_n hx hb dX0_fetch_39 rfl (lv_at hl 2 rfl) ?_
    refine lv_aload_n hx hb dX0_fetch_40 rfl (lv_at hl 0 rfl) ?_
    refine lv_iload_n hx hb dX0_fetch_41 rfl (lv_at hl 1 rfl) ?_
    obtain ⟨u42, hf42, hf⟩ := kbd hf
    refine kc_Vi (As := [.int p1]) (rest := [.int p2, .int 7, .ref a7]) (wf := (PX0 a0 a1 a2 a3 a4 a5 a6 a7 a8 a9 a10 a11 a12 a13 a14 a15 a16 cyI cyZ w_code_kinds w_code_firsts w_code_seconds w_code_ints w_code_counting w_code_length w_steps_numbers w_steps_length w_pieces_numbers w_pieces_length w_valueIn w_registerOf w_slotOf w_pieceOf w_upcoming w_slotTaken w_registers w_slotCount)) (c_X0_slotHolding l D cyI cyZ a0 a1 a2 a3 a4 a5 a6 a7 a8 a9 a10 a11 a12 a13 a14 a15 a16 w_code_kinds w_code_firsts w_code_seconds w_code_ints w_code_counting w_code_length w_steps_numbers w_steps_length w_pieces_numbers w_pieces_length w_valueIn w_registerOf w_slotOf w_pieceOf w_upcoming w_slotTaken w_registers w_slotCount p1 u42 hf42) ⟨hx, hb, hml, hown, hts⟩ (cwV 1 hts gX0_fetch_X0_slotHolding rfl rfl rfl (by decide +kernel) ⟨Nat.le_of_ble_eq_true rfl, Nat.le_of_ble_eq_true rfl⟩) hK hP hD hS hA [0, 1, 2, 3, 4, 5, 6, 7, 8, 9, 10, 11, 12, 13, 14, 15, 16] [] 17 rfl rfl kR0 rfl (by decide +kernel) rfl rfl rfl rfl hl.1 rfl (Nat.le_of_ble_eq_true rfl) dX0_fetch_42 ⟨Nat.le_of_ble_eq_true rfl, Nat.le_of_ble_eq_true rfl⟩ (fun H locs hP hD hS => ?_)
    refine lv_iconst (v := (-1)) hx hb dX0_fetch_45 (by decide) ?_
    obtain ⟨⟨u46_0, u46_1, u46_2⟩, hf46, hf⟩ := kbd hf
    try dsimp only at hf
    refine kc_Vi (As := [.int 7, .int p2, .int u42, .int (-1)]) (rest := []) (wf := (PX0 a0 a1 a2 a3 a4 a5 a6 a7 a8 a9 a10 a11 a12 a13 a14 a15 a16 cyI cyZ w_code_kinds w_code_firsts w_code_seconds w_code_ints w_code_counting w_code_length u46_1 u46_2 w_pieces_numbers w_pieces_length w_valueIn w_registerOf w_slotOf w_pieceOf w_upcoming w_slotTaken w_registers w_slotCount)) (c_X3_append l D cyI cyZ a7 a8 960 w_steps_numbers 240 w_steps_length 7 p2 u42 (-1) (u46_0, u46_1, u46_2) hf46) ⟨hx, hb, hml, hown, hts⟩ (cwV 4 hts gX0_fetch_X3_append rfl rfl rfl (by decide +kernel) ⟨Nat.le_of_ble_eq_true rfl, Nat.le_of_ble_eq_true rfl⟩) hK hP hD hS hA [7, 8] [0, 1, 2, 3, 4, 5, 6, 9, 10, 11, 12, 13, 14, 15, 16] 17 rfl rfl (kR1 _ rfl rfl (kR1 _ rfl rfl (kR1 _ rfl rfl (kR1 _ rfl rfl (kR1 _ rfl rfl (kR1 _ rfl rfl (kR1 _ rfl rfl (kR1 _ rfl rfl (kR1 _ rfl rfl (kR1 _ rfl rfl (kR1 _ rfl rfl (kR1 _ rfl rfl (kR1 _ rfl rfl (kR1 _ rfl rfl (kR1 _ rfl rfl kR0))))))))))))))) rfl (by decide +kernel) rfl rfl rfl rfl hl.1 rfl (Nat.le_of_ble_eq_true rfl) dX0_fetch_46 ⟨Nat.le_of_ble_eq_true rfl, Nat.le_of_ble_eq_true rfl⟩ (fun H locs hP hD hS => ?_)
    refine lv_istore_n (lv' := [(3, .int u46_0), (0, .ref a0), (1, .int p1), (2, .int p2)]) hx hb dX0_fetch_49 rfl hl (by decide) rfl (fun ls hl => ?_)
    refine lv_aload_n hx hb dX0_fetch_50 rfl (lv_at hl 1 rfl) ?_
    refine lv_iload_n hx hb dX0_fetch_51 rfl (lv_at hl 2 rfl) ?_
    refine lv_iload_n hx hb dX0_fetch_52 rfl (lv_at hl 3 rfl) ?_
    refine lv_iload_n hx hb dX0_fetch_53 rfl (lv_at hl 0 rfl) ?_
    obtain ⟨⟨u54_0, u54_1, u54_2, u54_3, u54_4⟩, hf54, hf⟩ := kbd hf
    try dsimp only at hf
    refine kc_Vv (As := [.int p1, .int p2, .int u46_0]) (rest := []) (wf := (PX0 a0 a1 a2 a3 a4 a5 a6 a7 a8 a9 a10 a11 a12 a13 a14 a15 a16 cyI cyZ w_code_kinds w_code_firsts w_code_seconds w_code_ints w_code_counting w_code_length u46_1 u46_2 u54_0 u54_1 u54_2 u54_3 w_slotOf u54_4 w_upcoming w_slotTaken w_registers w_slotCount)) (c_X0_beginPiece l D cyI cyZ a0 a1 a2 a3 a4 a5 a6 a7 a8 a9 a10 a11 a12 a13 a14 a15 a16 w_code_kinds w_code_firsts w_code_seconds w_code_ints w_code_counting w_code_length u46_1 u46_2 w_pieces_numbers w_pieces_length w_valueIn w_registerOf w_slotOf w_pieceOf w_upcoming w_slotTaken w_registers w_slotCount p1 p2 u46_0 (u54_0, u54_1, u54_2, u54_3, u54_4) hf54) ⟨hx, hb, hml, hown, hts⟩ (cwV 3 hts gX0_fetch_X0_beginPiece rfl rfl rfl (by decide +kernel) ⟨Nat.le_of_ble_eq_true rfl, Nat.le_of_ble_eq_true rfl⟩) hK hP hD hS hA [0, 1, 2, 3, 4, 5, 6, 7, 8, 9, 10, 11, 12, 13, 14, 15, 16] [] 17 rfl rfl kR0 rfl (by decide +kernel) rfl rfl rfl rfl hl.1 rfl (Nat.le_of_ble_eq_true rfl) dX0_fetch_54 ⟨Nat.le_of_ble_eq_true rfl, Nat.le_of_ble_eq_true rfl⟩ (fun H locs hP hD hS => ?_)
    obtain rfl := Option.some.inj hf
    exact ret _ _ _ _ dX0_fetch_57 hP hD hS
  · have hf := kif c_8 hf
    refine lv_aload_n hx hb dX0_fetch_11 rfl (lv_at hl 0 rfl) ?_
    refine va_get (D := D) (ci := 0) (v := .ref a7) (C := RX0) (T := TX0) (N := 11) hx hb hts i_X0 hown hK hP 0 rfl rfl 1 (by decide) k20 (fun _ h9 => h9) rfl dX0_fetch_12 ?_
    refine lv_iconst (v := 0) hx hb dX0_fetch_15 (by decide) ?_
    refine lv_iload_n hx hb dX0_fetch_16 rfl (lv_at hl 2 rfl) ?_
    refine lv_aload_n hx hb dX0_fetch_17 rfl (lv_at hl 0 rfl) ?_
    refine va_get (D := D) (ci := 0) (v := .ref a1) (C := RX0) (T := TX0) (N := 11) hx hb hts i_X0 hown hK hP 0 rfl rfl 0 (by decide) k9 (fun _ h9 => h9) rfl dX0_fetch_18 ?_
    refine lv_iload_n hx hb dX0_fetch_21 rfl (lv_at hl 1 rfl) ?_
    obtain ⟨u22, hf22, hf⟩ := kbd hf
    refine kc_Vi (As := [.int p1]) (rest := [.int p2, .int 0, .ref a7]) (wf := (PX0 a0 a1 a2 a3 a4 a5 a6 a7 a8 a9 a10 a11 a12 a13 a14 a15 a16 cyI cyZ w_code_kinds w_code_firsts w_code_seconds w_code_ints w_code_counting w_code_length w_steps_numbers w_steps_length w_pieces_numbers w_pieces_length w_valueIn w_registerOf w_slotOf w_pieceOf w_upcoming w_slotTaken w_registers w_slotCount)) (c_X1_intOf l D cyI cyZ a1 a2 a3 a4 a5 a6 w_code_kinds w_code_firsts w_code_seconds w_code_ints w_code_counting w_code_length p1 u22 hf22) ⟨hx, hb, hml, hown, hts⟩ (cwV 1 hts gX0_fetch_X1_intOf rfl rfl rfl (by decide +kernel) ⟨Nat.le_of_ble_eq_true rfl, Nat.le_of_ble_eq_true rfl⟩) hK hP hD hS hA [1, 2, 3, 4, 5, 6] [0, 7, 8, 9, 10, 11, 12, 13, 14, 15, 16] 17 rfl rfl (kR1 _ rfl rfl (kR1 _ rfl rfl (kR1 _ rfl rfl (kR1 _ rfl rfl (kR1 _ rfl rfl (kR1 _ rfl rfl (kR1 _ rfl rfl (kR1 _ rfl rfl (kR1 _ rfl rfl (kR1 _ rfl rfl (kR1 _ rfl rfl kR0))))))))))) rfl (by decide +kernel) rfl rfl rfl rfl hl.1 rfl (Nat.le_of_ble_eq_true rfl) dX0_fetch_22 ⟨Nat.le_of_ble_eq_true rfl, Nat.le_of_ble_eq_true rfl⟩ (fun H locs hP hD hS => ?_)
    refine lv_iconst (v := (-1)) hx hb dX0_fetch_25 (by decide) ?_
    obtain ⟨⟨u26_0, u26_1, u26_2⟩, hf26, hf⟩ := kbd hf
    try dsimp only at hf
    refine kc_Vi (As := [.int 0, .int p2, .int u22, .int (-1)]) (rest := []) (wf := (PX0 a0 a1 a2 a3 a4 a5 a6 a7 a8 a9 a10 a11 a12 a13 a14 a15 a16 cyI cyZ w_code_kinds w_code_firsts w_code_seconds w_code_ints w_code_counting w_code_length u26_1 u26_2 w_pieces_numbers w_pieces_length w_valueIn w_registerOf w_slotOf w_pieceOf w_upcoming w_slotTaken w_registers w_slotCount)) (c_X3_append l D cyI cyZ a7 a8 960 w_steps_numbers 240 w_steps_length 0 p2 u22 (-1) (u26_0, u26_1, u26_2) hf26) ⟨hx, hb, hml, hown, hts⟩ (cwV 4 hts gX0_fetch_X3_append rfl rfl rfl (by decide +kernel) ⟨Nat.le_of_ble_eq_true rfl, Nat.le_of_ble_eq_true rfl⟩) hK hP hD hS hA [7, 8] [0, 1, 2, 3, 4, 5, 6, 9, 10, 11, 12, 13, 14, 15, 16] 17 rfl rfl (kR1 _ rfl rfl (kR1 _ rfl rfl (kR1 _ rfl rfl (kR1 _ rfl rfl (kR1 _ rfl rfl (kR1 _ rfl rfl (kR1 _ rfl rfl (kR1 _ rfl rfl (kR1 _ rfl rfl (kR1 _ rfl rfl (kR1 _ rfl rfl (kR1 _ rfl rfl (kR1 _ rfl rfl (kR1 _ rfl rfl (kR1 _ rfl rfl kR0))))))))))))))) rfl (by decide +kernel) rfl rfl rfl rfl hl.1 rfl (Nat.le_of_ble_eq_true rfl) dX0_fetch_26 ⟨Nat.le_of_ble_eq_true rfl, Nat.le_of_ble_eq_true rfl⟩ (fun H locs hP hD hS => ?_)
    refine lv_istore_n (lv' := [(3, .int u26_0), (0, .ref a0), (1, .int p1), (2, .int p2)]) hx hb dX0_fetch_29 rfl hl (by decide) rfl (fun ls hl => ?_)
    refine lv_goto (tgt := 50) hx hb dX0_fetch_30 (by decide) ?_
    refine lv_aload_n hx hb dX0_fetch_50 rfl (lv_at hl 1 rfl) ?_
    refine lv_iload_n hx hb dX0_fetch_51 rfl (lv_at hl 2 rfl) ?_
    refine lv_iload_n hx hb dX0_fetch_52 rfl (lv_at hl 3 rfl) ?_
    refine lv_iload_n hx hb dX0_fetch_53 rfl (lv_at hl 0 rfl) ?_
    obtain ⟨⟨u54_0, u54_1, u54_2, u54_3, u54_4⟩, hf54, hf⟩ := kbd hf
    try dsimp only at hf
    refine kc_Vv (As := [.int p1, .int p2, .int u26_0]) (rest := []) (wf := (PX0 a0 a1 a2 a3 a4 a5 a6 a7 a8 a9 a10 a11 a12 a13 a14 a15 a16 cyI cyZ w_code_kinds w_code_firsts w_code_seconds w_code_ints w_code_counting w_code_length u26_1 u26_2 u54_0 u54_1 u54_2 u54_3 w_slotOf u54_4 w_upcoming w_slotTaken w_registers w_slotCount)) (c_X0_beginPiece l D cyI cyZ a0 a1 a2 a3 a4 a5 a6 a7 a8 a9 a10 a11 a12 a13 a14 a15 a16 w_code_kinds w_code_firsts w_code_seconds w_code_ints w_code_counting w_code_length u26_1 u26_2 w_pieces_numbers w_pieces_length w_valueIn w_registerOf w_slotOf w_pieceOf w_upcoming w_slotTaken w_registers w_slotCount p1 p2 u26_0 (u54_0, u54_1, u54_2, u54_3, u54_4) hf54) ⟨hx, hb, hml, hown, hts⟩ (cwV 3 hts gX0_fetch_X0_beginPiece rfl rfl rfl (by decide +kernel) ⟨Nat.le_of_ble_eq_true rfl, Nat.le_of_ble_eq_true rfl⟩) hK hP hD hS hA [0, 1, 2, 3, 4, 5, 6, 7, 8, 9, 10, 11, 12, 13, 14, 15, 16] [] 17 rfl rfl kR0 rfl (by decide +kernel) rfl rfl rfl rfl hl.1 rfl (Nat.le_of_ble_eq_true rfl) dX0_fetch_54 ⟨Nat.le_of_ble_eq_true rfl, Nat.le_of_ble_eq_true rfl⟩ (fun H locs hP hD hS => ?_)
    obtain rfl := Option.some.inj hf
    exact ret _ _ _ _ dX0_fetch_57 hP hD hS

abbrev rmX0_freeSlot : Room := { frames := 2, cells := 0, slots := 0, locals := 41 }
set_option maxHeartbeats 4000000 in
set_option maxRecDepth 100000 in
theorem c_X0_freeSlot (l : Launch) (D : va_G) (cyI cyZ : ClassId) (a0 a1 a2 a3 a4 a5 a6 a7 a8 a9 a10 a11 a12 a13 a14 a15 a16 : Nat) (w_code_kinds : Nat → Int32) (w_code_firsts : Nat → Int32) (w_code_seconds : Nat → Int32) (w_code_ints : Nat → Int32) (w_code_counting : Nat → Int32) (w_code_length : Int32) (w_steps_numbers : Nat → Int32) (w_steps_length : Int32) (w_pieces_numbers : Nat → Int32) (w_pieces_length : Int32) (w_valueIn : Nat → Int32) (w_registerOf : Nat → Int32) (w_slotOf : Nat → Int32) (w_pieceOf : Nat → Int32) (w_upcoming : Nat → Int32) (w_slotTaken : Nat → Int32) (w_registers : Int32) (w_slotCount : Int32) (p1 : Int32) (o : (Nat → Int32) × (Nat → Int32)) (hf : f_X0_freeSlot p1 w_slotOf w_slotTaken = some o) : kMv l yX0_freeSlot wsX0_freeSlot rmX0_freeSlot [.ref a0, .int p1] D (PX0 a0 a1 a2 a3 a4 a5 a6 a7 a8 a9 a10 a11 a12 a13 a14 a15 a16 cyI cyZ w_code_kinds w_code_firsts w_code_seconds w_code_ints w_code_counting w_code_length w_steps_numbers w_steps_length w_pieces_numbers w_pieces_length w_valueIn w_registerOf w_slotOf w_pieceOf w_upcoming w_slotTaken w_registers w_slotCount) (PX0 a0 a1 a2 a3 a4 a5 a6 a7 a8 a9 a10 a11 a12 a13 a14 a15 a16 cyI cyZ w_code_kinds w_code_firsts w_code_seconds w_code_ints w_code_counting w_code_length w_steps_numbers w_steps_length w_pieces_numbers w_pieces_length w_valueIn w_registerOf o.1 w_pieceOf w_upcoming o.2 w_registers w_slotCount) (kT cyI cyZ) 0 0 := by
  refine kOf_v (cc := cX0_freeSlot) (maxL := 3) (by decide +kernel) rfl (Nat.le_of_ble_eq_true rfl) ?_
  intro p e s m args below meth c A Z ls C0 hP hK hD hA hl ret
  obtain ⟨hx, hb, hr, hml, hown, hts, hlocks⟩ := C0
  have hown : s.vm.findClass RX0 = some m.cls := hown
  have hl : lv_has ls 3 [(0, .ref a0), (1, .int p1)] := hl
  have hS : va_S A s.heap s.heap [] := va_S.rf
  have i_X0 : ∀ w ∈ wsX00, w ∈ wsX0_freeSlot := by decide +kernel
  have k34 := hts (.fieldLink RX0 34 "RegisterAllocator$Allocation" "slotOf" "[I") (by decide +kernel)
  have k43 := hts (.fieldLink RX0 43 "RegisterAllocator$Allocation" "slotTaken" "[Z") (by decide +kernel)
  rw [f_X0_freeSlot] at hf
  refine lv_aload_n hx hb dX0_freeSlot_0 rfl (lv_at hl 0 rfl) ?_
  refine lv_iload_n hx hb dX0_freeSlot_1 rfl (lv_at hl 1 rfl) ?_
  obtain ⟨u2, hf2, hf⟩ := kbd hf
  refine kc_Vi (As := [.int p1]) (rest := []) (wf := (PX0 a0 a1 a2 a3 a4 a5 a6 a7 a8 a9 a10 a11 a12 a13 a14 a15 a16 cyI cyZ w_code_kinds w_code_firsts w_code_seconds w_code_ints w_code_counting w_code_length w_steps_numbers w_steps_length w_pieces_numbers w_pieces_length w_valueIn w_registerOf w_slotOf w_pieceOf w_upcoming w_slotTaken w_registers w_slotCount)) (c_X0_slotHolding l D cyI cyZ a0 a1 a2 a3 a4 a5 a6 a7 a8 a9 a10 a11 a12 a13 a14 a15 a16 w_code_kinds w_code_firsts w_code_seconds w_code_ints w_code_counting w_code_length w_steps_numbers w_steps_length w_pieces_numbers w_pieces_length w_valueIn w_registerOf w_slotOf w_pieceOf w_upcoming w_slotTaken w_registers w_slotCount p1 u2 hf2) ⟨hx, hb, hml, hown, hts⟩ (cwV 1 hts gX0_freeSlot_X0_slotHolding rfl rfl rfl (by decide +kernel) ⟨Nat.le_of_ble_eq_true rfl, Nat.le_of_ble_eq_true rfl⟩) hK hP hD hS hA [0, 1, 2, 3, 4, 5, 6, 7, 8, 9, 10, 11, 12, 13, 14, 15, 16] [] 17 rfl rfl kR0 rfl (by decide +kernel) rfl rfl rfl rfl hl.1 rfl (Nat.le_of_ble_eq_true rfl) dX0_freeSlot_2 ⟨Nat.le_of_ble_eq_true rfl, Nat.le_of_ble_eq_true rfl⟩ (fun H locs hP hD hS => ?_)
  refine lv_istore_n (lv' := [(2, .int u2), (0, .ref a0), (1, .int p1)]) hx hb dX0_freeSlot_5 rfl hl (by decide) rfl (fun ls hl => ?_)
  refine lv_iload_n hx hb dX0_freeSlot_6 rfl (lv_at hl 0 rfl) ?_
  obtain ⟨u7, hf7, hf⟩ := kbd hf
  refine kc_Si (As := [.int u2]) (rest := []) (wf := (PX0 a0 a1 a2 a3 a4 a5 a6 a7 a8 a9 a10 a11 a12 a13 a14 a15 a16 cyI cyZ w_code_kinds w_code_firsts w_code_seconds w_code_ints w_code_counting w_code_length w_steps_numbers w_steps_length w_pieces_numbers w_pieces_length w_valueIn w_registerOf w_slotOf w_pieceOf w_upcoming w_slotTaken w_registers w_slotCount)) (c_X0_isRow l D cyI cyZ 0 u2 u7 hf7) ⟨hx, hb, hml, hown, hts⟩ (cwS 1 hts gX0_freeSlot_X0_isRow rfl rfl rfl (by decide +kernel) ⟨Nat.le_of_ble_eq_true rfl, Nat.le_of_ble_eq_true rfl⟩) hK hP hD hS hA [] [0, 1, 2, 3, 4, 5, 6, 7, 8, 9, 10, 11, 12, 13, 14, 15, 16] 17 rfl rfl (kR1 _ rfl rfl (kR1 _ rfl rfl (kR1 _ rfl rfl (kR1 _ rfl rfl (kR1 _ rfl rfl (kR1 _ rfl rfl (kR1 _ rfl rfl (kR1 _ rfl rfl (kR1 _ rfl rfl (kR1 _ rfl rfl (kR1 _ rfl rfl (kR1 _ rfl rfl (kR1 _ rfl rfl (kR1 _ rfl rfl (kR1 _ rfl rfl (kR1 _ rfl rfl (kR1 _ rfl rfl kR0))))))))))))))))) rfl (by decide +kernel) rfl hl.1 rfl (Nat.le_of_ble_eq_true rfl) dX0_freeSlot_7 ⟨Nat.le_of_ble_eq_true rfl, Nat.le_of_ble_eq_true rfl⟩ (fun H locs hP hD hS => ?_)
  refine lv_if_eq (tgt := 27) hx hb dX0_freeSlot_10 (by decide) (fun c_10 => ?_) (fun c_10 => ?_)
  · have hf := kit c_10 hf
    obtain rfl := Option.some.inj hf
    exact ret _ _ _ _ dX0_freeSlot_27 hP hD hS
  · have hf := kif c_10 hf
    refine lv_aload_n hx hb dX0_freeSlot_13 rfl (lv_at hl 1 rfl) ?_
    refine va_get (D := D) (ci := 0) (v := .ref a16) (C := RX0) (T := TX0) (N := 11) hx hb hts i_X0 hown hK hP 0 rfl rfl 8 (by decide) k43 (fun _ h9 => h9) rfl dX0_freeSlot_14 ?_
    refine lv_iload_n hx hb dX0_freeSlot_17 rfl (lv_at hl 0 rfl) ?_
    refine lv_iconst (v := 0) hx hb dX0_freeSlot_18 (by decide) ?_
    obtain ⟨h_19, hf⟩ := rdc_some hf
    refine kc_zast hx hb hK hP hD hS 16 1 rfl rfl knar0 h_19 dX0_freeSlot_19 (fun H locs hP hD hS => ?_)
    have hP : va_P D vwCl (PX0 a0 a1 a2 a3 a4 a5 a6 a7 a8 a9 a10 a11 a12 a13 a14 a15 a16 cyI cyZ w_code_kinds w_code_firsts w_code_seconds w_code_ints w_code_counting w_code_length w_steps_numbers w_steps_length w_pieces_numbers w_pieces_length w_valueIn w_registerOf w_slotOf w_pieceOf w_upcoming (upd w_slotTaken u2.toNatClampNeg 0) w_registers w_slotCount) H := hP
    have hD : va_D A (PX0 a0 a1 a2 a3 a4 a5 a6 a7 a8 a9 a10 a11 a12 a13 a14 a15 a16 cyI cyZ w_code_kinds w_code_firsts w_code_seconds w_code_ints w_code_counting w_code_length w_steps_numbers w_steps_length w_pieces_numbers w_pieces_length w_valueIn w_registerOf w_slotOf w_pieceOf w_upcoming (upd w_slotTaken u2.toNatClampNeg 0) w_registers w_slotCount) := hD
    refine lv_aload_n hx hb dX0_freeSlot_20 rfl (lv_at hl 1 rfl) ?_
    refine va_get (D := D) (ci := 0) (v := .ref a13) (C := RX0) (T := TX0) (N := 11) hx hb hts i_X0 hown hK hP 0 rfl rfl 5 (by decide) k34 (fun _ h9 => h9) rfl dX0_freeSlot_21 ?_
    refine lv_iload_n hx hb dX0_freeSlot_24 rfl (lv_at hl 2 rfl) ?_
    refine lv_iconst (v := (-1)) hx hb dX0_freeSlot_25 (by decide) ?_
    obtain ⟨h_26, hf⟩ := rdc_some hf
    refine va_iast hx hb hK hP hD hS 13 0 rfl rfl h_26 dX0_freeSlot_26 (fun H locs hP hD hS => ?_)
    have hP : va_P D vwCl (PX0 a0 a1 a2 a3 a4 a5 a6 a7 a8 a9 a10 a11 a12 a13 a14 a15 a16 cyI cyZ w_code_kinds w_code_firsts w_code_seconds w_code_ints w_code_counting w_code_length w_steps_numbers w_steps_length w_pieces_numbers w_pieces_length w_valueIn w_registerOf (upd w_slotOf p1.toNatClampNeg (-1)) w_pieceOf w_upcoming (upd w_slotTaken u2.toNatClampNeg 0) w_registers w_slotCount) H := hP
    have hD : va_D A (PX0 a0 a1 a2 a3 a4 a5 a6 a7 a8 a9 a10 a11 a12 a13 a14 a15 a16 cyI cyZ w_code_kinds w_code_firsts w_code_seconds w_code_ints w_code_counting w_code_length w_steps_numbers w_steps_length w_pieces_numbers w_pieces_length w_valueIn w_registerOf (upd w_slotOf p1.toNatClampNeg (-1)) w_pieceOf w_upcoming (upd w_slotTaken u2.toNatClampNeg 0) w_registers w_slotCount) := hD
    obtain rfl := Option.some.inj hf
    exact ret _ _ _ _ dX0_freeSlot_27 hP hD hS

abbrev rmX0_moveToNextUse : Room := { frames := 3, cells := 0, slots := 0, locals := 63 }
set_option maxHeartbeats 4000000 in
set_option maxRecDepth 100000 in
theorem c_X0_moveToNextUse (l : Launch) (D : va_G) (cyI cyZ : ClassId) (a0 a1 a2 a3 a4 a5 a6 a7 a8 a9 a10 a11 a12 a13 a14 a15 a16 : Nat) (w_code_kinds : Nat → Int32) (w_code_firsts : Nat → Int32) (w_code_seconds : Nat → Int32) (w_code_ints : Nat → Int32) (w_code_counting : Nat → Int32) (w_code_length : Int32) (w_steps_numbers : Nat → Int32) (w_steps_length : Int32) (w_pieces_numbers : Nat → Int32) (w_pieces_length : Int32) (w_valueIn : Nat → Int32) (w_registerOf : Nat → Int32) (w_slotOf : Nat → Int32) (w_pieceOf : Nat → Int32) (w_upcoming : Nat → Int32) (w_slotTaken : Nat → Int32) (w_registers : Int32) (w_slotCount : Int32) (p1 : Int32) (p2 : Int32) (o : (Nat → Int32) × (Nat → Int32) × (Nat → Int32) × (Nat → Int32) × (Nat → Int32)) (hf : f_X0_moveToNextUse p1 p2 w_code_firsts w_code_seconds w_code_counting w_code_length w_valueIn w_registerOf w_slotOf w_upcoming w_slotTaken w_registers = some o) : kMv l yX0_moveToNextUse wsX0_moveToNextUse rmX0_moveToNextUse [.ref a0, .int p1, .int p2] D (PX0 a0 a1 a2 a3 a4 a5 a6 a7 a8 a9 a10 a11 a12 a13 a14 a15 a16 cyI cyZ w_code_kinds w_code_firsts w_code_seconds w_code_ints w_code_counting w_code_length w_steps_numbers w_steps_length w_pieces_numbers w_pieces_length w_valueIn w_registerOf w_slotOf w_pieceOf w_upcoming w_slotTaken w_registers w_slotCount) (PX0 a0 a1 a2 a3 a4 a5 a6 a7 a8 a9 a10 a11 a12 a13 a14 a15 a16 cyI cyZ w_code_kinds w_code_firsts w_code_seconds w_code_ints w_code_counting w_code_length w_steps_numbers w_steps_length w_pieces_numbers w_pieces_length o.1 o.2.1 o.2.2.1 w_pieceOf o.2.2.2.1 o.2.2.2.2 w_registers w_slotCount) (kT cyI cyZ) 0 0 := by
  refine kOf_v (cc := cX0_moveToNextUse) (maxL := 3) (by decide +kernel) rfl (Nat.le_of_ble_eq_true rfl) ?_
  intro p e s m args below meth c A Z ls C0 hP hK hD hA hl ret
  obtain ⟨hx, hb, hr, hml, hown, hts, hlocks⟩ := C0
  have hown : s.vm.findClass RX0 = some m.cls := hown
  have hl : lv_has ls 3 [(0, .ref a0), (1, .int p1), (2, .int p2)] := hl
  have hS : va_S A s.heap s.heap [] := va_S.rf
  have i_X0 : ∀ w ∈ wsX00, w ∈ wsX0_moveToNextUse := by decide +kernel
  have k40 := hts (.fieldLink RX0 40 "RegisterAllocator$Allocation" "upcoming" "[I") (by decide +kernel)
  have k9 := hts (.fieldLink RX0 9 "RegisterAllocator$Allocation" "code" "LRegisterAllocator$Code;") (by decide +kernel)
  rw [f_X0_moveToNextUse] at hf
  refine lv_iload_n hx hb dX0_moveToNextUse_0 rfl (lv_at hl 1 rfl) ?_
  obtain ⟨u1, hf1, hf⟩ := kbd hf
  refine kc_Si (As := [.int p1]) (rest := []) (wf := (PX0 a0 a1 a2 a3 a4 a5 a6 a7 a8 a9 a10 a11 a12 a13 a14 a15 a16 cyI cyZ w_code_kinds w_code_firsts w_code_seconds w_code_ints w_code_counting w_code_length w_steps_numbers w_steps_length w_pieces_numbers w_pieces_length w_valueIn w_registerOf w_slotOf w_pieceOf w_upcoming w_slotTaken w_registers w_slotCount)) (c_X0_isRow l D cyI cyZ 0 p1 u1 hf1) ⟨hx, hb, hml, hown, hts⟩ (cwS 1 hts gX0_moveToNextUse_X0_isRow rfl rfl rfl (by decide +kernel) ⟨Nat.le_of_ble_eq_true rfl, Nat.le_of_ble_eq_true rfl⟩) hK hP hD hS hA [] [0, 1, 2, 3, 4, 5, 6, 7, 8, 9, 10, 11, 12, 13, 14, 15, 16] 17 rfl rfl (kR1 _ rfl rfl (kR1 _ rfl rfl (kR1 _ rfl rfl (kR1 _ rfl rfl (kR1 _ rfl rfl (kR1 _ rfl rfl (kR1 _ rfl rfl (kR1 _ rfl rfl (kR1 _ rfl rfl (kR1 _ rfl rfl (kR1 _ rfl rfl (kR1 _ rfl rfl (kR1 _ rfl rfl (kR1 _ rfl rfl (kR1 _ rfl rfl (kR1 _ rfl rfl (kR1 _ rfl rfl kR0))))))))))))))))) rfl (by decide +kernel) rfl hl.1 rfl (Nat.le_of_ble_eq_true rfl) dX0_moveToNextUse_1 ⟨Nat.le_of_ble_eq_true rfl, Nat.le_of_ble_eq_true rfl⟩ (fun H locs hP hD hS => ?_)
  refine lv_if_ne (tgt := 8) hx hb dX0_moveToNextUse_4 (by decide) (fun c_4 => ?_) (fun c_4 => ?_)
  · have hf := kif c_4 hf
    refine lv_aload_n hx hb dX0_moveToNextUse_8 rfl (lv_at hl 0 rfl) ?_
    refine va_get (D := D) (ci := 0) (v := .ref a15) (C := RX0) (T := TX0) (N := 11) hx hb hts i_X0 hown hK hP 0 rfl rfl 7 (by decide) k40 (fun _ h9 => h9) rfl dX0_moveToNextUse_9 ?_
    refine lv_iload_n hx hb dX0_moveToNextUse_12 rfl (lv_at hl 1 rfl) ?_
    refine lv_aload_n hx hb dX0_moveToNextUse_13 rfl (lv_at hl 0 rfl) ?_
    refine va_get (D := D) (ci := 0) (v := .ref a1) (C := RX0) (T := TX0) (N := 11) hx hb hts i_X0 hown hK hP 0 rfl rfl 0 (by decide) k9 (fun _ h9 => h9) rfl dX0_moveToNextUse_14 ?_
    refine lv_iload_n hx hb dX0_moveToNextUse_17 rfl (lv_at hl 1 rfl) ?_
    refine lv_iload_n hx hb dX0_moveToNextUse_18 rfl (lv_at hl 2 rfl) ?_
    refine lv_iconst (v := 1) hx hb dX0_moveToNextUse_19 (by decide) ?_
    refine lv_iadd hx hb dX0_moveToNextUse_20 ?_
    obtain ⟨u21, hf21, hf⟩ := kbd hf
    refine kc_Vi (As := [.int p1, .int (p2 + 1)]) (rest := [.int p1, .ref a15]) (wf := (PX0 a0 a1 a2 a3 a4 a5 a6 a7 a8 a9 a10 a11 a12 a13 a14 a15 a16 cyI cyZ w_code_kinds w_code_firsts w_code_seconds w_code_ints w_code_counting w_code_length w_steps_numbers w_steps_length w_pieces_numbers w_pieces_length w_valueIn w_registerOf w_slotOf w_pieceOf w_upcoming w_slotTaken w_registers w_slotCount)) (c_X1_firstUse l D cyI cyZ a1 a2 a3 a4 a5 a6 w_code_kinds w_code_firsts w_code_seconds w_code_ints w_code_counting w_code_length p1 (p2 + 1) u21 hf21) ⟨hx, hb, hml, hown, hts⟩ (cwV 2 hts gX0_moveToNextUse_X1_firstUse rfl rfl rfl (by decide +kernel) ⟨Nat.le_of_ble_eq_true rfl, Nat.le_of_ble_eq_true rfl⟩) hK hP hD hS hA [1, 2, 3, 4, 5, 6] [0, 7, 8, 9, 10, 11, 12, 13, 14, 15, 16] 17 rfl rfl (kR1 _ rfl rfl (kR1 _ rfl rfl (kR1 _ rfl rfl (kR1 _ rfl rfl (kR1 _ rfl rfl (kR1 _ rfl rfl (kR1 _ rfl rfl (kR1 _ rfl rfl (kR1 _ rfl rfl (kR1 _ rfl rfl (kR1 _ rfl rfl kR0))))))))))) rfl (by decide +kernel) rfl rfl rfl rfl hl.1 rfl (Nat.le_of_ble_eq_true rfl) dX0_moveToNextUse_21 ⟨Nat.le_of_ble_eq_true rfl, Nat.le_of_ble_eq_true rfl⟩ (fun H locs hP hD hS => ?_)
    obtain ⟨h_24, hf⟩ := rdc_some hf
    refine va_iast hx hb hK hP hD hS 15 0 rfl rfl h_24 dX0_moveToNextUse_24 (fun H locs hP hD hS => ?_)
    have hP : va_P D vwCl (PX0 a0 a1 a2 a3 a4 a5 a6 a7 a8 a9 a10 a11 a12 a13 a14 a15 a16 cyI cyZ w_code_kinds w_code_firsts w_code_seconds w_code_ints w_code_counting w_code_length w_steps_numbers w_steps_length w_pieces_numbers w_pieces_length w_valueIn w_registerOf w_slotOf w_pieceOf (upd w_upcoming p1.toNatClampNeg u21) w_slotTaken w_registers w_slotCount) H := hP
    have hD : va_D A (PX0 a0 a1 a2 a3 a4 a5 a6 a7 a8 a9 a10 a11 a12 a13 a14 a15 a16 cyI cyZ w_code_kinds w_code_firsts w_code_seconds w_code_ints w_code_counting w_code_length w_steps_numbers w_steps_length w_pieces_numbers w_pieces_length w_valueIn w_registerOf w_slotOf w_pieceOf (upd w_upcoming p1.toNatClampNeg u21) w_slotTaken w_registers w_slotCount) := hD
    refine lv_aload_n hx hb dX0_moveToNextUse_25 rfl (lv_at hl 0 rfl) ?_
    refine va_get (D := D) (ci := 0) (v := .ref a15) (C := RX0) (T := TX0) (N := 11) hx hb hts i_X0 hown hK hP 0 rfl rfl 7 (by decide) k40 (fun _ h9 => h9) rfl dX0_moveToNextUse_26 ?_
    refine lv_iload_n hx hb dX0_moveToNextUse_29 rfl (lv_at hl 1 rfl) ?_
    obtain ⟨h_30, hf⟩ := rdc_some hf
    refine va_iald hx hb hK hP 15 0 rfl rfl h_30 dX0_moveToNextUse_30 ?_
    refine lv_iconst (v := (-1)) hx hb dX0_moveToNextUse_31 (by decide) ?_
    refine lv_icmp_ne (tgt := 45) hx hb dX0_moveToNextUse_32 (by decide) (fun c_32 => ?_) (fun c_32 => ?_)
    · have hf := kif c_32 hf
      obtain rfl := Option.some.inj hf
      exact ret _ _ _ _ dX0_moveToNextUse_45 hP hD hS
    · have hf := kit c_32 hf
      refine lv_aload_n hx hb dX0_moveToNextUse_35 rfl (lv_at hl 0 rfl) ?_
      refine lv_iload_n hx hb dX0_moveToNextUse_36 rfl (lv_at hl 1 rfl) ?_
      obtain ⟨⟨u37_0, u37_1⟩, hf37, hf⟩ := kbd hf
      try dsimp only at hf
      refine kc_Vv (As := [.int p1]) (rest := []) (wf := (PX0 a0 a1 a2 a3 a4 a5 a6 a7 a8 a9 a10 a11 a12 a13 a14 a15 a16 cyI cyZ w_code_kinds w_code_firsts w_code_seconds w_code_ints w_code_counting w_code_length w_steps_numbers w_steps_length w_pieces_numbers w_pieces_length u37_0 u37_1 w_slotOf w_pieceOf (upd w_upcoming p1.toNatClampNeg u21) w_slotTaken w_registers w_slotCount)) (c_X0_leaveRegister l D cyI cyZ a0 a1 a2 a3 a4 a5 a6 a7 a8 a9 a10 a11 a12 a13 a14 a15 a16 w_code_kinds w_code_firsts w_code_seconds w_code_ints w_code_counting w_code_length w_steps_numbers w_steps_length w_pieces_numbers w_pieces_length w_valueIn w_registerOf w_slotOf w_pieceOf (upd w_upcoming p1.toNatClampNeg u21) w_slotTaken w_registers w_slotCount p1 (u37_0, u37_1) hf37) ⟨hx, hb, hml, hown, hts⟩ (cwV 1 hts gX0_moveToNextUse_X0_leaveRegister rfl rfl rfl (by decide +kernel) ⟨Nat.le_of_ble_eq_true rfl, Nat.le_of_ble_eq_true rfl⟩) hK hP hD hS hA [0, 1, 2, 3, 4, 5, 6, 7, 8, 9, 10, 11, 12, 13, 14, 15, 16] [] 17 rfl rfl kR0 rfl (by decide +kernel) rfl rfl rfl rfl hl.1 rfl (Nat.le_of_ble_eq_true rfl) dX0_moveToNextUse_37 ⟨Nat.le_of_ble_eq_true rfl, Nat.le_of_ble_eq_true rfl⟩ (fun H locs hP hD hS => ?_)
      refine lv_aload_n hx hb dX0_moveToNextUse_40 rfl (lv_at hl 0 rfl) ?_
      refine lv_iload_n hx hb dX0_moveToNextUse_41 rfl (lv_at hl 1 rfl) ?_
      obtain ⟨⟨u42_0, u42_1⟩, hf42, hf⟩ := kbd hf
      try dsimp only at hf
      refine kc_Vv (As := [.int p1]) (rest := []) (wf := (PX0 a0 a1 a2 a3 a4 a5 a6 a7 a8 a9 a10 a11 a12 a13 a14 a15 a16 cyI cyZ w_code_kinds w_code_firsts w_code_seconds w_code_ints w_code_counting w_code_length w_steps_numbers w_steps_length w_pieces_numbers w_pieces_length u37_0 u37_1 u42_0 w_pieceOf (upd w_upcoming p1.toNatClampNeg u21) u42_1 w_registers w_slotCount)) (c_X0_freeSlot l D cyI cyZ a0 a1 a2 a3 a4 a5 a6 a7 a8 a9 a10 a11 a12 a13 a14 a15 a16 w_code_kinds w_code_firsts w_code_seconds w_code_ints w_code_counting w_code_length w_steps_numbers w_steps_length w_pieces_numbers w_pieces_length u37_0 u37_1 w_slotOf w_pieceOf (upd w_upcoming p1.toNatClampNeg u21) w_slotTaken w_registers w_slotCount p1 (u42_0, u42_1) hf42) ⟨hx, hb, hml, hown, hts⟩ (cwV 1 hts gX0_moveToNextUse_X0_freeSlot rfl rfl rfl (by decide +kernel) ⟨Nat.le_of_ble_eq_true rfl, Nat.le_of_ble_eq_true rfl⟩) hK hP hD hS hA [0, 1, 2, 3, 4, 5, 6, 7, 8, 9, 10, 11, 12, 13, 14, 15, 16] [] 17 rfl rfl kR0 rfl (by decide +kernel) rfl rfl rfl rfl hl.1 rfl (Nat.le_of_ble_eq_true rfl) dX0_moveToNextUse_42 ⟨Nat.le_of_ble_eq_true rfl, Nat.le_of_ble_eq_true rfl⟩ (fun H locs hP hD hS => ?_)
      obtain rfl := Option.some.inj hf
      exact ret _ _ _ _ dX0_moveToNextUse_45 hP hD hS
  · have hf := kit c_4 hf
    obtain rfl := Option.some.inj hf
    exact ret _ _ _ _ dX0_moveToNextUse_7 hP hD hS

abbrev rmX0_registerJustLeft : Room := { frames := 2, cells := 0, slots := 0, locals := 42 }
set_option maxHeartbeats 4000000 in
set_option maxRecDepth 100000 in
theorem c_X0_registerJustLeft (l : Launch) (D : va_G) (cyI cyZ : ClassId) (a0 a1 a2 a3 a4 a5 a6 a7 a8 a9 a10 a11 a12 a13 a14 a15 a16 : Nat) (w_code_kinds : Nat → Int32) (w_code_firsts : Nat → Int32) (w_code_seconds : Nat → Int32) (w_code_ints : Nat → Int32) (w_code_counting : Nat → Int32) (w_code_length : Int32) (w_steps_numbers : Nat → Int32) (w_steps_length : Int32) (w_pieces_numbers : Nat → Int32) (w_pieces_length : Int32) (w_valueIn : Nat → Int32) (w_registerOf : Nat → Int32) (w_slotOf : Nat → Int32) (w_pieceOf : Nat → Int32) (w_upcoming : Nat → Int32) (w_slotTaken : Nat → Int32) (w_registers : Int32) (w_slotCount : Int32) (p1 : Int32) (p2 : Int32) (o : Int32) (hf : f_X0_registerJustLeft p1 p2 w_valueIn w_registers = some o) : kMi l yX0_registerJustLeft wsX0_registerJustLeft rmX0_registerJustLeft [.ref a0, .int p1, .int p2] D (PX0 a0 a1 a2 a3 a4 a5 a6 a7 a8 a9 a10 a11 a12 a13 a14 a15 a16 cyI cyZ w_code_kinds w_code_firsts w_code_seconds w_code_ints w_code_counting w_code_length w_steps_numbers w_steps_length w_pieces_numbers w_pieces_length w_valueIn w_registerOf w_slotOf w_pieceOf w_upcoming w_slotTaken w_registers w_slotCount) (PX0 a0 a1 a2 a3 a4 a5 a6 a7 a8 a9 a10 a11 a12 a13 a14 a15 a16 cyI cyZ w_code_kinds w_code_firsts w_code_seconds w_code_ints w_code_counting w_code_length w_steps_numbers w_steps_length w_pieces_numbers w_pieces_length w_valueIn w_registerOf w_slotOf w_pieceOf w_upcoming w_slotTaken w_registers w_slotCount) (kT cyI cyZ) o 0 0 := by
  refine kOf_i (cc := cX0_registerJustLeft) (maxL := 3) (ty := .int) (by decide +kernel) rfl (Nat.le_of_ble_eq_true rfl) ?_
  intro p e s m args below meth c A Z ls C0 hP hK hD hA hl ret
  obtain ⟨hx, hb, hr, hml, hown, hts, hlocks⟩ := C0
  have hown : s.vm.findClass RX0 = some m.cls := hown
  have hl : lv_has ls 3 [(0, .ref a0), (1, .int p1), (2, .int p2)] := hl
  have hS : va_S A s.heap s.heap [] := va_S.rf
  rw [f_X0_registerJustLeft] at hf
  refine lv_aload_n hx hb dX0_registerJustLeft_0 rfl (lv_at hl 0 rfl) ?_
  refine lv_iload_n hx hb dX0_registerJustLeft_1 rfl (lv_at hl 1 rfl) ?_
  obtain ⟨u2, hf2, hf⟩ := kbd hf
  refine kc_Vi (As := [.int p1]) (rest := []) (wf := (PX0 a0 a1 a2 a3 a4 a5 a6 a7 a8 a9 a10 a11 a12 a13 a14 a15 a16 cyI cyZ w_code_kinds w_code_firsts w_code_seconds w_code_ints w_code_counting w_code_length w_steps_numbers w_steps_length w_pieces_numbers w_pieces_length w_valueIn w_registerOf w_slotOf w_pieceOf w_upcoming w_slotTaken w_registers w_slotCount)) (c_X0_isFree l D cyI cyZ a0 a1 a2 a3 a4 a5 a6 a7 a8 a9 a10 a11 a12 a13 a14 a15 a16 w_code_kinds w_code_firsts w_code_seconds w_code_ints w_code_counting w_code_length w_steps_numbers w_steps_length w_pieces_numbers w_pieces_length w_valueIn w_registerOf w_slotOf w_pieceOf w_upcoming w_slotTaken w_registers w_slotCount p1 u2 hf2) ⟨hx, hb, hml, hown, hts⟩ (cwV 1 hts gX0_registerJustLeft_X0_isFree rfl rfl rfl (by decide +kernel) ⟨Nat.le_of_ble_eq_true rfl, Nat.le_of_ble_eq_true rfl⟩) hK hP hD hS hA [0, 1, 2, 3, 4, 5, 6, 7, 8, 9, 10, 11, 12, 13, 14, 15, 16] [] 17 rfl rfl kR0 rfl (by decide +kernel) rfl rfl rfl rfl hl.1 rfl (Nat.le_of_ble_eq_true rfl) dX0_registerJustLeft_2 ⟨Nat.le_of_ble_eq_true rfl, Nat.le_of_ble_eq_true rfl⟩ (fun H locs hP hD hS => ?_)
  refine lv_if_eq (tgt := 10) hx hb dX0_registerJustLeft_5 (by decide) (fun c_5 => ?_) (fun c_5 => ?_)
  · have hf := kit c_5 hf
    refine lv_aload_n hx hb dX0_registerJustLeft_10 rfl (lv_at hl 0 rfl) ?_
    refine lv_iload_n hx hb dX0_registerJustLeft_11 rfl (lv_at hl 2 rfl) ?_
    obtain ⟨u12, hf12, hf⟩ := kbd hf
    refine kc_Vi (As := [.int p2]) (rest := []) (wf := (PX0 a0 a1 a2 a3 a4 a5 a6 a7 a8 a9 a10 a11 a12 a13 a14 a15 a16 cyI cyZ w_code_kinds w_code_firsts w_code_seconds w_code_ints w_code_counting w_code_length w_steps_numbers w_steps_length w_pieces_numbers w_pieces_length w_valueIn w_registerOf w_slotOf w_pieceOf w_upcoming w_slotTaken w_registers w_slotCount)) (c_X0_isFree l D cyI cyZ a0 a1 a2 a3 a4 a5 a6 a7 a8 a9 a10 a11 a12 a13 a14 a15 a16 w_code_kinds w_code_firsts w_code_seconds w_code_ints w_code_counting w_code_length w_steps_numbers w_steps_length w_pieces_numbers w_pieces_length w_valueIn w_registerOf w_slotOf w_pieceOf w_upcoming w_slotTaken w_registers w_slotCount p2 u12 hf12) ⟨hx, hb, hml, hown, hts⟩ (cwV 1 hts gX0_registerJustLeft_X0_isFree rfl rfl rfl (by decide +kernel) ⟨Nat.le_of_ble_eq_true rfl, Nat.le_of_ble_eq_true rfl⟩) hK hP hD hS hA [0, 1, 2, 3, 4, 5, 6, 7, 8, 9, 10, 11, 12, 13, 14, 15, 16] [] 17 rfl rfl kR0 rfl (by decide +kernel) rfl rfl rfl rfl hl.1 rfl (Nat.le_of_ble_eq_true rfl) dX0_registerJustLeft_12 ⟨Nat.le_of_ble_eq_true rfl, Nat.le_of_ble_eq_true rfl⟩ (fun H locs hP hD hS => ?_)
    refine lv_if_eq (tgt := 22) hx hb dX0_registerJustLeft_15 (by decide) (fun c_15 => ?_) (fun c_15 => ?_)
    · have hf := kit c_15 hf
      refine lv_iconst (v := (-1)) hx hb dX0_registerJustLeft_22 (by decide) ?_
      obtain rfl := Option.some.inj hf
      exact ret _ _ _ _ dX0_registerJustLeft_23 rfl hP hD hS
    · have hf := kif c_15 hf
      refine lv_iload_n hx hb dX0_registerJustLeft_18 rfl (lv_at hl 2 rfl) ?_
      refine lv_goto (tgt := 23) hx hb dX0_registerJustLeft_19 (by decide) ?_
      obtain rfl := Option.some.inj hf
      exact ret _ _ _ _ dX0_registerJustLeft_23 rfl hP hD hS
  · have hf := kif c_5 hf
    refine lv_iload_n hx hb dX0_registerJustLeft_8 rfl (lv_at hl 1 rfl) ?_
    obtain rfl := Option.some.inj hf
    exact ret _ _ _ _ dX0_registerJustLeft_9 rfl hP hD hS

abbrev rmX0_readAt : Room := { frames := 2, cells := 0, slots := 0, locals := 45 }
set_option maxHeartbeats 4000000 in
set_option maxRecDepth 100000 in
theorem c_X0_readAt (l : Launch) (D : va_G) (cyI cyZ : ClassId) (a0 a1 a2 a3 a4 a5 a6 a7 a8 a9 a10 a11 a12 a13 a14 a15 a16 : Nat) (w_code_kinds : Nat → Int32) (w_code_firsts : Nat → Int32) (w_code_seconds : Nat → Int32) (w_code_ints : Nat → Int32) (w_code_counting : Nat → Int32) (w_code_length : Int32) (w_steps_numbers : Nat → Int32) (w_steps_length : Int32) (w_pieces_numbers : Nat → Int32) (w_pieces_length : Int32) (w_valueIn : Nat → Int32) (w_registerOf : Nat → Int32) (w_slotOf : Nat → Int32) (w_pieceOf : Nat → Int32) (w_upcoming : Nat → Int32) (w_slotTaken : Nat → Int32) (w_registers : Int32) (w_slotCount : Int32) (p1 : Int32) (p2 : Int32) (o : (Nat → Int32)) (hf : f_X0_readAt p1 p2 w_pieces_numbers w_pieces_length w_pieceOf = some o) : kMv l yX0_readAt wsX0_readAt rmX0_readAt [.ref a0, .int p1, .int p2] D (PX0 a0 a1 a2 a3 a4 a5 a6 a7 a8 a9 a10 a11 a12 a13 a14 a15 a16 cyI cyZ w_code_kinds w_code_firsts w_code_seconds w_code_ints w_code_counting w_code_length w_steps_numbers w_steps_length w_pieces_numbers w_pieces_length w_valueIn w_registerOf w_slotOf w_pieceOf w_upcoming w_slotTaken w_registers w_slotCount) (PX0 a0 a1 a2 a3 a4 a5 a6 a7 a8 a9 a10 a11 a12 a13 a14 a15 a16 cyI cyZ w_code_kinds w_code_firsts w_code_seconds w_code_ints w_code_counting w_code_length w_steps_numbers w_steps_length o w_pieces_length w_valueIn w_registerOf w_slotOf w_pieceOf w_upcoming w_slotTaken w_registers w_slotCount) (kT cyI cyZ) 0 0 := by
  refine kOf_v (cc := cX0_readAt) (maxL := 3) (by decide +kernel) rfl (Nat.le_of_ble_eq_true rfl) ?_
  intro p e s m args below meth c A Z ls C0 hP hK hD hA hl ret
  obtain ⟨hx, hb, hr, hml, hown, hts, hlocks⟩ := C0
  have hown : s.vm.findClass RX0 = some m.cls := hown
  have hl : lv_has ls 3 [(0, .ref a0), (1, .int p1), (2, .int p2)] := hl
  have hS : va_S A s.heap s.heap [] := va_S.rf
  have i_X0 : ∀ w ∈ wsX00, w ∈ wsX0_readAt := by decide +kernel
  have k24 := hts (.fieldLink RX0 24 "RegisterAllocator$Allocation" "pieces" "LRegisterAllocator$Rows;") (by decide +kernel)
  have k37 := hts (.fieldLink RX0 37 "RegisterAllocator$Allocation" "pieceOf" "[I") (by decide +kernel)
  rw [f_X0_readAt] at hf
  refine lv_iload_n hx hb dX0_readAt_0 rfl (lv_at hl 1 rfl) ?_
  obtain ⟨u1, hf1, hf⟩ := kbd hf
  refine kc_Si (As := [.int p1]) (rest := []) (wf := (PX0 a0 a1 a2 a3 a4 a5 a6 a7 a8 a9 a10 a11 a12 a13 a14 a15 a16 cyI cyZ w_code_kinds w_code_firsts w_code_seconds w_code_ints w_code_counting w_code_length w_steps_numbers w_steps_length w_pieces_numbers w_pieces_length w_valueIn w_registerOf w_slotOf w_pieceOf w_upcoming w_slotTaken w_registers w_slotCount)) (c_X0_isRow l D cyI cyZ 0 p1 u1 hf1) ⟨hx, hb, hml, hown, hts⟩ (cwS 1 hts gX0_readAt_X0_isRow rfl rfl rfl (by decide +kernel) ⟨Nat.le_of_ble_eq_true rfl, Nat.le_of_ble_eq_true rfl⟩) hK hP hD hS hA [] [0, 1, 2, 3, 4, 5, 6, 7, 8, 9, 10, 11, 12, 13, 14, 15, 16] 17 rfl rfl (kR1 _ rfl rfl (kR1 _ rfl rfl (kR1 _ rfl rfl (kR1 _ rfl rfl (kR1 _ rfl rfl (kR1 _ rfl rfl (kR1 _ rfl rfl (kR1 _ rfl rfl (kR1 _ rfl rfl (kR1 _ rfl rfl (kR1 _ rfl rfl (kR1 _ rfl rfl (kR1 _ rfl rfl (kR1 _ rfl rfl (kR1 _ rfl rfl (kR1 _ rfl rfl (kR1 _ rfl rfl kR0))))))))))))))))) rfl (by decide +kernel) rfl hl.1 rfl (Nat.le_of_ble_eq_true rfl) dX0_readAt_1 ⟨Nat.le_of_ble_eq_true rfl, Nat.le_of_ble_eq_true rfl⟩ (fun H locs hP hD hS => ?_)
  refine lv_if_eq (tgt := 22) hx hb dX0_readAt_4 (by decide) (fun c_4 => ?_) (fun c_4 => ?_)
  · have hf := kit c_4 hf
    obtain rfl := Option.some.inj hf
    exact ret _ _ _ _ dX0_readAt_22 hP hD hS
  · have hf := kif c_4 hf
    refine lv_aload_n hx hb dX0_readAt_7 rfl (lv_at hl 0 rfl) ?_
    refine va_get (D := D) (ci := 0) (v := .ref a9) (C := RX0) (T := TX0) (N := 11) hx hb hts i_X0 hown hK hP 0 rfl rfl 2 (by decide) k24 (fun _ h9 => h9) rfl dX0_readAt_8 ?_
    refine lv_aload_n hx hb dX0_readAt_11 rfl (lv_at hl 0 rfl) ?_
    refine va_get (D := D) (ci := 0) (v := .ref a14) (C := RX0) (T := TX0) (N := 11) hx hb hts i_X0 hown hK hP 0 rfl rfl 6 (by decide) k37 (fun _ h9 => h9) rfl dX0_readAt_12 ?_
    refine lv_iload_n hx hb dX0_readAt_15 rfl (lv_at hl 1 rfl) ?_
    obtain ⟨h_16, hf⟩ := rdc_some hf
    refine va_iald hx hb hK hP 14 0 rfl rfl h_16 dX0_readAt_16 ?_
    refine lv_iconst (v := 3) hx hb dX0_readAt_17 (by decide) ?_
    refine lv_iload_n hx hb dX0_readAt_18 rfl (lv_at hl 2 rfl) ?_
    obtain ⟨u19, hf19, hf⟩ := kbd hf
    refine kc_Vv (As := [.int (w_pieceOf p1.toNatClampNeg), .int 3, .int p2]) (rest := []) (wf := (PX0 a0 a1 a2 a3 a4 a5 a6 a7 a8 a9 a10 a11 a12 a13 a14 a15 a16 cyI cyZ w_code_kinds w_code_firsts w_code_seconds w_code_ints w_code_counting w_code_length w_steps_numbers w_steps_length u19 w_pieces_length w_valueIn w_registerOf w_slotOf w_pieceOf w_upcoming w_slotTaken w_registers w_slotCount)) (c_X3_put l D cyI cyZ a9 a10 720 w_pieces_numbers 180 w_pieces_length (w_pieceOf p1.toNatClampNeg) 3 p2 u19 hf19) ⟨hx, hb, hml, hown, hts⟩ (cwV 3 hts gX0_readAt_X3_put rfl rfl rfl (by decide +kernel) ⟨Nat.le_of_ble_eq_true rfl, Nat.le_of_ble_eq_true rfl⟩) hK hP hD hS hA [9, 10] [0, 1, 2, 3, 4, 5, 6, 7, 8, 11, 12, 13, 14, 15, 16] 17 rfl rfl (kR1 _ rfl rfl (kR1 _ rfl rfl (kR1 _ rfl rfl (kR1 _ rfl rfl (kR1 _ rfl rfl (kR1 _ rfl rfl (kR1 _ rfl rfl (kR1 _ rfl rfl (kR1 _ rfl rfl (kR1 _ rfl rfl (kR1 _ rfl rfl (kR1 _ rfl rfl (kR1 _ rfl rfl (kR1 _ rfl rfl (kR1 _ rfl rfl kR0))))))))))))))) rfl (by decide +kernel) rfl rfl rfl rfl hl.1 rfl (Nat.le_of_ble_eq_true rfl) dX0_readAt_19 ⟨Nat.le_of_ble_eq_true rfl, Nat.le_of_ble_eq_true rfl⟩ (fun H locs hP hD hS => ?_)
    obtain rfl := Option.some.inj hf
    exact ret _ _ _ _ dX0_readAt_22 hP hD hS

