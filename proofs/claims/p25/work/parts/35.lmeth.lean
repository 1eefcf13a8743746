abbrev rmL_below : Room := { frames := 0, cells := 0, slots := 0, locals := 0 }
set_option maxHeartbeats 4000000 in
set_option maxRecDepth 100000 in
theorem c_L_below (l : Launch) (D : va_G) (cyI cyZ : ClassId) (_z : Nat) (p1 : Int32) (p2 : Int32) (o : Int32) (hf : f_L_below p1 p2 = some o) : kMi l yL_below wsL_below rmL_below [.int p1, .int p2] D [] [] (kT cyI cyZ) o 0 0 := by
  refine kOf_i (cc := cL_below) (maxL := 2) (ty := .int) (by decide +kernel) rfl (Nat.le_of_ble_eq_true rfl) ?_
  intro p e s m args below meth c A Z ls C0 hP hK hD hA hl ret
  obtain ⟨hx, hb, hr, hml, hown, hts, hlocks⟩ := C0
  have hown : s.vm.findClass RL = some m.cls := hown
  have hl : lv_has ls 2 [(0, .int p1), (1, .int p2)] := hl
  have hS : va_S A s.heap s.heap [] := va_S.rf
  have kc7 := hts (.constant RL 7 2147483647) (by decide +kernel)
  rw [f_L_below] at hf
  refine lv_iload_n hx hb dL_below_0 rfl (lv_at hl 0 rfl) ?_
  refine lv_ldc (v := 2147483647) hx hb hown kc7 dL_below_1 ?_
  refine lv_iand hx hb dL_below_3 ?_
  refine lv_iload_n hx hb dL_below_4 rfl (lv_at hl 1 rfl) ?_
  by_cases c_5 : p2 = 0
  · have hf := kit c_5 hf
    cases hf
  have hf := kif c_5 hf
  refine lv_irem hx hb dL_below_5 c_5 ?_
  obtain rfl := Option.some.inj hf
  exact ret _ _ _ _ dL_below_6 rfl hP hD hS

abbrev rmL_cell : Room := { frames := 0, cells := 0, slots := 0, locals := 0 }
set_option maxHeartbeats 4000000 in
set_option maxRecDepth 100000 in
theorem c_L_cell (l : Launch) (D : va_G) (cyI cyZ : ClassId) (_z : Nat) (p2 : Int32) (xb xL : Nat) (xs : Nat → Int32) (o : Int32) (hf : f_L_cell p2 xL xs = some o) : kMsi l yL_cell wsL_cell rmL_cell [.ref xb, .int p2] D [] [] (kT cyI cyZ) o 0 0 xb xL xs := by
  refine kOf_si (cc := cL_cell) (maxL := 2) (ty := .int) (by decide +kernel) rfl (Nat.le_of_ble_eq_true rfl) ?_
  intro p e s m args below meth c A Z ls C0 hX hbl hbA hP hK hD hA hl ret
  obtain ⟨hx, hb, hr, hml, hown, hts, hlocks⟩ := C0
  have hown : s.vm.findClass RL = some m.cls := hown
  have hl : lv_has ls 2 [(0, .ref xb), (1, .int p2)] := hl
  have hS : va_S A s.heap s.heap [] := va_S.rf
  have kc8 := hts (.constant RL 8 790386105) (by decide +kernel)
  rw [f_L_cell] at hf
  refine lv_iload_n hx hb dL_cell_0 rfl (lv_at hl 1 rfl) ?_
  refine lv_aload_n hx hb dL_cell_1 rfl (lv_at hl 0 rfl) ?_
  refine va_slen hx hb hX hbl hbA hS dL_cell_2 ?_
  refine lv_icmp_ge (tgt := 12) hx hb dL_cell_3 (by decide) (fun c_3 => ?_) (fun c_3 => ?_)
  · have hf := kit c_3 hf
    refine lv_ldc (v := 790386105) hx hb hown kc8 dL_cell_12 ?_
    refine lv_iload_n hx hb dL_cell_14 rfl (lv_at hl 1 rfl) ?_
    refine lv_iconst (v := 3) hx hb dL_cell_15 (by decide) ?_
    refine lv_iadd hx hb dL_cell_16 ?_
    refine lv_imul hx hb dL_cell_17 ?_
    obtain rfl := Option.some.inj hf
    exact ret _ _ _ _ dL_cell_18 rfl hP hD hS
  · have hf := kif c_3 hf
    refine lv_aload_n hx hb dL_cell_6 rfl (lv_at hl 0 rfl) ?_
    refine lv_iload_n hx hb dL_cell_7 rfl (lv_at hl 1 rfl) ?_
    obtain ⟨h_8, hf⟩ := rdc_some hf
    refine va_sld hx hb hX hbl hbA hS h_8 dL_cell_8 ?_
    refine lv_goto (tgt := 18) hx hb dL_cell_9 (by decide) ?_
    obtain rfl := Option.some.inj hf
    exact ret _ _ _ _ dL_cell_18 rfl hP hD hS

abbrev rmL_valueBefore : Room := { frames := 1, cells := 0, slots := 0, locals := 21 }
set_option maxHeartbeats 4000000 in
set_option maxRecDepth 100000 in
theorem c_L_valueBefore (l : Launch) (D : va_G) (cyI cyZ : ClassId) (a0 : Nat) (w_k_v : Nat → Int32) (p2 : Int32) (p3 : Int32) (o : Int32) (hf : f_L_valueBefore p2 p3 w_k_v = some o) : kMi l yL_valueBefore wsL_valueBefore rmL_valueBefore [.ref a0, .int p2, .int p3] D (PAI a0 cyI cyZ w_k_v) (PAI a0 cyI cyZ w_k_v) (kT cyI cyZ) o 0 0 := by
  refine kOf_i (cc := cL_valueBefore) (maxL := 4) (ty := .int) (by decide +kernel) rfl (Nat.le_of_ble_eq_true rfl) ?_
  intro p e s m args below meth c A Z ls C0 hP hK hD hA hl ret
  obtain ⟨hx, hb, hr, hml, hown, hts, hlocks⟩ := C0
  have hown : s.vm.findClass RL = some m.cls := hown
  have hl : lv_has ls 4 [(0, .ref a0), (1, .int p2), (2, .int p3)] := hl
  have hS : va_S A s.heap s.heap [] := va_S.rf
  have km44 := hts (.methodLink RL 44 Lib.Math.min.name) (by decide +kernel)
  have kmc_min := hts (.code Lib.Math.min.name Lib.Math.min.code 2 (some .int)) (by decide +kernel)
  have kmi := hts (.initialized "java/lang/Math") (by decide +kernel)
  have kms_min := hts (.static Lib.Math.min.name) (by decide +kernel)
  rw [f_L_valueBefore] at hf
  refine lv_iload_n hx hb dL_valueBefore_0 rfl (lv_at hl 2 rfl) ?_
  refine lv_iload_n hx hb dL_valueBefore_1 rfl (lv_at hl 1 rfl) ?_
  refine lv_iconst (v := 1) hx hb dL_valueBefore_2 (by decide) ?_
  refine lv_isub hx hb dL_valueBefore_3 ?_
  refine va_mmin hx hb (hml.trans hl.1.symm) hown km44 kms_min kmi kmc_min (Nat.le_of_ble_eq_true rfl) (Nat.le_of_ble_eq_true rfl) (Nat.le_of_ble_eq_true rfl) (Nat.le_of_ble_eq_true rfl) dL_valueBefore_4 ?_
  refine lv_istore_n (lv' := [(3, .int (if (p2 - 1) < p3 then (p2 - 1) else p3)), (0, .ref a0), (1, .int p2), (2, .int p3)]) hx hb dL_valueBefore_7 rfl hl (by decide) rfl (fun ls hl => ?_)
  have L8 : ∀ (n : Nat) (x3_L8 : Int32) (o9 : Int32) (_ : f_L_valueBefore_L8 w_k_v n x3_L8 = some o9) (H : Heap) (locs : List Loc) (ls : Array Slot), va_P D vwCl (PAI a0 cyI cyZ w_k_v) H → va_D A (PAI a0 cyI cyZ w_k_v) → va_S A s.heap H locs → lv_has ls 4 [(3, .int x3_L8), (0, .ref a0)] → (∀ (H : Heap) (locs : List Loc) (ls : Array Slot), va_P D vwCl (PAI a0 cyI cyZ w_k_v) H → va_D A (PAI a0 cyI cyZ w_k_v) → va_S A s.heap H locs → lv_has ls 4 [(3, .int o9)] → W p l e rmL_valueBefore s m args below meth c H locs 0 0 Z (F0 m 22 ls [])) → W p l e rmL_valueBefore s m args below meth c H locs 0 0 Z (F0 m 8 ls []) := by
    intro n
    induction n with
    | zero =>
      intro x3_L8 o9 hf
      rw [f_L_valueBefore_L8] at hf
      cases hf
    | succ n ih =>
      intro x3_L8 o9 hf H locs ls hP hD hS hl kx
      rw [f_L_valueBefore_L8] at hf
      refine lv_aload_n hx hb dL_valueBefore_8 rfl (lv_at hl 1 rfl) ?_
      refine lv_iload_n hx hb dL_valueBefore_9 rfl (lv_at hl 0 rfl) ?_
      obtain ⟨h_10, hf⟩ := rdc_some hf
      refine va_iald hx hb hK hP 0 0 rfl rfl h_10 dL_valueBefore_10 ?_
      refine lv_bipush (v := 6) hx hb dL_valueBefore_11 (by decide) ?_
      refine lv_icmp_ne (tgt := 22) hx hb dL_valueBefore_13 (by decide) (fun c_13 => ?_) (fun c_13 => ?_)
      · have hf := kif c_13 hf
        obtain rfl := Option.some.inj hf
        exact kx _ _ _ hP hD hS (lv_sub hl [0] rfl)
      · have hf := kit c_13 hf
        refine lv_iinc (v := (x3_L8 + (-1))) (lv' := [(3, .int (x3_L8 + (-1))), (0, .ref a0)]) hx hb dL_valueBefore_16 hl (k := 0) rfl rfl (by decide) rfl (fun ls hl => ?_)
        refine lv_goto (tgt := 8) hx hb dL_valueBefore_19 (by decide) ?_
        exact ih (x3_L8 + (-1)) _ hf _ _ _ hP hD hS (lv_sub hl [0, 1] rfl) kx
  obtain ⟨v8, hf8, hf⟩ := kbd hf
  refine L8 4000 (if (p2 - 1) < p3 then (p2 - 1) else p3) v8 hf8 _ _ _ hP hD hS (lv_sub hl [0, 1] rfl) (fun H locs ls hP hD hS hl => ?_)
  refine lv_iload_n hx hb dL_valueBefore_22 rfl (lv_at hl 0 rfl) ?_
  obtain rfl := Option.some.inj hf
  exact ret _ _ _ _ dL_valueBefore_23 rfl hP hD hS

abbrev rmL_build : Room := { frames := 6, cells := 0, slots := 0, locals := 135 }
set_option maxHeartbeats 4000000 in
set_option maxRecDepth 100000 in
theorem c_L_build (l : Launch) (D : va_G) (cyI cyZ : ClassId) (a0 a1 a2 a3 a4 a5 a6 a7 a8 a9 a10 a11 a12 a13 a14 a15 a16 a17 a18 a19 a20 a21 a22 a23 a24 a25 a26 a27 a28 a29 a30 a31 a32 a33 a34 a35 : Nat) (w_r_code_kinds : Nat → Int32) (w_r_code_firsts : Nat → Int32) (w_r_code_seconds : Nat → Int32) (w_r_code_ints : Nat → Int32) (w_r_code_counting : Nat → Int32) (w_r_code_length : Int32) (w_r_present_steps_numbers : Nat → Int32) (w_r_present_steps_length : Int32) (w_r_present_pieces_numbers : Nat → Int32) (w_r_present_pieces_length : Int32) (w_r_present_valueIn : Nat → Int32) (w_r_present_registerOf : Nat → Int32) (w_r_present_slotOf : Nat → Int32) (w_r_present_pieceOf : Nat → Int32) (w_r_present_upcoming : Nat → Int32) (w_r_present_slotTaken : Nat → Int32) (w_r_present_registers : Int32) (w_r_present_slotCount : Int32) (w_r_trial_steps_numbers : Nat → Int32) (w_r_trial_steps_length : Int32) (w_r_trial_pieces_numbers : Nat → Int32) (w_r_trial_pieces_length : Int32) (w_r_trial_valueIn : Nat → Int32) (w_r_trial_registerOf : Nat → Int32) (w_r_trial_slotOf : Nat → Int32) (w_r_trial_pieceOf : Nat → Int32) (w_r_trial_upcoming : Nat → Int32) (w_r_trial_slotTaken : Nat → Int32) (w_r_trial_registers : Int32) (w_r_trial_slotCount : Int32) (w_r_machine_registers : Nat → Int32) (w_r_machine_slots : Nat → Int32) (w_r_machine_outputs : Nat → Int32) (w_r_machine_outputCount : Int32) (w_r_registers : Int32) (w_r_allocated : Int32) (w_k_v : Nat → Int32) (w_a_v : Nat → Int32) (w_b_v : Nat → Int32) (p3 : Int32) (xb xL : Nat) (xs : Nat → Int32) (o : Int32 × (Nat → Int32) × (Nat → Int32) × (Nat → Int32) × (Nat → Int32) × (Nat → Int32) × Int32 × Int32 × (Nat → Int32) × (Nat → Int32) × (Nat → Int32)) (hf : f_L_build p3 w_r_code_kinds w_r_code_firsts w_r_code_seconds w_r_code_ints w_r_code_counting w_r_code_length w_r_allocated w_k_v w_a_v w_b_v xL xs = some o) : kMsi l yL_build wsL_build rmL_build [.ref a0, .ref xb, .int p3, .ref a33, .ref a34, .ref a35] D (PX4 a0 a1 a2 a3 a4 a5 a6 a7 a8 a9 a10 a11 a12 a13 a14 a15 a16 a17 a18 a19 a20 a21 a22 a23 a24 a25 a26 a27 a28 a29 a30 a31 a32 cyI cyZ w_r_code_kinds w_r_code_firsts w_r_code_seconds w_r_code_ints w_r_code_counting w_r_code_length w_r_present_steps_numbers w_r_present_steps_length w_r_present_pieces_numbers w_r_present_pieces_length w_r_present_valueIn w_r_present_registerOf w_r_present_slotOf w_r_present_pieceOf w_r_present_upcoming w_r_present_slotTaken w_r_present_registers w_r_present_slotCount w_r_trial_steps_numbers w_r_trial_steps_length w_r_trial_pieces_numbers w_r_trial_pieces_length w_r_trial_valueIn w_r_trial_registerOf w_r_trial_slotOf w_r_trial_pieceOf w_r_trial_upcoming w_r_trial_slotTaken w_r_trial_registers w_r_trial_slotCount w_r_machine_registers w_r_machine_slots w_r_machine_outputs w_r_machine_outputCount w_r_registers w_r_allocated ++ PAI a33 cyI cyZ w_k_v ++ PAI a34 cyI cyZ w_a_v ++ PAI a35 cyI cyZ w_b_v) (PX4 a0 a1 a2 a3 a4 a5 a6 a7 a8 a9 a10 a11 a12 a13 a14 a15 a16 a17 a18 a19 a20 a21 a22 a23 a24 a25 a26 a27 a28 a29 a30 a31 a32 cyI cyZ o.2.1 o.2.2.1 o.2.2.2.1 o.2.2.2.2.1 o.2.2.2.2.2.1 o.2.2.2.2.2.2.1 w_r_present_steps_numbers w_r_present_steps_length w_r_present_pieces_numbers w_r_present_pieces_length w_r_present_valueIn w_r_present_registerOf w_r_present_slotOf w_r_present_pieceOf w_r_present_upcoming w_r_present_slotTaken w_r_present_registers w_r_present_slotCount w_r_trial_steps_numbers w_r_trial_steps_length w_r_trial_pieces_numbers w_r_trial_pieces_length w_r_trial_valueIn w_r_trial_registerOf w_r_trial_slotOf w_r_trial_pieceOf w_r_trial_upcoming w_r_trial_slotTaken w_r_trial_registers w_r_trial_slotCount w_r_machine_registers w_r_machine_slots w_r_machine_outputs w_r_machine_outputCount w_r_registers o.2.2.2.2.2.2.2.1 ++ PAI a33 cyI cyZ o.2.2.2.2.2.2.2.2.1 ++ PAI a34 cyI cyZ o.2.2.2.2.2.2.2.2.2.1 ++ PAI a35 cyI cyZ o.2.2.2.2.2.2.2.2.2.2) (kT cyI cyZ) o.1 0 0 xb xL xs := by
  refine kOf_si (cc := cL_build) (maxL := 10) (ty := .int) (by decide +kernel) rfl (Nat.le_of_ble_eq_true rfl) ?_
  intro p e s m args below meth c A Z ls C0 hX hbl hbA hP hK hD hA hl ret
  obtain ⟨hx, hb, hr, hml, hown, hts, hlocks⟩ := C0
  have hown : s.vm.findClass RL = some m.cls := hown
  have hl : lv_has ls 10 [(0, .ref a0), (1, .ref xb), (2, .int p3), (3, .ref a33), (4, .ref a34), (5, .ref a35)] := hl
  have hS : va_S A s.heap s.heap [] := va_S.rf
  have kc19 := hts (.constant RL 19 104729) (by decide +kernel)
  rw [f_L_build] at hf
  refine lv_iconst (v := 3) hx hb dL_build_0 (by decide) ?_
  refine lv_aload_n hx hb dL_build_1 rfl (lv_at hl 1 rfl) ?_
  refine lv_iload_n hx hb dL_build_2 rfl (lv_at hl 2 rfl) ?_
  obtain ⟨u3, hf3, hf⟩ := kbd hf
  refine kc_Ssi (As := [.ref xb, .int p3]) (rest := [.int 3]) (wf := (PX4 a0 a1 a2 a3 a4 a5 a6 a7 a8 a9 a10 a11 a12 a13 a14 a15 a16 a17 a18 a19 a20 a21 a22 a23 a24 a25 a26 a27 a28 a29 a30 a31 a32 cyI cyZ w_r_code_kinds w_r_code_firsts w_r_code_seconds w_r_code_ints w_r_code_counting w_r_code_length w_r_present_steps_numbers w_r_present_steps_length w_r_present_pieces_numbers w_r_present_pieces_length w_r_present_valueIn w_r_present_registerOf w_r_present_slotOf w_r_present_pieceOf w_r_present_upcoming w_r_present_slotTaken w_r_present_registers w_r_present_slotCount w_r_trial_steps_numbers w_r_trial_steps_length w_r_trial_pieces_numbers w_r_trial_pieces_length w_r_trial_valueIn w_r_trial_registerOf w_r_trial_slotOf w_r_trial_pieceOf w_r_trial_upcoming w_r_trial_slotTaken w_r_trial_registers w_r_trial_slotCount w_r_machine_registers w_r_machine_slots w_r_machine_outputs w_r_machine_outputCount w_r_registers w_r_allocated ++ PAI a33 cyI cyZ w_k_v ++ PAI a34 cyI cyZ w_a_v ++ PAI a35 cyI cyZ w_b_v)) (c_L_cell l D cyI cyZ 0 p3 xb xL xs u3 hf3) ⟨hx, hb, hml, hown, hts⟩ (cwS 2 hts gL_build_L_cell rfl rfl rfl (by decide +kernel) ⟨Nat.le_of_ble_eq_true rfl, Nat.le_of_ble_eq_true rfl⟩) hX hbl hbA hK hP hD hS hA [] [0, 1, 2, 3, 4, 5, 6, 7, 8, 9, 10, 11, 12, 13, 14, 15, 16, 17, 18, 19, 20, 21, 22, 23, 24, 25, 26, 27, 28, 29, 30, 31, 32, 33, 34, 35] 36 rfl rfl (kR1 _ rfl rfl (kR1 _ rfl rfl (kR1 _ rfl rfl (kR1 _ rfl rfl (kR1 _ rfl rfl (kR1 _ rfl rfl (kR1 _ rfl rfl (kR1 _ rfl rfl (kR1 _ rfl rfl (kR1 _ rfl rfl (kR1 _ rfl rfl (kR1 _ rfl rfl (kR1 _ rfl rfl (kR1 _ rfl rfl (kR1 _ rfl rfl (kR1 _ rfl rfl (kR1 _ rfl rfl (kR1 _ rfl rfl (kR1 _ rfl rfl (kR1 _ rfl rfl (kR1 _ rfl rfl (kR1 _ rfl rfl (kR1 _ rfl rfl (kR1 _ rfl rfl (kR1 _ rfl rfl (kR1 _ rfl rfl (kR1 _ rfl rfl (kR1 _ rfl rfl (kR1 _ rfl rfl (kR1 _ rfl rfl (kR1 _ rfl rfl (kR1 _ rfl rfl (kR1 _ rfl rfl (kR1 _ rfl rfl (kR1 _ rfl rfl (kR1 _ rfl rfl kR0)))))))))))))))))))))))))))))))))))) rfl (by decide +kernel) rfl hl.1 rfl (Nat.le_of_ble_eq_true rfl) dL_build_3 ⟨Nat.le_of_ble_eq_true rfl, Nat.le_of_ble_eq_true rfl⟩ (fun H locs hP hD hS => ?_)
  refine lv_bipush (v := 30) hx hb dL_build_6 (by decide) ?_
  obtain ⟨u8, hf8, hf⟩ := kbd hf
  refine kc_Si (As := [.int u3, .int 30]) (rest := [.int 3]) (wf := (PX4 a0 a1 a2 a3 a4 a5 a6 a7 a8 a9 a10 a11 a12 a13 a14 a15 a16 a17 a18 a19 a20 a21 a22 a23 a24 a25 a26 a27 a28 a29 a30 a31 a32 cyI cyZ w_r_code_kinds w_r_code_firsts w_r_code_seconds w_r_code_ints w_r_code_counting w_r_code_length w_r_present_steps_numbers w_r_present_steps_length w_r_present_pieces_numbers w_r_present_pieces_length w_r_present_valueIn w_r_present_registerOf w_r_present_slotOf w_r_present_pieceOf w_r_present_upcoming w_r_present_slotTaken w_r_present_registers w_r_present_slotCount w_r_trial_steps_numbers w_r_trial_steps_length w_r_trial_pieces_numbers w_r_trial_pieces_length w_r_trial_valueIn w_r_trial_registerOf w_r_trial_slotOf w_r_trial_pieceOf w_r_trial_upcoming w_r_trial_slotTaken w_r_trial_registers w_r_trial_slotCount w_r_machine_registers w_r_machine_slots w_r_machine_outputs w_r_machine_outputCount w_r_registers w_r_allocated ++ PAI a33 cyI cyZ w_k_v ++ PAI a34 cyI cyZ w_a_v ++ PAI a35 cyI cyZ w_b_v)) (c_L_below l D cyI cyZ 0 u3 30 u8 hf8) ⟨hx, hb, hml, hown, hts⟩ (cwS 2 hts gL_build_L_below rfl rfl rfl (by decide +kernel) ⟨Nat.le_of_ble_eq_true rfl, Nat.le_of_ble_eq_true rfl⟩) hK hP hD hS hA [] [0, 1, 2, 3, 4, 5, 6, 7, 8, 9, 10, 11, 12, 13, 14, 15, 16, 17, 18, 19, 20, 21, 22, 23, 24, 25, 26, 27, 28, 29, 30, 31, 32, 33, 34, 35] 36 rfl rfl (kR1 _ rfl rfl (kR1 _ rfl rfl (kR1 _ rfl rfl (kR1 _ rfl rfl (kR1 _ rfl rfl (kR1 _ rfl rfl (kR1 _ rfl rfl (kR1 _ rfl rfl (kR1 _ rfl rfl (kR1 _ rfl rfl (kR1 _ rfl rfl (kR1 _ rfl rfl (kR1 _ rfl rfl (kR1 _ rfl rfl (kR1 _ rfl rfl (kR1 _ rfl rfl (kR1 _ rfl rfl (kR1 _ rfl rfl (kR1 _ rfl rfl (kR1 _ rfl rfl (kR1 _ rfl rfl (kR1 _ rfl rfl (kR1 _ rfl rfl (kR1 _ rfl rfl (kR1 _ rfl rfl (kR1 _ rfl rfl (kR1 _ rfl rfl (kR1 _ rfl rfl (kR1 _ rfl rfl (kR1 _ rfl rfl (kR1 _ rfl rfl (kR1 _ rfl rfl (kR1 _ rfl rfl (kR1 _ rfl rfl (kR1 _ rfl rfl (kR1 _ rfl rfl kR0)))))))))))))))))))))))))))))))))))) rfl (by decide +kernel) rfl hl.1 rfl (Nat.le_of_ble_eq_true rfl) dL_build_8 ⟨Nat.le_of_ble_eq_true rfl, Nat.le_of_ble_eq_true rfl⟩ (fun H locs hP hD hS => ?_)
  refine lv_iadd hx hb dL_build_11 ?_
  refine lv_istore (lv' := [(6, .int (3 + u8)), (0, .ref a0), (1, .ref xb), (2, .int p3), (3, .ref a33), (4, .ref a34), (5, .ref a35)]) hx hb dL_build_12 hl (by decide) rfl (fun ls hl => ?_)
  refine lv_iconst (v := 0) hx hb dL_build_14 (by decide) ?_
  refine lv_istore (lv' := [(7, .int 0), (6, .int (3 + u8)), (0, .ref a0), (1, .ref xb), (2, .int p3), (3, .ref a33), (4, .ref a34), (5, .ref a35)]) hx hb dL_build_15 hl (by decide) rfl (fun ls hl => ?_)
  have L17 : ∀ (n : Nat) (x7_L17 : Int32) (w_r_code_kinds_L17 : Nat → Int32) (w_r_code_firsts_L17 : Nat → Int32) (w_r_code_seconds_L17 : Nat → Int32) (w_r_code_ints_L17 : Nat → Int32) (w_r_code_counting_L17 : Nat → Int32) (w_r_code_length_L17 : Int32) (w_r_allocated_L17 : Int32) (w_k_v_L17 : Nat → Int32) (w_a_v_L17 : Nat → Int32) (w_b_v_L17 : Nat → Int32) (o9 : (Nat → Int32) × (Nat → Int32) × (Nat → Int32) × (Nat → Int32) × (Nat → Int32) × Int32 × Int32 × (Nat → Int32) × (Nat → Int32) × (Nat → Int32)) (_ : f_L_build_L17 xL xs p3 u8 n x7_L17 w_r_code_kinds_L17 w_r_code_firsts_L17 w_r_code_seconds_L17 w_r_code_ints_L17 w_r_code_counting_L17 w_r_code_length_L17 w_r_allocated_L17 w_k_v_L17 w_a_v_L17 w_b_v_L17 = some o9) (H : Heap) (locs : List Loc) (ls : Array Slot), va_P D vwCl (PX4 a0 a1 a2 a3 a4 a5 a6 a7 a8 a9 a10 a11 a12 a13 a14 a15 a16 a17 a18 a19 a20 a21 a22 a23 a24 a25 a26 a27 a28 a29 a30 a31 a32 cyI cyZ w_r_code_kinds_L17 w_r_code_firsts_L17 w_r_code_seconds_L17 w_r_code_ints_L17 w_r_code_counting_L17 w_r_code_length_L17 w_r_present_steps_numbers w_r_present_steps_length w_r_present_pieces_numbers w_r_present_pieces_length w_r_present_valueIn w_r_present_registerOf w_r_present_slotOf w_r_present_pieceOf w_r_present_upcoming w_r_present_slotTaken w_r_present_registers w_r_present_slotCount w_r_trial_steps_numbers w_r_trial_steps_length w_r_trial_pieces_numbers w_r_trial_pieces_length w_r_trial_valueIn w_r_trial_registerOf w_r_trial_slotOf w_r_trial_pieceOf w_r_trial_upcoming w_r_trial_slotTaken w_r_trial_registers w_r_trial_slotCount w_r_machine_registers w_r_machine_slots w_r_machine_outputs w_r_machine_outputCount w_r_registers w_r_allocated_L17 ++ PAI a33 cyI cyZ w_k_v_L17 ++ PAI a34 cyI cyZ w_a_v_L17 ++ PAI a35 cyI cyZ w_b_v_L17) H → va_D A (PX4 a0 a1 a2 a3 a4 a5 a6 a7 a8 a9 a10 a11 a12 a13 a14 a15 a16 a17 a18 a19 a20 a21 a22 a23 a24 a25 a26 a27 a28 a29 a30 a31 a32 cyI cyZ w_r_code_kinds_L17 w_r_code_firsts_L17 w_r_code_seconds_L17 w_r_code_ints_L17 w_r_code_counting_L17 w_r_code_length_L17 w_r_present_steps_numbers w_r_present_steps_length w_r_present_pieces_numbers w_r_present_pieces_length w_r_present_valueIn w_r_present_registerOf w_r_present_slotOf w_r_present_pieceOf w_r_present_upcoming w_r_present_slotTaken w_r_present_registers w_r_present_slotCount w_r_trial_steps_numbers w_r_trial_steps_length w_r_trial_pieces_numbers w_r_trial_pieces_length w_r_trial_valueIn w_r_trial_registerOf w_r_trial_slotOf w_r_trial_pieceOf w_r_trial_upcoming w_r_trial_slotTaken w_r_trial_registers w_r_trial_slotCount w_r_machine_registers w_r_machine_slots w_r_machine_outputs w_r_machine_outputCount w_r_registers w_r_allocated_L17 ++ PAI a33 cyI cyZ w_k_v_L17 ++ PAI a34 cyI cyZ w_a_v_L17 ++ PAI a35 cyI cyZ w_b_v_L17) → va_S A s.heap H locs → lv_has ls 10 [(7, .int x7_L17), (6, .int (3 + u8)), (0, .ref a0), (1, .ref xb), (2, .int p3), (3, .ref a33), (4, .ref a34), (5, .ref a35)] → (∀ (H : Heap) (locs : List Loc) (ls : Array Slot), va_P D vwCl (PX4 a0 a1 a2 a3 a4 a5 a6 a7 a8 a9 a10 a11 a12 a13 a14 a15 a16 a17 a18 a19 a20 a21 a22 a23 a24 a25 a26 a27 a28 a29 a30 a31 a32 cyI cyZ o9.1 o9.2.1 o9.2.2.1 o9.2.2.2.1 o9.2.2.2.2.1 o9.2.2.2.2.2.1 w_r_present_steps_numbers w_r_present_steps_length w_r_present_pieces_numbers w_r_present_pieces_length w_r_present_valueIn w_r_present_registerOf w_r_present_slotOf w_r_present_pieceOf w_r_present_upcoming w_r_present_slotTaken w_r_present_registers w_r_present_slotCount w_r_trial_steps_numbers w_r_trial_steps_length w_r_trial_pieces_numbers w_r_trial_pieces_length w_r_trial_valueIn w_r_trial_registerOf w_r_trial_slotOf w_r_trial_pieceOf w_r_trial_upcoming w_r_trial_slotTaken w_r_trial_registers w_r_trial_slotCount w_r_machine_registers w_r_machine_slots w_r_machine_outputs w_r_machine_outputCount w_r_registers o9.2.2.2.2.2.2.1 ++ PAI a33 cyI cyZ o9.2.2.2.2.2.2.2.1 ++ PAI a34 cyI cyZ o9.2.2.2.2.2.2.2.2.1 ++ PAI a35 cyI cyZ o9.2.2.2.2.2.2.2.2.2) H → va_D A (PX4 a0 a1 a2 a3 a4 a5 a6 a7 a8 a9 a10 a11 a12 a13 a14 a15 a16 a17 a18 a19 a20 a21 a22 a23 a24 a25 a26 a27 a28 a29 a30 a31 a32 cyI cyZ o9.1 o9.2.1 o9.2.2.1 o9.2.2.2.1 o9.2.2.2.2.1 o9.2.2.2.2.2.1 w_r_present_steps_numbers w_r_present_steps_length w_r_present_pieces_numbers w_r_present_pieces_length w_r_present_valueIn w_r_present_registerOf w_r_present_slotOf w_r_present_pieceOf w_r_present_upcoming w_r_present_slotTaken w_r_present_registers w_r_present_slotCount w_r_trial_steps_numbers w_r_trial_steps_length w_r_trial_pieces_numbers w_r_trial_pieces_length w_r_trial_valueIn w_r_trial_registerOf w_r_trial_slotOf w_r_trial_pieceOf w_r_trial_upcoming w_r_trial_slotTaken w_r_trial_registers w_r_trial_slotCount w_r_machine_registers w_r_machine_slots w_r_machine_outputs w_r_machine_outputCount w_r_registers o9.2.2.2.2.2.2.1 ++ PAI a33 cyI cyZ o9.2.2.2.2.2.2.2.1 ++ PAI a34 cyI cyZ o9.2.2.2.2.2.2.2.2.1 ++ PAI a35 cyI cyZ o9.2.2.2.2.2.2.2.2.2) → va_S A s.heap H locs → lv_has ls 10 [(6, .int (3 + u8)), (0, .ref a0)] → W p l e rmL_build s m args below meth c H locs 0 0 Z (F0 m 262 ls [])) → W p l e rmL_build s m args below meth c H locs 0 0 Z (F0 m 17 ls []) := by
    intro n
    induction n with
    | zero =>
      intro x7_L17 w_r_code_kinds_L17 w_r_code_firsts_L17 w_r_code_seconds_L17 w_r_code_ints_L17 w_r_code_counting_L17 w_r_code_length_L17 w_r_allocated_L17 w_k_v_L17 w_a_v_L17 w_b_v_L17 o9 hf
      rw [f_L_build_L17] at hf
      cases hf
    | succ n ih =>
      intro x7_L17 w_r_code_kinds_L17 w_r_code_firsts_L17 w_r_code_seconds_L17 w_r_code_ints_L17 w_r_code_counting_L17 w_r_code_length_L17 w_r_allocated_L17 w_k_v_L17 w_a_v_L17 w_b_v_L17 o9 hf H locs ls hP hD hS hl kx
      rw [f_L_build_L17] at hf
      refine lv_iload hx hb dL_build_17 (lv_at hl 0 rfl) ?_
      refine lv_iload hx hb dL_build_19 (lv_at hl 1 rfl) ?_
      refine lv_icmp_ge (tgt := 262) hx hb dL_build_21 (by decide) (fun c_21 => ?_) (fun c_21 => ?_)
      · have hf := kit c_21 hf
        obtain rfl := Option.some.inj hf
        exact kx _ _ _ hP hD hS (lv_sub hl [1, 2] rfl)
      · have hf := kif c_21 hf
        refine lv_aload_n hx hb dL_build_24 rfl (lv_at hl 3 rfl) ?_
        refine lv_iload_n hx hb dL_build_25 rfl (lv_at hl 4 rfl) ?_
        refine lv_iconst (v := 1) hx hb dL_build_26 (by decide) ?_
        refine lv_iadd hx hb dL_build_27 ?_
        refine lv_iload hx hb dL_build_28 (lv_at hl 0 rfl) ?_
        refine lv_bipush (v := 20) hx hb dL_build_30 (by decide) ?_
        refine lv_irem hx hb dL_build_32 (by decide) ?_
        refine lv_iadd hx hb dL_build_33 ?_
        obtain ⟨u34, hf34, hf⟩ := kbd hf
        refine kc_Ssi (As := [.ref xb, .int ((p3 + 1) + (x7_L17 - x7_L17 / 20 * 20))]) (rest := []) (wf := (PX4 a0 a1 a2 a3 a4 a5 a6 a7 a8 a9 a10 a11 a12 a13 a14 a15 a16 a17 a18 a19 a20 a21 a22 a23 a24 a25 a26 a27 a28 a29 a30 a31 a32 cyI cyZ w_r_code_kinds_L17 w_r_code_firsts_L17 w_r_code_seconds_L17 w_r_code_ints_L17 w_r_code_counting_L17 w_r_code_length_L17 w_r_present_steps_numbers w_r_present_steps_length w_r_present_pieces_numbers w_r_present_pieces_length w_r_present_valueIn w_r_present_registerOf w_r_present_slotOf w_r_present_pieceOf w_r_present_upcoming w_r_present_slotTaken w_r_present_registers w_r_present_slotCount w_r_trial_steps_numbers w_r_trial_steps_length w_r_trial_pieces_numbers w_r_trial_pieces_length w_r_trial_valueIn w_r_trial_registerOf w_r_trial_slotOf w_r_trial_pieceOf w_r_trial_upcoming w_r_trial_slotTaken w_r_trial_registers w_r_trial_slotCount w_r_machine_registers w_r_machine_slots w_r_machine_outputs w_r_machine_outputCount w_r_registers w_r_allocated_L17 ++ PAI a33 cyI cyZ w_k_v_L17 ++ PAI a34 cyI cyZ w_a_v_L17 ++ PAI a35 cyI cyZ w_b_v_L17)) (c_L_cell l D cyI cyZ 0 ((p3 + 1) + (x7_L17 - x7_L17 / 20 * 20)) xb xL xs u34 hf34) ⟨hx, hb, hml, hown, hts⟩ (cwS 2 hts gL_build_L_cell rfl rfl rfl (by decide +kernel) ⟨Nat.le_of_ble_eq_true rfl, Nat.le_of_ble_eq_true rfl⟩) hX hbl hbA hK hP hD hS hA [] [0, 1, 2, 3, 4, 5, 6, 7, 8, 9, 10, 11, 12, 13, 14, 15, 16, 17, 18, 19, 20, 21, 22, 23, 24, 25, 26, 27, 28, 29, 30, 31, 32, 33, 34, 35] 36 rfl rfl (kR1 _ rfl rfl (kR1 _ rfl rfl (kR1 _ rfl rfl (kR1 _ rfl rfl (kR1 _ rfl rfl (kR1 _ rfl rfl (kR1 _ rfl rfl (kR1 _ rfl rfl (kR1 _ rfl rfl (kR1 _ rfl rfl (kR1 _ rfl rfl (kR1 _ rfl rfl (kR1 _ rfl rfl (kR1 _ rfl rfl (kR1 _ rfl rfl (kR1 _ rfl rfl (kR1 _ rfl rfl (kR1 _ rfl rfl (kR1 _ rfl rfl (kR1 _ rfl rfl (kR1 _ rfl rfl (kR1 _ rfl rfl (kR1 _ rfl rfl (kR1 _ rfl rfl (kR1 _ rfl rfl (kR1 _ rfl rfl (kR1 _ rfl rfl (kR1 _ rfl rfl (kR1 _ rfl rfl (kR1 _ rfl rfl (kR1 _ rfl rfl (kR1 _ rfl rfl (kR1 _ rfl rfl (kR1 _ rfl rfl (kR1 _ rfl rfl (kR1 _ rfl rfl kR0)))))))))))))))))))))))))))))))))))) rfl (by decide +kernel) rfl hl.1 rfl (Nat.le_of_ble_eq_true rfl) dL_build_34 ⟨Nat.le_of_ble_eq_true rfl, Nat.le_of_ble_eq_true rfl⟩ (fun H locs hP hD hS => ?_)
        refine lv_iload hx hb dL_build_37 (lv_at hl 0 rfl) ?_
        refine lv_bipush (v := 20) hx hb dL_build_39 (by decide) ?_
        refine lv_idiv hx hb dL_build_41 (by decide) ?_
        refine lv_ldc (v := 104729) hx hb hown kc19 dL_build_42 ?_
        refine lv_imul hx hb dL_build_44 ?_
        refine lv_iadd hx hb dL_build_45 ?_
        refine lv_istore (lv' := [(8, .int (u34 + ((x7_L17 / 20) * 104729))), (7, .int x7_L17), (6, .int (3 + u8)), (0, .ref a0), (1, .ref xb), (2, .int p3), (3, .ref a33), (4, .ref a34), (5, .ref a35)]) hx hb dL_build_46 hl (by decide) rfl (fun ls hl => ?_)
        refine lv_aload_n hx hb dL_build_48 rfl (lv_at hl 6 rfl) ?_
        refine lv_iload hx hb dL_build_49 (lv_at hl 1 rfl) ?_
        refine lv_iload hx hb dL_build_51 (lv_at hl 1 rfl) ?_
        obtain ⟨r53, hf53, hf⟩ := kbd hf
        have kx : ∀ (H : Heap) (locs : List Loc) (ls : Array Slot), va_P D vwCl (PX4 a0 a1 a2 a3 a4 a5 a6 a7 a8 a9 a10 a11 a12 a13 a14 a15 a16 a17 a18 a19 a20 a21 a22 a23 a24 a25 a26 a27 a28 a29 a30 a31 a32 cyI cyZ w_r_code_kinds_L17 w_r_code_firsts_L17 w_r_code_seconds_L17 w_r_code_ints_L17 w_r_code_counting_L17 w_r_code_length_L17 w_r_present_steps_numbers w_r_present_steps_length w_r_present_pieces_numbers w_r_present_pieces_length w_r_present_valueIn w_r_present_registerOf w_r_present_slotOf w_r_present_pieceOf w_r_present_upcoming w_r_present_slotTaken w_r_present_registers w_r_present_slotCount w_r_trial_steps_numbers w_r_trial_steps_length w_r_trial_pieces_numbers w_r_trial_pieces_length w_r_trial_valueIn w_r_trial_registerOf w_r_trial_slotOf w_r_trial_pieceOf w_r_trial_upcoming w_r_trial_slotTaken w_r_trial_registers w_r_trial_slotCount w_r_machine_registers w_r_machine_slots w_r_machine_outputs w_r_machine_outputCount w_r_registers w_r_allocated_L17 ++ PAI a33 cyI cyZ w_k_v_L17 ++ PAI a34 cyI cyZ w_a_v_L17 ++ PAI a35 cyI cyZ w_b_v_L17) H → va_D A (PX4 a0 a1 a2 a3 a4 a5 a6 a7 a8 a9 a10 a11 a12 a13 a14 a15 a16 a17 a18 a19 a20 a21 a22 a23 a24 a25 a26 a27 a28 a29 a30 a31 a32 cyI cyZ w_r_code_kinds_L17 w_r_code_firsts_L17 w_r_code_seconds_L17 w_r_code_ints_L17 w_r_code_counting_L17 w_r_code_length_L17 w_r_present_steps_numbers w_r_present_steps_length w_r_present_pieces_numbers w_r_present_pieces_length w_r_present_valueIn w_r_present_registerOf w_r_present_slotOf w_r_present_pieceOf w_r_present_upcoming w_r_present_slotTaken w_r_present_registers w_r_present_slotCount w_r_trial_steps_numbers w_r_trial_steps_length w_r_trial_pieces_numbers w_r_trial_pieces_length w_r_trial_valueIn w_r_trial_registerOf w_r_trial_slotOf w_r_trial_pieceOf w_r_trial_upcoming w_r_trial_slotTaken w_r_trial_registers w_r_trial_slotCount w_r_machine_registers w_r_machine_slots w_r_machine_outputs w_r_machine_outputCount w_r_registers w_r_allocated_L17 ++ PAI a33 cyI cyZ w_k_v_L17 ++ PAI a34 cyI cyZ w_a_v_L17 ++ PAI a35 cyI cyZ w_b_v_L17) → va_S A s.heap H locs → lv_has ls 10 [(0, .ref a0), (1, .ref xb), (2, .int p3), (3, .ref a33), (4, .ref a34), (5, .ref a35), (6, .int (3 + u8)), (7, .int x7_L17), (8, .int (u34 + ((x7_L17 / 20) * 104729)))] → W p l e rmL_build s m args below meth c H locs 0 0 Z (F0 m 67 ls [.int r53, .int x7_L17, .ref a33]) := by
          intro H locs ls hP hD hS hl
          obtain ⟨h_67, hf⟩ := rdc_some hf
          refine va_iast hx hb hK hP hD hS 33 0 rfl rfl h_67 dL_build_67 (fun H locs hP hD hS => ?_)
          have hP : va_P D vwCl (PX4 a0 a1 a2 a3 a4 a5 a6 a7 a8 a9 a10 a11 a12 a13 a14 a15 a16 a17 a18 a19 a20 a21 a22 a23 a24 a25 a26 a27 a28 a29 a30 a31 a32 cyI cyZ w_r_code_kinds_L17 w_r_code_firsts_L17 w_r_code_seconds_L17 w_r_code_ints_L17 w_r_code_counting_L17 w_r_code_length_L17 w_r_present_steps_numbers w_r_present_steps_length w_r_present_pieces_numbers w_r_present_pieces_length w_r_present_valueIn w_r_present_registerOf w_r_present_slotOf w_r_present_pieceOf w_r_present_upcoming w_r_present_slotTaken w_r_present_registers w_r_present_slotCount w_r_trial_steps_numbers w_r_trial_steps_length w_r_trial_pieces_numbers w_r_trial_pieces_length w_r_trial_valueIn w_r_trial_registerOf w_r_trial_slotOf w_r_trial_pieceOf w_r_trial_upcoming w_r_trial_slotTaken w_r_trial_registers w_r_trial_slotCount w_r_machine_registers w_r_machine_slots w_r_machine_outputs w_r_machine_outputCount w_r_registers w_r_allocated_L17 ++ PAI a33 cyI cyZ (upd w_k_v_L17 x7_L17.toNatClampNeg r53) ++ PAI a34 cyI cyZ w_a_v_L17 ++ PAI a35 cyI cyZ w_b_v_L17) H := hP
          have hD : va_D A (PX4 a0 a1 a2 a3 a4 a5 a6 a7 a8 a9 a10 a11 a12 a13 a14 a15 a16 a17 a18 a19 a20 a21 a22 a23 a24 a25 a26 a27 a28 a29 a30 a31 a32 cyI cyZ w_r_code_kinds_L17 w_r_code_firsts_L17 w_r_code_seconds_L17 w_r_code_ints_L17 w_r_code_counting_L17 w_r_code_length_L17 w_r_present_steps_numbers w_r_present_steps_length w_r_present_pieces_numbers w_r_present_pieces_length w_r_present_valueIn w_r_present_registerOf w_r_present_slotOf w_r_present_pieceOf w_r_present_upcoming w_r_present_slotTaken w_r_present_registers w_r_present_slotCount w_r_trial_steps_numbers w_r_trial_steps_length w_r_trial_pieces_numbers w_r_trial_pieces_length w_r_trial_valueIn w_r_trial_registerOf w_r_trial_slotOf w_r_trial_pieceOf w_r_trial_upcoming w_r_trial_slotTaken w_r_trial_registers w_r_trial_slotCount w_r_machine_registers w_r_machine_slots w_r_machine_outputs w_r_machine_outputCount w_r_registers w_r_allocated_L17 ++ PAI a33 cyI cyZ (upd w_k_v_L17 x7_L17.toNatClampNeg r53) ++ PAI a34 cyI cyZ w_a_v_L17 ++ PAI a35 cyI cyZ w_b_v_L17) := hD
          refine lv_aload_n hx hb dL_build_68 rfl (lv_at hl 3 rfl) ?_
          refine lv_iload hx hb dL_build_69 (lv_at hl 7 rfl) ?_
          obtain ⟨h_71, hf⟩ := rdc_some hf
          refine va_iald hx hb hK hP 33 0 rfl rfl h_71 dL_build_71 ?_
          refine lv_bipush (v := 6) hx hb dL_build_72 (by decide) ?_
          obtain ⟨r74, hf74, hf⟩ := kbd hf
          have kx : ∀ (H : Heap) (locs : List Loc) (ls : Array Slot), va_P D vwCl (PX4 a0 a1 a2 a3 a4 a5 a6 a7 a8 a9 a10 a11 a12 a13 a14 a15 a16 a17 a18 a19 a20 a21 a22 a23 a24 a25 a26 a27 a28 a29 a30 a31 a32 cyI cyZ w_r_code_kinds_L17 w_r_code_firsts_L17 w_r_code_seconds_L17 w_r_code_ints_L17 w_r_code_counting_L17 w_r_code_length_L17 w_r_present_steps_numbers w_r_present_steps_length w_r_present_pieces_numbers w_r_present_pieces_length w_r_present_valueIn w_r_present_registerOf w_r_present_slotOf w_r_present_pieceOf w_r_present_upcoming w_r_present_slotTaken w_r_present_registers w_r_present_slotCount w_r_trial_steps_numbers w_r_trial_steps_length w_r_trial_pieces_numbers w_r_trial_pieces_length w_r_trial_valueIn w_r_trial_registerOf w_r_trial_slotOf w_r_trial_pieceOf w_r_trial_upcoming w_r_trial_slotTaken w_r_trial_registers w_r_trial_slotCount w_r_machine_registers w_r_machine_slots w_r_machine_outputs w_r_machine_outputCount w_r_registers w_r_allocated_L17 ++ PAI a33 cyI cyZ r74 ++ PAI a34 cyI cyZ w_a_v_L17 ++ PAI a35 cyI cyZ w_b_v_L17) H → va_D A (PX4 a0 a1 a2 a3 a4 a5 a6 a7 a8 a9 a10 a11 a12 a13 a14 a15 a16 a17 a18 a19 a20 a21 a22 a23 a24 a25 a26 a27 a28 a29 a30 a31 a32 cyI cyZ w_r_code_kinds_L17 w_r_code_firsts_L17 w_r_code_seconds_L17 w_r_code_ints_L17 w_r_code_counting_L17 w_r_code_length_L17 w_r_present_steps_numbers w_r_present_steps_length w_r_present_pieces_numbers w_r_present_pieces_length w_r_present_valueIn w_r_present_registerOf w_r_present_slotOf w_r_present_pieceOf w_r_present_upcoming w_r_present_slotTaken w_r_present_registers w_r_present_slotCount w_r_trial_steps_numbers w_r_trial_steps_length w_r_trial_pieces_numbers w_r_trial_pieces_length w_r_trial_valueIn w_r_trial_registerOf w_r_trial_slotOf w_r_trial_pieceOf w_r_trial_upcoming w_r_trial_slotTaken w_r_trial_registers w_r_trial_slotCount w_r_machine_registers w_r_machine_slots w_r_machine_outputs w_r_machine_outputCount w_r_registers w_r_allocated_L17 ++ PAI a33 cyI cyZ r74 ++ PAI a34 cyI cyZ w_a_v_L17 ++ PAI a35 cyI cyZ w_b_v_L17) → va_S A s.heap H locs → lv_has ls 10 [(0, .ref a0), (1, .ref xb), (2, .int p3), (3, .ref a33), (4, .ref a34), (5, .ref a35), (6, .int (3 + u8)), (7, .int x7_L17), (8, .int (u34 + ((x7_L17 / 20) * 104729)))] → W p l e rmL_build s m args below meth c H locs 0 0 Z (F0 m 91 ls []) := by
            intro H locs ls hP hD hS hl
            refine lv_aload hx hb dL_build_91 (lv_at hl 4 rfl) ?_
            refine lv_iload hx hb dL_build_93 (lv_at hl 7 rfl) ?_
            refine lv_aload_n hx hb dL_build_95 rfl (lv_at hl 3 rfl) ?_
            refine lv_iload hx hb dL_build_96 (lv_at hl 7 rfl) ?_
            obtain ⟨h_98, hf⟩ := rdc_some hf
            refine va_iald hx hb hK hP 33 0 rfl rfl h_98 dL_build_98 ?_
            obtain ⟨r99, hf99, hf⟩ := kbd hf
            have kx : ∀ (H : Heap) (locs : List Loc) (ls : Array Slot), va_P D vwCl (PX4 a0 a1 a2 a3 a4 a5 a6 a7 a8 a9 a10 a11 a12 a13 a14 a15 a16 a17 a18 a19 a20 a21 a22 a23 a24 a25 a26 a27 a28 a29 a30 a31 a32 cyI cyZ w_r_code_kinds_L17 w_r_code_firsts_L17 w_r_code_seconds_L17 w_r_code_ints_L17 w_r_code_counting_L17 w_r_code_length_L17 w_r_present_steps_numbers w_r_present_steps_length w_r_present_pieces_numbers w_r_present_pieces_length w_r_present_valueIn w_r_present_registerOf w_r_present_slotOf w_r_present_pieceOf w_r_present_upcoming w_r_present_slotTaken w_r_present_registers w_r_present_slotCount w_r_trial_steps_numbers w_r_trial_steps_length w_r_trial_pieces_numbers w_r_trial_pieces_length w_r_trial_valueIn w_r_trial_registerOf w_r_trial_slotOf w_r_trial_pieceOf w_r_trial_upcoming w_r_trial_slotTaken w_r_trial_registers w_r_trial_slotCount w_r_machine_registers w_r_machine_slots w_r_machine_outputs w_r_machine_outputCount w_r_registers w_r_allocated_L17 ++ PAI a33 cyI cyZ r74 ++ PAI a34 cyI cyZ w_a_v_L17 ++ PAI a35 cyI cyZ w_b_v_L17) H → va_D A (PX4 a0 a1 a2 a3 a4 a5 a6 a7 a8 a9 a10 a11 a12 a13 a14 a15 a16 a17 a18 a19 a20 a21 a22 a23 a24 a25 a26 a27 a28 a29 a30 a31 a32 cyI cyZ w_r_code_kinds_L17 w_r_code_firsts_L17 w_r_code_seconds_L17 w_r_code_ints_L17 w_r_code_counting_L17 w_r_code_length_L17 w_r_present_steps_numbers w_r_present_steps_length w_r_present_pieces_numbers w_r_present_pieces_length w_r_present_valueIn w_r_present_registerOf w_r_present_slotOf w_r_present_pieceOf w_r_present_upcoming w_r_present_slotTaken w_r_present_registers w_r_present_slotCount w_r_trial_steps_numbers w_r_trial_steps_length w_r_trial_pieces_numbers w_r_trial_pieces_length w_r_trial_valueIn w_r_trial_registerOf w_r_trial_slotOf w_r_trial_pieceOf w_r_trial_upcoming w_r_trial_slotTaken w_r_trial_registers w_r_trial_slotCount w_r_machine_registers w_r_machine_slots w_r_machine_outputs w_r_machine_outputCount w_r_registers w_r_allocated_L17 ++ PAI a33 cyI cyZ r74 ++ PAI a34 cyI cyZ w_a_v_L17 ++ PAI a35 cyI cyZ w_b_v_L17) → va_S A s.heap H locs → lv_has ls 10 [(0, .ref a0), (1, .ref xb), (2, .int p3), (3, .ref a33), (4, .ref a34), (5, .ref a35), (6, .int (3 + u8)), (7, .int x7_L17), (8, .int (u34 + ((x7_L17 / 20) * 104729)))] → W p l e rmL_build s m args below meth c H locs 0 0 Z (F0 m 129 ls [.int r99, .int x7_L17, .ref a34]) := by
              intro H locs ls hP hD hS hl
              obtain ⟨h_129, hf⟩ := rdc_some hf
              refine va_iast hx hb hK hP hD hS 34 0 rfl rfl h_129 dL_build_129 (fun H locs hP hD hS => ?_)
              have hP : va_P D vwCl (PX4 a0 a1 a2 a3 a4 a5 a6 a7 a8 a9 a10 a11 a12 a13 a14 a15 a16 a17 a18 a19 a20 a21 a22 a23 a24 a25 a26 a27 a28 a29 a30 a31 a32 cyI cyZ w_r_code_kinds_L17 w_r_code_firsts_L17 w_r_code_seconds_L17 w_r_code_ints_L17 w_r_code_counting_L17 w_r_code_length_L17 w_r_present_steps_numbers w_r_present_steps_length w_r_present_pieces_numbers w_r_present_pieces_length w_r_present_valueIn w_r_present_registerOf w_r_present_slotOf w_r_present_pieceOf w_r_present_upcoming w_r_present_slotTaken w_r_present_registers w_r_present_slotCount w_r_trial_steps_numbers w_r_trial_steps_length w_r_trial_pieces_numbers w_r_trial_pieces_length w_r_trial_valueIn w_r_trial_registerOf w_r_trial_slotOf w_r_trial_pieceOf w_r_trial_upcoming w_r_trial_slotTaken w_r_trial_registers w_r_trial_slotCount w_r_machine_registers w_r_machine_slots w_r_machine_outputs w_r_machine_outputCount w_r_registers w_r_allocated_L17 ++ PAI a33 cyI cyZ r74 ++ PAI a34 cyI cyZ (upd w_a_v_L17 x7_L17.toNatClampNeg r99) ++ PAI a35 cyI cyZ w_b_v_L17) H := hP
              have hD : va_D A (PX4 a0 a1 a2 a3 a4 a5 a6 a7 a8 a9 a10 a11 a12 a13 a14 a15 a16 a17 a18 a19 a20 a21 a22 a23 a24 a25 a26 a27 a28 a29 a30 a31 a32 cyI cyZ w_r_code_kinds_L17 w_r_code_firsts_L17 w_r_code_seconds_L17 w_r_code_ints_L17 w_r_code_counting_L17 w_r_code_length_L17 w_r_present_steps_numbers w_r_present_steps_length w_r_present_pieces_numbers w_r_present_pieces_length w_r_present_valueIn w_r_present_registerOf w_r_present_slotOf w_r_present_pieceOf w_r_present_upcoming w_r_present_slotTaken w_r_present_registers w_r_present_slotCount w_r_trial_steps_numbers w_r_trial_steps_length w_r_trial_pieces_numbers w_r_trial_pieces_length w_r_trial_valueIn w_r_trial_registerOf w_r_trial_slotOf w_r_trial_pieceOf w_r_trial_upcoming w_r_trial_slotTaken w_r_trial_registers w_r_trial_slotCount w_r_machine_registers w_r_machine_slots w_r_machine_outputs w_r_machine_outputCount w_r_registers w_r_allocated_L17 ++ PAI a33 cyI cyZ r74 ++ PAI a34 cyI cyZ (upd w_a_v_L17 x7_L17.toNatClampNeg r99) ++ PAI a35 cyI cyZ w_b_v_L17) := hD
              refine lv_aload hx hb dL_build_130 (lv_at hl 5 rfl) ?_
              refine lv_iload hx hb dL_build_132 (lv_at hl 7 rfl) ?_
              refine lv_aload_n hx hb dL_build_134 rfl (lv_at hl 3 rfl) ?_
              refine lv_iload hx hb dL_build_135 (lv_at hl 7 rfl) ?_
              obtain ⟨h_137, hf⟩ := rdc_some hf
              refine va_iald hx hb hK hP 33 0 rfl rfl h_137 dL_build_137 ?_
              refine lv_iconst (v := 1) hx hb dL_build_138 (by decide) ?_
              obtain ⟨r139, hf139, hf⟩ := kbd hf
              have kx : ∀ (H : Heap) (locs : List Loc) (ls : Array Slot), va_P D vwCl (PX4 a0 a1 a2 a3 a4 a5 a6 a7 a8 a9 a10 a11 a12 a13 a14 a15 a16 a17 a18 a19 a20 a21 a22 a23 a24 a25 a26 a27 a28 a29 a30 a31 a32 cyI cyZ w_r_code_kinds_L17 w_r_code_firsts_L17 w_r_code_seconds_L17 w_r_code_ints_L17 w_r_code_counting_L17 w_r_code_length_L17 w_r_present_steps_numbers w_r_present_steps_length w_r_present_pieces_numbers w_r_present_pieces_length w_r_present_valueIn w_r_present_registerOf w_r_present_slotOf w_r_present_pieceOf w_r_present_upcoming w_r_present_slotTaken w_r_present_registers w_r_present_slotCount w_r_trial_steps_numbers w_r_trial_steps_length w_r_trial_pieces_numbers w_r_trial_pieces_length w_r_trial_valueIn w_r_trial_registerOf w_r_trial_slotOf w_r_trial_pieceOf w_r_trial_upcoming w_r_trial_slotTaken w_r_trial_registers w_r_trial_slotCount w_r_machine_registers w_r_machine_slots w_r_machine_outputs w_r_machine_outputCount w_r_registers w_r_allocated_L17 ++ PAI a33 cyI cyZ r74 ++ PAI a34 cyI cyZ (upd w_a_v_L17 x7_L17.toNatClampNeg r99) ++ PAI a35 cyI cyZ w_b_v_L17) H → va_D A (PX4 a0 a1 a2 a3 a4 a5 a6 a7 a8 a9 a10 a11 a12 a13 a14 a15 a16 a17 a18 a19 a20 a21 a22 a23 a24 a25 a26 a27 a28 a29 a30 a31 a32 cyI cyZ w_r_code_kinds_L17 w_r_code_firsts_L17 w_r_code_seconds_L17 w_r_code_ints_L17 w_r_code_counting_L17 w_r_code_length_L17 w_r_present_steps_numbers w_r_present_steps_length w_r_present_pieces_numbers w_r_present_pieces_length w_r_present_valueIn w_r_present_registerOf w_r_present_slotOf w_r_present_pieceOf w_r_present_upcoming w_r_present_slotTaken w_r_present_registers w_r_present_slotCount w_r_trial_steps_numbers w_r_trial_steps_length w_r_trial_pieces_numbers w_r_trial_pieces_length w_r_trial_valueIn w_r_trial_registerOf w_r_trial_slotOf w_r_trial_pieceOf w_r_trial_upcoming w_r_trial_slotTaken w_r_trial_registers w_r_trial_slotCount w_r_machine_registers w_r_machine_slots w_r_machine_outputs w_r_machine_outputCount w_r_registers w_r_allocated_L17 ++ PAI a33 cyI cyZ r74 ++ PAI a34 cyI cyZ (upd w_a_v_L17 x7_L17.toNatClampNeg r99) ++ PAI a35 cyI cyZ w_b_v_L17) → va_S A s.heap H locs → lv_has ls 10 [(0, .ref a0), (1, .ref xb), (2, .int p3), (3, .ref a33), (4, .ref a34), (5, .ref a35), (6, .int (3 + u8)), (7, .int x7_L17)] → W p l e rmL_build s m args below meth c H locs 0 0 Z (F0 m 170 ls [.int r139, .int x7_L17, .ref a35]) := by
                intro H locs ls hP hD hS hl
                obtain ⟨h_170, hf⟩ := rdc_some hf
                refine va_iast hx hb hK hP hD hS 35 0 rfl rfl h_170 dL_build_170 (fun H locs hP hD hS => ?_)
                have hP : va_P D vwCl (PX4 a0 a1 a2 a3 a4 a5 a6 a7 a8 a9 a10 a11 a12 a13 a14 a15 a16 a17 a18 a19 a20 a21 a22 a23 a24 a25 a26 a27 a28 a29 a30 a31 a32 cyI cyZ w_r_code_kinds_L17 w_r_code_firsts_L17 w_r_code_seconds_L17 w_r_code_ints_L17 w_r_code_counting_L17 w_r_code_length_L17 w_r_present_steps_numbers w_r_present_steps_length w_r_present_pieces_numbers w_r_present_pieces_length w_r_present_valueIn w_r_present_registerOf w_r_present_slotOf w_r_present_pieceOf w_r_present_upcoming w_r_present_slotTaken w_r_present_registers w_r_present_slotCount w_r_trial_steps_numbers w_r_trial_steps_length w_r_trial_pieces_numbers w_r_trial_pieces_length w_r_trial_valueIn w_r_trial_registerOf w_r_trial_slotOf w_r_trial_pieceOf w_r_trial_upcoming w_r_trial_slotTaken w_r_trial_registers w_r_trial_slotCount w_r_machine_registers w_r_machine_slots w_r_machine_outputs w_r_machine_outputCount w_r_registers w_r_allocated_L17 ++ PAI a33 cyI cyZ r74 ++ PAI a34 cyI cyZ (upd w_a_v_L17 x7_L17.toNatClampNeg r99) ++ PAI a35 cyI cyZ (upd w_b_v_L17 x7_L17.toNatClampNeg r139)) H := hP
                have hD : va_D A (PX4 a0 a1 a2 a3 a4 a5 a6 a7 a8 a9 a10 a11 a12 a13 a14 a15 a16 a17 a18 a19 a20 a21 a22 a23 a24 a25 a26 a27 a28 a29 a30 a31 a32 cyI cyZ w_r_code_kinds_L17 w_r_code_firsts_L17 w_r_code_seconds_L17 w_r_code_ints_L17 w_r_code_counting_L17 w_r_code_length_L17 w_r_present_steps_numbers w_r_present_steps_length w_r_present_pieces_numbers w_r_present_pieces_length w_r_present_valueIn w_r_present_registerOf w_r_present_slotOf w_r_present_pieceOf w_r_present_upcoming w_r_present_slotTaken w_r_present_registers w_r_present_slotCount w_r_trial_steps_numbers w_r_trial_steps_length w_r_trial_pieces_numbers w_r_trial_pieces_length w_r_trial_valueIn w_r_trial_registerOf w_r_trial_slotOf w_r_trial_pieceOf w_r_trial_upcoming w_r_trial_slotTaken w_r_trial_registers w_r_trial_slotCount w_r_machine_registers w_r_machine_slots w_r_machine_outputs w_r_machine_outputCount w_r_registers w_r_allocated_L17 ++ PAI a33 cyI cyZ r74 ++ PAI a34 cyI cyZ (upd w_a_v_L17 x7_L17.toNatClampNeg r99) ++ PAI a35 cyI cyZ (upd w_b_v_L17 x7_L17.toNatClampNeg r139)) := hD
                refine lv_aload_n hx hb dL_build_171 rfl (lv_at hl 3 rfl) ?_
                refine lv_iload hx hb dL_build_172 (lv_at hl 7 rfl) ?_
                obtain ⟨h_174, hf⟩ := rdc_some hf
                refine va_iald hx hb hK hP 33 0 rfl rfl h_174 dL_build_174 ?_
                obtain ⟨⟨r175_0, r175_1, r175_2, r175_3, r175_4, r175_5, r175_6, r175_7⟩, hf175, hf⟩ := kbd hf
                try dsimp only at hf
                have kx : ∀ (H : Heap) (locs : List Loc) (ls : Array Slot), va_P D vwCl (PX4 a0 a1 a2 a3 a4 a5 a6 a7 a8 a9 a10 a11 a12 a13 a14 a15 a16 a17 a18 a19 a20 a21 a22 a23 a24 a25 a26 a27 a28 a29 a30 a31 a32 cyI cyZ r175_1 r175_2 r175_3 r175_4 r175_5 r175_6 w_r_present_steps_numbers w_r_present_steps_length w_r_present_pieces_numbers w_r_present_pieces_length w_r_present_valueIn w_r_present_registerOf w_r_present_slotOf w_r_present_pieceOf w_r_present_upcoming w_r_present_slotTaken w_r_present_registers w_r_present_slotCount w_r_trial_steps_numbers w_r_trial_steps_length w_r_trial_pieces_numbers w_r_trial_pieces_length w_r_trial_valueIn w_r_trial_registerOf w_r_trial_slotOf w_r_trial_pieceOf w_r_trial_upcoming w_r_trial_slotTaken w_r_trial_registers w_r_trial_slotCount w_r_machine_registers w_r_machine_slots w_r_machine_outputs w_r_machine_outputCount w_r_registers r175_7 ++ PAI a33 cyI cyZ r74 ++ PAI a34 cyI cyZ (upd w_a_v_L17 x7_L17.toNatClampNeg r99) ++ PAI a35 cyI cyZ (upd w_b_v_L17 x7_L17.toNatClampNeg r139)) H → va_D A (PX4 a0 a1 a2 a3 a4 a5 a6 a7 a8 a9 a10 a11 a12 a13 a14 a15 a16 a17 a18 a19 a20 a21 a22 a23 a24 a25 a26 a27 a28 a29 a30 a31 a32 cyI cyZ r175_1 r175_2 r175_3 r175_4 r175_5 r175_6 w_r_present_steps_numbers w_r_present_steps_length w_r_present_pieces_numbers w_r_present_pieces_length w_r_present_valueIn w_r_present_registerOf w_r_present_slotOf w_r_present_pieceOf w_r_present_upcoming w_r_present_slotTaken w_r_present_registers w_r_present_slotCount w_r_trial_steps_numbers w_r_trial_steps_length w_r_trial_pieces_numbers w_r_trial_pieces_length w_r_trial_valueIn w_r_trial_registerOf w_r_trial_slotOf w_r_trial_pieceOf w_r_trial_upcoming w_r_trial_slotTaken w_r_trial_registers w_r_trial_slotCount w_r_machine_registers w_r_machine_slots w_r_machine_outputs w_r_machine_outputCount w_r_registers r175_7 ++ PAI a33 cyI cyZ r74 ++ PAI a34 cyI cyZ (upd w_a_v_L17 x7_L17.toNatClampNeg r99) ++ PAI a35 cyI cyZ (upd w_b_v_L17 x7_L17.toNatClampNeg r139)) → va_S A s.heap H locs → lv_has ls 10 [(0, .ref a0), (1, .ref xb), (2, .int p3), (3, .ref a33), (4, .ref a34), (5, .ref a35), (6, .int (3 + u8)), (7, .int x7_L17)] → W p l e rmL_build s m args below meth c H locs 0 0 Z (F0 m 232 ls [.int r175_0]) := by
                  intro H locs ls hP hD hS hl
                  refine lv_istore (lv' := [(9, .int r175_0), (0, .ref a0), (1, .ref xb), (2, .int p3), (3, .ref a33), (4, .ref a34), (5, .ref a35), (6, .int (3 + u8)), (7, .int x7_L17)]) hx hb dL_build_232 hl (by decide) rfl (fun ls hl => ?_)
                  refine lv_iload hx hb dL_build_234 (lv_at hl 0 rfl) ?_
                  refine lv_iload hx hb dL_build_236 (lv_at hl 8 rfl) ?_
                  refine lv_icmp_ne (tgt := 254) hx hb dL_build_238 (by decide) (fun c_238 => ?_) (fun c_238 => ?_)
                  · have hf := kif c_238 hf
                    cases hf
                  · have hf := kit c_238 hf
                    refine lv_aload_n hx hb dL_build_241 rfl (lv_at hl 1 rfl) ?_
                    refine lv_iload hx hb dL_build_242 (lv_at hl 8 rfl) ?_
                    obtain ⟨u244, hf244, hf⟩ := kbd hf
                    refine kc_Vi (As := [.int x7_L17]) (rest := []) (wf := (PX4 a0 a1 a2 a3 a4 a5 a6 a7 a8 a9 a10 a11 a12 a13 a14 a15 a16 a17 a18 a19 a20 a21 a22 a23 a24 a25 a26 a27 a28 a29 a30 a31 a32 cyI cyZ r175_1 r175_2 r175_3 r175_4 r175_5 r175_6 w_r_present_steps_numbers w_r_present_steps_length w_r_present_pieces_numbers w_r_present_pieces_length w_r_present_valueIn w_r_present_registerOf w_r_present_slotOf w_r_present_pieceOf w_r_present_upcoming w_r_present_slotTaken w_r_present_registers w_r_present_slotCount w_r_trial_steps_numbers w_r_trial_steps_length w_r_trial_pieces_numbers w_r_trial_pieces_length w_r_trial_valueIn w_r_trial_registerOf w_r_trial_slotOf w_r_trial_pieceOf w_r_trial_upcoming w_r_trial_slotTaken w_r_trial_registers w_r_trial_slotCount w_r_machine_registers w_r_machine_slots w_r_machine_outputs w_r_machine_outputCount w_r_registers r175_7 ++ PAI a33 cyI cyZ r74 ++ PAI a34 cyI cyZ (upd w_a_v_L17 x7_L17.toNatClampNeg r99) ++ PAI a35 cyI cyZ (upd w_b_v_L17 x7_L17.toNatClampNeg r139))) (c_X4_kind l D cyI cyZ a0 a1 a2 a3 a4 a5 a6 a7 a8 a9 a10 a11 a12 a13 a14 a15 a16 a17 a18 a19 a20 a21 a22 a23 a24 a25 a26 a27 a28 a29 a30 a31 a32 r175_1 r175_2 r175_3 r175_4 r175_5 r175_6 w_r_present_steps_numbers w_r_present_steps_length w_r_present_pieces_numbers w_r_present_pieces_length w_r_present_valueIn w_r_present_registerOf w_r_present_slotOf w_r_present_pieceOf w_r_present_upcoming w_r_present_slotTaken w_r_present_registers w_r_present_slotCount w_r_trial_steps_numbers w_r_trial_steps_length w_r_trial_pieces_numbers w_r_trial_pieces_length w_r_trial_valueIn w_r_trial_registerOf w_r_trial_slotOf w_r_trial_pieceOf w_r_trial_upcoming w_r_trial_slotTaken w_r_trial_registers w_r_trial_slotCount w_r_machine_registers w_r_machine_slots w_r_machine_outputs w_r_machine_outputCount w_r_registers r175_7 x7_L17 u244 hf244) ⟨hx, hb, hml, hown, hts⟩ (cwV 1 hts gL_build_X4_kind rfl rfl rfl (by decide +kernel) ⟨Nat.le_of_ble_eq_true rfl, Nat.le_of_ble_eq_true rfl⟩) hK hP hD hS hA [0, 1, 2, 3, 4, 5, 6, 7, 8, 9, 10, 11, 12, 13, 14, 15, 16, 17, 18, 19, 20, 21, 22, 23, 24, 25, 26, 27, 28, 29, 30, 31, 32] [33, 34, 35] 36 rfl rfl (kR1 _ rfl rfl (kR1 _ rfl rfl (kR1 _ rfl rfl kR0))) rfl (by decide +kernel) rfl rfl rfl rfl hl.1 rfl (Nat.le_of_ble_eq_true rfl) dL_build_244 ⟨Nat.le_of_ble_eq_true rfl, Nat.le_of_ble_eq_true rfl⟩ (fun H locs hP hD hS => ?_)
                    refine lv_aload_n hx hb dL_build_247 rfl (lv_at hl 4 rfl) ?_
                    refine lv_iload hx hb dL_build_248 (lv_at hl 8 rfl) ?_
                    obtain ⟨h_250, hf⟩ := rdc_some hf
                    refine va_iald hx hb hK hP 33 0 rfl rfl h_250 dL_build_250 ?_
                    refine lv_icmp_eq (tgt := 256) hx hb dL_build_251 (by decide) (fun c_251 => ?_) (fun c_251 => ?_)
                    · have hf := kit c_251 hf
                      refine lv_iinc (v := (x7_L17 + 1)) (lv' := [(7, .int (x7_L17 + 1)), (9, .int r175_0), (0, .ref a0), (1, .ref xb), (2, .int p3), (3, .ref a33), (4, .ref a34), (5, .ref a35), (6, .int (3 + u8))]) hx hb dL_build_256 hl (k := 8) rfl rfl (by decide) rfl (fun ls hl => ?_)
                      refine lv_goto (tgt := 17) hx hb dL_build_259 (by decide) ?_
                      exact ih (x7_L17 + 1) r175_1 r175_2 r175_3 r175_4 r175_5 r175_6 r175_7 r74 (upd w_a_v_L17 x7_L17.toNatClampNeg r99) (upd w_b_v_L17 x7_L17.toNatClampNeg r139) _ hf _ _ _ hP hD hS (lv_sub hl [0, 8, 2, 3, 4, 5, 6, 7] rfl) kx
                    · have hf := kif c_251 hf
                      cases hf
                clear hf
                have hf := hf175
                clear hf175
                refine lv_if_ne (tgt := 190) hx hb dL_build_175 (by decide) (fun c_175 => ?_) (fun c_175 => ?_)
                · have hf := kif c_175 hf
                  refine lv_aload_n hx hb dL_build_190 rfl (lv_at hl 3 rfl) ?_
                  refine lv_iload hx hb dL_build_191 (lv_at hl 7 rfl) ?_
                  obtain ⟨h_193, hf⟩ := rdc_some hf
                  refine va_iald hx hb hK hP 33 0 rfl rfl h_193 dL_build_193 ?_
                  refine lv_iconst (v := 4) hx hb dL_build_194 (by decide) ?_
                  obtain ⟨⟨r195_0, r195_1, r195_2, r195_3, r195_4, r195_5, r195_6, r195_7⟩, hf195, hf⟩ := kbd hf
                  try dsimp only at hf
                  have kx : ∀ (H : Heap) (locs : List Loc) (ls : Array Slot), va_P D vwCl (PX4 a0 a1 a2 a3 a4 a5 a6 a7 a8 a9 a10 a11 a12 a13 a14 a15 a16 a17 a18 a19 a20 a21 a22 a23 a24 a25 a26 a27 a28 a29 a30 a31 a32 cyI cyZ r195_1 r195_2 r195_3 r195_4 r195_5 r195_6 w_r_present_steps_numbers w_r_present_steps_length w_r_present_pieces_numbers w_r_present_pieces_length w_r_present_valueIn w_r_present_registerOf w_r_present_slotOf w_r_present_pieceOf w_r_present_upcoming w_r_present_slotTaken w_r_present_registers w_r_present_slotCount w_r_trial_steps_numbers w_r_trial_steps_length w_r_trial_pieces_numbers w_r_trial_pieces_length w_r_trial_valueIn w_r_trial_registerOf w_r_trial_slotOf w_r_trial_pieceOf w_r_trial_upcoming w_r_trial_slotTaken w_r_trial_registers w_r_trial_slotCount w_r_machine_registers w_r_machine_slots w_r_machine_outputs w_r_machine_outputCount w_r_registers r195_7 ++ PAI a33 cyI cyZ r74 ++ PAI a34 cyI cyZ (upd w_a_v_L17 x7_L17.toNatClampNeg r99) ++ PAI a35 cyI cyZ (upd w_b_v_L17 x7_L17.toNatClampNeg r139)) H → va_D A (PX4 a0 a1 a2 a3 a4 a5 a6 a7 a8 a9 a10 a11 a12 a13 a14 a15 a16 a17 a18 a19 a20 a21 a22 a23 a24 a25 a26 a27 a28 a29 a30 a31 a32 cyI cyZ r195_1 r195_2 r195_3 r195_4 r195_5 r195_6 w_r_present_steps_numbers w_r_present_steps_length w_r_present_pieces_numbers w_r_present_pieces_length w_r_present_valueIn w_r_present_registerOf w_r_present_slotOf w_r_present_pieceOf w_r_present_upcoming w_r_present_slotTaken w_r_present_registers w_r_present_slotCount w_r_trial_steps_numbers w_r_trial_steps_length w_r_trial_pieces_numbers w_r_trial_pieces_length w_r_trial_valueIn w_r_trial_registerOf w_r_trial_slotOf w_r_trial_pieceOf w_r_trial_upcoming w_r_trial_slotTaken w_r_trial_registers w_r_trial_slotCount w_r_machine_registers w_r_machine_slots w_r_machine_outputs w_r_machine_outputCount w_r_registers r195_7 ++ PAI a33 cyI cyZ r74 ++ PAI a34 cyI cyZ (upd w_a_v_L17 x7_L17.toNatClampNeg r99) ++ PAI a35 cyI cyZ (upd w_b_v_L17 x7_L17.toNatClampNeg r139)) → va_S A s.heap H locs → lv_has ls 10 [(0, .ref a0), (1, .ref xb), (2, .int p3), (3, .ref a33), (4, .ref a34), (5, .ref a35), (6, .int (3 + u8)), (7, .int x7_L17)] → W p l e rmL_build s m args below meth c H locs 0 0 Z (F0 m 232 ls [.int r195_0]) := by
                    intro H locs ls hP hD hS hl
                    cases hf
                    exact kx _ _ _ hP hD hS (lv_sub hl [0, 1, 2, 3, 4, 5, 6, 7] rfl)
                  clear hf
                  have hf := hf195
                  clear hf195
                  refine lv_icmp_gt (tgt := 219) hx hb dL_build_195 (by decide) (fun c_195 => ?_) (fun c_195 => ?_)
                  · have hf := kit c_195 hf
                    refine lv_aload_n hx hb dL_build_219 rfl (lv_at hl 0 rfl) ?_
                    refine lv_aload_n hx hb dL_build_220 rfl (lv_at hl 3 rfl) ?_
                    refine lv_iload hx hb dL_build_221 (lv_at hl 7 rfl) ?_
                    obtain ⟨h_223, hf⟩ := rdc_some hf
                    refine va_iald hx hb hK hP 33 0 rfl rfl h_223 dL_build_223 ?_
                    refine lv_aload hx hb dL_build_224 (lv_at hl 4 rfl) ?_
                    refine lv_iload hx hb dL_build_226 (lv_at hl 7 rfl) ?_
                    obtain ⟨h_228, hf⟩ := rdc_some hf
                    refine va_iald hx hb hK hP 34 0 rfl rfl h_228 dL_build_228 ?_
                    obtain ⟨⟨u229_0, u229_1, u229_2, u229_3, u229_4, u229_5, u229_6, u229_7⟩, hf229, hf⟩ := kbd hf
                    try dsimp only at hf
                    refine kc_Vi (As := [.int (r74 x7_L17.toNatClampNeg), .int ((upd w_a_v_L17 x7_L17.toNatClampNeg r99) x7_L17.toNatClampNeg)]) (rest := []) (wf := (PX4 a0 a1 a2 a3 a4 a5 a6 a7 a8 a9 a10 a11 a12 a13 a14 a15 a16 a17 a18 a19 a20 a21 a22 a23 a24 a25 a26 a27 a28 a29 a30 a31 a32 cyI cyZ u229_1 u229_2 u229_3 u229_4 u229_5 u229_6 w_r_present_steps_numbers w_r_present_steps_length w_r_present_pieces_numbers w_r_present_pieces_length w_r_present_valueIn w_r_present_registerOf w_r_present_slotOf w_r_present_pieceOf w_r_present_upcoming w_r_present_slotTaken w_r_present_registers w_r_present_slotCount w_r_trial_steps_numbers w_r_trial_steps_length w_r_trial_pieces_numbers w_r_trial_pieces_length w_r_trial_valueIn w_r_trial_registerOf w_r_trial_slotOf w_r_trial_pieceOf w_r_trial_upcoming w_r_trial_slotTaken w_r_trial_registers w_r_trial_slotCount w_r_machine_registers w_r_machine_slots w_r_machine_outputs w_r_machine_outputCount w_r_registers u229_7 ++ PAI a33 cyI cyZ r74 ++ PAI a34 cyI cyZ (upd w_a_v_L17 x7_L17.toNatClampNeg r99) ++ PAI a35 cyI cyZ (upd w_b_v_L17 x7_L17.toNatClampNeg r139))) (c_X4_pass l D cyI cyZ a0 a1 a2 a3 a4 a5 a6 a7 a8 a9 a10 a11 a12 a13 a14 a15 a16 a17 a18 a19 a20 a21 a22 a23 a24 a25 a26 a27 a28 a29 a30 a31 a32 w_r_code_kinds_L17 w_r_code_firsts_L17 w_r_code_seconds_L17 w_r_code_ints_L17 w_r_code_counting_L17 w_r_code_length_L17 w_r_present_steps_numbers w_r_present_steps_length w_r_present_pieces_numbers w_r_present_pieces_length w_r_present_valueIn w_r_present_registerOf w_r_present_slotOf w_r_present_pieceOf w_r_present_upcoming w_r_present_slotTaken w_r_present_registers w_r_present_slotCount w_r_trial_steps_numbers w_r_trial_steps_length w_r_trial_pieces_numbers w_r_trial_pieces_length w_r_trial_valueIn w_r_trial_registerOf w_r_trial_slotOf w_r_trial_pieceOf w_r_trial_upcoming w_r_trial_slotTaken w_r_trial_registers w_r_trial_slotCount w_r_machine_registers w_r_machine_slots w_r_machine_outputs w_r_machine_outputCount w_r_registers w_r_allocated_L17 (r74 x7_L17.toNatClampNeg) ((upd w_a_v_L17 x7_L17.toNatClampNeg r99) x7_L17.toNatClampNeg) (u229_0, u229_1, u229_2, u229_3, u229_4, u229_5, u229_6, u229_7) hf229) ⟨hx, hb, hml, hown, hts⟩ (cwV 2 hts gL_build_X4_pass rfl rfl rfl (by decide +kernel) ⟨Nat.le_of_ble_eq_true rfl, Nat.le_of_ble_eq_true rfl⟩) hK hP hD hS hA [0, 1, 2, 3, 4, 5, 6, 7, 8, 9, 10, 11, 12, 13, 14, 15, 16, 17, 18, 19, 20, 21, 22, 23, 24, 25, 26, 27, 28, 29, 30, 31, 32] [33, 34, 35] 36 rfl rfl (kR1 _ rfl rfl (kR1 _ rfl rfl (kR1 _ rfl rfl kR0))) rfl (by decide +kernel) rfl rfl rfl rfl hl.1 rfl (Nat.le_of_ble_eq_true rfl) dL_build_229 ⟨Nat.le_of_ble_eq_true rfl, Nat.le_of_ble_eq_true rfl⟩ (fun H locs hP hD hS => ?_)
                    cases hf
                    exact kx _ _ _ hP hD hS (lv_sub hl [0, 1, 2, 3, 4, 5, 6, 7] rfl)
                  · have hf := kif c_195 hf
                    refine lv_aload_n hx hb dL_build_198 rfl (lv_at hl 0 rfl) ?_
                    refine lv_aload_n hx hb dL_build_199 rfl (lv_at hl 3 rfl) ?_
                    refine lv_iload hx hb dL_build_200 (lv_at hl 7 rfl) ?_
                    obtain ⟨h_202, hf⟩ := rdc_some hf
                    refine va_iald hx hb hK hP 33 0 rfl rfl h_202 dL_build_202 ?_
                    refine lv_aload hx hb dL_build_203 (lv_at hl 4 rfl) ?_
                    refine lv_iload hx hb dL_build_205 (lv_at hl 7 rfl) ?_
                    obtain ⟨h_207, hf⟩ := rdc_some hf
                    refine va_iald hx hb hK hP 34 0 rfl rfl h_207 dL_build_207 ?_
                    refine lv_aload hx hb dL_build_208 (lv_at hl 5 rfl) ?_
                    refine lv_iload hx hb dL_build_210 (lv_at hl 7 rfl) ?_
                    obtain ⟨h_212, hf⟩ := rdc_some hf
                    refine va_iald hx hb hK hP 35 0 rfl rfl h_212 dL_build_212 ?_
                    obtain ⟨⟨u213_0, u213_1, u213_2, u213_3, u213_4, u213_5, u213_6, u213_7⟩, hf213, hf⟩ := kbd hf
                    try dsimp only at hf
                    refine kc_Vi (As := [.int (r74 x7_L17.toNatClampNeg), .int ((upd w_a_v_L17 x7_L17.toNatClampNeg r99) x7_L17.toNatClampNeg), .int ((upd w_b_v_L17 x7_L17.toNatClampNeg r139) x7_L17.toNatClampNeg)]) (rest := []) (wf := (PX4 a0 a1 a2 a3 a4 a5 a6 a7 a8 a9 a10 a11 a12 a13 a14 a15 a16 a17 a18 a19 a20 a21 a22 a23 a24 a25 a26 a27 a28 a29 a30 a31 a32 cyI cyZ u213_1 u213_2 u213_3 u213_4 u213_5 u213_6 w_r_present_steps_numbers w_r_present_steps_length w_r_present_pieces_numbers w_r_present_pieces_length w_r_present_valueIn w_r_present_registerOf w_r_present_slotOf w_r_present_pieceOf w_r_present_upcoming w_r_present_slotTaken w_r_present_registers w_r_present_slotCount w_r_trial_steps_numbers w_r_trial_steps_length w_r_trial_pieces_numbers w_r_trial_pieces_length w_r_trial_valueIn w_r_trial_registerOf w_r_trial_slotOf w_r_trial_pieceOf w_r_trial_upcoming w_r_trial_slotTaken w_r_trial_registers w_r_trial_slotCount w_r_machine_registers w_r_machine_slots w_r_machine_outputs w_r_machine_outputCount w_r_registers u213_7 ++ PAI a33 cyI cyZ r74 ++ PAI a34 cyI cyZ (upd w_a_v_L17 x7_L17.toNatClampNeg r99) ++ PAI a35 cyI cyZ (upd w_b_v_L17 x7_L17.toNatClampNeg r139))) (c_X4_operate l D cyI cyZ a0 a1 a2 a3 a4 a5 a6 a7 a8 a9 a10 a11 a12 a13 a14 a15 a16 a17 a18 a19 a20 a21 a22 a23 a24 a25 a26 a27 a28 a29 a30 a31 a32 w_r_code_kinds_L17 w_r_code_firsts_L17 w_r_code_seconds_L17 w_r_code_ints_L17 w_r_code_counting_L17 w_r_code_length_L17 w_r_present_steps_numbers w_r_present_steps_length w_r_present_pieces_numbers w_r_present_pieces_length w_r_present_valueIn w_r_present_registerOf w_r_present_slotOf w_r_present_pieceOf w_r_present_upcoming w_r_present_slotTaken w_r_present_registers w_r_present_slotCount w_r_trial_steps_numbers w_r_trial_steps_length w_r_trial_pieces_numbers w_r_trial_pieces_length w_r_trial_valueIn w_r_trial_registerOf w_r_trial_slotOf w_r_trial_pieceOf w_r_trial_upcoming w_r_trial_slotTaken w_r_trial_registers w_r_trial_slotCount w_r_machine_registers w_r_machine_slots w_r_machine_outputs w_r_machine_outputCount w_r_registers w_r_allocated_L17 (r74 x7_L17.toNatClampNeg) ((upd w_a_v_L17 x7_L17.toNatClampNeg r99) x7_L17.toNatClampNeg) ((upd w_b_v_L17 x7_L17.toNatClampNeg r139) x7_L17.toNatClampNeg) (u213_0, u213_1, u213_2, u213_3, u213_4, u213_5, u213_6, u213_7) hf213) ⟨hx, hb, hml, hown, hts⟩ (cwV 3 hts gL_build_X4_operate rfl rfl rfl (by decide +kernel) ⟨Nat.le_of_ble_eq_true rfl, Nat.le_of_ble_eq_true rfl⟩) hK hP hD hS hA [0, 1, 2, 3, 4, 5, 6, 7, 8, 9, 10, 11, 12, 13, 14, 15, 16, 17, 18, 19, 20, 21, 22, 23, 24, 25, 26, 27, 28, 29, 30, 31, 32] [33, 34, 35] 36 rfl rfl (kR1 _ rfl rfl (kR1 _ rfl rfl (kR1 _ rfl rfl kR0))) rfl (by decide +kernel) rfl rfl rfl rfl hl.1 rfl (Nat.le_of_ble_eq_true rfl) dL_build_213 ⟨Nat.le_of_ble_eq_true rfl, Nat.le_of_ble_eq_true rfl⟩ (fun H locs hP hD hS => ?_)
                    refine lv_goto (tgt := 232) hx hb dL_build_216 (by decide) ?_
                    cases hf
                    exact kx _ _ _ hP hD hS (lv_sub hl [0, 1, 2, 3, 4, 5, 6, 7] rfl)
                · have hf := kit c_175 hf
                  refine lv_aload_n hx hb dL_build_178 rfl (lv_at hl 0 rfl) ?_
                  refine lv_aload hx hb dL_build_179 (lv_at hl 4 rfl) ?_
                  refine lv_iload hx hb dL_build_181 (lv_at hl 7 rfl) ?_
                  obtain ⟨h_183, hf⟩ := rdc_some hf
                  refine va_iald hx hb hK hP 34 0 rfl rfl h_183 dL_build_183 ?_
                  obtain ⟨⟨u184_0, u184_1, u184_2, u184_3, u184_4, u184_5, u184_6, u184_7⟩, hf184, hf⟩ := kbd hf
                  try dsimp only at hf
                  refine kc_Vi (As := [.int ((upd w_a_v_L17 x7_L17.toNatClampNeg r99) x7_L17.toNatClampNeg)]) (rest := []) (wf := (PX4 a0 a1 a2 a3 a4 a5 a6 a7 a8 a9 a10 a11 a12 a13 a14 a15 a16 a17 a18 a19 a20 a21 a22 a23 a24 a25 a26 a27 a28 a29 a30 a31 a32 cyI cyZ u184_1 u184_2 u184_3 u184_4 u184_5 u184_6 w_r_present_steps_numbers w_r_present_steps_length w_r_present_pieces_numbers w_r_present_pieces_length w_r_present_valueIn w_r_present_registerOf w_r_present_slotOf w_r_present_pieceOf w_r_present_upcoming w_r_present_slotTaken w_r_present_registers w_r_present_slotCount w_r_trial_steps_numbers w_r_trial_steps_length w_r_trial_pieces_numbers w_r_trial_pieces_length w_r_trial_valueIn w_r_trial_registerOf w_r_trial_slotOf w_r_trial_pieceOf w_r_trial_upcoming w_r_trial_slotTaken w_r_trial_registers w_r_trial_slotCount w_r_machine_registers w_r_machine_slots w_r_machine_outputs w_r_machine_outputCount w_r_registers u184_7 ++ PAI a33 cyI cyZ r74 ++ PAI a34 cyI cyZ (upd w_a_v_L17 x7_L17.toNatClampNeg r99) ++ PAI a35 cyI cyZ (upd w_b_v_L17 x7_L17.toNatClampNeg r139))) (c_X4_constant l D cyI cyZ a0 a1 a2 a3 a4 a5 a6 a7 a8 a9 a10 a11 a12 a13 a14 a15 a16 a17 a18 a19 a20 a21 a22 a23 a24 a25 a26 a27 a28 a29 a30 a31 a32 w_r_code_kinds_L17 w_r_code_firsts_L17 w_r_code_seconds_L17 w_r_code_ints_L17 w_r_code_counting_L17 w_r_code_length_L17 w_r_present_steps_numbers w_r_present_steps_length w_r_present_pieces_numbers w_r_present_pieces_length w_r_present_valueIn w_r_present_registerOf w_r_present_slotOf w_r_present_pieceOf w_r_present_upcoming w_r_present_slotTaken w_r_present_registers w_r_present_slotCount w_r_trial_steps_numbers w_r_trial_steps_length w_r_trial_pieces_numbers w_r_trial_pieces_length w_r_trial_valueIn w_r_trial_registerOf w_r_trial_slotOf w_r_trial_pieceOf w_r_trial_upcoming w_r_trial_slotTaken w_r_trial_registers w_r_trial_slotCount w_r_machine_registers w_r_machine_slots w_r_machine_outputs w_r_machine_outputCount w_r_registers w_r_allocated_L17 ((upd w_a_v_L17 x7_L17.toNatClampNeg r99) x7_L17.toNatClampNeg) (u184_0, u184_1, u184_2, u184_3, u184_4, u184_5, u184_6, u184_7) hf184) ⟨hx, hb, hml, hown, hts⟩ (cwV 1 hts gL_build_X4_constant rfl rfl rfl (by decide +kernel) ⟨Nat.le_of_ble_eq_true rfl, Nat.le_of_ble_eq_true rfl⟩) hK hP hD hS hA [0, 1, 2, 3, 4, 5, 6, 7, 8, 9, 10, 11, 12, 13, 14, 15, 16, 17, 18, 19, 20, 21, 22, 23, 24, 25, 26, 27, 28, 29, 30, 31, 32] [33, 34, 35] 36 rfl rfl (kR1 _ rfl rfl (kR1 _ rfl rfl (kR1 _ rfl rfl kR0))) rfl (by decide +kernel) rfl rfl rfl rfl hl.1 rfl (Nat.le_of_ble_eq_true rfl) dL_build_184 ⟨Nat.le_of_ble_eq_true rfl, Nat.le_of_ble_eq_true rfl⟩ (fun H locs hP hD hS => ?_)
                  refine lv_goto (tgt := 232) hx hb dL_build_187 (by decide) ?_
                  cases hf
                  exact kx _ _ _ hP hD hS (lv_sub hl [0, 1, 2, 3, 4, 5, 6, 7] rfl)
              clear hf
              have hf := hf139
              clear hf139
              refine lv_icmp_lt (tgt := 169) hx hb dL_build_139 (by decide) (fun c_139 => ?_) (fun c_139 => ?_)
              · have hf := kit c_139 hf
                refine lv_iconst (v := (-1)) hx hb dL_build_169 (by decide) ?_
                cases hf
                exact kx _ _ _ hP hD hS (lv_sub hl [0, 1, 2, 3, 4, 5, 6, 7] rfl)
              · have hf := kif c_139 hf
                refine lv_aload_n hx hb dL_build_142 rfl (lv_at hl 3 rfl) ?_
                refine lv_iload hx hb dL_build_143 (lv_at hl 7 rfl) ?_
                obtain ⟨h_145, hf⟩ := rdc_some hf
                refine va_iald hx hb hK hP 33 0 rfl rfl h_145 dL_build_145 ?_
                refine lv_iconst (v := 4) hx hb dL_build_146 (by decide) ?_
                obtain ⟨r147, hf147, hf⟩ := kbd hf
                have kx : ∀ (H : Heap) (locs : List Loc) (ls : Array Slot), va_P D vwCl (PX4 a0 a1 a2 a3 a4 a5 a6 a7 a8 a9 a10 a11 a12 a13 a14 a15 a16 a17 a18 a19 a20 a21 a22 a23 a24 a25 a26 a27 a28 a29 a30 a31 a32 cyI cyZ w_r_code_kinds_L17 w_r_code_firsts_L17 w_r_code_seconds_L17 w_r_code_ints_L17 w_r_code_counting_L17 w_r_code_length_L17 w_r_present_steps_numbers w_r_present_steps_length w_r_present_pieces_numbers w_r_present_pieces_length w_r_present_valueIn w_r_present_registerOf w_r_present_slotOf w_r_present_pieceOf w_r_present_upcoming w_r_present_slotTaken w_r_present_registers w_r_present_slotCount w_r_trial_steps_numbers w_r_trial_steps_length w_r_trial_pieces_numbers w_r_trial_pieces_length w_r_trial_valueIn w_r_trial_registerOf w_r_trial_slotOf w_r_trial_pieceOf w_r_trial_upcoming w_r_trial_slotTaken w_r_trial_registers w_r_trial_slotCount w_r_machine_registers w_r_machine_slots w_r_machine_outputs w_r_machine_outputCount w_r_registers w_r_allocated_L17 ++ PAI a33 cyI cyZ r74 ++ PAI a34 cyI cyZ (upd w_a_v_L17 x7_L17.toNatClampNeg r99) ++ PAI a35 cyI cyZ w_b_v_L17) H → va_D A (PX4 a0 a1 a2 a3 a4 a5 a6 a7 a8 a9 a10 a11 a12 a13 a14 a15 a16 a17 a18 a19 a20 a21 a22 a23 a24 a25 a26 a27 a28 a29 a30 a31 a32 cyI cyZ w_r_code_kinds_L17 w_r_code_firsts_L17 w_r_code_seconds_L17 w_r_code_ints_L17 w_r_code_counting_L17 w_r_code_length_L17 w_r_present_steps_numbers w_r_present_steps_length w_r_present_pieces_numbers w_r_present_pieces_length w_r_present_valueIn w_r_present_registerOf w_r_present_slotOf w_r_present_pieceOf w_r_present_upcoming w_r_present_slotTaken w_r_present_registers w_r_present_slotCount w_r_trial_steps_numbers w_r_trial_steps_length w_r_trial_pieces_numbers w_r_trial_pieces_length w_r_trial_valueIn w_r_trial_registerOf w_r_trial_slotOf w_r_trial_pieceOf w_r_trial_upcoming w_r_trial_slotTaken w_r_trial_registers w_r_trial_slotCount w_r_machine_registers w_r_machine_slots w_r_machine_outputs w_r_machine_outputCount w_r_registers w_r_allocated_L17 ++ PAI a33 cyI cyZ r74 ++ PAI a34 cyI cyZ (upd w_a_v_L17 x7_L17.toNatClampNeg r99) ++ PAI a35 cyI cyZ w_b_v_L17) → va_S A s.heap H locs → lv_has ls 10 [(0, .ref a0), (1, .ref xb), (2, .int p3), (3, .ref a33), (4, .ref a34), (5, .ref a35), (6, .int (3 + u8)), (7, .int x7_L17)] → W p l e rmL_build s m args below meth c H locs 0 0 Z (F0 m 170 ls [.int r147, .int x7_L17, .ref a35]) := by
                  intro H locs ls hP hD hS hl
                  cases hf
                  exact kx _ _ _ hP hD hS (lv_sub hl [0, 1, 2, 3, 4, 5, 6, 7] rfl)
                clear hf
                have hf := hf147
                clear hf147
                refine lv_icmp_gt (tgt := 169) hx hb dL_build_147 (by decide) (fun c_147 => ?_) (fun c_147 => ?_)
                · have hf := kit c_147 hf
                  refine lv_iconst (v := (-1)) hx hb dL_build_169 (by decide) ?_
                  cases hf
                  exact kx _ _ _ hP hD hS (lv_sub hl [0, 1, 2, 3, 4, 5, 6, 7] rfl)
                · have hf := kif c_147 hf
                  refine lv_aload_n hx hb dL_build_150 rfl (lv_at hl 3 rfl) ?_
                  refine lv_iload hx hb dL_build_151 (lv_at hl 7 rfl) ?_
                  refine lv_iload hx hb dL_build_153 (lv_at hl 8 rfl) ?_
                  refine lv_bipush (v := 13) hx hb dL_build_155 (by decide) ?_
                  refine lv_ishr hx hb dL_build_157 ?_
                  refine lv_iload hx hb dL_build_158 (lv_at hl 7 rfl) ?_
                  obtain ⟨u160, hf160, hf⟩ := kbd hf
                  refine kc_Si (As := [.int ((u34 + ((x7_L17 / 20) * 104729)) >>> (13 &&& 31)), .int x7_L17]) (rest := [.int x7_L17, .ref a33, .int x7_L17, .ref a35]) (wf := (PX4 a0 a1 a2 a3 a4 a5 a6 a7 a8 a9 a10 a11 a12 a13 a14 a15 a16 a17 a18 a19 a20 a21 a22 a23 a24 a25 a26 a27 a28 a29 a30 a31 a32 cyI cyZ w_r_code_kinds_L17 w_r_code_firsts_L17 w_r_code_seconds_L17 w_r_code_ints_L17 w_r_code_counting_L17 w_r_code_length_L17 w_r_present_steps_numbers w_r_present_steps_length w_r_present_pieces_numbers w_r_present_pieces_length w_r_present_valueIn w_r_present_registerOf w_r_present_slotOf w_r_present_pieceOf w_r_present_upcoming w_r_present_slotTaken w_r_present_registers w_r_present_slotCount w_r_trial_steps_numbers w_r_trial_steps_length w_r_trial_pieces_numbers w_r_trial_pieces_length w_r_trial_valueIn w_r_trial_registerOf w_r_trial_slotOf w_r_trial_pieceOf w_r_trial_upcoming w_r_trial_slotTaken w_r_trial_registers w_r_trial_slotCount w_r_machine_registers w_r_machine_slots w_r_machine_outputs w_r_machine_outputCount w_r_registers w_r_allocated_L17 ++ PAI a33 cyI cyZ r74 ++ PAI a34 cyI cyZ (upd w_a_v_L17 x7_L17.toNatClampNeg r99) ++ PAI a35 cyI cyZ w_b_v_L17)) (c_L_below l D cyI cyZ 0 ((u34 + ((x7_L17 / 20) * 104729)) >>> (13 &&& 31)) x7_L17 u160 hf160) ⟨hx, hb, hml, hown, hts⟩ (cwS 2 hts gL_build_L_below rfl rfl rfl (by decide +kernel) ⟨Nat.le_of_ble_eq_true rfl, Nat.le_of_ble_eq_true rfl⟩) hK hP hD hS hA [] [0, 1, 2, 3, 4, 5, 6, 7, 8, 9, 10, 11, 12, 13, 14, 15, 16, 17, 18, 19, 20, 21, 22, 23, 24, 25, 26, 27, 28, 29, 30, 31, 32, 33, 34, 35] 36 rfl rfl (kR1 _ rfl rfl (kR1 _ rfl rfl (kR1 _ rfl rfl (kR1 _ rfl rfl (kR1 _ rfl rfl (kR1 _ rfl rfl (kR1 _ rfl rfl (kR1 _ rfl rfl (kR1 _ rfl rfl (kR1 _ rfl rfl (kR1 _ rfl rfl (kR1 _ rfl rfl (kR1 _ rfl rfl (kR1 _ rfl rfl (kR1 _ rfl rfl (kR1 _ rfl rfl (kR1 _ rfl rfl (kR1 _ rfl rfl (kR1 _ rfl rfl (kR1 _ rfl rfl (kR1 _ rfl rfl (kR1 _ rfl rfl (kR1 _ rfl rfl (kR1 _ rfl rfl (kR1 _ rfl rfl (kR1 _ rfl rfl (kR1 _ rfl rfl (kR1 _ rfl rfl (kR1 _ rfl rfl (kR1 _ rfl rfl (kR1 _ rfl rfl (kR1 _ rfl rfl (kR1 _ rfl rfl (kR1 _ rfl rfl (kR1 _ rfl rfl (kR1 _ rfl rfl kR0)))))))))))))))))))))))))))))))))))) rfl (by decide +kernel) rfl hl.1 rfl (Nat.le_of_ble_eq_true rfl) dL_build_160 ⟨Nat.le_of_ble_eq_true rfl, Nat.le_of_ble_eq_true rfl⟩ (fun H locs hP hD hS => ?_)
                  obtain ⟨u163, hf163, hf⟩ := kbd hf
                  refine kc_Si (As := [.ref a33, .int x7_L17, .int u160]) (rest := [.int x7_L17, .ref a35]) (wf := (PX4 a0 a1 a2 a3 a4 a5 a6 a7 a8 a9 a10 a11 a12 a13 a14 a15 a16 a17 a18 a19 a20 a21 a22 a23 a24 a25 a26 a27 a28 a29 a30 a31 a32 cyI cyZ w_r_code_kinds_L17 w_r_code_firsts_L17 w_r_code_seconds_L17 w_r_code_ints_L17 w_r_code_counting_L17 w_r_code_length_L17 w_r_present_steps_numbers w_r_present_steps_length w_r_present_pieces_numbers w_r_present_pieces_length w_r_present_valueIn w_r_present_registerOf w_r_present_slotOf w_r_present_pieceOf w_r_present_upcoming w_r_present_slotTaken w_r_present_registers w_r_present_slotCount w_r_trial_steps_numbers w_r_trial_steps_length w_r_trial_pieces_numbers w_r_trial_pieces_length w_r_trial_valueIn w_r_trial_registerOf w_r_trial_slotOf w_r_trial_pieceOf w_r_trial_upcoming w_r_trial_slotTaken w_r_trial_registers w_r_trial_slotCount w_r_machine_registers w_r_machine_slots w_r_machine_outputs w_r_machine_outputCount w_r_registers w_r_allocated_L17 ++ PAI a33 cyI cyZ r74 ++ PAI a34 cyI cyZ (upd w_a_v_L17 x7_L17.toNatClampNeg r99) ++ PAI a35 cyI cyZ w_b_v_L17)) (c_L_valueBefore l D cyI cyZ a33 r74 x7_L17 u160 u163 hf163) ⟨hx, hb, hml, hown, hts⟩ (cwS 3 hts gL_build_L_valueBefore rfl rfl rfl (by decide +kernel) ⟨Nat.le_of_ble_eq_true rfl, Nat.le_of_ble_eq_true rfl⟩) hK hP hD hS hA [33] [0, 1, 2, 3, 4, 5, 6, 7, 8, 9, 10, 11, 12, 13, 14, 15, 16, 17, 18, 19, 20, 21, 22, 23, 24, 25, 26, 27, 28, 29, 30, 31, 32, 34, 35] 36 rfl rfl (kR1 _ rfl rfl (kR1 _ rfl rfl (kR1 _ rfl rfl (kR1 _ rfl rfl (kR1 _ rfl rfl (kR1 _ rfl rfl (kR1 _ rfl rfl (kR1 _ rfl rfl (kR1 _ rfl rfl (kR1 _ rfl rfl (kR1 _ rfl rfl (kR1 _ rfl rfl (kR1 _ rfl rfl (kR1 _ rfl rfl (kR1 _ rfl rfl (kR1 _ rfl rfl (kR1 _ rfl rfl (kR1 _ rfl rfl (kR1 _ rfl rfl (kR1 _ rfl rfl (kR1 _ rfl rfl (kR1 _ rfl rfl (kR1 _ rfl rfl (kR1 _ rfl rfl (kR1 _ rfl rfl (kR1 _ rfl rfl (kR1 _ rfl rfl (kR1 _ rfl rfl (kR1 _ rfl rfl (kR1 _ rfl rfl (kR1 _ rfl rfl (kR1 _ rfl rfl (kR1 _ rfl rfl (kR1 _ rfl rfl (kR1 _ rfl rfl kR0))))))))))))))))))))))))))))))))))) rfl (by decide +kernel) rfl hl.1 rfl (Nat.le_of_ble_eq_true rfl) dL_build_163 ⟨Nat.le_of_ble_eq_true rfl, Nat.le_of_ble_eq_true rfl⟩ (fun H locs hP hD hS => ?_)
                  refine lv_goto (tgt := 170) hx hb dL_build_166 (by decide) ?_
                  cases hf
                  exact kx _ _ _ hP hD hS (lv_sub hl [0, 1, 2, 3, 4, 5, 6, 7] rfl)
            clear hf
            have hf := hf99
            clear hf99
            refine lv_if_ne (tgt := 113) hx hb dL_build_99 (by decide) (fun c_99 => ?_) (fun c_99 => ?_)
            · have hf := kif c_99 hf
              refine lv_aload_n hx hb dL_build_113 rfl (lv_at hl 3 rfl) ?_
              refine lv_iload hx hb dL_build_114 (lv_at hl 7 rfl) ?_
              refine lv_iload hx hb dL_build_116 (lv_at hl 8 rfl) ?_
              refine lv_bipush (v := 7) hx hb dL_build_118 (by decide) ?_
              refine lv_ishr hx hb dL_build_120 ?_
              refine lv_iload hx hb dL_build_121 (lv_at hl 7 rfl) ?_
              obtain ⟨u123, hf123, hf⟩ := kbd hf
              refine kc_Si (As := [.int ((u34 + ((x7_L17 / 20) * 104729)) >>> (7 &&& 31)), .int x7_L17]) (rest := [.int x7_L17, .ref a33, .int x7_L17, .ref a34]) (wf := (PX4 a0 a1 a2 a3 a4 a5 a6 a7 a8 a9 a10 a11 a12 a13 a14 a15 a16 a17 a18 a19 a20 a21 a22 a23 a24 a25 a26 a27 a28 a29 a30 a31 a32 cyI cyZ w_r_code_kinds_L17 w_r_code_firsts_L17 w_r_code_seconds_L17 w_r_code_ints_L17 w_r_code_counting_L17 w_r_code_length_L17 w_r_present_steps_numbers w_r_present_steps_length w_r_present_pieces_numbers w_r_present_pieces_length w_r_present_valueIn w_r_present_registerOf w_r_present_slotOf w_r_present_pieceOf w_r_present_upcoming w_r_present_slotTaken w_r_present_registers w_r_present_slotCount w_r_trial_steps_numbers w_r_trial_steps_length w_r_trial_pieces_numbers w_r_trial_pieces_length w_r_trial_valueIn w_r_trial_registerOf w_r_trial_slotOf w_r_trial_pieceOf w_r_trial_upcoming w_r_trial_slotTaken w_r_trial_registers w_r_trial_slotCount w_r_machine_registers w_r_machine_slots w_r_machine_outputs w_r_machine_outputCount w_r_registers w_r_allocated_L17 ++ PAI a33 cyI cyZ r74 ++ PAI a34 cyI cyZ w_a_v_L17 ++ PAI a35 cyI cyZ w_b_v_L17)) (c_L_below l D cyI cyZ 0 ((u34 + ((x7_L17 / 20) * 104729)) >>> (7 &&& 31)) x7_L17 u123 hf123) ⟨hx, hb, hml, hown, hts⟩ (cwS 2 hts gL_build_L_below rfl rfl rfl (by decide +kernel) ⟨Nat.le_of_ble_eq_true rfl, Nat.le_of_ble_eq_true rfl⟩) hK hP hD hS hA [] [0, 1, 2, 3, 4, 5, 6, 7, 8, 9, 10, 11, 12, 13, 14, 15, 16, 17, 18, 19, 20, 21, 22, 23, 24, 25, 26, 27, 28, 29, 30, 31, 32, 33, 34, 35] 36 rfl rfl (kR1 _ rfl rfl (kR1 _ rfl rfl (kR1 _ rfl rfl (kR1 _ rfl rfl (kR1 _ rfl rfl (kR1 _ rfl rfl (kR1 _ rfl rfl (kR1 _ rfl rfl (kR1 _ rfl rfl (kR1 _ rfl rfl (kR1 _ rfl rfl (kR1 _ rfl rfl (kR1 _ rfl rfl (kR1 _ rfl rfl (kR1 _ rfl rfl (kR1 _ rfl rfl (kR1 _ rfl rfl (kR1 _ rfl rfl (kR1 _ rfl rfl (kR1 _ rfl rfl (kR1 _ rfl rfl (kR1 _ rfl rfl (kR1 _ rfl rfl (kR1 _ rfl rfl (kR1 _ rfl rfl (kR1 _ rfl rfl (kR1 _ rfl rfl (kR1 _ rfl rfl (kR1 _ rfl rfl (kR1 _ rfl rfl (kR1 _ rfl rfl (kR1 _ rfl rfl (kR1 _ rfl rfl (kR1 _ rfl rfl (kR1 _ rfl rfl (kR1 _ rfl rfl kR0)))))))))))))))))))))))))))))))))))) rfl (by decide +kernel) rfl hl.1 rfl (Nat.le_of_ble_eq_true rfl) dL_build_123 ⟨Nat.le_of_ble_eq_true rfl, Nat.le_of_ble_eq_true rfl⟩ (fun H locs hP hD hS => ?_)
              obtain ⟨u126, hf126, hf⟩ := kbd hf
              refine kc_Si (As := [.ref a33, .int x7_L17, .int u123]) (rest := [.int x7_L17, .ref a34]) (wf := (PX4 a0 a1 a2 a3 a4 a5 a6 a7 a8 a9 a10 a11 a12 a13 a14 a15 a16 a17 a18 a19 a20 a21 a22 a23 a24 a25 a26 a27 a28 a29 a30 a31 a32 cyI cyZ w_r_code_kinds_L17 w_r_code_firsts_L17 w_r_code_seconds_L17 w_r_code_ints_L17 w_r_code_counting_L17 w_r_code_length_L17 w_r_present_steps_numbers w_r_present_steps_length w_r_present_pieces_numbers w_r_present_pieces_length w_r_present_valueIn w_r_present_registerOf w_r_present_slotOf w_r_present_pieceOf w_r_present_upcoming w_r_present_slotTaken w_r_present_registers w_r_present_slotCount w_r_trial_steps_numbers w_r_trial_steps_length w_r_trial_pieces_numbers w_r_trial_pieces_length w_r_trial_valueIn w_r_trial_registerOf w_r_trial_slotOf w_r_trial_pieceOf w_r_trial_upcoming w_r_trial_slotTaken w_r_trial_registers w_r_trial_slotCount w_r_machine_registers w_r_machine_slots w_r_machine_outputs w_r_machine_outputCount w_r_registers w_r_allocated_L17 ++ PAI a33 cyI cyZ r74 ++ PAI a34 cyI cyZ w_a_v_L17 ++ PAI a35 cyI cyZ w_b_v_L17)) (c_L_valueBefore l D cyI cyZ a33 r74 x7_L17 u123 u126 hf126) ⟨hx, hb, hml, hown, hts⟩ (cwS 3 hts gL_build_L_valueBefore rfl rfl rfl (by decide +kernel) ⟨Nat.le_of_ble_eq_true rfl, Nat.le_of_ble_eq_true rfl⟩) hK hP hD hS hA [33] [0, 1, 2, 3, 4, 5, 6, 7, 8, 9, 10, 11, 12, 13, 14, 15, 16, 17, 18, 19, 20, 21, 22, 23, 24, 25, 26, 27, 28, 29, 30, 31, 32, 34, 35] 36 rfl rfl (kR1 _ rfl rfl (kR1 _ rfl rfl (kR1 _ rfl rfl (kR1 _ rfl rfl (kR1 _ rfl rfl (kR1 _ rfl rfl (kR1 _ rfl rfl (kR1 _ rfl rfl (kR1 _ rfl rfl (kR1 _ rfl rfl (kR1 _ rfl rfl (kR1 _ rfl rfl (kR1 _ rfl rfl (kR1 _ rfl rfl (kR1 _ rfl rfl (kR1 _ rfl rfl (kR1 _ rfl rfl (kR1 _ rfl rfl (kR1 _ rfl rfl (kR1 _ rfl rfl (kR1 _ rfl rfl (kR1 _ rfl rfl (kR1 _ rfl rfl (kR1 _ rfl rfl (kR1 _ rfl rfl (kR1 _ rfl rfl (kR1 _ rfl rfl (kR1 _ rfl rfl (kR1 _ rfl rfl (kR1 _ rfl rfl (kR1 _ rfl rfl (kR1 _ rfl rfl (kR1 _ rfl rfl (kR1 _ rfl rfl (kR1 _ rfl rfl kR0))))))))))))))))))))))))))))))))))) rfl (by decide +kernel) rfl hl.1 rfl (Nat.le_of_ble_eq_true rfl) dL_build_126 ⟨Nat.le_of_ble_eq_true rfl, Nat.le_of_ble_eq_true rfl⟩ (fun H locs hP hD hS => ?_)
              cases hf
              exact kx _ _ _ hP hD hS (lv_sub hl [0, 1, 2, 3, 4, 5, 6, 7, 8] rfl)
            · have hf := kit c_99 hf
              refine lv_iload hx hb dL_build_102 (lv_at hl 8 rfl) ?_
              refine lv_iconst (v := 5) hx hb dL_build_104 (by decide) ?_
              refine lv_ishr hx hb dL_build_105 ?_
              refine lv_sipush (v := 5000) hx hb dL_build_106 (by decide) ?_
              refine lv_isub hx hb dL_build_109 ?_
              refine lv_goto (tgt := 129) hx hb dL_build_110 (by decide) ?_
              cases hf
              exact kx _ _ _ hP hD hS (lv_sub hl [0, 1, 2, 3, 4, 5, 6, 7, 8] rfl)
          clear hf
          have hf := hf74
          clear hf74
          refine lv_icmp_le (tgt := 91) hx hb dL_build_74 (by decide) (fun c_74 => ?_) (fun c_74 => ?_)
          · have hf := kit c_74 hf
            cases hf
            exact kx _ _ _ hP hD hS (lv_sub hl [0, 1, 2, 3, 4, 5, 6, 7, 8] rfl)
          · have hf := kif c_74 hf
            refine lv_aload_n hx hb dL_build_77 rfl (lv_at hl 3 rfl) ?_
            refine lv_iload hx hb dL_build_78 (lv_at hl 7 rfl) ?_
            refine lv_iconst (v := 1) hx hb dL_build_80 (by decide) ?_
            refine lv_iload hx hb dL_build_81 (lv_at hl 8 rfl) ?_
            refine lv_iconst (v := 4) hx hb dL_build_83 (by decide) ?_
            refine lv_ishr hx hb dL_build_84 ?_
            refine lv_iconst (v := 4) hx hb dL_build_85 (by decide) ?_
            obtain ⟨u86, hf86, hf⟩ := kbd hf
            refine kc_Si (As := [.int ((u34 + ((x7_L17 / 20) * 104729)) >>> (4 &&& 31)), .int 4]) (rest := [.int 1, .int x7_L17, .ref a33]) (wf := (PX4 a0 a1 a2 a3 a4 a5 a6 a7 a8 a9 a10 a11 a12 a13 a14 a15 a16 a17 a18 a19 a20 a21 a22 a23 a24 a25 a26 a27 a28 a29 a30 a31 a32 cyI cyZ w_r_code_kinds_L17 w_r_code_firsts_L17 w_r_code_seconds_L17 w_r_code_ints_L17 w_r_code_counting_L17 w_r_code_length_L17 w_r_present_steps_numbers w_r_present_steps_length w_r_present_pieces_numbers w_r_present_pieces_length w_r_present_valueIn w_r_present_registerOf w_r_present_slotOf w_r_present_pieceOf w_r_present_upcoming w_r_present_slotTaken w_r_present_registers w_r_present_slotCount w_r_trial_steps_numbers w_r_trial_steps_length w_r_trial_pieces_numbers w_r_trial_pieces_length w_r_trial_valueIn w_r_trial_registerOf w_r_trial_slotOf w_r_trial_pieceOf w_r_trial_upcoming w_r_trial_slotTaken w_r_trial_registers w_r_trial_slotCount w_r_machine_registers w_r_machine_slots w_r_machine_outputs w_r_machine_outputCount w_r_registers w_r_allocated_L17 ++ PAI a33 cyI cyZ (upd w_k_v_L17 x7_L17.toNatClampNeg r53) ++ PAI a34 cyI cyZ w_a_v_L17 ++ PAI a35 cyI cyZ w_b_v_L17)) (c_L_below l D cyI cyZ 0 ((u34 + ((x7_L17 / 20) * 104729)) >>> (4 &&& 31)) 4 u86 hf86) ⟨hx, hb, hml, hown, hts⟩ (cwS 2 hts gL_build_L_below rfl rfl rfl (by decide +kernel) ⟨Nat.le_of_ble_eq_true rfl, Nat.le_of_ble_eq_true rfl⟩) hK hP hD hS hA [] [0, 1, 2, 3, 4, 5, 6, 7, 8, 9, 10, 11, 12, 13, 14, 15, 16, 17, 18, 19, 20, 21, 22, 23, 24, 25, 26, 27, 28, 29, 30, 31, 32, 33, 34, 35] 36 rfl rfl (kR1 _ rfl rfl (kR1 _ rfl rfl (kR1 _ rfl rfl (kR1 _ rfl rfl (kR1 _ rfl rfl (kR1 _ rfl rfl (kR1 _ rfl rfl (kR1 _ rfl rfl (kR1 _ rfl rfl (kR1 _ rfl rfl (kR1 _ rfl rfl (kR1 _ rfl rfl (kR1 _ rfl rfl (kR1 _ rfl rfl (kR1 _ rfl rfl (kR1 _ rfl rfl (kR1 _ rfl rfl (kR1 _ rfl rfl (kR1 _ rfl rfl (kR1 _ rfl rfl (kR1 _ rfl rfl (kR1 _ rfl rfl (kR1 _ rfl rfl (kR1 _ rfl rfl (kR1 _ rfl rfl (kR1 _ rfl rfl (kR1 _ rfl rfl (kR1 _ rfl rfl (kR1 _ rfl rfl (kR1 _ rfl rfl (kR1 _ rfl rfl (kR1 _ rfl rfl (kR1 _ rfl rfl (kR1 _ rfl rfl (kR1 _ rfl rfl (kR1 _ rfl rfl kR0)))))))))))))))))))))))))))))))))))) rfl (by decide +kernel) rfl hl.1 rfl (Nat.le_of_ble_eq_true rfl) dL_build_86 ⟨Nat.le_of_ble_eq_true rfl, Nat.le_of_ble_eq_true rfl⟩ (fun H locs hP hD hS => ?_)
            refine lv_iadd hx hb dL_build_89 ?_
            obtain ⟨h_90, hf⟩ := rdc_some hf
            refine va_iast hx hb hK hP hD hS 33 0 rfl rfl h_90 dL_build_90 (fun H locs hP hD hS => ?_)
            have hP : va_P D vwCl (PX4 a0 a1 a2 a3 a4 a5 a6 a7 a8 a9 a10 a11 a12 a13 a14 a15 a16 a17 a18 a19 a20 a21 a22 a23 a24 a25 a26 a27 a28 a29 a30 a31 a32 cyI cyZ w_r_code_kinds_L17 w_r_code_firsts_L17 w_r_code_seconds_L17 w_r_code_ints_L17 w_r_code_counting_L17 w_r_code_length_L17 w_r_present_steps_numbers w_r_present_steps_length w_r_present_pieces_numbers w_r_present_pieces_length w_r_present_valueIn w_r_present_registerOf w_r_present_slotOf w_r_present_pieceOf w_r_present_upcoming w_r_present_slotTaken w_r_present_registers w_r_present_slotCount w_r_trial_steps_numbers w_r_trial_steps_length w_r_trial_pieces_numbers w_r_trial_pieces_length w_r_trial_valueIn w_r_trial_registerOf w_r_trial_slotOf w_r_trial_pieceOf w_r_trial_upcoming w_r_trial_slotTaken w_r_trial_registers w_r_trial_slotCount w_r_machine_registers w_r_machine_slots w_r_machine_outputs w_r_machine_outputCount w_r_registers w_r_allocated_L17 ++ PAI a33 cyI cyZ (upd (upd w_k_v_L17 x7_L17.toNatClampNeg r53) x7_L17.toNatClampNeg (1 + u86)) ++ PAI a34 cyI cyZ w_a_v_L17 ++ PAI a35 cyI cyZ w_b_v_L17) H := hP
            have hD : va_D A (PX4 a0 a1 a2 a3 a4 a5 a6 a7 a8 a9 a10 a11 a12 a13 a14 a15 a16 a17 a18 a19 a20 a21 a22 a23 a24 a25 a26 a27 a28 a29 a30 a31 a32 cyI cyZ w_r_code_kinds_L17 w_r_code_firsts_L17 w_r_code_seconds_L17 w_r_code_ints_L17 w_r_code_counting_L17 w_r_code_length_L17 w_r_present_steps_numbers w_r_present_steps_length w_r_present_pieces_numbers w_r_present_pieces_length w_r_present_valueIn w_r_present_registerOf w_r_present_slotOf w_r_present_pieceOf w_r_present_upcoming w_r_present_slotTaken w_r_present_registers w_r_present_slotCount w_r_trial_steps_numbers w_r_trial_steps_length w_r_trial_pieces_numbers w_r_trial_pieces_length w_r_trial_valueIn w_r_trial_registerOf w_r_trial_slotOf w_r_trial_pieceOf w_r_trial_upcoming w_r_trial_slotTaken w_r_trial_registers w_r_trial_slotCount w_r_machine_registers w_r_machine_slots w_r_machine_outputs w_r_machine_outputCount w_r_registers w_r_allocated_L17 ++ PAI a33 cyI cyZ (upd (upd w_k_v_L17 x7_L17.toNatClampNeg r53) x7_L17.toNatClampNeg (1 + u86)) ++ PAI a34 cyI cyZ w_a_v_L17 ++ PAI a35 cyI cyZ w_b_v_L17) := hD
            cases hf
            exact kx _ _ _ hP hD hS (lv_sub hl [0, 1, 2, 3, 4, 5, 6, 7, 8] rfl)
        clear hf
        have hf := hf53
        clear hf53
        refine lv_if_ne (tgt := 60) hx hb dL_build_53 (by decide) (fun c_53 => ?_) (fun c_53 => ?_)
        · have hf := kif c_53 hf
          refine lv_iload hx hb dL_build_60 (lv_at hl 0 rfl) ?_
          refine lv_bipush (v := 10) hx hb dL_build_62 (by decide) ?_
          obtain ⟨u64, hf64, hf⟩ := kbd hf
          refine kc_Si (As := [.int (u34 + ((x7_L17 / 20) * 104729)), .int 10]) (rest := [.int x7_L17, .ref a33]) (wf := (PX4 a0 a1 a2 a3 a4 a5 a6 a7 a8 a9 a10 a11 a12 a13 a14 a15 a16 a17 a18 a19 a20 a21 a22 a23 a24 a25 a26 a27 a28 a29 a30 a31 a32 cyI cyZ w_r_code_kinds_L17 w_r_code_firsts_L17 w_r_code_seconds_L17 w_r_code_ints_L17 w_r_code_counting_L17 w_r_code_length_L17 w_r_present_steps_numbers w_r_present_steps_length w_r_present_pieces_numbers w_r_present_pieces_length w_r_present_valueIn w_r_present_registerOf w_r_present_slotOf w_r_present_pieceOf w_r_present_upcoming w_r_present_slotTaken w_r_present_registers w_r_present_slotCount w_r_trial_steps_numbers w_r_trial_steps_length w_r_trial_pieces_numbers w_r_trial_pieces_length w_r_trial_valueIn w_r_trial_registerOf w_r_trial_slotOf w_r_trial_pieceOf w_r_trial_upcoming w_r_trial_slotTaken w_r_trial_registers w_r_trial_slotCount w_r_machine_registers w_r_machine_slots w_r_machine_outputs w_r_machine_outputCount w_r_registers w_r_allocated_L17 ++ PAI a33 cyI cyZ w_k_v_L17 ++ PAI a34 cyI cyZ w_a_v_L17 ++ PAI a35 cyI cyZ w_b_v_L17)) (c_L_below l D cyI cyZ 0 (u34 + ((x7_L17 / 20) * 104729)) 10 u64 hf64) ⟨hx, hb, hml, hown, hts⟩ (cwS 2 hts gL_build_L_below rfl rfl rfl (by decide +kernel) ⟨Nat.le_of_ble_eq_true rfl, Nat.le_of_ble_eq_true rfl⟩) hK hP hD hS hA [] [0, 1, 2, 3, 4, 5, 6, 7, 8, 9, 10, 11, 12, 13, 14, 15, 16, 17, 18, 19, 20, 21, 22, 23, 24, 25, 26, 27, 28, 29, 30, 31, 32, 33, 34, 35] 36 rfl rfl (kR1 _ rfl rfl (kR1 _ rfl rfl (kR1 _ rfl rfl (kR1 _ rfl rfl (kR1 _ rfl rfl (kR1 _ rfl rfl (kR1 _ rfl rfl (kR1 _ rfl rfl (kR1 _ rfl rfl (kR1 _ rfl rfl (kR1 _ rfl rfl (kR1 _ rfl rfl (kR1 _ rfl rfl (kR1 _ rfl rfl (kR1 _ rfl rfl (kR1 _ rfl rfl (kR1 _ rfl rfl (kR1 _ rfl rfl (kR1 _ rfl rfl (kR1 _ rfl rfl (kR1 _ rfl rfl (kR1 _ rfl rfl (kR1 _ rfl rfl (kR1 _ rfl rfl (kR1 _ rfl rfl (kR1 _ rfl rfl (kR1 _ rfl rfl (kR1 _ rfl rfl (kR1 _ rfl rfl (kR1 _ rfl rfl (kR1 _ rfl rfl (kR1 _ rfl rfl (kR1 _ rfl rfl (kR1 _ rfl rfl (kR1 _ rfl rfl (kR1 _ rfl rfl kR0)))))))))))))))))))))))))))))))))))) rfl (by decide +kernel) rfl hl.1 rfl (Nat.le_of_ble_eq_true rfl) dL_build_64 ⟨Nat.le_of_ble_eq_true rfl, Nat.le_of_ble_eq_true rfl⟩ (fun H locs hP hD hS => ?_)
          cases hf
          exact kx _ _ _ hP hD hS (lv_sub hl [3, 4, 5, 6, 7, 8, 2, 1, 0] rfl)
        · have hf := kit c_53 hf
          refine lv_iconst (v := 0) hx hb dL_build_56 (by decide) ?_
          refine lv_goto (tgt := 67) hx hb dL_build_57 (by decide) ?_
          cases hf
          exact kx _ _ _ hP hD hS (lv_sub hl [3, 4, 5, 6, 7, 8, 2, 1, 0] rfl)
  obtain ⟨⟨v17_0, v17_1, v17_2, v17_3, v17_4, v17_5, v17_6, v17_7, v17_8, v17_9⟩, hf17, hf⟩ := kbd hf
  try dsimp only at hf
  refine L17 4000 0 w_r_code_kinds w_r_code_firsts w_r_code_seconds w_r_code_ints w_r_code_counting w_r_code_length w_r_allocated w_k_v w_a_v w_b_v (v17_0, v17_1, v17_2, v17_3, v17_4, v17_5, v17_6, v17_7, v17_8, v17_9) hf17 _ _ _ hP hD hS (lv_sub hl [0, 1, 2, 3, 4, 5, 6, 7] rfl) (fun H locs ls hP hD hS hl => ?_)
  have hP : va_P D vwCl (PX4 a0 a1 a2 a3 a4 a5 a6 a7 a8 a9 a10 a11 a12 a13 a14 a15 a16 a17 a18 a19 a20 a21 a22 a23 a24 a25 a26 a27 a28 a29 a30 a31 a32 cyI cyZ v17_0 v17_1 v17_2 v17_3 v17_4 v17_5 w_r_present_steps_numbers w_r_present_steps_length w_r_present_pieces_numbers w_r_present_pieces_length w_r_present_valueIn w_r_present_registerOf w_r_present_slotOf w_r_present_pieceOf w_r_present_upcoming w_r_present_slotTaken w_r_present_registers w_r_present_slotCount w_r_trial_steps_numbers w_r_trial_steps_length w_r_trial_pieces_numbers w_r_trial_pieces_length w_r_trial_valueIn w_r_trial_registerOf w_r_trial_slotOf w_r_trial_pieceOf w_r_trial_upcoming w_r_trial_slotTaken w_r_trial_registers w_r_trial_slotCount w_r_machine_registers w_r_machine_slots w_r_machine_outputs w_r_machine_outputCount w_r_registers v17_6 ++ PAI a33 cyI cyZ v17_7 ++ PAI a34 cyI cyZ v17_8 ++ PAI a35 cyI cyZ v17_9) H := hP
  have hD : va_D A (PX4 a0 a1 a2 a3 a4 a5 a6 a7 a8 a9 a10 a11 a12 a13 a14 a15 a16 a17 a18 a19 a20 a21 a22 a23 a24 a25 a26 a27 a28 a29 a30 a31 a32 cyI cyZ v17_0 v17_1 v17_2 v17_3 v17_4 v17_5 w_r_present_steps_numbers w_r_present_steps_length w_r_present_pieces_numbers w_r_present_pieces_length w_r_present_valueIn w_r_present_registerOf w_r_present_slotOf w_r_present_pieceOf w_r_present_upcoming w_r_present_slotTaken w_r_present_registers w_r_present_slotCount w_r_trial_steps_numbers w_r_trial_steps_length w_r_trial_pieces_numbers w_r_trial_pieces_length w_r_trial_valueIn w_r_trial_registerOf w_r_trial_slotOf w_r_trial_pieceOf w_r_trial_upcoming w_r_trial_slotTaken w_r_trial_registers w_r_trial_slotCount w_r_machine_registers w_r_machine_slots w_r_machine_outputs w_r_machine_outputCount w_r_registers v17_6 ++ PAI a33 cyI cyZ v17_7 ++ PAI a34 cyI cyZ v17_8 ++ PAI a35 cyI cyZ v17_9) := hD
  have hl : lv_has ls 10 [(6, .int (3 + u8)), (0, .ref a0)] := hl
  refine lv_aload_n hx hb dL_build_262 rfl (lv_at hl 1 rfl) ?_
  obtain ⟨u263, hf263, hf⟩ := kbd hf
  refine kc_Vi (As := []) (rest := []) (wf := (PX4 a0 a1 a2 a3 a4 a5 a6 a7 a8 a9 a10 a11 a12 a13 a14 a15 a16 a17 a18 a19 a20 a21 a22 a23 a24 a25 a26 a27 a28 a29 a30 a31 a32 cyI cyZ v17_0 v17_1 v17_2 v17_3 v17_4 v17_5 w_r_present_steps_numbers w_r_present_steps_length w_r_present_pieces_numbers w_r_present_pieces_length w_r_present_valueIn w_r_present_registerOf w_r_present_slotOf w_r_present_pieceOf w_r_present_upcoming w_r_present_slotTaken w_r_present_registers w_r_present_slotCount w_r_trial_steps_numbers w_r_trial_steps_length w_r_trial_pieces_numbers w_r_trial_pieces_length w_r_trial_valueIn w_r_trial_registerOf w_r_trial_slotOf w_r_trial_pieceOf w_r_trial_upcoming w_r_trial_slotTaken w_r_trial_registers w_r_trial_slotCount w_r_machine_registers w_r_machine_slots w_r_machine_outputs w_r_machine_outputCount w_r_registers v17_6 ++ PAI a33 cyI cyZ v17_7 ++ PAI a34 cyI cyZ v17_8 ++ PAI a35 cyI cyZ v17_9)) (c_X4_size l D cyI cyZ a0 a1 a2 a3 a4 a5 a6 a7 a8 a9 a10 a11 a12 a13 a14 a15 a16 a17 a18 a19 a20 a21 a22 a23 a24 a25 a26 a27 a28 a29 a30 a31 a32 v17_0 v17_1 v17_2 v17_3 v17_4 v17_5 w_r_present_steps_numbers w_r_present_steps_length w_r_present_pieces_numbers w_r_present_pieces_length w_r_present_valueIn w_r_present_registerOf w_r_present_slotOf w_r_present_pieceOf w_r_present_upcoming w_r_present_slotTaken w_r_present_registers w_r_present_slotCount w_r_trial_steps_numbers w_r_trial_steps_length w_r_trial_pieces_numbers w_r_trial_pieces_length w_r_trial_valueIn w_r_trial_registerOf w_r_trial_slotOf w_r_trial_pieceOf w_r_trial_upcoming w_r_trial_slotTaken w_r_trial_registers w_r_trial_slotCount w_r_machine_registers w_r_machine_slots w_r_machine_outputs w_r_machine_outputCount w_r_registers v17_6 u263 hf263) ⟨hx, hb, hml, hown, hts⟩ (cwV 0 hts gL_build_X4_size rfl rfl rfl (by decide +kernel) ⟨Nat.le_of_ble_eq_true rfl, Nat.le_of_ble_eq_true rfl⟩) hK hP hD hS hA [0, 1, 2, 3, 4, 5, 6, 7, 8, 9, 10, 11, 12, 13, 14, 15, 16, 17, 18, 19, 20, 21, 22, 23, 24, 25, 26, 27, 28, 29, 30, 31, 32] [33, 34, 35] 36 rfl rfl (kR1 _ rfl rfl (kR1 _ rfl rfl (kR1 _ rfl rfl kR0))) rfl (by decide +kernel) rfl rfl rfl rfl hl.1 rfl (Nat.le_of_ble_eq_true rfl) dL_build_263 ⟨Nat.le_of_ble_eq_true rfl, Nat.le_of_ble_eq_true rfl⟩ (fun H locs hP hD hS => ?_)
  refine lv_iload hx hb dL_build_266 (lv_at hl 0 rfl) ?_
  refine lv_icmp_ne (tgt := 276) hx hb dL_build_268 (by decide) (fun c_268 => ?_) (fun c_268 => ?_)
  · have hf := kif c_268 hf
    cases hf
  · have hf := kit c_268 hf
    refine lv_iload hx hb dL_build_271 (lv_at hl 0 rfl) ?_
    refine lv_goto (tgt := 277) hx hb dL_build_273 (by decide) ?_
    obtain rfl := Option.some.inj hf
    exact ret _ _ _ _ dL_build_277 rfl hP hD hS

abbrev rmL_uses : Room := { frames := 0, cells := 0, slots := 0, locals := 0 }
set_option maxHeartbeats 4000000 in
set_option maxRecDepth 100000 in
theorem c_L_uses (l : Launch) (D : va_G) (cyI cyZ : ClassId) (a0 a1 a2 : Nat) (w_k_v : Nat → Int32) (w_a_v : Nat → Int32) (w_b_v : Nat → Int32) (p4 : Int32) (p5 : Int32) (o : Int32) (hf : f_L_uses p4 p5 w_k_v w_a_v w_b_v = some o) : kMi l yL_uses wsL_uses rmL_uses [.ref a0, .ref a1, .ref a2, .int p4, .int p5] D (PAI a0 cyI cyZ w_k_v ++ PAI a1 cyI cyZ w_a_v ++ PAI a2 cyI cyZ w_b_v) (PAI a0 cyI cyZ w_k_v ++ PAI a1 cyI cyZ w_a_v ++ PAI a2 cyI cyZ w_b_v) (kT cyI cyZ) o 0 0 := by
  refine kOf_i (cc := cL_uses) (maxL := 5) (ty := .boolean) (by decide +kernel) rfl (Nat.le_of_ble_eq_true rfl) ?_
  intro p e s m args below meth c A Z ls C0 hP hK hD hA hl ret
  obtain ⟨hx, hb, hr, hml, hown, hts, hlocks⟩ := C0
  have hown : s.vm.findClass RL = some m.cls := hown
  have hl : lv_has ls 5 [(0, .ref a0), (1, .ref a1), (2, .ref a2), (3, .int p4), (4, .int p5)] := hl
  have hS : va_S A s.heap s.heap [] := va_S.rf
  rw [f_L_uses] at hf
  refine lv_aload_n hx hb dL_uses_0 rfl (lv_at hl 0 rfl) ?_
  refine lv_iload_n hx hb dL_uses_1 rfl (lv_at hl 3 rfl) ?_
  obtain ⟨h_2, hf⟩ := rdc_some hf
  refine va_iald hx hb hK hP 0 0 rfl rfl h_2 dL_uses_2 ?_
  refine lv_if_eq (tgt := 26) hx hb dL_uses_3 (by decide) (fun c_3 => ?_) (fun c_3 => ?_)
  · have hf := kit c_3 hf
    refine lv_iconst (v := 0) hx hb dL_uses_26 (by decide) ?_
    obtain rfl := Option.some.inj hf
    exact ret _ _ _ _ dL_uses_27 (znar (Or.inl rfl)) hP hD hS
  · have hf := kif c_3 hf
    refine lv_aload_n hx hb dL_uses_6 rfl (lv_at hl 1 rfl) ?_
    refine lv_iload_n hx hb dL_uses_7 rfl (lv_at hl 3 rfl) ?_
    obtain ⟨h_8, hf⟩ := rdc_some hf
    refine va_iald hx hb hK hP 1 0 rfl rfl h_8 dL_uses_8 ?_
    refine lv_iload hx hb dL_uses_9 (lv_at hl 4 rfl) ?_
    refine lv_icmp_eq (tgt := 22) hx hb dL_uses_11 (by decide) (fun c_11 => ?_) (fun c_11 => ?_)
    · have hf := kit c_11 hf
      refine lv_iconst (v := 1) hx hb dL_uses_22 (by decide) ?_
      refine lv_goto (tgt := 27) hx hb dL_uses_23 (by decide) ?_
      obtain rfl := Option.some.inj hf
      exact ret _ _ _ _ dL_uses_27 (znar (Or.inr rfl)) hP hD hS
    · have hf := kif c_11 hf
      refine lv_aload_n hx hb dL_uses_14 rfl (lv_at hl 2 rfl) ?_
      refine lv_iload_n hx hb dL_uses_15 rfl (lv_at hl 3 rfl) ?_
      obtain ⟨h_16, hf⟩ := rdc_some hf
      refine va_iald hx hb hK hP 2 0 rfl rfl h_16 dL_uses_16 ?_
      refine lv_iload hx hb dL_uses_17 (lv_at hl 4 rfl) ?_
      refine lv_icmp_ne (tgt := 26) hx hb dL_uses_19 (by decide) (fun c_19 => ?_) (fun c_19 => ?_)
      · have hf := kif c_19 hf
        refine lv_iconst (v := 0) hx hb dL_uses_26 (by decide) ?_
        obtain rfl := Option.some.inj hf
        exact ret _ _ _ _ dL_uses_27 (znar (Or.inl rfl)) hP hD hS
      · have hf := kit c_19 hf
        refine lv_iconst (v := 1) hx hb dL_uses_22 (by decide) ?_
        refine lv_goto (tgt := 27) hx hb dL_uses_23 (by decide) ?_
        obtain rfl := Option.some.inj hf
        exact ret _ _ _ _ dL_uses_27 (znar (Or.inr rfl)) hP hD hS

abbrev rmL_count : Room := { frames := 1, cells := 0, slots := 0, locals := 24 }
set_option maxHeartbeats 4000000 in
set_option maxRecDepth 100000 in
theorem c_L_count (l : Launch) (D : va_G) (cyI cyZ : ClassId) (a0 a1 a2 a3 : Nat) (w_k_v : Nat → Int32) (w_a_v : Nat → Int32) (w_b_v : Nat → Int32) (w_c_v : Nat → Int32) (p1 : Int32) (o : (Nat → Int32)) (hf : f_L_count p1 w_k_v w_a_v w_b_v w_c_v = some o) : kMv l yL_count wsL_count rmL_count [.int p1, .ref a0, .ref a1, .ref a2, .ref a3] D (PAI a0 cyI cyZ w_k_v ++ PAI a1 cyI cyZ w_a_v ++ PAI a2 cyI cyZ w_b_v ++ PAZ a3 cyI cyZ w_c_v) (PAI a0 cyI cyZ w_k_v ++ PAI a1 cyI cyZ w_a_v ++ PAI a2 cyI cyZ w_b_v ++ PAZ a3 cyI cyZ o) (kT cyI cyZ) 0 0 := by
  refine kOf_v (cc := cL_count) (maxL := 7) (by decide +kernel) rfl (Nat.le_of_ble_eq_true rfl) ?_
  intro p e s m args below meth c A Z ls C0 hP hK hD hA hl ret
  obtain ⟨hx, hb, hr, hml, hown, hts, hlocks⟩ := C0
  have hown : s.vm.findClass RL = some m.cls := hown
  have hl : lv_has ls 7 [(0, .int p1), (1, .ref a0), (2, .ref a1), (3, .ref a2), (4, .ref a3)] := hl
  have hS : va_S A s.heap s.heap [] := va_S.rf
  rw [f_L_count] at hf
  refine lv_iload_n hx hb dL_count_0 rfl (lv_at hl 0 rfl) ?_
  refine lv_iconst (v := 1) hx hb dL_count_1 (by decide) ?_
  refine lv_isub hx hb dL_count_2 ?_
  refine lv_istore (lv' := [(5, .int (p1 - 1)), (0, .int p1), (1, .ref a0), (2, .ref a1), (3, .ref a2), (4, .ref a3)]) hx hb dL_count_3 hl (by decide) rfl (fun ls hl => ?_)
  have L5 : ∀ (n : Nat) (x5_L5 : Int32) (w_c_v_L5 : Nat → Int32) (o9 : (Nat → Int32)) (_ : f_L_count_L5 w_k_v w_a_v w_b_v p1 n x5_L5 w_c_v_L5 = some o9) (H : Heap) (locs : List Loc) (ls : Array Slot), va_P D vwCl (PAI a0 cyI cyZ w_k_v ++ PAI a1 cyI cyZ w_a_v ++ PAI a2 cyI cyZ w_b_v ++ PAZ a3 cyI cyZ w_c_v_L5) H → va_D A (PAI a0 cyI cyZ w_k_v ++ PAI a1 cyI cyZ w_a_v ++ PAI a2 cyI cyZ w_b_v ++ PAZ a3 cyI cyZ w_c_v_L5) → va_S A s.heap H locs → lv_has ls 7 [(5, .int x5_L5), (0, .int p1), (1, .ref a0), (2, .ref a1), (3, .ref a2), (4, .ref a3)] → (∀ (H : Heap) (locs : List Loc) (ls : Array Slot), va_P D vwCl (PAI a0 cyI cyZ w_k_v ++ PAI a1 cyI cyZ w_a_v ++ PAI a2 cyI cyZ w_b_v ++ PAZ a3 cyI cyZ o9) H → va_D A (PAI a0 cyI cyZ w_k_v ++ PAI a1 cyI cyZ w_a_v ++ PAI a2 cyI cyZ w_b_v ++ PAZ a3 cyI cyZ o9) → va_S A s.heap H locs → lv_has ls 7 [] → W p l e rmL_count s m args below meth c H locs 0 0 Z (F0 m 92 ls [])) → W p l e rmL_count s m args below meth c H locs 0 0 Z (F0 m 5 ls []) := by
    intro n
    induction n with
    | zero =>
      intro x5_L5 w_c_v_L5 o9 hf
      rw [f_L_count_L5] at hf
      cases hf
    | succ n ih =>
      intro x5_L5 w_c_v_L5 o9 hf H locs ls hP hD hS hl kx
      rw [f_L_count_L5] at hf
      refine lv_iload hx hb dL_count_5 (lv_at hl 0 rfl) ?_
      refine lv_if_lt (tgt := 92) hx hb dL_count_7 (by decide) (fun c_7 => ?_) (fun c_7 => ?_)
      · have hf := kit c_7 hf
        obtain rfl := Option.some.inj hf
        exact kx _ _ _ hP hD hS (lv_sub hl [] rfl)
      · have hf := kif c_7 hf
        refine lv_aload hx hb dL_count_10 (lv_at hl 5 rfl) ?_
        refine lv_iload hx hb dL_count_12 (lv_at hl 0 rfl) ?_
        refine lv_aload_n hx hb dL_count_14 rfl (lv_at hl 2 rfl) ?_
        refine lv_iload hx hb dL_count_15 (lv_at hl 0 rfl) ?_
        obtain ⟨h_17, hf⟩ := rdc_some hf
        refine va_iald hx hb hK hP 0 0 rfl rfl h_17 dL_count_17 ?_
        refine lv_bipush (v := 6) hx hb dL_count_18 (by decide) ?_
        refine lv_icmp_ne (tgt := 27) hx hb dL_count_20 (by decide) (fun c_20 => ?_) (fun c_20 => ?_)
        · have hf := kif c_20 hf
          refine lv_iconst (v := 0) hx hb dL_count_27 (by decide) ?_
          obtain ⟨h_28, hf⟩ := rdc_some hf
          refine kc_zast hx hb hK hP hD hS 3 1 rfl rfl knar0 h_28 dL_count_28 (fun H locs hP hD hS => ?_)
          have hP : va_P D vwCl (PAI a0 cyI cyZ w_k_v ++ PAI a1 cyI cyZ w_a_v ++ PAI a2 cyI cyZ w_b_v ++ PAZ a3 cyI cyZ (upd w_c_v_L5 x5_L5.toNatClampNeg 0)) H := hP
          have hD : va_D A (PAI a0 cyI cyZ w_k_v ++ PAI a1 cyI cyZ w_a_v ++ PAI a2 cyI cyZ w_b_v ++ PAZ a3 cyI cyZ (upd w_c_v_L5 x5_L5.toNatClampNeg 0)) := hD
          refine lv_iload hx hb dL_count_29 (lv_at hl 0 rfl) ?_
          refine lv_iconst (v := 1) hx hb dL_count_31 (by decide) ?_
          refine lv_iadd hx hb dL_count_32 ?_
          refine lv_istore (lv' := [(6, .int (x5_L5 + 1)), (5, .int x5_L5), (0, .int p1), (1, .ref a0), (2, .ref a1), (3, .ref a2), (4, .ref a3)]) hx hb dL_count_33 hl (by decide) rfl (fun ls hl => ?_)
          have L35 : ∀ (n : Nat) (x6_L35 : Int32) (w_c_v_L35 : Nat → Int32) (o9 : (Nat → Int32)) (_ : f_L_count_L35 w_k_v w_a_v w_b_v p1 x5_L5 n x6_L35 w_c_v_L35 = some o9) (H : Heap) (locs : List Loc) (ls : Array Slot), va_P D vwCl (PAI a0 cyI cyZ w_k_v ++ PAI a1 cyI cyZ w_a_v ++ PAI a2 cyI cyZ w_b_v ++ PAZ a3 cyI cyZ w_c_v_L35) H → va_D A (PAI a0 cyI cyZ w_k_v ++ PAI a1 cyI cyZ w_a_v ++ PAI a2 cyI cyZ w_b_v ++ PAZ a3 cyI cyZ w_c_v_L35) → va_S A s.heap H locs → lv_has ls 7 [(6, .int x6_L35), (5, .int x5_L5), (0, .int p1), (1, .ref a0), (2, .ref a1), (3, .ref a2), (4, .ref a3)] → (∀ (H : Heap) (locs : List Loc) (ls : Array Slot), va_P D vwCl (PAI a0 cyI cyZ w_k_v ++ PAI a1 cyI cyZ w_a_v ++ PAI a2 cyI cyZ w_b_v ++ PAZ a3 cyI cyZ o9) H → va_D A (PAI a0 cyI cyZ w_k_v ++ PAI a1 cyI cyZ w_a_v ++ PAI a2 cyI cyZ w_b_v ++ PAZ a3 cyI cyZ o9) → va_S A s.heap H locs → lv_has ls 7 [(5, .int x5_L5), (0, .int p1), (1, .ref a0), (2, .ref a1), (3, .ref a2), (4, .ref a3)] → W p l e rmL_count s m args below meth c H locs 0 0 Z (F0 m 86 ls [])) → W p l e rmL_count s m args below meth c H locs 0 0 Z (F0 m 35 ls []) := by
            intro n
            induction n with
            | zero =>
              intro x6_L35 w_c_v_L35 o9 hf
              rw [f_L_count_L35] at hf
              cases hf
            | succ n ih =>
              intro x6_L35 w_c_v_L35 o9 hf H locs ls hP hD hS hl kx
              rw [f_L_count_L35] at hf
              refine lv_iload hx hb dL_count_35 (lv_at hl 0 rfl) ?_
              refine lv_iload_n hx hb dL_count_37 rfl (lv_at hl 2 rfl) ?_
              refine lv_icmp_ge (tgt := 86) hx hb dL_count_38 (by decide) (fun c_38 => ?_) (fun c_38 => ?_)
              · have hf := kit c_38 hf
                obtain rfl := Option.some.inj hf
                exact kx _ _ _ hP hD hS (lv_sub hl [1, 2, 3, 4, 5, 6] rfl)
              · have hf := kif c_38 hf
                refine lv_aload hx hb dL_count_41 (lv_at hl 6 rfl) ?_
                refine lv_iload hx hb dL_count_43 (lv_at hl 1 rfl) ?_
                refine lv_aload hx hb dL_count_45 (lv_at hl 6 rfl) ?_
                refine lv_iload hx hb dL_count_47 (lv_at hl 1 rfl) ?_
                obtain ⟨h_49, hf⟩ := rdc_some hf
                refine va_zald hx hb hK hP 3 1 rfl rfl h_49 dL_count_49 ?_
                refine lv_if_ne (tgt := 74) hx hb dL_count_50 (by decide) (fun c_50 => ?_) (fun c_50 => ?_)
                · have hf := kif c_50 hf
                  refine lv_iconst (v := 1) hx hb dL_count_74 (by decide) ?_
                  refine lv_goto (tgt := 79) hx hb dL_count_75 (by decide) ?_
                  obtain ⟨h_79, hf⟩ := rdc_some hf
                  refine kc_zast hx hb hK hP hD hS 3 1 rfl rfl knar1 h_79 dL_count_79 (fun H locs hP hD hS => ?_)
                  have hP : va_P D vwCl (PAI a0 cyI cyZ w_k_v ++ PAI a1 cyI cyZ w_a_v ++ PAI a2 cyI cyZ w_b_v ++ PAZ a3 cyI cyZ (upd w_c_v_L35 x5_L5.toNatClampNeg 1)) H := hP
                  have hD : va_D A (PAI a0 cyI cyZ w_k_v ++ PAI a1 cyI cyZ w_a_v ++ PAI a2 cyI cyZ w_b_v ++ PAZ a3 cyI cyZ (upd w_c_v_L35 x5_L5.toNatClampNeg 1)) := hD
                  refine lv_iinc (v := (x6_L35 + 1)) (lv' := [(6, .int (x6_L35 + 1)), (5, .int x5_L5), (0, .int p1), (1, .ref a0), (2, .ref a1), (3, .ref a2), (4, .ref a3)]) hx hb dL_count_80 hl (k := 0) rfl rfl (by decide) rfl (fun ls hl => ?_)
                  refine lv_goto (tgt := 35) hx hb dL_count_83 (by decide) ?_
                  exact ih (x6_L35 + 1) (upd w_c_v_L35 x5_L5.toNatClampNeg 1) _ hf _ _ _ hP hD hS (lv_sub hl [0, 1, 2, 3, 4, 5, 6] rfl) kx
                · have hf := kit c_50 hf
                  refine lv_aload hx hb dL_count_53 (lv_at hl 6 rfl) ?_
                  refine lv_iload hx hb dL_count_55 (lv_at hl 0 rfl) ?_
                  obtain ⟨h_57, hf⟩ := rdc_some hf
                  refine va_zald hx hb hK hP 3 1 rfl rfl h_57 dL_count_57 ?_
                  refine lv_if_eq (tgt := 78) hx hb dL_count_58 (by decide) (fun c_58 => ?_) (fun c_58 => ?_)
                  · have hf := kit c_58 hf
                    refine lv_iconst (v := 0) hx hb dL_count_78 (by decide) ?_
                    obtain ⟨h_79, hf⟩ := rdc_some hf
                    refine kc_zast hx hb hK hP hD hS 3 1 rfl rfl knar0 h_79 dL_count_79 (fun H locs hP hD hS => ?_)
                    have hP : va_P D vwCl (PAI a0 cyI cyZ w_k_v ++ PAI a1 cyI cyZ w_a_v ++ PAI a2 cyI cyZ w_b_v ++ PAZ a3 cyI cyZ (upd w_c_v_L35 x5_L5.toNatClampNeg 0)) H := hP
                    have hD : va_D A (PAI a0 cyI cyZ w_k_v ++ PAI a1 cyI cyZ w_a_v ++ PAI a2 cyI cyZ w_b_v ++ PAZ a3 cyI cyZ (upd w_c_v_L35 x5_L5.toNatClampNeg 0)) := hD
                    refine lv_iinc (v := (x6_L35 + 1)) (lv' := [(6, .int (x6_L35 + 1)), (5, .int x5_L5), (0, .int p1), (1, .ref a0), (2, .ref a1), (3, .ref a2), (4, .ref a3)]) hx hb dL_count_80 hl (k := 0) rfl rfl (by decide) rfl (fun ls hl => ?_)
                    refine lv_goto (tgt := 35) hx hb dL_count_83 (by decide) ?_
                    exact ih (x6_L35 + 1) (upd w_c_v_L35 x5_L5.toNatClampNeg 0) _ hf _ _ _ hP hD hS (lv_sub hl [0, 1, 2, 3, 4, 5, 6] rfl) kx
                  · have hf := kif c_58 hf
                    refine lv_aload_n hx hb dL_count_61 rfl (lv_at hl 3 rfl) ?_
                    refine lv_aload_n hx hb dL_count_62 rfl (lv_at hl 4 rfl) ?_
                    refine lv_aload_n hx hb dL_count_63 rfl (lv_at hl 5 rfl) ?_
                    refine lv_iload hx hb dL_count_64 (lv_at hl 0 rfl) ?_
                    refine lv_iload hx hb dL_count_66 (lv_at hl 1 rfl) ?_
                    obtain ⟨u68, hf68, hf⟩ := kbd hf
                    refine kc_Si (As := [.ref a0, .ref a1, .ref a2, .int x6_L35, .int x5_L5]) (rest := [.int x5_L5, .ref a3]) (wf := (PAI a0 cyI cyZ w_k_v ++ PAI a1 cyI cyZ w_a_v ++ PAI a2 cyI cyZ w_b_v ++ PAZ a3 cyI cyZ w_c_v_L35)) (c_L_uses l D cyI cyZ a0 a1 a2 w_k_v w_a_v w_b_v x6_L35 x5_L5 u68 hf68) ⟨hx, hb, hml, hown, hts⟩ (cwS 5 hts gL_count_L_uses rfl rfl rfl (by decide +kernel) ⟨Nat.le_of_ble_eq_true rfl, Nat.le_of_ble_eq_true rfl⟩) hK hP hD hS hA [0, 1, 2] [3] 4 rfl rfl (kR1 _ rfl rfl kR0) rfl (by decide +kernel) rfl hl.1 rfl (Nat.le_of_ble_eq_true rfl) dL_count_68 ⟨Nat.le_of_ble_eq_true rfl, Nat.le_of_ble_eq_true rfl⟩ (fun H locs hP hD hS => ?_)
                    refine lv_if_eq (tgt := 78) hx hb dL_count_71 (by decide) (fun c_71 => ?_) (fun c_71 => ?_)
                    · have hf := kit c_71 hf
                      refine lv_iconst (v := 0) hx hb dL_count_78 (by decide) ?_
                      obtain ⟨h_79, hf⟩ := rdc_some hf
                      refine kc_zast hx hb hK hP hD hS 3 1 rfl rfl knar0 h_79 dL_count_79 (fun H locs hP hD hS => ?_)
                      have hP : va_P D vwCl (PAI a0 cyI cyZ w_k_v ++ PAI a1 cyI cyZ w_a_v ++ PAI a2 cyI cyZ w_b_v ++ PAZ a3 cyI cyZ (upd w_c_v_L35 x5_L5.toNatClampNeg 0)) H := hP
                      have hD : va_D A (PAI a0 cyI cyZ w_k_v ++ PAI a1 cyI cyZ w_a_v ++ PAI a2 cyI cyZ w_b_v ++ PAZ a3 cyI cyZ (upd w_c_v_L35 x5_L5.toNatClampNeg 0)) := hD
                      refine lv_iinc (v := (x6_L35 + 1)) (lv' := [(6, .int (x6_L35 + 1)), (5, .int x5_L5), (0, .int p1), (1, .ref a0), (2, .ref a1), (3, .ref a2), (4, .ref a3)]) hx hb dL_count_80 hl (k := 0) rfl rfl (by decide) rfl (fun ls hl => ?_)
                      refine lv_goto (tgt := 35) hx hb dL_count_83 (by decide) ?_
                      exact ih (x6_L35 + 1) (upd w_c_v_L35 x5_L5.toNatClampNeg 0) _ hf _ _ _ hP hD hS (lv_sub hl [0, 1, 2, 3, 4, 5, 6] rfl) kx
                    · have hf := kif c_71 hf
                      refine lv_iconst (v := 1) hx hb dL_count_74 (by decide) ?_
                      refine lv_goto (tgt := 79) hx hb dL_count_75 (by decide) ?_
                      obtain ⟨h_79, hf⟩ := rdc_some hf
                      refine kc_zast hx hb hK hP hD hS 3 1 rfl rfl knar1 h_79 dL_count_79 (fun H locs hP hD hS => ?_)
                      have hP : va_P D vwCl (PAI a0 cyI cyZ w_k_v ++ PAI a1 cyI cyZ w_a_v ++ PAI a2 cyI cyZ w_b_v ++ PAZ a3 cyI cyZ (upd w_c_v_L35 x5_L5.toNatClampNeg 1)) H := hP
                      have hD : va_D A (PAI a0 cyI cyZ w_k_v ++ PAI a1 cyI cyZ w_a_v ++ PAI a2 cyI cyZ w_b_v ++ PAZ a3 cyI cyZ (upd w_c_v_L35 x5_L5.toNatClampNeg 1)) := hD
                      refine lv_iinc (v := (x6_L35 + 1)) (lv' := [(6, .int (x6_L35 + 1)), (5, .int x5_L5), (0, .int p1), (1, .ref a0), (2, .ref a1), (3, .ref a2), (4, .ref a3)]) hx hb dL_count_80 hl (k := 0) rfl rfl (by decide) rfl (fun ls hl => ?_)
                      refine lv_goto (tgt := 35) hx hb dL_count_83 (by decide) ?_
                      exact ih (x6_L35 + 1) (upd w_c_v_L35 x5_L5.toNatClampNeg 1) _ hf _ _ _ hP hD hS (lv_sub hl [0, 1, 2, 3, 4, 5, 6] rfl) kx
          obtain ⟨v35, hf35, hf⟩ := kbd hf
          refine L35 4000 (x5_L5 + 1) (upd w_c_v_L5 x5_L5.toNatClampNeg 0) v35 hf35 _ _ _ hP hD hS (lv_sub hl [0, 1, 2, 3, 4, 5, 6] rfl) (fun H locs ls hP hD hS hl => ?_)
          refine lv_iinc (v := (x5_L5 + (-1))) (lv' := [(5, .int (x5_L5 + (-1))), (0, .int p1), (1, .ref a0), (2, .ref a1), (3, .ref a2), (4, .ref a3)]) hx hb dL_count_86 hl (k := 0) rfl rfl (by decide) rfl (fun ls hl => ?_)
          refine lv_goto (tgt := 5) hx hb dL_count_89 (by decide) ?_
          exact ih (x5_L5 + (-1)) v35 _ hf _ _ _ hP hD hS (lv_sub hl [0, 1, 2, 3, 4, 5] rfl) kx
        · have hf := kit c_20 hf
          refine lv_iconst (v := 1) hx hb dL_count_23 (by decide) ?_
          refine lv_goto (tgt := 28) hx hb dL_count_24 (by decide) ?_
          obtain ⟨h_28, hf⟩ := rdc_some hf
          refine kc_zast hx hb hK hP hD hS 3 1 rfl rfl knar1 h_28 dL_count_28 (fun H locs hP hD hS => ?_)
          have hP : va_P D vwCl (PAI a0 cyI cyZ w_k_v ++ PAI a1 cyI cyZ w_a_v ++ PAI a2 cyI cyZ w_b_v ++ PAZ a3 cyI cyZ (upd w_c_v_L5 x5_L5.toNatClampNeg 1)) H := hP
          have hD : va_D A (PAI a0 cyI cyZ w_k_v ++ PAI a1 cyI cyZ w_a_v ++ PAI a2 cyI cyZ w_b_v ++ PAZ a3 cyI cyZ (upd w_c_v_L5 x5_L5.toNatClampNeg 1)) := hD
          refine lv_iload hx hb dL_count_29 (lv_at hl 0 rfl) ?_
          refine lv_iconst (v := 1) hx hb dL_count_31 (by decide) ?_
          refine lv_iadd hx hb dL_count_32 ?_
          refine lv_istore (lv' := [(6, .int (x5_L5 + 1)), (5, .int x5_L5), (0, .int p1), (1, .ref a0), (2, .ref a1), (3, .ref a2), (4, .ref a3)]) hx hb dL_count_33 hl (by decide) rfl (fun ls hl => ?_)
          have L35 : ∀ (n : Nat) (x6_L35 : Int32) (w_c_v_L35 : Nat → Int32) (o9 : (Nat → Int32)) (_ : f_L_count_L35 w_k_v w_a_v w_b_v p1 x5_L5 n x6_L35 w_c_v_L35 = some o9) (H : Heap) (locs : List Loc) (ls : Array Slot), va_P D vwCl (PAI a0 cyI cyZ w_k_v ++ PAI a1 cyI cyZ w_a_v ++ PAI a2 cyI cyZ w_b_v ++ PAZ a3 cyI cyZ w_c_v_L35) H → va_D A (PAI a0 cyI cyZ w_k_v ++ PAI a1 cyI cyZ w_a_v ++ PAI a2 cyI cyZ w_b_v ++ PAZ a3 cyI cyZ w_c_v_L35) → va_S A s.heap H locs → lv_has ls 7 [(6, .int x6_L35), (5, .int x5_L5), (0, .int p1), (1, .ref a0), (2, .ref a1), (3, .ref a2), (4, .ref a3)] → (∀ (H : Heap) (locs : List Loc) (ls : Array Slot), va_P D vwCl (PAI a0 cyI cyZ w_k_v ++ PAI a1 cyI cyZ w_a_v ++ PAI a2 cyI cyZ w_b_v ++ PAZ a3 cyI cyZ o9) H → va_D A (PAI a0 cyI cyZ w_k_v ++ PAI a1 cyI cyZ w_a_v ++ PAI a2 cyI cyZ w_b_v ++ PAZ a3 cyI cyZ o9) → va_S A s.heap H locs → lv_has ls 7 [(5, .int x5_L5), (0, .int p1), (1, .ref a0), (2, .ref a1), (3, .ref a2), (4, .ref a3)] → W p l e rmL_count s m args below meth c H locs 0 0 Z (F0 m 86 ls [])) → W p l e rmL_count s m args below meth c H locs 0 0 Z (F0 m 35 ls []) := by
            intro n
            induction n with
            | zero =>
              intro x6_L35 w_c_v_L35 o9 hf
              rw [f_L_count_L35] at hf
              cases hf
            | succ n ih =>
              intro x6_L35 w_c_v_L35 o9 hf H locs ls hP hD hS hl kx
              rw [f_L_count_L35] at hf
              refine lv_iload hx hb dL_count_35 (lv_at hl 0 rfl) ?_
              refine lv_iload_n hx hb dL_count_37 rfl (lv_at hl 2 rfl) ?_
              refine lv_icmp_ge (tgt := 86) hx hb dL_count_38 (by decide) (fun c_38 => ?_) (fun c_38 => ?_)
              · have hf := kit c_38 hf
                obtain rfl := Option.some.inj hf
                exact kx _ _ _ hP hD hS (lv_sub hl [1, 2, 3, 4, 5, 6] rfl)
              · have hf := kif c_38 hf
                refine lv_aload hx hb dL_count_41 (lv_at hl 6 rfl) ?_
                refine lv_iload hx hb dL_count_43 (lv_at hl 1 rfl) ?_
                refine lv_aload hx hb dL_count_45 (lv_at hl 6 rfl) ?_
                refine lv_iload hx hb dL_count_47 (lv_at hl 1 rfl) ?_
                obtain ⟨h_49, hf⟩ := rdc_some hf
                refine va_zald hx hb hK hP 3 1 rfl rfl h_49 dL_count_49 ?_
                refine lv_if_ne (tgt := 74) hx hb dL_count_50 (by decide) (fun c_50 => ?_) (fun c_50 => ?_)
                · have hf := kif c_50 hf
                  refine lv_iconst (v := 1) hx hb dL_count_74 (by decide) ?_
                  refine lv_goto (tgt := 79) hx hb dL_count_75 (by decide) ?_
                  obtain ⟨h_79, hf⟩ := rdc_some hf
                  refine kc_zast hx hb hK hP hD hS 3 1 rfl rfl knar1 h_79 dL_count_79 (fun H locs hP hD hS => ?_)
                  have hP : va_P D vwCl (PAI a0 cyI cyZ w_k_v ++ PAI a1 cyI cyZ w_a_v ++ PAI a2 cyI cyZ w_b_v ++ PAZ a3 cyI cyZ (upd w_c_v_L35 x5_L5.toNatClampNeg 1)) H := hP
                  have hD : va_D A (PAI a0 cyI cyZ w_k_v ++ PAI a1 cyI cyZ w_a_v ++ PAI a2 cyI cyZ w_b_v ++ PAZ a3 cyI cyZ (upd w_c_v_L35 x5_L5.toNatClampNeg 1)) := hD
                  refine lv_iinc (v := (x6_L35 + 1)) (lv' := [(6, .int (x6_L35 + 1)), (5, .int x5_L5), (0, .int p1), (1, .ref a0), (2, .ref a1), (3, .ref a2), (4, .ref a3)]) hx hb dL_count_80 hl (k := 0) rfl rfl (by decide) rfl (fun ls hl => ?_)
                  refine lv_goto (tgt := 35) hx hb dL_count_83 (by decide) ?_
                  exact ih (x6_L35 + 1) (upd w_c_v_L35 x5_L5.toNatClampNeg 1) _ hf _ _ _ hP hD hS (lv_sub hl [0, 1, 2, 3, 4, 5, 6] rfl) kx
                · have hf := kit c_50 hf
                  refine lv_aload hx hb dL_count_53 (lv_at hl 6 rfl) ?_
                  refine lv_iload hx hb dL_count_55 (lv_at hl 0 rfl) ?_
                  obtain ⟨h_57, hf⟩ := rdc_some hf
                  refine va_zald hx hb hK hP 3 1 rfl rfl h_57 dL_count_57 ?_
                  refine lv_if_eq (tgt := 78) hx hb dL_count_58 (by decide) (fun c_58 => ?_) (fun c_58 => ?_)
                  · have hf := kit c_58 hf
                    refine lv_iconst (v := 0) hx hb dL_count_78 (by decide) ?_
                    obtain ⟨h_79, hf⟩ := rdc_some hf
                    refine kc_zast hx hb hK hP hD hS 3 1 rfl rfl knar0 h_79 dL_count_79 (fun H locs hP hD hS => ?_)
                    have hP : va_P D vwCl (PAI a0 cyI cyZ w_k_v ++ PAI a1 cyI cyZ w_a_v ++ PAI a2 cyI cyZ w_b_v ++ PAZ a3 cyI cyZ (upd w_c_v_L35 x5_L5.toNatClampNeg 0)) H := hP
                    have hD : va_D A (PAI a0 cyI cyZ w_k_v ++ PAI a1 cyI cyZ w_a_v ++ PAI a2 cyI cyZ w_b_v ++ PAZ a3 cyI cyZ (upd w_c_v_L35 x5_L5.toNatClampNeg 0)) := hD
                    refine lv_iinc (v := (x6_L35 + 1)) (lv' := [(6, .int (x6_L35 + 1)), (5, .int x5_L5), (0, .int p1), (1, .ref a0), (2, .ref a1), (3, .ref a2), (4, .ref a3)]) hx hb dL_count_80 hl (k := 0) rfl rfl (by decide) rfl (fun ls hl => ?_)
                    refine lv_goto (tgt := 35) hx hb dL_count_83 (by decide) ?_
                    exact ih (x6_L35 + 1) (upd w_c_v_L35 x5_L5.toNatClampNeg 0) _ hf _ _ _ hP hD hS (lv_sub hl [0, 1, 2, 3, 4, 5, 6] rfl) kx
                  · have hf := kif c_58 hf
                    refine lv_aload_n hx hb dL_count_61 rfl (lv_at hl 3 rfl) ?_
                    refine lv_aload_n hx hb dL_count_62 rfl (lv_at hl 4 rfl) ?_
                    refine lv_aload_n hx hb dL_count_63 rfl (lv_at hl 5 rfl) ?_
                    refine lv_iload hx hb dL_count_64 (lv_at hl 0 rfl) ?_
                    refine lv_iload hx hb dL_count_66 (lv_at hl 1 rfl) ?_
                    obtain ⟨u68, hf68, hf⟩ := kbd hf
                    refine kc_Si (As := [.ref a0, .ref a1, .ref a2, .int x6_L35, .int x5_L5]) (rest := [.int x5_L5, .ref a3]) (wf := (PAI a0 cyI cyZ w_k_v ++ PAI a1 cyI cyZ w_a_v ++ PAI a2 cyI cyZ w_b_v ++ PAZ a3 cyI cyZ w_c_v_L35)) (c_L_uses l D cyI cyZ a0 a1 a2 w_k_v w_a_v w_b_v x6_L35 x5_L5 u68 hf68) ⟨hx, hb, hml, hown, hts⟩ (cwS 5 hts gL_count_L_uses rfl rfl rfl (by decide +kernel) ⟨Nat.le_of_ble_eq_true rfl, Nat.le_of_ble_eq_true rfl⟩) hK hP hD hS hA [0, 1, 2] [3] 4 rfl rfl (kR1 _ rfl rfl kR0) rfl (by decide +kernel) rfl hl.1 rfl (Nat.le_of_ble_eq_true rfl) dL_count_68 ⟨Nat.le_of_ble_eq_true rfl, Nat.le_of_ble_eq_true rfl⟩ (fun H locs hP hD hS => ?_)
                    refine lv_if_eq (tgt := 78) hx hb dL_count_71 (by decide) (fun c_71 => ?_) (fun c_71 => ?_)
                    · have hf := kit c_71 hf
                      refine lv_iconst (v := 0) hx hb dL_count_78 (by decide) ?_
                      obtain ⟨h_79, hf⟩ := rdc_some hf
                      refine kc_zast hx hb hK hP hD hS 3 1 rfl rfl knar0 h_79 dL_count_79 (fun H locs hP hD hS => ?_)
                      have hP : va_P D vwCl (PAI a0 cyI cyZ w_k_v ++ PAI a1 cyI cyZ w_a_v ++ PAI a2 cyI cyZ w_b_v ++ PAZ a3 cyI cyZ (upd w_c_v_L35 x5_L5.toNatClampNeg 0)) H := hP
                      have hD : va_D A (PAI a0 cyI cyZ w_k_v ++ PAI a1 cyI cyZ w_a_v ++ PAI a2 cyI cyZ w_b_v ++ PAZ a3 cyI cyZ (upd w_c_v_L35 x5_L5.toNatClampNeg 0)) := hD
                      refine lv_iinc (v := (x6_L35 + 1)) (lv' := [(6, .int (x6_L35 + 1)), (5, .int x5_L5), (0, .int p1), (1, .ref a0), (2, .ref a1), (3, .ref a2), (4, .ref a3)]) hx hb dL_count_80 hl (k := 0) rfl rfl (by decide) rfl (fun ls hl => ?_)
                      refine lv_goto (tgt := 35) hx hb dL_count_83 (by decide) ?_
                      exact ih (x6_L35 + 1) (upd w_c_v_L35 x5_L5.toNatClampNeg 0) _ hf _ _ _ hP hD hS (lv_sub hl [0, 1, 2, 3, 4, 5, 6] rfl) kx
                    · have hf := kif c_71 hf
                      refine lv_iconst (v := 1) hx hb dL_count_74 (by decide) ?_
                      refine lv_goto (tgt := 79) hx hb dL_count_75 (by decide) ?_
                      obtain ⟨h_79, hf⟩ := rdc_some hf
                      refine kc_zast hx hb hK hP hD hS 3 1 rfl rfl knar1 h_79 dL_count_79 (fun H locs hP hD hS => ?_)
                      have hP : va_P D vwCl (PAI a0 cyI cyZ w_k_v ++ PAI a1 cyI cyZ w_a_v ++ PAI a2 cyI cyZ w_b_v ++ PAZ a3 cyI cyZ (upd w_c_v_L35 x5_L5.toNatClampNeg 1)) H := hP
                      have hD : va_D A (PAI a0 cyI cyZ w_k_v ++ PAI a1 cyI cyZ w_a_v ++ PAI a2 cyI cyZ w_b_v ++ PAZ a3 cyI cyZ (upd w_c_v_L35 x5_L5.toNatClampNeg 1)) := hD
                      refine lv_iinc (v := (x6_L35 + 1)) (lv' := [(6, .int (x6_L35 + 1)), (5, .int x5_L5), (0, .int p1), (1, .ref a0), (2, .ref a1), (3, .ref a2), (4, .ref a3)]) hx hb dL_count_80 hl (k := 0) rfl rfl (by decide) rfl (fun ls hl => ?_)
                      refine lv_goto (tgt := 35) hx hb dL_count_83 (by decide) ?_
                      exact ih (x6_L35 + 1) (upd w_c_v_L35 x5_L5.toNatClampNeg 1) _ hf _ _ _ hP hD hS (lv_sub hl [0, 1, 2, 3, 4, 5, 6] rfl) kx
          obtain ⟨v35, hf35, hf⟩ := kbd hf
          refine L35 4000 (x5_L5 + 1) (upd w_c_v_L5 x5_L5.toNatClampNeg 1) v35 hf35 _ _ _ hP hD hS (lv_sub hl [0, 1, 2, 3, 4, 5, 6] rfl) (fun H locs ls hP hD hS hl => ?_)
          refine lv_iinc (v := (x5_L5 + (-1))) (lv' := [(5, .int (x5_L5 + (-1))), (0, .int p1), (1, .ref a0), (2, .ref a1), (3, .ref a2), (4, .ref a3)]) hx hb dL_count_86 hl (k := 0) rfl rfl (by decide) rfl (fun ls hl => ?_)
          refine lv_goto (tgt := 5) hx hb dL_count_89 (by decide) ?_
          exact ih (x5_L5 + (-1)) v35 _ hf _ _ _ hP hD hS (lv_sub hl [0, 1, 2, 3, 4, 5] rfl) kx
  obtain ⟨v5, hf5, hf⟩ := kbd hf
  refine L5 4000 (p1 - 1) w_c_v v5 hf5 _ _ _ hP hD hS (lv_sub hl [0, 1, 2, 3, 4, 5] rfl) (fun H locs ls hP hD hS hl => ?_)
  obtain rfl := Option.some.inj hf
  exact ret _ _ _ _ dL_count_92 hP hD hS
