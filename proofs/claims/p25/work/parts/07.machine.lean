abbrev rmX2_outputCount : Room := { frames := 0, cells := 0, slots := 0, locals := 0 }
set_option maxHeartbeats 4000000 in
set_option maxRecDepth 100000 in
theorem c_X2_outputCount (l : Launch) (D : va_G) (cyI cyZ : ClassId) (a0 a1 a2 a3 : Nat) (w_registers : Nat → Int32) (w_slots : Nat → Int32) (w_outputs : Nat → Int32) (w_outputCount : Int32) (o : Int32) (hf : f_X2_outputCount w_outputCount = some o) : kMi l yX2_outputCount wsX2_outputCount rmX2_outputCount [.ref a0] D (PX2 a0 a1 a2 a3 cyI cyZ w_registers w_slots w_outputs w_outputCount) (PX2 a0 a1 a2 a3 cyI cyZ w_registers w_slots w_outputs w_outputCount) (kT cyI cyZ) o 0 0 := by
  refine kOf_i (cc := cX2_outputCount) (maxL := 1) (ty := .int) (by decide +kernel) rfl (Nat.le_of_ble_eq_true rfl) ?_
  intro p e s m args below meth c A Z ls C0 hP hK hD hA hl ret
  obtain ⟨hx, hb, hr, hml, hown, hts, hlocks⟩ := C0
  have hown : s.vm.findClass RX2 = some m.cls := hown
  have hl : lv_has ls 1 [(0, .ref a0)] := hl
  have hS : va_S A s.heap s.heap [] := va_S.rf
  have i_X2 : ∀ w ∈ wsX20, w ∈ wsX2_outputCount := by decide +kernel
  have k21 := hts (.fieldLink RX2 21 "RegisterAllocator$Machine" "outputCount" "I") (by decide +kernel)
  rw [f_X2_outputCount] at hf
  refine lv_aload_n hx hb dX2_outputCount_0 rfl (lv_at hl 0 rfl) ?_
  refine va_get (D := D) (ci := 2) (v := .int w_outputCount) (C := RX2) (T := TX2) (N := 4) hx hb hts i_X2 hown hK hP 0 rfl rfl 3 (by decide) k21 (fun _ h9 => h9) rfl dX2_outputCount_1 ?_
  obtain rfl := Option.some.inj hf
  exact ret _ _ _ _ dX2_outputCount_4 rfl hP hD hS

abbrev rmX2_outputAt : Room := { frames := 0, cells := 0, slots := 0, locals := 0 }
set_option maxHeartbeats 4000000 in
set_option maxRecDepth 100000 in
theorem c_X2_outputAt (l : Launch) (D : va_G) (cyI cyZ : ClassId) (a0 a1 a2 a3 : Nat) (w_registers : Nat → Int32) (w_slots : Nat → Int32) (w_outputs : Nat → Int32) (w_outputCount : Int32) (p1 : Int32) (o : Int32) (hf : f_X2_outputAt p1 w_outputs w_outputCount = some o) : kMi l yX2_outputAt wsX2_outputAt rmX2_outputAt [.ref a0, .int p1] D (PX2 a0 a1 a2 a3 cyI cyZ w_registers w_slots w_outputs w_outputCount) (PX2 a0 a1 a2 a3 cyI cyZ w_registers w_slots w_outputs w_outputCount) (kT cyI cyZ) o 0 0 := by
  refine kOf_i (cc := cX2_outputAt) (maxL := 2) (ty := .int) (by decide +kernel) rfl (Nat.le_of_ble_eq_true rfl) ?_
  intro p e s m args below meth c A Z ls C0 hP hK hD hA hl ret
  obtain ⟨hx, hb, hr, hml, hown, hts, hlocks⟩ := C0
  have hown : s.vm.findClass RX2 = some m.cls := hown
  have hl : lv_has ls 2 [(0, .ref a0), (1, .int p1)] := hl
  have hS : va_S A s.heap s.heap [] := va_S.rf
  have i_X2 : ∀ w ∈ wsX20, w ∈ wsX2_outputAt := by decide +kernel
  have k18 := hts (.fieldLink RX2 18 "RegisterAllocator$Machine" "outputs" "[I") (by decide +kernel)
  have k21 := hts (.fieldLink RX2 21 "RegisterAllocator$Machine" "outputCount" "I") (by decide +kernel)
  rw [f_X2_outputAt] at hf
  refine lv_iload_n hx hb dX2_outputAt_0 rfl (lv_at hl 1 rfl) ?_
  refine lv_if_lt (tgt := 21) hx hb dX2_outputAt_1 (by decide) (fun c_1 => ?_) (fun c_1 => ?_)
  · have hf := kit c_1 hf
    refine lv_iconst (v := 0) hx hb dX2_outputAt_21 (by decide) ?_
    obtain rfl := Option.some.inj hf
    exact ret _ _ _ _ dX2_outputAt_22 rfl hP hD hS
  · have hf := kif c_1 hf
    refine lv_iload_n hx hb dX2_outputAt_4 rfl (lv_at hl 1 rfl) ?_
    refine lv_aload_n hx hb dX2_outputAt_5 rfl (lv_at hl 0 rfl) ?_
    refine va_get (D := D) (ci := 2) (v := .int w_outputCount) (C := RX2) (T := TX2) (N := 4) hx hb hts i_X2 hown hK hP 0 rfl rfl 3 (by decide) k21 (fun _ h9 => h9) rfl dX2_outputAt_6 ?_
    refine lv_icmp_ge (tgt := 21) hx hb dX2_outputAt_9 (by decide) (fun c_9 => ?_) (fun c_9 => ?_)
    · have hf := kit c_9 hf
      refine lv_iconst (v := 0) hx hb dX2_outputAt_21 (by decide) ?_
      obtain rfl := Option.some.inj hf
      exact ret _ _ _ _ dX2_outputAt_22 rfl hP hD hS
    · have hf := kif c_9 hf
      refine lv_aload_n hx hb dX2_outputAt_12 rfl (lv_at hl 0 rfl) ?_
      refine va_get (D := D) (ci := 2) (v := .ref a3) (C := RX2) (T := TX2) (N := 4) hx hb hts i_X2 hown hK hP 0 rfl rfl 2 (by decide) k18 (fun _ h9 => h9) rfl dX2_outputAt_13 ?_
      refine lv_iload_n hx hb dX2_outputAt_16 rfl (lv_at hl 1 rfl) ?_
      obtain ⟨h_17, hf⟩ := rdc_some hf
      refine va_iald hx hb hK hP 3 0 rfl rfl h_17 dX2_outputAt_17 ?_
      refine lv_goto (tgt := 22) hx hb dX2_outputAt_18 (by decide) ?_
      obtain rfl := Option.some.inj hf
      exact ret _ _ _ _ dX2_outputAt_22 rfl hP hD hS

abbrev rmX2_setRegister : Room := { frames := 0, cells := 0, slots := 0, locals := 0 }
set_option maxHeartbeats 4000000 in
set_option maxRecDepth 100000 in
theorem c_X2_setRegister (l : Launch) (D : va_G) (cyI cyZ : ClassId) (a0 a1 a2 a3 : Nat) (w_registers : Nat → Int32) (w_slots : Nat → Int32) (w_outputs : Nat → Int32) (w_outputCount : Int32) (p1 : Int32) (p2 : Int32) (o : (Nat → Int32)) (hf : f_X2_setRegister p1 p2 w_registers = some o) : kMv l yX2_setRegister wsX2_setRegister rmX2_setRegister [.ref a0, .int p1, .int p2] D (PX2 a0 a1 a2 a3 cyI cyZ w_registers w_slots w_outputs w_outputCount) (PX2 a0 a1 a2 a3 cyI cyZ o w_slots w_outputs w_outputCount) (kT cyI cyZ) 0 0 := by
  refine kOf_v (cc := cX2_setRegister) (maxL := 3) (by decide +kernel) rfl (Nat.le_of_ble_eq_true rfl) ?_
  intro p e s m args below meth c A Z ls C0 hP hK hD hA hl ret
  obtain ⟨hx, hb, hr, hml, hown, hts, hlocks⟩ := C0
  have hown : s.vm.findClass RX2 = some m.cls := hown
  have hl : lv_has ls 3 [(0, .ref a0), (1, .int p1), (2, .int p2)] := hl
  have hS : va_S A s.heap s.heap [] := va_S.rf
  have i_X2 : ∀ w ∈ wsX20, w ∈ wsX2_setRegister := by decide +kernel
  have k9 := hts (.fieldLink RX2 9 "RegisterAllocator$Machine" "registers" "[I") (by decide +kernel)
  rw [f_X2_setRegister] at hf
  refine lv_iload_n hx hb dX2_setRegister_0 rfl (lv_at hl 1 rfl) ?_
  refine lv_if_lt (tgt := 17) hx hb dX2_setRegister_1 (by decide) (fun c_1 => ?_) (fun c_1 => ?_)
  · have hf := kit c_1 hf
    obtain rfl := Option.some.inj hf
    exact ret _ _ _ _ dX2_setRegister_17 hP hD hS
  · have hf := kif c_1 hf
    refine lv_iload_n hx hb dX2_setRegister_4 rfl (lv_at hl 1 rfl) ?_
    refine lv_bipush (v := 8) hx hb dX2_setRegister_5 (by decide) ?_
    refine lv_icmp_ge (tgt := 17) hx hb dX2_setRegister_7 (by decide) (fun c_7 => ?_) (fun c_7 => ?_)
    · have hf := kit c_7 hf
      obtain rfl := Option.some.inj hf
      exact ret _ _ _ _ dX2_setRegister_17 hP hD hS
    · have hf := kif c_7 hf
      refine lv_aload_n hx hb dX2_setRegister_10 rfl (lv_at hl 0 rfl) ?_
      refine va_get (D := D) (ci := 2) (v := .ref a1) (C := RX2) (T := TX2) (N := 4) hx hb hts i_X2 hown hK hP 0 rfl rfl 0 (by decide) k9 (fun _ h9 => h9) rfl dX2_setRegister_11 ?_
      refine lv_iload_n hx hb dX2_setRegister_14 rfl (lv_at hl 1 rfl) ?_
      refine lv_iload_n hx hb dX2_setRegister_15 rfl (lv_at hl 2 rfl) ?_
      obtain ⟨h_16, hf⟩ := rdc_some hf
      refine va_iast hx hb hK hP hD hS 1 0 rfl rfl h_16 dX2_setRegister_16 (fun H locs hP hD hS => ?_)
      have hP : va_P D vwCl (PX2 a0 a1 a2 a3 cyI cyZ (upd w_registers p1.toNatClampNeg p2) w_slots w_outputs w_outputCount) H := hP
      have hD : va_D A (PX2 a0 a1 a2 a3 cyI cyZ (upd w_registers p1.toNatClampNeg p2) w_slots w_outputs w_outputCount) := hD
      obtain rfl := Option.some.inj hf
      exact ret _ _ _ _ dX2_setRegister_17 hP hD hS

abbrev rmX2_inRegister : Room := { frames := 0, cells := 0, slots := 0, locals := 0 }
set_option maxHeartbeats 4000000 in
set_option maxRecDepth 100000 in
theorem c_X2_inRegister (l : Launch) (D : va_G) (cyI cyZ : ClassId) (a0 a1 a2 a3 : Nat) (w_registers : Nat → Int32) (w_slots : Nat → Int32) (w_outputs : Nat → Int32) (w_outputCount : Int32) (p1 : Int32) (o : Int32) (hf : f_X2_inRegister p1 w_registers = some o) : kMi l yX2_inRegister wsX2_inRegister rmX2_inRegister [.ref a0, .int p1] D (PX2 a0 a1 a2 a3 cyI cyZ w_registers w_slots w_outputs w_outputCount) (PX2 a0 a1 a2 a3 cyI cyZ w_registers w_slots w_outputs w_outputCount) (kT cyI cyZ) o 0 0 := by
  refine kOf_i (cc := cX2_inRegister) (maxL := 2) (ty := .int) (by decide +kernel) rfl (Nat.le_of_ble_eq_true rfl) ?_
  intro p e s m args below meth c A Z ls C0 hP hK hD hA hl ret
  obtain ⟨hx, hb, hr, hml, hown, hts, hlocks⟩ := C0
  have hown : s.vm.findClass RX2 = some m.cls := hown
  have hl : lv_has ls 2 [(0, .ref a0), (1, .int p1)] := hl
  have hS : va_S A s.heap s.heap [] := va_S.rf
  have i_X2 : ∀ w ∈ wsX20, w ∈ wsX2_inRegister := by decide +kernel
  have k9 := hts (.fieldLink RX2 9 "RegisterAllocator$Machine" "registers" "[I") (by decide +kernel)
  rw [f_X2_inRegister] at hf
  refine lv_iload_n hx hb dX2_inRegister_0 rfl (lv_at hl 1 rfl) ?_
  refine lv_if_lt (tgt := 19) hx hb dX2_inRegister_1 (by decide) (fun c_1 => ?_) (fun c_1 => ?_)
  · have hf := kit c_1 hf
    refine lv_iconst (v := 0) hx hb dX2_inRegister_19 (by decide) ?_
    obtain rfl := Option.some.inj hf
    exact ret _ _ _ _ dX2_inRegister_20 rfl hP hD hS
  · have hf := kif c_1 hf
    refine lv_iload_n hx hb dX2_inRegister_4 rfl (lv_at hl 1 rfl) ?_
    refine lv_bipush (v := 8) hx hb dX2_inRegister_5 (by decide) ?_
    refine lv_icmp_ge (tgt := 19) hx hb dX2_inRegister_7 (by decide) (fun c_7 => ?_) (fun c_7 => ?_)
    · have hf := kit c_7 hf
      refine lv_iconst (v := 0) hx hb dX2_inRegister_19 (by decide) ?_
      obtain rfl := Option.some.inj hf
      exact ret _ _ _ _ dX2_inRegister_20 rfl hP hD hS
    · have hf := kif c_7 hf
      refine lv_aload_n hx hb dX2_inRegister_10 rfl (lv_at hl 0 rfl) ?_
      refine va_get (D := D) (ci := 2) (v := .ref a1) (C := RX2) (T := TX2) (N := 4) hx hb hts i_X2 hown hK hP 0 rfl rfl 0 (by decide) k9 (fun _ h9 => h9) rfl dX2_inRegister_11 ?_
      refine lv_iload_n hx hb dX2_inRegister_14 rfl (lv_at hl 1 rfl) ?_
      obtain ⟨h_15, hf⟩ := rdc_some hf
      refine va_iald hx hb hK hP 1 0 rfl rfl h_15 dX2_inRegister_15 ?_
      refine lv_goto (tgt := 20) hx hb dX2_inRegister_16 (by decide) ?_
      obtain rfl := Option.some.inj hf
      exact ret _ _ _ _ dX2_inRegister_20 rfl hP hD hS

abbrev rmX2_write : Room := { frames := 0, cells := 0, slots := 0, locals := 0 }
set_option maxHeartbeats 4000000 in
set_option maxRecDepth 100000 in
theorem c_X2_write (l : Launch) (D : va_G) (cyI cyZ : ClassId) (a0 a1 a2 a3 : Nat) (w_registers : Nat → Int32) (w_slots : Nat → Int32) (w_outputs : Nat → Int32) (w_outputCount : Int32) (p1 : Int32) (o : (Nat → Int32) × Int32) (hf : f_X2_write p1 w_outputs w_outputCount = some o) : kMv l yX2_write wsX2_write rmX2_write [.ref a0, .int p1] D (PX2 a0 a1 a2 a3 cyI cyZ w_registers w_slots w_outputs w_outputCount) (PX2 a0 a1 a2 a3 cyI cyZ w_registers w_slots o.1 o.2) (kT cyI cyZ) 0 0 := by
  refine kOf_v (cc := cX2_write) (maxL := 2) (by decide +kernel) rfl (Nat.le_of_ble_eq_true rfl) ?_
  intro p e s m args below meth c A Z ls C0 hP hK hD hA hl ret
  obtain ⟨hx, hb, hr, hml, hown, hts, hlocks⟩ := C0
  have hown : s.vm.findClass RX2 = some m.cls := hown
  have hl : lv_has ls 2 [(0, .ref a0), (1, .int p1)] := hl
  have hS : va_S A s.heap s.heap [] := va_S.rf
  have i_X2 : ∀ w ∈ wsX20, w ∈ wsX2_write := by decide +kernel
  have k18 := hts (.fieldLink RX2 18 "RegisterAllocator$Machine" "outputs" "[I") (by decide +kernel)
  have k21 := hts (.fieldLink RX2 21 "RegisterAllocator$Machine" "outputCount" "I") (by decide +kernel)
  rw [f_X2_write] at hf
  refine lv_aload_n hx hb dX2_write_0 rfl (lv_at hl 0 rfl) ?_
  refine va_get (D := D) (ci := 2) (v := .int w_outputCount) (C := RX2) (T := TX2) (N := 4) hx hb hts i_X2 hown hK hP 0 rfl rfl 3 (by decide) k21 (fun _ h9 => h9) rfl dX2_write_1 ?_
  refine lv_if_lt (tgt := 36) hx hb dX2_write_4 (by decide) (fun c_4 => ?_) (fun c_4 => ?_)
  · have hf := kit c_4 hf
    obtain rfl := Option.some.inj hf
    exact ret _ _ _ _ dX2_write_36 hP hD hS
  · have hf := kif c_4 hf
    refine lv_aload_n hx hb dX2_write_7 rfl (lv_at hl 0 rfl) ?_
    refine va_get (D := D) (ci := 2) (v := .int w_outputCount) (C := RX2) (T := TX2) (N := 4) hx hb hts i_X2 hown hK hP 0 rfl rfl 3 (by decide) k21 (fun _ h9 => h9) rfl dX2_write_8 ?_
    refine lv_bipush (v := 60) hx hb dX2_write_11 (by decide) ?_
    refine lv_icmp_ge (tgt := 36) hx hb dX2_write_13 (by decide) (fun c_13 => ?_) (fun c_13 => ?_)
    · have hf := kit c_13 hf
      obtain rfl := Option.some.inj hf
      exact ret _ _ _ _ dX2_write_36 hP hD hS
    · have hf := kif c_13 hf
      refine lv_aload_n hx hb dX2_write_16 rfl (lv_at hl 0 rfl) ?_
      refine va_get (D := D) (ci := 2) (v := .ref a3) (C := RX2) (T := TX2) (N := 4) hx hb hts i_X2 hown hK hP 0 rfl rfl 2 (by decide) k18 (fun _ h9 => h9) rfl dX2_write_17 ?_
      refine lv_aload_n hx hb dX2_write_20 rfl (lv_at hl 0 rfl) ?_
      refine va_get (D := D) (ci := 2) (v := .int w_outputCount) (C := RX2) (T := TX2) (N := 4) hx hb hts i_X2 hown hK hP 0 rfl rfl 3 (by decide) k21 (fun _ h9 => h9) rfl dX2_write_21 ?_
      refine lv_iload_n hx hb dX2_write_24 rfl (lv_at hl 1 rfl) ?_
      obtain ⟨h_25, hf⟩ := rdc_some hf
      refine va_iast hx hb hK hP hD hS 3 0 rfl rfl h_25 dX2_write_25 (fun H locs hP hD hS => ?_)
      have hP : va_P D vwCl (PX2 a0 a1 a2 a3 cyI cyZ w_registers w_slots (upd w_outputs w_outputCount.toNatClampNeg p1) w_outputCount) H := hP
      have hD : va_D A (PX2 a0 a1 a2 a3 cyI cyZ w_registers w_slots (upd w_outputs w_outputCount.toNatClampNeg p1) w_outputCount) := hD
      refine lv_aload_n hx hb dX2_write_26 rfl (lv_at hl 0 rfl) ?_
      refine lv_dup hx hb dX2_write_27 rfl ?_
      refine va_get (D := D) (ci := 2) (v := .int w_outputCount) (C := RX2) (T := TX2) (N := 4) hx hb hts i_X2 hown hK hP 0 rfl rfl 3 (by decide) k21 (fun _ h9 => h9) rfl dX2_write_28 ?_
      refine lv_iconst (v := 1) hx hb dX2_write_31 (by decide) ?_
      refine lv_iadd hx hb dX2_write_32 ?_
      refine va_put (D := D) (ci := 2) (v := .int (w_outputCount + 1)) (ty := .int) (C := RX2) (T := TX2) (N := 4) hx hb hts i_X2 tyX2 tyX2_ok nmX2 hown hK hP hD hS 0 rfl rfl 3 (by decide) k21 (fun _ h9 => h9) rfl (by decide +kernel) rfl (by first | rfl | decide) (Nat.le_of_ble_eq_true rfl) dX2_write_33 (fun H locs hP hD hS => ?_)
      have hP : va_P D vwCl (PX2 a0 a1 a2 a3 cyI cyZ w_registers w_slots (upd w_outputs w_outputCount.toNatClampNeg p1) (w_outputCount + 1)) H := hP
      have hD : va_D A (PX2 a0 a1 a2 a3 cyI cyZ w_registers w_slots (upd w_outputs w_outputCount.toNatClampNeg p1) (w_outputCount + 1)) := hD
      obtain rfl := Option.some.inj hf
      exact ret _ _ _ _ dX2_write_36 hP hD hS

abbrev rmX2_inSlot : Room := { frames := 0, cells := 0, slots := 0, locals := 0 }
set_option maxHeartbeats 4000000 in
set_option maxRecDepth 100000 in
theorem c_X2_inSlot (l : Launch) (D : va_G) (cyI cyZ : ClassId) (a0 a1 a2 a3 : Nat) (w_registers : Nat → Int32) (w_slots : Nat → Int32) (w_outputs : Nat → Int32) (w_outputCount : Int32) (p1 : Int32) (o : Int32) (hf : f_X2_inSlot p1 w_slots = some o) : kMi l yX2_inSlot wsX2_inSlot rmX2_inSlot [.ref a0, .int p1] D (PX2 a0 a1 a2 a3 cyI cyZ w_registers w_slots w_outputs w_outputCount) (PX2 a0 a1 a2 a3 cyI cyZ w_registers w_slots w_outputs w_outputCount) (kT cyI cyZ) o 0 0 := by
  refine kOf_i (cc := cX2_inSlot) (maxL := 2) (ty := .int) (by decide +kernel) rfl (Nat.le_of_ble_eq_true rfl) ?_
  intro p e s m args below meth c A Z ls C0 hP hK hD hA hl ret
  obtain ⟨hx, hb, hr, hml, hown, hts, hlocks⟩ := C0
  have hown : s.vm.findClass RX2 = some m.cls := hown
  have hl : lv_has ls 2 [(0, .ref a0), (1, .int p1)] := hl
  have hS : va_S A s.heap s.heap [] := va_S.rf
  have i_X2 : ∀ w ∈ wsX20, w ∈ wsX2_inSlot := by decide +kernel
  have k15 := hts (.fieldLink RX2 15 "RegisterAllocator$Machine" "slots" "[I") (by decide +kernel)
  rw [f_X2_inSlot] at hf
  refine lv_iload_n hx hb dX2_inSlot_0 rfl (lv_at hl 1 rfl) ?_
  refine lv_if_lt (tgt := 19) hx hb dX2_inSlot_1 (by decide) (fun c_1 => ?_) (fun c_1 => ?_)
  · have hf := kit c_1 hf
    refine lv_iconst (v := 0) hx hb dX2_inSlot_19 (by decide) ?_
    obtain rfl := Option.some.inj hf
    exact ret _ _ _ _ dX2_inSlot_20 rfl hP hD hS
  · have hf := kif c_1 hf
    refine lv_iload_n hx hb dX2_inSlot_4 rfl (lv_at hl 1 rfl) ?_
    refine lv_bipush (v := 60) hx hb dX2_inSlot_5 (by decide) ?_
    refine lv_icmp_ge (tgt := 19) hx hb dX2_inSlot_7 (by decide) (fun c_7 => ?_) (fun c_7 => ?_)
    · have hf := kit c_7 hf
      refine lv_iconst (v := 0) hx hb dX2_inSlot_19 (by decide) ?_
      obtain rfl := Option.some.inj hf
      exact ret _ _ _ _ dX2_inSlot_20 rfl hP hD hS
    · have hf := kif c_7 hf
      refine lv_aload_n hx hb dX2_inSlot_10 rfl (lv_at hl 0 rfl) ?_
      refine va_get (D := D) (ci := 2) (v := .ref a2) (C := RX2) (T := TX2) (N := 4) hx hb hts i_X2 hown hK hP 0 rfl rfl 1 (by decide) k15 (fun _ h9 => h9) rfl dX2_inSlot_11 ?_
      refine lv_iload_n hx hb dX2_inSlot_14 rfl (lv_at hl 1 rfl) ?_
      obtain ⟨h_15, hf⟩ := rdc_some hf
      refine va_iald hx hb hK hP 2 0 rfl rfl h_15 dX2_inSlot_15 ?_
      refine lv_goto (tgt := 20) hx hb dX2_inSlot_16 (by decide) ?_
      obtain rfl := Option.some.inj hf
      exact ret _ _ _ _ dX2_inSlot_20 rfl hP hD hS

abbrev rmX2_setSlot : Room := { frames := 0, cells := 0, slots := 0, locals := 0 }
set_option maxHeartbeats 4000000 in
set_option maxRecDepth 100000 in
theorem c_X2_setSlot (l : Launch) (D : va_G) (cyI cyZ : ClassId) (a0 a1 a2 a3 : Nat) (w_registers : Nat → Int32) (w_slots : Nat → Int32) (w_outputs : Nat → Int32) (w_outputCount : Int32) (p1 : Int32) (p2 : Int32) (o : (Nat → Int32)) (hf : f_X2_setSlot p1 p2 w_slots = some o) : kMv l yX2_setSlot wsX2_setSlot rmX2_setSlot [.ref a0, .int p1, .int p2] D (PX2 a0 a1 a2 a3 cyI cyZ w_registers w_slots w_outputs w_outputCount) (PX2 a0 a1 a2 a3 cyI cyZ w_registers o w_outputs w_outputCount) (kT cyI cyZ) 0 0 := by
  refine kOf_v (cc := cX2_setSlot) (maxL := 3) (by decide +kernel) rfl (Nat.le_of_ble_eq_true rfl) ?_
  intro p e s m args below meth c A Z ls C0 hP hK hD hA hl ret
  obtain ⟨hx, hb, hr, hml, hown, hts, hlocks⟩ := C0
  have hown : s.vm.findClass RX2 = some m.cls := hown
  have hl : lv_has ls 3 [(0, .ref a0), (1, .int p1), (2, .int p2)] := hl
  have hS : va_S A s.heap s.heap [] := va_S.rf
  have i_X2 : ∀ w ∈ wsX20, w ∈ wsX2_setSlot := by decide +kernel
  have k15 := hts (.fieldLink RX2 15 "RegisterAllocator$Machine" "slots" "[I") (by decide +kernel)
  rw [f_X2_setSlot] at hf
  refine lv_iload_n hx hb dX2_setSlot_0 rfl (lv_at hl 1 rfl) ?_
  refine lv_if_lt (tgt := 17) hx hb dX2_setSlot_1 (by decide) (fun c_1 => ?_) (fun c_1 => ?_)
  · have hf := kit c_1 hf
    obtain rfl := Option.some.inj hf
    exact ret _ _ _ _ dX2_setSlot_17 hP hD hS
  · have hf := kif c_1 hf
    refine lv_iload_n hx hb dX2_setSlot_4 rfl (lv_at hl 1 rfl) ?_
    refine lv_bipush (v := 60) hx hb dX2_setSlot_5 (by decide) ?_
    refine lv_icmp_ge (tgt := 17) hx hb dX2_setSlot_7 (by decide) (fun c_7 => ?_) (fun c_7 => ?_)
    · have hf := kit c_7 hf
      obtain rfl := Option.some.inj hf
      exact ret _ _ _ _ dX2_setSlot_17 hP hD hS
    · have hf := kif c_7 hf
      refine lv_aload_n hx hb dX2_setSlot_10 rfl (lv_at hl 0 rfl) ?_
      refine va_get (D := D) (ci := 2) (v := .ref a2) (C := RX2) (T := TX2) (N := 4) hx hb hts i_X2 hown hK hP 0 rfl rfl 1 (by decide) k15 (fun _ h9 => h9) rfl dX2_setSlot_11 ?_
      refine lv_iload_n hx hb dX2_setSlot_14 rfl (lv_at hl 1 rfl) ?_
      refine lv_iload_n hx hb dX2_setSlot_15 rfl (lv_at hl 2 rfl) ?_
      obtain ⟨h_16, hf⟩ := rdc_some hf
      refine va_iast hx hb hK hP hD hS 2 0 rfl rfl h_16 dX2_setSlot_16 (fun H locs hP hD hS => ?_)
      have hP : va_P D vwCl (PX2 a0 a1 a2 a3 cyI cyZ w_registers (upd w_slots p1.toNatClampNeg p2) w_outputs w_outputCount) H := hP
      have hD : va_D A (PX2 a0 a1 a2 a3 cyI cyZ w_registers (upd w_slots p1.toNatClampNeg p2) w_outputs w_outputCount) := hD
      obtain rfl := Option.some.inj hf
      exact ret _ _ _ _ dX2_setSlot_17 hP hD hS

abbrev rmX2_compute : Room := { frames := 0, cells := 0, slots := 0, locals := 0 }
set_option maxHeartbeats 4000000 in
set_option maxRecDepth 100000 in
theorem c_X2_compute (l : Launch) (D : va_G) (cyI cyZ : ClassId) (_z : Nat) (p1 : Int32) (p2 : Int32) (p3 : Int32) (o : Int32) (hf : f_X2_compute p1 p2 p3 = some o) : kMi l yX2_compute wsX2_compute rmX2_compute [.int p1, .int p2, .int p3] D [] [] (kT cyI cyZ) o 0 0 := by
  refine kOf_i (cc := cX2_compute) (maxL := 3) (ty := .int) (by decide +kernel) rfl (Nat.le_of_ble_eq_true rfl) ?_
  intro p e s m args below meth c A Z ls C0 hP hK hD hA hl ret
  obtain ⟨hx, hb, hr, hml, hown, hts, hlocks⟩ := C0
  have hown : s.vm.findClass RX2 = some m.cls := hown
  have hl : lv_has ls 3 [(0, .int p1), (1, .int p2), (2, .int p3)] := hl
  have hS : va_S A s.heap s.heap [] := va_S.rf
  rw [f_X2_compute] at hf
  refine lv_iload_n hx hb dX2_compute_0 rfl (lv_at hl 0 rfl) ?_
  by_cases c_1_0 : p1 = 1
  · have hf := kit c_1_0 hf
    refine lv_tableIn (off := 27) (tgt := 28) hx hb dX2_compute_1 (by rw [c_1_0]; decide) (by rw [c_1_0]; decide) (by rw [c_1_0]; rfl) (by decide) ?_
    refine lv_iload_n hx hb dX2_compute_28 rfl (lv_at hl 1 rfl) ?_
    refine lv_iload_n hx hb dX2_compute_29 rfl (lv_at hl 2 rfl) ?_
    refine lv_iadd hx hb dX2_compute_30 ?_
    obtain rfl := Option.some.inj hf
    exact ret _ _ _ _ dX2_compute_31 rfl hP hD hS
  have hf := kif c_1_0 hf
  by_cases c_1_1 : p1 = 2
  · have hf := kit c_1_1 hf
    refine lv_tableIn (off := 31) (tgt := 32) hx hb dX2_compute_1 (by rw [c_1_1]; decide) (by rw [c_1_1]; decide) (by rw [c_1_1]; rfl) (by decide) ?_
    refine lv_iload_n hx hb dX2_compute_32 rfl (lv_at hl 1 rfl) ?_
    refine lv_iload_n hx hb dX2_compute_33 rfl (lv_at hl 2 rfl) ?_
    refine lv_isub hx hb dX2_compute_34 ?_
    obtain rfl := Option.some.inj hf
    exact ret _ _ _ _ dX2_compute_35 rfl hP hD hS
  have hf := kif c_1_1 hf
  by_cases c_1_2 : p1 = 3
  · have hf := kit c_1_2 hf
    refine lv_tableIn (off := 35) (tgt := 36) hx hb dX2_compute_1 (by rw [c_1_2]; decide) (by rw [c_1_2]; decide) (by rw [c_1_2]; rfl) (by decide) ?_
    refine lv_iload_n hx hb dX2_compute_36 rfl (lv_at hl 1 rfl) ?_
    refine lv_iload_n hx hb dX2_compute_37 rfl (lv_at hl 2 rfl) ?_
    refine lv_imul hx hb dX2_compute_38 ?_
    obtain rfl := Option.some.inj hf
    exact ret _ _ _ _ dX2_compute_39 rfl hP hD hS
  have hf := kif c_1_2 hf
  have c_1_0_ := lv_neT (a := 1) c_1_0 (by decide)
  have c_1_1_ := lv_neT (a := 2) c_1_1 (by decide)
  have c_1_2_ := lv_neT (a := 3) c_1_2 (by decide)
  refine lv_tableOut (tgt := 40) hx hb dX2_compute_1 (by omega) (by decide) ?_
  refine lv_iload_n hx hb dX2_compute_40 rfl (lv_at hl 1 rfl) ?_
  refine lv_iload_n hx hb dX2_compute_41 rfl (lv_at hl 2 rfl) ?_
  refine lv_ixor hx hb dX2_compute_42 ?_
  obtain rfl := Option.some.inj hf
  exact ret _ _ _ _ dX2_compute_43 rfl hP hD hS

abbrev rmX2_perform : Room := { frames := 1, cells := 0, slots := 0, locals := 22 }
set_option maxHeartbeats 4000000 in
set_option maxRecDepth 100000 in
theorem c_X2_perform (l : Launch) (D : va_G) (cyI cyZ : ClassId) (a0 a1 a2 a3 : Nat) (w_registers : Nat → Int32) (w_slots : Nat → Int32) (w_outputs : Nat → Int32) (w_outputCount : Int32) (p1 : Int32) (p2 : Int32) (p3 : Int32) (p4 : Int32) (o : (Nat → Int32) × (Nat → Int32) × (Nat → Int32) × Int32) (hf : f_X2_perform p1 p2 p3 p4 w_registers w_slots w_outputs w_outputCount = some o) : kMv l yX2_perform wsX2_perform rmX2_perform [.ref a0, .int p1, .int p2, .int p3, .int p4] D (PX2 a0 a1 a2 a3 cyI cyZ w_registers w_slots w_outputs w_outputCount) (PX2 a0 a1 a2 a3 cyI cyZ o.1 o.2.1 o.2.2.1 o.2.2.2) (kT cyI cyZ) 0 0 := by
  refine kOf_v (cc := cX2_perform) (maxL := 5) (by decide +kernel) rfl (Nat.le_of_ble_eq_true rfl) ?_
  intro p e s m args below meth c A Z ls C0 hP hK hD hA hl ret
  obtain ⟨hx, hb, hr, hml, hown, hts, hlocks⟩ := C0
  have hown : s.vm.findClass RX2 = some m.cls := hown
  have hl : lv_has ls 5 [(0, .ref a0), (1, .int p1), (2, .int p2), (3, .int p3), (4, .int p4)] := hl
  have hS : va_S A s.heap s.heap [] := va_S.rf
  have J112 : ∀ (x1_J112 : Int32) (x2_J112 : Int32) (x3_J112 : Int32) (x4_J112 : Int32) (w_registers_J112 : Nat → Int32) (w_slots_J112 : Nat → Int32) (w_outputs_J112 : Nat → Int32) (w_outputCount_J112 : Int32) (_ : f_X2_perform_J112 x1_J112 x2_J112 x3_J112 x4_J112 w_registers_J112 w_slots_J112 w_outputs_J112 w_outputCount_J112 = some o) (H : Heap) (locs : List Loc) (ls : Array Slot), va_P D vwCl (PX2 a0 a1 a2 a3 cyI cyZ w_registers_J112 w_slots_J112 w_outputs_J112 w_outputCount_J112) H → va_D A (PX2 a0 a1 a2 a3 cyI cyZ w_registers_J112 w_slots_J112 w_outputs_J112 w_outputCount_J112) → va_S A s.heap H locs → lv_has ls 5 [(0, .ref a0), (1, .int x1_J112), (2, .int x2_J112), (3, .int x3_J112), (4, .int x4_J112)] → W p l e rmX2_perform s m args below meth c H locs 0 0 Z (F0 m 112 ls []) := by
    intro x1_J112 x2_J112 x3_J112 x4_J112 w_registers_J112 w_slots_J112 w_outputs_J112 w_outputCount_J112 hf H locs ls hP hD hS hl
    rw [f_X2_perform_J112] at hf
    refine lv_aload_n hx hb dX2_perform_112 rfl (lv_at hl 0 rfl) ?_
    refine lv_iload_n hx hb dX2_perform_113 rfl (lv_at hl 2 rfl) ?_
    refine lv_iload_n hx hb dX2_perform_114 rfl (lv_at hl 1 rfl) ?_
    refine lv_aload_n hx hb dX2_perform_115 rfl (lv_at hl 0 rfl) ?_
    refine lv_iload_n hx hb dX2_perform_116 rfl (lv_at hl 3 rfl) ?_
    obtain ⟨u117, hf117, hf⟩ := kbd hf
    refine kc_Vi (As := [.int x3_J112]) (rest := [.int x1_J112, .int x2_J112, .ref a0]) (wf := (PX2 a0 a1 a2 a3 cyI cyZ w_registers_J112 w_slots_J112 w_outputs_J112 w_outputCount_J112)) (c_X2_inRegister l D cyI cyZ a0 a1 a2 a3 w_registers_J112 w_slots_J112 w_outputs_J112 w_outputCount_J112 x3_J112 u117 hf117) ⟨hx, hb, hml, hown, hts⟩ (cwV 1 hts gX2_perform_X2_inRegister rfl rfl rfl (by decide +kernel) ⟨Nat.le_of_ble_eq_true rfl, Nat.le_of_ble_eq_true rfl⟩) hK hP hD hS hA [0, 1, 2, 3] [] 4 rfl rfl kR0 rfl (by decide +kernel) rfl rfl rfl rfl hl.1 rfl (Nat.le_of_ble_eq_true rfl) dX2_perform_117 ⟨Nat.le_of_ble_eq_true rfl, Nat.le_of_ble_eq_true rfl⟩ (fun H locs hP hD hS => ?_)
    refine lv_aload_n hx hb dX2_perform_120 rfl (lv_at hl 0 rfl) ?_
    refine lv_iload hx hb dX2_perform_121 (lv_at hl 4 rfl) ?_
    obtain ⟨u123, hf123, hf⟩ := kbd hf
    refine kc_Vi (As := [.int x4_J112]) (rest := [.int u117, .int x1_J112, .int x2_J112, .ref a0]) (wf := (PX2 a0 a1 a2 a3 cyI cyZ w_registers_J112 w_slots_J112 w_outputs_J112 w_outputCount_J112)) (c_X2_inRegister l D cyI cyZ a0 a1 a2 a3 w_registers_J112 w_slots_J112 w_outputs_J112 w_outputCount_J112 x4_J112 u123 hf123) ⟨hx, hb, hml, hown, hts⟩ (cwV 1 hts gX2_perform_X2_inRegister rfl rfl rfl (by decide +kernel) ⟨Nat.le_of_ble_eq_true rfl, Nat.le_of_ble_eq_true rfl⟩) hK hP hD hS hA [0, 1, 2, 3] [] 4 rfl rfl kR0 rfl (by decide +kernel) rfl rfl rfl rfl hl.1 rfl (Nat.le_of_ble_eq_true rfl) dX2_perform_123 ⟨Nat.le_of_ble_eq_true rfl, Nat.le_of_ble_eq_true rfl⟩ (fun H locs hP hD hS => ?_)
    obtain ⟨u126, hf126, hf⟩ := kbd hf
    refine kc_Si (As := [.int x1_J112, .int u117, .int u123]) (rest := [.int x2_J112, .ref a0]) (wf := (PX2 a0 a1 a2 a3 cyI cyZ w_registers_J112 w_slots_J112 w_outputs_J112 w_outputCount_J112)) (c_X2_compute l D cyI cyZ 0 x1_J112 u117 u123 u126 hf126) ⟨hx, hb, hml, hown, hts⟩ (cwS 3 hts gX2_perform_X2_compute rfl rfl rfl (by decide +kernel) ⟨Nat.le_of_ble_eq_true rfl, Nat.le_of_ble_eq_true rfl⟩) hK hP hD hS hA [] [0, 1, 2, 3] 4 rfl rfl (kR1 _ rfl rfl (kR1 _ rfl rfl (kR1 _ rfl rfl (kR1 _ rfl rfl kR0)))) rfl (by decide +kernel) rfl hl.1 rfl (Nat.le_of_ble_eq_true rfl) dX2_perform_126 ⟨Nat.le_of_ble_eq_true rfl, Nat.le_of_ble_eq_true rfl⟩ (fun H locs hP hD hS => ?_)
    obtain ⟨u129, hf129, hf⟩ := kbd hf
    refine kc_Vv (As := [.int x2_J112, .int u126]) (rest := []) (wf := (PX2 a0 a1 a2 a3 cyI cyZ u129 w_slots_J112 w_outputs_J112 w_outputCount_J112)) (c_X2_setRegister l D cyI cyZ a0 a1 a2 a3 w_registers_J112 w_slots_J112 w_outputs_J112 w_outputCount_J112 x2_J112 u126 u129 hf129) ⟨hx, hb, hml, hown, hts⟩ (cwV 2 hts gX2_perform_X2_setRegister rfl rfl rfl (by decide +kernel) ⟨Nat.le_of_ble_eq_true rfl, Nat.le_of_ble_eq_true rfl⟩) hK hP hD hS hA [0, 1, 2, 3] [] 4 rfl rfl kR0 rfl (by decide +kernel) rfl rfl rfl rfl hl.1 rfl (Nat.le_of_ble_eq_true rfl) dX2_perform_129 ⟨Nat.le_of_ble_eq_true rfl, Nat.le_of_ble_eq_true rfl⟩ (fun H locs hP hD hS => ?_)
    obtain rfl := Option.some.inj hf
    exact ret _ _ _ _ dX2_perform_132 hP hD hS
  rw [f_X2_perform] at hf
  refine lv_iload_n hx hb dX2_perform_0 rfl (lv_at hl 1 rfl) ?_
  by_cases c_1_0 : p1 = 0
  · have hf := kit c_1_0 hf
    refine lv_tableIn (off := 51) (tgt := 52) hx hb dX2_perform_1 (by rw [c_1_0]; decide) (by rw [c_1_0]; decide) (by rw [c_1_0]; rfl) (by decide) ?_
    refine lv_aload_n hx hb dX2_perform_52 rfl (lv_at hl 0 rfl) ?_
    refine lv_iload_n hx hb dX2_perform_53 rfl (lv_at hl 2 rfl) ?_
    refine lv_iload_n hx hb dX2_perform_54 rfl (lv_at hl 3 rfl) ?_
    obtain ⟨u55, hf55, hf⟩ := kbd hf
    refine kc_Vv (As := [.int p2, .int p3]) (rest := []) (wf := (PX2 a0 a1 a2 a3 cyI cyZ u55 w_slots w_outputs w_outputCount)) (c_X2_setRegister l D cyI cyZ a0 a1 a2 a3 w_registers w_slots w_outputs w_outputCount p2 p3 u55 hf55) ⟨hx, hb, hml, hown, hts⟩ (cwV 2 hts gX2_perform_X2_setRegister rfl rfl rfl (by decide +kernel) ⟨Nat.le_of_ble_eq_true rfl, Nat.le_of_ble_eq_true rfl⟩) hK hP hD hS hA [0, 1, 2, 3] [] 4 rfl rfl kR0 rfl (by decide +kernel) rfl rfl rfl rfl hl.1 rfl (Nat.le_of_ble_eq_true rfl) dX2_perform_55 ⟨Nat.le_of_ble_eq_true rfl, Nat.le_of_ble_eq_true rfl⟩ (fun H locs hP hD hS => ?_)
    refine lv_goto (tgt := 132) hx hb dX2_perform_58 (by decide) ?_
    obtain rfl := Option.some.inj hf
    exact ret _ _ _ _ dX2_perform_132 hP hD hS
  have hf := kif c_1_0 hf
  by_cases c_1_5 : p1 = 5
  · have hf := kit c_1_5 hf
    refine lv_tableIn (off := 60) (tgt := 61) hx hb dX2_perform_1 (by rw [c_1_5]; decide) (by rw [c_1_5]; decide) (by rw [c_1_5]; rfl) (by decide) ?_
    refine lv_aload_n hx hb dX2_perform_61 rfl (lv_at hl 0 rfl) ?_
    refine lv_iload_n hx hb dX2_perform_62 rfl (lv_at hl 2 rfl) ?_
    refine lv_aload_n hx hb dX2_perform_63 rfl (lv_at hl 0 rfl) ?_
    refine lv_iload_n hx hb dX2_perform_64 rfl (lv_at hl 3 rfl) ?_
    obtain ⟨u65, hf65, hf⟩ := kbd hf
    refine kc_Vi (As := [.int p3]) (rest := [.int p2, .ref a0]) (wf := (PX2 a0 a1 a2 a3 cyI cyZ w_registers w_slots w_outputs w_outputCount)) (c_X2_inRegister l D cyI cyZ a0 a1 a2 a3 w_registers w_slots w_outputs w_outputCount p3 u65 hf65) ⟨hx, hb, hml, hown, hts⟩ (cwV 1 hts gX2_perform_X2_inRegister rfl rfl rfl (by decide +kernel) ⟨Nat.le_of_ble_eq_true rfl, Nat.le_of_ble_eq_true rfl⟩) hK hP hD hS hA [0, 1, 2, 3] [] 4 rfl rfl kR0 rfl (by decide +kernel) rfl rfl rfl rfl hl.1 rfl (Nat.le_of_ble_eq_true rfl) dX2_perform_65 ⟨Nat.le_of_ble_eq_true rfl, Nat.le_of_ble_eq_true rfl⟩ (fun H locs hP hD hS => ?_)
    obtain ⟨u68, hf68, hf⟩ := kbd hf
    refine kc_Vv (As := [.int p2, .int u65]) (rest := []) (wf := (PX2 a0 a1 a2 a3 cyI cyZ u68 w_slots w_outputs w_outputCount)) (c_X2_setRegister l D cyI cyZ a0 a1 a2 a3 w_registers w_slots w_outputs w_outputCount p2 u65 u68 hf68) ⟨hx, hb, hml, hown, hts⟩ (cwV 2 hts gX2_perform_X2_setRegister rfl rfl rfl (by decide +kernel) ⟨Nat.le_of_ble_eq_true rfl, Nat.le_of_ble_eq_true rfl⟩) hK hP hD hS hA [0, 1, 2, 3] [] 4 rfl rfl kR0 rfl (by decide +kernel) rfl rfl rfl rfl hl.1 rfl (Nat.le_of_ble_eq_true rfl) dX2_perform_68 ⟨Nat.le_of_ble_eq_true rfl, Nat.le_of_ble_eq_true rfl⟩ (fun H locs hP hD hS => ?_)
    refine lv_goto (tgt := 132) hx hb dX2_perform_71 (by decide) ?_
    obtain rfl := Option.some.inj hf
    exact ret _ _ _ _ dX2_perform_132 hP hD hS
  have hf := kif c_1_5 hf
  by_cases c_1_6 : p1 = 6
  · have hf := kit c_1_6 hf
    refine lv_tableIn (off := 73) (tgt := 74) hx hb dX2_perform_1 (by rw [c_1_6]; decide) (by rw [c_1_6]; decide) (by rw [c_1_6]; rfl) (by decide) ?_
    refine lv_aload_n hx hb dX2_perform_74 rfl (lv_at hl 0 rfl) ?_
    refine lv_aload_n hx hb dX2_perform_75 rfl (lv_at hl 0 rfl) ?_
    refine lv_iload_n hx hb dX2_perform_76 rfl (lv_at hl 2 rfl) ?_
    obtain ⟨u77, hf77, hf⟩ := kbd hf
    refine kc_Vi (As := [.int p2]) (rest := [.ref a0]) (wf := (PX2 a0 a1 a2 a3 cyI cyZ w_registers w_slots w_outputs w_outputCount)) (c_X2_inRegister l D cyI cyZ a0 a1 a2 a3 w_registers w_slots w_outputs w_outputCount p2 u77 hf77) ⟨hx, hb, hml, hown, hts⟩ (cwV 1 hts gX2_perform_X2_inRegister rfl rfl rfl (by decide +kernel) ⟨Nat.le_of_ble_eq_true rfl, Nat.le_of_ble_eq_true rfl⟩) hK hP hD hS hA [0, 1, 2, 3] [] 4 rfl rfl kR0 rfl (by decide +kernel) rfl rfl rfl rfl hl.1 rfl (Nat.le_of_ble_eq_true rfl) dX2_perform_77 ⟨Nat.le_of_ble_eq_true rfl, Nat.le_of_ble_eq_true rfl⟩ (fun H locs hP hD hS => ?_)
    obtain ⟨⟨u80_0, u80_1⟩, hf80, hf⟩ := kbd hf
    try dsimp only at hf
    refine kc_Vv (As := [.int u77]) (rest := []) (wf := (PX2 a0 a1 a2 a3 cyI cyZ w_registers w_slots u80_0 u80_1)) (c_X2_write l D cyI cyZ a0 a1 a2 a3 w_registers w_slots w_outputs w_outputCount u77 (u80_0, u80_1) hf80) ⟨hx, hb, hml, hown, hts⟩ (cwV 1 hts gX2_perform_X2_write rfl rfl rfl (by decide +kernel) ⟨Nat.le_of_ble_eq_true rfl, Nat.le_of_ble_eq_true rfl⟩) hK hP hD hS hA [0, 1, 2, 3] [] 4 rfl rfl kR0 rfl (by decide +kernel) rfl rfl rfl rfl hl.1 rfl (Nat.le_of_ble_eq_true rfl) dX2_perform_80 ⟨Nat.le_of_ble_eq_true rfl, Nat.le_of_ble_eq_true rfl⟩ (fun H locs hP hD hS => ?_)
    refine lv_goto (tgt := 132) hx hb dX2_perform_83 (by decide) ?_
    obtain rfl := Option.some.inj hf
    exact ret _ _ _ _ dX2_perform_132 hP hD hS
  have hf := kif c_1_6 hf
  by_cases c_1_7 : p1 = 7
  · have hf := kit c_1_7 hf
    refine lv_tableIn (off := 85) (tgt := 86) hx hb dX2_perform_1 (by rw [c_1_7]; decide) (by rw [c_1_7]; decide) (by rw [c_1_7]; rfl) (by decide) ?_
    refine lv_aload_n hx hb dX2_perform_86 rfl (lv_at hl 0 rfl) ?_
    refine lv_iload_n hx hb dX2_perform_87 rfl (lv_at hl 2 rfl) ?_
    refine lv_aload_n hx hb dX2_perform_88 rfl (lv_at hl 0 rfl) ?_
    refine lv_iload_n hx hb dX2_perform_89 rfl (lv_at hl 3 rfl) ?_
    obtain ⟨u90, hf90, hf⟩ := kbd hf
    refine kc_Vi (As := [.int p3]) (rest := [.int p2, .ref a0]) (wf := (PX2 a0 a1 a2 a3 cyI cyZ w_registers w_slots w_outputs w_outputCount)) (c_X2_inSlot l D cyI cyZ a0 a1 a2 a3 w_registers w_slots w_outputs w_outputCount p3 u90 hf90) ⟨hx, hb, hml, hown, hts⟩ (cwV 1 hts gX2_perform_X2_inSlot rfl rfl rfl (by decide +kernel) ⟨Nat.le_of_ble_eq_true rfl, Nat.le_of_ble_eq_true rfl⟩) hK hP hD hS hA [0, 1, 2, 3] [] 4 rfl rfl kR0 rfl (by decide +kernel) rfl rfl rfl rfl hl.1 rfl (Nat.le_of_ble_eq_true rfl) dX2_perform_90 ⟨Nat.le_of_ble_eq_true rfl, Nat.le_of_ble_eq_true rfl⟩ (fun H locs hP hD hS => ?_)
    obtain ⟨u93, hf93, hf⟩ := kbd hf
    refine kc_Vv (As := [.int p2, .int u90]) (rest := []) (wf := (PX2 a0 a1 a2 a3 cyI cyZ u93 w_slots w_outputs w_outputCount)) (c_X2_setRegister l D cyI cyZ a0 a1 a2 a3 w_registers w_slots w_outputs w_outputCount p2 u90 u93 hf93) ⟨hx, hb, hml, hown, hts⟩ (cwV 2 hts gX2_perform_X2_setRegister rfl rfl rfl (by decide +kernel) ⟨Nat.le_of_ble_eq_true rfl, Nat.le_of_ble_eq_true rfl⟩) hK hP hD hS hA [0, 1, 2, 3] [] 4 rfl rfl kR0 rfl (by decide +kernel) rfl rfl rfl rfl hl.1 rfl (Nat.le_of_ble_eq_true rfl) dX2_perform_93 ⟨Nat.le_of_ble_eq_true rfl, Nat.le_of_ble_eq_true rfl⟩ (fun H locs hP hD hS => ?_)
    refine lv_goto (tgt := 132) hx hb dX2_perform_96 (by decide) ?_
    obtain rfl := Option.some.inj hf
    exact ret _ _ _ _ dX2_perform_132 hP hD hS
  have hf := kif c_1_7 hf
  by_cases c_1_8 : p1 = 8
  · have hf := kit c_1_8 hf
    refine lv_tableIn (off := 98) (tgt := 99) hx hb dX2_perform_1 (by rw [c_1_8]; decide) (by rw [c_1_8]; decide) (by rw [c_1_8]; rfl) (by decide) ?_
    refine lv_aload_n hx hb dX2_perform_99 rfl (lv_at hl 0 rfl) ?_
    refine lv_iload_n hx hb dX2_perform_100 rfl (lv_at hl 3 rfl) ?_
    refine lv_aload_n hx hb dX2_perform_101 rfl (lv_at hl 0 rfl) ?_
    refine lv_iload_n hx hb dX2_perform_102 rfl (lv_at hl 2 rfl) ?_
    obtain ⟨u103, hf103, hf⟩ := kbd hf
    refine kc_Vi (As := [.int p2]) (rest := [.int p3, .ref a0]) (wf := (PX2 a0 a1 a2 a3 cyI cyZ w_registers w_slots w_outputs w_outputCount)) (c_X2_inRegister l D cyI cyZ a0 a1 a2 a3 w_registers w_slots w_outputs w_outputCount p2 u103 hf103) ⟨hx, hb, hml, hown, hts⟩ (cwV 1 hts gX2_perform_X2_inRegister rfl rfl rfl (by decide +kernel) ⟨Nat.le_of_ble_eq_true rfl, Nat.le_of_ble_eq_true rfl⟩) hK hP hD hS hA [0, 1, 2, 3] [] 4 rfl rfl kR0 rfl (by decide +kernel) rfl rfl rfl rfl hl.1 rfl (Nat.le_of_ble_eq_true rfl) dX2_perform_103 ⟨Nat.le_of_ble_eq_true rfl, Nat.le_of_ble_eq_true rfl⟩ (fun H locs hP hD hS => ?_)
    obtain ⟨u106, hf106, hf⟩ := kbd hf
    refine kc_Vv (As := [.int p3, .int u103]) (rest := []) (wf := (PX2 a0 a1 a2 a3 cyI cyZ w_registers u106 w_outputs w_outputCount)) (c_X2_setSlot l D cyI cyZ a0 a1 a2 a3 w_registers w_slots w_outputs w_outputCount p3 u103 u106 hf106) ⟨hx, hb, hml, hown, hts⟩ (cwV 2 hts gX2_perform_X2_setSlot rfl rfl rfl (by decide +kernel) ⟨Nat.le_of_ble_eq_true rfl, Nat.le_of_ble_eq_true rfl⟩) hK hP hD hS hA [0, 1, 2, 3] [] 4 rfl rfl kR0 rfl (by decide +kernel) rfl rfl rfl rfl hl.1 rfl (Nat.le_of_ble_eq_true rfl) dX2_perform_106 ⟨Nat.le_of_ble_eq_true rfl, Nat.le_of_ble_eq_true rfl⟩ (fun H locs hP hD hS => ?_)
    refine lv_goto (tgt := 132) hx hb dX2_perform_109 (by decide) ?_
    obtain rfl := Option.some.inj hf
    exact ret _ _ _ _ dX2_perform_132 hP hD hS
  have hf := kif c_1_8 hf
  by_cases c_1_1 : p1 = 1
  · refine lv_tableIn (off := 111) (tgt := 112) hx hb dX2_perform_1 (by rw [c_1_1]; decide) (by rw [c_1_1]; decide) (by rw [c_1_1]; rfl) (by decide) ?_
    exact J112 p1 p2 p3 p4 w_registers w_slots w_outputs w_outputCount hf _ _ _ hP hD hS (lv_sub hl [0, 1, 2, 3, 4] rfl)
  by_cases c_1_2 : p1 = 2
  · refine lv_tableIn (off := 111) (tgt := 112) hx hb dX2_perform_1 (by rw [c_1_2]; decide) (by rw [c_1_2]; decide) (by rw [c_1_2]; rfl) (by decide) ?_
    exact J112 p1 p2 p3 p4 w_registers w_slots w_outputs w_outputCount hf _ _ _ hP hD hS (lv_sub hl [0, 1, 2, 3, 4] rfl)
  by_cases c_1_3 : p1 = 3
  · refine lv_tableIn (off := 111) (tgt := 112) hx hb dX2_perform_1 (by rw [c_1_3]; decide) (by rw [c_1_3]; decide) (by rw [c_1_3]; rfl) (by decide) ?_
    exact J112 p1 p2 p3 p4 w_registers w_slots w_outputs w_outputCount hf _ _ _ hP hD hS (lv_sub hl [0, 1, 2, 3, 4] rfl)
  by_cases c_1_4 : p1 = 4
  · refine lv_tableIn (off := 111) (tgt := 112) hx hb dX2_perform_1 (by rw [c_1_4]; decide) (by rw [c_1_4]; decide) (by rw [c_1_4]; rfl) (by decide) ?_
    exact J112 p1 p2 p3 p4 w_registers w_slots w_outputs w_outputCount hf _ _ _ hP hD hS (lv_sub hl [0, 1, 2, 3, 4] rfl)
  have c_1_0_ := lv_neT (a := 0) c_1_0 (by decide)
  have c_1_5_ := lv_neT (a := 5) c_1_5 (by decide)
  have c_1_6_ := lv_neT (a := 6) c_1_6 (by decide)
  have c_1_7_ := lv_neT (a := 7) c_1_7 (by decide)
  have c_1_8_ := lv_neT (a := 8) c_1_8 (by decide)
  have c_1_1_ := lv_neT (a := 1) c_1_1 (by decide)
  have c_1_2_ := lv_neT (a := 2) c_1_2 (by decide)
  have c_1_3_ := lv_neT (a := 3) c_1_3 (by decide)
  have c_1_4_ := lv_neT (a := 4) c_1_4 (by decide)
  refine lv_tableOut (tgt := 112) hx hb dX2_perform_1 (by omega) (by decide) ?_
  exact J112 p1 p2 p3 p4 w_registers w_slots w_outputs w_outputCount hf _ _ _ hP hD hS (lv_sub hl [0, 1, 2, 3, 4] rfl)

abbrev rmX2_execute : Room := { frames := 2, cells := 0, slots := 0, locals := 46 }
set_option maxHeartbeats 4000000 in
set_option maxRecDepth 100000 in
theorem c_X2_execute (l : Launch) (D : va_G) (cyI cyZ : ClassId) (a0 a1 a2 a3 a4 a5 : Nat) (w_registers : Nat → Int32) (w_slots : Nat → Int32) (w_outputs : Nat → Int32) (w_outputCount : Int32) (rN : Nat) (w_r_numbers : Nat → Int32) (w_r_most : Int32) (w_r_length : Int32) (o : (Nat → Int32) × (Nat → Int32) × (Nat → Int32) × Int32) (hf : f_X2_execute w_registers w_slots w_outputs rN w_r_numbers w_r_length = some o) : kMv l yX2_execute wsX2_execute rmX2_execute [.ref a0, .ref a4] D (PX2 a0 a1 a2 a3 cyI cyZ w_registers w_slots w_outputs w_outputCount ++ PX3 a4 a5 cyI cyZ rN w_r_numbers w_r_most w_r_length) (PX2 a0 a1 a2 a3 cyI cyZ o.1 o.2.1 o.2.2.1 o.2.2.2 ++ PX3 a4 a5 cyI cyZ rN w_r_numbers w_r_most w_r_length) (kT cyI cyZ) 0 0 := by
  refine kOf_v (cc := cX2_execute) (maxL := 3) (by decide +kernel) rfl (Nat.le_of_ble_eq_true rfl) ?_
  intro p e s m args below meth c A Z ls C0 hP hK hD hA hl ret
  obtain ⟨hx, hb, hr, hml, hown, hts, hlocks⟩ := C0
  have hown : s.vm.findClass RX2 = some m.cls := hown
  have hl : lv_has ls 3 [(0, .ref a0), (1, .ref a4)] := hl
  have hS : va_S A s.heap s.heap [] := va_S.rf
  have i_X2 : ∀ w ∈ wsX20, w ∈ wsX2_execute := by decide +kernel
  have k15 := hts (.fieldLink RX2 15 "RegisterAllocator$Machine" "slots" "[I") (by decide +kernel)
  have k21 := hts (.fieldLink RX2 21 "RegisterAllocator$Machine" "outputCount" "I") (by decide +kernel)
  have k9 := hts (.fieldLink RX2 9 "RegisterAllocator$Machine" "registers" "[I") (by decide +kernel)
  rw [f_X2_execute] at hf
  refine lv_iconst (v := 0) hx hb dX2_execute_0 (by decide) ?_
  refine lv_istore_n (lv' := [(2, .int 0), (0, .ref a0), (1, .ref a4)]) hx hb dX2_execute_1 rfl hl (by decide) rfl (fun ls hl => ?_)
  have L2 : ∀ (n : Nat) (x2_L2 : Int32) (w_registers_L2 : Nat → Int32) (o9 : (Nat → Int32)) (_ : f_X2_execute_L2 n x2_L2 w_registers_L2 = some o9) (H : Heap) (locs : List Loc) (ls : Array Slot), va_P D vwCl (PX2 a0 a1 a2 a3 cyI cyZ w_registers_L2 w_slots w_outputs w_outputCount ++ PX3 a4 a5 cyI cyZ rN w_r_numbers w_r_most w_r_length) H → va_D A (PX2 a0 a1 a2 a3 cyI cyZ w_registers_L2 w_slots w_outputs w_outputCount ++ PX3 a4 a5 cyI cyZ rN w_r_numbers w_r_most w_r_length) → va_S A s.heap H locs → lv_has ls 3 [(2, .int x2_L2), (0, .ref a0), (1, .ref a4)] → (∀ (H : Heap) (locs : List Loc) (ls : Array Slot), va_P D vwCl (PX2 a0 a1 a2 a3 cyI cyZ o9 w_slots w_outputs w_outputCount ++ PX3 a4 a5 cyI cyZ rN w_r_numbers w_r_most w_r_length) H → va_D A (PX2 a0 a1 a2 a3 cyI cyZ o9 w_slots w_outputs w_outputCount ++ PX3 a4 a5 cyI cyZ rN w_r_numbers w_r_most w_r_length) → va_S A s.heap H locs → lv_has ls 3 [(0, .ref a0), (1, .ref a4)] → W p l e rmX2_execute s m args below meth c H locs 0 0 Z (F0 m 21 ls [])) → W p l e rmX2_execute s m args below meth c H locs 0 0 Z (F0 m 2 ls []) := by
    intro n
    induction n with
    | zero =>
      intro x2_L2 w_registers_L2 o9 hf
      rw [f_X2_execute_L2] at hf
      cases hf
    | succ n ih =>
      intro x2_L2 w_registers_L2 o9 hf H locs ls hP hD hS hl kx
      rw [f_X2_execute_L2] at hf
      refine lv_iload_n hx hb dX2_execute_2 rfl (lv_at hl 0 rfl) ?_
      refine lv_bipush (v := 8) hx hb dX2_execute_3 (by decide) ?_
      refine lv_icmp_ge (tgt := 21) hx hb dX2_execute_5 (by decide) (fun c_5 => ?_) (fun c_5 => ?_)
      · have hf := kit c_5 hf
        obtain rfl := Option.some.inj hf
        exact kx _ _ _ hP hD hS (lv_sub hl [1, 2] rfl)
      · have hf := kif c_5 hf
        refine lv_aload_n hx hb dX2_execute_8 rfl (lv_at hl 1 rfl) ?_
        refine va_get (D := D) (ci := 2) (v := .ref a1) (C := RX2) (T := TX2) (N := 4) hx hb hts i_X2 hown hK hP 0 rfl rfl 0 (by decide) k9 (fun _ h9 => h9) rfl dX2_execute_9 ?_
        refine lv_iload_n hx hb dX2_execute_12 rfl (lv_at hl 0 rfl) ?_
        refine lv_iconst (v := 0) hx hb dX2_execute_13 (by decide) ?_
        obtain ⟨h_14, hf⟩ := rdc_some hf
        refine va_iast hx hb hK hP hD hS 1 0 rfl rfl h_14 dX2_execute_14 (fun H locs hP hD hS => ?_)
        have hP : va_P D vwCl (PX2 a0 a1 a2 a3 cyI cyZ (upd w_registers_L2 x2_L2.toNatClampNeg 0) w_slots w_outputs w_outputCount ++ PX3 a4 a5 cyI cyZ rN w_r_numbers w_r_most w_r_length) H := hP
        have hD : va_D A (PX2 a0 a1 a2 a3 cyI cyZ (upd w_registers_L2 x2_L2.toNatClampNeg 0) w_slots w_outputs w_outputCount ++ PX3 a4 a5 cyI cyZ rN w_r_numbers w_r_most w_r_length) := hD
        refine lv_iinc (v := (x2_L2 + 1)) (lv' := [(2, .int (x2_L2 + 1)), (0, .ref a0), (1, .ref a4)]) hx hb dX2_execute_15 hl (k := 0) rfl rfl (by decide) rfl (fun ls hl => ?_)
        refine lv_goto (tgt := 2) hx hb dX2_execute_18 (by decide) ?_
        exact ih (x2_L2 + 1) (upd w_registers_L2 x2_L2.toNatClampNeg 0) _ hf _ _ _ hP hD hS (lv_sub hl [0, 1, 2] rfl) kx
  obtain ⟨v2, hf2, hf⟩ := kbd hf
  refine L2 4000 0 w_registers v2 hf2 _ _ _ hP hD hS (lv_sub hl [0, 1, 2] rfl) (fun H locs ls hP hD hS hl => ?_)
  refine lv_iconst (v := 0) hx hb dX2_execute_21 (by decide) ?_
  refine lv_istore_n (lv' := [(2, .int 0), (0, .ref a0), (1, .ref a4)]) hx hb dX2_execute_22 rfl hl (by decide) rfl (fun ls hl => ?_)
  have L23 : ∀ (n : Nat) (x2_L23 : Int32) (w_slots_L23 : Nat → Int32) (o9 : (Nat → Int32)) (_ : f_X2_execute_L23 n x2_L23 w_slots_L23 = some o9) (H : Heap) (locs : List Loc) (ls : Array Slot), va_P D vwCl (PX2 a0 a1 a2 a3 cyI cyZ v2 w_slots_L23 w_outputs w_outputCount ++ PX3 a4 a5 cyI cyZ rN w_r_numbers w_r_most w_r_length) H → va_D A (PX2 a0 a1 a2 a3 cyI cyZ v2 w_slots_L23 w_outputs w_outputCount ++ PX3 a4 a5 cyI cyZ rN w_r_numbers w_r_most w_r_length) → va_S A s.heap H locs → lv_has ls 3 [(2, .int x2_L23), (0, .ref a0), (1, .ref a4)] → (∀ (H : Heap) (locs : List Loc) (ls : Array Slot), va_P D vwCl (PX2 a0 a1 a2 a3 cyI cyZ v2 o9 w_outputs w_outputCount ++ PX3 a4 a5 cyI cyZ rN w_r_numbers w_r_most w_r_length) H → va_D A (PX2 a0 a1 a2 a3 cyI cyZ v2 o9 w_outputs w_outputCount ++ PX3 a4 a5 cyI cyZ rN w_r_numbers w_r_most w_r_length) → va_S A s.heap H locs → lv_has ls 3 [(0, .ref a0), (1, .ref a4)] → W p l e rmX2_execute s m args below meth c H locs 0 0 Z (F0 m 42 ls [])) → W p l e rmX2_execute s m args below meth c H locs 0 0 Z (F0 m 23 ls []) := by
    intro n
    induction n with
    | zero =>
      intro x2_L23 w_slots_L23 o9 hf
      rw [f_X2_execute_L23] at hf
      cases hf
    | succ n ih =>
      intro x2_L23 w_slots_L23 o9 hf H locs ls hP hD hS hl kx
      rw [f_X2_execute_L23] at hf
      refine lv_iload_n hx hb dX2_execute_23 rfl (lv_at hl 0 rfl) ?_
      refine lv_bipush (v := 60) hx hb dX2_execute_24 (by decide) ?_
      refine lv_icmp_ge (tgt := 42) hx hb dX2_execute_26 (by decide) (fun c_26 => ?_) (fun c_26 => ?_)
      · have hf := kit c_26 hf
        obtain rfl := Option.some.inj hf
        exact kx _ _ _ hP hD hS (lv_sub hl [1, 2] rfl)
      · have hf := kif c_26 hf
        refine lv_aload_n hx hb dX2_execute_29 rfl (lv_at hl 1 rfl) ?_
        refine va_get (D := D) (ci := 2) (v := .ref a2) (C := RX2) (T := TX2) (N := 4) hx hb hts i_X2 hown hK hP 0 rfl rfl 1 (by decide) k15 (fun _ h9 => h9) rfl dX2_execute_30 ?_
        refine lv_iload_n hx hb dX2_execute_33 rfl (lv_at hl 0 rfl) ?_
        refine lv_iconst (v := 0) hx hb dX2_execute_34 (by decide) ?_
        obtain ⟨h_35, hf⟩ := rdc_some hf
        refine va_iast hx hb hK hP hD hS 2 0 rfl rfl h_35 dX2_execute_35 (fun H locs hP hD hS => ?_)
        have hP : va_P D vwCl (PX2 a0 a1 a2 a3 cyI cyZ v2 (upd w_slots_L23 x2_L23.toNatClampNeg 0) w_outputs w_outputCount ++ PX3 a4 a5 cyI cyZ rN w_r_numbers w_r_most w_r_length) H := hP
        have hD : va_D A (PX2 a0 a1 a2 a3 cyI cyZ v2 (upd w_slots_L23 x2_L23.toNatClampNeg 0) w_outputs w_outputCount ++ PX3 a4 a5 cyI cyZ rN w_r_numbers w_r_most w_r_length) := hD
        refine lv_iinc (v := (x2_L23 + 1)) (lv' := [(2, .int (x2_L23 + 1)), (0, .ref a0), (1, .ref a4)]) hx hb dX2_execute_36 hl (k := 0) rfl rfl (by decide) rfl (fun ls hl => ?_)
        refine lv_goto (tgt := 23) hx hb dX2_execute_39 (by decide) ?_
        exact ih (x2_L23 + 1) (upd w_slots_L23 x2_L23.toNatClampNeg 0) _ hf _ _ _ hP hD hS (lv_sub hl [0, 1, 2] rfl) kx
  obtain ⟨v23, hf23, hf⟩ := kbd hf
  refine L23 4000 0 w_slots v23 hf23 _ _ _ hP hD hS (lv_sub hl [0, 1, 2] rfl) (fun H locs ls hP hD hS hl => ?_)
  refine lv_aload_n hx hb dX2_execute_42 rfl (lv_at hl 0 rfl) ?_
  refine lv_iconst (v := 0) hx hb dX2_execute_43 (by decide) ?_
  refine va_put (D := D) (ci := 2) (v := .int 0) (ty := .int) (C := RX2) (T := TX2) (N := 4) hx hb hts i_X2 tyX2 tyX2_ok nmX2 hown hK hP hD hS 0 rfl rfl 3 (by decide) k21 (fun _ h9 => h9) rfl (by decide +kernel) rfl (by first | rfl | decide) (Nat.le_of_ble_eq_true rfl) dX2_execute_44 (fun H locs hP hD hS => ?_)
  have hP : va_P D vwCl (PX2 a0 a1 a2 a3 cyI cyZ v2 v23 w_outputs 0 ++ PX3 a4 a5 cyI cyZ rN w_r_numbers w_r_most w_r_length) H := hP
  have hD : va_D A (PX2 a0 a1 a2 a3 cyI cyZ v2 v23 w_outputs 0 ++ PX3 a4 a5 cyI cyZ rN w_r_numbers w_r_most w_r_length) := hD
  refine lv_iconst (v := 0) hx hb dX2_execute_47 (by decide) ?_
  refine lv_istore_n (lv' := [(2, .int 0), (0, .ref a0), (1, .ref a4)]) hx hb dX2_execute_48 rfl hl (by decide) rfl (fun ls hl => ?_)
  have L49 : ∀ (n : Nat) (x2_L49 : Int32) (w_registers_L49 : Nat → Int32) (w_slots_L49 : Nat → Int32) (w_outputs_L49 : Nat → Int32) (w_outputCount_L49 : Int32) (o9 : (Nat → Int32) × (Nat → Int32) × (Nat → Int32) × Int32) (_ : f_X2_execute_L49 rN w_r_numbers w_r_length n x2_L49 w_registers_L49 w_slots_L49 w_outputs_L49 w_outputCount_L49 = some o9) (H : Heap) (locs : List Loc) (ls : Array Slot), va_P D vwCl (PX2 a0 a1 a2 a3 cyI cyZ w_registers_L49 w_slots_L49 w_outputs_L49 w_outputCount_L49 ++ PX3 a4 a5 cyI cyZ rN w_r_numbers w_r_most w_r_length) H → va_D A (PX2 a0 a1 a2 a3 cyI cyZ w_registers_L49 w_slots_L49 w_outputs_L49 w_outputCount_L49 ++ PX3 a4 a5 cyI cyZ rN w_r_numbers w_r_most w_r_length) → va_S A s.heap H locs → lv_has ls 3 [(2, .int x2_L49), (0, .ref a0), (1, .ref a4)] → (∀ (H : Heap) (locs : List Loc) (ls : Array Slot), va_P D vwCl (PX2 a0 a1 a2 a3 cyI cyZ o9.1 o9.2.1 o9.2.2.1 o9.2.2.2 ++ PX3 a4 a5 cyI cyZ rN w_r_numbers w_r_most w_r_length) H → va_D A (PX2 a0 a1 a2 a3 cyI cyZ o9.1 o9.2.1 o9.2.2.1 o9.2.2.2 ++ PX3 a4 a5 cyI cyZ rN w_r_numbers w_r_most w_r_length) → va_S A s.heap H locs → lv_has ls 3 [] → W p l e rmX2_execute s m args below meth c H locs 0 0 Z (F0 m 91 ls [])) → W p l e rmX2_execute s m args below meth c H locs 0 0 Z (F0 m 49 ls []) := by
    intro n
    induction n with
    | zero =>
      intro x2_L49 w_registers_L49 w_slots_L49 w_outputs_L49 w_outputCount_L49 o9 hf
      rw [f_X2_execute_L49] at hf
      cases hf
    | succ n ih =>
      intro x2_L49 w_registers_L49 w_slots_L49 w_outputs_L49 w_outputCount_L49 o9 hf H locs ls hP hD hS hl kx
      rw [f_X2_execute_L49] at hf
      refine lv_iload_n hx hb dX2_execute_49 rfl (lv_at hl 0 rfl) ?_
      refine lv_aload_n hx hb dX2_execute_50 rfl (lv_at hl 2 rfl) ?_
      obtain ⟨u51, hf51, hf⟩ := kbd hf
      refine kc_Vi (As := []) (rest := [.int x2_L49]) (wf := (PX2 a0 a1 a2 a3 cyI cyZ w_registers_L49 w_slots_L49 w_outputs_L49 w_outputCount_L49 ++ PX3 a4 a5 cyI cyZ rN w_r_numbers w_r_most w_r_length)) (c_X3_length l D cyI cyZ a4 a5 rN w_r_numbers w_r_most w_r_length u51 hf51) ⟨hx, hb, hml, hown, hts⟩ (cwV 0 hts gX2_execute_X3_length rfl rfl rfl (by decide +kernel) ⟨Nat.le_of_ble_eq_true rfl, Nat.le_of_ble_eq_true rfl⟩) hK hP hD hS hA [4, 5] [0, 1, 2, 3] 6 rfl rfl (kR1 _ rfl rfl (kR1 _ rfl rfl (kR1 _ rfl rfl (kR1 _ rfl rfl kR0)))) rfl (by decide +kernel) rfl rfl rfl rfl hl.1 rfl (Nat.le_of_ble_eq_true rfl) dX2_execute_51 ⟨Nat.le_of_ble_eq_true rfl, Nat.le_of_ble_eq_true rfl⟩ (fun H locs hP hD hS => ?_)
      refine lv_icmp_ge (tgt := 91) hx hb dX2_execute_54 (by decide) (fun c_54 => ?_) (fun c_54 => ?_)
      · have hf := kit c_54 hf
        obtain rfl := Option.some.inj hf
        exact kx _ _ _ hP hD hS (lv_sub hl [] rfl)
      · have hf := kif c_54 hf
        refine lv_aload_n hx hb dX2_execute_57 rfl (lv_at hl 1 rfl) ?_
        refine lv_aload_n hx hb dX2_execute_58 rfl (lv_at hl 2 rfl) ?_
        refine lv_iload_n hx hb dX2_execute_59 rfl (lv_at hl 0 rfl) ?_
        refine lv_iconst (v := 0) hx hb dX2_execute_60 (by decide) ?_
        obtain ⟨u61, hf61, hf⟩ := kbd hf
        refine kc_Vi (As := [.int x2_L49, .int 0]) (rest := [.ref a0]) (wf := (PX2 a0 a1 a2 a3 cyI cyZ w_registers_L49 w_slots_L49 w_outputs_L49 w_outputCount_L49 ++ PX3 a4 a5 cyI cyZ rN w_r_numbers w_r_most w_r_length)) (c_X3_at l D cyI cyZ a4 a5 rN w_r_numbers w_r_most w_r_length x2_L49 0 u61 hf61) ⟨hx, hb, hml, hown, hts⟩ (cwV 2 hts gX2_execute_X3_at rfl rfl rfl (by decide +kernel) ⟨Nat.le_of_ble_eq_true rfl, Nat.le_of_ble_eq_true rfl⟩) hK hP hD hS hA [4, 5] [0, 1, 2, 3] 6 rfl rfl (kR1 _ rfl rfl (kR1 _ rfl rfl (kR1 _ rfl rfl (kR1 _ rfl rfl kR0)))) rfl (by decide +kernel) rfl rfl rfl rfl hl.1 rfl (Nat.le_of_ble_eq_true rfl) dX2_execute_61 ⟨Nat.le_of_ble_eq_true rfl, Nat.le_of_ble_eq_true rfl⟩ (fun H locs hP hD hS => ?_)
        refine lv_aload_n hx hb dX2_execute_64 rfl (lv_at hl 2 rfl) ?_
        refine lv_iload_n hx hb dX2_execute_65 rfl (lv_at hl 0 rfl) ?_
        refine lv_iconst (v := 1) hx hb dX2_execute_66 (by decide) ?_
        obtain ⟨u67, hf67, hf⟩ := kbd hf
        refine kc_Vi (As := [.int x2_L49, .int 1]) (rest := [.int u61, .ref a0]) (wf := (PX2 a0 a1 a2 a3 cyI cyZ w_registers_L49 w_slots_L49 w_outputs_L49 w_outputCount_L49 ++ PX3 a4 a5 cyI cyZ rN w_r_numbers w_r_most w_r_length)) (c_X3_at l D cyI cyZ a4 a5 rN w_r_numbers w_r_most w_r_length x2_L49 1 u67 hf67) ⟨hx, hb, hml, hown, hts⟩ (cwV 2 hts gX2_execute_X3_at rfl rfl rfl (by decide +kernel) ⟨Nat.le_of_ble_eq_true rfl, Nat.le_of_ble_eq_true rfl⟩) hK hP hD hS hA [4, 5] [0, 1, 2, 3] 6 rfl rfl (kR1 _ rfl rfl (kR1 _ rfl rfl (kR1 _ rfl rfl (kR1 _ rfl rfl kR0)))) rfl (by decide +kernel) rfl rfl rfl rfl hl.1 rfl (Nat.le_of_ble_eq_true rfl) dX2_execute_67 ⟨Nat.le_of_ble_eq_true rfl, Nat.le_of_ble_eq_true rfl⟩ (fun H locs hP hD hS => ?_)
        refine lv_aload_n hx hb dX2_execute_70 rfl (lv_at hl 2 rfl) ?_
        refine lv_iload_n hx hb dX2_execute_71 rfl (lv_at hl 0 rfl) ?_
        refine lv_iconst (v := 2) hx hb dX2_execute_72 (by decide) ?_
        obtain ⟨u73, hf73, hf⟩ := kbd hf
        refine kc_Vi (As := [.int x2_L49, .int 2]) (rest := [.int u67, .int u61, .ref a0]) (wf := (PX2 a0 a1 a2 a3 cyI cyZ w_registers_L49 w_slots_L49 w_outputs_L49 w_outputCount_L49 ++ PX3 a4 a5 cyI cyZ rN w_r_numbers w_r_most w_r_length)) (c_X3_at l D cyI cyZ a4 a5 rN w_r_numbers w_r_most w_r_length x2_L49 2 u73 hf73) ⟨hx, hb, hml, hown, hts⟩ (cwV 2 hts gX2_execute_X3_at rfl rfl rfl (by decide +kernel) ⟨Nat.le_of_ble_eq_true rfl, Nat.le_of_ble_eq_true rfl⟩) hK hP hD hS hA [4, 5] [0, 1, 2, 3] 6 rfl rfl (kR1 _ rfl rfl (kR1 _ rfl rfl (kR1 _ rfl rfl (kR1 _ rfl rfl kR0)))) rfl (by decide +kernel) rfl rfl rfl rfl hl.1 rfl (Nat.le_of_ble_eq_true rfl) dX2_execute_73 ⟨Nat.le_of_ble_eq_true rfl, Nat.le_of_ble_eq_true rfl⟩ (fun H locs hP hD hS => ?_)
        refine lv_aload_n hx hb dX2_execute_76 rfl (lv_at hl 2 rfl) ?_
        refine lv_iload_n hx hb dX2_execute_77 rfl (lv_at hl 0 rfl) ?_
        refine lv_iconst (v := 3) hx hb dX2_execute_78 (by decide) ?_
        obtain ⟨u79, hf79, hf⟩ := kbd hf
        refine kc_Vi (As := [.int x2_L49, .int 3]) (rest := [.int u73, .int u67, .int u61, .ref a0]) (wf := (PX2 a0 a1 a2 a3 cyI cyZ w_registers_L49 w_slots_L49 w_outputs_L49 w_outputCount_L49 ++ PX3 a4 a5 cyI cyZ rN w_r_numbers w_r_most w_r_length)) (c_X3_at l D cyI cyZ a4 a5 rN w_r_numbers w_r_most w_r_length x2_L49 3 u79 hf79) ⟨hx, hb, hml, hown, hts⟩ (cwV 2 hts gX2_execute_X3_at rfl rfl rfl (by decide +kernel) ⟨Nat.le_of_ble_eq_true rfl, Nat.le_of_ble_eq_true rfl⟩) hK hP hD hS hA [4, 5] [0, 1, 2, 3] 6 rfl rfl (kR1 _ rfl rfl (kR1 _ rfl rfl (kR1 _ rfl rfl (kR1 _ rfl rfl kR0)))) rfl (by decide +kernel) rfl rfl rfl rfl hl.1 rfl (Nat.le_of_ble_eq_true rfl) dX2_execute_79 ⟨Nat.le_of_ble_eq_true rfl, Nat.le_of_ble_eq_true rfl⟩ (fun H locs hP hD hS => ?_)
        obtain ⟨⟨u82_0, u82_1, u82_2, u82_3⟩, hf82, hf⟩ := kbd hf
        try dsimp only at hf
        refine kc_Vv (As := [.int u61, .int u67, .int u73, .int u79]) (rest := []) (wf := (PX2 a0 a1 a2 a3 cyI cyZ u82_0 u82_1 u82_2 u82_3 ++ PX3 a4 a5 cyI cyZ rN w_r_numbers w_r_most w_r_length)) (c_X2_perform l D cyI cyZ a0 a1 a2 a3 w_registers_L49 w_slots_L49 w_outputs_L49 w_outputCount_L49 u61 u67 u73 u79 (u82_0, u82_1, u82_2, u82_3) hf82) ⟨hx, hb, hml, hown, hts⟩ (cwV 4 hts gX2_execute_X2_perform rfl rfl rfl (by decide +kernel) ⟨Nat.le_of_ble_eq_true rfl, Nat.le_of_ble_eq_true rfl⟩) hK hP hD hS hA [0, 1, 2, 3] [4, 5] 6 rfl rfl (kR1 _ rfl rfl (kR1 _ rfl rfl kR0)) rfl (by decide +kernel) rfl rfl rfl rfl hl.1 rfl (Nat.le_of_ble_eq_true rfl) dX2_execute_82 ⟨Nat.le_of_ble_eq_true rfl, Nat.le_of_ble_eq_true rfl⟩ (fun H locs hP hD hS => ?_)
        refine lv_iinc (v := (x2_L49 + 1)) (lv' := [(2, .int (x2_L49 + 1)), (0, .ref a0), (1, .ref a4)]) hx hb dX2_execute_85 hl (k := 0) rfl rfl (by decide) rfl (fun ls hl => ?_)
        refine lv_goto (tgt := 49) hx hb dX2_execute_88 (by decide) ?_
        exact ih (x2_L49 + 1) u82_0 u82_1 u82_2 u82_3 _ hf _ _ _ hP hD hS (lv_sub hl [0, 1, 2] rfl) kx
  obtain ⟨⟨v49_0, v49_1, v49_2, v49_3⟩, hf49, hf⟩ := kbd hf
  try dsimp only at hf
  refine L49 4000 0 v2 v23 w_outputs 0 (v49_0, v49_1, v49_2, v49_3) hf49 _ _ _ hP hD hS (lv_sub hl [0, 1, 2] rfl) (fun H locs ls hP hD hS hl => ?_)
  have hP : va_P D vwCl (PX2 a0 a1 a2 a3 cyI cyZ v49_0 v49_1 v49_2 v49_3 ++ PX3 a4 a5 cyI cyZ rN w_r_numbers w_r_most w_r_length) H := hP
  have hD : va_D A (PX2 a0 a1 a2 a3 cyI cyZ v49_0 v49_1 v49_2 v49_3 ++ PX3 a4 a5 cyI cyZ rN w_r_numbers w_r_most w_r_length) := hD
  have hl : lv_has ls 3 [] := hl
  obtain rfl := Option.some.inj hf
  exact ret _ _ _ _ dX2_execute_91 hP hD hS
