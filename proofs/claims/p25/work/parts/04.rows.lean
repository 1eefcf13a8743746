abbrev rmX3_clear : Room := { frames := 0, cells := 0, slots := 0, locals := 0 }
set_option maxHeartbeats 4000000 in
set_option maxRecDepth 100000 in
theorem c_X3_clear (l : Launch) (D : va_G) (cyI cyZ : ClassId) (a0 a1 : Nat) (N : Nat) (w_numbers : Nat → Int32) (w_most : Int32) (w_length : Int32) (o : Int32) (hf : f_X3_clear = some o) : kMv l yX3_clear wsX3_clear rmX3_clear [.ref a0] D (PX3 a0 a1 cyI cyZ N w_numbers w_most w_length) (PX3 a0 a1 cyI cyZ N w_numbers w_most o) (kT cyI cyZ) 0 0 := by
  refine kOf_v (cc := cX3_clear) (maxL := 1) (by decide +kernel) rfl (Nat.le_of_ble_eq_true rfl) ?_
  intro p e s m args below meth c A Z ls C0 hP hK hD hA hl ret
  obtain ⟨hx, hb, hr, hml, hown, hts, hlocks⟩ := C0
  have hown : s.vm.findClass RX3 = some m.cls := hown
  have hl : lv_has ls 1 [(0, .ref a0)] := hl
  have hS : va_S A s.heap s.heap [] := va_S.rf
  have i_X3 : ∀ w ∈ wsX30, w ∈ wsX3_clear := by decide +kernel
  have k25 := hts (.fieldLink RX3 25 "RegisterAllocator$Rows" "length" "I") (by decide +kernel)
  rw [f_X3_clear] at hf
  refine lv_aload_n hx hb dX3_clear_0 rfl (lv_at hl 0 rfl) ?_
  refine lv_iconst (v := 0) hx hb dX3_clear_1 (by decide) ?_
  refine va_put (D := D) (ci := 3) (v := .int 0) (ty := .int) (C := RX3) (T := TX3) (N := 3) hx hb hts i_X3 tyX3 tyX3_ok nmX3 hown hK hP hD hS 0 rfl rfl 2 (by decide) k25 (fun _ h9 => h9) rfl (by decide +kernel) rfl (by first | rfl | decide) (Nat.le_of_ble_eq_true rfl) dX3_clear_2 (fun H locs hP hD hS => ?_)
  have hP : va_P D vwCl (PX3 a0 a1 cyI cyZ N w_numbers w_most 0) H := hP
  have hD : va_D A (PX3 a0 a1 cyI cyZ N w_numbers w_most 0) := hD
  obtain rfl := Option.some.inj hf
  exact ret _ _ _ _ dX3_clear_5 hP hD hS

abbrev rmX3_length : Room := { frames := 0, cells := 0, slots := 0, locals := 0 }
set_option maxHeartbeats 4000000 in
set_option maxRecDepth 100000 in
theorem c_X3_length (l : Launch) (D : va_G) (cyI cyZ : ClassId) (a0 a1 : Nat) (N : Nat) (w_numbers : Nat → Int32) (w_most : Int32) (w_length : Int32) (o : Int32) (hf : f_X3_length w_length = some o) : kMi l yX3_length wsX3_length rmX3_length [.ref a0] D (PX3 a0 a1 cyI cyZ N w_numbers w_most w_length) (PX3 a0 a1 cyI cyZ N w_numbers w_most w_length) (kT cyI cyZ) o 0 0 := by
  refine kOf_i (cc := cX3_length) (maxL := 1) (ty := .int) (by decide +kernel) rfl (Nat.le_of_ble_eq_true rfl) ?_
  intro p e s m args below meth c A Z ls C0 hP hK hD hA hl ret
  obtain ⟨hx, hb, hr, hml, hown, hts, hlocks⟩ := C0
  have hown : s.vm.findClass RX3 = some m.cls := hown
  have hl : lv_has ls 1 [(0, .ref a0)] := hl
  have hS : va_S A s.heap s.heap [] := va_S.rf
  have i_X3 : ∀ w ∈ wsX30, w ∈ wsX3_length := by decide +kernel
  have k25 := hts (.fieldLink RX3 25 "RegisterAllocator$Rows" "length" "I") (by decide +kernel)
  rw [f_X3_length] at hf
  refine lv_aload_n hx hb dX3_length_0 rfl (lv_at hl 0 rfl) ?_
  refine va_get (D := D) (ci := 3) (v := .int w_length) (C := RX3) (T := TX3) (N := 3) hx hb hts i_X3 hown hK hP 0 rfl rfl 2 (by decide) k25 (fun _ h9 => h9) rfl dX3_length_1 ?_
  obtain rfl := Option.some.inj hf
  exact ret _ _ _ _ dX3_length_4 rfl hP hD hS

abbrev rmX3_has : Room := { frames := 0, cells := 0, slots := 0, locals := 0 }
set_option maxHeartbeats 4000000 in
set_option maxRecDepth 100000 in
theorem c_X3_has (l : Launch) (D : va_G) (cyI cyZ : ClassId) (a0 a1 : Nat) (N : Nat) (w_numbers : Nat → Int32) (w_most : Int32) (w_length : Int32) (p1 : Int32) (p2 : Int32) (o : Int32) (hf : f_X3_has p1 p2 w_length = some o) : kMi l yX3_has wsX3_has rmX3_has [.ref a0, .int p1, .int p2] D (PX3 a0 a1 cyI cyZ N w_numbers w_most w_length) (PX3 a0 a1 cyI cyZ N w_numbers w_most w_length) (kT cyI cyZ) o 0 0 := by
  refine kOf_i (cc := cX3_has) (maxL := 3) (ty := .boolean) (by decide +kernel) rfl (Nat.le_of_ble_eq_true rfl) ?_
  intro p e s m args below meth c A Z ls C0 hP hK hD hA hl ret
  obtain ⟨hx, hb, hr, hml, hown, hts, hlocks⟩ := C0
  have hown : s.vm.findClass RX3 = some m.cls := hown
  have hl : lv_has ls 3 [(0, .ref a0), (1, .int p1), (2, .int p2)] := hl
  have hS : va_S A s.heap s.heap [] := va_S.rf
  have i_X3 : ∀ w ∈ wsX30, w ∈ wsX3_has := by decide +kernel
  have k25 := hts (.fieldLink RX3 25 "RegisterAllocator$Rows" "length" "I") (by decide +kernel)
  rw [f_X3_has] at hf
  refine lv_iload_n hx hb dX3_has_0 rfl (lv_at hl 1 rfl) ?_
  refine lv_if_lt (tgt := 25) hx hb dX3_has_1 (by decide) (fun c_1 => ?_) (fun c_1 => ?_)
  · have hf := kit c_1 hf
    refine lv_iconst (v := 0) hx hb dX3_has_25 (by decide) ?_
    obtain rfl := Option.some.inj hf
    exact ret _ _ _ _ dX3_has_26 (znar (Or.inl rfl)) hP hD hS
  · have hf := kif c_1 hf
    refine lv_iload_n hx hb dX3_has_4 rfl (lv_at hl 1 rfl) ?_
    refine lv_aload_n hx hb dX3_has_5 rfl (lv_at hl 0 rfl) ?_
    refine va_get (D := D) (ci := 3) (v := .int w_length) (C := RX3) (T := TX3) (N := 3) hx hb hts i_X3 hown hK hP 0 rfl rfl 2 (by decide) k25 (fun _ h9 => h9) rfl dX3_has_6 ?_
    refine lv_icmp_ge (tgt := 25) hx hb dX3_has_9 (by decide) (fun c_9 => ?_) (fun c_9 => ?_)
    · have hf := kit c_9 hf
      refine lv_iconst (v := 0) hx hb dX3_has_25 (by decide) ?_
      obtain rfl := Option.some.inj hf
      exact ret _ _ _ _ dX3_has_26 (znar (Or.inl rfl)) hP hD hS
    · have hf := kif c_9 hf
      refine lv_iload_n hx hb dX3_has_12 rfl (lv_at hl 2 rfl) ?_
      refine lv_if_lt (tgt := 25) hx hb dX3_has_13 (by decide) (fun c_13 => ?_) (fun c_13 => ?_)
      · have hf := kit c_13 hf
        refine lv_iconst (v := 0) hx hb dX3_has_25 (by decide) ?_
        obtain rfl := Option.some.inj hf
        exact ret _ _ _ _ dX3_has_26 (znar (Or.inl rfl)) hP hD hS
      · have hf := kif c_13 hf
        refine lv_iload_n hx hb dX3_has_16 rfl (lv_at hl 2 rfl) ?_
        refine lv_iconst (v := 4) hx hb dX3_has_17 (by decide) ?_
        refine lv_icmp_ge (tgt := 25) hx hb dX3_has_18 (by decide) (fun c_18 => ?_) (fun c_18 => ?_)
        · have hf := kit c_18 hf
          refine lv_iconst (v := 0) hx hb dX3_has_25 (by decide) ?_
          obtain rfl := Option.some.inj hf
          exact ret _ _ _ _ dX3_has_26 (znar (Or.inl rfl)) hP hD hS
        · have hf := kif c_18 hf
          refine lv_iconst (v := 1) hx hb dX3_has_21 (by decide) ?_
          refine lv_goto (tgt := 26) hx hb dX3_has_22 (by decide) ?_
          obtain rfl := Option.some.inj hf
          exact ret _ _ _ _ dX3_has_26 (znar (Or.inr rfl)) hP hD hS

abbrev rmX3_at : Room := { frames := 1, cells := 0, slots := 0, locals := 22 }
set_option maxHeartbeats 4000000 in
set_option maxRecDepth 100000 in
theorem c_X3_at (l : Launch) (D : va_G) (cyI cyZ : ClassId) (a0 a1 : Nat) (N : Nat) (w_numbers : Nat → Int32) (w_most : Int32) (w_length : Int32) (p1 : Int32) (p2 : Int32) (o : Int32) (hf : f_X3_at p1 p2 N w_numbers w_length = some o) : kMi l yX3_at wsX3_at rmX3_at [.ref a0, .int p1, .int p2] D (PX3 a0 a1 cyI cyZ N w_numbers w_most w_length) (PX3 a0 a1 cyI cyZ N w_numbers w_most w_length) (kT cyI cyZ) o 0 0 := by
  refine kOf_i (cc := cX3_at) (maxL := 3) (ty := .int) (by decide +kernel) rfl (Nat.le_of_ble_eq_true rfl) ?_
  intro p e s m args below meth c A Z ls C0 hP hK hD hA hl ret
  obtain ⟨hx, hb, hr, hml, hown, hts, hlocks⟩ := C0
  have hown : s.vm.findClass RX3 = some m.cls := hown
  have hl : lv_has ls 3 [(0, .ref a0), (1, .int p1), (2, .int p2)] := hl
  have hS : va_S A s.heap s.heap [] := va_S.rf
  have i_X3 : ∀ w ∈ wsX30, w ∈ wsX3_at := by decide +kernel
  have k21 := hts (.fieldLink RX3 21 "RegisterAllocator$Rows" "numbers" "[I") (by decide +kernel)
  rw [f_X3_at] at hf
  refine lv_aload_n hx hb dX3_at_0 rfl (lv_at hl 0 rfl) ?_
  refine lv_iload_n hx hb dX3_at_1 rfl (lv_at hl 1 rfl) ?_
  refine lv_iload_n hx hb dX3_at_2 rfl (lv_at hl 2 rfl) ?_
  obtain ⟨u3, hf3, hf⟩ := kbd hf
  refine kc_Vi (As := [.int p1, .int p2]) (rest := []) (wf := (PX3 a0 a1 cyI cyZ N w_numbers w_most w_length)) (c_X3_has l D cyI cyZ a0 a1 N w_numbers w_most w_length p1 p2 u3 hf3) ⟨hx, hb, hml, hown, hts⟩ (cwV 2 hts gX3_at_X3_has rfl rfl rfl (by decide +kernel) ⟨Nat.le_of_ble_eq_true rfl, Nat.le_of_ble_eq_true rfl⟩) hK hP hD hS hA [0, 1] [] 2 rfl rfl kR0 rfl (by decide +kernel) rfl rfl rfl rfl hl.1 rfl (Nat.le_of_ble_eq_true rfl) dX3_at_3 ⟨Nat.le_of_ble_eq_true rfl, Nat.le_of_ble_eq_true rfl⟩ (fun H locs hP hD hS => ?_)
  refine lv_if_eq (tgt := 22) hx hb dX3_at_6 (by decide) (fun c_6 => ?_) (fun c_6 => ?_)
  · have hf := kit c_6 hf
    refine lv_iconst (v := (-1)) hx hb dX3_at_22 (by decide) ?_
    obtain rfl := Option.some.inj hf
    exact ret _ _ _ _ dX3_at_23 rfl hP hD hS
  · have hf := kif c_6 hf
    refine lv_aload_n hx hb dX3_at_9 rfl (lv_at hl 0 rfl) ?_
    refine va_get (D := D) (ci := 3) (v := .ref a1) (C := RX3) (T := TX3) (N := 3) hx hb hts i_X3 hown hK hP 0 rfl rfl 0 (by decide) k21 (fun _ h9 => h9) rfl dX3_at_10 ?_
    refine lv_iconst (v := 4) hx hb dX3_at_13 (by decide) ?_
    refine lv_iload_n hx hb dX3_at_14 rfl (lv_at hl 1 rfl) ?_
    refine lv_imul hx hb dX3_at_15 ?_
    refine lv_iload_n hx hb dX3_at_16 rfl (lv_at hl 2 rfl) ?_
    refine lv_iadd hx hb dX3_at_17 ?_
    obtain ⟨h_18, hf⟩ := rdc_some hf
    refine va_iald hx hb hK hP 1 0 rfl rfl h_18 dX3_at_18 ?_
    refine lv_goto (tgt := 23) hx hb dX3_at_19 (by decide) ?_
    obtain rfl := Option.some.inj hf
    exact ret _ _ _ _ dX3_at_23 rfl hP hD hS

abbrev rmX3_put : Room := { frames := 1, cells := 0, slots := 0, locals := 22 }
set_option maxHeartbeats 4000000 in
set_option maxRecDepth 100000 in
theorem c_X3_put (l : Launch) (D : va_G) (cyI cyZ : ClassId) (a0 a1 : Nat) (N : Nat) (w_numbers : Nat → Int32) (w_most : Int32) (w_length : Int32) (p1 : Int32) (p2 : Int32) (p3 : Int32) (o : (Nat → Int32)) (hf : f_X3_put p1 p2 p3 N w_numbers w_length = some o) : kMv l yX3_put wsX3_put rmX3_put [.ref a0, .int p1, .int p2, .int p3] D (PX3 a0 a1 cyI cyZ N w_numbers w_most w_length) (PX3 a0 a1 cyI cyZ N o w_most w_length) (kT cyI cyZ) 0 0 := by
  refine kOf_v (cc := cX3_put) (maxL := 4) (by decide +kernel) rfl (Nat.le_of_ble_eq_true rfl) ?_
  intro p e s m args below meth c A Z ls C0 hP hK hD hA hl ret
  obtain ⟨hx, hb, hr, hml, hown, hts, hlocks⟩ := C0
  have hown : s.vm.findClass RX3 = some m.cls := hown
  have hl : lv_has ls 4 [(0, .ref a0), (1, .int p1), (2, .int p2), (3, .int p3)] := hl
  have hS : va_S A s.heap s.heap [] := va_S.rf
  have i_X3 : ∀ w ∈ wsX30, w ∈ wsX3_put := by decide +kernel
  have k21 := hts (.fieldLink RX3 21 "RegisterAllocator$Rows" "numbers" "[I") (by decide +kernel)
  rw [f_X3_put] at hf
  refine lv_aload_n hx hb dX3_put_0 rfl (lv_at hl 0 rfl) ?_
  refine lv_iload_n hx hb dX3_put_1 rfl (lv_at hl 1 rfl) ?_
  refine lv_iload_n hx hb dX3_put_2 rfl (lv_at hl 2 rfl) ?_
  obtain ⟨u3, hf3, hf⟩ := kbd hf
  refine kc_Vi (As := [.int p1, .int p2]) (rest := []) (wf := (PX3 a0 a1 cyI cyZ N w_numbers w_most w_length)) (c_X3_has l D cyI cyZ a0 a1 N w_numbers w_most w_length p1 p2 u3 hf3) ⟨hx, hb, hml, hown, hts⟩ (cwV 2 hts gX3_put_X3_has rfl rfl rfl (by decide +kernel) ⟨Nat.le_of_ble_eq_true rfl, Nat.le_of_ble_eq_true rfl⟩) hK hP hD hS hA [0, 1] [] 2 rfl rfl kR0 rfl (by decide +kernel) rfl rfl rfl rfl hl.1 rfl (Nat.le_of_ble_eq_true rfl) dX3_put_3 ⟨Nat.le_of_ble_eq_true rfl, Nat.le_of_ble_eq_true rfl⟩ (fun H locs hP hD hS => ?_)
  refine lv_if_eq (tgt := 20) hx hb dX3_put_6 (by decide) (fun c_6 => ?_) (fun c_6 => ?_)
  · have hf := kit c_6 hf
    obtain rfl := Option.some.inj hf
    exact ret _ _ _ _ dX3_put_20 hP hD hS
  · have hf := kif c_6 hf
    refine lv_aload_n hx hb dX3_put_9 rfl (lv_at hl 0 rfl) ?_
    refine va_get (D := D) (ci := 3) (v := .ref a1) (C := RX3) (T := TX3) (N := 3) hx hb hts i_X3 hown hK hP 0 rfl rfl 0 (by decide) k21 (fun _ h9 => h9) rfl dX3_put_10 ?_
    refine lv_iconst (v := 4) hx hb dX3_put_13 (by decide) ?_
    refine lv_iload_n hx hb dX3_put_14 rfl (lv_at hl 1 rfl) ?_
    refine lv_imul hx hb dX3_put_15 ?_
    refine lv_iload_n hx hb dX3_put_16 rfl (lv_at hl 2 rfl) ?_
    refine lv_iadd hx hb dX3_put_17 ?_
    refine lv_iload_n hx hb dX3_put_18 rfl (lv_at hl 3 rfl) ?_
    obtain ⟨h_19, hf⟩ := rdc_some hf
    refine va_iast hx hb hK hP hD hS 1 0 rfl rfl h_19 dX3_put_19 (fun H locs hP hD hS => ?_)
    have hP : va_P D vwCl (PX3 a0 a1 cyI cyZ N (upd w_numbers ((4 * p1) + p2).toNatClampNeg p3) w_most w_length) H := hP
    have hD : va_D A (PX3 a0 a1 cyI cyZ N (upd w_numbers ((4 * p1) + p2).toNatClampNeg p3) w_most w_length) := hD
    obtain rfl := Option.some.inj hf
    exact ret _ _ _ _ dX3_put_20 hP hD hS

abbrev rmX3_append : Room := { frames := 0, cells := 0, slots := 0, locals := 0 }
set_option maxHeartbeats 4000000 in
set_option maxRecDepth 100000 in
theorem c_X3_append (l : Launch) (D : va_G) (cyI cyZ : ClassId) (a0 a1 : Nat) (N : Nat) (w_numbers : Nat → Int32) (w_most : Int32) (w_length : Int32) (p1 : Int32) (p2 : Int32) (p3 : Int32) (p4 : Int32) (o : Int32 × (Nat → Int32) × Int32) (hf : f_X3_append p1 p2 p3 p4 N w_numbers w_most w_length = some o) : kMi l yX3_append wsX3_append rmX3_append [.ref a0, .int p1, .int p2, .int p3, .int p4] D (PX3 a0 a1 cyI cyZ N w_numbers w_most w_length) (PX3 a0 a1 cyI cyZ N o.2.1 w_most o.2.2) (kT cyI cyZ) o.1 0 0 := by
  refine kOf_i (cc := cX3_append) (maxL := 7) (ty := .int) (by decide +kernel) rfl (Nat.le_of_ble_eq_true rfl) ?_
  intro p e s m args below meth c A Z ls C0 hP hK hD hA hl ret
  obtain ⟨hx, hb, hr, hml, hown, hts, hlocks⟩ := C0
  have hown : s.vm.findClass RX3 = some m.cls := hown
  have hl : lv_has ls 7 [(0, .ref a0), (1, .int p1), (2, .int p2), (3, .int p3), (4, .int p4)] := hl
  have hS : va_S A s.heap s.heap [] := va_S.rf
  have i_X3 : ∀ w ∈ wsX30, w ∈ wsX3_append := by decide +kernel
  have k15 := hts (.fieldLink RX3 15 "RegisterAllocator$Rows" "most" "I") (by decide +kernel)
  have k21 := hts (.fieldLink RX3 21 "RegisterAllocator$Rows" "numbers" "[I") (by decide +kernel)
  have k25 := hts (.fieldLink RX3 25 "RegisterAllocator$Rows" "length" "I") (by decide +kernel)
  rw [f_X3_append] at hf
  refine lv_aload_n hx hb dX3_append_0 rfl (lv_at hl 0 rfl) ?_
  refine va_get (D := D) (ci := 3) (v := .int w_length) (C := RX3) (T := TX3) (N := 3) hx hb hts i_X3 hown hK hP 0 rfl rfl 2 (by decide) k25 (fun _ h9 => h9) rfl dX3_append_1 ?_
  refine lv_if_lt (tgt := 18) hx hb dX3_append_4 (by decide) (fun c_4 => ?_) (fun c_4 => ?_)
  · have hf := kit c_4 hf
    refine lv_iconst (v := (-1)) hx hb dX3_append_18 (by decide) ?_
    obtain rfl := Option.some.inj hf
    exact ret _ _ _ _ dX3_append_19 rfl hP hD hS
  · have hf := kif c_4 hf
    refine lv_aload_n hx hb dX3_append_7 rfl (lv_at hl 0 rfl) ?_
    refine va_get (D := D) (ci := 3) (v := .int w_length) (C := RX3) (T := TX3) (N := 3) hx hb hts i_X3 hown hK hP 0 rfl rfl 2 (by decide) k25 (fun _ h9 => h9) rfl dX3_append_8 ?_
    refine lv_aload_n hx hb dX3_append_11 rfl (lv_at hl 0 rfl) ?_
    refine va_get (D := D) (ci := 3) (v := .int w_most) (C := RX3) (T := TX3) (N := 3) hx hb hts i_X3 hown hK hP 0 rfl rfl 1 (by decide) k15 (fun _ h9 => h9) rfl dX3_append_12 ?_
    refine lv_icmp_lt (tgt := 20) hx hb dX3_append_15 (by decide) (fun c_15 => ?_) (fun c_15 => ?_)
    · have hf := kit c_15 hf
      refine lv_aload_n hx hb dX3_append_20 rfl (lv_at hl 0 rfl) ?_
      refine va_get (D := D) (ci := 3) (v := .int w_length) (C := RX3) (T := TX3) (N := 3) hx hb hts i_X3 hown hK hP 0 rfl rfl 2 (by decide) k25 (fun _ h9 => h9) rfl dX3_append_21 ?_
      refine lv_istore (lv' := [(5, .int w_length), (0, .ref a0), (1, .int p1), (2, .int p2), (3, .int p3), (4, .int p4)]) hx hb dX3_append_24 hl (by decide) rfl (fun ls hl => ?_)
      refine lv_iconst (v := 4) hx hb dX3_append_26 (by decide) ?_
      refine lv_iload hx hb dX3_append_27 (lv_at hl 0 rfl) ?_
      refine lv_imul hx hb dX3_append_29 ?_
      refine lv_istore (lv' := [(6, .int (4 * w_length)), (5, .int w_length), (0, .ref a0), (1, .int p1), (2, .int p2), (3, .int p3), (4, .int p4)]) hx hb dX3_append_30 hl (by decide) rfl (fun ls hl => ?_)
      refine lv_aload_n hx hb dX3_append_32 rfl (lv_at hl 2 rfl) ?_
      refine va_get (D := D) (ci := 3) (v := .ref a1) (C := RX3) (T := TX3) (N := 3) hx hb hts i_X3 hown hK hP 0 rfl rfl 0 (by decide) k21 (fun _ h9 => h9) rfl dX3_append_33 ?_
      refine lv_iload hx hb dX3_append_36 (lv_at hl 0 rfl) ?_
      refine lv_iload_n hx hb dX3_append_38 rfl (lv_at hl 3 rfl) ?_
      obtain ⟨h_39, hf⟩ := rdc_some hf
      refine va_iast hx hb hK hP hD hS 1 0 rfl rfl h_39 dX3_append_39 (fun H locs hP hD hS => ?_)
      have hP : va_P D vwCl (PX3 a0 a1 cyI cyZ N (upd w_numbers (4 * w_length).toNatClampNeg p1) w_most w_length) H := hP
      have hD : va_D A (PX3 a0 a1 cyI cyZ N (upd w_numbers (4 * w_length).toNatClampNeg p1) w_most w_length) := hD
      refine lv_aload_n hx hb dX3_append_40 rfl (lv_at hl 2 rfl) ?_
      refine va_get (D := D) (ci := 3) (v := .ref a1) (C := RX3) (T := TX3) (N := 3) hx hb hts i_X3 hown hK hP 0 rfl rfl 0 (by decide) k21 (fun _ h9 => h9) rfl dX3_append_41 ?_
      refine lv_iload hx hb dX3_append_44 (lv_at hl 0 rfl) ?_
      refine lv_iconst (v := 1) hx hb dX3_append_46 (by decide) ?_
      refine lv_iadd hx hb dX3_append_47 ?_
      refine lv_iload_n hx hb dX3_append_48 rfl (lv_at hl 4 rfl) ?_
      obtain ⟨h_49, hf⟩ := rdc_some hf
      refine va_iast hx hb hK hP hD hS 1 0 rfl rfl h_49 dX3_append_49 (fun H locs hP hD hS => ?_)
      have hP : va_P D vwCl (PX3 a0 a1 cyI cyZ N (upd (upd w_numbers (4 * w_length).toNatClampNeg p1) ((4 * w_length) + 1).toNatClampNeg p2) w_most w_length) H := hP
      have hD : va_D A (PX3 a0 a1 cyI cyZ N (upd (upd w_numbers (4 * w_length).toNatClampNeg p1) ((4 * w_length) + 1).toNatClampNeg p2) w_most w_length) := hD
      refine lv_aload_n hx hb dX3_append_50 rfl (lv_at hl 2 rfl) ?_
      refine va_get (D := D) (ci := 3) (v := .ref a1) (C := RX3) (T := TX3) (N := 3) hx hb hts i_X3 hown hK hP 0 rfl rfl 0 (by decide) k21 (fun _ h9 => h9) rfl dX3_append_51 ?_
      refine lv_iload hx hb dX3_append_54 (lv_at hl 0 rfl) ?_
      refine lv_iconst (v := 2) hx hb dX3_append_56 (by decide) ?_
      refine lv_iadd hx hb dX3_append_57 ?_
      refine lv_iload_n hx hb dX3_append_58 rfl (lv_at hl 5 rfl) ?_
      obtain ⟨h_59, hf⟩ := rdc_some hf
      refine va_iast hx hb hK hP hD hS 1 0 rfl rfl h_59 dX3_append_59 (fun H locs hP hD hS => ?_)
      have hP : va_P D vwCl (PX3 a0 a1 cyI cyZ N (upd (upd (upd w_numbers (4 * w_length).toNatClampNeg p1) ((4 * w_length) + 1).toNatClampNeg p2) ((4 * w_length) + 2).toNatClampNeg p3) w_most w_length) H := hP
      have hD : va_D A (PX3 a0 a1 cyI cyZ N (upd (upd (upd w_numbers (4 * w_length).toNatClampNeg p1) ((4 * w_length) + 1).toNatClampNeg p2) ((4 * w_length) + 2).toNatClampNeg p3) w_most w_length) := hD
      refine lv_aload_n hx hb dX3_append_60 rfl (lv_at hl 2 rfl) ?_
      refine va_get (D := D) (ci := 3) (v := .ref a1) (C := RX3) (T := TX3) (N := 3) hx hb hts i_X3 hown hK hP 0 rfl rfl 0 (by decide) k21 (fun _ h9 => h9) rfl dX3_append_61 ?_
      refine lv_iload hx hb dX3_append_64 (lv_at hl 0 rfl) ?_
      refine lv_iconst (v := 3) hx hb dX3_append_66 (by decide) ?_
      refine lv_iadd hx hb dX3_append_67 ?_
      refine lv_iload hx hb dX3_append_68 (lv_at hl 6 rfl) ?_
      obtain ⟨h_70, hf⟩ := rdc_some hf
      refine va_iast hx hb hK hP hD hS 1 0 rfl rfl h_70 dX3_append_70 (fun H locs hP hD hS => ?_)
      have hP : va_P D vwCl (PX3 a0 a1 cyI cyZ N (upd (upd (upd (upd w_numbers (4 * w_length).toNatClampNeg p1) ((4 * w_length) + 1).toNatClampNeg p2) ((4 * w_length) + 2).toNatClampNeg p3) ((4 * w_length) + 3).toNatClampNeg p4) w_most w_length) H := hP
      have hD : va_D A (PX3 a0 a1 cyI cyZ N (upd (upd (upd (upd w_numbers (4 * w_length).toNatClampNeg p1) ((4 * w_length) + 1).toNatClampNeg p2) ((4 * w_length) + 2).toNatClampNeg p3) ((4 * w_length) + 3).toNatClampNeg p4) w_most w_length) := hD
      refine lv_aload_n hx hb dX3_append_71 rfl (lv_at hl 2 rfl) ?_
      refine lv_dup hx hb dX3_append_72 rfl ?_
      refine va_get (D := D) (ci := 3) (v := .int w_length) (C := RX3) (T := TX3) (N := 3) hx hb hts i_X3 hown hK hP 0 rfl rfl 2 (by decide) k25 (fun _ h9 => h9) rfl dX3_append_73 ?_
      refine lv_iconst (v := 1) hx hb dX3_append_76 (by decide) ?_
      refine lv_iadd hx hb dX3_append_77 ?_
      refine va_put (D := D) (ci := 3) (v := .int (w_length + 1)) (ty := .int) (C := RX3) (T := TX3) (N := 3) hx hb hts i_X3 tyX3 tyX3_ok nmX3 hown hK hP hD hS 0 rfl rfl 2 (by decide) k25 (fun _ h9 => h9) rfl (by decide +kernel) rfl (by first | rfl | decide) (Nat.le_of_ble_eq_true rfl) dX3_append_78 (fun H locs hP hD hS => ?_)
      have hP : va_P D vwCl (PX3 a0 a1 cyI cyZ N (upd (upd (upd (upd w_numbers (4 * w_length).toNatClampNeg p1) ((4 * w_length) + 1).toNatClampNeg p2) ((4 * w_length) + 2).toNatClampNeg p3) ((4 * w_length) + 3).toNatClampNeg p4) w_most (w_length + 1)) H := hP
      have hD : va_D A (PX3 a0 a1 cyI cyZ N (upd (upd (upd (upd w_numbers (4 * w_length).toNatClampNeg p1) ((4 * w_length) + 1).toNatClampNeg p2) ((4 * w_length) + 2).toNatClampNeg p3) ((4 * w_length) + 3).toNatClampNeg p4) w_most (w_length + 1)) := hD
      refine lv_iload hx hb dX3_append_81 (lv_at hl 1 rfl) ?_
      obtain rfl := Option.some.inj hf
      exact ret _ _ _ _ dX3_append_83 rfl hP hD hS
    · have hf := kif c_15 hf
      refine lv_iconst (v := (-1)) hx hb dX3_append_18 (by decide) ?_
      obtain rfl := Option.some.inj hf
      exact ret _ _ _ _ dX3_append_19 rfl hP hD hS

abbrev rmX3_countOfFirst : Room := { frames := 2, cells := 0, slots := 0, locals := 44 }
set_option maxHeartbeats 4000000 in
set_option maxRecDepth 100000 in
theorem c_X3_countOfFirst (l : Launch) (D : va_G) (cyI cyZ : ClassId) (a0 a1 : Nat) (N : Nat) (w_numbers : Nat → Int32) (w_most : Int32) (w_length : Int32) (p1 : Int32) (o : Int32) (hf : f_X3_countOfFirst p1 N w_numbers w_length = some o) : kMi l yX3_countOfFirst wsX3_countOfFirst rmX3_countOfFirst [.ref a0, .int p1] D (PX3 a0 a1 cyI cyZ N w_numbers w_most w_length) (PX3 a0 a1 cyI cyZ N w_numbers w_most w_length) (kT cyI cyZ) o 0 0 := by
  refine kOf_i (cc := cX3_countOfFirst) (maxL := 4) (ty := .int) (by decide +kernel) rfl (Nat.le_of_ble_eq_true rfl) ?_
  intro p e s m args below meth c A Z ls C0 hP hK hD hA hl ret
  obtain ⟨hx, hb, hr, hml, hown, hts, hlocks⟩ := C0
  have hown : s.vm.findClass RX3 = some m.cls := hown
  have hl : lv_has ls 4 [(0, .ref a0), (1, .int p1)] := hl
  have hS : va_S A s.heap s.heap [] := va_S.rf
  have i_X3 : ∀ w ∈ wsX30, w ∈ wsX3_countOfFirst := by decide +kernel
  have k25 := hts (.fieldLink RX3 25 "RegisterAllocator$Rows" "length" "I") (by decide +kernel)
  rw [f_X3_countOfFirst] at hf
  refine lv_iconst (v := 0) hx hb dX3_countOfFirst_0 (by decide) ?_
  refine lv_istore_n (lv' := [(2, .int 0), (0, .ref a0), (1, .int p1)]) hx hb dX3_countOfFirst_1 rfl hl (by decide) rfl (fun ls hl => ?_)
  refine lv_iconst (v := 0) hx hb dX3_countOfFirst_2 (by decide) ?_
  refine lv_istore_n (lv' := [(3, .int 0), (2, .int 0), (0, .ref a0), (1, .int p1)]) hx hb dX3_countOfFirst_3 rfl hl (by decide) rfl (fun ls hl => ?_)
  have L4 : ∀ (n : Nat) (x3_L4 : Int32) (x2_L4 : Int32) (o9 : Int32) (_ : f_X3_countOfFirst_L4 N w_numbers w_length p1 n x3_L4 x2_L4 = some o9) (H : Heap) (locs : List Loc) (ls : Array Slot), va_P D vwCl (PX3 a0 a1 cyI cyZ N w_numbers w_most w_length) H → va_D A (PX3 a0 a1 cyI cyZ N w_numbers w_most w_length) → va_S A s.heap H locs → lv_has ls 4 [(3, .int x3_L4), (2, .int x2_L4), (0, .ref a0), (1, .int p1)] → (∀ (H : Heap) (locs : List Loc) (ls : Array Slot), va_P D vwCl (PX3 a0 a1 cyI cyZ N w_numbers w_most w_length) H → va_D A (PX3 a0 a1 cyI cyZ N w_numbers w_most w_length) → va_S A s.heap H locs → lv_has ls 4 [(2, .int o9)] → W p l e rmX3_countOfFirst s m args below meth c H locs 0 0 Z (F0 m 31 ls [])) → W p l e rmX3_countOfFirst s m args below meth c H locs 0 0 Z (F0 m 4 ls []) := by
    intro n
    induction n with
    | zero =>
      intro x3_L4 x2_L4 o9 hf
      rw [f_X3_countOfFirst_L4] at hf
      cases hf
    | succ n ih =>
      intro x3_L4 x2_L4 o9 hf H locs ls hP hD hS hl kx
      rw [f_X3_countOfFirst_L4] at hf
      refine lv_iload_n hx hb dX3_countOfFirst_4 rfl (lv_at hl 0 rfl) ?_
      refine lv_aload_n hx hb dX3_countOfFirst_5 rfl (lv_at hl 2 rfl) ?_
      refine va_get (D := D) (ci := 3) (v := .int w_length) (C := RX3) (T := TX3) (N := 3) hx hb hts i_X3 hown hK hP 0 rfl rfl 2 (by decide) k25 (fun _ h9 => h9) rfl dX3_countOfFirst_6 ?_
      refine lv_icmp_ge (tgt := 31) hx hb dX3_countOfFirst_9 (by decide) (fun c_9 => ?_) (fun c_9 => ?_)
      · have hf := kit c_9 hf
        obtain rfl := Option.some.inj hf
        exact kx _ _ _ hP hD hS (lv_sub hl [1] rfl)
      · have hf := kif c_9 hf
        refine lv_aload_n hx hb dX3_countOfFirst_12 rfl (lv_at hl 2 rfl) ?_
        refine lv_iload_n hx hb dX3_countOfFirst_13 rfl (lv_at hl 0 rfl) ?_
        refine lv_iconst (v := 0) hx hb dX3_countOfFirst_14 (by decide) ?_
        obtain ⟨u15, hf15, hf⟩ := kbd hf
        refine kc_Vi (As := [.int x3_L4, .int 0]) (rest := []) (wf := (PX3 a0 a1 cyI cyZ N w_numbers w_most w_length)) (c_X3_at l D cyI cyZ a0 a1 N w_numbers w_most w_length x3_L4 0 u15 hf15) ⟨hx, hb, hml, hown, hts⟩ (cwV 2 hts gX3_countOfFirst_X3_at rfl rfl rfl (by decide +kernel) ⟨Nat.le_of_ble_eq_true rfl, Nat.le_of_ble_eq_true rfl⟩) hK hP hD hS hA [0, 1] [] 2 rfl rfl kR0 rfl (by decide +kernel) rfl rfl rfl rfl hl.1 rfl (Nat.le_of_ble_eq_true rfl) dX3_countOfFirst_15 ⟨Nat.le_of_ble_eq_true rfl, Nat.le_of_ble_eq_true rfl⟩ (fun H locs hP hD hS => ?_)
        refine lv_iload_n hx hb dX3_countOfFirst_18 rfl (lv_at hl 3 rfl) ?_
        refine lv_icmp_ne (tgt := 25) hx hb dX3_countOfFirst_19 (by decide) (fun c_19 => ?_) (fun c_19 => ?_)
        · have hf := kif c_19 hf
          refine lv_iinc (v := (x3_L4 + 1)) (lv' := [(3, .int (x3_L4 + 1)), (2, .int x2_L4), (0, .ref a0), (1, .int p1)]) hx hb dX3_countOfFirst_25 hl (k := 0) rfl rfl (by decide) rfl (fun ls hl => ?_)
          refine lv_goto (tgt := 4) hx hb dX3_countOfFirst_28 (by decide) ?_
          exact ih (x3_L4 + 1) x2_L4 _ hf _ _ _ hP hD hS (lv_sub hl [0, 1, 2, 3] rfl) kx
        · have hf := kit c_19 hf
          refine lv_iinc (v := (x2_L4 + 1)) (lv' := [(2, .int (x2_L4 + 1)), (3, .int x3_L4), (0, .ref a0), (1, .int p1)]) hx hb dX3_countOfFirst_22 hl (k := 1) rfl rfl (by decide) rfl (fun ls hl => ?_)
          refine lv_iinc (v := (x3_L4 + 1)) (lv' := [(3, .int (x3_L4 + 1)), (2, .int (x2_L4 + 1)), (0, .ref a0), (1, .int p1)]) hx hb dX3_countOfFirst_25 hl (k := 1) rfl rfl (by decide) rfl (fun ls hl => ?_)
          refine lv_goto (tgt := 4) hx hb dX3_countOfFirst_28 (by decide) ?_
          exact ih (x3_L4 + 1) (x2_L4 + 1) _ hf _ _ _ hP hD hS (lv_sub hl [0, 1, 2, 3] rfl) kx
  obtain ⟨v4, hf4, hf⟩ := kbd hf
  refine L4 4000 0 0 v4 hf4 _ _ _ hP hD hS (lv_sub hl [0, 1, 2, 3] rfl) (fun H locs ls hP hD hS hl => ?_)
  refine lv_iload_n hx hb dX3_countOfFirst_31 rfl (lv_at hl 0 rfl) ?_
  obtain rfl := Option.some.inj hf
  exact ret _ _ _ _ dX3_countOfFirst_32 rfl hP hD hS
