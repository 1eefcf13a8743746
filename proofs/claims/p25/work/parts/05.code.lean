abbrev rmX1_length : Room := { frames := 0, cells := 0, slots := 0, locals := 0 }
set_option maxHeartbeats 4000000 in
set_option maxRecDepth 100000 in
theorem c_X1_length (l : Launch) (D : va_G) (cyI cyZ : ClassId) (a0 a1 a2 a3 a4 a5 : Nat) (w_kinds : Nat → Int32) (w_firsts : Nat → Int32) (w_seconds : Nat → Int32) (w_ints : Nat → Int32) (w_counting : Nat → Int32) (w_length : Int32) (o : Int32) (hf : f_X1_length w_length = some o) : kMi l yX1_length wsX1_length rmX1_length [.ref a0] D (PX1 a0 a1 a2 a3 a4 a5 cyI cyZ w_kinds w_firsts w_seconds w_ints w_counting w_length) (PX1 a0 a1 a2 a3 a4 a5 cyI cyZ w_kinds w_firsts w_seconds w_ints w_counting w_length) (kT cyI cyZ) o 0 0 := by
  refine kOf_i (cc := cX1_length) (maxL := 1) (ty := .int) (by decide +kernel) rfl (Nat.le_of_ble_eq_true rfl) ?_
  intro p e s m args below meth c A Z ls C0 hP hK hD hA hl ret
  obtain ⟨hx, hb, hr, hml, hown, hts, hlocks⟩ := C0
  have hown : s.vm.findClass RX1 = some m.cls := hown
  have hl : lv_has ls 1 [(0, .ref a0)] := hl
  have hS : va_S A s.heap s.heap [] := va_S.rf
  have i_X1 : ∀ w ∈ wsX10, w ∈ wsX1_length := by decide +kernel
  have k28 := hts (.fieldLink RX1 28 "RegisterAllocator$Code" "length" "I") (by decide +kernel)
  rw [f_X1_length] at hf
  refine lv_aload_n hx hb dX1_length_0 rfl (lv_at hl 0 rfl) ?_
  refine va_get (D := D) (ci := 1) (v := .int w_length) (C := RX1) (T := TX1) (N := 6) hx hb hts i_X1 hown hK hP 0 rfl rfl 5 (by decide) k28 (fun _ h9 => h9) rfl dX1_length_1 ?_
  obtain rfl := Option.some.inj hf
  exact ret _ _ _ _ dX1_length_4 rfl hP hD hS

abbrev rmX1_isFull : Room := { frames := 0, cells := 0, slots := 0, locals := 0 }
set_option maxHeartbeats 4000000 in
set_option maxRecDepth 100000 in
theorem c_X1_isFull (l : Launch) (D : va_G) (cyI cyZ : ClassId) (a0 a1 a2 a3 a4 a5 : Nat) (w_kinds : Nat → Int32) (w_firsts : Nat → Int32) (w_seconds : Nat → Int32) (w_ints : Nat → Int32) (w_counting : Nat → Int32) (w_length : Int32) (o : Int32) (hf : f_X1_isFull w_length = some o) : kMi l yX1_isFull wsX1_isFull rmX1_isFull [.ref a0] D (PX1 a0 a1 a2 a3 a4 a5 cyI cyZ w_kinds w_firsts w_seconds w_ints w_counting w_length) (PX1 a0 a1 a2 a3 a4 a5 cyI cyZ w_kinds w_firsts w_seconds w_ints w_counting w_length) (kT cyI cyZ) o 0 0 := by
  refine kOf_i (cc := cX1_isFull) (maxL := 1) (ty := .boolean) (by decide +kernel) rfl (Nat.le_of_ble_eq_true rfl) ?_
  intro p e s m args below meth c A Z ls C0 hP hK hD hA hl ret
  obtain ⟨hx, hb, hr, hml, hown, hts, hlocks⟩ := C0
  have hown : s.vm.findClass RX1 = some m.cls := hown
  have hl : lv_has ls 1 [(0, .ref a0)] := hl
  have hS : va_S A s.heap s.heap [] := va_S.rf
  have i_X1 : ∀ w ∈ wsX10, w ∈ wsX1_isFull := by decide +kernel
  have k28 := hts (.fieldLink RX1 28 "RegisterAllocator$Code" "length" "I") (by decide +kernel)
  rw [f_X1_isFull] at hf
  refine lv_aload_n hx hb dX1_isFull_0 rfl (lv_at hl 0 rfl) ?_
  refine va_get (D := D) (ci := 1) (v := .int w_length) (C := RX1) (T := TX1) (N := 6) hx hb hts i_X1 hown hK hP 0 rfl rfl 5 (by decide) k28 (fun _ h9 => h9) rfl dX1_isFull_1 ?_
  refine lv_bipush (v := 60) hx hb dX1_isFull_4 (by decide) ?_
  refine lv_icmp_lt (tgt := 13) hx hb dX1_isFull_6 (by decide) (fun c_6 => ?_) (fun c_6 => ?_)
  · have hf := kit c_6 hf
    refine lv_iconst (v := 0) hx hb dX1_isFull_13 (by decide) ?_
    obtain rfl := Option.some.inj hf
    exact ret _ _ _ _ dX1_isFull_14 (znar (Or.inl rfl)) hP hD hS
  · have hf := kif c_6 hf
    refine lv_iconst (v := 1) hx hb dX1_isFull_9 (by decide) ?_
    refine lv_goto (tgt := 14) hx hb dX1_isFull_10 (by decide) ?_
    obtain rfl := Option.some.inj hf
    exact ret _ _ _ _ dX1_isFull_14 (znar (Or.inr rfl)) hP hD hS

abbrev rmX1_has : Room := { frames := 0, cells := 0, slots := 0, locals := 0 }
set_option maxHeartbeats 4000000 in
set_option maxRecDepth 100000 in
theorem c_X1_has (l : Launch) (D : va_G) (cyI cyZ : ClassId) (a0 a1 a2 a3 a4 a5 : Nat) (w_kinds : Nat → Int32) (w_firsts : Nat → Int32) (w_seconds : Nat → Int32) (w_ints : Nat → Int32) (w_counting : Nat → Int32) (w_length : Int32) (p1 : Int32) (o : Int32) (hf : f_X1_has p1 w_length = some o) : kMi l yX1_has wsX1_has rmX1_has [.ref a0, .int p1] D (PX1 a0 a1 a2 a3 a4 a5 cyI cyZ w_kinds w_firsts w_seconds w_ints w_counting w_length) (PX1 a0 a1 a2 a3 a4 a5 cyI cyZ w_kinds w_firsts w_seconds w_ints w_counting w_length) (kT cyI cyZ) o 0 0 := by
  refine kOf_i (cc := cX1_has) (maxL := 2) (ty := .boolean) (by decide +kernel) rfl (Nat.le_of_ble_eq_true rfl) ?_
  intro p e s m args below meth c A Z ls C0 hP hK hD hA hl ret
  obtain ⟨hx, hb, hr, hml, hown, hts, hlocks⟩ := C0
  have hown : s.vm.findClass RX1 = some m.cls := hown
  have hl : lv_has ls 2 [(0, .ref a0), (1, .int p1)] := hl
  have hS : va_S A s.heap s.heap [] := va_S.rf
  have i_X1 : ∀ w ∈ wsX10, w ∈ wsX1_has := by decide +kernel
  have k28 := hts (.fieldLink RX1 28 "RegisterAllocator$Code" "length" "I") (by decide +kernel)
  rw [f_X1_has] at hf
  refine lv_iload_n hx hb dX1_has_0 rfl (lv_at hl 1 rfl) ?_
  refine lv_if_lt (tgt := 16) hx hb dX1_has_1 (by decide) (fun c_1 => ?_) (fun c_1 => ?_)
  · have hf := kit c_1 hf
    refine lv_iconst (v := 0) hx hb dX1_has_16 (by decide) ?_
    obtain rfl := Option.some.inj hf
    exact ret _ _ _ _ dX1_has_17 (znar (Or.inl rfl)) hP hD hS
  · have hf := kif c_1 hf
    refine lv_iload_n hx hb dX1_has_4 rfl (lv_at hl 1 rfl) ?_
    refine lv_aload_n hx hb dX1_has_5 rfl (lv_at hl 0 rfl) ?_
    refine va_get (D := D) (ci := 1) (v := .int w_length) (C := RX1) (T := TX1) (N := 6) hx hb hts i_X1 hown hK hP 0 rfl rfl 5 (by decide) k28 (fun _ h9 => h9) rfl dX1_has_6 ?_
    refine lv_icmp_ge (tgt := 16) hx hb dX1_has_9 (by decide) (fun c_9 => ?_) (fun c_9 => ?_)
    · have hf := kit c_9 hf
      refine lv_iconst (v := 0) hx hb dX1_has_16 (by decide) ?_
      obtain rfl := Option.some.inj hf
      exact ret _ _ _ _ dX1_has_17 (znar (Or.inl rfl)) hP hD hS
    · have hf := kif c_9 hf
      refine lv_iconst (v := 1) hx hb dX1_has_12 (by decide) ?_
      refine lv_goto (tgt := 17) hx hb dX1_has_13 (by decide) ?_
      obtain rfl := Option.some.inj hf
      exact ret _ _ _ _ dX1_has_17 (znar (Or.inr rfl)) hP hD hS

abbrev rmX1_hasValue : Room := { frames := 1, cells := 0, slots := 0, locals := 21 }
set_option maxHeartbeats 4000000 in
set_option maxRecDepth 100000 in
theorem c_X1_hasValue (l : Launch) (D : va_G) (cyI cyZ : ClassId) (a0 a1 a2 a3 a4 a5 : Nat) (w_kinds : Nat → Int32) (w_firsts : Nat → Int32) (w_seconds : Nat → Int32) (w_ints : Nat → Int32) (w_counting : Nat → Int32) (w_length : Int32) (p1 : Int32) (o : Int32) (hf : f_X1_hasValue p1 w_kinds w_length = some o) : kMi l yX1_hasValue wsX1_hasValue rmX1_hasValue [.ref a0, .int p1] D (PX1 a0 a1 a2 a3 a4 a5 cyI cyZ w_kinds w_firsts w_seconds w_ints w_counting w_length) (PX1 a0 a1 a2 a3 a4 a5 cyI cyZ w_kinds w_firsts w_seconds w_ints w_counting w_length) (kT cyI cyZ) o 0 0 := by
  refine kOf_i (cc := cX1_hasValue) (maxL := 2) (ty := .boolean) (by decide +kernel) rfl (Nat.le_of_ble_eq_true rfl) ?_
  intro p e s m args below meth c A Z ls C0 hP hK hD hA hl ret
  obtain ⟨hx, hb, hr, hml, hown, hts, hlocks⟩ := C0
  have hown : s.vm.findClass RX1 = some m.cls := hown
  have hl : lv_has ls 2 [(0, .ref a0), (1, .int p1)] := hl
  have hS : va_S A s.heap s.heap [] := va_S.rf
  have i_X1 : ∀ w ∈ wsX10, w ∈ wsX1_hasValue := by decide +kernel
  have k9 := hts (.fieldLink RX1 9 "RegisterAllocator$Code" "kinds" "[I") (by decide +kernel)
  rw [f_X1_hasValue] at hf
  refine lv_aload_n hx hb dX1_hasValue_0 rfl (lv_at hl 0 rfl) ?_
  refine lv_iload_n hx hb dX1_hasValue_1 rfl (lv_at hl 1 rfl) ?_
  obtain ⟨u2, hf2, hf⟩ := kbd hf
  refine kc_Vi (As := [.int p1]) (rest := []) (wf := (PX1 a0 a1 a2 a3 a4 a5 cyI cyZ w_kinds w_firsts w_seconds w_ints w_counting w_length)) (c_X1_has l D cyI cyZ a0 a1 a2 a3 a4 a5 w_kinds w_firsts w_seconds w_ints w_counting w_length p1 u2 hf2) ⟨hx, hb, hml, hown, hts⟩ (cwV 1 hts gX1_hasValue_X1_has rfl rfl rfl (by decide +kernel) ⟨Nat.le_of_ble_eq_true rfl, Nat.le_of_ble_eq_true rfl⟩) hK hP hD hS hA [0, 1, 2, 3, 4, 5] [] 6 rfl rfl kR0 rfl (by decide +kernel) rfl rfl rfl rfl hl.1 rfl (Nat.le_of_ble_eq_true rfl) dX1_hasValue_2 ⟨Nat.le_of_ble_eq_true rfl, Nat.le_of_ble_eq_true rfl⟩ (fun H locs hP hD hS => ?_)
  refine lv_if_eq (tgt := 23) hx hb dX1_hasValue_5 (by decide) (fun c_5 => ?_) (fun c_5 => ?_)
  · have hf := kit c_5 hf
    refine lv_iconst (v := 0) hx hb dX1_hasValue_23 (by decide) ?_
    obtain rfl := Option.some.inj hf
    exact ret _ _ _ _ dX1_hasValue_24 (znar (Or.inl rfl)) hP hD hS
  · have hf := kif c_5 hf
    refine lv_aload_n hx hb dX1_hasValue_8 rfl (lv_at hl 0 rfl) ?_
    refine va_get (D := D) (ci := 1) (v := .ref a1) (C := RX1) (T := TX1) (N := 6) hx hb hts i_X1 hown hK hP 0 rfl rfl 0 (by decide) k9 (fun _ h9 => h9) rfl dX1_hasValue_9 ?_
    refine lv_iload_n hx hb dX1_hasValue_12 rfl (lv_at hl 1 rfl) ?_
    obtain ⟨h_13, hf⟩ := rdc_some hf
    refine va_iald hx hb hK hP 1 0 rfl rfl h_13 dX1_hasValue_13 ?_
    refine lv_bipush (v := 6) hx hb dX1_hasValue_14 (by decide) ?_
    refine lv_icmp_eq (tgt := 23) hx hb dX1_hasValue_16 (by decide) (fun c_16 => ?_) (fun c_16 => ?_)
    · have hf := kit c_16 hf
      refine lv_iconst (v := 0) hx hb dX1_hasValue_23 (by decide) ?_
      obtain rfl := Option.some.inj hf
      exact ret _ _ _ _ dX1_hasValue_24 (znar (Or.inl rfl)) hP hD hS
    · have hf := kif c_16 hf
      refine lv_iconst (v := 1) hx hb dX1_hasValue_19 (by decide) ?_
      refine lv_goto (tgt := 24) hx hb dX1_hasValue_20 (by decide) ?_
      obtain rfl := Option.some.inj hf
      exact ret _ _ _ _ dX1_hasValue_24 (znar (Or.inr rfl)) hP hD hS

abbrev rmX1_isConst : Room := { frames := 0, cells := 0, slots := 0, locals := 0 }
set_option maxHeartbeats 4000000 in
set_option maxRecDepth 100000 in
theorem c_X1_isConst (l : Launch) (D : va_G) (cyI cyZ : ClassId) (a0 a1 a2 a3 a4 a5 : Nat) (w_kinds : Nat → Int32) (w_firsts : Nat → Int32) (w_seconds : Nat → Int32) (w_ints : Nat → Int32) (w_counting : Nat → Int32) (w_length : Int32) (p1 : Int32) (o : Int32) (hf : f_X1_isConst p1 w_kinds w_length = some o) : kMi l yX1_isConst wsX1_isConst rmX1_isConst [.ref a0, .int p1] D (PX1 a0 a1 a2 a3 a4 a5 cyI cyZ w_kinds w_firsts w_seconds w_ints w_counting w_length) (PX1 a0 a1 a2 a3 a4 a5 cyI cyZ w_kinds w_firsts w_seconds w_ints w_counting w_length) (kT cyI cyZ) o 0 0 := by
  refine kOf_i (cc := cX1_isConst) (maxL := 2) (ty := .boolean) (by decide +kernel) rfl (Nat.le_of_ble_eq_true rfl) ?_
  intro p e s m args below meth c A Z ls C0 hP hK hD hA hl ret
  obtain ⟨hx, hb, hr, hml, hown, hts, hlocks⟩ := C0
  have hown : s.vm.findClass RX1 = some m.cls := hown
  have hl : lv_has ls 2 [(0, .ref a0), (1, .int p1)] := hl
  have hS : va_S A s.heap s.heap [] := va_S.rf
  have i_X1 : ∀ w ∈ wsX10, w ∈ wsX1_isConst := by decide +kernel
  have k28 := hts (.fieldLink RX1 28 "RegisterAllocator$Code" "length" "I") (by decide +kernel)
  have k9 := hts (.fieldLink RX1 9 "RegisterAllocator$Code" "kinds" "[I") (by decide +kernel)
  rw [f_X1_isConst] at hf
  refine lv_iload_n hx hb dX1_isConst_0 rfl (lv_at hl 1 rfl) ?_
  refine lv_if_lt (tgt := 25) hx hb dX1_isConst_1 (by decide) (fun c_1 => ?_) (fun c_1 => ?_)
  · have hf := kit c_1 hf
    refine lv_iconst (v := 0) hx hb dX1_isConst_25 (by decide) ?_
    obtain rfl := Option.some.inj hf
    exact ret _ _ _ _ dX1_isConst_26 (znar (Or.inl rfl)) hP hD hS
  · have hf := kif c_1 hf
    refine lv_iload_n hx hb dX1_isConst_4 rfl (lv_at hl 1 rfl) ?_
    refine lv_aload_n hx hb dX1_isConst_5 rfl (lv_at hl 0 rfl) ?_
    refine va_get (D := D) (ci := 1) (v := .int w_length) (C := RX1) (T := TX1) (N := 6) hx hb hts i_X1 hown hK hP 0 rfl rfl 5 (by decide) k28 (fun _ h9 => h9) rfl dX1_isConst_6 ?_
    refine lv_icmp_ge (tgt := 25) hx hb dX1_isConst_9 (by decide) (fun c_9 => ?_) (fun c_9 => ?_)
    · have hf := kit c_9 hf
      refine lv_iconst (v := 0) hx hb dX1_isConst_25 (by decide) ?_
      obtain rfl := Option.some.inj hf
      exact ret _ _ _ _ dX1_isConst_26 (znar (Or.inl rfl)) hP hD hS
    · have hf := kif c_9 hf
      refine lv_aload_n hx hb dX1_isConst_12 rfl (lv_at hl 0 rfl) ?_
      refine va_get (D := D) (ci := 1) (v := .ref a1) (C := RX1) (T := TX1) (N := 6) hx hb hts i_X1 hown hK hP 0 rfl rfl 0 (by decide) k9 (fun _ h9 => h9) rfl dX1_isConst_13 ?_
      refine lv_iload_n hx hb dX1_isConst_16 rfl (lv_at hl 1 rfl) ?_
      obtain ⟨h_17, hf⟩ := rdc_some hf
      refine va_iald hx hb hK hP 1 0 rfl rfl h_17 dX1_isConst_17 ?_
      refine lv_if_ne (tgt := 25) hx hb dX1_isConst_18 (by decide) (fun c_18 => ?_) (fun c_18 => ?_)
      · have hf := kif c_18 hf
        refine lv_iconst (v := 0) hx hb dX1_isConst_25 (by decide) ?_
        obtain rfl := Option.some.inj hf
        exact ret _ _ _ _ dX1_isConst_26 (znar (Or.inl rfl)) hP hD hS
      · have hf := kit c_18 hf
        refine lv_iconst (v := 1) hx hb dX1_isConst_21 (by decide) ?_
        refine lv_goto (tgt := 26) hx hb dX1_isConst_22 (by decide) ?_
        obtain rfl := Option.some.inj hf
        exact ret _ _ _ _ dX1_isConst_26 (znar (Or.inr rfl)) hP hD hS

abbrev rmX1_kindOf : Room := { frames := 1, cells := 0, slots := 0, locals := 21 }
set_option maxHeartbeats 4000000 in
set_option maxRecDepth 100000 in
theorem c_X1_kindOf (l : Launch) (D : va_G) (cyI cyZ : ClassId) (a0 a1 a2 a3 a4 a5 : Nat) (w_kinds : Nat → Int32) (w_firsts : Nat → Int32) (w_seconds : Nat → Int32) (w_ints : Nat → Int32) (w_counting : Nat → Int32) (w_length : Int32) (p1 : Int32) (o : Int32) (hf : f_X1_kindOf p1 w_kinds w_length = some o) : kMi l yX1_kindOf wsX1_kindOf rmX1_kindOf [.ref a0, .int p1] D (PX1 a0 a1 a2 a3 a4 a5 cyI cyZ w_kinds w_firsts w_seconds w_ints w_counting w_length) (PX1 a0 a1 a2 a3 a4 a5 cyI cyZ w_kinds w_firsts w_seconds w_ints w_counting w_length) (kT cyI cyZ) o 0 0 := by
  refine kOf_i (cc := cX1_kindOf) (maxL := 2) (ty := .int) (by decide +kernel) rfl (Nat.le_of_ble_eq_true rfl) ?_
  intro p e s m args below meth c A Z ls C0 hP hK hD hA hl ret
  obtain ⟨hx, hb, hr, hml, hown, hts, hlocks⟩ := C0
  have hown : s.vm.findClass RX1 = some m.cls := hown
  have hl : lv_has ls 2 [(0, .ref a0), (1, .int p1)] := hl
  have hS : va_S A s.heap s.heap [] := va_S.rf
  have i_X1 : ∀ w ∈ wsX10, w ∈ wsX1_kindOf := by decide +kernel
  have k9 := hts (.fieldLink RX1 9 "RegisterAllocator$Code" "kinds" "[I") (by decide +kernel)
  rw [f_X1_kindOf] at hf
  refine lv_aload_n hx hb dX1_kindOf_0 rfl (lv_at hl 0 rfl) ?_
  refine lv_iload_n hx hb dX1_kindOf_1 rfl (lv_at hl 1 rfl) ?_
  obtain ⟨u2, hf2, hf⟩ := kbd hf
  refine kc_Vi (As := [.int p1]) (rest := []) (wf := (PX1 a0 a1 a2 a3 a4 a5 cyI cyZ w_kinds w_firsts w_seconds w_ints w_counting w_length)) (c_X1_has l D cyI cyZ a0 a1 a2 a3 a4 a5 w_kinds w_firsts w_seconds w_ints w_counting w_length p1 u2 hf2) ⟨hx, hb, hml, hown, hts⟩ (cwV 1 hts gX1_kindOf_X1_has rfl rfl rfl (by decide +kernel) ⟨Nat.le_of_ble_eq_true rfl, Nat.le_of_ble_eq_true rfl⟩) hK hP hD hS hA [0, 1, 2, 3, 4, 5] [] 6 rfl rfl kR0 rfl (by decide +kernel) rfl rfl rfl rfl hl.1 rfl (Nat.le_of_ble_eq_true rfl) dX1_kindOf_2 ⟨Nat.le_of_ble_eq_true rfl, Nat.le_of_ble_eq_true rfl⟩ (fun H locs hP hD hS => ?_)
  refine lv_if_eq (tgt := 17) hx hb dX1_kindOf_5 (by decide) (fun c_5 => ?_) (fun c_5 => ?_)
  · have hf := kit c_5 hf
    refine lv_iconst (v := (-1)) hx hb dX1_kindOf_17 (by decide) ?_
    obtain rfl := Option.some.inj hf
    exact ret _ _ _ _ dX1_kindOf_18 rfl hP hD hS
  · have hf := kif c_5 hf
    refine lv_aload_n hx hb dX1_kindOf_8 rfl (lv_at hl 0 rfl) ?_
    refine va_get (D := D) (ci := 1) (v := .ref a1) (C := RX1) (T := TX1) (N := 6) hx hb hts i_X1 hown hK hP 0 rfl rfl 0 (by decide) k9 (fun _ h9 => h9) rfl dX1_kindOf_9 ?_
    refine lv_iload_n hx hb dX1_kindOf_12 rfl (lv_at hl 1 rfl) ?_
    obtain ⟨h_13, hf⟩ := rdc_some hf
    refine va_iald hx hb hK hP 1 0 rfl rfl h_13 dX1_kindOf_13 ?_
    refine lv_goto (tgt := 18) hx hb dX1_kindOf_14 (by decide) ?_
    obtain rfl := Option.some.inj hf
    exact ret _ _ _ _ dX1_kindOf_18 rfl hP hD hS

abbrev rmX1_firstOf : Room := { frames := 1, cells := 0, slots := 0, locals := 21 }
set_option maxHeartbeats 4000000 in
set_option maxRecDepth 100000 in
theorem c_X1_firstOf (l : Launch) (D : va_G) (cyI cyZ : ClassId) (a0 a1 a2 a3 a4 a5 : Nat) (w_kinds : Nat → Int32) (w_firsts : Nat → Int32) (w_seconds : Nat → Int32) (w_ints : Nat → Int32) (w_counting : Nat → Int32) (w_length : Int32) (p1 : Int32) (o : Int32) (hf : f_X1_firstOf p1 w_firsts w_length = some o) : kMi l yX1_firstOf wsX1_firstOf rmX1_firstOf [.ref a0, .int p1] D (PX1 a0 a1 a2 a3 a4 a5 cyI cyZ w_kinds w_firsts w_seconds w_ints w_counting w_length) (PX1 a0 a1 a2 a3 a4 a5 cyI cyZ w_kinds w_firsts w_seconds w_ints w_counting w_length) (kT cyI cyZ) o 0 0 := by
  refine kOf_i (cc := cX1_firstOf) (maxL := 2) (ty := .int) (by decide +kernel) rfl (Nat.le_of_ble_eq_true rfl) ?_
  intro p e s m args below meth c A Z ls C0 hP hK hD hA hl ret
  obtain ⟨hx, hb, hr, hml, hown, hts, hlocks⟩ := C0
  have hown : s.vm.findClass RX1 = some m.cls := hown
  have hl : lv_has ls 2 [(0, .ref a0), (1, .int p1)] := hl
  have hS : va_S A s.heap s.heap [] := va_S.rf
  have i_X1 : ∀ w ∈ wsX10, w ∈ wsX1_firstOf := by decide +kernel
  have k15 := hts (.fieldLink RX1 15 "RegisterAllocator$Code" "firsts" "[I") (by decide +kernel)
  rw [f_X1_firstOf] at hf
  refine lv_aload_n hx hb dX1_firstOf_0 rfl (lv_at hl 0 rfl) ?_
  refine lv_iload_n hx hb dX1_firstOf_1 rfl (lv_at hl 1 rfl) ?_
  obtain ⟨u2, hf2, hf⟩ := kbd hf
  refine kc_Vi (As := [.int p1]) (rest := []) (wf := (PX1 a0 a1 a2 a3 a4 a5 cyI cyZ w_kinds w_firsts w_seconds w_ints w_counting w_length)) (c_X1_has l D cyI cyZ a0 a1 a2 a3 a4 a5 w_kinds w_firsts w_seconds w_ints w_counting w_length p1 u2 hf2) ⟨hx, hb, hml, hown, hts⟩ (cwV 1 hts gX1_firstOf_X1_has rfl rfl rfl (by decide +kernel) ⟨Nat.le_of_ble_eq_true rfl, Nat.le_of_ble_eq_true rfl⟩) hK hP hD hS hA [0, 1, 2, 3, 4, 5] [] 6 rfl rfl kR0 rfl (by decide +kernel) rfl rfl rfl rfl hl.1 rfl (Nat.le_of_ble_eq_true rfl) dX1_firstOf_2 ⟨Nat.le_of_ble_eq_true rfl, Nat.le_of_ble_eq_true rfl⟩ (fun H locs hP hD hS => ?_)
  refine lv_if_eq (tgt := 17) hx hb dX1_firstOf_5 (by decide) (fun c_5 => ?_) (fun c_5 => ?_)
  · have hf := kit c_5 hf
    refine lv_iconst (v := (-1)) hx hb dX1_firstOf_17 (by decide) ?_
    obtain rfl := Option.some.inj hf
    exact ret _ _ _ _ dX1_firstOf_18 rfl hP hD hS
  · have hf := kif c_5 hf
    refine lv_aload_n hx hb dX1_firstOf_8 rfl (lv_at hl 0 rfl) ?_
    refine va_get (D := D) (ci := 1) (v := .ref a2) (C := RX1) (T := TX1) (N := 6) hx hb hts i_X1 hown hK hP 0 rfl rfl 1 (by decide) k15 (fun _ h9 => h9) rfl dX1_firstOf_9 ?_
    refine lv_iload_n hx hb dX1_firstOf_12 rfl (lv_at hl 1 rfl) ?_
    obtain ⟨h_13, hf⟩ := rdc_some hf
    refine va_iald hx hb hK hP 2 0 rfl rfl h_13 dX1_firstOf_13 ?_
    refine lv_goto (tgt := 18) hx hb dX1_firstOf_14 (by decide) ?_
    obtain rfl := Option.some.inj hf
    exact ret _ _ _ _ dX1_firstOf_18 rfl hP hD hS

abbrev rmX1_secondOf : Room := { frames := 1, cells := 0, slots := 0, locals := 21 }
set_option maxHeartbeats 4000000 in
set_option maxRecDepth 100000 in
theorem c_X1_secondOf (l : Launch) (D : va_G) (cyI cyZ : ClassId) (a0 a1 a2 a3 a4 a5 : Nat) (w_kinds : Nat → Int32) (w_firsts : Nat → Int32) (w_seconds : Nat → Int32) (w_ints : Nat → Int32) (w_counting : Nat → Int32) (w_length : Int32) (p1 : Int32) (o : Int32) (hf : f_X1_secondOf p1 w_seconds w_length = some o) : kMi l yX1_secondOf wsX1_secondOf rmX1_secondOf [.ref a0, .int p1] D (PX1 a0 a1 a2 a3 a4 a5 cyI cyZ w_kinds w_firsts w_seconds w_ints w_counting w_length) (PX1 a0 a1 a2 a3 a4 a5 cyI cyZ w_kinds w_firsts w_seconds w_ints w_counting w_length) (kT cyI cyZ) o 0 0 := by
  refine kOf_i (cc := cX1_secondOf) (maxL := 2) (ty := .int) (by decide +kernel) rfl (Nat.le_of_ble_eq_true rfl) ?_
  intro p e s m args below meth c A Z ls C0 hP hK hD hA hl ret
  obtain ⟨hx, hb, hr, hml, hown, hts, hlocks⟩ := C0
  have hown : s.vm.findClass RX1 = some m.cls := hown
  have hl : lv_has ls 2 [(0, .ref a0), (1, .int p1)] := hl
  have hS : va_S A s.heap s.heap [] := va_S.rf
  have i_X1 : ∀ w ∈ wsX10, w ∈ wsX1_secondOf := by decide +kernel
  have k18 := hts (.fieldLink RX1 18 "RegisterAllocator$Code" "seconds" "[I") (by decide +kernel)
  rw [f_X1_secondOf] at hf
  refine lv_aload_n hx hb dX1_secondOf_0 rfl (lv_at hl 0 rfl) ?_
  refine lv_iload_n hx hb dX1_secondOf_1 rfl (lv_at hl 1 rfl) ?_
  obtain ⟨u2, hf2, hf⟩ := kbd hf
  refine kc_Vi (As := [.int p1]) (rest := []) (wf := (PX1 a0 a1 a2 a3 a4 a5 cyI cyZ w_kinds w_firsts w_seconds w_ints w_counting w_length)) (c_X1_has l D cyI cyZ a0 a1 a2 a3 a4 a5 w_kinds w_firsts w_seconds w_ints w_counting w_length p1 u2 hf2) ⟨hx, hb, hml, hown, hts⟩ (cwV 1 hts gX1_secondOf_X1_has rfl rfl rfl (by decide +kernel) ⟨Nat.le_of_ble_eq_true rfl, Nat.le_of_ble_eq_true rfl⟩) hK hP hD hS hA [0, 1, 2, 3, 4, 5] [] 6 rfl rfl kR0 rfl (by decide +kernel) rfl rfl rfl rfl hl.1 rfl (Nat.le_of_ble_eq_true rfl) dX1_secondOf_2 ⟨Nat.le_of_ble_eq_true rfl, Nat.le_of_ble_eq_true rfl⟩ (fun H locs hP hD hS => ?_)
  refine lv_if_eq (tgt := 17) hx hb dX1_secondOf_5 (by decide) (fun c_5 => ?_) (fun c_5 => ?_)
  · have hf := kit c_5 hf
    refine lv_iconst (v := (-1)) hx hb dX1_secondOf_17 (by decide) ?_
    obtain rfl := Option.some.inj hf
    exact ret _ _ _ _ dX1_secondOf_18 rfl hP hD hS
  · have hf := kif c_5 hf
    refine lv_aload_n hx hb dX1_secondOf_8 rfl (lv_at hl 0 rfl) ?_
    refine va_get (D := D) (ci := 1) (v := .ref a3) (C := RX1) (T := TX1) (N := 6) hx hb hts i_X1 hown hK hP 0 rfl rfl 2 (by decide) k18 (fun _ h9 => h9) rfl dX1_secondOf_9 ?_
    refine lv_iload_n hx hb dX1_secondOf_12 rfl (lv_at hl 1 rfl) ?_
    obtain ⟨h_13, hf⟩ := rdc_some hf
    refine va_iald hx hb hK hP 3 0 rfl rfl h_13 dX1_secondOf_13 ?_
    refine lv_goto (tgt := 18) hx hb dX1_secondOf_14 (by decide) ?_
    obtain rfl := Option.some.inj hf
    exact ret _ _ _ _ dX1_secondOf_18 rfl hP hD hS

abbrev rmX1_intOf : Room := { frames := 1, cells := 0, slots := 0, locals := 21 }
set_option maxHeartbeats 4000000 in
set_option maxRecDepth 100000 in
theorem c_X1_intOf (l : Launch) (D : va_G) (cyI cyZ : ClassId) (a0 a1 a2 a3 a4 a5 : Nat) (w_kinds : Nat → Int32) (w_firsts : Nat → Int32) (w_seconds : Nat → Int32) (w_ints : Nat → Int32) (w_counting : Nat → Int32) (w_length : Int32) (p1 : Int32) (o : Int32) (hf : f_X1_intOf p1 w_ints w_length = some o) : kMi l yX1_intOf wsX1_intOf rmX1_intOf [.ref a0, .int p1] D (PX1 a0 a1 a2 a3 a4 a5 cyI cyZ w_kinds w_firsts w_seconds w_ints w_counting w_length) (PX1 a0 a1 a2 a3 a4 a5 cyI cyZ w_kinds w_firsts w_seconds w_ints w_counting w_length) (kT cyI cyZ) o 0 0 := by
  refine kOf_i (cc := cX1_intOf) (maxL := 2) (ty := .int) (by decide +kernel) rfl (Nat.le_of_ble_eq_true rfl) ?_
  intro p e s m args below meth c A Z ls C0 hP hK hD hA hl ret
  obtain ⟨hx, hb, hr, hml, hown, hts, hlocks⟩ := C0
  have hown : s.vm.findClass RX1 = some m.cls := hown
  have hl : lv_has ls 2 [(0, .ref a0), (1, .int p1)] := hl
  have hS : va_S A s.heap s.heap [] := va_S.rf
  have i_X1 : ∀ w ∈ wsX10, w ∈ wsX1_intOf := by decide +kernel
  have k21 := hts (.fieldLink RX1 21 "RegisterAllocator$Code" "ints" "[I") (by decide +kernel)
  rw [f_X1_intOf] at hf
  refine lv_aload_n hx hb dX1_intOf_0 rfl (lv_at hl 0 rfl) ?_
  refine lv_iload_n hx hb dX1_intOf_1 rfl (lv_at hl 1 rfl) ?_
  obtain ⟨u2, hf2, hf⟩ := kbd hf
  refine kc_Vi (As := [.int p1]) (rest := []) (wf := (PX1 a0 a1 a2 a3 a4 a5 cyI cyZ w_kinds w_firsts w_seconds w_ints w_counting w_length)) (c_X1_has l D cyI cyZ a0 a1 a2 a3 a4 a5 w_kinds w_firsts w_seconds w_ints w_counting w_length p1 u2 hf2) ⟨hx, hb, hml, hown, hts⟩ (cwV 1 hts gX1_intOf_X1_has rfl rfl rfl (by decide +kernel) ⟨Nat.le_of_ble_eq_true rfl, Nat.le_of_ble_eq_true rfl⟩) hK hP hD hS hA [0, 1, 2, 3, 4, 5] [] 6 rfl rfl kR0 rfl (by decide +kernel) rfl rfl rfl rfl hl.1 rfl (Nat.le_of_ble_eq_true rfl) dX1_intOf_2 ⟨Nat.le_of_ble_eq_true rfl, Nat.le_of_ble_eq_true rfl⟩ (fun H locs hP hD hS => ?_)
  refine lv_if_eq (tgt := 17) hx hb dX1_intOf_5 (by decide) (fun c_5 => ?_) (fun c_5 => ?_)
  · have hf := kit c_5 hf
    refine lv_iconst (v := 0) hx hb dX1_intOf_17 (by decide) ?_
    obtain rfl := Option.some.inj hf
    exact ret _ _ _ _ dX1_intOf_18 rfl hP hD hS
  · have hf := kif c_5 hf
    refine lv_aload_n hx hb dX1_intOf_8 rfl (lv_at hl 0 rfl) ?_
    refine va_get (D := D) (ci := 1) (v := .ref a4) (C := RX1) (T := TX1) (N := 6) hx hb hts i_X1 hown hK hP 0 rfl rfl 3 (by decide) k21 (fun _ h9 => h9) rfl dX1_intOf_9 ?_
    refine lv_iload_n hx hb dX1_intOf_12 rfl (lv_at hl 1 rfl) ?_
    obtain ⟨h_13, hf⟩ := rdc_some hf
    refine va_iald hx hb hK hP 4 0 rfl rfl h_13 dX1_intOf_13 ?_
    refine lv_goto (tgt := 18) hx hb dX1_intOf_14 (by decide) ?_
    obtain rfl := Option.some.inj hf
    exact ret _ _ _ _ dX1_intOf_18 rfl hP hD hS

abbrev rmX1_isCounting : Room := { frames := 1, cells := 0, slots := 0, locals := 21 }
set_option maxHeartbeats 4000000 in
set_option maxRecDepth 100000 in
theorem c_X1_isCounting (l : Launch) (D : va_G) (cyI cyZ : ClassId) (a0 a1 a2 a3 a4 a5 : Nat) (w_kinds : Nat → Int32) (w_firsts : Nat → Int32) (w_seconds : Nat → Int32) (w_ints : Nat → Int32) (w_counting : Nat → Int32) (w_length : Int32) (p1 : Int32) (o : Int32) (hf : f_X1_isCounting p1 w_counting w_length = some o) : kMi l yX1_isCounting wsX1_isCounting rmX1_isCounting [.ref a0, .int p1] D (PX1 a0 a1 a2 a3 a4 a5 cyI cyZ w_kinds w_firsts w_seconds w_ints w_counting w_length) (PX1 a0 a1 a2 a3 a4 a5 cyI cyZ w_kinds w_firsts w_seconds w_ints w_counting w_length) (kT cyI cyZ) o 0 0 := by
  refine kOf_i (cc := cX1_isCounting) (maxL := 2) (ty := .boolean) (by decide +kernel) rfl (Nat.le_of_ble_eq_true rfl) ?_
  intro p e s m args below meth c A Z ls C0 hP hK hD hA hl ret
  obtain ⟨hx, hb, hr, hml, hown, hts, hlocks⟩ := C0
  have hown : s.vm.findClass RX1 = some m.cls := hown
  have hl : lv_has ls 2 [(0, .ref a0), (1, .int p1)] := hl
  have hS : va_S A s.heap s.heap [] := va_S.rf
  have i_X1 : ∀ w ∈ wsX10, w ∈ wsX1_isCounting := by decide +kernel
  have k24 := hts (.fieldLink RX1 24 "RegisterAllocator$Code" "counting" "[Z") (by decide +kernel)
  rw [f_X1_isCounting] at hf
  refine lv_aload_n hx hb dX1_isCounting_0 rfl (lv_at hl 0 rfl) ?_
  refine lv_iload_n hx hb dX1_isCounting_1 rfl (lv_at hl 1 rfl) ?_
  obtain ⟨u2, hf2, hf⟩ := kbd hf
  refine kc_Vi (As := [.int p1]) (rest := []) (wf := (PX1 a0 a1 a2 a3 a4 a5 cyI cyZ w_kinds w_firsts w_seconds w_ints w_counting w_length)) (c_X1_has l D cyI cyZ a0 a1 a2 a3 a4 a5 w_kinds w_firsts w_seconds w_ints w_counting w_length p1 u2 hf2) ⟨hx, hb, hml, hown, hts⟩ (cwV 1 hts gX1_isCounting_X1_has rfl rfl rfl (by decide +kernel) ⟨Nat.le_of_ble_eq_true rfl, Nat.le_of_ble_eq_true rfl⟩) hK hP hD hS hA [0, 1, 2, 3, 4, 5] [] 6 rfl rfl kR0 rfl (by decide +kernel) rfl rfl rfl rfl hl.1 rfl (Nat.le_of_ble_eq_true rfl) dX1_isCounting_2 ⟨Nat.le_of_ble_eq_true rfl, Nat.le_of_ble_eq_true rfl⟩ (fun H locs hP hD hS => ?_)
  refine lv_if_eq (tgt := 21) hx hb dX1_isCounting_5 (by decide) (fun c_5 => ?_) (fun c_5 => ?_)
  · have hf := kit c_5 hf
    refine lv_iconst (v := 0) hx hb dX1_isCounting_21 (by decide) ?_
    obtain rfl := Option.some.inj hf
    exact ret _ _ _ _ dX1_isCounting_22 (znar (Or.inl rfl)) hP hD hS
  · have hf := kif c_5 hf
    refine lv_aload_n hx hb dX1_isCounting_8 rfl (lv_at hl 0 rfl) ?_
    refine va_get (D := D) (ci := 1) (v := .ref a5) (C := RX1) (T := TX1) (N := 6) hx hb hts i_X1 hown hK hP 0 rfl rfl 4 (by decide) k24 (fun _ h9 => h9) rfl dX1_isCounting_9 ?_
    refine lv_iload_n hx hb dX1_isCounting_12 rfl (lv_at hl 1 rfl) ?_
    obtain ⟨h_13, hf⟩ := rdc_some hf
    refine va_zald hx hb hK hP 5 1 rfl rfl h_13 dX1_isCounting_13 ?_
    refine lv_if_eq (tgt := 21) hx hb dX1_isCounting_14 (by decide) (fun c_14 => ?_) (fun c_14 => ?_)
    · have hf := kit c_14 hf
      refine lv_iconst (v := 0) hx hb dX1_isCounting_21 (by decide) ?_
      obtain rfl := Option.some.inj hf
      exact ret _ _ _ _ dX1_isCounting_22 (znar (Or.inl rfl)) hP hD hS
    · have hf := kif c_14 hf
      refine lv_iconst (v := 1) hx hb dX1_isCounting_17 (by decide) ?_
      refine lv_goto (tgt := 22) hx hb dX1_isCounting_18 (by decide) ?_
      obtain rfl := Option.some.inj hf
      exact ret _ _ _ _ dX1_isCounting_22 (znar (Or.inr rfl)) hP hD hS

abbrev rmX1_markCounting : Room := { frames := 1, cells := 0, slots := 0, locals := 21 }
set_option maxHeartbeats 4000000 in
set_option maxRecDepth 100000 in
theorem c_X1_markCounting (l : Launch) (D : va_G) (cyI cyZ : ClassId) (a0 a1 a2 a3 a4 a5 : Nat) (w_kinds : Nat → Int32) (w_firsts : Nat → Int32) (w_seconds : Nat → Int32) (w_ints : Nat → Int32) (w_counting : Nat → Int32) (w_length : Int32) (p1 : Int32) (o : (Nat → Int32)) (hf : f_X1_markCounting p1 w_counting w_length = some o) : kMv l yX1_markCounting wsX1_markCounting rmX1_markCounting [.ref a0, .int p1] D (PX1 a0 a1 a2 a3 a4 a5 cyI cyZ w_kinds w_firsts w_seconds w_ints w_counting w_length) (PX1 a0 a1 a2 a3 a4 a5 cyI cyZ w_kinds w_firsts w_seconds w_ints o w_length) (kT cyI cyZ) 0 0 := by
  refine kOf_v (cc := cX1_markCounting) (maxL := 2) (by decide +kernel) rfl (Nat.le_of_ble_eq_true rfl) ?_
  intro p e s m args below meth c A Z ls C0 hP hK hD hA hl ret
  obtain ⟨hx, hb, hr, hml, hown, hts, hlocks⟩ := C0
  have hown : s.vm.findClass RX1 = some m.cls := hown
  have hl : lv_has ls 2 [(0, .ref a0), (1, .int p1)] := hl
  have hS : va_S A s.heap s.heap [] := va_S.rf
  have i_X1 : ∀ w ∈ wsX10, w ∈ wsX1_markCounting := by decide +kernel
  have k24 := hts (.fieldLink RX1 24 "RegisterAllocator$Code" "counting" "[Z") (by decide +kernel)
  rw [f_X1_markCounting] at hf
  refine lv_aload_n hx hb dX1_markCounting_0 rfl (lv_at hl 0 rfl) ?_
  refine lv_iload_n hx hb dX1_markCounting_1 rfl (lv_at hl 1 rfl) ?_
  obtain ⟨u2, hf2, hf⟩ := kbd hf
  refine kc_Vi (As := [.int p1]) (rest := []) (wf := (PX1 a0 a1 a2 a3 a4 a5 cyI cyZ w_kinds w_firsts w_seconds w_ints w_counting w_length)) (c_X1_has l D cyI cyZ a0 a1 a2 a3 a4 a5 w_kinds w_firsts w_seconds w_ints w_counting w_length p1 u2 hf2) ⟨hx, hb, hml, hown, hts⟩ (cwV 1 hts gX1_markCounting_X1_has rfl rfl rfl (by decide +kernel) ⟨Nat.le_of_ble_eq_true rfl, Nat.le_of_ble_eq_true rfl⟩) hK hP hD hS hA [0, 1, 2, 3, 4, 5] [] 6 rfl rfl kR0 rfl (by decide +kernel) rfl rfl rfl rfl hl.1 rfl (Nat.le_of_ble_eq_true rfl) dX1_markCounting_2 ⟨Nat.le_of_ble_eq_true rfl, Nat.le_of_ble_eq_true rfl⟩ (fun H locs hP hD hS => ?_)
  refine lv_if_eq (tgt := 15) hx hb dX1_markCounting_5 (by decide) (fun c_5 => ?_) (fun c_5 => ?_)
  · have hf := kit c_5 hf
    obtain rfl := Option.some.inj hf
    exact ret _ _ _ _ dX1_markCounting_15 hP hD hS
  · have hf := kif c_5 hf
    refine lv_aload_n hx hb dX1_markCounting_8 rfl (lv_at hl 0 rfl) ?_
    refine va_get (D := D) (ci := 1) (v := .ref a5) (C := RX1) (T := TX1) (N := 6) hx hb hts i_X1 hown hK hP 0 rfl rfl 4 (by decide) k24 (fun _ h9 => h9) rfl dX1_markCounting_9 ?_
    refine lv_iload_n hx hb dX1_markCounting_12 rfl (lv_at hl 1 rfl) ?_
    refine lv_iconst (v := 1) hx hb dX1_markCounting_13 (by decide) ?_
    obtain ⟨h_14, hf⟩ := rdc_some hf
    refine kc_zast hx hb hK hP hD hS 5 1 rfl rfl knar1 h_14 dX1_markCounting_14 (fun H locs hP hD hS => ?_)
    have hP : va_P D vwCl (PX1 a0 a1 a2 a3 a4 a5 cyI cyZ w_kinds w_firsts w_seconds w_ints (upd w_counting p1.toNatClampNeg 1) w_length) H := hP
    have hD : va_D A (PX1 a0 a1 a2 a3 a4 a5 cyI cyZ w_kinds w_firsts w_seconds w_ints (upd w_counting p1.toNatClampNeg 1) w_length) := hD
    obtain rfl := Option.some.inj hf
    exact ret _ _ _ _ dX1_markCounting_15 hP hD hS

abbrev rmX1_findCounting : Room := { frames := 2, cells := 0, slots := 0, locals := 42 }
set_option maxHeartbeats 4000000 in
set_option maxRecDepth 100000 in
theorem c_X1_findCounting (l : Launch) (D : va_G) (cyI cyZ : ClassId) (a0 a1 a2 a3 a4 a5 : Nat) (w_kinds : Nat → Int32) (w_firsts : Nat → Int32) (w_seconds : Nat → Int32) (w_ints : Nat → Int32) (w_counting : Nat → Int32) (w_length : Int32) (o : (Nat → Int32)) (hf : f_X1_findCounting w_kinds w_firsts w_seconds w_counting w_length = some o) : kMv l yX1_findCounting wsX1_findCounting rmX1_findCounting [.ref a0] D (PX1 a0 a1 a2 a3 a4 a5 cyI cyZ w_kinds w_firsts w_seconds w_ints w_counting w_length) (PX1 a0 a1 a2 a3 a4 a5 cyI cyZ w_kinds w_firsts w_seconds w_ints o w_length) (kT cyI cyZ) 0 0 := by
  refine kOf_v (cc := cX1_findCounting) (maxL := 2) (by decide +kernel) rfl (Nat.le_of_ble_eq_true rfl) ?_
  intro p e s m args below meth c A Z ls C0 hP hK hD hA hl ret
  obtain ⟨hx, hb, hr, hml, hown, hts, hlocks⟩ := C0
  have hown : s.vm.findClass RX1 = some m.cls := hown
  have hl : lv_has ls 2 [(0, .ref a0)] := hl
  have hS : va_S A s.heap s.heap [] := va_S.rf
  have i_X1 : ∀ w ∈ wsX10, w ∈ wsX1_findCounting := by decide +kernel
  have k15 := hts (.fieldLink RX1 15 "RegisterAllocator$Code" "firsts" "[I") (by decide +kernel)
  have k18 := hts (.fieldLink RX1 18 "RegisterAllocator$Code" "seconds" "[I") (by decide +kernel)
  have k24 := hts (.fieldLink RX1 24 "RegisterAllocator$Code" "counting" "[Z") (by decide +kernel)
  have k28 := hts (.fieldLink RX1 28 "RegisterAllocator$Code" "length" "I") (by decide +kernel)
  have k9 := hts (.fieldLink RX1 9 "RegisterAllocator$Code" "kinds" "[I") (by decide +kernel)
  rw [f_X1_findCounting] at hf
  refine lv_iconst (v := 0) hx hb dX1_findCounting_0 (by decide) ?_
  refine lv_istore_n (lv' := [(1, .int 0), (0, .ref a0)]) hx hb dX1_findCounting_1 rfl hl (by decide) rfl (fun ls hl => ?_)
  have L2 : ∀ (n : Nat) (x1_L2 : Int32) (w_counting_L2 : Nat → Int32) (o9 : (Nat → Int32)) (_ : f_X1_findCounting_L2 w_kinds w_length n x1_L2 w_counting_L2 = some o9) (H : Heap) (locs : List Loc) (ls : Array Slot), va_P D vwCl (PX1 a0 a1 a2 a3 a4 a5 cyI cyZ w_kinds w_firsts w_seconds w_ints w_counting_L2 w_length) H → va_D A (PX1 a0 a1 a2 a3 a4 a5 cyI cyZ w_kinds w_firsts w_seconds w_ints w_counting_L2 w_length) → va_S A s.heap H locs → lv_has ls 2 [(1, .int x1_L2), (0, .ref a0)] → (∀ (H : Heap) (locs : List Loc) (ls : Array Slot), va_P D vwCl (PX1 a0 a1 a2 a3 a4 a5 cyI cyZ w_kinds w_firsts w_seconds w_ints o9 w_length) H → va_D A (PX1 a0 a1 a2 a3 a4 a5 cyI cyZ w_kinds w_firsts w_seconds w_ints o9 w_length) → va_S A s.heap H locs → lv_has ls 2 [(0, .ref a0)] → W p l e rmX1_findCounting s m args below meth c H locs 0 0 Z (F0 m 38 ls [])) → W p l e rmX1_findCounting s m args below meth c H locs 0 0 Z (F0 m 2 ls []) := by
    intro n
    induction n with
    | zero =>
      intro x1_L2 w_counting_L2 o9 hf
      rw [f_X1_findCounting_L2] at hf
      cases hf
    | succ n ih =>
      intro x1_L2 w_counting_L2 o9 hf H locs ls hP hD hS hl kx
      rw [f_X1_findCounting_L2] at hf
      refine lv_iload_n hx hb dX1_findCounting_2 rfl (lv_at hl 0 rfl) ?_
      refine lv_aload_n hx hb dX1_findCounting_3 rfl (lv_at hl 1 rfl) ?_
      refine va_get (D := D) (ci := 1) (v := .int w_length) (C := RX1) (T := TX1) (N := 6) hx hb hts i_X1 hown hK hP 0 rfl rfl 5 (by decide) k28 (fun _ h9 => h9) rfl dX1_findCounting_4 ?_
      refine lv_icmp_ge (tgt := 38) hx hb dX1_findCounting_7 (by decide) (fun c_7 => ?_) (fun c_7 => ?_)
      · have hf := kit c_7 hf
        obtain rfl := Option.some.inj hf
        exact kx _ _ _ hP hD hS (lv_sub hl [1] rfl)
      · have hf := kif c_7 hf
        refine lv_aload_n hx hb dX1_findCounting_10 rfl (lv_at hl 1 rfl) ?_
        refine va_get (D := D) (ci := 1) (v := .ref a5) (C := RX1) (T := TX1) (N := 6) hx hb hts i_X1 hown hK hP 0 rfl rfl 4 (by decide) k24 (fun _ h9 => h9) rfl dX1_findCounting_11 ?_
        refine lv_iload_n hx hb dX1_findCounting_14 rfl (lv_at hl 0 rfl) ?_
        refine lv_aload_n hx hb dX1_findCounting_15 rfl (lv_at hl 1 rfl) ?_
        refine va_get (D := D) (ci := 1) (v := .ref a1) (C := RX1) (T := TX1) (N := 6) hx hb hts i_X1 hown hK hP 0 rfl rfl 0 (by decide) k9 (fun _ h9 => h9) rfl dX1_findCounting_16 ?_
        refine lv_iload_n hx hb dX1_findCounting_19 rfl (lv_at hl 0 rfl) ?_
        obtain ⟨h_20, hf⟩ := rdc_some hf
        refine va_iald hx hb hK hP 1 0 rfl rfl h_20 dX1_findCounting_20 ?_
        refine lv_bipush (v := 6) hx hb dX1_findCounting_21 (by decide) ?_
        refine lv_icmp_ne (tgt := 30) hx hb dX1_findCounting_23 (by decide) (fun c_23 => ?_) (fun c_23 => ?_)
        · have hf := kif c_23 hf
          refine lv_iconst (v := 0) hx hb dX1_findCounting_30 (by decide) ?_
          obtain ⟨h_31, hf⟩ := rdc_some hf
          refine kc_zast hx hb hK hP hD hS 5 1 rfl rfl knar0 h_31 dX1_findCounting_31 (fun H locs hP hD hS => ?_)
          have hP : va_P D vwCl (PX1 a0 a1 a2 a3 a4 a5 cyI cyZ w_kinds w_firsts w_seconds w_ints (upd w_counting_L2 x1_L2.toNatClampNeg 0) w_length) H := hP
          have hD : va_D A (PX1 a0 a1 a2 a3 a4 a5 cyI cyZ w_kinds w_firsts w_seconds w_ints (upd w_counting_L2 x1_L2.toNatClampNeg 0) w_length) := hD
          refine lv_iinc (v := (x1_L2 + 1)) (lv' := [(1, .int (x1_L2 + 1)), (0, .ref a0)]) hx hb dX1_findCounting_32 hl (k := 0) rfl rfl (by decide) rfl (fun ls hl => ?_)
          refine lv_goto (tgt := 2) hx hb dX1_findCounting_35 (by decide) ?_
          exact ih (x1_L2 + 1) (upd w_counting_L2 x1_L2.toNatClampNeg 0) _ hf _ _ _ hP hD hS (lv_sub hl [0, 1] rfl) kx
        · have hf := kit c_23 hf
          refine lv_iconst (v := 1) hx hb dX1_findCounting_26 (by decide) ?_
          refine lv_goto (tgt := 31) hx hb dX1_findCounting_27 (by decide) ?_
          obtain ⟨h_31, hf⟩ := rdc_some hf
          refine kc_zast hx hb hK hP hD hS 5 1 rfl rfl knar1 h_31 dX1_findCounting_31 (fun H locs hP hD hS => ?_)
          have hP : va_P D vwCl (PX1 a0 a1 a2 a3 a4 a5 cyI cyZ w_kinds w_firsts w_seconds w_ints (upd w_counting_L2 x1_L2.toNatClampNeg 1) w_length) H := hP
          have hD : va_D A (PX1 a0 a1 a2 a3 a4 a5 cyI cyZ w_kinds w_firsts w_seconds w_ints (upd w_counting_L2 x1_L2.toNatClampNeg 1) w_length) := hD
          refine lv_iinc (v := (x1_L2 + 1)) (lv' := [(1, .int (x1_L2 + 1)), (0, .ref a0)]) hx hb dX1_findCounting_32 hl (k := 0) rfl rfl (by decide) rfl (fun ls hl => ?_)
          refine lv_goto (tgt := 2) hx hb dX1_findCounting_35 (by decide) ?_
          exact ih (x1_L2 + 1) (upd w_counting_L2 x1_L2.toNatClampNeg 1) _ hf _ _ _ hP hD hS (lv_sub hl [0, 1] rfl) kx
  obtain ⟨v2, hf2, hf⟩ := kbd hf
  refine L2 4000 0 w_counting v2 hf2 _ _ _ hP hD hS (lv_sub hl [0, 1] rfl) (fun H locs ls hP hD hS hl => ?_)
  refine lv_aload_n hx hb dX1_findCounting_38 rfl (lv_at hl 0 rfl) ?_
  refine va_get (D := D) (ci := 1) (v := .int w_length) (C := RX1) (T := TX1) (N := 6) hx hb hts i_X1 hown hK hP 0 rfl rfl 5 (by decide) k28 (fun _ h9 => h9) rfl dX1_findCounting_39 ?_
  refine lv_iconst (v := 1) hx hb dX1_findCounting_42 (by decide) ?_
  refine lv_isub hx hb dX1_findCounting_43 ?_
  refine lv_istore_n (lv' := [(1, .int (w_length - 1)), (0, .ref a0)]) hx hb dX1_findCounting_44 rfl hl (by decide) rfl (fun ls hl => ?_)
  have L45 : ∀ (n : Nat) (x1_L45 : Int32) (w_counting_L45 : Nat → Int32) (o9 : (Nat → Int32)) (_ : f_X1_findCounting_L45 w_firsts w_seconds w_length n x1_L45 w_counting_L45 = some o9) (H : Heap) (locs : List Loc) (ls : Array Slot), va_P D vwCl (PX1 a0 a1 a2 a3 a4 a5 cyI cyZ w_kinds w_firsts w_seconds w_ints w_counting_L45 w_length) H → va_D A (PX1 a0 a1 a2 a3 a4 a5 cyI cyZ w_kinds w_firsts w_seconds w_ints w_counting_L45 w_length) → va_S A s.heap H locs → lv_has ls 2 [(1, .int x1_L45), (0, .ref a0)] → (∀ (H : Heap) (locs : List Loc) (ls : Array Slot), va_P D vwCl (PX1 a0 a1 a2 a3 a4 a5 cyI cyZ w_kinds w_firsts w_seconds w_ints o9 w_length) H → va_D A (PX1 a0 a1 a2 a3 a4 a5 cyI cyZ w_kinds w_firsts w_seconds w_ints o9 w_length) → va_S A s.heap H locs → lv_has ls 2 [] → W p l e rmX1_findCounting s m args below meth c H locs 0 0 Z (F0 m 84 ls [])) → W p l e rmX1_findCounting s m args below meth c H locs 0 0 Z (F0 m 45 ls []) := by
    intro n
    induction n with
    | zero =>
      intro x1_L45 w_counting_L45 o9 hf
      rw [f_X1_findCounting_L45] at hf
      cases hf
    | succ n ih =>
      intro x1_L45 w_counting_L45 o9 hf H locs ls hP hD hS hl kx
      rw [f_X1_findCounting_L45] at hf
      refine lv_iload_n hx hb dX1_findCounting_45 rfl (lv_at hl 0 rfl) ?_
      refine lv_if_lt (tgt := 84) hx hb dX1_findCounting_46 (by decide) (fun c_46 => ?_) (fun c_46 => ?_)
      · have hf := kit c_46 hf
        obtain rfl := Option.some.inj hf
        exact kx _ _ _ hP hD hS (lv_sub hl [] rfl)
      · have hf := kif c_46 hf
        refine lv_aload_n hx hb dX1_findCounting_49 rfl (lv_at hl 1 rfl) ?_
        refine va_get (D := D) (ci := 1) (v := .ref a5) (C := RX1) (T := TX1) (N := 6) hx hb hts i_X1 hown hK hP 0 rfl rfl 4 (by decide) k24 (fun _ h9 => h9) rfl dX1_findCounting_50 ?_
        refine lv_iload_n hx hb dX1_findCounting_53 rfl (lv_at hl 0 rfl) ?_
        obtain ⟨h_54, hf⟩ := rdc_some hf
        refine va_zald hx hb hK hP 5 1 rfl rfl h_54 dX1_findCounting_54 ?_
        refine lv_if_eq (tgt := 78) hx hb dX1_findCounting_55 (by decide) (fun c_55 => ?_) (fun c_55 => ?_)
        · have hf := kit c_55 hf
          refine lv_iinc (v := (x1_L45 + (-1))) (lv' := [(1, .int (x1_L45 + (-1))), (0, .ref a0)]) hx hb dX1_findCounting_78 hl (k := 0) rfl rfl (by decide) rfl (fun ls hl => ?_)
          refine lv_goto (tgt := 45) hx hb dX1_findCounting_81 (by decide) ?_
          exact ih (x1_L45 + (-1)) w_counting_L45 _ hf _ _ _ hP hD hS (lv_sub hl [0, 1] rfl) kx
        · have hf := kif c_55 hf
          refine lv_aload_n hx hb dX1_findCounting_58 rfl (lv_at hl 1 rfl) ?_
          refine lv_aload_n hx hb dX1_findCounting_59 rfl (lv_at hl 1 rfl) ?_
          refine va_get (D := D) (ci := 1) (v := .ref a2) (C := RX1) (T := TX1) (N := 6) hx hb hts i_X1 hown hK hP 0 rfl rfl 1 (by decide) k15 (fun _ h9 => h9) rfl dX1_findCounting_60 ?_
          refine lv_iload_n hx hb dX1_findCounting_63 rfl (lv_at hl 0 rfl) ?_
          obtain ⟨h_64, hf⟩ := rdc_some hf
          refine va_iald hx hb hK hP 2 0 rfl rfl h_64 dX1_findCounting_64 ?_
          obtain ⟨u65, hf65, hf⟩ := kbd hf
          refine kc_Vv (As := [.int (w_firsts x1_L45.toNatClampNeg)]) (rest := []) (wf := (PX1 a0 a1 a2 a3 a4 a5 cyI cyZ w_kinds w_firsts w_seconds w_ints u65 w_length)) (c_X1_markCounting l D cyI cyZ a0 a1 a2 a3 a4 a5 w_kinds w_firsts w_seconds w_ints w_counting_L45 w_length (w_firsts x1_L45.toNatClampNeg) u65 hf65) ⟨hx, hb, hml, hown, hts⟩ (cwV 1 hts gX1_findCounting_X1_markCounting rfl rfl rfl (by decide +kernel) ⟨Nat.le_of_ble_eq_true rfl, Nat.le_of_ble_eq_true rfl⟩) hK hP hD hS hA [0, 1, 2, 3, 4, 5] [] 6 rfl rfl kR0 rfl (by decide +kernel) rfl rfl rfl rfl hl.1 rfl (Nat.le_of_ble_eq_true rfl) dX1_findCounting_65 ⟨Nat.le_of_ble_eq_true rfl, Nat.le_of_ble_eq_true rfl⟩ (fun H locs hP hD hS => ?_)
          refine lv_aload_n hx hb dX1_findCounting_68 rfl (lv_at hl 1 rfl) ?_
          refine lv_aload_n hx hb dX1_findCounting_69 rfl (lv_at hl 1 rfl) ?_
          refine va_get (D := D) (ci := 1) (v := .ref a3) (C := RX1) (T := TX1) (N := 6) hx hb hts i_X1 hown hK hP 0 rfl rfl 2 (by decide) k18 (fun _ h9 => h9) rfl dX1_findCounting_70 ?_
          refine lv_iload_n hx hb dX1_findCounting_73 rfl (lv_at hl 0 rfl) ?_
          obtain ⟨h_74, hf⟩ := rdc_some hf
          refine va_iald hx hb hK hP 3 0 rfl rfl h_74 dX1_findCounting_74 ?_
          obtain ⟨u75, hf75, hf⟩ := kbd hf
          refine kc_Vv (As := [.int (w_seconds x1_L45.toNatClampNeg)]) (rest := []) (wf := (PX1 a0 a1 a2 a3 a4 a5 cyI cyZ w_kinds w_firsts w_seconds w_ints u75 w_length)) (c_X1_markCounting l D cyI cyZ a0 a1 a2 a3 a4 a5 w_kinds w_firsts w_seconds w_ints u65 w_length (w_seconds x1_L45.toNatClampNeg) u75 hf75) ⟨hx, hb, hml, hown, hts⟩ (cwV 1 hts gX1_findCounting_X1_markCounting rfl rfl rfl (by decide +kernel) ⟨Nat.le_of_ble_eq_true rfl, Nat.le_of_ble_eq_true rfl⟩) hK hP hD hS hA [0, 1, 2, 3, 4, 5] [] 6 rfl rfl kR0 rfl (by decide +kernel) rfl rfl rfl rfl hl.1 rfl (Nat.le_of_ble_eq_true rfl) dX1_findCounting_75 ⟨Nat.le_of_ble_eq_true rfl, Nat.le_of_ble_eq_true rfl⟩ (fun H locs hP hD hS => ?_)
          refine lv_iinc (v := (x1_L45 + (-1))) (lv' := [(1, .int (x1_L45 + (-1))), (0, .ref a0)]) hx hb dX1_findCounting_78 hl (k := 0) rfl rfl (by decide) rfl (fun ls hl => ?_)
          refine lv_goto (tgt := 45) hx hb dX1_findCounting_81 (by decide) ?_
          exact ih (x1_L45 + (-1)) u75 _ hf _ _ _ hP hD hS (lv_sub hl [0, 1] rfl) kx
  obtain ⟨v45, hf45, hf⟩ := kbd hf
  refine L45 4000 (w_length - 1) v2 v45 hf45 _ _ _ hP hD hS (lv_sub hl [0, 1] rfl) (fun H locs ls hP hD hS hl => ?_)
  obtain rfl := Option.some.inj hf
  exact ret _ _ _ _ dX1_findCounting_84 hP hD hS

abbrev rmX1_append : Room := { frames := 3, cells := 0, slots := 0, locals := 63 }
set_option maxHeartbeats 4000000 in
set_option maxRecDepth 100000 in
theorem c_X1_append (l : Launch) (D : va_G) (cyI cyZ : ClassId) (a0 a1 a2 a3 a4 a5 : Nat) (w_kinds : Nat → Int32) (w_firsts : Nat → Int32) (w_seconds : Nat → Int32) (w_ints : Nat → Int32) (w_counting : Nat → Int32) (w_length : Int32) (p1 : Int32) (p2 : Int32) (p3 : Int32) (p4 : Int32) (o : Int32 × (Nat → Int32) × (Nat → Int32) × (Nat → Int32) × (Nat → Int32) × (Nat → Int32) × Int32) (hf : f_X1_append p1 p2 p3 p4 w_kinds w_firsts w_seconds w_ints w_counting w_length = some o) : kMi l yX1_append wsX1_append rmX1_append [.ref a0, .int p1, .int p2, .int p3, .int p4] D (PX1 a0 a1 a2 a3 a4 a5 cyI cyZ w_kinds w_firsts w_seconds w_ints w_counting w_length) (PX1 a0 a1 a2 a3 a4 a5 cyI cyZ o.2.1 o.2.2.1 o.2.2.2.1 o.2.2.2.2.1 o.2.2.2.2.2.1 o.2.2.2.2.2.2) (kT cyI cyZ) o.1 0 0 := by
  refine kOf_i (cc := cX1_append) (maxL := 6) (ty := .int) (by decide +kernel) rfl (Nat.le_of_ble_eq_true rfl) ?_
  intro p e s m args below meth c A Z ls C0 hP hK hD hA hl ret
  obtain ⟨hx, hb, hr, hml, hown, hts, hlocks⟩ := C0
  have hown : s.vm.findClass RX1 = some m.cls := hown
  have hl : lv_has ls 6 [(0, .ref a0), (1, .int p1), (2, .int p2), (3, .int p3), (4, .int p4)] := hl
  have hS : va_S A s.heap s.heap [] := va_S.rf
  have i_X1 : ∀ w ∈ wsX10, w ∈ wsX1_append := by decide +kernel
  have k15 := hts (.fieldLink RX1 15 "RegisterAllocator$Code" "firsts" "[I") (by decide +kernel)
  have k18 := hts (.fieldLink RX1 18 "RegisterAllocator$Code" "seconds" "[I") (by decide +kernel)
  have k21 := hts (.fieldLink RX1 21 "RegisterAllocator$Code" "ints" "[I") (by decide +kernel)
  have k28 := hts (.fieldLink RX1 28 "RegisterAllocator$Code" "length" "I") (by decide +kernel)
  have k9 := hts (.fieldLink RX1 9 "RegisterAllocator$Code" "kinds" "[I") (by decide +kernel)
  rw [f_X1_append] at hf
  refine lv_aload_n hx hb dX1_append_0 rfl (lv_at hl 0 rfl) ?_
  obtain ⟨u1, hf1, hf⟩ := kbd hf
  refine kc_Vi (As := []) (rest := []) (wf := (PX1 a0 a1 a2 a3 a4 a5 cyI cyZ w_kinds w_firsts w_seconds w_ints w_counting w_length)) (c_X1_isFull l D cyI cyZ a0 a1 a2 a3 a4 a5 w_kinds w_firsts w_seconds w_ints w_counting w_length u1 hf1) ⟨hx, hb, hml, hown, hts⟩ (cwV 0 hts gX1_append_X1_isFull rfl rfl rfl (by decide +kernel) ⟨Nat.le_of_ble_eq_true rfl, Nat.le_of_ble_eq_true rfl⟩) hK hP hD hS hA [0, 1, 2, 3, 4, 5] [] 6 rfl rfl kR0 rfl (by decide +kernel) rfl rfl rfl rfl hl.1 rfl (Nat.le_of_ble_eq_true rfl) dX1_append_1 ⟨Nat.le_of_ble_eq_true rfl, Nat.le_of_ble_eq_true rfl⟩ (fun H locs hP hD hS => ?_)
  refine lv_if_eq (tgt := 9) hx hb dX1_append_4 (by decide) (fun c_4 => ?_) (fun c_4 => ?_)
  · have hf := kit c_4 hf
    refine lv_aload_n hx hb dX1_append_9 rfl (lv_at hl 0 rfl) ?_
    refine va_get (D := D) (ci := 1) (v := .int w_length) (C := RX1) (T := TX1) (N := 6) hx hb hts i_X1 hown hK hP 0 rfl rfl 5 (by decide) k28 (fun _ h9 => h9) rfl dX1_append_10 ?_
    refine lv_istore (lv' := [(5, .int w_length), (0, .ref a0), (1, .int p1), (2, .int p2), (3, .int p3), (4, .int p4)]) hx hb dX1_append_13 hl (by decide) rfl (fun ls hl => ?_)
    refine lv_aload_n hx hb dX1_append_15 rfl (lv_at hl 1 rfl) ?_
    refine va_get (D := D) (ci := 1) (v := .ref a1) (C := RX1) (T := TX1) (N := 6) hx hb hts i_X1 hown hK hP 0 rfl rfl 0 (by decide) k9 (fun _ h9 => h9) rfl dX1_append_16 ?_
    refine lv_iload hx hb dX1_append_19 (lv_at hl 0 rfl) ?_
    refine lv_iload_n hx hb dX1_append_21 rfl (lv_at hl 2 rfl) ?_
    obtain ⟨h_22, hf⟩ := rdc_some hf
    refine va_iast hx hb hK hP hD hS 1 0 rfl rfl h_22 dX1_append_22 (fun H locs hP hD hS => ?_)
    have hP : va_P D vwCl (PX1 a0 a1 a2 a3 a4 a5 cyI cyZ (upd w_kinds w_length.toNatClampNeg p1) w_firsts w_seconds w_ints w_counting w_length) H := hP
    have hD : va_D A (PX1 a0 a1 a2 a3 a4 a5 cyI cyZ (upd w_kinds w_length.toNatClampNeg p1) w_firsts w_seconds w_ints w_counting w_length) := hD
    refine lv_aload_n hx hb dX1_append_23 rfl (lv_at hl 1 rfl) ?_
    refine va_get (D := D) (ci := 1) (v := .ref a2) (C := RX1) (T := TX1) (N := 6) hx hb hts i_X1 hown hK hP 0 rfl rfl 1 (by decide) k15 (fun _ h9 => h9) rfl dX1_append_24 ?_
    refine lv_iload hx hb dX1_append_27 (lv_at hl 0 rfl) ?_
    refine lv_iload_n hx hb dX1_append_29 rfl (lv_at hl 3 rfl) ?_
    obtain ⟨h_30, hf⟩ := rdc_some hf
    refine va_iast hx hb hK hP hD hS 2 0 rfl rfl h_30 dX1_append_30 (fun H locs hP hD hS => ?_)
    have hP : va_P D vwCl (PX1 a0 a1 a2 a3 a4 a5 cyI cyZ (upd w_kinds w_length.toNatClampNeg p1) (upd w_firsts w_length.toNatClampNeg p2) w_seconds w_ints w_counting w_length) H := hP
    have hD : va_D A (PX1 a0 a1 a2 a3 a4 a5 cyI cyZ (upd w_kinds w_length.toNatClampNeg p1) (upd w_firsts w_length.toNatClampNeg p2) w_seconds w_ints w_counting w_length) := hD
    refine lv_aload_n hx hb dX1_append_31 rfl (lv_at hl 1 rfl) ?_
    refine va_get (D := D) (ci := 1) (v := .ref a3) (C := RX1) (T := TX1) (N := 6) hx hb hts i_X1 hown hK hP 0 rfl rfl 2 (by decide) k18 (fun _ h9 => h9) rfl dX1_append_32 ?_
    refine lv_iload hx hb dX1_append_35 (lv_at hl 0 rfl) ?_
    refine lv_iload_n hx hb dX1_append_37 rfl (lv_at hl 4 rfl) ?_
    obtain ⟨h_38, hf⟩ := rdc_some hf
    refine va_iast hx hb hK hP hD hS 3 0 rfl rfl h_38 dX1_append_38 (fun H locs hP hD hS => ?_)
    have hP : va_P D vwCl (PX1 a0 a1 a2 a3 a4 a5 cyI cyZ (upd w_kinds w_length.toNatClampNeg p1) (upd w_firsts w_length.toNatClampNeg p2) (upd w_seconds w_length.toNatClampNeg p3) w_ints w_counting w_length) H := hP
    have hD : va_D A (PX1 a0 a1 a2 a3 a4 a5 cyI cyZ (upd w_kinds w_length.toNatClampNeg p1) (upd w_firsts w_length.toNatClampNeg p2) (upd w_seconds w_length.toNatClampNeg p3) w_ints w_counting w_length) := hD
    refine lv_aload_n hx hb dX1_append_39 rfl (lv_at hl 1 rfl) ?_
    refine va_get (D := D) (ci := 1) (v := .ref a4) (C := RX1) (T := TX1) (N := 6) hx hb hts i_X1 hown hK hP 0 rfl rfl 3 (by decide) k21 (fun _ h9 => h9) rfl dX1_append_40 ?_
    refine lv_iload hx hb dX1_append_43 (lv_at hl 0 rfl) ?_
    refine lv_iload hx hb dX1_append_45 (lv_at hl 5 rfl) ?_
    obtain ⟨h_47, hf⟩ := rdc_some hf
    refine va_iast hx hb hK hP hD hS 4 0 rfl rfl h_47 dX1_append_47 (fun H locs hP hD hS => ?_)
    have hP : va_P D vwCl (PX1 a0 a1 a2 a3 a4 a5 cyI cyZ (upd w_kinds w_length.toNatClampNeg p1) (upd w_firsts w_length.toNatClampNeg p2) (upd w_seconds w_length.toNatClampNeg p3) (upd w_ints w_length.toNatClampNeg p4) w_counting w_length) H := hP
    have hD : va_D A (PX1 a0 a1 a2 a3 a4 a5 cyI cyZ (upd w_kinds w_length.toNatClampNeg p1) (upd w_firsts w_length.toNatClampNeg p2) (upd w_seconds w_length.toNatClampNeg p3) (upd w_ints w_length.toNatClampNeg p4) w_counting w_length) := hD
    refine lv_aload_n hx hb dX1_append_48 rfl (lv_at hl 1 rfl) ?_
    refine lv_dup hx hb dX1_append_49 rfl ?_
    refine va_get (D := D) (ci := 1) (v := .int w_length) (C := RX1) (T := TX1) (N := 6) hx hb hts i_X1 hown hK hP 0 rfl rfl 5 (by decide) k28 (fun _ h9 => h9) rfl dX1_append_50 ?_
    refine lv_iconst (v := 1) hx hb dX1_append_53 (by decide) ?_
    refine lv_iadd hx hb dX1_append_54 ?_
    refine va_put (D := D) (ci := 1) (v := .int (w_length + 1)) (ty := .int) (C := RX1) (T := TX1) (N := 6) hx hb hts i_X1 tyX1 tyX1_ok nmX1 hown hK hP hD hS 0 rfl rfl 5 (by decide) k28 (fun _ h9 => h9) rfl (by decide +kernel) rfl (by first | rfl | decide) (Nat.le_of_ble_eq_true rfl) dX1_append_55 (fun H locs hP hD hS => ?_)
    have hP : va_P D vwCl (PX1 a0 a1 a2 a3 a4 a5 cyI cyZ (upd w_kinds w_length.toNatClampNeg p1) (upd w_firsts w_length.toNatClampNeg p2) (upd w_seconds w_length.toNatClampNeg p3) (upd w_ints w_length.toNatClampNeg p4) w_counting (w_length + 1)) H := hP
    have hD : va_D A (PX1 a0 a1 a2 a3 a4 a5 cyI cyZ (upd w_kinds w_length.toNatClampNeg p1) (upd w_firsts w_length.toNatClampNeg p2) (upd w_seconds w_length.toNatClampNeg p3) (upd w_ints w_length.toNatClampNeg p4) w_counting (w_length + 1)) := hD
    refine lv_aload_n hx hb dX1_append_58 rfl (lv_at hl 1 rfl) ?_
    obtain ⟨u59, hf59, hf⟩ := kbd hf
    refine kc_Vv (As := []) (rest := []) (wf := (PX1 a0 a1 a2 a3 a4 a5 cyI cyZ (upd w_kinds w_length.toNatClampNeg p1) (upd w_firsts w_length.toNatClampNeg p2) (upd w_seconds w_length.toNatClampNeg p3) (upd w_ints w_length.toNatClampNeg p4) u59 (w_length + 1))) (c_X1_findCounting l D cyI cyZ a0 a1 a2 a3 a4 a5 (upd w_kinds w_length.toNatClampNeg p1) (upd w_firsts w_length.toNatClampNeg p2) (upd w_seconds w_length.toNatClampNeg p3) (upd w_ints w_length.toNatClampNeg p4) w_counting (w_length + 1) u59 hf59) ⟨hx, hb, hml, hown, hts⟩ (cwV 0 hts gX1_append_X1_findCounting rfl rfl rfl (by decide +kernel) ⟨Nat.le_of_ble_eq_true rfl, Nat.le_of_ble_eq_true rfl⟩) hK hP hD hS hA [0, 1, 2, 3, 4, 5] [] 6 rfl rfl kR0 rfl (by decide +kernel) rfl rfl rfl rfl hl.1 rfl (Nat.le_of_ble_eq_true rfl) dX1_append_59 ⟨Nat.le_of_ble_eq_true rfl, Nat.le_of_ble_eq_true rfl⟩ (fun H locs hP hD hS => ?_)
    refine lv_iload hx hb dX1_append_62 (lv_at hl 0 rfl) ?_
    obtain rfl := Option.some.inj hf
    exact ret _ _ _ _ dX1_append_64 rfl hP hD hS
  · have hf := kif c_4 hf
    refine lv_iconst (v := (-1)) hx hb dX1_append_7 (by decide) ?_
    obtain rfl := Option.some.inj hf
    exact ret _ _ _ _ dX1_append_8 rfl hP hD hS

abbrev rmX1_firstUse : Room := { frames := 1, cells := 0, slots := 0, locals := 21 }
set_option maxHeartbeats 4000000 in
set_option maxRecDepth 100000 in
theorem c_X1_firstUse (l : Launch) (D : va_G) (cyI cyZ : ClassId) (a0 a1 a2 a3 a4 a5 : Nat) (w_kinds : Nat → Int32) (w_firsts : Nat → Int32) (w_seconds : Nat → Int32) (w_ints : Nat → Int32) (w_counting : Nat → Int32) (w_length : Int32) (p1 : Int32) (p2 : Int32) (o : Int32) (hf : f_X1_firstUse p1 p2 w_firsts w_seconds w_counting w_length = some o) : kMi l yX1_firstUse wsX1_firstUse rmX1_firstUse [.ref a0, .int p1, .int p2] D (PX1 a0 a1 a2 a3 a4 a5 cyI cyZ w_kinds w_firsts w_seconds w_ints w_counting w_length) (PX1 a0 a1 a2 a3 a4 a5 cyI cyZ w_kinds w_firsts w_seconds w_ints w_counting w_length) (kT cyI cyZ) o 0 0 := by
  refine kOf_i (cc := cX1_firstUse) (maxL := 4) (ty := .int) (by decide +kernel) rfl (Nat.le_of_ble_eq_true rfl) ?_
  intro p e s m args below meth c A Z ls C0 hP hK hD hA hl ret
  obtain ⟨hx, hb, hr, hml, hown, hts, hlocks⟩ := C0
  have hown : s.vm.findClass RX1 = some m.cls := hown
  have hl : lv_has ls 4 [(0, .ref a0), (1, .int p1), (2, .int p2)] := hl
  have hS : va_S A s.heap s.heap [] := va_S.rf
  have i_X1 : ∀ w ∈ wsX10, w ∈ wsX1_firstUse := by decide +kernel
  have k15 := hts (.fieldLink RX1 15 "RegisterAllocator$Code" "firsts" "[I") (by decide +kernel)
  have k18 := hts (.fieldLink RX1 18 "RegisterAllocator$Code" "seconds" "[I") (by decide +kernel)
  have k24 := hts (.fieldLink RX1 24 "RegisterAllocator$Code" "counting" "[Z") (by decide +kernel)
  have k28 := hts (.fieldLink RX1 28 "RegisterAllocator$Code" "length" "I") (by decide +kernel)
  have km47 := hts (.methodLink RX1 47 Lib.Math.max.name) (by decide +kernel)
  have kmc_max := hts (.code Lib.Math.max.name Lib.Math.max.code 2 (some .int)) (by decide +kernel)
  have kmi := hts (.initialized "java/lang/Math") (by decide +kernel)
  have kms_max := hts (.static Lib.Math.max.name) (by decide +kernel)
  rw [f_X1_firstUse] at hf
  refine lv_aload_n hx hb dX1_firstUse_0 rfl (lv_at hl 0 rfl) ?_
  refine lv_iload_n hx hb dX1_firstUse_1 rfl (lv_at hl 1 rfl) ?_
  obtain ⟨u2, hf2, hf⟩ := kbd hf
  refine kc_Vi (As := [.int p1]) (rest := []) (wf := (PX1 a0 a1 a2 a3 a4 a5 cyI cyZ w_kinds w_firsts w_seconds w_ints w_counting w_length)) (c_X1_has l D cyI cyZ a0 a1 a2 a3 a4 a5 w_kinds w_firsts w_seconds w_ints w_counting w_length p1 u2 hf2) ⟨hx, hb, hml, hown, hts⟩ (cwV 1 hts gX1_firstUse_X1_has rfl rfl rfl (by decide +kernel) ⟨Nat.le_of_ble_eq_true rfl, Nat.le_of_ble_eq_true rfl⟩) hK hP hD hS hA [0, 1, 2, 3, 4, 5] [] 6 rfl rfl kR0 rfl (by decide +kernel) rfl rfl rfl rfl hl.1 rfl (Nat.le_of_ble_eq_true rfl) dX1_firstUse_2 ⟨Nat.le_of_ble_eq_true rfl, Nat.le_of_ble_eq_true rfl⟩ (fun H locs hP hD hS => ?_)
  refine lv_if_ne (tgt := 10) hx hb dX1_firstUse_5 (by decide) (fun c_5 => ?_) (fun c_5 => ?_)
  · have hf := kif c_5 hf
    refine lv_iload_n hx hb dX1_firstUse_10 rfl (lv_at hl 2 rfl) ?_
    refine lv_iconst (v := 0) hx hb dX1_firstUse_11 (by decide) ?_
    refine va_mmax hx hb (hml.trans hl.1.symm) hown km47 kms_max kmi kmc_max (Nat.le_of_ble_eq_true rfl) (Nat.le_of_ble_eq_true rfl) (Nat.le_of_ble_eq_true rfl) (Nat.le_of_ble_eq_true rfl) dX1_firstUse_12 ?_
    refine lv_istore_n (lv' := [(3, .int (if p2 < 0 then 0 else p2)), (0, .ref a0), (1, .int p1), (2, .int p2)]) hx hb dX1_firstUse_15 rfl hl (by decide) rfl (fun ls hl => ?_)
    have L16 : ∀ (n : Nat) (x3_L16 : Int32) (_ : f_X1_firstUse_L16 w_firsts w_seconds w_counting w_length p1 n x3_L16 = some o) (H : Heap) (locs : List Loc) (ls : Array Slot), va_P D vwCl (PX1 a0 a1 a2 a3 a4 a5 cyI cyZ w_kinds w_firsts w_seconds w_ints w_counting w_length) H → va_D A (PX1 a0 a1 a2 a3 a4 a5 cyI cyZ w_kinds w_firsts w_seconds w_ints w_counting w_length) → va_S A s.heap H locs → lv_has ls 4 [(3, .int x3_L16), (0, .ref a0), (1, .int p1)] → W p l e rmX1_firstUse s m args below meth c H locs 0 0 Z (F0 m 16 ls []) := by
      intro n
      induction n with
      | zero =>
        intro x3_L16 hf
        rw [f_X1_firstUse_L16] at hf
        cases hf
      | succ n ih =>
        intro x3_L16 hf H locs ls hP hD hS hl
        rw [f_X1_firstUse_L16] at hf
        refine lv_iload_n hx hb dX1_firstUse_16 rfl (lv_at hl 0 rfl) ?_
        refine lv_aload_n hx hb dX1_firstUse_17 rfl (lv_at hl 1 rfl) ?_
        refine va_get (D := D) (ci := 1) (v := .int w_length) (C := RX1) (T := TX1) (N := 6) hx hb hts i_X1 hown hK hP 0 rfl rfl 5 (by decide) k28 (fun _ h9 => h9) rfl dX1_firstUse_18 ?_
        refine lv_icmp_ge (tgt := 61) hx hb dX1_firstUse_21 (by decide) (fun c_21 => ?_) (fun c_21 => ?_)
        · have hf := kit c_21 hf
          refine lv_iconst (v := (-1)) hx hb dX1_firstUse_61 (by decide) ?_
          obtain rfl := Option.some.inj hf
          exact ret _ _ _ _ dX1_firstUse_62 rfl hP hD hS
        · have hf := kif c_21 hf
          refine lv_aload_n hx hb dX1_firstUse_24 rfl (lv_at hl 1 rfl) ?_
          refine va_get (D := D) (ci := 1) (v := .ref a5) (C := RX1) (T := TX1) (N := 6) hx hb hts i_X1 hown hK hP 0 rfl rfl 4 (by decide) k24 (fun _ h9 => h9) rfl dX1_firstUse_25 ?_
          refine lv_iload_n hx hb dX1_firstUse_28 rfl (lv_at hl 0 rfl) ?_
          obtain ⟨h_29, hf⟩ := rdc_some hf
          refine va_zald hx hb hK hP 5 1 rfl rfl h_29 dX1_firstUse_29 ?_
          refine lv_if_eq (tgt := 55) hx hb dX1_firstUse_30 (by decide) (fun c_30 => ?_) (fun c_30 => ?_)
          · have hf := kit c_30 hf
            refine lv_iinc (v := (x3_L16 + 1)) (lv' := [(3, .int (x3_L16 + 1)), (0, .ref a0), (1, .int p1)]) hx hb dX1_firstUse_55 hl (k := 0) rfl rfl (by decide) rfl (fun ls hl => ?_)
            refine lv_goto (tgt := 16) hx hb dX1_firstUse_58 (by decide) ?_
            exact ih (x3_L16 + 1) hf _ _ _ hP hD hS (lv_sub hl [0, 1, 2] rfl)
          · have hf := kif c_30 hf
            refine lv_aload_n hx hb dX1_firstUse_33 rfl (lv_at hl 1 rfl) ?_
            refine va_get (D := D) (ci := 1) (v := .ref a2) (C := RX1) (T := TX1) (N := 6) hx hb hts i_X1 hown hK hP 0 rfl rfl 1 (by decide) k15 (fun _ h9 => h9) rfl dX1_firstUse_34 ?_
            refine lv_iload_n hx hb dX1_firstUse_37 rfl (lv_at hl 0 rfl) ?_
            obtain ⟨h_38, hf⟩ := rdc_some hf
            refine va_iald hx hb hK hP 2 0 rfl rfl h_38 dX1_firstUse_38 ?_
            refine lv_iload_n hx hb dX1_firstUse_39 rfl (lv_at hl 2 rfl) ?_
            refine lv_icmp_eq (tgt := 53) hx hb dX1_firstUse_40 (by decide) (fun c_40 => ?_) (fun c_40 => ?_)
            · have hf := kit c_40 hf
              refine lv_iload_n hx hb dX1_firstUse_53 rfl (lv_at hl 0 rfl) ?_
              obtain rfl := Option.some.inj hf
              exact ret _ _ _ _ dX1_firstUse_54 rfl hP hD hS
            · have hf := kif c_40 hf
              refine lv_aload_n hx hb dX1_firstUse_43 rfl (lv_at hl 1 rfl) ?_
              refine va_get (D := D) (ci := 1) (v := .ref a3) (C := RX1) (T := TX1) (N := 6) hx hb hts i_X1 hown hK hP 0 rfl rfl 2 (by decide) k18 (fun _ h9 => h9) rfl dX1_firstUse_44 ?_
              refine lv_iload_n hx hb dX1_firstUse_47 rfl (lv_at hl 0 rfl) ?_
              obtain ⟨h_48, hf⟩ := rdc_some hf
              refine va_iald hx hb hK hP 3 0 rfl rfl h_48 dX1_firstUse_48 ?_
              refine lv_iload_n hx hb dX1_firstUse_49 rfl (lv_at hl 2 rfl) ?_
              refine lv_icmp_ne (tgt := 55) hx hb dX1_firstUse_50 (by decide) (fun c_50 => ?_) (fun c_50 => ?_)
              · have hf := kif c_50 hf
                refine lv_iinc (v := (x3_L16 + 1)) (lv' := [(3, .int (x3_L16 + 1)), (0, .ref a0), (1, .int p1)]) hx hb dX1_firstUse_55 hl (k := 0) rfl rfl (by decide) rfl (fun ls hl => ?_)
                refine lv_goto (tgt := 16) hx hb dX1_firstUse_58 (by decide) ?_
                exact ih (x3_L16 + 1) hf _ _ _ hP hD hS (lv_sub hl [0, 1, 2] rfl)
              · have hf := kit c_50 hf
                refine lv_iload_n hx hb dX1_firstUse_53 rfl (lv_at hl 0 rfl) ?_
                obtain rfl := Option.some.inj hf
                exact ret _ _ _ _ dX1_firstUse_54 rfl hP hD hS
    exact L16 4000 (if p2 < 0 then 0 else p2) hf _ _ _ hP hD hS (lv_sub hl [0, 1, 2] rfl)
  · have hf := kit c_5 hf
    refine lv_iconst (v := (-1)) hx hb dX1_firstUse_8 (by decide) ?_
    obtain rfl := Option.some.inj hf
    exact ret _ _ _ _ dX1_firstUse_9 rfl hP hD hS
