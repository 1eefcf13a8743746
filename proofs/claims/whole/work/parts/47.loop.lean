/-! ===== the law's loop ===== -/
theorem REL0 : REL S0 M0 := by
  refine ⟨0, 4, 0, ⟨by omega, by omega, by omega⟩, ⟨nI_0.symm, nI_0.symm, by decide +kernel, by decide +kernel, nI_0.symm, nI_0.symm⟩, ⟨⟨by omega, fun j hj => absurd hj (Nat.not_lt_zero j)⟩, fun j hj => absurd hj (Nat.not_lt_zero j), fun j hj => absurd hj (Nat.not_lt_zero j)⟩, fun j hj => absurd hj (Nat.not_lt_zero j), ⟨⟨fun _ _ => rfl, fun _ _ => rfl, fun _ _ => rfl, fun _ _ => rfl⟩, ⟨fun _ _ => rfl, fun _ _ => rfl, fun _ _ => rfl, fun _ _ => rfl⟩, ⟨fun _ _ => rfl, fun _ _ => rfl, fun _ _ => rfl, fun _ _ => rfl⟩⟩, rfl, Or.inl rfl⟩
theorem len_lt {L i : Nat} (hL : L ≤ 2048) (hi : i ≤ 513) (h : L < 4 * i + 4) : Int32.ofNat L - 4 < nI (4 * i) := by
  rcases Nat.lt_or_ge L 4 with g | g
  · have h4 : (nI (4 * i)).toInt = ((4 * i : Nat) : Int) := nI_toInt (by omega)
    rw [Int32.lt_iff_toInt_lt, h4]
    have : L = 0 ∨ L = 1 ∨ L = 2 ∨ L = 3 := by omega
    rcases this with rfl | rfl | rfl | rfl
    · have e : (Int32.ofNat 0 - 4).toInt = -4 := by decide +kernel
      rw [e]; omega
    · have e : (Int32.ofNat 1 - 4).toInt = -3 := by decide +kernel
      rw [e]; omega
    · have e : (Int32.ofNat 2 - 4).toInt = -2 := by decide +kernel
      rw [e]; omega
    · have e : (Int32.ofNat 3 - 4).toInt = -1 := by decide +kernel
      rw [e]; omega
  · have e : Int32.ofNat L - 4 = nI (L - 4) := by
      have h1 := nI_add (L - 4) 4
      rw [show L - 4 + 4 = L by omega] at h1
      show nI L - nI 4 = nI (L - 4)
      rw [← h1, Int32.add_sub_cancel]
    rw [e]
    exact nI_lt (by omega) (by omega)
set_option maxHeartbeats 4000000 in
set_option maxRecDepth 100000 in
theorem law_head {p : Program} {l : Launch} {e : Env} {s : State} {m : MethodId} {below : List Frame} {meth : Method} {c : Code} {b L : Nat} {xs : Nat → Int32} {D : va_G} {cyI cyZ cyJ : ClassId} {qa qb : Nat → Nat} {o : Nat} (hL : L ≤ 2048) (C0 : lw_At p s m meth c b L xs) (hK : va_K D vwCl (kT3 cyI cyZ cyJ) s) (hY : kY (fun q : Nat => s.heap.size ≤ q) s) (hst : l.stackTraces = false) (i : Nat) (S : ZS) (M : ZM) (fJ : Nat → Int64) (H : Heap) (locs : List Loc) (ls : Array Slot) (hi : i ≤ 513) (hr1 : REL S M) (hP : va_P D vwCl (LA qa cyI cyZ S ++ ([LO o cyJ fJ] ++ LB qb cyI cyZ M)) H) (hD : va_D (fun q : Nat => s.heap.size ≤ q) (LA qa cyI cyZ S ++ ([LO o cyJ fJ] ++ LB qb cyI cyZ M))) (hS : va_S (fun q : Nat => s.heap.size ≤ q) s.heap H locs)
    (hl : lv_has ls 7 [(0, .ref b), (1, .ref (qa 0)), (2, .ref (qb 0)), (3, .ref o), (4, .int (nI (4 * i)))]) (nx : 4 * i + 4 ≤ L → LN p l e s m below meth c b D cyI cyZ cyJ qa qb o i (100 + 3 * i) (20000 + 74 * i) (lw_Z below #[Value.ref b] s)) :
    W p l e room_1 s m #[Value.ref b] below meth c H locs (100 + 3 * i) (20000 + 74 * i) (lw_Z below #[Value.ref b] s) (F0 m 23 ls []) := by
  obtain ⟨hx, hb, hr, hml, hown, hts, hX, hbl, hlocks, hgv⟩ := C0
  have hts2 : ∀ w ∈ wsL_law, w.before #[Value.ref b] s = true := fun w h => hts w (wsL_law_in w h)
  have hbA : ¬ (fun q : Nat => s.heap.size ≤ q) b := Nat.not_le.mpr hbl
  refine lv_iload hx hb dL_law_23 (lv_at hl 4 rfl) ?_
  refine lv_aload_n hx hb dL_law_25 rfl (lv_at hl 0 rfl) ?_
  refine va_slen hx hb hX hbl hbA hS dL_law_26 ?_
  refine lv_iconst (v := 4) hx hb dL_law_27 (by decide) ?_
  refine lv_isub hx hb dL_law_28 ?_
  refine lv_icmp_gt (tgt := 1219) hx hb dL_law_29 (by decide) (fun c29 => ?_) (fun c29 => ?_)
  · refine lv_iconst (v := 1) hx hb dL_law_1219 (by decide) ?_
    refine va_forget (fun q hq => hS.2.2 q hq) ?_
    refine W.widen (k := 601024) (n := 7293034) (by omega) (by omega) ?_
    exact lw_ret hx hb hr hlocks dL_law_1220
  · have hi4 : 4 * i + 4 ≤ L := by
      rcases Nat.lt_or_ge L (4 * i + 4) with g | g
      · exact absurd (len_lt hL hi g) c29
      · exact g
    have nx := nx hi4
    have rc : room_1.cells = 601024 := rfl
    have rs : room_1.slots = 7293034 := rfl
    have K : LK p s m c b L xs l D cyI cyZ cyJ i (100 + 3 * i) (20000 + 74 * i) := ⟨hx, hb, hml, hown, hts2, hX, hbl, hK, hY, hst, hi4, hL, by omega, by omega⟩
    have hin0 : vp_in (nI (4 * i)) L := vp_in_nI (by omega) (by omega)
    refine lv_aload_n hx hb dL_law_32 rfl (lv_at hl 0 rfl) ?_
    refine lv_iload hx hb dL_law_33 (lv_at hl 4 rfl) ?_
    refine va_sld hx hb hX hbl hbA hS hin0 dL_law_35 ?_
    refine lv_bipush (v := 31) hx hb dL_law_36 (by decide) ?_
    refine lv_iand hx hb dL_law_38 ?_
    generalize (xs (nI (4 * i)).toNatClampNeg &&& 31) = t
    by_cases c_0 : t = 0
    · exact lv_tableIn (off := 101) (tgt := 140) hx hb dL_law_39 (by rw [c_0]; decide) (by rw [c_0]; decide) (by rw [c_0]; rfl) (by decide) (case_0 K hr1 hP hD hS hl nx)
    by_cases c_1 : t = 1
    · exact lv_tableIn (off := 157) (tgt := 196) hx hb dL_law_39 (by rw [c_1]; decide) (by rw [c_1]; decide) (by rw [c_1]; rfl) (by decide) (case_1 K hr1 hP hD hS hl nx)
    by_cases c_2 : t = 2
    · exact lv_tableIn (off := 237) (tgt := 276) hx hb dL_law_39 (by rw [c_2]; decide) (by rw [c_2]; decide) (by rw [c_2]; rfl) (by decide) (case_2 K hr1 hP hD hS hl nx)
    by_cases c_3 : t = 3
    · exact lv_tableIn (off := 305) (tgt := 344) hx hb dL_law_39 (by rw [c_3]; decide) (by rw [c_3]; decide) (by rw [c_3]; rfl) (by decide) (case_3 K hr1 hP hD hS hl nx)
    by_cases c_4 : t = 4
    · exact lv_tableIn (off := 373) (tgt := 412) hx hb dL_law_39 (by rw [c_4]; decide) (by rw [c_4]; decide) (by rw [c_4]; rfl) (by decide) (case_4 K hr1 hP hD hS hl nx)
    by_cases c_5 : t = 5
    · exact lv_tableIn (off := 429) (tgt := 468) hx hb dL_law_39 (by rw [c_5]; decide) (by rw [c_5]; decide) (by rw [c_5]; rfl) (by decide) (case_5 K hr1 hP hD hS hl nx)
    by_cases c_6 : t = 6
    · exact lv_tableIn (off := 442) (tgt := 481) hx hb dL_law_39 (by rw [c_6]; decide) (by rw [c_6]; decide) (by rw [c_6]; rfl) (by decide) (case_6 K hr1 hP hD hS hl nx)
    by_cases c_7 : t = 7
    · exact lv_tableIn (off := 498) (tgt := 537) hx hb dL_law_39 (by rw [c_7]; decide) (by rw [c_7]; decide) (by rw [c_7]; rfl) (by decide) (case_7 K hr1 hP hD hS hl nx)
    by_cases c_8 : t = 8
    · exact lv_tableIn (off := 561) (tgt := 600) hx hb dL_law_39 (by rw [c_8]; decide) (by rw [c_8]; decide) (by rw [c_8]; rfl) (by decide) (case_8 K hr1 hP hD hS hl nx)
    by_cases c_9 : t = 9
    · exact lv_tableIn (off := 629) (tgt := 668) hx hb dL_law_39 (by rw [c_9]; decide) (by rw [c_9]; decide) (by rw [c_9]; rfl) (by decide) (case_9 K hr1 hP hD hS hl nx)
    by_cases c_10 : t = 10
    · exact lv_tableIn (off := 685) (tgt := 724) hx hb dL_law_39 (by rw [c_10]; decide) (by rw [c_10]; decide) (by rw [c_10]; rfl) (by decide) (case_10 K hr1 hP hD hS hl nx)
    by_cases c_11 : t = 11
    · exact lv_tableIn (off := 741) (tgt := 780) hx hb dL_law_39 (by rw [c_11]; decide) (by rw [c_11]; decide) (by rw [c_11]; rfl) (by decide) (case_11 K hr1 hP hD hS hl nx)
    by_cases c_12 : t = 12
    · exact lv_tableIn (off := 754) (tgt := 793) hx hb dL_law_39 (by rw [c_12]; decide) (by rw [c_12]; decide) (by rw [c_12]; rfl) (by decide) (case_12 K hr1 hP hD hS hl nx)
    by_cases c_13 : t = 13
    · exact lv_tableIn (off := 767) (tgt := 806) hx hb dL_law_39 (by rw [c_13]; decide) (by rw [c_13]; decide) (by rw [c_13]; rfl) (by decide) (case_13 K hr1 hP hD hS hl nx)
    by_cases c_14 : t = 14
    · exact lv_tableIn (off := 835) (tgt := 874) hx hb dL_law_39 (by rw [c_14]; decide) (by rw [c_14]; decide) (by rw [c_14]; rfl) (by decide) (case_14 K hr1 hP hD hS hl nx)
    by_cases c_15 : t = 15
    · exact lv_tableIn (off := 891) (tgt := 930) hx hb dL_law_39 (by rw [c_15]; decide) (by rw [c_15]; decide) (by rw [c_15]; rfl) (by decide) (case_15 K hr1 hP hD hS hl nx)
    by_cases c_16 : t = 16
    · exact lv_tableIn (off := 935) (tgt := 974) hx hb dL_law_39 (by rw [c_16]; decide) (by rw [c_16]; decide) (by rw [c_16]; rfl) (by decide) (case_16 K hr1 hP hD hS hl nx)
    by_cases c_17 : t = 17
    · exact lv_tableIn (off := 979) (tgt := 1018) hx hb dL_law_39 (by rw [c_17]; decide) (by rw [c_17]; decide) (by rw [c_17]; rfl) (by decide) (case_17 K hr1 hP hD hS hl nx)
    by_cases c_18 : t = 18
    · exact lv_tableIn (off := 1047) (tgt := 1086) hx hb dL_law_39 (by rw [c_18]; decide) (by rw [c_18]; decide) (by rw [c_18]; rfl) (by decide) (case_18 K hr1 hP hD hS hl nx)
    by_cases c_19 : t = 19
    · exact lv_tableIn (off := 1060) (tgt := 1099) hx hb dL_law_39 (by rw [c_19]; decide) (by rw [c_19]; decide) (by rw [c_19]; rfl) (by decide) (case_19 K hr1 hP hD hS hl nx)
    by_cases c_20 : t = 20
    · exact lv_tableIn (off := 1104) (tgt := 1143) hx hb dL_law_39 (by rw [c_20]; decide) (by rw [c_20]; decide) (by rw [c_20]; rfl) (by decide) (case_20 K hr1 hP hD hS hl nx)
    by_cases c_21 : t = 21
    · exact lv_tableIn (off := 1160) (tgt := 1199) hx hb dL_law_39 (by rw [c_21]; decide) (by rw [c_21]; decide) (by rw [c_21]; rfl) (by decide) (case_21 K hr1 hP hD hS hl nx)
    have n_0 := lv_neT (a := 0) c_0 (by decide)
    have n_1 := lv_neT (a := 1) c_1 (by decide)
    have n_2 := lv_neT (a := 2) c_2 (by decide)
    have n_3 := lv_neT (a := 3) c_3 (by decide)
    have n_4 := lv_neT (a := 4) c_4 (by decide)
    have n_5 := lv_neT (a := 5) c_5 (by decide)
    have n_6 := lv_neT (a := 6) c_6 (by decide)
    have n_7 := lv_neT (a := 7) c_7 (by decide)
    have n_8 := lv_neT (a := 8) c_8 (by decide)
    have n_9 := lv_neT (a := 9) c_9 (by decide)
    have n_10 := lv_neT (a := 10) c_10 (by decide)
    have n_11 := lv_neT (a := 11) c_11 (by decide)
    have n_12 := lv_neT (a := 12) c_12 (by decide)
    have n_13 := lv_neT (a := 13) c_13 (by decide)
    have n_14 := lv_neT (a := 14) c_14 (by decide)
    have n_15 := lv_neT (a := 15) c_15 (by decide)
    have n_16 := lv_neT (a := 16) c_16 (by decide)
    have n_17 := lv_neT (a := 17) c_17 (by decide)
    have n_18 := lv_neT (a := 18) c_18 (by decide)
    have n_19 := lv_neT (a := 19) c_19 (by decide)
    have n_20 := lv_neT (a := 20) c_20 (by decide)
    have n_21 := lv_neT (a := 21) c_21 (by decide)
    refine lv_tableOut (tgt := 1213) hx hb dL_law_39 (by omega) (by decide) ?_
    refine W.widen (k := 100 + 3 * i + 3) (n := 20000 + 74 * i + 74) (by omega) (by omega) ?_
    exact nx S M fJ H locs ls hr1 hP hD hS hl
set_option maxHeartbeats 4000000 in
set_option maxRecDepth 100000 in
theorem law_loop {p : Program} {l : Launch} {e : Env} {s : State} {m : MethodId} {below : List Frame} {meth : Method} {c : Code} {b L : Nat} {xs : Nat → Int32} {D : va_G} {cyI cyZ cyJ : ClassId} {qa qb : Nat → Nat} {o : Nat} (hL : L ≤ 2048) (C0 : lw_At p s m meth c b L xs) (hK : va_K D vwCl (kT3 cyI cyZ cyJ) s) (hY : kY (fun q : Nat => s.heap.size ≤ q) s) (hst : l.stackTraces = false) :
    ∀ (d i : Nat) (S : ZS) (M : ZM) (fJ : Nat → Int64) (H : Heap) (locs : List Loc) (ls : Array Slot), L - 4 * i ≤ d → i ≤ 513 → REL S M → va_P D vwCl (LA qa cyI cyZ S ++ ([LO o cyJ fJ] ++ LB qb cyI cyZ M)) H → va_D (fun q : Nat => s.heap.size ≤ q) (LA qa cyI cyZ S ++ ([LO o cyJ fJ] ++ LB qb cyI cyZ M)) → va_S (fun q : Nat => s.heap.size ≤ q) s.heap H locs →
      lv_has ls 7 [(0, .ref b), (1, .ref (qa 0)), (2, .ref (qb 0)), (3, .ref o), (4, .int (nI (4 * i)))] → W p l e room_1 s m #[Value.ref b] below meth c H locs (100 + 3 * i) (20000 + 74 * i) (lw_Z below #[Value.ref b] s) (F0 m 23 ls []) := by
  intro d
  induction d with
  | zero =>
    intro i S M fJ H locs ls hd hi hr1 hP hD hS hl
    exact law_head hL C0 hK hY hst i S M fJ H locs ls hi hr1 hP hD hS hl (fun h => absurd hd (by omega))
  | succ d ih =>
    intro i S M fJ H locs ls hd hi hr1 hP hD hS hl
    refine law_head hL C0 hK hY hst i S M fJ H locs ls hi hr1 hP hD hS hl (fun h => ?_)
    intro S1 M1 f1 H1 locs1 ls1 hr2 hP1 hD1 hS1 hl1
    obtain ⟨hx, hb, -⟩ := id C0
    refine lv_iinc (v := nI (4 * i) + 4) (lv' := [(4, .int (nI (4 * i) + 4)), (0, .ref b), (1, .ref (qa 0)), (2, .ref (qb 0)), (3, .ref o)]) hx hb dL_law_1213 hl1 (k := 4) rfl rfl (by decide) rfl (fun ls hl => ?_)
    refine lv_goto (tgt := 23) hx hb dL_law_1216 (by decide) ?_
    have e4 : nI (4 * i) + 4 = nI (4 * (i + 1)) := nI_add (4 * i) 4
    rw [e4] at hl
    refine W.widen (k := 100 + 3 * (i + 1)) (n := 20000 + 74 * (i + 1)) (by omega) (by omega) ?_
    exact ih (i + 1) S1 M1 f1 H1 locs1 ls (by omega) (by omega) hr2 hP1 hD1 hS1 (lv_sub hl [1, 2, 3, 4, 0] rfl)
