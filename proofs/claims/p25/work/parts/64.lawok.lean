/-! ===== the law's loop, all of it ===== -/
theorem VAL_ex {n : Nat} (hn : n ≤ 60) (kC fC sC iC : Nat → Int32) : ∃ val, VAL n kC fC sC iC val := by
  induction n with
  | zero => exact ⟨fun _ => 0, fun j hj => absurd hj (Nat.not_lt_zero j)⟩
  | succ n ih =>
    obtain ⟨val, hV⟩ := ih (by omega)
    refine ⟨upd val n (if kC n = 0 then iC n else if kC n = 5 then val (fC n).toNatClampNeg else cmp (kC n) (val (fC n).toNatClampNeg) (val (sC n).toNatClampNeg)), fun j hj => ?_⟩
    by_cases e : j = n
    · rw [e, pk_us]
      refine ⟨fun h => by rw [if_pos h], fun h a ha hf => ?_, fun h a b ha hb hf hs => ?_⟩
      · rw [if_neg (by rw [h]; decide), if_pos h, hf, nI_clamp (by omega), pk_un (by omega)]
      · rw [if_neg (by rcases h with h | h | h | h <;> rw [h] <;> decide), if_neg (by rcases h with h | h | h | h <;> rw [h] <;> decide), hf, hs, nI_clamp (by omega), nI_clamp (by omega), pk_un (by omega), pk_un (by omega)]
    · obtain ⟨h1, h2, h3⟩ := hV j (by omega)
      rw [pk_un e]
      exact ⟨h1, fun h a ha hf => by rw [pk_un (by omega)]; exact h2 h a ha hf, fun h a b ha hb hf hs => by rw [pk_un (by omega), pk_un (by omega)]; exact h3 h a b ha hb hf hs⟩
theorem outs_len {k f c val : Nat → Int32} : ∀ n, (outs k f c val n).length ≤ n
  | 0 => Nat.le_refl 0
  | n + 1 => by
    have h := outs_len (k := k) (f := f) (c := c) (val := val) n
    rw [outs, List.length_append]
    split <;> simp <;> omega
theorem setReg_ok {R : Nat} {rs : Int32} (h2 : 2 ≤ R) (h8 : R ≤ 8) : f_X4_setRegisters (nI R) rs = some (rs, nI R, 0) := by
  rw [f_X4_setRegisters, if_neg (show ¬ nI R < 2 from nI_nlt (a := R) (b := 2) h2 (by omega)), if_pos (show nI R ≤ 8 from nI_le (b := 8) h8 (by omega))]
set_option maxHeartbeats 4000000 in
theorem law_loop {n : Nat} {kC fC sC iC cC k a b c val : Nat → Int32} (hn : n ≤ 32) (hB : BC n kC fC sC iC cC k a b) (hcj : ∀ j, j < n → c j = cC j) (hV : VAL n kC fC sC iC val) :
    ∀ (d R fuel : Nat) (sN : Nat → Int32) (sL : Int32) (pN : Nat → Int32) (pL : Int32) (vI rO sO pO up sT : Nat → Int32) (rg sc : Int32) (mr ms mo : Nat → Int32) (mc rs al : Int32) (fv : Nat → Int32), 9 - R = d → 2 ≤ R → R ≤ 9 → d < fuel →
      (2 < R → ∀ i, i < (outs kC fC cC val n).length → (outs kC fC cC val n)[i]? = some (fv i)) →
      ∃ o, f_L_law_L69 kC fC sC iC cC (nI n) k a b c (nI n) fuel (nI R) sN sL pN pL vI rO sO pO up sT rg sc mr ms mo mc rs al fv = some o := by
  intro d
  induction d with
  | zero =>
    intro R fuel sN sL pN pL vI rO sO pO up sT rg sc mr ms mo mc rs al fv hd h2 h9 hf hfv
    obtain ⟨m, rfl, hm⟩ := fuel_s hf
    rw [f_L_law_L69, if_pos (show (8 : Int32) < nI R from nI_lt (a := 8) (by omega) (by omega))]
    exact ⟨_, rfl⟩
  | succ d ih =>
    intro R fuel sN sL pN pL vI rO sO pO up sT rg sc mr ms mo mc rs al fv hd h2 h9 hf hfv
    obtain ⟨m, rfl, hm⟩ := fuel_s hf
    have hR8 : R ≤ 8 := by omega
    obtain ⟨hw, hrel, hcnt⟩ := id hB
    obtain ⟨a1, b1, sc1, sN1, pN1, vI1, rO1, sO1, pO1, up1, sT1, e1, ha1, hb1, hS, TC, TD, TE, TF, TG, TH, TI, TL⟩ := make1 (R := R) h2 hR8 (show CC n kC fC sC cC from ⟨hw, hcnt⟩) hV sN pN vI rO sO pO up sT
    have e2 : f_X4_allocate kC fC sC iC cC (nI n) sN pN vI rO sO pO up sT (nI R) = some (nI a1, sN1, nI a1, pN1, nI b1, vI1, rO1, sO1, pO1, up1, sT1, nI R, nI sc1, 1) := by
      rw [f_X4_allocate, e1, kbs rfl, f_X3_length, kbs rfl]
    rw [f_L_law_L69, if_neg (show ¬ (8 : Int32) < nI R from nI_nlt (a := 8) (b := R) hR8 (by omega)), setReg_ok h2 hR8, kbs rfl]
    dsimp only
    rw [e2, kbs rfl]
    dsimp only
    -- the steps and the instructions
    have hev : evD sN1 (a1 - 0) 0 = prD k c n 0 := by
      rw [Nat.sub_zero, ← evs_D0, TD, prog_D0]
      exact prD_cong n 0 (fun j _ hj => ⟨((hrel j (by omega)).1).symm, (hcj j (by omega)).symm⟩)
    obtain ⟨t, ht, m1, m2⟩ := match_L (k := k) (c := c) hn ha1 hS n 0 4000 0 (by omega) (by omega) (by omega) (by omega) hev
    have m1' : f_L_law_L95 k c (nI n) (nI a1) sN1 (nI a1) 1 4000 0 0 = some (nI t) := m1
    rw [m1', kbs rfl, rest_L ha1 hS (a1 - t) t 4000 rfl ht (by omega) m2, kbs rfl]
    -- the pieces
    obtain ⟨x1, x2, p1, p2, p3⟩ := pieces_L hn hR8 ha1 hb1 TE b1 0 4000 (fun _ => 0) (fun _ => 0) (by omega) (by omega) (by omega) (fun j _ => nI_0.symm) (fun j _ => nI_0.symm)
    have p1' : f_L_law_L239 sN1 (nI a1) pN1 (nI b1) 1 4000 0 (fun _ => 0) (fun _ => 0) = some (x1, x2) := p1
    rw [p1', kbs rfl]
    dsimp only
    -- the sums
    have hP : ∀ i, i < n → ∀ u, u < n → (usC fC sC cC (nI i) u = true ↔ (c u ≠ 0 ∧ ¬ k u = 0 ∧ (a u = nI i ∨ b u = nI i))) := fun i hi u hu => by
      rw [usC_iff, hcj u hu]
      obtain ⟨r1, r2, r3⟩ := hrel u hu
      rw [r1]
      unfold usR
      by_cases k0 : kC u = 0
      · rcases (hw.2 u hu).2 with ⟨-, g1, g2⟩ | ⟨g1, -⟩
        · rw [g1, g2]
          exact ⟨fun g => g.2.elim (fun e => absurd e.symm (nIm1 (by omega))) (fun e => absurd e.symm (nIm1 (by omega))), fun g => absurd k0 g.2.1⟩
        · exact absurd k0 g1
      · rw [(r3 k0).1, (r3 k0).2]
        exact ⟨fun g => ⟨g.1, k0, g.2⟩, fun g => ⟨g.1, g.2.2⟩⟩
    have hLu : ∀ j, j < n → ldv sN1 pN1 j b1 ≤ fb_ct (fun t => usC fC sC cC (nI j) (j + 1 + t)) (n - (j + 1)) := fun j hj => by
      have h := TL j hj
      unfold usd at h
      have hs := fb_ct_split (usC fC sC cC (nI j)) (j + 1) (n - (j + 1))
      rw [show j + 1 + (n - (j + 1)) = n by omega] at hs
      rw [hs, fb_ct_zero.mpr (fun u hu => by
        cases q : usC fC sC cC (nI j) u with
        | false => rfl
        | true =>
          have := usR_lt hw (show u < n by omega) (show j < 2 ^ 31 by omega) (usC_iff.mp q).2
          omega), Nat.zero_add] at h
      exact h
    have sm := sums_L (e1 := x1) (e2 := x2) (S := fun v => stv sN1 pN1 v b1) (L := fun v => ldv sN1 pN1 v b1) (P := fun i => usC fC sC cC (nI i)) hn hP p2 p3 TF hLu TI n 0 4000 (by omega) (by omega) (by omega)
    have sm' : f_L_law_L367 k a b c (nI n) x1 x2 4000 0 0 = some (nI (fb_sm (fun v => stv sN1 pN1 v b1) n)) := sm
    have hck := cK_le (κ := 8) (f := sN1) a1
    have c8 : f_X3_countOfFirst 8 960 sN1 (nI a1) = some (nI (cK 8 sN1 a1)) := cf_ok (by omega) (by omega)
    have sC8 : f_X4_stepCount 8 sN1 (nI a1) 1 = some (nI (cK 8 sN1 a1)) := by
      rw [f_X4_stepCount, alloc1, kbs rfl, if_neg (by decide), if_pos (by decide), c8, kbs rfl]
    have sl : f_X4_slots (nI sc1) 1 = some (nI sc1) := by
      rw [f_X4_slots, alloc1, kbs rfl, f_X0_slotCount, kbs rfl]
    rw [sm', kbs rfl, sC8, kbs rfl, ← TG, if_pos rfl, sl, kbs rfl, if_pos (nI_le TH (by omega))]
    -- the outputs
    have hol := outs_len (k := kC) (f := fC) (c := cC) (val := val) n
    obtain ⟨rg1, sl1, mo1, x3, x4⟩ := execute1 hR8 ha1 hS TC (by omega) mr ms mo
    have hrun : f_X4_run sN1 (nI a1) mr ms mo 1 = some (nI (outs kC fC cC val n).length, rg1, sl1, mo1, nI (outs kC fC cC val n).length) := by
      rw [f_X4_run, alloc1, kbs rfl, x3, kbs rfl, f_X2_outputCount, kbs rfl]
    rw [hrun, kbs rfl]
    dsimp only
    obtain ⟨fv1, o1, o2⟩ := outs_L (R := R) (by omega) hR8 x4 (outs kC fC cC val n).length 0 4000 fv (by omega) (by omega) (by omega) hfv (fun i hi => absurd hi (Nat.not_lt_zero i))
    have o1' : f_L_law_L513 (nI R) (nI (outs kC fC cC val n).length) mo1 (nI (outs kC fC cC val n).length) 4000 0 fv = some fv1 := o1
    rw [o1', kbs rfl, nI_1]
    exact ih (R + 1) m _ _ _ _ _ _ _ _ _ _ _ _ _ _ _ _ _ _ fv1 (by omega) (by omega) (by omega) (by omega) (fun _ => o2)
/-- the law's tail answers 1 -/
theorem law_ok {n : Nat} {kC fC sC iC cC k a b c : Nat → Int32} (hn : n ≤ 32) (hB : BC n kC fC sC iC cC k a b) (hcj : ∀ j, j < n → c j = cC j) (sN : Nat → Int32) (sL : Int32) (pN : Nat → Int32) (pL : Int32) (vI rO sO pO up sT : Nat → Int32) (rg sc : Int32) (mr ms mo : Nat → Int32) (mc rs al : Int32) (fv : Nat → Int32) :
    f_L_law (nI n) kC fC sC iC cC (nI n) sN sL pN pL vI rO sO pO up sT rg sc mr ms mo mc rs al k a b c fv = some 1 := by
  obtain ⟨val, hV⟩ := VAL_ex (show n ≤ 60 by omega) kC fC sC iC
  obtain ⟨o, ho⟩ := law_loop hn hB hcj hV 7 2 4000 sN sL pN pL vI rO sO pO up sT rg sc mr ms mo mc rs al fv rfl (by omega) (by omega) (by omega) (fun h => absurd h (by omega))
  have ho' : f_L_law_L69 kC fC sC iC cC (nI n) k a b c (nI n) 4000 2 sN sL pN pL vI rO sO pO up sT rg sc mr ms mo mc rs al fv = some o := ho
  rw [f_L_law, ho', kbs rfl, f_X4_size, f_X1_length, kbs rfl, kbs rfl, if_pos rfl]
