/-! ===== class's and model's code, side by side ===== -/
def CR (n : Nat) (kC fC sC iC cC kM aM bM cM : Nat → Int32) : Prop :=
  WF n kC fC sC ∧ (∀ j, j < n → kM j = kC j ∧ (kC j = 0 → aM j = iC j ∧ bM j = -1) ∧ (kC j ≠ 0 → aM j = fC j ∧ bM j = sC j)) ∧ IsC n kC (usR fC sC) cC ∧ ∀ j, j < n → cM j = cC j
section CRS
variable {n : Nat} {kC fC sC iC cC kM aM bM cM : Nat → Int32}
theorem usC_iff {f s c : Nat → Int32} {v u : Nat} : usC f s c (nI v) u = true ↔ c u ≠ 0 ∧ usR f s u v := by simp [usC, usR]
theorem CR.us (h : CR n kC fC sC iC cC kM aM bM cM) {v u : Nat} (hv : v < 60) (hu : u < n) : usM kM aM bM cM (nI v) u = usC fC sC cC (nI v) u := by
  obtain ⟨hw, hm, hc, hcc⟩ := h
  obtain ⟨m1, m2, m3⟩ := hm u hu
  unfold usM usC
  rw [hcc u hu, m1]
  by_cases k0 : kC u = 0
  · rcases (hw.2 u hu).2 with ⟨-, h1, h2⟩ | ⟨h1, -⟩
    · rw [h1, h2]
      simp [k0]
      exact fun _ e => nIm1 (k := v) (by omega) e.symm
    · exact absurd k0 h1
  · rw [(m3 k0).1, (m3 k0).2]
    simp [k0]
theorem CR.nuM (h : CR n kC fC sC iC cC kM aM bM cM) {v i : Nat} (hv : v < 60) : nu (usM kM aM bM cM (nI v)) n i = nu (usC fC sC cC (nI v)) n i := nu_cong (fun u _ hu => h.us hv hu)
theorem CR.noUse (h : CR n kC fC sC iC cC kM aM bM cM) {v : Nat} (hv : v < n) (hno : ∀ u, v < u → u < n → cC u ≠ 0 → ¬ usR fC sC u v) (i : Nat) : nu (usC fC sC cC (nI v)) n i = -1 := by
  have hn := h.1.1
  rcases nu_cases (usC fC sC cC (nI v)) n i with ⟨g, -⟩ | ⟨u, -, h2, h3, -⟩
  · exact g
  · obtain ⟨g1, g2⟩ := usC_iff.mp h3
    exact absurd g2 (hno u (usR_lt h.1 h2 (by omega) g2) h2 g1)
theorem CR.dead (h : CR n kC fC sC iC cC kM aM bM cM) {v : Nat} (hv : v < n) (h0 : cC v = 0) (i : Nat) : nu (usC fC sC cC (nI v)) n i = -1 :=
  h.noUse hv (fun u h1 h2 h3 h4 => absurd h0 ((h.2.2.1 v hv).2.mpr (Or.inr ⟨u, h1, h2, h3, h4⟩))) i
theorem CR.out (h : CR n kC fC sC iC cC kM aM bM cM) {v : Nat} (hv : v < n) (h6 : kC v = 6) (i : Nat) : nu (usC fC sC cC (nI v)) n i = -1 := by
  have hn := h.1.1
  refine h.noUse hv (fun u h1 h2 _ h4 => ?_) i
  rcases (h.1.2 u h2).2 with ⟨-, g1, g2⟩ | ⟨-, ⟨a, a1, a2, a3⟩, g⟩
  · rcases h4 with h4 | h4
    · exact nIm1 (k := v) (by omega) (h4.symm.trans g1)
    · exact nIm1 (k := v) (by omega) (h4.symm.trans g2)
  · rcases h4 with h4 | h4
    · have e : a = v := nI_i (by omega) (by omega) (a2.symm.trans h4)
      rw [e] at a3; exact a3 h6
    · rcases g with ⟨-, -, b, b1, b2, b3⟩ | ⟨-, g⟩
      · have e : b = v := nI_i (by omega) (by omega) (b2.symm.trans h4)
        rw [e] at b3; exact b3 h6
      · exact nIm1 (k := v) (by omega) (h4.symm.trans g)
theorem CR.live (h : CR n kC fC sC iC cC kM aM bM cM) {v : Nat} (hv : v < n) (h0 : cC v ≠ 0) (h6 : kC v ≠ 6) : nu (usC fC sC cC (nI v)) n (v + 1) ≠ -1 := by
  have hn := h.1.1
  rcases (h.2.2.1 v hv).2.mp h0 with g | ⟨u, h1, h2, h3, h4⟩
  · exact absurd g h6
  · rcases nu_cases (usC fC sC cC (nI v)) n (v + 1) with ⟨-, g⟩ | ⟨w, g1, g2, -, g4, -⟩
    · have := g u (by omega) h2
      rw [usC_iff.mpr ⟨h3, h4⟩] at this
      exact absurd this (by decide)
    · rw [g4]; exact nIm1 (by omega)
theorem CR.hit (h : CR n kC fC sC iC cC kM aM bM cM) {v i : Nat} (hi : i < n) (h0 : cC i ≠ 0) (hu : usR fC sC i v) : nu (usC fC sC cC (nI v)) n i ≠ -1 := by
  have hn := h.1.1
  rw [nu_hit hi (usC_iff.mpr ⟨h0, hu⟩)]
  exact nIm1 (by omega)
theorem CR.skip {v i : Nat} (hu : ¬ (cC i ≠ 0 ∧ usR fC sC i v)) : nu (usC fC sC cC (nI v)) n (i + 1) = nu (usC fC sC cC (nI v)) n i := nu_skip (fun _ => by
  cases e : usC fC sC cC (nI v) i with
  | false => rfl
  | true => exact absurd (usC_iff.mp e) hu)
end CRS
theorem two_reg {n R : Nat} {vI rO : Nat → Int32} (hn : n ≤ 60) (hR2 : 2 ≤ R) (hR : R ≤ 8) (h : RegI n R vI rO) (hf : ∀ r, r < R → vI r ≠ -1) (x : Int32) : ∃ r v, r < R ∧ v < n ∧ vI r = nI v ∧ rO v = nI r ∧ nI v ≠ x := by
  have at' : ∀ r, r < R → ∃ v, v < n ∧ vI r = nI v ∧ rO v = nI r := fun r hr => by
    rcases h.1 r hr with g | g
    · exact absurd g (hf r hr)
    · exact g
  obtain ⟨v0, a1, a2, a3⟩ := at' 0 (by omega)
  obtain ⟨v1, b1, b2, b3⟩ := at' 1 (by omega)
  by_cases q : nI v0 = x
  · refine ⟨1, v1, by omega, b1, b2, b3, fun z => ?_⟩
    have e : v1 = v0 := nI_i (by omega) (by omega) (z.trans q.symm)
    rw [e, a3] at b3
    have := nI_i (a := 0) (b := 1) (by omega) (by omega) b3
    omega
  · exact ⟨0, v0, by omega, a1, a2, a3, q⟩
set_option maxHeartbeats 2000000 in
/-- the instruction's own step -/
theorem step3_ok {n R i a b S B O va ra : Nat} {kC nx sN stP pN pcP vI rO sO pO pO' up sT kM aM bM cM : Nat → Int32} {sc bo xb LA LB : Int32} (hn : n ≤ 60) (hR2 : 2 ≤ R) (hR : R ≤ 8) (hi : i < n) (hS : S + 1 ≤ 240) (hB : B + 1 ≤ 180)
    (hI : Inv n R i kC nx S B O a b sN stP pN pcP vI rO sO pO pO' up sT) (hva : va < 60) (ha : HasP b pO pO' va) (hbo : bo = -1 ∨ ∃ vb, vb < 60 ∧ bo = nI vb ∧ HasP b pO pO' vb)
    (hra : ra < R) (hLA : (LA = 1 ∧ vI ra = -1) ∨ (LA = 0 ∧ vI ra ≠ -1)) (hLB : (LB = 1 ∧ ∃ rb, rb < R ∧ xb = nI rb ∧ vI rb = -1) ∨ (LB = 0 ∧ (xb = -1 ∨ (∃ rb, rb < R ∧ xb = nI rb ∧ vI rb ≠ -1) ∨ vI ra = -1)))
    (hx6 : kC i = 6 → nx i = -1) (hx : kC i ≠ 6 → nx i ≠ -1) (hrow : kC i ≠ 6 → ∀ r, r < R → RowOK R (kC i) (nI r) (nI ra) xb)
    (hu : ∀ v, v < n → nx v = nu (usM kM aM bM cM (nI v)) n (i + 1)) (hk : ∀ v, v < n → kM v = kC v) :
    Sim n R (i + 1) kC nx (S + 1) (B + 1) (O + 1)
      (Option.bind (f_X1_hasValue (nI i) kC (nI n)) fun u87 =>
        (if u87 = 0 then
          (Option.bind (f_X3_append 6 (nI ra) (-1) (-1) 960 sN 240 (nI a)) fun u162 =>
          f_X0_treat_J167 u162.1 bo (nI va) u162.2.1 u162.2.2 pN (nI b) vI rO sO pO up sT sc)
        else
          (Option.bind (f_X0_registerJustLeft (nI ra) xb vI (nI R)) fun u98 =>
          (if u98 = (-1) then
            (Option.bind (f_X0_getRegister (-1) (-1) kC (nI n) sN (nI a) pN (nI b) vI rO sO pO up sT (nI R) sc) fun u112 =>
            f_X0_treat_J117 kC (nI n) (nI R) u112.1 xb (nI ra) bo (nI va) (nI i) u112.2.1 u112.2.2.1 u112.2.2.2.1 (nI b) u112.2.2.2.2.1 u112.2.2.2.2.2.1 u112.2.2.2.2.2.2.1 pO up u112.2.2.2.2.2.2.2.1 u112.2.2.2.2.2.2.2.2)
          else
            f_X0_treat_J117 kC (nI n) (nI R) u98 xb (nI ra) bo (nI va) (nI i) sN (nI a) pN (nI b) vI rO sO pO up sT sc))))
      (f_X5_doInstruction_J92 (nI n) kM aM bM cM LA xb (nI ra) bo (nI va) (nI i) (nI R) LB (nI a) stP (nI b) pcP sc rO sO pO' vI sT) := by
  have hi60 : i < 60 := by omega
  rw [hasValueC hn hi, kbs rfl, f_X5_doInstruction_J92, rdc_N hi60 (by omega), nI_clamp (n := i) (by omega), hk i hi]
  by_cases h6 : kC i = 6
  · rw [if_pos h6, if_pos rfl, if_pos h6]
    obtain ⟨a', b', sN', stP', pN', pcP', vI', rO', sO', pO1, pO2, up', sT', sc', e1, e2, e3⟩ := out_ok (sc := sc) (R := R) hn hi hS (by omega) hI hva ha hbo (hx6 h6) ⟨ra, hra, rfl⟩
    exact ⟨a', b', sN', stP', pN', pcP', vI', rO', sO', pO1, pO2, up', sT', sc', e1, e2, e3.mono (Nat.le_refl _) (by omega) (Nat.le_refl _)⟩
  · rw [if_neg h6, if_neg (by decide), if_neg h6, f_X0_registerJustLeft, free_ok hra hR, kbs rfl]
    have J145 : ∀ (x0 x1 x2 x3 x4 : Int32) (st : Int32) (f : Nat → Int32) (pc : Int32) (g : Nat → Int32) (sl : Int32) (h1 h2 h3 h4 h5 : Nat → Int32), f_X5_doInstruction_J145 kM x0 x1 x2 x3 (nI i) x4 st f pc g sl h1 h2 h3 h4 h5 = f_X5_doInstruction_J168 x4 x0 x1 x2 x3 (nI i) (kC i) st f pc g sl h1 h2 h3 h4 h5 := by
      intro x0 x1 x2 x3 x4 st f pc g sl h1 h2 h3 h4 h5
      rw [f_X5_doInstruction_J145, rdc_N hi60 (by omega), nI_clamp (n := i) (by omega), hk i hi]
      by_cases h5 : kC i = 5
      · rw [if_pos h5, h5]
      · rw [if_neg h5, rdc_N hi60 (by omega)]
    have lift : ∀ (rC : Option ((Nat → Int32) × Int32 × (Nat → Int32) × Int32 × (Nat → Int32) × (Nat → Int32) × (Nat → Int32) × (Nat → Int32) × (Nat → Int32) × (Nat → Int32) × Int32)) (rM : Option (Int32 × (Nat → Int32) × Int32 × (Nat → Int32) × Int32 × (Nat → Int32) × (Nat → Int32) × (Nat → Int32) × (Nat → Int32) × (Nat → Int32))), Sim n R (i + 1) kC nx (S + 1) (B + 1) O rC rM → Sim n R (i + 1) kC nx (S + 1) (B + 1) (O + 1) rC rM := fun rC rM ⟨a', b', sN', stP', pN', pcP', vI', rO', sO', pO1, pO2, up', sT', sc', e1, e2, e3⟩ => ⟨a', b', sN', stP', pN', pcP', vI', rO', sO', pO1, pO2, up', sT', sc', e1, e2, e3.mono (Nat.le_refl _) (Nat.le_refl _) (by omega)⟩
    rcases hLA with ⟨la, h0⟩ | ⟨la, h0⟩
    · rw [if_pos h0, if_neg (by decide), kbs rfl, if_neg (nIm1 (by omega)), la, if_neg (by decide), J145]
      exact lift _ _ (value_ok hn hR hi hS hB hI hva ha hbo hra h0 (hx h6) (hrow h6 ra hra) h6)
    · rw [if_neg h0, if_pos rfl, la, if_pos rfl]
      rcases hLB with ⟨lb', rb, hrb, rfl, h1⟩ | ⟨lb', h1⟩
      · rw [free_ok hrb hR, kbs rfl, if_pos h1, if_neg (by decide), kbs rfl, if_neg (nIm1 (by omega)), lb', if_neg (by decide), J145]
        exact lift _ _ (value_ok hn hR hi hS hB hI hva ha hbo hrb h1 (hx h6) (hrow h6 rb hrb) h6)
      · have hfree : f_X0_isFree xb vI (nI R) = some 0 := by
          rcases h1 with rfl | ⟨rb, hrb, rfl, h2⟩ | h2
          · exact free_m1
          · rw [free_ok hrb hR, if_neg h2]
          · exact absurd h2 h0
        rw [hfree, kbs rfl, if_pos rfl, kbs rfl, if_pos rfl, lb', if_pos rfl]
        obtain ⟨r, a1, sN1, stP1, pN1, pcP1, vI1, rO1, sO1, sT1, sc1, hr, g1, g2, hI1, e1, -, k2⟩ := get_ok (sc := sc) (pa := -1) (pb := -1) (fi := 0) hn hR hi (by omega) (by omega) hI (Or.inl rfl)
          (fun v hv => ⟨fun _ h => absurd h.1 (by decide), fun _ => ⟨nIm1 (by omega), nIm1 (by omega)⟩⟩) (fun v hv _ _ => hu v hv) hk
          (fun hf => by
            obtain ⟨r, v, q1, q2, q3, -, -⟩ := two_reg hn hR2 hR hI.1 hf (-1)
            exact ⟨r, v, q1, q2, q3, nIm1 (by omega), nIm1 (by omega)⟩)
        rw [g1, kbs rfl, g2, kbs rfl, J145]
        exact lift _ _ (value_ok hn hR hi hS hB hI1 hva ha hbo hr e1 (hx h6) (hrow h6 r hr) h6)
