set_option maxHeartbeats 4000000 in
/-- an instruction: the class's treat, the model's doInstruction -/
theorem treat_ok {n R i a b S B O : Nat} {kC fC sC iC cC sN stP pN pcP vI rO sO pO pO' up sT kM aM bM cM : Nat → Int32} {sc : Int32} (hR2 : 2 ≤ R) (hR : R ≤ 8) (hi : i < n) (hS : S + 3 ≤ 240) (hB : B + 3 ≤ 180)
    (hc : CR n kC fC sC iC cC kM aM bM cM) (h0 : cC i ≠ 0) (hk0 : kC i ≠ 0)
    (hI : Inv n R i kC (fun v => nu (usC fC sC cC (nI v)) n i) S B O a b sN stP pN pcP vI rO sO pO pO' up sT) :
    Sim n R (i + 1) kC (fun v => nu (usC fC sC cC (nI v)) n (i + 1)) (S + 3) (B + 3) (O + 1) (f_X0_treat (nI i) kC fC sC iC cC (nI n) sN (nI a) pN (nI b) vI rO sO pO up sT (nI R) sc)
      (f_X5_doInstruction (nI i) (nI R) (nI n) kM aM bM (nI a) stP (nI b) pcP sc cM rO sO pO' vI sT) := by
  have hn := hc.1.1
  have hi60 : i < 60 := by omega
  obtain ⟨va, hva, efa, hka⟩ : ∃ a, a < i ∧ fC i = nI a ∧ kC a ≠ 6 := by
    rcases (hc.1.2 i hi).2 with ⟨g, -⟩ | ⟨-, g, -⟩
    · exact absurd g hk0
    · exact g
  have hbC : (kC i ≠ 5 ∧ kC i ≠ 6 ∧ ∃ b, b < i ∧ sC i = nI b ∧ kC b ≠ 6) ∨ ((kC i = 5 ∨ kC i = 6) ∧ sC i = -1) := by
    rcases (hc.1.2 i hi).2 with ⟨g, -⟩ | ⟨-, -, g⟩
    · exact absurd g hk0
    · exact g
  obtain ⟨m1, -, m3⟩ := hc.2.1 i hi
  obtain ⟨eaM, ebM⟩ := m3 hk0
  have hva60 : va < 60 := by omega
  have hk : ∀ v, v < n → kM v = kC v := fun v hv => (hc.2.1 v hv).1
  -- who isn't used keeps its next use
  have hskip : ∀ v, v < n → nI v ≠ nI va → nI v ≠ sC i → nu (usC fC sC cC (nI v)) n i = nu (usM kM aM bM cM (nI v)) n (i + 1) := fun v hv g1 g2 => by
    rw [hc.nuM (show v < 60 by omega), CR.skip (fun h => h.2.elim (fun z => g1 (z.symm.trans efa)) (fun z => g2 z.symm))]
  have ht : ∀ v, v < n → ((nI v ≠ nI va ∧ nI v ≠ sC i) ↔ ¬ ((1 : Int32) = 1 ∧ (¬ kM i = 0 ∧ (aM i = nI v ∨ bM i = nI v)))) := fun v hv => by
    rw [m1, eaM, ebM, efa]
    constructor
    · rintro ⟨g1, g2⟩ ⟨-, -, z | z⟩
      · exact g1 z.symm
      · exact g2 z.symm
    · intro g
      exact ⟨fun z => g ⟨rfl, hk0, Or.inl z.symm⟩, fun z => g ⟨rfl, hk0, Or.inr z.symm⟩⟩
  have hxa : nu (usC fC sC cC (nI va)) n i ≠ -1 := hc.hit hi h0 (Or.inl efa)
  have hca : kC va = 0 → aM va = iC va := fun g => ((hc.2.1 va (by omega)).2.1 g).1
  -- a
  obtain ⟨a1, b1, sN1, stP1, pN1, pcP1, vI1, rO1, sO1, pO1, pO1', sT1, sc1, K1, M1, hI1, hra1, -⟩ := bring_ok (sc := sc) (v := va) (iC := iC) (pa := nI va) (pb := sC i) hn hR hi (by omega) (by omega) hva hI ht hskip hk hca hxa (fun g hf => by
    obtain ⟨r, v, q1, q2, q3, q4, q5⟩ := two_reg hn hR2 hR hI.1 hf (sC i)
    exact ⟨r, v, q1, q2, q3, fun z => by
      have e : v = va := nI_i (by omega) (by omega) z
      rw [e, g] at q4
      exact nIm1 (k := r) (by omega) q4.symm, q5⟩)
  rw [f_X0_treat, firstOfC hn hi, kbs rfl, secondOfC hn hi, kbs rfl, efa, f_X5_doInstruction, rdc_N hi60 (by omega), rdc_N hi60 (by omega), nI_clamp (n := i) (by omega), eaM, ebM, efa, M1, kbs rfl]
  have K1' := K1 (fun sN sL pN pL vI rO sO pO sT sc => f_X0_treat_J37 kC fC sC iC cC (nI n) (nI R) (sC i) (nI va) (nI i) sN sL pN pL vI rO sO pO up sT sc)
  dsimp only at K1' ⊢
  rw [K1', f_X0_treat_J37]
  -- b
  have hB2 : ∃ (a2 b2 : Nat) (sN2 stP2 pN2 pcP2 vI2 rO2 sO2 pO2 pO2' sT2 : Nat → Int32) (sc2 : Int32),
      (Option.bind (f_X0_isMissing (sC i) rO1) fun u39 => (if u39 = 0 then f_X0_treat_J56 kC fC sC cC (nI n) (nI R) (sC i) (nI va) (nI i) sN1 (nI a1) pN1 (nI b1) vI1 rO1 sO1 pO1 up sT1 sc1 else
        Option.bind (f_X0_getRegister (nI va) (sC i) kC (nI n) sN1 (nI a1) pN1 (nI b1) vI1 rO1 sO1 pO1 up sT1 (nI R) sc1) fun u50 =>
        Option.bind (f_X0_fetch (sC i) u50.1 kC iC (nI n) u50.2.1 u50.2.2.1 u50.2.2.2.1 (nI b1) u50.2.2.2.2.1 u50.2.2.2.2.2.1 u50.2.2.2.2.2.2.1 pO1 (nI R)) fun u53 =>
        f_X0_treat_J56 kC fC sC cC (nI n) (nI R) (sC i) (nI va) (nI i) u53.1 u53.2.1 u53.2.2.1 u53.2.2.2.1 u53.2.2.2.2.1 u53.2.2.2.2.2.1 u50.2.2.2.2.2.2.1 u53.2.2.2.2.2.2 up u50.2.2.2.2.2.2.2.1 u50.2.2.2.2.2.2.2.2)) =
        f_X0_treat_J56 kC fC sC cC (nI n) (nI R) (sC i) (nI va) (nI i) sN2 (nI a2) pN2 (nI b2) vI2 rO2 sO2 pO2 up sT2 sc2 ∧
      (if sC i = -1 then f_X5_doInstruction_J36 (nI n) kM aM bM cM (sC i) (nI va) (nI i) (nI R) (nI a1) stP1 (nI b1) pcP1 sc1 rO1 sO1 pO1' vI1 sT1 else
        Option.bind (f_X5_bring (sC i) (nI i) (nI R) (nI n) kM aM bM (nI a1) stP1 (nI b1) pcP1 sc1 cM rO1 sO1 pO1' vI1 sT1) fun u33 => f_X5_doInstruction_J36 (nI n) kM aM bM cM (sC i) (nI va) (nI i) (nI R) u33.1 u33.2.1 u33.2.2.1 u33.2.2.2.1 u33.2.2.2.2.1 u33.2.2.2.2.2.1 u33.2.2.2.2.2.2.1 u33.2.2.2.2.2.2.2.1 u33.2.2.2.2.2.2.2.2.1 u33.2.2.2.2.2.2.2.2.2) =
        f_X5_doInstruction_J36 (nI n) kM aM bM cM (sC i) (nI va) (nI i) (nI R) (nI a2) stP2 (nI b2) pcP2 sc2 rO2 sO2 pO2' vI2 sT2 ∧
      Inv n R i kC (fun v => nu (usC fC sC cC (nI v)) n i) (S + 2) (B + 2) O a2 b2 sN2 stP2 pN2 pcP2 vI2 rO2 sO2 pO2 pO2' up sT2 ∧ rO2 va ≠ -1 ∧ (∀ vb, vb < i → sC i = nI vb → rO2 vb ≠ -1) := by
    rcases hbC with ⟨-, -, vb, hvb, esb, hkb⟩ | ⟨-, esb⟩
    · have hxb : nu (usC fC sC cC (nI vb)) n i ≠ -1 := hc.hit hi h0 (Or.inr esb)
      have hcb : kC vb = 0 → aM vb = iC vb := fun g => ((hc.2.1 vb (by omega)).2.1 g).1
      rw [esb] at ht hskip ⊢
      obtain ⟨a2, b2, sN2, stP2, pN2, pcP2, vI2, rO2, sO2, pO2, pO2', sT2, sc2, K2, M2, hI2, hrb2, keep2⟩ := bring_ok (sc := sc1) (v := vb) (iC := iC) (pa := nI va) (pb := nI vb) hn hR hi (by omega) (by omega) hvb hI1 ht hskip hk hcb hxb (fun g hf => by
        obtain ⟨r, v, q1, q2, q3, q4, q5⟩ := two_reg hn hR2 hR hI1.1 hf (nI va)
        exact ⟨r, v, q1, q2, q3, q5, fun z => by
          have e : v = vb := nI_i (by omega) (by omega) z
          rw [e, g] at q4
          exact nIm1 (k := r) (by omega) q4.symm⟩)
      have K2' := K2 (fun sN sL pN pL vI rO sO pO sT sc => f_X0_treat_J56 kC fC sC cC (nI n) (nI R) (nI vb) (nI va) (nI i) sN sL pN pL vI rO sO pO up sT sc)
      refine ⟨a2, b2, sN2, stP2, pN2, pcP2, vI2, rO2, sO2, pO2, pO2', sT2, sc2, K2', ?_, hI2, by rw [keep2 va hva60 (Or.inl rfl) hra1]; exact hra1, fun w hw g => by
        have e : vb = w := nI_i (by omega) (by omega) g
        rw [← e]; exact hrb2⟩
      rw [if_neg (nIm1 (by omega)), M2, kbs rfl]
    · refine ⟨a1, b1, sN1, stP1, pN1, pcP1, vI1, rO1, sO1, pO1, pO1', sT1, sc1, ?_, by rw [if_pos esb], hI1.mono (by omega) (by omega) (Nat.le_refl O), hra1, fun w hw g => absurd (g.symm.trans esb) (nIm1 (by omega))⟩
      rw [esb, miss_m1, kbs rfl, if_pos rfl]
  obtain ⟨a2, b2, sN2, stP2, pN2, pcP2, vI2, rO2, sO2, pO2, pO2', sT2, sc2, K2, M2, hI2, hra2, hrb2⟩ := hB2
  rw [K2, M2]
  clear K1 K1' K2 M1 M2 hI1
  obtain ⟨iR, iS, iP, iE, iK, iU, iL, iA, iB, iZ⟩ := id hI2
  obtain ⟨ra, hra, era, eva⟩ : ∃ r, r < R ∧ rO2 va = nI r ∧ vI2 r = nI va := (iR.2 va hva60).resolve_left hra2
  have hPa : HasP b2 pO2 pO2' va := (iP va hva60).resolve_left (fun g => hra2 g.2)
  have hxM : ∀ v, v < n → nu (usM kM aM bM cM (nI v)) n (i + 1) = nu (usC fC sC cC (nI v)) n (i + 1) := fun v hv => hc.nuM (by omega)
  rw [f_X0_treat_J56, f_X5_doInstruction_J36, rHold_ok hva60, kbs rfl, rdc_N hva60 (by omega), nI_clamp (n := va) (by omega), era]
  have hx6 : kC i = 6 → nu (usC fC sC cC (nI i)) n (i + 1) = -1 := fun g => hc.out hi g _
  have hx : kC i ≠ 6 → nu (usC fC sC cC (nI i)) n (i + 1) ≠ -1 := fun g => hc.live hi h0 g
  obtain ⟨κ, hκ, eκ⟩ := (hc.1.2 i hi).1
  have hstep : ∀ {nx : Nat → Int32} {a b : Nat} {sN stP pN pcP vI rO sO pO pO' up sT : Nat → Int32}, Inv n R i kC nx (S + 2) (B + 2) O a b sN stP pN pcP vI rO sO pO pO' up sT → (∀ v, v < n → nx v = nu (usC fC sC cC (nI v)) n (i + 1)) → Inv n R i kC (fun v => nu (usC fC sC cC (nI v)) n (i + 1)) (S + 2) (B + 2) O a b sN stP pN pcP vI rO sO pO pO' up sT := fun h e => h.congr (by omega) e
  -- a leaves, or not
  obtain ⟨mv1, mv2⟩ := move_ok (x := nu (usC fC sC cC (nI va)) n (i + 1)) hn hR hi (by omega) hra era hI2 rfl (hxM va (by omega)) hxa
  have hA : ∃ (LA : Int32) (vI3 rO3 sO3 up3 sT3 : Nat → Int32), f_X0_moveToNextUse (nI va) (nI i) fC sC cC (nI n) vI2 rO2 sO2 up sT2 (nI R) = some (vI3, rO3, sO3, up3, sT3) ∧ f_X5_ends (nI va) (nI i) (nI n) kM aM bM cM rO2 sO2 vI2 sT2 = some (LA, rO3, sO3, vI3, sT3) ∧
      Inv n R i kC (upd (fun v => nu (usC fC sC cC (nI v)) n i) va (nu (usC fC sC cC (nI va)) n (i + 1))) (S + 2) (B + 2) O a2 b2 sN2 stP2 pN2 pcP2 vI3 rO3 sO3 pO2 pO2' up3 sT3 ∧ up3 va = nu (usC fC sC cC (nI va)) n (i + 1) ∧ ((LA = 1 ∧ vI3 ra = -1 ∧ nu (usC fC sC cC (nI va)) n (i + 1) = -1 ∧ rO3 va = -1 ∧ sO3 va = -1) ∨ (LA = 0 ∧ vI3 ra ≠ -1 ∧ nu (usC fC sC cC (nI va)) n (i + 1) ≠ -1)) ∧ (∀ w, w < 60 → w ≠ va → rO3 w = rO2 w) ∧ (∀ r, r < R → r ≠ ra → vI3 r = vI2 r) := by
    by_cases q : nu (usC fC sC cC (nI va)) n (i + 1) = -1
    · obtain ⟨sT3, g1, g2, g3⟩ := mv1 q
      exact ⟨1, _, _, _, _, sT3, g1, g2, g3, by rw [pk_us], Or.inl ⟨rfl, by rw [pk_us], q, by rw [pk_us], by rw [pk_us]⟩, fun w _ hw => pk_un hw, fun r _ hr => pk_un hr⟩
    · obtain ⟨g1, g2, g3⟩ := mv2 q
      exact ⟨0, _, _, _, _, _, g1, g2, g3, by rw [pk_us], Or.inr ⟨rfl, by rw [eva]; exact nIm1 (by omega), q⟩, fun w _ _ => rfl, fun r _ _ => rfl⟩
  obtain ⟨LA, vI3, rO3, sO3, up3, sT3, c3, d3, hI3, u3, L3, k3, w3⟩ := hA
  have hLA : (LA = 1 ∧ vI3 ra = -1) ∨ (LA = 0 ∧ vI3 ra ≠ -1) := L3.imp (fun g => ⟨g.1, g.2.1⟩) (fun g => ⟨g.1, g.2.1⟩)
  have hnx3 : ∀ v, v < n → nI v ≠ sC i → upd (fun v => nu (usC fC sC cC (nI v)) n i) va (nu (usC fC sC cC (nI va)) n (i + 1)) v = nu (usC fC sC cC (nI v)) n (i + 1) := fun v hv g => by
    by_cases q : v = va
    · rw [q, pk_us]
    · rw [pk_un q, hskip v hv (fun z => q (nI_i (by omega) (by omega) z)) g, hxM v hv]
  rcases hbC with ⟨k5, k6, vb, hvb, esb, hkb⟩ | ⟨k56, esb⟩
  · -- an instruction of two values
    have hvb60 : vb < 60 := by omega
    have hrbn := hrb2 vb hvb esb
    obtain ⟨rb, hrb, erb, evb⟩ : ∃ r, r < R ∧ rO2 vb = nI r ∧ vI2 r = nI vb := (iR.2 vb hvb60).resolve_left hrbn
    have hPb : HasP b2 pO2 pO2' vb := (iP vb hvb60).resolve_left (fun g => hrbn g.2)
    have hrow : kC i ≠ 6 → ∀ r, r < R → RowOK R (kC i) (nI r) (nI ra) (nI rb) := fun g r hr => by
      refine ⟨⟨r, hr, rfl⟩, Or.inr (Or.inr (Or.inl ⟨?_, ⟨ra, hra, rfl⟩, ⟨rb, hrb, rfl⟩⟩))⟩
      have hz : κ = 1 ∨ κ = 2 ∨ κ = 3 ∨ κ = 4 := by
        have h0' : κ ≠ 0 := fun z => hk0 (by rw [eκ, z]; rfl)
        have h5' : κ ≠ 5 := fun z => k5 (by rw [eκ, z]; rfl)
        have h6' : κ ≠ 6 := fun z => k6 (by rw [eκ, z]; rfl)
        omega
      rw [eκ]
      rcases hz with rfl | rfl | rfl | rfl
      · exact Or.inl rfl
      · exact Or.inr (Or.inl rfl)
      · exact Or.inr (Or.inr (Or.inl rfl))
      · exact Or.inr (Or.inr (Or.inr rfl))
    rw [esb, rHold_ok hvb60, kbs rfl, if_neg (nIm1 (by omega)), rdc_N hvb60 (by omega), nI_clamp (n := vb) (by omega), erb, c3, kbs rfl, f_X5_doInstruction_J61, d3, kbs rfl, if_neg (nIm1 (by omega))]
    dsimp only
    have hB3 : ∃ (LB : Int32) (vI4 rO4 sO4 up4 sT4 : Nat → Int32), f_X0_moveToNextUse (nI vb) (nI i) fC sC cC (nI n) vI3 rO3 sO3 up3 sT3 (nI R) = some (vI4, rO4, sO4, up4, sT4) ∧ f_X5_ends (nI vb) (nI i) (nI n) kM aM bM cM rO3 sO3 vI3 sT3 = some (LB, rO4, sO4, vI4, sT4) ∧
        Inv n R i kC (fun v => nu (usC fC sC cC (nI v)) n (i + 1)) (S + 2) (B + 2) O a2 b2 sN2 stP2 pN2 pcP2 vI4 rO4 sO4 pO2 pO2' up4 sT4 ∧ ((LA = 1 ∧ vI4 ra = -1) ∨ (LA = 0 ∧ vI4 ra ≠ -1)) ∧ ((LB = 1 ∧ ∃ r', r' < R ∧ nI rb = nI r' ∧ vI4 r' = -1) ∨ (LB = 0 ∧ (nI rb = -1 ∨ (∃ r', r' < R ∧ nI rb = nI r' ∧ vI4 r' ≠ -1) ∨ vI4 ra = -1))) := by
      by_cases eab : vb = va
      · -- the same value twice
        have erab : rb = ra := nI_i (by omega) (by omega) (by rw [← erb, ← era, eab])
        obtain ⟨q1, q2⟩ := move_again (R := R) (up := up3) (rO := rO3) (sO := sO3) (vI := vI3) (sT := sT3) (x := nu (usC fC sC cC (nI vb)) n (i + 1)) hn hi (by omega) rfl (hxM vb (by omega)) (by rw [eab]; exact u3) (by
          rw [eab]
          rcases L3 with ⟨-, -, z1, z2, z3⟩ | ⟨-, -, z⟩
          · exact Or.inl ⟨z1, z2, z3⟩
          · exact Or.inr z)
        refine ⟨0, vI3, rO3, sO3, up3, sT3, q1, q2, hI3.congr (by omega) (fun v hv => ?_), hLA, Or.inr ⟨rfl, ?_⟩⟩
        · by_cases q : v = va
          · rw [q, pk_us]
          · exact hnx3 v hv (by rw [esb, eab]; exact fun z => q (nI_i (by omega) (by omega) z))
        · by_cases z : vI3 ra = -1
          · exact Or.inr (Or.inr z)
          · exact Or.inr (Or.inl ⟨ra, hra, by rw [erab], z⟩)
      · have erb3 : rO3 vb = nI rb := by rw [k3 vb hvb60 eab, erb]
        have hrab : ra ≠ rb := fun z => eab (nI_i (by omega) (by omega) (by rw [← evb, ← eva, z]))
        have hxb3 : upd (fun v => nu (usC fC sC cC (nI v)) n i) va (nu (usC fC sC cC (nI va)) n (i + 1)) vb ≠ -1 := by
          rw [pk_un eab]; exact hc.hit hi h0 (Or.inr esb)
        obtain ⟨n1, n2⟩ := move_ok (x := nu (usC fC sC cC (nI vb)) n (i + 1)) hn hR hi (by omega) hrb erb3 hI3 rfl (hxM vb (by omega)) hxb3
        have hcg : ∀ v, v < n → upd (upd (fun v => nu (usC fC sC cC (nI v)) n i) va (nu (usC fC sC cC (nI va)) n (i + 1))) vb (nu (usC fC sC cC (nI vb)) n (i + 1)) v = nu (usC fC sC cC (nI v)) n (i + 1) := fun v hv => by
          by_cases q : v = vb
          · rw [q, pk_us]
          · rw [pk_un q]; exact hnx3 v hv (by rw [esb]; exact fun z => q (nI_i (by omega) (by omega) z))
        have evb3 : vI3 rb = nI vb := by rw [w3 rb hrb (fun z => hrab z.symm), evb]
        by_cases q : nu (usC fC sC cC (nI vb)) n (i + 1) = -1
        · obtain ⟨sT4, g1, g2, g3⟩ := n1 q
          exact ⟨1, _, _, _, _, sT4, g1, g2, hstep g3 hcg, by rw [pk_un hrab]; exact hLA, Or.inl ⟨rfl, rb, hrb, rfl, by rw [pk_us]⟩⟩
        · obtain ⟨g1, g2, g3⟩ := n2 q
          exact ⟨0, _, _, _, _, _, g1, g2, hstep g3 hcg, hLA, Or.inr ⟨rfl, Or.inr (Or.inl ⟨rb, hrb, rfl, by rw [evb3]; exact nIm1 (by omega)⟩)⟩⟩
    obtain ⟨LB, vI4, rO4, sO4, up4, sT4, c4, d4, hI4, hLA4, hLB4⟩ := hB3
    have st := step3_ok (sc := sc2) (LA := LA) (LB := LB) (bo := nI vb) hn hR2 hR hi (by omega) (by omega) hI4 hva60 hPa (Or.inr ⟨vb, hvb60, rfl, hPb⟩) hra hLA4 hLB4 hx6 hx hrow (fun v hv => (hxM v hv).symm) hk
    rw [c4, kbs rfl, d4, kbs rfl]
    dsimp only
    have hJ : (if LB = 0 then f_X5_doInstruction_J91 (nI n) kM aM bM cM LA (nI rb) (nI ra) (nI vb) (nI va) (nI i) (nI R) (nI a2) stP2 (nI b2) pcP2 sc2 rO4 sO4 pO2' vI4 sT4 else f_X5_doInstruction_J92 (nI n) kM aM bM cM LA (nI rb) (nI ra) (nI vb) (nI va) (nI i) (nI R) 1 (nI a2) stP2 (nI b2) pcP2 sc2 rO4 sO4 pO2' vI4 sT4) =
        f_X5_doInstruction_J92 (nI n) kM aM bM cM LA (nI rb) (nI ra) (nI vb) (nI va) (nI i) (nI R) LB (nI a2) stP2 (nI b2) pcP2 sc2 rO4 sO4 pO2' vI4 sT4 := by
      rcases hLB4 with ⟨z, -⟩ | ⟨z, -⟩
      · rw [z, if_neg (by decide)]
      · rw [z, if_pos rfl, f_X5_doInstruction_J91]
    rw [hJ]
    exact st
  · -- of one
    have hrow : kC i ≠ 6 → ∀ r, r < R → RowOK R (kC i) (nI r) (nI ra) (-1) := fun g r hr =>
      ⟨⟨r, hr, rfl⟩, Or.inr (Or.inr (Or.inr (Or.inl ⟨k56.resolve_right g, ra, hra, rfl⟩)))⟩
    have hI4 : Inv n R i kC (fun v => nu (usC fC sC cC (nI v)) n (i + 1)) (S + 2) (B + 2) O a2 b2 sN2 stP2 pN2 pcP2 vI3 rO3 sO3 pO2 pO2' up3 sT3 := hI3.congr (by omega) (fun v hv => hnx3 v hv (by rw [esb]; exact nIm1 (by omega)))
    have st := step3_ok (sc := sc2) (LA := LA) (LB := 0) (bo := -1) (xb := -1) hn hR2 hR hi (by omega) (by omega) hI4 hva60 hPa (Or.inl rfl) hra hLA (Or.inr ⟨rfl, Or.inl rfl⟩) hx6 hx hrow (fun v hv => (hxM v hv).symm) hk
    have mm : f_X0_moveToNextUse (-1) (nI i) fC sC cC (nI n) vI3 rO3 sO3 up3 sT3 (nI R) = some (vI3, rO3, sO3, up3, sT3) := by rw [f_X0_moveToNextUse, isRow_m1, kbs rfl, if_pos rfl]
    rw [esb, rHold_m1, kbs rfl, if_pos rfl, c3, kbs rfl, f_X5_doInstruction_J61, d3, kbs rfl, if_pos rfl]
    dsimp only
    rw [mm, kbs rfl, f_X5_doInstruction_J91]
    exact st
