/-! ===== a whole instruction ===== -/
/-- how often a value is used by the instructions ahead of i -/
def usd (fC sC cC : Nat → Int32) (i w : Nat) : Nat := fb_ct (usC fC sC cC (nI w)) i
theorem usd_succ {fC sC cC : Nat → Int32} {i w : Nat} (hc : cC i ≠ 0) : (usR fC sC i w → usd fC sC cC (i + 1) w = usd fC sC cC i w + 1) ∧ usd fC sC cC i w ≤ usd fC sC cC (i + 1) w := by
  constructor
  · intro h
    unfold usd
    rw [fb_ct_succ, if_pos (usC_iff.mpr ⟨hc, h⟩)]
  · unfold usd
    rw [fb_ct_succ]; omega
set_option maxHeartbeats 4000000 in
theorem treat1 {n R i a b S B sc : Nat} {kC fC sC iC cC val sN pN vI rO sO pO up sT : Nat → Int32} (hR2 : 2 ≤ R) (hR : R ≤ 8) (hi : i < n) (hS : S + 3 ≤ 240) (hB : B + 3 ≤ 180)
    (hc : CC n kC fC sC cC) (hV : VAL n kC fC sC iC val) (h0 : cC i ≠ 0) (hk0 : kC i ≠ 0)
    (hI : Inv1 n R i kC fC cC val (fun v => nu (usC fC sC cC (nI v)) n i) S B a b sN pN vI rO sO pO up sT sc) (hL : ∀ w, w < n → ldv sN pN w b ≤ usd fC sC cC i w) :
    Sim1 n R (i + 1) kC fC cC val (fun v => nu (usC fC sC cC (nI v)) n (i + 1)) (S + 3) (B + 3) (usd fC sC cC (i + 1)) (f_X0_treat (nI i) kC fC sC iC cC (nI n) sN (nI a) pN (nI b) vI rO sO pO up sT (nI R) (nI sc)) := by
  have hn := hc.1.1
  have hi60 : i < 60 := by omega
  obtain ⟨va, hva, efa, hka⟩ : ∃ a, a < i ∧ fC i = nI a ∧ kC a ≠ 6 := by
    rcases (hc.1.2 i hi).2 with ⟨g, -⟩ | ⟨-, g, -⟩
    · exact absurd g hk0
    · exact g
  have hbC : (kC i ≠ 5 ∧ kC i ≠ 6 ∧ ∃ b, b < i ∧ sC i = nI b ∧ kC b ≠ 6) ∨ ((kC i = 5 ∨ kC i = 6) ∧ sC i = -1) := by
    rcases (hc.1.2 i hi).2 with ⟨g, -⟩ | ⟨-, -, g⟩
    · exact absurd g hk0
    · exact g
  have hva60 : va < 60 := by omega
  -- who isn't used keeps its next use
  have hskip : ∀ v, v < n → nI v ≠ nI va → nI v ≠ sC i → nu (usC fC sC cC (nI v)) n i = nu (usC fC sC cC (nI v)) n (i + 1) := fun v hv g1 g2 => by
    rw [CC.skip (fun h => h.2.elim (fun z => g1 (z.symm.trans efa)) (fun z => g2 z.symm))]
  have hxa : nu (usC fC sC cC (nI va)) n i ≠ -1 := hc.hit hi h0 (Or.inl efa)
  -- a
  obtain ⟨a1, b1, sc1, sN1, pN1, vI1, rO1, sO1, pO1, sT1, K1, hI1, hra1, -, l1⟩ := bring1 (v := va) (iC := iC) (pa := nI va) (pb := sC i) hn hR hi (by omega) (by omega) hva hI (fun g => (hV va (by omega)).1 g) hxa (fun g hf => by
    obtain ⟨r, v, q1, q2, q3, q4, q5⟩ := two_reg hn hR2 hR hI.1 hf (sC i)
    exact ⟨r, v, q1, q2, q3, fun z => by
      have e : v = va := nI_i (by omega) (by omega) z
      rw [e, g] at q4
      exact nIm1 (k := r) (by omega) q4.symm, q5⟩)
  rw [f_X0_treat, firstOfC hn hi, kbs rfl, secondOfC hn hi, kbs rfl, efa]
  have K1' := K1 (fun sN sL pN pL vI rO sO pO sT sc => f_X0_treat_J37 kC fC sC iC cC (nI n) (nI R) (sC i) (nI va) (nI i) sN sL pN pL vI rO sO pO up sT sc)
  try dsimp only at K1' ⊢
  rw [K1', f_X0_treat_J37]
  have hl1 : ∀ w, w < n → ldv sN1 pN1 w b1 ≤ usd fC sC cC (i + 1) w := fun w hw => by
    have h1 := l1 w hw
    have h2 := hL w hw
    by_cases q : w = va
    · rw [q] at h1 h2 ⊢
      rw [(usd_succ h0).1 (Or.inl efa)]
      split at h1 <;> omega
    · rw [if_neg (fun g => q g.1)] at h1
      have := (usd_succ (fC := fC) (sC := sC) (w := w) h0).2
      omega
  -- b
  have hB2 : ∃ (a2 b2 sc2 : Nat) (sN2 pN2 vI2 rO2 sO2 pO2 sT2 : Nat → Int32),
      (Option.bind (f_X0_isMissing (sC i) rO1) fun u39 => (if u39 = 0 then f_X0_treat_J56 kC fC sC cC (nI n) (nI R) (sC i) (nI va) (nI i) sN1 (nI a1) pN1 (nI b1) vI1 rO1 sO1 pO1 up sT1 (nI sc1) else
        Option.bind (f_X0_getRegister (nI va) (sC i) kC (nI n) sN1 (nI a1) pN1 (nI b1) vI1 rO1 sO1 pO1 up sT1 (nI R) (nI sc1)) fun u50 =>
        Option.bind (f_X0_fetch (sC i) u50.1 kC iC (nI n) u50.2.1 u50.2.2.1 u50.2.2.2.1 (nI b1) u50.2.2.2.2.1 u50.2.2.2.2.2.1 u50.2.2.2.2.2.2.1 pO1 (nI R)) fun u53 =>
        f_X0_treat_J56 kC fC sC cC (nI n) (nI R) (sC i) (nI va) (nI i) u53.1 u53.2.1 u53.2.2.1 u53.2.2.2.1 u53.2.2.2.2.1 u53.2.2.2.2.2.1 u50.2.2.2.2.2.2.1 u53.2.2.2.2.2.2 up u50.2.2.2.2.2.2.2.1 u50.2.2.2.2.2.2.2.2)) =
        f_X0_treat_J56 kC fC sC cC (nI n) (nI R) (sC i) (nI va) (nI i) sN2 (nI a2) pN2 (nI b2) vI2 rO2 sO2 pO2 up sT2 (nI sc2) ∧
      Inv1 n R i kC fC cC val (fun v => nu (usC fC sC cC (nI v)) n i) (S + 2) (B + 2) a2 b2 sN2 pN2 vI2 rO2 sO2 pO2 up sT2 sc2 ∧ rO2 va ≠ -1 ∧ (∀ vb, vb < i → sC i = nI vb → rO2 vb ≠ -1) ∧ ∀ w, w < n → ldv sN2 pN2 w b2 ≤ usd fC sC cC (i + 1) w := by
    rcases hbC with ⟨-, -, vb, hvb, esb, hkb⟩ | ⟨-, esb⟩
    · have hxb : nu (usC fC sC cC (nI vb)) n i ≠ -1 := hc.hit hi h0 (Or.inr esb)
      have husb : usR fC sC i vb := Or.inr esb
      rw [esb]
      obtain ⟨a2, b2, sc2, sN2, pN2, vI2, rO2, sO2, pO2, sT2, K2, hI2, hrb2, keep2, l2⟩ := bring1 (v := vb) (iC := iC) (pa := nI va) (pb := nI vb) hn hR hi (by omega) (by omega) hvb hI1 (fun g => (hV vb (by omega)).1 g) hxb (fun g hf => by
        obtain ⟨r, v, q1, q2, q3, q4, q5⟩ := two_reg hn hR2 hR hI1.1 hf (nI va)
        exact ⟨r, v, q1, q2, q3, q5, fun z => by
          have e : v = vb := nI_i (by omega) (by omega) z
          rw [e, g] at q4
          exact nIm1 (k := r) (by omega) q4.symm⟩)
      have K2' := K2 (fun sN sL pN pL vI rO sO pO sT sc => f_X0_treat_J56 kC fC sC cC (nI n) (nI R) (nI vb) (nI va) (nI i) sN sL pN pL vI rO sO pO up sT sc)
      refine ⟨a2, b2, sc2, sN2, pN2, vI2, rO2, sO2, pO2, sT2, K2', hI2, by rw [keep2 va hva60 (Or.inl rfl) hra1]; exact hra1, fun w hw g => by
        have e : vb = w := nI_i (by omega) (by omega) g
        rw [← e]; exact hrb2, fun w hw => ?_⟩
      have h2 := l2 w hw
      by_cases q : w = vb ∧ rO1 vb = -1
      · -- it was missing: it isn't a's value
        have hne : w ≠ va := fun g => hra1 (by rw [← g, q.1]; exact q.2)
        rw [if_pos q] at h2
        have h1 := l1 w hw
        rw [if_neg (fun g => hne g.1)] at h1
        have h3 := hL w hw
        rw [q.1] at h1 h2 h3 ⊢
        rw [(usd_succ h0).1 husb]
        omega
      · rw [if_neg q] at h2
        have := hl1 w hw
        omega
    · refine ⟨a1, b1, sc1, sN1, pN1, vI1, rO1, sO1, pO1, sT1, ?_, hI1.mono (by omega) (by omega), hra1, fun w hw g => absurd (g.symm.trans esb) (nIm1 (by omega)), hl1⟩
      rw [esb, miss_m1, kbs rfl, if_pos rfl]
  obtain ⟨a2, b2, sc2, sN2, pN2, vI2, rO2, sO2, pO2, sT2, K2, hI2, hra2, hrb2, hl2⟩ := hB2
  rw [K2]
  clear K1 K1' K2 hI1 l1 hl1
  obtain ⟨iR, iS, iK, iU, iL, iA, iB, iT⟩ := id hI2
  obtain ⟨ra, hra, era, eva⟩ : ∃ r, r < R ∧ rO2 va = nI r ∧ vI2 r = nI va := (iR.2 va hva60).resolve_left hra2
  have HA := iT.1 va ra (by omega) hra era
  rw [f_X0_treat_J56, rHold_ok hva60, kbs rfl, era]
  have hx6 : kC i = 6 → nu (usC fC sC cC (nI i)) n (i + 1) = -1 := fun g => hc.out hi g _
  have hx : kC i ≠ 6 → nu (usC fC sC cC (nI i)) n (i + 1) ≠ -1 := fun g => hc.live hi h0 g
  obtain ⟨κ, hκ, eκ⟩ := (hc.1.2 i hi).1
  have hxN : ∀ v, v < n → True := fun _ _ => trivial
  -- a leaves, or not
  obtain ⟨mv1, mv2⟩ := move1 (x := nu (usC fC sC cC (nI va)) n (i + 1)) hn hR hi (by omega) hra era hI2 rfl hxa
  have hA : ∃ (vI3 rO3 sO3 up3 sT3 : Nat → Int32), f_X0_moveToNextUse (nI va) (nI i) fC sC cC (nI n) vI2 rO2 sO2 up sT2 (nI R) = some (vI3, rO3, sO3, up3, sT3) ∧
      Inv1 n R i kC fC cC val (upd (fun v => nu (usC fC sC cC (nI v)) n i) va (nu (usC fC sC cC (nI va)) n (i + 1))) (S + 2) (B + 2) a2 b2 sN2 pN2 vI3 rO3 sO3 pO2 up3 sT3 sc2 ∧ up3 va = nu (usC fC sC cC (nI va)) n (i + 1) ∧ ((vI3 ra = -1 ∧ nu (usC fC sC cC (nI va)) n (i + 1) = -1 ∧ rO3 va = -1 ∧ sO3 va = -1) ∨ (vI3 ra ≠ -1 ∧ nu (usC fC sC cC (nI va)) n (i + 1) ≠ -1 ∧ rO3 va = nI ra)) ∧ (∀ w, w < 60 → w ≠ va → rO3 w = rO2 w) := by
    by_cases q : nu (usC fC sC cC (nI va)) n (i + 1) = -1
    · obtain ⟨sT3, g1, g3⟩ := mv1 q
      exact ⟨_, _, _, _, sT3, g1, g3, by rw [pk_us], Or.inl ⟨by rw [pk_us], q, by rw [pk_us], by rw [pk_us]⟩, fun w _ hw => pk_un hw⟩
    · obtain ⟨g1, g3⟩ := mv2 q
      exact ⟨_, _, _, _, _, g1, g3, by rw [pk_us], Or.inr ⟨by rw [eva]; exact nIm1 (by omega), q, era⟩, fun w _ _ => rfl⟩
  obtain ⟨vI3, rO3, sO3, up3, sT3, c3, hI3, u3, L3, k3⟩ := hA
  have hra3 : vI3 ra ≠ -1 → rO3 va = nI ra := fun g => by
    rcases L3 with ⟨z, -⟩ | ⟨-, -, z⟩
    · exact absurd z g
    · exact z
  have hnx3 : ∀ v, v < n → nI v ≠ sC i → upd (fun v => nu (usC fC sC cC (nI v)) n i) va (nu (usC fC sC cC (nI va)) n (i + 1)) v = nu (usC fC sC cC (nI v)) n (i + 1) := fun v hv g => by
    by_cases q : v = va
    · rw [q, pk_us]
    · rw [pk_un q, hskip v hv (fun z => q (nI_i (by omega) (by omega) z)) g]
  rcases hbC with ⟨k5, k6, vb, hvb, esb, hkb⟩ | ⟨k56, esb⟩
  · -- an instruction of two values
    have hvb60 : vb < 60 := by omega
    have hrbn := hrb2 vb hvb esb
    obtain ⟨rb, hrb, erb, evb⟩ : ∃ r, r < R ∧ rO2 vb = nI r ∧ vI2 r = nI vb := (iR.2 vb hvb60).resolve_left hrbn
    have HB := iT.1 vb rb (by omega) hrb erb
    have hz : kC i = 1 ∨ kC i = 2 ∨ kC i = 3 ∨ kC i = 4 := by
      have hz : κ = 1 ∨ κ = 2 ∨ κ = 3 ∨ κ = 4 := by
        have h0' : κ ≠ 0 := fun z => hk0 (by rw [eκ, z]; rfl)
        have h5' : κ ≠ 5 := fun z => k5 (by rw [eκ, z]; rfl)
        have h6' : κ ≠ 6 := fun z => k6 (by rw [eκ, z]; rfl)
        omega
      rw [eκ]
      rcases hz with rfl | rfl | rfl | rfl
      · exact Or.inl rfl
      · exact Or.inr (Or.inl rfl)
      · exact Or.inr (Or.inr (Or.inl rfl))
      · exact Or.inr (Or.inr (Or.inr rfl))
    rw [esb, rHold_ok hvb60, kbs rfl, erb, c3, kbs rfl]
    dsimp only
    have hB3 : ∃ (vI4 rO4 sO4 up4 sT4 : Nat → Int32), f_X0_moveToNextUse (nI vb) (nI i) fC sC cC (nI n) vI3 rO3 sO3 up3 sT3 (nI R) = some (vI4, rO4, sO4, up4, sT4) ∧
        Inv1 n R i kC fC cC val (fun v => nu (usC fC sC cC (nI v)) n (i + 1)) (S + 2) (B + 2) a2 b2 sN2 pN2 vI4 rO4 sO4 pO2 up4 sT4 sc2 ∧ (vI4 ra ≠ -1 → rO4 va = nI ra) ∧ (vI4 rb ≠ -1 → rO4 vb = nI rb) := by
      by_cases eab : vb = va
      · -- the same value twice
        have erab : rb = ra := nI_i (by omega) (by omega) (by rw [← erb, ← era, eab])
        have q1 := again1 (R := R) (up := up3) (rO := rO3) (sO := sO3) (vI := vI3) (sT := sT3) (x := nu (usC fC sC cC (nI vb)) n (i + 1)) hn hi (by omega) rfl (by rw [eab]; exact u3) (by
          rw [eab]
          rcases L3 with ⟨-, z1, z2, z3⟩ | ⟨-, z, -⟩
          · exact Or.inl ⟨z1, z2, z3⟩
          · exact Or.inr z)
        refine ⟨vI3, rO3, sO3, up3, sT3, q1, hI3.congr (by omega) (fun v hv => ?_), hra3, by rw [erab, eab]; exact hra3⟩
        by_cases q : v = va
        · rw [q, pk_us]
        · exact hnx3 v hv (by rw [esb, eab]; exact fun z => q (nI_i (by omega) (by omega) z))
      · have erb3 : rO3 vb = nI rb := by rw [k3 vb hvb60 eab, erb]
        have hxb3 : upd (fun v => nu (usC fC sC cC (nI v)) n i) va (nu (usC fC sC cC (nI va)) n (i + 1)) vb ≠ -1 := by
          rw [pk_un eab]; exact hc.hit hi h0 (Or.inr esb)
        obtain ⟨n1, n2⟩ := move1 (x := nu (usC fC sC cC (nI vb)) n (i + 1)) hn hR hi (by omega) hrb erb3 hI3 rfl hxb3
        have hcg : ∀ v, v < n → upd (upd (fun v => nu (usC fC sC cC (nI v)) n i) va (nu (usC fC sC cC (nI va)) n (i + 1))) vb (nu (usC fC sC cC (nI vb)) n (i + 1)) v = nu (usC fC sC cC (nI v)) n (i + 1) := fun v hv => by
          by_cases q : v = vb
          · rw [q, pk_us]
          · rw [pk_un q]; exact hnx3 v hv (by rw [esb]; exact fun z => q (nI_i (by omega) (by omega) z))
        by_cases q : nu (usC fC sC cC (nI vb)) n (i + 1) = -1
        · obtain ⟨sT4, g1, g3⟩ := n1 q
          refine ⟨_, _, _, _, sT4, g1, g3.congr (by omega) hcg, fun g => ?_, fun g => absurd pk_us g⟩
          by_cases z : ra = rb
          · rw [z, pk_us] at g; exact absurd rfl g
          · rw [pk_un z] at g; rw [pk_un (fun y => eab y.symm)]; exact hra3 g
        · obtain ⟨g1, g3⟩ := n2 q
          exact ⟨_, _, _, _, _, g1, g3.congr (by omega) hcg, hra3, fun _ => erb3⟩
    obtain ⟨vI4, rO4, sO4, up4, sT4, c4, hI4, hA4, hB4⟩ := hB3
    have st := step31 (bo := nI vb) (xb := nI rb) hn hR2 hR hi (by omega) (by omega) hI4 hva hra HA hA4 (Or.inr ⟨vb, rb, hvb, hrb, rfl, rfl, HB, hB4⟩) h0 hx hx6 efa (Or.inr (Or.inr ⟨hz, vb, hvb, rfl, (hV i hi).2.2 hz va vb hva hvb efa esb⟩)) hl2
    rw [c4, kbs rfl]
    dsimp only
    exact st
  · -- of one
    have hI4 : Inv1 n R i kC fC cC val (fun v => nu (usC fC sC cC (nI v)) n (i + 1)) (S + 2) (B + 2) a2 b2 sN2 pN2 vI3 rO3 sO3 pO2 up3 sT3 sc2 := hI3.congr (by omega) (fun v hv => hnx3 v hv (by rw [esb]; exact nIm1 (by omega)))
    have st := step31 (bo := -1) (xb := -1) hn hR2 hR hi (by omega) (by omega) hI4 hva hra HA hra3 (Or.inl ⟨rfl, rfl⟩) h0 hx hx6 efa (by
      rcases k56 with g | g
      · exact Or.inr (Or.inl ⟨g, rfl, (hV i hi).2.1 g va hva efa⟩)
      · exact Or.inl g) hl2
    rw [esb, rHold_m1, kbs rfl, c3, kbs rfl]
    dsimp only
    rw [move_m1, kbs rfl]
    dsimp only
    exact st
