/-- a value that this instruction was the last to use leaves its register, and its slot -/
theorem move_ok {n R i a b S B O v r : Nat} {kC fC sC cC nx sN stP pN pcP vI rO sO pO pO' up sT kM aM bM cM : Nat → Int32} {x : Int32} (hn : n ≤ 60) (hR : R ≤ 8) (hi : i < n) (hvn : v < n) (hr : r < R) (hrv : rO v = nI r)
    (hI : Inv n R i kC nx S B O a b sN stP pN pcP vI rO sO pO pO' up sT) (hxC : nu (usC fC sC cC (nI v)) n (i + 1) = x) (hxM : nu (usM kM aM bM cM (nI v)) n (i + 1) = x) (hx : nx v ≠ -1) :
    (x = -1 → ∃ sT' : Nat → Int32, f_X0_moveToNextUse (nI v) (nI i) fC sC cC (nI n) vI rO sO up sT (nI R) = some (upd vI r (-1), upd rO v (-1), upd sO v (-1), upd up v x, sT') ∧
      f_X5_ends (nI v) (nI i) (nI n) kM aM bM cM rO sO vI sT = some (1, upd rO v (-1), upd sO v (-1), upd vI r (-1), sT') ∧ Inv n R i kC (upd nx v x) S B O a b sN stP pN pcP (upd vI r (-1)) (upd rO v (-1)) (upd sO v (-1)) pO pO' (upd up v x) sT') ∧
    (x ≠ -1 → f_X0_moveToNextUse (nI v) (nI i) fC sC cC (nI n) vI rO sO up sT (nI R) = some (vI, rO, sO, upd up v x, sT) ∧ f_X5_ends (nI v) (nI i) (nI n) kM aM bM cM rO sO vI sT = some (0, rO, sO, vI, sT) ∧
      Inv n R i kC (upd nx v x) S B O a b sN stP pN pcP vI rO sO pO pO' (upd up v x) sT) := by
  obtain ⟨iR, iS, iP, ⟨iE, iF⟩, ⟨iK, iO⟩, iU, iL, iA, ⟨iB1, iB2⟩, iZ⟩ := id hI
  have hv60 : v < 60 := by omega
  have hnr : ¬ rO v = -1 := by rw [hrv]; exact nIm1 (by omega)
  have up' : ∀ w, w < n → upd up v x w = upd nx v x w := fun w hw => by
    by_cases q : w = v
    · rw [q, pk_us, pk_us]
    · rw [pk_un q, pk_un q]; exact iU w hw
  have hC : f_X1_firstUse (nI v) (nI i + 1) fC sC cC (nI n) = some x := by rw [firstUse_in hn hvn, nI_1, frN_nI (by omega), hxC]
  have hM : f_X5_useFrom (nI v) (nI i + 1) (nI n) kM aM bM cM = some x := by rw [useFrom_ok hn, nI_1, frN_nI (by omega), hxM]
  have hrdM : ∀ (k : Option (Int32 × (Nat → Int32) × (Nat → Int32) × (Nat → Int32) × (Nat → Int32))), rdc (nI v) 60 k = k := fun k => rdc_N hv60 (by omega)
  have hrdC : ∀ (k : Option ((Nat → Int32) × (Nat → Int32) × (Nat → Int32) × (Nat → Int32) × (Nat → Int32))), rdc (nI v) 60 k = k := fun k => rdc_N hv60 (by omega)
  constructor
  · intro h1
    have ph : fb_ct (phB (upd sO v (-1)) (upd nx v x)) n ≤ fb_ct (phB sO nx) n := fb_ct_sub (fun k hk g => by
      by_cases q : k = v
      · rw [q] at g; simp [phB, pk_us, h1] at g
      · simp only [phB, pk_un q] at g; exact g)
    have iL' : LiveI n (upd rO v (-1)) (upd nx v x) := fun w hw g => by
      by_cases q : w = v
      · rw [q, pk_us] at g; exact absurd rfl g
      · rw [pk_un q] at g; rw [pk_un q]; exact iL w hw g
    have iA' : AvI i kC (upd nx v x) (upd rO v (-1)) (upd sO v (-1)) := ⟨fun w hw g1 g2 => by
      by_cases q : w = v
      · rw [q, pk_us] at g2; exact absurd h1 g2
      · rw [pk_un q] at g2; rw [pk_un q, pk_un q]; exact iA.1 w hw g1 g2, fun w g1 g2 => by
      by_cases q : w = v
      · rw [q, pk_us]
      · rw [pk_un q]; exact iA.2 w g1 g2⟩
    have lv : ∀ w, w < 60 → rO w = -1 → upd rO v (-1) w = -1 := fun w _ g => by
      by_cases q : w = v
      · rw [q, pk_us]
      · rw [pk_un q]; exact g
    have inv : ∀ sT' : Nat → Int32, SlotI (upd sO v (-1)) sT' → (∀ j, 60 ≤ j → sT' j = 0) → Inv n R i kC (upd nx v x) S B O a b sN stP pN pcP (upd vI r (-1)) (upd rO v (-1)) (upd sO v (-1)) pO pO' (upd up v x) sT' := fun sT' q1 q2 =>
      ⟨iR.leave hn hR hv60 hr hrv, q1, iP.mono (Nat.le_refl b) lv, ⟨iE, iF⟩, ⟨iK, iO⟩, up', iL', iA', ⟨by omega, iB2⟩, Zupd iZ.1 (by omega), Zupd iZ.2.1 hv60, Zupd iZ.2.2.1 hv60, q2⟩
    rw [f_X0_moveToNextUse, isRow_in hv60, kbs rfl, if_neg (by decide), hC, kbs rfl, f_X5_ends]
    simp only [hrdC, hrdM]
    rw [nI_clamp (n := v) (by omega), pk_us, if_pos h1, leaveC hv60 hr hR hrv, kbs rfl, if_neg hnr, hM, kbs rfl, if_pos h1, leaveM hv60 (by omega) hrv, kbs rfl]
    rcases iS.1 v hv60 with z | ⟨s, z1, z2, -⟩
    · rw [freeS0 hv60 z, kbs rfl, if_pos z]
      have e : upd sO v (-1) = sO := upd_id z
      refine ⟨sT, by rw [e], rfl, inv sT (by rw [e]; exact iS) iZ.2.2.2⟩
    · have zz : ¬ sO v = -1 := by rw [z2]; exact nIm1 (by omega)
      rw [freeS hv60 z1 z2, kbs rfl, if_neg zz, z2, rdc_N z1 (by omega), nI_clamp (by omega)]
      exact ⟨upd sT s 0, rfl, rfl, inv _ (iS.free hv60 z1 z2) (Zupd iZ.2.2.2 z1)⟩
  · intro h1
    have ph : fb_ct (phB sO (upd nx v x)) n ≤ fb_ct (phB sO nx) n := fb_ct_sub (fun k hk g => by
      by_cases q : k = v
      · rw [q] at g ⊢; simp only [phB, pk_us, decide_eq_true_eq] at g ⊢; exact ⟨g.1, hx⟩
      · simp only [phB, pk_un q] at g; exact g)
    rw [f_X0_moveToNextUse, isRow_in hv60, kbs rfl, if_neg (by decide), hC, kbs rfl, f_X5_ends]
    simp only [hrdC, hrdM]
    rw [nI_clamp (n := v) (by omega), pk_us, if_neg h1, if_neg hnr, hM, kbs rfl, if_neg h1]
    refine ⟨rfl, rfl, iR, iS, iP, ⟨iE, iF⟩, ⟨iK, iO⟩, up', fun w hw g => ?_, ⟨fun w hw g1 g2 => ?_, iA.2⟩, ⟨by omega, iB2⟩, iZ⟩
    · by_cases q : w = v
      · rw [q, pk_us]; exact h1
      · rw [pk_un q]; exact iL w hw g
    · by_cases q : w = v
      · rw [q]; exact Or.inl hnr
      · rw [pk_un q] at g2; exact iA.1 w hw g1 g2
/-- the same value once more -/
theorem move_again {n R i v : Nat} {fC sC cC vI rO sO up sT kM aM bM cM : Nat → Int32} {x : Int32} (hn : n ≤ 60) (hi : i < n) (hvn : v < n)
    (hxC : nu (usC fC sC cC (nI v)) n (i + 1) = x) (hxM : nu (usM kM aM bM cM (nI v)) n (i + 1) = x) (hu : up v = x) (h : (x = -1 ∧ rO v = -1 ∧ sO v = -1) ∨ x ≠ -1) :
    f_X0_moveToNextUse (nI v) (nI i) fC sC cC (nI n) vI rO sO up sT (nI R) = some (vI, rO, sO, up, sT) ∧ f_X5_ends (nI v) (nI i) (nI n) kM aM bM cM rO sO vI sT = some (0, rO, sO, vI, sT) := by
  have hv60 : v < 60 := by omega
  have hC : f_X1_firstUse (nI v) (nI i + 1) fC sC cC (nI n) = some x := by rw [firstUse_in hn hvn, nI_1, frN_nI (by omega), hxC]
  have hM : f_X5_useFrom (nI v) (nI i + 1) (nI n) kM aM bM cM = some x := by rw [useFrom_ok hn, nI_1, frN_nI (by omega), hxM]
  have hrdM : ∀ (k : Option (Int32 × (Nat → Int32) × (Nat → Int32) × (Nat → Int32) × (Nat → Int32))), rdc (nI v) 60 k = k := fun k => rdc_N hv60 (by omega)
  have hrdC : ∀ (k : Option ((Nat → Int32) × (Nat → Int32) × (Nat → Int32) × (Nat → Int32) × (Nat → Int32))), rdc (nI v) 60 k = k := fun k => rdc_N hv60 (by omega)
  have e : upd up v x = up := upd_id hu
  rw [f_X0_moveToNextUse, isRow_in hv60, kbs rfl, if_neg (by decide), hC, kbs rfl, f_X5_ends]
  simp only [hrdC, hrdM]
  rw [nI_clamp (n := v) (by omega), e, hu]
  rcases h with ⟨h1, h2, h3⟩ | h1
  · rw [if_pos h1, leaveC0 hv60 h2, kbs rfl, freeS0 hv60 h3, kbs rfl, if_pos h2]
    exact ⟨rfl, rfl⟩
  · rw [if_neg h1]
    refine ⟨rfl, ?_⟩
    by_cases h2 : rO v = -1
    · rw [if_pos h2]
    · rw [if_neg h2, hM, kbs rfl, if_neg h1]
/-- the class's and the model's answers, side by side -/
def Sim (n R i : Nat) (kC nx : Nat → Int32) (S B O : Nat) (rC : Option ((Nat → Int32) × Int32 × (Nat → Int32) × Int32 × (Nat → Int32) × (Nat → Int32) × (Nat → Int32) × (Nat → Int32) × (Nat → Int32) × (Nat → Int32) × Int32)) (rM : Option (Int32 × (Nat → Int32) × Int32 × (Nat → Int32) × Int32 × (Nat → Int32) × (Nat → Int32) × (Nat → Int32) × (Nat → Int32) × (Nat → Int32))) : Prop :=
  ∃ (a b : Nat) (sN stP pN pcP vI rO sO pO pO' up sT : Nat → Int32) (sc : Int32), rC = some (sN, nI a, pN, nI b, vI, rO, sO, pO, up, sT, sc) ∧ rM = some (nI a, stP, nI b, pcP, sc, rO, sO, pO', vI, sT) ∧ Inv n R i kC nx S B O a b sN stP pN pcP vI rO sO pO pO' up sT
theorem reads_ok {n R i a b S B O va : Nat} {kC nx sN stP pN pcP vI rO sO pO pO' up sT : Nat → Int32} {sc bo : Int32} (hb : b ≤ 180) (hI : Inv n R i kC nx S B O (a + 1) b sN stP pN pcP vI rO sO pO pO' up sT) (hva : va < 60) (ha : ∃ q, q < b ∧ pO va = nI q ∧ pO' va = nI q)
    (hbo : bo = -1 ∨ ∃ vb, vb < 60 ∧ bo = nI vb ∧ ∃ q, q < b ∧ pO vb = nI q ∧ pO' vb = nI q) :
    Sim n R i kC nx S B O (f_X0_treat_J167 (nI a) bo (nI va) sN (nI (a + 1)) pN (nI b) vI rO sO pO up sT sc) (f_X5_doInstruction_J184 bo (nI va) (nI (a + 1)) stP (nI b) pcP sc rO sO pO' vI sT) := by
  obtain ⟨iR, iS, iP, ⟨iE, iF⟩, iK, iU, iL, iA, iB, iZ⟩ := hI
  obtain ⟨q, hq, q1, q2⟩ := ha
  rw [f_X0_treat_J167, f_X5_doInstruction_J184, readAt_ok hva hq hb q1, kbs rfl, readsM hva (by omega) q2, kbs rfl]
  rcases hbo with h | ⟨vb, hvb, h, q', hq', q3, q4⟩
  · rw [h, readAt_m1, kbs rfl, if_pos rfl]
    exact ⟨a + 1, b, sN, stP, upd pN (4 * q + 3) (nI a), upd pcP (4 * q + 3) (nI a), vI, rO, sO, pO, pO', up, sT, sc, rfl, rfl, iR, iS, iP, ⟨iE, iF.upd⟩, iK, iU, iL, iA, iB, iZ⟩
  · rw [h, readAt_ok hvb hq' hb q3, kbs rfl, if_neg (nIm1 (by omega)), readsM hvb (by omega) q4, kbs rfl]
    exact ⟨a + 1, b, sN, stP, upd (upd pN (4 * q + 3) (nI a)) (4 * q' + 3) (nI a), upd (upd pcP (4 * q + 3) (nI a)) (4 * q' + 3) (nI a), vI, rO, sO, pO, pO', up, sT, sc, rfl, rfl, iR, iS, iP, ⟨iE, iF.upd.upd⟩, iK, iU, iL, iA, iB, iZ⟩
/-- the piece of a value that has one -/
def HasP (b : Nat) (pO pO' : Nat → Int32) (v : Nat) : Prop := ∃ q, q < b ∧ pO v = nI q ∧ pO' v = nI q
theorem HasP.enter {b v w : Nat} {pO pO' : Nat → Int32} (h : HasP b pO pO' w) : HasP (b + 1) (upd pO v (nI b)) (upd pO' v (nI b)) w := by
  by_cases q : w = v
  · exact ⟨b, by omega, by rw [q, pk_us], by rw [q, pk_us]⟩
  · obtain ⟨z, h1, h2, h3⟩ := h
    exact ⟨z, by omega, by rw [pk_un q]; exact h2, by rw [pk_un q]; exact h3⟩
/-- the step of an instruction with a value, and the value's piece -/
theorem value_ok {n R i a b S B O va r : Nat} {kC nx sN stP pN pcP vI rO sO pO pO' up sT : Nat → Int32} {sc bo xa xb : Int32} (hn : n ≤ 60) (hR : R ≤ 8) (hi : i < n) (hS : S + 1 ≤ 240) (hB : B + 1 ≤ 180)
    (hI : Inv n R i kC nx S B O a b sN stP pN pcP vI rO sO pO pO' up sT) (hva : va < 60) (ha : HasP b pO pO' va) (hbo : bo = -1 ∨ ∃ vb, vb < 60 ∧ bo = nI vb ∧ HasP b pO pO' vb)
    (hr : r < R) (hr0 : vI r = -1) (hx : nx i ≠ -1) (hrow : RowOK R (kC i) (nI r) xa xb) (h6 : kC i ≠ 6) :
    Sim n R (i + 1) kC nx (S + 1) (B + 1) O (f_X0_treat_J117 kC (nI n) (nI R) (nI r) xb xa bo (nI va) (nI i) sN (nI a) pN (nI b) vI rO sO pO up sT sc) (f_X5_doInstruction_J168 (nI r) xb xa bo (nI va) (nI i) (kC i) (nI a) stP (nI b) pcP sc rO sO pO' vI sT) := by
  obtain ⟨iR, iS, iP, ⟨iE, iF⟩, ⟨iK, iO⟩, iU, iL, iA, ⟨iB1, iB2⟩, iZ⟩ := id hI
  have hri : rO i = -1 := iA.2 i (Nat.le_refl i) (by omega)
  have hb : b < 180 := by omega
  rw [f_X0_treat_J117, kindOfC hn hi, kbs rfl, appS (by omega), kbs rfl, beginC (by omega) hr hR hb, kbs rfl, f_X5_doInstruction_J168, addM (by omega), kbs rfl, beginM (by omega) (by omega) hb, kbs rfl]
  dsimp only
  refine reads_ok (by omega) ⟨iR.enter hn hR hi hr hri hr0, iS, iP.enter, ⟨iE.app, iF.app⟩, ⟨iK.app hrow, ?_⟩, iU, fun w hw g => ?_, ⟨fun w hw q1 q2 => ?_, fun w q1 q2 => by rw [pk_un (by omega)]; exact iA.2 w (by omega) q2⟩, ⟨by omega, by omega⟩, Zupd iZ.1 (by omega), Zupd iZ.2.1 (by omega), iZ.2.2⟩ hva ha.enter (hbo.imp_right (fun ⟨vb, h1, h2, h3⟩ => ⟨vb, h1, h2, h3.enter⟩))
  · rw [cK_app, if_neg h6]; omega
  · by_cases q : w = i
    · rw [q]; exact hx
    · rw [pk_un q] at g; exact iL w hw g
  · by_cases q : w = i
    · rw [q, pk_us]; exact Or.inl (nIm1 (by omega))
    · rw [pk_un q]; exact iA.1 w (by omega) q1 q2
/-- the step of an OUT -/
theorem out_ok {n R i a b S B O va : Nat} {kC nx sN stP pN pcP vI rO sO pO pO' up sT : Nat → Int32} {sc bo xa : Int32} (hn : n ≤ 60) (hi : i < n) (hS : S + 1 ≤ 240) (hB : B ≤ 180)
    (hI : Inv n R i kC nx S B O a b sN stP pN pcP vI rO sO pO pO' up sT) (hva : va < 60) (ha : HasP b pO pO' va) (hbo : bo = -1 ∨ ∃ vb, vb < 60 ∧ bo = nI vb ∧ HasP b pO pO' vb)
    (hx : nx i = -1) (hrow : ∃ r, r < R ∧ xa = nI r) :
    Sim n R (i + 1) kC nx (S + 1) B (O + 1) (Option.bind (f_X3_append 6 xa (-1) (-1) 960 sN 240 (nI a)) fun u162 => f_X0_treat_J167 u162.1 bo (nI va) u162.2.1 u162.2.2 pN (nI b) vI rO sO pO up sT sc)
      (Option.bind (f_X5_add 6 xa (-1) (-1) (nI a) stP) fun u112 => f_X5_doInstruction_J184 bo (nI va) u112.1 u112.2 (nI b) pcP sc rO sO pO' vI sT) := by
  obtain ⟨iR, iS, iP, ⟨iE, iF⟩, ⟨iK, iO⟩, iU, iL, iA, ⟨iB1, iB2⟩, iZ⟩ := id hI
  rw [appS (by omega), kbs rfl, addM (by omega), kbs rfl]
  refine reads_ok (by omega) ⟨iR, iS, iP, ⟨iE.app, iF⟩, ⟨iK.app ⟨hrow, Or.inr (Or.inl rfl)⟩, ?_⟩, iU, iL, ⟨fun w hw q1 q2 => ?_, fun w q1 q2 => iA.2 w (by omega) q2⟩, ⟨by omega, by omega⟩, iZ⟩ hva ha hbo
  · rw [cK_app, if_pos rfl]; omega
  · by_cases q : w = i
    · rw [q] at q2; exact absurd hx q2
    · exact iA.1 w (by omega) q1 q2
