/-! ===== an instruction ===== -/
def CC (n : Nat) (kC fC sC cC : Nat → Int32) : Prop := WF n kC fC sC ∧ IsC n kC (usR fC sC) cC
section CCS
variable {n : Nat} {kC fC sC cC : Nat → Int32}
theorem usC_iff {f s c : Nat → Int32} {v u : Nat} : usC f s c (nI v) u = true ↔ c u ≠ 0 ∧ usR f s u v := by simp [usC, usR]
theorem CC.noUse (h : CC n kC fC sC cC) {v : Nat} (hv : v < n) (hno : ∀ u, v < u → u < n → cC u ≠ 0 → ¬ usR fC sC u v) (i : Nat) : nu (usC fC sC cC (nI v)) n i = -1 := by
  have hn := h.1.1
  rcases nu_cases (usC fC sC cC (nI v)) n i with ⟨g, -⟩ | ⟨u, -, h2, h3, -⟩
  · exact g
  · obtain ⟨g1, g2⟩ := usC_iff.mp h3
    exact absurd g2 (hno u (usR_lt h.1 h2 (by omega) g2) h2 g1)
theorem CC.out (h : CC n kC fC sC cC) {v : Nat} (hv : v < n) (h6 : kC v = 6) (i : Nat) : nu (usC fC sC cC (nI v)) n i = -1 := by
  have hn := h.1.1
  refine h.noUse hv (fun u h1 h2 _ h4 => ?_) i
  rcases (h.1.2 u h2).2 with ⟨-, g1, g2⟩ | ⟨-, ⟨a, a1, a2, a3⟩, g⟩
  · rcases h4 with h4 | h4
    · exact nIm1 (k := v) (by omega) (h4.symm.trans g1)
    · exact nIm1 (k := v) (by omega) (h4.symm.trans g2)
  · rcases h4 with h4 | h4
    · have e : a = v := nI_i (by omega) (by omega) (a2.symm.trans h4)
      rw [e] at a3; exact a3 h6
    · rcases g with ⟨-, -, b, b1, b2, b3⟩ | ⟨-, g⟩
      · have e : b = v := nI_i (by omega) (by omega) (b2.symm.trans h4)
        rw [e] at b3; exact b3 h6
      · exact nIm1 (k := v) (by omega) (h4.symm.trans g)
theorem CC.live (h : CC n kC fC sC cC) {v : Nat} (hv : v < n) (h0 : cC v ≠ 0) (h6 : kC v ≠ 6) : nu (usC fC sC cC (nI v)) n (v + 1) ≠ -1 := by
  have hn := h.1.1
  rcases (h.2 v hv).2.mp h0 with g | ⟨u, h1, h2, h3, h4⟩
  · exact absurd g h6
  · rcases nu_cases (usC fC sC cC (nI v)) n (v + 1) with ⟨-, g⟩ | ⟨w, g1, g2, -, g4, -⟩
    · have := g u (by omega) h2
      rw [usC_iff.mpr ⟨h3, h4⟩] at this
      exact absurd this (by decide)
    · rw [g4]; exact nIm1 (by omega)
theorem CC.hit (h : CC n kC fC sC cC) {v i : Nat} (hi : i < n) (h0 : cC i ≠ 0) (hu : usR fC sC i v) : nu (usC fC sC cC (nI v)) n i ≠ -1 := by
  have hn := h.1.1
  rw [nu_hit hi (usC_iff.mpr ⟨h0, hu⟩)]
  exact nIm1 (by omega)
theorem CC.skip {v i : Nat} (hu : ¬ (cC i ≠ 0 ∧ usR fC sC i v)) : nu (usC fC sC cC (nI v)) n (i + 1) = nu (usC fC sC cC (nI v)) n i := nu_skip (fun _ => by
  cases e : usC fC sC cC (nI v) i with
  | false => rfl
  | true => exact absurd (usC_iff.mp e) hu)
end CCS
theorem two_reg {n R : Nat} {vI rO : Nat → Int32} (hn : n ≤ 60) (hR2 : 2 ≤ R) (hR : R ≤ 8) (h : RegI n R vI rO) (hf : ∀ r, r < R → vI r ≠ -1) (x : Int32) : ∃ r v, r < R ∧ v < n ∧ vI r = nI v ∧ rO v = nI r ∧ nI v ≠ x := by
  have at' : ∀ r, r < R → ∃ v, v < n ∧ vI r = nI v ∧ rO v = nI r := fun r hr => by
    rcases h.1 r hr with g | g
    · exact absurd g (hf r hr)
    · exact g
  obtain ⟨v0, a1, a2, a3⟩ := at' 0 (by omega)
  obtain ⟨v1, b1, b2, b3⟩ := at' 1 (by omega)
  by_cases q : nI v0 = x
  · refine ⟨1, v1, by omega, b1, b2, b3, fun z => ?_⟩
    have e : v1 = v0 := nI_i (by omega) (by omega) (z.trans q.symm)
    rw [e, a3] at b3
    have := nI_i (a := 0) (b := 1) (by omega) (by omega) b3
    omega
  · exact ⟨0, v0, by omega, a1, a2, a3, q⟩
/-- a value that this instruction was the last to use leaves its register, and its slot -/
theorem move1 {n R i a b S B v r sc : Nat} {kC fC sC cC val nx sN pN vI rO sO pO up sT : Nat → Int32} {x : Int32} (hn : n ≤ 60) (hR : R ≤ 8) (hi : i < n) (hvn : v < n) (hr : r < R) (hrv : rO v = nI r)
    (hI : Inv1 n R i kC fC cC val nx S B a b sN pN vI rO sO pO up sT sc) (hxC : nu (usC fC sC cC (nI v)) n (i + 1) = x) (hx : nx v ≠ -1) :
    (x = -1 → ∃ sT' : Nat → Int32, f_X0_moveToNextUse (nI v) (nI i) fC sC cC (nI n) vI rO sO up sT (nI R) = some (upd vI r (-1), upd rO v (-1), upd sO v (-1), upd up v x, sT') ∧
      Inv1 n R i kC fC cC val (upd nx v x) S B a b sN pN (upd vI r (-1)) (upd rO v (-1)) (upd sO v (-1)) pO (upd up v x) sT' sc) ∧
    (x ≠ -1 → f_X0_moveToNextUse (nI v) (nI i) fC sC cC (nI n) vI rO sO up sT (nI R) = some (vI, rO, sO, upd up v x, sT) ∧
      Inv1 n R i kC fC cC val (upd nx v x) S B a b sN pN vI rO sO pO (upd up v x) sT sc) := by
  obtain ⟨iR, iS, iK, iU, iL, iA, ⟨iB1, iB2⟩, iT⟩ := id hI
  have hv60 : v < 60 := by omega
  have hnr : ¬ rO v = -1 := by rw [hrv]; exact nIm1 (by omega)
  have up' : ∀ w, w < n → upd up v x w = upd nx v x w := fun w hw => by
    by_cases q : w = v
    · rw [q, pk_us, pk_us]
    · rw [pk_un q, pk_un q]; exact iU w hw
  have hC : f_X1_firstUse (nI v) (nI i + 1) fC sC cC (nI n) = some x := by rw [firstUse_in hn hvn, nI_1, frN_nI (by omega), hxC]
  have hrdC : ∀ (k : Option ((Nat → Int32) × (Nat → Int32) × (Nat → Int32) × (Nat → Int32) × (Nat → Int32))), rdc (nI v) 60 k = k := fun k => rdc_N hv60 (by omega)
  constructor
  · intro h1
    have ph : fb_ct (phB (upd sO v (-1)) (upd nx v x)) n ≤ fb_ct (phB sO nx) n := fb_ct_sub (fun k hk g => by
      by_cases q : k = v
      · rw [q] at g; simp [phB, pk_us, h1] at g
      · simp only [phB, pk_un q] at g; exact g)
    have iL' : LiveI n (upd rO v (-1)) (upd nx v x) := fun w hw g => by
      by_cases q : w = v
      · rw [q, pk_us] at g; exact absurd rfl g
      · rw [pk_un q] at g; rw [pk_un q]; exact iL w hw g
    have iA' : AvI i kC (upd nx v x) (upd rO v (-1)) (upd sO v (-1)) := ⟨fun w hw g1 g2 => by
      by_cases q : w = v
      · rw [q, pk_us] at g2; exact absurd h1 g2
      · rw [pk_un q] at g2; rw [pk_un q, pk_un q]; exact iA.1 w hw g1 g2, fun w g1 g2 => by
      by_cases q : w = v
      · rw [q, pk_us]
      · rw [pk_un q]; exact iA.2 w g1 g2⟩
    have inv : ∀ sT' : Nat → Int32, SlotI (upd sO v (-1)) sT' → (∀ s, s < 60 → sT' s ≠ 0 → sT s ≠ 0) → Inv1 n R i kC fC cC val (upd nx v x) S B a b sN pN (upd vI r (-1)) (upd rO v (-1)) (upd sO v (-1)) pO (upd up v x) sT' sc := fun sT' q1 q2 =>
      ⟨iR.leave hn hR hv60 hr hrv, q1, iK, up', iL', iA', ⟨by omega, iB2⟩, by rw [h1]; exact iT.gone hR v q2⟩
    rw [f_X0_moveToNextUse, isRow_in hv60, kbs rfl, if_neg (by decide), hC, kbs rfl]
    simp only [hrdC]
    rw [nI_clamp (n := v) (by omega), pk_us, if_pos h1, leaveC hv60 hr hR hrv, kbs rfl]
    rcases iS.1 v hv60 with z | ⟨s, z1, z2, -⟩
    · rw [freeS0 hv60 z, kbs rfl]
      have e : upd sO v (-1) = sO := upd_id z
      refine ⟨sT, by rw [e], inv sT (by rw [e]; exact iS) (fun _ _ g => g)⟩
    · rw [freeS hv60 z1 z2, kbs rfl]
      refine ⟨upd sT s 0, rfl, inv _ (iS.free hv60 z1 z2) (fun t ht g => ?_)⟩
      by_cases q : t = s
      · rw [q, pk_us] at g; exact absurd rfl g
      · rw [pk_un q] at g; exact g
  · intro h1
    have ph : fb_ct (phB sO (upd nx v x)) n ≤ fb_ct (phB sO nx) n := fb_ct_sub (fun k hk g => by
      by_cases q : k = v
      · rw [q] at g ⊢; simp only [phB, pk_us, decide_eq_true_eq] at g ⊢; exact ⟨g.1, hx⟩
      · simp only [phB, pk_un q] at g; exact g)
    rw [f_X0_moveToNextUse, isRow_in hv60, kbs rfl, if_neg (by decide), hC, kbs rfl]
    simp only [hrdC]
    rw [nI_clamp (n := v) (by omega), pk_us, if_neg h1]
    refine ⟨rfl, iR, iS, iK, up', fun w hw g => ?_, ⟨fun w hw g1 g2 => ?_, iA.2⟩, ⟨by omega, iB2⟩, iT.stay hx⟩
    · by_cases q : w = v
      · rw [q, pk_us]; exact h1
      · rw [pk_un q]; exact iL w hw g
    · by_cases q : w = v
      · rw [q]; exact Or.inl hnr
      · rw [pk_un q] at g2; exact iA.1 w hw g1 g2
/-- the same value once more -/
theorem again1 {n R i v : Nat} {fC sC cC vI rO sO up sT : Nat → Int32} {x : Int32} (hn : n ≤ 60) (hi : i < n) (hvn : v < n)
    (hxC : nu (usC fC sC cC (nI v)) n (i + 1) = x) (hu : up v = x) (h : (x = -1 ∧ rO v = -1 ∧ sO v = -1) ∨ x ≠ -1) :
    f_X0_moveToNextUse (nI v) (nI i) fC sC cC (nI n) vI rO sO up sT (nI R) = some (vI, rO, sO, up, sT) := by
  have hv60 : v < 60 := by omega
  have hC : f_X1_firstUse (nI v) (nI i + 1) fC sC cC (nI n) = some x := by rw [firstUse_in hn hvn, nI_1, frN_nI (by omega), hxC]
  have hrdC : ∀ (k : Option ((Nat → Int32) × (Nat → Int32) × (Nat → Int32) × (Nat → Int32) × (Nat → Int32))), rdc (nI v) 60 k = k := fun k => rdc_N hv60 (by omega)
  have e : upd up v x = up := upd_id hu
  rw [f_X0_moveToNextUse, isRow_in hv60, kbs rfl, if_neg (by decide), hC, kbs rfl]
  simp only [hrdC]
  rw [nI_clamp (n := v) (by omega), e, hu]
  rcases h with ⟨h1, h2, h3⟩ | h1
  · rw [if_pos h1, leaveC0 hv60 h2, kbs rfl, freeS0 hv60 h3, kbs rfl]
  · rw [if_neg h1]
theorem move_m1 {n i : Nat} {fC sC cC vI rO sO up sT : Nat → Int32} {R : Int32} : f_X0_moveToNextUse (-1) (nI i) fC sC cC (nI n) vI rO sO up sT R = some (vI, rO, sO, up, sT) := by
  rw [f_X0_moveToNextUse, isRow_m1, kbs rfl, if_pos rfl]
/-- what comes out of it -/
def Sim1 (n R i : Nat) (kC fC cC val nx : Nat → Int32) (S B : Nat) (LB : Nat → Nat) (rC : Option ((Nat → Int32) × Int32 × (Nat → Int32) × Int32 × (Nat → Int32) × (Nat → Int32) × (Nat → Int32) × (Nat → Int32) × (Nat → Int32) × (Nat → Int32) × Int32)) : Prop :=
  ∃ (a b sc : Nat) (sN pN vI rO sO pO up sT : Nat → Int32), rC = some (sN, nI a, pN, nI b, vI, rO, sO, pO, up, sT, nI sc) ∧ Inv1 n R i kC fC cC val nx S B a b sN pN vI rO sO pO up sT sc ∧ ∀ w, w < n → ldv sN pN w b ≤ LB w
theorem reads1 {n R i a b S B va ra sc : Nat} {kC fC cC val nx sN pN vI rO sO pO up sT : Nat → Int32} {bo : Int32} {LB : Nat → Nat} (hn : n ≤ 60) (ha : a < 240) (hb : b ≤ 180) (hI : Inv1 n R i kC fC cC val nx S B (a + 1) b sN pN vI rO sO pO up sT sc) (hva : va < 60) (hcu : Cur sN pN pO (a + 1) b va ra)
    (hbo : bo = -1 ∨ ∃ vb rb, vb < 60 ∧ bo = nI vb ∧ Cur sN pN pO (a + 1) b vb rb) (hL : ∀ w, w < n → ldv sN pN w b ≤ LB w) :
    Sim1 n R i kC fC cC val nx S B LB (f_X0_treat_J167 (nI a) bo (nI va) sN (nI (a + 1)) pN (nI b) vI rO sO pO up sT (nI sc)) := by
  obtain ⟨iR, iS, iK, iU, iL, iA, iB, iT⟩ := hI
  obtain ⟨q, hq, q1, iT1, l1, k1⟩ := iT.read hn ha hva hcu
  rw [f_X0_treat_J167, readAt_ok hva hq hb q1, kbs rfl]
  rcases hbo with h | ⟨vb, rb, hvb, h, hcb⟩
  · rw [h, readAt_m1, kbs rfl]
    exact ⟨a + 1, b, sc, sN, upd pN (4 * q + 3) (nI a), vI, rO, sO, pO, up, sT, rfl, ⟨iR, iS, iK, iU, iL, iA, iB, iT1⟩, fun w hw => by rw [l1 w hw]; exact hL w hw⟩
  · obtain ⟨q', hq', q2, iT2, l2, -⟩ := iT1.read hn ha hvb (k1 vb rb hcb)
    rw [h, readAt_ok hvb hq' hb q2, kbs rfl]
    exact ⟨a + 1, b, sc, sN, upd (upd pN (4 * q + 3) (nI a)) (4 * q' + 3) (nI a), vI, rO, sO, pO, up, sT, rfl, ⟨iR, iS, iK, iU, iL, iA, iB, iT2⟩, fun w hw => by rw [l2 w hw, l1 w hw]; exact hL w hw⟩
/-- the step of an instruction with a value, and the value's piece -/
theorem value1 {n R i a b S B va ra r sc : Nat} {kC fC cC val nx sN pN vI rO sO pO up sT : Nat → Int32} {bo xb : Int32} {LB : Nat → Nat} (hn : n ≤ 60) (hR : R ≤ 8) (hi : i < n) (hS : S + 1 ≤ 240) (hB : B + 1 ≤ 180)
    (hI : Inv1 n R i kC fC cC val nx S B a b sN pN vI rO sO pO up sT sc) (hva : va < i) (hca : Cur sN pN pO a b va ra) (hbo : bo = -1 ∨ ∃ vb rb, vb < i ∧ bo = nI vb ∧ Cur sN pN pO a b vb rb)
    (hr : r < R) (hr0 : vI r = -1) (hx : nx i ≠ -1) (hrow : RowOK R (kC i) (nI r) (nI ra) xb) (hc : cC i ≠ 0) (h6 : kC i ≠ 6) (hop : isOp (kC i) = true) (h8 : kC i ≠ 8) (h7 : kC i ≠ 7) (h0 : kC i ≠ 0)
    (hval : mstep (kC i) (nI r) (nI ra) xb (mach sN a) = (upd (mach sN a).1 r (val i), (mach sN a).2.1, (mach sN a).2.2)) (hL : ∀ w, w < n → ldv sN pN w b ≤ LB w) :
    Sim1 n R (i + 1) kC fC cC val nx (S + 1) (B + 1) LB (f_X0_treat_J117 kC (nI n) (nI R) (nI r) xb (nI ra) bo (nI va) (nI i) sN (nI a) pN (nI b) vI rO sO pO up sT (nI sc)) := by
  obtain ⟨iR, iS, iK, iU, iL, iA, ⟨iB1, iB2⟩, iT⟩ := id hI
  have hri : rO i = -1 := iA.2 i (Nat.le_refl i) (by omega)
  have hb : b < 180 := by omega
  obtain ⟨iT', hl, hk⟩ := iT.value hn hR (by omega) hi iR hr hr0 hc h6 hop h8 h7 h0 hval
  rw [f_X0_treat_J117, kindOfC hn hi, kbs rfl, appS (by omega), kbs rfl, beginC (by omega) hr hR hb, kbs rfl]
  dsimp only
  refine reads1 hn (by omega) (by omega) ⟨iR.enter hn hR hi hr hri hr0, iS, iK.app hrow, iU, fun w hw g => ?_, ⟨fun w hw q1 q2 => ?_, fun w q1 q2 => by rw [pk_un (by omega)]; exact iA.2 w (by omega) q2⟩, ⟨by omega, by omega⟩, iT'⟩ (by omega) (hk va ra (by omega) hca)
    (hbo.imp_right (fun ⟨vb, rb, h1, h2, h3⟩ => ⟨vb, rb, by omega, h2, hk vb rb (by omega) h3⟩)) (fun w hw => by rw [hl w hw]; exact hL w hw)
  · by_cases q : w = i
    · rw [q]; exact hx
    · rw [pk_un q] at g; exact iL w hw g
  · by_cases q : w = i
    · rw [q, pk_us]; exact Or.inl (nIm1 (by omega))
    · rw [pk_un q]; exact iA.1 w (by omega) q1 q2
/-- the step of an OUT -/
theorem out1 {n R i a b S B va ra sc : Nat} {kC fC cC val nx sN pN vI rO sO pO up sT : Nat → Int32} {bo : Int32} {LB : Nat → Nat} (hn : n ≤ 60) (hR : R ≤ 8) (hi : i < n) (hS : S + 1 ≤ 240) (hB : B ≤ 180)
    (hI : Inv1 n R i kC fC cC val nx S B a b sN pN vI rO sO pO up sT sc) (hva : va < i) (hca : Cur sN pN pO a b va ra) (hma : (mach sN a).1 ra = val va) (hbo : bo = -1 ∨ ∃ vb rb, vb < i ∧ bo = nI vb ∧ Cur sN pN pO a b vb rb)
    (hx : nx i = -1) (hra : ra < R) (hc : cC i ≠ 0) (h6 : kC i = 6) (hf : fC i = nI va) (hL : ∀ w, w < n → ldv sN pN w b ≤ LB w) :
    Sim1 n R (i + 1) kC fC cC val nx (S + 1) B LB (Option.bind (f_X3_append 6 (nI ra) (-1) (-1) 960 sN 240 (nI a)) fun u162 => f_X0_treat_J167 u162.1 bo (nI va) u162.2.1 u162.2.2 pN (nI b) vI rO sO pO up sT (nI sc)) := by
  obtain ⟨iR, iS, iK, iU, iL, iA, ⟨iB1, iB2⟩, iT⟩ := id hI
  obtain ⟨iT', hl, hk⟩ := iT.out (x2 := -1) (x3 := -1) hR (by omega) hra (by omega) hc h6 hf hma
  rw [appS (by omega), kbs rfl]
  refine reads1 hn (by omega) (by omega) ⟨iR, iS, iK.app ⟨⟨ra, hra, rfl⟩, Or.inr (Or.inl rfl)⟩, iU, iL, ⟨fun w hw q1 q2 => ?_, fun w q1 q2 => iA.2 w (by omega) q2⟩, ⟨by omega, by omega⟩, iT'⟩ (by omega) (hk va ra hca)
    (hbo.imp_right (fun ⟨vb, rb, h1, h2, h3⟩ => ⟨vb, rb, by omega, h2, hk vb rb h3⟩)) (fun w hw => by rw [hl w hw]; exact hL w hw)
  by_cases q : w = i
  · rw [q] at q2; exact absurd hx q2
  · exact iA.1 w (by omega) q1 q2
set_option maxHeartbeats 2000000 in
/-- the instruction's own step -/
theorem step31 {n R i a b S B va ra sc : Nat} {kC fC cC val nx sN pN vI rO sO pO up sT : Nat → Int32} {bo xb : Int32} {LB : Nat → Nat} (hn : n ≤ 60) (hR2 : 2 ≤ R) (hR : R ≤ 8) (hi : i < n) (hS : S + 1 ≤ 240) (hB : B + 1 ≤ 180)
    (hI : Inv1 n R i kC fC cC val nx S B a b sN pN vI rO sO pO up sT sc) (hva : va < i) (hra : ra < R) (ha : Cur sN pN pO a b va ra ∧ (mach sN a).1 ra = val va) (hra1 : vI ra ≠ -1 → rO va = nI ra)
    (hb : (bo = -1 ∧ xb = -1) ∨ ∃ vb rb, vb < i ∧ rb < R ∧ bo = nI vb ∧ xb = nI rb ∧ (Cur sN pN pO a b vb rb ∧ (mach sN a).1 rb = val vb) ∧ (vI rb ≠ -1 → rO vb = nI rb))
    (hc : cC i ≠ 0) (hx : kC i ≠ 6 → nx i ≠ -1) (hx6 : kC i = 6 → nx i = -1) (hf : fC i = nI va)
    (hk : kC i = 6 ∨ (kC i = 5 ∧ bo = -1 ∧ val i = val va) ∨ ((kC i = 1 ∨ kC i = 2 ∨ kC i = 3 ∨ kC i = 4) ∧ ∃ vb, vb < i ∧ bo = nI vb ∧ val i = cmp (kC i) (val va) (val vb)))
    (hL : ∀ w, w < n → ldv sN pN w b ≤ LB w) :
    Sim1 n R (i + 1) kC fC cC val nx (S + 1) (B + 1) LB
      (Option.bind (f_X1_hasValue (nI i) kC (nI n)) fun u87 =>
        (if u87 = 0 then
          (Option.bind (f_X3_append 6 (nI ra) (-1) (-1) 960 sN 240 (nI a)) fun u162 =>
          f_X0_treat_J167 u162.1 bo (nI va) u162.2.1 u162.2.2 pN (nI b) vI rO sO pO up sT (nI sc))
        else
          (Option.bind (f_X0_registerJustLeft (nI ra) xb vI (nI R)) fun u98 =>
          (if u98 = (-1) then
            (Option.bind (f_X0_getRegister (-1) (-1) kC (nI n) sN (nI a) pN (nI b) vI rO sO pO up sT (nI R) (nI sc)) fun u112 =>
            f_X0_treat_J117 kC (nI n) (nI R) u112.1 xb (nI ra) bo (nI va) (nI i) u112.2.1 u112.2.2.1 u112.2.2.2.1 (nI b) u112.2.2.2.2.1 u112.2.2.2.2.2.1 u112.2.2.2.2.2.2.1 pO up u112.2.2.2.2.2.2.2.1 u112.2.2.2.2.2.2.2.2)
          else
            f_X0_treat_J117 kC (nI n) (nI R) u98 xb (nI ra) bo (nI va) (nI i) sN (nI a) pN (nI b) vI rO sO pO up sT (nI sc))))) := by
  rw [hasValueC hn hi, kbs rfl]
  have hbo : bo = -1 ∨ ∃ vb rb, vb < i ∧ bo = nI vb ∧ Cur sN pN pO a b vb rb := hb.imp (fun g => g.1) (fun ⟨vb, rb, g1, g2, g3, g4, g5, g6⟩ => ⟨vb, rb, g1, g3, g5.1⟩)
  by_cases h6 : kC i = 6
  · rw [if_pos h6, if_pos rfl]
    obtain ⟨a', b', sc', sN', pN', vI', rO', sO', pO1, up', sT', e1, e2, e3⟩ := out1 (LB := LB) hn hR hi hS (by omega) hI hva ha.1 ha.2 hbo (hx6 h6) hra hc h6 hf hL
    exact ⟨a', b', sc', sN', pN', vI', rO', sO', pO1, up', sT', e1, e2.mono (Nat.le_refl _) (by omega), e3⟩
  · rw [if_neg h6, if_neg (by decide), f_X0_registerJustLeft, free_ok hra hR, kbs rfl]
    have hk2 := hk.resolve_left h6
    have hop : isOp (kC i) = true := by
      rcases hk2 with ⟨g, -⟩ | ⟨g | g | g | g, -⟩ <;> rw [g] <;> decide
    have h8 : kC i ≠ 8 := by
      rcases hk2 with ⟨g, -⟩ | ⟨g | g | g | g, -⟩ <;> rw [g] <;> decide
    have h7 : kC i ≠ 7 := by
      rcases hk2 with ⟨g, -⟩ | ⟨g | g | g | g, -⟩ <;> rw [g] <;> decide
    have h0 : kC i ≠ 0 := by
      rcases hk2 with ⟨g, -⟩ | ⟨g | g | g | g, -⟩ <;> rw [g] <;> decide
    -- the row, and what it does
    have hrow : ∀ r, r < R → RowOK R (kC i) (nI r) (nI ra) xb := fun r hr => by
      refine ⟨⟨r, hr, rfl⟩, Or.inr (Or.inr ?_)⟩
      rcases hk2 with ⟨g, -, -⟩ | ⟨g, vb, g1, g2, -⟩
      · exact Or.inr (Or.inl ⟨g, ra, hra, rfl⟩)
      · rcases hb with ⟨z, -⟩ | ⟨vb', rb, z1, z2, z3, z4, -⟩
        · exact absurd (g2.symm.trans z) (nIm1 (by omega))
        · exact Or.inl ⟨g, ⟨ra, hra, rfl⟩, ⟨rb, z2, z4⟩⟩
    have hms : ∀ (r : Nat) (M : MS), r < R → M.1 ra = val va → (∀ vb rb, vb < i → rb < R → bo = nI vb → xb = nI rb → (∃ vb rb, vb < i ∧ rb < R ∧ bo = nI vb ∧ xb = nI rb ∧ M.1 rb = val vb)) → ((bo = -1 ∧ xb = -1) ∨ ∃ vb rb, vb < i ∧ rb < R ∧ bo = nI vb ∧ xb = nI rb ∧ M.1 rb = val vb) →
        mstep (kC i) (nI r) (nI ra) xb M = (upd M.1 r (val i), M.2.1, M.2.2) := fun r M hr m1 _ m2 => by
      rcases hk2 with ⟨g, -, g3⟩ | ⟨g, vb, g1, g2, g3⟩
      · rw [g, ms_5 (by omega) (by omega), m1, g3]
      · rcases m2 with ⟨z, -⟩ | ⟨vb', rb, z1, z2, z3, z4, z5⟩
        · exact absurd (g2.symm.trans z) (nIm1 (by omega))
        · have e : vb' = vb := nI_i (by omega) (by omega) (z3.symm.trans g2)
          rw [z4, ms_o g (by omega) (by omega) (by omega), m1, z5, e, g3]
    have hbm : (bo = -1 ∧ xb = -1) ∨ ∃ vb rb, vb < i ∧ rb < R ∧ bo = nI vb ∧ xb = nI rb ∧ (mach sN a).1 rb = val vb := hb.imp_right (fun ⟨vb, rb, g1, g2, g3, g4, g5, g6⟩ => ⟨vb, rb, g1, g2, g3, g4, g5.2⟩)
    have go : ∀ r, r < R → vI r = -1 → Sim1 n R (i + 1) kC fC cC val nx (S + 1) (B + 1) LB (f_X0_treat_J117 kC (nI n) (nI R) (nI r) xb (nI ra) bo (nI va) (nI i) sN (nI a) pN (nI b) vI rO sO pO up sT (nI sc)) := fun r hr hr0 =>
      value1 hn hR hi hS hB hI hva ha.1 hbo hr hr0 (hx h6) (hrow r hr) hc h6 hop h8 h7 h0 (hms r _ hr ha.2 (fun vb rb g1 g2 g3 g4 => by
        rcases hbm with ⟨z, -⟩ | z
        · exact absurd (g3.symm.trans z) (nIm1 (by omega))
        · exact z) hbm) hL
    by_cases q0 : vI ra = -1
    · rw [if_pos q0, if_neg (by decide), kbs rfl, if_neg (nIm1 (by omega))]
      exact go ra hra q0
    · rw [if_neg q0, if_pos rfl]
      by_cases q1 : ∃ rb, rb < R ∧ xb = nI rb ∧ vI rb = -1
      · obtain ⟨rb, hrb, rfl, z⟩ := q1
        rw [free_ok hrb hR, kbs rfl, if_pos z, if_neg (by decide), kbs rfl, if_neg (nIm1 (by omega))]
        exact go rb hrb z
      · have hfree : f_X0_isFree xb vI (nI R) = some 0 := by
          rcases hb with ⟨-, rfl⟩ | ⟨vb, rb, -, g2, -, rfl, -⟩
          · exact free_m1
          · rw [free_ok g2 hR, if_neg (fun z => q1 ⟨rb, g2, rfl, z⟩)]
        rw [hfree, kbs rfl, if_pos rfl, kbs rfl, if_pos rfl]
        obtain ⟨r, a1, sc1, sN1, pN1, vI1, rO1, sO1, sT1, hr, g1, hI1, e1, -, -, hcu, hld⟩ := get1 (pa := -1) (pb := -1) hn hR (by omega) (by omega) hI
          (fun hf => by
            obtain ⟨r, v, q1, q2, q3, -, -⟩ := two_reg hn hR2 hR hI.1 hf (-1)
            exact ⟨r, v, q1, q2, q3, nIm1 (by omega), nIm1 (by omega)⟩)
        rw [g1, kbs rfl]
        have ha1 := hcu va ra (by omega) hra (hra1 q0)
        have hbm1 : (bo = -1 ∧ xb = -1) ∨ ∃ vb rb, vb < i ∧ rb < R ∧ bo = nI vb ∧ xb = nI rb ∧ Cur sN1 pN1 pO a1 b vb rb ∧ (mach sN1 a1).1 rb = val vb := hb.imp_right (fun ⟨vb, rb, g1, g2, g3, g4, g5, g6⟩ => ⟨vb, rb, g1, g2, g3, g4, hcu vb rb (by omega) g2 (g6 (fun z => q1 ⟨rb, g2, g4, z⟩))⟩)
        exact value1 hn hR hi hS hB hI1 hva ha1.1 (hbm1.imp (fun g => g.1) (fun ⟨vb, rb, g1, g2, g3, g4, g5⟩ => ⟨vb, rb, g1, g3, g5.1⟩)) hr e1 (hx h6) (hrow r hr) hc h6 hop h8 h7 h0
          (hms r _ hr ha1.2 (fun vb rb z1 z2 z3 z4 => by
            rcases hbm1 with ⟨z, -⟩ | ⟨vb, rb, g1, g2, g3, g4, g5⟩
            · exact absurd (z3.symm.trans z) (nIm1 (by omega))
            · exact ⟨vb, rb, g1, g2, g3, g4, g5.2⟩) (hbm1.imp_right (fun ⟨vb, rb, g1, g2, g3, g4, g5⟩ => ⟨vb, rb, g1, g2, g3, g4, g5.2⟩))) (fun w hw => by rw [hld w hw]; exact hL w hw)
