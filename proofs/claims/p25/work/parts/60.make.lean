/-! ===== the whole allocation ===== -/
theorem fill8 : ∀ (d r fuel : Nat) (f : Nat → Int32), 8 - r = d → r ≤ 8 → d < fuel → (∀ j, j < r → f j = -1) → ∃ f', f_X0_clear_L35 fuel (nI r) f = some f' ∧ ∀ j, j < 8 → f' j = -1 := by
  intro d
  induction d with
  | zero =>
    intro r fuel f hd hr hf h1
    obtain ⟨m, rfl, hm⟩ := fuel_s hf
    rw [f_X0_clear_L35, if_pos (show (8 : Int32) ≤ nI r from nI_le (a := 8) (by omega) (by omega))]
    exact ⟨f, rfl, fun j hj => h1 j (by omega)⟩
  | succ d ih =>
    intro r fuel f hd hr hf h1
    obtain ⟨m, rfl, hm⟩ := fuel_s hf
    rw [f_X0_clear_L35, if_neg (show ¬ (8 : Int32) ≤ nI r from nI_ge (b := 8) (by omega) (by omega)), rdc_N (by omega) (by omega), nI_clamp (by omega), nI_1]
    refine ih (r + 1) m _ (by omega) (by omega) (by omega) (fun j hj => ?_)
    by_cases q : j = r
    · rw [q, pk_us]
    · rw [pk_un q]; exact h1 j (by omega)
theorem filStep {r : Nat} {x : Int32} {f : Nat → Int32} (h : ∀ j, j < r → f j = x) : ∀ j, j < r + 1 → upd f r x j = x := fun j hj => by
  by_cases q : j = r
  · rw [q, pk_us]
  · rw [pk_un q]; exact h j (by omega)
theorem firstUse_any {f s c : Nat → Int32} {n j : Nat} (hn : n ≤ 60) (hj : j < 60) (x : Int32) : ∃ y, f_X1_firstUse (nI j) x f s c (nI n) = some y ∧ (j < n → y = nu (usC f s c (nI j)) n (frN x)) := by
  rcases Nat.lt_or_ge j n with q | q
  · exact ⟨_, firstUse_in hn q x, fun _ => rfl⟩
  · refine ⟨-1, firstUse_out ?_ x, fun h => absurd h (by omega)⟩
    rcases hasC hn (nI j) with ⟨-, i, hi, e⟩ | ⟨h, -⟩
    · have := nI_i (by omega) (by omega) e
      omega
    · exact h
theorem fill60 {f s c : Nat → Int32} {n : Nat} (hn : n ≤ 60) : ∀ (d r fuel : Nat) (rO sO pO up sT : Nat → Int32), 60 - r = d → r ≤ 60 → d < fuel → (∀ j, j < r → rO j = -1) → (∀ j, j < r → sO j = -1) → (∀ j, j < r → j < n → up j = nu (usC f s c (nI j)) n (j + 1)) → (∀ j, j < r → sT j = 0) →
    ∃ rO' sO' pO' up' sT' : Nat → Int32, f_X0_clear_L56 f s c (nI n) fuel (nI r) rO sO pO up sT = some (rO', sO', pO', up', sT') ∧ (∀ j, j < 60 → rO' j = -1) ∧ (∀ j, j < 60 → sO' j = -1) ∧ (∀ j, j < n → up' j = nu (usC f s c (nI j)) n (j + 1)) ∧ ∀ j, j < 60 → sT' j = 0 := by
  intro d
  induction d with
  | zero =>
    intro r fuel rO sO pO up sT hd hr hf h1 h2 h4 h5
    obtain ⟨m, rfl, hm⟩ := fuel_s hf
    rw [f_X0_clear_L56, if_pos (show (60 : Int32) ≤ nI r from nI_le (a := 60) (by omega) (by omega))]
    exact ⟨rO, sO, pO, up, sT, rfl, fun j hj => h1 j (by omega), fun j hj => h2 j (by omega), fun j hj => h4 j (by omega) hj, fun j hj => h5 j (by omega)⟩
  | succ d ih =>
    intro r fuel rO sO pO up sT hd hr hf h1 h2 h4 h5
    obtain ⟨m, rfl, hm⟩ := fuel_s hf
    obtain ⟨y, e1, e2⟩ := firstUse_any (f := f) (s := s) (c := c) (j := r) hn (by omega) (nI (r + 1))
    rw [f_X0_clear_L56, if_neg (show ¬ (60 : Int32) ≤ nI r from nI_ge (b := 60) (by omega) (by omega)), rdc_N (by omega) (by omega), rdc_N (by omega) (by omega), rdc_N (by omega) (by omega), nI_1, e1, kbs rfl, rdc_N (by omega) (by omega), rdc_N (by omega) (by omega), nI_clamp (by omega)]
    refine ih (r + 1) m _ _ _ _ _ (by omega) (by omega) (by omega) (filStep h1) (filStep h2) (fun j hj hjn => ?_) (filStep h5)
    by_cases q : j = r
    · rw [q, pk_us, e2 (by omega), frN_nI (by omega)]
    · rw [pk_un q]; exact h4 j (by omega) hjn
theorem nu_first {n : Nat} {kC fC sC cC : Nat → Int32} (hw : WF n kC fC sC) {v : Nat} (hv : v < n) : ∀ i, i ≤ v + 1 → nu (usC fC sC cC (nI v)) n i = nu (usC fC sC cC (nI v)) n 0 := by
  have hn := hw.1
  intro i
  induction i with
  | zero => intro _; rfl
  | succ i ih =>
    intro hi
    rw [CC.skip (fun h => absurd (usR_lt hw (by omega) (by omega) h.2) (by omega)), ih (by omega)]
theorem countingC {c : Nat → Int32} {v n : Nat} (hn : n ≤ 60) (hv : v < n) : f_X1_isCounting (nI v) c (nI n) = some (if c v = 0 then 0 else 1) := by
  rw [f_X1_isCounting, hasC_in hn hv, kbs rfl, if_neg (by decide), rdc_N (by omega) (by omega), nI_clamp (by omega)]
  by_cases h : c v = 0
  · rw [if_pos h, if_pos h]
  · rw [if_neg h, if_neg h]
theorem Inv1.skip {n R i S B a b sc : Nat} {kC fC sC cC val sN pN vI rO sO pO up sT : Nat → Int32} (hi : i < n) (hc : CC n kC fC sC cC) (h0 : cC i = 0 ∨ kC i = 0)
    (h : Inv1 n R i kC fC cC val (fun v => nu (usC fC sC cC (nI v)) n i) S B a b sN pN vI rO sO pO up sT sc) : Inv1 n R (i + 1) kC fC cC val (fun v => nu (usC fC sC cC (nI v)) n (i + 1)) S B a b sN pN vI rO sO pO up sT sc := by
  have hn := hc.1.1
  have e : ∀ v, v < n → nu (usC fC sC cC (nI v)) n i = nu (usC fC sC cC (nI v)) n (i + 1) := fun v hv => (CC.skip (fun g => by
    rcases h0 with h0 | h0
    · exact g.1 h0
    · rcases (hc.1.2 i hi).2 with ⟨-, h1, h2⟩ | ⟨h1, -⟩
      · rcases g.2 with z | z
        · exact nIm1 (k := v) (by omega) (z.symm.trans h1)
        · exact nIm1 (k := v) (by omega) (z.symm.trans h2)
      · exact h1 h0)).symm
  obtain ⟨iR, iS, iK, iU, iL, iA, iB, iT⟩ := h.congr (by omega) e
  refine ⟨iR, iS, iK, iU, iL, ⟨fun w hw q1 q2 => ?_, fun w q1 q2 => iA.2 w (by omega) q2⟩, iB, iT.skip h0⟩
  by_cases q : w = i
  · exfalso
    rw [q] at q1 q2
    rcases h0 with h0 | h0
    · refine q2 (hc.noUse hi (fun u g1 g2 g3 g4 => absurd h0 ((hc.2 i hi).2.mpr (Or.inr ⟨u, g1, g2, g3, g4⟩))) _)
    · exact q1 h0
  · exact iA.1 w (by omega) q1 q2
theorem usd_le {fC sC cC : Nat → Int32} {i w : Nat} : usd fC sC cC i w ≤ usd fC sC cC (i + 1) w := by
  unfold usd; rw [fb_ct_succ]; omega
set_option maxHeartbeats 1000000 in
theorem make_L1 {n R : Nat} {kC fC sC iC cC val : Nat → Int32} (hR2 : 2 ≤ R) (hR : R ≤ 8) (hc : CC n kC fC sC cC) (hV : VAL n kC fC sC iC val) : ∀ (d i f1 a b sc : Nat) (sN pN vI rO sO pO up sT : Nat → Int32), n - i = d → i ≤ n → d < f1 →
    Inv1 n R i kC fC cC val (fun v => nu (usC fC sC cC (nI v)) n i) (60 + 3 * i) (3 * i) a b sN pN vI rO sO pO up sT sc → (∀ w, w < n → ldv sN pN w b ≤ usd fC sC cC i w) →
    Sim1 n R n kC fC cC val (fun v => nu (usC fC sC cC (nI v)) n n) (60 + 3 * n) (3 * n) (usd fC sC cC n) (f_X0_make_L7 kC fC sC iC cC (nI n) (nI R) f1 (nI i) sN (nI a) pN (nI b) vI rO sO pO up sT (nI sc)) := by
  have hn := hc.1.1
  intro d
  induction d with
  | zero =>
    intro i f1 a b sc sN pN vI rO sO pO up sT hd hi h1 hI hL
    obtain ⟨m1, rfl, g1⟩ := fuel_s h1
    have e : i = n := by omega
    rw [e] at hI hL ⊢
    rw [f_X0_make_L7, f_X1_length, kbs rfl, if_pos (nI_le (Nat.le_refl n) (by omega))]
    exact ⟨a, b, sc, sN, pN, vI, rO, sO, pO, up, sT, rfl, hI, hL⟩
  | succ d ih =>
    intro i f1 a b sc sN pN vI rO sO pO up sT hd hi h1 hI hL
    obtain ⟨m1, rfl, g1⟩ := fuel_s h1
    have hin : i < n := by omega
    have hL' : ∀ w, w < n → ldv sN pN w b ≤ usd fC sC cC (i + 1) w := fun w hw => Nat.le_trans (hL w hw) usd_le
    rw [f_X0_make_L7, f_X1_length, kbs rfl, if_neg (nI_ge hin (by omega)), countingC hn hin, kbs rfl, nI_1]
    by_cases c0 : cC i = 0
    · rw [if_pos c0, if_pos rfl]
      exact ih (i + 1) m1 a b sc sN pN vI rO sO pO up sT (by omega) (by omega) (by omega) ((hI.skip hin hc (Or.inl c0)).mono (by omega) (by omega)) hL'
    · rw [if_neg c0, if_neg (by decide), isConstC hn hin, kbs rfl]
      by_cases k0 : kC i = 0
      · rw [if_pos k0, if_neg (by decide)]
        exact ih (i + 1) m1 a b sc sN pN vI rO sO pO up sT (by omega) (by omega) (by omega) ((hI.skip hin hc (Or.inr k0)).mono (by omega) (by omega)) hL'
      · rw [if_neg k0, if_pos rfl]
        obtain ⟨a', b', sc', sN', pN', vI', rO', sO', pO1, up', sT', e1, e3, e4⟩ := treat1 hR2 hR hin (by omega) (by omega) hc hV c0 k0 hI hL
        rw [e1, kbs rfl]
        exact ih (i + 1) m1 a' b' sc' sN' pN' vI' rO' sO' pO1 up' sT' (by omega) (by omega) (by omega) (e3.mono (by omega) (by omega)) e4
theorem minmax {R : Nat} (hR2 : 2 ≤ R) (hR : R ≤ 8) : (if (2 : Int32) < (if 8 < nI R then 8 else nI R) then (if 8 < nI R then 8 else nI R) else 2) = nI R := by
  rw [if_neg (show ¬ (8 : Int32) < nI R from nI_nlt (a := 8) (b := R) hR (by omega))]
  rcases Nat.lt_or_ge 2 R with q | q
  · rw [if_pos (show (2 : Int32) < nI R from nI_lt (a := 2) q (by omega))]
  · have e : R = 2 := by omega
    rw [e]; rfl
/-- what is so of a finished allocation -/
def FIN (n R : Nat) (kC fC sC cC val : Nat → Int32) (a b : Nat) (sN pN : Nat → Int32) (sc : Nat) : Prop :=
  a ≤ 240 ∧ b ≤ 180 ∧ StepOK R a sN ∧ (mach sN a).2.2 = outs kC fC cC val n ∧ evs sN a = prog kC cC n ∧ PcsOK n R a b pN ∧ (∀ v, v < n → stv sN pN v b ≤ 1) ∧
    cK 8 sN a = fb_sm (fun v => stv sN pN v b) n ∧ sc ≤ cK 8 sN a ∧ (∀ v, v < n → ldv sN pN v b ≠ 0 → stv sN pN v b ≠ 0) ∧ ∀ v, v < n → ldv sN pN v b ≤ usd fC sC cC n v
theorem make1 {n R : Nat} {kC fC sC iC cC val : Nat → Int32} (hR2 : 2 ≤ R) (hR : R ≤ 8) (hc : CC n kC fC sC cC) (hV : VAL n kC fC sC iC val) (sN pN vI rO sO pO up sT : Nat → Int32) :
    ∃ (a b sc : Nat) (sN1 pN1 vI1 rO1 sO1 pO1 up1 sT1 : Nat → Int32),
      f_X0_make (nI R) kC fC sC iC cC (nI n) sN pN vI rO sO pO up sT = some (sN1, nI a, pN1, nI b, vI1, rO1, sO1, pO1, up1, sT1, nI R, nI sc) ∧ FIN n R kC fC sC cC val a b sN1 pN1 sc := by
  have hn := hc.1.1
  obtain ⟨vI0, c1, hv0⟩ := fill8 8 0 4000 vI rfl (by omega) (by omega) (fun j hj => by omega)
  obtain ⟨rO0, sO0, pO0, up0, sT0, c2, h1, h2, h3, h4⟩ := fill60 (f := fC) (s := sC) (c := cC) hn 60 0 4000 rO sO pO up sT rfl (by omega) (by omega) (fun j hj => by omega) (fun j hj => by omega) (fun j hj => by omega) (fun j hj => by omega)
  rw [nI_0] at c1 c2
  have hT : Tr n R 0 kC fC cC val (fun v => nu (usC fC sC cC (nI v)) n 0) 0 0 sN pN rO0 sO0 pO0 sT0 0 := by
    refine ⟨fun v r hv hr e => ?_, fun v s hv hs e => ?_, rfl, rfl, fun q hq => by omega, fun v hv => ⟨Nat.zero_le 1, fun _ => ⟨fun g => absurd rfl g, fun g => absurd (h2 v (by omega)) g⟩⟩, ?_, ⟨Nat.le_refl 0, fun s hs g => absurd (h4 s hs) g⟩, fun v hv g => absurd rfl g⟩
    · rw [h1 v (by omega)] at e; exact absurd e.symm (nIm1 (by omega))
    · rw [h2 v (by omega)] at e; exact absurd e.symm (nIm1 (by omega))
    · have := fb_sm_const 0 n
      rw [Nat.mul_zero] at this
      exact this.symm
  have hI : Inv1 n R 0 kC fC cC val (fun v => nu (usC fC sC cC (nI v)) n 0) (60 + 3 * 0) (3 * 0) 0 0 sN pN vI0 rO0 sO0 pO0 up0 sT0 0 := by
    refine ⟨⟨fun r hr => Or.inl (hv0 r (by omega)), fun v hv => Or.inl (h1 v hv)⟩, ⟨fun v hv => Or.inl (h2 v hv), fun s hs => Or.inl (h4 s hs), fun v w hv _ g => absurd (h2 v hv) g⟩, fun k hk => by omega, fun v hv => ?_, fun v hv g => absurd (h1 v (by omega)) g, ⟨fun v hv => by omega, fun v _ hv => h1 v hv⟩, ⟨?_, Nat.le_refl _⟩, hT⟩
    · rw [h3 v hv, nu_first hc.1 hv (v + 1) (Nat.le_refl _)]
    · have := fb_ct_le (phB sO0 (fun v => nu (usC fC sC cC (nI v)) n 0)) n
      omega
  obtain ⟨a, b, sc, sN1, pN1, vI1, rO1, sO1, pO1, up1, sT1, k1, hI1, hL1⟩ := make_L1 hR2 hR hc hV n 0 4000 0 0 0 sN pN vI0 rO0 sO0 pO0 up0 sT0 rfl (Nat.zero_le n) (by omega) hI (fun w _ => Nat.zero_le _)
  rw [nI_0] at k1
  obtain ⟨-, -, iK, -, -, -, ⟨iB1, iB2⟩, ⟨-, -, TC, TD, TE, TF, TG, TH, TI⟩⟩ := hI1
  refine ⟨a, b, sc, sN1, pN1, vI1, rO1, sO1, pO1, up1, sT1, ?_, by omega, by omega, iK, TC, TD, TE, fun v hv => (TF v hv).1, TG, TH.1, TI, hL1⟩
  rw [f_X0_make, f_X0_clear, f_X3_clear, kbs rfl, kbs rfl, c1, kbs rfl, c2, kbs rfl, kbs rfl]
  dsimp only
  rw [minmax hR2 hR, k1, kbs rfl]
