/-! ===== the whole allocation ===== -/
def cM1 (N : Nat) : Nat → Int32 := fun j => if j < N then -1 else 0
def cZ : Nat → Int32 := fun _ => 0
theorem cM1_in {N j : Nat} (h : j < N) : cM1 N j = -1 := if_pos h
theorem cM1_out {N j : Nat} (h : N ≤ j) : cM1 N j = 0 := if_neg (by omega)
theorem fillC8 : ∀ (d r fuel : Nat) (f : Nat → Int32), 8 - r = d → r ≤ 8 → d < fuel → (∀ j, j < r → f j = -1) → (∀ j, 8 ≤ j → f j = 0) → f_X0_clear_L35 fuel (nI r) f = some (cM1 8) := by
  intro d
  induction d with
  | zero =>
    intro r fuel f hd hr hf h1 h2
    obtain ⟨m, rfl, hm⟩ := fuel_s hf
    rw [f_X0_clear_L35, if_pos (show (8 : Int32) ≤ nI r from nI_le (a := 8) (by omega) (by omega))]
    congr 1
    funext j
    rcases Nat.lt_or_ge j 8 with q | q
    · rw [cM1_in q]; exact h1 j (by omega)
    · rw [cM1_out q]; exact h2 j q
  | succ d ih =>
    intro r fuel f hd hr hf h1 h2
    obtain ⟨m, rfl, hm⟩ := fuel_s hf
    rw [f_X0_clear_L35, if_neg (show ¬ (8 : Int32) ≤ nI r from nI_ge (b := 8) (by omega) (by omega)), rdc_N (by omega) (by omega), nI_clamp (by omega), nI_1]
    refine ih (r + 1) m _ (by omega) (by omega) (by omega) (fun j hj => ?_) (fun j hj => by rw [pk_un (by omega)]; exact h2 j hj)
    by_cases q : j = r
    · rw [q, pk_us]
    · rw [pk_un q]; exact h1 j (by omega)
theorem fillM8 : ∀ (d r fuel : Nat) (f : Nat → Int32), 8 - r = d → r ≤ 8 → d < fuel → (∀ j, j < r → f j = -1) → (∀ j, 8 ≤ j → f j = 0) → f_X5_make_L56 fuel (nI r) f = some (cM1 8) := by
  intro d
  induction d with
  | zero =>
    intro r fuel f hd hr hf h1 h2
    obtain ⟨m, rfl, hm⟩ := fuel_s hf
    rw [f_X5_make_L56, if_pos (show (8 : Int32) ≤ nI r from nI_le (a := 8) (by omega) (by omega))]
    congr 1
    funext j
    rcases Nat.lt_or_ge j 8 with q | q
    · rw [cM1_in q]; exact h1 j (by omega)
    · rw [cM1_out q]; exact h2 j q
  | succ d ih =>
    intro r fuel f hd hr hf h1 h2
    obtain ⟨m, rfl, hm⟩ := fuel_s hf
    rw [f_X5_make_L56, if_neg (show ¬ (8 : Int32) ≤ nI r from nI_ge (b := 8) (by omega) (by omega)), rdc_N (by omega) (by omega), nI_clamp (by omega), nI_1]
    refine ih (r + 1) m _ (by omega) (by omega) (by omega) (fun j hj => ?_) (fun j hj => by rw [pk_un (by omega)]; exact h2 j hj)
    by_cases q : j = r
    · rw [q, pk_us]
    · rw [pk_un q]; exact h1 j (by omega)
/-- a row filled up to r -/
def Fil (r : Nat) (x : Int32) (f : Nat → Int32) : Prop := (∀ j, j < r → f j = x) ∧ ∀ j, 60 ≤ j → f j = 0
theorem Fil.step {r : Nat} {x : Int32} {f : Nat → Int32} (hr : r < 60) (h : Fil r x f) : Fil (r + 1) x (upd f r x) := ⟨fun j hj => by
  by_cases q : j = r
  · rw [q, pk_us]
  · rw [pk_un q]; exact h.1 j (by omega), fun j hj => by rw [pk_un (by omega)]; exact h.2 j hj⟩
theorem Fil.m1 {f : Nat → Int32} (h : Fil 60 (-1) f) : f = cM1 60 := by
  funext j
  rcases Nat.lt_or_ge j 60 with q | q
  · rw [cM1_in q]; exact h.1 j q
  · rw [cM1_out q]; exact h.2 j q
theorem Fil.z {f : Nat → Int32} (h : Fil 60 0 f) : f = cZ := by
  funext j
  rcases Nat.lt_or_ge j 60 with q | q
  · exact h.1 j q
  · exact h.2 j q
theorem fillM60 : ∀ (d r fuel : Nat) (f g t : Nat → Int32), 60 - r = d → r ≤ 60 → d < fuel → Fil r (-1) f → Fil r (-1) g → Fil r 0 t → f_X5_make_L21 fuel (nI r) f g t = some (cM1 60, cM1 60, cZ) := by
  intro d
  induction d with
  | zero =>
    intro r fuel f g t hd hr hf h1 h2 h3
    obtain ⟨m, rfl, hm⟩ := fuel_s hf
    have e : r = 60 := by omega
    subst e
    rw [f_X5_make_L21, if_pos (show (60 : Int32) ≤ nI 60 from nI_le (a := 60) (by omega) (by omega)), h1.m1, h2.m1, h3.z]
  | succ d ih =>
    intro r fuel f g t hd hr hf h1 h2 h3
    obtain ⟨m, rfl, hm⟩ := fuel_s hf
    rw [f_X5_make_L21, if_neg (show ¬ (60 : Int32) ≤ nI r from nI_ge (b := 60) (by omega) (by omega)), rdc_N (by omega) (by omega), rdc_N (by omega) (by omega), rdc_N (by omega) (by omega), nI_clamp (by omega), nI_1]
    exact ih (r + 1) m _ _ _ (by omega) (by omega) (by omega) (h1.step (by omega)) (h2.step (by omega)) (h3.step (by omega))
theorem firstUse_any {f s c : Nat → Int32} {n j : Nat} (hn : n ≤ 60) (hj : j < 60) (x : Int32) : ∃ y, f_X1_firstUse (nI j) x f s c (nI n) = some y ∧ (j < n → y = nu (usC f s c (nI j)) n (frN x)) := by
  rcases Nat.lt_or_ge j n with q | q
  · exact ⟨_, firstUse_in hn q x, fun _ => rfl⟩
  · refine ⟨-1, firstUse_out ?_ x, fun h => absurd h (by omega)⟩
    rcases hasC hn (nI j) with ⟨-, i, hi, e⟩ | ⟨h, -⟩
    · have := nI_i (by omega) (by omega) e
      omega
    · exact h
theorem fillC60 {f s c : Nat → Int32} {n : Nat} (hn : n ≤ 60) : ∀ (d r fuel : Nat) (rO sO pO up sT : Nat → Int32), 60 - r = d → r ≤ 60 → d < fuel → Fil r (-1) rO → Fil r (-1) sO → (∀ j, j < r → pO j = -1) → (∀ j, j < r → j < n → up j = nu (usC f s c (nI j)) n (j + 1)) → Fil r 0 sT →
    ∃ pO' up' : Nat → Int32, f_X0_clear_L56 f s c (nI n) fuel (nI r) rO sO pO up sT = some (cM1 60, cM1 60, pO', up', cZ) ∧ (∀ j, j < 60 → pO' j = -1) ∧ ∀ j, j < n → up' j = nu (usC f s c (nI j)) n (j + 1) := by
  intro d
  induction d with
  | zero =>
    intro r fuel rO sO pO up sT hd hr hf h1 h2 h3 h4 h5
    obtain ⟨m, rfl, hm⟩ := fuel_s hf
    have e : r = 60 := by omega
    subst e
    rw [f_X0_clear_L56, if_pos (show (60 : Int32) ≤ nI 60 from nI_le (a := 60) (by omega) (by omega)), h1.m1, h2.m1, h5.z]
    exact ⟨pO, up, rfl, h3, fun j hj => h4 j (by omega) hj⟩
  | succ d ih =>
    intro r fuel rO sO pO up sT hd hr hf h1 h2 h3 h4 h5
    obtain ⟨m, rfl, hm⟩ := fuel_s hf
    obtain ⟨y, e1, e2⟩ := firstUse_any (f := f) (s := s) (c := c) (j := r) hn (by omega) (nI (r + 1))
    rw [f_X0_clear_L56, if_neg (show ¬ (60 : Int32) ≤ nI r from nI_ge (b := 60) (by omega) (by omega)), rdc_N (by omega) (by omega), rdc_N (by omega) (by omega), rdc_N (by omega) (by omega), nI_1, e1, kbs rfl, rdc_N (by omega) (by omega), rdc_N (by omega) (by omega), nI_clamp (by omega)]
    refine ih (r + 1) m _ _ _ _ _ (by omega) (by omega) (by omega) (h1.step (by omega)) (h2.step (by omega)) (fun j hj => ?_) (fun j hj hjn => ?_) (h5.step (by omega))
    · by_cases q : j = r
      · rw [q, pk_us]
      · rw [pk_un q]; exact h3 j (by omega)
    · by_cases q : j = r
      · rw [q, pk_us, e2 (by omega), frN_nI (by omega)]
      · rw [pk_un q]; exact h4 j (by omega) hjn
theorem nu_first {n : Nat} {kC fC sC cC : Nat → Int32} (hw : WF n kC fC sC) {v : Nat} (hv : v < n) : ∀ i, i ≤ v + 1 → nu (usC fC sC cC (nI v)) n i = nu (usC fC sC cC (nI v)) n 0 := by
  have hn := hw.1
  intro i
  induction i with
  | zero => intro _; rfl
  | succ i ih =>
    intro hi
    rw [CR.skip (fun h => absurd (usR_lt hw (by omega) (by omega) h.2) (by omega)), ih (by omega)]
theorem countingC {c : Nat → Int32} {v n : Nat} (hn : n ≤ 60) (hv : v < n) : f_X1_isCounting (nI v) c (nI n) = some (if c v = 0 then 0 else 1) := by
  rw [f_X1_isCounting, hasC_in hn hv, kbs rfl, if_neg (by decide), rdc_N (by omega) (by omega), nI_clamp (by omega)]
  by_cases h : c v = 0
  · rw [if_pos h, if_pos h]
  · rw [if_neg h, if_neg h]
theorem Inv.skip {n R i S B O a b : Nat} {kC fC sC iC cC kM aM bM cM sN stP pN pcP vI rO sO pO pO' up sT : Nat → Int32} (hi : i < n) (hc : CR n kC fC sC iC cC kM aM bM cM) (h0 : cC i = 0 ∨ kC i = 0)
    (h : Inv n R i kC (fun v => nu (usC fC sC cC (nI v)) n i) S B O a b sN stP pN pcP vI rO sO pO pO' up sT) : Inv n R (i + 1) kC (fun v => nu (usC fC sC cC (nI v)) n (i + 1)) S B O a b sN stP pN pcP vI rO sO pO pO' up sT := by
  have hn := hc.1.1
  have e : ∀ v, v < n → nu (usC fC sC cC (nI v)) n i = nu (usC fC sC cC (nI v)) n (i + 1) := fun v hv => (CR.skip (fun g => by
    rcases h0 with h0 | h0
    · exact g.1 h0
    · rcases (hc.1.2 i hi).2 with ⟨-, h1, h2⟩ | ⟨h1, -⟩
      · rcases g.2 with z | z
        · exact nIm1 (k := v) (by omega) (z.symm.trans h1)
        · exact nIm1 (k := v) (by omega) (z.symm.trans h2)
      · exact h1 h0)).symm
  obtain ⟨iR, iS, iP, iE, iK, iU, iL, iA, iB, iZ⟩ := Inv.congr (by omega) h e
  refine ⟨iR, iS, iP, iE, iK, iU, iL, ⟨fun w hw g1 g2 => ?_, fun w h1 h2 => iA.2 w (by omega) h2⟩, iB, iZ⟩
  by_cases q : w = i
  · rw [q] at g1 g2
    rcases h0 with h0 | h0
    · exact absurd (hc.dead hi h0 _) g2
    · exact absurd h0 g1
  · exact iA.1 w (by omega) g1 g2
theorem make_L {n R : Nat} {kC fC sC iC cC kM aM bM cM : Nat → Int32} (hR2 : 2 ≤ R) (hR : R ≤ 8) (hc : CR n kC fC sC iC cC kM aM bM cM) : ∀ (d i f1 f2 a b : Nat) (sN stP pN pcP vI rO sO pO pO' up sT : Nat → Int32) (sc : Int32), n - i = d → i ≤ n → d < f1 → d < f2 →
    Inv n R i kC (fun v => nu (usC fC sC cC (nI v)) n i) (60 + 3 * i) (3 * i) i a b sN stP pN pcP vI rO sO pO pO' up sT →
    Sim n R n kC (fun v => nu (usC fC sC cC (nI v)) n n) (60 + 3 * n) (3 * n) n (f_X0_make_L7 kC fC sC iC cC (nI n) (nI R) f1 (nI i) sN (nI a) pN (nI b) vI rO sO pO up sT sc)
      (f_X5_make_L77 (nI n) kM aM bM (nI R) cM f2 (nI i) (nI a) stP (nI b) pcP sc rO sO pO' vI sT) := by
  have hn := hc.1.1
  intro d
  induction d with
  | zero =>
    intro i f1 f2 a b sN stP pN pcP vI rO sO pO pO' up sT sc hd hi h1 h2 hI
    obtain ⟨m1, rfl, g1⟩ := fuel_s h1
    obtain ⟨m2, rfl, g2⟩ := fuel_s h2
    have e : i = n := by omega
    rw [e] at hI ⊢
    rw [f_X0_make_L7, f_X5_make_L77, f_X1_length, kbs rfl, if_pos (nI_le (Nat.le_refl n) (by omega)), if_pos (nI_le (Nat.le_refl n) (by omega))]
    exact ⟨a, b, sN, stP, pN, pcP, vI, rO, sO, pO, pO', up, sT, sc, rfl, rfl, hI⟩
  | succ d ih =>
    intro i f1 f2 a b sN stP pN pcP vI rO sO pO pO' up sT sc hd hi h1 h2 hI
    obtain ⟨m1, rfl, g1⟩ := fuel_s h1
    obtain ⟨m2, rfl, g2⟩ := fuel_s h2
    have hin : i < n := by omega
    rw [f_X0_make_L7, f_X5_make_L77, f_X1_length, kbs rfl, if_neg (nI_ge hin (by omega)), if_neg (nI_ge hin (by omega)), countingC hn hin, kbs rfl, rdc_N (by omega) (by omega), nI_clamp (n := i) (by omega), nI_1, hc.2.2.2 i hin]
    by_cases c0 : cC i = 0
    · rw [if_pos c0, if_pos rfl, if_pos c0]
      exact ih (i + 1) m1 m2 a b sN stP pN pcP vI rO sO pO pO' up sT sc (by omega) (by omega) (by omega) (by omega) ((hI.skip hin hc (Or.inl c0)).mono (by omega) (by omega) (by omega))
    · rw [if_neg c0, if_neg (by decide), if_neg c0, isConstC hn hin, kbs rfl, rdc_N (by omega) (by omega), (hc.2.1 i hin).1]
      by_cases k0 : kC i = 0
      · rw [if_pos k0, if_neg (by decide), if_pos k0]
        exact ih (i + 1) m1 m2 a b sN stP pN pcP vI rO sO pO pO' up sT sc (by omega) (by omega) (by omega) (by omega) ((hI.skip hin hc (Or.inr k0)).mono (by omega) (by omega) (by omega))
      · rw [if_neg k0, if_pos rfl, if_neg k0]
        obtain ⟨a', b', sN', stP', pN', pcP', vI', rO', sO', pO1, pO2, up', sT', sc', e1, e2, e3⟩ := treat_ok (sc := sc) hR2 hR hin (by omega) (by omega) hc c0 k0 hI
        rw [e1, kbs rfl, e2, kbs rfl]
        exact ih (i + 1) m1 m2 a' b' sN' stP' pN' pcP' vI' rO' sO' pO1 pO2 up' sT' sc' (by omega) (by omega) (by omega) (by omega) (e3.mono (by omega) (by omega) (by omega))
/-- the code's part of CR, without the model's counting -/
def CR0 (n : Nat) (kC fC sC iC cC kM aM bM : Nat → Int32) : Prop :=
  WF n kC fC sC ∧ (∀ j, j < n → kM j = kC j ∧ (kC j = 0 → aM j = iC j ∧ bM j = -1) ∧ (kC j ≠ 0 → aM j = fC j ∧ bM j = sC j)) ∧ IsC n kC (usR fC sC) cC
theorem CR0.count {n : Nat} {kC fC sC iC cC kM aM bM : Nat → Int32} (h : CR0 n kC fC sC iC cC kM aM bM) (c : Nat → Int32) : ∃ cM, f_X5_count (nI n) kM aM bM c = some cM ∧ CR n kC fC sC iC cC kM aM bM cM := by
  obtain ⟨hw, hm, hc⟩ := h
  have hn := hw.1
  obtain ⟨cM, e, hM⟩ := count_ok (k := kM) (a := aM) (b := bM) hn c
  refine ⟨cM, e, hw, hm, hc, fun j hj => (IsC_uniq hc hM (fun j hj => ((hm j hj).1).symm) (fun u j hu hju => ?_) j hj).symm⟩
  obtain ⟨m1, m2, m3⟩ := hm u hu
  unfold usR usT
  rw [m1]
  by_cases k0 : kC u = 0
  · rcases (hw.2 u hu).2 with ⟨-, h1, h2⟩ | ⟨h1, -⟩
    · rw [h1, h2]
      exact ⟨fun g => g.elim (fun e => absurd e.symm (nIm1 (by omega))) (fun e => absurd e.symm (nIm1 (by omega))), fun g => absurd k0 g.1⟩
    · exact absurd k0 h1
  · rw [(m3 k0).1, (m3 k0).2]
    exact ⟨fun g => ⟨k0, g⟩, fun g => g.2⟩
theorem minmax {R : Nat} (hR2 : 2 ≤ R) (hR : R ≤ 8) : (if (2 : Int32) < (if 8 < nI R then 8 else nI R) then (if 8 < nI R then 8 else nI R) else 2) = nI R := by
  rw [if_neg (show ¬ (8 : Int32) < nI R from nI_nlt (a := 8) (b := R) hR (by omega))]
  rcases Nat.lt_or_ge 2 R with q | q
  · rw [if_pos (show (2 : Int32) < nI R from nI_lt (a := 2) q (by omega))]
  · have e : R = 2 := by omega
    rw [e]; rfl
/-- both allocations, from any rows -/
theorem make_ok {n R : Nat} {kC fC sC iC cC kM aM bM : Nat → Int32} (hR2 : 2 ≤ R) (hR : R ≤ 8) (hc : CR0 n kC fC sC iC cC kM aM bM) (sN pN vI rO sO pO up sT stP pcP c0 rO' sO' pO' hB iT : Nat → Int32) (z1 : ZI vI rO sO sT) (z2 : ZI hB rO' sO' iT) :
    ∃ (a b : Nat) (sN1 pN1 stP1 pcP1 cM vI1 rO1 sO1 pO1 pO2 up1 sT1 : Nat → Int32) (sc : Int32),
      f_X0_make (nI R) kC fC sC iC cC (nI n) sN pN vI rO sO pO up sT = some (sN1, nI a, pN1, nI b, vI1, rO1, sO1, pO1, up1, sT1, nI R, sc) ∧
      f_X5_make (nI R) (nI n) kM aM bM stP pcP c0 rO' sO' pO' hB iT = some (nI a, stP1, nI b, pcP1, sc, cM, rO1, sO1, pO2, vI1, sT1) ∧
      (a ≤ 240 ∧ b ≤ 180 ∧ Eq4 a sN1 stP1 ∧ Eq4 b pN1 pcP1 ∧ StepOK R a sN1 ∧ cK 6 sN1 a ≤ 60 ∧ ZI vI1 rO1 sO1 sT1) := by
  have hn := hc.1.1
  obtain ⟨cM, e1, hcr⟩ := hc.count c0
  have f0 : ∀ {x : Int32} {f : Nat → Int32}, (∀ j, 60 ≤ j → f j = 0) → Fil 0 x f := fun h => ⟨fun j hj => by omega, h⟩
  have m1 := fillM60 60 0 4000 rO' sO' iT rfl (by omega) (by omega) (f0 z2.2.1) (f0 z2.2.2.1) (f0 z2.2.2.2)
  have m2 := fillM8 8 0 4000 hB rfl (by omega) (by omega) (fun j hj => by omega) z2.1
  have c1 := fillC8 8 0 4000 vI rfl (by omega) (by omega) (fun j hj => by omega) z1.1
  obtain ⟨pO1, up1, c2, hp, hu⟩ := fillC60 (f := fC) (s := sC) (c := cC) hn 60 0 4000 rO sO pO up sT rfl (by omega) (by omega) (f0 z1.2.1) (f0 z1.2.2.1) (fun j hj => by omega) (fun j hj => by omega) (f0 z1.2.2.2)
  rw [nI_0] at m1 m2 c1 c2
  have hI : Inv n R 0 kC (fun v => nu (usC fC sC cC (nI v)) n 0) (60 + 3 * 0) (3 * 0) 0 0 0 sN stP pN pcP (cM1 8) (cM1 60) (cM1 60) pO1 pO' up1 cZ := by
    refine ⟨⟨fun r hr => Or.inl (cM1_in (by omega)), fun v hv => Or.inl (cM1_in hv)⟩, ⟨fun v hv => Or.inl (cM1_in hv), fun s _ => Or.inl rfl, fun v w hv _ g => absurd (cM1_in hv) g⟩, fun v hv => Or.inl ⟨hp v hv, cM1_in hv⟩, ⟨fun j hj => by omega, fun j hj => by omega⟩, ⟨fun k hk => by omega, Nat.le_refl 0⟩, fun v hv => ?_, fun v hv g => absurd (cM1_in (by omega)) g, ⟨fun v hv => by omega, fun v _ hv => cM1_in hv⟩, ⟨?_, Nat.le_refl _⟩, fun j hj => cM1_out hj, fun j hj => cM1_out hj, fun j hj => cM1_out hj, fun j _ => rfl⟩
    · rw [hu v hv, nu_first hc.1 hv (v + 1) (Nat.le_refl _)]
    · have := fb_ct_le (phB (cM1 60) (fun v => nu (usC fC sC cC (nI v)) n 0)) n
      omega
  obtain ⟨a, b, sN1, stP1, pN1, pcP1, vI1, rO1, sO1, pOa, pOb, up2, sT1, sc, k1, k2, hI1⟩ := make_L hR2 hR hcr n 0 4000 4000 0 0 sN stP pN pcP (cM1 8) (cM1 60) (cM1 60) pO1 pO' up1 cZ 0 rfl (Nat.zero_le n) (by omega) (by omega) hI
  rw [nI_0] at k1 k2
  obtain ⟨-, -, -, ⟨iE, iF⟩, ⟨iK, iO⟩, -, -, -, ⟨iB1, iB2⟩, iZ⟩ := hI1
  refine ⟨a, b, sN1, pN1, stP1, pcP1, cM, vI1, rO1, sO1, pOa, pOb, up2, sT1, sc, ?_, ?_, by omega, by omega, iE, iF, iK, by omega, iZ⟩
  · rw [f_X0_make, f_X0_clear, f_X3_clear, kbs rfl, kbs rfl, c1, kbs rfl, c2, kbs rfl, kbs rfl]
    dsimp only
    rw [minmax hR2 hR, k1, kbs rfl]
  · rw [f_X5_make, e1, kbs rfl, m1, kbs rfl, m2, kbs rfl]
    dsimp only
    rw [k2, kbs rfl]
