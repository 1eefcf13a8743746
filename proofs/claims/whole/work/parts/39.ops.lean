/-! ===== comfortable ===== -/
theorem cm_L {n : Nat} {kC fC sC iC cC kM aM bM : Nat → Int32} (hc : CR0 n kC fC sC iC cC kM aM bM) : ∀ (d x f1 f2 : Nat) (sN pN vI rO sO pO up sT : Nat → Int32) (a b R sc : Int32) (sP pP cn rO' sO' pO' hB iT : Nat → Int32) (st pc sl : Int32), 9 - x = d → 2 ≤ x → x ≤ 9 → d < f1 → d + 1 < f2 → ZI vI rO sO sT → ZI hB rO' sO' iT →
    ∃ (y : Int32) (sN1 pN1 vI1 rO1 sO1 pO1 up1 sT1 : Nat → Int32) (a1 b1 R1 sc1 : Int32) (sP1 pP1 cn1 rO2 sO2 pO2 hB1 iT1 : Nat → Int32) (st1 pc1 sl1 : Int32),
      f_X4_comfortable_L2 kC fC sC iC cC (nI n) f1 (nI x) sN a pN b vI rO sO pO up sT R sc = some (y, sN1, a1, pN1, b1, vI1, rO1, sO1, pO1, up1, sT1, R1, sc1) ∧
      f_X5_comfortable_L9 (nI n) kM aM bM f2 (nI x) (-1) st sP pc pP sl cn rO' sO' pO' hB iT = some (y, st1, sP1, pc1, pP1, sl1, cn1, rO2, sO2, pO2, hB1, iT1) ∧
      ZI vI1 rO1 sO1 sT1 ∧ ZI hB1 rO2 sO2 iT1 := by
  intro d
  induction d with
  | zero =>
    intro x f1 f2 sN pN vI rO sO pO up sT a b R sc sP pP cn rO' sO' pO' hB iT st pc sl hd h2 h9 g1 g2 z1 z2
    obtain ⟨m1, rfl, q1⟩ := fuel_s g1
    obtain ⟨m2, rfl, q2⟩ := fuel_s g2
    have e : x = 9 := by omega
    subst e
    exact ⟨-1, sN, pN, vI, rO, sO, pO, up, sT, a, b, R, sc, sP, pP, cn, rO', sO', pO', hB, iT, st, pc, sl, by rw [f_X4_comfortable_L2, if_pos (show (8 : Int32) < nI 9 by decide)], by rw [f_X5_comfortable_L9, if_pos (show (8 : Int32) < nI 9 by decide)], z1, z2⟩
  | succ d ih =>
    intro x f1 f2 sN pN vI rO sO pO up sT a b R sc sP pP cn rO' sO' pO' hB iT st pc sl hd h2 h9 g1 g2 z1 z2
    obtain ⟨m1, rfl, q1⟩ := fuel_s g1
    obtain ⟨m2, rfl, q2⟩ := fuel_s g2
    have h8 : ¬ (8 : Int32) < nI x := nI_nlt (a := 8) (by omega) (by omega)
    obtain ⟨a1, b1, sN1, pN1, stP1, pcP1, cM, vI1, rO1, sO1, pO1, pO2, up1, sT1, sc1, e1, e2, k1, k2, k3, k4, k5, k6, k7⟩ := make_ok h2 (by omega) hc sN pN vI rO sO pO up sT sP pP cn rO' sO' pO' hB iT z1 z2
    rw [f_X4_comfortable_L2, f_X5_comfortable_L9, if_neg h8, if_neg h8, e1, kbs rfl, if_pos rfl, e2, kbs rfl, nI_1]
    dsimp only
    have l7 := cK_le (κ := 7) (f := sN1) a1
    have l8 := cK_le (κ := 8) (f := sN1) a1
    have s7 : f_X5_stepsOf 7 (nI a1) stP1 = some (nI (cK 7 sN1 a1)) := by rw [so_ok k1, cK_cong k3]
    have s8 : f_X5_stepsOf 8 (nI a1) stP1 = some (nI (cK 8 sN1 a1)) := by rw [so_ok k1, cK_cong k3]
    by_cases c7 : cK 7 sN1 a1 = 0
    · rw [c7] at s7
      by_cases c8 : cK 8 sN1 a1 = 0
      · have hu : f_X0_usesSlots sN1 (nI a1) = some 0 := by rw [us_ok k1, if_pos ⟨c7, c8⟩]
        rw [c8] at s8
        rw [hu, kbs rfl, if_pos rfl, s7, kbs rfl, if_pos (show nI 0 = 0 by decide), s8, kbs rfl, if_pos (show nI 0 = 0 by decide)]
        obtain ⟨m3, rfl, q3⟩ : ∃ m3, m2 = m3 + 1 ∧ 0 ≤ m3 := ⟨m2 - 1, by omega, by omega⟩
        refine ⟨nI x, sN1, pN1, vI1, rO1, sO1, pO1, up1, sT1, nI a1, nI b1, nI x, sc1, stP1, pcP1, cM, rO1, sO1, pO2, vI1, sT1, nI a1, nI b1, sc1, rfl, ?_, k7, k7⟩
        rw [f_X5_comfortable_L9]
        by_cases h : (8 : Int32) < nI (x + 1)
        · rw [if_pos h]
        · rw [if_neg h, if_neg (nIm1 (by omega))]
      · have hu : f_X0_usesSlots sN1 (nI a1) = some 1 := by rw [us_ok k1, if_neg (fun z => c8 z.2)]
        rw [hu, kbs rfl, if_neg (by decide), s7, kbs rfl, if_pos (show nI 0 = 0 by decide), s8, kbs rfl, if_neg (nI_ne0 (by omega) (by omega))]
        exact ih (x + 1) m1 m2 sN1 pN1 vI1 rO1 sO1 pO1 up1 sT1 (nI a1) (nI b1) (nI x) sc1 stP1 pcP1 cM rO1 sO1 pO2 vI1 sT1 (nI a1) (nI b1) sc1 (by omega) (by omega) (by omega) (by omega) (by omega) k7 k7
    · have hu : f_X0_usesSlots sN1 (nI a1) = some 1 := by rw [us_ok k1, if_neg (fun z => c7 z.1)]
      rw [hu, kbs rfl, if_neg (by decide), s7, kbs rfl, if_neg (nI_ne0 (by omega) (by omega))]
      exact ih (x + 1) m1 m2 sN1 pN1 vI1 rO1 sO1 pO1 up1 sT1 (nI a1) (nI b1) (nI x) sc1 stP1 pcP1 cM rO1 sO1 pO2 vI1 sT1 (nI a1) (nI b1) sc1 (by omega) (by omega) (by omega) (by omega) (by omega) k7 k7
section CALLS3
variable (l : Launch) (D : va_G) (cyI cyZ : ClassId) (qa qb : Nat → Nat) {S : ZS} {M : ZM}
theorem op_comfortable (h : REL S M) : OPD l D cyI cyZ qa qb yX4_comfortable wsX4_comfortable rmX4_comfortable yX5_comfortable wsX5_comfortable rmX5_comfortable [] S M := by
  obtain ⟨n, R, q, ⟨hR2, hR, hq⟩, ⟨eS, eM, eR, eR', eq, eq'⟩, hc, ho, ⟨z1, z2, z3⟩, hm, ha⟩ := id h
  obtain ⟨y, sN1, pN1, vI1, rO1, sO1, pO1, up1, sT1, a1, b1, R1, sc1, sP1, pP1, cn1, rO2, sO2, pO2, hB1, iT1, st1, pc1, sl1, e1, e2, w1, w2⟩ := cm_L hc 7 2 4000 4000 S.T.sN S.T.pN S.T.vI S.T.rO S.T.sO S.T.pO S.T.up S.T.sT S.T.a S.T.b S.T.R S.T.sc M.sP M.pP M.cn M.rO M.sO M.pO M.hB M.iT M.st M.pc M.sl (by omega) (by omega) (by omega) (by omega) (by omega) z2 z3
  have f1 : f_X4_comfortable S.k S.f S.s S.i S.c S.n S.T.sN S.T.a S.T.pN S.T.b S.T.vI S.T.rO S.T.sO S.T.pO S.T.up S.T.sT S.T.R S.T.sc = some (y, sN1, a1, pN1, b1, vI1, rO1, sO1, pO1, up1, sT1, R1, sc1) := by
    rw [eS, f_X4_comfortable]; exact e1
  have f0 : f_X5_comfortable M.n M.k M.a M.b M.R M.made M.st M.sP M.pc M.pP M.sl M.cn M.rO M.sO M.pO M.hB M.iT = f_X5_comfortable_J51 M.n M.k M.a M.b M.R M.made y 0 st1 sP1 pc1 pP1 sl1 cn1 rO2 sO2 pO2 hB1 iT1 := by
    have e2' : f_X5_comfortable_L9 M.n M.k M.a M.b 4000 2 (-1) M.st M.sP M.pc M.pP M.sl M.cn M.rO M.sO M.pO M.hB M.iT = some (y, st1, sP1, pc1, pP1, sl1, cn1, rO2, sO2, pO2, hB1, iT1) := by rw [eM]; exact e2
    rw [f_X5_comfortable, e2', kbs rfl]
  rcases ha with a0 | ⟨al, a, b, ⟨b1', b2, b3, b4, b5⟩, ⟨g1, g2, g3, g4, g5, g6⟩, s0, p0, v0, r0, o0, c0, u0, t0, i1, i2⟩
  · have f2 : f_X5_comfortable M.n M.k M.a M.b M.R M.made M.st M.sP M.pc M.pP M.sl M.cn M.rO M.sO M.pO M.hB M.iT = some (y, 0, st1, sP1, pc1, pP1, sl1, cn1, rO2, sO2, pO2, hB1, iT1) := by rw [f0, f_X5_comfortable_J51, if_pos (hm.trans a0)]
    exact ⟨_, _, _, m4_comfortable l D cyI cyZ qa S _ f1, m5_comfortable l D cyI cyZ qb M _ f2, n, R, q, ⟨hR2, hR, hq⟩, ⟨eS, eM, eR, eR', eq, eq'⟩, hc, ho, ⟨z1, w1, w2⟩, hm, Or.inl a0⟩
  · obtain ⟨a', b', sN9, pN9, stP9, pcP9, cM9, vI9, rO9, sO9, pO9, pO8, up9, sT9, sc9, k1, k2, j1, j2, j3, j4, j5, j6, j7⟩ := make_ok hR2 hR hc s0 p0 v0 r0 o0 c0 u0 t0 sP1 pP1 cn1 rO2 sO2 pO2 hB1 iT1 i1 w2
    have hh := Option.some.inj (k1.symm.trans i2)
    simp only [Prod.mk.injEq] at hh
    obtain ⟨x1, x2, x3, x4, x5, x6, x7, x8, x9, x10, -, x11⟩ := hh
    have ea : a' = a := nI_i (by omega) (by omega) x2
    have eb : b' = b := nI_i (by omega) (by omega) x4
    subst ea; subst eb
    have f2 : f_X5_comfortable M.n M.k M.a M.b M.R M.made M.st M.sP M.pc M.pP M.sl M.cn M.rO M.sO M.pO M.hB M.iT = some (y, 0, nI a', stP9, nI b', pcP9, sc9, cM9, rO9, sO9, pO8, vI9, sT9) := by
      rw [f0, f_X5_comfortable_J51, if_neg (by rw [hm, al]; decide), eR', eM, k2, kbs rfl]
    refine ⟨_, _, _, m4_comfortable l D cyI cyZ qa S _ f1, m5_comfortable l D cyI cyZ qb M _ f2, n, R, q, ⟨hR2, hR, hq⟩, ⟨eS, eM, eR, eR', eq, eq'⟩, hc, ho, ⟨z1, w1, j7⟩, hm, Or.inr ⟨al, a', b', ⟨b1', b2, rfl, rfl, x11⟩, ⟨g1, g2, ?_, ?_, g5, g6⟩, s0, p0, v0, r0, o0, c0, u0, t0, i1, i2⟩⟩
    · show Eq4 a' S.P.sN stP9
      rw [← x1]; exact j3
    · show Eq4 b' S.P.pN pcP9
      rw [← x3]; exact j4
end CALLS3
/-! ===== run ===== -/
def RI (q : Nat) (rg sl mo rg' sl' out : Nat → Int32) : Prop := (∀ j, j < 8 → rg j = rg' j) ∧ (∀ j, j < 60 → sl j = sl' j) ∧ ∀ j, j < q → mo j = out j
theorem upd_eq {f g : Nat → Int32} {N p : Nat} {x : Int32} (h : ∀ j, j < N → f j = g j) : ∀ j, j < N → upd f p x j = upd g p x j := fun j hj => by
  by_cases e : j = p
  · rw [e, pk_us, pk_us]
  · rw [pk_un e, pk_un e]; exact h j hj
theorem setR {r : Nat} {x : Int32} {rg : Nat → Int32} (h : r < 8) : f_X2_setRegister (nI r) x rg = some (upd rg r x) := by
  rw [f_X2_setRegister, if_neg (nI_pos (by omega)), if_neg (show ¬ (8 : Int32) ≤ nI r from nI_ge (b := 8) h (by omega)), rdc_N (by omega) (by omega), nI_clamp (by omega)]
theorem inR {r : Nat} {rg : Nat → Int32} (h : r < 8) : f_X2_inRegister (nI r) rg = some (rg r) := by
  rw [f_X2_inRegister, if_neg (nI_pos (by omega)), if_neg (show ¬ (8 : Int32) ≤ nI r from nI_ge (b := 8) h (by omega)), rdc_N (by omega) (by omega), nI_clamp (by omega)]
theorem setSl {r : Nat} {x : Int32} {sl : Nat → Int32} (h : r < 60) : f_X2_setSlot (nI r) x sl = some (upd sl r x) := by
  rw [f_X2_setSlot, if_neg (nI_pos (by omega)), if_neg (show ¬ (60 : Int32) ≤ nI r from nI_ge (b := 60) h (by omega)), rdc_N (by omega) (by omega), nI_clamp (by omega)]
theorem inSl {r : Nat} {sl : Nat → Int32} (h : r < 60) : f_X2_inSlot (nI r) sl = some (sl r) := by
  rw [f_X2_inSlot, if_neg (nI_pos (by omega)), if_neg (show ¬ (60 : Int32) ≤ nI r from nI_ge (b := 60) h (by omega)), rdc_N (by omega) (by omega), nI_clamp (by omega)]
theorem wrO {q : Nat} {x : Int32} {mo : Nat → Int32} (h : q < 60) : f_X2_write x mo (nI q) = some (upd mo q x, nI (q + 1)) := by
  rw [f_X2_write, if_neg (nI_pos (by omega)), if_neg (show ¬ (60 : Int32) ≤ nI q from nI_ge (b := 60) h (by omega)), rdc_N (by omega) (by omega), nI_clamp (by omega), nI_1]
theorem run_step {R a i q m δ : Nat} {f g rg sl mo rg' sl' out : Nat → Int32} (hR : R ≤ 8) (ha : a ≤ 240) (hi : i < a) (hrow : RowOK R (f (4 * i)) (f (4 * i + 1)) (f (4 * i + 2)) (f (4 * i + 3))) (he : Eq4 a f g) (h : RI q rg sl mo rg' sl' out) (hq : f (4 * i) = 6 → q < 60) (hq6 : q ≤ 60) (hδ : δ = if f (4 * i) = 6 then 1 else 0) :
    ∃ rg1 sl1 mo1 rg2 sl2 out2, f_X2_perform (f (4 * i)) (f (4 * i + 1)) (f (4 * i + 2)) (f (4 * i + 3)) rg sl mo (nI q) = some (rg1, sl1, mo1, nI (q + δ)) ∧
      f_X5_run_L35 (nI a) g (m + 1) (nI i) (nI q) out rg' sl' = f_X5_run_L35 (nI a) g m (nI (i + 1)) (nI (q + δ)) out2 rg2 sl2 ∧ RI (q + δ) rg1 sl1 mo1 rg2 sl2 out2 := by
  obtain ⟨h1, h2, h3⟩ := h
  obtain ⟨⟨r, hr, x1⟩, hk⟩ := hrow
  rw [f_X5_run_L35, if_neg (nI_ge hi (by omega)), mul4, nI_1 (4 * i), nI_1 i, add2, add3, rdc_N (by omega) (by omega), rdc_N (by omega) (by omega), rdc_N (by omega) (by omega), rdc_N (by omega) (by omega), nI_clamp (n := 4 * i) (by omega), nI_clamp (n := 4 * i + 1) (by omega), nI_clamp (n := 4 * i + 2) (by omega), nI_clamp (n := 4 * i + 3) (by omega), ← he (4 * i) (by omega), ← he (4 * i + 1) (by omega), ← he (4 * i + 2) (by omega), ← he (4 * i + 3) (by omega), x1]
  rcases hk with k | k | ⟨k, ⟨r2, hr2, x2⟩, r3, hr3, x3⟩ | ⟨k, r2, hr2, x2⟩ | ⟨k, s2, hs2, x2⟩
  · rw [k] at hδ ⊢
    rw [if_neg (by decide)] at hδ
    subst hδ
    rw [if_pos rfl, rdc_N (by omega) (by omega), nI_clamp (by omega), f_X2_perform, if_pos rfl, setR (by omega), kbs rfl]
    exact ⟨_, _, _, _, _, _, rfl, rfl, upd_eq h1, h2, h3⟩
  · have hq1 := hq k
    rw [k] at hδ ⊢
    rw [if_pos rfl] at hδ
    subst hδ
    rw [if_neg (by decide), if_neg (by decide), if_neg (by decide), if_neg (by decide), if_neg (by decide), if_neg (by decide), if_pos rfl, rdc_N (by omega) (by omega), rdc_N (by omega) (by omega), nI_clamp (by omega), nI_clamp (by omega), nI_1, f_X2_perform, if_neg (by decide), if_neg (by decide), if_pos rfl, inR (by omega), kbs rfl, wrO hq1, kbs rfl, h1 r (by omega)]
    refine ⟨_, _, _, _, _, _, rfl, rfl, h1, h2, fun j hj => ?_⟩
    show upd mo q (rg' r) j = upd out q (rg' r) j
    by_cases e : j = q
    · rw [e, pk_us, pk_us]
    · rw [pk_un e, pk_un e]; exact h3 j (by omega)
  · have e2 := h1 r2 (by omega)
    have e3 := h1 r3 (by omega)
    rcases k with k | k | k | k
    · rw [k] at hδ ⊢
      rw [if_neg (by decide)] at hδ
      subst hδ
      rw [x2, x3, if_neg (by decide), if_pos rfl, rdc_N (by omega) (by omega), rdc_N (by omega) (by omega), rdc_N (by omega) (by omega), nI_clamp (by omega), nI_clamp (by omega), nI_clamp (by omega), f_X2_perform, if_neg (by decide), if_neg (by decide), if_neg (by decide), if_neg (by decide), if_neg (by decide), f_X2_perform_J112, inR (by omega), kbs rfl, inR (by omega), kbs rfl, f_X2_compute, if_pos rfl, kbs rfl, setR (by omega), kbs rfl, e2, e3]
      exact ⟨_, _, _, _, _, _, rfl, rfl, upd_eq h1, h2, h3⟩
    · rw [k] at hδ ⊢
      rw [if_neg (by decide)] at hδ
      subst hδ
      rw [x2, x3, if_neg (by decide), if_neg (by decide), if_pos rfl, rdc_N (by omega) (by omega), rdc_N (by omega) (by omega), rdc_N (by omega) (by omega), nI_clamp (by omega), nI_clamp (by omega), nI_clamp (by omega), f_X2_perform, if_neg (by decide), if_neg (by decide), if_neg (by decide), if_neg (by decide), if_neg (by decide), f_X2_perform_J112, inR (by omega), kbs rfl, inR (by omega), kbs rfl, f_X2_compute, if_neg (by decide), if_pos rfl, kbs rfl, setR (by omega), kbs rfl, e2, e3]
      exact ⟨_, _, _, _, _, _, rfl, rfl, upd_eq h1, h2, h3⟩
    · rw [k] at hδ ⊢
      rw [if_neg (by decide)] at hδ
      subst hδ
      rw [x2, x3, if_neg (by decide), if_neg (by decide), if_neg (by decide), if_pos rfl, rdc_N (by omega) (by omega), rdc_N (by omega) (by omega), rdc_N (by omega) (by omega), nI_clamp (by omega), nI_clamp (by omega), nI_clamp (by omega), f_X2_perform, if_neg (by decide), if_neg (by decide), if_neg (by decide), if_neg (by decide), if_neg (by decide), f_X2_perform_J112, inR (by omega), kbs rfl, inR (by omega), kbs rfl, f_X2_compute, if_neg (by decide), if_neg (by decide), if_pos rfl, kbs rfl, setR (by omega), kbs rfl, e2, e3]
      exact ⟨_, _, _, _, _, _, rfl, rfl, upd_eq h1, h2, h3⟩
    · rw [k] at hδ ⊢
      rw [if_neg (by decide)] at hδ
      subst hδ
      rw [x2, x3, if_neg (by decide), if_neg (by decide), if_neg (by decide), if_neg (by decide), if_pos rfl, rdc_N (by omega) (by omega), rdc_N (by omega) (by omega), rdc_N (by omega) (by omega), nI_clamp (by omega), nI_clamp (by omega), nI_clamp (by omega), f_X2_perform, if_neg (by decide), if_neg (by decide), if_neg (by decide), if_neg (by decide), if_neg (by decide), f_X2_perform_J112, inR (by omega), kbs rfl, inR (by omega), kbs rfl, f_X2_compute, if_neg (by decide), if_neg (by decide), if_neg (by decide), kbs rfl, setR (by omega), kbs rfl, e2, e3]
      exact ⟨_, _, _, _, _, _, rfl, rfl, upd_eq h1, h2, h3⟩
  · have e2 := h1 r2 (by omega)
    rw [k] at hδ ⊢
    rw [if_neg (by decide)] at hδ
    subst hδ
    rw [x2, if_neg (by decide), if_neg (by decide), if_neg (by decide), if_neg (by decide), if_neg (by decide), if_pos rfl, rdc_N (by omega) (by omega), rdc_N (by omega) (by omega), nI_clamp (by omega), nI_clamp (by omega), f_X2_perform, if_neg (by decide), if_pos rfl, inR (by omega), kbs rfl, setR (by omega), kbs rfl, e2]
    exact ⟨_, _, _, _, _, _, rfl, rfl, upd_eq h1, h2, h3⟩
  · rcases k with k | k
    · have e2 := h2 s2 hs2
      rw [k] at hδ ⊢
      rw [if_neg (by decide)] at hδ
      subst hδ
      rw [x2, if_neg (by decide), if_neg (by decide), if_neg (by decide), if_neg (by decide), if_neg (by decide), if_neg (by decide), if_neg (by decide), if_pos rfl, rdc_N (by omega) (by omega), rdc_N (by omega) (by omega), nI_clamp (by omega), nI_clamp (by omega), f_X2_perform, if_neg (by decide), if_neg (by decide), if_neg (by decide), if_pos rfl, inSl (by omega), kbs rfl, setR (by omega), kbs rfl, e2]
      exact ⟨_, _, _, _, _, _, rfl, rfl, upd_eq h1, h2, h3⟩
    · have e2 := h1 r (by omega)
      rw [k] at hδ ⊢
      rw [if_neg (by decide)] at hδ
      subst hδ
      rw [x2, if_neg (by decide), if_neg (by decide), if_neg (by decide), if_neg (by decide), if_neg (by decide), if_neg (by decide), if_neg (by decide), if_neg (by decide), rdc_N (by omega) (by omega), rdc_N (by omega) (by omega), nI_clamp (by omega), nI_clamp (by omega), f_X2_perform, if_neg (by decide), if_neg (by decide), if_neg (by decide), if_neg (by decide), if_pos rfl, inR (by omega), kbs rfl, setSl (by omega), kbs rfl, e2]
      exact ⟨_, _, _, _, _, _, rfl, rfl, h1, upd_eq h2, h3⟩
