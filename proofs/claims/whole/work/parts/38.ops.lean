/-! ===== pressure ===== -/
theorem pr_L {n j : Nat} {kC fC sC iC cC kM aM bM cM : Nat → Int32} (hc : CR n kC fC sC iC cC kM aM bM cM) (hj : j < n) : ∀ (d i f1 f2 : Nat) (acc : Int32), j + 1 - i = d → i ≤ j + 1 → d < f1 → d < f2 →
    ∃ y, f_X1_aliveBehind_L14 fC sC cC (nI n) (nI j) f1 (nI i) acc = some y ∧ f_X5_pressure_L27 (nI n) kM aM bM (nI j) cM f2 (nI i) acc = some y := by
  have hn := hc.1.1
  intro d
  induction d with
  | zero =>
    intro i f1 f2 acc hd hi h1 h2
    obtain ⟨m1, rfl, g1⟩ := fuel_s h1
    obtain ⟨m2, rfl, g2⟩ := fuel_s h2
    have e : i = j + 1 := by omega
    subst e
    exact ⟨acc, by rw [f_X1_aliveBehind_L14, if_pos (nI_lt (by omega) (by omega))], by rw [f_X5_pressure_L27, if_pos (nI_lt (by omega) (by omega))]⟩
  | succ d ih =>
    intro i f1 f2 acc hd hi h1 h2
    obtain ⟨m1, rfl, g1⟩ := fuel_s h1
    obtain ⟨m2, rfl, g2⟩ := fuel_s h2
    have hij : i ≤ j := by omega
    rw [f_X1_aliveBehind_L14, f_X5_pressure_L27, if_neg (nI_nlt hij (by omega)), if_neg (nI_nlt hij (by omega)), nI_1, nI_1, firstUse_in hn (show i < n by omega), kbs rfl, useFrom_ok hn, kbs rfl, hc.nuM (by omega)]
    by_cases g : nu (usC fC sC cC (nI i)) n (frN (nI (j + 1))) = -1
    · rw [if_pos g, if_pos g, Int32.add_zero]
      exact ih (i + 1) m1 m2 acc (by omega) (by omega) (by omega) (by omega)
    · rw [if_neg g, if_neg g]
      exact ih (i + 1) m1 m2 (acc + 1) (by omega) (by omega) (by omega) (by omega)
/-! ===== rows of the allocation, asked for ===== -/
theorem nin_ok {a N : Nat} {f : Nat → Int32} (ha : 4 * a ≤ N) (hN : N < 2 ^ 20) (p1 p2 : Int32) :
    (∃ r w, r < a ∧ w < 4 ∧ p1 = nI r ∧ p2 = nI w ∧ f_X4_numberIn p1 p2 N f (nI a) = some (f (4 * r + w)) ∧ e_X4_numberIn p1 p2 N f (nI a) = none) ∨
    ((p1 < 0 ∨ nI a ≤ p1 ∨ p2 < 0 ∨ 3 < p2) ∧ e_X4_numberIn p1 p2 N f (nI a) = some 0) := by
  by_cases k1 : p1 < 0
  · exact Or.inr ⟨Or.inl k1, by rw [e_X4_numberIn, f_X3_has, if_pos k1, kbs rfl, if_pos rfl]⟩
  · by_cases k2 : nI a ≤ p1
    · exact Or.inr ⟨Or.inr (Or.inl k2), by rw [e_X4_numberIn, f_X3_has, if_neg k1, if_pos k2, kbs rfl, if_pos rfl]⟩
    · by_cases k3 : p2 < 0
      · exact Or.inr ⟨Or.inr (Or.inr (Or.inl k3)), by rw [e_X4_numberIn, f_X3_has, if_neg k1, if_neg k2, if_pos k3, kbs rfl, if_pos rfl]⟩
      · obtain ⟨r, hr, rfl⟩ := nI_of k1
        obtain ⟨w, hw, rfl⟩ := nI_of k3
        have hra : r < a := by
          rcases Nat.lt_or_ge r a with q | q
          · exact q
          · exact absurd (nI_le q hr) k2
        by_cases k4 : (4 : Int32) ≤ nI w
        · refine Or.inr ⟨Or.inr (Or.inr (Or.inr ?_)), by rw [e_X4_numberIn, f_X3_has, if_neg k1, if_neg k2, if_neg k3, if_pos k4, kbs rfl, if_pos rfl]⟩
          have := (nI_leI (a := 4) (by omega) hw).mp k4
          exact nI_lt (a := 3) (by omega) hw
        · have hw4 : w < 4 := by
            rcases Nat.lt_or_ge w 4 with q | q
            · exact q
            · exact absurd (nI_le (a := 4) q hw) k4
          refine Or.inl ⟨r, w, hra, hw4, rfl, rfl, ?_, ?_⟩
          · rw [f_X4_numberIn, rHas hra hw4 (by omega), kbs rfl, if_neg (by decide), at_ok hra hw4 ha hN, kbs rfl]
          · rw [e_X4_numberIn, rHas hra hw4 (by omega), kbs rfl, if_neg (by decide), at_ok hra hw4 ha hN, kbs rfl]
theorem i3 {w : Nat} (h : w < 4) : ¬ (3 : Int32) < nI w := nI_nlt (a := 3) (b := w) (by omega) (by omega)
theorem stM_bad {p1 p2 made st : Int32} {sP : Nat → Int32} (h : made = 1) (hb : p1 < 0 ∨ st ≤ p1 ∨ p2 < 0 ∨ 3 < p2) : f_X5_step p1 p2 made st sP = some (0, 2) := by
  subst h
  rw [f_X5_step, if_neg (by decide)]
  by_cases k1 : p1 < 0
  · rw [if_pos k1, f_X5_fail, kbs rfl]
  · by_cases k2 : st ≤ p1
    · rw [if_neg k1, if_pos k2, f_X5_fail, kbs rfl]
    · by_cases k3 : p2 < 0
      · rw [if_neg k1, if_neg k2, if_pos k3, f_X5_fail, kbs rfl]
      · have k4 : 3 < p2 := by rcases hb with z | z | z | z <;> first | exact absurd z k1 | exact absurd z k2 | exact absurd z k3 | exact z
        rw [if_neg k1, if_neg k2, if_neg k3, if_pos k4, f_X5_fail, kbs rfl]
theorem pcM_bad {p1 p2 made st : Int32} {sP : Nat → Int32} (h : made = 1) (hb : p1 < 0 ∨ st ≤ p1 ∨ p2 < 0 ∨ 3 < p2) : f_X5_piece p1 p2 made st sP = some (0, 2) := by
  subst h
  rw [f_X5_piece, if_neg (by decide)]
  by_cases k1 : p1 < 0
  · rw [if_pos k1, f_X5_fail, kbs rfl]
  · by_cases k2 : st ≤ p1
    · rw [if_neg k1, if_pos k2, f_X5_fail, kbs rfl]
    · by_cases k3 : p2 < 0
      · rw [if_neg k1, if_neg k2, if_pos k3, f_X5_fail, kbs rfl]
      · have k4 : 3 < p2 := by rcases hb with z | z | z | z <;> first | exact absurd z k1 | exact absurd z k2 | exact absurd z k3 | exact z
        rw [if_neg k1, if_neg k2, if_neg k3, if_pos k4, f_X5_fail, kbs rfl]
theorem stM_ok {r w a : Nat} {made : Int32} {sP : Nat → Int32} (h : made = 1) (hr : r < a) (hw : w < 4) (ha : a ≤ 240) : f_X5_step (nI r) (nI w) made (nI a) sP = some (sP (4 * r + w), 0) := by
  subst h
  rw [f_X5_step, if_neg (by decide), if_neg (nI_pos (by omega)), if_neg (nI_ge hr (by omega)), if_neg (nI_pos (by omega)), if_neg (i3 hw), mul4, nI_add, rdc_N (by omega) (by omega), nI_clamp (by omega)]
theorem pcM_ok {r w a : Nat} {made : Int32} {sP : Nat → Int32} (h : made = 1) (hr : r < a) (hw : w < 4) (ha : a ≤ 240) : f_X5_piece (nI r) (nI w) made (nI a) sP = some (sP (4 * r + w), 0) := by
  subst h
  rw [f_X5_piece, if_neg (by decide), if_neg (nI_pos (by omega)), if_neg (nI_ge hr (by omega)), if_neg (nI_pos (by omega)), if_neg (i3 hw), mul4, nI_add, rdc_N (by omega) (by omega), nI_clamp (by omega)]
theorem at0_ok {q b N : Nat} {f : Nat → Int32} (hq : q < b) (hN : 4 * b ≤ N) (hb : N < 2 ^ 20) : f_X3_at (nI q) 0 N f (nI b) = some (f (4 * q)) := by
  have h := at_ok (w := 0) (f := f) hq (by omega) hN hb
  rw [nI_0] at h
  exact h
theorem cf_L {a N : Nat} {f : Nat → Int32} {p : Int32} (ha : 4 * a ≤ N) (hN : N < 2 ^ 20) : ∀ (d i fuel : Nat), a - i = d → i ≤ a → d < fuel → f_X3_countOfFirst_L4 N f (nI a) p fuel (nI i) (nI (cK p f i)) = some (nI (cK p f a)) := by
  intro d
  induction d with
  | zero =>
    intro i fuel hd hi hf
    obtain ⟨m, rfl, hm⟩ := fuel_s hf
    have e : i = a := by omega
    subst e
    rw [f_X3_countOfFirst_L4, if_pos (nI_le (Nat.le_refl i) (by omega))]
  | succ d ih =>
    intro i fuel hd hi hf
    obtain ⟨m, rfl, hm⟩ := fuel_s hf
    have hia : i < a := by omega
    rw [f_X3_countOfFirst_L4, if_neg (nI_ge hia (by omega)), at0_ok hia ha hN, kbs rfl, nI_1, nI_1]
    have h := ih (i + 1) m (by omega) (by omega) (by omega)
    rw [cK] at h
    by_cases g : f (4 * i) = p
    · rw [if_pos g]; rw [if_pos g] at h; exact h
    · rw [if_neg g]; rw [if_neg g] at h; exact h
theorem cf_ok {a N : Nat} {f : Nat → Int32} {p : Int32} (ha : 4 * a ≤ N) (hN : N < 4000) : f_X3_countOfFirst p N f (nI a) = some (nI (cK p f a)) := by
  have h := cf_L (f := f) (p := p) ha (by omega) a 0 4000 (by omega) (by omega) (by omega)
  rw [nI_0, cK, nI_0] at h
  rw [f_X3_countOfFirst, h, kbs rfl]
theorem so_L {a : Nat} {f : Nat → Int32} {p : Int32} (ha : a ≤ 240) : ∀ (d i fuel : Nat), a - i = d → i ≤ a → d < fuel → f_X5_stepsOf_L4 (nI a) f p fuel (nI i) (nI (cK p f i)) = some (nI (cK p f a)) := by
  intro d
  induction d with
  | zero =>
    intro i fuel hd hi hf
    obtain ⟨m, rfl, hm⟩ := fuel_s hf
    have e : i = a := by omega
    subst e
    rw [f_X5_stepsOf_L4, if_pos (nI_le (Nat.le_refl i) (by omega))]
  | succ d ih =>
    intro i fuel hd hi hf
    obtain ⟨m, rfl, hm⟩ := fuel_s hf
    have hia : i < a := by omega
    rw [f_X5_stepsOf_L4, if_neg (nI_ge hia (by omega)), mul4, rdc_N (by omega) (by omega), nI_clamp (by omega), nI_1, nI_1, Int32.add_zero]
    have h := ih (i + 1) m (by omega) (by omega) (by omega)
    rw [cK] at h
    by_cases g : f (4 * i) = p
    · rw [if_pos g]; rw [if_pos g] at h; exact h
    · rw [if_neg g]; rw [if_neg g] at h; exact h
theorem so_ok {a : Nat} {f : Nat → Int32} {p : Int32} (ha : a ≤ 240) : f_X5_stepsOf p (nI a) f = some (nI (cK p f a)) := by
  have h := so_L (f := f) (p := p) ha a 0 4000 (by omega) (by omega) (by omega)
  rw [nI_0, cK, nI_0] at h
  rw [f_X5_stepsOf, h, kbs rfl]
theorem us_ok {a : Nat} {f : Nat → Int32} (ha : a ≤ 240) : f_X0_usesSlots f (nI a) = some (if cK 7 f a = 0 ∧ cK 8 f a = 0 then 0 else 1) := by
  have h7 := cK_le (κ := 7) (f := f) a
  have h8 := cK_le (κ := 8) (f := f) a
  rw [f_X0_usesSlots, cf_ok (by omega) (by omega), kbs rfl, cf_ok (by omega) (by omega), kbs rfl]
  by_cases g7 : cK 7 f a = 0
  · rw [g7, if_neg (show ¬ (0 : Int32) < nI 0 by decide)]
    by_cases g8 : cK 8 f a = 0
    · rw [g8, if_pos (show nI 0 ≤ 0 by decide), if_pos ⟨rfl, rfl⟩]
    · rw [if_neg (nI_nle (by omega) (by omega)), if_neg (fun z => g8 z.2)]
  · rw [if_pos (show (0 : Int32) < nI (cK 7 f a) from nI_lt (a := 0) (by omega) (by omega)), if_neg (fun z => g7 z.1)]
section CALLS2
variable (l : Launch) (D : va_G) (cyI cyZ : ClassId) (qa qb : Nat → Nat) {S : ZS} {M : ZM}
theorem op_pressure (hst : l.stackTraces = false) (h : REL S M) (p1 : Int32) : OPI l D cyI cyZ qa qb yX4_pressure wsX4_pressure rmX4_pressure rxX4_pressure yX5_pressure wsX5_pressure rmX5_pressure [.int p1] 0 0 cdI S M := by
  obtain ⟨n, R, q, hR, ⟨eS, eM, eR, eR', eq, eq'⟩, hc, ho, hz, hm, ha⟩ := id h
  have hn := hc.1.1
  rcases ni_ok hn p1 with ⟨a1, a2, a3, a4, j, hj, rfl⟩ | ⟨a1, a2, a3⟩
  · obtain ⟨cM, e1, hcr⟩ := hc.count M.cn
    obtain ⟨y, k1, k2⟩ := pr_L hcr hj (j + 1) 0 4000 4000 0 (by omega) (by omega) (by omega) (by omega)
    rw [nI_0] at k1 k2
    have f1 : f_X4_pressure (nI j) S.f S.s S.c S.n = some y := by rw [eS, f_X4_pressure, a1, kbs rfl, f_X1_aliveBehind, a3, kbs rfl, if_neg (by decide), k1, kbs rfl, kbs rfl]
    have f2 : f_X5_pressure (nI j) M.n M.k M.a M.b M.cn = some (y, 0, cM) := by
      rw [eM, f_X5_pressure, a4, kbs rfl, if_neg (by decide), e1, kbs rfl, k2, kbs rfl]
    exact Or.inl ⟨_, _, _, m4_pressure l D cyI cyZ qa S _ _ f1, m5_pressure l D cyI cyZ qb M _ _ f2, rfl, h.thc 0 cM⟩
  · have f1 : e_X4_pressure p1 S.f S.s S.c S.n = some 0 := by rw [eS, e_X4_pressure, thr_1 a2]
    have f2 : f_X5_pressure p1 M.n M.k M.a M.b M.cn = some (0, 1, M.cn) := by rw [eM, f_X5_pressure, a3, kbs rfl, if_pos rfl, f_X5_fail, kbs rfl]
    exact Or.inr ⟨_, 0, _, x4_pressure l hst D cyI cyZ qa S p1 _ f1, m5_pressure l D cyI cyZ qb M p1 _ f2, rfl, one0, h.th 1⟩
theorem op_allocate (h : REL S M) : OPD l D cyI cyZ qa qb yX4_allocate wsX4_allocate rmX4_allocate yX5_allocate wsX5_allocate rmX5_allocate [] S M := by
  obtain ⟨n, R, q, ⟨hR2, hR, hq⟩, ⟨eS, eM, eR, eR', eq, eq'⟩, hc, ho, ⟨z1, z2, z3⟩, hm, ha⟩ := id h
  obtain ⟨a, b, sN1, pN1, stP1, pcP1, cM, vI1, rO1, sO1, pO1, pO2, up1, sT1, sc, e1, e2, g1, g2, g3, g4, g5, g6, g7⟩ := make_ok hR2 hR hc S.P.sN S.P.pN S.P.vI S.P.rO S.P.sO S.P.pO S.P.up S.P.sT M.sP M.pP M.cn M.rO M.sO M.pO M.hB M.iT z1 z3
  have f1 : f_X4_allocate S.k S.f S.s S.i S.c S.n S.P.sN S.P.pN S.P.vI S.P.rO S.P.sO S.P.pO S.P.up S.P.sT S.R = some (nI a, sN1, nI a, pN1, nI b, vI1, rO1, sO1, pO1, up1, sT1, nI R, sc, 1) := by rw [eS, eR, f_X4_allocate, e1, kbs rfl, f_X3_length, kbs rfl]
  have f2 : f_X5_allocate M.n M.k M.a M.b M.R M.sP M.pP M.cn M.rO M.sO M.pO M.hB M.iT = some (nI a, 0, 1, nI a, stP1, nI b, pcP1, sc, cM, rO1, sO1, pO2, vI1, sT1) := by rw [eM, eR', f_X5_allocate, e2, kbs rfl]
  exact ⟨_, _, _, m4_allocate l D cyI cyZ qa S _ f1, m5_allocate l D cyI cyZ qb M _ f2, n, R, q, ⟨hR2, hR, hq⟩, ⟨eS, eM, eR, eR', eq, eq'⟩, hc, ho, ⟨g7, z2, g7⟩, rfl, Or.inr ⟨rfl, a, b, ⟨rfl, rfl, rfl, rfl, rfl⟩, ⟨g1, g2, g3, g4, g5, g6⟩, _, _, _, _, _, _, _, _, z1, e1⟩⟩
theorem op_isAllocated (h : REL S M) : OPD l D cyI cyZ qa qb yX4_isAllocated wsX4_isAllocated rmX4_isAllocated yX5_isAllocated wsX5_isAllocated rmX5_isAllocated [] S M := by
  obtain ⟨n, R, q, hR, ⟨eS, eM, eR, eR', eq, eq'⟩, hc, ho, hz, hm, ha⟩ := id h
  have h01 : S.al = 0 ∨ S.al = 1 := ha.elim Or.inl (fun z => Or.inr z.1)
  have f1 : f_X4_isAllocated S.al = some S.al := by rw [f_X4_isAllocated, zck_in h01]
  have f2 : f_X5_isAllocated M.made = some (S.al, 0) := by rw [hm, f_X5_isAllocated, zck_in h01]
  exact ⟨_, _, _, m4_isAllocated l D cyI cyZ qa S _ f1, m5_isAllocated l D cyI cyZ qb M _ f2, h.th 0⟩
theorem op_step (hst : l.stackTraces = false) (h : REL S M) (p1 p2 : Int32) : OPI l D cyI cyZ qa qb yX4_step wsX4_step rmX4_step rxX4_step yX5_step wsX5_step rmX5_step [.int p1, .int p2] 0 0 cdSI S M := by
  obtain ⟨n, R, q, hR, ⟨eS, eM, eR, eR', eq, eq'⟩, hc, ho, hz, hm, ha⟩ := id h
  rcases ha with a0 | ⟨a1, a, b, ⟨b1, b2, b3, b4, b5⟩, ⟨g1, g2, g3, g4, g5, g6⟩, -⟩
  · have f1 : e_X4_step p1 p2 S.P.sN S.P.a S.al = some 2 := by rw [e_X4_step, thr_1 (na_no a0).2]
    have f2 : f_X5_step p1 p2 M.made M.st M.sP = some (0, 1) := by rw [f_X5_step, if_pos (hm.trans a0), f_X5_fail, kbs rfl]
    exact Or.inr ⟨_, 2, _, x4_step l hst D cyI cyZ qa S p1 p2 _ f1, m5_step l D cyI cyZ qb M p1 p2 _ f2, rfl, one0, h.th 1⟩
  · rcases nin_ok (a := a) (N := 960) (f := S.P.sN) (by omega) (by omega) p1 p2 with ⟨r, w, hr, hw, rfl, rfl, k1, k2⟩ | ⟨k1, k2⟩
    · have f1 : f_X4_step (nI r) (nI w) S.P.sN S.P.a S.al = some (S.P.sN (4 * r + w)) := by rw [f_X4_step, (na_yes a1).1, kbs rfl, b1, k1, kbs rfl]
      have f2 : f_X5_step (nI r) (nI w) M.made M.st M.sP = some (S.P.sN (4 * r + w), 0) := by rw [b3, stM_ok (hm.trans a1) hr hw g1, g3 _ (by omega)]
      exact Or.inl ⟨_, _, _, m4_step l D cyI cyZ qa S _ _ _ f1, m5_step l D cyI cyZ qb M _ _ _ f2, rfl, h.th 0⟩
    · have f1 : e_X4_step p1 p2 S.P.sN S.P.a S.al = some 0 := by rw [e_X4_step, thr_0 (na_yes a1).2, (na_yes a1).1, kbs rfl, b1, thr_1 k2]
      have f2 : f_X5_step p1 p2 M.made M.st M.sP = some (0, 2) := stM_bad (hm.trans a1) (by rw [b3]; exact k1)
      exact Or.inr ⟨_, 0, _, x4_step l hst D cyI cyZ qa S p1 p2 _ f1, m5_step l D cyI cyZ qb M p1 p2 _ f2, rfl, two0, h.th 2⟩
theorem op_piece (hst : l.stackTraces = false) (h : REL S M) (p1 p2 : Int32) : OPI l D cyI cyZ qa qb yX4_piece wsX4_piece rmX4_piece rxX4_piece yX5_piece wsX5_piece rmX5_piece [.int p1, .int p2] 0 0 cdSI S M := by
  obtain ⟨n, R, q, hR, ⟨eS, eM, eR, eR', eq, eq'⟩, hc, ho, hz, hm, ha⟩ := id h
  rcases ha with a0 | ⟨a1, a, b, ⟨b1, b2, b3, b4, b5⟩, ⟨g1, g2, g3, g4, g5, g6⟩, -⟩
  · have f1 : e_X4_piece p1 p2 S.P.pN S.P.b S.al = some 2 := by rw [e_X4_piece, thr_1 (na_no a0).2]
    have f2 : f_X5_piece p1 p2 M.made M.pc M.pP = some (0, 1) := by rw [f_X5_piece, if_pos (hm.trans a0), f_X5_fail, kbs rfl]
    exact Or.inr ⟨_, 2, _, x4_piece l hst D cyI cyZ qa S p1 p2 _ f1, m5_piece l D cyI cyZ qb M p1 p2 _ f2, rfl, one0, h.th 1⟩
  · rcases nin_ok (a := b) (N := 720) (f := S.P.pN) (by omega) (by omega) p1 p2 with ⟨r, w, hr, hw, rfl, rfl, k1, k2⟩ | ⟨k1, k2⟩
    · have f1 : f_X4_piece (nI r) (nI w) S.P.pN S.P.b S.al = some (S.P.pN (4 * r + w)) := by rw [f_X4_piece, (na_yes a1).1, kbs rfl, b2, k1, kbs rfl]
      have f2 : f_X5_piece (nI r) (nI w) M.made M.pc M.pP = some (S.P.pN (4 * r + w), 0) := by rw [b4, pcM_ok (hm.trans a1) hr hw (by omega), g4 _ (by omega)]
      exact Or.inl ⟨_, _, _, m4_piece l D cyI cyZ qa S _ _ _ f1, m5_piece l D cyI cyZ qb M _ _ _ f2, rfl, h.th 0⟩
    · have f1 : e_X4_piece p1 p2 S.P.pN S.P.b S.al = some 0 := by rw [e_X4_piece, thr_0 (na_yes a1).2, (na_yes a1).1, kbs rfl, b2, thr_1 k2]
      have f2 : f_X5_piece p1 p2 M.made M.pc M.pP = some (0, 2) := pcM_bad (hm.trans a1) (by rw [b4]; exact k1)
      exact Or.inr ⟨_, 0, _, x4_piece l hst D cyI cyZ qa S p1 p2 _ f1, m5_piece l D cyI cyZ qb M p1 p2 _ f2, rfl, two0, h.th 2⟩
theorem op_stepCount (hst : l.stackTraces = false) (h : REL S M) (p1 : Int32) : OPI l D cyI cyZ qa qb yX4_stepCount wsX4_stepCount rmX4_stepCount rxX4_stepCount yX5_stepCount wsX5_stepCount rmX5_stepCount [.int p1] 0 0 cdSI S M := by
  obtain ⟨n, R, q, hR, ⟨eS, eM, eR, eR', eq, eq'⟩, hc, ho, hz, hm, ha⟩ := id h
  rcases ha with a0 | ⟨a1, a, b, ⟨b1, b2, b3, b4, b5⟩, ⟨g1, g2, g3, g4, g5, g6⟩, -⟩
  · have f1 : e_X4_stepCount p1 S.P.sN S.P.a S.al = some 2 := by rw [e_X4_stepCount, thr_1 (na_no a0).2]
    have f2 : f_X5_stepCount p1 M.made M.st M.sP = some (0, 1) := by rw [f_X5_stepCount, if_pos (hm.trans a0), f_X5_fail, kbs rfl]
    exact Or.inr ⟨_, 2, _, x4_stepCount l hst D cyI cyZ qa S p1 _ f1, m5_stepCount l D cyI cyZ qb M p1 _ f2, rfl, one0, h.th 1⟩
  · have hm1 : ¬ M.made = 0 := by rw [hm, a1]; decide
    have bad : e_X4_stepCount p1 S.P.sN S.P.a S.al = some 0 → f_X5_stepCount p1 M.made M.st M.sP = some (0, 2) → OPI l D cyI cyZ qa qb yX4_stepCount wsX4_stepCount rmX4_stepCount rxX4_stepCount yX5_stepCount wsX5_stepCount rmX5_stepCount [.int p1] 0 0 cdSI S M :=
      fun f1 f2 => Or.inr ⟨_, 0, _, x4_stepCount l hst D cyI cyZ qa S p1 _ f1, m5_stepCount l D cyI cyZ qb M p1 _ f2, rfl, two0, h.th 2⟩
    by_cases k1 : p1 < 0
    · exact bad (by rw [e_X4_stepCount, thr_0 (na_yes a1).2, (na_yes a1).1, kbs rfl, if_pos k1]) (by rw [f_X5_stepCount, if_neg hm1, if_pos k1, f_X5_fail, kbs rfl])
    · obtain ⟨p, hp, rfl⟩ := nI_of k1
      by_cases k2 : nI p ≤ 8
      · have k3 : ¬ (8 : Int32) < nI p := nI_nlt (a := 8) ((nI_leI (b := 8) hp (by omega)).mp k2) (by omega)
        have f1 : f_X4_stepCount (nI p) S.P.sN S.P.a S.al = some (nI (cK (nI p) S.P.sN a)) := by rw [f_X4_stepCount, (na_yes a1).1, kbs rfl, if_neg k1, if_pos k2, b1, cf_ok (by omega) (by omega), kbs rfl]
        have f2 : f_X5_stepCount (nI p) M.made M.st M.sP = some (nI (cK (nI p) S.P.sN a), 0) := by rw [f_X5_stepCount, if_neg hm1, if_neg k1, if_neg k3, b3, so_ok g1, kbs rfl, cK_cong g3]
        exact Or.inl ⟨_, _, _, m4_stepCount l D cyI cyZ qa S _ _ f1, m5_stepCount l D cyI cyZ qb M _ _ f2, rfl, h.th 0⟩
      · have k3 : (8 : Int32) < nI p := by
          rcases Nat.lt_or_ge 8 p with z | z
          · exact nI_lt (a := 8) z hp
          · exact absurd (nI_le (b := 8) z (by omega)) k2
        exact bad (by rw [e_X4_stepCount, thr_0 (na_yes a1).2, (na_yes a1).1, kbs rfl, if_neg k1, if_neg k2]) (by rw [f_X5_stepCount, if_neg hm1, if_neg k1, if_pos k3, f_X5_fail, kbs rfl])
theorem op_slots (hst : l.stackTraces = false) (h : REL S M) : OPI l D cyI cyZ qa qb yX4_slots wsX4_slots rmX4_slots rxX4_slots yX5_slots wsX5_slots rmX5_slots [] 0 0 cdS S M := by
  obtain ⟨n, R, q, hR, ⟨eS, eM, eR, eR', eq, eq'⟩, hc, ho, hz, hm, ha⟩ := id h
  rcases ha with a0 | ⟨a1, a, b, ⟨b1, b2, b3, b4, b5⟩, -⟩
  · have f1 : e_X4_slots S.P.sc S.al = some 2 := by rw [e_X4_slots, thr_1 (na_no a0).2]
    have f2 : f_X5_slots M.made M.sl = some (0, 1) := by rw [f_X5_slots, if_pos (hm.trans a0), f_X5_fail, kbs rfl]
    exact Or.inr ⟨_, 2, _, x4_slots l hst D cyI cyZ qa S _ f1, m5_slots l D cyI cyZ qb M _ f2, rfl, one0, h.th 1⟩
  · have f1 : f_X4_slots S.P.sc S.al = some S.P.sc := by rw [f_X4_slots, (na_yes a1).1, kbs rfl, f_X0_slotCount, kbs rfl]
    have f2 : f_X5_slots M.made M.sl = some (S.P.sc, 0) := by rw [f_X5_slots, if_neg (by rw [hm, a1]; decide), b5]
    exact Or.inl ⟨_, _, _, m4_slots l D cyI cyZ qa S _ f1, m5_slots l D cyI cyZ qb M _ f2, rfl, h.th 0⟩
theorem op_pieceCount (hst : l.stackTraces = false) (h : REL S M) : OPI l D cyI cyZ qa qb yX4_pieceCount wsX4_pieceCount rmX4_pieceCount rxX4_pieceCount yX5_pieceCount wsX5_pieceCount rmX5_pieceCount [] 0 0 cdS S M := by
  obtain ⟨n, R, q, hR, ⟨eS, eM, eR, eR', eq, eq'⟩, hc, ho, hz, hm, ha⟩ := id h
  rcases ha with a0 | ⟨a1, a, b, ⟨b1, b2, b3, b4, b5⟩, -⟩
  · have f1 : e_X4_pieceCount S.P.b S.al = some 2 := by rw [e_X4_pieceCount, thr_1 (na_no a0).2]
    have f2 : f_X5_pieceCount M.made M.pc = some (0, 1) := by rw [f_X5_pieceCount, if_pos (hm.trans a0), f_X5_fail, kbs rfl]
    exact Or.inr ⟨_, 2, _, x4_pieceCount l hst D cyI cyZ qa S _ f1, m5_pieceCount l D cyI cyZ qb M _ f2, rfl, one0, h.th 1⟩
  · have f1 : f_X4_pieceCount S.P.b S.al = some (nI b) := by rw [f_X4_pieceCount, (na_yes a1).1, kbs rfl, f_X3_length, kbs rfl, b2]
    have f2 : f_X5_pieceCount M.made M.pc = some (nI b, 0) := by rw [f_X5_pieceCount, if_neg (by rw [hm, a1]; decide), b4]
    exact Or.inl ⟨_, _, _, m4_pieceCount l D cyI cyZ qa S _ f1, m5_pieceCount l D cyI cyZ qb M _ f2, rfl, h.th 0⟩
theorem op_output (hst : l.stackTraces = false) (h : REL S M) (p1 : Int32) : OPI l D cyI cyZ qa qb yX4_output wsX4_output rmX4_output rxX4_output yX5_output wsX5_output rmX5_output [.int p1] 0 0 cdI S M := by
  obtain ⟨n, R, q, ⟨hR2, hR, hq⟩, ⟨eS, eM, eR, eR', eq, eq'⟩, hc, ho, hz, hm, ha⟩ := id h
  have bad : e_X4_output p1 S.mo S.mc = some 0 → f_X5_output p1 M.ou M.out = some (0, 1) → OPI l D cyI cyZ qa qb yX4_output wsX4_output rmX4_output rxX4_output yX5_output wsX5_output rmX5_output [.int p1] 0 0 cdI S M :=
    fun f1 f2 => Or.inr ⟨_, 0, _, x4_output l hst D cyI cyZ qa S p1 _ f1, m5_output l D cyI cyZ qb M p1 _ f2, rfl, one0, h.th 1⟩
  by_cases k1 : p1 < 0
  · exact bad (by rw [e_X4_output, if_pos k1]) (by rw [f_X5_output, if_pos k1, f_X5_fail, kbs rfl])
  · obtain ⟨p, hp, rfl⟩ := nI_of k1
    rcases Nat.lt_or_ge p q with g | g
    · have f1 : f_X4_output (nI p) S.mo S.mc = some (S.mo p) := by
        rw [eq, f_X4_output, if_neg k1, f_X2_outputCount, kbs rfl, if_pos (nI_lt g (by omega)), f_X2_outputAt, if_neg k1, if_neg (nI_ge g (by omega)), rdc_N (by omega) (by omega), nI_clamp hp, kbs rfl]
      have f2 : f_X5_output (nI p) M.ou M.out = some (S.mo p, 0) := by rw [eq', f_X5_output, if_neg k1, if_neg (nI_ge g (by omega)), rdc_N (by omega) (by omega), nI_clamp hp, ho p g]
      exact Or.inl ⟨_, _, _, m4_output l D cyI cyZ qa S _ _ f1, m5_output l D cyI cyZ qb M _ _ f2, rfl, h.th 0⟩
    · exact bad (by rw [eq, e_X4_output, if_neg k1, f_X2_outputCount, kbs rfl, if_neg (nI_nlt g hp)]) (by rw [eq', f_X5_output, if_neg k1, if_pos (nI_le g hp), f_X5_fail, kbs rfl])
end CALLS2
