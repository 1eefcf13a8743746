/-! ===== run, the whole of it ===== -/
theorem cK_mono {κ : Int32} {f : Nat → Int32} : ∀ {a i : Nat}, i ≤ a → cK κ f i ≤ cK κ f a
  | 0, i, h => by rw [show i = 0 by omega]; exact Nat.le_refl _
  | a + 1, i, h => by
    rcases Nat.lt_or_ge a i with q | q
    · rw [show i = a + 1 by omega]; exact Nat.le_refl _
    · have := cK_mono (κ := κ) (f := f) (a := a) (i := i) q
      rw [cK]; omega
theorem at1_ok {q b N : Nat} {f : Nat → Int32} (hq : q < b) (hN : 4 * b ≤ N) (hb : N < 2 ^ 20) : f_X3_at (nI q) 1 N f (nI b) = some (f (4 * q + 1)) := by
  have h := at_ok (w := 1) (f := f) hq (by omega) hN hb
  rw [show nI 1 = 1 by decide +kernel] at h
  exact h
theorem at2_ok {q b N : Nat} {f : Nat → Int32} (hq : q < b) (hN : 4 * b ≤ N) (hb : N < 2 ^ 20) : f_X3_at (nI q) 2 N f (nI b) = some (f (4 * q + 2)) := by
  have h := at_ok (w := 2) (f := f) hq (by omega) hN hb
  rw [show nI 2 = 2 by decide +kernel] at h
  exact h
theorem at3_ok {q b N : Nat} {f : Nat → Int32} (hq : q < b) (hN : 4 * b ≤ N) (hb : N < 2 ^ 20) : f_X3_at (nI q) 3 N f (nI b) = some (f (4 * q + 3)) := by
  have h := at_ok (w := 3) (f := f) hq (by omega) hN hb
  rw [show nI 3 = 3 by decide +kernel] at h
  exact h
theorem run_L {R a : Nat} {f g : Nat → Int32} (hR : R ≤ 8) (ha : a ≤ 240) (hS : StepOK R a f) (he : Eq4 a f g) (h6 : cK 6 f a ≤ 60) : ∀ (d i f1 f2 : Nat) (rg sl mo rg' sl' out : Nat → Int32), a - i = d → i ≤ a → d < f1 → d < f2 → RI (cK 6 f i) rg sl mo rg' sl' out →
    ∃ rg1 sl1 mo1 out1 rg2 sl2, f_X2_execute_L49 960 f (nI a) f1 (nI i) rg sl mo (nI (cK 6 f i)) = some (rg1, sl1, mo1, nI (cK 6 f a)) ∧ f_X5_run_L35 (nI a) g f2 (nI i) (nI (cK 6 f i)) out rg' sl' = some (nI (cK 6 f a), out1, rg2, sl2) ∧ ∀ j, j < cK 6 f a → mo1 j = out1 j := by
  intro d
  induction d with
  | zero =>
    intro i f1 f2 rg sl mo rg' sl' out hd hi g1 g2 h
    obtain ⟨m1, rfl, q1⟩ := fuel_s g1
    obtain ⟨m2, rfl, q2⟩ := fuel_s g2
    have e : i = a := by omega
    subst e
    rw [f_X2_execute_L49, f_X5_run_L35, f_X3_length, kbs rfl, if_pos (nI_le (Nat.le_refl i) (by omega)), if_pos (nI_le (Nat.le_refl i) (by omega))]
    exact ⟨rg, sl, mo, out, rg', sl', rfl, rfl, h.2.2⟩
  | succ d ih =>
    intro i f1 f2 rg sl mo rg' sl' out hd hi g1 g2 h
    obtain ⟨m1, rfl, q1⟩ := fuel_s g1
    obtain ⟨m2, rfl, q2⟩ := fuel_s g2
    have hia : i < a := by omega
    have hm := cK_mono (κ := 6) (f := f) (a := a) (i := i + 1) (by omega)
    have hs : cK 6 f (i + 1) = cK 6 f i + if f (4 * i) = 6 then 1 else 0 := rfl
    obtain ⟨rg1, sl1, mo1, rg2, sl2, out2, e1, e2, e3⟩ := run_step (m := m2) hR ha hia (hS i hia) he h (fun k => by rw [hs, if_pos k] at hm; omega) (by omega) rfl
    rw [← hs] at e1 e2 e3
    rw [f_X2_execute_L49, f_X3_length, kbs rfl, if_neg (nI_ge hia (by omega)), at0_ok hia (by omega) (by omega), kbs rfl, at1_ok hia (by omega) (by omega), kbs rfl, at2_ok hia (by omega) (by omega), kbs rfl, at3_ok hia (by omega) (by omega), kbs rfl, e1, kbs rfl, nI_1, e2]
    exact ih (i + 1) m1 m2 rg1 sl1 mo1 rg2 sl2 out2 (by omega) (by omega) (by omega) (by omega) e3
theorem z8_L : ∀ (d r fuel : Nat) (f : Nat → Int32), 8 - r = d → r ≤ 8 → d < fuel → (∀ j, j < r → f j = 0) → ∃ f', f_X2_execute_L2 fuel (nI r) f = some f' ∧ ∀ j, j < 8 → f' j = 0 := by
  intro d
  induction d with
  | zero =>
    intro r fuel f hd hr hf h1
    obtain ⟨m, rfl, hm⟩ := fuel_s hf
    rw [f_X2_execute_L2, if_pos (show (8 : Int32) ≤ nI r from nI_le (a := 8) (by omega) (by omega))]
    exact ⟨f, rfl, fun j hj => h1 j (by omega)⟩
  | succ d ih =>
    intro r fuel f hd hr hf h1
    obtain ⟨m, rfl, hm⟩ := fuel_s hf
    rw [f_X2_execute_L2, if_neg (show ¬ (8 : Int32) ≤ nI r from nI_ge (b := 8) (by omega) (by omega)), rdc_N (by omega) (by omega), nI_clamp (by omega), nI_1]
    refine ih (r + 1) m _ (by omega) (by omega) (by omega) (fun j hj => ?_)
    by_cases q : j = r
    · rw [q, pk_us]
    · rw [pk_un q]; exact h1 j (by omega)
theorem z60_L : ∀ (d r fuel : Nat) (f : Nat → Int32), 60 - r = d → r ≤ 60 → d < fuel → (∀ j, j < r → f j = 0) → ∃ f', f_X2_execute_L23 fuel (nI r) f = some f' ∧ ∀ j, j < 60 → f' j = 0 := by
  intro d
  induction d with
  | zero =>
    intro r fuel f hd hr hf h1
    obtain ⟨m, rfl, hm⟩ := fuel_s hf
    rw [f_X2_execute_L23, if_pos (show (60 : Int32) ≤ nI r from nI_le (a := 60) (by omega) (by omega))]
    exact ⟨f, rfl, fun j hj => h1 j (by omega)⟩
  | succ d ih =>
    intro r fuel f hd hr hf h1
    obtain ⟨m, rfl, hm⟩ := fuel_s hf
    rw [f_X2_execute_L23, if_neg (show ¬ (60 : Int32) ≤ nI r from nI_ge (b := 60) (by omega) (by omega)), rdc_N (by omega) (by omega), nI_clamp (by omega), nI_1]
    refine ih (r + 1) m _ (by omega) (by omega) (by omega) (fun j hj => ?_)
    by_cases q : j = r
    · rw [q, pk_us]
    · rw [pk_un q]; exact h1 j (by omega)
/-! ===== digest ===== -/
theorem mix_ok (x : Int64) (y : Int32) : f_X4_mix x y = some (x * 31 + y.toInt64) := rfl
theorem dgk_L {n : Nat} {kC kM : Nat → Int32} (hn : n ≤ 60) (hk : ∀ j, j < n → kM j = kC j) : ∀ (d i f1 f2 : Nat) (acc : Int64), n - i = d → i ≤ n → d < f1 → d < f2 →
    ∃ y, f_X4_digest_L25 kC (nI n) f1 (nI i) acc = some y ∧ f_X5_digest_L27 (nI n) kM f2 (nI i) acc = some y := by
  intro d
  induction d with
  | zero =>
    intro i f1 f2 acc hd hi g1 g2
    obtain ⟨m1, rfl, q1⟩ := fuel_s g1
    obtain ⟨m2, rfl, q2⟩ := fuel_s g2
    have e : i = n := by omega
    subst e
    exact ⟨acc, by rw [f_X4_digest_L25, f_X1_length, kbs rfl, if_pos (nI_le (Nat.le_refl i) (by omega))], by rw [f_X5_digest_L27, if_pos (nI_le (Nat.le_refl i) (by omega))]⟩
  | succ d ih =>
    intro i f1 f2 acc hd hi g1 g2
    obtain ⟨m1, rfl, q1⟩ := fuel_s g1
    obtain ⟨m2, rfl, q2⟩ := fuel_s g2
    have hin : i < n := by omega
    have ek : f_X1_kindOf (nI i) kC (nI n) = some (kC i) := by rw [f_X1_kindOf, hasC_in hn hin, kbs rfl, if_neg (by decide), rdc_N (by omega) (by omega), nI_clamp (by omega)]
    rw [f_X4_digest_L25, f_X5_digest_L27, f_X1_length, kbs rfl, if_neg (nI_ge hin (by omega)), if_neg (nI_ge hin (by omega)), ek, kbs rfl, mix_ok, kbs rfl, rdc_N (by omega) (by omega), nI_clamp (by omega), nI_1, hk i hin]
    exact ih (i + 1) m1 m2 _ (by omega) (by omega) (by omega) (by omega)
theorem dgo_L {n : Nat} {kC kM : Nat → Int32} (hn : n ≤ 60) (hk : ∀ j, j < n → kC j = kM j) : ∀ (d i f1 f2 : Nat) (acc : Int64), n - i = d → i ≤ n → d < f1 → d < f2 →
    ∃ y, f_X4_digest_L88 kC (nI n) f1 (nI i) acc = some y ∧ f_X5_digest_L120 (nI n) kM f2 (nI i) acc = some y := by
  intro d
  induction d with
  | zero =>
    intro i f1 f2 acc hd hi g1 g2
    obtain ⟨m1, rfl, q1⟩ := fuel_s g1
    obtain ⟨m2, rfl, q2⟩ := fuel_s g2
    have e : i = n := by omega
    subst e
    exact ⟨acc, by rw [f_X4_digest_L88, f_X2_outputCount, kbs rfl, if_pos (nI_le (Nat.le_refl i) (by omega))], by rw [f_X5_digest_L120, if_pos (nI_le (Nat.le_refl i) (by omega))]⟩
  | succ d ih =>
    intro i f1 f2 acc hd hi g1 g2
    obtain ⟨m1, rfl, q1⟩ := fuel_s g1
    obtain ⟨m2, rfl, q2⟩ := fuel_s g2
    have hin : i < n := by omega
    have ek : f_X2_outputAt (nI i) kC (nI n) = some (kC i) := by rw [f_X2_outputAt, if_neg (nI_pos (by omega)), if_neg (nI_ge hin (by omega)), rdc_N (by omega) (by omega), nI_clamp (by omega)]
    rw [f_X4_digest_L88, f_X5_digest_L120, f_X2_outputCount, kbs rfl, if_neg (nI_ge hin (by omega)), if_neg (nI_ge hin (by omega)), ek, kbs rfl, mix_ok, kbs rfl, rdc_N (by omega) (by omega), nI_clamp (by omega), nI_1, hk i hin]
    exact ih (i + 1) m1 m2 _ (by omega) (by omega) (by omega) (by omega)
theorem dgw_L {a i : Nat} {f g : Nat → Int32} (ha : a ≤ 240) (hi : i < a) (he : Eq4 a f g) : ∀ (d w fuel : Nat) (acc : Int64), 4 - w = d → w ≤ 4 → d < fuel →
    ∃ y, f_X4_mixSteps_L24 960 f (nI a) (nI i) fuel (nI w) acc = some y ∧ ∀ m, f_X5_digest_L76 (nI a) g (m + d) (nI (4 * i + w)) acc = f_X5_digest_L76 (nI a) g m (nI (4 * i + 4)) y := by
  intro d
  induction d with
  | zero =>
    intro w fuel acc hd hw hf
    obtain ⟨k, rfl, q⟩ := fuel_s hf
    have e : w = 4 := by omega
    subst e
    exact ⟨acc, by rw [f_X4_mixSteps_L24, if_pos (show (4 : Int32) ≤ nI 4 by decide)], fun m => rfl⟩
  | succ d ih =>
    intro w fuel acc hd hw hf
    obtain ⟨k, rfl, q⟩ := fuel_s hf
    obtain ⟨y, e1, e2⟩ := ih (w + 1) k (acc * 31 + (f (4 * i + w)).toInt64) (by omega) (by omega) (by omega)
    refine ⟨y, ?_, fun m => ?_⟩
    · rw [f_X4_mixSteps_L24, if_neg (show ¬ (4 : Int32) ≤ nI w from nI_ge (b := 4) (by omega) (by omega)), at_ok hi (by omega) (by omega) (by omega), kbs rfl, mix_ok, kbs rfl, nI_1]
      exact e1
    · rw [← e2 m, show m + (d + 1) = (m + d) + 1 from rfl, f_X5_digest_L76, mul4, if_neg (nI_ge (by omega) (by omega)), rdc_N (by omega) (by omega), nI_clamp (by omega), nI_1, ← he _ (by omega)]
      rfl
theorem dgs_L {a : Nat} {f g : Nat → Int32} (ha : a ≤ 240) (he : Eq4 a f g) : ∀ (d i f1 f2 : Nat) (acc : Int64), a - i = d → i ≤ a → d < f1 → 4 * d < f2 →
    ∃ y, f_X4_mixSteps_L12 960 f (nI a) f1 (nI i) acc = some y ∧ f_X5_digest_L76 (nI a) g f2 (nI (4 * i)) acc = some y := by
  intro d
  induction d with
  | zero =>
    intro i f1 f2 acc hd hi g1 g2
    obtain ⟨m1, rfl, q1⟩ := fuel_s g1
    obtain ⟨m2, rfl, q2⟩ := fuel_s g2
    have e : i = a := by omega
    subst e
    exact ⟨acc, by rw [f_X4_mixSteps_L12, f_X3_length, kbs rfl, if_pos (nI_le (Nat.le_refl i) (by omega))], by rw [f_X5_digest_L76, mul4, if_pos (nI_le (Nat.le_refl _) (by omega))]⟩
  | succ d ih =>
    intro i f1 f2 acc hd hi g1 g2
    obtain ⟨m1, rfl, q1⟩ := fuel_s g1
    have hia : i < a := by omega
    obtain ⟨y, e1, e2⟩ := dgw_L ha hia he 4 0 4000 acc rfl (by omega) (by omega)
    obtain ⟨m2, rfl, q2⟩ : ∃ m2, f2 = m2 + 4 ∧ 4 * d < m2 := ⟨f2 - 4, by omega, by omega⟩
    obtain ⟨z, k1, k2⟩ := ih (i + 1) m1 m2 y (by omega) (by omega) (by omega) q2
    rw [nI_0] at e1
    refine ⟨z, ?_, ?_⟩
    · rw [f_X4_mixSteps_L12, f_X3_length, kbs rfl, if_neg (nI_ge hia (by omega)), e1, kbs rfl, nI_1]
      exact k1
    · have h : f_X5_digest_L76 (nI a) g (m2 + 4) (nI (4 * i)) acc = f_X5_digest_L76 (nI a) g m2 (nI (4 * i + 4)) y := e2 m2
      rw [h, show 4 * i + 4 = 4 * (i + 1) by omega]
      exact k2
section CALLS4
variable (l : Launch) (D : va_G) (cyI cyZ : ClassId) (qa qb : Nat → Nat) {S : ZS} {M : ZM}
theorem op_run (hst : l.stackTraces = false) (h : REL S M) : OPI l D cyI cyZ qa qb yX4_run wsX4_run rmX4_run rxX4_run yX5_run wsX5_run rmX5_run [] 2 68 cdS S M := by
  obtain ⟨n, R, q, ⟨hR2, hR, hq⟩, ⟨eS, eM, eR, eR', eq, eq'⟩, hc, ho, hz, hm, ha⟩ := id h
  rcases ha with a0 | ⟨al, a, b, ⟨b1, b2, b3, b4, b5⟩, ⟨g1, g2, g3, g4, g5, g6⟩, hx⟩
  · have f1 : e_X4_run S.P.sN S.P.a S.mr S.ms S.mo S.al = some 2 := by rw [e_X4_run, thr_1 (na_no a0).2]
    have f2 : f_X5_run M.made M.st M.sP M.ou M.out = some (0, 1, M.ou, M.out) := by rw [f_X5_run, if_pos (hm.trans a0), f_X5_fail, kbs rfl]
    exact Or.inr ⟨_, 2, _, x4_run l hst D cyI cyZ qa S _ f1, m5_run l D cyI cyZ qb M _ f2, rfl, one0, h.th 1⟩
  · obtain ⟨r1, e1, h1⟩ := z8_L 8 0 4000 S.mr (by omega) (by omega) (by omega) (fun j hj => by omega)
    obtain ⟨s1, e2, h2⟩ := z60_L 60 0 4000 S.ms (by omega) (by omega) (by omega) (fun j hj => by omega)
    obtain ⟨rg1, sl1, mo1, out1, rg2, sl2, k1, k2, k3⟩ := run_L hR g1 g5 g3 g6 a 0 4000 4000 r1 s1 S.mo (fun _ => 0) (fun _ => 0) M.out (by omega) (by omega) (by omega) (by omega) ⟨h1, h2, fun j hj => absurd hj (Nat.not_lt_zero j)⟩
    rw [nI_0] at e1 e2
    rw [show cK 6 S.P.sN 0 = 0 from rfl, nI_0] at k1 k2
    have f1 : f_X4_run S.P.sN S.P.a S.mr S.ms S.mo S.al = some (nI (cK 6 S.P.sN a), rg1, sl1, mo1, nI (cK 6 S.P.sN a)) := by
      rw [f_X4_run, (na_yes al).1, kbs rfl, f_X2_execute, e1, kbs rfl, e2, kbs rfl, b1, k1, kbs rfl, kbs rfl, f_X2_outputCount, kbs rfl]
    have f2 : f_X5_run M.made M.st M.sP M.ou M.out = some (nI (cK 6 S.P.sN a), 0, nI (cK 6 S.P.sN a), out1) := by
      rw [f_X5_run, if_neg (by rw [hm, al]; decide), b3, k2, kbs rfl]
    exact Or.inl ⟨_, _, _, m4_run l D cyI cyZ qa S _ f1, m5_run l D cyI cyZ qb M _ f2, rfl, n, R, cK 6 S.P.sN a, ⟨hR2, hR, g6⟩, ⟨eS, eM, eR, eR', rfl, rfl⟩, hc, k3, hz, hm, Or.inr ⟨al, a, b, ⟨b1, b2, b3, b4, b5⟩, ⟨g1, g2, g3, g4, g5, g6⟩, hx⟩⟩
theorem op_digest (h : REL S M) : OPL l D cyI cyZ qa qb yX4_digest wsX4_digest rmX4_digest yX5_digest wsX5_digest rmX5_digest [] S M := by
  obtain ⟨n, R, q, ⟨hR2, hR, hq⟩, ⟨eS, eM, eR, eR', eq, eq'⟩, hc, ho, hz, hm, ha⟩ := id h
  have hn := hc.1.1
  obtain ⟨y1, k1, k2⟩ := dgk_L hn (fun j hj => (hc.2.1 j hj).1) n 0 4000 4000 (((2573 + (nI R).toInt64) * 31) + (nI n).toInt64) (by omega) (by omega) (by omega) (by omega)
  rw [nI_0] at k1 k2
  have key : ∀ y : Int64, ∃ z, f_X4_digest_J74 S.mo (nI q) y = some z ∧ f_X5_digest_J106 (nI q) M.out y 0 = some (z, 0) := by
    intro y
    obtain ⟨z, j1, j2⟩ := dgo_L hq ho q 0 4000 4000 ((y * 31) + (nI q).toInt64) (by omega) (by omega) (by omega) (by omega)
    rw [nI_0] at j1 j2
    exact ⟨z, by rw [f_X4_digest_J74, f_X2_outputCount, kbs rfl, mix_ok, kbs rfl, j1, kbs rfl], by rw [f_X5_digest_J106, j2, kbs rfl]⟩
  have top : f_X4_digest S.k S.n S.P.sN S.P.a S.mo S.mc S.R S.al = (if S.al = 0 then f_X4_digest_J74 S.mo (nI q) y1 else (Option.bind (f_X4_mixSteps y1 960 S.P.sN S.P.a) fun u70 => f_X4_digest_J74 S.mo (nI q) u70)) := by
    rw [eS, eR, eq, f_X4_digest, mix_ok, kbs rfl, f_X1_length, kbs rfl, mix_ok, kbs rfl, show (83 : Int64) * 31 = 2573 by decide, k1, kbs rfl]
  have topM : f_X5_digest M.n M.k M.R M.made M.st M.sP M.ou M.out = (if M.made = 0 then f_X5_digest_J106 (nI q) M.out y1 0 else (Option.bind (f_X5_digest_L76 M.st M.sP 4000 0 ((y1 * 31) + M.st.toInt64)) fun v76 => f_X5_digest_J106 (nI q) M.out v76 0)) := by
    rw [eM, eR', eq', f_X5_digest, k2, kbs rfl]
  rcases ha with a0 | ⟨al, a, b, ⟨b1, b2, b3, b4, b5⟩, ⟨g1, g2, g3, g4, g5, g6⟩, hx⟩
  · obtain ⟨z, j1, j2⟩ := key y1
    rw [if_pos a0, j1] at top
    rw [if_pos (hm.trans a0), j2] at topM
    exact ⟨_, _, _, m4_digest l D cyI cyZ qa S _ top, m5_digest l D cyI cyZ qb M _ topM, h.th 0⟩
  · obtain ⟨y2, i1, i2⟩ := dgs_L g1 g3 a 0 4000 4000 ((y1 * 31) + (nI a).toInt64) (by omega) (by omega) (by omega) (by omega)
    rw [nI_0] at i1
    rw [Nat.mul_zero, nI_0] at i2
    obtain ⟨z, j1, j2⟩ := key y2
    rw [if_neg (by rw [al]; decide), b1, f_X4_mixSteps, f_X3_length, kbs rfl, mix_ok, kbs rfl, i1, kbs rfl, kbs rfl, j1] at top
    rw [if_neg (by rw [hm, al]; decide), b3, i2, kbs rfl, j2] at topM
    rw [← b1] at top
    rw [← b3] at topM
    exact ⟨_, _, _, m4_digest l D cyI cyZ qa S _ top, m5_digest l D cyI cyZ qb M _ topM, h.th 0⟩
end CALLS4
