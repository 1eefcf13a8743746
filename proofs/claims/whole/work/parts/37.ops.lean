/-! ===== the calls, one by one ===== -/
theorem one0 : (1 : Int32) ≠ 0 := by decide
theorem two0 : (2 : Int32) ≠ 0 := by decide
section CALLS
variable (l : Launch) (D : va_G) (cyI cyZ : ClassId) (qa qb : Nat → Nat) {S : ZS} {M : ZM}
theorem op_constant (hst : l.stackTraces = false) (h : REL S M) (p1 : Int32) : OPI l D cyI cyZ qa qb yX4_constant wsX4_constant rmX4_constant rxX4_constant yX5_constant wsX5_constant rmX5_constant [.int p1] 0 0 cdS S M := by
  obtain ⟨n, R, q, ⟨hR2, hR, hq⟩, ⟨eS, eM, eR, eR', eq, eq'⟩, hc, ho, hz, hm, ha⟩ := id h
  have hn := hc.1.1
  rcases Nat.lt_or_ge n 60 with g | g
  · obtain ⟨c', e1, e2, e3⟩ := hc.app g (x := 0) (f := -1) (s := -1) (i := p1) (a := p1) (b := -1) ⟨0, by omega, rfl⟩ (Or.inl ⟨rfl, rfl, rfl, rfl, rfl⟩)
    have f1 : f_X4_constant p1 S.k S.f S.s S.i S.c S.n = some (nI n, upd S.k n 0, upd S.f n (-1), upd S.s n (-1), upd S.i n p1, c', nI (n + 1), 0) := by rw [eS, f_X4_constant, (rf_no g).1, kbs rfl, e1, kbs rfl]
    have f2 : f_X5_constant p1 M.n M.k M.a M.b M.made = some (nI n, 0, nI (n + 1), upd M.k n 0, upd M.a n p1, upd M.b n (-1), 0) := by rw [eM, f_X5_constant, if_neg (n60 g), e2, kbs rfl]
    exact Or.inl ⟨_, _, _, m4_constant l D cyI cyZ qa S p1 _ f1, m5_constant l D cyI cyZ qb M p1 _ f2, rfl, n + 1, R, q, ⟨hR2, hR, hq⟩, ⟨rfl, rfl, eR, eR', eq, eq'⟩, e3, ho, hz, rfl, Or.inl rfl⟩
  · have f1 : e_X4_constant p1 S.k S.f S.s S.i S.c S.n = some 2 := by rw [eS, e_X4_constant, thr_1 (rf_yes hn g).2]
    have f2 : f_X5_constant p1 M.n M.k M.a M.b M.made = some (0, 1, M.n, M.k, M.a, M.b, M.made) := by rw [f_X5_constant, if_pos (by rw [eM]; exact y60 hn g), f_X5_fail, kbs rfl]
    exact Or.inr ⟨_, 2, _, x4_constant l hst D cyI cyZ qa S p1 _ f1, m5_constant l D cyI cyZ qb M p1 _ f2, rfl, one0, h.th 1⟩
theorem op_operate (hst : l.stackTraces = false) (h : REL S M) (p1 p2 p3 : Int32) : OPI l D cyI cyZ qa qb yX4_operate wsX4_operate rmX4_operate rxX4_operate yX5_operate wsX5_operate rmX5_operate [.int p1, .int p2, .int p3] 0 0 cdIAS S M := by
  obtain ⟨n, R, q, ⟨hR2, hR, hq⟩, ⟨eS, eM, eR, eR', eq, eq'⟩, hc, ho, hz, hm, ha⟩ := id h
  have hn := hc.1.1
  have bad : ∀ (x : Nat) (c : Int32), e_X4_operate p1 p2 p3 S.k S.f S.s S.i S.c S.n = some x → f_X5_operate p1 p2 p3 M.n M.k M.a M.b M.made = some (0, c, M.n, M.k, M.a, M.b, M.made) → cdIAS x = some c → c ≠ 0 → OPI l D cyI cyZ qa qb yX4_operate wsX4_operate rmX4_operate rxX4_operate yX5_operate wsX5_operate rmX5_operate [.int p1, .int p2, .int p3] 0 0 cdIAS S M :=
    fun x c f1 f2 hx hc => Or.inr ⟨_, x, _, x4_operate l hst D cyI cyZ qa S p1 p2 p3 _ f1, m5_operate l D cyI cyZ qb M p1 p2 p3 _ f2, hx, hc, h.th c⟩
  rcases hv_ok hc p2 with ⟨a1, a2, a3, j2, b1, b2, b3⟩ | ⟨a1, a2, a3⟩
  · rcases hv_ok hc p3 with ⟨d1, d2, d3, j3, g1, g2, g3⟩ | ⟨d1, d2, d3⟩
    · by_cases k1 : p1 < 1
      · have r1 : f_X4_refuseKindOutside p1 1 4 = none ∧ e_X4_refuseKindOutside p1 1 4 = some 1 := ⟨by rw [f_X4_refuseKindOutside, if_pos k1], by rw [e_X4_refuseKindOutside, if_pos k1]⟩
        exact bad 1 2 (by rw [eS, e_X4_operate, thr_0 a2, a1, kbs rfl, thr_0 d2, d1, kbs rfl, thr_1 r1.2]) (by rw [eM, f_X5_operate, a3, kbs rfl, if_neg (by decide), d3, kbs rfl, if_neg (by decide), if_pos k1, f_X5_fail, kbs rfl]) rfl (by decide)
      · by_cases k2 : p1 ≤ 4
        · have r1 : f_X4_refuseKindOutside p1 1 4 = some () ∧ e_X4_refuseKindOutside p1 1 4 = none := ⟨by rw [f_X4_refuseKindOutside, if_neg k1, if_pos k2], by rw [e_X4_refuseKindOutside, if_neg k1, if_pos k2]⟩
          rcases Nat.lt_or_ge n 60 with g | g
          · have k0 : ¬ p1 < 0 := fun z => k1 (Int32.lt_trans z (by decide))
            obtain ⟨κ, hκ, e⟩ := nI_of2 (M := 4) (n := 4) rfl k0 k2
            have hκ0 : κ ≠ 0 := fun z => k1 (by rw [e, z]; decide)
            obtain ⟨c', e1, e2, e3⟩ := hc.app g (x := p1) (f := p2) (s := p3) (i := 0) (a := p2) (b := p3) ⟨κ, by omega, e⟩ (Or.inr ⟨fun z => hκ0 (nI_i (a := κ) (b := 0) (by omega) (by omega) (e.symm.trans z)), rfl, rfl, ⟨j2, b1, b2, b3⟩, Or.inl ⟨fun z => by
              have := nI_i (a := κ) (b := 5) (by omega) (by omega) (e.symm.trans z); omega, fun z => by
              have := nI_i (a := κ) (b := 6) (by omega) (by omega) (e.symm.trans z); omega, j3, g1, g2, g3⟩⟩)
            have f1 : f_X4_operate p1 p2 p3 S.k S.f S.s S.i S.c S.n = some (nI n, upd S.k n p1, upd S.f n p2, upd S.s n p3, upd S.i n 0, c', nI (n + 1), 0) := by rw [eS, f_X4_operate, a1, kbs rfl, d1, kbs rfl, r1.1, kbs rfl, (rf_no g).1, kbs rfl, e1, kbs rfl]
            have f2 : f_X5_operate p1 p2 p3 M.n M.k M.a M.b M.made = some (nI n, 0, nI (n + 1), upd M.k n p1, upd M.a n p2, upd M.b n p3, 0) := by rw [eM, f_X5_operate, a3, kbs rfl, if_neg (by decide), d3, kbs rfl, if_neg (by decide), if_neg k1, if_pos k2, if_neg (n60 g), e2, kbs rfl]
            exact Or.inl ⟨_, _, _, m4_operate l D cyI cyZ qa S p1 p2 p3 _ f1, m5_operate l D cyI cyZ qb M p1 p2 p3 _ f2, rfl, n + 1, R, q, ⟨hR2, hR, hq⟩, ⟨rfl, rfl, eR, eR', eq, eq'⟩, e3, ho, hz, rfl, Or.inl rfl⟩
          · exact bad 2 3 (by rw [eS, e_X4_operate, thr_0 a2, a1, kbs rfl, thr_0 d2, d1, kbs rfl, thr_0 r1.2, r1.1, kbs rfl, thr_1 (rf_yes hn g).2]) (by rw [eM, f_X5_operate, a3, kbs rfl, if_neg (by decide), d3, kbs rfl, if_neg (by decide), if_neg k1, if_pos k2, if_pos (y60 hn g), f_X5_fail, kbs rfl]) rfl (by decide)
        · have r1 : f_X4_refuseKindOutside p1 1 4 = none ∧ e_X4_refuseKindOutside p1 1 4 = some 1 := ⟨by rw [f_X4_refuseKindOutside, if_neg k1, if_neg k2], by rw [e_X4_refuseKindOutside, if_neg k1, if_neg k2]⟩
          exact bad 1 2 (by rw [eS, e_X4_operate, thr_0 a2, a1, kbs rfl, thr_0 d2, d1, kbs rfl, thr_1 r1.2]) (by rw [eM, f_X5_operate, a3, kbs rfl, if_neg (by decide), d3, kbs rfl, if_neg (by decide), if_neg k1, if_neg k2, f_X5_fail, kbs rfl]) rfl (by decide)
    · exact bad 0 1 (by rw [eS, e_X4_operate, thr_0 a2, a1, kbs rfl, thr_1 d2]) (by rw [eM, f_X5_operate, a3, kbs rfl, if_neg (by decide), d3, kbs rfl, if_pos rfl, f_X5_fail, kbs rfl]) rfl (by decide)
  · exact bad 0 1 (by rw [eS, e_X4_operate, thr_1 a2]) (by rw [eM, f_X5_operate, a3, kbs rfl, if_pos rfl, f_X5_fail, kbs rfl]) rfl (by decide)
theorem op_pass (hst : l.stackTraces = false) (h : REL S M) (p1 p2 : Int32) : OPI l D cyI cyZ qa qb yX4_pass wsX4_pass rmX4_pass rxX4_pass yX5_pass wsX5_pass rmX5_pass [.int p1, .int p2] 0 0 cdIAS S M := by
  obtain ⟨n, R, q, ⟨hR2, hR, hq⟩, ⟨eS, eM, eR, eR', eq, eq'⟩, hc, ho, hz, hm, ha⟩ := id h
  have hn := hc.1.1
  have bad : ∀ (x : Nat) (c : Int32), e_X4_pass p1 p2 S.k S.f S.s S.i S.c S.n = some x → f_X5_pass p1 p2 M.n M.k M.a M.b M.made = some (0, c, M.n, M.k, M.a, M.b, M.made) → cdIAS x = some c → c ≠ 0 → OPI l D cyI cyZ qa qb yX4_pass wsX4_pass rmX4_pass rxX4_pass yX5_pass wsX5_pass rmX5_pass [.int p1, .int p2] 0 0 cdIAS S M :=
    fun x c f1 f2 hx hc => Or.inr ⟨_, x, _, x4_pass l hst D cyI cyZ qa S p1 p2 _ f1, m5_pass l D cyI cyZ qb M p1 p2 _ f2, hx, hc, h.th c⟩
  rcases hv_ok hc p2 with ⟨a1, a2, a3, j2, b1, b2, b3⟩ | ⟨a1, a2, a3⟩
  · have good : (p1 = 5 ∨ p1 = 6) → OPI l D cyI cyZ qa qb yX4_pass wsX4_pass rmX4_pass rxX4_pass yX5_pass wsX5_pass rmX5_pass [.int p1, .int p2] 0 0 cdIAS S M := by
      intro hp
      have r1 : f_X4_refuseKindOutside p1 5 6 = some () ∧ e_X4_refuseKindOutside p1 5 6 = none := by rcases hp with rfl | rfl <;> exact ⟨rfl, rfl⟩
      have m1 : f_X5_pass p1 p2 M.n M.k M.a M.b M.made = f_X5_pass_J36 p1 p2 0 M.n M.k M.a M.b M.made := by
        rw [f_X5_pass, eM, a3, kbs rfl, if_neg (by decide)]
        rcases hp with rfl | rfl
        · rw [if_pos rfl]
        · rw [if_neg (by decide), if_pos rfl]
      rcases Nat.lt_or_ge n 60 with g | g
      · obtain ⟨c', e1, e2, e3⟩ := hc.app g (x := p1) (f := p2) (s := -1) (i := 0) (a := p2) (b := -1) (by
          rcases hp with rfl | rfl
          · exact ⟨5, by omega, rfl⟩
          · exact ⟨6, by omega, rfl⟩) (Or.inr ⟨by rcases hp with rfl | rfl <;> decide, rfl, rfl, ⟨j2, b1, b2, b3⟩, Or.inr ⟨hp, rfl⟩⟩)
        have f1 : f_X4_pass p1 p2 S.k S.f S.s S.i S.c S.n = some (nI n, upd S.k n p1, upd S.f n p2, upd S.s n (-1), upd S.i n 0, c', nI (n + 1), 0) := by rw [eS, f_X4_pass, a1, kbs rfl, r1.1, kbs rfl, (rf_no g).1, kbs rfl, e1, kbs rfl]
        have f2 : f_X5_pass p1 p2 M.n M.k M.a M.b M.made = some (nI n, 0, nI (n + 1), upd M.k n p1, upd M.a n p2, upd M.b n (-1), 0) := by rw [m1, eM, f_X5_pass_J36, if_neg (n60 g), e2, kbs rfl]
        exact Or.inl ⟨_, _, _, m4_pass l D cyI cyZ qa S p1 p2 _ f1, m5_pass l D cyI cyZ qb M p1 p2 _ f2, rfl, n + 1, R, q, ⟨hR2, hR, hq⟩, ⟨rfl, rfl, eR, eR', eq, eq'⟩, e3, ho, hz, rfl, Or.inl rfl⟩
      · exact bad 2 3 (by rw [eS, e_X4_pass, thr_0 a2, a1, kbs rfl, thr_0 r1.2, r1.1, kbs rfl, thr_1 (rf_yes hn g).2]) (by rw [m1, f_X5_pass_J36, if_pos (by rw [eM]; exact y60 hn g), f_X5_fail, kbs rfl]) rfl (by decide)
    by_cases k5 : p1 = 5
    · exact good (Or.inl k5)
    · by_cases k6 : p1 = 6
      · exact good (Or.inr k6)
      · have r1 : f_X4_refuseKindOutside p1 5 6 = none ∧ e_X4_refuseKindOutside p1 5 6 = some 1 := by
          rw [f_X4_refuseKindOutside, e_X4_refuseKindOutside]
          by_cases k1 : p1 < 5
          · rw [if_pos k1, if_pos k1]; exact ⟨rfl, rfl⟩
          · by_cases k2 : p1 ≤ 6
            · have k0 : ¬ p1 < 0 := fun z => k1 (Int32.lt_trans z (by decide))
              obtain ⟨κ, hκ, e⟩ := nI_of2 (M := 6) (n := 6) rfl k0 k2
              have h5 : ¬ κ < 5 := fun z => k1 (by rw [e]; exact nI_lt (b := 5) z (by omega))
              have : κ = 5 ∨ κ = 6 := by omega
              rcases this with rfl | rfl
              · exact absurd e k5
              · exact absurd e k6
            · rw [if_neg k1, if_neg k1, if_neg k2, if_neg k2]; exact ⟨rfl, rfl⟩
        exact bad 1 2 (by rw [eS, e_X4_pass, thr_0 a2, a1, kbs rfl, thr_1 r1.2]) (by rw [eM, f_X5_pass, a3, kbs rfl, if_neg (by decide), if_neg k5, if_neg k6, f_X5_fail, kbs rfl]) rfl (by decide)
  · exact bad 0 1 (by rw [eS, e_X4_pass, thr_1 a2]) (by rw [eM, f_X5_pass, a3, kbs rfl, if_pos rfl, f_X5_fail, kbs rfl]) rfl (by decide)
theorem op_change (hst : l.stackTraces = false) (h : REL S M) (p1 p2 : Int32) : OPI l D cyI cyZ qa qb yX4_change wsX4_change rmX4_change rxX4_change yX5_change wsX5_change rmX5_change [.int p1, .int p2] 0 0 cdIA S M := by
  obtain ⟨n, R, q, ⟨hR2, hR, hq⟩, ⟨eS, eM, eR, eR', eq, eq'⟩, hc, ho, hz, hm, ha⟩ := id h
  have hn := hc.1.1
  rcases ni_ok hn p1 with ⟨a1, a2, a3, a4, j, hj, rfl⟩ | ⟨a1, a2, a3⟩
  · have hk := hc.2.1 j hj
    by_cases k0 : S.k j = 0
    · have e0 : f_X1_isConst (nI j) S.k (nI n) = some 1 := by rw [isConstC hn hj, if_pos k0]
      have f1 : f_X4_change (nI j) p2 S.k S.i S.n = some (S.i j, upd S.i j p2, 0) := by
        rw [eS, f_X4_change, a1, kbs rfl, e0, kbs rfl, if_neg (by decide), f_X1_replaceInt, a3, kbs rfl, if_neg (by decide), rdc_N (by omega) (by omega), rdc_N (by omega) (by omega), nI_clamp (by omega), kbs rfl]
      have f2 : f_X5_change (nI j) p2 M.n M.k M.a M.made = some (S.i j, 0, upd M.a j p2, 0) := by
        rw [eM, f_X5_change, a4, kbs rfl, if_neg (by decide), rdc_N (by omega) (by omega), nI_clamp (by omega), if_pos (hk.1.trans k0), rdc_N (by omega) (by omega), rdc_N (by omega) (by omega), (hk.2.1 k0).1]
      refine Or.inl ⟨_, _, _, m4_change l D cyI cyZ qa S (nI j) p2 _ f1, m5_change l D cyI cyZ qb M (nI j) p2 _ f2, rfl, n, R, q, ⟨hR2, hR, hq⟩, ⟨eS, eM, eR, eR', eq, eq'⟩, ⟨hc.1, fun i hi => ?_, hc.2.2⟩, ho, hz, rfl, Or.inl rfl⟩
      obtain ⟨c1, c2, c3⟩ := hc.2.1 i hi
      refine ⟨c1, fun g => ?_, fun g => ?_⟩
      · by_cases e : i = j
        · subst e
          exact ⟨by show upd M.a i p2 i = upd S.i i p2 i; rw [pk_us, pk_us], (c2 g).2⟩
        · exact ⟨by show upd M.a j p2 i = upd S.i j p2 i; rw [pk_un e, pk_un e]; exact (c2 g).1, (c2 g).2⟩
      · have e : i ≠ j := fun e => g (by rw [e]; exact k0)
        exact ⟨by show upd M.a j p2 i = S.f i; rw [pk_un e]; exact (c3 g).1, (c3 g).2⟩
    · have e0 : f_X1_isConst (nI j) S.k (nI n) = some 0 := by rw [isConstC hn hj, if_neg k0]
      have f1 : e_X4_change (nI j) p2 S.k S.i S.n = some 1 := by rw [eS, e_X4_change, thr_0 a2, a1, kbs rfl, e0, kbs rfl, if_pos rfl]
      have f2 : f_X5_change (nI j) p2 M.n M.k M.a M.made = some (0, 2, M.a, M.made) := by
        rw [eM, f_X5_change, a4, kbs rfl, if_neg (by decide), rdc_N (by omega) (by omega), nI_clamp (by omega), if_neg (fun z => k0 (hk.1.symm.trans z)), f_X5_fail, kbs rfl]
      exact Or.inr ⟨_, 1, _, x4_change l hst D cyI cyZ qa S (nI j) p2 _ f1, m5_change l D cyI cyZ qb M (nI j) p2 _ f2, rfl, two0, h.th 2⟩
  · have f1 : e_X4_change p1 p2 S.k S.i S.n = some 0 := by rw [eS, e_X4_change, thr_1 a2]
    have f2 : f_X5_change p1 p2 M.n M.k M.a M.made = some (0, 1, M.a, M.made) := by rw [eM, f_X5_change, a3, kbs rfl, if_pos rfl, f_X5_fail, kbs rfl]
    exact Or.inr ⟨_, 0, _, x4_change l hst D cyI cyZ qa S p1 p2 _ f1, m5_change l D cyI cyZ qb M p1 p2 _ f2, rfl, one0, h.th 1⟩
theorem op_cut (hst : l.stackTraces = false) (h : REL S M) (p1 : Int32) : OPI l D cyI cyZ qa qb yX4_cut wsX4_cut rmX4_cut rxX4_cut yX5_cut wsX5_cut rmX5_cut [.int p1] 0 0 cdA S M := by
  obtain ⟨n, R, q, ⟨hR2, hR, hq⟩, ⟨eS, eM, eR, eR', eq, eq'⟩, hc, ho, hz, hm, ha⟩ := id h
  have hn := hc.1.1
  have bad : e_X4_cut p1 S.k S.f S.s S.c S.n = some 1 → f_X5_cut p1 M.n M.made = some (0, 1, M.n, M.made) → OPI l D cyI cyZ qa qb yX4_cut wsX4_cut rmX4_cut rxX4_cut yX5_cut wsX5_cut rmX5_cut [.int p1] 0 0 cdA S M :=
    fun f1 f2 => Or.inr ⟨_, 1, _, x4_cut l hst D cyI cyZ qa S p1 _ f1, m5_cut l D cyI cyZ qb M p1 _ f2, rfl, one0, h.th 1⟩
  by_cases k0 : p1 < 0
  · exact bad (by rw [e_X4_cut, if_pos k0]) (by rw [f_X5_cut, if_pos k0, f_X5_fail, kbs rfl])
  · obtain ⟨c, hcc, rfl⟩ := nI_of k0
    by_cases k1 : nI c ≤ nI n
    · have hcn := (nI_leI hcc (by omega)).mp k1
      have es : nI n - nI c = nI (n - c) := by
        have := nI_add (n - c) c
        rw [show n - c + c = n by omega] at this
        rw [← this, Int32.add_sub_cancel]
      have hw1 : WF (n - c) S.k S.f S.s := ⟨by omega, fun j hj => hc.1.2 j (by omega)⟩
      obtain ⟨c', e1, e2⟩ := findCounting_ok hw1 S.c
      have f1 : f_X4_cut (nI c) S.k S.f S.s S.c S.n = some (nI (n - c), c', nI (n - c), 0) := by
        rw [eS, f_X4_cut, if_neg k0, f_X1_length, kbs rfl, if_pos k1, f_X1_removeLast, if_neg k0, if_neg (nI_nlt hcn (by omega)), es, e1, kbs rfl, kbs rfl, f_X1_length, kbs rfl]
      have f2 : f_X5_cut (nI c) M.n M.made = some (nI (n - c), 0, nI (n - c), 0) := by rw [eM, f_X5_cut, if_neg k0, if_pos k1, es]
      exact Or.inl ⟨_, _, _, m4_cut l D cyI cyZ qa S (nI c) _ f1, m5_cut l D cyI cyZ qb M (nI c) _ f2, rfl, n - c, R, q, ⟨hR2, hR, hq⟩, ⟨rfl, rfl, eR, eR', eq, eq'⟩, ⟨hw1, fun j hj => hc.2.1 j (by omega), e2⟩, ho, hz, rfl, Or.inl rfl⟩
    · exact bad (by rw [eS, e_X4_cut, if_neg k0, f_X1_length, kbs rfl, if_neg k1]) (by rw [eM, f_X5_cut, if_neg k0, if_neg k1, f_X5_fail, kbs rfl])
theorem op_size (h : REL S M) : OPD l D cyI cyZ qa qb yX4_size wsX4_size rmX4_size yX5_size wsX5_size rmX5_size [] S M := by
  obtain ⟨n, R, q, hR, ⟨eS, eM, eR, eR', eq, eq'⟩, hc, ho, hz, hm, ha⟩ := id h
  have f1 : f_X4_size S.n = some (nI n) := by rw [eS, f_X4_size, f_X1_length, kbs rfl]
  have f2 : f_X5_size M.n = some (nI n, 0) := by rw [eM, f_X5_size]
  exact ⟨_, _, _, m4_size l D cyI cyZ qa S _ f1, m5_size l D cyI cyZ qb M _ f2, h.th 0⟩
theorem op_kind (hst : l.stackTraces = false) (h : REL S M) (p1 : Int32) : OPI l D cyI cyZ qa qb yX4_kind wsX4_kind rmX4_kind rxX4_kind yX5_kind wsX5_kind rmX5_kind [.int p1] 0 0 cdI S M := by
  obtain ⟨n, R, q, hR, ⟨eS, eM, eR, eR', eq, eq'⟩, hc, ho, hz, hm, ha⟩ := id h
  have hn := hc.1.1
  rcases ni_ok hn p1 with ⟨a1, a2, a3, a4, j, hj, rfl⟩ | ⟨a1, a2, a3⟩
  · have f1 : f_X4_kind (nI j) S.k S.n = some (S.k j) := by rw [eS, f_X4_kind, a1, kbs rfl, f_X1_kindOf, a3, kbs rfl, if_neg (by decide), rdc_N (by omega) (by omega), nI_clamp (by omega), kbs rfl]
    have f2 : f_X5_kind (nI j) M.n M.k = some (S.k j, 0) := by rw [eM, f_X5_kind, a4, kbs rfl, if_neg (by decide), rdc_N (by omega) (by omega), nI_clamp (by omega), (hc.2.1 j hj).1]
    exact Or.inl ⟨_, _, _, m4_kind l D cyI cyZ qa S _ _ f1, m5_kind l D cyI cyZ qb M _ _ f2, rfl, h.th 0⟩
  · have f1 : e_X4_kind p1 S.k S.n = some 0 := by rw [eS, e_X4_kind, thr_1 a2]
    have f2 : f_X5_kind p1 M.n M.k = some (0, 1) := by rw [eM, f_X5_kind, a3, kbs rfl, if_pos rfl, f_X5_fail, kbs rfl]
    exact Or.inr ⟨_, 0, _, x4_kind l hst D cyI cyZ qa S p1 _ f1, m5_kind l D cyI cyZ qb M p1 _ f2, rfl, one0, h.th 1⟩
theorem op_counts (hst : l.stackTraces = false) (h : REL S M) (p1 : Int32) : OPI l D cyI cyZ qa qb yX4_counts wsX4_counts rmX4_counts rxX4_counts yX5_counts wsX5_counts rmX5_counts [.int p1] 0 0 cdI S M := by
  obtain ⟨n, R, q, hR, ⟨eS, eM, eR, eR', eq, eq'⟩, hc, ho, hz, hm, ha⟩ := id h
  have hn := hc.1.1
  rcases ni_ok hn p1 with ⟨a1, a2, a3, a4, j, hj, rfl⟩ | ⟨a1, a2, a3⟩
  · obtain ⟨cM, e1, hcr⟩ := hc.count M.cn
    have h01 := (hc.2.2 j hj).1
    have hcj : (if S.c j = 0 then 0 else 1 : Int32) = S.c j := by
      rcases h01 with g | g
      · rw [if_pos g, g]
      · rw [if_neg (by rw [g]; decide), g]
    have f1 : f_X4_counts (nI j) S.c S.n = some (S.c j) := by rw [eS, f_X4_counts, a1, kbs rfl, countingC hn hj, hcj, kbs rfl, zck_in h01]
    have f2 : f_X5_counts (nI j) M.n M.k M.a M.b M.cn = some (S.c j, 0, cM) := by
      rw [eM, f_X5_counts, a4, kbs rfl, if_neg (by decide), f_X5_counts_J14, if_pos rfl, e1, kbs rfl, rdc_N (by omega) (by omega), nI_clamp (by omega), hcr.2.2.2 j hj, zck_in h01]
    exact Or.inl ⟨_, _, _, m4_counts l D cyI cyZ qa S _ _ f1, m5_counts l D cyI cyZ qb M _ _ f2, rfl, h.thc 0 cM⟩
  · have f1 : e_X4_counts p1 S.c S.n = some 0 := by rw [eS, e_X4_counts, thr_1 a2]
    have f2 : f_X5_counts p1 M.n M.k M.a M.b M.cn = some (0, 1, M.cn) := by rw [eM, f_X5_counts, a3, kbs rfl, if_pos rfl, f_X5_counts_J14, if_neg (by decide)]
    exact Or.inr ⟨_, 0, _, x4_counts l hst D cyI cyZ qa S p1 _ f1, m5_counts l D cyI cyZ qb M p1 _ f2, rfl, one0, h.th 1⟩
theorem op_nextUse (hst : l.stackTraces = false) (h : REL S M) (p1 p2 : Int32) : OPI l D cyI cyZ qa qb yX4_nextUse wsX4_nextUse rmX4_nextUse rxX4_nextUse yX5_nextUse wsX5_nextUse rmX5_nextUse [.int p1, .int p2] 0 0 cdI S M := by
  obtain ⟨n, R, q, hR, ⟨eS, eM, eR, eR', eq, eq'⟩, hc, ho, hz, hm, ha⟩ := id h
  have hn := hc.1.1
  rcases ni_ok hn p1 with ⟨a1, a2, a3, a4, j, hj, rfl⟩ | ⟨a1, a2, a3⟩
  · obtain ⟨cM, e1, hcr⟩ := hc.count M.cn
    have f1 : f_X4_nextUse (nI j) p2 S.f S.s S.c S.n = some (nu (usC S.f S.s S.c (nI j)) n (frN p2)) := by rw [eS, f_X4_nextUse, a1, kbs rfl, firstUse_in hn hj, kbs rfl]
    have f2 : f_X5_nextUse (nI j) p2 M.n M.k M.a M.b M.cn = some (nu (usC S.f S.s S.c (nI j)) n (frN p2), 0, cM) := by
      rw [eM, f_X5_nextUse, a4, kbs rfl, if_neg (by decide), e1, kbs rfl, useFrom_ok hn, kbs rfl, hcr.nuM (by omega)]
    exact Or.inl ⟨_, _, _, m4_nextUse l D cyI cyZ qa S _ _ _ f1, m5_nextUse l D cyI cyZ qb M _ _ _ f2, rfl, h.thc 0 cM⟩
  · have f1 : e_X4_nextUse p1 p2 S.f S.s S.c S.n = some 0 := by rw [eS, e_X4_nextUse, thr_1 a2]
    have f2 : f_X5_nextUse p1 p2 M.n M.k M.a M.b M.cn = some (0, 1, M.cn) := by rw [eM, f_X5_nextUse, a3, kbs rfl, if_pos rfl, f_X5_fail, kbs rfl]
    exact Or.inr ⟨_, 0, _, x4_nextUse l hst D cyI cyZ qa S p1 p2 _ f1, m5_nextUse l D cyI cyZ qb M p1 p2 _ f2, rfl, one0, h.th 1⟩
theorem op_setRegisters (hst : l.stackTraces = false) (h : REL S M) (p1 : Int32) : OPI l D cyI cyZ qa qb yX4_setRegisters wsX4_setRegisters rmX4_setRegisters rxX4_setRegisters yX5_setRegisters wsX5_setRegisters rmX5_setRegisters [.int p1] 0 0 cdA S M := by
  obtain ⟨n, R, q, ⟨hR2, hR, hq⟩, ⟨eS, eM, eR, eR', eq, eq'⟩, hc, ho, hz, hm, ha⟩ := id h
  have bad : e_X4_setRegisters p1 = some 1 → f_X5_setRegisters p1 M.R M.made = some (0, 1, M.R, M.made) → OPI l D cyI cyZ qa qb yX4_setRegisters wsX4_setRegisters rmX4_setRegisters rxX4_setRegisters yX5_setRegisters wsX5_setRegisters rmX5_setRegisters [.int p1] 0 0 cdA S M :=
    fun f1 f2 => Or.inr ⟨_, 1, _, x4_setRegisters l hst D cyI cyZ qa S p1 _ f1, m5_setRegisters l D cyI cyZ qb M p1 _ f2, rfl, one0, h.th 1⟩
  by_cases k1 : p1 < 2
  · exact bad (by rw [e_X4_setRegisters, if_pos k1]) (by rw [f_X5_setRegisters, if_pos k1, f_X5_fail, kbs rfl])
  · by_cases k2 : p1 ≤ 8
    · have k0 : ¬ p1 < 0 := fun z => k1 (Int32.lt_trans z (by decide))
      obtain ⟨r, hr, e⟩ := nI_of2 (M := 8) (n := 8) rfl k0 k2
      have hr2 : ¬ r < 2 := fun z => k1 (by rw [e]; exact nI_lt (b := 2) z (by omega))
      have f1 : f_X4_setRegisters p1 S.R = some (nI R, p1, 0) := by rw [eR, f_X4_setRegisters, if_neg k1, if_pos k2]
      have f2 : f_X5_setRegisters p1 M.R M.made = some (nI R, 0, p1, 0) := by rw [eR', f_X5_setRegisters, if_neg k1, if_pos k2]
      exact Or.inl ⟨_, _, _, m4_setRegisters l D cyI cyZ qa S p1 _ f1, m5_setRegisters l D cyI cyZ qb M p1 _ f2, rfl, n, r, q, ⟨by omega, hr, hq⟩, ⟨eS, eM, e, e, eq, eq'⟩, hc, ho, hz, rfl, Or.inl rfl⟩
    · exact bad (by rw [e_X4_setRegisters, if_neg k1, if_neg k2]) (by rw [f_X5_setRegisters, if_neg k1, if_neg k2, f_X5_fail, kbs rfl])
end CALLS
