/-! ===== what holds between the calls ===== -/
def ALL (n R : Nat) (S : ZS) (M : ZM) : Prop := ∃ a b : Nat, (S.P.a = nI a ∧ S.P.b = nI b ∧ M.st = nI a ∧ M.pc = nI b ∧ M.sl = S.P.sc) ∧ (a ≤ 240 ∧ b ≤ 180 ∧ Eq4 a S.P.sN M.sP ∧ Eq4 b S.P.pN M.pP ∧ StepOK R a S.P.sN ∧ cK 6 S.P.sN a ≤ 60) ∧
  ∃ s0 p0 v0 r0 o0 c0 u0 t0 : Nat → Int32, ZI v0 r0 o0 t0 ∧ f_X0_make (nI R) S.k S.f S.s S.i S.c (nI n) s0 p0 v0 r0 o0 c0 u0 t0 = some (S.P.sN, nI a, S.P.pN, nI b, S.P.vI, S.P.rO, S.P.sO, S.P.pO, S.P.up, S.P.sT, nI R, S.P.sc)
def REL (S : ZS) (M : ZM) : Prop := ∃ n R q : Nat, (2 ≤ R ∧ R ≤ 8 ∧ q ≤ 60) ∧ (S.n = nI n ∧ M.n = nI n ∧ S.R = nI R ∧ M.R = nI R ∧ S.mc = nI q ∧ M.ou = nI q) ∧ CR0 n S.k S.f S.s S.i S.c M.k M.a M.b ∧ (∀ j, j < q → S.mo j = M.out j) ∧
  (ZI S.P.vI S.P.rO S.P.sO S.P.sT ∧ ZI S.T.vI S.T.rO S.T.sO S.T.sT ∧ ZI M.hB M.rO M.sO M.iT) ∧ M.made = S.al ∧ (S.al = 0 ∨ (S.al = 1 ∧ ALL n R S M))
theorem REL.th {S : ZS} {M : ZM} (h : REL S M) (x : Int32) : REL S (ZM.mk x M.n M.k M.a M.b M.R M.made M.st M.sP M.pc M.pP M.sl M.cn M.rO M.sO M.pO M.hB M.iT M.ou M.out) := h
theorem REL.thc {S : ZS} {M : ZM} (h : REL S M) (x : Int32) (c : Nat → Int32) : REL S (ZM.mk x M.n M.k M.a M.b M.R M.made M.st M.sP M.pc M.pP M.sl c M.rO M.sO M.pO M.hB M.iT M.ou M.out) := h
section OPI
variable (l : Launch) (D : va_G) (cyI cyZ : ClassId) (qa qb : Nat → Nat)
/-- a call that may throw, of both sides -/
def OPI (yC : MethodName) (wsC : List Cond) (rmC rxC : Room) (yM : MethodName) (wsM : List Cond) (rmM : Room) (As : List Value) (mc ms : Nat) (cd : Nat → Option Int32) (S : ZS) (M : ZM) : Prop :=
  (∃ (S' : ZS) (M' : ZM) (r : Int32), kMi l yC wsC rmC (.ref (qa 0) :: As) D (wA qa cyI cyZ S) (wA qa cyI cyZ S') (kT cyI cyZ) r 0 0 ∧ kMi l yM wsM rmM (.ref (qb 0) :: As) D (wB qb cyI cyZ M) (wB qb cyI cyZ M') (kT cyI cyZ) r mc ms ∧ M'.th = 0 ∧ REL S' M') ∨
  (∃ (M' : ZM) (x : Nat) (b : Int32), kMxi l yC wsC rxC (.ref (qa 0) :: As) D (wA qa cyI cyZ S) (kT cyI cyZ) x 1 6 ∧ kMi l yM wsM rmM (.ref (qb 0) :: As) D (wB qb cyI cyZ M) (wB qb cyI cyZ M') (kT cyI cyZ) b mc ms ∧ cd x = some M'.th ∧ M'.th ≠ 0 ∧ REL S M')
/-- a call that can't throw, of both sides -/
def OPD (yC : MethodName) (wsC : List Cond) (rmC : Room) (yM : MethodName) (wsM : List Cond) (rmM : Room) (As : List Value) (S : ZS) (M : ZM) : Prop :=
  ∃ (S' : ZS) (M' : ZM) (r : Int32), kMi l yC wsC rmC (.ref (qa 0) :: As) D (wA qa cyI cyZ S) (wA qa cyI cyZ S') (kT cyI cyZ) r 0 0 ∧ kMi l yM wsM rmM (.ref (qb 0) :: As) D (wB qb cyI cyZ M) (wB qb cyI cyZ M') (kT cyI cyZ) r 0 0 ∧ REL S' M'
def OPL (yC : MethodName) (wsC : List Cond) (rmC : Room) (yM : MethodName) (wsM : List Cond) (rmM : Room) (As : List Value) (S : ZS) (M : ZM) : Prop :=
  ∃ (S' : ZS) (M' : ZM) (r : Int64), kMl l yC wsC rmC (.ref (qa 0) :: As) D (wA qa cyI cyZ S) (wA qa cyI cyZ S') (kT cyI cyZ) r 0 0 ∧ kMl l yM wsM rmM (.ref (qb 0) :: As) D (wB qb cyI cyZ M) (wB qb cyI cyZ M') (kT cyI cyZ) r 0 0 ∧ REL S' M'
end OPI
/-- which throws a call of the law catches, and what it answers then -/
def cdS : Nat → Option Int32 := fun x => if x = 2 then some 1 else none
def cdA : Nat → Option Int32 := fun x => if x = 1 then some 1 else none
def cdI : Nat → Option Int32 := fun x => if x = 0 then some 1 else none
def cdIA : Nat → Option Int32 := fun x => if x = 0 then some 1 else if x = 1 then some 2 else none
def cdIAS : Nat → Option Int32 := fun x => if x = 0 then some 1 else if x = 1 then some 2 else if x = 2 then some 3 else none
def cdSI : Nat → Option Int32 := fun x => if x = 2 then some 1 else if x = 0 then some 2 else none
/-! ===== refusals ===== -/
theorem rf_no {n : Nat} (g : n < 60) : f_X4_refuseFullCode (nI n) = some () ∧ e_X4_refuseFullCode (nI n) = none := by
  have h : f_X1_isFull (nI n) = some 0 := by rw [f_X1_isFull, if_pos (show nI n < 60 from nI_lt (b := 60) g (by omega))]
  exact ⟨by rw [f_X4_refuseFullCode, h, kbs rfl, if_pos rfl], by rw [e_X4_refuseFullCode, h, kbs rfl, if_pos rfl]⟩
theorem rf_yes {n : Nat} (hn : n ≤ 60) (g : 60 ≤ n) : f_X4_refuseFullCode (nI n) = none ∧ e_X4_refuseFullCode (nI n) = some 2 := by
  have e : n = 60 := by omega
  subst e
  have h : f_X1_isFull (nI 60) = some 1 := by rw [f_X1_isFull, if_neg (show ¬ nI 60 < 60 from nI_nlt (a := 60) (b := 60) (by omega) (by omega))]
  exact ⟨by rw [f_X4_refuseFullCode, h, kbs rfl, if_neg (by decide)], by rw [e_X4_refuseFullCode, h, kbs rfl, if_neg (by decide)]⟩
theorem n60 {n : Nat} (g : n < 60) : ¬ nI n = 60 := fun e => by
  have := nI_i (a := n) (b := 60) (by omega) (by omega) e
  omega
theorem y60 {n : Nat} (hn : n ≤ 60) (g : 60 ≤ n) : nI n = 60 := by
  have e : n = 60 := by omega
  subst e; rfl
theorem hv_ok {n : Nat} {kC fC sC iC cC kM aM bM : Nat → Int32} (hc : CR0 n kC fC sC iC cC kM aM bM) (p : Int32) :
    (f_X4_refuseNoValue p kC (nI n) = some () ∧ e_X4_refuseNoValue p kC (nI n) = none ∧ f_X5_hasValue p (nI n) kM = some 1 ∧ ∃ j, j < n ∧ p = nI j ∧ kC j ≠ 6) ∨ (f_X4_refuseNoValue p kC (nI n) = none ∧ e_X4_refuseNoValue p kC (nI n) = some 0 ∧ f_X5_hasValue p (nI n) kM = some 0) := by
  have hn := hc.1.1
  have key : (f_X1_hasValue p kC (nI n) = some 1 ∧ f_X5_hasValue p (nI n) kM = some 1 ∧ ∃ j, j < n ∧ p = nI j ∧ kC j ≠ 6) ∨ (f_X1_hasValue p kC (nI n) = some 0 ∧ f_X5_hasValue p (nI n) kM = some 0) := by
    rcases hasC hn p with ⟨e, j, hj, rfl⟩ | ⟨e, -⟩
    · have A : f_X1_hasValue (nI j) kC (nI n) = if kC j = 6 then some 0 else some 1 := by rw [f_X1_hasValue, e, kbs rfl, if_neg (by decide), rdc_N (by omega) (by omega), nI_clamp (by omega)]
      have B : f_X5_hasValue (nI j) (nI n) kM = if kC j = 6 then some 0 else some 1 := by rw [f_X5_hasValue, insM, e, kbs rfl, if_neg (by decide), rdc_N (by omega) (by omega), nI_clamp (by omega), (hc.2.1 j hj).1]
      rw [A, B]
      by_cases g : kC j = 6
      · rw [if_pos g]; exact Or.inr ⟨rfl, rfl⟩
      · rw [if_neg g]; exact Or.inl ⟨rfl, rfl, j, hj, rfl, g⟩
    · exact Or.inr ⟨by rw [f_X1_hasValue, e, kbs rfl, if_pos rfl], by rw [f_X5_hasValue, insM, e, kbs rfl, if_pos rfl]⟩
  rcases key with ⟨a, b, c⟩ | ⟨a, b⟩
  · exact Or.inl ⟨by rw [f_X4_refuseNoValue, a, kbs rfl, if_neg (by decide)], by rw [e_X4_refuseNoValue, a, kbs rfl, if_neg (by decide)], b, c⟩
  · exact Or.inr ⟨by rw [f_X4_refuseNoValue, a, kbs rfl, if_pos rfl], by rw [e_X4_refuseNoValue, a, kbs rfl, if_pos rfl], b⟩
theorem ni_ok {n : Nat} (hn : n ≤ 60) (p : Int32) :
    (f_X4_refuseNoInstruction p (nI n) = some () ∧ e_X4_refuseNoInstruction p (nI n) = none ∧ f_X1_has p (nI n) = some 1 ∧ f_X5_isInstruction p (nI n) = some 1 ∧ ∃ j, j < n ∧ p = nI j) ∨ (f_X4_refuseNoInstruction p (nI n) = none ∧ e_X4_refuseNoInstruction p (nI n) = some 0 ∧ f_X5_isInstruction p (nI n) = some 0) := by
  rw [insM]
  rcases hasC hn p with ⟨e, h⟩ | ⟨e, -⟩
  · exact Or.inl ⟨by rw [f_X4_refuseNoInstruction, e, kbs rfl, if_neg (by decide)], by rw [e_X4_refuseNoInstruction, e, kbs rfl, if_neg (by decide)], e, e, h⟩
  · exact Or.inr ⟨by rw [f_X4_refuseNoInstruction, e, kbs rfl, if_pos rfl], by rw [e_X4_refuseNoInstruction, e, kbs rfl, if_pos rfl], e⟩
theorem na_no {x : Int32} (h : x = 0) : f_X4_refuseNoAllocation x = none ∧ e_X4_refuseNoAllocation x = some 2 := ⟨by rw [f_X4_refuseNoAllocation, if_pos h], by rw [e_X4_refuseNoAllocation, if_pos h]⟩
theorem na_yes {x : Int32} (h : x = 1) : f_X4_refuseNoAllocation x = some () ∧ e_X4_refuseNoAllocation x = none := by
  subst h
  exact ⟨by rw [f_X4_refuseNoAllocation, if_neg (by decide)], by rw [e_X4_refuseNoAllocation, if_neg (by decide)]⟩
theorem kbn {α β : Type} {a : Option α} {k : α → Option β} (h : a = none) : Option.bind a k = none := by rw [h]; rfl
/-! ===== appending ===== -/
theorem CR0.app {n : Nat} {kC fC sC iC cC kM aM bM : Nat → Int32} (hc : CR0 n kC fC sC iC cC kM aM bM) (g : n < 60) {x f s i a b : Int32} (hx : ∃ κ : Nat, κ ≤ 6 ∧ x = nI κ)
    (hr : (x = 0 ∧ f = -1 ∧ s = -1 ∧ a = i ∧ b = -1) ∨ (x ≠ 0 ∧ a = f ∧ b = s ∧ (∃ v, v < n ∧ f = nI v ∧ kC v ≠ 6) ∧ ((x ≠ 5 ∧ x ≠ 6 ∧ ∃ v, v < n ∧ s = nI v ∧ kC v ≠ 6) ∨ ((x = 5 ∨ x = 6) ∧ s = -1)))) :
    ∃ c', f_X4_append x f s i kC fC sC iC cC (nI n) = some (nI n, upd kC n x, upd fC n f, upd sC n s, upd iC n i, c', nI (n + 1), 0) ∧ f_X5_append x a b (nI n) kM aM bM = some (nI n, nI (n + 1), upd kM n x, upd aM n a, upd bM n b, 0) ∧
      CR0 (n + 1) (upd kC n x) (upd fC n f) (upd sC n s) (upd iC n i) c' (upd kM n x) (upd aM n a) (upd bM n b) := by
  obtain ⟨hw, hm, -⟩ := hc
  have hw1 : WF (n + 1) (upd kC n x) (upd fC n f) (upd sC n s) := by
    refine ⟨by omega, fun j hj => ?_⟩
    by_cases e : j = n
    · subst e
      rw [pk_us, pk_us, pk_us]
      refine ⟨hx, ?_⟩
      rcases hr with ⟨h1, h2, h3, -⟩ | ⟨h1, -, -, ⟨v, v1, v2, v3⟩, h4⟩
      · exact Or.inl ⟨h1, h2, h3⟩
      · refine Or.inr ⟨h1, ⟨v, v1, v2, by rw [pk_un (by omega)]; exact v3⟩, ?_⟩
        rcases h4 with ⟨k1, k2, w, w1, w2, w3⟩ | h4
        · exact Or.inl ⟨k1, k2, w, w1, w2, by rw [pk_un (by omega)]; exact w3⟩
        · exact Or.inr h4
    · have hj' : j < n := by omega
      obtain ⟨h1, h2⟩ := hw.2 j hj'
      rw [pk_un e, pk_un e, pk_un e]
      refine ⟨h1, ?_⟩
      rcases h2 with h2 | ⟨h2, ⟨v, v1, v2, v3⟩, h4⟩
      · exact Or.inl h2
      · refine Or.inr ⟨h2, ⟨v, v1, v2, by rw [pk_un (by omega)]; exact v3⟩, ?_⟩
        rcases h4 with ⟨k1, k2, w, w1, w2, w3⟩ | h4
        · exact Or.inl ⟨k1, k2, w, w1, w2, by rw [pk_un (by omega)]; exact w3⟩
        · exact Or.inr h4
  obtain ⟨c', e1, e2⟩ := findCounting_ok hw1 cC
  refine ⟨c', ?_, ?_, hw1, fun j hj => ?_, e2⟩
  · have h : f_X1_isFull (nI n) = some 0 := by rw [f_X1_isFull, if_pos (show nI n < 60 from nI_lt (b := 60) g (by omega))]
    rw [f_X4_append, f_X1_append, h, kbs rfl, if_pos rfl, rdc_N (by omega) (by omega), rdc_N (by omega) (by omega), rdc_N (by omega) (by omega), rdc_N (by omega) (by omega), nI_clamp (by omega), nI_1, e1, kbs rfl, kbs rfl]
  · rw [f_X5_append, rdc_N (by omega) (by omega), rdc_N (by omega) (by omega), rdc_N (by omega) (by omega), nI_clamp (by omega), nI_1, nI_m1]
  · by_cases e : j = n
    · subst e
      rw [pk_us, pk_us, pk_us, pk_us, pk_us, pk_us, pk_us]
      refine ⟨rfl, fun h0 => ?_, fun h0 => ?_⟩
      · rcases hr with ⟨-, -, -, h⟩ | ⟨h, -⟩
        · exact h
        · exact absurd h0 h
      · rcases hr with ⟨h, -⟩ | ⟨-, h1, h2, -⟩
        · exact absurd h h0
        · exact ⟨h1, h2⟩
    · rw [pk_un e, pk_un e, pk_un e, pk_un e, pk_un e, pk_un e, pk_un e]
      exact hm j (by omega)
