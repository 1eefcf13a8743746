/-! ===== what holds of an allocation under way ===== -/
def RegI (n R : Nat) (vI rO : Nat → Int32) : Prop :=
  (∀ r, r < R → vI r = -1 ∨ ∃ v, v < n ∧ vI r = nI v ∧ rO v = nI r) ∧ ∀ v, v < 60 → rO v = -1 ∨ ∃ r, r < R ∧ rO v = nI r ∧ vI r = nI v
theorem RegI.leave {n R v r : Nat} {vI rO : Nat → Int32} (hn : n ≤ 60) (hR : R ≤ 8) (h : RegI n R vI rO) (hv : v < 60) (hr : r < R) (e : rO v = nI r) : RegI n R (upd vI r (-1)) (upd rO v (-1)) := by
  refine ⟨fun r' hr' => ?_, fun w hw => ?_⟩
  · by_cases q : r' = r
    · rw [q, pk_us]; exact Or.inl rfl
    · rw [pk_un q]
      rcases h.1 r' hr' with g | ⟨w, g1, g2, g3⟩
      · exact Or.inl g
      · refine Or.inr ⟨w, g1, g2, ?_⟩
        rw [pk_un (fun z => q (nI_i (by omega) (by omega) (g3.symm.trans ((congrArg rO z).trans e)))), g3]
  · by_cases q : w = v
    · rw [q, pk_us]; exact Or.inl rfl
    · rw [pk_un q]
      rcases h.2 w hw with g | ⟨r', g1, g2, g3⟩
      · exact Or.inl g
      · refine Or.inr ⟨r', g1, g2, ?_⟩
        rcases h.2 v hv with z | ⟨r0, z1, z2, z3⟩
        · exact absurd (e.symm.trans z) (nIm1 (by omega))
        · have e0 : r0 = r := nI_i (by omega) (by omega) (z2.symm.trans e)
          rw [pk_un (fun y => q (nI_i (by omega) (by omega) (g3.symm.trans ((congrArg vI (y.trans e0.symm)).trans z3)))), g3]
theorem RegI.enter {n R v r : Nat} {vI rO : Nat → Int32} (hn : n ≤ 60) (hR : R ≤ 8) (h : RegI n R vI rO) (hv : v < n) (hr : r < R) (e : rO v = -1) (e2 : vI r = -1) : RegI n R (upd vI r (nI v)) (upd rO v (nI r)) := by
  refine ⟨fun r' hr' => ?_, fun w hw => ?_⟩
  · by_cases q : r' = r
    · rw [q, pk_us]; exact Or.inr ⟨v, hv, rfl, by rw [pk_us]⟩
    · rw [pk_un q]
      rcases h.1 r' hr' with g | ⟨w, g1, g2, g3⟩
      · exact Or.inl g
      · refine Or.inr ⟨w, g1, g2, ?_⟩
        rw [pk_un (fun z => nIm1 (k := r') (by omega) (g3.symm.trans ((congrArg rO z).trans e))), g3]
  · by_cases q : w = v
    · rw [q, pk_us]; exact Or.inr ⟨r, hr, rfl, by rw [pk_us]⟩
    · rw [pk_un q]
      rcases h.2 w hw with g | ⟨r', g1, g2, g3⟩
      · exact Or.inl g
      · refine Or.inr ⟨r', g1, g2, ?_⟩
        rw [pk_un (fun y => nIm1 (k := w) (by omega) (g3.symm.trans ((congrArg vI y).trans e2))), g3]
def SlotI (sO sT : Nat → Int32) : Prop :=
  (∀ v, v < 60 → sO v = -1 ∨ ∃ s, s < 60 ∧ sO v = nI s ∧ sT s = 1) ∧ (∀ s, s < 60 → sT s = 0 ∨ (sT s = 1 ∧ ∃ v, v < 60 ∧ sO v = nI s)) ∧ ∀ v w, v < 60 → w < 60 → sO v ≠ -1 → sO v = sO w → v = w
theorem SlotI.take {v s : Nat} {sO sT : Nat → Int32} (h : SlotI sO sT) (hv : v < 60) (hs : s < 60) (e : sO v = -1) (e2 : sT s = 0) : SlotI (upd sO v (nI s)) (upd sT s 1) := by
  have far : ∀ w, w < 60 → sO w = nI s → False := by
    intro w hw g
    rcases h.1 w hw with z | ⟨t, t1, t2, t3⟩
    · exact nIm1 (k := s) (by omega) (g.symm.trans z)
    · have e3 : t = s := nI_i (by omega) (by omega) (t2.symm.trans g)
      rw [e3, e2] at t3
      exact absurd t3 (by decide)
  refine ⟨fun w hw => ?_, fun t ht => ?_, fun w x hw hx g1 g2 => ?_⟩
  · by_cases q : w = v
    · rw [q, pk_us]; exact Or.inr ⟨s, hs, rfl, by rw [pk_us]⟩
    · rw [pk_un q]
      rcases h.1 w hw with g | ⟨t, t1, t2, t3⟩
      · exact Or.inl g
      · refine Or.inr ⟨t, t1, t2, ?_⟩
        by_cases y : t = s
        · rw [y, pk_us]
        · rw [pk_un y, t3]
  · by_cases q : t = s
    · rw [q, pk_us]; exact Or.inr ⟨rfl, v, hv, by rw [pk_us]⟩
    · rw [pk_un q]
      rcases h.2.1 t ht with g | ⟨g, w, w1, w2⟩
      · exact Or.inl g
      · refine Or.inr ⟨g, w, w1, ?_⟩
        rw [pk_un (fun y => nIm1 (k := t) (by omega) (w2.symm.trans ((congrArg sO y).trans e))), w2]
  · by_cases q : w = v <;> by_cases y : x = v
    · rw [q, y]
    · rw [q, pk_us, pk_un y] at g2
      exact absurd g2.symm (fun z => far x hx z)
    · rw [y, pk_us, pk_un q] at g2
      exact absurd g2 (fun z => far w hw z)
    · rw [pk_un q, pk_un y] at g2
      rw [pk_un q] at g1
      exact h.2.2 w x hw hx g1 g2
theorem SlotI.free {v s : Nat} {sO sT : Nat → Int32} (h : SlotI sO sT) (hv : v < 60) (hs : s < 60) (e : sO v = nI s) : SlotI (upd sO v (-1)) (upd sT s 0) := by
  have one : ∀ w, w < 60 → sO w = nI s → w = v := fun w hw g => (h.2.2 v w hv hw (by rw [e]; exact nIm1 (by omega)) (e.trans g.symm)).symm
  refine ⟨fun w hw => ?_, fun t ht => ?_, fun w x hw hx g1 g2 => ?_⟩
  · by_cases q : w = v
    · rw [q, pk_us]; exact Or.inl rfl
    · rw [pk_un q]
      rcases h.1 w hw with g | ⟨t, t1, t2, t3⟩
      · exact Or.inl g
      · exact Or.inr ⟨t, t1, t2, by rw [pk_un (fun y => q (one w hw (by rw [t2, y]))), t3]⟩
  · by_cases q : t = s
    · rw [q, pk_us]; exact Or.inl rfl
    · rw [pk_un q]
      rcases h.2.1 t ht with g | ⟨g, w, w1, w2⟩
      · exact Or.inl g
      · exact Or.inr ⟨g, w, w1, by rw [pk_un (fun y => q (nI_i (by omega) (by omega) (w2.symm.trans ((congrArg sO y).trans e)))), w2]⟩
  · by_cases q : w = v
    · rw [q, pk_us] at g1; exact absurd rfl g1
    · rw [pk_un q] at g1 g2
      by_cases y : x = v
      · rw [y, pk_us] at g2; exact absurd g2 g1
      · rw [pk_un y] at g2; exact h.2.2 w x hw hx g1 g2
/-- a value without a slot: a slot is free -/
theorem SlotI.some {v : Nat} {sO sT : Nat → Int32} (h : SlotI sO sT) (hv : v < 60) (e : sO v = -1) : ∃ s, s < 60 ∧ sT s = 0 ∧ ∀ t, t < s → sT t ≠ 0 := by
  have ex : ∃ s, s < 60 ∧ sT s = 0 := by
    refine Classical.byContradiction fun hno => ?_
    have all : ∀ s, s < 60 → ∃ w, w < 60 ∧ sO w = nI s := fun s hs => by
      rcases h.2.1 s hs with g | ⟨-, g⟩
      · exact absurd ⟨s, hs, g⟩ hno
      · exact g
    have hf : ∃ f : Nat → Nat, ∀ s, s < 60 → f s < 60 ∧ sO (f s) = nI s := ⟨fun s => if hs : s < 60 then (all s hs).choose else 0, fun s hs => by
      simp only [hs, dif_pos]
      exact (all s hs).choose_spec⟩
    obtain ⟨f, hf⟩ := hf
    obtain ⟨s, hs, es⟩ := fb_onto (n := 60) (f := f) (fun s hs => (hf s hs).1) (fun s t hst ht eq => by
      have h1 := (hf s (by omega)).2
      have h2 := (hf t ht).2
      rw [eq, h2] at h1
      have := nI_i (by omega) (by omega) h1
      omega) hv
    have h1 := (hf s hs).2
    rw [es, e] at h1
    exact nIm1 (k := s) (by omega) h1.symm
  obtain ⟨s, ⟨h1, h2⟩, h3⟩ := pk_least (fun s => s < 60 ∧ sT s = 0) ex
  exact ⟨s, h1, h2, fun t ht g => h3 t ht ⟨by omega, g⟩⟩
def Eq4 (a : Nat) (f g : Nat → Int32) : Prop := ∀ j, j < 4 * a → f j = g j
/-- a row of steps that can be executed -/
def RowOK (R : Nat) (x0 x1 x2 x3 : Int32) : Prop := (∃ r, r < R ∧ x1 = nI r) ∧
  (x0 = 0 ∨ x0 = 6 ∨ ((x0 = 1 ∨ x0 = 2 ∨ x0 = 3 ∨ x0 = 4) ∧ (∃ r, r < R ∧ x2 = nI r) ∧ ∃ r, r < R ∧ x3 = nI r) ∨ (x0 = 5 ∧ ∃ r, r < R ∧ x2 = nI r) ∨ ((x0 = 7 ∨ x0 = 8) ∧ ∃ s, s < 60 ∧ x2 = nI s))
def StepOK (R a : Nat) (f : Nat → Int32) : Prop := ∀ k, k < a → RowOK R (f (4 * k)) (f (4 * k + 1)) (f (4 * k + 2)) (f (4 * k + 3))
theorem StepOK.app {R a : Nat} {f : Nat → Int32} {x0 x1 x2 x3 : Int32} (h : StepOK R a f) (hr : RowOK R x0 x1 x2 x3) : StepOK R (a + 1) (up4 f a x0 x1 x2 x3) := by
  intro k hk
  rcases Nat.lt_or_ge k a with q | q
  · rw [up4_lo (by omega), up4_lo (by omega), up4_lo (by omega), up4_lo (by omega)]; exact h k q
  · have e : k = a := by omega
    rw [e, up4_0, up4_1, up4_2, up4_3]; exact hr
/-- how many of the rows begin with κ -/
def cK (κ : Int32) (f : Nat → Int32) : Nat → Nat
  | 0 => 0
  | a + 1 => cK κ f a + if f (4 * a) = κ then 1 else 0
theorem cK_cong {κ : Int32} {f g : Nat → Int32} : ∀ {a : Nat}, Eq4 a f g → cK κ f a = cK κ g a
  | 0, _ => rfl
  | a + 1, h => by rw [cK, cK, cK_cong (fun j hj => h j (by omega)), h (4 * a) (by omega)]
theorem cK_app {κ : Int32} {f : Nat → Int32} {a : Nat} {x0 x1 x2 x3 : Int32} : cK κ (up4 f a x0 x1 x2 x3) (a + 1) = cK κ f a + if x0 = κ then 1 else 0 := by
  rw [cK, up4_0, cK_cong (f := up4 f a x0 x1 x2 x3) (g := f) (fun j hj => up4_lo hj)]
theorem cK_le {κ : Int32} {f : Nat → Int32} : ∀ a, cK κ f a ≤ a
  | 0 => Nat.le_refl 0
  | a + 1 => by rw [cK]; have := cK_le (κ := κ) (f := f) a; split <;> omega
/-- the values that may still want a slot -/
def phB (sO nx : Nat → Int32) (v : Nat) : Bool := decide (sO v = -1 ∧ nx v ≠ -1)
def LiveI (n : Nat) (rO nx : Nat → Int32) : Prop := ∀ v, v < n → rO v ≠ -1 → nx v ≠ -1
def AvI (i : Nat) (kC nx rO sO : Nat → Int32) : Prop := (∀ v, v < i → kC v ≠ 0 → nx v ≠ -1 → rO v ≠ -1 ∨ sO v ≠ -1) ∧ ∀ v, i ≤ v → v < 60 → rO v = -1
theorem phB_take {sO nx : Nat → Int32} {n v : Nat} {x : Int32} (hv : v < n) (e : sO v = -1) (hx : nx v ≠ -1) (hy : x ≠ -1) : fb_ct (phB (upd sO v x) nx) n + 1 = fb_ct (phB sO nx) n := by
  have h := fb_ct_upd (phB sO nx) false hv
  rw [if_pos (show phB sO nx v = true by simp [phB, e, hx]), if_neg (by decide)] at h
  have e2 : fb_ct (phB (upd sO v x) nx) n = fb_ct (fun k => if k = v then false else phB sO nx k) n := by
    refine fb_ct_cong (fun k _ => ?_)
    by_cases q : k = v
    · rw [if_pos q, q]; simp [phB, pk_us, hy]
    · rw [if_neg q]; simp only [phB, pk_un q]
  rw [e2]
  omega
