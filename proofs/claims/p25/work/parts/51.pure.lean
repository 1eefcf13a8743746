/-! ===== numbers ===== -/
theorem nIm1 {k : Nat} (h : k < 2 ^ 31) : ¬ nI k = -1 := by
  intro e
  have h1 := congrArg Int32.toInt e
  rw [nI_toInt h] at h1
  have h2 : (-1 : Int32).toInt = -1 := by decide
  rw [h2] at h1
  omega
theorem nI_i {a b : Nat} (ha : a < 2 ^ 31) (hb : b < 2 ^ 31) (h : nI a = nI b) : a = b := (nI_eq ha hb).mp h
theorem nI_m1 (i : Nat) : nI (i + 1) - 1 = nI i := nI_pred i
theorem sub1 (x : Int32) : x + (-1) = x - 1 := (Int32.sub_eq_add_neg x 1).symm
theorem m1_lt0 : (-1 : Int32) < 0 := by decide
theorem nI0m1 : nI 0 - 1 = -1 := by decide
theorem fuel_s {d fuel : Nat} (h : d < fuel) : ∃ m, fuel = m + 1 ∧ d ≤ m := ⟨fuel - 1, by omega, by omega⟩
/-! ===== the code: which instructions count, the next use ===== -/
/-- the first number from i on, at most d of them, that P takes; else -1 -/
def nuL (P : Nat → Bool) : Nat → Nat → Int32
  | 0, _ => -1
  | d + 1, i => if P i = true then nI i else nuL P d (i + 1)
theorem nuL_cong {P Q : Nat → Bool} : ∀ (d i : Nat), (∀ u, i ≤ u → u < i + d → P u = Q u) → nuL P d i = nuL Q d i := by
  intro d
  induction d with
  | zero => intro i _; rfl
  | succ d ih =>
    intro i h
    rw [nuL, nuL, h i (Nat.le_refl i) (by omega), ih (i + 1) (fun u h1 h2 => h u (by omega) (by omega))]
theorem nuL_cases (P : Nat → Bool) : ∀ (d i : Nat), (nuL P d i = -1 ∧ ∀ u, i ≤ u → u < i + d → P u = false) ∨ ∃ u, i ≤ u ∧ u < i + d ∧ P u = true ∧ nuL P d i = nI u ∧ ∀ w, i ≤ w → w < u → P w = false := by
  intro d
  induction d with
  | zero => intro i; exact Or.inl ⟨rfl, fun u h1 h2 => absurd h2 (by omega)⟩
  | succ d ih =>
    intro i
    rw [nuL]
    cases hP : P i with
    | true => exact Or.inr ⟨i, Nat.le_refl i, by omega, hP, by simp, fun w h1 h2 => absurd h2 (by omega)⟩
    | false =>
      rw [if_neg (by simp)]
      rcases ih (i + 1) with ⟨h1, h2⟩ | ⟨u, h1, h2, h3, h4, h5⟩
      · refine Or.inl ⟨h1, fun u g1 g2 => ?_⟩
        rcases Nat.lt_or_ge i u with q | q
        · exact h2 u q (by omega)
        · have e : u = i := by omega
          rw [e]; exact hP
      · refine Or.inr ⟨u, by omega, by omega, h3, h4, fun w g1 g2 => ?_⟩
        rcases Nat.lt_or_ge i w with q | q
        · exact h5 w q g2
        · have e : w = i := by omega
          rw [e]; exact hP
/-- the next use from i on in a code of n instructions -/
def nu (P : Nat → Bool) (n i : Nat) : Int32 := nuL P (n - i) i
theorem nu_cong {P Q : Nat → Bool} {n i : Nat} (h : ∀ u, i ≤ u → u < n → P u = Q u) : nu P n i = nu Q n i := nuL_cong _ _ (fun u h1 h2 => h u h1 (by omega))
theorem nu_skip {P : Nat → Bool} {n i : Nat} (h : i < n → P i = false) : nu P n (i + 1) = nu P n i := by
  unfold nu
  rcases Nat.lt_or_ge i n with q | q
  · rw [show n - i = (n - (i + 1)) + 1 by omega, nuL, h q, if_neg (by simp)]
  · rw [show n - i = 0 by omega, show n - (i + 1) = 0 by omega]; rfl
theorem nu_hit {P : Nat → Bool} {n i : Nat} (h : i < n) (hP : P i = true) : nu P n i = nI i := by
  unfold nu
  rw [show n - i = (n - (i + 1)) + 1 by omega, nuL, hP, if_pos rfl]
theorem nu_cases (P : Nat → Bool) (n i : Nat) : (nu P n i = -1 ∧ ∀ u, i ≤ u → u < n → P u = false) ∨ ∃ u, i ≤ u ∧ u < n ∧ P u = true ∧ nu P n i = nI u ∧ ∀ w, i ≤ w → w < u → P w = false := by
  rcases nuL_cases P (n - i) i with ⟨h1, h2⟩ | ⟨u, h1, h2, h3, h4, h5⟩
  · exact Or.inl ⟨h1, fun u g1 g2 => h2 u g1 (by omega)⟩
  · exact Or.inr ⟨u, h1, by omega, h3, h4, h5⟩
/-- who uses the number p, by the class's rows and by the model's -/
def usC (f s c : Nat → Int32) (p : Int32) (u : Nat) : Bool := decide (¬ c u = 0 ∧ (f u = p ∨ s u = p))
theorem fuC_L {f s c : Nat → Int32} {n : Nat} {p : Int32} (hn : n ≤ 60) : ∀ (d i fuel : Nat), n - i = d → i < 2 ^ 31 → d < fuel → f_X1_firstUse_L16 f s c (nI n) p fuel (nI i) = some (nuL (usC f s c p) d i) := by
  intro d
  induction d with
  | zero =>
    intro i fuel hd hi hf
    obtain ⟨m, rfl, hm⟩ := fuel_s hf
    rw [f_X1_firstUse_L16, if_pos (nI_le (by omega) hi)]
    rfl
  | succ d ih =>
    intro i fuel hd hi hf
    obtain ⟨m, rfl, hm⟩ := fuel_s hf
    have hin : i < n := by omega
    rw [f_X1_firstUse_L16, if_neg (nI_ge hin (by omega)), rdc_N (by omega) (by omega), nI_clamp hi, nI_1, nuL]
    by_cases hc : c i = 0
    · rw [if_pos hc, ih (i + 1) m (by omega) (by omega) (by omega), if_neg (by simp [usC, hc])]
    · rw [if_neg hc, rdc_N (by omega) (by omega)]
      by_cases h1 : f i = p
      · rw [if_pos h1, if_pos (by simp [usC, hc, h1])]
      · rw [if_neg h1, rdc_N (by omega) (by omega)]
        by_cases h2 : s i = p
        · rw [if_pos h2, if_pos (by simp [usC, hc, h2])]
        · rw [if_neg h2, ih (i + 1) m (by omega) (by omega) (by omega), if_neg (by simp [usC, h1, h2])]
/-- the number from which a search begins, whatever was asked for -/
def frN (x : Int32) : Nat := if x < 0 then 0 else x.toNatClampNeg
theorem frN_eq (x : Int32) : (if x < 0 then 0 else x) = nI (frN x) ∧ frN x < 2 ^ 31 := by
  unfold frN
  by_cases h : x < 0
  · rw [if_pos h, if_pos h]; exact ⟨nI_0.symm, by omega⟩
  · rw [if_neg h, if_neg h]
    obtain ⟨j, hj, rfl⟩ := nI_of h
    rw [nI_clamp hj]; exact ⟨rfl, hj⟩
theorem frN_nI {k : Nat} (h : k < 2 ^ 31) : frN (nI k) = k := by
  unfold frN
  rw [if_neg (nI_pos h), nI_clamp h]
theorem hasC {n : Nat} (hn : n ≤ 60) (p : Int32) : (f_X1_has p (nI n) = some 1 ∧ ∃ j, j < n ∧ p = nI j) ∨ (f_X1_has p (nI n) = some 0 ∧ ∀ j, j < n → p ≠ nI j) := by
  rw [f_X1_has]
  by_cases h0 : p < 0
  · rw [if_pos h0]
    exact Or.inr ⟨rfl, fun j hj e => nI_pos (n := j) (by omega) (e ▸ h0)⟩
  · rw [if_neg h0]
    obtain ⟨j, hj, rfl⟩ := nI_of h0
    by_cases h1 : nI n ≤ nI j
    · rw [if_pos h1]
      refine Or.inr ⟨rfl, fun i hi e => ?_⟩
      have := (nI_leI (by omega) hj).mp h1
      have := nI_i hj (by omega) e
      omega
    · rw [if_neg h1]
      exact Or.inl ⟨rfl, j, by rcases Nat.lt_or_ge j n with q | q; exact q; exact absurd (nI_le q hj) h1, rfl⟩
theorem hasC_in {n j : Nat} (hn : n ≤ 60) (hj : j < n) : f_X1_has (nI j) (nI n) = some 1 := by
  rcases hasC hn (nI j) with h | ⟨-, h⟩
  · exact h.1
  · exact absurd rfl (h j hj)
theorem hasC_m1 {n : Nat} : f_X1_has (-1) (nI n) = some 0 := by
  rw [f_X1_has, if_pos m1_lt0]
theorem firstUse_in {f s c : Nat → Int32} {n j : Nat} (hn : n ≤ 60) (hj : j < n) (x : Int32) : f_X1_firstUse (nI j) x f s c (nI n) = some (nu (usC f s c (nI j)) n (frN x)) := by
  obtain ⟨e, h⟩ := frN_eq x
  rw [f_X1_firstUse, hasC_in hn hj, kbs rfl, if_neg (by decide), e, fuC_L hn (n - frN x) _ _ rfl h (by omega)]
  rfl
theorem firstUse_out {f s c : Nat → Int32} {n : Nat} {p : Int32} (h : f_X1_has p (nI n) = some 0) (x : Int32) : f_X1_firstUse p x f s c (nI n) = some (-1) := by
  rw [f_X1_firstUse, h, kbs rfl, if_pos rfl]
/-- which instructions count, by their users -/
def IsC (n : Nat) (k : Nat → Int32) (us : Nat → Nat → Prop) (c : Nat → Int32) : Prop :=
  ∀ j, j < n → (c j = 0 ∨ c j = 1) ∧ (c j ≠ 0 ↔ (k j = 6 ∨ ∃ u, j < u ∧ u < n ∧ c u ≠ 0 ∧ us u j))
theorem IsC_uniq {n : Nat} {k k' c c' : Nat → Int32} {us us' : Nat → Nat → Prop} (h : IsC n k us c) (h' : IsC n k' us' c') (hk : ∀ j, j < n → k j = k' j) (hu : ∀ u j, u < n → j < u → (us u j ↔ us' u j)) : ∀ j, j < n → c j = c' j := by
  have key : ∀ d j, j < n → n - j ≤ d → c j = c' j := by
    intro d
    induction d with
    | zero => intro j h1 h2; omega
    | succ d ih =>
      intro j hj hd
      obtain ⟨a1, a2⟩ := h j hj
      obtain ⟨b1, b2⟩ := h' j hj
      have e : c j ≠ 0 ↔ c' j ≠ 0 := by
        rw [a2, b2, hk j hj]
        constructor
        · rintro (g | ⟨u, g1, g2, g3, g4⟩)
          · exact Or.inl g
          · exact Or.inr ⟨u, g1, g2, by rw [← ih u g2 (by omega)]; exact g3, (hu u j g2 g1).mp g4⟩
        · rintro (g | ⟨u, g1, g2, g3, g4⟩)
          · exact Or.inl g
          · exact Or.inr ⟨u, g1, g2, by rw [ih u g2 (by omega)]; exact g3, (hu u j g2 g1).mpr g4⟩
      rcases a1 with a1 | a1 <;> rcases b1 with b1 | b1
      · rw [a1, b1]
      · exact absurd a1 (e.mpr (by rw [b1]; decide))
      · exact absurd b1 (e.mp (by rw [a1]; decide))
      · rw [a1, b1]
  exact fun j hj => key n j hj (by omega)
/-- a code as the class holds it -/
def WF (n : Nat) (k f s : Nat → Int32) : Prop := n ≤ 60 ∧ ∀ j, j < n → (∃ κ : Nat, κ ≤ 6 ∧ k j = nI κ) ∧
  ((k j = 0 ∧ f j = -1 ∧ s j = -1) ∨ (k j ≠ 0 ∧ (∃ a, a < j ∧ f j = nI a ∧ k a ≠ 6) ∧ ((k j ≠ 5 ∧ k j ≠ 6 ∧ ∃ b, b < j ∧ s j = nI b ∧ k b ≠ 6) ∨ ((k j = 5 ∨ k j = 6) ∧ s j = -1))))
theorem WF.f {n : Nat} {k f s : Nat → Int32} (h : WF n k f s) {j : Nat} (hj : j < n) : f j = -1 ∨ ∃ a, a < j ∧ f j = nI a := by
  rcases (h.2 j hj).2 with ⟨-, h1, -⟩ | ⟨-, ⟨a, h1, h2, -⟩, -⟩
  · exact Or.inl h1
  · exact Or.inr ⟨a, h1, h2⟩
theorem WF.s {n : Nat} {k f s : Nat → Int32} (h : WF n k f s) {j : Nat} (hj : j < n) : s j = -1 ∨ ∃ a, a < j ∧ s j = nI a := by
  rcases (h.2 j hj).2 with ⟨-, -, h1⟩ | ⟨-, -, ⟨-, -, b, h1, h2, -⟩ | ⟨-, h1⟩⟩
  · exact Or.inl h1
  · exact Or.inr ⟨b, h1, h2⟩
  · exact Or.inl h1
theorem mark_ok {n : Nat} (hn : n ≤ 60) {p : Int32} (hp : p = -1 ∨ ∃ a, a < n ∧ p = nI a) (c : Nat → Int32) : ∃ c', f_X1_markCounting p c (nI n) = some c' ∧ ∀ j, j < n → c' j = if p = nI j then 1 else c j := by
  rcases hp with rfl | ⟨a, ha, rfl⟩
  · rw [f_X1_markCounting, hasC_m1, kbs rfl, if_pos rfl]
    exact ⟨c, rfl, fun j hj => by rw [if_neg (fun e => nIm1 (k := j) (by omega) e.symm)]⟩
  · rw [f_X1_markCounting, hasC_in hn ha, kbs rfl, if_neg (by decide), rdc_N (by omega) (by omega), nI_clamp (by omega)]
    refine ⟨_, rfl, fun j hj => ?_⟩
    by_cases e : j = a
    · rw [e, pk_us, if_pos rfl]
    · rw [pk_un e, if_neg (fun h => e (nI_i (by omega) (by omega) h).symm)]
theorem fc_L2 {k : Nat → Int32} {n : Nat} (hn : n ≤ 60) : ∀ (d i fuel : Nat) (c : Nat → Int32), n - i = d → i ≤ n → d < fuel → ∃ c', f_X1_findCounting_L2 k (nI n) fuel (nI i) c = some c' ∧ (∀ j, i ≤ j → j < n → c' j = if k j = 6 then 1 else 0) ∧ ∀ j, j < i → c' j = c j := by
  intro d
  induction d with
  | zero =>
    intro i fuel c hd hi hf
    obtain ⟨m, rfl, hm⟩ := fuel_s hf
    rw [f_X1_findCounting_L2, if_pos (nI_le (by omega) (by omega))]
    exact ⟨c, rfl, fun j h1 h2 => absurd h2 (by omega), fun j _ => rfl⟩
  | succ d ih =>
    intro i fuel c hd hi hf
    obtain ⟨m, rfl, hm⟩ := fuel_s hf
    have hin : i < n := by omega
    rw [f_X1_findCounting_L2, if_neg (nI_ge hin (by omega)), rdc_N (by omega) (by omega), nI_clamp (by omega), nI_1]
    have fin : ∀ v : Int32, (v = if k i = 6 then 1 else 0) → ∃ c', f_X1_findCounting_L2 k (nI n) m (nI (i + 1)) (upd c i v) = some c' ∧ (∀ j, i ≤ j → j < n → c' j = if k j = 6 then 1 else 0) ∧ ∀ j, j < i → c' j = c j := by
      intro v hv
      obtain ⟨c', h1, h2, h3⟩ := ih (i + 1) m (upd c i v) (by omega) (by omega) (by omega)
      refine ⟨c', h1, fun j g1 g2 => ?_, fun j g => ?_⟩
      · rcases Nat.lt_or_ge i j with q | q
        · exact h2 j q g2
        · have e : j = i := by omega
          rw [e, h3 i (by omega), pk_us, hv]
      · rw [h3 j (by omega), pk_un (by omega)]
    by_cases h6 : k i = 6
    · rw [if_pos h6, rdc_N (by omega) (by omega)]
      exact fin 1 (by rw [if_pos h6])
    · rw [if_neg h6, rdc_N (by omega) (by omega)]
      exact fin 0 (by rw [if_neg h6])
/-- the users of what stands at j, by a and b -/
def usR (f s : Nat → Int32) (u j : Nat) : Prop := f u = nI j ∨ s u = nI j
theorem usR_lt {n : Nat} {k f s : Nat → Int32} (h : WF n k f s) {u j : Nat} (hu : u < n) (hj : j < 2 ^ 31) (g : usR f s u j) : j < u := by
  have hn := h.1
  rcases g with g | g
  · rcases h.f hu with e | ⟨a, h1, h2⟩
    · exact absurd (g.symm.trans e) (nIm1 hj)
    · have := nI_i hj (by omega) (g.symm.trans h2); omega
  · rcases h.s hu with e | ⟨a, h1, h2⟩
    · exact absurd (g.symm.trans e) (nIm1 hj)
    · have := nI_i hj (by omega) (g.symm.trans h2); omega
def CI (n : Nat) (k f s : Nat → Int32) (i : Nat) (c : Nat → Int32) : Prop := ∀ j, j < n → (c j = 0 ∨ c j = 1) ∧ (c j ≠ 0 ↔ (k j = 6 ∨ ∃ u, i ≤ u ∧ u < n ∧ c u ≠ 0 ∧ usR f s u j))
theorem fc_L45 {n : Nat} {k f s : Nat → Int32} (hw : WF n k f s) : ∀ (i fuel : Nat) (c : Nat → Int32), i ≤ n → i < fuel → CI n k f s i c → ∃ c', f_X1_findCounting_L45 f s (nI n) fuel (nI i - 1) c = some c' ∧ CI n k f s 0 c' := by
  have hn := hw.1
  intro i
  induction i with
  | zero =>
    intro fuel c hi hf hc
    obtain ⟨m, rfl, hm⟩ := fuel_s hf
    rw [f_X1_findCounting_L45, nI0m1, if_pos m1_lt0]
    exact ⟨c, rfl, hc⟩
  | succ i ih =>
    intro fuel c hi hf hc
    obtain ⟨m, rfl, hm⟩ := fuel_s hf
    rw [f_X1_findCounting_L45, nI_m1, if_neg (nI_pos (by omega)), rdc_N (by omega) (by omega), nI_clamp (by omega), sub1]
    by_cases h0 : c i = 0
    · rw [if_pos h0]
      refine ih m c (by omega) (by omega) (fun j hj => ⟨(hc j hj).1, (hc j hj).2.trans ?_⟩)
      constructor
      · rintro (g | ⟨u, g1, g2⟩)
        · exact Or.inl g
        · exact Or.inr ⟨u, by omega, g2⟩
      · rintro (g | ⟨u, g1, g2, g3, g4⟩)
        · exact Or.inl g
        · refine Or.inr ⟨u, ?_, g2, g3, g4⟩
          rcases Nat.lt_or_ge i u with q | q
          · exact q
          · have e : u = i := by omega
            rw [e] at g3; exact absurd h0 g3
    · rw [if_neg h0, rdc_N (by omega) (by omega)]
      obtain ⟨c1, e1, h1⟩ := mark_ok hn (p := f i) ((hw.f (by omega)).imp_right (fun ⟨a, x, y⟩ => ⟨a, by omega, y⟩)) c
      rw [e1, kbs rfl, rdc_N (by omega) (by omega)]
      obtain ⟨c2, e2, h2⟩ := mark_ok hn (p := s i) ((hw.s (by omega)).imp_right (fun ⟨a, x, y⟩ => ⟨a, by omega, y⟩)) c1
      rw [e2, kbs rfl]
      have hv : ∀ j, j < n → (usR f s i j → c2 j = 1) ∧ (¬ usR f s i j → c2 j = c j) := by
        intro j hj
        rw [h2 j hj, h1 j hj]
        refine ⟨fun g => ?_, fun g => ?_⟩
        · rcases g with g | g
          · rw [if_pos g]; split <;> rfl
          · rw [if_pos g]
        · rw [if_neg (fun q => g (Or.inr q)), if_neg (fun q => g (Or.inl q))]
      have hge : ∀ u, i ≤ u → u < n → c2 u = c u := fun u g1 g2 => (hv u g2).2 (fun g => absurd (usR_lt hw (by omega) (by omega) g) (by omega))
      refine ih m c2 (by omega) (by omega) (fun j hj => ?_)
      obtain ⟨a1, a2⟩ := hc j hj
      by_cases g : usR f s i j
      · rw [(hv j hj).1 g]
        refine ⟨Or.inr rfl, ⟨fun _ => Or.inr ⟨i, Nat.le_refl i, by omega, by rw [hge i (Nat.le_refl i) (by omega)]; exact h0, g⟩, fun _ => by decide⟩⟩
      · rw [(hv j hj).2 g]
        refine ⟨a1, a2.trans ?_⟩
        constructor
        · rintro (q | ⟨u, g1, g2, g3, g4⟩)
          · exact Or.inl q
          · exact Or.inr ⟨u, by omega, g2, by rw [hge u (by omega) g2]; exact g3, g4⟩
        · rintro (q | ⟨u, g1, g2, g3, g4⟩)
          · exact Or.inl q
          · refine Or.inr ⟨u, ?_, g2, by rw [← hge u g1 g2]; exact g3, g4⟩
            rcases Nat.lt_or_ge i u with q | q
            · exact q
            · have e : u = i := by omega
              rw [e] at g4; exact absurd g4 g
theorem CI_IsC {n : Nat} {k f s c : Nat → Int32} (hw : WF n k f s) (h : CI n k f s 0 c) : IsC n k (usR f s) c := by
  intro j hj
  refine ⟨(h j hj).1, (h j hj).2.trans ?_⟩
  have hn := hw.1
  constructor
  · rintro (g | ⟨u, -, g2, g3, g4⟩)
    · exact Or.inl g
    · exact Or.inr ⟨u, usR_lt hw g2 (by omega) g4, g2, g3, g4⟩
  · rintro (g | ⟨u, -, g2, g3, g4⟩)
    · exact Or.inl g
    · exact Or.inr ⟨u, Nat.zero_le u, g2, g3, g4⟩
theorem findCounting_ok {n : Nat} {k f s : Nat → Int32} (hw : WF n k f s) (c : Nat → Int32) : ∃ c', f_X1_findCounting k f s c (nI n) = some c' ∧ IsC n k (usR f s) c' := by
  have hn := hw.1
  obtain ⟨c1, e1, h1, -⟩ := fc_L2 (k := k) hn n 0 4000 c (by omega) (by omega) (by omega)
  rw [f_X1_findCounting, ← nI_0, e1, kbs rfl]
  have hc : CI n k f s n c1 := by
    intro j hj
    rw [h1 j (Nat.zero_le j) hj]
    by_cases h6 : k j = 6
    · rw [if_pos h6]; exact ⟨Or.inr rfl, ⟨fun _ => Or.inl h6, fun _ => by decide⟩⟩
    · rw [if_neg h6]
      refine ⟨Or.inl rfl, ⟨fun h => absurd rfl h, ?_⟩⟩
      rintro (g | ⟨u, g1, g2, -⟩)
      · exact absurd g h6
      · omega
  obtain ⟨c2, e2, h2⟩ := fc_L45 hw n 4000 c1 (Nat.le_refl n) (by omega) hc
  rw [e2, kbs rfl]
  exact ⟨c2, rfl, CI_IsC hw h2⟩
/-- the model's counting -/
def usT (k a b : Nat → Int32) (u j : Nat) : Prop := ¬ k u = 0 ∧ (a u = nI j ∨ b u = nI j)
