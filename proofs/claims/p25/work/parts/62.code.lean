/-! ===== the law's own methods ===== -/
theorem below_ok (x : Int32) {k : Nat} (h0 : 0 < k) (hk : k < 2 ^ 31) : ∃ j, j < k ∧ f_L_below x (nI k) = some (nI j) := by
  obtain ⟨j, hj, e⟩ := pk_andE x (m := 2147483647) 31 (by decide)
  rw [f_L_below, if_neg (nI_ne0 h0 hk), e, pk_rem hj h0 hk]
  exact ⟨j % k, Nat.mod_lt _ h0, rfl⟩
theorem cell_ok {m xL : Nat} {xs : Nat → Int32} (hm : m < 2 ^ 31) (hL : xL < 2 ^ 31) : ∃ y, f_L_cell (nI m) xL xs = some y := by
  rw [f_L_cell]
  show ∃ y, (if nI xL ≤ nI m then _ else _) = some y
  rcases Nat.lt_or_ge m xL with g | g
  · rw [if_neg (nI_ge g hL), rdc_N g hL]
    exact ⟨_, rfl⟩
  · rw [if_pos (nI_le g hm)]
    exact ⟨_, rfl⟩
theorem vb_L {k : Nat → Int32} (h0 : k 0 ≠ 6) : ∀ (j fuel : Nat), j < 40 → j < fuel → ∃ v, v ≤ j ∧ k v ≠ 6 ∧ f_L_valueBefore_L8 k fuel (nI j) = some (nI v) := by
  intro j
  induction j with
  | zero =>
    intro fuel _ hf
    obtain ⟨m, rfl, hm⟩ := fuel_s hf
    rw [f_L_valueBefore_L8, rdc_N (by omega) (by omega), nI_clamp (by omega), if_neg h0]
    exact ⟨0, Nat.le_refl 0, h0, rfl⟩
  | succ j ih =>
    intro fuel hj hf
    obtain ⟨m, rfl, hm⟩ := fuel_s hf
    rw [f_L_valueBefore_L8, rdc_N (by omega) (by omega), nI_clamp (by omega)]
    by_cases h : k (j + 1) = 6
    · rw [if_pos h, pk_m1]
      obtain ⟨v, h1, h2, h3⟩ := ih m (by omega) (by omega)
      exact ⟨v, by omega, h2, h3⟩
    · rw [if_neg h]
      exact ⟨j + 1, Nat.le_refl _, h, rfl⟩
theorem valueBefore_ok {k : Nat → Int32} {i j : Nat} (h0 : k 0 ≠ 6) (hi : i < 40) (hj : j < i) : ∃ v, v < i ∧ k v ≠ 6 ∧ f_L_valueBefore (nI i) (nI j) k = some (nI v) := by
  obtain ⟨i', rfl⟩ : ∃ i', i = i' + 1 := ⟨i - 1, by omega⟩
  rw [f_L_valueBefore, nI_pred, if_neg (nI_nlt (by omega) (by omega))]
  obtain ⟨v, h1, h2, h3⟩ := vb_L h0 j 4000 (by omega) (by omega)
  rw [h3, kbs rfl]
  exact ⟨v, by omega, h2, rfl⟩
theorem uses_ok {k a b : Nat → Int32} {p : Int32} {u : Nat} (hu : u < 40) : f_L_uses (nI u) p k a b = some (if ¬ k u = 0 ∧ (a u = p ∨ b u = p) then 1 else 0) := by
  rw [f_L_uses, rdc_N hu (by omega), nI_clamp (by omega)]
  by_cases h0 : k u = 0
  · rw [if_pos h0, if_neg (by simp [h0])]
  · rw [if_neg h0, rdc_N hu (by omega)]
    by_cases h1 : a u = p
    · rw [if_pos h1, if_pos ⟨h0, Or.inl h1⟩]
    · rw [if_neg h1, rdc_N hu (by omega)]
      by_cases h2 : b u = p
      · rw [if_pos h2, if_pos ⟨h0, Or.inr h2⟩]
      · rw [if_neg h2, if_neg (by simp [h1, h2])]
/-! the law's counting -/
theorem ct_L37 {n : Nat} {k a b : Nat → Int32} (hn : n ≤ 32) {j : Nat} (hj : j < n) : ∀ (d i fuel : Nat) (c : Nat → Int32), n - i = d → j < i → i ≤ n → d < fuel → (c j = 0 ∨ c j = 1) → ∃ c', f_L_count_L35 k a b (nI n) (nI j) fuel (nI i) c = some c' ∧ (∀ u, u ≠ j → c' u = c u) ∧ (c' j = 0 ∨ c' j = 1) ∧ (c' j ≠ 0 ↔ (c j ≠ 0 ∨ ∃ u, i ≤ u ∧ u < n ∧ c u ≠ 0 ∧ usT k a b u j)) := by
  intro d
  induction d with
  | zero =>
    intro i fuel c hd hji hi hf h01
    obtain ⟨m, rfl, hm⟩ := fuel_s hf
    rw [f_L_count_L35, if_pos (nI_le (by omega) (by omega))]
    refine ⟨c, rfl, fun u _ => rfl, h01, ⟨Or.inl, ?_⟩⟩
    rintro (g | ⟨u, g1, g2, -⟩)
    · exact g
    · omega
  | succ d ih =>
    intro i fuel c hd hji hi hf h01
    obtain ⟨m, rfl, hm⟩ := fuel_s hf
    have hin : i < n := by omega
    rw [f_L_count_L35, if_neg (nI_ge hin (by omega)), rdc_N (by omega) (by omega), nI_clamp (n := j) (by omega), nI_clamp (n := i) (by omega), nI_1]
    have fin : ∀ v : Int32, (v = 0 ∨ v = 1) → (v ≠ 0 ↔ (c j ≠ 0 ∨ (c i ≠ 0 ∧ usT k a b i j))) → ∃ c', f_L_count_L35 k a b (nI n) (nI j) m (nI (i + 1)) (upd c j v) = some c' ∧ (∀ u, u ≠ j → c' u = c u) ∧ (c' j = 0 ∨ c' j = 1) ∧ (c' j ≠ 0 ↔ (c j ≠ 0 ∨ ∃ u, i ≤ u ∧ u < n ∧ c u ≠ 0 ∧ usT k a b u j)) := by
      intro v hv hiff
      obtain ⟨c', h1, h2, h3, h4⟩ := ih (i + 1) m (upd c j v) (by omega) (by omega) (by omega) (by omega) (by rw [pk_us]; exact hv)
      refine ⟨c', h1, fun u hu => by rw [h2 u hu, pk_un hu], h3, h4.trans ?_⟩
      rw [pk_us, hiff]
      constructor
      · rintro ((g | ⟨g1, g2⟩) | ⟨u, g1, g2, g3, g4⟩)
        · exact Or.inl g
        · exact Or.inr ⟨i, Nat.le_refl i, hin, g1, g2⟩
        · exact Or.inr ⟨u, by omega, g2, by rw [pk_un (by omega)] at g3; exact g3, g4⟩
      · rintro (g | ⟨u, g1, g2, g3, g4⟩)
        · exact Or.inl (Or.inl g)
        · rcases Nat.lt_or_ge i u with q | q
          · exact Or.inr ⟨u, q, g2, by rw [pk_un (by omega)]; exact g3, g4⟩
          · have e : u = i := by omega
            rw [e] at g3 g4
            exact Or.inl (Or.inr ⟨g3, g4⟩)
    by_cases h0 : c j = 0
    · rw [if_pos h0, rdc_N (by omega) (by omega)]
      by_cases h1 : c i = 0
      · rw [if_pos h1, rdc_N (by omega) (by omega)]
        exact fin 0 (Or.inl rfl) ⟨fun h => absurd rfl h, fun h => h.elim (fun g => absurd h0 g) (fun g => absurd h1 g.1)⟩
      · rw [if_neg h1, uses_ok (by omega)]
        by_cases h2 : ¬ k i = 0 ∧ (a i = nI j ∨ b i = nI j)
        · rw [if_pos h2, kbs rfl, if_neg (by decide), rdc_N (by omega) (by omega)]
          exact fin 1 (Or.inr rfl) ⟨fun _ => Or.inr ⟨h1, h2⟩, fun _ => by decide⟩
        · rw [if_neg h2, kbs rfl, if_pos rfl, rdc_N (by omega) (by omega)]
          exact fin 0 (Or.inl rfl) ⟨fun h => absurd rfl h, fun h => h.elim (fun g => absurd h0 g) (fun g => absurd g.2 h2)⟩
    · rw [if_neg h0, rdc_N (by omega) (by omega)]
      exact fin 1 (Or.inr rfl) ⟨fun _ => Or.inl h0, fun _ => by decide⟩
theorem ct_L7 {n : Nat} {k a b : Nat → Int32} (hn : n ≤ 32) : ∀ (i fuel : Nat) (c : Nat → Int32), i ≤ n → i < fuel → (∀ j, i ≤ j → j < n → (c j = 0 ∨ c j = 1) ∧ (c j ≠ 0 ↔ (k j = 6 ∨ ∃ u, j < u ∧ u < n ∧ c u ≠ 0 ∧ usT k a b u j))) → ∃ c', f_L_count_L5 k a b (nI n) fuel (nI i - 1) c = some c' ∧ IsC n k (usT k a b) c' := by
  intro i
  induction i with
  | zero =>
    intro fuel c hi hf hc
    obtain ⟨m, rfl, hm⟩ := fuel_s hf
    rw [f_L_count_L5, nI0m1, if_pos m1_lt0]
    exact ⟨c, rfl, fun j hj => hc j (Nat.zero_le j) hj⟩
  | succ i ih =>
    intro fuel c hi hf hc
    obtain ⟨m, rfl, hm⟩ := fuel_s hf
    have hin : i < n := by omega
    rw [f_L_count_L5, nI_m1, if_neg (nI_pos (by omega)), rdc_N (by omega) (by omega), nI_clamp (by omega), sub1, nI_1]
    have fin : ∀ v : Int32, (v = if k i = 6 then 1 else 0) → ∃ c', (Option.bind (f_L_count_L35 k a b (nI n) (nI i) 4000 (nI (i + 1)) (upd c i v)) fun v37 => f_L_count_L5 k a b (nI n) m (nI i - 1) v37) = some c' ∧ IsC n k (usT k a b) c' := by
      intro v hv
      have hv01 : v = 0 ∨ v = 1 := by rw [hv]; split <;> simp
      have hv6 : v ≠ 0 ↔ k i = 6 := by
        rw [hv]
        by_cases h6 : k i = 6
        · rw [if_pos h6]; exact ⟨fun _ => h6, fun _ => by decide⟩
        · rw [if_neg h6]; exact ⟨fun h => absurd rfl h, fun h => absurd h h6⟩
      obtain ⟨c', h1, h2, h3, h4⟩ := ct_L37 (k := k) (a := a) (b := b) hn hin (n - (i + 1)) (i + 1) 4000 (upd c i v) rfl (by omega) (by omega) (by omega) (by rw [pk_us]; exact hv01)
      rw [h1, kbs rfl]
      refine ih m c' (by omega) (by omega) (fun j g1 g2 => ?_)
      rcases Nat.lt_or_ge i j with q | q
      · have ej : c' j = c j := by rw [h2 j (by omega), pk_un (by omega)]
        rw [ej]
        refine ⟨(hc j q g2).1, (hc j q g2).2.trans ?_⟩
        have eu : ∀ u, j < u → c' u = c u := fun u hu => by rw [h2 u (by omega), pk_un (by omega)]
        constructor
        · rintro (z | ⟨u, z1, z2, z3, z4⟩)
          · exact Or.inl z
          · exact Or.inr ⟨u, z1, z2, by rw [eu u z1]; exact z3, z4⟩
        · rintro (z | ⟨u, z1, z2, z3, z4⟩)
          · exact Or.inl z
          · exact Or.inr ⟨u, z1, z2, by rw [← eu u z1]; exact z3, z4⟩
      · have e : j = i := by omega
        rw [e]
        refine ⟨h3, h4.trans ?_⟩
        rw [pk_us, hv6]
        have eu : ∀ u, i < u → c' u = upd c i v u := fun u hu => h2 u (by omega)
        constructor
        · rintro (z | ⟨u, z1, z2, z3, z4⟩)
          · exact Or.inl z
          · exact Or.inr ⟨u, z1, z2, by rw [eu u z1]; exact z3, z4⟩
        · rintro (z | ⟨u, z1, z2, z3, z4⟩)
          · exact Or.inl z
          · exact Or.inr ⟨u, z1, z2, by rw [← eu u z1]; exact z3, z4⟩
    by_cases h6 : k i = 6
    · rw [if_pos h6, rdc_N (by omega) (by omega)]
      exact fin 1 (by rw [if_pos h6])
    · rw [if_neg h6, rdc_N (by omega) (by omega)]
      exact fin 0 (by rw [if_neg h6])
theorem count_ok {n : Nat} {k a b : Nat → Int32} (hn : n ≤ 32) (c : Nat → Int32) : ∃ c', f_L_count (nI n) k a b c = some c' ∧ IsC n k (usT k a b) c' := by
  obtain ⟨c', h1, h2⟩ := ct_L7 (k := k) (a := a) (b := b) hn n 4000 c (Nat.le_refl n) (by omega) (fun j g1 g2 => by omega)
  rw [f_L_count, h1, kbs rfl]
  exact ⟨c', rfl, h2⟩
/-! ===== the code that the law makes ===== -/
def BC (n : Nat) (kC fC sC iC cC k a b : Nat → Int32) : Prop :=
  WF n kC fC sC ∧ (∀ j, j < n → k j = kC j ∧ (kC j = 0 → a j = iC j ∧ b j = -1) ∧ (kC j ≠ 0 → a j = fC j ∧ b j = sC j)) ∧ IsC n kC (usR fC sC) cC
theorem BC.count {n : Nat} {kC fC sC iC cC k a b : Nat → Int32} (hn : n ≤ 32) (h : BC n kC fC sC iC cC k a b) (c : Nat → Int32) : ∃ c', f_L_count (nI n) k a b c = some c' ∧ ∀ j, j < n → c' j = cC j := by
  obtain ⟨hw, hm, hc⟩ := h
  obtain ⟨cM, e, hM⟩ := count_ok (k := k) (a := a) (b := b) hn c
  refine ⟨cM, e, fun j hj => (IsC_uniq hc hM (fun j hj => ((hm j hj).1).symm) (fun u j hu hju => ?_) j hj).symm⟩
  obtain ⟨m1, m2, m3⟩ := hm u hu
  unfold usR usT
  rw [m1]
  by_cases k0 : kC u = 0
  · rcases (hw.2 u hu).2 with ⟨-, h1, h2⟩ | ⟨h1, -⟩
    · rw [h1, h2]
      exact ⟨fun g => g.elim (fun e => absurd e.symm (nIm1 (by omega))) (fun e => absurd e.symm (nIm1 (by omega))), fun g => absurd k0 g.1⟩
    · exact absurd k0 h1
  · rw [(m3 k0).1, (m3 k0).2]
    exact ⟨fun g => ⟨k0, g⟩, fun g => g.2⟩
theorem BC.app {n : Nat} {kC fC sC iC cC k a b k' a' b' : Nat → Int32} (hc : BC n kC fC sC iC cC k a b) (g : n < 60) {x f s i : Int32} (hx : ∃ κ : Nat, κ ≤ 6 ∧ x = nI κ)
    (hk : k' n = x ∧ ∀ j, j < n → k' j = k j) (ha : ∀ j, j < n → a' j = a j) (hb : ∀ j, j < n → b' j = b j)
    (hr : (x = 0 ∧ f = -1 ∧ s = -1 ∧ a' n = i ∧ b' n = -1) ∨ (x ≠ 0 ∧ a' n = f ∧ b' n = s ∧ (∃ v, v < n ∧ f = nI v ∧ kC v ≠ 6) ∧ ((x ≠ 5 ∧ x ≠ 6 ∧ ∃ v, v < n ∧ s = nI v ∧ kC v ≠ 6) ∨ ((x = 5 ∨ x = 6) ∧ s = -1)))) :
    ∃ c', f_X4_append x f s i kC fC sC iC cC (nI n) = some (nI n, upd kC n x, upd fC n f, upd sC n s, upd iC n i, c', nI (n + 1), 0) ∧
      BC (n + 1) (upd kC n x) (upd fC n f) (upd sC n s) (upd iC n i) c' k' a' b' := by
  obtain ⟨hw, hm, -⟩ := hc
  have hw1 : WF (n + 1) (upd kC n x) (upd fC n f) (upd sC n s) := by
    refine ⟨by omega, fun j hj => ?_⟩
    by_cases e : j = n
    · subst e
      rw [pk_us, pk_us, pk_us]
      refine ⟨hx, ?_⟩
      rcases hr with ⟨h1, h2, h3, -⟩ | ⟨h1, -, -, ⟨v, v1, v2, v3⟩, h4⟩
      · exact Or.inl ⟨h1, h2, h3⟩
      · refine Or.inr ⟨h1, ⟨v, v1, v2, by rw [pk_un (by omega)]; exact v3⟩, ?_⟩
        rcases h4 with ⟨k1, k2, w, w1, w2, w3⟩ | h4
        · exact Or.inl ⟨k1, k2, w, w1, w2, by rw [pk_un (by omega)]; exact w3⟩
        · exact Or.inr h4
    · have hj' : j < n := by omega
      obtain ⟨h1, h2⟩ := hw.2 j hj'
      rw [pk_un e, pk_un e, pk_un e]
      refine ⟨h1, ?_⟩
      rcases h2 with h2 | ⟨h2, ⟨v, v1, v2, v3⟩, h4⟩
      · exact Or.inl h2
      · refine Or.inr ⟨h2, ⟨v, v1, v2, by rw [pk_un (by omega)]; exact v3⟩, ?_⟩
        rcases h4 with ⟨k1, k2, w, w1, w2, w3⟩ | h4
        · exact Or.inl ⟨k1, k2, w, w1, w2, by rw [pk_un (by omega)]; exact w3⟩
        · exact Or.inr h4
  obtain ⟨c', e1, e2⟩ := findCounting_ok hw1 cC
  refine ⟨c', ?_, hw1, fun j hj => ?_, e2⟩
  · have h : f_X1_isFull (nI n) = some 0 := by rw [f_X1_isFull, if_pos (show nI n < 60 from nI_lt (b := 60) g (by omega))]
    rw [f_X4_append, f_X1_append, h, kbs rfl, if_pos rfl, rdc_N (by omega) (by omega), rdc_N (by omega) (by omega), rdc_N (by omega) (by omega), rdc_N (by omega) (by omega), nI_clamp (by omega), nI_1, e1, kbs rfl, kbs rfl]
  · by_cases e : j = n
    · subst e
      rw [pk_us, pk_us, pk_us, pk_us]
      refine ⟨hk.1, fun h0 => ?_, fun h0 => ?_⟩
      · rcases hr with ⟨-, -, -, h⟩ | ⟨h, -⟩
        · exact h
        · exact absurd h0 h
      · rcases hr with ⟨h, -⟩ | ⟨-, h1, h2, -⟩
        · exact absurd h h0
        · exact ⟨h1, h2⟩
    · rw [pk_un e, pk_un e, pk_un e, pk_un e, hk.2 j (by omega), ha j (by omega), hb j (by omega)]
      exact hm j (by omega)
theorem notFull {n : Nat} (g : n < 60) : f_X4_refuseFullCode (nI n) = some () := by
  have h : f_X1_isFull (nI n) = some 0 := by rw [f_X1_isFull, if_pos (show nI n < 60 from nI_lt (b := 60) g (by omega))]
  rw [f_X4_refuseFullCode, h, kbs rfl, if_pos rfl]
theorem isValue {n v : Nat} {kC : Nat → Int32} (hn : n ≤ 60) (hv : v < n) (h : kC v ≠ 6) : f_X4_refuseNoValue (nI v) kC (nI n) = some () := by
  rw [f_X4_refuseNoValue, hasValueC hn hv, if_neg h, kbs rfl, if_neg (by decide)]
theorem kind_ok {n v : Nat} {kC : Nat → Int32} (hn : n ≤ 60) (hv : v < n) : f_X4_kind (nI v) kC (nI n) = some (kC v) := by
  rw [f_X4_kind, f_X4_refuseNoInstruction, hasC_in hn hv, kbs rfl, if_neg (by decide), kbs rfl, kindOfC hn hv, kbs rfl]
theorem constant_ok {n : Nat} {kC fC sC iC cC k a b k' a' b' : Nat → Int32} {x : Int32} (hc : BC n kC fC sC iC cC k a b) (g : n < 60)
    (hk : k' n = 0 ∧ ∀ j, j < n → k' j = k j) (ha : a' n = x ∧ ∀ j, j < n → a' j = a j) (hb : b' n = -1 ∧ ∀ j, j < n → b' j = b j) :
    ∃ k1 f1 s1 i1 c1, f_X4_constant x kC fC sC iC cC (nI n) = some (nI n, k1, f1, s1, i1, c1, nI (n + 1), 0) ∧ BC (n + 1) k1 f1 s1 i1 c1 k' a' b' := by
  obtain ⟨c', e1, e2⟩ := hc.app g (x := 0) (f := -1) (s := -1) (i := x) ⟨0, by omega, rfl⟩ hk ha.2 hb.2 (Or.inl ⟨rfl, rfl, rfl, ha.1, hb.1⟩)
  exact ⟨_, _, _, _, c', by rw [f_X4_constant, notFull g, kbs rfl, e1, kbs rfl], e2⟩
theorem operate_ok {n va vb κ : Nat} {kC fC sC iC cC k a b k' a' b' : Nat → Int32} (hc : BC n kC fC sC iC cC k a b) (g : n < 60) (hκ : 1 ≤ κ ∧ κ ≤ 4) (hva : va < n) (h6a : kC va ≠ 6) (hvb : vb < n) (h6b : kC vb ≠ 6)
    (hk : k' n = nI κ ∧ ∀ j, j < n → k' j = k j) (ha : a' n = nI va ∧ ∀ j, j < n → a' j = a j) (hb : b' n = nI vb ∧ ∀ j, j < n → b' j = b j) :
    ∃ k1 f1 s1 i1 c1, f_X4_operate (nI κ) (nI va) (nI vb) kC fC sC iC cC (nI n) = some (nI n, k1, f1, s1, i1, c1, nI (n + 1), 0) ∧ BC (n + 1) k1 f1 s1 i1 c1 k' a' b' := by
  have hn := hc.1.1
  obtain ⟨c', e1, e2⟩ := hc.app g (x := nI κ) (f := nI va) (s := nI vb) (i := 0) ⟨κ, by omega, rfl⟩ hk ha.2 hb.2 (Or.inr ⟨nI_ne0 (by omega) (by omega), ha.1, hb.1, ⟨va, hva, rfl, h6a⟩, Or.inl ⟨fun z => by
    have := nI_i (a := κ) (b := 5) (by omega) (by omega) z; omega, fun z => by
    have := nI_i (a := κ) (b := 6) (by omega) (by omega) z; omega, vb, hvb, rfl, h6b⟩⟩)
  have hr : f_X4_refuseKindOutside (nI κ) 1 4 = some () := by
    rw [f_X4_refuseKindOutside, if_neg (show ¬ nI κ < 1 from nI_nlt (a := κ) (b := 1) (by omega) (by omega)), if_pos (show nI κ ≤ 4 from nI_le (b := 4) (by omega) (by omega))]
  exact ⟨_, _, _, _, c', by rw [f_X4_operate, isValue hn hva h6a, kbs rfl, isValue hn hvb h6b, kbs rfl, hr, kbs rfl, notFull g, kbs rfl, e1, kbs rfl], e2⟩
theorem pass_ok {n va κ : Nat} {kC fC sC iC cC k a b k' a' b' : Nat → Int32} (hc : BC n kC fC sC iC cC k a b) (g : n < 60) (hκ : κ = 5 ∨ κ = 6) (hva : va < n) (h6a : kC va ≠ 6)
    (hk : k' n = nI κ ∧ ∀ j, j < n → k' j = k j) (ha : a' n = nI va ∧ ∀ j, j < n → a' j = a j) (hb : b' n = -1 ∧ ∀ j, j < n → b' j = b j) :
    ∃ k1 f1 s1 i1 c1, f_X4_pass (nI κ) (nI va) kC fC sC iC cC (nI n) = some (nI n, k1, f1, s1, i1, c1, nI (n + 1), 0) ∧ BC (n + 1) k1 f1 s1 i1 c1 k' a' b' := by
  have hn := hc.1.1
  obtain ⟨c', e1, e2⟩ := hc.app g (x := nI κ) (f := nI va) (s := -1) (i := 0) ⟨κ, by omega, rfl⟩ hk ha.2 hb.2 (Or.inr ⟨nI_ne0 (by omega) (by omega), ha.1, hb.1, ⟨va, hva, rfl, h6a⟩, Or.inr ⟨by
    rcases hκ with rfl | rfl
    · exact Or.inl rfl
    · exact Or.inr rfl, rfl⟩⟩)
  have hr : f_X4_refuseKindOutside (nI κ) 5 6 = some () := by
    rcases hκ with rfl | rfl <;> rfl
  exact ⟨_, _, _, _, c', by rw [f_X4_pass, isValue hn hva h6a, kbs rfl, hr, kbs rfl, notFull g, kbs rfl, e1, kbs rfl], e2⟩
set_option maxHeartbeats 2000000 in
theorem build_L {n u xL : Nat} {xs : Nat → Int32} (hu : n = 3 + u) (hn : n ≤ 32) (hL : xL < 2 ^ 31) : ∀ (d i fuel : Nat) (kC fC sC iC cC k a b : Nat → Int32) (al : Int32), n - i = d → i ≤ n → d < fuel → BC i kC fC sC iC cC k a b →
    ∃ (kC' fC' sC' iC' cC' k' a' b' : Nat → Int32) (al' : Int32), f_L_build_L17 xL xs 1 (nI u) fuel (nI i) kC fC sC iC cC (nI i) al k a b = some (kC', fC', sC', iC', cC', nI n, al', k', a', b') ∧ BC n kC' fC' sC' iC' cC' k' a' b' := by
  intro d
  induction d with
  | zero =>
    intro i fuel kC fC sC iC cC k a b al hd hi hf hc
    obtain ⟨m, rfl, hm⟩ := fuel_s hf
    have e : i = n := by omega
    have e3 : (3 : Int32) + nI u = nI n := by rw [hu]; exact nI_add 3 u
    rw [f_L_build_L17, e3, if_pos (nI_le (by omega) (by omega)), e]
    rw [e] at hc
    exact ⟨_, _, _, _, _, _, _, _, _, rfl, hc⟩
  | succ d ih =>
    intro i fuel kC fC sC iC cC k a b al hd hi hf hc
    obtain ⟨m, rfl, hm⟩ := fuel_s hf
    have hin : i < n := by omega
    have hi40 : i < 40 := by omega
    have e3 : (3 : Int32) + nI u = nI n := by rw [hu]; exact nI_add 3 u
    have e20 : nI i - nI i / 20 * 20 = nI (i % 20) := pk_rem (a := i) (d := 20) (by omega) (by omega) (by omega)
    have e2 : (1 : Int32) + 1 + nI (i % 20) = nI (2 + i % 20) := nI_add 2 (i % 20)
    have hmod : i % 20 < 20 := Nat.mod_lt _ (by omega)
    obtain ⟨y, hy⟩ := cell_ok (m := 2 + i % 20) (xL := xL) (xs := xs) (by omega) hL
    rw [f_L_build_L17, e3, if_neg (nI_ge hin (by omega)), e20, e2, hy, kbs rfl, nI_clamp (n := i) (by omega)]
    simp only [rdc_N hi40 (show 40 < 2 ^ 31 by omega)]
    generalize y + nI i / 20 * 104729 = cc
    -- the kind
    have E53 : ∃ r53 : Int32, (if nI i = 0 then some 0 else Option.bind (f_L_below cc 10) fun u64 => some u64) = some r53 ∧ (i = 0 → r53 = 0) ∧ ∃ j, j < 10 ∧ r53 = nI j := by
      by_cases h0 : i = 0
      · rw [if_pos (by rw [h0]; rfl)]
        exact ⟨0, rfl, fun _ => rfl, 0, by omega, rfl⟩
      · rw [if_neg (nI_ne0 (by omega) (by omega))]
        obtain ⟨j, hj, e⟩ := below_ok cc (k := 10) (by omega) (by omega)
        have e' : f_L_below cc 10 = some (nI j) := e
        rw [e', kbs rfl]
        exact ⟨nI j, rfl, fun g => absurd g h0, j, hj, rfl⟩
    obtain ⟨r53, e53, z53, j53, hj53, rfl⟩ := E53
    rw [e53, kbs rfl]
    have E74 : ∃ (K : Nat → Int32) (κ : Nat), (if (upd k i (nI j53)) i ≤ 6 then some (upd k i (nI j53)) else Option.bind (f_L_below (cc >>> (4 &&& 31)) 4) fun u86 => some (upd (upd k i (nI j53)) i (1 + u86))) = some K ∧ κ ≤ 6 ∧ K i = nI κ ∧ (i = 0 → κ = 0) ∧ ∀ j, j < i → K j = k j := by
      rw [pk_us]
      rcases Nat.lt_or_ge 6 j53 with g | g
      · rw [if_neg (show ¬ nI j53 ≤ 6 from nI_ge (a := 6) g (by omega))]
        obtain ⟨j, hj, e⟩ := below_ok (cc >>> (4 &&& 31)) (k := 4) (by omega) (by omega)
        have e' : f_L_below (cc >>> (4 &&& 31)) 4 = some (nI j) := e
        have e1 : (1 : Int32) + nI j = nI (1 + j) := nI_add 1 j
        rw [e', kbs rfl, e1]
        refine ⟨_, 1 + j, rfl, by omega, pk_us, fun h => ?_, fun q hq => by rw [pk_un (by omega), pk_un (by omega)]⟩
        have := z53 h
        have := nI_i (a := j53) (b := 0) (by omega) (by omega) this
        omega
      · rw [if_pos (show nI j53 ≤ 6 from nI_le (b := 6) g (by omega))]
        refine ⟨_, j53, rfl, g, pk_us, fun h => ?_, fun q hq => by rw [pk_un (by omega)]⟩
        exact nI_i (a := j53) (b := 0) (by omega) (by omega) (z53 h)
    obtain ⟨K, κ, e74, hκ, hKi, hK0, hKo⟩ := E74
    rw [e74, kbs rfl]
    -- K 0 is no OUT
    have hk6 : 0 < i → K 0 ≠ 6 := fun h => by
      rw [hKo 0 h, (hc.2.1 0 h).1]
      rcases (hc.1.2 0 h).2 with ⟨g, -⟩ | ⟨-, ⟨v, hv, -⟩, -⟩
      · rw [g]; decide
      · omega
    have val : ∀ x : Int32, 0 < i → ∃ v, v < i ∧ kC v ≠ 6 ∧ (Option.bind (f_L_below x (nI i)) fun u => Option.bind (f_L_valueBefore (nI i) u K) fun w => some w) = some (nI v) := fun x h => by
      obtain ⟨j, hj, e⟩ := below_ok x (k := i) h (by omega)
      obtain ⟨v, h1, h2, h3⟩ := valueBefore_ok (hk6 h) hi40 hj
      exact ⟨v, h1, by rw [← (hc.2.1 v h1).1, ← hKo v h1]; exact h2, by rw [e, kbs rfl, h3, kbs rfl]⟩
    rw [hKi]
    by_cases k0 : κ = 0
    · -- a constant
      subst k0
      rw [if_pos (show nI 0 = 0 from rfl), kbs rfl, if_pos (show nI 0 < 1 by decide), kbs rfl, if_pos (show nI 0 = 0 from rfl), pk_us]
      obtain ⟨k1, f1, s1, i1, c1, g1, g2⟩ := constant_ok (k' := K) (a' := upd a i (cc >>> (5 &&& 31) - 5000)) (b' := upd b i (-1)) hc (by omega) ⟨hKi, hKo⟩ ⟨pk_us, fun q hq => pk_un (by omega)⟩ ⟨pk_us, fun q hq => pk_un (by omega)⟩
      rw [g1, kbs rfl, kbs rfl]
      dsimp only
      have hki : k1 i = nI 0 := by rw [← (g2.2.1 i (by omega)).1, hKi]
      rw [if_pos rfl, kind_ok (by omega) (by omega), kbs rfl, hki, if_pos rfl, nI_1]
      exact ih (i + 1) m k1 f1 s1 i1 c1 _ _ _ 0 (by omega) (by omega) (by omega) g2
    · have hi0 : 0 < i := Nat.pos_of_ne_zero (fun h => k0 (hK0 h))
      have n0 : ¬ nI κ = 0 := nI_ne0 (by omega) (by omega)
      obtain ⟨va, hva, h6a, eva⟩ := val (cc >>> (7 &&& 31)) hi0
      rw [if_neg n0, eva, kbs rfl, if_neg (show ¬ nI κ < 1 from nI_nlt (a := κ) (b := 1) (by omega) (by omega))]
      rcases Nat.lt_or_ge 4 κ with g | g
      · -- a copy, or an output
        rw [if_pos (show (4 : Int32) < nI κ from nI_lt (a := 4) g (by omega)), kbs rfl, kbs rfl, if_neg n0, if_pos (show (4 : Int32) < nI κ from nI_lt (a := 4) g (by omega)), pk_us]
        obtain ⟨k1, f1, s1, i1, c1, g1, g2⟩ := pass_ok (κ := κ) (va := va) (k' := K) (a' := upd a i (nI va)) (b' := upd b i (-1)) hc (by omega) (by omega) hva h6a ⟨hKi, hKo⟩ ⟨pk_us, fun q hq => pk_un (by omega)⟩ ⟨pk_us, fun q hq => pk_un (by omega)⟩
        rw [g1, kbs rfl, kbs rfl, kbs rfl]
        dsimp only
        have hki : k1 i = nI κ := by rw [← (g2.2.1 i (by omega)).1, hKi]
        rw [if_pos rfl, kind_ok (by omega) (by omega), kbs rfl, hki, if_pos rfl, nI_1]
        exact ih (i + 1) m k1 f1 s1 i1 c1 _ _ _ 0 (by omega) (by omega) (by omega) g2
      · -- an operation
        obtain ⟨vb, hvb, h6b, evb⟩ := val (cc >>> (13 &&& 31)) hi0
        rw [if_neg (show ¬ (4 : Int32) < nI κ from nI_nlt (a := 4) (b := κ) (by omega) (by omega)), evb, kbs rfl, kbs rfl, if_neg n0, if_neg (show ¬ (4 : Int32) < nI κ from nI_nlt (a := 4) (b := κ) (by omega) (by omega)), pk_us, pk_us]
        obtain ⟨k1, f1, s1, i1, c1, g1, g2⟩ := operate_ok (κ := κ) (va := va) (vb := vb) (k' := K) (a' := upd a i (nI va)) (b' := upd b i (nI vb)) hc (by omega) (by omega) hva h6a hvb h6b ⟨hKi, hKo⟩ ⟨pk_us, fun q hq => pk_un (by omega)⟩ ⟨pk_us, fun q hq => pk_un (by omega)⟩
        rw [g1, kbs rfl, kbs rfl, kbs rfl]
        dsimp only
        have hki : k1 i = nI κ := by rw [← (g2.2.1 i (by omega)).1, hKi]
        rw [if_pos rfl, kind_ok (by omega) (by omega), kbs rfl, hki, if_pos rfl, nI_1]
        exact ih (i + 1) m k1 f1 s1 i1 c1 _ _ _ 0 (by omega) (by omega) (by omega) g2
/-- the code that the law makes -/
theorem build_ok {xL : Nat} {xs : Nat → Int32} (hL : xL < 2 ^ 31) (kC fC sC iC cC k a b : Nat → Int32) (al : Int32) :
    ∃ (n : Nat) (kC' fC' sC' iC' cC' k' a' b' : Nat → Int32) (al' : Int32), n ≤ 32 ∧ f_L_build 1 kC fC sC iC cC (nI 0) al k a b xL xs = some (nI n, kC', fC', sC', iC', cC', nI n, al', k', a', b') ∧ BC n kC' fC' sC' iC' cC' k' a' b' := by
  obtain ⟨y, hy⟩ := cell_ok (m := 1) (xL := xL) (xs := xs) (by omega) hL
  have hy' : f_L_cell 1 xL xs = some y := hy
  obtain ⟨u, hu, eu⟩ := below_ok y (k := 30) (by omega) (by omega)
  have eu' : f_L_below y 30 = some (nI u) := eu
  obtain ⟨kC', fC', sC', iC', cC', k', a', b', al', e1, e2⟩ := build_L (n := 3 + u) (xs := xs) rfl (by omega) hL (3 + u) 0 4000 kC fC sC iC cC k a b al rfl (Nat.zero_le _) (by omega) ⟨⟨by omega, fun j hj => absurd hj (Nat.not_lt_zero j)⟩, fun j hj => absurd hj (Nat.not_lt_zero j), fun j hj => absurd hj (Nat.not_lt_zero j)⟩
  have e3 : (3 : Int32) + nI u = nI (3 + u) := nI_add 3 u
  refine ⟨3 + u, kC', fC', sC', iC', cC', k', a', b', al', by omega, ?_, e2⟩
  have e1' : f_L_build_L17 xL xs 1 (nI u) 4000 0 kC fC sC iC cC (nI 0) al k a b = _ := e1
  rw [f_L_build, hy', kbs rfl, eu', kbs rfl, e1', kbs rfl]
  dsimp only
  rw [f_X4_size, f_X1_length, kbs rfl, kbs rfl, e3, if_pos rfl]
