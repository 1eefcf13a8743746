/-! ===== the law's checks, one by one ===== -/
def evD (f : Nat → Int32) : Nat → Nat → List Int32
  | 0, _ => []
  | d + 1, t => (if isOp (f (4 * t)) = true then [f (4 * t)] else []) ++ evD f d (t + 1)
theorem evs_D {f : Nat → Int32} : ∀ (d t : Nat), evs f (t + d) = evs f t ++ evD f d t
  | 0, t => (List.append_nil _).symm
  | d + 1, t => by
    have h := evs_D (f := f) d (t + 1)
    rw [show t + (d + 1) = t + 1 + d by omega, h, evs, evD, List.append_assoc]
theorem evs_D0 {f : Nat → Int32} {a : Nat} : evs f a = evD f a 0 := by
  have h := evs_D (f := f) a 0
  rw [Nat.zero_add] at h
  exact h
def prD (k c : Nat → Int32) : Nat → Nat → List Int32
  | 0, _ => []
  | d + 1, i => (if c i ≠ 0 ∧ k i ≠ 0 then [k i] else []) ++ prD k c d (i + 1)
theorem prog_D {k c : Nat → Int32} : ∀ (d t : Nat), prog k c (t + d) = prog k c t ++ prD k c d t
  | 0, t => (List.append_nil _).symm
  | d + 1, t => by
    have h := prog_D (k := k) (c := c) d (t + 1)
    rw [show t + (d + 1) = t + 1 + d by omega, h, prog, prD, List.append_assoc]
theorem prog_D0 {k c : Nat → Int32} {a : Nat} : prog k c a = prD k c a 0 := by
  have h := prog_D (k := k) (c := c) a 0
  rw [Nat.zero_add] at h
  exact h
theorem prD_cong {k c k' c' : Nat → Int32} : ∀ (d i : Nat), (∀ j, i ≤ j → j < i + d → k j = k' j ∧ c j = c' j) → prD k c d i = prD k' c' d i
  | 0, _, _ => rfl
  | d + 1, i, h => by rw [prD, prD, prD_cong d (i + 1) (fun j h1 h2 => h j (by omega) (by omega)), (h i (Nat.le_refl i) (by omega)).1, (h i (Nat.le_refl i) (by omega)).2]
theorem kindOf_row {R : Nat} {x0 x1 x2 x3 : Int32} (h : RowOK R x0 x1 x2 x3) : (isOp x0 = true ∧ x0 ≠ 0 ∧ x0 ≤ 6) ∨ (isOp x0 = false ∧ (x0 = 0 ∨ (x0 ≠ 0 ∧ ¬ x0 ≤ 6 ∧ 7 ≤ x0 ∧ ¬ x0 ≤ 0))) := by
  rcases h.2 with rfl | rfl | ⟨rfl | rfl | rfl | rfl, -⟩ | ⟨rfl, -⟩ | ⟨rfl | rfl, -⟩ <;> decide
theorem numberIn_ok {q w b N : Nat} {f : Nat → Int32} (hq : q < b) (hw : w < 4) (hN : 4 * b ≤ N) (hb : N < 2 ^ 20) : f_X4_numberIn (nI q) (nI w) N f (nI b) = some (f (4 * q + w)) := by
  rw [f_X4_numberIn, rHas hq hw (by omega), kbs rfl, if_neg (by decide), at_ok hq hw hN hb, kbs rfl]
theorem alloc1 : f_X4_refuseNoAllocation 1 = some () := by rw [f_X4_refuseNoAllocation, if_neg (by decide)]
theorem stepw {t w a : Nat} {f : Nat → Int32} (ht : t < a) (hw : w < 4) (ha : a ≤ 240) : f_X4_step (nI t) (nI w) f (nI a) 1 = some (f (4 * t + w)) := by
  rw [f_X4_step, alloc1, kbs rfl, numberIn_ok ht hw (by omega) (by omega), kbs rfl]
theorem step0 {t a : Nat} {f : Nat → Int32} (ht : t < a) (ha : a ≤ 240) : f_X4_step (nI t) 0 f (nI a) 1 = some (f (4 * t)) := stepw (w := 0) ht (by omega) ha
theorem step1 {t a : Nat} {f : Nat → Int32} (ht : t < a) (ha : a ≤ 240) : f_X4_step (nI t) 1 f (nI a) 1 = some (f (4 * t + 1)) := stepw (w := 1) ht (by omega) ha
theorem piecew {t w a : Nat} {f : Nat → Int32} (ht : t < a) (hw : w < 4) (ha : a ≤ 180) : f_X4_piece (nI t) (nI w) f (nI a) 1 = some (f (4 * t + w)) := by
  rw [f_X4_piece, alloc1, kbs rfl, numberIn_ok ht hw (by omega) (by omega), kbs rfl]
theorem piece0 {t a : Nat} {f : Nat → Int32} (ht : t < a) (ha : a ≤ 180) : f_X4_piece (nI t) 0 f (nI a) 1 = some (f (4 * t)) := piecew (w := 0) ht (by omega) ha
theorem piece1 {t a : Nat} {f : Nat → Int32} (ht : t < a) (ha : a ≤ 180) : f_X4_piece (nI t) 1 f (nI a) 1 = some (f (4 * t + 1)) := piecew (w := 1) ht (by omega) ha
theorem piece2 {t a : Nat} {f : Nat → Int32} (ht : t < a) (ha : a ≤ 180) : f_X4_piece (nI t) 2 f (nI a) 1 = some (f (4 * t + 2)) := piecew (w := 2) ht (by omega) ha
theorem piece3 {t a : Nat} {f : Nat → Int32} (ht : t < a) (ha : a ≤ 180) : f_X4_piece (nI t) 3 f (nI a) 1 = some (f (4 * t + 3)) := piecew (w := 3) ht (by omega) ha
section SCAN
variable {n R a : Nat} {sN : Nat → Int32}
theorem scan_L (ha : a ≤ 240) (hS : StepOK R a sN) : ∀ (d t fuel : Nat), a - t = d → t ≤ a → d < fuel → ∃ t', t' ≤ a ∧ f_L_law_L120 (nI a) sN (nI a) 1 fuel (nI t) = some (nI t') ∧
    ((t' = a ∧ evD sN d t = []) ∨ (t' < a ∧ evD sN d t = sN (4 * t') :: evD sN (a - (t' + 1)) (t' + 1))) := by
  intro d
  induction d with
  | zero =>
    intro t fuel hd ht hf
    obtain ⟨m, rfl, hm⟩ := fuel_s hf
    rw [f_L_law_L120, if_pos (nI_le (by omega) (by omega))]
    exact ⟨t, ht, rfl, Or.inl ⟨by omega, rfl⟩⟩
  | succ d ih =>
    intro t fuel hd ht hf
    obtain ⟨m, rfl, hm⟩ := fuel_s hf
    have hta : t < a := by omega
    rw [f_L_law_L120, if_neg (nI_ge hta (by omega)), step0 hta ha, kbs rfl, nI_1, evD]
    obtain ⟨t', h1, h2, h3⟩ := ih (t + 1) m (by omega) (by omega) (by omega)
    rcases kindOf_row (hS t hta) with ⟨g1, g2, g3⟩ | ⟨g1, g2⟩
    · rw [if_neg g2, kbs rfl, if_pos g3, g1, if_pos rfl]
      exact ⟨t, ht, rfl, Or.inr ⟨hta, by rw [show a - (t + 1) = d by omega]; rfl⟩⟩
    · rw [g1, if_neg Bool.false_ne_true, List.nil_append]
      rcases g2 with g2 | ⟨g2, g3, -⟩
      · rw [if_pos g2]; exact ⟨t', h1, h2, h3⟩
      · rw [if_neg g2, kbs rfl, if_neg g3]; exact ⟨t', h1, h2, h3⟩
theorem match_L {k c : Nat → Int32} (hn : n ≤ 32) (ha : a ≤ 240) (hS : StepOK R a sN) : ∀ (d i fuel t : Nat), n - i = d → i ≤ n → d < fuel → t ≤ a → evD sN (a - t) t = prD k c d i →
    ∃ t', t' ≤ a ∧ f_L_law_L95 k c (nI n) (nI a) sN (nI a) 1 fuel (nI i) (nI t) = some (nI t') ∧ evD sN (a - t') t' = [] := by
  intro d
  induction d with
  | zero =>
    intro i fuel t hd hi hf ht he
    obtain ⟨m, rfl, hm⟩ := fuel_s hf
    rw [f_L_law_L95, if_pos (nI_le (by omega) (by omega))]
    exact ⟨t, ht, rfl, he⟩
  | succ d ih =>
    intro i fuel t hd hi hf ht he
    obtain ⟨m, rfl, hm⟩ := fuel_s hf
    have hin : i < n := by omega
    rw [f_L_law_L95, if_neg (nI_ge hin (by omega)), rdc_N (by omega) (by omega), nI_clamp (n := i) (by omega), nI_1]
    rw [prD] at he
    by_cases c0 : c i = 0
    · rw [if_pos c0]
      rw [if_neg (fun g => g.1 c0), List.nil_append] at he
      exact ih (i + 1) m t (by omega) (by omega) (by omega) ht he
    · rw [if_neg c0, rdc_N (by omega) (by omega)]
      by_cases k0 : k i = 0
      · rw [if_pos k0]
        rw [if_neg (fun g => g.2 k0), List.nil_append] at he
        exact ih (i + 1) m t (by omega) (by omega) (by omega) ht he
      · rw [if_neg k0]
        rw [if_pos ⟨c0, k0⟩] at he
        obtain ⟨t', h1, h2, h3⟩ := scan_L (sN := sN) ha hS (a - t) t 4000 rfl ht (by omega)
        rw [h2, kbs rfl]
        rcases h3 with ⟨-, h3⟩ | ⟨h4, h3⟩
        · rw [h3] at he; cases he
        · rw [h3] at he
          have e1 : sN (4 * t') = k i := (List.cons.inj he).1
          have e2 : evD sN (a - (t' + 1)) (t' + 1) = prD k c d (i + 1) := (List.cons.inj he).2
          rw [if_neg (fun g => by have := nI_i (by omega) (by omega) g; omega), step0 h4 ha, kbs rfl, rdc_N (by omega) (by omega), if_pos e1, nI_1]
          exact ih (i + 1) m (t' + 1) (by omega) (by omega) (by omega) (by omega) e2
theorem rest_L (ha : a ≤ 240) (hS : StepOK R a sN) : ∀ (d t fuel : Nat), a - t = d → t ≤ a → d < fuel → evD sN d t = [] → f_L_law_L187 (nI a) sN (nI a) 1 fuel (nI t) = some () := by
  intro d
  induction d with
  | zero =>
    intro t fuel hd ht hf he
    obtain ⟨m, rfl, hm⟩ := fuel_s hf
    rw [f_L_law_L187, if_pos (nI_le (by omega) (by omega))]
  | succ d ih =>
    intro t fuel hd ht hf he
    obtain ⟨m, rfl, hm⟩ := fuel_s hf
    have hta : t < a := by omega
    rw [f_L_law_L187, if_neg (nI_ge hta (by omega)), step0 hta ha, kbs rfl, nI_1]
    rw [evD] at he
    rcases kindOf_row (hS t hta) with ⟨g1, g2, g3⟩ | ⟨g1, g2⟩
    · rw [g1, if_pos rfl] at he; cases he
    · rw [g1, if_neg (by decide), List.nil_append] at he
      have h := ih (t + 1) m (by omega) (by omega) (by omega) he
      rcases g2 with g2 | ⟨g2, g3, g4, g5⟩
      · rw [if_pos (by rw [g2]; decide)]; exact h
      · rw [if_neg g5, kbs rfl, if_pos g4]; exact h
end SCAN
theorem ct_head (p : Nat → Bool) (t d : Nat) : fb_ct (fun j => p (t + j)) (d + 1) = (if p t = true then 1 else 0) + fb_ct (fun j => p (t + 1 + j)) d := by
  have h := fb_ct_split (fun j => p (t + j)) 1 d
  rw [Nat.add_comm 1 d] at h
  rw [h, fb_ct_succ]
  show 0 + (if p (t + 0) = true then 1 else 0) + _ = _
  rw [Nat.zero_add, Nat.add_zero]
  congr 1
  exact fb_ct_cong (fun j _ => by rw [Nat.add_assoc])
section PIECES
variable {n R a b : Nat} {sN pN : Nat → Int32}
theorem win_L {q v r y : Nat} (ha : a ≤ 240) (hb : b ≤ 180) (hq : q < b) (hv : v < 40) (e1 : pN (4 * q + 1) = nI r) (e3 : pN (4 * q + 3) = nI y) (hy : y < a) :
    ∀ (d t fuel : Nat) (e : Nat → Int32), y + 1 - t = d → t ≤ y + 1 → d < fuel → ∃ e', f_L_law_L295 sN (nI a) pN (nI b) 1 (nI q) (nI v) fuel (nI t) e = some e' ∧ e' v = e v + nI (wn sN (nI r) t d) ∧ ∀ j, j ≠ v → e' j = e j := by
  intro d
  induction d with
  | zero =>
    intro t fuel e hd ht hf
    obtain ⟨m, rfl, hm⟩ := fuel_s hf
    rw [f_L_law_L295, piece3 hq hb, kbs rfl, e3, if_pos (nI_lt (by omega) (by omega))]
    refine ⟨e, rfl, ?_, fun _ _ => rfl⟩
    show e v = e v + nI 0
    rw [nI_0, Int32.add_zero]
  | succ d ih =>
    intro t fuel e hd ht hf
    obtain ⟨m, rfl, hm⟩ := fuel_s hf
    have hta : t < a := by omega
    have hs : wn sN (nI r) t (d + 1) = (if isSt sN (nI r) t = true then 1 else 0) + wn sN (nI r) (t + 1) d := ct_head _ t d
    have key : ∀ δ : Nat, (δ = if isSt sN (nI r) t = true then 1 else 0) → ∃ e', f_L_law_L295 sN (nI a) pN (nI b) 1 (nI q) (nI v) m (nI (t + 1)) (upd e v (e v + nI δ)) = some e' ∧ e' v = e v + nI (wn sN (nI r) t (d + 1)) ∧ ∀ j, j ≠ v → e' j = e j := fun δ hδ => by
      obtain ⟨e', h1, h2, h3⟩ := ih (t + 1) m (upd e v (e v + nI δ)) (by omega) (by omega) (by omega)
      refine ⟨e', h1, ?_, fun j hj => by rw [h3 j hj, pk_un hj]⟩
      rw [h2, pk_us, hs, ← hδ, Int32.add_assoc, nI_add]
    rw [f_L_law_L295, piece3 hq hb, kbs rfl, e3, if_neg (nI_nlt (by omega) (by omega)), rdc_N hv (by omega), step0 hta ha, kbs rfl, nI_clamp (n := v) (by omega), nI_1]
    by_cases h8 : sN (4 * t) = 8
    · rw [if_pos h8, step1 hta ha, kbs rfl, piece1 hq hb, kbs rfl, e1]
      by_cases hr : sN (4 * t + 1) = nI r
      · rw [if_pos hr, rdc_N hv (by omega)]
        exact key 1 (by rw [if_pos]; unfold isSt; exact decide_eq_true ⟨h8, hr⟩)
      · rw [if_neg hr, rdc_N hv (by omega)]
        exact key 0 (by rw [if_neg]; unfold isSt; simp [hr])
    · rw [if_neg h8, rdc_N hv (by omega)]
      exact key 0 (by rw [if_neg]; unfold isSt; simp [h8])
theorem pieces_L (hn : n ≤ 32) (hR : R ≤ 8) (ha : a ≤ 240) (hb : b ≤ 180) (hP : PcsOK n R a b pN) : ∀ (d q fuel : Nat) (e1 e2 : Nat → Int32), b - q = d → q ≤ b → d < fuel → (∀ j, j < n → e1 j = nI (stv sN pN j q)) → (∀ j, j < n → e2 j = nI (ldv sN pN j q)) →
    ∃ e1' e2', f_L_law_L239 sN (nI a) pN (nI b) 1 fuel (nI q) e1 e2 = some (e1', e2') ∧ (∀ j, j < n → e1' j = nI (stv sN pN j b)) ∧ ∀ j, j < n → e2' j = nI (ldv sN pN j b) := by
  intro d
  induction d with
  | zero =>
    intro q fuel e1 e2 hd hq hf h1 h2
    obtain ⟨m, rfl, hm⟩ := fuel_s hf
    have e : q = b := by omega
    rw [f_L_law_L239, f_X4_pieceCount, alloc1, kbs rfl, f_X3_length, kbs rfl, kbs rfl, if_pos (nI_le (by omega) (by omega))]
    rw [e] at h1 h2
    exact ⟨e1, e2, rfl, h1, h2⟩
  | succ d ih =>
    intro q fuel e1 e2 hd hq hf h1 h2
    obtain ⟨m, rfl, hm⟩ := fuel_s hf
    have hqb : q < b := by omega
    obtain ⟨v, r, x, y, hv, hr, hxy, hya, p0, p1, p2, p3⟩ := hP q hqb
    rw [f_L_law_L239, f_X4_pieceCount, alloc1, kbs rfl, f_X3_length, kbs rfl, kbs rfl, if_neg (nI_ge hqb (by omega)), piece0 hqb hb, kbs rfl, piece2 hqb hb, kbs rfl, p0, p2, rdc_N (by omega) (by omega), step0 (by omega) ha, kbs rfl, nI_clamp (n := v) (by omega), nI_1]
    obtain ⟨e', w1, w2, w3⟩ := win_L (sN := sN) (r := r) ha hb hqb (show v < 40 by omega) p1 p3 hya (y + 1 - x) x 4000 e1 rfl (by omega) (by omega)
    have hst : ∀ j, j < n → stv sN pN j (q + 1) = stv sN pN j q + if v = j then wn sN (nI r) x (y + 1 - x) else 0 := fun j hj => by
      unfold stv
      rw [fb_sm_succ]
      congr 1
      unfold gq wq
      rw [p0, p1, p2, p3, nI_clamp (n := x) (by omega), nI_clamp (n := y) (by omega)]
      by_cases g : v = j
      · rw [if_pos g, if_pos (by rw [g])]
      · rw [if_neg g, if_neg (fun z => g (nI_i (by omega) (by omega) z))]
    have hld : ∀ j, j < n → ldv sN pN j (q + 1) = ldv sN pN j q + if v = j ∧ sN (4 * x) = 7 then 1 else 0 := fun j hj => by
      unfold ldv
      rw [fb_sm_succ]
      congr 1
      unfold lq
      rw [p0, p2, nI_clamp (n := x) (by omega)]
      by_cases g : v = j
      · rw [g]; simp
      · rw [if_neg (fun z => g (nI_i (by omega) (by omega) z.1)), if_neg (fun z => g z.1)]
    have key : ∀ δ : Nat, (δ = if sN (4 * x) = 7 then 1 else 0) → ∃ e1' e2', f_L_law_L239 sN (nI a) pN (nI b) 1 m (nI (q + 1)) e' (upd e2 v (e2 v + nI δ)) = some (e1', e2') ∧ (∀ j, j < n → e1' j = nI (stv sN pN j b)) ∧ ∀ j, j < n → e2' j = nI (ldv sN pN j b) := fun δ hδ => by
      refine ih (q + 1) m e' (upd e2 v (e2 v + nI δ)) (by omega) (by omega) (by omega) (fun j hj => ?_) (fun j hj => ?_)
      · rw [hst j hj]
        by_cases g : v = j
        · rw [if_pos g, ← g, w2, h1 v hv, nI_add]
        · rw [if_neg g, w3 j (fun z => g z.symm), h1 j hj]; rfl
      · rw [hld j hj]
        by_cases g : v = j
        · rw [← g, pk_us, h2 v hv, nI_add, hδ]
          congr 2
          by_cases z : sN (4 * x) = 7
          · rw [if_pos z, if_pos ⟨rfl, z⟩]
          · rw [if_neg z, if_neg (fun y => z y.2)]
        · rw [pk_un (fun z => g z.symm), if_neg (fun z => g z.1), h2 j hj]; rfl
    by_cases h7 : sN (4 * x) = 7
    · rw [if_pos h7, kbs rfl, rdc_N (by omega) (by omega), w1, kbs rfl]
      exact key 1 (by rw [if_pos h7])
    · rw [if_neg h7, kbs rfl, rdc_N (by omega) (by omega), w1, kbs rfl]
      exact key 0 (by rw [if_neg h7])
end PIECES
section SUMS
variable {n : Nat} {k a b c : Nat → Int32}
theorem used_L {i : Nat} {P : Nat → Bool} (hn : n ≤ 32) (hP : ∀ u, u < n → (P u = true ↔ (c u ≠ 0 ∧ ¬ k u = 0 ∧ (a u = nI i ∨ b u = nI i)))) : ∀ (d u fuel m : Nat), n - u = d → u ≤ n → d < fuel →
    f_L_law_L383 k a b c (nI n) (nI i) fuel (nI u) (nI m) = some (nI (m + fb_ct (fun j => P (u + j)) d)) := by
  intro d
  induction d with
  | zero =>
    intro u fuel m hd hu hf
    obtain ⟨f, rfl, hm⟩ := fuel_s hf
    rw [f_L_law_L383, if_pos (nI_le (by omega) (by omega))]
    rfl
  | succ d ih =>
    intro u fuel m hd hu hf
    obtain ⟨f, rfl, hm⟩ := fuel_s hf
    have hun : u < n := by omega
    rw [ct_head P u d, f_L_law_L383, if_neg (nI_ge hun (by omega)), rdc_N (by omega) (by omega), nI_clamp (n := u) (by omega), nI_1]
    have no : ¬ (c u ≠ 0 ∧ ¬ k u = 0 ∧ (a u = nI i ∨ b u = nI i)) → f_L_law_L383 k a b c (nI n) (nI i) f (nI (u + 1)) (nI m + 0) = some (nI (m + ((if P u = true then 1 else 0) + fb_ct (fun j => P (u + 1 + j)) d))) := fun g => by
      rw [Int32.add_zero, ih (u + 1) f m (by omega) (by omega) (by omega), if_neg (fun z => g ((hP u hun).mp z)), Nat.zero_add]
    by_cases c0 : c u = 0
    · rw [if_pos c0]; exact no (fun g => g.1 c0)
    · rw [if_neg c0, uses_ok (by omega)]
      by_cases g : ¬ k u = 0 ∧ (a u = nI i ∨ b u = nI i)
      · rw [if_pos g, kbs rfl, if_neg (by decide), nI_1, ih (u + 1) f (m + 1) (by omega) (by omega) (by omega), if_pos ((hP u hun).mpr ⟨c0, g⟩), Nat.add_assoc]
      · rw [if_neg g, kbs rfl, if_pos rfl]; exact no (fun z => g z.2)
theorem sums_L {e1 e2 : Nat → Int32} {S L : Nat → Nat} {P : Nat → Nat → Bool} (hn : n ≤ 32) (hP : ∀ i, i < n → ∀ u, u < n → (P i u = true ↔ (c u ≠ 0 ∧ ¬ k u = 0 ∧ (a u = nI i ∨ b u = nI i))))
    (h1 : ∀ j, j < n → e1 j = nI (S j)) (h2 : ∀ j, j < n → e2 j = nI (L j)) (hS : ∀ j, j < n → S j ≤ 1) (hL : ∀ j, j < n → L j ≤ fb_ct (fun t => P j (j + 1 + t)) (n - (j + 1))) (hSL : ∀ j, j < n → L j ≠ 0 → S j ≠ 0) :
    ∀ (d i fuel : Nat), n - i = d → i ≤ n → d < fuel → f_L_law_L367 k a b c (nI n) e1 e2 fuel (nI i) (nI (fb_sm S i)) = some (nI (fb_sm S n)) := by
  intro d
  induction d with
  | zero =>
    intro i fuel hd hi hf
    obtain ⟨f, rfl, hm⟩ := fuel_s hf
    have e : i = n := by omega
    rw [f_L_law_L367, if_pos (nI_le (by omega) (by omega)), e]
  | succ d ih =>
    intro i fuel hd hi hf
    obtain ⟨f, rfl, hm⟩ := fuel_s hf
    have hin : i < n := by omega
    have hu := used_L (i := i) hn (hP i hin) (n - (i + 1)) (i + 1) 4000 0 rfl (by omega) (by omega)
    rw [nI_0, Nat.zero_add] at hu
    have hub := fb_ct_le (fun t => P i (i + 1 + t)) (n - (i + 1))
    have hLi := hL i hin
    have hSi := hS i hin
    have hr := ih (i + 1) f (by omega) (by omega) (by omega)
    rw [fb_sm_succ] at hr
    rw [f_L_law_L367, if_neg (nI_ge hin (by omega)), nI_1, hu, kbs rfl, rdc_N (by omega) (by omega), nI_clamp (n := i) (by omega), h1 i hin, h2 i hin, if_neg (show ¬ (1 : Int32) < nI (S i) from nI_nlt (a := 1) hSi (by omega)), rdc_N (by omega) (by omega), if_neg (nI_nlt hLi (by omega)), rdc_N (by omega) (by omega), nI_add]
    by_cases hl0 : L i = 0
    · rw [if_pos (by rw [hl0]; decide), rdc_N (by omega) (by omega)]
      exact hr
    · have hs1 : S i = 1 := by
        have := hSL i hin hl0
        omega
      rw [if_neg (nI_nle (by omega) (by omega)), rdc_N (by omega) (by omega), if_pos (by rw [hs1]; rfl), rdc_N (by omega) (by omega)]
      exact hr
end SUMS
theorem output_ok {j q : Nat} {mo : Nat → Int32} (hj : j < q) (hq : q ≤ 60) : f_X4_output (nI j) mo (nI q) = some (mo j) := by
  rw [f_X4_output, if_neg (nI_pos (by omega)), f_X2_outputCount, kbs rfl, if_pos (nI_lt hj (by omega)), f_X2_outputAt, if_neg (nI_pos (by omega)), if_neg (nI_ge hj (by omega)), rdc_N (by omega) (by omega), nI_clamp (by omega), kbs rfl]
theorem outs_L {os : List Int32} {mo : Nat → Int32} {R : Nat} (hl : os.length ≤ 32) (hR : R ≤ 8) (hmo : ∀ j, j < os.length → os[j]? = some (mo j)) : ∀ (d j fuel : Nat) (fv : Nat → Int32), os.length - j = d → j ≤ os.length → d < fuel →
    (2 < R → ∀ i, i < os.length → os[i]? = some (fv i)) → (∀ i, i < j → os[i]? = some (fv i)) → ∃ fv', f_L_law_L513 (nI R) (nI os.length) mo (nI os.length) fuel (nI j) fv = some fv' ∧ ∀ i, i < os.length → os[i]? = some (fv' i) := by
  intro d
  induction d with
  | zero =>
    intro j fuel fv hd hj hf h1 h2
    obtain ⟨m, rfl, hm⟩ := fuel_s hf
    rw [f_L_law_L513, if_pos (nI_le (by omega) (by omega))]
    exact ⟨fv, rfl, fun i hi => h2 i (by omega)⟩
  | succ d ih =>
    intro j fuel fv hd hj hf h1 h2
    obtain ⟨m, rfl, hm⟩ := fuel_s hf
    have hjl : j < os.length := by omega
    have nxt := ih (j + 1) m (upd fv j (mo j)) (by omega) (by omega) (by omega) (fun g i hi => by
      by_cases q : i = j
      · rw [q, pk_us]; exact hmo j hjl
      · rw [pk_un q]; exact h1 g i hi) (fun i hi => by
      by_cases q : i = j
      · rw [q, pk_us]; exact hmo j hjl
      · rw [pk_un q]; exact h2 i (by omega))
    rw [f_L_law_L513, if_neg (nI_ge hjl (by omega)), output_ok hjl (by omega), kbs rfl, kbs rfl, nI_clamp (n := j) (by omega), nI_1]
    simp only [rdc_N (show j < 40 by omega) (show 40 < 2 ^ 31 by omega)]
    rcases Nat.lt_or_ge 2 R with g | g
    · have e : mo j = fv j := Option.some.inj ((hmo j hjl).symm.trans (h1 g j hjl))
      rw [if_neg (show ¬ nI R ≤ 2 from nI_ge (a := 2) g (by omega)), if_pos e]
      exact nxt
    · rw [if_pos (show nI R ≤ 2 from nI_le (b := 2) g (by omega))]
      exact nxt
theorem cf_L {a N : Nat} {f : Nat → Int32} {p : Int32} (ha : 4 * a ≤ N) (hN : N < 2 ^ 20) : ∀ (d i fuel : Nat), a - i = d → i ≤ a → d < fuel → f_X3_countOfFirst_L4 N f (nI a) p fuel (nI i) (nI (cK p f i)) = some (nI (cK p f a)) := by
  intro d
  induction d with
  | zero =>
    intro i fuel hd hi hf
    obtain ⟨m, rfl, hm⟩ := fuel_s hf
    have e : i = a := by omega
    subst e
    rw [f_X3_countOfFirst_L4, if_pos (nI_le (Nat.le_refl i) (by omega))]
  | succ d ih =>
    intro i fuel hd hi hf
    obtain ⟨m, rfl, hm⟩ := fuel_s hf
    have hia : i < a := by omega
    rw [f_X3_countOfFirst_L4, if_neg (nI_ge hia (by omega)), at0_ok hia ha hN, kbs rfl, nI_1, nI_1]
    have h := ih (i + 1) m (by omega) (by omega) (by omega)
    rw [cK] at h
    by_cases g : f (4 * i) = p
    · rw [if_pos g]; rw [if_pos g] at h; exact h
    · rw [if_neg g]; rw [if_neg g] at h; exact h
theorem cf_ok {a N : Nat} {f : Nat → Int32} {p : Int32} (ha : 4 * a ≤ N) (hN : N < 4000) : f_X3_countOfFirst p N f (nI a) = some (nI (cK p f a)) := by
  have h := cf_L (f := f) (p := p) ha (by omega) a 0 4000 (by omega) (by omega) (by omega)
  rw [nI_0, cK, nI_0] at h
  rw [f_X3_countOfFirst, h, kbs rfl]
