/-! ===== which register's value loses it ===== -/
def oI : Option Nat → Int32
  | none => -1
  | some q => nI q
def lb (x y kv kw sv sw : Int32) : Int32 := if x = y then (if (if kv = 0 then (1 : Int32) else 0) = (if kw = 0 then 1 else 0) then (if sv = -1 then 0 else if sw = -1 then 1 else 0) else (if kv = 0 then 1 else 0)) else if x ≤ y then 0 else 1
theorem losesBefore_ok {k sO up : Nat → Int32} {v w n : Nat} (hn : n ≤ 60) (hv : v < n) (hw : w < n) : f_X0_losesBefore (nI v) (nI w) k (nI n) sO up = some (lb (up v) (up w) (k v) (k w) (sO v) (sO w)) := by
  rw [f_X0_losesBefore, isRow_in (by omega), kbs rfl, if_neg (by decide), isRow_in (by omega), kbs rfl, if_neg (by decide), rdc_N (by omega) (by omega), rdc_N (by omega) (by omega), nI_clamp (n := v) (by omega), nI_clamp (n := w) (by omega), isConstC hn hv, isConstC hn hw, kbs rfl, kbs rfl]
  unfold lb
  by_cases h1 : up v = up w
  · rw [if_pos h1, if_pos h1]
    by_cases h2 : (if k v = 0 then (1 : Int32) else 0) = (if k w = 0 then 1 else 0)
    · rw [if_pos h2, if_pos h2, rdc_N (by omega) (by omega), rdc_N (by omega) (by omega)]
      by_cases h3 : sO v = -1
      · rw [if_pos h3, if_pos h3]
      · rw [if_neg h3, if_neg h3]
        by_cases h4 : sO w = -1
        · rw [if_pos h4, if_pos h4]
        · rw [if_neg h4, if_neg h4]
    · rw [if_neg h2, if_neg h2, zck_in (by by_cases h3 : k v = 0 <;> simp [h3])]
  · rw [if_neg h1, if_neg h1, rdc_N (by omega) (by omega), rdc_N (by omega) (by omega)]
    by_cases h2 : up v ≤ up w
    · rw [if_pos h2, if_pos h2]
    · rw [if_neg h2, if_neg h2]
theorem isBefore_ok {k a b c sO : Nat → Int32} {v w i n : Nat} (hn : n ≤ 60) (hv : v < n) (hw : w < n) (hi : i < 60) : f_X5_isBefore (nI v) (nI w) (nI i) (nI n) k a b c sO = some (lb (nu (usM k a b c (nI v)) n (i + 1)) (nu (usM k a b c (nI w)) n (i + 1)) (k v) (k w) (sO v) (sO w)) := by
  have J72 : ∀ x t0 t1 : Int32, (t0 = 0 ∨ t0 = 1) → x = t0 → f_X5_isBefore_J72 sO x (nI v) (nI w) t0 t1 = some (if t0 = t1 then (if sO v = -1 then 0 else if sO w = -1 then 1 else 0) else t0) := by
    intro x t0 t1 h0 hx
    rw [f_X5_isBefore_J72, hx, rdc_N (by omega) (by omega), rdc_N (by omega) (by omega), nI_clamp (n := v) (by omega), nI_clamp (n := w) (by omega), zck_in h0]
    by_cases h : t0 = t1
    · rw [if_pos h, if_pos h]
      by_cases h3 : sO v = -1
      · rw [if_pos h3, if_pos h3]
      · rw [if_neg h3, if_neg h3]
        by_cases h4 : sO w = -1
        · rw [if_pos h4, if_pos h4]
        · rw [if_neg h4, if_neg h4]
    · rw [if_neg h, if_neg h]
  have J54 : ∀ t0 : Int32, (t0 = 0 ∨ t0 = 1) → f_X5_isBefore_J54 k sO (nI v) (nI w) t0 = some (if t0 = (if k w = 0 then 1 else 0) then (if sO v = -1 then 0 else if sO w = -1 then 1 else 0) else t0) := by
    intro t0 h0
    rw [f_X5_isBefore_J54, rdc_N (by omega) (by omega), nI_clamp (n := w) (by omega), J72 t0 t0 1 h0 rfl, J72 t0 t0 0 h0 rfl]
    by_cases h : k w = 0
    · rw [if_pos h, if_pos h]
    · rw [if_neg h, if_neg h]
  rw [f_X5_isBefore, useFrom_ok hn, useFrom_ok hn, kbs rfl, kbs rfl, nI_1, frN_nI (by omega), rdc_N (by omega) (by omega), nI_clamp (n := v) (by omega), J54 1 (Or.inr rfl), J54 0 (Or.inl rfl)]
  unfold lb
  by_cases h1 : nu (usM k a b c (nI v)) n (i + 1) = nu (usM k a b c (nI w)) n (i + 1)
  · rw [if_pos h1, if_pos h1]
    by_cases h2 : k v = 0
    · rw [if_pos h2, if_pos h2]
    · rw [if_neg h2, if_neg h2]
  · rw [if_neg h1, if_neg h1]
    by_cases h2 : nu (usM k a b c (nI v)) n (i + 1) ≤ nu (usM k a b c (nI w)) n (i + 1)
    · rw [if_pos h2, if_pos h2]
    · rw [if_neg h2, if_neg h2]
/-- both searches for it, side by side -/
theorem lose_L {kC vI sO up kM aM bM cM : Nat → Int32} {n R i : Nat} {pa pb fi : Int32} (hn : n ≤ 60) (hR : R ≤ 8) (hi : i < 60) (hfi : fi = 0 ∨ fi = 1)
    (hv : ∀ r, r < R → ∃ v, v < n ∧ vI r = nI v)
    (ht : ∀ v, v < n → ((nI v ≠ pa ∧ nI v ≠ pb) ↔ ¬ (fi = 1 ∧ (¬ kM i = 0 ∧ (aM i = nI v ∨ bM i = nI v)))))
    (hu : ∀ r v, r < R → v < n → vI r = nI v → nI v ≠ pa → nI v ≠ pb → up v = nu (usM kM aM bM cM (nI v)) n (i + 1)) (hk : ∀ v, v < n → kM v = kC v) :
    ∀ (d r f1 f2 : Nat) (best : Option Nat), R - r = d → r ≤ R → d < f1 → d < f2 → (∀ q, best = some q → q < R ∧ vI q ≠ pa ∧ vI q ≠ pb) →
      ∃ res : Option Nat, f_X0_registerToLose_L5 kC (nI n) vI sO up (nI R) pa pb f1 (nI r) (oI best) = some (oI res) ∧ f_X5_get_L46 (nI n) kM aM bM cM sO vI (nI i) fi (nI R) f2 (nI r) (oI best) = some (oI res) ∧
        (∀ q, res = some q → q < R ∧ vI q ≠ pa ∧ vI q ≠ pb) ∧ ((best ≠ none ∨ ∃ q, r ≤ q ∧ q < R ∧ vI q ≠ pa ∧ vI q ≠ pb) → res ≠ none) := by
  intro d
  induction d with
  | zero =>
    intro r f1 f2 best hd hr h1 h2 hb
    obtain ⟨m1, rfl, g1⟩ := fuel_s h1
    obtain ⟨m2, rfl, g2⟩ := fuel_s h2
    rw [f_X0_registerToLose_L5, f_X5_get_L46, if_pos (nI_le (by omega) (by omega)), if_pos (nI_le (by omega) (by omega))]
    refine ⟨best, rfl, rfl, hb, fun h => h.elim id ?_⟩
    rintro ⟨q, q1, q2, -⟩
    omega
  | succ d ih =>
    intro r f1 f2 best hd hr h1 h2 hb
    obtain ⟨m1, rfl, g1⟩ := fuel_s h1
    obtain ⟨m2, rfl, g2⟩ := fuel_s h2
    have hrR : r < R := by omega
    obtain ⟨v, hvn, ev⟩ := hv r hrR
    have hrd : ∀ (k : Option Int32), rdc (nI r) 8 k = k := fun k => rdc_N (by omega) (by omega)
    rw [f_X0_registerToLose_L5, f_X5_get_L46, if_neg (nI_ge hrR (by omega)), if_neg (nI_ge hrR (by omega)), held_ok hrR hR, kbs rfl, nI_clamp (n := r) (by omega), nI_1]
    simp only [hrd]
    rw [ev, takes_ok hi]
    by_cases hc : nI v ≠ pa ∧ nI v ≠ pb
    · have hcr : vI r ≠ pa ∧ vI r ≠ pb := by rw [ev]; exact hc
      have hnt := (ht v hvn).mp hc
      -- what both do with a candidate
      have key : ∃ res : Option Nat, (if oI best = -1 then f_X0_registerToLose_L5 kC (nI n) vI sO up (nI R) pa pb m1 (nI (r + 1)) (nI r) else
            Option.bind (f_X0_valueHeldIn (oI best) vI (nI R)) fun u56 => Option.bind (f_X0_losesBefore (nI v) u56 kC (nI n) sO up) fun u59 => if u59 = 0 then f_X0_registerToLose_L5 kC (nI n) vI sO up (nI R) pa pb m1 (nI (r + 1)) (oI best) else f_X0_registerToLose_L5 kC (nI n) vI sO up (nI R) pa pb m1 (nI (r + 1)) (nI r)) = some (oI res) ∧
          (if oI best = -1 then f_X5_get_L46 (nI n) kM aM bM cM sO vI (nI i) fi (nI R) m2 (nI (r + 1)) (nI r) else
            rdc (oI best) 8 (Option.bind (f_X5_isBefore (nI v) (vI (oI best).toNatClampNeg) (nI i) (nI n) kM aM bM cM sO) fun u96 => if u96 = 0 then f_X5_get_L46 (nI n) kM aM bM cM sO vI (nI i) fi (nI R) m2 (nI (r + 1)) (oI best) else f_X5_get_L46 (nI n) kM aM bM cM sO vI (nI i) fi (nI R) m2 (nI (r + 1)) (nI r))) = some (oI res) ∧
          (∀ q, res = some q → q < R ∧ vI q ≠ pa ∧ vI q ≠ pb) ∧ res ≠ none := by
        have new : ∃ res : Option Nat, f_X0_registerToLose_L5 kC (nI n) vI sO up (nI R) pa pb m1 (nI (r + 1)) (nI r) = some (oI res) ∧ f_X5_get_L46 (nI n) kM aM bM cM sO vI (nI i) fi (nI R) m2 (nI (r + 1)) (nI r) = some (oI res) ∧ (∀ q, res = some q → q < R ∧ vI q ≠ pa ∧ vI q ≠ pb) ∧ res ≠ none := by
          obtain ⟨res, e1, e2, e3, e4⟩ := ih (r + 1) m1 m2 (some r) (by omega) (by omega) (by omega) (by omega) (fun q hq => by cases hq; exact ⟨hrR, hcr⟩)
          exact ⟨res, e1, e2, e3, e4 (Or.inl (by simp))⟩
        cases hbest : best with
        | none => rw [if_pos (show oI none = -1 from rfl), if_pos (show oI none = -1 from rfl)]; exact new
        | some q =>
          obtain ⟨hqR, hq1, hq2⟩ := hb q hbest
          obtain ⟨w, hwn, ew⟩ := hv q hqR
          have hne : ¬ oI (some q) = -1 := nIm1 (by omega)
          rw [if_neg hne, if_neg hne]
          show ∃ res : Option Nat, (Option.bind (f_X0_valueHeldIn (nI q) vI (nI R)) _) = _ ∧ (rdc (nI q) 8 (Option.bind (f_X5_isBefore (nI v) (vI (nI q).toNatClampNeg) (nI i) (nI n) kM aM bM cM sO) _)) = _ ∧ _
          rw [held_ok hqR hR, kbs rfl, rdc_N (by omega) (by omega), nI_clamp (n := q) (by omega), ew, losesBefore_ok hn hvn hwn, isBefore_ok hn hvn hwn hi, kbs rfl, kbs rfl,
            hu r v hrR hvn ev hc.1 hc.2, hu q w hqR hwn ew (by rw [← ew]; exact hq1) (by rw [← ew]; exact hq2), hk v hvn, hk w hwn]
          by_cases hl : lb (nu (usM kM aM bM cM (nI v)) n (i + 1)) (nu (usM kM aM bM cM (nI w)) n (i + 1)) (kC v) (kC w) (sO v) (sO w) = 0
          · rw [if_pos hl, if_pos hl]
            obtain ⟨res, e1, e2, e3, e4⟩ := ih (r + 1) m1 m2 (some q) (by omega) (by omega) (by omega) (by omega) (fun q' hq' => by cases hq'; exact ⟨hqR, hq1, hq2⟩)
            exact ⟨res, e1, e2, e3, e4 (Or.inl (by simp))⟩
          · rw [if_neg hl, if_neg hl]; exact new
      obtain ⟨res, e1, e2, e3, e4⟩ := key
      refine ⟨res, ?_, ?_, e3, fun _ => e4⟩
      · rw [if_neg hc.1, if_neg hc.2]; exact e1
      · rcases hfi with h0 | h0
        · rw [if_pos h0]; exact e2
        · rw [if_neg (by rw [h0]; decide), if_neg (fun h => hnt ⟨h0, h⟩), kbs rfl, if_pos rfl]; exact e2
    · have hcr : ¬ (vI r ≠ pa ∧ vI r ≠ pb) := by rw [ev]; exact hc
      have htk : fi = 1 ∧ (¬ kM i = 0 ∧ (aM i = nI v ∨ bM i = nI v)) := Classical.byContradiction fun h => hc ((ht v hvn).mpr h)
      obtain ⟨res, e1, e2, e3, e4⟩ := ih (r + 1) m1 m2 best (by omega) (by omega) (by omega) (by omega) hb
      refine ⟨res, ?_, ?_, e3, fun h => e4 (h.imp_right ?_)⟩
      · by_cases ha : nI v = pa
        · rw [if_pos ha]; exact e1
        · by_cases hb2 : nI v = pb
          · rw [if_neg ha, if_pos hb2]; exact e1
          · exact absurd ⟨ha, hb2⟩ hc
      · rw [if_neg (by rw [htk.1]; decide), if_pos htk.2, kbs rfl, if_neg (by decide)]; exact e2
      · rintro ⟨q, q1, q2, q3⟩
        rcases Nat.lt_or_ge r q with z | z
        · exact ⟨q, z, q2, q3⟩
        · have e : q = r := by omega
          rw [e] at q3
          exact absurd q3 hcr
/-! ===== a register that holds no value; a slot that is free ===== -/
theorem free_L8 {vI : Nat → Int32} {R : Nat} (hR : R ≤ 8) : ∀ (i fuel : Nat) (best : Option Nat), i ≤ R → i < fuel → ∃ res : Option Nat, f_X5_get_L8 vI fuel (nI i - 1) (oI best) = some (oI res) ∧ ((∃ j, j < i ∧ vI j = -1 ∧ (∀ l, l < j → vI l ≠ -1) ∧ res = some j) ∨ ((∀ j, j < i → vI j ≠ -1) ∧ res = best)) := by
  intro i
  induction i with
  | zero =>
    intro fuel best hi hf
    obtain ⟨m, rfl, hm⟩ := fuel_s hf
    rw [f_X5_get_L8, nI0m1, if_pos m1_lt0]
    exact ⟨best, rfl, Or.inr ⟨fun j h => by omega, rfl⟩⟩
  | succ i ih =>
    intro fuel best hi hf
    obtain ⟨m, rfl, hm⟩ := fuel_s hf
    rw [f_X5_get_L8, nI_m1, if_neg (nI_pos (by omega)), rdc_N (by omega) (by omega), nI_clamp (by omega), sub1]
    by_cases h : vI i = -1
    · rw [if_pos h]
      obtain ⟨res, e1, e2⟩ := ih m (some i) (by omega) (by omega)
      refine ⟨res, e1, Or.inl ?_⟩
      rcases e2 with ⟨j, h1, h2, h3, h4⟩ | ⟨h1, h2⟩
      · exact ⟨j, by omega, h2, h3, h4⟩
      · exact ⟨i, by omega, h, h1, h2⟩
    · rw [if_neg h]
      obtain ⟨res, e1, e2⟩ := ih m best (by omega) (by omega)
      refine ⟨res, e1, ?_⟩
      rcases e2 with ⟨j, h1, h2, h3, h4⟩ | ⟨h1, h2⟩
      · exact Or.inl ⟨j, by omega, h2, h3, h4⟩
      · refine Or.inr ⟨fun j hj => ?_, h2⟩
        rcases Nat.lt_or_ge j i with q | q
        · exact h1 j q
        · have e : j = i := by omega
          rw [e]; exact h
section GETC
variable {kC sN pN vI rO sO pO up sT : Nat → Int32} {sL pL len sc pa pb : Int32} {R : Nat}
theorem getC_free (hR : R ≤ 8) {j : Nat} (hj : j < R) (hf : vI j = -1) : ∀ (d r fuel : Nat), j - r = d → r ≤ j → d < fuel → (∀ l, r ≤ l → l < j → vI l ≠ -1) → f_X0_getRegister_L2 kC len pL pO up (nI R) pa pb fuel (nI r) sN sL pN vI rO sO sT sc = some (nI j, sN, sL, pN, vI, rO, sO, sT, sc) := by
  intro d
  induction d with
  | zero =>
    intro r fuel hd hr h1 hl
    obtain ⟨m, rfl, hm⟩ := fuel_s h1
    have e : r = j := by omega
    rw [f_X0_getRegister_L2, e, if_neg (nI_ge hj (by omega)), free_ok hj hR, kbs rfl, if_pos hf, if_neg (by decide)]
  | succ d ih =>
    intro r fuel hd hr h1 hl
    obtain ⟨m, rfl, hm⟩ := fuel_s h1
    rw [f_X0_getRegister_L2, if_neg (nI_ge (by omega) (by omega)), free_ok (by omega) hR, kbs rfl, if_neg (hl r (Nat.le_refl r) (by omega)), if_pos rfl, nI_1]
    exact ih (r + 1) m (by omega) (by omega) (by omega) (fun l g1 g2 => hl l (by omega) g2)
theorem getC_none (hR : R ≤ 8) : ∀ (d r fuel : Nat), R - r = d → r ≤ R → d < fuel → (∀ l, r ≤ l → l < R → vI l ≠ -1) → f_X0_getRegister_L2 kC len pL pO up (nI R) pa pb fuel (nI r) sN sL pN vI rO sO sT sc =
    (Option.bind (f_X0_registerToLose pa pb kC len vI sO up (nI R)) fun u29 => Option.bind (f_X0_valueHeldIn u29 vI (nI R)) fun u35 => Option.bind (f_X0_storeIfNeeded u35 u29 kC len sN sL pN pL sO pO sT sc) fun u44 => Option.bind (f_X0_leaveRegister u35 vI rO (nI R)) fun u50 =>
      some (u29, u44.1, u44.2.1, u44.2.2.1, u50.1, u50.2, u44.2.2.2.1, u44.2.2.2.2.1, u44.2.2.2.2.2)) := by
  intro d
  induction d with
  | zero =>
    intro r fuel hd hr h1 hl
    obtain ⟨m, rfl, hm⟩ := fuel_s h1
    rw [f_X0_getRegister_L2, if_pos (nI_le (by omega) (by omega))]
  | succ d ih =>
    intro r fuel hd hr h1 hl
    obtain ⟨m, rfl, hm⟩ := fuel_s h1
    rw [f_X0_getRegister_L2, if_neg (nI_ge (by omega) (by omega)), free_ok (by omega) hR, kbs rfl, if_neg (hl r (Nat.le_refl r) (by omega)), if_pos rfl, nI_1]
    exact ih (r + 1) m (by omega) (by omega) (by omega) (fun l g1 g2 => hl l (by omega) g2)
end GETC
theorem slot_L {sT : Nat → Int32} {s : Nat} (hs : s < 60) (h0 : sT s = 0) : ∀ (d r f1 f2 : Nat), s - r = d → r ≤ s → d < f1 → d < f2 → (∀ t, r ≤ t → t < s → sT t ≠ 0) → f_X0_smallestFreeSlot_L2 sT f1 (nI r) = some (nI s) ∧ f_X5_get_L145 sT f2 (nI r) = some (nI s) := by
  intro d
  induction d with
  | zero =>
    intro r f1 f2 hd hr h1 h2 hl
    obtain ⟨m1, rfl, g1⟩ := fuel_s h1
    obtain ⟨m2, rfl, g2⟩ := fuel_s h2
    have e : r = s := by omega
    rw [f_X0_smallestFreeSlot_L2, f_X5_get_L145, e, if_neg (show ¬ (60 : Int32) ≤ nI s from nI_ge (b := 60) hs (by omega)), rdc_N hs (by omega), rdc_N hs (by omega), nI_clamp (by omega), if_pos h0, if_pos h0]
    exact ⟨rfl, rfl⟩
  | succ d ih =>
    intro r f1 f2 hd hr h1 h2 hl
    obtain ⟨m1, rfl, g1⟩ := fuel_s h1
    obtain ⟨m2, rfl, g2⟩ := fuel_s h2
    rw [f_X0_smallestFreeSlot_L2, f_X5_get_L145, if_neg (show ¬ (60 : Int32) ≤ nI r from nI_ge (b := 60) (by omega) (by omega)), rdc_N (by omega) (by omega), rdc_N (by omega) (by omega), nI_clamp (by omega), if_neg (hl r (Nat.le_refl r) (by omega)), if_neg (hl r (Nat.le_refl r) (by omega)), nI_1]
    exact ih (r + 1) m1 m2 (by omega) (by omega) (by omega) (by omega) (fun t g1 g2 => hl t (by omega) g2)
