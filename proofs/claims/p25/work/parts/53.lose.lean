/-! ===== which register's value loses it ===== -/
def oI : Option Nat → Int32
  | none => -1
  | some q => nI q
def lb (x y kv kw sv sw : Int32) : Int32 := if x = y then (if (if kv = 0 then (1 : Int32) else 0) = (if kw = 0 then 1 else 0) then (if sv = -1 then 0 else if sw = -1 then 1 else 0) else (if kv = 0 then 1 else 0)) else if x ≤ y then 0 else 1
theorem losesBefore_ok {k sO up : Nat → Int32} {v w n : Nat} (hn : n ≤ 60) (hv : v < n) (hw : w < n) : f_X0_losesBefore (nI v) (nI w) k (nI n) sO up = some (lb (up v) (up w) (k v) (k w) (sO v) (sO w)) := by
  rw [f_X0_losesBefore, isRow_in (by omega), kbs rfl, if_neg (by decide), isRow_in (by omega), kbs rfl, if_neg (by decide), rdc_N (by omega) (by omega), rdc_N (by omega) (by omega), nI_clamp (n := v) (by omega), nI_clamp (n := w) (by omega), isConstC hn hv, isConstC hn hw, kbs rfl, kbs rfl]
  unfold lb
  by_cases h1 : up v = up w
  · rw [if_pos h1, if_pos h1]
    by_cases h2 : (if k v = 0 then (1 : Int32) else 0) = (if k w = 0 then 1 else 0)
    · rw [if_pos h2, if_pos h2, rdc_N (by omega) (by omega), rdc_N (by omega) (by omega)]
      by_cases h3 : sO v = -1
      · rw [if_pos h3, if_pos h3]
      · rw [if_neg h3, if_neg h3]
        by_cases h4 : sO w = -1
        · rw [if_pos h4, if_pos h4]
        · rw [if_neg h4, if_neg h4]
    · rw [if_neg h2, if_neg h2, zck_in (by by_cases h3 : k v = 0 <;> simp [h3])]
  · rw [if_neg h1, if_neg h1, rdc_N (by omega) (by omega), rdc_N (by omega) (by omega)]
    by_cases h2 : up v ≤ up w
    · rw [if_pos h2, if_pos h2]
    · rw [if_neg h2, if_neg h2]
/-! ===== a register that holds no value; a slot that is free ===== -/
section GETC
variable {kC sN pN vI rO sO pO up sT : Nat → Int32} {sL pL len sc pa pb : Int32} {R : Nat}
theorem getC_free (hR : R ≤ 8) {j : Nat} (hj : j < R) (hf : vI j = -1) : ∀ (d r fuel : Nat), j - r = d → r ≤ j → d < fuel → (∀ l, r ≤ l → l < j → vI l ≠ -1) → f_X0_getRegister_L2 kC len pL pO up (nI R) pa pb fuel (nI r) sN sL pN vI rO sO sT sc = some (nI j, sN, sL, pN, vI, rO, sO, sT, sc) := by
  intro d
  induction d with
  | zero =>
    intro r fuel hd hr h1 hl
    obtain ⟨m, rfl, hm⟩ := fuel_s h1
    have e : r = j := by omega
    rw [f_X0_getRegister_L2, e, if_neg (nI_ge hj (by omega)), free_ok hj hR, kbs rfl, if_pos hf, if_neg (by decide)]
  | succ d ih =>
    intro r fuel hd hr h1 hl
    obtain ⟨m, rfl, hm⟩ := fuel_s h1
    rw [f_X0_getRegister_L2, if_neg (nI_ge (by omega) (by omega)), free_ok (by omega) hR, kbs rfl, if_neg (hl r (Nat.le_refl r) (by omega)), if_pos rfl, nI_1]
    exact ih (r + 1) m (by omega) (by omega) (by omega) (fun l g1 g2 => hl l (by omega) g2)
theorem getC_none (hR : R ≤ 8) : ∀ (d r fuel : Nat), R - r = d → r ≤ R → d < fuel → (∀ l, r ≤ l → l < R → vI l ≠ -1) → f_X0_getRegister_L2 kC len pL pO up (nI R) pa pb fuel (nI r) sN sL pN vI rO sO sT sc =
    (Option.bind (f_X0_registerToLose pa pb kC len vI sO up (nI R)) fun u29 => Option.bind (f_X0_valueHeldIn u29 vI (nI R)) fun u35 => Option.bind (f_X0_storeIfNeeded u35 u29 kC len sN sL pN pL sO pO sT sc) fun u44 => Option.bind (f_X0_leaveRegister u35 vI rO (nI R)) fun u50 =>
      some (u29, u44.1, u44.2.1, u44.2.2.1, u50.1, u50.2, u44.2.2.2.1, u44.2.2.2.2.1, u44.2.2.2.2.2)) := by
  intro d
  induction d with
  | zero =>
    intro r fuel hd hr h1 hl
    obtain ⟨m, rfl, hm⟩ := fuel_s h1
    rw [f_X0_getRegister_L2, if_pos (nI_le (by omega) (by omega))]
  | succ d ih =>
    intro r fuel hd hr h1 hl
    obtain ⟨m, rfl, hm⟩ := fuel_s h1
    rw [f_X0_getRegister_L2, if_neg (nI_ge (by omega) (by omega)), free_ok (by omega) hR, kbs rfl, if_neg (hl r (Nat.le_refl r) (by omega)), if_pos rfl, nI_1]
    exact ih (r + 1) m (by omega) (by omega) (by omega) (fun l g1 g2 => hl l (by omega) g2)
end GETC
