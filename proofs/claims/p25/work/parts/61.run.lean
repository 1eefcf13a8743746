/-! ===== the run of the steps ===== -/
theorem setR {r : Nat} {x : Int32} {rg : Nat → Int32} (h : r < 8) : f_X2_setRegister (nI r) x rg = some (upd rg r x) := by
  rw [f_X2_setRegister, if_neg (nI_pos (by omega)), if_neg (show ¬ (8 : Int32) ≤ nI r from nI_ge (b := 8) h (by omega)), rdc_N (by omega) (by omega), nI_clamp (by omega)]
theorem inR {r : Nat} {rg : Nat → Int32} (h : r < 8) : f_X2_inRegister (nI r) rg = some (rg r) := by
  rw [f_X2_inRegister, if_neg (nI_pos (by omega)), if_neg (show ¬ (8 : Int32) ≤ nI r from nI_ge (b := 8) h (by omega)), rdc_N (by omega) (by omega), nI_clamp (by omega)]
theorem setSl {r : Nat} {x : Int32} {sl : Nat → Int32} (h : r < 60) : f_X2_setSlot (nI r) x sl = some (upd sl r x) := by
  rw [f_X2_setSlot, if_neg (nI_pos (by omega)), if_neg (show ¬ (60 : Int32) ≤ nI r from nI_ge (b := 60) h (by omega)), rdc_N (by omega) (by omega), nI_clamp (by omega)]
theorem inSl {r : Nat} {sl : Nat → Int32} (h : r < 60) : f_X2_inSlot (nI r) sl = some (sl r) := by
  rw [f_X2_inSlot, if_neg (nI_pos (by omega)), if_neg (show ¬ (60 : Int32) ≤ nI r from nI_ge (b := 60) h (by omega)), rdc_N (by omega) (by omega), nI_clamp (by omega)]
theorem wrO {q : Nat} {x : Int32} {mo : Nat → Int32} (h : q < 60) : f_X2_write x mo (nI q) = some (upd mo q x, nI (q + 1)) := by
  rw [f_X2_write, if_neg (nI_pos (by omega)), if_neg (show ¬ (60 : Int32) ≤ nI q from nI_ge (b := 60) h (by omega)), rdc_N (by omega) (by omega), nI_clamp (by omega), nI_1]
theorem compute_ok (k x y : Int32) : f_X2_compute k x y = some (cmp k x y) := by
  unfold f_X2_compute cmp
  split
  · rfl
  · split
    · rfl
    · split <;> rfl
/-- the machine's rows and the picture of what the steps have done -/
def RI1 (M : MS) (q : Nat) (rg sl mo : Nat → Int32) : Prop := (∀ r, r < 8 → rg r = M.1 r) ∧ (∀ s, s < 60 → sl s = M.2.1 s) ∧ M.2.2.length = q ∧ ∀ j, j < q → M.2.2[j]? = some (mo j)
theorem upd_eq {f g : Nat → Int32} {N p : Nat} {x y : Int32} (h : ∀ j, j < N → f j = g j) (hx : x = y) : ∀ j, j < N → upd f p x j = upd g p y j := fun j hj => by
  by_cases e : j = p
  · rw [e, pk_us, pk_us, hx]
  · rw [pk_un e, pk_un e]; exact h j hj
theorem ms_len {k x y z : Int32} {M : MS} : M.2.2.length ≤ (mstep k x y z M).2.2.length := by
  unfold mstep
  repeat' split
  all_goals simp
theorem mach_len {f : Nat → Int32} : ∀ {a i : Nat}, i ≤ a → (mach f i).2.2.length ≤ (mach f a).2.2.length
  | 0, i, h => by rw [show i = 0 by omega]; exact Nat.le_refl _
  | a + 1, i, h => by
    rcases Nat.lt_or_ge a i with q | q
    · rw [show i = a + 1 by omega]; exact Nat.le_refl _
    · exact Nat.le_trans (mach_len q) ms_len
theorem run_step1 {R q : Nat} {x0 x1 x2 x3 : Int32} {M : MS} {rg sl mo : Nat → Int32} (hR : R ≤ 8) (hrow : RowOK R x0 x1 x2 x3) (h : RI1 M q rg sl mo) (hq : (mstep x0 x1 x2 x3 M).2.2.length ≤ 60) :
    ∃ (q1 : Nat) (rg1 sl1 mo1 : Nat → Int32), f_X2_perform x0 x1 x2 x3 rg sl mo (nI q) = some (rg1, sl1, mo1, nI q1) ∧ RI1 (mstep x0 x1 x2 x3 M) q1 rg1 sl1 mo1 := by
  obtain ⟨⟨r, hr, rfl⟩, hk⟩ := hrow
  obtain ⟨hg, hs, hl, hm⟩ := h
  have hr8 : r < 8 := by omega
  rcases hk with rfl | rfl | ⟨h0, ⟨r2, hr2, rfl⟩, ⟨r3, hr3, rfl⟩⟩ | ⟨rfl, r2, hr2, rfl⟩ | ⟨h0, s, hs60, rfl⟩
  · rw [f_X2_perform, if_pos rfl, setR hr8, kbs rfl, ms_0 (by omega)]
    exact ⟨q, _, _, _, rfl, upd_eq hg rfl, hs, hl, hm⟩
  · rw [ms_6 (by omega)] at hq ⊢
    have hq60 : q < 60 := by
      simp only [List.length_append, List.length_cons, List.length_nil] at hq
      omega
    rw [f_X2_perform, if_neg (by decide), if_neg (by decide), if_pos rfl, inR hr8, kbs rfl, wrO hq60, kbs rfl]
    refine ⟨q + 1, _, _, _, rfl, hg, hs, by simp [hl], fun j hj => ?_⟩
    rcases Nat.lt_or_ge j q with z | z
    · show (M.2.2 ++ [M.1 r])[j]? = some (upd mo q (rg r) j)
      rw [List.getElem?_append_left (by omega), pk_un (by omega)]; exact hm j z
    · have e : j = q := by omega
      show (M.2.2 ++ [M.1 r])[j]? = some (upd mo q (rg r) j)
      rw [e, List.getElem?_append_right (by omega), hl, Nat.sub_self, pk_us, hg r hr8]; rfl
  · have n0 : x0 ≠ 0 ∧ x0 ≠ 5 ∧ x0 ≠ 6 ∧ x0 ≠ 7 ∧ x0 ≠ 8 := by
      rcases h0 with rfl | rfl | rfl | rfl <;> decide
    rw [f_X2_perform, if_neg n0.1, if_neg n0.2.1, if_neg n0.2.2.1, if_neg n0.2.2.2.1, if_neg n0.2.2.2.2, f_X2_perform_J112, inR (by omega), kbs rfl, inR (by omega), kbs rfl, compute_ok, kbs rfl, setR hr8, kbs rfl, ms_o h0 (by omega) (by omega) (by omega)]
    exact ⟨q, _, _, _, rfl, upd_eq hg (by rw [hg r2 (by omega), hg r3 (by omega)]), hs, hl, hm⟩
  · rw [f_X2_perform, if_neg (by decide), if_pos rfl, inR (by omega), kbs rfl, setR hr8, kbs rfl, ms_5 (by omega) (by omega)]
    exact ⟨q, _, _, _, rfl, upd_eq hg (hg r2 (by omega)), hs, hl, hm⟩
  · rcases h0 with rfl | rfl
    · rw [f_X2_perform, if_neg (by decide), if_neg (by decide), if_neg (by decide), if_pos rfl, inSl hs60, kbs rfl, setR hr8, kbs rfl, ms_7 (by omega) (by omega)]
      exact ⟨q, _, _, _, rfl, upd_eq hg (hs s hs60), hs, hl, hm⟩
    · rw [f_X2_perform, if_neg (by decide), if_neg (by decide), if_neg (by decide), if_neg (by decide), if_pos rfl, inR hr8, kbs rfl, setSl hs60, kbs rfl, ms_8 (by omega) (by omega)]
      exact ⟨q, _, _, _, rfl, hg, upd_eq hs (hg r hr8), hl, hm⟩
theorem at0_ok {q b N : Nat} {f : Nat → Int32} (hq : q < b) (hN : 4 * b ≤ N) (hb : N < 2 ^ 20) : f_X3_at (nI q) 0 N f (nI b) = some (f (4 * q)) := by
  have h := at_ok (w := 0) (f := f) hq (by omega) hN hb
  rw [nI_0] at h
  exact h
theorem at1_ok {q b N : Nat} {f : Nat → Int32} (hq : q < b) (hN : 4 * b ≤ N) (hb : N < 2 ^ 20) : f_X3_at (nI q) 1 N f (nI b) = some (f (4 * q + 1)) := by
  have h := at_ok (w := 1) (f := f) hq (by omega) hN hb
  rw [show nI 1 = 1 by decide +kernel] at h
  exact h
theorem at2_ok {q b N : Nat} {f : Nat → Int32} (hq : q < b) (hN : 4 * b ≤ N) (hb : N < 2 ^ 20) : f_X3_at (nI q) 2 N f (nI b) = some (f (4 * q + 2)) := by
  have h := at_ok (w := 2) (f := f) hq (by omega) hN hb
  rw [show nI 2 = 2 by decide +kernel] at h
  exact h
theorem at3_ok {q b N : Nat} {f : Nat → Int32} (hq : q < b) (hN : 4 * b ≤ N) (hb : N < 2 ^ 20) : f_X3_at (nI q) 3 N f (nI b) = some (f (4 * q + 3)) := by
  have h := at_ok (w := 3) (f := f) hq (by omega) hN hb
  rw [show nI 3 = 3 by decide +kernel] at h
  exact h
theorem run_L1 {R a : Nat} {f : Nat → Int32} (hR : R ≤ 8) (ha : a ≤ 240) (hS : StepOK R a f) (h6 : (mach f a).2.2.length ≤ 60) : ∀ (d i f1 q : Nat) (rg sl mo : Nat → Int32), a - i = d → i ≤ a → d < f1 → RI1 (mach f i) q rg sl mo →
    ∃ (q1 : Nat) (rg1 sl1 mo1 : Nat → Int32), f_X2_execute_L49 960 f (nI a) f1 (nI i) rg sl mo (nI q) = some (rg1, sl1, mo1, nI q1) ∧ RI1 (mach f a) q1 rg1 sl1 mo1 := by
  intro d
  induction d with
  | zero =>
    intro i f1 q rg sl mo hd hi g1 h
    obtain ⟨m1, rfl, q1⟩ := fuel_s g1
    have e : i = a := by omega
    subst e
    rw [f_X2_execute_L49, f_X3_length, kbs rfl, if_pos (nI_le (Nat.le_refl i) (by omega))]
    exact ⟨q, rg, sl, mo, rfl, h⟩
  | succ d ih =>
    intro i f1 q rg sl mo hd hi g1 h
    obtain ⟨m1, rfl, q1⟩ := fuel_s g1
    have hia : i < a := by omega
    have hm := mach_len (f := f) (a := a) (i := i + 1) (by omega)
    obtain ⟨q1, rg1, sl1, mo1, e1, e3⟩ := run_step1 hR (hS i hia) h (Nat.le_trans hm h6)
    rw [f_X2_execute_L49, f_X3_length, kbs rfl, if_neg (nI_ge hia (by omega)), at0_ok hia (by omega) (by omega), kbs rfl, at1_ok hia (by omega) (by omega), kbs rfl, at2_ok hia (by omega) (by omega), kbs rfl, at3_ok hia (by omega) (by omega), kbs rfl, e1, kbs rfl, nI_1]
    exact ih (i + 1) m1 q1 rg1 sl1 mo1 (by omega) (by omega) (by omega) e3
theorem z8_L : ∀ (d r fuel : Nat) (f : Nat → Int32), 8 - r = d → r ≤ 8 → d < fuel → (∀ j, j < r → f j = 0) → ∃ f', f_X2_execute_L2 fuel (nI r) f = some f' ∧ ∀ j, j < 8 → f' j = 0 := by
  intro d
  induction d with
  | zero =>
    intro r fuel f hd hr hf h1
    obtain ⟨m, rfl, hm⟩ := fuel_s hf
    rw [f_X2_execute_L2, if_pos (show (8 : Int32) ≤ nI r from nI_le (a := 8) (by omega) (by omega))]
    exact ⟨f, rfl, fun j hj => h1 j (by omega)⟩
  | succ d ih =>
    intro r fuel f hd hr hf h1
    obtain ⟨m, rfl, hm⟩ := fuel_s hf
    rw [f_X2_execute_L2, if_neg (show ¬ (8 : Int32) ≤ nI r from nI_ge (b := 8) (by omega) (by omega)), rdc_N (by omega) (by omega), nI_clamp (by omega), nI_1]
    exact ih (r + 1) m _ (by omega) (by omega) (by omega) (filStep h1)
theorem z60_L : ∀ (d r fuel : Nat) (f : Nat → Int32), 60 - r = d → r ≤ 60 → d < fuel → (∀ j, j < r → f j = 0) → ∃ f', f_X2_execute_L23 fuel (nI r) f = some f' ∧ ∀ j, j < 60 → f' j = 0 := by
  intro d
  induction d with
  | zero =>
    intro r fuel f hd hr hf h1
    obtain ⟨m, rfl, hm⟩ := fuel_s hf
    rw [f_X2_execute_L23, if_pos (show (60 : Int32) ≤ nI r from nI_le (a := 60) (by omega) (by omega))]
    exact ⟨f, rfl, fun j hj => h1 j (by omega)⟩
  | succ d ih =>
    intro r fuel f hd hr hf h1
    obtain ⟨m, rfl, hm⟩ := fuel_s hf
    rw [f_X2_execute_L23, if_neg (show ¬ (60 : Int32) ≤ nI r from nI_ge (b := 60) (by omega) (by omega)), rdc_N (by omega) (by omega), nI_clamp (by omega), nI_1]
    exact ih (r + 1) m _ (by omega) (by omega) (by omega) (filStep h1)
/-- a run gives the outputs of the picture -/
theorem execute1 {R a : Nat} {f : Nat → Int32} {os : List Int32} (hR : R ≤ 8) (ha : a ≤ 240) (hS : StepOK R a f) (ho : (mach f a).2.2 = os) (h6 : os.length ≤ 60) (rg sl mo : Nat → Int32) :
    ∃ rg1 sl1 mo1 : Nat → Int32, f_X2_execute rg sl mo 960 f (nI a) = some (rg1, sl1, mo1, nI os.length) ∧ ∀ j, j < os.length → os[j]? = some (mo1 j) := by
  obtain ⟨rg0, e1, k1⟩ := z8_L 8 0 4000 rg rfl (by omega) (by omega) (fun j hj => by omega)
  obtain ⟨sl0, e2, k2⟩ := z60_L 60 0 4000 sl rfl (by omega) (by omega) (fun j hj => by omega)
  rw [nI_0] at e1 e2
  obtain ⟨q1, rg1, sl1, mo1, e3, -, -, e4, e5⟩ := run_L1 hR ha hS (by rw [ho]; exact h6) a 0 4000 0 rg0 sl0 mo rfl (Nat.zero_le a) (by omega) ⟨k1, k2, rfl, fun j hj => by omega⟩
  rw [nI_0] at e3
  rw [ho] at e4 e5
  subst e4
  refine ⟨rg1, sl1, mo1, ?_, e5⟩
  rw [f_X2_execute, e1, kbs rfl, e2, kbs rfl, e3, kbs rfl]
