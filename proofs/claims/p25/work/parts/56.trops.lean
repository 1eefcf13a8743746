/-! ===== what holds of the steps made so far, and how each deed keeps it ===== -/
def VAL (n : Nat) (kC fC sC iC val : Nat → Int32) : Prop := ∀ j, j < n → (kC j = 0 → val j = iC j) ∧ (kC j = 5 → ∀ a, a < j → fC j = nI a → val j = val a) ∧
  ((kC j = 1 ∨ kC j = 2 ∨ kC j = 3 ∨ kC j = 4) → ∀ a b, a < j → b < j → fC j = nI a → sC j = nI b → val j = cmp (kC j) (val a) (val b))
def Tr (n R i : Nat) (kC fC cC val nx : Nat → Int32) (a b : Nat) (sN pN rO sO pO sT : Nat → Int32) (sc : Nat) : Prop :=
  (∀ v r, v < n → r < R → rO v = nI r → Cur sN pN pO a b v r ∧ (mach sN a).1 r = val v) ∧
  (∀ v s, v < n → s < 60 → sO v = nI s → (mach sN a).2.1 s = val v) ∧
  (mach sN a).2.2 = outs kC fC cC val i ∧ evs sN a = prog kC cC i ∧ PcsOK n R a b pN ∧
  (∀ v, v < n → stv sN pN v b ≤ 1 ∧ (nx v ≠ -1 → (stv sN pN v b ≠ 0 ↔ sO v ≠ -1))) ∧
  cK 8 sN a = fb_sm (fun v => stv sN pN v b) n ∧ (sc ≤ cK 8 sN a ∧ ∀ s, s < 60 → sT s ≠ 0 → s < sc) ∧
  (∀ v, v < n → ldv sN pN v b ≠ 0 → stv sN pN v b ≠ 0)
theorem ms_0 {r : Nat} {y z : Int32} {M : MS} (hr : r < 2 ^ 31) : mstep 0 (nI r) y z M = (upd M.1 r y, M.2.1, M.2.2) := by
  rw [mstep, if_pos rfl, nI_clamp hr]
theorem ms_5 {r q : Nat} {z : Int32} {M : MS} (hr : r < 2 ^ 31) (hq : q < 2 ^ 31) : mstep 5 (nI r) (nI q) z M = (upd M.1 r (M.1 q), M.2.1, M.2.2) := by
  rw [mstep, if_neg (by decide), if_pos rfl, nI_clamp hr, nI_clamp hq]
theorem ms_6 {r : Nat} {y z : Int32} {M : MS} (hr : r < 2 ^ 31) : mstep 6 (nI r) y z M = (M.1, M.2.1, M.2.2 ++ [M.1 r]) := by
  rw [mstep, if_neg (by decide), if_neg (by decide), if_pos rfl, nI_clamp hr]
theorem ms_7 {r q : Nat} {z : Int32} {M : MS} (hr : r < 2 ^ 31) (hq : q < 2 ^ 31) : mstep 7 (nI r) (nI q) z M = (upd M.1 r (M.2.1 q), M.2.1, M.2.2) := by
  rw [mstep, if_neg (by decide), if_neg (by decide), if_neg (by decide), if_pos rfl, nI_clamp hr, nI_clamp hq]
theorem ms_8 {r q : Nat} {z : Int32} {M : MS} (hr : r < 2 ^ 31) (hq : q < 2 ^ 31) : mstep 8 (nI r) (nI q) z M = (M.1, upd M.2.1 q (M.1 r), M.2.2) := by
  rw [mstep, if_neg (by decide), if_neg (by decide), if_neg (by decide), if_neg (by decide), if_pos rfl, nI_clamp hr, nI_clamp hq]
theorem ms_o {k : Int32} {r q u : Nat} {M : MS} (hk : k = 1 ∨ k = 2 ∨ k = 3 ∨ k = 4) (hr : r < 2 ^ 31) (hq : q < 2 ^ 31) (hu : u < 2 ^ 31) : mstep k (nI r) (nI q) (nI u) M = (upd M.1 r (cmp k (M.1 q) (M.1 u)), M.2.1, M.2.2) := by
  rw [mstep, if_neg (by rcases hk with h | h | h | h <;> rw [h] <;> decide), if_neg (by rcases hk with h | h | h | h <;> rw [h] <;> decide), if_neg (by rcases hk with h | h | h | h <;> rw [h] <;> decide), if_neg (by rcases hk with h | h | h | h <;> rw [h] <;> decide), if_neg (by rcases hk with h | h | h | h <;> rw [h] <;> decide), nI_clamp hr, nI_clamp hq, nI_clamp hu]
theorem RegI.one {n R v w r : Nat} {vI rO : Nat → Int32} (hR : R ≤ 8) (h : RegI n R vI rO) (hv : v < 60) (hw : w < 60) (hr : r < R) (e : rO v = nI r) (e' : rO w = nI r) : v = w := by
  rcases h.2 v hv with g | ⟨r1, g1, g2, g3⟩
  · exact absurd (e.symm.trans g) (nIm1 (by omega))
  · rcases h.2 w hw with k | ⟨r2, k1, k2, k3⟩
    · exact absurd (e'.symm.trans k) (nIm1 (by omega))
    · have a1 : r1 = r := nI_i (by omega) (by omega) (g2.symm.trans e)
      have a2 : r2 = r := nI_i (by omega) (by omega) (k2.symm.trans e')
      rw [a1] at g3; rw [a2] at k3
      exact nI_i (by omega) (by omega) (g3.symm.trans k3)
theorem RegI.held {n R w r : Nat} {vI rO : Nat → Int32} (hR : R ≤ 8) (h : RegI n R vI rO) (hw : w < 60) (hr : r < R) (e : rO w = nI r) : vI r = nI w := by
  rcases h.2 w hw with k | ⟨r2, k1, k2, k3⟩
  · exact absurd (e.symm.trans k) (nIm1 (by omega))
  · have a2 : r2 = r := nI_i (by omega) (by omega) (k2.symm.trans e)
    rw [← a2]; exact k3
theorem cK_none {κ : Int32} {f : Nat → Int32} {a : Nat} {x0 x1 x2 x3 : Int32} (h : x0 ≠ κ) : cK κ (up4 f a x0 x1 x2 x3) (a + 1) = cK κ f a := by rw [cK_app, if_neg h]; rfl
section TR
variable {n R i a b sc : Nat} {kC fC cC val nx sN pN vI rO sO pO sT : Nat → Int32}
theorem Tr.leave (hR : R ≤ 8) (hT : Tr n R i kC fC cC val nx a b sN pN rO sO pO sT sc) (v : Nat) : Tr n R i kC fC cC val nx a b sN pN (upd rO v (-1)) sO pO sT sc :=
  ⟨fun w r hw hr e => by
    by_cases q : w = v
    · rw [q, pk_us] at e; exact absurd e.symm (nIm1 (by omega))
    · rw [pk_un q] at e; exact hT.1 w r hw hr e, hT.2⟩
theorem Tr.congr {nx' : Nat → Int32} (hT : Tr n R i kC fC cC val nx a b sN pN rO sO pO sT sc) (e : ∀ v, v < n → nx v = nx' v) : Tr n R i kC fC cC val nx' a b sN pN rO sO pO sT sc := by
  obtain ⟨TA, TB, TC, TD, TE, TF, TG, TH, TI⟩ := hT
  exact ⟨TA, TB, TC, TD, TE, fun v hv => by rw [← e v hv]; exact TF v hv, TG, TH, TI⟩
/-- a value that is used no more leaves its register, its slot is free -/
theorem Tr.gone (hR : R ≤ 8) (hT : Tr n R i kC fC cC val nx a b sN pN rO sO pO sT sc) (v : Nat) {sT' : Nat → Int32} (h' : ∀ s, s < 60 → sT' s ≠ 0 → sT s ≠ 0) : Tr n R i kC fC cC val (upd nx v (-1)) a b sN pN (upd rO v (-1)) (upd sO v (-1)) pO sT' sc := by
  obtain ⟨TA, TB, TC, TD, TE, TF, TG, ⟨TH1, TH2⟩, TI⟩ := hT.leave hR v
  refine ⟨TA, fun w s hw hs e => ?_, TC, TD, TE, fun w hw => ⟨(TF w hw).1, fun g => ?_⟩, TG, ⟨TH1, fun s hs g => TH2 s hs (h' s hs g)⟩, TI⟩
  · by_cases q : w = v
    · rw [q, pk_us] at e; exact absurd e.symm (nIm1 (by omega))
    · rw [pk_un q] at e; exact TB w s hw hs e
  · by_cases q : w = v
    · rw [q, pk_us] at g; exact absurd rfl g
    · rw [pk_un q] at g; rw [pk_un q]; exact (TF w hw).2 g
theorem Tr.stay (hT : Tr n R i kC fC cC val nx a b sN pN rO sO pO sT sc) {v : Nat} {x : Int32} (hx : nx v ≠ -1) : Tr n R i kC fC cC val (upd nx v x) a b sN pN rO sO pO sT sc := by
  obtain ⟨TA, TB, TC, TD, TE, TF, TG, TH, TI⟩ := hT
  refine ⟨TA, TB, TC, TD, TE, fun w hw => ⟨(TF w hw).1, fun g => (TF w hw).2 ?_⟩, TG, TH, TI⟩
  by_cases q : w = v
  · rw [q]; exact hx
  · rw [pk_un q] at g; exact g
/-- an instruction that makes no step -/
theorem Tr.skip (hT : Tr n R i kC fC cC val nx a b sN pN rO sO pO sT sc) (h : cC i = 0 ∨ kC i = 0) : Tr n R (i + 1) kC fC cC val nx a b sN pN rO sO pO sT sc := by
  obtain ⟨TA, TB, TC, TD, TE, TF, TG, TH, TI⟩ := hT
  refine ⟨TA, TB, ?_, ?_, TE, TF, TG, TH, TI⟩
  · rw [TC, outs, if_neg, List.append_nil]
    rintro ⟨g1, g2⟩
    rcases h with h | h
    · exact g1 h
    · rw [h] at g2; exact absurd g2 (by decide)
  · rw [TD, prog, if_neg, List.append_nil]
    rintro ⟨g1, g2⟩
    exact h.elim g1 g2
set_option maxHeartbeats 1000000 in
/-- a store, ahead of the loss of the register -/
theorem Tr.store (hn : n ≤ 60) (hR : R ≤ 8) (ha : a < 240) (hReg : RegI n R vI rO) (hSl : SlotI sO sT) (hT : Tr n R i kC fC cC val nx a b sN pN rO sO pO sT sc) {v r s : Nat} (hv : v < n) (hr : r < R) (hrv : rO v = nI r) (hs0 : sO v = -1) (hnx : nx v ≠ -1) (hs : s < 60) (hf : sT s = 0) (hl : ∀ t, t < s → sT t ≠ 0) :
    ∃ q, q < b ∧ pO v = nI q ∧ Tr n R i kC fC cC val nx (a + 1) b (up4 sN a 8 (nI r) (nI s) (-1)) (upd pN (4 * q + 3) (nI a)) rO (upd sO v (nI s)) pO (upd sT s 1) (if sc < s + 1 then s + 1 else sc) ∧
      ∀ w, w < n → ldv (up4 sN a 8 (nI r) (nI s) (-1)) (upd pN (4 * q + 3) (nI a)) w b = ldv sN pN w b := by
  obtain ⟨TA, TB, TC, TD, TE, TF, TG, ⟨TH1, TH2⟩, TI⟩ := hT
  obtain ⟨⟨q, x, y, hq, hxy, hya, e1, e2, e3, e4, e5, hno⟩, hm⟩ := TA v r hv hr hrv
  have hE : Eq4 a (up4 sN a 8 (nI r) (nI s) (-1)) sN := Eq4.up4
  have hM : mach (up4 sN a 8 (nI r) (nI s) (-1)) (a + 1) = ((mach sN a).1, upd (mach sN a).2.1 s ((mach sN a).1 r), (mach sN a).2.2) := by
    rw [mach_app, ms_8 (by omega) (by omega)]
  have hδ : fb_ct (fun j => isSt (up4 sN a 8 (nI r) (nI s) (-1)) (nI r) (y + 1 + j)) (a - y) = 1 := by
    rw [show a - y = (a - y - 1) + 1 by omega, fb_ct_succ, fb_ct_zero.mpr (fun k hk => by rw [isSt_cong hE (by omega)]; exact hno _ (by omega) (by omega))]
    have e : y + 1 + (a - y - 1) = a := by omega
    rw [e]
    simp [isSt, up4_0, up4_1]
  have hst : ∀ w, w < n → stv (up4 sN a 8 (nI r) (nI s) (-1)) (upd pN (4 * q + 3) (nI a)) w b = stv sN pN w b + if v = w then 1 else 0 := fun w hw => by
    rw [stv_end hq hxy hya (by omega) (by omega) (by omega) e2 e3 e4 e5 hδ, stv_cong (by omega) hE TE]
  have hld : ∀ w, w < n → ldv (up4 sN a 8 (nI r) (nI s) (-1)) (upd pN (4 * q + 3) (nI a)) w b = ldv sN pN w b := fun w _ => by
    rw [ldv_end, ldv_cong (by omega) hE TE]
  have hv0 : stv sN pN v b = 0 := by
    rcases Nat.eq_zero_or_pos (stv sN pN v b) with g | g
    · exact g
    · exact absurd hs0 (((TF v hv).2 hnx).mp (by omega))
  have hsc : s ≤ sc := by
    rcases Nat.eq_zero_or_pos s with g | g
    · omega
    · have := TH2 (s - 1) (by omega) (hl (s - 1) (by omega)); omega
  refine ⟨q, hq, e1, ⟨fun w r' hw hr' e => ?_, fun w s' hw hs' e => ?_, ?_, ?_, ?_, fun w hw => ?_, ?_, ⟨?_, fun t ht g => ?_⟩, fun w hw g => ?_⟩, hld⟩
  · rw [hM]
    refine ⟨?_, (TA w r' hw hr' e).2⟩
    by_cases hwv : w = v
    · have hrr : r' = r := nI_i (by omega) (by omega) (e.symm.trans (by rw [hwv]; exact hrv))
      rw [hwv, hrr]
      exact ⟨q, x, a, hq, by omega, by omega, e1, by rw [pk_un (by omega)]; exact e2, by rw [pk_un (by omega)]; exact e3, by rw [pk_un (by omega)]; exact e4, pk_us, fun t g1 g2 => by omega⟩
    · refine ((TA w r' hw hr' e).1.app (fun _ g => hwv ?_)).endd q
      have hrr : r = r' := nI_i (by omega) (by omega) g
      exact hReg.one hR (by omega) (by omega) hr (by rw [hrr]; exact e) hrv
  · rw [hM]
    show upd (mach sN a).2.1 s ((mach sN a).1 r) s' = val w
    by_cases hwv : w = v
    · rw [hwv, pk_us] at e
      have hss : s' = s := nI_i (by omega) (by omega) e.symm
      rw [hss, pk_us, hwv]; exact hm
    · rw [pk_un hwv] at e
      have hss : s' ≠ s := fun g => by
        rcases hSl.1 w (by omega) with z | ⟨t, t1, t2, t3⟩
        · exact absurd (e.symm.trans z) (nIm1 (by omega))
        · have : t = s := (nI_i (by omega) (by omega) (t2.symm.trans e)).trans g
          rw [this, hf] at t3
          exact absurd t3 (by decide)
      rw [pk_un hss]; exact TB w s' hw hs' e
  · rw [hM]; exact TC
  · rw [evs_app, TD]; simp [isOp]
  · exact (TE.mono (Nat.le_succ a)).endd (fun x' y' g1 g2 g3 g4 => by omega) (by omega)
  · rw [hst w hw]
    by_cases hwv : v = w
    · rw [if_pos hwv, ← hwv, hv0, pk_us]
      exact ⟨Nat.le_refl 1, fun _ => ⟨fun _ => nIm1 (by omega), fun _ => by omega⟩⟩
    · rw [if_neg hwv, pk_un (fun g => hwv g.symm)]; exact TF w hw
  · rw [cK_app, if_pos rfl, TG]
    have h := fb_sm_upd (fun k => stv sN pN k b) (stv sN pN v b + 1) hv
    have e : fb_sm (fun w => stv (up4 sN a 8 (nI r) (nI s) (-1)) (upd pN (4 * q + 3) (nI a)) w b) n = fb_sm (fun k => if k = v then stv sN pN v b + 1 else stv sN pN k b) n := fb_sm_cong (fun k hk => by
      rw [hst k hk]
      by_cases g : k = v
      · rw [g, if_pos rfl, if_pos rfl]
      · rw [if_neg g, if_neg (fun z => g z.symm)]; rfl)
    rw [e]
    omega
  · rw [cK_app, if_pos rfl]
    split <;> omega
  · by_cases z : t = s
    · rw [z]; split <;> omega
    · rw [pk_un z] at g
      have := TH2 t ht g
      split <;> omega
  · rw [hst w hw]
    rw [hld w hw] at g
    have := TI w hw g
    omega
set_option maxHeartbeats 1000000 in
/-- a value comes into a register: made again, or loaded -/
theorem Tr.fetch (hn : n ≤ 60) (hR : R ≤ 8) (ha : a < 240) (hReg : RegI n R vI rO) (hT : Tr n R i kC fC cC val nx a b sN pN rO sO pO sT sc) {v r : Nat} (hv : v < n) (hr : r < R) (hfr : vI r = -1) (hnx : nx v ≠ -1) {x0 x2 : Int32} (hx : (x0 = 0 ∧ x2 = val v) ∨ (x0 = 7 ∧ ∃ s, s < 60 ∧ x2 = nI s ∧ sO v = nI s)) :
    Tr n R i kC fC cC val nx (a + 1) (b + 1) (up4 sN a x0 (nI r) x2 (-1)) (up4 pN b (nI v) (nI r) (nI a) (nI a)) (upd rO v (nI r)) sO (upd pO v (nI b)) sT sc ∧
      ∀ w, w < n → ldv (up4 sN a x0 (nI r) x2 (-1)) (up4 pN b (nI v) (nI r) (nI a) (nI a)) w (b + 1) ≤ ldv sN pN w b + if w = v then 1 else 0 := by
  obtain ⟨TA, TB, TC, TD, TE, TF, TG, ⟨TH1, TH2⟩, TI⟩ := hT
  have h8 : x0 ≠ 8 := by
    rcases hx with ⟨h, -⟩ | ⟨h, -⟩ <;> rw [h] <;> decide
  have hop : isOp x0 = false := by
    rcases hx with ⟨h, -⟩ | ⟨h, -⟩ <;> rw [h] <;> decide
  have hE : Eq4 a (up4 sN a x0 (nI r) x2 (-1)) sN := Eq4.up4
  have hM : mach (up4 sN a x0 (nI r) x2 (-1)) (a + 1) = (upd (mach sN a).1 r (val v), (mach sN a).2.1, (mach sN a).2.2) := by
    rw [mach_app]
    rcases hx with ⟨h, h'⟩ | ⟨h, s, hs, h', h''⟩
    · rw [h, h', ms_0 (by omega)]
    · rw [h, h', ms_7 (by omega) (by omega), TB v s hv hs h'']
  have hst : ∀ w, w < n → stv (up4 sN a x0 (nI r) x2 (-1)) (up4 pN b (nI v) (nI r) (nI a) (nI a)) w (b + 1) = stv sN pN w b := fun w _ => by
    rw [stv_new (by omega) (by rw [up4_0]; exact h8), stv_cong (by omega) hE TE]
  have hld : ∀ w, w < n → ldv (up4 sN a x0 (nI r) x2 (-1)) (up4 pN b (nI v) (nI r) (nI a) (nI a)) w (b + 1) = ldv sN pN w b + if v = w ∧ x0 = 7 then 1 else 0 := fun w hw => by
    rw [ldv_new (by omega) (by omega) (by omega), ldv_cong (by omega) hE TE, up4_0]
  refine ⟨⟨fun w r' hw hr' e => ?_, fun w s' hw hs' e => ?_, ?_, ?_, ?_, fun w hw => ?_, ?_, ⟨?_, TH2⟩, fun w hw g => ?_⟩, fun w hw => ?_⟩
  · rw [hM]
    by_cases hwv : w = v
    · rw [hwv, pk_us] at e
      have hrr : r' = r := nI_i (by omega) (by omega) e.symm
      rw [hwv, hrr]
      exact ⟨Cur.fresh, pk_us⟩
    · rw [pk_un hwv] at e
      have hrr : r' ≠ r := fun g => by
        have := hReg.held hR (by omega) hr' e
        rw [g, hfr] at this
        exact nIm1 (k := w) (by omega) this.symm
      exact ⟨((TA w r' hw hr' e).1.app (fun g => absurd g h8)).piece hwv, (pk_un hrr).trans (TA w r' hw hr' e).2⟩
  · rw [hM]; exact TB w s' hw hs' e
  · rw [hM]; exact TC
  · rw [evs_app, TD, hop]; simp
  · exact (TE.mono (Nat.le_succ a)).new hv hr (by omega)
  · rw [hst w hw]; exact TF w hw
  · rw [cK_none h8, TG]; exact (fb_sm_cong (fun k hk => hst k hk)).symm
  · rw [cK_none h8]; exact TH1
  · rw [hst w hw]
    rw [hld w hw] at g
    by_cases z : v = w ∧ x0 = 7
    · rcases hx with ⟨h, -⟩ | ⟨-, s, hs, -, h''⟩
      · rw [h] at z; exact absurd z.2 (by decide)
      · rw [← z.1]; exact ((TF v hv).2 hnx).mpr (by rw [h'']; exact nIm1 (by omega))
    · rw [if_neg z] at g; exact TI w hw g
  · rw [hld w hw]
    by_cases z : v = w
    · rw [if_pos z.symm]; split <;> omega
    · rw [if_neg (fun g => z g.1)]; omega
set_option maxHeartbeats 1000000 in
/-- the step of an instruction with a value -/
theorem Tr.value (hn : n ≤ 60) (hR : R ≤ 8) (ha : a < 240) (hi : i < n) (hReg : RegI n R vI rO) (hT : Tr n R i kC fC cC val nx a b sN pN rO sO pO sT sc) {r : Nat} {xa xb : Int32} (hr : r < R) (hfr : vI r = -1) (hc : cC i ≠ 0) (h6 : kC i ≠ 6) (hop : isOp (kC i) = true) (h8 : kC i ≠ 8) (h7 : kC i ≠ 7) (h0 : kC i ≠ 0)
    (hval : mstep (kC i) (nI r) xa xb (mach sN a) = (upd (mach sN a).1 r (val i), (mach sN a).2.1, (mach sN a).2.2)) :
    Tr n R (i + 1) kC fC cC val nx (a + 1) (b + 1) (up4 sN a (kC i) (nI r) xa xb) (up4 pN b (nI i) (nI r) (nI a) (nI a)) (upd rO i (nI r)) sO (upd pO i (nI b)) sT sc ∧
      (∀ w, w < n → ldv (up4 sN a (kC i) (nI r) xa xb) (up4 pN b (nI i) (nI r) (nI a) (nI a)) w (b + 1) = ldv sN pN w b) ∧
      ∀ w r', w ≠ i → Cur sN pN pO a b w r' → Cur (up4 sN a (kC i) (nI r) xa xb) (up4 pN b (nI i) (nI r) (nI a) (nI a)) (upd pO i (nI b)) (a + 1) (b + 1) w r' := by
  obtain ⟨TA, TB, TC, TD, TE, TF, TG, ⟨TH1, TH2⟩, TI⟩ := hT
  have hE : Eq4 a (up4 sN a (kC i) (nI r) xa xb) sN := Eq4.up4
  have hM : mach (up4 sN a (kC i) (nI r) xa xb) (a + 1) = (upd (mach sN a).1 r (val i), (mach sN a).2.1, (mach sN a).2.2) := by
    rw [mach_app, hval]
  have hst : ∀ w, w < n → stv (up4 sN a (kC i) (nI r) xa xb) (up4 pN b (nI i) (nI r) (nI a) (nI a)) w (b + 1) = stv sN pN w b := fun w _ => by
    rw [stv_new (by omega) (by rw [up4_0]; exact h8), stv_cong (by omega) hE TE]
  have hld : ∀ w, w < n → ldv (up4 sN a (kC i) (nI r) xa xb) (up4 pN b (nI i) (nI r) (nI a) (nI a)) w (b + 1) = ldv sN pN w b := fun w hw => by
    rw [ldv_new (by omega) (by omega) (by omega), ldv_cong (by omega) hE TE, up4_0, if_neg (fun g => h7 g.2)]; rfl
  refine ⟨⟨fun w r' hw hr' e => ?_, fun w s' hw hs' e => ?_, ?_, ?_, ?_, fun w hw => ?_, ?_, ⟨?_, TH2⟩, fun w hw g => ?_⟩, hld, fun w r' hw hcu => (hcu.app (fun g => absurd g h8)).piece hw⟩
  · rw [hM]
    by_cases hwv : w = i
    · rw [hwv, pk_us] at e
      have hrr : r' = r := nI_i (by omega) (by omega) e.symm
      rw [hwv, hrr]
      exact ⟨Cur.fresh, pk_us⟩
    · rw [pk_un hwv] at e
      have hrr : r' ≠ r := fun g => by
        have := hReg.held hR (by omega) hr' e
        rw [g, hfr] at this
        exact nIm1 (k := w) (by omega) this.symm
      exact ⟨((TA w r' hw hr' e).1.app (fun g => absurd g h8)).piece hwv, (pk_un hrr).trans (TA w r' hw hr' e).2⟩
  · rw [hM]; exact TB w s' hw hs' e
  · rw [hM, outs, if_neg (fun g => h6 g.2), List.append_nil]; exact TC
  · rw [evs_app, TD, hop, if_pos rfl, prog, if_pos ⟨hc, h0⟩]
  · exact (TE.mono (Nat.le_succ a)).new hi hr (by omega)
  · rw [hst w hw]; exact TF w hw
  · rw [cK_none h8, TG]; exact (fb_sm_cong (fun k hk => hst k hk)).symm
  · rw [cK_none h8]; exact TH1
  · rw [hst w hw]
    rw [hld w hw] at g
    exact TI w hw g
set_option maxHeartbeats 1000000 in
/-- the step of an OUT -/
theorem Tr.out (hR : R ≤ 8) (ha : a < 240) (hT : Tr n R i kC fC cC val nx a b sN pN rO sO pO sT sc) {va ra : Nat} {x2 x3 : Int32} (hra : ra < R) (hva : va < 60) (hc : cC i ≠ 0) (h6 : kC i = 6) (hf : fC i = nI va) (hval : (mach sN a).1 ra = val va) :
    Tr n R (i + 1) kC fC cC val nx (a + 1) b (up4 sN a 6 (nI ra) x2 x3) pN rO sO pO sT sc ∧
      (∀ w, w < n → ldv (up4 sN a 6 (nI ra) x2 x3) pN w b = ldv sN pN w b) ∧
      ∀ w r', Cur sN pN pO a b w r' → Cur (up4 sN a 6 (nI ra) x2 x3) pN pO (a + 1) b w r' := by
  obtain ⟨TA, TB, TC, TD, TE, TF, TG, ⟨TH1, TH2⟩, TI⟩ := hT
  have hE : Eq4 a (up4 sN a 6 (nI ra) x2 x3) sN := Eq4.up4
  have hM : mach (up4 sN a 6 (nI ra) x2 x3) (a + 1) = ((mach sN a).1, (mach sN a).2.1, (mach sN a).2.2 ++ [val va]) := by
    rw [mach_app, ms_6 (by omega), hval]
  have hst : ∀ w, stv (up4 sN a 6 (nI ra) x2 x3) pN w b = stv sN pN w b := fun w => stv_cong (by omega) hE TE
  have hld : ∀ w, ldv (up4 sN a 6 (nI ra) x2 x3) pN w b = ldv sN pN w b := fun w => ldv_cong (by omega) hE TE
  refine ⟨⟨fun w r' hw hr' e => ?_, fun w s' hw hs' e => ?_, ?_, ?_, TE.mono (Nat.le_succ a), fun w hw => ?_, ?_, ⟨?_, TH2⟩, fun w hw g => ?_⟩, fun w _ => hld w, fun w r' hcu => hcu.app (fun g => absurd g (by decide))⟩
  · rw [hM]; exact ⟨(TA w r' hw hr' e).1.app (fun g => absurd g (by decide)), (TA w r' hw hr' e).2⟩
  · rw [hM]; exact TB w s' hw hs' e
  · rw [hM, outs, if_pos ⟨hc, h6⟩, hf, nI_clamp (by omega)]
    show (mach sN a).2.2 ++ [val va] = _
    rw [TC]
  · rw [evs_app, TD, if_pos (show isOp 6 = true by decide), prog, if_pos ⟨hc, by rw [h6]; decide⟩, h6]
  · rw [hst w]; exact TF w hw
  · rw [cK_none (by decide), TG]; exact (fb_sm_cong (fun k hk => hst k)).symm
  · rw [cK_none (by decide)]; exact TH1
  · rw [hst w]
    rw [hld w] at g
    exact TI w hw g
/-- a piece ends with the last step -/
theorem Tr.read (hn : n ≤ 60) (hT : Tr n R i kC fC cC val nx (a + 1) b sN pN rO sO pO sT sc) (ha : a < 240) {va ra : Nat} (hva : va < 60) (hcu : Cur sN pN pO (a + 1) b va ra) :
    ∃ q, q < b ∧ pO va = nI q ∧ Tr n R i kC fC cC val nx (a + 1) b sN (upd pN (4 * q + 3) (nI a)) rO sO pO sT sc ∧ (∀ w, w < n → ldv sN (upd pN (4 * q + 3) (nI a)) w b = ldv sN pN w b) ∧
      ∀ w r', Cur sN pN pO (a + 1) b w r' → Cur sN (upd pN (4 * q + 3) (nI a)) pO (a + 1) b w r' := by
  obtain ⟨q, x, y, hq, hxy, hya, e1, e2, e3, e4, e5, hno⟩ := hcu
  obtain ⟨TA, TB, TC, TD, TE, TF, TG, TH, TI⟩ := hT
  have hst : ∀ w, w < n → stv sN (upd pN (4 * q + 3) (nI a)) w b = stv sN pN w b := fun w hw => by
    rcases Nat.lt_or_ge y a with g | g
    · rw [stv_end (δ := 0) hq hxy g (by omega) (by omega) (by omega) e2 e3 e4 e5 (fb_ct_zero.mpr (fun k hk => hno _ (by omega) (by omega)))]
      split <;> rfl
    · have e : y = a := by omega
      rw [upd_id (by rw [e5, e])]
  refine ⟨q, hq, e1, ⟨fun w r' hw hr' e => ⟨(TA w r' hw hr' e).1.endd q, (TA w r' hw hr' e).2⟩, TB, TC, TD, TE.endd (fun x' y' g1 g2 g3 g4 => by omega) (by omega), fun w hw => by rw [hst w hw]; exact TF w hw, ?_, TH, fun w hw g => by rw [hst w hw]; rw [ldv_end] at g; exact TI w hw g⟩, fun w _ => ldv_end, fun w r' h => h.endd q⟩
  rw [TG]; exact (fb_sm_cong (fun k hk => hst k hk)).symm
end TR
