/-! ===== what the steps do; which stores lie within a piece ===== -/
theorem lose_L1 {kC vI sO up : Nat → Int32} {n R : Nat} {pa pb : Int32} (hn : n ≤ 60) (hR : R ≤ 8) (hv : ∀ r, r < R → ∃ v, v < n ∧ vI r = nI v) :
    ∀ (d r f1 : Nat) (best : Option Nat), R - r = d → r ≤ R → d < f1 → (∀ q, best = some q → q < R ∧ vI q ≠ pa ∧ vI q ≠ pb) →
      ∃ res : Option Nat, f_X0_registerToLose_L5 kC (nI n) vI sO up (nI R) pa pb f1 (nI r) (oI best) = some (oI res) ∧
        (∀ q, res = some q → q < R ∧ vI q ≠ pa ∧ vI q ≠ pb) ∧ ((best ≠ none ∨ ∃ q, r ≤ q ∧ q < R ∧ vI q ≠ pa ∧ vI q ≠ pb) → res ≠ none) := by
  intro d
  induction d with
  | zero =>
    intro r f1 best hd hr h1 hb
    obtain ⟨m1, rfl, g1⟩ := fuel_s h1
    rw [f_X0_registerToLose_L5, if_pos (nI_le (by omega) (by omega))]
    refine ⟨best, rfl, hb, fun h => h.elim id ?_⟩
    rintro ⟨q, q1, q2, -⟩
    omega
  | succ d ih =>
    intro r f1 best hd hr h1 hb
    obtain ⟨m1, rfl, g1⟩ := fuel_s h1
    have hrR : r < R := by omega
    obtain ⟨v, hvn, ev⟩ := hv r hrR
    rw [f_X0_registerToLose_L5, if_neg (nI_ge hrR (by omega)), held_ok hrR hR, kbs rfl, nI_1, ev]
    have new : vI r ≠ pa → vI r ≠ pb → ∃ res : Option Nat, f_X0_registerToLose_L5 kC (nI n) vI sO up (nI R) pa pb m1 (nI (r + 1)) (nI r) = some (oI res) ∧ (∀ q, res = some q → q < R ∧ vI q ≠ pa ∧ vI q ≠ pb) ∧ res ≠ none := by
      intro c1 c2
      obtain ⟨res, e1, e3, e4⟩ := ih (r + 1) m1 (some r) (by omega) (by omega) (by omega) (fun q hq => by cases hq; exact ⟨hrR, c1, c2⟩)
      exact ⟨res, e1, e3, e4 (Or.inl (by simp))⟩
    have old : ¬ (vI r ≠ pa ∧ vI r ≠ pb) → ∃ res : Option Nat, f_X0_registerToLose_L5 kC (nI n) vI sO up (nI R) pa pb m1 (nI (r + 1)) (oI best) = some (oI res) ∧ (∀ q, res = some q → q < R ∧ vI q ≠ pa ∧ vI q ≠ pb) ∧ ((best ≠ none ∨ ∃ q, r ≤ q ∧ q < R ∧ vI q ≠ pa ∧ vI q ≠ pb) → res ≠ none) := by
      intro hcr
      obtain ⟨res, e1, e3, e4⟩ := ih (r + 1) m1 best (by omega) (by omega) (by omega) hb
      refine ⟨res, e1, e3, fun h => e4 (h.imp_right ?_)⟩
      rintro ⟨q, q1, q2, q3⟩
      rcases Nat.lt_or_ge r q with z | z
      · exact ⟨q, z, q2, q3⟩
      · have e : q = r := by omega
        rw [e] at q3
        exact absurd q3 hcr
    by_cases ha : nI v = pa
    · rw [if_pos ha]; exact old (fun h => h.1 (ev.trans ha))
    · rw [if_neg ha]
      by_cases hb2 : nI v = pb
      · rw [if_pos hb2]; exact old (fun h => h.2 (ev.trans hb2))
      · rw [if_neg hb2]
        have new' := new (by rw [ev]; exact ha) (by rw [ev]; exact hb2)
        obtain ⟨res0, n1, n2, n3⟩ := new'
        cases hbest : best with
        | none => rw [if_pos (show oI none = -1 from rfl)]; exact ⟨res0, n1, n2, fun _ => n3⟩
        | some q =>
          obtain ⟨hqR, hq1, hq2⟩ := hb q hbest
          obtain ⟨w, hwn, ew⟩ := hv q hqR
          have hne : ¬ oI (some q) = -1 := nIm1 (by omega)
          rw [if_neg hne]
          show ∃ res : Option Nat, (Option.bind (f_X0_valueHeldIn (nI q) vI (nI R)) _) = _ ∧ _
          rw [held_ok hqR hR, kbs rfl, ew, losesBefore_ok hn hvn hwn, kbs rfl]
          split
          · obtain ⟨res, e1, e3, e4⟩ := ih (r + 1) m1 (some q) (by omega) (by omega) (by omega) (fun q' hq' => by cases hq'; exact ⟨hqR, hq1, hq2⟩)
            exact ⟨res, e1, e3, fun _ => e4 (Or.inl (by simp))⟩
          · exact ⟨res0, n1, n2, fun _ => n3⟩
theorem lose1 {kC vI sO up : Nat → Int32} {n R : Nat} {pa pb : Int32} (hn : n ≤ 60) (hR : R ≤ 8) (hv : ∀ r, r < R → ∃ v, v < n ∧ vI r = nI v) (hex : ∃ q, q < R ∧ vI q ≠ pa ∧ vI q ≠ pb) :
    ∃ r, r < R ∧ vI r ≠ pa ∧ vI r ≠ pb ∧ f_X0_registerToLose pa pb kC (nI n) vI sO up (nI R) = some (nI r) := by
  obtain ⟨res, e1, e3, e4⟩ := lose_L1 (kC := kC) (sO := sO) (up := up) hn hR hv R 0 4000 none rfl (Nat.zero_le R) (by omega) (fun q h => by cases h)
  obtain ⟨q, q1, q2, q3⟩ := hex
  obtain ⟨r, rfl⟩ := Option.ne_none_iff_exists'.mp (e4 (Or.inr ⟨q, Nat.zero_le q, q1, q2, q3⟩))
  obtain ⟨hr, c1, c2⟩ := e3 r rfl
  have e1' : f_X0_registerToLose_L5 kC (nI n) vI sO up (nI R) pa pb 4000 0 (-1) = some (nI r) := e1
  exact ⟨r, hr, c1, c2, by rw [f_X0_registerToLose, e1', kbs rfl]⟩
theorem slot_L1 {sT : Nat → Int32} {s : Nat} (hs : s < 60) (h0 : sT s = 0) : ∀ (d r f1 : Nat), s - r = d → r ≤ s → d < f1 → (∀ t, r ≤ t → t < s → sT t ≠ 0) → f_X0_smallestFreeSlot_L2 sT f1 (nI r) = some (nI s) := by
  intro d
  induction d with
  | zero =>
    intro r f1 hd hr h1 hl
    obtain ⟨m1, rfl, g1⟩ := fuel_s h1
    have e : r = s := by omega
    rw [f_X0_smallestFreeSlot_L2, e, if_neg (show ¬ (60 : Int32) ≤ nI s from nI_ge (b := 60) hs (by omega)), rdc_N hs (by omega), nI_clamp (by omega), if_pos h0]
  | succ d ih =>
    intro r f1 hd hr h1 hl
    obtain ⟨m1, rfl, g1⟩ := fuel_s h1
    rw [f_X0_smallestFreeSlot_L2, if_neg (show ¬ (60 : Int32) ≤ nI r from nI_ge (b := 60) (by omega) (by omega)), rdc_N (by omega) (by omega), nI_clamp (by omega), if_neg (hl r (Nat.le_refl r) (by omega)), nI_1]
    exact ih (r + 1) m1 (by omega) (by omega) (by omega) (fun t g1 g2 => hl t (by omega) g2)
theorem Eq4.up4 {f : Nat → Int32} {a : Nat} {x0 x1 x2 x3 : Int32} : Eq4 a (up4 f a x0 x1 x2 x3) f := fun _ hj => up4_lo hj
theorem Eq4.mono {f g : Nat → Int32} {a b : Nat} (h : Eq4 a f g) (hb : b ≤ a) : Eq4 b f g := fun j hj => h j (by omega)
/-- what an instruction computes -/
def cmp (k x y : Int32) : Int32 := if k = 1 then x + y else if k = 2 then x - y else if k = 3 then x * y else x ^^^ y
abbrev MS : Type := (Nat → Int32) × (Nat → Int32) × List Int32
/-- a step, done: registers, slots, outputs -/
def mstep (k x y z : Int32) (M : MS) : MS :=
  if k = 0 then (upd M.1 x.toNatClampNeg y, M.2.1, M.2.2)
  else if k = 5 then (upd M.1 x.toNatClampNeg (M.1 y.toNatClampNeg), M.2.1, M.2.2)
  else if k = 6 then (M.1, M.2.1, M.2.2 ++ [M.1 x.toNatClampNeg])
  else if k = 7 then (upd M.1 x.toNatClampNeg (M.2.1 y.toNatClampNeg), M.2.1, M.2.2)
  else if k = 8 then (M.1, upd M.2.1 y.toNatClampNeg (M.1 x.toNatClampNeg), M.2.2)
  else (upd M.1 x.toNatClampNeg (cmp k (M.1 y.toNatClampNeg) (M.1 z.toNatClampNeg)), M.2.1, M.2.2)
def mach (f : Nat → Int32) : Nat → MS
  | 0 => (fun _ => 0, fun _ => 0, [])
  | a + 1 => mstep (f (4 * a)) (f (4 * a + 1)) (f (4 * a + 2)) (f (4 * a + 3)) (mach f a)
theorem mach_cong {f g : Nat → Int32} : ∀ {a : Nat}, Eq4 a f g → mach f a = mach g a
  | 0, _ => rfl
  | a + 1, h => by rw [mach, mach, mach_cong (h.mono (Nat.le_succ a)), h (4 * a) (by omega), h (4 * a + 1) (by omega), h (4 * a + 2) (by omega), h (4 * a + 3) (by omega)]
theorem mach_app {f : Nat → Int32} {a : Nat} {x0 x1 x2 x3 : Int32} : mach (up4 f a x0 x1 x2 x3) (a + 1) = mstep x0 x1 x2 x3 (mach f a) := by
  rw [mach, up4_0, up4_1, up4_2, up4_3, mach_cong Eq4.up4]
/-- the kinds of the instructions' own steps, in order -/
def isOp (k : Int32) : Bool := decide (k = 1 ∨ k = 2 ∨ k = 3 ∨ k = 4 ∨ k = 5 ∨ k = 6)
def evs (f : Nat → Int32) : Nat → List Int32
  | 0 => []
  | a + 1 => evs f a ++ (if isOp (f (4 * a)) = true then [f (4 * a)] else [])
theorem evs_cong {f g : Nat → Int32} : ∀ {a : Nat}, Eq4 a f g → evs f a = evs g a
  | 0, _ => rfl
  | a + 1, h => by rw [evs, evs, evs_cong (h.mono (Nat.le_succ a)), h (4 * a) (by omega)]
theorem evs_app {f : Nat → Int32} {a : Nat} {x0 x1 x2 x3 : Int32} : evs (up4 f a x0 x1 x2 x3) (a + 1) = evs f a ++ (if isOp x0 = true then [x0] else []) := by
  rw [evs, up4_0, evs_cong Eq4.up4]
/-- the kinds of the instructions that count, without constants, in order -/
def prog (k c : Nat → Int32) : Nat → List Int32
  | 0 => []
  | i + 1 => prog k c i ++ (if c i ≠ 0 ∧ k i ≠ 0 then [k i] else [])
/-- the outputs -/
def outs (k f c val : Nat → Int32) : Nat → List Int32
  | 0 => []
  | i + 1 => outs k f c val i ++ (if c i ≠ 0 ∧ k i = 6 then [val (f i).toNatClampNeg] else [])
/-- a store of this register -/
def isSt (f : Nat → Int32) (r : Int32) (t : Nat) : Bool := decide (f (4 * t) = 8 ∧ f (4 * t + 1) = r)
theorem isSt_cong {f g : Nat → Int32} {a t : Nat} {r : Int32} (h : Eq4 a f g) (ht : t < a) : isSt f r t = isSt g r t := by
  unfold isSt; rw [h (4 * t) (by omega), h (4 * t + 1) (by omega)]
def wn (f : Nat → Int32) (r : Int32) (x d : Nat) : Nat := fb_ct (fun j => isSt f r (x + j)) d
/-- the stores of its register within the q-th piece -/
def wq (f p : Nat → Int32) (q : Nat) : Nat := wn f (p (4 * q + 1)) (p (4 * q + 2)).toNatClampNeg ((p (4 * q + 3)).toNatClampNeg + 1 - (p (4 * q + 2)).toNatClampNeg)
def gq (f p : Nat → Int32) (v q : Nat) : Nat := if p (4 * q) = nI v then wq f p q else 0
def stv (f p : Nat → Int32) (v b : Nat) : Nat := fb_sm (gq f p v) b
def lq (f p : Nat → Int32) (v q : Nat) : Nat := if p (4 * q) = nI v ∧ f (4 * (p (4 * q + 2)).toNatClampNeg) = 7 then 1 else 0
def ldv (f p : Nat → Int32) (v b : Nat) : Nat := fb_sm (lq f p v) b
def PcOK (n R a : Nat) (p : Nat → Int32) (q : Nat) : Prop := ∃ v r x y : Nat, v < n ∧ r < R ∧ x ≤ y ∧ y < a ∧ p (4 * q) = nI v ∧ p (4 * q + 1) = nI r ∧ p (4 * q + 2) = nI x ∧ p (4 * q + 3) = nI y
def PcsOK (n R a b : Nat) (p : Nat → Int32) : Prop := ∀ q, q < b → PcOK n R a p q
theorem PcsOK.mono {n R a a' b : Nat} {p : Nat → Int32} (h : PcsOK n R a b p) (ha : a ≤ a') : PcsOK n R a' b p := fun q hq => by
  obtain ⟨v, r, x, y, h1, h2, h3, h4, h5⟩ := h q hq
  exact ⟨v, r, x, y, h1, h2, h3, by omega, h5⟩
theorem wq_cong {n R a q : Nat} {f g p : Nat → Int32} (ha : a < 2 ^ 20) (h : Eq4 a f g) (hq : PcOK n R a p q) : wq f p q = wq g p q := by
  obtain ⟨v, r, x, y, h1, h2, h3, h4, h5, h6, h7, h8⟩ := hq
  unfold wq wn
  rw [h7, h8, nI_clamp (by omega), nI_clamp (by omega)]
  exact fb_ct_cong (fun j hj => isSt_cong h (by omega))
theorem stv_cong {n R a b v : Nat} {f g p : Nat → Int32} (ha : a < 2 ^ 20) (h : Eq4 a f g) (hp : PcsOK n R a b p) : stv f p v b = stv g p v b :=
  fb_sm_cong (fun q hq => by unfold gq; rw [wq_cong ha h (hp q hq)])
theorem ldv_cong {n R a b v : Nat} {f g p : Nat → Int32} (ha : a < 2 ^ 20) (h : Eq4 a f g) (hp : PcsOK n R a b p) : ldv f p v b = ldv g p v b :=
  fb_sm_cong (fun q hq => by
    obtain ⟨w, r, x, y, h1, h2, h3, h4, h5, h6, h7, h8⟩ := hp q hq
    unfold lq
    rw [h7, nI_clamp (by omega), h (4 * x) (by omega)])
theorem gq_cong {f p p' : Nat → Int32} {v q : Nat} (h : ∀ k, k < 4 → p' (4 * q + k) = p (4 * q + k)) : gq f p' v q = gq f p v q := by
  unfold gq wq
  rw [show p' (4 * q) = p (4 * q) from h 0 (by omega), h 1 (by omega), h 2 (by omega), h 3 (by omega)]
theorem lq_cong {f p p' : Nat → Int32} {v q : Nat} (h0 : p' (4 * q) = p (4 * q)) (h2 : p' (4 * q + 2) = p (4 * q + 2)) : lq f p' v q = lq f p v q := by
  unfold lq; rw [h0, h2]
/-- a new piece, that begins with a step that is no store -/
theorem stv_new {f p : Nat → Int32} {b v x w : Nat} {r : Int32} (hx : x < 2 ^ 20) (h8 : f (4 * x) ≠ 8) : stv f (up4 p b (nI v) r (nI x) (nI x)) w (b + 1) = stv f p w b := by
  unfold stv
  rw [fb_sm_succ, fb_sm_cong (g := gq f p w) (fun q hq => gq_cong (fun k hk => up4_lo (by omega)))]
  have e : gq f (up4 p b (nI v) r (nI x) (nI x)) w b = 0 := by
    unfold gq wq
    rw [up4_0, up4_1, up4_2, up4_3, nI_clamp (by omega), show x + 1 - x = 1 by omega]
    unfold wn
    rw [fb_ct_zero.mpr (fun k hk => by
      have : x + k = x := by omega
      rw [this]; simp [isSt, h8])]
    split <;> rfl
  rw [e, Nat.add_zero]
theorem ldv_new {f p : Nat → Int32} {b v x w : Nat} {r : Int32} (hx : x < 2 ^ 20) (hv : v < 2 ^ 20) (hw : w < 2 ^ 20) : ldv f (up4 p b (nI v) r (nI x) (nI x)) w (b + 1) = ldv f p w b + if v = w ∧ f (4 * x) = 7 then 1 else 0 := by
  unfold ldv
  rw [fb_sm_succ, fb_sm_cong (g := lq f p w) (fun q hq => lq_cong (up4_lo (by omega)) (up4_lo (by omega)))]
  congr 1
  unfold lq
  rw [up4_0, up4_2, nI_clamp (by omega)]
  by_cases h : v = w
  · rw [h]; simp
  · rw [if_neg (fun g => h (nI_i (by omega) (by omega) g.1)), if_neg (fun g => h g.1)]
/-- a piece's end moves on -/
theorem stv_end {f p : Nat → Int32} {q b x y y' v w δ : Nat} {r : Int32} (hq : q < b) (hxy : x ≤ y) (hy : y < y') (hy' : y' < 2 ^ 20) (hv : v < 2 ^ 20) (hw : w < 2 ^ 20) (e0 : p (4 * q) = nI v) (e1 : p (4 * q + 1) = r) (e2 : p (4 * q + 2) = nI x) (e3 : p (4 * q + 3) = nI y)
    (hδ : fb_ct (fun j => isSt f r (y + 1 + j)) (y' - y) = δ) : stv f (upd p (4 * q + 3) (nI y')) w b = stv f p w b + if v = w then δ else 0 := by
  have h := fb_sm_upd (gq f p w) (gq f p w q + if v = w then δ else 0) hq
  have e : fb_sm (gq f (upd p (4 * q + 3) (nI y')) w) b = fb_sm (fun k => if k = q then gq f p w q + (if v = w then δ else 0) else gq f p w k) b := by
    refine fb_sm_cong (fun k _ => ?_)
    by_cases hk : k = q
    · rw [if_pos hk, hk]
      unfold gq wq
      rw [pk_un (show 4 * q ≠ 4 * q + 3 by omega), pk_un (show 4 * q + 1 ≠ 4 * q + 3 by omega), pk_un (show 4 * q + 2 ≠ 4 * q + 3 by omega), pk_us, e0, e1, e2, e3, nI_clamp (n := x) (by omega), nI_clamp (n := y') (by omega), nI_clamp (n := y) (by omega)]
      by_cases hvw : v = w
      · rw [if_pos (by rw [hvw]), if_pos (by rw [hvw]), if_pos hvw, ← hδ]
        unfold wn
        have hs := fb_ct_split (fun j => isSt f r (x + j)) (y + 1 - x) (y' - y)
        rw [show y + 1 - x + (y' - y) = y' + 1 - x by omega] at hs
        rw [hs]
        congr 1
        exact fb_ct_cong (fun j _ => by rw [show x + (y + 1 - x + j) = y + 1 + j by omega])
      · have hn : ¬ nI v = nI w := fun g => hvw (nI_i (by omega) (by omega) g)
        rw [if_neg hn, if_neg hn, if_neg hvw]
    · rw [if_neg hk]
      exact gq_cong (fun j hj => pk_un (by omega))
  unfold stv
  rw [e]
  omega
theorem ldv_end {f p : Nat → Int32} {q b w : Nat} {x : Int32} : ldv f (upd p (4 * q + 3) x) w b = ldv f p w b :=
  fb_sm_cong (fun k _ => lq_cong (pk_un (by omega)) (pk_un (by omega)))
/-- a value in a register: its piece, and no store of the register behind its end -/
def Cur (f p pO : Nat → Int32) (a b v r : Nat) : Prop := ∃ q x y : Nat, q < b ∧ x ≤ y ∧ y < a ∧ pO v = nI q ∧ p (4 * q) = nI v ∧ p (4 * q + 1) = nI r ∧ p (4 * q + 2) = nI x ∧ p (4 * q + 3) = nI y ∧ ∀ t, y < t → t < a → isSt f (nI r) t = false
theorem Cur.app {f p pO : Nat → Int32} {a b v r : Nat} {x0 x1 x2 x3 : Int32} (h : Cur f p pO a b v r) (h8 : x0 = 8 → x1 ≠ nI r) : Cur (up4 f a x0 x1 x2 x3) p pO (a + 1) b v r := by
  obtain ⟨q, x, y, h1, h2, h3, h4, h5, h6, h7, h9, h10⟩ := h
  refine ⟨q, x, y, h1, h2, by omega, h4, h5, h6, h7, h9, fun t g1 g2 => ?_⟩
  rcases Nat.lt_or_ge t a with z | z
  · rw [isSt_cong Eq4.up4 z]; exact h10 t g1 z
  · have e : t = a := by omega
    unfold isSt
    rw [e, up4_0, up4_1]
    exact decide_eq_false (fun g => h8 g.1 g.2)
theorem Cur.piece {f p pO : Nat → Int32} {a b v r w : Nat} {x0 x1 x2 x3 y : Int32} (h : Cur f p pO a b v r) (hw : v ≠ w) : Cur f (up4 p b x0 x1 x2 x3) (upd pO w y) a (b + 1) v r := by
  obtain ⟨q, x, y, h1, h2, h3, h4, h5, h6, h7, h9, h10⟩ := h
  exact ⟨q, x, y, by omega, h2, h3, by rw [pk_un hw]; exact h4, by rw [up4_lo (by omega)]; exact h5, by rw [up4_lo (by omega)]; exact h6, by rw [up4_lo (by omega)]; exact h7, by rw [up4_lo (by omega)]; exact h9, h10⟩
theorem Cur.fresh {f p pO : Nat → Int32} {a b v r : Nat} : Cur f (up4 p b (nI v) (nI r) (nI a) (nI a)) (upd pO v (nI b)) (a + 1) (b + 1) v r :=
  ⟨b, a, a, by omega, Nat.le_refl a, by omega, pk_us, up4_0, up4_1, up4_2, up4_3, fun t h1 h2 => by omega⟩
/-- .. when an end moves on to the last step -/
theorem Cur.endd {f p pO : Nat → Int32} {a b v r : Nat} (q : Nat) (h : Cur f p pO (a + 1) b v r) : Cur f (upd p (4 * q + 3) (nI a)) pO (a + 1) b v r := by
  obtain ⟨q', x, y, h1, h2, h3, h4, h5, h6, h7, h9, h10⟩ := h
  by_cases e : q' = q
  · rw [e] at h1 h4 h5 h6 h7
    exact ⟨q, x, a, h1, by omega, by omega, h4, by rw [pk_un (by omega)]; exact h5, by rw [pk_un (by omega)]; exact h6, by rw [pk_un (by omega)]; exact h7, pk_us, fun t g1 g2 => by omega⟩
  · exact ⟨q', x, y, h1, h2, h3, h4, by rw [pk_un (by omega)]; exact h5, by rw [pk_un (by omega)]; exact h6, by rw [pk_un (by omega)]; exact h7, by rw [pk_un (by omega)]; exact h9, h10⟩
theorem PcsOK.endd {n R a b q y' : Nat} {p : Nat → Int32} (h : PcsOK n R a b p) (hy : ∀ x y, p (4 * q + 2) = nI x → p (4 * q + 3) = nI y → y < a → x ≤ y → x ≤ y') (hy' : y' < a) : PcsOK n R a b (upd p (4 * q + 3) (nI y')) := fun k hk => by
  obtain ⟨v, r, x, y, h1, h2, h3, h4, h5, h6, h7, h8⟩ := h k hk
  by_cases e : k = q
  · rw [e] at h5 h6 h7 h8 ⊢
    exact ⟨v, r, x, y', h1, h2, hy x y h7 h8 h4 h3, hy', by rw [pk_un (by omega)]; exact h5, by rw [pk_un (by omega)]; exact h6, by rw [pk_un (by omega)]; exact h7, pk_us⟩
  · exact ⟨v, r, x, y, h1, h2, h3, h4, by rw [pk_un (by omega)]; exact h5, by rw [pk_un (by omega)]; exact h6, by rw [pk_un (by omega)]; exact h7, by rw [pk_un (by omega)]; exact h8⟩
theorem PcsOK.new {n R a b v r x : Nat} {p : Nat → Int32} (h : PcsOK n R a b p) (hv : v < n) (hr : r < R) (hx : x < a) : PcsOK n R a (b + 1) (up4 p b (nI v) (nI r) (nI x) (nI x)) := fun k hk => by
  rcases Nat.lt_or_ge k b with g | g
  · obtain ⟨v, r, x, y, h1, h2, h3, h4, h5, h6, h7, h8⟩ := h k g
    exact ⟨v, r, x, y, h1, h2, h3, h4, by rw [up4_lo (by omega)]; exact h5, by rw [up4_lo (by omega)]; exact h6, by rw [up4_lo (by omega)]; exact h7, by rw [up4_lo (by omega)]; exact h8⟩
  · have e : k = b := by omega
    rw [e]
    exact ⟨v, r, x, x, hv, hr, Nat.le_refl x, hx, up4_0, up4_1, up4_2, up4_3⟩
