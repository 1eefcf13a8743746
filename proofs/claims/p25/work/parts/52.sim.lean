/-! ===== small methods of the allocation ===== -/
theorem mul4 (a : Nat) : (4 : Int32) * nI a = nI (4 * a) := pk_mul 4 a
theorem add2 (a : Nat) : nI a + 2 = nI (a + 2) := nI_add a 2
theorem add3 (a : Nat) : nI a + 3 = nI (a + 3) := nI_add a 3
theorem isRow_in {v : Nat} (h : v < 60) : f_X0_isRow (nI v) = some 1 := by
  rw [f_X0_isRow, if_neg (nI_pos (by omega)), if_neg (show ¬ (60 : Int32) ≤ nI v from nI_ge (b := 60) h (by omega))]
theorem isRow_m1 : f_X0_isRow (-1) = some 0 := by rw [f_X0_isRow, if_pos m1_lt0]
theorem isReg_in {r R : Nat} (h : r < R) (hR : R ≤ 8) : f_X0_isRegister (nI r) (nI R) = some 1 := by
  rw [f_X0_isRegister, if_neg (nI_pos (by omega)), if_neg (nI_ge h (by omega))]
theorem isReg_m1 {x : Int32} : f_X0_isRegister (-1) x = some 0 := by rw [f_X0_isRegister, if_pos m1_lt0]
theorem held_ok {r R : Nat} (h : r < R) (hR : R ≤ 8) (vI : Nat → Int32) : f_X0_valueHeldIn (nI r) vI (nI R) = some (vI r) := by
  rw [f_X0_valueHeldIn, isReg_in h hR, kbs rfl, if_neg (by decide), rdc_N (by omega) (by omega), nI_clamp (by omega)]
theorem free_ok {r R : Nat} (h : r < R) (hR : R ≤ 8) (vI : Nat → Int32) : f_X0_isFree (nI r) vI (nI R) = some (if vI r = -1 then 1 else 0) := by
  rw [f_X0_isFree, isReg_in h hR, kbs rfl, if_neg (by decide), rdc_N (by omega) (by omega), nI_clamp (by omega)]
  by_cases h : vI r = -1
  · rw [if_pos h, if_pos h]
  · rw [if_neg h, if_neg h]
theorem free_m1 {x : Int32} {vI : Nat → Int32} : f_X0_isFree (-1) vI x = some 0 := by
  rw [f_X0_isFree, isReg_m1, kbs rfl, if_pos rfl]
theorem rHold_ok {v : Nat} (h : v < 60) (rO : Nat → Int32) : f_X0_registerHolding (nI v) rO = some (rO v) := by
  rw [f_X0_registerHolding, isRow_in h, kbs rfl, if_neg (by decide), rdc_N h (by omega), nI_clamp (by omega)]
theorem rHold_m1 {rO : Nat → Int32} : f_X0_registerHolding (-1) rO = some (-1) := by
  rw [f_X0_registerHolding, isRow_m1, kbs rfl, if_pos rfl]
theorem sHold_ok {v : Nat} (h : v < 60) (sO : Nat → Int32) : f_X0_slotHolding (nI v) sO = some (sO v) := by
  rw [f_X0_slotHolding, isRow_in h, kbs rfl, if_neg (by decide), rdc_N h (by omega), nI_clamp (by omega)]
theorem miss_ok {v : Nat} (h : v < 60) (rO : Nat → Int32) : f_X0_isMissing (nI v) rO = some (if rO v = -1 then 1 else 0) := by
  rw [f_X0_isMissing, isRow_in h, kbs rfl, if_neg (by decide), rdc_N h (by omega), nI_clamp (by omega)]
  by_cases h : rO v = -1
  · rw [if_pos h, if_pos h]
  · rw [if_neg h, if_neg h]
theorem miss_m1 {rO : Nat → Int32} : f_X0_isMissing (-1) rO = some 0 := by
  rw [f_X0_isMissing, isRow_m1, kbs rfl, if_pos rfl]
theorem leaveC {v r R : Nat} {vI rO : Nat → Int32} (hv : v < 60) (hr : r < R) (hR : R ≤ 8) (h : rO v = nI r) : f_X0_leaveRegister (nI v) vI rO (nI R) = some (upd vI r (-1), upd rO v (-1)) := by
  rw [f_X0_leaveRegister, rHold_ok hv, kbs rfl, h, isReg_in hr hR, kbs rfl, if_neg (by decide), rdc_N (by omega) (by omega), rdc_N hv (by omega), nI_clamp (by omega), nI_clamp (by omega)]
theorem leaveC0 {v : Nat} {x : Int32} {vI rO : Nat → Int32} (hv : v < 60) (h : rO v = -1) : f_X0_leaveRegister (nI v) vI rO x = some (vI, rO) := by
  rw [f_X0_leaveRegister, rHold_ok hv, kbs rfl, h, isReg_m1, kbs rfl, if_pos rfl]
theorem freeS {v s : Nat} {sO sT : Nat → Int32} (hv : v < 60) (hs : s < 60) (h : sO v = nI s) : f_X0_freeSlot (nI v) sO sT = some (upd sO v (-1), upd sT s 0) := by
  rw [f_X0_freeSlot, sHold_ok hv, kbs rfl, h, isRow_in hs, kbs rfl, if_neg (by decide), rdc_N hs (by omega), rdc_N hv (by omega), nI_clamp (by omega), nI_clamp (by omega)]
theorem freeS0 {v : Nat} {sO sT : Nat → Int32} (hv : v < 60) (h : sO v = -1) : f_X0_freeSlot (nI v) sO sT = some (sO, sT) := by
  rw [f_X0_freeSlot, sHold_ok hv, kbs rfl, h, isRow_m1, kbs rfl, if_pos rfl]
theorem upd_id {f : Nat → Int32} {i : Nat} {x : Int32} (h : f i = x) : upd f i x = f := by
  funext j
  by_cases e : j = i
  · rw [e, pk_us, h]
  · rw [pk_un e]
theorem isConstC {k : Nat → Int32} {v n : Nat} (hn : n ≤ 60) (hv : v < n) : f_X1_isConst (nI v) k (nI n) = some (if k v = 0 then 1 else 0) := by
  rw [f_X1_isConst, if_neg (nI_pos (by omega)), if_neg (nI_ge hv (by omega)), rdc_N (by omega) (by omega), nI_clamp (by omega)]
  by_cases h : k v = 0
  · rw [if_pos h, if_pos h]
  · rw [if_neg h, if_neg h]
/-! ===== rows of four ===== -/
def up4 (f : Nat → Int32) (a : Nat) (x0 x1 x2 x3 : Int32) : Nat → Int32 := upd (upd (upd (upd f (4 * a) x0) (4 * a + 1) x1) (4 * a + 2) x2) (4 * a + 3) x3
theorem up4_lo {f : Nat → Int32} {a j : Nat} {x0 x1 x2 x3 : Int32} (h : j < 4 * a) : up4 f a x0 x1 x2 x3 j = f j := by
  unfold up4; rw [pk_un (by omega), pk_un (by omega), pk_un (by omega), pk_un (by omega)]
theorem up4_0 {f : Nat → Int32} {a : Nat} {x0 x1 x2 x3 : Int32} : up4 f a x0 x1 x2 x3 (4 * a) = x0 := by
  unfold up4; rw [pk_un (by omega), pk_un (by omega), pk_un (by omega), pk_us]
theorem up4_1 {f : Nat → Int32} {a : Nat} {x0 x1 x2 x3 : Int32} : up4 f a x0 x1 x2 x3 (4 * a + 1) = x1 := by
  unfold up4; rw [pk_un (by omega), pk_un (by omega), pk_us]
theorem up4_2 {f : Nat → Int32} {a : Nat} {x0 x1 x2 x3 : Int32} : up4 f a x0 x1 x2 x3 (4 * a + 2) = x2 := by
  unfold up4; rw [pk_un (by omega), pk_us]
theorem up4_3 {f : Nat → Int32} {a : Nat} {x0 x1 x2 x3 : Int32} : up4 f a x0 x1 x2 x3 (4 * a + 3) = x3 := by
  unfold up4; rw [pk_us]
theorem append_ok {N M a : Nat} {f : Nat → Int32} {x0 x1 x2 x3 : Int32} (hM : 4 * M ≤ N) (hN : N < 2 ^ 20) (ha : a < M) : f_X3_append x0 x1 x2 x3 N f (nI M) (nI a) = some (nI a, up4 f a x0 x1 x2 x3, nI (a + 1)) := by
  rw [f_X3_append, if_neg (nI_pos (by omega)), if_pos (nI_lt ha (by omega)), mul4, nI_1, add2, add3, rdc_N (by omega) (by omega), rdc_N (by omega) (by omega), rdc_N (by omega) (by omega), rdc_N (by omega) (by omega), nI_clamp (by omega), nI_clamp (by omega), nI_clamp (by omega), nI_clamp (by omega), nI_1]
  rfl
theorem appS {a : Nat} {f : Nat → Int32} {x0 x1 x2 x3 : Int32} (ha : a < 240) : f_X3_append x0 x1 x2 x3 960 f 240 (nI a) = some (nI a, up4 f a x0 x1 x2 x3, nI (a + 1)) := append_ok (M := 240) (by omega) (by omega) ha
theorem appP {a : Nat} {f : Nat → Int32} {x0 x1 x2 x3 : Int32} (ha : a < 180) : f_X3_append x0 x1 x2 x3 720 f 180 (nI a) = some (nI a, up4 f a x0 x1 x2 x3, nI (a + 1)) := append_ok (M := 180) (by omega) (by omega) ha
theorem rHas {q w b : Nat} (hq : q < b) (hw : w < 4) (hb : b < 2 ^ 20) : f_X3_has (nI q) (nI w) (nI b) = some 1 := by
  rw [f_X3_has, if_neg (nI_pos (by omega)), if_neg (nI_ge hq (by omega)), if_neg (nI_pos (by omega)), if_neg (show ¬ (4 : Int32) ≤ nI w from nI_ge (b := 4) hw (by omega))]
theorem at_ok {q w b N : Nat} {f : Nat → Int32} (hq : q < b) (hw : w < 4) (hN : 4 * b ≤ N) (hb : N < 2 ^ 20) : f_X3_at (nI q) (nI w) N f (nI b) = some (f (4 * q + w)) := by
  rw [f_X3_at, rHas hq hw (by omega), kbs rfl, if_neg (by decide), mul4, nI_add, rdc_N (by omega) (by omega), nI_clamp (by omega)]
theorem put_ok {q b N : Nat} {f : Nat → Int32} {x : Int32} (hq : q < b) (hN : 4 * b ≤ N) (hb : N < 2 ^ 20) : f_X3_put (nI q) 3 x N f (nI b) = some (upd f (4 * q + 3) x) := by
  rw [f_X3_put, show f_X3_has (nI q) 3 (nI b) = some 1 from rHas (w := 3) hq (by omega) (by omega), kbs rfl, if_neg (by decide), mul4, add3, rdc_N (by omega) (by omega), nI_clamp (by omega)]
theorem readAt_ok {v q b : Nat} {f pO : Nat → Int32} {x : Int32} (hv : v < 60) (hq : q < b) (hb : b ≤ 180) (h : pO v = nI q) : f_X0_readAt (nI v) x f (nI b) pO = some (upd f (4 * q + 3) x) := by
  rw [f_X0_readAt, isRow_in hv, kbs rfl, if_neg (by decide), rdc_N hv (by omega), nI_clamp (by omega), h, put_ok hq (by omega) (by omega), kbs rfl]
theorem readAt_m1 {x y : Int32} {f pO : Nat → Int32} : f_X0_readAt (-1) x f y pO = some f := by
  rw [f_X0_readAt, isRow_m1, kbs rfl, if_pos rfl]
theorem beginC {v r x b R : Nat} {f vI rO pO : Nat → Int32} (hv : v < 60) (hr : r < R) (hR : R ≤ 8) (hb : b < 180) : f_X0_beginPiece (nI v) (nI r) (nI x) f (nI b) vI rO pO (nI R) = some (up4 f b (nI v) (nI r) (nI x) (nI x), nI (b + 1), upd vI r (nI v), upd rO v (nI r), upd pO v (nI b)) := by
  rw [f_X0_beginPiece, isRow_in hv, kbs rfl, if_neg (by decide), isReg_in hr hR, kbs rfl, if_neg (by decide), rdc_N (by omega) (by omega), rdc_N hv (by omega), appP hb, kbs rfl, rdc_N hv (by omega), nI_clamp (by omega), nI_clamp (by omega)]
