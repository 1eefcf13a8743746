/-! ===== the allocation under way ===== -/
def Inv1 (n R i : Nat) (kC fC cC val nx : Nat → Int32) (S B a b : Nat) (sN pN vI rO sO pO up sT : Nat → Int32) (sc : Nat) : Prop :=
  RegI n R vI rO ∧ SlotI sO sT ∧ StepOK R a sN ∧ (∀ v, v < n → up v = nx v) ∧ LiveI n rO nx ∧ AvI i kC nx rO sO ∧ (a + fb_ct (phB sO nx) n ≤ S ∧ b ≤ B) ∧ Tr n R i kC fC cC val nx a b sN pN rO sO pO sT sc
theorem Inv1.mono {n R i S B S' B' a b sc : Nat} {kC fC cC val nx sN pN vI rO sO pO up sT : Nat → Int32} (h : Inv1 n R i kC fC cC val nx S B a b sN pN vI rO sO pO up sT sc) (hS : S ≤ S') (hB : B ≤ B') : Inv1 n R i kC fC cC val nx S' B' a b sN pN vI rO sO pO up sT sc := by
  obtain ⟨iR, iS, iK, iU, iL, iA, ⟨iB1, iB2⟩, iT⟩ := h
  exact ⟨iR, iS, iK, iU, iL, iA, ⟨by omega, by omega⟩, iT⟩
theorem Inv1.congr {n R i S B a b sc : Nat} {kC fC cC val nx nx' sN pN vI rO sO pO up sT : Nat → Int32} (hi : i ≤ n) (h : Inv1 n R i kC fC cC val nx S B a b sN pN vI rO sO pO up sT sc) (e : ∀ v, v < n → nx v = nx' v) : Inv1 n R i kC fC cC val nx' S B a b sN pN vI rO sO pO up sT sc := by
  obtain ⟨iR, iS, iK, iU, iL, iA, ⟨iB1, iB2⟩, iT⟩ := h
  refine ⟨iR, iS, iK, fun v hv => (iU v hv).trans (e v hv), fun v hv g => by rw [← e v hv]; exact iL v hv g, ⟨fun v hv g1 g2 => iA.1 v hv g1 (by rw [e v (by omega)]; exact g2), iA.2⟩, ⟨?_, iB2⟩, iT.congr e⟩
  rw [fb_ct_cong (q := phB sO nx) (fun k hk => by simp only [phB, e k hk])]
  exact iB1
set_option maxHeartbeats 2000000 in
/-- a register -/
theorem get1 {n R i a b S B sc : Nat} {kC fC cC val nx sN pN vI rO sO pO up sT : Nat → Int32} {pa pb : Int32} (hn : n ≤ 60) (hR : R ≤ 8) (hS : S ≤ 240) (hB : B ≤ 180)
    (hI : Inv1 n R i kC fC cC val nx S B a b sN pN vI rO sO pO up sT sc)
    (hex : (∀ r, r < R → vI r ≠ -1) → ∃ r v, r < R ∧ v < n ∧ vI r = nI v ∧ nI v ≠ pa ∧ nI v ≠ pb) :
    ∃ (r a' sc' : Nat) (sN' pN' vI' rO' sO' sT' : Nat → Int32), r < R ∧
      f_X0_getRegister pa pb kC (nI n) sN (nI a) pN (nI b) vI rO sO pO up sT (nI R) (nI sc) = some (nI r, sN', nI a', pN', vI', rO', sO', sT', nI sc') ∧
      Inv1 n R i kC fC cC val nx S B a' b sN' pN' vI' rO' sO' pO up sT' sc' ∧ vI' r = -1 ∧ (∀ v, v < 60 → (nI v = pa ∨ nI v = pb) → rO' v = rO v) ∧ (∀ v, v < 60 → rO v = -1 → rO' v = -1) ∧
      (∀ v q, v < n → q < R → rO v = nI q → Cur sN' pN' pO a' b v q ∧ (mach sN' a').1 q = val v) ∧ (∀ v, v < n → ldv sN' pN' v b = ldv sN pN v b) := by
  obtain ⟨iR, iS, iK, iU, iL, iA, ⟨iB1, iB2⟩, iT⟩ := id hI
  rw [f_X0_getRegister]
  by_cases hno : ∃ j, j < R ∧ vI j = -1
  · obtain ⟨j, ⟨hj, j0⟩, jl⟩ := pk_least (fun j => j < R ∧ vI j = -1) hno
    exact ⟨j, a, sc, sN, pN, vI, rO, sO, sT, hj, getC_free hR hj j0 j 0 4000 rfl (Nat.zero_le j) (by omega) (fun l _ h g => jl l h ⟨by omega, g⟩), hI, j0, fun _ _ _ => rfl, fun _ _ h => h, fun v q hv hq e => iT.1 v q hv hq e, fun _ _ => rfl⟩
  · have hno : ∀ r, r < R → vI r ≠ -1 := fun r hr g => hno ⟨r, hr, g⟩
    have hv : ∀ r, r < R → ∃ v, v < n ∧ vI r = nI v := fun r hr => by
      rcases iR.1 r hr with g | ⟨v, g1, g2, -⟩
      · exact absurd g (hno r hr)
      · exact ⟨v, g1, g2⟩
    obtain ⟨r1, v1, h1, h2, h3, h4, h5⟩ := hex hno
    obtain ⟨r, hr, c1, c2, lC⟩ := lose1 (kC := kC) (sO := sO) (up := up) (pa := pa) (pb := pb) hn hR hv ⟨r1, h1, by rw [h3]; exact h4, by rw [h3]; exact h5⟩
    obtain ⟨v, hvn, ev⟩ := hv r hr
    have hrv : rO v = nI r := by
      rcases iR.1 r hr with g | ⟨w, w1, w2, w3⟩
      · exact absurd g (hno r hr)
      · have : w = v := nI_i (by omega) (by omega) (w2.symm.trans ev)
        rw [← this]; exact w3
    have hv60 : v < 60 := by omega
    -- the new world of registers
    have iR' := iR.leave hn hR hv60 hr hrv
    have lv : ∀ w, w < 60 → rO w = -1 → upd rO v (-1) w = -1 := fun w _ g => by
      by_cases q : w = v
      · rw [q, pk_us]
      · rw [pk_un q]; exact g
    have keep : ∀ w, w < 60 → (nI w = pa ∨ nI w = pb) → upd rO v (-1) w = rO w := fun w _ g => by
      by_cases q : w = v
      · rw [q] at g
        rcases g with g | g
        · exact absurd (ev.trans g) c1
        · exact absurd (ev.trans g) c2
      · rw [pk_un q]
    have live : nx v ≠ -1 := iL v hvn (by rw [hrv]; exact nIm1 (by omega))
    have iL' : LiveI n (upd rO v (-1)) nx := fun w hw g => by
      by_cases q : w = v
      · rw [q, pk_us] at g; exact absurd rfl g
      · rw [pk_un q] at g; exact iL w hw g
    have gC1 : f_X0_getRegister_L2 kC (nI n) (nI b) pO up (nI R) pa pb 4000 0 sN (nI a) pN vI rO sO sT (nI sc) = _ := getC_none hR R 0 4000 rfl (Nat.zero_le R) (by omega) (fun l _ h => hno l h)
    rw [gC1, lC, kbs rfl, held_ok hr hR, kbs rfl, ev]
    by_cases k0 : kC v = 0
    · -- a constant
      have st : f_X0_storeIfNeeded (nI v) (nI r) kC (nI n) sN (nI a) pN (nI b) sO pO sT (nI sc) = some (sN, nI a, pN, sO, sT, nI sc) := by
        rw [f_X0_storeIfNeeded, isRow_in hv60, kbs rfl, if_neg (by decide), isConstC hn hvn, kbs rfl, if_pos k0, if_neg (by decide)]
      rw [st, kbs rfl, leaveC hv60 hr hR hrv, kbs rfl]
      refine ⟨r, a, sc, sN, pN, upd vI r (-1), upd rO v (-1), sO, sT, hr, rfl, ⟨iR', iS, iK, iU, iL', ⟨fun w hw g1 g2 => ?_, fun w h1 h2 => lv w h2 (iA.2 w h1 h2)⟩, ⟨iB1, iB2⟩, iT.leave hR v⟩, by rw [pk_us], keep, lv, fun w q hw hq e => iT.1 w q hw hq e, fun _ _ => rfl⟩
      rcases iA.1 w hw g1 g2 with g | g
      · by_cases q : w = v
        · rw [q] at g1; exact absurd k0 g1
        · rw [pk_un q]; exact Or.inl g
      · exact Or.inr g
    · by_cases s0 : sO v = -1
      · -- it gets a slot, and is stored
        obtain ⟨s, hs, es, sl⟩ := iS.some hv60 s0
        have f1' : f_X0_smallestFreeSlot_L2 sT 4000 0 = some (nI s) := slot_L1 hs es s 0 4000 rfl (Nat.zero_le s) (by omega) (fun t _ h => sl t h)
        have hph := phB_take (x := nI s) hvn s0 live (nIm1 (by omega))
        have ha : a < 240 := by omega
        obtain ⟨q, hq, p1, iT', hld⟩ := iT.store hn hR ha iR iS hvn hr hrv s0 live hs es sl
        have hsc : sc < 2 ^ 30 := by
          have h := iT.2.2.2.2.2.2.2.1.1
          have h2 := cK_le (κ := 8) (f := sN) a
          omega
        have hmax : (if nI sc < nI s + 1 then nI s + 1 else nI sc) = nI (if sc < s + 1 then s + 1 else sc) := by
          rw [nI_1]
          by_cases g : sc < s + 1
          · rw [if_pos g, if_pos (nI_lt g (by omega))]
          · rw [if_neg g, if_neg (nI_nlt (by omega) (by omega))]
        have st : f_X0_storeIfNeeded (nI v) (nI r) kC (nI n) sN (nI a) pN (nI b) sO pO sT (nI sc) = some (up4 sN a 8 (nI r) (nI s) (-1), nI (a + 1), upd pN (4 * q + 3) (nI a), upd sO v (nI s), upd sT s 1, nI (if sc < s + 1 then s + 1 else sc)) := by
          rw [f_X0_storeIfNeeded, isRow_in hv60, kbs rfl, if_neg (by decide), isConstC hn hvn, kbs rfl, if_neg k0, if_pos rfl, rdc_N hv60 (by omega), nI_clamp (n := v) (by omega), if_pos s0, f_X0_smallestFreeSlot, f1', kbs rfl, if_neg (nIm1 (by omega)), rdc_N hs (by omega), rdc_N hv60 (by omega), appS ha, kbs rfl, rdc_N hv60 (by omega), p1, put_ok hq (by omega) (by omega), kbs rfl, nI_clamp (n := s) (by omega), hmax]
        rw [st, kbs rfl, leaveC hv60 hr hR hrv, kbs rfl]
        refine ⟨r, a + 1, _, up4 sN a 8 (nI r) (nI s) (-1), upd pN (4 * q + 3) (nI a), upd vI r (-1), upd rO v (-1), upd sO v (nI s), upd sT s 1, hr, rfl,
          ⟨iR', iS.take hv60 hs s0 es, iK.app ⟨⟨r, hr, rfl⟩, Or.inr (Or.inr (Or.inr (Or.inr ⟨Or.inr rfl, s, hs, rfl⟩)))⟩, iU, iL', ⟨fun w hw g1 g2 => ?_, fun w h1 h2 => lv w h2 (iA.2 w h1 h2)⟩, ⟨by omega, iB2⟩, iT'.leave hR v⟩, by rw [pk_us], keep, lv, fun w q hw hq e => iT'.1 w q hw hq e, hld⟩
        by_cases q : w = v
        · rw [q, pk_us]; exact Or.inr (by rw [pk_us]; exact nIm1 (by omega))
        · rw [pk_un q, pk_un q]; exact iA.1 w hw g1 g2
      · -- it has a slot
        have st : f_X0_storeIfNeeded (nI v) (nI r) kC (nI n) sN (nI a) pN (nI b) sO pO sT (nI sc) = some (sN, nI a, pN, sO, sT, nI sc) := by
          rw [f_X0_storeIfNeeded, isRow_in hv60, kbs rfl, if_neg (by decide), isConstC hn hvn, kbs rfl, if_neg k0, if_pos rfl, rdc_N hv60 (by omega), nI_clamp (n := v) (by omega), if_neg s0]
        rw [st, kbs rfl, leaveC hv60 hr hR hrv, kbs rfl]
        refine ⟨r, a, sc, sN, pN, upd vI r (-1), upd rO v (-1), sO, sT, hr, rfl, ⟨iR', iS, iK, iU, iL', ⟨fun w hw g1 g2 => ?_, fun w h1 h2 => lv w h2 (iA.2 w h1 h2)⟩, ⟨iB1, iB2⟩, iT.leave hR v⟩, by rw [pk_us], keep, lv, fun w q hw hq e => iT.1 w q hw hq e, fun _ _ => rfl⟩
        rcases iA.1 w hw g1 g2 with g | g
        · by_cases q : w = v
          · rw [q]; exact Or.inr s0
          · rw [pk_un q]; exact Or.inl g
        · exact Or.inr g
theorem intOfC {k : Nat → Int32} {v n : Nat} (hn : n ≤ 60) (hv : v < n) : f_X1_intOf (nI v) k (nI n) = some (k v) := by
  rw [f_X1_intOf, hasC_in hn hv, kbs rfl, if_neg (by decide), rdc_N (by omega) (by omega), nI_clamp (by omega)]
theorem kindOfC {k : Nat → Int32} {v n : Nat} (hn : n ≤ 60) (hv : v < n) : f_X1_kindOf (nI v) k (nI n) = some (k v) := by
  rw [f_X1_kindOf, hasC_in hn hv, kbs rfl, if_neg (by decide), rdc_N (by omega) (by omega), nI_clamp (by omega)]
theorem firstOfC {k : Nat → Int32} {v n : Nat} (hn : n ≤ 60) (hv : v < n) : f_X1_firstOf (nI v) k (nI n) = some (k v) := by
  rw [f_X1_firstOf, hasC_in hn hv, kbs rfl, if_neg (by decide), rdc_N (by omega) (by omega), nI_clamp (by omega)]
theorem secondOfC {k : Nat → Int32} {v n : Nat} (hn : n ≤ 60) (hv : v < n) : f_X1_secondOf (nI v) k (nI n) = some (k v) := by
  rw [f_X1_secondOf, hasC_in hn hv, kbs rfl, if_neg (by decide), rdc_N (by omega) (by omega), nI_clamp (by omega)]
theorem hasValueC {k : Nat → Int32} {v n : Nat} (hn : n ≤ 60) (hv : v < n) : f_X1_hasValue (nI v) k (nI n) = some (if k v = 6 then 0 else 1) := by
  rw [f_X1_hasValue, hasC_in hn hv, kbs rfl, if_neg (by decide), rdc_N (by omega) (by omega), nI_clamp (by omega)]
  by_cases h : k v = 6
  · rw [if_pos h, if_pos h]
  · rw [if_neg h, if_neg h]
set_option maxHeartbeats 2000000 in
/-- an operand comes into a register -/
theorem bring1 {n R i a b S B v sc : Nat} {kC fC iC cC val nx sN pN vI rO sO pO up sT : Nat → Int32} {pa pb : Int32} (hn : n ≤ 60) (hR : R ≤ 8) (hi : i < n) (hS : S + 1 ≤ 240) (hB : B + 1 ≤ 180) (hvi : v < i)
    (hI : Inv1 n R i kC fC cC val nx S B a b sN pN vI rO sO pO up sT sc) (hval : kC v = 0 → val v = iC v) (hx : nx v ≠ -1)
    (hex : rO v = -1 → (∀ r, r < R → vI r ≠ -1) → ∃ r v, r < R ∧ v < n ∧ vI r = nI v ∧ nI v ≠ pa ∧ nI v ≠ pb) :
    ∃ (a' b' sc' : Nat) (sN' pN' vI' rO' sO' pO2 sT' : Nat → Int32),
      (∀ {β : Type} (K : (Nat → Int32) → Int32 → (Nat → Int32) → Int32 → (Nat → Int32) → (Nat → Int32) → (Nat → Int32) → (Nat → Int32) → (Nat → Int32) → Int32 → Option β),
        (Option.bind (f_X0_isMissing (nI v) rO) fun u20 => if u20 = 0 then K sN (nI a) pN (nI b) vI rO sO pO sT (nI sc) else
          Option.bind (f_X0_getRegister pa pb kC (nI n) sN (nI a) pN (nI b) vI rO sO pO up sT (nI R) (nI sc)) fun u31 =>
          Option.bind (f_X0_fetch (nI v) u31.1 kC iC (nI n) u31.2.1 u31.2.2.1 u31.2.2.2.1 (nI b) u31.2.2.2.2.1 u31.2.2.2.2.2.1 u31.2.2.2.2.2.2.1 pO (nI R)) fun u34 =>
          K u34.1 u34.2.1 u34.2.2.1 u34.2.2.2.1 u34.2.2.2.2.1 u34.2.2.2.2.2.1 u31.2.2.2.2.2.2.1 u34.2.2.2.2.2.2 u31.2.2.2.2.2.2.2.1 u31.2.2.2.2.2.2.2.2) = K sN' (nI a') pN' (nI b') vI' rO' sO' pO2 sT' (nI sc')) ∧
      Inv1 n R i kC fC cC val nx (S + 1) (B + 1) a' b' sN' pN' vI' rO' sO' pO2 up sT' sc' ∧ rO' v ≠ -1 ∧ (∀ w, w < 60 → (nI w = pa ∨ nI w = pb) → rO w ≠ -1 → rO' w = rO w) ∧
      ∀ w, w < n → ldv sN' pN' w b' ≤ ldv sN pN w b + if w = v ∧ rO v = -1 then 1 else 0 := by
  have hv60 : v < 60 := by omega
  have hvn : v < n := by omega
  by_cases h0 : rO v = -1
  · obtain ⟨r, a1, sc1, sN1, pN1, vI1, rO1, sO1, sT1, hr, g1, hI1, e1, k1, k2, -, hld1⟩ := get1 hn hR (by omega) (by omega) hI (hex h0)
    obtain ⟨iR, iS, iK, iU, iL, iA, ⟨iB1, iB2⟩, iT⟩ := id hI1
    have e0 : rO1 v = -1 := k2 v hv60 h0
    have ha : a1 < 240 := by omega
    have hb : b < 180 := by omega
    have fin : ∀ (x0 x2 : Int32), RowOK R x0 (nI r) x2 (-1) → ((x0 = 0 ∧ x2 = val v) ∨ (x0 = 7 ∧ ∃ s, s < 60 ∧ x2 = nI s ∧ sO1 v = nI s)) →
        Inv1 n R i kC fC cC val nx (S + 1) (B + 1) (a1 + 1) (b + 1) (up4 sN1 a1 x0 (nI r) x2 (-1)) (up4 pN1 b (nI v) (nI r) (nI a1) (nI a1)) (upd vI1 r (nI v)) (upd rO1 v (nI r)) sO1 (upd pO v (nI b)) up sT1 sc1 ∧
        ∀ w, w < n → ldv (up4 sN1 a1 x0 (nI r) x2 (-1)) (up4 pN1 b (nI v) (nI r) (nI a1) (nI a1)) w (b + 1) ≤ ldv sN pN w b + if w = v ∧ rO v = -1 then 1 else 0 := by
      intro x0 x2 hrow hx02
      obtain ⟨iT', hl⟩ := iT.fetch hn hR ha iR hvn hr e1 hx hx02
      refine ⟨⟨iR.enter hn hR hvn hr e0 e1, iS, iK.app hrow, iU, fun w hw g => ?_, ⟨fun w hw q1 q2 => ?_, fun w q1 q2 => by rw [pk_un (by omega)]; exact iA.2 w q1 q2⟩, ⟨by omega, by omega⟩, iT'⟩, fun w hw => ?_⟩
      · by_cases q : w = v
        · rw [q]; exact hx
        · rw [pk_un q] at g; exact iL w hw g
      · by_cases q : w = v
        · rw [q, pk_us]; exact Or.inl (nIm1 (by omega))
        · rw [pk_un q]; exact iA.1 w hw q1 q2
      · have h1 := hl w hw
        rw [hld1 w hw] at h1
        by_cases q : w = v
        · rw [if_pos q] at h1; rw [if_pos ⟨q, h0⟩]; exact h1
        · rw [if_neg q] at h1; rw [if_neg (fun g => q g.1)]; exact h1
    have keep : ∀ w, w < 60 → (nI w = pa ∨ nI w = pb) → rO w ≠ -1 → upd rO1 v (nI r) w = rO w := fun w hw g q => by
      rw [pk_un (fun z => q (by rw [z]; exact h0))]; exact k1 w hw g
    by_cases k0 : kC v = 0
    · obtain ⟨f1, f2⟩ := fin 0 (iC v) ⟨⟨r, hr, rfl⟩, Or.inl rfl⟩ (Or.inl ⟨rfl, (hval k0).symm⟩)
      refine ⟨a1 + 1, b + 1, sc1, up4 sN1 a1 0 (nI r) (iC v) (-1), up4 pN1 b (nI v) (nI r) (nI a1) (nI a1), upd vI1 r (nI v), upd rO1 v (nI r), sO1, upd pO v (nI b), sT1, ?_, f1, by rw [pk_us]; exact nIm1 (by omega), keep, f2⟩
      intro β K
      rw [miss_ok hv60, if_pos h0, kbs rfl, if_neg (by decide), g1, kbs rfl]
      dsimp only
      rw [f_X0_fetch, isConstC hn hvn, kbs rfl, if_pos k0, if_neg (by decide), intOfC hn hvn, kbs rfl, appS ha, kbs rfl, beginC hv60 hr hR hb, kbs rfl, kbs rfl]
    · have hsl : sO1 v ≠ -1 := by
        rcases iA.1 v hvi k0 hx with g | g
        · exact absurd e0 g
        · exact g
      obtain ⟨s, hs, es, -⟩ := (iS.1 v hv60).resolve_left hsl
      obtain ⟨f1, f2⟩ := fin 7 (nI s) ⟨⟨r, hr, rfl⟩, Or.inr (Or.inr (Or.inr (Or.inr ⟨Or.inl rfl, s, hs, rfl⟩)))⟩ (Or.inr ⟨rfl, s, hs, rfl, es⟩)
      refine ⟨a1 + 1, b + 1, sc1, up4 sN1 a1 7 (nI r) (nI s) (-1), up4 pN1 b (nI v) (nI r) (nI a1) (nI a1), upd vI1 r (nI v), upd rO1 v (nI r), sO1, upd pO v (nI b), sT1, ?_, f1, by rw [pk_us]; exact nIm1 (by omega), keep, f2⟩
      intro β K
      rw [miss_ok hv60, if_pos h0, kbs rfl, if_neg (by decide), g1, kbs rfl]
      dsimp only
      rw [f_X0_fetch, isConstC hn hvn, kbs rfl, if_neg k0, if_pos rfl, sHold_ok hv60, kbs rfl, es, appS ha, kbs rfl, beginC hv60 hr hR hb, kbs rfl, kbs rfl]
  · refine ⟨a, b, sc, sN, pN, vI, rO, sO, pO, sT, fun K => ?_, hI.mono (by omega) (by omega), h0, fun _ _ _ _ => rfl, fun w _ => Nat.le_add_right _ _⟩
    rw [miss_ok hv60, if_neg h0, kbs rfl, if_pos rfl]
