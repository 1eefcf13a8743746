set_option maxHeartbeats 2000000 in
/-- both ways to a register, side by side -/
theorem get_ok {n R i a b S B O : Nat} {kC nx sN stP pN pcP vI rO sO pO pO' up sT kM aM bM cM : Nat → Int32} {sc pa pb fi : Int32} (hn : n ≤ 60) (hR : R ≤ 8) (hi : i < n) (hS : S ≤ 240) (hB : B ≤ 180)
    (hI : Inv n R i kC nx S B O a b sN stP pN pcP vI rO sO pO pO' up sT) (hfi : fi = 0 ∨ fi = 1)
    (ht : ∀ v, v < n → ((nI v ≠ pa ∧ nI v ≠ pb) ↔ ¬ (fi = 1 ∧ (¬ kM i = 0 ∧ (aM i = nI v ∨ bM i = nI v)))))
    (hu : ∀ v, v < n → nI v ≠ pa → nI v ≠ pb → nx v = nu (usM kM aM bM cM (nI v)) n (i + 1)) (hk : ∀ v, v < n → kM v = kC v)
    (hex : (∀ r, r < R → vI r ≠ -1) → ∃ r v, r < R ∧ v < n ∧ vI r = nI v ∧ nI v ≠ pa ∧ nI v ≠ pb) :
    ∃ (r a' : Nat) (sN' stP' pN' pcP' vI' rO' sO' sT' : Nat → Int32) (sc' : Int32), r < R ∧
      f_X0_getRegister pa pb kC (nI n) sN (nI a) pN (nI b) vI rO sO pO up sT (nI R) sc = some (nI r, sN', nI a', pN', vI', rO', sO', sT', sc') ∧
      f_X5_get (nI i) fi (nI R) (nI n) kM aM bM (nI a) stP pcP sc cM rO sO pO' vI sT = some (nI r, nI a', stP', pcP', sc', rO', sO', vI', sT') ∧
      Inv n R i kC nx S B O a' b sN' stP' pN' pcP' vI' rO' sO' pO pO' up sT' ∧ vI' r = -1 ∧ (∀ v, v < 60 → (nI v = pa ∨ nI v = pb) → rO' v = rO v) ∧ (∀ v, v < 60 → rO v = -1 → rO' v = -1) := by
  obtain ⟨iR, iS, iP, ⟨iE, iF⟩, ⟨iK, iO⟩, iU, iL, iA, ⟨iB1, iB2⟩, iZ⟩ := id hI
  obtain ⟨v8, e8, c8⟩ := free_L8 (vI := vI) hR R 4000 none (Nat.le_refl R) (by omega)
  have e8' : f_X5_get_L8 vI 4000 (nI R - 1) (-1) = some (oI v8) := e8
  rw [f_X5_get, e8', kbs rfl, f_X0_getRegister]
  rcases c8 with ⟨j, hj, j0, jl, rfl⟩ | ⟨hno, rfl⟩
  · refine ⟨j, a, sN, stP, pN, pcP, vI, rO, sO, sT, sc, hj, getC_free hR hj j0 j 0 4000 rfl (Nat.zero_le j) (by omega) (fun l _ h => jl l h), ?_, hI, j0, fun _ _ _ => rfl, fun _ _ h => h⟩
    rw [if_neg (show ¬ oI (some j) = -1 from nIm1 (by omega))]
    rfl
  · have hv : ∀ r, r < R → ∃ v, v < n ∧ vI r = nI v := fun r hr => by
      rcases iR.1 r hr with g | ⟨v, g1, g2, -⟩
      · exact absurd g (hno r hr)
      · exact ⟨v, g1, g2⟩
    obtain ⟨res, l1, l2, l3, l4⟩ := lose_L (sO := sO) (cM := cM) (up := up) hn hR (show i < 60 by omega) hfi hv ht (fun r v _ hvn _ h1 h2 => (iU v hvn).trans (hu v hvn h1 h2)) hk R 0 4000 4000 none rfl (Nat.zero_le R) (by omega) (by omega) (fun q h => by cases h)
    obtain ⟨r1, v1, h1, h2, h3, h4, h5⟩ := hex hno
    have hres : res ≠ none := l4 (Or.inr ⟨r1, Nat.zero_le _, h1, by rw [h3]; exact h4, by rw [h3]; exact h5⟩)
    obtain ⟨r, rfl⟩ := Option.ne_none_iff_exists'.mp hres
    obtain ⟨hr, c1, c2⟩ := l3 r rfl
    obtain ⟨v, hvn, ev⟩ := hv r hr
    have hrv : rO v = nI r := by
      rcases iR.1 r hr with g | ⟨w, w1, w2, w3⟩
      · exact absurd g (hno r hr)
      · have : w = v := nI_i (by omega) (by omega) (w2.symm.trans ev)
        rw [← this]; exact w3
    have lC : f_X0_registerToLose pa pb kC (nI n) vI sO up (nI R) = some (nI r) := by
      have l1' : f_X0_registerToLose_L5 kC (nI n) vI sO up (nI R) pa pb 4000 0 (-1) = some (nI r) := l1
      rw [f_X0_registerToLose, l1', kbs rfl]
    have lM : f_X5_get_L46 (nI n) kM aM bM cM sO vI (nI i) fi (nI R) 4000 0 (-1) = some (nI r) := l2
    have hmem : oI (none : Option Nat) = -1 := rfl
    have hv60 : v < 60 := by omega
    have hrd : ∀ (k : Option (Int32 × Int32 × (Nat → Int32) × (Nat → Int32) × Int32 × (Nat → Int32) × (Nat → Int32) × (Nat → Int32) × (Nat → Int32))), rdc (nI v) 60 k = k := fun k => rdc_N hv60 (by omega)
    -- the new world of registers
    have iR' := iR.leave hn hR hv60 hr hrv
    have lv : ∀ w, w < 60 → rO w = -1 → upd rO v (-1) w = -1 := fun w _ g => by
      by_cases q : w = v
      · rw [q, pk_us]
      · rw [pk_un q]; exact g
    have keep : ∀ w, w < 60 → (nI w = pa ∨ nI w = pb) → upd rO v (-1) w = rO w := fun w _ g => by
      by_cases q : w = v
      · rw [q] at g
        rcases g with g | g
        · exact absurd (ev.trans g) c1
        · exact absurd (ev.trans g) c2
      · rw [pk_un q]
    have live : nx v ≠ -1 := iL v hvn (by rw [hrv]; exact nIm1 (by omega))
    have iL' : LiveI n (upd rO v (-1)) nx := fun w hw g => by
      by_cases q : w = v
      · rw [q, pk_us] at g; exact absurd rfl g
      · rw [pk_un q] at g; exact iL w hw g
    have zI' : (∀ j, 8 ≤ j → upd vI r (-1) j = 0) ∧ (∀ j, 60 ≤ j → upd rO v (-1) j = 0) := ⟨Zupd iZ.1 (by omega), Zupd iZ.2.1 hv60⟩
    have gC := fun (hl : ∀ l, 0 ≤ l → l < R → vI l ≠ -1) => getC_none (kC := kC) (sN := sN) (pN := pN) (rO := rO) (sO := sO) (pO := pO) (up := up) (sT := sT) (sL := nI a) (pL := nI b) (len := nI n) (sc := sc) (pa := pa) (pb := pb) hR R 0 4000 rfl (Nat.zero_le R) (by omega) hl
    have gC1 : f_X0_getRegister_L2 kC (nI n) (nI b) pO up (nI R) pa pb 4000 0 sN (nI a) pN vI rO sO sT sc = _ := gC (fun l _ h => hno l h)
    rw [gC1, lC, kbs rfl, held_ok hr hR, kbs rfl, ev, hmem, if_pos rfl, lM, kbs rfl, rdc_N (by omega) (by omega), nI_clamp (n := r) (by omega), ev]
    simp only [hrd]
    rw [nI_clamp (n := v) (by omega), hk v hvn, leaveM hv60 (by omega) hrv]
    by_cases k0 : kC v = 0
    · -- a constant
      have st : f_X0_storeIfNeeded (nI v) (nI r) kC (nI n) sN (nI a) pN (nI b) sO pO sT sc = some (sN, nI a, pN, sO, sT, sc) := by
        rw [f_X0_storeIfNeeded, isRow_in hv60, kbs rfl, if_neg (by decide), isConstC hn hvn, kbs rfl, if_pos k0, if_neg (by decide)]
      rw [st, kbs rfl, leaveC hv60 hr hR hrv, kbs rfl, if_pos k0, kbs rfl]
      refine ⟨r, a, sN, stP, pN, pcP, upd vI r (-1), upd rO v (-1), sO, sT, sc, hr, rfl, rfl, ⟨iR', iS, iP.mono (Nat.le_refl b) lv, ⟨iE, iF⟩, ⟨iK, iO⟩, iU, iL', ⟨fun w hw g1 g2 => ?_, fun w h1 h2 => lv w h2 (iA.2 w h1 h2)⟩, ⟨iB1, iB2⟩, zI'.1, zI'.2, iZ.2.2⟩, by rw [pk_us], keep, lv⟩
      rcases iA.1 w hw g1 g2 with g | g
      · by_cases q : w = v
        · rw [q] at g1; exact absurd k0 g1
        · rw [pk_un q]; exact Or.inl g
      · exact Or.inr g
    · rw [if_neg k0]
      by_cases s0 : sO v = -1
      · -- it gets a slot, and is stored
        obtain ⟨s, hs, es, sl⟩ := iS.some hv60 s0
        obtain ⟨f1, f2⟩ := slot_L hs es s 0 4000 4000 rfl (Nat.zero_le s) (by omega) (by omega) (fun t _ h => sl t h)
        have f1' : f_X0_smallestFreeSlot_L2 sT 4000 0 = some (nI s) := f1
        have f2' : f_X5_get_L145 sT 4000 0 = some (nI s) := f2
        have hph := phB_take (x := nI s) hvn s0 live (nIm1 (by omega))
        have ha : a < 240 := by omega
        obtain ⟨q, hq, p1, p2⟩ : ∃ q, q < b ∧ pO v = nI q ∧ pO' v = nI q := by
          rcases iP v hv60 with ⟨-, g⟩ | g
          · exact absurd (hrv.symm.trans g) (nIm1 (by omega))
          · exact g
        have st : f_X0_storeIfNeeded (nI v) (nI r) kC (nI n) sN (nI a) pN (nI b) sO pO sT sc = some (up4 sN a 8 (nI r) (nI s) (-1), nI (a + 1), upd pN (4 * q + 3) (nI a), upd sO v (nI s), upd sT s 1, if sc < nI s + 1 then nI s + 1 else sc) := by
          rw [f_X0_storeIfNeeded, isRow_in hv60, kbs rfl, if_neg (by decide), isConstC hn hvn, kbs rfl, if_neg k0, if_pos rfl, rdc_N hv60 (by omega), nI_clamp (n := v) (by omega), if_pos s0, f_X0_smallestFreeSlot, f1', kbs rfl, if_neg (nIm1 (by omega)), rdc_N hs (by omega), rdc_N hv60 (by omega), appS ha, kbs rfl, rdc_N hv60 (by omega), p1, put_ok hq (by omega) (by omega), kbs rfl, nI_clamp (n := s) (by omega)]
        rw [st, kbs rfl, leaveC hv60 hr hR hrv, kbs rfl, if_pos s0, f2', kbs rfl, rdc_N hs (by omega), addM ha, kbs rfl, readsM hv60 (by omega) p2, kbs rfl, kbs rfl, nI_clamp (n := s) (by omega)]
        refine ⟨r, a + 1, up4 sN a 8 (nI r) (nI s) (-1), up4 stP a 8 (nI r) (nI s) (-1), upd pN (4 * q + 3) (nI a), upd pcP (4 * q + 3) (nI a), upd vI r (-1), upd rO v (-1), upd sO v (nI s), upd sT s 1, _, hr, rfl, rfl,
          ⟨iR', iS.take hv60 hs s0 es, iP.mono (Nat.le_refl b) lv, ⟨iE.app, iF.upd⟩, ⟨iK.app ⟨⟨r, hr, rfl⟩, Or.inr (Or.inr (Or.inr (Or.inr ⟨Or.inr rfl, s, hs, rfl⟩)))⟩, ?_⟩, iU, iL', ⟨fun w hw g1 g2 => ?_, fun w h1 h2 => lv w h2 (iA.2 w h1 h2)⟩, ⟨by omega, iB2⟩, zI'.1, zI'.2, Zupd iZ.2.2.1 hv60, Zupd iZ.2.2.2 hs⟩, by rw [pk_us], keep, lv⟩
        · rw [cK_app, if_neg (by decide)]; omega
        · by_cases q : w = v
          · rw [q, pk_us]; exact Or.inr (by rw [pk_us]; exact nIm1 (by omega))
          · rw [pk_un q, pk_un q]; exact iA.1 w hw g1 g2
      · -- it has a slot
        have st : f_X0_storeIfNeeded (nI v) (nI r) kC (nI n) sN (nI a) pN (nI b) sO pO sT sc = some (sN, nI a, pN, sO, sT, sc) := by
          rw [f_X0_storeIfNeeded, isRow_in hv60, kbs rfl, if_neg (by decide), isConstC hn hvn, kbs rfl, if_neg k0, if_pos rfl, rdc_N hv60 (by omega), nI_clamp (n := v) (by omega), if_neg s0]
        rw [st, kbs rfl, leaveC hv60 hr hR hrv, kbs rfl, if_neg s0, kbs rfl]
        refine ⟨r, a, sN, stP, pN, pcP, upd vI r (-1), upd rO v (-1), sO, sT, sc, hr, rfl, rfl, ⟨iR', iS, iP.mono (Nat.le_refl b) lv, ⟨iE, iF⟩, ⟨iK, iO⟩, iU, iL', ⟨fun w hw g1 g2 => ?_, fun w h1 h2 => lv w h2 (iA.2 w h1 h2)⟩, ⟨iB1, iB2⟩, zI'.1, zI'.2, iZ.2.2⟩, by rw [pk_us], keep, lv⟩
        rcases iA.1 w hw g1 g2 with g | g
        · by_cases q : w = v
          · rw [q]; exact Or.inr s0
          · rw [pk_un q]; exact Or.inl g
        · exact Or.inr g
