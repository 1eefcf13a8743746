theorem Inv.mono {n R i S B O S' B' O' a b : Nat} {kC nx sN stP pN pcP vI rO sO pO pO' up sT : Nat → Int32} (h : Inv n R i kC nx S B O a b sN stP pN pcP vI rO sO pO pO' up sT) (hS : S ≤ S') (hB : B ≤ B') (hO : O ≤ O') : Inv n R i kC nx S' B' O' a b sN stP pN pcP vI rO sO pO pO' up sT := by
  obtain ⟨iR, iS, iP, iE, ⟨iK, iO⟩, iU, iL, iA, ⟨iB1, iB2⟩, iZ⟩ := h
  exact ⟨iR, iS, iP, iE, ⟨iK, by omega⟩, iU, iL, iA, ⟨by omega, by omega⟩, iZ⟩
theorem Inv.congr {n R i S B O a b : Nat} {kC nx nx' sN stP pN pcP vI rO sO pO pO' up sT : Nat → Int32} (hi : i ≤ n) (h : Inv n R i kC nx S B O a b sN stP pN pcP vI rO sO pO pO' up sT) (e : ∀ v, v < n → nx v = nx' v) : Inv n R i kC nx' S B O a b sN stP pN pcP vI rO sO pO pO' up sT := by
  obtain ⟨iR, iS, iP, iE, iK, iU, iL, iA, ⟨iB1, iB2⟩, iZ⟩ := h
  refine ⟨iR, iS, iP, iE, iK, fun v hv => (iU v hv).trans (e v hv), fun v hv g => by rw [← e v hv]; exact iL v hv g, ⟨fun v hv g1 g2 => iA.1 v hv g1 (by rw [e v (by omega)]; exact g2), iA.2⟩, ⟨?_, iB2⟩, iZ⟩
  rw [fb_ct_cong (q := phB sO nx) (fun k hk => by simp only [phB, e k hk])]
  exact iB1
theorem intOfC {k : Nat → Int32} {v n : Nat} (hn : n ≤ 60) (hv : v < n) : f_X1_intOf (nI v) k (nI n) = some (k v) := by
  rw [f_X1_intOf, hasC_in hn hv, kbs rfl, if_neg (by decide), rdc_N (by omega) (by omega), nI_clamp (by omega)]
theorem kindOfC {k : Nat → Int32} {v n : Nat} (hn : n ≤ 60) (hv : v < n) : f_X1_kindOf (nI v) k (nI n) = some (k v) := by
  rw [f_X1_kindOf, hasC_in hn hv, kbs rfl, if_neg (by decide), rdc_N (by omega) (by omega), nI_clamp (by omega)]
theorem firstOfC {k : Nat → Int32} {v n : Nat} (hn : n ≤ 60) (hv : v < n) : f_X1_firstOf (nI v) k (nI n) = some (k v) := by
  rw [f_X1_firstOf, hasC_in hn hv, kbs rfl, if_neg (by decide), rdc_N (by omega) (by omega), nI_clamp (by omega)]
theorem secondOfC {k : Nat → Int32} {v n : Nat} (hn : n ≤ 60) (hv : v < n) : f_X1_secondOf (nI v) k (nI n) = some (k v) := by
  rw [f_X1_secondOf, hasC_in hn hv, kbs rfl, if_neg (by decide), rdc_N (by omega) (by omega), nI_clamp (by omega)]
theorem hasValueC {k : Nat → Int32} {v n : Nat} (hn : n ≤ 60) (hv : v < n) : f_X1_hasValue (nI v) k (nI n) = some (if k v = 6 then 0 else 1) := by
  rw [f_X1_hasValue, hasC_in hn hv, kbs rfl, if_neg (by decide), rdc_N (by omega) (by omega), nI_clamp (by omega)]
  by_cases h : k v = 6
  · rw [if_pos h, if_pos h]
  · rw [if_neg h, if_neg h]
set_option maxHeartbeats 2000000 in
/-- an operand comes into a register -/
theorem bring_ok {n R i a b S B O v : Nat} {kC iC nx sN stP pN pcP vI rO sO pO pO' up sT kM aM bM cM : Nat → Int32} {sc pa pb : Int32} (hn : n ≤ 60) (hR : R ≤ 8) (hi : i < n) (hS : S + 1 ≤ 240) (hB : B + 1 ≤ 180) (hvi : v < i)
    (hI : Inv n R i kC nx S B O a b sN stP pN pcP vI rO sO pO pO' up sT)
    (ht : ∀ v, v < n → ((nI v ≠ pa ∧ nI v ≠ pb) ↔ ¬ ((1 : Int32) = 1 ∧ (¬ kM i = 0 ∧ (aM i = nI v ∨ bM i = nI v)))))
    (hu : ∀ v, v < n → nI v ≠ pa → nI v ≠ pb → nx v = nu (usM kM aM bM cM (nI v)) n (i + 1)) (hk : ∀ v, v < n → kM v = kC v) (hc : kC v = 0 → aM v = iC v) (hx : nx v ≠ -1)
    (hex : rO v = -1 → (∀ r, r < R → vI r ≠ -1) → ∃ r v, r < R ∧ v < n ∧ vI r = nI v ∧ nI v ≠ pa ∧ nI v ≠ pb) :
    ∃ (a' b' : Nat) (sN' stP' pN' pcP' vI' rO' sO' pO2 pO2' sT' : Nat → Int32) (sc' : Int32),
      (∀ {β : Type} (K : (Nat → Int32) → Int32 → (Nat → Int32) → Int32 → (Nat → Int32) → (Nat → Int32) → (Nat → Int32) → (Nat → Int32) → (Nat → Int32) → Int32 → Option β),
        (Option.bind (f_X0_isMissing (nI v) rO) fun u20 => if u20 = 0 then K sN (nI a) pN (nI b) vI rO sO pO sT sc else
          Option.bind (f_X0_getRegister pa pb kC (nI n) sN (nI a) pN (nI b) vI rO sO pO up sT (nI R) sc) fun u31 =>
          Option.bind (f_X0_fetch (nI v) u31.1 kC iC (nI n) u31.2.1 u31.2.2.1 u31.2.2.2.1 (nI b) u31.2.2.2.2.1 u31.2.2.2.2.2.1 u31.2.2.2.2.2.2.1 pO (nI R)) fun u34 =>
          K u34.1 u34.2.1 u34.2.2.1 u34.2.2.2.1 u34.2.2.2.2.1 u34.2.2.2.2.2.1 u31.2.2.2.2.2.2.1 u34.2.2.2.2.2.2 u31.2.2.2.2.2.2.2.1 u31.2.2.2.2.2.2.2.2) = K sN' (nI a') pN' (nI b') vI' rO' sO' pO2 sT' sc') ∧
      f_X5_bring (nI v) (nI i) (nI R) (nI n) kM aM bM (nI a) stP (nI b) pcP sc cM rO sO pO' vI sT = some (nI a', stP', nI b', pcP', sc', rO', sO', pO2', vI', sT') ∧
      Inv n R i kC nx (S + 1) (B + 1) O a' b' sN' stP' pN' pcP' vI' rO' sO' pO2 pO2' up sT' ∧ rO' v ≠ -1 ∧ (∀ w, w < 60 → (nI w = pa ∨ nI w = pb) → rO w ≠ -1 → rO' w = rO w) := by
  have hv60 : v < 60 := by omega
  have hvn : v < n := by omega
  by_cases h0 : rO v = -1
  · obtain ⟨r, a1, sN1, stP1, pN1, pcP1, vI1, rO1, sO1, sT1, sc1, hr, g1, g2, hI1, e1, k1, k2⟩ := get_ok (sc := sc) hn hR hi (by omega) (by omega) hI (Or.inr rfl) ht hu hk (hex h0)
    obtain ⟨iR, iS, iP, ⟨iE, iF⟩, ⟨iK, iO⟩, iU, iL, iA, ⟨iB1, iB2⟩, iZ⟩ := id hI1
    have e0 : rO1 v = -1 := k2 v hv60 h0
    have ha : a1 < 240 := by omega
    have hb : b < 180 := by omega
    have hrd : ∀ (k : Option (Int32 × (Nat → Int32) × Int32 × (Nat → Int32) × Int32 × (Nat → Int32) × (Nat → Int32) × (Nat → Int32) × (Nat → Int32) × (Nat → Int32))), rdc (nI v) 60 k = k := fun k => rdc_N hv60 (by omega)
    have fin : ∀ (x0 x2 : Int32), RowOK R x0 (nI r) x2 (-1) → x0 ≠ 6 →
        Inv n R i kC nx (S + 1) (B + 1) O (a1 + 1) (b + 1) (up4 sN1 a1 x0 (nI r) x2 (-1)) (up4 stP1 a1 x0 (nI r) x2 (-1)) (up4 pN1 b (nI v) (nI r) (nI a1) (nI a1)) (up4 pcP1 b (nI v) (nI r) (nI a1) (nI a1)) (upd vI1 r (nI v)) (upd rO1 v (nI r)) sO1 (upd pO v (nI b)) (upd pO' v (nI b)) up sT1 := by
      intro x0 x2 hrow h6
      refine ⟨iR.enter hn hR hvn hr e0 e1, iS, iP.enter, ⟨iE.app, iF.app⟩, ⟨iK.app hrow, ?_⟩, iU, fun w hw g => ?_, ⟨fun w hw q1 q2 => ?_, fun w q1 q2 => by rw [pk_un (by omega)]; exact iA.2 w q1 q2⟩, ⟨by omega, by omega⟩, Zupd iZ.1 (by omega), Zupd iZ.2.1 hv60, iZ.2.2⟩
      · rw [cK_app, if_neg h6]; omega
      · by_cases q : w = v
        · rw [q]; exact hx
        · rw [pk_un q] at g; exact iL w hw g
      · by_cases q : w = v
        · rw [q, pk_us]; exact Or.inl (nIm1 (by omega))
        · rw [pk_un q]; exact iA.1 w hw q1 q2
    have keep : ∀ w, w < 60 → (nI w = pa ∨ nI w = pb) → rO w ≠ -1 → upd rO1 v (nI r) w = rO w := fun w hw g q => by
      rw [pk_un (fun z => q (by rw [z]; exact h0))]; exact k1 w hw g
    by_cases k0 : kC v = 0
    · refine ⟨a1 + 1, b + 1, up4 sN1 a1 0 (nI r) (iC v) (-1), up4 stP1 a1 0 (nI r) (iC v) (-1), up4 pN1 b (nI v) (nI r) (nI a1) (nI a1), up4 pcP1 b (nI v) (nI r) (nI a1) (nI a1), upd vI1 r (nI v), upd rO1 v (nI r), sO1, upd pO v (nI b), upd pO' v (nI b), sT1, sc1, ?_, ?_,
        fin 0 (iC v) ⟨⟨r, hr, rfl⟩, Or.inl rfl⟩ (by decide), by rw [pk_us]; exact nIm1 (by omega), keep⟩
      · intro β K
        rw [miss_ok hv60, kbs rfl, if_pos h0, if_neg (by decide), g1, kbs rfl, f_X0_fetch, isConstC hn hvn, kbs rfl, if_pos k0, if_neg (by decide), intOfC hn hvn, kbs rfl, appS ha, kbs rfl, beginC hv60 hr hR hb, kbs rfl, kbs rfl]
      · rw [f_X5_bring, nI_clamp (n := v) (by omega)]
        simp only [hrd]
        rw [if_pos h0, g2, kbs rfl, hk v hvn, if_pos k0, hc k0, addM ha, kbs rfl, beginM hv60 (by omega) hb, kbs rfl]
    · obtain ⟨s, hs, es⟩ : ∃ s, s < 60 ∧ sO1 v = nI s := by
        rcases iA.1 v hvi k0 hx with g | g
        · exact absurd e0 g
        · rcases iS.1 v hv60 with z | ⟨s, z1, z2, -⟩
          · exact absurd z g
          · exact ⟨s, z1, z2⟩
      refine ⟨a1 + 1, b + 1, up4 sN1 a1 7 (nI r) (sO1 v) (-1), up4 stP1 a1 7 (nI r) (sO1 v) (-1), up4 pN1 b (nI v) (nI r) (nI a1) (nI a1), up4 pcP1 b (nI v) (nI r) (nI a1) (nI a1), upd vI1 r (nI v), upd rO1 v (nI r), sO1, upd pO v (nI b), upd pO' v (nI b), sT1, sc1, ?_, ?_,
        fin 7 (sO1 v) ⟨⟨r, hr, rfl⟩, Or.inr (Or.inr (Or.inr (Or.inr ⟨Or.inl rfl, s, hs, es⟩)))⟩ (by decide), by rw [pk_us]; exact nIm1 (by omega), keep⟩
      · intro β K
        rw [miss_ok hv60, kbs rfl, if_pos h0, if_neg (by decide), g1, kbs rfl, f_X0_fetch, isConstC hn hvn, kbs rfl, if_neg k0, if_pos rfl, sHold_ok hv60, kbs rfl, appS ha, kbs rfl, beginC hv60 hr hR hb, kbs rfl, kbs rfl]
      · rw [f_X5_bring, nI_clamp (n := v) (by omega)]
        simp only [hrd]
        rw [if_pos h0, g2, kbs rfl, hk v hvn, if_neg k0, addM ha, kbs rfl, beginM hv60 (by omega) hb, kbs rfl]
  · refine ⟨a, b, sN, stP, pN, pcP, vI, rO, sO, pO, pO', sT, sc, ?_, ?_, hI.mono (by omega) (by omega) (Nat.le_refl O), h0, fun _ _ _ _ => rfl⟩
    · intro β K
      rw [miss_ok hv60, kbs rfl, if_neg h0, if_pos rfl]
    · rw [f_X5_bring, nI_clamp (n := v) (by omega), rdc_N hv60 (by omega), if_neg h0]
