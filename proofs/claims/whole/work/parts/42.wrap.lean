theorem vin01 : vp_in 0 1 := vp_in_iff.mpr (by decide)
/-! ===== the law's own callers ===== -/
abbrev rwL_constant : Room := { frames := 8, cells := 1, slots := 6, locals := 133 }
set_option maxHeartbeats 4000000 in
set_option maxRecDepth 100000 in
theorem w_constant (l : Launch) (D : va_G) (cyI cyZ cyJ : ClassId) (b o : Nat) (wc w1 : va_W) (fJ : Nat → Int64) (p1 : Int32) (fs : List Value) {r : Int32} (hM : kMi l yX4_constant wsX4_constant rmX4_constant (.ref b :: [.int p1]) D wc w1 (kT cyI cyZ) r 0 0) (l1 : wc.length = 33) (l2 : w1.length = 33) (h0 : wc[0]? = some (b, .inr (4, fs))) : kWi l yL_constant wsL_constant rwL_constant [.ref b, .int p1, .ref o] D (wc ++ [(o, .inl (cyJ, 1, .inr (.inl fJ)))]) (w1 ++ [(o, .inl (cyJ, 1, .inr (.inl (vp_updL fJ 0 r.toInt64))))]) (kT3 cyI cyZ cyJ) 0 1 6 := by
  refine kOf_w (cc := cL_constant) (maxL := 4) (hh := [(0, 9, 12, 13)]) (by decide +kernel) rfl (Nat.le_of_ble_eq_true rfl) ?_
  intro p e s m args below meth c A Z ls C0 htab hY hP hK hD hA hl ret
  obtain ⟨hx, hb, hr, hml, hown, hts, hlocks⟩ := C0
  have hown : s.vm.findClass RL = some m.cls := hown
  have hl : lv_has ls 4 [(0, .ref b), (1, .int p1), (2, .ref o)] := hl
  have hS : va_S A s.heap s.heap [] := va_S.rf
  have hK2 : va_K D vwCl (kT cyI cyZ) s := hK.sub [0, 1] rfl
  have hP : va_P D vwCl ([] ++ (wc ++ [(o, .inl (cyJ, 1, .inr (.inl fJ)))])) s.heap := hP
  have hD : va_D A ([] ++ (wc ++ [(o, .inl (cyJ, 1, .inr (.inl fJ)))])) := hD
  refine lv_aload_n hx hb dL_constant_0 rfl (lv_at hl 2 rfl) ?_
  refine lv_iconst (v := 0) hx hb dL_constant_1 (by decide) ?_
  refine lv_aload_n hx hb dL_constant_2 rfl (lv_at hl 0 rfl) ?_
  refine lv_iload_n hx hb dL_constant_3 rfl (lv_at hl 1 rfl) ?_
  refine kcm_Vi (As := [.int p1]) (rest := [.int 0, .ref o]) (n1 := 0) (n2 := 33) (n3 := 1) (wl := []) (wc := wc) (w1 := w1) (wr := [(o, .inl (cyJ, 1, .inr (.inl fJ)))]) rfl l1 l2 rfl (by decide +kernel) hM ⟨hx, hb, hml, hown, hts⟩ (cwV 1 hts gL_constant_X4_constant rfl rfl rfl (by decide +kernel) ⟨Nat.le_of_ble_eq_true rfl, Nat.le_of_ble_eq_true rfl⟩) hK2 hP hD hS hA h0 rfl rfl rfl hl.1 rfl (Nat.le_of_ble_eq_true rfl) dL_constant_4 ⟨Nat.le_of_ble_eq_true rfl, Nat.le_of_ble_eq_true rfl⟩ (fun H locs hP hD hS => ?_)
  have hP : va_P D vwCl (w1 ++ [(o, .inl (cyJ, 1, .inr (.inl fJ)))]) H := hP
  have hD : va_D A (w1 ++ [(o, .inl (cyJ, 1, .inr (.inl fJ)))]) := hD
  refine lv_i2l hx hb dL_constant_7 rfl ?_
  refine va_last (f := fJ) hx hb hK hP hD hS 33 2 (lastAt l2) rfl vin01 dL_constant_8 (fun H locs hP hD hS => ?_)
  rw [lastSet l2] at hP hD
  refine lv_goto (tgt := 15) hx hb dL_constant_9 (by decide) ?_
  refine lv_iconst (v := 0) hx hb dL_constant_15 (by decide) ?_
  refine W.widen (k := 1) (n := 6) (Nat.le_of_ble_eq_true rfl) (Nat.le_of_ble_eq_true rfl) ?_
  exact ret _ _ _ _ dL_constant_16 hP hD hS
set_option maxHeartbeats 4000000 in
set_option maxRecDepth 100000 in
theorem v_constant (l : Launch) (D : va_G) (cyI cyZ cyJ : ClassId) (b o : Nat) (wc : va_W) (fJ : Nat → Int64) (p1 : Int32) (fs : List Value) {x : Nat} {k : Int32} (hM : kMxi l yX4_constant wsX4_constant rxX4_constant (.ref b :: [.int p1]) D wc (kT cyI cyZ) x 1 6) (l1 : wc.length = 33) (h0 : wc[0]? = some (b, .inr (4, fs))) (hc : cdS x = some k) : kWi l yL_constant wsL_constant rwL_constant [.ref b, .int p1, .ref o] D (wc ++ [(o, .inl (cyJ, 1, .inr (.inl fJ)))]) (wc ++ [(o, .inl (cyJ, 1, .inr (.inl fJ)))]) (kT3 cyI cyZ cyJ) k 1 6 := by
  refine kOf_w (cc := cL_constant) (maxL := 4) (hh := [(0, 9, 12, 13)]) (by decide +kernel) rfl (Nat.le_of_ble_eq_true rfl) ?_
  intro p e s m args below meth c A Z ls C0 htab hY hP hK hD hA hl ret
  obtain ⟨hx, hb, hr, hml, hown, hts, hlocks⟩ := C0
  have hown : s.vm.findClass RL = some m.cls := hown
  have hl : lv_has ls 4 [(0, .ref b), (1, .int p1), (2, .ref o)] := hl
  have hS : va_S A s.heap s.heap [] := va_S.rf
  have hK2 : va_K D vwCl (kT cyI cyZ) s := hK.sub [0, 1] rfl
  have hP : va_P D vwCl ([] ++ (wc ++ [(o, .inl (cyJ, 1, .inr (.inl fJ)))])) s.heap := hP
  have hD : va_D A ([] ++ (wc ++ [(o, .inl (cyJ, 1, .inr (.inl fJ)))])) := hD
  have kl13 : (Cond.classLink RL 13 "java/lang/IllegalStateException").before args s = true := hts _ (by decide +kernel)
  refine lv_aload_n hx hb dL_constant_0 rfl (lv_at hl 2 rfl) ?_
  refine lv_iconst (v := 0) hx hb dL_constant_1 (by decide) ?_
  refine lv_aload_n hx hb dL_constant_2 rfl (lv_at hl 0 rfl) ?_
  refine lv_iload_n hx hb dL_constant_3 rfl (lv_at hl 1 rfl) ?_
  refine kxm_Vi (As := [.int p1]) (rest := [.int 0, .ref o]) (n1 := 0) (n2 := 33) (n3 := 1) (wl := []) (wc := wc) (wr := [(o, .inl (cyJ, 1, .inr (.inl fJ)))]) rfl l1 rfl (by decide +kernel) hM ⟨hx, hb, hml, hown, hts⟩ (cwV 1 hts gL_constant_X4_constant rfl rfl rfl (by decide +kernel) ⟨Nat.le_of_ble_eq_true rfl, Nat.le_of_ble_eq_true rfl⟩) hK2 hY.1 hP hD hS hA h0 rfl rfl rfl hl.1 rfl (Nat.le_of_ble_eq_true rfl) dL_constant_4 ⟨Nat.le_of_ble_eq_true rfl, Nat.le_of_ble_eq_true rfl⟩ (fun q9 ce H locs hP hD hS hce hv hcl => ?_)
  have hP : va_P D vwCl (wc ++ [(o, .inl (cyJ, 1, .inr (.inl fJ)))]) H := hP
  have hD : va_D A (wc ++ [(o, .inl (cyJ, 1, .inr (.inl fJ)))]) := hD
  unfold cdS at hc
  by_cases cx : x = 2
  · rw [if_pos cx] at hc
    obtain rfl := Option.some.inj hc
    subst cx
    refine vx_catch (own := RL) (name := "java/lang/IllegalStateException") (E := kISE) hown [] ⟨0, 9, 12, 13⟩ [] htab (fun z hz => by cases hz) rfl (by decide) kl13 (kcast hY (by decide +kernel)) hce hv hcl ?_
    refine lv_astore_n (lv' := [(3, .ref q9), (0, .ref b), (1, .int p1), (2, .ref o)]) hx hb dL_constant_12 rfl hl (by decide) rfl (fun ls hl => ?_)
    refine lv_iconst (v := 1) hx hb dL_constant_13 (by decide) ?_
    exact ret _ _ _ _ dL_constant_14 hP hD hS
  rw [if_neg cx] at hc
  cases hc
abbrev rwL_operate : Room := { frames := 8, cells := 1, slots := 6, locals := 135 }
set_option maxHeartbeats 4000000 in
set_option maxRecDepth 100000 in
theorem w_operate (l : Launch) (D : va_G) (cyI cyZ cyJ : ClassId) (b o : Nat) (wc w1 : va_W) (fJ : Nat → Int64) (p1 : Int32) (p2 : Int32) (p3 : Int32) (fs : List Value) {r : Int32} (hM : kMi l yX4_operate wsX4_operate rmX4_operate (.ref b :: [.int p1, .int p2, .int p3]) D wc w1 (kT cyI cyZ) r 0 0) (l1 : wc.length = 33) (l2 : w1.length = 33) (h0 : wc[0]? = some (b, .inr (4, fs))) : kWi l yL_operate wsL_operate rwL_operate [.ref b, .int p1, .int p2, .int p3, .ref o] D (wc ++ [(o, .inl (cyJ, 1, .inr (.inl fJ)))]) (w1 ++ [(o, .inl (cyJ, 1, .inr (.inl (vp_updL fJ 0 r.toInt64))))]) (kT3 cyI cyZ cyJ) 0 1 6 := by
  refine kOf_w (cc := cL_operate) (maxL := 6) (hh := [(0, 12, 15, 19), (0, 12, 19, 21), (0, 12, 23, 13)]) (by decide +kernel) rfl (Nat.le_of_ble_eq_true rfl) ?_
  intro p e s m args below meth c A Z ls C0 htab hY hP hK hD hA hl ret
  obtain ⟨hx, hb, hr, hml, hown, hts, hlocks⟩ := C0
  have hown : s.vm.findClass RL = some m.cls := hown
  have hl : lv_has ls 6 [(0, .ref b), (1, .int p1), (2, .int p2), (3, .int p3), (4, .ref o)] := hl
  have hS : va_S A s.heap s.heap [] := va_S.rf
  have hK2 : va_K D vwCl (kT cyI cyZ) s := hK.sub [0, 1] rfl
  have hP : va_P D vwCl ([] ++ (wc ++ [(o, .inl (cyJ, 1, .inr (.inl fJ)))])) s.heap := hP
  have hD : va_D A ([] ++ (wc ++ [(o, .inl (cyJ, 1, .inr (.inl fJ)))])) := hD
  refine lv_aload hx hb dL_operate_0 (lv_at hl 4 rfl) ?_
  refine lv_iconst (v := 0) hx hb dL_operate_2 (by decide) ?_
  refine lv_aload_n hx hb dL_operate_3 rfl (lv_at hl 0 rfl) ?_
  refine lv_iload_n hx hb dL_operate_4 rfl (lv_at hl 1 rfl) ?_
  refine lv_iload_n hx hb dL_operate_5 rfl (lv_at hl 2 rfl) ?_
  refine lv_iload_n hx hb dL_operate_6 rfl (lv_at hl 3 rfl) ?_
  refine kcm_Vi (As := [.int p1, .int p2, .int p3]) (rest := [.int 0, .ref o]) (n1 := 0) (n2 := 33) (n3 := 1) (wl := []) (wc := wc) (w1 := w1) (wr := [(o, .inl (cyJ, 1, .inr (.inl fJ)))]) rfl l1 l2 rfl (by decide +kernel) hM ⟨hx, hb, hml, hown, hts⟩ (cwV 3 hts gL_operate_X4_operate rfl rfl rfl (by decide +kernel) ⟨Nat.le_of_ble_eq_true rfl, Nat.le_of_ble_eq_true rfl⟩) hK2 hP hD hS hA h0 rfl rfl rfl hl.1 rfl (Nat.le_of_ble_eq_true rfl) dL_operate_7 ⟨Nat.le_of_ble_eq_true rfl, Nat.le_of_ble_eq_true rfl⟩ (fun H locs hP hD hS => ?_)
  have hP : va_P D vwCl (w1 ++ [(o, .inl (cyJ, 1, .inr (.inl fJ)))]) H := hP
  have hD : va_D A (w1 ++ [(o, .inl (cyJ, 1, .inr (.inl fJ)))]) := hD
  refine lv_i2l hx hb dL_operate_10 rfl ?_
  refine va_last (f := fJ) hx hb hK hP hD hS 33 2 (lastAt l2) rfl vin01 dL_operate_11 (fun H locs hP hD hS => ?_)
  rw [lastSet l2] at hP hD
  refine lv_goto (tgt := 27) hx hb dL_operate_12 (by decide) ?_
  refine lv_iconst (v := 0) hx hb dL_operate_27 (by decide) ?_
  refine W.widen (k := 1) (n := 6) (Nat.le_of_ble_eq_true rfl) (Nat.le_of_ble_eq_true rfl) ?_
  exact ret _ _ _ _ dL_operate_28 hP hD hS
set_option maxHeartbeats 4000000 in
set_option maxRecDepth 100000 in
theorem v_operate (l : Launch) (D : va_G) (cyI cyZ cyJ : ClassId) (b o : Nat) (wc : va_W) (fJ : Nat → Int64) (p1 : Int32) (p2 : Int32) (p3 : Int32) (fs : List Value) {x : Nat} {k : Int32} (hM : kMxi l yX4_operate wsX4_operate rxX4_operate (.ref b :: [.int p1, .int p2, .int p3]) D wc (kT cyI cyZ) x 1 6) (l1 : wc.length = 33) (h0 : wc[0]? = some (b, .inr (4, fs))) (hc : cdIAS x = some k) : kWi l yL_operate wsL_operate rwL_operate [.ref b, .int p1, .int p2, .int p3, .ref o] D (wc ++ [(o, .inl (cyJ, 1, .inr (.inl fJ)))]) (wc ++ [(o, .inl (cyJ, 1, .inr (.inl fJ)))]) (kT3 cyI cyZ cyJ) k 1 6 := by
  refine kOf_w (cc := cL_operate) (maxL := 6) (hh := [(0, 12, 15, 19), (0, 12, 19, 21), (0, 12, 23, 13)]) (by decide +kernel) rfl (Nat.le_of_ble_eq_true rfl) ?_
  intro p e s m args below meth c A Z ls C0 htab hY hP hK hD hA hl ret
  obtain ⟨hx, hb, hr, hml, hown, hts, hlocks⟩ := C0
  have hown : s.vm.findClass RL = some m.cls := hown
  have hl : lv_has ls 6 [(0, .ref b), (1, .int p1), (2, .int p2), (3, .int p3), (4, .ref o)] := hl
  have hS : va_S A s.heap s.heap [] := va_S.rf
  have hK2 : va_K D vwCl (kT cyI cyZ) s := hK.sub [0, 1] rfl
  have hP : va_P D vwCl ([] ++ (wc ++ [(o, .inl (cyJ, 1, .inr (.inl fJ)))])) s.heap := hP
  have hD : va_D A ([] ++ (wc ++ [(o, .inl (cyJ, 1, .inr (.inl fJ)))])) := hD
  have kl19 : (Cond.classLink RL 19 "java/lang/IndexOutOfBoundsException").before args s = true := hts _ (by decide +kernel)
  have kl21 : (Cond.classLink RL 21 "java/lang/IllegalArgumentException").before args s = true := hts _ (by decide +kernel)
  have kl13 : (Cond.classLink RL 13 "java/lang/IllegalStateException").before args s = true := hts _ (by decide +kernel)
  refine lv_aload hx hb dL_operate_0 (lv_at hl 4 rfl) ?_
  refine lv_iconst (v := 0) hx hb dL_operate_2 (by decide) ?_
  refine lv_aload_n hx hb dL_operate_3 rfl (lv_at hl 0 rfl) ?_
  refine lv_iload_n hx hb dL_operate_4 rfl (lv_at hl 1 rfl) ?_
  refine lv_iload_n hx hb dL_operate_5 rfl (lv_at hl 2 rfl) ?_
  refine lv_iload_n hx hb dL_operate_6 rfl (lv_at hl 3 rfl) ?_
  refine kxm_Vi (As := [.int p1, .int p2, .int p3]) (rest := [.int 0, .ref o]) (n1 := 0) (n2 := 33) (n3 := 1) (wl := []) (wc := wc) (wr := [(o, .inl (cyJ, 1, .inr (.inl fJ)))]) rfl l1 rfl (by decide +kernel) hM ⟨hx, hb, hml, hown, hts⟩ (cwV 3 hts gL_operate_X4_operate rfl rfl rfl (by decide +kernel) ⟨Nat.le_of_ble_eq_true rfl, Nat.le_of_ble_eq_true rfl⟩) hK2 hY.1 hP hD hS hA h0 rfl rfl rfl hl.1 rfl (Nat.le_of_ble_eq_true rfl) dL_operate_7 ⟨Nat.le_of_ble_eq_true rfl, Nat.le_of_ble_eq_true rfl⟩ (fun q9 ce H locs hP hD hS hce hv hcl => ?_)
  have hP : va_P D vwCl (wc ++ [(o, .inl (cyJ, 1, .inr (.inl fJ)))]) H := hP
  have hD : va_D A (wc ++ [(o, .inl (cyJ, 1, .inr (.inl fJ)))]) := hD
  unfold cdIAS at hc
  by_cases cx : x = 0
  · rw [if_pos cx] at hc
    obtain rfl := Option.some.inj hc
    subst cx
    refine vx_catch (own := RL) (name := "java/lang/IndexOutOfBoundsException") (E := kIOB) hown [] ⟨0, 12, 15, 19⟩ [⟨0, 12, 19, 21⟩, ⟨0, 12, 23, 13⟩] htab (fun z hz => by cases hz) rfl (by decide) kl19 (kcast hY (by decide +kernel)) hce hv hcl ?_
    refine lv_astore (lv' := [(5, .ref q9), (0, .ref b), (1, .int p1), (2, .int p2), (3, .int p3), (4, .ref o)]) hx hb dL_operate_15 hl (by decide) rfl (fun ls hl => ?_)
    refine lv_iconst (v := 1) hx hb dL_operate_17 (by decide) ?_
    exact ret _ _ _ _ dL_operate_18 hP hD hS
  rw [if_neg cx] at hc
  by_cases cx : x = 1
  · rw [if_pos cx] at hc
    obtain rfl := Option.some.inj hc
    subst cx
    refine vx_catch (own := RL) (name := "java/lang/IllegalArgumentException") (E := kIAE) hown [⟨0, 12, 15, 19⟩] ⟨0, 12, 19, 21⟩ [⟨0, 12, 23, 13⟩] htab (fun z hz => by
        obtain rfl := List.mem_singleton.mp hz
        exact Or.inr ⟨by decide, "java/lang/IndexOutOfBoundsException", kl19, hY.2 (kIAE, kIOB) (by decide +kernel)⟩) rfl (by decide) kl21 (kcast hY (by decide +kernel)) hce hv hcl ?_
    refine lv_astore (lv' := [(5, .ref q9), (0, .ref b), (1, .int p1), (2, .int p2), (3, .int p3), (4, .ref o)]) hx hb dL_operate_19 hl (by decide) rfl (fun ls hl => ?_)
    refine lv_iconst (v := 2) hx hb dL_operate_21 (by decide) ?_
    exact ret _ _ _ _ dL_operate_22 hP hD hS
  rw [if_neg cx] at hc
  by_cases cx : x = 2
  · rw [if_pos cx] at hc
    obtain rfl := Option.some.inj hc
    subst cx
    refine vx_catch (own := RL) (name := "java/lang/IllegalStateException") (E := kISE) hown [⟨0, 12, 15, 19⟩, ⟨0, 12, 19, 21⟩] ⟨0, 12, 23, 13⟩ [] htab (fun z hz => by
        rcases List.mem_cons.mp hz with rfl | hz
        · exact Or.inr ⟨by decide, "java/lang/IndexOutOfBoundsException", kl19, hY.2 (kISE, kIOB) (by decide +kernel)⟩
        · obtain rfl := List.mem_singleton.mp hz
          exact Or.inr ⟨by decide, "java/lang/IllegalArgumentException", kl21, hY.2 (kISE, kIAE) (by decide +kernel)⟩) rfl (by decide) kl13 (kcast hY (by decide +kernel)) hce hv hcl ?_
    refine lv_astore (lv' := [(5, .ref q9), (0, .ref b), (1, .int p1), (2, .int p2), (3, .int p3), (4, .ref o)]) hx hb dL_operate_23 hl (by decide) rfl (fun ls hl => ?_)
    refine lv_iconst (v := 3) hx hb dL_operate_25 (by decide) ?_
    exact ret _ _ _ _ dL_operate_26 hP hD hS
  rw [if_neg cx] at hc
  cases hc
abbrev rwL_pass : Room := { frames := 8, cells := 1, slots := 6, locals := 134 }
set_option maxHeartbeats 4000000 in
set_option maxRecDepth 100000 in
theorem w_pass (l : Launch) (D : va_G) (cyI cyZ cyJ : ClassId) (b o : Nat) (wc w1 : va_W) (fJ : Nat → Int64) (p1 : Int32) (p2 : Int32) (fs : List Value) {r : Int32} (hM : kMi l yX4_pass wsX4_pass rmX4_pass (.ref b :: [.int p1, .int p2]) D wc w1 (kT cyI cyZ) r 0 0) (l1 : wc.length = 33) (l2 : w1.length = 33) (h0 : wc[0]? = some (b, .inr (4, fs))) : kWi l yL_pass wsL_pass rwL_pass [.ref b, .int p1, .int p2, .ref o] D (wc ++ [(o, .inl (cyJ, 1, .inr (.inl fJ)))]) (w1 ++ [(o, .inl (cyJ, 1, .inr (.inl (vp_updL fJ 0 r.toInt64))))]) (kT3 cyI cyZ cyJ) 0 1 6 := by
  refine kOf_w (cc := cL_pass) (maxL := 5) (hh := [(0, 10, 13, 19), (0, 10, 17, 21), (0, 10, 21, 13)]) (by decide +kernel) rfl (Nat.le_of_ble_eq_true rfl) ?_
  intro p e s m args below meth c A Z ls C0 htab hY hP hK hD hA hl ret
  obtain ⟨hx, hb, hr, hml, hown, hts, hlocks⟩ := C0
  have hown : s.vm.findClass RL = some m.cls := hown
  have hl : lv_has ls 5 [(0, .ref b), (1, .int p1), (2, .int p2), (3, .ref o)] := hl
  have hS : va_S A s.heap s.heap [] := va_S.rf
  have hK2 : va_K D vwCl (kT cyI cyZ) s := hK.sub [0, 1] rfl
  have hP : va_P D vwCl ([] ++ (wc ++ [(o, .inl (cyJ, 1, .inr (.inl fJ)))])) s.heap := hP
  have hD : va_D A ([] ++ (wc ++ [(o, .inl (cyJ, 1, .inr (.inl fJ)))])) := hD
  refine lv_aload_n hx hb dL_pass_0 rfl (lv_at hl 3 rfl) ?_
  refine lv_iconst (v := 0) hx hb dL_pass_1 (by decide) ?_
  refine lv_aload_n hx hb dL_pass_2 rfl (lv_at hl 0 rfl) ?_
  refine lv_iload_n hx hb dL_pass_3 rfl (lv_at hl 1 rfl) ?_
  refine lv_iload_n hx hb dL_pass_4 rfl (lv_at hl 2 rfl) ?_
  refine kcm_Vi (As := [.int p1, .int p2]) (rest := [.int 0, .ref o]) (n1 := 0) (n2 := 33) (n3 := 1) (wl := []) (wc := wc) (w1 := w1) (wr := [(o, .inl (cyJ, 1, .inr (.inl fJ)))]) rfl l1 l2 rfl (by decide +kernel) hM ⟨hx, hb, hml, hown, hts⟩ (cwV 2 hts gL_pass_X4_pass rfl rfl rfl (by decide +kernel) ⟨Nat.le_of_ble_eq_true rfl, Nat.le_of_ble_eq_true rfl⟩) hK2 hP hD hS hA h0 rfl rfl rfl hl.1 rfl (Nat.le_of_ble_eq_true rfl) dL_pass_5 ⟨Nat.le_of_ble_eq_true rfl, Nat.le_of_ble_eq_true rfl⟩ (fun H locs hP hD hS => ?_)
  have hP : va_P D vwCl (w1 ++ [(o, .inl (cyJ, 1, .inr (.inl fJ)))]) H := hP
  have hD : va_D A (w1 ++ [(o, .inl (cyJ, 1, .inr (.inl fJ)))]) := hD
  refine lv_i2l hx hb dL_pass_8 rfl ?_
  refine va_last (f := fJ) hx hb hK hP hD hS 33 2 (lastAt l2) rfl vin01 dL_pass_9 (fun H locs hP hD hS => ?_)
  rw [lastSet l2] at hP hD
  refine lv_goto (tgt := 25) hx hb dL_pass_10 (by decide) ?_
  refine lv_iconst (v := 0) hx hb dL_pass_25 (by decide) ?_
  refine W.widen (k := 1) (n := 6) (Nat.le_of_ble_eq_true rfl) (Nat.le_of_ble_eq_true rfl) ?_
  exact ret _ _ _ _ dL_pass_26 hP hD hS
set_option maxHeartbeats 4000000 in
set_option maxRecDepth 100000 in
theorem v_pass (l : Launch) (D : va_G) (cyI cyZ cyJ : ClassId) (b o : Nat) (wc : va_W) (fJ : Nat → Int64) (p1 : Int32) (p2 : Int32) (fs : List Value) {x : Nat} {k : Int32} (hM : kMxi l yX4_pass wsX4_pass rxX4_pass (.ref b :: [.int p1, .int p2]) D wc (kT cyI cyZ) x 1 6) (l1 : wc.length = 33) (h0 : wc[0]? = some (b, .inr (4, fs))) (hc : cdIAS x = some k) : kWi l yL_pass wsL_pass rwL_pass [.ref b, .int p1, .int p2, .ref o] D (wc ++ [(o, .inl (cyJ, 1, .inr (.inl fJ)))]) (wc ++ [(o, .inl (cyJ, 1, .inr (.inl fJ)))]) (kT3 cyI cyZ cyJ) k 1 6 := by
  refine kOf_w (cc := cL_pass) (maxL := 5) (hh := [(0, 10, 13, 19), (0, 10, 17, 21), (0, 10, 21, 13)]) (by decide +kernel) rfl (Nat.le_of_ble_eq_true rfl) ?_
  intro p e s m args below meth c A Z ls C0 htab hY hP hK hD hA hl ret
  obtain ⟨hx, hb, hr, hml, hown, hts, hlocks⟩ := C0
  have hown : s.vm.findClass RL = some m.cls := hown
  have hl : lv_has ls 5 [(0, .ref b), (1, .int p1), (2, .int p2), (3, .ref o)] := hl
  have hS : va_S A s.heap s.heap [] := va_S.rf
  have hK2 : va_K D vwCl (kT cyI cyZ) s := hK.sub [0, 1] rfl
  have hP : va_P D vwCl ([] ++ (wc ++ [(o, .inl (cyJ, 1, .inr (.inl fJ)))])) s.heap := hP
  have hD : va_D A ([] ++ (wc ++ [(o, .inl (cyJ, 1, .inr (.inl fJ)))])) := hD
  have kl19 : (Cond.classLink RL 19 "java/lang/IndexOutOfBoundsException").before args s = true := hts _ (by decide +kernel)
  have kl21 : (Cond.classLink RL 21 "java/lang/IllegalArgumentException").before args s = true := hts _ (by decide +kernel)
  have kl13 : (Cond.classLink RL 13 "java/lang/IllegalStateException").before args s = true := hts _ (by decide +kernel)
  refine lv_aload_n hx hb dL_pass_0 rfl (lv_at hl 3 rfl) ?_
  refine lv_iconst (v := 0) hx hb dL_pass_1 (by decide) ?_
  refine lv_aload_n hx hb dL_pass_2 rfl (lv_at hl 0 rfl) ?_
  refine lv_iload_n hx hb dL_pass_3 rfl (lv_at hl 1 rfl) ?_
  refine lv_iload_n hx hb dL_pass_4 rfl (lv_at hl 2 rfl) ?_
  refine kxm_Vi (As := [.int p1, .int p2]) (rest := [.int 0, .ref o]) (n1 := 0) (n2 := 33) (n3 := 1) (wl := []) (wc := wc) (wr := [(o, .inl (cyJ, 1, .inr (.inl fJ)))]) rfl l1 rfl (by decide +kernel) hM ⟨hx, hb, hml, hown, hts⟩ (cwV 2 hts gL_pass_X4_pass rfl rfl rfl (by decide +kernel) ⟨Nat.le_of_ble_eq_true rfl, Nat.le_of_ble_eq_true rfl⟩) hK2 hY.1 hP hD hS hA h0 rfl rfl rfl hl.1 rfl (Nat.le_of_ble_eq_true rfl) dL_pass_5 ⟨Nat.le_of_ble_eq_true rfl, Nat.le_of_ble_eq_true rfl⟩ (fun q9 ce H locs hP hD hS hce hv hcl => ?_)
  have hP : va_P D vwCl (wc ++ [(o, .inl (cyJ, 1, .inr (.inl fJ)))]) H := hP
  have hD : va_D A (wc ++ [(o, .inl (cyJ, 1, .inr (.inl fJ)))]) := hD
  unfold cdIAS at hc
  by_cases cx : x = 0
  · rw [if_pos cx] at hc
    obtain rfl := Option.some.inj hc
    subst cx
    refine vx_catch (own := RL) (name := "java/lang/IndexOutOfBoundsException") (E := kIOB) hown [] ⟨0, 10, 13, 19⟩ [⟨0, 10, 17, 21⟩, ⟨0, 10, 21, 13⟩] htab (fun z hz => by cases hz) rfl (by decide) kl19 (kcast hY (by decide +kernel)) hce hv hcl ?_
    refine lv_astore (lv' := [(4, .ref q9), (0, .ref b), (1, .int p1), (2, .int p2), (3, .ref o)]) hx hb dL_pass_13 hl (by decide) rfl (fun ls hl => ?_)
    refine lv_iconst (v := 1) hx hb dL_pass_15 (by decide) ?_
    exact ret _ _ _ _ dL_pass_16 hP hD hS
  rw [if_neg cx] at hc
  by_cases cx : x = 1
  · rw [if_pos cx] at hc
    obtain rfl := Option.some.inj hc
    subst cx
    refine vx_catch (own := RL) (name := "java/lang/IllegalArgumentException") (E := kIAE) hown [⟨0, 10, 13, 19⟩] ⟨0, 10, 17, 21⟩ [⟨0, 10, 21, 13⟩] htab (fun z hz => by
        obtain rfl := List.mem_singleton.mp hz
        exact Or.inr ⟨by decide, "java/lang/IndexOutOfBoundsException", kl19, hY.2 (kIAE, kIOB) (by decide +kernel)⟩) rfl (by decide) kl21 (kcast hY (by decide +kernel)) hce hv hcl ?_
    refine lv_astore (lv' := [(4, .ref q9), (0, .ref b), (1, .int p1), (2, .int p2), (3, .ref o)]) hx hb dL_pass_17 hl (by decide) rfl (fun ls hl => ?_)
    refine lv_iconst (v := 2) hx hb dL_pass_19 (by decide) ?_
    exact ret _ _ _ _ dL_pass_20 hP hD hS
  rw [if_neg cx] at hc
  by_cases cx : x = 2
  · rw [if_pos cx] at hc
    obtain rfl := Option.some.inj hc
    subst cx
    refine vx_catch (own := RL) (name := "java/lang/IllegalStateException") (E := kISE) hown [⟨0, 10, 13, 19⟩, ⟨0, 10, 17, 21⟩] ⟨0, 10, 21, 13⟩ [] htab (fun z hz => by
        rcases List.mem_cons.mp hz with rfl | hz
        · exact Or.inr ⟨by decide, "java/lang/IndexOutOfBoundsException", kl19, hY.2 (kISE, kIOB) (by decide +kernel)⟩
        · obtain rfl := List.mem_singleton.mp hz
          exact Or.inr ⟨by decide, "java/lang/IllegalArgumentException", kl21, hY.2 (kISE, kIAE) (by decide +kernel)⟩) rfl (by decide) kl13 (kcast hY (by decide +kernel)) hce hv hcl ?_
    refine lv_astore (lv' := [(4, .ref q9), (0, .ref b), (1, .int p1), (2, .int p2), (3, .ref o)]) hx hb dL_pass_21 hl (by decide) rfl (fun ls hl => ?_)
    refine lv_iconst (v := 3) hx hb dL_pass_23 (by decide) ?_
    exact ret _ _ _ _ dL_pass_24 hP hD hS
  rw [if_neg cx] at hc
  cases hc
abbrev rwL_change : Room := { frames := 8, cells := 1, slots := 6, locals := 125 }
set_option maxHeartbeats 4000000 in
set_option maxRecDepth 100000 in
theorem w_change (l : Launch) (D : va_G) (cyI cyZ cyJ : ClassId) (b o : Nat) (wc w1 : va_W) (fJ : Nat → Int64) (p1 : Int32) (p2 : Int32) (fs : List Value) {r : Int32} (hM : kMi l yX4_change wsX4_change rmX4_change (.ref b :: [.int p1, .int p2]) D wc w1 (kT cyI cyZ) r 0 0) (l1 : wc.length = 33) (l2 : w1.length = 33) (h0 : wc[0]? = some (b, .inr (4, fs))) : kWi l yL_change wsL_change rwL_change [.ref b, .int p1, .int p2, .ref o] D (wc ++ [(o, .inl (cyJ, 1, .inr (.inl fJ)))]) (w1 ++ [(o, .inl (cyJ, 1, .inr (.inl (vp_updL fJ 0 r.toInt64))))]) (kT3 cyI cyZ cyJ) 0 1 6 := by
  refine kOf_w (cc := cL_change) (maxL := 5) (hh := [(0, 10, 13, 19), (0, 10, 17, 21)]) (by decide +kernel) rfl (Nat.le_of_ble_eq_true rfl) ?_
  intro p e s m args below meth c A Z ls C0 htab hY hP hK hD hA hl ret
  obtain ⟨hx, hb, hr, hml, hown, hts, hlocks⟩ := C0
  have hown : s.vm.findClass RL = some m.cls := hown
  have hl : lv_has ls 5 [(0, .ref b), (1, .int p1), (2, .int p2), (3, .ref o)] := hl
  have hS : va_S A s.heap s.heap [] := va_S.rf
  have hK2 : va_K D vwCl (kT cyI cyZ) s := hK.sub [0, 1] rfl
  have hP : va_P D vwCl ([] ++ (wc ++ [(o, .inl (cyJ, 1, .inr (.inl fJ)))])) s.heap := hP
  have hD : va_D A ([] ++ (wc ++ [(o, .inl (cyJ, 1, .inr (.inl fJ)))])) := hD
  refine lv_aload_n hx hb dL_change_0 rfl (lv_at hl 3 rfl) ?_
  refine lv_iconst (v := 0) hx hb dL_change_1 (by decide) ?_
  refine lv_aload_n hx hb dL_change_2 rfl (lv_at hl 0 rfl) ?_
  refine lv_iload_n hx hb dL_change_3 rfl (lv_at hl 1 rfl) ?_
  refine lv_iload_n hx hb dL_change_4 rfl (lv_at hl 2 rfl) ?_
  refine kcm_Vi (As := [.int p1, .int p2]) (rest := [.int 0, .ref o]) (n1 := 0) (n2 := 33) (n3 := 1) (wl := []) (wc := wc) (w1 := w1) (wr := [(o, .inl (cyJ, 1, .inr (.inl fJ)))]) rfl l1 l2 rfl (by decide +kernel) hM ⟨hx, hb, hml, hown, hts⟩ (cwV 2 hts gL_change_X4_change rfl rfl rfl (by decide +kernel) ⟨Nat.le_of_ble_eq_true rfl, Nat.le_of_ble_eq_true rfl⟩) hK2 hP hD hS hA h0 rfl rfl rfl hl.1 rfl (Nat.le_of_ble_eq_true rfl) dL_change_5 ⟨Nat.le_of_ble_eq_true rfl, Nat.le_of_ble_eq_true rfl⟩ (fun H locs hP hD hS => ?_)
  have hP : va_P D vwCl (w1 ++ [(o, .inl (cyJ, 1, .inr (.inl fJ)))]) H := hP
  have hD : va_D A (w1 ++ [(o, .inl (cyJ, 1, .inr (.inl fJ)))]) := hD
  refine lv_i2l hx hb dL_change_8 rfl ?_
  refine va_last (f := fJ) hx hb hK hP hD hS 33 2 (lastAt l2) rfl vin01 dL_change_9 (fun H locs hP hD hS => ?_)
  rw [lastSet l2] at hP hD
  refine lv_goto (tgt := 21) hx hb dL_change_10 (by decide) ?_
  refine lv_iconst (v := 0) hx hb dL_change_21 (by decide) ?_
  refine W.widen (k := 1) (n := 6) (Nat.le_of_ble_eq_true rfl) (Nat.le_of_ble_eq_true rfl) ?_
  exact ret _ _ _ _ dL_change_22 hP hD hS
set_option maxHeartbeats 4000000 in
set_option maxRecDepth 100000 in
theorem v_change (l : Launch) (D : va_G) (cyI cyZ cyJ : ClassId) (b o : Nat) (wc : va_W) (fJ : Nat → Int64) (p1 : Int32) (p2 : Int32) (fs : List Value) {x : Nat} {k : Int32} (hM : kMxi l yX4_change wsX4_change rxX4_change (.ref b :: [.int p1, .int p2]) D wc (kT cyI cyZ) x 1 6) (l1 : wc.length = 33) (h0 : wc[0]? = some (b, .inr (4, fs))) (hc : cdIA x = some k) : kWi l yL_change wsL_change rwL_change [.ref b, .int p1, .int p2, .ref o] D (wc ++ [(o, .inl (cyJ, 1, .inr (.inl fJ)))]) (wc ++ [(o, .inl (cyJ, 1, .inr (.inl fJ)))]) (kT3 cyI cyZ cyJ) k 1 6 := by
  refine kOf_w (cc := cL_change) (maxL := 5) (hh := [(0, 10, 13, 19), (0, 10, 17, 21)]) (by decide +kernel) rfl (Nat.le_of_ble_eq_true rfl) ?_
  intro p e s m args below meth c A Z ls C0 htab hY hP hK hD hA hl ret
  obtain ⟨hx, hb, hr, hml, hown, hts, hlocks⟩ := C0
  have hown : s.vm.findClass RL = some m.cls := hown
  have hl : lv_has ls 5 [(0, .ref b), (1, .int p1), (2, .int p2), (3, .ref o)] := hl
  have hS : va_S A s.heap s.heap [] := va_S.rf
  have hK2 : va_K D vwCl (kT cyI cyZ) s := hK.sub [0, 1] rfl
  have hP : va_P D vwCl ([] ++ (wc ++ [(o, .inl (cyJ, 1, .inr (.inl fJ)))])) s.heap := hP
  have hD : va_D A ([] ++ (wc ++ [(o, .inl (cyJ, 1, .inr (.inl fJ)))])) := hD
  have kl19 : (Cond.classLink RL 19 "java/lang/IndexOutOfBoundsException").before args s = true := hts _ (by decide +kernel)
  have kl21 : (Cond.classLink RL 21 "java/lang/IllegalArgumentException").before args s = true := hts _ (by decide +kernel)
  refine lv_aload_n hx hb dL_change_0 rfl (lv_at hl 3 rfl) ?_
  refine lv_iconst (v := 0) hx hb dL_change_1 (by decide) ?_
  refine lv_aload_n hx hb dL_change_2 rfl (lv_at hl 0 rfl) ?_
  refine lv_iload_n hx hb dL_change_3 rfl (lv_at hl 1 rfl) ?_
  refine lv_iload_n hx hb dL_change_4 rfl (lv_at hl 2 rfl) ?_
  refine kxm_Vi (As := [.int p1, .int p2]) (rest := [.int 0, .ref o]) (n1 := 0) (n2 := 33) (n3 := 1) (wl := []) (wc := wc) (wr := [(o, .inl (cyJ, 1, .inr (.inl fJ)))]) rfl l1 rfl (by decide +kernel) hM ⟨hx, hb, hml, hown, hts⟩ (cwV 2 hts gL_change_X4_change rfl rfl rfl (by decide +kernel) ⟨Nat.le_of_ble_eq_true rfl, Nat.le_of_ble_eq_true rfl⟩) hK2 hY.1 hP hD hS hA h0 rfl rfl rfl hl.1 rfl (Nat.le_of_ble_eq_true rfl) dL_change_5 ⟨Nat.le_of_ble_eq_true rfl, Nat.le_of_ble_eq_true rfl⟩ (fun q9 ce H locs hP hD hS hce hv hcl => ?_)
  have hP : va_P D vwCl (wc ++ [(o, .inl (cyJ, 1, .inr (.inl fJ)))]) H := hP
  have hD : va_D A (wc ++ [(o, .inl (cyJ, 1, .inr (.inl fJ)))]) := hD
  unfold cdIA at hc
  by_cases cx : x = 0
  · rw [if_pos cx] at hc
    obtain rfl := Option.some.inj hc
    subst cx
    refine vx_catch (own := RL) (name := "java/lang/IndexOutOfBoundsException") (E := kIOB) hown [] ⟨0, 10, 13, 19⟩ [⟨0, 10, 17, 21⟩] htab (fun z hz => by cases hz) rfl (by decide) kl19 (kcast hY (by decide +kernel)) hce hv hcl ?_
    refine lv_astore (lv' := [(4, .ref q9), (0, .ref b), (1, .int p1), (2, .int p2), (3, .ref o)]) hx hb dL_change_13 hl (by decide) rfl (fun ls hl => ?_)
    refine lv_iconst (v := 1) hx hb dL_change_15 (by decide) ?_
    exact ret _ _ _ _ dL_change_16 hP hD hS
  rw [if_neg cx] at hc
  by_cases cx : x = 1
  · rw [if_pos cx] at hc
    obtain rfl := Option.some.inj hc
    subst cx
    refine vx_catch (own := RL) (name := "java/lang/IllegalArgumentException") (E := kIAE) hown [⟨0, 10, 13, 19⟩] ⟨0, 10, 17, 21⟩ [] htab (fun z hz => by
        obtain rfl := List.mem_singleton.mp hz
        exact Or.inr ⟨by decide, "java/lang/IndexOutOfBoundsException", kl19, hY.2 (kIAE, kIOB) (by decide +kernel)⟩) rfl (by decide) kl21 (kcast hY (by decide +kernel)) hce hv hcl ?_
    refine lv_astore (lv' := [(4, .ref q9), (0, .ref b), (1, .int p1), (2, .int p2), (3, .ref o)]) hx hb dL_change_17 hl (by decide) rfl (fun ls hl => ?_)
    refine lv_iconst (v := 2) hx hb dL_change_19 (by decide) ?_
    exact ret _ _ _ _ dL_change_20 hP hD hS
  rw [if_neg cx] at hc
  cases hc
abbrev rwL_cut : Room := { frames := 7, cells := 1, slots := 6, locals := 105 }
set_option maxHeartbeats 4000000 in
set_option maxRecDepth 100000 in
theorem w_cut (l : Launch) (D : va_G) (cyI cyZ cyJ : ClassId) (b o : Nat) (wc w1 : va_W) (fJ : Nat → Int64) (p1 : Int32) (fs : List Value) {r : Int32} (hM : kMi l yX4_cut wsX4_cut rmX4_cut (.ref b :: [.int p1]) D wc w1 (kT cyI cyZ) r 0 0) (l1 : wc.length = 33) (l2 : w1.length = 33) (h0 : wc[0]? = some (b, .inr (4, fs))) : kWi l yL_cut wsL_cut rwL_cut [.ref b, .int p1, .ref o] D (wc ++ [(o, .inl (cyJ, 1, .inr (.inl fJ)))]) (w1 ++ [(o, .inl (cyJ, 1, .inr (.inl (vp_updL fJ 0 r.toInt64))))]) (kT3 cyI cyZ cyJ) 0 1 6 := by
  refine kOf_w (cc := cL_cut) (maxL := 4) (hh := [(0, 9, 12, 21)]) (by decide +kernel) rfl (Nat.le_of_ble_eq_true rfl) ?_
  intro p e s m args below meth c A Z ls C0 htab hY hP hK hD hA hl ret
  obtain ⟨hx, hb, hr, hml, hown, hts, hlocks⟩ := C0
  have hown : s.vm.findClass RL = some m.cls := hown
  have hl : lv_has ls 4 [(0, .ref b), (1, .int p1), (2, .ref o)] := hl
  have hS : va_S A s.heap s.heap [] := va_S.rf
  have hK2 : va_K D vwCl (kT cyI cyZ) s := hK.sub [0, 1] rfl
  have hP : va_P D vwCl ([] ++ (wc ++ [(o, .inl (cyJ, 1, .inr (.inl fJ)))])) s.heap := hP
  have hD : va_D A ([] ++ (wc ++ [(o, .inl (cyJ, 1, .inr (.inl fJ)))])) := hD
  refine lv_aload_n hx hb dL_cut_0 rfl (lv_at hl 2 rfl) ?_
  refine lv_iconst (v := 0) hx hb dL_cut_1 (by decide) ?_
  refine lv_aload_n hx hb dL_cut_2 rfl (lv_at hl 0 rfl) ?_
  refine lv_iload_n hx hb dL_cut_3 rfl (lv_at hl 1 rfl) ?_
  refine kcm_Vi (As := [.int p1]) (rest := [.int 0, .ref o]) (n1 := 0) (n2 := 33) (n3 := 1) (wl := []) (wc := wc) (w1 := w1) (wr := [(o, .inl (cyJ, 1, .inr (.inl fJ)))]) rfl l1 l2 rfl (by decide +kernel) hM ⟨hx, hb, hml, hown, hts⟩ (cwV 1 hts gL_cut_X4_cut rfl rfl rfl (by decide +kernel) ⟨Nat.le_of_ble_eq_true rfl, Nat.le_of_ble_eq_true rfl⟩) hK2 hP hD hS hA h0 rfl rfl rfl hl.1 rfl (Nat.le_of_ble_eq_true rfl) dL_cut_4 ⟨Nat.le_of_ble_eq_true rfl, Nat.le_of_ble_eq_true rfl⟩ (fun H locs hP hD hS => ?_)
  have hP : va_P D vwCl (w1 ++ [(o, .inl (cyJ, 1, .inr (.inl fJ)))]) H := hP
  have hD : va_D A (w1 ++ [(o, .inl (cyJ, 1, .inr (.inl fJ)))]) := hD
  refine lv_i2l hx hb dL_cut_7 rfl ?_
  refine va_last (f := fJ) hx hb hK hP hD hS 33 2 (lastAt l2) rfl vin01 dL_cut_8 (fun H locs hP hD hS => ?_)
  rw [lastSet l2] at hP hD
  refine lv_goto (tgt := 15) hx hb dL_cut_9 (by decide) ?_
  refine lv_iconst (v := 0) hx hb dL_cut_15 (by decide) ?_
  refine W.widen (k := 1) (n := 6) (Nat.le_of_ble_eq_true rfl) (Nat.le_of_ble_eq_true rfl) ?_
  exact ret _ _ _ _ dL_cut_16 hP hD hS
set_option maxHeartbeats 4000000 in
set_option maxRecDepth 100000 in
theorem v_cut (l : Launch) (D : va_G) (cyI cyZ cyJ : ClassId) (b o : Nat) (wc : va_W) (fJ : Nat → Int64) (p1 : Int32) (fs : List Value) {x : Nat} {k : Int32} (hM : kMxi l yX4_cut wsX4_cut rxX4_cut (.ref b :: [.int p1]) D wc (kT cyI cyZ) x 1 6) (l1 : wc.length = 33) (h0 : wc[0]? = some (b, .inr (4, fs))) (hc : cdA x = some k) : kWi l yL_cut wsL_cut rwL_cut [.ref b, .int p1, .ref o] D (wc ++ [(o, .inl (cyJ, 1, .inr (.inl fJ)))]) (wc ++ [(o, .inl (cyJ, 1, .inr (.inl fJ)))]) (kT3 cyI cyZ cyJ) k 1 6 := by
  refine kOf_w (cc := cL_cut) (maxL := 4) (hh := [(0, 9, 12, 21)]) (by decide +kernel) rfl (Nat.le_of_ble_eq_true rfl) ?_
  intro p e s m args below meth c A Z ls C0 htab hY hP hK hD hA hl ret
  obtain ⟨hx, hb, hr, hml, hown, hts, hlocks⟩ := C0
  have hown : s.vm.findClass RL = some m.cls := hown
  have hl : lv_has ls 4 [(0, .ref b), (1, .int p1), (2, .ref o)] := hl
  have hS : va_S A s.heap s.heap [] := va_S.rf
  have hK2 : va_K D vwCl (kT cyI cyZ) s := hK.sub [0, 1] rfl
  have hP : va_P D vwCl ([] ++ (wc ++ [(o, .inl (cyJ, 1, .inr (.inl fJ)))])) s.heap := hP
  have hD : va_D A ([] ++ (wc ++ [(o, .inl (cyJ, 1, .inr (.inl fJ)))])) := hD
  have kl21 : (Cond.classLink RL 21 "java/lang/IllegalArgumentException").before args s = true := hts _ (by decide +kernel)
  refine lv_aload_n hx hb dL_cut_0 rfl (lv_at hl 2 rfl) ?_
  refine lv_iconst (v := 0) hx hb dL_cut_1 (by decide) ?_
  refine lv_aload_n hx hb dL_cut_2 rfl (lv_at hl 0 rfl) ?_
  refine lv_iload_n hx hb dL_cut_3 rfl (lv_at hl 1 rfl) ?_
  refine kxm_Vi (As := [.int p1]) (rest := [.int 0, .ref o]) (n1 := 0) (n2 := 33) (n3 := 1) (wl := []) (wc := wc) (wr := [(o, .inl (cyJ, 1, .inr (.inl fJ)))]) rfl l1 rfl (by decide +kernel) hM ⟨hx, hb, hml, hown, hts⟩ (cwV 1 hts gL_cut_X4_cut rfl rfl rfl (by decide +kernel) ⟨Nat.le_of_ble_eq_true rfl, Nat.le_of_ble_eq_true rfl⟩) hK2 hY.1 hP hD hS hA h0 rfl rfl rfl hl.1 rfl (Nat.le_of_ble_eq_true rfl) dL_cut_4 ⟨Nat.le_of_ble_eq_true rfl, Nat.le_of_ble_eq_true rfl⟩ (fun q9 ce H locs hP hD hS hce hv hcl => ?_)
  have hP : va_P D vwCl (wc ++ [(o, .inl (cyJ, 1, .inr (.inl fJ)))]) H := hP
  have hD : va_D A (wc ++ [(o, .inl (cyJ, 1, .inr (.inl fJ)))]) := hD
  unfold cdA at hc
  by_cases cx : x = 1
  · rw [if_pos cx] at hc
    obtain rfl := Option.some.inj hc
    subst cx
    refine vx_catch (own := RL) (name := "java/lang/IllegalArgumentException") (E := kIAE) hown [] ⟨0, 9, 12, 21⟩ [] htab (fun z hz => by cases hz) rfl (by decide) kl21 (kcast hY (by decide +kernel)) hce hv hcl ?_
    refine lv_astore_n (lv' := [(3, .ref q9), (0, .ref b), (1, .int p1), (2, .ref o)]) hx hb dL_cut_12 rfl hl (by decide) rfl (fun ls hl => ?_)
    refine lv_iconst (v := 1) hx hb dL_cut_13 (by decide) ?_
    exact ret _ _ _ _ dL_cut_14 hP hD hS
  rw [if_neg cx] at hc
  cases hc
abbrev rwL_kind : Room := { frames := 8, cells := 1, slots := 6, locals := 124 }
set_option maxHeartbeats 4000000 in
set_option maxRecDepth 100000 in
theorem w_kind (l : Launch) (D : va_G) (cyI cyZ cyJ : ClassId) (b o : Nat) (wc w1 : va_W) (fJ : Nat → Int64) (p1 : Int32) (fs : List Value) {r : Int32} (hM : kMi l yX4_kind wsX4_kind rmX4_kind (.ref b :: [.int p1]) D wc w1 (kT cyI cyZ) r 0 0) (l1 : wc.length = 33) (l2 : w1.length = 33) (h0 : wc[0]? = some (b, .inr (4, fs))) : kWi l yL_kind wsL_kind rwL_kind [.ref b, .int p1, .ref o] D (wc ++ [(o, .inl (cyJ, 1, .inr (.inl fJ)))]) (w1 ++ [(o, .inl (cyJ, 1, .inr (.inl (vp_updL fJ 0 r.toInt64))))]) (kT3 cyI cyZ cyJ) 0 1 6 := by
  refine kOf_w (cc := cL_kind) (maxL := 4) (hh := [(0, 9, 12, 19)]) (by decide +kernel) rfl (Nat.le_of_ble_eq_true rfl) ?_
  intro p e s m args below meth c A Z ls C0 htab hY hP hK hD hA hl ret
  obtain ⟨hx, hb, hr, hml, hown, hts, hlocks⟩ := C0
  have hown : s.vm.findClass RL = some m.cls := hown
  have hl : lv_has ls 4 [(0, .ref b), (1, .int p1), (2, .ref o)] := hl
  have hS : va_S A s.heap s.heap [] := va_S.rf
  have hK2 : va_K D vwCl (kT cyI cyZ) s := hK.sub [0, 1] rfl
  have hP : va_P D vwCl ([] ++ (wc ++ [(o, .inl (cyJ, 1, .inr (.inl fJ)))])) s.heap := hP
  have hD : va_D A ([] ++ (wc ++ [(o, .inl (cyJ, 1, .inr (.inl fJ)))])) := hD
  refine lv_aload_n hx hb dL_kind_0 rfl (lv_at hl 2 rfl) ?_
  refine lv_iconst (v := 0) hx hb dL_kind_1 (by decide) ?_
  refine lv_aload_n hx hb dL_kind_2 rfl (lv_at hl 0 rfl) ?_
  refine lv_iload_n hx hb dL_kind_3 rfl (lv_at hl 1 rfl) ?_
  refine kcm_Vi (As := [.int p1]) (rest := [.int 0, .ref o]) (n1 := 0) (n2 := 33) (n3 := 1) (wl := []) (wc := wc) (w1 := w1) (wr := [(o, .inl (cyJ, 1, .inr (.inl fJ)))]) rfl l1 l2 rfl (by decide +kernel) hM ⟨hx, hb, hml, hown, hts⟩ (cwV 1 hts gL_kind_X4_kind rfl rfl rfl (by decide +kernel) ⟨Nat.le_of_ble_eq_true rfl, Nat.le_of_ble_eq_true rfl⟩) hK2 hP hD hS hA h0 rfl rfl rfl hl.1 rfl (Nat.le_of_ble_eq_true rfl) dL_kind_4 ⟨Nat.le_of_ble_eq_true rfl, Nat.le_of_ble_eq_true rfl⟩ (fun H locs hP hD hS => ?_)
  have hP : va_P D vwCl (w1 ++ [(o, .inl (cyJ, 1, .inr (.inl fJ)))]) H := hP
  have hD : va_D A (w1 ++ [(o, .inl (cyJ, 1, .inr (.inl fJ)))]) := hD
  refine lv_i2l hx hb dL_kind_7 rfl ?_
  refine va_last (f := fJ) hx hb hK hP hD hS 33 2 (lastAt l2) rfl vin01 dL_kind_8 (fun H locs hP hD hS => ?_)
  rw [lastSet l2] at hP hD
  refine lv_goto (tgt := 15) hx hb dL_kind_9 (by decide) ?_
  refine lv_iconst (v := 0) hx hb dL_kind_15 (by decide) ?_
  refine W.widen (k := 1) (n := 6) (Nat.le_of_ble_eq_true rfl) (Nat.le_of_ble_eq_true rfl) ?_
  exact ret _ _ _ _ dL_kind_16 hP hD hS
set_option maxHeartbeats 4000000 in
set_option maxRecDepth 100000 in
theorem v_kind (l : Launch) (D : va_G) (cyI cyZ cyJ : ClassId) (b o : Nat) (wc : va_W) (fJ : Nat → Int64) (p1 : Int32) (fs : List Value) {x : Nat} {k : Int32} (hM : kMxi l yX4_kind wsX4_kind rxX4_kind (.ref b :: [.int p1]) D wc (kT cyI cyZ) x 1 6) (l1 : wc.length = 33) (h0 : wc[0]? = some (b, .inr (4, fs))) (hc : cdI x = some k) : kWi l yL_kind wsL_kind rwL_kind [.ref b, .int p1, .ref o] D (wc ++ [(o, .inl (cyJ, 1, .inr (.inl fJ)))]) (wc ++ [(o, .inl (cyJ, 1, .inr (.inl fJ)))]) (kT3 cyI cyZ cyJ) k 1 6 := by
  refine kOf_w (cc := cL_kind) (maxL := 4) (hh := [(0, 9, 12, 19)]) (by decide +kernel) rfl (Nat.le_of_ble_eq_true rfl) ?_
  intro p e s m args below meth c A Z ls C0 htab hY hP hK hD hA hl ret
  obtain ⟨hx, hb, hr, hml, hown, hts, hlocks⟩ := C0
  have hown : s.vm.findClass RL = some m.cls := hown
  have hl : lv_has ls 4 [(0, .ref b), (1, .int p1), (2, .ref o)] := hl
  have hS : va_S A s.heap s.heap [] := va_S.rf
  have hK2 : va_K D vwCl (kT cyI cyZ) s := hK.sub [0, 1] rfl
  have hP : va_P D vwCl ([] ++ (wc ++ [(o, .inl (cyJ, 1, .inr (.inl fJ)))])) s.heap := hP
  have hD : va_D A ([] ++ (wc ++ [(o, .inl (cyJ, 1, .inr (.inl fJ)))])) := hD
  have kl19 : (Cond.classLink RL 19 "java/lang/IndexOutOfBoundsException").before args s = true := hts _ (by decide +kernel)
  refine lv_aload_n hx hb dL_kind_0 rfl (lv_at hl 2 rfl) ?_
  refine lv_iconst (v := 0) hx hb dL_kind_1 (by decide) ?_
  refine lv_aload_n hx hb dL_kind_2 rfl (lv_at hl 0 rfl) ?_
  refine lv_iload_n hx hb dL_kind_3 rfl (lv_at hl 1 rfl) ?_
  refine kxm_Vi (As := [.int p1]) (rest := [.int 0, .ref o]) (n1 := 0) (n2 := 33) (n3 := 1) (wl := []) (wc := wc) (wr := [(o, .inl (cyJ, 1, .inr (.inl fJ)))]) rfl l1 rfl (by decide +kernel) hM ⟨hx, hb, hml, hown, hts⟩ (cwV 1 hts gL_kind_X4_kind rfl rfl rfl (by decide +kernel) ⟨Nat.le_of_ble_eq_true rfl, Nat.le_of_ble_eq_true rfl⟩) hK2 hY.1 hP hD hS hA h0 rfl rfl rfl hl.1 rfl (Nat.le_of_ble_eq_true rfl) dL_kind_4 ⟨Nat.le_of_ble_eq_true rfl, Nat.le_of_ble_eq_true rfl⟩ (fun q9 ce H locs hP hD hS hce hv hcl => ?_)
  have hP : va_P D vwCl (wc ++ [(o, .inl (cyJ, 1, .inr (.inl fJ)))]) H := hP
  have hD : va_D A (wc ++ [(o, .inl (cyJ, 1, .inr (.inl fJ)))]) := hD
  unfold cdI at hc
  by_cases cx : x = 0
  · rw [if_pos cx] at hc
    obtain rfl := Option.some.inj hc
    subst cx
    refine vx_catch (own := RL) (name := "java/lang/IndexOutOfBoundsException") (E := kIOB) hown [] ⟨0, 9, 12, 19⟩ [] htab (fun z hz => by cases hz) rfl (by decide) kl19 (kcast hY (by decide +kernel)) hce hv hcl ?_
    refine lv_astore_n (lv' := [(3, .ref q9), (0, .ref b), (1, .int p1), (2, .ref o)]) hx hb dL_kind_12 rfl hl (by decide) rfl (fun ls hl => ?_)
    refine lv_iconst (v := 1) hx hb dL_kind_13 (by decide) ?_
    exact ret _ _ _ _ dL_kind_14 hP hD hS
  rw [if_neg cx] at hc
  cases hc
abbrev rwL_counts : Room := { frames := 8, cells := 1, slots := 6, locals := 124 }
set_option maxHeartbeats 4000000 in
set_option maxRecDepth 100000 in
theorem w_counts (l : Launch) (D : va_G) (cyI cyZ cyJ : ClassId) (b o : Nat) (wc w1 : va_W) (fJ : Nat → Int64) (p1 : Int32) (fs : List Value) {r : Int32} (hM : kMi l yX4_counts wsX4_counts rmX4_counts (.ref b :: [.int p1]) D wc w1 (kT cyI cyZ) r 0 0) (l1 : wc.length = 33) (l2 : w1.length = 33) (h0 : wc[0]? = some (b, .inr (4, fs))) : kWi l yL_counts wsL_counts rwL_counts [.ref b, .int p1, .ref o] D (wc ++ [(o, .inl (cyJ, 1, .inr (.inl fJ)))]) (w1 ++ [(o, .inl (cyJ, 1, .inr (.inl (vp_updL fJ 0 (if r = 0 then 0 else 1)))))]) (kT3 cyI cyZ cyJ) 0 1 6 := by
  refine kOf_w (cc := cL_counts) (maxL := 4) (hh := [(0, 16, 19, 19)]) (by decide +kernel) rfl (Nat.le_of_ble_eq_true rfl) ?_
  intro p e s m args below meth c A Z ls C0 htab hY hP hK hD hA hl ret
  obtain ⟨hx, hb, hr, hml, hown, hts, hlocks⟩ := C0
  have hown : s.vm.findClass RL = some m.cls := hown
  have hl : lv_has ls 4 [(0, .ref b), (1, .int p1), (2, .ref o)] := hl
  have hS : va_S A s.heap s.heap [] := va_S.rf
  have hK2 : va_K D vwCl (kT cyI cyZ) s := hK.sub [0, 1] rfl
  have hP : va_P D vwCl ([] ++ (wc ++ [(o, .inl (cyJ, 1, .inr (.inl fJ)))])) s.heap := hP
  have hD : va_D A ([] ++ (wc ++ [(o, .inl (cyJ, 1, .inr (.inl fJ)))])) := hD
  refine lv_aload_n hx hb dL_counts_0 rfl (lv_at hl 2 rfl) ?_
  refine lv_iconst (v := 0) hx hb dL_counts_1 (by decide) ?_
  refine lv_aload_n hx hb dL_counts_2 rfl (lv_at hl 0 rfl) ?_
  refine lv_iload_n hx hb dL_counts_3 rfl (lv_at hl 1 rfl) ?_
  refine kcm_Vi (As := [.int p1]) (rest := [.int 0, .ref o]) (n1 := 0) (n2 := 33) (n3 := 1) (wl := []) (wc := wc) (w1 := w1) (wr := [(o, .inl (cyJ, 1, .inr (.inl fJ)))]) rfl l1 l2 rfl (by decide +kernel) hM ⟨hx, hb, hml, hown, hts⟩ (cwV 1 hts gL_counts_X4_counts rfl rfl rfl (by decide +kernel) ⟨Nat.le_of_ble_eq_true rfl, Nat.le_of_ble_eq_true rfl⟩) hK2 hP hD hS hA h0 rfl rfl rfl hl.1 rfl (Nat.le_of_ble_eq_true rfl) dL_counts_4 ⟨Nat.le_of_ble_eq_true rfl, Nat.le_of_ble_eq_true rfl⟩ (fun H locs hP hD hS => ?_)
  have hP : va_P D vwCl (w1 ++ [(o, .inl (cyJ, 1, .inr (.inl fJ)))]) H := hP
  have hD : va_D A (w1 ++ [(o, .inl (cyJ, 1, .inr (.inl fJ)))]) := hD
  refine lv_if_eq (tgt := 14) hx hb dL_counts_7 (by decide) (fun c0 => ?_) (fun c0 => ?_)
  · rw [if_pos c0] at ret
    refine lv_lconst (v := 0) hx hb dL_counts_14 (by decide) ?_
    refine va_last (f := fJ) hx hb hK hP hD hS 33 2 (lastAt l2) rfl vin01 dL_counts_15 (fun H locs hP hD hS => ?_)
    rw [lastSet l2] at hP hD
    refine lv_goto (tgt := 22) hx hb dL_counts_16 (by decide) ?_
    refine lv_iconst (v := 0) hx hb dL_counts_22 (by decide) ?_
    refine W.widen (k := 1) (n := 6) (Nat.le_of_ble_eq_true rfl) (Nat.le_of_ble_eq_true rfl) ?_
    exact ret _ _ _ _ dL_counts_23 hP hD hS
  · rw [if_neg c0] at ret
    refine lv_lconst (v := 1) hx hb dL_counts_10 (by decide) ?_
    refine lv_goto (tgt := 15) hx hb dL_counts_11 (by decide) ?_
    refine va_last (f := fJ) hx hb hK hP hD hS 33 2 (lastAt l2) rfl vin01 dL_counts_15 (fun H locs hP hD hS => ?_)
    rw [lastSet l2] at hP hD
    refine lv_goto (tgt := 22) hx hb dL_counts_16 (by decide) ?_
    refine lv_iconst (v := 0) hx hb dL_counts_22 (by decide) ?_
    refine W.widen (k := 1) (n := 6) (Nat.le_of_ble_eq_true rfl) (Nat.le_of_ble_eq_true rfl) ?_
    exact ret _ _ _ _ dL_counts_23 hP hD hS
set_option maxHeartbeats 4000000 in
set_option maxRecDepth 100000 in
theorem v_counts (l : Launch) (D : va_G) (cyI cyZ cyJ : ClassId) (b o : Nat) (wc : va_W) (fJ : Nat → Int64) (p1 : Int32) (fs : List Value) {x : Nat} {k : Int32} (hM : kMxi l yX4_counts wsX4_counts rxX4_counts (.ref b :: [.int p1]) D wc (kT cyI cyZ) x 1 6) (l1 : wc.length = 33) (h0 : wc[0]? = some (b, .inr (4, fs))) (hc : cdI x = some k) : kWi l yL_counts wsL_counts rwL_counts [.ref b, .int p1, .ref o] D (wc ++ [(o, .inl (cyJ, 1, .inr (.inl fJ)))]) (wc ++ [(o, .inl (cyJ, 1, .inr (.inl fJ)))]) (kT3 cyI cyZ cyJ) k 1 6 := by
  refine kOf_w (cc := cL_counts) (maxL := 4) (hh := [(0, 16, 19, 19)]) (by decide +kernel) rfl (Nat.le_of_ble_eq_true rfl) ?_
  intro p e s m args below meth c A Z ls C0 htab hY hP hK hD hA hl ret
  obtain ⟨hx, hb, hr, hml, hown, hts, hlocks⟩ := C0
  have hown : s.vm.findClass RL = some m.cls := hown
  have hl : lv_has ls 4 [(0, .ref b), (1, .int p1), (2, .ref o)] := hl
  have hS : va_S A s.heap s.heap [] := va_S.rf
  have hK2 : va_K D vwCl (kT cyI cyZ) s := hK.sub [0, 1] rfl
  have hP : va_P D vwCl ([] ++ (wc ++ [(o, .inl (cyJ, 1, .inr (.inl fJ)))])) s.heap := hP
  have hD : va_D A ([] ++ (wc ++ [(o, .inl (cyJ, 1, .inr (.inl fJ)))])) := hD
  have kl19 : (Cond.classLink RL 19 "java/lang/IndexOutOfBoundsException").before args s = true := hts _ (by decide +kernel)
  refine lv_aload_n hx hb dL_counts_0 rfl (lv_at hl 2 rfl) ?_
  refine lv_iconst (v := 0) hx hb dL_counts_1 (by decide) ?_
  refine lv_aload_n hx hb dL_counts_2 rfl (lv_at hl 0 rfl) ?_
  refine lv_iload_n hx hb dL_counts_3 rfl (lv_at hl 1 rfl) ?_
  refine kxm_Vi (As := [.int p1]) (rest := [.int 0, .ref o]) (n1 := 0) (n2 := 33) (n3 := 1) (wl := []) (wc := wc) (wr := [(o, .inl (cyJ, 1, .inr (.inl fJ)))]) rfl l1 rfl (by decide +kernel) hM ⟨hx, hb, hml, hown, hts⟩ (cwV 1 hts gL_counts_X4_counts rfl rfl rfl (by decide +kernel) ⟨Nat.le_of_ble_eq_true rfl, Nat.le_of_ble_eq_true rfl⟩) hK2 hY.1 hP hD hS hA h0 rfl rfl rfl hl.1 rfl (Nat.le_of_ble_eq_true rfl) dL_counts_4 ⟨Nat.le_of_ble_eq_true rfl, Nat.le_of_ble_eq_true rfl⟩ (fun q9 ce H locs hP hD hS hce hv hcl => ?_)
  have hP : va_P D vwCl (wc ++ [(o, .inl (cyJ, 1, .inr (.inl fJ)))]) H := hP
  have hD : va_D A (wc ++ [(o, .inl (cyJ, 1, .inr (.inl fJ)))]) := hD
  unfold cdI at hc
  by_cases cx : x = 0
  · rw [if_pos cx] at hc
    obtain rfl := Option.some.inj hc
    subst cx
    refine vx_catch (own := RL) (name := "java/lang/IndexOutOfBoundsException") (E := kIOB) hown [] ⟨0, 16, 19, 19⟩ [] htab (fun z hz => by cases hz) rfl (by decide) kl19 (kcast hY (by decide +kernel)) hce hv hcl ?_
    refine lv_astore_n (lv' := [(3, .ref q9), (0, .ref b), (1, .int p1), (2, .ref o)]) hx hb dL_counts_19 rfl hl (by decide) rfl (fun ls hl => ?_)
    refine lv_iconst (v := 1) hx hb dL_counts_20 (by decide) ?_
    exact ret _ _ _ _ dL_counts_21 hP hD hS
  rw [if_neg cx] at hc
  cases hc
abbrev rwL_nextUse : Room := { frames := 8, cells := 1, slots := 6, locals := 125 }
set_option maxHeartbeats 4000000 in
set_option maxRecDepth 100000 in
theorem w_nextUse (l : Launch) (D : va_G) (cyI cyZ cyJ : ClassId) (b o : Nat) (wc w1 : va_W) (fJ : Nat → Int64) (p1 : Int32) (p2 : Int32) (fs : List Value) {r : Int32} (hM : kMi l yX4_nextUse wsX4_nextUse rmX4_nextUse (.ref b :: [.int p1, .int p2]) D wc w1 (kT cyI cyZ) r 0 0) (l1 : wc.length = 33) (l2 : w1.length = 33) (h0 : wc[0]? = some (b, .inr (4, fs))) : kWi l yL_nextUse wsL_nextUse rwL_nextUse [.ref b, .int p1, .int p2, .ref o] D (wc ++ [(o, .inl (cyJ, 1, .inr (.inl fJ)))]) (w1 ++ [(o, .inl (cyJ, 1, .inr (.inl (vp_updL fJ 0 r.toInt64))))]) (kT3 cyI cyZ cyJ) 0 1 6 := by
  refine kOf_w (cc := cL_nextUse) (maxL := 5) (hh := [(0, 10, 13, 19)]) (by decide +kernel) rfl (Nat.le_of_ble_eq_true rfl) ?_
  intro p e s m args below meth c A Z ls C0 htab hY hP hK hD hA hl ret
  obtain ⟨hx, hb, hr, hml, hown, hts, hlocks⟩ := C0
  have hown : s.vm.findClass RL = some m.cls := hown
  have hl : lv_has ls 5 [(0, .ref b), (1, .int p1), (2, .int p2), (3, .ref o)] := hl
  have hS : va_S A s.heap s.heap [] := va_S.rf
  have hK2 : va_K D vwCl (kT cyI cyZ) s := hK.sub [0, 1] rfl
  have hP : va_P D vwCl ([] ++ (wc ++ [(o, .inl (cyJ, 1, .inr (.inl fJ)))])) s.heap := hP
  have hD : va_D A ([] ++ (wc ++ [(o, .inl (cyJ, 1, .inr (.inl fJ)))])) := hD
  refine lv_aload_n hx hb dL_nextUse_0 rfl (lv_at hl 3 rfl) ?_
  refine lv_iconst (v := 0) hx hb dL_nextUse_1 (by decide) ?_
  refine lv_aload_n hx hb dL_nextUse_2 rfl (lv_at hl 0 rfl) ?_
  refine lv_iload_n hx hb dL_nextUse_3 rfl (lv_at hl 1 rfl) ?_
  refine lv_iload_n hx hb dL_nextUse_4 rfl (lv_at hl 2 rfl) ?_
  refine kcm_Vi (As := [.int p1, .int p2]) (rest := [.int 0, .ref o]) (n1 := 0) (n2 := 33) (n3 := 1) (wl := []) (wc := wc) (w1 := w1) (wr := [(o, .inl (cyJ, 1, .inr (.inl fJ)))]) rfl l1 l2 rfl (by decide +kernel) hM ⟨hx, hb, hml, hown, hts⟩ (cwV 2 hts gL_nextUse_X4_nextUse rfl rfl rfl (by decide +kernel) ⟨Nat.le_of_ble_eq_true rfl, Nat.le_of_ble_eq_true rfl⟩) hK2 hP hD hS hA h0 rfl rfl rfl hl.1 rfl (Nat.le_of_ble_eq_true rfl) dL_nextUse_5 ⟨Nat.le_of_ble_eq_true rfl, Nat.le_of_ble_eq_true rfl⟩ (fun H locs hP hD hS => ?_)
  have hP : va_P D vwCl (w1 ++ [(o, .inl (cyJ, 1, .inr (.inl fJ)))]) H := hP
  have hD : va_D A (w1 ++ [(o, .inl (cyJ, 1, .inr (.inl fJ)))]) := hD
  refine lv_i2l hx hb dL_nextUse_8 rfl ?_
  refine va_last (f := fJ) hx hb hK hP hD hS 33 2 (lastAt l2) rfl vin01 dL_nextUse_9 (fun H locs hP hD hS => ?_)
  rw [lastSet l2] at hP hD
  refine lv_goto (tgt := 17) hx hb dL_nextUse_10 (by decide) ?_
  refine lv_iconst (v := 0) hx hb dL_nextUse_17 (by decide) ?_
  refine W.widen (k := 1) (n := 6) (Nat.le_of_ble_eq_true rfl) (Nat.le_of_ble_eq_true rfl) ?_
  exact ret _ _ _ _ dL_nextUse_18 hP hD hS
set_option maxHeartbeats 4000000 in
set_option maxRecDepth 100000 in
theorem v_nextUse (l : Launch) (D : va_G) (cyI cyZ cyJ : ClassId) (b o : Nat) (wc : va_W) (fJ : Nat → Int64) (p1 : Int32) (p2 : Int32) (fs : List Value) {x : Nat} {k : Int32} (hM : kMxi l yX4_nextUse wsX4_nextUse rxX4_nextUse (.ref b :: [.int p1, .int p2]) D wc (kT cyI cyZ) x 1 6) (l1 : wc.length = 33) (h0 : wc[0]? = some (b, .inr (4, fs))) (hc : cdI x = some k) : kWi l yL_nextUse wsL_nextUse rwL_nextUse [.ref b, .int p1, .int p2, .ref o] D (wc ++ [(o, .inl (cyJ, 1, .inr (.inl fJ)))]) (wc ++ [(o, .inl (cyJ, 1, .inr (.inl fJ)))]) (kT3 cyI cyZ cyJ) k 1 6 := by
  refine kOf_w (cc := cL_nextUse) (maxL := 5) (hh := [(0, 10, 13, 19)]) (by decide +kernel) rfl (Nat.le_of_ble_eq_true rfl) ?_
  intro p e s m args below meth c A Z ls C0 htab hY hP hK hD hA hl ret
  obtain ⟨hx, hb, hr, hml, hown, hts, hlocks⟩ := C0
  have hown : s.vm.findClass RL = some m.cls := hown
  have hl : lv_has ls 5 [(0, .ref b), (1, .int p1), (2, .int p2), (3, .ref o)] := hl
  have hS : va_S A s.heap s.heap [] := va_S.rf
  have hK2 : va_K D vwCl (kT cyI cyZ) s := hK.sub [0, 1] rfl
  have hP : va_P D vwCl ([] ++ (wc ++ [(o, .inl (cyJ, 1, .inr (.inl fJ)))])) s.heap := hP
  have hD : va_D A ([] ++ (wc ++ [(o, .inl (cyJ, 1, .inr (.inl fJ)))])) := hD
  have kl19 : (Cond.classLink RL 19 "java/lang/IndexOutOfBoundsException").before args s = true := hts _ (by decide +kernel)
  refine lv_aload_n hx hb dL_nextUse_0 rfl (lv_at hl 3 rfl) ?_
  refine lv_iconst (v := 0) hx hb dL_nextUse_1 (by decide) ?_
  refine lv_aload_n hx hb dL_nextUse_2 rfl (lv_at hl 0 rfl) ?_
  refine lv_iload_n hx hb dL_nextUse_3 rfl (lv_at hl 1 rfl) ?_
  refine lv_iload_n hx hb dL_nextUse_4 rfl (lv_at hl 2 rfl) ?_
  refine kxm_Vi (As := [.int p1, .int p2]) (rest := [.int 0, .ref o]) (n1 := 0) (n2 := 33) (n3 := 1) (wl := []) (wc := wc) (wr := [(o, .inl (cyJ, 1, .inr (.inl fJ)))]) rfl l1 rfl (by decide +kernel) hM ⟨hx, hb, hml, hown, hts⟩ (cwV 2 hts gL_nextUse_X4_nextUse rfl rfl rfl (by decide +kernel) ⟨Nat.le_of_ble_eq_true rfl, Nat.le_of_ble_eq_true rfl⟩) hK2 hY.1 hP hD hS hA h0 rfl rfl rfl hl.1 rfl (Nat.le_of_ble_eq_true rfl) dL_nextUse_5 ⟨Nat.le_of_ble_eq_true rfl, Nat.le_of_ble_eq_true rfl⟩ (fun q9 ce H locs hP hD hS hce hv hcl => ?_)
  have hP : va_P D vwCl (wc ++ [(o, .inl (cyJ, 1, .inr (.inl fJ)))]) H := hP
  have hD : va_D A (wc ++ [(o, .inl (cyJ, 1, .inr (.inl fJ)))]) := hD
  unfold cdI at hc
  by_cases cx : x = 0
  · rw [if_pos cx] at hc
    obtain rfl := Option.some.inj hc
    subst cx
    refine vx_catch (own := RL) (name := "java/lang/IndexOutOfBoundsException") (E := kIOB) hown [] ⟨0, 10, 13, 19⟩ [] htab (fun z hz => by cases hz) rfl (by decide) kl19 (kcast hY (by decide +kernel)) hce hv hcl ?_
    refine lv_astore (lv' := [(4, .ref q9), (0, .ref b), (1, .int p1), (2, .int p2), (3, .ref o)]) hx hb dL_nextUse_13 hl (by decide) rfl (fun ls hl => ?_)
    refine lv_iconst (v := 1) hx hb dL_nextUse_15 (by decide) ?_
    exact ret _ _ _ _ dL_nextUse_16 hP hD hS
  rw [if_neg cx] at hc
  cases hc
abbrev rwL_pressure : Room := { frames := 8, cells := 1, slots := 6, locals := 124 }
set_option maxHeartbeats 4000000 in
set_option maxRecDepth 100000 in
theorem w_pressure (l : Launch) (D : va_G) (cyI cyZ cyJ : ClassId) (b o : Nat) (wc w1 : va_W) (fJ : Nat → Int64) (p1 : Int32) (fs : List Value) {r : Int32} (hM : kMi l yX4_pressure wsX4_pressure rmX4_pressure (.ref b :: [.int p1]) D wc w1 (kT cyI cyZ) r 0 0) (l1 : wc.length = 33) (l2 : w1.length = 33) (h0 : wc[0]? = some (b, .inr (4, fs))) : kWi l yL_pressure wsL_pressure rwL_pressure [.ref b, .int p1, .ref o] D (wc ++ [(o, .inl (cyJ, 1, .inr (.inl fJ)))]) (w1 ++ [(o, .inl (cyJ, 1, .inr (.inl (vp_updL fJ 0 r.toInt64))))]) (kT3 cyI cyZ cyJ) 0 1 6 := by
  refine kOf_w (cc := cL_pressure) (maxL := 4) (hh := [(0, 9, 12, 19)]) (by decide +kernel) rfl (Nat.le_of_ble_eq_true rfl) ?_
  intro p e s m args below meth c A Z ls C0 htab hY hP hK hD hA hl ret
  obtain ⟨hx, hb, hr, hml, hown, hts, hlocks⟩ := C0
  have hown : s.vm.findClass RL = some m.cls := hown
  have hl : lv_has ls 4 [(0, .ref b), (1, .int p1), (2, .ref o)] := hl
  have hS : va_S A s.heap s.heap [] := va_S.rf
  have hK2 : va_K D vwCl (kT cyI cyZ) s := hK.sub [0, 1] rfl
  have hP : va_P D vwCl ([] ++ (wc ++ [(o, .inl (cyJ, 1, .inr (.inl fJ)))])) s.heap := hP
  have hD : va_D A ([] ++ (wc ++ [(o, .inl (cyJ, 1, .inr (.inl fJ)))])) := hD
  refine lv_aload_n hx hb dL_pressure_0 rfl (lv_at hl 2 rfl) ?_
  refine lv_iconst (v := 0) hx hb dL_pressure_1 (by decide) ?_
  refine lv_aload_n hx hb dL_pressure_2 rfl (lv_at hl 0 rfl) ?_
  refine lv_iload_n hx hb dL_pressure_3 rfl (lv_at hl 1 rfl) ?_
  refine kcm_Vi (As := [.int p1]) (rest := [.int 0, .ref o]) (n1 := 0) (n2 := 33) (n3 := 1) (wl := []) (wc := wc) (w1 := w1) (wr := [(o, .inl (cyJ, 1, .inr (.inl fJ)))]) rfl l1 l2 rfl (by decide +kernel) hM ⟨hx, hb, hml, hown, hts⟩ (cwV 1 hts gL_pressure_X4_pressure rfl rfl rfl (by decide +kernel) ⟨Nat.le_of_ble_eq_true rfl, Nat.le_of_ble_eq_true rfl⟩) hK2 hP hD hS hA h0 rfl rfl rfl hl.1 rfl (Nat.le_of_ble_eq_true rfl) dL_pressure_4 ⟨Nat.le_of_ble_eq_true rfl, Nat.le_of_ble_eq_true rfl⟩ (fun H locs hP hD hS => ?_)
  have hP : va_P D vwCl (w1 ++ [(o, .inl (cyJ, 1, .inr (.inl fJ)))]) H := hP
  have hD : va_D A (w1 ++ [(o, .inl (cyJ, 1, .inr (.inl fJ)))]) := hD
  refine lv_i2l hx hb dL_pressure_7 rfl ?_
  refine va_last (f := fJ) hx hb hK hP hD hS 33 2 (lastAt l2) rfl vin01 dL_pressure_8 (fun H locs hP hD hS => ?_)
  rw [lastSet l2] at hP hD
  refine lv_goto (tgt := 15) hx hb dL_pressure_9 (by decide) ?_
  refine lv_iconst (v := 0) hx hb dL_pressure_15 (by decide) ?_
  refine W.widen (k := 1) (n := 6) (Nat.le_of_ble_eq_true rfl) (Nat.le_of_ble_eq_true rfl) ?_
  exact ret _ _ _ _ dL_pressure_16 hP hD hS
set_option maxHeartbeats 4000000 in
set_option maxRecDepth 100000 in
theorem v_pressure (l : Launch) (D : va_G) (cyI cyZ cyJ : ClassId) (b o : Nat) (wc : va_W) (fJ : Nat → Int64) (p1 : Int32) (fs : List Value) {x : Nat} {k : Int32} (hM : kMxi l yX4_pressure wsX4_pressure rxX4_pressure (.ref b :: [.int p1]) D wc (kT cyI cyZ) x 1 6) (l1 : wc.length = 33) (h0 : wc[0]? = some (b, .inr (4, fs))) (hc : cdI x = some k) : kWi l yL_pressure wsL_pressure rwL_pressure [.ref b, .int p1, .ref o] D (wc ++ [(o, .inl (cyJ, 1, .inr (.inl fJ)))]) (wc ++ [(o, .inl (cyJ, 1, .inr (.inl fJ)))]) (kT3 cyI cyZ cyJ) k 1 6 := by
  refine kOf_w (cc := cL_pressure) (maxL := 4) (hh := [(0, 9, 12, 19)]) (by decide +kernel) rfl (Nat.le_of_ble_eq_true rfl) ?_
  intro p e s m args below meth c A Z ls C0 htab hY hP hK hD hA hl ret
  obtain ⟨hx, hb, hr, hml, hown, hts, hlocks⟩ := C0
  have hown : s.vm.findClass RL = some m.cls := hown
  have hl : lv_has ls 4 [(0, .ref b), (1, .int p1), (2, .ref o)] := hl
  have hS : va_S A s.heap s.heap [] := va_S.rf
  have hK2 : va_K D vwCl (kT cyI cyZ) s := hK.sub [0, 1] rfl
  have hP : va_P D vwCl ([] ++ (wc ++ [(o, .inl (cyJ, 1, .inr (.inl fJ)))])) s.heap := hP
  have hD : va_D A ([] ++ (wc ++ [(o, .inl (cyJ, 1, .inr (.inl fJ)))])) := hD
  have kl19 : (Cond.classLink RL 19 "java/lang/IndexOutOfBoundsException").before args s = true := hts _ (by decide +kernel)
  refine lv_aload_n hx hb dL_pressure_0 rfl (lv_at hl 2 rfl) ?_
  refine lv_iconst (v := 0) hx hb dL_pressure_1 (by decide) ?_
  refine lv_aload_n hx hb dL_pressure_2 rfl (lv_at hl 0 rfl) ?_
  refine lv_iload_n hx hb dL_pressure_3 rfl (lv_at hl 1 rfl) ?_
  refine kxm_Vi (As := [.int p1]) (rest := [.int 0, .ref o]) (n1 := 0) (n2 := 33) (n3 := 1) (wl := []) (wc := wc) (wr := [(o, .inl (cyJ, 1, .inr (.inl fJ)))]) rfl l1 rfl (by decide +kernel) hM ⟨hx, hb, hml, hown, hts⟩ (cwV 1 hts gL_pressure_X4_pressure rfl rfl rfl (by decide +kernel) ⟨Nat.le_of_ble_eq_true rfl, Nat.le_of_ble_eq_true rfl⟩) hK2 hY.1 hP hD hS hA h0 rfl rfl rfl hl.1 rfl (Nat.le_of_ble_eq_true rfl) dL_pressure_4 ⟨Nat.le_of_ble_eq_true rfl, Nat.le_of_ble_eq_true rfl⟩ (fun q9 ce H locs hP hD hS hce hv hcl => ?_)
  have hP : va_P D vwCl (wc ++ [(o, .inl (cyJ, 1, .inr (.inl fJ)))]) H := hP
  have hD : va_D A (wc ++ [(o, .inl (cyJ, 1, .inr (.inl fJ)))]) := hD
  unfold cdI at hc
  by_cases cx : x = 0
  · rw [if_pos cx] at hc
    obtain rfl := Option.some.inj hc
    subst cx
    refine vx_catch (own := RL) (name := "java/lang/IndexOutOfBoundsException") (E := kIOB) hown [] ⟨0, 9, 12, 19⟩ [] htab (fun z hz => by cases hz) rfl (by decide) kl19 (kcast hY (by decide +kernel)) hce hv hcl ?_
    refine lv_astore_n (lv' := [(3, .ref q9), (0, .ref b), (1, .int p1), (2, .ref o)]) hx hb dL_pressure_12 rfl hl (by decide) rfl (fun ls hl => ?_)
    refine lv_iconst (v := 1) hx hb dL_pressure_13 (by decide) ?_
    exact ret _ _ _ _ dL_pressure_14 hP hD hS
  rw [if_neg cx] at hc
  cases hc
abbrev rwL_setRegisters : Room := { frames := 7, cells := 1, slots := 6, locals := 104 }
set_option maxHeartbeats 4000000 in
set_option maxRecDepth 100000 in
theorem w_setRegisters (l : Launch) (D : va_G) (cyI cyZ cyJ : ClassId) (b o : Nat) (wc w1 : va_W) (fJ : Nat → Int64) (p1 : Int32) (fs : List Value) {r : Int32} (hM : kMi l yX4_setRegisters wsX4_setRegisters rmX4_setRegisters (.ref b :: [.int p1]) D wc w1 (kT cyI cyZ) r 0 0) (l1 : wc.length = 33) (l2 : w1.length = 33) (h0 : wc[0]? = some (b, .inr (4, fs))) : kWi l yL_setRegisters wsL_setRegisters rwL_setRegisters [.ref b, .int p1, .ref o] D (wc ++ [(o, .inl (cyJ, 1, .inr (.inl fJ)))]) (w1 ++ [(o, .inl (cyJ, 1, .inr (.inl (vp_updL fJ 0 r.toInt64))))]) (kT3 cyI cyZ cyJ) 0 1 6 := by
  refine kOf_w (cc := cL_setRegisters) (maxL := 4) (hh := [(0, 9, 12, 21)]) (by decide +kernel) rfl (Nat.le_of_ble_eq_true rfl) ?_
  intro p e s m args below meth c A Z ls C0 htab hY hP hK hD hA hl ret
  obtain ⟨hx, hb, hr, hml, hown, hts, hlocks⟩ := C0
  have hown : s.vm.findClass RL = some m.cls := hown
  have hl : lv_has ls 4 [(0, .ref b), (1, .int p1), (2, .ref o)] := hl
  have hS : va_S A s.heap s.heap [] := va_S.rf
  have hK2 : va_K D vwCl (kT cyI cyZ) s := hK.sub [0, 1] rfl
  have hP : va_P D vwCl ([] ++ (wc ++ [(o, .inl (cyJ, 1, .inr (.inl fJ)))])) s.heap := hP
  have hD : va_D A ([] ++ (wc ++ [(o, .inl (cyJ, 1, .inr (.inl fJ)))])) := hD
  refine lv_aload_n hx hb dL_setRegisters_0 rfl (lv_at hl 2 rfl) ?_
  refine lv_iconst (v := 0) hx hb dL_setRegisters_1 (by decide) ?_
  refine lv_aload_n hx hb dL_setRegisters_2 rfl (lv_at hl 0 rfl) ?_
  refine lv_iload_n hx hb dL_setRegisters_3 rfl (lv_at hl 1 rfl) ?_
  refine kcm_Vi (As := [.int p1]) (rest := [.int 0, .ref o]) (n1 := 0) (n2 := 33) (n3 := 1) (wl := []) (wc := wc) (w1 := w1) (wr := [(o, .inl (cyJ, 1, .inr (.inl fJ)))]) rfl l1 l2 rfl (by decide +kernel) hM ⟨hx, hb, hml, hown, hts⟩ (cwV 1 hts gL_setRegisters_X4_setRegisters rfl rfl rfl (by decide +kernel) ⟨Nat.le_of_ble_eq_true rfl, Nat.le_of_ble_eq_true rfl⟩) hK2 hP hD hS hA h0 rfl rfl rfl hl.1 rfl (Nat.le_of_ble_eq_true rfl) dL_setRegisters_4 ⟨Nat.le_of_ble_eq_true rfl, Nat.le_of_ble_eq_true rfl⟩ (fun H locs hP hD hS => ?_)
  have hP : va_P D vwCl (w1 ++ [(o, .inl (cyJ, 1, .inr (.inl fJ)))]) H := hP
  have hD : va_D A (w1 ++ [(o, .inl (cyJ, 1, .inr (.inl fJ)))]) := hD
  refine lv_i2l hx hb dL_setRegisters_7 rfl ?_
  refine va_last (f := fJ) hx hb hK hP hD hS 33 2 (lastAt l2) rfl vin01 dL_setRegisters_8 (fun H locs hP hD hS => ?_)
  rw [lastSet l2] at hP hD
  refine lv_goto (tgt := 15) hx hb dL_setRegisters_9 (by decide) ?_
  refine lv_iconst (v := 0) hx hb dL_setRegisters_15 (by decide) ?_
  refine W.widen (k := 1) (n := 6) (Nat.le_of_ble_eq_true rfl) (Nat.le_of_ble_eq_true rfl) ?_
  exact ret _ _ _ _ dL_setRegisters_16 hP hD hS
set_option maxHeartbeats 4000000 in
set_option maxRecDepth 100000 in
theorem v_setRegisters (l : Launch) (D : va_G) (cyI cyZ cyJ : ClassId) (b o : Nat) (wc : va_W) (fJ : Nat → Int64) (p1 : Int32) (fs : List Value) {x : Nat} {k : Int32} (hM : kMxi l yX4_setRegisters wsX4_setRegisters rxX4_setRegisters (.ref b :: [.int p1]) D wc (kT cyI cyZ) x 1 6) (l1 : wc.length = 33) (h0 : wc[0]? = some (b, .inr (4, fs))) (hc : cdA x = some k) : kWi l yL_setRegisters wsL_setRegisters rwL_setRegisters [.ref b, .int p1, .ref o] D (wc ++ [(o, .inl (cyJ, 1, .inr (.inl fJ)))]) (wc ++ [(o, .inl (cyJ, 1, .inr (.inl fJ)))]) (kT3 cyI cyZ cyJ) k 1 6 := by
  refine kOf_w (cc := cL_setRegisters) (maxL := 4) (hh := [(0, 9, 12, 21)]) (by decide +kernel) rfl (Nat.le_of_ble_eq_true rfl) ?_
  intro p e s m args below meth c A Z ls C0 htab hY hP hK hD hA hl ret
  obtain ⟨hx, hb, hr, hml, hown, hts, hlocks⟩ := C0
  have hown : s.vm.findClass RL = some m.cls := hown
  have hl : lv_has ls 4 [(0, .ref b), (1, .int p1), (2, .ref o)] := hl
  have hS : va_S A s.heap s.heap [] := va_S.rf
  have hK2 : va_K D vwCl (kT cyI cyZ) s := hK.sub [0, 1] rfl
  have hP : va_P D vwCl ([] ++ (wc ++ [(o, .inl (cyJ, 1, .inr (.inl fJ)))])) s.heap := hP
  have hD : va_D A ([] ++ (wc ++ [(o, .inl (cyJ, 1, .inr (.inl fJ)))])) := hD
  have kl21 : (Cond.classLink RL 21 "java/lang/IllegalArgumentException").before args s = true := hts _ (by decide +kernel)
  refine lv_aload_n hx hb dL_setRegisters_0 rfl (lv_at hl 2 rfl) ?_
  refine lv_iconst (v := 0) hx hb dL_setRegisters_1 (by decide) ?_
  refine lv_aload_n hx hb dL_setRegisters_2 rfl (lv_at hl 0 rfl) ?_
  refine lv_iload_n hx hb dL_setRegisters_3 rfl (lv_at hl 1 rfl) ?_
  refine kxm_Vi (As := [.int p1]) (rest := [.int 0, .ref o]) (n1 := 0) (n2 := 33) (n3 := 1) (wl := []) (wc := wc) (wr := [(o, .inl (cyJ, 1, .inr (.inl fJ)))]) rfl l1 rfl (by decide +kernel) hM ⟨hx, hb, hml, hown, hts⟩ (cwV 1 hts gL_setRegisters_X4_setRegisters rfl rfl rfl (by decide +kernel) ⟨Nat.le_of_ble_eq_true rfl, Nat.le_of_ble_eq_true rfl⟩) hK2 hY.1 hP hD hS hA h0 rfl rfl rfl hl.1 rfl (Nat.le_of_ble_eq_true rfl) dL_setRegisters_4 ⟨Nat.le_of_ble_eq_true rfl, Nat.le_of_ble_eq_true rfl⟩ (fun q9 ce H locs hP hD hS hce hv hcl => ?_)
  have hP : va_P D vwCl (wc ++ [(o, .inl (cyJ, 1, .inr (.inl fJ)))]) H := hP
  have hD : va_D A (wc ++ [(o, .inl (cyJ, 1, .inr (.inl fJ)))]) := hD
  unfold cdA at hc
  by_cases cx : x = 1
  · rw [if_pos cx] at hc
    obtain rfl := Option.some.inj hc
    subst cx
    refine vx_catch (own := RL) (name := "java/lang/IllegalArgumentException") (E := kIAE) hown [] ⟨0, 9, 12, 21⟩ [] htab (fun z hz => by cases hz) rfl (by decide) kl21 (kcast hY (by decide +kernel)) hce hv hcl ?_
    refine lv_astore_n (lv' := [(3, .ref q9), (0, .ref b), (1, .int p1), (2, .ref o)]) hx hb dL_setRegisters_12 rfl hl (by decide) rfl (fun ls hl => ?_)
    refine lv_iconst (v := 1) hx hb dL_setRegisters_13 (by decide) ?_
    exact ret _ _ _ _ dL_setRegisters_14 hP hD hS
  rw [if_neg cx] at hc
  cases hc
abbrev rwL_step : Room := { frames := 8, cells := 1, slots := 6, locals := 126 }
set_option maxHeartbeats 4000000 in
set_option maxRecDepth 100000 in
theorem w_step (l : Launch) (D : va_G) (cyI cyZ cyJ : ClassId) (b o : Nat) (wc w1 : va_W) (fJ : Nat → Int64) (p1 : Int32) (p2 : Int32) (fs : List Value) {r : Int32} (hM : kMi l yX4_step wsX4_step rmX4_step (.ref b :: [.int p1, .int p2]) D wc w1 (kT cyI cyZ) r 0 0) (l1 : wc.length = 33) (l2 : w1.length = 33) (h0 : wc[0]? = some (b, .inr (4, fs))) : kWi l yL_step wsL_step rwL_step [.ref b, .int p1, .int p2, .ref o] D (wc ++ [(o, .inl (cyJ, 1, .inr (.inl fJ)))]) (w1 ++ [(o, .inl (cyJ, 1, .inr (.inl (vp_updL fJ 0 r.toInt64))))]) (kT3 cyI cyZ cyJ) 0 1 6 := by
  refine kOf_w (cc := cL_step) (maxL := 5) (hh := [(0, 10, 13, 13), (0, 10, 17, 19)]) (by decide +kernel) rfl (Nat.le_of_ble_eq_true rfl) ?_
  intro p e s m args below meth c A Z ls C0 htab hY hP hK hD hA hl ret
  obtain ⟨hx, hb, hr, hml, hown, hts, hlocks⟩ := C0
  have hown : s.vm.findClass RL = some m.cls := hown
  have hl : lv_has ls 5 [(0, .ref b), (1, .int p1), (2, .int p2), (3, .ref o)] := hl
  have hS : va_S A s.heap s.heap [] := va_S.rf
  have hK2 : va_K D vwCl (kT cyI cyZ) s := hK.sub [0, 1] rfl
  have hP : va_P D vwCl ([] ++ (wc ++ [(o, .inl (cyJ, 1, .inr (.inl fJ)))])) s.heap := hP
  have hD : va_D A ([] ++ (wc ++ [(o, .inl (cyJ, 1, .inr (.inl fJ)))])) := hD
  refine lv_aload_n hx hb dL_step_0 rfl (lv_at hl 3 rfl) ?_
  refine lv_iconst (v := 0) hx hb dL_step_1 (by decide) ?_
  refine lv_aload_n hx hb dL_step_2 rfl (lv_at hl 0 rfl) ?_
  refine lv_iload_n hx hb dL_step_3 rfl (lv_at hl 1 rfl) ?_
  refine lv_iload_n hx hb dL_step_4 rfl (lv_at hl 2 rfl) ?_
  refine kcm_Vi (As := [.int p1, .int p2]) (rest := [.int 0, .ref o]) (n1 := 0) (n2 := 33) (n3 := 1) (wl := []) (wc := wc) (w1 := w1) (wr := [(o, .inl (cyJ, 1, .inr (.inl fJ)))]) rfl l1 l2 rfl (by decide +kernel) hM ⟨hx, hb, hml, hown, hts⟩ (cwV 2 hts gL_step_X4_step rfl rfl rfl (by decide +kernel) ⟨Nat.le_of_ble_eq_true rfl, Nat.le_of_ble_eq_true rfl⟩) hK2 hP hD hS hA h0 rfl rfl rfl hl.1 rfl (Nat.le_of_ble_eq_true rfl) dL_step_5 ⟨Nat.le_of_ble_eq_true rfl, Nat.le_of_ble_eq_true rfl⟩ (fun H locs hP hD hS => ?_)
  have hP : va_P D vwCl (w1 ++ [(o, .inl (cyJ, 1, .inr (.inl fJ)))]) H := hP
  have hD : va_D A (w1 ++ [(o, .inl (cyJ, 1, .inr (.inl fJ)))]) := hD
  refine lv_i2l hx hb dL_step_8 rfl ?_
  refine va_last (f := fJ) hx hb hK hP hD hS 33 2 (lastAt l2) rfl vin01 dL_step_9 (fun H locs hP hD hS => ?_)
  rw [lastSet l2] at hP hD
  refine lv_goto (tgt := 21) hx hb dL_step_10 (by decide) ?_
  refine lv_iconst (v := 0) hx hb dL_step_21 (by decide) ?_
  refine W.widen (k := 1) (n := 6) (Nat.le_of_ble_eq_true rfl) (Nat.le_of_ble_eq_true rfl) ?_
  exact ret _ _ _ _ dL_step_22 hP hD hS
set_option maxHeartbeats 4000000 in
set_option maxRecDepth 100000 in
theorem v_step (l : Launch) (D : va_G) (cyI cyZ cyJ : ClassId) (b o : Nat) (wc : va_W) (fJ : Nat → Int64) (p1 : Int32) (p2 : Int32) (fs : List Value) {x : Nat} {k : Int32} (hM : kMxi l yX4_step wsX4_step rxX4_step (.ref b :: [.int p1, .int p2]) D wc (kT cyI cyZ) x 1 6) (l1 : wc.length = 33) (h0 : wc[0]? = some (b, .inr (4, fs))) (hc : cdSI x = some k) : kWi l yL_step wsL_step rwL_step [.ref b, .int p1, .int p2, .ref o] D (wc ++ [(o, .inl (cyJ, 1, .inr (.inl fJ)))]) (wc ++ [(o, .inl (cyJ, 1, .inr (.inl fJ)))]) (kT3 cyI cyZ cyJ) k 1 6 := by
  refine kOf_w (cc := cL_step) (maxL := 5) (hh := [(0, 10, 13, 13), (0, 10, 17, 19)]) (by decide +kernel) rfl (Nat.le_of_ble_eq_true rfl) ?_
  intro p e s m args below meth c A Z ls C0 htab hY hP hK hD hA hl ret
  obtain ⟨hx, hb, hr, hml, hown, hts, hlocks⟩ := C0
  have hown : s.vm.findClass RL = some m.cls := hown
  have hl : lv_has ls 5 [(0, .ref b), (1, .int p1), (2, .int p2), (3, .ref o)] := hl
  have hS : va_S A s.heap s.heap [] := va_S.rf
  have hK2 : va_K D vwCl (kT cyI cyZ) s := hK.sub [0, 1] rfl
  have hP : va_P D vwCl ([] ++ (wc ++ [(o, .inl (cyJ, 1, .inr (.inl fJ)))])) s.heap := hP
  have hD : va_D A ([] ++ (wc ++ [(o, .inl (cyJ, 1, .inr (.inl fJ)))])) := hD
  have kl13 : (Cond.classLink RL 13 "java/lang/IllegalStateException").before args s = true := hts _ (by decide +kernel)
  have kl19 : (Cond.classLink RL 19 "java/lang/IndexOutOfBoundsException").before args s = true := hts _ (by decide +kernel)
  refine lv_aload_n hx hb dL_step_0 rfl (lv_at hl 3 rfl) ?_
  refine lv_iconst (v := 0) hx hb dL_step_1 (by decide) ?_
  refine lv_aload_n hx hb dL_step_2 rfl (lv_at hl 0 rfl) ?_
  refine lv_iload_n hx hb dL_step_3 rfl (lv_at hl 1 rfl) ?_
  refine lv_iload_n hx hb dL_step_4 rfl (lv_at hl 2 rfl) ?_
  refine kxm_Vi (As := [.int p1, .int p2]) (rest := [.int 0, .ref o]) (n1 := 0) (n2 := 33) (n3 := 1) (wl := []) (wc := wc) (wr := [(o, .inl (cyJ, 1, .inr (.inl fJ)))]) rfl l1 rfl (by decide +kernel) hM ⟨hx, hb, hml, hown, hts⟩ (cwV 2 hts gL_step_X4_step rfl rfl rfl (by decide +kernel) ⟨Nat.le_of_ble_eq_true rfl, Nat.le_of_ble_eq_true rfl⟩) hK2 hY.1 hP hD hS hA h0 rfl rfl rfl hl.1 rfl (Nat.le_of_ble_eq_true rfl) dL_step_5 ⟨Nat.le_of_ble_eq_true rfl, Nat.le_of_ble_eq_true rfl⟩ (fun q9 ce H locs hP hD hS hce hv hcl => ?_)
  have hP : va_P D vwCl (wc ++ [(o, .inl (cyJ, 1, .inr (.inl fJ)))]) H := hP
  have hD : va_D A (wc ++ [(o, .inl (cyJ, 1, .inr (.inl fJ)))]) := hD
  unfold cdSI at hc
  by_cases cx : x = 2
  · rw [if_pos cx] at hc
    obtain rfl := Option.some.inj hc
    subst cx
    refine vx_catch (own := RL) (name := "java/lang/IllegalStateException") (E := kISE) hown [] ⟨0, 10, 13, 13⟩ [⟨0, 10, 17, 19⟩] htab (fun z hz => by cases hz) rfl (by decide) kl13 (kcast hY (by decide +kernel)) hce hv hcl ?_
    refine lv_astore (lv' := [(4, .ref q9), (0, .ref b), (1, .int p1), (2, .int p2), (3, .ref o)]) hx hb dL_step_13 hl (by decide) rfl (fun ls hl => ?_)
    refine lv_iconst (v := 1) hx hb dL_step_15 (by decide) ?_
    exact ret _ _ _ _ dL_step_16 hP hD hS
  rw [if_neg cx] at hc
  by_cases cx : x = 0
  · rw [if_pos cx] at hc
    obtain rfl := Option.some.inj hc
    subst cx
    refine vx_catch (own := RL) (name := "java/lang/IndexOutOfBoundsException") (E := kIOB) hown [⟨0, 10, 13, 13⟩] ⟨0, 10, 17, 19⟩ [] htab (fun z hz => by
        obtain rfl := List.mem_singleton.mp hz
        exact Or.inr ⟨by decide, "java/lang/IllegalStateException", kl13, hY.2 (kIOB, kISE) (by decide +kernel)⟩) rfl (by decide) kl19 (kcast hY (by decide +kernel)) hce hv hcl ?_
    refine lv_astore (lv' := [(4, .ref q9), (0, .ref b), (1, .int p1), (2, .int p2), (3, .ref o)]) hx hb dL_step_17 hl (by decide) rfl (fun ls hl => ?_)
    refine lv_iconst (v := 2) hx hb dL_step_19 (by decide) ?_
    exact ret _ _ _ _ dL_step_20 hP hD hS
  rw [if_neg cx] at hc
  cases hc
abbrev rwL_stepCount : Room := { frames := 8, cells := 1, slots := 6, locals := 123 }
set_option maxHeartbeats 4000000 in
set_option maxRecDepth 100000 in
theorem w_stepCount (l : Launch) (D : va_G) (cyI cyZ cyJ : ClassId) (b o : Nat) (wc w1 : va_W) (fJ : Nat → Int64) (p1 : Int32) (fs : List Value) {r : Int32} (hM : kMi l yX4_stepCount wsX4_stepCount rmX4_stepCount (.ref b :: [.int p1]) D wc w1 (kT cyI cyZ) r 0 0) (l1 : wc.length = 33) (l2 : w1.length = 33) (h0 : wc[0]? = some (b, .inr (4, fs))) : kWi l yL_stepCount wsL_stepCount rwL_stepCount [.ref b, .int p1, .ref o] D (wc ++ [(o, .inl (cyJ, 1, .inr (.inl fJ)))]) (w1 ++ [(o, .inl (cyJ, 1, .inr (.inl (vp_updL fJ 0 r.toInt64))))]) (kT3 cyI cyZ cyJ) 0 1 6 := by
  refine kOf_w (cc := cL_stepCount) (maxL := 4) (hh := [(0, 9, 12, 13), (0, 9, 15, 19)]) (by decide +kernel) rfl (Nat.le_of_ble_eq_true rfl) ?_
  intro p e s m args below meth c A Z ls C0 htab hY hP hK hD hA hl ret
  obtain ⟨hx, hb, hr, hml, hown, hts, hlocks⟩ := C0
  have hown : s.vm.findClass RL = some m.cls := hown
  have hl : lv_has ls 4 [(0, .ref b), (1, .int p1), (2, .ref o)] := hl
  have hS : va_S A s.heap s.heap [] := va_S.rf
  have hK2 : va_K D vwCl (kT cyI cyZ) s := hK.sub [0, 1] rfl
  have hP : va_P D vwCl ([] ++ (wc ++ [(o, .inl (cyJ, 1, .inr (.inl fJ)))])) s.heap := hP
  have hD : va_D A ([] ++ (wc ++ [(o, .inl (cyJ, 1, .inr (.inl fJ)))])) := hD
  refine lv_aload_n hx hb dL_stepCount_0 rfl (lv_at hl 2 rfl) ?_
  refine lv_iconst (v := 0) hx hb dL_stepCount_1 (by decide) ?_
  refine lv_aload_n hx hb dL_stepCount_2 rfl (lv_at hl 0 rfl) ?_
  refine lv_iload_n hx hb dL_stepCount_3 rfl (lv_at hl 1 rfl) ?_
  refine kcm_Vi (As := [.int p1]) (rest := [.int 0, .ref o]) (n1 := 0) (n2 := 33) (n3 := 1) (wl := []) (wc := wc) (w1 := w1) (wr := [(o, .inl (cyJ, 1, .inr (.inl fJ)))]) rfl l1 l2 rfl (by decide +kernel) hM ⟨hx, hb, hml, hown, hts⟩ (cwV 1 hts gL_stepCount_X4_stepCount rfl rfl rfl (by decide +kernel) ⟨Nat.le_of_ble_eq_true rfl, Nat.le_of_ble_eq_true rfl⟩) hK2 hP hD hS hA h0 rfl rfl rfl hl.1 rfl (Nat.le_of_ble_eq_true rfl) dL_stepCount_4 ⟨Nat.le_of_ble_eq_true rfl, Nat.le_of_ble_eq_true rfl⟩ (fun H locs hP hD hS => ?_)
  have hP : va_P D vwCl (w1 ++ [(o, .inl (cyJ, 1, .inr (.inl fJ)))]) H := hP
  have hD : va_D A (w1 ++ [(o, .inl (cyJ, 1, .inr (.inl fJ)))]) := hD
  refine lv_i2l hx hb dL_stepCount_7 rfl ?_
  refine va_last (f := fJ) hx hb hK hP hD hS 33 2 (lastAt l2) rfl vin01 dL_stepCount_8 (fun H locs hP hD hS => ?_)
  rw [lastSet l2] at hP hD
  refine lv_goto (tgt := 18) hx hb dL_stepCount_9 (by decide) ?_
  refine lv_iconst (v := 0) hx hb dL_stepCount_18 (by decide) ?_
  refine W.widen (k := 1) (n := 6) (Nat.le_of_ble_eq_true rfl) (Nat.le_of_ble_eq_true rfl) ?_
  exact ret _ _ _ _ dL_stepCount_19 hP hD hS
set_option maxHeartbeats 4000000 in
set_option maxRecDepth 100000 in
theorem v_stepCount (l : Launch) (D : va_G) (cyI cyZ cyJ : ClassId) (b o : Nat) (wc : va_W) (fJ : Nat → Int64) (p1 : Int32) (fs : List Value) {x : Nat} {k : Int32} (hM : kMxi l yX4_stepCount wsX4_stepCount rxX4_stepCount (.ref b :: [.int p1]) D wc (kT cyI cyZ) x 1 6) (l1 : wc.length = 33) (h0 : wc[0]? = some (b, .inr (4, fs))) (hc : cdSI x = some k) : kWi l yL_stepCount wsL_stepCount rwL_stepCount [.ref b, .int p1, .ref o] D (wc ++ [(o, .inl (cyJ, 1, .inr (.inl fJ)))]) (wc ++ [(o, .inl (cyJ, 1, .inr (.inl fJ)))]) (kT3 cyI cyZ cyJ) k 1 6 := by
  refine kOf_w (cc := cL_stepCount) (maxL := 4) (hh := [(0, 9, 12, 13), (0, 9, 15, 19)]) (by decide +kernel) rfl (Nat.le_of_ble_eq_true rfl) ?_
  intro p e s m args below meth c A Z ls C0 htab hY hP hK hD hA hl ret
  obtain ⟨hx, hb, hr, hml, hown, hts, hlocks⟩ := C0
  have hown : s.vm.findClass RL = some m.cls := hown
  have hl : lv_has ls 4 [(0, .ref b), (1, .int p1), (2, .ref o)] := hl
  have hS : va_S A s.heap s.heap [] := va_S.rf
  have hK2 : va_K D vwCl (kT cyI cyZ) s := hK.sub [0, 1] rfl
  have hP : va_P D vwCl ([] ++ (wc ++ [(o, .inl (cyJ, 1, .inr (.inl fJ)))])) s.heap := hP
  have hD : va_D A ([] ++ (wc ++ [(o, .inl (cyJ, 1, .inr (.inl fJ)))])) := hD
  have kl13 : (Cond.classLink RL 13 "java/lang/IllegalStateException").before args s = true := hts _ (by decide +kernel)
  have kl19 : (Cond.classLink RL 19 "java/lang/IndexOutOfBoundsException").before args s = true := hts _ (by decide +kernel)
  refine lv_aload_n hx hb dL_stepCount_0 rfl (lv_at hl 2 rfl) ?_
  refine lv_iconst (v := 0) hx hb dL_stepCount_1 (by decide) ?_
  refine lv_aload_n hx hb dL_stepCount_2 rfl (lv_at hl 0 rfl) ?_
  refine lv_iload_n hx hb dL_stepCount_3 rfl (lv_at hl 1 rfl) ?_
  refine kxm_Vi (As := [.int p1]) (rest := [.int 0, .ref o]) (n1 := 0) (n2 := 33) (n3 := 1) (wl := []) (wc := wc) (wr := [(o, .inl (cyJ, 1, .inr (.inl fJ)))]) rfl l1 rfl (by decide +kernel) hM ⟨hx, hb, hml, hown, hts⟩ (cwV 1 hts gL_stepCount_X4_stepCount rfl rfl rfl (by decide +kernel) ⟨Nat.le_of_ble_eq_true rfl, Nat.le_of_ble_eq_true rfl⟩) hK2 hY.1 hP hD hS hA h0 rfl rfl rfl hl.1 rfl (Nat.le_of_ble_eq_true rfl) dL_stepCount_4 ⟨Nat.le_of_ble_eq_true rfl, Nat.le_of_ble_eq_true rfl⟩ (fun q9 ce H locs hP hD hS hce hv hcl => ?_)
  have hP : va_P D vwCl (wc ++ [(o, .inl (cyJ, 1, .inr (.inl fJ)))]) H := hP
  have hD : va_D A (wc ++ [(o, .inl (cyJ, 1, .inr (.inl fJ)))]) := hD
  unfold cdSI at hc
  by_cases cx : x = 2
  · rw [if_pos cx] at hc
    obtain rfl := Option.some.inj hc
    subst cx
    refine vx_catch (own := RL) (name := "java/lang/IllegalStateException") (E := kISE) hown [] ⟨0, 9, 12, 13⟩ [⟨0, 9, 15, 19⟩] htab (fun z hz => by cases hz) rfl (by decide) kl13 (kcast hY (by decide +kernel)) hce hv hcl ?_
    refine lv_astore_n (lv' := [(3, .ref q9), (0, .ref b), (1, .int p1), (2, .ref o)]) hx hb dL_stepCount_12 rfl hl (by decide) rfl (fun ls hl => ?_)
    refine lv_iconst (v := 1) hx hb dL_stepCount_13 (by decide) ?_
    exact ret _ _ _ _ dL_stepCount_14 hP hD hS
  rw [if_neg cx] at hc
  by_cases cx : x = 0
  · rw [if_pos cx] at hc
    obtain rfl := Option.some.inj hc
    subst cx
    refine vx_catch (own := RL) (name := "java/lang/IndexOutOfBoundsException") (E := kIOB) hown [⟨0, 9, 12, 13⟩] ⟨0, 9, 15, 19⟩ [] htab (fun z hz => by
        obtain rfl := List.mem_singleton.mp hz
        exact Or.inr ⟨by decide, "java/lang/IllegalStateException", kl13, hY.2 (kIOB, kISE) (by decide +kernel)⟩) rfl (by decide) kl19 (kcast hY (by decide +kernel)) hce hv hcl ?_
    refine lv_astore_n (lv' := [(3, .ref q9), (0, .ref b), (1, .int p1), (2, .ref o)]) hx hb dL_stepCount_15 rfl hl (by decide) rfl (fun ls hl => ?_)
    refine lv_iconst (v := 2) hx hb dL_stepCount_16 (by decide) ?_
    exact ret _ _ _ _ dL_stepCount_17 hP hD hS
  rw [if_neg cx] at hc
  cases hc
abbrev rwL_slots : Room := { frames := 8, cells := 1, slots := 6, locals := 122 }
set_option maxHeartbeats 4000000 in
set_option maxRecDepth 100000 in
theorem w_slots (l : Launch) (D : va_G) (cyI cyZ cyJ : ClassId) (b o : Nat) (wc w1 : va_W) (fJ : Nat → Int64) (fs : List Value) {r : Int32} (hM : kMi l yX4_slots wsX4_slots rmX4_slots (.ref b :: []) D wc w1 (kT cyI cyZ) r 0 0) (l1 : wc.length = 33) (l2 : w1.length = 33) (h0 : wc[0]? = some (b, .inr (4, fs))) : kWi l yL_slots wsL_slots rwL_slots [.ref b, .ref o] D (wc ++ [(o, .inl (cyJ, 1, .inr (.inl fJ)))]) (w1 ++ [(o, .inl (cyJ, 1, .inr (.inl (vp_updL fJ 0 r.toInt64))))]) (kT3 cyI cyZ cyJ) 0 1 6 := by
  refine kOf_w (cc := cL_slots) (maxL := 3) (hh := [(0, 8, 11, 13)]) (by decide +kernel) rfl (Nat.le_of_ble_eq_true rfl) ?_
  intro p e s m args below meth c A Z ls C0 htab hY hP hK hD hA hl ret
  obtain ⟨hx, hb, hr, hml, hown, hts, hlocks⟩ := C0
  have hown : s.vm.findClass RL = some m.cls := hown
  have hl : lv_has ls 3 [(0, .ref b), (1, .ref o)] := hl
  have hS : va_S A s.heap s.heap [] := va_S.rf
  have hK2 : va_K D vwCl (kT cyI cyZ) s := hK.sub [0, 1] rfl
  have hP : va_P D vwCl ([] ++ (wc ++ [(o, .inl (cyJ, 1, .inr (.inl fJ)))])) s.heap := hP
  have hD : va_D A ([] ++ (wc ++ [(o, .inl (cyJ, 1, .inr (.inl fJ)))])) := hD
  refine lv_aload_n hx hb dL_slots_0 rfl (lv_at hl 1 rfl) ?_
  refine lv_iconst (v := 0) hx hb dL_slots_1 (by decide) ?_
  refine lv_aload_n hx hb dL_slots_2 rfl (lv_at hl 0 rfl) ?_
  refine kcm_Vi (As := []) (rest := [.int 0, .ref o]) (n1 := 0) (n2 := 33) (n3 := 1) (wl := []) (wc := wc) (w1 := w1) (wr := [(o, .inl (cyJ, 1, .inr (.inl fJ)))]) rfl l1 l2 rfl (by decide +kernel) hM ⟨hx, hb, hml, hown, hts⟩ (cwV 0 hts gL_slots_X4_slots rfl rfl rfl (by decide +kernel) ⟨Nat.le_of_ble_eq_true rfl, Nat.le_of_ble_eq_true rfl⟩) hK2 hP hD hS hA h0 rfl rfl rfl hl.1 rfl (Nat.le_of_ble_eq_true rfl) dL_slots_3 ⟨Nat.le_of_ble_eq_true rfl, Nat.le_of_ble_eq_true rfl⟩ (fun H locs hP hD hS => ?_)
  have hP : va_P D vwCl (w1 ++ [(o, .inl (cyJ, 1, .inr (.inl fJ)))]) H := hP
  have hD : va_D A (w1 ++ [(o, .inl (cyJ, 1, .inr (.inl fJ)))]) := hD
  refine lv_i2l hx hb dL_slots_6 rfl ?_
  refine va_last (f := fJ) hx hb hK hP hD hS 33 2 (lastAt l2) rfl vin01 dL_slots_7 (fun H locs hP hD hS => ?_)
  rw [lastSet l2] at hP hD
  refine lv_goto (tgt := 14) hx hb dL_slots_8 (by decide) ?_
  refine lv_iconst (v := 0) hx hb dL_slots_14 (by decide) ?_
  refine W.widen (k := 1) (n := 6) (Nat.le_of_ble_eq_true rfl) (Nat.le_of_ble_eq_true rfl) ?_
  exact ret _ _ _ _ dL_slots_15 hP hD hS
set_option maxHeartbeats 4000000 in
set_option maxRecDepth 100000 in
theorem v_slots (l : Launch) (D : va_G) (cyI cyZ cyJ : ClassId) (b o : Nat) (wc : va_W) (fJ : Nat → Int64) (fs : List Value) {x : Nat} {k : Int32} (hM : kMxi l yX4_slots wsX4_slots rxX4_slots (.ref b :: []) D wc (kT cyI cyZ) x 1 6) (l1 : wc.length = 33) (h0 : wc[0]? = some (b, .inr (4, fs))) (hc : cdS x = some k) : kWi l yL_slots wsL_slots rwL_slots [.ref b, .ref o] D (wc ++ [(o, .inl (cyJ, 1, .inr (.inl fJ)))]) (wc ++ [(o, .inl (cyJ, 1, .inr (.inl fJ)))]) (kT3 cyI cyZ cyJ) k 1 6 := by
  refine kOf_w (cc := cL_slots) (maxL := 3) (hh := [(0, 8, 11, 13)]) (by decide +kernel) rfl (Nat.le_of_ble_eq_true rfl) ?_
  intro p e s m args below meth c A Z ls C0 htab hY hP hK hD hA hl ret
  obtain ⟨hx, hb, hr, hml, hown, hts, hlocks⟩ := C0
  have hown : s.vm.findClass RL = some m.cls := hown
  have hl : lv_has ls 3 [(0, .ref b), (1, .ref o)] := hl
  have hS : va_S A s.heap s.heap [] := va_S.rf
  have hK2 : va_K D vwCl (kT cyI cyZ) s := hK.sub [0, 1] rfl
  have hP : va_P D vwCl ([] ++ (wc ++ [(o, .inl (cyJ, 1, .inr (.inl fJ)))])) s.heap := hP
  have hD : va_D A ([] ++ (wc ++ [(o, .inl (cyJ, 1, .inr (.inl fJ)))])) := hD
  have kl13 : (Cond.classLink RL 13 "java/lang/IllegalStateException").before args s = true := hts _ (by decide +kernel)
  refine lv_aload_n hx hb dL_slots_0 rfl (lv_at hl 1 rfl) ?_
  refine lv_iconst (v := 0) hx hb dL_slots_1 (by decide) ?_
  refine lv_aload_n hx hb dL_slots_2 rfl (lv_at hl 0 rfl) ?_
  refine kxm_Vi (As := []) (rest := [.int 0, .ref o]) (n1 := 0) (n2 := 33) (n3 := 1) (wl := []) (wc := wc) (wr := [(o, .inl (cyJ, 1, .inr (.inl fJ)))]) rfl l1 rfl (by decide +kernel) hM ⟨hx, hb, hml, hown, hts⟩ (cwV 0 hts gL_slots_X4_slots rfl rfl rfl (by decide +kernel) ⟨Nat.le_of_ble_eq_true rfl, Nat.le_of_ble_eq_true rfl⟩) hK2 hY.1 hP hD hS hA h0 rfl rfl rfl hl.1 rfl (Nat.le_of_ble_eq_true rfl) dL_slots_3 ⟨Nat.le_of_ble_eq_true rfl, Nat.le_of_ble_eq_true rfl⟩ (fun q9 ce H locs hP hD hS hce hv hcl => ?_)
  have hP : va_P D vwCl (wc ++ [(o, .inl (cyJ, 1, .inr (.inl fJ)))]) H := hP
  have hD : va_D A (wc ++ [(o, .inl (cyJ, 1, .inr (.inl fJ)))]) := hD
  unfold cdS at hc
  by_cases cx : x = 2
  · rw [if_pos cx] at hc
    obtain rfl := Option.some.inj hc
    subst cx
    refine vx_catch (own := RL) (name := "java/lang/IllegalStateException") (E := kISE) hown [] ⟨0, 8, 11, 13⟩ [] htab (fun z hz => by cases hz) rfl (by decide) kl13 (kcast hY (by decide +kernel)) hce hv hcl ?_
    refine lv_astore_n (lv' := [(2, .ref q9), (0, .ref b), (1, .ref o)]) hx hb dL_slots_11 rfl hl (by decide) rfl (fun ls hl => ?_)
    refine lv_iconst (v := 1) hx hb dL_slots_12 (by decide) ?_
    exact ret _ _ _ _ dL_slots_13 hP hD hS
  rw [if_neg cx] at hc
  cases hc
abbrev rwL_pieceCount : Room := { frames := 8, cells := 1, slots := 6, locals := 122 }
set_option maxHeartbeats 4000000 in
set_option maxRecDepth 100000 in
theorem w_pieceCount (l : Launch) (D : va_G) (cyI cyZ cyJ : ClassId) (b o : Nat) (wc w1 : va_W) (fJ : Nat → Int64) (fs : List Value) {r : Int32} (hM : kMi l yX4_pieceCount wsX4_pieceCount rmX4_pieceCount (.ref b :: []) D wc w1 (kT cyI cyZ) r 0 0) (l1 : wc.length = 33) (l2 : w1.length = 33) (h0 : wc[0]? = some (b, .inr (4, fs))) : kWi l yL_pieceCount wsL_pieceCount rwL_pieceCount [.ref b, .ref o] D (wc ++ [(o, .inl (cyJ, 1, .inr (.inl fJ)))]) (w1 ++ [(o, .inl (cyJ, 1, .inr (.inl (vp_updL fJ 0 r.toInt64))))]) (kT3 cyI cyZ cyJ) 0 1 6 := by
  refine kOf_w (cc := cL_pieceCount) (maxL := 3) (hh := [(0, 8, 11, 13)]) (by decide +kernel) rfl (Nat.le_of_ble_eq_true rfl) ?_
  intro p e s m args below meth c A Z ls C0 htab hY hP hK hD hA hl ret
  obtain ⟨hx, hb, hr, hml, hown, hts, hlocks⟩ := C0
  have hown : s.vm.findClass RL = some m.cls := hown
  have hl : lv_has ls 3 [(0, .ref b), (1, .ref o)] := hl
  have hS : va_S A s.heap s.heap [] := va_S.rf
  have hK2 : va_K D vwCl (kT cyI cyZ) s := hK.sub [0, 1] rfl
  have hP : va_P D vwCl ([] ++ (wc ++ [(o, .inl (cyJ, 1, .inr (.inl fJ)))])) s.heap := hP
  have hD : va_D A ([] ++ (wc ++ [(o, .inl (cyJ, 1, .inr (.inl fJ)))])) := hD
  refine lv_aload_n hx hb dL_pieceCount_0 rfl (lv_at hl 1 rfl) ?_
  refine lv_iconst (v := 0) hx hb dL_pieceCount_1 (by decide) ?_
  refine lv_aload_n hx hb dL_pieceCount_2 rfl (lv_at hl 0 rfl) ?_
  refine kcm_Vi (As := []) (rest := [.int 0, .ref o]) (n1 := 0) (n2 := 33) (n3 := 1) (wl := []) (wc := wc) (w1 := w1) (wr := [(o, .inl (cyJ, 1, .inr (.inl fJ)))]) rfl l1 l2 rfl (by decide +kernel) hM ⟨hx, hb, hml, hown, hts⟩ (cwV 0 hts gL_pieceCount_X4_pieceCount rfl rfl rfl (by decide +kernel) ⟨Nat.le_of_ble_eq_true rfl, Nat.le_of_ble_eq_true rfl⟩) hK2 hP hD hS hA h0 rfl rfl rfl hl.1 rfl (Nat.le_of_ble_eq_true rfl) dL_pieceCount_3 ⟨Nat.le_of_ble_eq_true rfl, Nat.le_of_ble_eq_true rfl⟩ (fun H locs hP hD hS => ?_)
  have hP : va_P D vwCl (w1 ++ [(o, .inl (cyJ, 1, .inr (.inl fJ)))]) H := hP
  have hD : va_D A (w1 ++ [(o, .inl (cyJ, 1, .inr (.inl fJ)))]) := hD
  refine lv_i2l hx hb dL_pieceCount_6 rfl ?_
  refine va_last (f := fJ) hx hb hK hP hD hS 33 2 (lastAt l2) rfl vin01 dL_pieceCount_7 (fun H locs hP hD hS => ?_)
  rw [lastSet l2] at hP hD
  refine lv_goto (tgt := 14) hx hb dL_pieceCount_8 (by decide) ?_
  refine lv_iconst (v := 0) hx hb dL_pieceCount_14 (by decide) ?_
  refine W.widen (k := 1) (n := 6) (Nat.le_of_ble_eq_true rfl) (Nat.le_of_ble_eq_true rfl) ?_
  exact ret _ _ _ _ dL_pieceCount_15 hP hD hS
set_option maxHeartbeats 4000000 in
set_option maxRecDepth 100000 in
theorem v_pieceCount (l : Launch) (D : va_G) (cyI cyZ cyJ : ClassId) (b o : Nat) (wc : va_W) (fJ : Nat → Int64) (fs : List Value) {x : Nat} {k : Int32} (hM : kMxi l yX4_pieceCount wsX4_pieceCount rxX4_pieceCount (.ref b :: []) D wc (kT cyI cyZ) x 1 6) (l1 : wc.length = 33) (h0 : wc[0]? = some (b, .inr (4, fs))) (hc : cdS x = some k) : kWi l yL_pieceCount wsL_pieceCount rwL_pieceCount [.ref b, .ref o] D (wc ++ [(o, .inl (cyJ, 1, .inr (.inl fJ)))]) (wc ++ [(o, .inl (cyJ, 1, .inr (.inl fJ)))]) (kT3 cyI cyZ cyJ) k 1 6 := by
  refine kOf_w (cc := cL_pieceCount) (maxL := 3) (hh := [(0, 8, 11, 13)]) (by decide +kernel) rfl (Nat.le_of_ble_eq_true rfl) ?_
  intro p e s m args below meth c A Z ls C0 htab hY hP hK hD hA hl ret
  obtain ⟨hx, hb, hr, hml, hown, hts, hlocks⟩ := C0
  have hown : s.vm.findClass RL = some m.cls := hown
  have hl : lv_has ls 3 [(0, .ref b), (1, .ref o)] := hl
  have hS : va_S A s.heap s.heap [] := va_S.rf
  have hK2 : va_K D vwCl (kT cyI cyZ) s := hK.sub [0, 1] rfl
  have hP : va_P D vwCl ([] ++ (wc ++ [(o, .inl (cyJ, 1, .inr (.inl fJ)))])) s.heap := hP
  have hD : va_D A ([] ++ (wc ++ [(o, .inl (cyJ, 1, .inr (.inl fJ)))])) := hD
  have kl13 : (Cond.classLink RL 13 "java/lang/IllegalStateException").before args s = true := hts _ (by decide +kernel)
  refine lv_aload_n hx hb dL_pieceCount_0 rfl (lv_at hl 1 rfl) ?_
  refine lv_iconst (v := 0) hx hb dL_pieceCount_1 (by decide) ?_
  refine lv_aload_n hx hb dL_pieceCount_2 rfl (lv_at hl 0 rfl) ?_
  refine kxm_Vi (As := []) (rest := [.int 0, .ref o]) (n1 := 0) (n2 := 33) (n3 := 1) (wl := []) (wc := wc) (wr := [(o, .inl (cyJ, 1, .inr (.inl fJ)))]) rfl l1 rfl (by decide +kernel) hM ⟨hx, hb, hml, hown, hts⟩ (cwV 0 hts gL_pieceCount_X4_pieceCount rfl rfl rfl (by decide +kernel) ⟨Nat.le_of_ble_eq_true rfl, Nat.le_of_ble_eq_true rfl⟩) hK2 hY.1 hP hD hS hA h0 rfl rfl rfl hl.1 rfl (Nat.le_of_ble_eq_true rfl) dL_pieceCount_3 ⟨Nat.le_of_ble_eq_true rfl, Nat.le_of_ble_eq_true rfl⟩ (fun q9 ce H locs hP hD hS hce hv hcl => ?_)
  have hP : va_P D vwCl (wc ++ [(o, .inl (cyJ, 1, .inr (.inl fJ)))]) H := hP
  have hD : va_D A (wc ++ [(o, .inl (cyJ, 1, .inr (.inl fJ)))]) := hD
  unfold cdS at hc
  by_cases cx : x = 2
  · rw [if_pos cx] at hc
    obtain rfl := Option.some.inj hc
    subst cx
    refine vx_catch (own := RL) (name := "java/lang/IllegalStateException") (E := kISE) hown [] ⟨0, 8, 11, 13⟩ [] htab (fun z hz => by cases hz) rfl (by decide) kl13 (kcast hY (by decide +kernel)) hce hv hcl ?_
    refine lv_astore_n (lv' := [(2, .ref q9), (0, .ref b), (1, .ref o)]) hx hb dL_pieceCount_11 rfl hl (by decide) rfl (fun ls hl => ?_)
    refine lv_iconst (v := 1) hx hb dL_pieceCount_12 (by decide) ?_
    exact ret _ _ _ _ dL_pieceCount_13 hP hD hS
  rw [if_neg cx] at hc
  cases hc
abbrev rwL_piece : Room := { frames := 8, cells := 1, slots := 6, locals := 126 }
set_option maxHeartbeats 4000000 in
set_option maxRecDepth 100000 in
theorem w_piece (l : Launch) (D : va_G) (cyI cyZ cyJ : ClassId) (b o : Nat) (wc w1 : va_W) (fJ : Nat → Int64) (p1 : Int32) (p2 : Int32) (fs : List Value) {r : Int32} (hM : kMi l yX4_piece wsX4_piece rmX4_piece (.ref b :: [.int p1, .int p2]) D wc w1 (kT cyI cyZ) r 0 0) (l1 : wc.length = 33) (l2 : w1.length = 33) (h0 : wc[0]? = some (b, .inr (4, fs))) : kWi l yL_piece wsL_piece rwL_piece [.ref b, .int p1, .int p2, .ref o] D (wc ++ [(o, .inl (cyJ, 1, .inr (.inl fJ)))]) (w1 ++ [(o, .inl (cyJ, 1, .inr (.inl (vp_updL fJ 0 r.toInt64))))]) (kT3 cyI cyZ cyJ) 0 1 6 := by
  refine kOf_w (cc := cL_piece) (maxL := 5) (hh := [(0, 10, 13, 13), (0, 10, 17, 19)]) (by decide +kernel) rfl (Nat.le_of_ble_eq_true rfl) ?_
  intro p e s m args below meth c A Z ls C0 htab hY hP hK hD hA hl ret
  obtain ⟨hx, hb, hr, hml, hown, hts, hlocks⟩ := C0
  have hown : s.vm.findClass RL = some m.cls := hown
  have hl : lv_has ls 5 [(0, .ref b), (1, .int p1), (2, .int p2), (3, .ref o)] := hl
  have hS : va_S A s.heap s.heap [] := va_S.rf
  have hK2 : va_K D vwCl (kT cyI cyZ) s := hK.sub [0, 1] rfl
  have hP : va_P D vwCl ([] ++ (wc ++ [(o, .inl (cyJ, 1, .inr (.inl fJ)))])) s.heap := hP
  have hD : va_D A ([] ++ (wc ++ [(o, .inl (cyJ, 1, .inr (.inl fJ)))])) := hD
  refine lv_aload_n hx hb dL_piece_0 rfl (lv_at hl 3 rfl) ?_
  refine lv_iconst (v := 0) hx hb dL_piece_1 (by decide) ?_
  refine lv_aload_n hx hb dL_piece_2 rfl (lv_at hl 0 rfl) ?_
  refine lv_iload_n hx hb dL_piece_3 rfl (lv_at hl 1 rfl) ?_
  refine lv_iload_n hx hb dL_piece_4 rfl (lv_at hl 2 rfl) ?_
  refine kcm_Vi (As := [.int p1, .int p2]) (rest := [.int 0, .ref o]) (n1 := 0) (n2 := 33) (n3 := 1) (wl := []) (wc := wc) (w1 := w1) (wr := [(o, .inl (cyJ, 1, .inr (.inl fJ)))]) rfl l1 l2 rfl (by decide +kernel) hM ⟨hx, hb, hml, hown, hts⟩ (cwV 2 hts gL_piece_X4_piece rfl rfl rfl (by decide +kernel) ⟨Nat.le_of_ble_eq_true rfl, Nat.le_of_ble_eq_true rfl⟩) hK2 hP hD hS hA h0 rfl rfl rfl hl.1 rfl (Nat.le_of_ble_eq_true rfl) dL_piece_5 ⟨Nat.le_of_ble_eq_true rfl, Nat.le_of_ble_eq_true rfl⟩ (fun H locs hP hD hS => ?_)
  have hP : va_P D vwCl (w1 ++ [(o, .inl (cyJ, 1, .inr (.inl fJ)))]) H := hP
  have hD : va_D A (w1 ++ [(o, .inl (cyJ, 1, .inr (.inl fJ)))]) := hD
  refine lv_i2l hx hb dL_piece_8 rfl ?_
  refine va_last (f := fJ) hx hb hK hP hD hS 33 2 (lastAt l2) rfl vin01 dL_piece_9 (fun H locs hP hD hS => ?_)
  rw [lastSet l2] at hP hD
  refine lv_goto (tgt := 21) hx hb dL_piece_10 (by decide) ?_
  refine lv_iconst (v := 0) hx hb dL_piece_21 (by decide) ?_
  refine W.widen (k := 1) (n := 6) (Nat.le_of_ble_eq_true rfl) (Nat.le_of_ble_eq_true rfl) ?_
  exact ret _ _ _ _ dL_piece_22 hP hD hS
set_option maxHeartbeats 4000000 in
set_option maxRecDepth 100000 in
theorem v_piece (l : Launch) (D : va_G) (cyI cyZ cyJ : ClassId) (b o : Nat) (wc : va_W) (fJ : Nat → Int64) (p1 : Int32) (p2 : Int32) (fs : List Value) {x : Nat} {k : Int32} (hM : kMxi l yX4_piece wsX4_piece rxX4_piece (.ref b :: [.int p1, .int p2]) D wc (kT cyI cyZ) x 1 6) (l1 : wc.length = 33) (h0 : wc[0]? = some (b, .inr (4, fs))) (hc : cdSI x = some k) : kWi l yL_piece wsL_piece rwL_piece [.ref b, .int p1, .int p2, .ref o] D (wc ++ [(o, .inl (cyJ, 1, .inr (.inl fJ)))]) (wc ++ [(o, .inl (cyJ, 1, .inr (.inl fJ)))]) (kT3 cyI cyZ cyJ) k 1 6 := by
  refine kOf_w (cc := cL_piece) (maxL := 5) (hh := [(0, 10, 13, 13), (0, 10, 17, 19)]) (by decide +kernel) rfl (Nat.le_of_ble_eq_true rfl) ?_
  intro p e s m args below meth c A Z ls C0 htab hY hP hK hD hA hl ret
  obtain ⟨hx, hb, hr, hml, hown, hts, hlocks⟩ := C0
  have hown : s.vm.findClass RL = some m.cls := hown
  have hl : lv_has ls 5 [(0, .ref b), (1, .int p1), (2, .int p2), (3, .ref o)] := hl
  have hS : va_S A s.heap s.heap [] := va_S.rf
  have hK2 : va_K D vwCl (kT cyI cyZ) s := hK.sub [0, 1] rfl
  have hP : va_P D vwCl ([] ++ (wc ++ [(o, .inl (cyJ, 1, .inr (.inl fJ)))])) s.heap := hP
  have hD : va_D A ([] ++ (wc ++ [(o, .inl (cyJ, 1, .inr (.inl fJ)))])) := hD
  have kl13 : (Cond.classLink RL 13 "java/lang/IllegalStateException").before args s = true := hts _ (by decide +kernel)
  have kl19 : (Cond.classLink RL 19 "java/lang/IndexOutOfBoundsException").before args s = true := hts _ (by decide +kernel)
  refine lv_aload_n hx hb dL_piece_0 rfl (lv_at hl 3 rfl) ?_
  refine lv_iconst (v := 0) hx hb dL_piece_1 (by decide) ?_
  refine lv_aload_n hx hb dL_piece_2 rfl (lv_at hl 0 rfl) ?_
  refine lv_iload_n hx hb dL_piece_3 rfl (lv_at hl 1 rfl) ?_
  refine lv_iload_n hx hb dL_piece_4 rfl (lv_at hl 2 rfl) ?_
  refine kxm_Vi (As := [.int p1, .int p2]) (rest := [.int 0, .ref o]) (n1 := 0) (n2 := 33) (n3 := 1) (wl := []) (wc := wc) (wr := [(o, .inl (cyJ, 1, .inr (.inl fJ)))]) rfl l1 rfl (by decide +kernel) hM ⟨hx, hb, hml, hown, hts⟩ (cwV 2 hts gL_piece_X4_piece rfl rfl rfl (by decide +kernel) ⟨Nat.le_of_ble_eq_true rfl, Nat.le_of_ble_eq_true rfl⟩) hK2 hY.1 hP hD hS hA h0 rfl rfl rfl hl.1 rfl (Nat.le_of_ble_eq_true rfl) dL_piece_5 ⟨Nat.le_of_ble_eq_true rfl, Nat.le_of_ble_eq_true rfl⟩ (fun q9 ce H locs hP hD hS hce hv hcl => ?_)
  have hP : va_P D vwCl (wc ++ [(o, .inl (cyJ, 1, .inr (.inl fJ)))]) H := hP
  have hD : va_D A (wc ++ [(o, .inl (cyJ, 1, .inr (.inl fJ)))]) := hD
  unfold cdSI at hc
  by_cases cx : x = 2
  · rw [if_pos cx] at hc
    obtain rfl := Option.some.inj hc
    subst cx
    refine vx_catch (own := RL) (name := "java/lang/IllegalStateException") (E := kISE) hown [] ⟨0, 10, 13, 13⟩ [⟨0, 10, 17, 19⟩] htab (fun z hz => by cases hz) rfl (by decide) kl13 (kcast hY (by decide +kernel)) hce hv hcl ?_
    refine lv_astore (lv' := [(4, .ref q9), (0, .ref b), (1, .int p1), (2, .int p2), (3, .ref o)]) hx hb dL_piece_13 hl (by decide) rfl (fun ls hl => ?_)
    refine lv_iconst (v := 1) hx hb dL_piece_15 (by decide) ?_
    exact ret _ _ _ _ dL_piece_16 hP hD hS
  rw [if_neg cx] at hc
  by_cases cx : x = 0
  · rw [if_pos cx] at hc
    obtain rfl := Option.some.inj hc
    subst cx
    refine vx_catch (own := RL) (name := "java/lang/IndexOutOfBoundsException") (E := kIOB) hown [⟨0, 10, 13, 13⟩] ⟨0, 10, 17, 19⟩ [] htab (fun z hz => by
        obtain rfl := List.mem_singleton.mp hz
        exact Or.inr ⟨by decide, "java/lang/IllegalStateException", kl13, hY.2 (kIOB, kISE) (by decide +kernel)⟩) rfl (by decide) kl19 (kcast hY (by decide +kernel)) hce hv hcl ?_
    refine lv_astore (lv' := [(4, .ref q9), (0, .ref b), (1, .int p1), (2, .int p2), (3, .ref o)]) hx hb dL_piece_17 hl (by decide) rfl (fun ls hl => ?_)
    refine lv_iconst (v := 2) hx hb dL_piece_19 (by decide) ?_
    exact ret _ _ _ _ dL_piece_20 hP hD hS
  rw [if_neg cx] at hc
  cases hc
abbrev rwL_run : Room := { frames := 8, cells := 1, slots := 6, locals := 122 }
set_option maxHeartbeats 4000000 in
set_option maxRecDepth 100000 in
theorem w_run (l : Launch) (D : va_G) (cyI cyZ cyJ : ClassId) (b o : Nat) (wc w1 : va_W) (fJ : Nat → Int64) (fs : List Value) {r : Int32} (hM : kMi l yX4_run wsX4_run rmX4_run (.ref b :: []) D wc w1 (kT cyI cyZ) r 0 0) (l1 : wc.length = 33) (l2 : w1.length = 33) (h0 : wc[0]? = some (b, .inr (4, fs))) : kWi l yL_run wsL_run rwL_run [.ref b, .ref o] D (wc ++ [(o, .inl (cyJ, 1, .inr (.inl fJ)))]) (w1 ++ [(o, .inl (cyJ, 1, .inr (.inl (vp_updL fJ 0 r.toInt64))))]) (kT3 cyI cyZ cyJ) 0 1 6 := by
  refine kOf_w (cc := cL_run) (maxL := 3) (hh := [(0, 8, 11, 13)]) (by decide +kernel) rfl (Nat.le_of_ble_eq_true rfl) ?_
  intro p e s m args below meth c A Z ls C0 htab hY hP hK hD hA hl ret
  obtain ⟨hx, hb, hr, hml, hown, hts, hlocks⟩ := C0
  have hown : s.vm.findClass RL = some m.cls := hown
  have hl : lv_has ls 3 [(0, .ref b), (1, .ref o)] := hl
  have hS : va_S A s.heap s.heap [] := va_S.rf
  have hK2 : va_K D vwCl (kT cyI cyZ) s := hK.sub [0, 1] rfl
  have hP : va_P D vwCl ([] ++ (wc ++ [(o, .inl (cyJ, 1, .inr (.inl fJ)))])) s.heap := hP
  have hD : va_D A ([] ++ (wc ++ [(o, .inl (cyJ, 1, .inr (.inl fJ)))])) := hD
  refine lv_aload_n hx hb dL_run_0 rfl (lv_at hl 1 rfl) ?_
  refine lv_iconst (v := 0) hx hb dL_run_1 (by decide) ?_
  refine lv_aload_n hx hb dL_run_2 rfl (lv_at hl 0 rfl) ?_
  refine kcm_Vi (As := []) (rest := [.int 0, .ref o]) (n1 := 0) (n2 := 33) (n3 := 1) (wl := []) (wc := wc) (w1 := w1) (wr := [(o, .inl (cyJ, 1, .inr (.inl fJ)))]) rfl l1 l2 rfl (by decide +kernel) hM ⟨hx, hb, hml, hown, hts⟩ (cwV 0 hts gL_run_X4_run rfl rfl rfl (by decide +kernel) ⟨Nat.le_of_ble_eq_true rfl, Nat.le_of_ble_eq_true rfl⟩) hK2 hP hD hS hA h0 rfl rfl rfl hl.1 rfl (Nat.le_of_ble_eq_true rfl) dL_run_3 ⟨Nat.le_of_ble_eq_true rfl, Nat.le_of_ble_eq_true rfl⟩ (fun H locs hP hD hS => ?_)
  have hP : va_P D vwCl (w1 ++ [(o, .inl (cyJ, 1, .inr (.inl fJ)))]) H := hP
  have hD : va_D A (w1 ++ [(o, .inl (cyJ, 1, .inr (.inl fJ)))]) := hD
  refine lv_i2l hx hb dL_run_6 rfl ?_
  refine va_last (f := fJ) hx hb hK hP hD hS 33 2 (lastAt l2) rfl vin01 dL_run_7 (fun H locs hP hD hS => ?_)
  rw [lastSet l2] at hP hD
  refine lv_goto (tgt := 14) hx hb dL_run_8 (by decide) ?_
  refine lv_iconst (v := 0) hx hb dL_run_14 (by decide) ?_
  refine W.widen (k := 1) (n := 6) (Nat.le_of_ble_eq_true rfl) (Nat.le_of_ble_eq_true rfl) ?_
  exact ret _ _ _ _ dL_run_15 hP hD hS
set_option maxHeartbeats 4000000 in
set_option maxRecDepth 100000 in
theorem v_run (l : Launch) (D : va_G) (cyI cyZ cyJ : ClassId) (b o : Nat) (wc : va_W) (fJ : Nat → Int64) (fs : List Value) {x : Nat} {k : Int32} (hM : kMxi l yX4_run wsX4_run rxX4_run (.ref b :: []) D wc (kT cyI cyZ) x 1 6) (l1 : wc.length = 33) (h0 : wc[0]? = some (b, .inr (4, fs))) (hc : cdS x = some k) : kWi l yL_run wsL_run rwL_run [.ref b, .ref o] D (wc ++ [(o, .inl (cyJ, 1, .inr (.inl fJ)))]) (wc ++ [(o, .inl (cyJ, 1, .inr (.inl fJ)))]) (kT3 cyI cyZ cyJ) k 1 6 := by
  refine kOf_w (cc := cL_run) (maxL := 3) (hh := [(0, 8, 11, 13)]) (by decide +kernel) rfl (Nat.le_of_ble_eq_true rfl) ?_
  intro p e s m args below meth c A Z ls C0 htab hY hP hK hD hA hl ret
  obtain ⟨hx, hb, hr, hml, hown, hts, hlocks⟩ := C0
  have hown : s.vm.findClass RL = some m.cls := hown
  have hl : lv_has ls 3 [(0, .ref b), (1, .ref o)] := hl
  have hS : va_S A s.heap s.heap [] := va_S.rf
  have hK2 : va_K D vwCl (kT cyI cyZ) s := hK.sub [0, 1] rfl
  have hP : va_P D vwCl ([] ++ (wc ++ [(o, .inl (cyJ, 1, .inr (.inl fJ)))])) s.heap := hP
  have hD : va_D A ([] ++ (wc ++ [(o, .inl (cyJ, 1, .inr (.inl fJ)))])) := hD
  have kl13 : (Cond.classLink RL 13 "java/lang/IllegalStateException").before args s = true := hts _ (by decide +kernel)
  refine lv_aload_n hx hb dL_run_0 rfl (lv_at hl 1 rfl) ?_
  refine lv_iconst (v := 0) hx hb dL_run_1 (by decide) ?_
  refine lv_aload_n hx hb dL_run_2 rfl (lv_at hl 0 rfl) ?_
  refine kxm_Vi (As := []) (rest := [.int 0, .ref o]) (n1 := 0) (n2 := 33) (n3 := 1) (wl := []) (wc := wc) (wr := [(o, .inl (cyJ, 1, .inr (.inl fJ)))]) rfl l1 rfl (by decide +kernel) hM ⟨hx, hb, hml, hown, hts⟩ (cwV 0 hts gL_run_X4_run rfl rfl rfl (by decide +kernel) ⟨Nat.le_of_ble_eq_true rfl, Nat.le_of_ble_eq_true rfl⟩) hK2 hY.1 hP hD hS hA h0 rfl rfl rfl hl.1 rfl (Nat.le_of_ble_eq_true rfl) dL_run_3 ⟨Nat.le_of_ble_eq_true rfl, Nat.le_of_ble_eq_true rfl⟩ (fun q9 ce H locs hP hD hS hce hv hcl => ?_)
  have hP : va_P D vwCl (wc ++ [(o, .inl (cyJ, 1, .inr (.inl fJ)))]) H := hP
  have hD : va_D A (wc ++ [(o, .inl (cyJ, 1, .inr (.inl fJ)))]) := hD
  unfold cdS at hc
  by_cases cx : x = 2
  · rw [if_pos cx] at hc
    obtain rfl := Option.some.inj hc
    subst cx
    refine vx_catch (own := RL) (name := "java/lang/IllegalStateException") (E := kISE) hown [] ⟨0, 8, 11, 13⟩ [] htab (fun z hz => by cases hz) rfl (by decide) kl13 (kcast hY (by decide +kernel)) hce hv hcl ?_
    refine lv_astore_n (lv' := [(2, .ref q9), (0, .ref b), (1, .ref o)]) hx hb dL_run_11 rfl hl (by decide) rfl (fun ls hl => ?_)
    refine lv_iconst (v := 1) hx hb dL_run_12 (by decide) ?_
    exact ret _ _ _ _ dL_run_13 hP hD hS
  rw [if_neg cx] at hc
  cases hc
abbrev rwL_output : Room := { frames := 7, cells := 1, slots := 6, locals := 103 }
set_option maxHeartbeats 4000000 in
set_option maxRecDepth 100000 in
theorem w_output (l : Launch) (D : va_G) (cyI cyZ cyJ : ClassId) (b o : Nat) (wc w1 : va_W) (fJ : Nat → Int64) (p1 : Int32) (fs : List Value) {r : Int32} (hM : kMi l yX4_output wsX4_output rmX4_output (.ref b :: [.int p1]) D wc w1 (kT cyI cyZ) r 0 0) (l1 : wc.length = 33) (l2 : w1.length = 33) (h0 : wc[0]? = some (b, .inr (4, fs))) : kWi l yL_output wsL_output rwL_output [.ref b, .int p1, .ref o] D (wc ++ [(o, .inl (cyJ, 1, .inr (.inl fJ)))]) (w1 ++ [(o, .inl (cyJ, 1, .inr (.inl (vp_updL fJ 0 r.toInt64))))]) (kT3 cyI cyZ cyJ) 0 1 6 := by
  refine kOf_w (cc := cL_output) (maxL := 4) (hh := [(0, 9, 12, 19)]) (by decide +kernel) rfl (Nat.le_of_ble_eq_true rfl) ?_
  intro p e s m args below meth c A Z ls C0 htab hY hP hK hD hA hl ret
  obtain ⟨hx, hb, hr, hml, hown, hts, hlocks⟩ := C0
  have hown : s.vm.findClass RL = some m.cls := hown
  have hl : lv_has ls 4 [(0, .ref b), (1, .int p1), (2, .ref o)] := hl
  have hS : va_S A s.heap s.heap [] := va_S.rf
  have hK2 : va_K D vwCl (kT cyI cyZ) s := hK.sub [0, 1] rfl
  have hP : va_P D vwCl ([] ++ (wc ++ [(o, .inl (cyJ, 1, .inr (.inl fJ)))])) s.heap := hP
  have hD : va_D A ([] ++ (wc ++ [(o, .inl (cyJ, 1, .inr (.inl fJ)))])) := hD
  refine lv_aload_n hx hb dL_output_0 rfl (lv_at hl 2 rfl) ?_
  refine lv_iconst (v := 0) hx hb dL_output_1 (by decide) ?_
  refine lv_aload_n hx hb dL_output_2 rfl (lv_at hl 0 rfl) ?_
  refine lv_iload_n hx hb dL_output_3 rfl (lv_at hl 1 rfl) ?_
  refine kcm_Vi (As := [.int p1]) (rest := [.int 0, .ref o]) (n1 := 0) (n2 := 33) (n3 := 1) (wl := []) (wc := wc) (w1 := w1) (wr := [(o, .inl (cyJ, 1, .inr (.inl fJ)))]) rfl l1 l2 rfl (by decide +kernel) hM ⟨hx, hb, hml, hown, hts⟩ (cwV 1 hts gL_output_X4_output rfl rfl rfl (by decide +kernel) ⟨Nat.le_of_ble_eq_true rfl, Nat.le_of_ble_eq_true rfl⟩) hK2 hP hD hS hA h0 rfl rfl rfl hl.1 rfl (Nat.le_of_ble_eq_true rfl) dL_output_4 ⟨Nat.le_of_ble_eq_true rfl, Nat.le_of_ble_eq_true rfl⟩ (fun H locs hP hD hS => ?_)
  have hP : va_P D vwCl (w1 ++ [(o, .inl (cyJ, 1, .inr (.inl fJ)))]) H := hP
  have hD : va_D A (w1 ++ [(o, .inl (cyJ, 1, .inr (.inl fJ)))]) := hD
  refine lv_i2l hx hb dL_output_7 rfl ?_
  refine va_last (f := fJ) hx hb hK hP hD hS 33 2 (lastAt l2) rfl vin01 dL_output_8 (fun H locs hP hD hS => ?_)
  rw [lastSet l2] at hP hD
  refine lv_goto (tgt := 15) hx hb dL_output_9 (by decide) ?_
  refine lv_iconst (v := 0) hx hb dL_output_15 (by decide) ?_
  refine W.widen (k := 1) (n := 6) (Nat.le_of_ble_eq_true rfl) (Nat.le_of_ble_eq_true rfl) ?_
  exact ret _ _ _ _ dL_output_16 hP hD hS
set_option maxHeartbeats 4000000 in
set_option maxRecDepth 100000 in
theorem v_output (l : Launch) (D : va_G) (cyI cyZ cyJ : ClassId) (b o : Nat) (wc : va_W) (fJ : Nat → Int64) (p1 : Int32) (fs : List Value) {x : Nat} {k : Int32} (hM : kMxi l yX4_output wsX4_output rxX4_output (.ref b :: [.int p1]) D wc (kT cyI cyZ) x 1 6) (l1 : wc.length = 33) (h0 : wc[0]? = some (b, .inr (4, fs))) (hc : cdI x = some k) : kWi l yL_output wsL_output rwL_output [.ref b, .int p1, .ref o] D (wc ++ [(o, .inl (cyJ, 1, .inr (.inl fJ)))]) (wc ++ [(o, .inl (cyJ, 1, .inr (.inl fJ)))]) (kT3 cyI cyZ cyJ) k 1 6 := by
  refine kOf_w (cc := cL_output) (maxL := 4) (hh := [(0, 9, 12, 19)]) (by decide +kernel) rfl (Nat.le_of_ble_eq_true rfl) ?_
  intro p e s m args below meth c A Z ls C0 htab hY hP hK hD hA hl ret
  obtain ⟨hx, hb, hr, hml, hown, hts, hlocks⟩ := C0
  have hown : s.vm.findClass RL = some m.cls := hown
  have hl : lv_has ls 4 [(0, .ref b), (1, .int p1), (2, .ref o)] := hl
  have hS : va_S A s.heap s.heap [] := va_S.rf
  have hK2 : va_K D vwCl (kT cyI cyZ) s := hK.sub [0, 1] rfl
  have hP : va_P D vwCl ([] ++ (wc ++ [(o, .inl (cyJ, 1, .inr (.inl fJ)))])) s.heap := hP
  have hD : va_D A ([] ++ (wc ++ [(o, .inl (cyJ, 1, .inr (.inl fJ)))])) := hD
  have kl19 : (Cond.classLink RL 19 "java/lang/IndexOutOfBoundsException").before args s = true := hts _ (by decide +kernel)
  refine lv_aload_n hx hb dL_output_0 rfl (lv_at hl 2 rfl) ?_
  refine lv_iconst (v := 0) hx hb dL_output_1 (by decide) ?_
  refine lv_aload_n hx hb dL_output_2 rfl (lv_at hl 0 rfl) ?_
  refine lv_iload_n hx hb dL_output_3 rfl (lv_at hl 1 rfl) ?_
  refine kxm_Vi (As := [.int p1]) (rest := [.int 0, .ref o]) (n1 := 0) (n2 := 33) (n3 := 1) (wl := []) (wc := wc) (wr := [(o, .inl (cyJ, 1, .inr (.inl fJ)))]) rfl l1 rfl (by decide +kernel) hM ⟨hx, hb, hml, hown, hts⟩ (cwV 1 hts gL_output_X4_output rfl rfl rfl (by decide +kernel) ⟨Nat.le_of_ble_eq_true rfl, Nat.le_of_ble_eq_true rfl⟩) hK2 hY.1 hP hD hS hA h0 rfl rfl rfl hl.1 rfl (Nat.le_of_ble_eq_true rfl) dL_output_4 ⟨Nat.le_of_ble_eq_true rfl, Nat.le_of_ble_eq_true rfl⟩ (fun q9 ce H locs hP hD hS hce hv hcl => ?_)
  have hP : va_P D vwCl (wc ++ [(o, .inl (cyJ, 1, .inr (.inl fJ)))]) H := hP
  have hD : va_D A (wc ++ [(o, .inl (cyJ, 1, .inr (.inl fJ)))]) := hD
  unfold cdI at hc
  by_cases cx : x = 0
  · rw [if_pos cx] at hc
    obtain rfl := Option.some.inj hc
    subst cx
    refine vx_catch (own := RL) (name := "java/lang/IndexOutOfBoundsException") (E := kIOB) hown [] ⟨0, 9, 12, 19⟩ [] htab (fun z hz => by cases hz) rfl (by decide) kl19 (kcast hY (by decide +kernel)) hce hv hcl ?_
    refine lv_astore_n (lv' := [(3, .ref q9), (0, .ref b), (1, .int p1), (2, .ref o)]) hx hb dL_output_12 rfl hl (by decide) rfl (fun ls hl => ?_)
    refine lv_iconst (v := 1) hx hb dL_output_13 (by decide) ?_
    exact ret _ _ _ _ dL_output_14 hP hD hS
  rw [if_neg cx] at hc
  cases hc
