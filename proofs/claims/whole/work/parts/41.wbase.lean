/-! ===== worlds within worlds ===== -/
theorem kRest_of {wf ws : va_W} : ∀ {is : List Nat}, (∀ i, i ∈ is → ∃ x : Nat × va_E, ws[i]? = some x ∧ wf[i]? = some x) → kRest is wf ws
  | [], _ => trivial
  | i :: _, h => ⟨h i List.mem_cons_self, kRest_of (fun j hj => h j (List.mem_cons_of_mem _ hj))⟩
theorem mid_at (wl wc wr : va_W) {k : Nat} (h : k < wc.length) : (wl ++ (wc ++ wr))[wl.length + k]? = wc[k]? := by
  rw [List.getElem?_append_right (Nat.le_add_right _ _), Nat.add_sub_cancel_left, List.getElem?_append_left h]
theorem mid_C (wl wc wr : va_W) : (List.range' wl.length wc.length).map (fun i => (wl ++ (wc ++ wr))[i]?) = wc.map some := by
  refine List.ext_getElem? (fun k => ?_)
  rw [List.getElem?_map, List.getElem?_map]
  by_cases h : k < wc.length
  · rw [List.getElem?_range' h, Option.map_some, Nat.one_mul, mid_at wl wc wr h, List.getElem?_eq_getElem h, Option.map_some]
  · rw [List.getElem?_eq_none (by rw [List.length_range']; omega), List.getElem?_eq_none (by omega)]; rfl
theorem mid_R (wl wc w1 wr : va_W) (h1 : w1.length = wc.length) : kRest (List.range wl.length ++ List.range' (wl.length + wc.length) wr.length) (wl ++ (w1 ++ wr)) (wl ++ (wc ++ wr)) := by
  refine kRest_of (fun i hi => ?_)
  rcases List.mem_append.mp hi with h | h
  · have hl := List.mem_range.mp h
    exact ⟨wl[i], by rw [List.getElem?_append_left hl, List.getElem?_eq_getElem hl], by rw [List.getElem?_append_left hl, List.getElem?_eq_getElem hl]⟩
  · obtain ⟨k, hk, rfl⟩ := List.mem_range'.mp h
    refine ⟨wr[k], ?_, ?_⟩
    · rw [List.getElem?_append_right (by omega), List.getElem?_append_right (by omega), show wl.length + wc.length + 1 * k - wl.length - wc.length = k by omega, List.getElem?_eq_getElem hk]
    · rw [List.getElem?_append_right (by omega), List.getElem?_append_right (by omega), show wl.length + wc.length + 1 * k - wl.length - w1.length = k by omega, List.getElem?_eq_getElem hk]
theorem lastAt {w : va_W} {n : Nat} {x : Nat × va_E} (h : w.length = n) : (w ++ [x])[n]? = some x := by
  rw [List.getElem?_append_right (by omega), h, Nat.sub_self]; rfl
theorem lastSet {w : va_W} {n : Nat} {x y : Nat × va_E} (h : w.length = n) : (w ++ [x]).set n y = w ++ [y] := by
  rw [List.set_append_right _ _ (by omega), h, Nat.sub_self]; rfl
section MID
variable {p : Program} {l : Launch} {e : Env} {R : Room} {s : State} {m : MethodId} {args : Array Value} {below : List Frame} {meth : Method} {c : Code} {H : Heap} {locs : List Loc} {cells slots : Nat} {Q : State → Prop}
variable {cc : ByteArray} {pc : Nat} {ls : Array Slot} {rest st0 : List Value} {D : va_G} {A : Nat → Prop} {H0 : Heap} {wl wc w1 wr : va_W} {tys tc : List (ClassId × FieldType)}
variable {own C : String} {index maxL mc ms n nL b n1 n2 n3 : Nat} {y : MethodName} {bytes : ByteArray} {ret : Option FieldType} {wy Ts : List Cond} {rm : Room} {As : List Value}
theorem kcm_Vi {r : Int32} (l1 : wl.length = n1) (l2 : wc.length = n2) (l2' : w1.length = n2) (l3 : wr.length = n3) (hcov : kcov (List.range' n1 n2) (List.range n1 ++ List.range' (n1 + n2) n3) (n1 + (n2 + n3)) = true)
    (hM : kMi l y wy rm (.ref b :: As) D wc w1 tc r mc ms) (hcf : CallFix p m c cc nL s args Ts own) (cw : CallW R s args own C index y bytes maxL ret wy rm mc ms n)
    (hK : va_K D vwCl tc s) (hP : va_P D vwCl (wl ++ (wc ++ wr)) H) (hD : va_D A (wl ++ (wc ++ wr))) (hS : va_S A H0 H locs) (hA : ∀ q, H0.size ≤ q → A q)
    {ci : Nat} {fs : List Value} {q : vw_C} (h0 : wc[0]? = some (b, .inr (ci, fs))) (hq : vwCl[ci]? = some q) (hqC : q.1 = C)
    (hn : As.length = n) (hl : ls.size = nL) (hst : st0 = As.reverse ++ .ref b :: rest) (hroom : (rest.map fun v => v.category).sum ≤ 8) (hdg : decode cc pc = .ok (.invokevirtual index, 3)) (hf : cells + mc ≤ R.cells ∧ slots + ms ≤ R.slots)
    (kk : ∀ (H1 : Heap) (locs1 : List Loc), va_P D vwCl (wl ++ (w1 ++ wr)) H1 → va_D A (wl ++ (w1 ++ wr)) → va_S A H0 H1 locs1 → W p l e R s m args below meth c H1 locs1 (cells + mc) (slots + ms) Q (F0 m (pc + 3) ls (.int r :: rest))) : W p l e R s m args below meth c H locs cells slots Q (F0 m pc ls st0) := by
  subst l1; subst l2; subst l3
  exact kc_Vi (wf := wl ++ (w1 ++ wr)) hM hcf cw hK hP hD hS hA _ _ _ (mid_C wl wc wr) (by rw [← l2']; exact mid_C wl w1 wr) (mid_R wl wc w1 wr l2') (by rw [List.length_append, List.length_append, l2']) hcov h0 hq hqC hn hl hst hroom hdg hf kk
theorem kcm_Vl {r : Int64} (l1 : wl.length = n1) (l2 : wc.length = n2) (l2' : w1.length = n2) (l3 : wr.length = n3) (hcov : kcov (List.range' n1 n2) (List.range n1 ++ List.range' (n1 + n2) n3) (n1 + (n2 + n3)) = true)
    (hM : kMl l y wy rm (.ref b :: As) D wc w1 tc r mc ms) (hcf : CallFix p m c cc nL s args Ts own) (cw : CallW R s args own C index y bytes maxL ret wy rm mc ms n)
    (hK : va_K D vwCl tc s) (hP : va_P D vwCl (wl ++ (wc ++ wr)) H) (hD : va_D A (wl ++ (wc ++ wr))) (hS : va_S A H0 H locs) (hA : ∀ q, H0.size ≤ q → A q)
    {ci : Nat} {fs : List Value} {q : vw_C} (h0 : wc[0]? = some (b, .inr (ci, fs))) (hq : vwCl[ci]? = some q) (hqC : q.1 = C)
    (hn : As.length = n) (hl : ls.size = nL) (hst : st0 = As.reverse ++ .ref b :: rest) (hroom : (rest.map fun v => v.category).sum ≤ 8) (hdg : decode cc pc = .ok (.invokevirtual index, 3)) (hf : cells + mc ≤ R.cells ∧ slots + ms ≤ R.slots)
    (kk : ∀ (H1 : Heap) (locs1 : List Loc), va_P D vwCl (wl ++ (w1 ++ wr)) H1 → va_D A (wl ++ (w1 ++ wr)) → va_S A H0 H1 locs1 → W p l e R s m args below meth c H1 locs1 (cells + mc) (slots + ms) Q (F0 m (pc + 3) ls (.long r :: rest))) : W p l e R s m args below meth c H locs cells slots Q (F0 m pc ls st0) := by
  subst l1; subst l2; subst l3
  exact kc_Vl (wf := wl ++ (w1 ++ wr)) hM hcf cw hK hP hD hS hA _ _ _ (mid_C wl wc wr) (by rw [← l2']; exact mid_C wl w1 wr) (mid_R wl wc w1 wr l2') (by rw [List.length_append, List.length_append, l2']) hcov h0 hq hqC hn hl hst hroom hdg hf kk
theorem kxm_Vi {o : Nat} (l1 : wl.length = n1) (l2 : wc.length = n2) (l3 : wr.length = n3) (hcov : kcov (List.range' n1 n2) (List.range n1 ++ List.range' (n1 + n2) n3) (n1 + (n2 + n3)) = true)
    (hM : kMxi l y wy rm (.ref b :: As) D wc tc o mc ms) (hcf : CallFix p m c cc nL s args Ts own) (cw : CallW R s args own C index y bytes maxL ret wy rm mc ms n)
    (hK : va_K D vwCl tc s) (hX : kX A s) (hP : va_P D vwCl (wl ++ (wc ++ wr)) H) (hD : va_D A (wl ++ (wc ++ wr))) (hS : va_S A s.heap H locs) (hA : ∀ q, s.heap.size ≤ q → A q)
    {ci : Nat} {fs : List Value} {q : vw_C} (h0 : wc[0]? = some (b, .inr (ci, fs))) (hq : vwCl[ci]? = some q) (hqC : q.1 = C)
    (hn : As.length = n) (hl : ls.size = nL) (hst : st0 = As.reverse ++ .ref b :: rest) (hroom : (rest.map fun v => v.category).sum ≤ 8) (hdg : decode cc pc = .ok (.invokevirtual index, 3)) (hf : cells + mc ≤ R.cells ∧ slots + ms ≤ R.slots)
    (kx : ∀ (q9 : Addr) (ce : Cell) (H1 : Heap) (locs1 : List Loc), va_P D vwCl (wl ++ (wc ++ wr)) H1 → va_D A (wl ++ (wc ++ wr)) → va_S A s.heap H1 locs1 → H1[q9]? = some ce → ce.vm = .none → s.vm.findClass (kE o) = some ce.cls → vx_W p l e R s m args below meth c H1 locs1 (cells + mc) (slots + ms) Q (F0 m pc ls rest) q9) : W p l e R s m args below meth c H locs cells slots Q (F0 m pc ls st0) := by
  subst l1; subst l2; subst l3
  exact kx_Vi hM hcf cw hK hX hP hD hS hA _ _ _ (mid_C wl wc wr) (mid_R wl wc wc wr rfl) (by rw [List.length_append, List.length_append]) hcov h0 hq hqC hn hl hst hroom hdg hf kx
end MID
/-! ===== the law's own callers: what they have at hand, their contracts ===== -/
abbrev kT3 (cyI cyZ cyJ : ClassId) : List (ClassId × FieldType) := [(cyI, .int), (cyZ, .boolean), (cyJ, .long)]
def kNcs : List (String × String) := [(kIAE, kISE), (kIAE, kIOB), (kISE, kIAE), (kISE, kIOB), (kIOB, kIAE), (kIOB, kISE)]
def kY (A : Nat → Prop) (U : State) : Prop := kX A U ∧ ∀ q ∈ kNcs, va_Nc q.1 q.2 U
theorem kY_call {A : Nat → Prop} {U : State} {g : JFrame} {mk : MethodId} {a : Array Value} (h : kY A U) : kY A (U.calling g mk a) := ⟨kX_call h.1, fun q hq => va_Nc.moved (u := U) (Vm.Alike.refl U.vm) (h.2 q hq)⟩
theorem kY_warm {A B : Nat → Prop} {s U : State} {H : Heap} {locs : List Loc} (hW : s.WarmedH U.vm) (hH : U.heap = H) (hS : va_S A s.heap H locs) (hAB : ∀ q, B q → A q) (h : kY A s) : kY B U := ⟨kX_warm hW hH hS hAB h.1, fun q hq => va_Nc.moved hW.alike (h.2 q hq)⟩
def kPy (D : va_G) (ws : va_W) (tys : List (ClassId × FieldType)) (sz : Nat) (U : State) : Prop := kP D ws tys sz U ∧ kY (va_A ws sz) U
theorem kPy_blind {D : va_G} {ws : va_W} {tys : List (ClassId × FieldType)} {sz : Nat} {As : List Value} : FrameBlind (va_Pc As (kPy D ws tys sz)) :=
  fun a U g mk q => ⟨q.1, (kP_blind a U g mk ⟨q.1, q.2.1⟩).2, kY_call q.2.2⟩
abbrev kWQ (D : va_G) (pre post : va_W) (tys : List (ClassId × FieldType)) (r : Int32) (sz : Nat) : Array Value → State → Outcome → State → Prop := va_Qi (fun (r' : Int32) (_ : Unit) => r' = r) (fun _ t => kQ D post tys (va_A pre sz) t) (va_A pre sz)
abbrev kWX (pre : va_W) (sz : Nat) : String → State → State → Prop := vx_X (fun (_ : Unit) => False) (fun _ _ _ => True) (va_A pre sz)
abbrev kWi (l : Launch) (y : MethodName) (wy : List Cond) (rm : Room) (As : List Value) (D : va_G) (pre post : va_W) (tys : List (ClassId × FieldType)) (r : Int32) (mc ms : Nat) : Prop :=
  ∀ sz : Nat, vx_Met l y wy rm (va_Pc As (kPy D pre tys sz)) (kWQ D pre post tys r sz) (kWX pre sz) mc ms (va_A pre sz)
theorem kOf_w {l : Launch} {y : MethodName} {wy ws' : List Cond} {rm : Room} {As : List Value} {D : va_G} {pre post : va_W} {tys : List (ClassId × FieldType)} {r : Int32} {mc ms : Nat} {cc : ByteArray} {maxL : Nat} {hh : List (Nat × Nat × Nat × Nat)} (hy : plainName y.cls = true) (hw : wy = .codeWith y cc maxL (some .int) hh :: ws') (hn : (lg_sl As).length ≤ maxL)
    (body : ∀ (p : Program) (e : Env) (s : State) (m : MethodId) (args : Array Value) (below : List Frame) (meth : Method) (c : Code) (A : Nat → Prop) (Z : State → Prop) (ls : Array Slot), kC p s m args meth c y.cls cc maxL (some .int) wy → c.exceptionTable.toList = tableOf hh → kY A s → va_P D vwCl pre s.heap → va_K D vwCl tys s → va_D A pre → (∀ q, s.heap.size ≤ q → A q) → lv_has ls maxL (lv_args 0 As) →
      (∀ (pc : Nat) (H : Heap) (locs : List Loc) (ls : Array Slot), decode cc pc = .ok (.ireturn, 1) → va_P D vwCl post H → va_D A post → va_S A s.heap H locs → W p l e rm s m args below meth c H locs mc ms Z (F0 m pc ls [.int r])) →
      W p l e rm s m args below meth c s.heap [] 0 0 Z (F0 m 0 ls [])) : kWi l y wy rm As D pre post tys r mc ms := by
  intro sz
  refine vx_ofWH (cc := cc) (maxL := maxL) (ret := some .int) (hh := hh) hy hw ?_
  intro p e s m args below meth c s₁ B hml hv
  obtain ⟨rfl, ⟨hsz, hP, hK, hD0⟩, hY⟩ := hv
  have hx := B.exec
  have hb := B.bytes
  have hr := B.returns
  have hts := atoms_spec (ws := wy) B.pre
  have hown : s.vm.findClass y.cls = some m.cls := findClass_of_methodNamed B.named
  have hlocks := B.notSynchronized
  have htab := vx_table (x := y) B (hts _ (by rw [hw]; exact List.mem_cons_self))
  subst hsz
  have hl := lv_entry As (n := maxL) hn
  rw [lg_entry_eq]
  exact body p e s m _ below meth c (va_A pre s.heap.size) _ _ ⟨hx, hb, hr, hml, hown, hts, hlocks⟩ htab hY hP hK (hD0.self) (fun q h => Or.inr h) hl
    (fun pc H locs ls hdg hP1 hD1 hS1 => vx_ret (W.zret (v := r) hx hb hr rfl (fun t ht hW => ⟨⟨r, (), rfl, rfl, by rw [ht]; exact hP1, va_K.moved hW.alike hK, hD1⟩, hS1.F ht⟩) hS1.2.2 hdg hlocks))
theorem kcast {A : Nat → Prop} {s : State} {args : Array Value} {E : String} (h : kY A s) (hE : Cond.castable E E ∈ kNgW) : (Cond.castable E E).before args s = true := by
  have ho : ∀ w ∈ kNgW, w.onTables = true := by decide +kernel
  exact va_Nw.use (ho _ hE) (h.1.2.1 _ hE)
section WCALL
variable {p : Program} {l : Launch} {e : Env} {R : Room} {s : State} {m : MethodId} {args : Array Value} {below : List Frame} {meth : Method} {c : Code} {H : Heap} {locs : List Loc} {cells slots : Nat} {Q : State → Prop}
variable {cc : ByteArray} {pc : Nat} {ls : Array Slot} {rest st0 : List Value} {D : va_G} {A : Nat → Prop} {wl wc w1 wr : va_W} {tys : List (ClassId × FieldType)}
variable {own : String} {index maxL mc ms n nL n1 n2 n3 : Nat} {y : MethodName} {bytes : ByteArray} {ret : Option FieldType} {hh : List (Nat × Nat × Nat × Nat)} {wy Ts : List Cond} {rm : Room} {As : List Value}
theorem kwm_S {r : Int32} (l1 : wl.length = n1) (l2 : wc.length = n2) (l2' : w1.length = n2) (l3 : wr.length = n3) (hcov : kcov (List.range' n1 n2) (List.range n1 ++ List.range' (n1 + n2) n3) (n1 + (n2 + n3)) = true)
    (hM : kWi l y wy rm As D wc w1 tys r mc ms) (hcf : CallFix p m c cc nL s args Ts own) (cw : vx_CSW R s args own index y bytes maxL ret hh wy rm mc ms n)
    (hK : va_K D vwCl tys s) (hY : kY A s) (hP : va_P D vwCl (wl ++ (wc ++ wr)) H) (hD : va_D A (wl ++ (wc ++ wr))) (hS : va_S A s.heap H locs) (hA : ∀ q, s.heap.size ≤ q → A q)
    (hn : As.length = n) (hl : ls.size = nL) (hst : st0 = As.reverse ++ rest) (hroom : (rest.map fun v => v.category).sum ≤ 8) (hdg : decode cc pc = .ok (.invokestatic index, 3)) (hf : cells + mc ≤ R.cells ∧ slots + ms ≤ R.slots)
    (kk : ∀ (H1 : Heap) (locs1 : List Loc), va_P D vwCl (wl ++ (w1 ++ wr)) H1 → va_D A (wl ++ (w1 ++ wr)) → va_S A s.heap H1 locs1 → W p l e R s m args below meth c H1 locs1 (cells + mc) (slots + ms) Q (F0 m (pc + 3) ls (.int r :: rest))) : W p l e R s m args below meth c H locs cells slots Q (F0 m pc ls st0) := by
  subst l1; subst l2; subst l3
  have hC := mid_C wl wc wr
  have hPc := kSub hP _ hC
  have hDc := hD.sub _ (by simp only [kcov, Bool.and_eq_true] at hcov; exact (kNd _ _ hcov.1.1).1) hC
  have hFc := va_free (wc := wc) hD hS hA _ hC
  refine vx_calli (vx_runSX (As := As) (rest := rest) hcf (hM H.size) cw ⟨kPy_blind, fun U hU hW => ⟨rfl, ⟨by rw [hU], by rw [hU]; exact hPc, va_K.moved hW.alike hK, hDc.weaken (fun _ _ _ _ => trivial)⟩, kY_warm hW hU hS hFc hY⟩⟩ rfl hn hl hst (lv_room hroom) hdg hf) hS (fun q _ h => hFc q h) hFc (fun q _ h => hFc q h) (fun E ce q9 u t H1 locs1 ht hvm hpx hB hz1 hk1 hS1 hce hcv hcl => hpx.elim) (fun r' u t H1 locs1 ht hvm hw hB hz1 hk1 hS1 => ?_)
  obtain ⟨hP1, hK1, hD1⟩ := hB
  rw [ht] at hP1
  subst hw
  obtain ⟨hP2, hD2⟩ := kJoin (wf := wl ++ (w1 ++ wr)) hP hD _ _ _ hC (by rw [← l2']; exact mid_C wl w1 wr) (mid_R wl wc w1 wr l2') (by rw [List.length_append, List.length_append, l2']) hcov hk1 hFc hP1 hD1
  exact kk H1 locs1 hP2 hD2 hS1
/-- lcmp of two equal numbers -/
theorem kl_cmp (hexec : p.tables.exec = Jvm.exec) (hb : c.code = cc) {x : Int64} (hdg : decode cc pc = .ok (.lcmp, 1))
    (k : W p l e R s m args below meth c H locs cells slots Q (F0 m (pc + 1) ls (.int 0 :: rest))) : W p l e R s m args below meth c H locs cells slots Q (F0 m pc ls (.long x :: .long x :: rest)) := by
  intro T hT X
  obtain ⟨t, a, b⟩ := k T hT X
  refine ⟨t, ?_, b⟩
  jvm_step X.here [X.here.top, hexec, hb, hdg]
  exact a
end WCALL
