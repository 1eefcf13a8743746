/-! ===== methods that throw: what their worlds need, contracts in short ===== -/
def kISE : String := "java/lang/IllegalStateException"
def kIOB : String := "java/lang/IndexOutOfBoundsException"
def kIAE : String := "java/lang/IllegalArgumentException"
abbrev kNames : List String := ["java/lang/RuntimeException", "java/lang/Exception"]
/-- the exceptions by number: 0 index, 1 argument, 2 state -/
def kE (o : Nat) : String := if o = 0 then kIOB else if o = 1 then kIAE else kISE
/-- the texts of the throws, by their entries -/
def kStr : List (Nat × String) := [(119, "there is no such kind of step"), (142, "there is no such output"), (167, "there is no such row, or no such number in it"), (171, "there is no such instruction"), (176, "there is no such instruction, or it is an OUT"), (178, "the kind is not one of those that are appended here"), (185, "there are 60 instructions"), (188, "there is no allocation"), (67, "the instruction is no CONST"), (80, "there are not so many instructions to remove"), (98, "the number of registers is not 2 to 8")]
abbrev kNg (X : String) : List Cond := [.castable X X, .declares (Bundle.initS "java/lang/RuntimeException"), .declares (Bundle.initS "java/lang/Exception"), .declares (Bundle.initS Bundle.tN)]
def kNgW : List Cond := [.castable kISE kISE, .castable kIOB kIOB, .castable kIAE kIAE, .declares (Bundle.initS "java/lang/RuntimeException"), .declares (Bundle.initS "java/lang/Exception"), .declares (Bundle.initS Bundle.tN)]
def kX (A : Nat → Prop) (U : State) : Prop :=
  (∀ q ∈ kStr, ∃ a : Nat, vk_R RX4 q.1 q.2 a U) ∧ (∀ w ∈ kNgW, va_Nw w U) ∧ vx_Zq Bundle.tN "UNASSIGNED_STACK" Bundle.steD A U U.heap ∧ vx_Zq Bundle.tN "SUPPRESSED_SENTINEL" Bundle.listD A U U.heap
theorem kX_call {A : Nat → Prop} {U : State} {g : JFrame} {mk : MethodId} {a : Array Value} (h : kX A U) : kX A (U.calling g mk a) := by
  obtain ⟨h1, h2, h3, h4⟩ := h
  refine ⟨fun q hq => ?_, fun w hw => ?_, vx_Zq.moved (u := U) (Vm.Alike.refl U.vm) h3, vx_Zq.moved (u := U) (Vm.Alike.refl U.vm) h4⟩
  · obtain ⟨x, hx⟩ := h1 q hq
    exact ⟨x, vk_R.same (u := U) rfl hx⟩
  · have hv : (U.calling g mk a).vm = U.vm := rfl
    have h := h2 w hw
    have ho : w.onTables = true := by
      have : ∀ w ∈ kNgW, w.onTables = true := by decide +kernel
      exact this w hw
    exact va_Nw.same ho hv.symm h
theorem kX_warm {A B : Nat → Prop} {s U : State} {H : Heap} {locs : List Loc} (hW : s.WarmedH U.vm) (hH : U.heap = H) (hS : va_S A s.heap H locs) (hAB : ∀ q, B q → A q) (h : kX A s) : kX B U := by
  obtain ⟨h1, h2, h3, h4⟩ := h
  refine ⟨fun q hq => ?_, fun w hw => ?_, ?_, ?_⟩
  · obtain ⟨x, hx⟩ := h1 q hq
    exact ⟨x, vk_R.warm hW hx⟩
  · have h := h2 w hw
    simp only [kNgW, List.mem_cons, List.not_mem_nil, or_false] at hw
    rcases hw with rfl | rfl | rfl | rfl | rfl | rfl
    · exact va_Nw.warmC hW h
    · exact va_Nw.warmC hW h
    · exact va_Nw.warmC hW h
    · exact va_Nw.warmD hW h
    · exact va_Nw.warmD hW h
    · exact va_Nw.warmD hW h
  · rw [hH]; exact vx_Zq.moved hW.alike ((h3.kept hS.2.1).narrow hAB)
  · rw [hH]; exact vx_Zq.moved hW.alike ((h4.kept hS.2.1).narrow hAB)
/-- the same world, seen from a heap further on, in the very state -/
theorem kX_at {A : Nat → Prop} {s : State} (h : kX A s) : ∀ w ∈ kNgW, w.before #[] s = true := h.2.1
def kPx (D : va_G) (ws : va_W) (tys : List (ClassId × FieldType)) (sz : Nat) (U : State) : Prop := kP D ws tys sz U ∧ kX (va_A ws sz) U
def kXC (D : va_G) (ws : va_W) (tys : List (ClassId × FieldType)) (sz o : Nat) : String → State → State → Prop := vx_X (fun (_ : Unit) => True) (fun E _ t => E = kE o ∧ kQ D ws tys (va_A ws sz) t) (va_A ws sz)
abbrev kQi0 (ws : va_W) (sz : Nat) : Array Value → State → Outcome → State → Prop := va_Qi (fun (_ : Int32) (_ : Unit) => False) (fun _ _ => True) (va_A ws sz)
abbrev kQv0 (ws : va_W) (sz : Nat) : Array Value → State → Outcome → State → Prop := va_Qv (fun (_ : Unit) => False) (fun _ _ => True) (va_A ws sz)
abbrev kMxi (l : Launch) (y : MethodName) (wy : List Cond) (rm : Room) (As : List Value) (D : va_G) (pre : va_W) (tys : List (ClassId × FieldType)) (o mc ms : Nat) : Prop :=
  ∀ sz : Nat, vx_Met l y wy rm (va_Pc As (kPx D pre tys sz)) (kQi0 pre sz) (kXC D pre tys sz o) mc ms (va_A pre sz)
abbrev kMxv (l : Launch) (y : MethodName) (wy : List Cond) (rm : Room) (As : List Value) (D : va_G) (pre : va_W) (tys : List (ClassId × FieldType)) (o mc ms : Nat) : Prop :=
  ∀ sz : Nat, vx_Met l y wy rm (va_Pc As (kPx D pre tys sz)) (kQv0 pre sz) (kXC D pre tys sz o) mc ms (va_A pre sz)
theorem kPx_blind {D : va_G} {ws : va_W} {tys : List (ClassId × FieldType)} {sz : Nat} {As : List Value} : FrameBlind (va_Pc As (kPx D ws tys sz)) :=
  fun a U g mk q => ⟨q.1, (kP_blind a U g mk ⟨q.1, q.2.1⟩).2, kX_call q.2.2⟩
section KOFX
variable {l : Launch} {y : MethodName} {wy ws' : List Cond} {rm : Room} {As : List Value} {D : va_G} {pre : va_W} {tys : List (ClassId × FieldType)} {mc ms o : Nat} {cc : ByteArray} {maxL : Nat}
theorem kOf_x {ret : Option FieldType} {Qc : va_W → Nat → Array Value → State → Outcome → State → Prop} (hy : plainName y.cls = true) (hw : wy = .code y cc maxL ret :: ws') (hn : (lg_sl As).length ≤ maxL)
    (body : ∀ (p : Program) (e : Env) (s : State) (m : MethodId) (args : Array Value) (below : List Frame) (meth : Method) (c : Code) (A : Nat → Prop) (ls : Array Slot), A = va_A pre s.heap.size → kC p s m args meth c y.cls cc maxL ret wy → (∀ x ∈ c.exceptionTable.toList, False) → kX A s → va_P D vwCl pre s.heap → va_K D vwCl tys s → va_D A pre → (∀ q, s.heap.size ≤ q → A q) → lv_has ls maxL (lv_args 0 As) →
      W p l e rm s m args below meth c s.heap [] 0 0 (vx_MQ below (Qc pre s.heap.size) (kXC D pre tys s.heap.size o) args s mc ms (va_A pre s.heap.size)) (F0 m 0 ls [])) :
    ∀ sz : Nat, vx_Met l y wy rm (va_Pc As (kPx D pre tys sz)) (Qc pre sz) (kXC D pre tys sz o) mc ms (va_A pre sz) := by
  intro sz
  refine vx_ofW (cc := cc) (maxL := maxL) (ret := ret) hy hw ?_
  intro p e s m args below meth c s₁ B hml hno hv
  obtain ⟨rfl, ⟨hsz, hP, hK, hD0⟩, hX⟩ := hv
  have hx := B.exec
  have hb := B.bytes
  have hr := B.returns
  have hts := atoms_spec (ws := wy) B.pre
  have hown : s.vm.findClass y.cls = some m.cls := findClass_of_methodNamed B.named
  have hlocks := B.notSynchronized
  subst hsz
  have hl := lv_entry As (n := maxL) hn
  rw [lg_entry_eq]
  exact body p e s m _ below meth c (va_A pre s.heap.size) _ rfl ⟨hx, hb, hr, hml, hown, hts, hlocks⟩ hno hX hP hK (hD0.self) (fun q h => Or.inr h) hl
end KOFX
section KTHROW
variable {p : Program} {l : Launch} {e : Env} {R : Room} {s : State} {m : MethodId} {args : Array Value} {below : List Frame} {meth : Method} {c : Code} {H : Heap} {locs : List Loc} {cells slots : Nat}
variable {cc : ByteArray} {pc : Nat} {ls : Array Slot} {rest st0 : List Value} {D : va_G} {A : Nat → Prop} {ws wc pre : va_W} {tys tc : List (ClassId × FieldType)} {o mc ms : Nat} {Qc : Array Value → State → Outcome → State → Prop}
/-- new X(text), thrown -/
theorem kThrow {Ts : List Cond} {cls : String} {ik is ic : Nat} {text : String} (hl : l.stackTraces = false) (hA : A = va_A pre s.heap.size) (hx : p.tables.exec = Jvm.exec) (hb : c.code = cc) (hown : s.vm.findClass RX4 = some m.cls) (hts : ∀ w ∈ Ts, w.before args s = true) (hlocks : meth.locks = false) (hno : ∀ x ∈ c.exceptionTable.toList, False) (hX : kX A s) (hK : va_K D vwCl tys s) (hP : va_P D vwCl pre H) (hD : va_D A pre) (hS : va_S A s.heap H locs) (hsz : ls.size = c.maxLocals)
    (hcls : cls = kE o) (hfit : Bundle.fit cls = true) (hstr : (is, text) ∈ kStr) (hk : Cond.classLink RX4 ik cls ∈ Ts) (hini : Cond.initialized cls ∈ Ts) (hgw : ∀ w ∈ (vx_atS RX4 ic cls kNames).filter goodWord, w ∈ Ts) (hng : ∀ w ∈ (vx_atS RX4 ic cls kNames).filter (fun w => !goodWord w), w ∈ kNgW)
    (hgood : ∀ w ∈ Cond.classLink RX4 ik cls :: Cond.initialized cls :: vx_atS RX4 ic cls kNames, vx_ot w = true)
    (d0 : decode cc pc = .ok (.new ik, 3)) (d3 : decode cc (pc + 3) = .ok (.dup, 1)) (d4 : decode cc (pc + 4) = .ok (.ldc is, 2)) (d6 : decode cc (pc + 6) = .ok (.invokespecial ic, 3)) (d9 : decode cc (pc + 9) = .ok (.athrow, 1))
    (hRframes : 5 < R.frames) (hRlocals : (rest.map fun v => v.category).sum + 82 ≤ R.locals) (hRcells : cells + 1 ≤ R.cells) (hRslots : slots + 6 ≤ R.slots) (hc : cells + 1 ≤ mc) (hs : slots + 6 ≤ ms) :
    W p l e R s m args below meth c H locs cells slots (vx_MQ below Qc (kXC D pre tys s.heap.size o) args s mc ms (va_A pre s.heap.size)) (F0 m pc ls rest) := by
  obtain ⟨sa, hsa⟩ := hX.1 (is, text) hstr
  have hat : ∀ w ∈ vx_atS RX4 ic cls kNames, w.before args s = true := by
    refine vx_hat (fun w hw => hts w (hgw w hw)) hng (fun w hw => ?_)
    have ho : w.onTables = true := by
      have : ∀ w ∈ kNgW, w.onTables = true := by decide +kernel
      exact this w hw
    exact va_Nw.use ho (hX.2.1 w hw)
  subst hA
  refine vx_throwS hx hb hl (A := va_A pre s.heap.size) hown hfit (by decide +kernel) (hts _ hk) (hts _ hini) hsa hat hgood hX.2.2.1 hX.2.2.2 hS hsz d0 d3 d4 d6 d9 (fun x hx => (hno x hx).elim) hRframes (by
      show (rest.map fun v => v.category).sum + (13 * (2 + 1) + 43) ≤ R.locals
      omega) hRcells hRslots hlocks (fun t hal hsz hq => ?_) hS.2.2 hc hs
  refine ⟨(), trivial, ⟨hcls, fun k q hk => (hP k q hk).kept (hq q.1 ((hP k q hk).lt)), hK.moved hal, hD⟩, Nat.le_trans hS.1 hsz, fun q h1 h2 => ?_⟩
  rw [hq q (Nat.lt_of_lt_of_le h1 hS.1)]
  exact hS.2.1 q h1 h2
variable {own C : String} {index maxL n nL b mc1 ms1 : Nat} {y : MethodName} {bytes : ByteArray} {ret : Option FieldType} {wy Ts : List Cond} {rm : Room} {As : List Value}
/-- a callee throws, and it goes on to the caller -/
theorem kxOut {q9 : Addr} {ce : Cell} {H1 : Heap} {locs1 : List Loc} (hA : A = va_A pre s.heap.size) (hlocks : meth.locks = false) (hno : ∀ x ∈ c.exceptionTable.toList, False) (hK : va_K D vwCl tys s) (hP : va_P D vwCl pre H1) (hD : va_D A pre) (hS : va_S A s.heap H1 locs1) (hce : H1[q9]? = some ce) (hv : ce.vm = .none) (hcl : s.vm.findClass (kE o) = some ce.cls) (hc : cells ≤ mc) (hs : slots ≤ ms) :
    vx_W p l e R s m args below meth c H1 locs1 cells slots (vx_MQ below Qc (kXC D pre tys s.heap.size o) args s mc ms (va_A pre s.heap.size)) (F0 m pc ls rest) q9 := by
  subst hA
  exact vx_out (fun x hx => (hno x hx).elim) hlocks hce hv hcl (fun t ht hal => ⟨(), trivial, ⟨rfl, by rw [ht]; exact hP, hK.moved hal, hD⟩, hS.F ht⟩) hS.2.2 hc hs
theorem kx_Vv {Q : State → Prop} {H0 : Heap} (hM : kMxv l y wy rm (.ref b :: As) D wc tc o mc1 ms1) (hcf : CallFix p m c cc nL s args Ts own) (cw : CallW R s args own C index y bytes maxL ret wy rm mc1 ms1 n)
    (hK : va_K D vwCl tc s) (hX : kX A s) (hP : va_P D vwCl ws H) (hD : va_D A ws) (hS : va_S A s.heap H locs) (hA : ∀ q, s.heap.size ≤ q → A q)
    (isC isR : List Nat) (nW : Nat) (hC : isC.map (fun i => ws[i]?) = wc.map some) (hR : kRest isR ws ws) (hlW : ws.length = nW) (hcov : kcov isC isR nW = true)
    {ci : Nat} {fs : List Value} {q : vw_C} (h0 : wc[0]? = some (b, .inr (ci, fs))) (hq : vwCl[ci]? = some q) (hqC : q.1 = C)
    (hn : As.length = n) (hl : ls.size = nL) (hst : st0 = As.reverse ++ .ref b :: rest) (hroom : (rest.map fun v => v.category).sum ≤ 8) (hdg : decode cc pc = .ok (.invokevirtual index, 3)) (hf : cells + mc1 ≤ R.cells ∧ slots + ms1 ≤ R.slots)
    (kx : ∀ (q9 : Addr) (ce : Cell) (H1 : Heap) (locs1 : List Loc), va_P D vwCl ws H1 → va_D A ws → va_S A s.heap H1 locs1 → H1[q9]? = some ce → ce.vm = .none → s.vm.findClass (kE o) = some ce.cls → vx_W p l e R s m args below meth c H1 locs1 (cells + mc1) (slots + ms1) Q (F0 m pc ls rest) q9) : W p l e R s m args below meth c H locs cells slots Q (F0 m pc ls st0) := by
  subst hqC
  have hPc := kSub hP isC hC
  have hDc := hD.sub isC (by simp only [kcov, Bool.and_eq_true] at hcov; exact (kNd _ _ hcov.1.1).1) hC
  have hFc := va_free (wc := wc) hD hS hA isC hC
  refine vx_callv (vx_runV (As := As) (rest := rest) hcf (hM H.size) cw ⟨kPx_blind, va_recv hK hPc hq h0, fun U hU hW => ⟨rfl, ⟨by rw [hU], by rw [hU]; exact hPc, va_K.moved hW.alike hK, hDc.weaken (fun _ _ _ _ => trivial)⟩, kX_warm hW hU hS hFc hX⟩⟩ rfl hn hl hst (lv_room hroom) hdg hf) hS (fun q _ h => hFc q h) hFc (fun q _ h => hFc q h) (fun E ce q9 u t H1 locs1 ht hvm hpx hB hz1 hk1 hS1 hce hcv hcl => ?_) (fun u t H1 locs1 ht hvm hw => hw.elim)
  obtain ⟨rfl, hP1, hK1, hD1⟩ := hB
  rw [ht] at hP1
  obtain ⟨hP2, hD2⟩ := kJoin (wf := ws) hP hD isC isR nW hC hC hR hlW hcov hk1 hFc hP1 hD1
  exact kx q9 ce H1 locs1 hP2 hD2 hS1 hce hcv hcl
theorem kx_Vi {Q : State → Prop} (hM : kMxi l y wy rm (.ref b :: As) D wc tc o mc1 ms1) (hcf : CallFix p m c cc nL s args Ts own) (cw : CallW R s args own C index y bytes maxL ret wy rm mc1 ms1 n)
    (hK : va_K D vwCl tc s) (hX : kX A s) (hP : va_P D vwCl ws H) (hD : va_D A ws) (hS : va_S A s.heap H locs) (hA : ∀ q, s.heap.size ≤ q → A q)
    (isC isR : List Nat) (nW : Nat) (hC : isC.map (fun i => ws[i]?) = wc.map some) (hR : kRest isR ws ws) (hlW : ws.length = nW) (hcov : kcov isC isR nW = true)
    {ci : Nat} {fs : List Value} {q : vw_C} (h0 : wc[0]? = some (b, .inr (ci, fs))) (hq : vwCl[ci]? = some q) (hqC : q.1 = C)
    (hn : As.length = n) (hl : ls.size = nL) (hst : st0 = As.reverse ++ .ref b :: rest) (hroom : (rest.map fun v => v.category).sum ≤ 8) (hdg : decode cc pc = .ok (.invokevirtual index, 3)) (hf : cells + mc1 ≤ R.cells ∧ slots + ms1 ≤ R.slots)
    (kx : ∀ (q9 : Addr) (ce : Cell) (H1 : Heap) (locs1 : List Loc), va_P D vwCl ws H1 → va_D A ws → va_S A s.heap H1 locs1 → H1[q9]? = some ce → ce.vm = .none → s.vm.findClass (kE o) = some ce.cls → vx_W p l e R s m args below meth c H1 locs1 (cells + mc1) (slots + ms1) Q (F0 m pc ls rest) q9) : W p l e R s m args below meth c H locs cells slots Q (F0 m pc ls st0) := by
  subst hqC
  have hPc := kSub hP isC hC
  have hDc := hD.sub isC (by simp only [kcov, Bool.and_eq_true] at hcov; exact (kNd _ _ hcov.1.1).1) hC
  have hFc := va_free (wc := wc) hD hS hA isC hC
  refine vx_calli (vx_runV (As := As) (rest := rest) hcf (hM H.size) cw ⟨kPx_blind, va_recv hK hPc hq h0, fun U hU hW => ⟨rfl, ⟨by rw [hU], by rw [hU]; exact hPc, va_K.moved hW.alike hK, hDc.weaken (fun _ _ _ _ => trivial)⟩, kX_warm hW hU hS hFc hX⟩⟩ rfl hn hl hst (lv_room hroom) hdg hf) hS (fun q _ h => hFc q h) hFc (fun q _ h => hFc q h) (fun E ce q9 u t H1 locs1 ht hvm hpx hB hz1 hk1 hS1 hce hcv hcl => ?_) (fun r u t H1 locs1 ht hvm hw => hw.elim)
  obtain ⟨rfl, hP1, hK1, hD1⟩ := hB
  rw [ht] at hP1
  obtain ⟨hP2, hD2⟩ := kJoin (wf := ws) hP hD isC isR nW hC hC hR hlW hcov hk1 hFc hP1 hD1
  exact kx q9 ce H1 locs1 hP2 hD2 hS1 hce hcv hcl
theorem kx_Sv {Q : State → Prop} (hM : kMxv l y wy rm As D wc tc o mc1 ms1) (hcf : CallFix p m c cc nL s args Ts own) (cw : CallB R s args own index y bytes maxL ret wy rm mc1 ms1 n ∧ (Cond.static y).before args s = true)
    (hK : va_K D vwCl tc s) (hX : kX A s) (hP : va_P D vwCl ws H) (hD : va_D A ws) (hS : va_S A s.heap H locs) (hA : ∀ q, s.heap.size ≤ q → A q)
    (isC isR : List Nat) (nW : Nat) (hC : isC.map (fun i => ws[i]?) = wc.map some) (hR : kRest isR ws ws) (hlW : ws.length = nW) (hcov : kcov isC isR nW = true)
    (hn : As.length = n) (hl : ls.size = nL) (hst : st0 = As.reverse ++ rest) (hroom : (rest.map fun v => v.category).sum ≤ 8) (hdg : decode cc pc = .ok (.invokestatic index, 3)) (hf : cells + mc1 ≤ R.cells ∧ slots + ms1 ≤ R.slots)
    (kx : ∀ (q9 : Addr) (ce : Cell) (H1 : Heap) (locs1 : List Loc), va_P D vwCl ws H1 → va_D A ws → va_S A s.heap H1 locs1 → H1[q9]? = some ce → ce.vm = .none → s.vm.findClass (kE o) = some ce.cls → vx_W p l e R s m args below meth c H1 locs1 (cells + mc1) (slots + ms1) Q (F0 m pc ls rest) q9) : W p l e R s m args below meth c H locs cells slots Q (F0 m pc ls st0) := by
  have hPc := kSub hP isC hC
  have hDc := hD.sub isC (by simp only [kcov, Bool.and_eq_true] at hcov; exact (kNd _ _ hcov.1.1).1) hC
  have hFc := va_free (wc := wc) hD hS hA isC hC
  refine vx_callv (vx_runS (As := As) (rest := rest) hcf (hM H.size) cw ⟨kPx_blind, fun U hU hW => ⟨rfl, ⟨by rw [hU], by rw [hU]; exact hPc, va_K.moved hW.alike hK, hDc.weaken (fun _ _ _ _ => trivial)⟩, kX_warm hW hU hS hFc hX⟩⟩ rfl hn hl hst (lv_room hroom) hdg hf) hS (fun q _ h => hFc q h) hFc (fun q _ h => hFc q h) (fun E ce q9 u t H1 locs1 ht hvm hpx hB hz1 hk1 hS1 hce hcv hcl => ?_) (fun u t H1 locs1 ht hvm hw => hw.elim)
  obtain ⟨rfl, hP1, hK1, hD1⟩ := hB
  rw [ht] at hP1
  obtain ⟨hP2, hD2⟩ := kJoin (wf := ws) hP hD isC isR nW hC hC hR hlW hcov hk1 hFc hP1 hD1
  exact kx q9 ce H1 locs1 hP2 hD2 hS1 hce hcv hcl
theorem kx_Si {Q : State → Prop} (hM : kMxi l y wy rm As D wc tc o mc1 ms1) (hcf : CallFix p m c cc nL s args Ts own) (cw : CallB R s args own index y bytes maxL ret wy rm mc1 ms1 n ∧ (Cond.static y).before args s = true)
    (hK : va_K D vwCl tc s) (hX : kX A s) (hP : va_P D vwCl ws H) (hD : va_D A ws) (hS : va_S A s.heap H locs) (hA : ∀ q, s.heap.size ≤ q → A q)
    (isC isR : List Nat) (nW : Nat) (hC : isC.map (fun i => ws[i]?) = wc.map some) (hR : kRest isR ws ws) (hlW : ws.length = nW) (hcov : kcov isC isR nW = true)
    (hn : As.length = n) (hl : ls.size = nL) (hst : st0 = As.reverse ++ rest) (hroom : (rest.map fun v => v.category).sum ≤ 8) (hdg : decode cc pc = .ok (.invokestatic index, 3)) (hf : cells + mc1 ≤ R.cells ∧ slots + ms1 ≤ R.slots)
    (kx : ∀ (q9 : Addr) (ce : Cell) (H1 : Heap) (locs1 : List Loc), va_P D vwCl ws H1 → va_D A ws → va_S A s.heap H1 locs1 → H1[q9]? = some ce → ce.vm = .none → s.vm.findClass (kE o) = some ce.cls → vx_W p l e R s m args below meth c H1 locs1 (cells + mc1) (slots + ms1) Q (F0 m pc ls rest) q9) : W p l e R s m args below meth c H locs cells slots Q (F0 m pc ls st0) := by
  have hPc := kSub hP isC hC
  have hDc := hD.sub isC (by simp only [kcov, Bool.and_eq_true] at hcov; exact (kNd _ _ hcov.1.1).1) hC
  have hFc := va_free (wc := wc) hD hS hA isC hC
  refine vx_calli (vx_runS (As := As) (rest := rest) hcf (hM H.size) cw ⟨kPx_blind, fun U hU hW => ⟨rfl, ⟨by rw [hU], by rw [hU]; exact hPc, va_K.moved hW.alike hK, hDc.weaken (fun _ _ _ _ => trivial)⟩, kX_warm hW hU hS hFc hX⟩⟩ rfl hn hl hst (lv_room hroom) hdg hf) hS (fun q _ h => hFc q h) hFc (fun q _ h => hFc q h) (fun E ce q9 u t H1 locs1 ht hvm hpx hB hz1 hk1 hS1 hce hcv hcl => ?_) (fun r u t H1 locs1 ht hvm hw => hw.elim)
  obtain ⟨rfl, hP1, hK1, hD1⟩ := hB
  rw [ht] at hP1
  obtain ⟨hP2, hD2⟩ := kJoin (wf := ws) hP hD isC isR nW hC hC hR hlW hcov hk1 hFc hP1 hD1
  exact kx q9 ce H1 locs1 hP2 hD2 hS1 hce hcv hcl
end KTHROW
/-- a throw, or what follows -/
def thr (a b : Option Nat) : Option Nat := match a with
  | some x => some x
  | none => b
theorem thr_some {a b : Option Nat} {o : Nat} (h : thr a b = some o) : a = some o ∨ (a = none ∧ b = some o) := by
  cases a with
  | none => exact Or.inr ⟨rfl, h⟩
  | some x => exact Or.inl h
theorem thr_0 {a b : Option Nat} (h : a = none) : thr a b = b := by rw [h]; rfl
theorem thr_1 {a b : Option Nat} {x : Nat} (h : a = some x) : thr a b = some x := by rw [h]; rfl
