/-! ===== pictures of worlds, contracts in short, calls in short ===== -/
def kP (D : va_G) (ws : va_W) (tys : List (ClassId × FieldType)) (sz : Nat) (U : State) : Prop := U.heap.size = sz ∧ va_P D vwCl ws U.heap ∧ va_K D vwCl tys U ∧ va_D (fun _ => True) ws
def kQ (D : va_G) (ws : va_W) (tys : List (ClassId × FieldType)) (A : Nat → Prop) (t : State) : Prop := va_P D vwCl ws t.heap ∧ va_K D vwCl tys t ∧ va_D A ws
abbrev kMi (l : Launch) (y : MethodName) (wy : List Cond) (rm : Room) (As : List Value) (D : va_G) (pre post : va_W) (tys : List (ClassId × FieldType)) (r : Int32) (mc ms : Nat) : Prop :=
  ∀ sz : Nat, Met l y wy rm (va_Pc As (kP D pre tys sz)) (va_Qi (fun (r' : Int32) (_ : Unit) => r' = r) (fun _ t => kQ D post tys (va_A pre sz) t) (va_A pre sz)) mc ms (va_A pre sz)
abbrev kMl (l : Launch) (y : MethodName) (wy : List Cond) (rm : Room) (As : List Value) (D : va_G) (pre post : va_W) (tys : List (ClassId × FieldType)) (r : Int64) (mc ms : Nat) : Prop :=
  ∀ sz : Nat, Met l y wy rm (va_Pc As (kP D pre tys sz)) (va_Ql (fun (r' : Int64) (_ : Unit) => r' = r) (fun _ t => kQ D post tys (va_A pre sz) t) (va_A pre sz)) mc ms (va_A pre sz)
abbrev kMv (l : Launch) (y : MethodName) (wy : List Cond) (rm : Room) (As : List Value) (D : va_G) (pre post : va_W) (tys : List (ClassId × FieldType)) (mc ms : Nat) : Prop :=
  ∀ sz : Nat, Met l y wy rm (va_Pc As (kP D pre tys sz)) (va_Qv (fun (_ : Unit) => True) (fun _ t => kQ D post tys (va_A pre sz) t) (va_A pre sz)) mc ms (va_A pre sz)
abbrev kMr (l : Launch) (y : MethodName) (wy : List Cond) (rm : Room) (As : List Value) (D : va_G) (pre post : va_W) (tys : List (ClassId × FieldType)) (r : Nat) (mc ms : Nat) : Prop :=
  ∀ sz : Nat, Met l y wy rm (va_Pc As (kP D pre tys sz)) (va_Qr (fun (_ : Unit) => True) (fun _ a t => a = r ∧ kQ D post tys (va_A pre sz) t) (va_A pre sz)) mc ms (va_A pre sz)
theorem kP_blind {D : va_G} {ws : va_W} {tys : List (ClassId × FieldType)} {sz : Nat} {As : List Value} : FrameBlind (va_Pc As (kP D ws tys sz)) :=
  fun a U g mk q => by
    obtain ⟨q0, q1, qP, qK, qD⟩ := q
    exact ⟨q0, q1, qP, va_K.moved (u := U) (U := U.calling g mk a) (Vm.Alike.refl U.vm) qK, qD⟩
/-- what a walk of a method's body has at hand -/
def kC (p : Program) (s : State) (m : MethodId) (args : Array Value) (meth : Method) (c : Code) (own : String) (cc : ByteArray) (nL : Nat) (ret : Option FieldType) (Ts : List Cond) : Prop :=
  p.tables.exec = Jvm.exec ∧ c.code = cc ∧ meth.sig.returnType = ret ∧ c.maxLocals = nL ∧ s.vm.findClass own = some m.cls ∧ (∀ w ∈ Ts, w.before args s = true) ∧ meth.locks = false
section KOF
variable {l : Launch} {y : MethodName} {wy ws' : List Cond} {rm : Room} {As : List Value} {D : va_G} {pre post : va_W} {tys : List (ClassId × FieldType)} {mc ms : Nat} {cc : ByteArray} {maxL : Nat}
theorem kOf_i {ty : FieldType} {r : Int32} (hy : plainName y.cls = true) (hw : wy = .code y cc maxL (some ty) :: ws') (hn : (lg_sl As).length ≤ maxL)
    (body : ∀ (p : Program) (e : Env) (s : State) (m : MethodId) (args : Array Value) (below : List Frame) (meth : Method) (c : Code) (A : Nat → Prop) (Z : State → Prop) (ls : Array Slot), kC p s m args meth c y.cls cc maxL (some ty) wy → va_P D vwCl pre s.heap → va_K D vwCl tys s → va_D A pre → (∀ q, s.heap.size ≤ q → A q) → lv_has ls maxL (lv_args 0 As) →
      (∀ (pc : Nat) (H : Heap) (locs : List Loc) (ls : Array Slot), decode cc pc = .ok (.ireturn, 1) → narrow ty (.int r) = .int r → va_P D vwCl post H → va_D A post → va_S A s.heap H locs → W p l e rm s m args below meth c H locs mc ms Z (F0 m pc ls [.int r])) →
      W p l e rm s m args below meth c s.heap [] 0 0 Z (F0 m 0 ls [])) : kMi l y wy rm As D pre post tys r mc ms := by
  intro sz
  refine Met.ofW (cc := cc) (maxL := maxL) (ret := some ty) hy hw ?_
  intro p e s m args below meth c s₁ B hml hv
  obtain ⟨rfl, hsz, hP, hK, hD0⟩ := hv
  have hx := B.exec
  have hb := B.bytes
  have hr := B.returns
  have hts := atoms_spec (ws := wy) B.pre
  have hown : s.vm.findClass y.cls = some m.cls := findClass_of_methodNamed B.named
  have hlocks := B.notSynchronized
  subst hsz
  have hl := lv_entry As (n := maxL) hn
  rw [lg_entry_eq]
  exact body p e s m _ below meth c (va_A pre s.heap.size) _ _ ⟨hx, hb, hr, hml, hown, hts, hlocks⟩ hP hK (hD0.self) (fun q h => Or.inr h) hl
    (fun pc H locs ls hdg hnn hP1 hD1 hS1 => W.zret (v := r) hx hb hr hnn (fun t ht hW => ⟨⟨r, (), rfl, rfl, by rw [ht]; exact hP1, va_K.moved hW.alike hK, hD1⟩, hS1.F ht⟩) hS1.2.2 hdg hlocks)
theorem kOf_l {r : Int64} (hy : plainName y.cls = true) (hw : wy = .code y cc maxL (some .long) :: ws') (hn : (lg_sl As).length ≤ maxL)
    (body : ∀ (p : Program) (e : Env) (s : State) (m : MethodId) (args : Array Value) (below : List Frame) (meth : Method) (c : Code) (A : Nat → Prop) (Z : State → Prop) (ls : Array Slot), kC p s m args meth c y.cls cc maxL (some .long) wy → va_P D vwCl pre s.heap → va_K D vwCl tys s → va_D A pre → (∀ q, s.heap.size ≤ q → A q) → lv_has ls maxL (lv_args 0 As) →
      (∀ (pc : Nat) (H : Heap) (locs : List Loc) (ls : Array Slot), decode cc pc = .ok (.lreturn, 1) → va_P D vwCl post H → va_D A post → va_S A s.heap H locs → W p l e rm s m args below meth c H locs mc ms Z (F0 m pc ls [.long r])) →
      W p l e rm s m args below meth c s.heap [] 0 0 Z (F0 m 0 ls [])) : kMl l y wy rm As D pre post tys r mc ms := by
  intro sz
  refine Met.ofW (cc := cc) (maxL := maxL) (ret := some .long) hy hw ?_
  intro p e s m args below meth c s₁ B hml hv
  obtain ⟨rfl, hsz, hP, hK, hD0⟩ := hv
  have hx := B.exec
  have hb := B.bytes
  have hr := B.returns
  have hts := atoms_spec (ws := wy) B.pre
  have hown : s.vm.findClass y.cls = some m.cls := findClass_of_methodNamed B.named
  have hlocks := B.notSynchronized
  subst hsz
  have hl := lv_entry As (n := maxL) hn
  rw [lg_entry_eq]
  exact body p e s m _ below meth c (va_A pre s.heap.size) _ _ ⟨hx, hb, hr, hml, hown, hts, hlocks⟩ hP hK (hD0.self) (fun q h => Or.inr h) hl
    (fun pc H locs ls hdg hP1 hD1 hS1 => W.lret (v := r) hx hb hr (fun t ht hW => ⟨⟨r, (), rfl, rfl, by rw [ht]; exact hP1, va_K.moved hW.alike hK, hD1⟩, hS1.F ht⟩) hS1.2.2 hdg hlocks)
theorem kOf_v (hy : plainName y.cls = true) (hw : wy = .code y cc maxL none :: ws') (hn : (lg_sl As).length ≤ maxL)
    (body : ∀ (p : Program) (e : Env) (s : State) (m : MethodId) (args : Array Value) (below : List Frame) (meth : Method) (c : Code) (A : Nat → Prop) (Z : State → Prop) (ls : Array Slot), kC p s m args meth c y.cls cc maxL none wy → va_P D vwCl pre s.heap → va_K D vwCl tys s → va_D A pre → (∀ q, s.heap.size ≤ q → A q) → lv_has ls maxL (lv_args 0 As) →
      (∀ (pc : Nat) (H : Heap) (locs : List Loc) (ls : Array Slot), decode cc pc = .ok (.return_, 1) → va_P D vwCl post H → va_D A post → va_S A s.heap H locs → W p l e rm s m args below meth c H locs mc ms Z (F0 m pc ls [])) →
      W p l e rm s m args below meth c s.heap [] 0 0 Z (F0 m 0 ls [])) : kMv l y wy rm As D pre post tys mc ms := by
  intro sz
  refine Met.ofW (cc := cc) (maxL := maxL) (ret := none) hy hw ?_
  intro p e s m args below meth c s₁ B hml hv
  obtain ⟨rfl, hsz, hP, hK, hD0⟩ := hv
  have hx := B.exec
  have hb := B.bytes
  have hr := B.returns
  have hts := atoms_spec (ws := wy) B.pre
  have hown : s.vm.findClass y.cls = some m.cls := findClass_of_methodNamed B.named
  have hlocks := B.notSynchronized
  subst hsz
  have hl := lv_entry As (n := maxL) hn
  rw [lg_entry_eq]
  exact body p e s m _ below meth c (va_A pre s.heap.size) _ _ ⟨hx, hb, hr, hml, hown, hts, hlocks⟩ hP hK (hD0.self) (fun q h => Or.inr h) hl
    (fun pc H locs ls hdg hP1 hD1 hS1 => W.vret hx hb hr (fun t ht hW => ⟨⟨(), rfl, trivial, by rw [ht]; exact hP1, va_K.moved hW.alike hK, hD1⟩, hS1.F ht⟩) hS1.2.2 hdg hlocks)
theorem kOf_r {C : String} {r : Nat} (hy : plainName y.cls = true) (hw : wy = .code y cc maxL (some (.object C)) :: ws') (hn : (lg_sl As).length ≤ maxL)
    (body : ∀ (p : Program) (e : Env) (s : State) (m : MethodId) (args : Array Value) (below : List Frame) (meth : Method) (c : Code) (A : Nat → Prop) (Z : State → Prop) (ls : Array Slot), kC p s m args meth c y.cls cc maxL (some (.object C)) wy → va_P D vwCl pre s.heap → va_K D vwCl tys s → va_D A pre → (∀ q, s.heap.size ≤ q → A q) → lv_has ls maxL (lv_args 0 As) →
      (∀ (pc : Nat) (H : Heap) (locs : List Loc) (ls : Array Slot), decode cc pc = .ok (.areturn, 1) → va_P D vwCl post H → va_D A post → va_S A s.heap H locs → W p l e rm s m args below meth c H locs mc ms Z (F0 m pc ls [.ref r])) →
      W p l e rm s m args below meth c s.heap [] 0 0 Z (F0 m 0 ls [])) : kMr l y wy rm As D pre post tys r mc ms := by
  intro sz
  refine Met.ofW (cc := cc) (maxL := maxL) (ret := some (.object C)) hy hw ?_
  intro p e s m args below meth c s₁ B hml hv
  obtain ⟨rfl, hsz, hP, hK, hD0⟩ := hv
  have hx := B.exec
  have hb := B.bytes
  have hr := B.returns
  have hts := atoms_spec (ws := wy) B.pre
  have hown : s.vm.findClass y.cls = some m.cls := findClass_of_methodNamed B.named
  have hlocks := B.notSynchronized
  subst hsz
  have hl := lv_entry As (n := maxL) hn
  rw [lg_entry_eq]
  exact body p e s m _ below meth c (va_A pre s.heap.size) _ _ ⟨hx, hb, hr, hml, hown, hts, hlocks⟩ hP hK (hD0.self) (fun q h => Or.inr h) hl
    (fun pc H locs ls hdg hP1 hD1 hS1 => W.aret (v := .ref r) hx hb hr (Or.inl ⟨C, rfl⟩) (Or.inr ⟨r, rfl⟩) (fun t ht hW => ⟨⟨(), r, rfl, trivial, rfl, by rw [ht]; exact hP1, va_K.moved hW.alike hK, hD1⟩, hS1.F ht⟩) hS1.2.2 hdg hlocks)
end KOF
/-- which places of a world the callee has, which it hasn't: all, each once -/
def kcov (isC isR : List Nat) (n : Nat) : Bool := va_nd (isC ++ isR) && (List.range n).all (fun i => decide (i ∈ isC ++ isR)) && (isC ++ isR).all (fun i => decide (i < n))
theorem kNd : ∀ (a b : List Nat), va_nd (a ++ b) = true → va_nd a = true ∧ va_nd b = true ∧ ∀ i ∈ b, i ∉ a
  | [], _, h => ⟨rfl, h, fun i _ h => by cases h⟩
  | x :: a, b, h => by
    simp only [List.cons_append, va_nd, Bool.and_eq_true, decide_eq_true_eq] at h ⊢
    obtain ⟨h1, h2, h3⟩ := kNd a b h.2
    refine ⟨⟨fun hc => h.1 (List.mem_append_left _ hc), h1⟩, h2, fun i hi hc => ?_⟩
    rcases List.mem_cons.mp hc with rfl | hc
    · exact h.1 (List.mem_append_right _ hi)
    · exact h3 i hi hc
/-- the rest of a world stays -/
def kRest : List Nat → va_W → va_W → Prop
  | [], _, _ => True
  | i :: is, wf, ws => (∃ x : Nat × va_E, ws[i]? = some x ∧ wf[i]? = some x) ∧ kRest is wf ws
theorem kR0 {wf ws : va_W} : kRest [] wf ws := trivial
theorem kR1 {i : Nat} {is : List Nat} {wf ws : va_W} (x : Nat × va_E) (h1 : ws[i]? = some x) (h2 : wf[i]? = some x) (h : kRest is wf ws) : kRest (i :: is) wf ws := ⟨⟨x, h1, h2⟩, h⟩
theorem kRest.eq {wf ws : va_W} : ∀ {is : List Nat}, kRest is wf ws → ∀ i, i ∈ is → wf[i]? = ws[i]?
  | [], _, i, hi => by cases hi
  | j :: is, h, i, hi => by
    rcases List.mem_cons.mp hi with rfl | hi
    · obtain ⟨⟨x, h1, h2⟩, -⟩ := h
      rw [h1, h2]
    · exact kRest.eq h.2 i hi
theorem kAt {is : List Nat} {ws : va_W} {w : List (Option (Nat × va_E))} (hs : is.map (fun i => ws[i]?) = w) {k i : Nat} (hk : is[k]? = some i) : w[k]? = some ws[i]? := by rw [← hs, List.getElem?_map, hk]; rfl
/-- behind a call: the world in the caller's order -/
theorem kJoin {A0 : Nat → Prop} {D : va_G} {ws wc w1 wf : va_W} {H H1 : Heap} (hP : va_P D vwCl ws H) (hD : va_D A0 ws) (isC isR : List Nat) (n : Nat) (hC : isC.map (fun i => ws[i]?) = wc.map some) (hC1 : isC.map (fun i => wf[i]?) = w1.map some) (hR : kRest isR wf ws) (hl : wf.length = n) (hcov : kcov isC isR n = true)
    (hk : ∀ q : Nat, q < H.size → ¬ va_A wc H.size q → H1[q]? = H[q]?) (hF : ∀ q, va_A wc H.size q → A0 q) (hP1 : va_P D vwCl w1 H1) (hD1 : va_D (va_A wc H.size) w1) : va_P D vwCl wf H1 ∧ va_D A0 wf := by
  simp only [kcov, Bool.and_eq_true, List.all_eq_true, decide_eq_true_eq, List.mem_range] at hcov
  obtain ⟨⟨hnd, hall⟩, -⟩ := hcov
  obtain ⟨nC, nR, dis⟩ := kNd _ _ hnd
  have key : ∀ (k : Nat) (q : Nat × va_E), wf[k]? = some q → (∃ j : Nat, isC[j]? = some k ∧ w1[j]? = some q) ∨ (k ∈ isR ∧ ws[k]? = some q ∧ q.1 < H.size ∧ ¬ va_A wc H.size q.1) := by
    intro k q hq
    have hkn : k < n := by rw [← hl]; exact (List.getElem?_eq_some_iff.mp hq).1
    rcases List.mem_append.mp (hall k hkn) with h | h
    · obtain ⟨j, hj⟩ := List.getElem?_of_mem h
      have h1 := kAt hC1 hj
      rw [hq, List.getElem?_map] at h1
      cases hw : w1[j]? with
      | none => rw [hw] at h1; cases h1
      | some x => rw [hw] at h1; exact Or.inl ⟨j, hj, by cases h1; exact hw⟩
    · have h2 : ws[k]? = some q := by rw [← hR.eq k h]; exact hq
      have hlt := (hP k q h2).lt
      refine Or.inr ⟨h, h2, hlt, fun hA => ?_⟩
      rcases hA with ⟨k2, e, h3⟩ | h3
      · have h4 : (isC.map (fun i => ws[i]?))[k2]? = some (some (q.1, e)) := by rw [hC, List.getElem?_map, h3]; rfl
        rw [List.getElem?_map] at h4
        cases hi : isC[k2]? with
        | none => rw [hi] at h4; cases h4
        | some i =>
          rw [hi] at h4
          have h5 : ws[i]? = some (q.1, e) := Option.some.inj h4
          have hik := hD.1 i k (q.1, e) q h5 h2 rfl
          subst hik
          exact dis i h (List.mem_of_getElem? hi)
      · omega
  refine ⟨fun k q hq => ?_, fun i j x y hi hj hxy => ?_, fun k q hq => ?_⟩
  · rcases key k q hq with ⟨j, -, h2⟩ | ⟨-, h2, h3, h4⟩
    · exact hP1 j q h2
    · exact (hP k q h2).kept (hk q.1 h3 h4)
  · rcases key i x hi with ⟨a, a1, a2⟩ | ⟨-, a2, a3, a4⟩ <;> rcases key j y hj with ⟨b, b1, b2⟩ | ⟨-, b2, b3, b4⟩
    · have hab := hD1.1 a b x y a2 b2 hxy
      subst hab
      rw [a1] at b1
      exact Option.some.inj b1
    · exact absurd (hxy ▸ hD1.2 a x a2) b4
    · exact absurd (hxy ▸ hD1.2 b y b2) a4
    · exact hD.1 i j x y a2 b2 hxy
  · rcases key k q hq with ⟨j, -, h2⟩ | ⟨-, h2, -⟩
    · exact hF _ (hD1.2 j q h2)
    · exact hD.2 k q h2
theorem kSub {D : va_G} {ws ws' : va_W} {H : Heap} (h : va_P D vwCl ws H) (is : List Nat) (hs : is.map (fun i => ws[i]?) = ws'.map some) : va_P D vwCl ws' H := by
  intro k q hq
  have h1 : (is.map (fun i => ws[i]?))[k]? = some (some q) := by rw [hs, List.getElem?_map, hq]; rfl
  rw [List.getElem?_map] at h1
  cases hi : is[k]? with
  | none => rw [hi] at h1; cases h1
  | some i => rw [hi] at h1; exact h i q (Option.some.inj h1)
section KCALL
variable {p : Program} {l : Launch} {e : Env} {R : Room} {s : State} {m : MethodId} {args : Array Value} {below : List Frame} {meth : Method} {c : Code} {H : Heap} {locs : List Loc} {cells slots : Nat} {Q : State → Prop}
variable {cc : ByteArray} {pc : Nat} {ls : Array Slot} {rest st0 : List Value} {D : va_G} {A : Nat → Prop} {H0 : Heap} {ws wc w1 wf : va_W} {tys tc : List (ClassId × FieldType)}
variable {own C : String} {index maxL mc ms n nL b : Nat} {y : MethodName} {bytes : ByteArray} {ret : Option FieldType} {wy Ts : List Cond} {rm : Room} {As : List Value}
theorem kc_Vi {r : Int32} (hM : kMi l y wy rm (.ref b :: As) D wc w1 tc r mc ms) (hcf : CallFix p m c cc nL s args Ts own) (cw : CallW R s args own C index y bytes maxL ret wy rm mc ms n)
    (hK : va_K D vwCl tc s) (hP : va_P D vwCl ws H) (hD : va_D A ws) (hS : va_S A H0 H locs) (hA : ∀ q, H0.size ≤ q → A q)
    (isC isR : List Nat) (nW : Nat) (hC : isC.map (fun i => ws[i]?) = wc.map some) (hC1 : isC.map (fun i => wf[i]?) = w1.map some) (hR : kRest isR wf ws) (hlW : wf.length = nW) (hcov : kcov isC isR nW = true)
    {ci : Nat} {fs : List Value} {q : vw_C} (h0 : wc[0]? = some (b, .inr (ci, fs))) (hq : vwCl[ci]? = some q) (hqC : q.1 = C)
    (hn : As.length = n) (hl : ls.size = nL) (hst : st0 = As.reverse ++ .ref b :: rest) (hroom : (rest.map fun v => v.category).sum ≤ 8) (hdg : decode cc pc = .ok (.invokevirtual index, 3)) (hf : cells + mc ≤ R.cells ∧ slots + ms ≤ R.slots)
    (kk : ∀ (H1 : Heap) (locs1 : List Loc), va_P D vwCl wf H1 → va_D A wf → va_S A H0 H1 locs1 → W p l e R s m args below meth c H1 locs1 (cells + mc) (slots + ms) Q (F0 m (pc + 3) ls (.int r :: rest))) : W p l e R s m args below meth c H locs cells slots Q (F0 m pc ls st0) := by
  subst hqC
  have hPc := kSub hP isC hC
  have hDc := hD.sub isC (by simp only [kcov, Bool.and_eq_true] at hcov; exact (kNd _ _ hcov.1.1).1) hC
  have hFc := va_free (wc := wc) hD hS hA isC hC
  refine va_calli (va_runV (As := As) (rest := rest) hcf (hM H.size) cw ⟨kP_blind, va_recv hK hPc hq h0, fun U hU hW => ⟨rfl, by rw [hU], by rw [hU]; exact hPc, va_K.moved hW.alike hK, hDc.weaken (fun _ _ _ _ => trivial)⟩⟩ rfl hn hl hst (lv_room hroom) hdg hf) hS (fun q _ h => hFc q h) hFc (fun r' u t H1 locs1 ht hvm hw hB hz1 hk1 hS => ?_)
  obtain ⟨hP1, hK1, hD1⟩ := hB
  rw [ht] at hP1
  subst hw
  obtain ⟨hP, hD⟩ := kJoin hP hD isC isR nW hC hC1 hR hlW hcov hk1 hFc hP1 hD1
  exact kk H1 locs1 hP hD hS
theorem kc_Vl {r : Int64} (hM : kMl l y wy rm (.ref b :: As) D wc w1 tc r mc ms) (hcf : CallFix p m c cc nL s args Ts own) (cw : CallW R s args own C index y bytes maxL ret wy rm mc ms n)
    (hK : va_K D vwCl tc s) (hP : va_P D vwCl ws H) (hD : va_D A ws) (hS : va_S A H0 H locs) (hA : ∀ q, H0.size ≤ q → A q)
    (isC isR : List Nat) (nW : Nat) (hC : isC.map (fun i => ws[i]?) = wc.map some) (hC1 : isC.map (fun i => wf[i]?) = w1.map some) (hR : kRest isR wf ws) (hlW : wf.length = nW) (hcov : kcov isC isR nW = true)
    {ci : Nat} {fs : List Value} {q : vw_C} (h0 : wc[0]? = some (b, .inr (ci, fs))) (hq : vwCl[ci]? = some q) (hqC : q.1 = C)
    (hn : As.length = n) (hl : ls.size = nL) (hst : st0 = As.reverse ++ .ref b :: rest) (hroom : (rest.map fun v => v.category).sum ≤ 8) (hdg : decode cc pc = .ok (.invokevirtual index, 3)) (hf : cells + mc ≤ R.cells ∧ slots + ms ≤ R.slots)
    (kk : ∀ (H1 : Heap) (locs1 : List Loc), va_P D vwCl wf H1 → va_D A wf → va_S A H0 H1 locs1 → W p l e R s m args below meth c H1 locs1 (cells + mc) (slots + ms) Q (F0 m (pc + 3) ls (.long r :: rest))) : W p l e R s m args below meth c H locs cells slots Q (F0 m pc ls st0) := by
  subst hqC
  have hPc := kSub hP isC hC
  have hDc := hD.sub isC (by simp only [kcov, Bool.and_eq_true] at hcov; exact (kNd _ _ hcov.1.1).1) hC
  have hFc := va_free (wc := wc) hD hS hA isC hC
  refine va_calll (va_runV (As := As) (rest := rest) hcf (hM H.size) cw ⟨kP_blind, va_recv hK hPc hq h0, fun U hU hW => ⟨rfl, by rw [hU], by rw [hU]; exact hPc, va_K.moved hW.alike hK, hDc.weaken (fun _ _ _ _ => trivial)⟩⟩ rfl hn hl hst (lv_room hroom) hdg hf) hS (fun q _ h => hFc q h) hFc (fun r' u t H1 locs1 ht hvm hw hB hz1 hk1 hS => ?_)
  obtain ⟨hP1, hK1, hD1⟩ := hB
  rw [ht] at hP1
  subst hw
  obtain ⟨hP, hD⟩ := kJoin hP hD isC isR nW hC hC1 hR hlW hcov hk1 hFc hP1 hD1
  exact kk H1 locs1 hP hD hS
theorem kc_Vv (hM : kMv l y wy rm (.ref b :: As) D wc w1 tc mc ms) (hcf : CallFix p m c cc nL s args Ts own) (cw : CallW R s args own C index y bytes maxL ret wy rm mc ms n)
    (hK : va_K D vwCl tc s) (hP : va_P D vwCl ws H) (hD : va_D A ws) (hS : va_S A H0 H locs) (hA : ∀ q, H0.size ≤ q → A q)
    (isC isR : List Nat) (nW : Nat) (hC : isC.map (fun i => ws[i]?) = wc.map some) (hC1 : isC.map (fun i => wf[i]?) = w1.map some) (hR : kRest isR wf ws) (hlW : wf.length = nW) (hcov : kcov isC isR nW = true)
    {ci : Nat} {fs : List Value} {q : vw_C} (h0 : wc[0]? = some (b, .inr (ci, fs))) (hq : vwCl[ci]? = some q) (hqC : q.1 = C)
    (hn : As.length = n) (hl : ls.size = nL) (hst : st0 = As.reverse ++ .ref b :: rest) (hroom : (rest.map fun v => v.category).sum ≤ 8) (hdg : decode cc pc = .ok (.invokevirtual index, 3)) (hf : cells + mc ≤ R.cells ∧ slots + ms ≤ R.slots)
    (kk : ∀ (H1 : Heap) (locs1 : List Loc), va_P D vwCl wf H1 → va_D A wf → va_S A H0 H1 locs1 → W p l e R s m args below meth c H1 locs1 (cells + mc) (slots + ms) Q (F0 m (pc + 3) ls rest)) : W p l e R s m args below meth c H locs cells slots Q (F0 m pc ls st0) := by
  subst hqC
  have hPc := kSub hP isC hC
  have hDc := hD.sub isC (by simp only [kcov, Bool.and_eq_true] at hcov; exact (kNd _ _ hcov.1.1).1) hC
  have hFc := va_free (wc := wc) hD hS hA isC hC
  refine va_callv (va_runV (As := As) (rest := rest) hcf (hM H.size) cw ⟨kP_blind, va_recv hK hPc hq h0, fun U hU hW => ⟨rfl, by rw [hU], by rw [hU]; exact hPc, va_K.moved hW.alike hK, hDc.weaken (fun _ _ _ _ => trivial)⟩⟩ rfl hn hl hst (lv_room hroom) hdg hf) hS (fun q _ h => hFc q h) hFc (fun u t H1 locs1 ht hvm hw hB hz1 hk1 hS => ?_)
  obtain ⟨hP1, hK1, hD1⟩ := hB
  rw [ht] at hP1
  obtain ⟨hP, hD⟩ := kJoin hP hD isC isR nW hC hC1 hR hlW hcov hk1 hFc hP1 hD1
  exact kk H1 locs1 hP hD hS
theorem kc_Vr {r : Nat} (hM : kMr l y wy rm (.ref b :: As) D wc w1 tc r mc ms) (hcf : CallFix p m c cc nL s args Ts own) (cw : CallW R s args own C index y bytes maxL ret wy rm mc ms n)
    (hK : va_K D vwCl tc s) (hP : va_P D vwCl ws H) (hD : va_D A ws) (hS : va_S A H0 H locs) (hA : ∀ q, H0.size ≤ q → A q)
    (isC isR : List Nat) (nW : Nat) (hC : isC.map (fun i => ws[i]?) = wc.map some) (hC1 : isC.map (fun i => wf[i]?) = w1.map some) (hR : kRest isR wf ws) (hlW : wf.length = nW) (hcov : kcov isC isR nW = true)
    {ci : Nat} {fs : List Value} {q : vw_C} (h0 : wc[0]? = some (b, .inr (ci, fs))) (hq : vwCl[ci]? = some q) (hqC : q.1 = C)
    (hn : As.length = n) (hl : ls.size = nL) (hst : st0 = As.reverse ++ .ref b :: rest) (hroom : (rest.map fun v => v.category).sum ≤ 8) (hdg : decode cc pc = .ok (.invokevirtual index, 3)) (hf : cells + mc ≤ R.cells ∧ slots + ms ≤ R.slots)
    (kk : ∀ (H1 : Heap) (locs1 : List Loc), va_P D vwCl wf H1 → va_D A wf → va_S A H0 H1 locs1 → W p l e R s m args below meth c H1 locs1 (cells + mc) (slots + ms) Q (F0 m (pc + 3) ls (.ref r :: rest))) : W p l e R s m args below meth c H locs cells slots Q (F0 m pc ls st0) := by
  subst hqC
  have hPc := kSub hP isC hC
  have hDc := hD.sub isC (by simp only [kcov, Bool.and_eq_true] at hcov; exact (kNd _ _ hcov.1.1).1) hC
  have hFc := va_free (wc := wc) hD hS hA isC hC
  refine va_callr (va_runV (As := As) (rest := rest) hcf (hM H.size) cw ⟨kP_blind, va_recv hK hPc hq h0, fun U hU hW => ⟨rfl, by rw [hU], by rw [hU]; exact hPc, va_K.moved hW.alike hK, hDc.weaken (fun _ _ _ _ => trivial)⟩⟩ rfl hn hl hst (lv_room hroom) hdg hf) hS (fun q _ h => hFc q h) hFc (fun u ra t H1 locs1 ht hvm hw hB hz1 hk1 hS => ?_)
  obtain ⟨rfl, hP1, hK1, hD1⟩ := hB
  rw [ht] at hP1
  obtain ⟨hP, hD⟩ := kJoin hP hD isC isR nW hC hC1 hR hlW hcov hk1 hFc hP1 hD1
  exact kk H1 locs1 hP hD hS
theorem kc_Si {r : Int32} (hM : kMi l y wy rm As D wc w1 tc r mc ms) (hcf : CallFix p m c cc nL s args Ts own) (cw : CallB R s args own index y bytes maxL ret wy rm mc ms n ∧ (Cond.static y).before args s = true)
    (hK : va_K D vwCl tc s) (hP : va_P D vwCl ws H) (hD : va_D A ws) (hS : va_S A H0 H locs) (hA : ∀ q, H0.size ≤ q → A q)
    (isC isR : List Nat) (nW : Nat) (hC : isC.map (fun i => ws[i]?) = wc.map some) (hC1 : isC.map (fun i => wf[i]?) = w1.map some) (hR : kRest isR wf ws) (hlW : wf.length = nW) (hcov : kcov isC isR nW = true)
    (hn : As.length = n) (hl : ls.size = nL) (hst : st0 = As.reverse ++ rest) (hroom : (rest.map fun v => v.category).sum ≤ 8) (hdg : decode cc pc = .ok (.invokestatic index, 3)) (hf : cells + mc ≤ R.cells ∧ slots + ms ≤ R.slots)
    (kk : ∀ (H1 : Heap) (locs1 : List Loc), va_P D vwCl wf H1 → va_D A wf → va_S A H0 H1 locs1 → W p l e R s m args below meth c H1 locs1 (cells + mc) (slots + ms) Q (F0 m (pc + 3) ls (.int r :: rest))) : W p l e R s m args below meth c H locs cells slots Q (F0 m pc ls st0) := by
  have hPc := kSub hP isC hC
  have hDc := hD.sub isC (by simp only [kcov, Bool.and_eq_true] at hcov; exact (kNd _ _ hcov.1.1).1) hC
  have hFc := va_free (wc := wc) hD hS hA isC hC
  refine va_calli (va_runS (As := As) (rest := rest) hcf (hM H.size) cw ⟨kP_blind, fun U hU hW => ⟨rfl, by rw [hU], by rw [hU]; exact hPc, va_K.moved hW.alike hK, hDc.weaken (fun _ _ _ _ => trivial)⟩⟩ rfl hn hl hst (lv_room hroom) hdg hf) hS (fun q _ h => hFc q h) hFc (fun r' u t H1 locs1 ht hvm hw hB hz1 hk1 hS => ?_)
  obtain ⟨hP1, hK1, hD1⟩ := hB
  rw [ht] at hP1
  subst hw
  obtain ⟨hP, hD⟩ := kJoin hP hD isC isR nW hC hC1 hR hlW hcov hk1 hFc hP1 hD1
  exact kk H1 locs1 hP hD hS
theorem kc_Sl {r : Int64} (hM : kMl l y wy rm As D wc w1 tc r mc ms) (hcf : CallFix p m c cc nL s args Ts own) (cw : CallB R s args own index y bytes maxL ret wy rm mc ms n ∧ (Cond.static y).before args s = true)
    (hK : va_K D vwCl tc s) (hP : va_P D vwCl ws H) (hD : va_D A ws) (hS : va_S A H0 H locs) (hA : ∀ q, H0.size ≤ q → A q)
    (isC isR : List Nat) (nW : Nat) (hC : isC.map (fun i => ws[i]?) = wc.map some) (hC1 : isC.map (fun i => wf[i]?) = w1.map some) (hR : kRest isR wf ws) (hlW : wf.length = nW) (hcov : kcov isC isR nW = true)
    (hn : As.length = n) (hl : ls.size = nL) (hst : st0 = As.reverse ++ rest) (hroom : (rest.map fun v => v.category).sum ≤ 8) (hdg : decode cc pc = .ok (.invokestatic index, 3)) (hf : cells + mc ≤ R.cells ∧ slots + ms ≤ R.slots)
    (kk : ∀ (H1 : Heap) (locs1 : List Loc), va_P D vwCl wf H1 → va_D A wf → va_S A H0 H1 locs1 → W p l e R s m args below meth c H1 locs1 (cells + mc) (slots + ms) Q (F0 m (pc + 3) ls (.long r :: rest))) : W p l e R s m args below meth c H locs cells slots Q (F0 m pc ls st0) := by
  have hPc := kSub hP isC hC
  have hDc := hD.sub isC (by simp only [kcov, Bool.and_eq_true] at hcov; exact (kNd _ _ hcov.1.1).1) hC
  have hFc := va_free (wc := wc) hD hS hA isC hC
  refine va_calll (va_runS (As := As) (rest := rest) hcf (hM H.size) cw ⟨kP_blind, fun U hU hW => ⟨rfl, by rw [hU], by rw [hU]; exact hPc, va_K.moved hW.alike hK, hDc.weaken (fun _ _ _ _ => trivial)⟩⟩ rfl hn hl hst (lv_room hroom) hdg hf) hS (fun q _ h => hFc q h) hFc (fun r' u t H1 locs1 ht hvm hw hB hz1 hk1 hS => ?_)
  obtain ⟨hP1, hK1, hD1⟩ := hB
  rw [ht] at hP1
  subst hw
  obtain ⟨hP, hD⟩ := kJoin hP hD isC isR nW hC hC1 hR hlW hcov hk1 hFc hP1 hD1
  exact kk H1 locs1 hP hD hS
theorem kc_Sv (hM : kMv l y wy rm As D wc w1 tc mc ms) (hcf : CallFix p m c cc nL s args Ts own) (cw : CallB R s args own index y bytes maxL ret wy rm mc ms n ∧ (Cond.static y).before args s = true)
    (hK : va_K D vwCl tc s) (hP : va_P D vwCl ws H) (hD : va_D A ws) (hS : va_S A H0 H locs) (hA : ∀ q, H0.size ≤ q → A q)
    (isC isR : List Nat) (nW : Nat) (hC : isC.map (fun i => ws[i]?) = wc.map some) (hC1 : isC.map (fun i => wf[i]?) = w1.map some) (hR : kRest isR wf ws) (hlW : wf.length = nW) (hcov : kcov isC isR nW = true)
    (hn : As.length = n) (hl : ls.size = nL) (hst : st0 = As.reverse ++ rest) (hroom : (rest.map fun v => v.category).sum ≤ 8) (hdg : decode cc pc = .ok (.invokestatic index, 3)) (hf : cells + mc ≤ R.cells ∧ slots + ms ≤ R.slots)
    (kk : ∀ (H1 : Heap) (locs1 : List Loc), va_P D vwCl wf H1 → va_D A wf → va_S A H0 H1 locs1 → W p l e R s m args below meth c H1 locs1 (cells + mc) (slots + ms) Q (F0 m (pc + 3) ls rest)) : W p l e R s m args below meth c H locs cells slots Q (F0 m pc ls st0) := by
  have hPc := kSub hP isC hC
  have hDc := hD.sub isC (by simp only [kcov, Bool.and_eq_true] at hcov; exact (kNd _ _ hcov.1.1).1) hC
  have hFc := va_free (wc := wc) hD hS hA isC hC
  refine va_callv (va_runS (As := As) (rest := rest) hcf (hM H.size) cw ⟨kP_blind, fun U hU hW => ⟨rfl, by rw [hU], by rw [hU]; exact hPc, va_K.moved hW.alike hK, hDc.weaken (fun _ _ _ _ => trivial)⟩⟩ rfl hn hl hst (lv_room hroom) hdg hf) hS (fun q _ h => hFc q h) hFc (fun u t H1 locs1 ht hvm hw hB hz1 hk1 hS => ?_)
  obtain ⟨hP1, hK1, hD1⟩ := hB
  rw [ht] at hP1
  obtain ⟨hP, hD⟩ := kJoin hP hD isC isR nW hC hC1 hR hlW hcov hk1 hFc hP1 hD1
  exact kk H1 locs1 hP hD hS
/-- a boolean row's place is written, with 0 or 1 -/
theorem kc_zast {cl : List vw_C} {a : Nat} (hexec : p.tables.exec = Jvm.exec) (hb : c.code = cc) (hK : va_K D cl tys s) (hP : va_P D cl ws H) (hD : va_D A ws) (hS : va_S A H0 H locs) (q0 t0 : Nat) {cA : ClassId} {n : Nat} {f : Nat → Int32} (ha : ws[q0]? = some (a, .inl (cA, n, .inl f))) (ht : tys[t0]? = some (cA, .boolean)) {i : Int32} {x : Int32} (hx : vp_nar .boolean x = x) (hin : vp_in i n) (hdg : decode cc pc = .ok (.bastore, 1))
    (kk : ∀ (H1 : Heap) (locs1 : List Loc), va_P D cl (ws.set q0 (a, .inl (cA, n, .inl (upd f i.toNatClampNeg x)))) H1 → va_D A (ws.set q0 (a, .inl (cA, n, .inl (upd f i.toNatClampNeg x)))) → va_S A H0 H1 locs1 → W p l e R s m args below meth c H1 locs1 cells slots Q (F0 m (pc + 1) ls rest)) : W p l e R s m args below meth c H locs cells slots Q (F0 m pc ls (.int x :: .int i :: .ref a :: rest)) := by
  refine va_zast hexec hb hK hP hD hS q0 t0 ha ht hin hdg (fun H1 locs1 h1 h2 h3 => ?_)
  rw [hx] at h1 h2
  exact kk H1 locs1 h1 h2 h3
end KCALL
theorem knar0 : vp_nar .boolean 0 = 0 := by decide
theorem knar1 : vp_nar .boolean 1 = 1 := by decide
/-! ===== the walks' own functions: a place in range, a condition, a call ===== -/
noncomputable def rdc {α : Type} (i : Int32) (n : Nat) (k : Option α) : Option α := if 0 ≤ i.toInt ∧ i.toInt < n then k else none
theorem rdc_some {α : Type} {i : Int32} {n : Nat} {k : Option α} {o : α} (h : rdc i n k = some o) : vp_in i n ∧ k = some o := by
  unfold rdc at h
  split at h
  · next h1 => exact ⟨vp_in_iff.mpr h1, h⟩
  · cases h
theorem rdc_in {α : Type} {i : Int32} {n : Nat} {k : Option α} (h : vp_in i n) : rdc i n k = k := if_pos (vp_in_iff.mp h)
theorem rdc_N {α : Type} {i n : Nat} {k : Option α} (h : i < n) (hn : n < 2 ^ 31) : rdc (nI i) n k = k := rdc_in (vp_in_nI h hn)
/-- a number that is 0 or 1 -/
noncomputable def zck {α : Type} (v : Int32) (k : Option α) : Option α := if v = 0 ∨ v = 1 then k else none
theorem zck_some {α : Type} {v : Int32} {k : Option α} {o : α} (h : zck v k = some o) : (v = 0 ∨ v = 1) ∧ k = some o := by
  unfold zck at h
  split at h
  · next h1 => exact ⟨h1, h⟩
  · cases h
theorem zck_0 {α : Type} {k : Option α} : zck 0 k = k := if_pos (Or.inl rfl)
theorem zck_1 {α : Type} {k : Option α} : zck 1 k = k := if_pos (Or.inr rfl)
theorem zck_in {α : Type} {v : Int32} {k : Option α} (h : v = 0 ∨ v = 1) : zck v k = k := if_pos h
theorem znar {v : Int32} (h : v = 0 ∨ v = 1) : narrow .boolean (.int v) = .int v := by
  rcases h with rfl | rfl <;> decide
theorem kit {α : Type} {c : Prop} [Decidable c] {a b : Option α} {o : α} (hc : c) (h : (if c then a else b) = some o) : a = some o := by rw [if_pos hc] at h; exact h
theorem kif {α : Type} {c : Prop} [Decidable c] {a b : Option α} {o : α} (hc : ¬ c) (h : (if c then a else b) = some o) : b = some o := by rw [if_neg hc] at h; exact h
theorem kbd {α β : Type} {a : Option α} {k : α → Option β} {o : β} (h : Option.bind a k = some o) : ∃ x, a = some x ∧ k x = some o := Option.bind_eq_some_iff.mp h
theorem kbs {α β : Type} {a : Option α} {k : α → Option β} {x : α} (h : a = some x) : Option.bind a k = k x := by rw [h]; rfl
