/-! ===== rows of the law's own, of 40 places; its script, that lies outside ===== -/
abbrev PAI (a0 : Nat) (cyI cyZ : ClassId) (w_v : Nat → Int32) : va_W := [(a0, .inl (cyI, 40, .inl w_v))]
abbrev PAZ (a0 : Nat) (cyI cyZ : ClassId) (w_v : Nat → Int32) : va_W := [(a0, .inl (cyZ, 40, .inl w_v))]
def kPs (D : va_G) (ws : va_W) (tys : List (ClassId × FieldType)) (sz : Nat) (xb xL : Nat) (xs : Nat → Int32) (U : State) : Prop := kP D ws tys sz U ∧ va_X xb xL xs U U.heap ∧ xb < sz ∧ ¬ va_A ws sz xb
theorem kPs_blind {D : va_G} {ws : va_W} {tys : List (ClassId × FieldType)} {sz xb xL : Nat} {xs : Nat → Int32} {As : List Value} : FrameBlind (va_Pc As (kPs D ws tys sz xb xL xs)) :=
  fun a U g mk q => ⟨q.1, (kP_blind a U g mk ⟨q.1, q.2.1⟩).2, va_X.moved (u := U) (U := U.calling g mk a) (Vm.Alike.refl U.vm) q.2.2.1, q.2.2.2⟩
abbrev kMsi (l : Launch) (y : MethodName) (wy : List Cond) (rm : Room) (As : List Value) (D : va_G) (pre post : va_W) (tys : List (ClassId × FieldType)) (r : Int32) (mc ms : Nat) (xb xL : Nat) (xs : Nat → Int32) : Prop :=
  ∀ sz : Nat, Met l y wy rm (va_Pc As (kPs D pre tys sz xb xL xs)) (va_Qi (fun (r' : Int32) (_ : Unit) => r' = r) (fun _ t => kQ D post tys (va_A pre sz) t) (va_A pre sz)) mc ms (va_A pre sz)
theorem kOf_si {l : Launch} {y : MethodName} {wy ws' : List Cond} {rm : Room} {As : List Value} {D : va_G} {pre post : va_W} {tys : List (ClassId × FieldType)} {mc ms : Nat} {cc : ByteArray} {maxL : Nat} {ty : FieldType} {r : Int32} {xb xL : Nat} {xs : Nat → Int32} (hy : plainName y.cls = true) (hw : wy = .code y cc maxL (some ty) :: ws') (hn : (lg_sl As).length ≤ maxL)
    (body : ∀ (p : Program) (e : Env) (s : State) (m : MethodId) (args : Array Value) (below : List Frame) (meth : Method) (c : Code) (A : Nat → Prop) (Z : State → Prop) (ls : Array Slot), kC p s m args meth c y.cls cc maxL (some ty) wy → va_X xb xL xs s s.heap → xb < s.heap.size → ¬ A xb → va_P D vwCl pre s.heap → va_K D vwCl tys s → va_D A pre → (∀ q, s.heap.size ≤ q → A q) → lv_has ls maxL (lv_args 0 As) →
      (∀ (pc : Nat) (H : Heap) (locs : List Loc) (ls : Array Slot), decode cc pc = .ok (.ireturn, 1) → narrow ty (.int r) = .int r → va_P D vwCl post H → va_D A post → va_S A s.heap H locs → W p l e rm s m args below meth c H locs mc ms Z (F0 m pc ls [.int r])) →
      W p l e rm s m args below meth c s.heap [] 0 0 Z (F0 m 0 ls [])) : kMsi l y wy rm As D pre post tys r mc ms xb xL xs := by
  intro sz
  refine Met.ofW (cc := cc) (maxL := maxL) (ret := some ty) hy hw ?_
  intro p e s m args below meth c s₁ B hml hv
  obtain ⟨rfl, ⟨hsz, hP, hK, hD0⟩, hX, hbl, hbA⟩ := hv
  have hx := B.exec
  have hb := B.bytes
  have hr := B.returns
  have hts := atoms_spec (ws := wy) B.pre
  have hown : s.vm.findClass y.cls = some m.cls := findClass_of_methodNamed B.named
  have hlocks := B.notSynchronized
  subst hsz
  have hl := lv_entry As (n := maxL) hn
  rw [lg_entry_eq]
  exact body p e s m _ below meth c (va_A pre s.heap.size) _ _ ⟨hx, hb, hr, hml, hown, hts, hlocks⟩ hX hbl hbA hP hK (hD0.self) (fun q h => Or.inr h) hl
    (fun pc H locs ls hdg hnn hP1 hD1 hS1 => W.zret (v := r) hx hb hr hnn (fun t ht hW => ⟨⟨r, (), rfl, rfl, by rw [ht]; exact hP1, va_K.moved hW.alike hK, hD1⟩, hS1.F ht⟩) hS1.2.2 hdg hlocks)
theorem kc_Ssi {p : Program} {l : Launch} {e : Env} {R : Room} {s : State} {m : MethodId} {args : Array Value} {below : List Frame} {meth : Method} {c : Code} {H : Heap} {locs : List Loc} {cells slots : Nat} {Q : State → Prop}
    {cc : ByteArray} {pc : Nat} {ls : Array Slot} {rest st0 : List Value} {D : va_G} {A : Nat → Prop} {ws wc w1 wf : va_W} {tc : List (ClassId × FieldType)}
    {own : String} {index maxL mc ms n nL : Nat} {y : MethodName} {bytes : ByteArray} {ret : Option FieldType} {wy Ts : List Cond} {rm : Room} {As : List Value} {xb xL : Nat} {xs : Nat → Int32}
    {r : Int32} (hM : kMsi l y wy rm As D wc w1 tc r mc ms xb xL xs) (hcf : CallFix p m c cc nL s args Ts own) (cw : CallB R s args own index y bytes maxL ret wy rm mc ms n ∧ (Cond.static y).before args s = true)
    (hX : va_X xb xL xs s s.heap) (hbl : xb < s.heap.size) (hbA : ¬ A xb)
    (hK : va_K D vwCl tc s) (hP : va_P D vwCl ws H) (hD : va_D A ws) (hS : va_S A s.heap H locs) (hA : ∀ q, s.heap.size ≤ q → A q)
    (isC isR : List Nat) (nW : Nat) (hC : isC.map (fun i => ws[i]?) = wc.map some) (hC1 : isC.map (fun i => wf[i]?) = w1.map some) (hR : kRest isR wf ws) (hlW : wf.length = nW) (hcov : kcov isC isR nW = true)
    (hn : As.length = n) (hl : ls.size = nL) (hst : st0 = As.reverse ++ rest) (hroom : (rest.map fun v => v.category).sum ≤ 8) (hdg : decode cc pc = .ok (.invokestatic index, 3)) (hf : cells + mc ≤ R.cells ∧ slots + ms ≤ R.slots)
    (kk : ∀ (H1 : Heap) (locs1 : List Loc), va_P D vwCl wf H1 → va_D A wf → va_S A s.heap H1 locs1 → W p l e R s m args below meth c H1 locs1 (cells + mc) (slots + ms) Q (F0 m (pc + 3) ls (.int r :: rest))) : W p l e R s m args below meth c H locs cells slots Q (F0 m pc ls st0) := by
  have hPc := kSub hP isC hC
  have hDc := hD.sub isC (by simp only [kcov, Bool.and_eq_true] at hcov; exact (kNd _ _ hcov.1.1).1) hC
  have hFc := va_free (wc := wc) hD hS hA isC hC
  have hXH : va_X xb xL xs s H := hX.kept (hS.2.1 xb hbl hbA)
  have hbH : xb < H.size := Nat.lt_of_lt_of_le hbl hS.1
  refine va_calli (va_runS (As := As) (rest := rest) hcf (hM H.size) cw ⟨kPs_blind, fun U hU hW => ⟨rfl, ⟨by rw [hU], by rw [hU]; exact hPc, va_K.moved hW.alike hK, hDc.weaken (fun _ _ _ _ => trivial)⟩, by rw [hU]; exact va_X.moved hW.alike hXH, hbH, fun h => hbA (hFc xb h)⟩⟩ rfl hn hl hst (lv_room hroom) hdg hf) hS (fun q _ h => hFc q h) hFc (fun r' u t H1 locs1 ht hvm hw hB hz1 hk1 hS => ?_)
  obtain ⟨hP1, hK1, hD1⟩ := hB
  rw [ht] at hP1
  subst hw
  obtain ⟨hP, hD⟩ := kJoin hP hD isC isR nW hC hC1 hR hlW hcov hk1 hFc hP1 hD1
  exact kk H1 locs1 hP hD hS
