/-! ===== the law, call by call ===== -/
def LA (q : Nat → Nat) (cyI cyZ : ClassId) (S : ZS) : va_W := wA q cyI cyZ S
def LB (q : Nat → Nat) (cyI cyZ : ClassId) (M : ZM) : va_W := wB q cyI cyZ M
abbrev LO (o : Nat) (cyJ : ClassId) (f : Nat → Int64) : Nat × va_E := (o, .inl (cyJ, 1, .inr (.inl f)))
def fA (q : Nat → Nat) (S : ZS) : List Value := [.ref (q 1), .ref (q 7), .ref (q 18), .ref (q 29), .int S.R, .int S.al]
def fB (q : Nat → Nat) (M : ZM) : List Value := [.int M.th, .int M.n, .ref (q 1), .ref (q 2), .ref (q 3), .int M.R, .int M.made, .int M.st, .ref (q 4), .int M.pc, .ref (q 5), .int M.sl, .ref (q 6), .ref (q 7), .ref (q 8), .ref (q 9), .ref (q 10), .ref (q 11), .int M.ou, .ref (q 12)]
theorem LA_l {q : Nat → Nat} {cyI cyZ : ClassId} {S : ZS} : (LA q cyI cyZ S).length = 33 := rfl
theorem LB_l {q : Nat → Nat} {cyI cyZ : ClassId} {M : ZM} : (LB q cyI cyZ M).length = 13 := rfl
theorem LA_0 {q : Nat → Nat} {cyI cyZ : ClassId} {S : ZS} : (LA q cyI cyZ S)[0]? = some (q 0, .inr (4, fA q S)) := rfl
theorem LB_0 {q : Nat → Nat} {cyI cyZ : ClassId} {M : ZM} : (LB q cyI cyZ M)[0]? = some (q 0, .inr (5, fB q M)) := rfl
theorem LA_34 {q : Nat → Nat} {cyI cyZ : ClassId} {S : ZS} {x : Nat × va_E} : (LA q cyI cyZ S ++ [x]).length = 34 := by rw [List.length_append, LA_l]; rfl
theorem LB_14 {q : Nat → Nat} {cyI cyZ : ClassId} {M : ZM} {x : Nat × va_E} : ([x] ++ LB q cyI cyZ M).length = 14 := by rw [List.length_append, LB_l]; rfl
theorem le1 (a o b : va_W) : [] ++ ((a ++ o) ++ b) = a ++ (o ++ b) := by rw [List.nil_append, List.append_assoc]
theorem le2 (a o b : va_W) : (a ++ o) ++ (b ++ []) = a ++ (o ++ b) := by rw [List.append_nil, List.append_assoc]
theorem le3 (a b : va_W) : [] ++ (a ++ b) = a ++ b := rfl
theorem loAt {a b : va_W} {n : Nat} {x : Nat × va_E} (h : a.length = n) : (a ++ ([x] ++ b))[n]? = some x := by
  rw [List.getElem?_append_right (by omega), h, Nat.sub_self]; rfl
theorem c00 : (0 : Int32).toNatClampNeg = 0 := by decide
def STW (l : Launch) (D : va_G) (cyI cyZ cyJ : ClassId) (qa qb : Nat → Nat) (o : Nat) (yL : MethodName) (wsL : List Cond) (rwL : Room) (AsW : List Value) (yM : MethodName) (wsM : List Cond) (rmM : Room) (AsM : List Value) (mc ms : Nat) (lv : Int32 → Int64) (S : ZS) (M : ZM) (fJ : Nat → Int64) : Prop :=
  ∃ (S' : ZS) (M' : ZM) (fJ' : Nat → Int64) (k v : Int32), kWi l yL wsL rwL AsW D (LA qa cyI cyZ S ++ [LO o cyJ fJ]) (LA qa cyI cyZ S' ++ [LO o cyJ fJ']) (kT3 cyI cyZ cyJ) k 1 6 ∧ kMi l yM wsM rmM AsM D (LB qb cyI cyZ M) (LB qb cyI cyZ M') (kT cyI cyZ) v mc ms ∧ M'.th = k ∧ (k = 0 → fJ' 0 = lv v) ∧ REL S' M'
/-- what the walk of a call has at hand -/
def LK (p : Program) (s : State) (m : MethodId) (c : Code) (b L : Nat) (xs : Nat → Int32) (l : Launch) (D : va_G) (cyI cyZ cyJ : ClassId) (i ci si : Nat) : Prop :=
  p.tables.exec = Jvm.exec ∧ c.code = cL_law ∧ c.maxLocals = 7 ∧ s.vm.findClass RL = some m.cls ∧ (∀ w ∈ wsL_law, w.before #[Value.ref b] s = true) ∧ va_X b L xs s s.heap ∧ b < s.heap.size ∧ va_K D vwCl (kT3 cyI cyZ cyJ) s ∧ kY (fun q : Nat => s.heap.size ≤ q) s ∧ l.stackTraces = false ∧ 4 * i + 4 ≤ L ∧ L ≤ 2048 ∧ ci + 3 ≤ room_1.cells ∧ si + 74 ≤ room_1.slots
/-- behind a call: the loop's end -/
def LN (p : Program) (l : Launch) (e : Env) (s : State) (m : MethodId) (below : List Frame) (meth : Method) (c : Code) (b : Nat) (D : va_G) (cyI cyZ cyJ : ClassId) (qa qb : Nat → Nat) (o i ci si : Nat) (Z : State → Prop) : Prop :=
  ∀ (S : ZS) (M : ZM) (fJ : Nat → Int64) (H : Heap) (locs : List Loc) (ls : Array Slot), REL S M → va_P D vwCl (LA qa cyI cyZ S ++ ([LO o cyJ fJ] ++ LB qb cyI cyZ M)) H → va_D (fun q : Nat => s.heap.size ≤ q) (LA qa cyI cyZ S ++ ([LO o cyJ fJ] ++ LB qb cyI cyZ M)) → va_S (fun q : Nat => s.heap.size ≤ q) s.heap H locs →
    lv_has ls 7 [(0, .ref b), (1, .ref (qa 0)), (2, .ref (qb 0)), (3, .ref o), (4, .int (nI (4 * i)))] → W p l e room_1 s m #[.ref b] below meth c H locs (ci + 3) (si + 74) Z (F0 m 1213 ls [])
theorem st_constant (l : Launch) (hst : l.stackTraces = false) (D : va_G) (cyI cyZ cyJ : ClassId) (qa qb : Nat → Nat) (o : Nat) {S : ZS} {M : ZM} (fJ : Nat → Int64) (h : REL S M) (p1 : Int32) : STW l D cyI cyZ cyJ qa qb o yL_constant wsL_constant rwL_constant [.ref (qa 0), .int p1, .ref o] yX5_constant wsX5_constant rmX5_constant [.ref (qb 0), .int p1] 0 0 (fun v => v.toInt64) S M fJ := by
  rcases op_constant l D cyI cyZ qa qb hst h p1 with ⟨S', M', r, h1, h2, h3, h4⟩ | ⟨M', x, b, h1, h2, h3, h4, h5⟩
  · exact ⟨S', M', _, 0, r, w_constant l D cyI cyZ cyJ (qa 0) o (LA qa cyI cyZ S) (LA qa cyI cyZ S') fJ p1 (fA qa S) h1 LA_l LA_l LA_0, h2, h3, fun _ => if_pos rfl, h4⟩
  · exact ⟨S, M', fJ, M'.th, b, v_constant l D cyI cyZ cyJ (qa 0) o (LA qa cyI cyZ S) fJ p1 (fA qa S) h1 LA_l LA_0 h3, h2, rfl, fun z => absurd z h4, h5⟩
theorem st_operate (l : Launch) (hst : l.stackTraces = false) (D : va_G) (cyI cyZ cyJ : ClassId) (qa qb : Nat → Nat) (o : Nat) {S : ZS} {M : ZM} (fJ : Nat → Int64) (h : REL S M) (p1 : Int32) (p2 : Int32) (p3 : Int32) : STW l D cyI cyZ cyJ qa qb o yL_operate wsL_operate rwL_operate [.ref (qa 0), .int p1, .int p2, .int p3, .ref o] yX5_operate wsX5_operate rmX5_operate [.ref (qb 0), .int p1, .int p2, .int p3] 0 0 (fun v => v.toInt64) S M fJ := by
  rcases op_operate l D cyI cyZ qa qb hst h p1 p2 p3 with ⟨S', M', r, h1, h2, h3, h4⟩ | ⟨M', x, b, h1, h2, h3, h4, h5⟩
  · exact ⟨S', M', _, 0, r, w_operate l D cyI cyZ cyJ (qa 0) o (LA qa cyI cyZ S) (LA qa cyI cyZ S') fJ p1 p2 p3 (fA qa S) h1 LA_l LA_l LA_0, h2, h3, fun _ => if_pos rfl, h4⟩
  · exact ⟨S, M', fJ, M'.th, b, v_operate l D cyI cyZ cyJ (qa 0) o (LA qa cyI cyZ S) fJ p1 p2 p3 (fA qa S) h1 LA_l LA_0 h3, h2, rfl, fun z => absurd z h4, h5⟩
theorem st_pass (l : Launch) (hst : l.stackTraces = false) (D : va_G) (cyI cyZ cyJ : ClassId) (qa qb : Nat → Nat) (o : Nat) {S : ZS} {M : ZM} (fJ : Nat → Int64) (h : REL S M) (p1 : Int32) (p2 : Int32) : STW l D cyI cyZ cyJ qa qb o yL_pass wsL_pass rwL_pass [.ref (qa 0), .int p1, .int p2, .ref o] yX5_pass wsX5_pass rmX5_pass [.ref (qb 0), .int p1, .int p2] 0 0 (fun v => v.toInt64) S M fJ := by
  rcases op_pass l D cyI cyZ qa qb hst h p1 p2 with ⟨S', M', r, h1, h2, h3, h4⟩ | ⟨M', x, b, h1, h2, h3, h4, h5⟩
  · exact ⟨S', M', _, 0, r, w_pass l D cyI cyZ cyJ (qa 0) o (LA qa cyI cyZ S) (LA qa cyI cyZ S') fJ p1 p2 (fA qa S) h1 LA_l LA_l LA_0, h2, h3, fun _ => if_pos rfl, h4⟩
  · exact ⟨S, M', fJ, M'.th, b, v_pass l D cyI cyZ cyJ (qa 0) o (LA qa cyI cyZ S) fJ p1 p2 (fA qa S) h1 LA_l LA_0 h3, h2, rfl, fun z => absurd z h4, h5⟩
theorem st_change (l : Launch) (hst : l.stackTraces = false) (D : va_G) (cyI cyZ cyJ : ClassId) (qa qb : Nat → Nat) (o : Nat) {S : ZS} {M : ZM} (fJ : Nat → Int64) (h : REL S M) (p1 : Int32) (p2 : Int32) : STW l D cyI cyZ cyJ qa qb o yL_change wsL_change rwL_change [.ref (qa 0), .int p1, .int p2, .ref o] yX5_change wsX5_change rmX5_change [.ref (qb 0), .int p1, .int p2] 0 0 (fun v => v.toInt64) S M fJ := by
  rcases op_change l D cyI cyZ qa qb hst h p1 p2 with ⟨S', M', r, h1, h2, h3, h4⟩ | ⟨M', x, b, h1, h2, h3, h4, h5⟩
  · exact ⟨S', M', _, 0, r, w_change l D cyI cyZ cyJ (qa 0) o (LA qa cyI cyZ S) (LA qa cyI cyZ S') fJ p1 p2 (fA qa S) h1 LA_l LA_l LA_0, h2, h3, fun _ => if_pos rfl, h4⟩
  · exact ⟨S, M', fJ, M'.th, b, v_change l D cyI cyZ cyJ (qa 0) o (LA qa cyI cyZ S) fJ p1 p2 (fA qa S) h1 LA_l LA_0 h3, h2, rfl, fun z => absurd z h4, h5⟩
theorem st_cut (l : Launch) (hst : l.stackTraces = false) (D : va_G) (cyI cyZ cyJ : ClassId) (qa qb : Nat → Nat) (o : Nat) {S : ZS} {M : ZM} (fJ : Nat → Int64) (h : REL S M) (p1 : Int32) : STW l D cyI cyZ cyJ qa qb o yL_cut wsL_cut rwL_cut [.ref (qa 0), .int p1, .ref o] yX5_cut wsX5_cut rmX5_cut [.ref (qb 0), .int p1] 0 0 (fun v => v.toInt64) S M fJ := by
  rcases op_cut l D cyI cyZ qa qb hst h p1 with ⟨S', M', r, h1, h2, h3, h4⟩ | ⟨M', x, b, h1, h2, h3, h4, h5⟩
  · exact ⟨S', M', _, 0, r, w_cut l D cyI cyZ cyJ (qa 0) o (LA qa cyI cyZ S) (LA qa cyI cyZ S') fJ p1 (fA qa S) h1 LA_l LA_l LA_0, h2, h3, fun _ => if_pos rfl, h4⟩
  · exact ⟨S, M', fJ, M'.th, b, v_cut l D cyI cyZ cyJ (qa 0) o (LA qa cyI cyZ S) fJ p1 (fA qa S) h1 LA_l LA_0 h3, h2, rfl, fun z => absurd z h4, h5⟩
theorem st_kind (l : Launch) (hst : l.stackTraces = false) (D : va_G) (cyI cyZ cyJ : ClassId) (qa qb : Nat → Nat) (o : Nat) {S : ZS} {M : ZM} (fJ : Nat → Int64) (h : REL S M) (p1 : Int32) : STW l D cyI cyZ cyJ qa qb o yL_kind wsL_kind rwL_kind [.ref (qa 0), .int p1, .ref o] yX5_kind wsX5_kind rmX5_kind [.ref (qb 0), .int p1] 0 0 (fun v => v.toInt64) S M fJ := by
  rcases op_kind l D cyI cyZ qa qb hst h p1 with ⟨S', M', r, h1, h2, h3, h4⟩ | ⟨M', x, b, h1, h2, h3, h4, h5⟩
  · exact ⟨S', M', _, 0, r, w_kind l D cyI cyZ cyJ (qa 0) o (LA qa cyI cyZ S) (LA qa cyI cyZ S') fJ p1 (fA qa S) h1 LA_l LA_l LA_0, h2, h3, fun _ => if_pos rfl, h4⟩
  · exact ⟨S, M', fJ, M'.th, b, v_kind l D cyI cyZ cyJ (qa 0) o (LA qa cyI cyZ S) fJ p1 (fA qa S) h1 LA_l LA_0 h3, h2, rfl, fun z => absurd z h4, h5⟩
theorem st_counts (l : Launch) (hst : l.stackTraces = false) (D : va_G) (cyI cyZ cyJ : ClassId) (qa qb : Nat → Nat) (o : Nat) {S : ZS} {M : ZM} (fJ : Nat → Int64) (h : REL S M) (p1 : Int32) : STW l D cyI cyZ cyJ qa qb o yL_counts wsL_counts rwL_counts [.ref (qa 0), .int p1, .ref o] yX5_counts wsX5_counts rmX5_counts [.ref (qb 0), .int p1] 0 0 (fun v => if v = 0 then 0 else 1) S M fJ := by
  rcases op_counts l D cyI cyZ qa qb hst h p1 with ⟨S', M', r, h1, h2, h3, h4⟩ | ⟨M', x, b, h1, h2, h3, h4, h5⟩
  · exact ⟨S', M', _, 0, r, w_counts l D cyI cyZ cyJ (qa 0) o (LA qa cyI cyZ S) (LA qa cyI cyZ S') fJ p1 (fA qa S) h1 LA_l LA_l LA_0, h2, h3, fun _ => if_pos rfl, h4⟩
  · exact ⟨S, M', fJ, M'.th, b, v_counts l D cyI cyZ cyJ (qa 0) o (LA qa cyI cyZ S) fJ p1 (fA qa S) h1 LA_l LA_0 h3, h2, rfl, fun z => absurd z h4, h5⟩
theorem st_nextUse (l : Launch) (hst : l.stackTraces = false) (D : va_G) (cyI cyZ cyJ : ClassId) (qa qb : Nat → Nat) (o : Nat) {S : ZS} {M : ZM} (fJ : Nat → Int64) (h : REL S M) (p1 : Int32) (p2 : Int32) : STW l D cyI cyZ cyJ qa qb o yL_nextUse wsL_nextUse rwL_nextUse [.ref (qa 0), .int p1, .int p2, .ref o] yX5_nextUse wsX5_nextUse rmX5_nextUse [.ref (qb 0), .int p1, .int p2] 0 0 (fun v => v.toInt64) S M fJ := by
  rcases op_nextUse l D cyI cyZ qa qb hst h p1 p2 with ⟨S', M', r, h1, h2, h3, h4⟩ | ⟨M', x, b, h1, h2, h3, h4, h5⟩
  · exact ⟨S', M', _, 0, r, w_nextUse l D cyI cyZ cyJ (qa 0) o (LA qa cyI cyZ S) (LA qa cyI cyZ S') fJ p1 p2 (fA qa S) h1 LA_l LA_l LA_0, h2, h3, fun _ => if_pos rfl, h4⟩
  · exact ⟨S, M', fJ, M'.th, b, v_nextUse l D cyI cyZ cyJ (qa 0) o (LA qa cyI cyZ S) fJ p1 p2 (fA qa S) h1 LA_l LA_0 h3, h2, rfl, fun z => absurd z h4, h5⟩
theorem st_pressure (l : Launch) (hst : l.stackTraces = false) (D : va_G) (cyI cyZ cyJ : ClassId) (qa qb : Nat → Nat) (o : Nat) {S : ZS} {M : ZM} (fJ : Nat → Int64) (h : REL S M) (p1 : Int32) : STW l D cyI cyZ cyJ qa qb o yL_pressure wsL_pressure rwL_pressure [.ref (qa 0), .int p1, .ref o] yX5_pressure wsX5_pressure rmX5_pressure [.ref (qb 0), .int p1] 0 0 (fun v => v.toInt64) S M fJ := by
  rcases op_pressure l D cyI cyZ qa qb hst h p1 with ⟨S', M', r, h1, h2, h3, h4⟩ | ⟨M', x, b, h1, h2, h3, h4, h5⟩
  · exact ⟨S', M', _, 0, r, w_pressure l D cyI cyZ cyJ (qa 0) o (LA qa cyI cyZ S) (LA qa cyI cyZ S') fJ p1 (fA qa S) h1 LA_l LA_l LA_0, h2, h3, fun _ => if_pos rfl, h4⟩
  · exact ⟨S, M', fJ, M'.th, b, v_pressure l D cyI cyZ cyJ (qa 0) o (LA qa cyI cyZ S) fJ p1 (fA qa S) h1 LA_l LA_0 h3, h2, rfl, fun z => absurd z h4, h5⟩
theorem st_setRegisters (l : Launch) (hst : l.stackTraces = false) (D : va_G) (cyI cyZ cyJ : ClassId) (qa qb : Nat → Nat) (o : Nat) {S : ZS} {M : ZM} (fJ : Nat → Int64) (h : REL S M) (p1 : Int32) : STW l D cyI cyZ cyJ qa qb o yL_setRegisters wsL_setRegisters rwL_setRegisters [.ref (qa 0), .int p1, .ref o] yX5_setRegisters wsX5_setRegisters rmX5_setRegisters [.ref (qb 0), .int p1] 0 0 (fun v => v.toInt64) S M fJ := by
  rcases op_setRegisters l D cyI cyZ qa qb hst h p1 with ⟨S', M', r, h1, h2, h3, h4⟩ | ⟨M', x, b, h1, h2, h3, h4, h5⟩
  · exact ⟨S', M', _, 0, r, w_setRegisters l D cyI cyZ cyJ (qa 0) o (LA qa cyI cyZ S) (LA qa cyI cyZ S') fJ p1 (fA qa S) h1 LA_l LA_l LA_0, h2, h3, fun _ => if_pos rfl, h4⟩
  · exact ⟨S, M', fJ, M'.th, b, v_setRegisters l D cyI cyZ cyJ (qa 0) o (LA qa cyI cyZ S) fJ p1 (fA qa S) h1 LA_l LA_0 h3, h2, rfl, fun z => absurd z h4, h5⟩
theorem st_step (l : Launch) (hst : l.stackTraces = false) (D : va_G) (cyI cyZ cyJ : ClassId) (qa qb : Nat → Nat) (o : Nat) {S : ZS} {M : ZM} (fJ : Nat → Int64) (h : REL S M) (p1 : Int32) (p2 : Int32) : STW l D cyI cyZ cyJ qa qb o yL_step wsL_step rwL_step [.ref (qa 0), .int p1, .int p2, .ref o] yX5_step wsX5_step rmX5_step [.ref (qb 0), .int p1, .int p2] 0 0 (fun v => v.toInt64) S M fJ := by
  rcases op_step l D cyI cyZ qa qb hst h p1 p2 with ⟨S', M', r, h1, h2, h3, h4⟩ | ⟨M', x, b, h1, h2, h3, h4, h5⟩
  · exact ⟨S', M', _, 0, r, w_step l D cyI cyZ cyJ (qa 0) o (LA qa cyI cyZ S) (LA qa cyI cyZ S') fJ p1 p2 (fA qa S) h1 LA_l LA_l LA_0, h2, h3, fun _ => if_pos rfl, h4⟩
  · exact ⟨S, M', fJ, M'.th, b, v_step l D cyI cyZ cyJ (qa 0) o (LA qa cyI cyZ S) fJ p1 p2 (fA qa S) h1 LA_l LA_0 h3, h2, rfl, fun z => absurd z h4, h5⟩
theorem st_stepCount (l : Launch) (hst : l.stackTraces = false) (D : va_G) (cyI cyZ cyJ : ClassId) (qa qb : Nat → Nat) (o : Nat) {S : ZS} {M : ZM} (fJ : Nat → Int64) (h : REL S M) (p1 : Int32) : STW l D cyI cyZ cyJ qa qb o yL_stepCount wsL_stepCount rwL_stepCount [.ref (qa 0), .int p1, .ref o] yX5_stepCount wsX5_stepCount rmX5_stepCount [.ref (qb 0), .int p1] 0 0 (fun v => v.toInt64) S M fJ := by
  rcases op_stepCount l D cyI cyZ qa qb hst h p1 with ⟨S', M', r, h1, h2, h3, h4⟩ | ⟨M', x, b, h1, h2, h3, h4, h5⟩
  · exact ⟨S', M', _, 0, r, w_stepCount l D cyI cyZ cyJ (qa 0) o (LA qa cyI cyZ S) (LA qa cyI cyZ S') fJ p1 (fA qa S) h1 LA_l LA_l LA_0, h2, h3, fun _ => if_pos rfl, h4⟩
  · exact ⟨S, M', fJ, M'.th, b, v_stepCount l D cyI cyZ cyJ (qa 0) o (LA qa cyI cyZ S) fJ p1 (fA qa S) h1 LA_l LA_0 h3, h2, rfl, fun z => absurd z h4, h5⟩
theorem st_slots (l : Launch) (hst : l.stackTraces = false) (D : va_G) (cyI cyZ cyJ : ClassId) (qa qb : Nat → Nat) (o : Nat) {S : ZS} {M : ZM} (fJ : Nat → Int64) (h : REL S M) : STW l D cyI cyZ cyJ qa qb o yL_slots wsL_slots rwL_slots [.ref (qa 0), .ref o] yX5_slots wsX5_slots rmX5_slots [.ref (qb 0)] 0 0 (fun v => v.toInt64) S M fJ := by
  rcases op_slots l D cyI cyZ qa qb hst h with ⟨S', M', r, h1, h2, h3, h4⟩ | ⟨M', x, b, h1, h2, h3, h4, h5⟩
  · exact ⟨S', M', _, 0, r, w_slots l D cyI cyZ cyJ (qa 0) o (LA qa cyI cyZ S) (LA qa cyI cyZ S') fJ (fA qa S) h1 LA_l LA_l LA_0, h2, h3, fun _ => if_pos rfl, h4⟩
  · exact ⟨S, M', fJ, M'.th, b, v_slots l D cyI cyZ cyJ (qa 0) o (LA qa cyI cyZ S) fJ (fA qa S) h1 LA_l LA_0 h3, h2, rfl, fun z => absurd z h4, h5⟩
theorem st_pieceCount (l : Launch) (hst : l.stackTraces = false) (D : va_G) (cyI cyZ cyJ : ClassId) (qa qb : Nat → Nat) (o : Nat) {S : ZS} {M : ZM} (fJ : Nat → Int64) (h : REL S M) : STW l D cyI cyZ cyJ qa qb o yL_pieceCount wsL_pieceCount rwL_pieceCount [.ref (qa 0), .ref o] yX5_pieceCount wsX5_pieceCount rmX5_pieceCount [.ref (qb 0)] 0 0 (fun v => v.toInt64) S M fJ := by
  rcases op_pieceCount l D cyI cyZ qa qb hst h with ⟨S', M', r, h1, h2, h3, h4⟩ | ⟨M', x, b, h1, h2, h3, h4, h5⟩
  · exact ⟨S', M', _, 0, r, w_pieceCount l D cyI cyZ cyJ (qa 0) o (LA qa cyI cyZ S) (LA qa cyI cyZ S') fJ (fA qa S) h1 LA_l LA_l LA_0, h2, h3, fun _ => if_pos rfl, h4⟩
  · exact ⟨S, M', fJ, M'.th, b, v_pieceCount l D cyI cyZ cyJ (qa 0) o (LA qa cyI cyZ S) fJ (fA qa S) h1 LA_l LA_0 h3, h2, rfl, fun z => absurd z h4, h5⟩
theorem st_piece (l : Launch) (hst : l.stackTraces = false) (D : va_G) (cyI cyZ cyJ : ClassId) (qa qb : Nat → Nat) (o : Nat) {S : ZS} {M : ZM} (fJ : Nat → Int64) (h : REL S M) (p1 : Int32) (p2 : Int32) : STW l D cyI cyZ cyJ qa qb o yL_piece wsL_piece rwL_piece [.ref (qa 0), .int p1, .int p2, .ref o] yX5_piece wsX5_piece rmX5_piece [.ref (qb 0), .int p1, .int p2] 0 0 (fun v => v.toInt64) S M fJ := by
  rcases op_piece l D cyI cyZ qa qb hst h p1 p2 with ⟨S', M', r, h1, h2, h3, h4⟩ | ⟨M', x, b, h1, h2, h3, h4, h5⟩
  · exact ⟨S', M', _, 0, r, w_piece l D cyI cyZ cyJ (qa 0) o (LA qa cyI cyZ S) (LA qa cyI cyZ S') fJ p1 p2 (fA qa S) h1 LA_l LA_l LA_0, h2, h3, fun _ => if_pos rfl, h4⟩
  · exact ⟨S, M', fJ, M'.th, b, v_piece l D cyI cyZ cyJ (qa 0) o (LA qa cyI cyZ S) fJ p1 p2 (fA qa S) h1 LA_l LA_0 h3, h2, rfl, fun z => absurd z h4, h5⟩
theorem st_run (l : Launch) (hst : l.stackTraces = false) (D : va_G) (cyI cyZ cyJ : ClassId) (qa qb : Nat → Nat) (o : Nat) {S : ZS} {M : ZM} (fJ : Nat → Int64) (h : REL S M) : STW l D cyI cyZ cyJ qa qb o yL_run wsL_run rwL_run [.ref (qa 0), .ref o] yX5_run wsX5_run rmX5_run [.ref (qb 0)] 2 68 (fun v => v.toInt64) S M fJ := by
  rcases op_run l D cyI cyZ qa qb hst h with ⟨S', M', r, h1, h2, h3, h4⟩ | ⟨M', x, b, h1, h2, h3, h4, h5⟩
  · exact ⟨S', M', _, 0, r, w_run l D cyI cyZ cyJ (qa 0) o (LA qa cyI cyZ S) (LA qa cyI cyZ S') fJ (fA qa S) h1 LA_l LA_l LA_0, h2, h3, fun _ => if_pos rfl, h4⟩
  · exact ⟨S, M', fJ, M'.th, b, v_run l D cyI cyZ cyJ (qa 0) o (LA qa cyI cyZ S) fJ (fA qa S) h1 LA_l LA_0 h3, h2, rfl, fun z => absurd z h4, h5⟩
theorem st_output (l : Launch) (hst : l.stackTraces = false) (D : va_G) (cyI cyZ cyJ : ClassId) (qa qb : Nat → Nat) (o : Nat) {S : ZS} {M : ZM} (fJ : Nat → Int64) (h : REL S M) (p1 : Int32) : STW l D cyI cyZ cyJ qa qb o yL_output wsL_output rwL_output [.ref (qa 0), .int p1, .ref o] yX5_output wsX5_output rmX5_output [.ref (qb 0), .int p1] 0 0 (fun v => v.toInt64) S M fJ := by
  rcases op_output l D cyI cyZ qa qb hst h p1 with ⟨S', M', r, h1, h2, h3, h4⟩ | ⟨M', x, b, h1, h2, h3, h4, h5⟩
  · exact ⟨S', M', _, 0, r, w_output l D cyI cyZ cyJ (qa 0) o (LA qa cyI cyZ S) (LA qa cyI cyZ S') fJ p1 (fA qa S) h1 LA_l LA_l LA_0, h2, h3, fun _ => if_pos rfl, h4⟩
  · exact ⟨S, M', fJ, M'.th, b, v_output l D cyI cyZ cyJ (qa 0) o (LA qa cyI cyZ S) fJ p1 (fA qa S) h1 LA_l LA_0 h3, h2, rfl, fun z => absurd z h4, h5⟩
set_option maxHeartbeats 4000000 in
set_option maxRecDepth 100000 in
theorem case_0 {p : Program} {l : Launch} {e : Env} {s : State} {m : MethodId} {below : List Frame} {meth : Method} {c : Code} {b L : Nat} {xs : Nat → Int32} {D : va_G} {cyI cyZ cyJ : ClassId} {qa qb : Nat → Nat} {o i ci si : Nat} {Z : State → Prop} (K : LK p s m c b L xs l D cyI cyZ cyJ i ci si) {S : ZS} {M : ZM} {fJ : Nat → Int64} {H : Heap} {locs : List Loc} {ls : Array Slot} (hr : REL S M) (hP : va_P D vwCl (LA qa cyI cyZ S ++ ([LO o cyJ fJ] ++ LB qb cyI cyZ M)) H) (hD : va_D (fun q : Nat => s.heap.size ≤ q) (LA qa cyI cyZ S ++ ([LO o cyJ fJ] ++ LB qb cyI cyZ M))) (hS : va_S (fun q : Nat => s.heap.size ≤ q) s.heap H locs) (hl : lv_has ls 7 [(0, .ref b), (1, .ref (qa 0)), (2, .ref (qb 0)), (3, .ref o), (4, .int (nI (4 * i)))]) (nx : LN p l e s m below meth c b D cyI cyZ cyJ qa qb o i ci si Z) : W p l e room_1 s m #[.ref b] below meth c H locs ci si Z (F0 m 140 ls []) := by
  obtain ⟨hx, hb, hml, hown, hts, hX, hbl, hK, hY, hst, hi4, hL, hci, hsi⟩ := K
  have hK2 : va_K D vwCl (kT cyI cyZ) s := hK.sub [0, 1] rfl
  have hA : ∀ q : Nat, s.heap.size ≤ q → (fun q : Nat => s.heap.size ≤ q) q := fun _ h => h
  have hbA : ¬ (fun q : Nat => s.heap.size ≤ q) b := Nat.not_le.mpr hbl
  have hl : lv_has ls 7 [(0, .ref b), (1, .ref (qa 0)), (2, .ref (qb 0)), (3, .ref o), (4, .int (nI (4 * i)))] := hl
  have hin1 : vp_in (nI (4 * i) + 1) L := by rw [nI_1]; exact vp_in_nI (by omega) (by omega)
  obtain ⟨S1, M1, fJ1, k, v, hM1, hM2, hth, hv, hr1⟩ := st_constant l hst D cyI cyZ cyJ qa qb o fJ hr (xs (nI (4 * i) + 1).toNatClampNeg)
  refine lv_aload_n hx hb dL_law_140 rfl (lv_at hl 1 rfl) ?_
  refine lv_aload_n hx hb dL_law_141 rfl (lv_at hl 0 rfl) ?_
  refine lv_iload hx hb dL_law_142 (lv_at hl 4 rfl) ?_
  refine lv_iconst (v := 1) hx hb dL_law_144 (by decide) ?_
  refine lv_iadd hx hb dL_law_145 ?_
  refine va_sld hx hb hX hbl hbA hS hin1 dL_law_146 ?_
  refine lv_aload_n hx hb dL_law_147 rfl (lv_at hl 3 rfl) ?_
  have hP : va_P D vwCl ([] ++ ((LA qa cyI cyZ S ++ [LO o cyJ fJ]) ++ LB qb cyI cyZ M)) H := by rw [le1]; exact hP
  have hD : va_D (fun q : Nat => s.heap.size ≤ q) ([] ++ ((LA qa cyI cyZ S ++ [LO o cyJ fJ]) ++ LB qb cyI cyZ M)) := by rw [le1]; exact hD
  refine kwm_S (n1 := 0) (n2 := 34) (n3 := 13) (wl := []) (wc := LA qa cyI cyZ S ++ [LO o cyJ fJ]) (w1 := LA qa cyI cyZ S1 ++ [LO o cyJ fJ1]) (wr := LB qb cyI cyZ M) (As := [.ref (qa 0), .int (xs (nI (4 * i) + 1).toNatClampNeg), .ref o]) (rest := []) rfl LA_34 LA_34 LB_l (by decide +kernel) hM1 ⟨hx, hb, hml, hown, hts⟩ (vx_cwSW 3 hts gL_law_L_constant rfl rfl rfl (by decide +kernel) ⟨Nat.le_of_ble_eq_true rfl, Nat.le_of_ble_eq_true rfl⟩) hK hY hP hD hS hA rfl hl.1 rfl (Nat.le_of_ble_eq_true rfl) dL_law_148 ⟨by omega, by omega⟩ (fun H locs hP hD hS => ?_)
  rw [le1] at hP hD
  refine lv_istore (lv' := [(5, .int k), (0, .ref b), (1, .ref (qa 0)), (2, .ref (qb 0)), (3, .ref o), (4, .int (nI (4 * i)))]) hx hb dL_law_151 hl (by decide) rfl (fun ls hl => ?_)
  refine lv_aload_n hx hb dL_law_153 rfl (lv_at hl 3 rfl) ?_
  refine lv_aload_n hx hb dL_law_154 rfl (lv_at hl 1 rfl) ?_
  refine lv_iload hx hb dL_law_155 (lv_at hl 5 rfl) ?_
  refine lv_iconst (v := 1) hx hb dL_law_157 (by decide) ?_
  refine lv_iadd hx hb dL_law_158 ?_
  refine va_sld hx hb hX hbl hbA hS hin1 dL_law_159 ?_
  have hP : va_P D vwCl ((LA qa cyI cyZ S1 ++ [LO o cyJ fJ1]) ++ (LB qb cyI cyZ M ++ [])) H := by rw [le2]; exact hP
  have hD : va_D (fun q : Nat => s.heap.size ≤ q) ((LA qa cyI cyZ S1 ++ [LO o cyJ fJ1]) ++ (LB qb cyI cyZ M ++ [])) := by rw [le2]; exact hD
  refine kcm_Vi (n1 := 34) (n2 := 13) (n3 := 0) (wl := LA qa cyI cyZ S1 ++ [LO o cyJ fJ1]) (wc := LB qb cyI cyZ M) (w1 := LB qb cyI cyZ M1) (wr := []) (As := [.int (xs (nI (4 * i) + 1).toNatClampNeg)]) (rest := []) LA_34 LB_l LB_l rfl (by decide +kernel) hM2 ⟨hx, hb, hml, hown, hts⟩ (cwV 1 hts gL_law_X5_constant rfl rfl rfl (by decide +kernel) ⟨Nat.le_of_ble_eq_true rfl, Nat.le_of_ble_eq_true rfl⟩) hK2 hP hD hS hA LB_0 rfl rfl rfl hl.1 rfl (Nat.le_of_ble_eq_true rfl) dL_law_160 ⟨by omega, by omega⟩ (fun H locs hP hD hS => ?_)
  rw [le2] at hP hD
  refine lv_istore (lv' := [(6, .int v), (5, .int k), (0, .ref b), (1, .ref (qa 0)), (2, .ref (qb 0)), (3, .ref o), (4, .int (nI (4 * i)))]) hx hb dL_law_163 hl (by decide) rfl (fun ls hl => ?_)
  refine lv_aload_n hx hb dL_law_165 rfl (lv_at hl 4 rfl) ?_
  have hP : va_P D vwCl ((LA qa cyI cyZ S1 ++ [LO o cyJ fJ1]) ++ (LB qb cyI cyZ M1 ++ [])) H := by rw [le2]; exact hP
  have hD : va_D (fun q : Nat => s.heap.size ≤ q) ((LA qa cyI cyZ S1 ++ [LO o cyJ fJ1]) ++ (LB qb cyI cyZ M1 ++ [])) := by rw [le2]; exact hD
  refine kcm_Vi (n1 := 34) (n2 := 13) (n3 := 0) (wl := LA qa cyI cyZ S1 ++ [LO o cyJ fJ1]) (wc := LB qb cyI cyZ M1) (w1 := LB qb cyI cyZ M1) (wr := []) (As := []) (rest := []) LA_34 LB_l LB_l rfl (by decide +kernel) (m5_thrown l D cyI cyZ qb M1 M1.th rfl) ⟨hx, hb, hml, hown, hts⟩ (cwV 0 hts gL_law_X5_thrown rfl rfl rfl (by decide +kernel) ⟨Nat.le_of_ble_eq_true rfl, Nat.le_of_ble_eq_true rfl⟩) hK2 hP hD hS hA LB_0 rfl rfl rfl hl.1 rfl (Nat.le_of_ble_eq_true rfl) dL_law_166 ⟨by omega, by omega⟩ (fun H locs hP hD hS => ?_)
  rw [le2] at hP hD
  refine lv_iload hx hb dL_law_169 (lv_at hl 1 rfl) ?_
  refine lv_icmp_eq (tgt := 176) hx hb dL_law_171 (by decide) (fun cE => ?_) (fun cE => ?_)
  · refine lv_iload hx hb dL_law_176 (lv_at hl 1 rfl) ?_
    refine lv_if_ne (tgt := 193) hx hb dL_law_178 (by decide) (fun c0 => ?_) (fun c0 => ?_)
    · refine lv_goto (tgt := 1213) hx hb dL_law_193 (by decide) ?_
      refine W.widen (k := ci + 3) (n := si + 74) (by omega) (by omega) ?_
      exact nx _ _ _ _ _ _ hr1 hP hD hS (lv_sub hl [2, 3, 4, 5, 6] rfl)
    · refine lv_aload_n hx hb dL_law_181 rfl (lv_at hl 5 rfl) ?_
      refine lv_iconst (v := 0) hx hb dL_law_182 (by decide) ?_
      refine va_lald (f := fJ1) hx hb hK hP 33 2 (loAt LA_l) rfl vin01 dL_law_183 ?_
      rw [c00, hv c0]
      refine lv_iload hx hb dL_law_184 (lv_at hl 0 rfl) ?_
      refine lv_i2l hx hb dL_law_186 rfl ?_
      refine kl_cmp hx hb dL_law_187 ?_
      refine lv_if_eq (tgt := 193) hx hb dL_law_188 (by decide) (fun cE => ?_) (fun cE => ?_)
      · refine lv_goto (tgt := 1213) hx hb dL_law_193 (by decide) ?_
        refine W.widen (k := ci + 3) (n := si + 74) (by omega) (by omega) ?_
        exact nx _ _ _ _ _ _ hr1 hP hD hS (lv_sub hl [2, 3, 4, 5, 6] rfl)
      · exact absurd rfl cE
  · exact absurd hth cE
set_option maxHeartbeats 4000000 in
set_option maxRecDepth 100000 in
theorem case_1 {p : Program} {l : Launch} {e : Env} {s : State} {m : MethodId} {below : List Frame} {meth : Method} {c : Code} {b L : Nat} {xs : Nat → Int32} {D : va_G} {cyI cyZ cyJ : ClassId} {qa qb : Nat → Nat} {o i ci si : Nat} {Z : State → Prop} (K : LK p s m c b L xs l D cyI cyZ cyJ i ci si) {S : ZS} {M : ZM} {fJ : Nat → Int64} {H : Heap} {locs : List Loc} {ls : Array Slot} (hr : REL S M) (hP : va_P D vwCl (LA qa cyI cyZ S ++ ([LO o cyJ fJ] ++ LB qb cyI cyZ M)) H) (hD : va_D (fun q : Nat => s.heap.size ≤ q) (LA qa cyI cyZ S ++ ([LO o cyJ fJ] ++ LB qb cyI cyZ M))) (hS : va_S (fun q : Nat => s.heap.size ≤ q) s.heap H locs) (hl : lv_has ls 7 [(0, .ref b), (1, .ref (qa 0)), (2, .ref (qb 0)), (3, .ref o), (4, .int (nI (4 * i)))]) (nx : LN p l e s m below meth c b D cyI cyZ cyJ qa qb o i ci si Z) : W p l e room_1 s m #[.ref b] below meth c H locs ci si Z (F0 m 196 ls []) := by
  obtain ⟨hx, hb, hml, hown, hts, hX, hbl, hK, hY, hst, hi4, hL, hci, hsi⟩ := K
  have hK2 : va_K D vwCl (kT cyI cyZ) s := hK.sub [0, 1] rfl
  have hA : ∀ q : Nat, s.heap.size ≤ q → (fun q : Nat => s.heap.size ≤ q) q := fun _ h => h
  have hbA : ¬ (fun q : Nat => s.heap.size ≤ q) b := Nat.not_le.mpr hbl
  have hl : lv_has ls 7 [(0, .ref b), (1, .ref (qa 0)), (2, .ref (qb 0)), (3, .ref o), (4, .int (nI (4 * i)))] := hl
  have hin1 : vp_in (nI (4 * i) + 1) L := by rw [nI_1]; exact vp_in_nI (by omega) (by omega)
  have hin2 : vp_in (nI (4 * i) + 2) L := by rw [add2]; exact vp_in_nI (by omega) (by omega)
  have hin3 : vp_in (nI (4 * i) + 3) L := by rw [add3]; exact vp_in_nI (by omega) (by omega)
  obtain ⟨S1, M1, fJ1, k, v, hM1, hM2, hth, hv, hr1⟩ := st_operate l hst D cyI cyZ cyJ qa qb o fJ hr (xs (nI (4 * i) + 1).toNatClampNeg) (xs (nI (4 * i) + 2).toNatClampNeg) (xs (nI (4 * i) + 3).toNatClampNeg)
  refine lv_aload_n hx hb dL_law_196 rfl (lv_at hl 1 rfl) ?_
  refine lv_aload_n hx hb dL_law_197 rfl (lv_at hl 0 rfl) ?_
  refine lv_iload hx hb dL_law_198 (lv_at hl 4 rfl) ?_
  refine lv_iconst (v := 1) hx hb dL_law_200 (by decide) ?_
  refine lv_iadd hx hb dL_law_201 ?_
  refine va_sld hx hb hX hbl hbA hS hin1 dL_law_202 ?_
  refine lv_aload_n hx hb dL_law_203 rfl (lv_at hl 0 rfl) ?_
  refine lv_iload hx hb dL_law_204 (lv_at hl 4 rfl) ?_
  refine lv_iconst (v := 2) hx hb dL_law_206 (by decide) ?_
  refine lv_iadd hx hb dL_law_207 ?_
  refine va_sld hx hb hX hbl hbA hS hin2 dL_law_208 ?_
  refine lv_aload_n hx hb dL_law_209 rfl (lv_at hl 0 rfl) ?_
  refine lv_iload hx hb dL_law_210 (lv_at hl 4 rfl) ?_
  refine lv_iconst (v := 3) hx hb dL_law_212 (by decide) ?_
  refine lv_iadd hx hb dL_law_213 ?_
  refine va_sld hx hb hX hbl hbA hS hin3 dL_law_214 ?_
  refine lv_aload_n hx hb dL_law_215 rfl (lv_at hl 3 rfl) ?_
  have hP : va_P D vwCl ([] ++ ((LA qa cyI cyZ S ++ [LO o cyJ fJ]) ++ LB qb cyI cyZ M)) H := by rw [le1]; exact hP
  have hD : va_D (fun q : Nat => s.heap.size ≤ q) ([] ++ ((LA qa cyI cyZ S ++ [LO o cyJ fJ]) ++ LB qb cyI cyZ M)) := by rw [le1]; exact hD
  refine kwm_S (n1 := 0) (n2 := 34) (n3 := 13) (wl := []) (wc := LA qa cyI cyZ S ++ [LO o cyJ fJ]) (w1 := LA qa cyI cyZ S1 ++ [LO o cyJ fJ1]) (wr := LB qb cyI cyZ M) (As := [.ref (qa 0), .int (xs (nI (4 * i) + 1).toNatClampNeg), .int (xs (nI (4 * i) + 2).toNatClampNeg), .int (xs (nI (4 * i) + 3).toNatClampNeg), .ref o]) (rest := []) rfl LA_34 LA_34 LB_l (by decide +kernel) hM1 ⟨hx, hb, hml, hown, hts⟩ (vx_cwSW 5 hts gL_law_L_operate rfl rfl rfl (by decide +kernel) ⟨Nat.le_of_ble_eq_true rfl, Nat.le_of_ble_eq_true rfl⟩) hK hY hP hD hS hA rfl hl.1 rfl (Nat.le_of_ble_eq_true rfl) dL_law_216 ⟨by omega, by omega⟩ (fun H locs hP hD hS => ?_)
  rw [le1] at hP hD
  refine lv_istore (lv' := [(5, .int k), (0, .ref b), (1, .ref (qa 0)), (2, .ref (qb 0)), (3, .ref o), (4, .int (nI (4 * i)))]) hx hb dL_law_219 hl (by decide) rfl (fun ls hl => ?_)
  refine lv_aload_n hx hb dL_law_221 rfl (lv_at hl 3 rfl) ?_
  refine lv_aload_n hx hb dL_law_222 rfl (lv_at hl 1 rfl) ?_
  refine lv_iload hx hb dL_law_223 (lv_at hl 5 rfl) ?_
  refine lv_iconst (v := 1) hx hb dL_law_225 (by decide) ?_
  refine lv_iadd hx hb dL_law_226 ?_
  refine va_sld hx hb hX hbl hbA hS hin1 dL_law_227 ?_
  refine lv_aload_n hx hb dL_law_228 rfl (lv_at hl 1 rfl) ?_
  refine lv_iload hx hb dL_law_229 (lv_at hl 5 rfl) ?_
  refine lv_iconst (v := 2) hx hb dL_law_231 (by decide) ?_
  refine lv_iadd hx hb dL_law_232 ?_
  refine va_sld hx hb hX hbl hbA hS hin2 dL_law_233 ?_
  refine lv_aload_n hx hb dL_law_234 rfl (lv_at hl 1 rfl) ?_
  refine lv_iload hx hb dL_law_235 (lv_at hl 5 rfl) ?_
  refine lv_iconst (v := 3) hx hb dL_law_237 (by decide) ?_
  refine lv_iadd hx hb dL_law_238 ?_
  refine va_sld hx hb hX hbl hbA hS hin3 dL_law_239 ?_
  have hP : va_P D vwCl ((LA qa cyI cyZ S1 ++ [LO o cyJ fJ1]) ++ (LB qb cyI cyZ M ++ [])) H := by rw [le2]; exact hP
  have hD : va_D (fun q : Nat => s.heap.size ≤ q) ((LA qa cyI cyZ S1 ++ [LO o cyJ fJ1]) ++ (LB qb cyI cyZ M ++ [])) := by rw [le2]; exact hD
  refine kcm_Vi (n1 := 34) (n2 := 13) (n3 := 0) (wl := LA qa cyI cyZ S1 ++ [LO o cyJ fJ1]) (wc := LB qb cyI cyZ M) (w1 := LB qb cyI cyZ M1) (wr := []) (As := [.int (xs (nI (4 * i) + 1).toNatClampNeg), .int (xs (nI (4 * i) + 2).toNatClampNeg), .int (xs (nI (4 * i) + 3).toNatClampNeg)]) (rest := []) LA_34 LB_l LB_l rfl (by decide +kernel) hM2 ⟨hx, hb, hml, hown, hts⟩ (cwV 3 hts gL_law_X5_operate rfl rfl rfl (by decide +kernel) ⟨Nat.le_of_ble_eq_true rfl, Nat.le_of_ble_eq_true rfl⟩) hK2 hP hD hS hA LB_0 rfl rfl rfl hl.1 rfl (Nat.le_of_ble_eq_true rfl) dL_law_240 ⟨by omega, by omega⟩ (fun H locs hP hD hS => ?_)
  rw [le2] at hP hD
  refine lv_istore (lv' := [(6, .int v), (5, .int k), (0, .ref b), (1, .ref (qa 0)), (2, .ref (qb 0)), (3, .ref o), (4, .int (nI (4 * i)))]) hx hb dL_law_243 hl (by decide) rfl (fun ls hl => ?_)
  refine lv_aload_n hx hb dL_law_245 rfl (lv_at hl 4 rfl) ?_
  have hP : va_P D vwCl ((LA qa cyI cyZ S1 ++ [LO o cyJ fJ1]) ++ (LB qb cyI cyZ M1 ++ [])) H := by rw [le2]; exact hP
  have hD : va_D (fun q : Nat => s.heap.size ≤ q) ((LA qa cyI cyZ S1 ++ [LO o cyJ fJ1]) ++ (LB qb cyI cyZ M1 ++ [])) := by rw [le2]; exact hD
  refine kcm_Vi (n1 := 34) (n2 := 13) (n3 := 0) (wl := LA qa cyI cyZ S1 ++ [LO o cyJ fJ1]) (wc := LB qb cyI cyZ M1) (w1 := LB qb cyI cyZ M1) (wr := []) (As := []) (rest := []) LA_34 LB_l LB_l rfl (by decide +kernel) (m5_thrown l D cyI cyZ qb M1 M1.th rfl) ⟨hx, hb, hml, hown, hts⟩ (cwV 0 hts gL_law_X5_thrown rfl rfl rfl (by decide +kernel) ⟨Nat.le_of_ble_eq_true rfl, Nat.le_of_ble_eq_true rfl⟩) hK2 hP hD hS hA LB_0 rfl rfl rfl hl.1 rfl (Nat.le_of_ble_eq_true rfl) dL_law_246 ⟨by omega, by omega⟩ (fun H locs hP hD hS => ?_)
  rw [le2] at hP hD
  refine lv_iload hx hb dL_law_249 (lv_at hl 1 rfl) ?_
  refine lv_icmp_eq (tgt := 256) hx hb dL_law_251 (by decide) (fun cE => ?_) (fun cE => ?_)
  · refine lv_iload hx hb dL_law_256 (lv_at hl 1 rfl) ?_
    refine lv_if_ne (tgt := 273) hx hb dL_law_258 (by decide) (fun c0 => ?_) (fun c0 => ?_)
    · refine lv_goto (tgt := 1213) hx hb dL_law_273 (by decide) ?_
      refine W.widen (k := ci + 3) (n := si + 74) (by omega) (by omega) ?_
      exact nx _ _ _ _ _ _ hr1 hP hD hS (lv_sub hl [2, 3, 4, 5, 6] rfl)
    · refine lv_aload_n hx hb dL_law_261 rfl (lv_at hl 5 rfl) ?_
      refine lv_iconst (v := 0) hx hb dL_law_262 (by decide) ?_
      refine va_lald (f := fJ1) hx hb hK hP 33 2 (loAt LA_l) rfl vin01 dL_law_263 ?_
      rw [c00, hv c0]
      refine lv_iload hx hb dL_law_264 (lv_at hl 0 rfl) ?_
      refine lv_i2l hx hb dL_law_266 rfl ?_
      refine kl_cmp hx hb dL_law_267 ?_
      refine lv_if_eq (tgt := 273) hx hb dL_law_268 (by decide) (fun cE => ?_) (fun cE => ?_)
      · refine lv_goto (tgt := 1213) hx hb dL_law_273 (by decide) ?_
        refine W.widen (k := ci + 3) (n := si + 74) (by omega) (by omega) ?_
        exact nx _ _ _ _ _ _ hr1 hP hD hS (lv_sub hl [2, 3, 4, 5, 6] rfl)
      · exact absurd rfl cE
  · exact absurd hth cE
set_option maxHeartbeats 4000000 in
set_option maxRecDepth 100000 in
theorem case_2 {p : Program} {l : Launch} {e : Env} {s : State} {m : MethodId} {below : List Frame} {meth : Method} {c : Code} {b L : Nat} {xs : Nat → Int32} {D : va_G} {cyI cyZ cyJ : ClassId} {qa qb : Nat → Nat} {o i ci si : Nat} {Z : State → Prop} (K : LK p s m c b L xs l D cyI cyZ cyJ i ci si) {S : ZS} {M : ZM} {fJ : Nat → Int64} {H : Heap} {locs : List Loc} {ls : Array Slot} (hr : REL S M) (hP : va_P D vwCl (LA qa cyI cyZ S ++ ([LO o cyJ fJ] ++ LB qb cyI cyZ M)) H) (hD : va_D (fun q : Nat => s.heap.size ≤ q) (LA qa cyI cyZ S ++ ([LO o cyJ fJ] ++ LB qb cyI cyZ M))) (hS : va_S (fun q : Nat => s.heap.size ≤ q) s.heap H locs) (hl : lv_has ls 7 [(0, .ref b), (1, .ref (qa 0)), (2, .ref (qb 0)), (3, .ref o), (4, .int (nI (4 * i)))]) (nx : LN p l e s m below meth c b D cyI cyZ cyJ qa qb o i ci si Z) : W p l e room_1 s m #[.ref b] below meth c H locs ci si Z (F0 m 276 ls []) := by
  obtain ⟨hx, hb, hml, hown, hts, hX, hbl, hK, hY, hst, hi4, hL, hci, hsi⟩ := K
  have hK2 : va_K D vwCl (kT cyI cyZ) s := hK.sub [0, 1] rfl
  have hA : ∀ q : Nat, s.heap.size ≤ q → (fun q : Nat => s.heap.size ≤ q) q := fun _ h => h
  have hbA : ¬ (fun q : Nat => s.heap.size ≤ q) b := Nat.not_le.mpr hbl
  have hl : lv_has ls 7 [(0, .ref b), (1, .ref (qa 0)), (2, .ref (qb 0)), (3, .ref o), (4, .int (nI (4 * i)))] := hl
  have hin1 : vp_in (nI (4 * i) + 1) L := by rw [nI_1]; exact vp_in_nI (by omega) (by omega)
  have hin2 : vp_in (nI (4 * i) + 2) L := by rw [add2]; exact vp_in_nI (by omega) (by omega)
  obtain ⟨S1, M1, fJ1, k, v, hM1, hM2, hth, hv, hr1⟩ := st_pass l hst D cyI cyZ cyJ qa qb o fJ hr (xs (nI (4 * i) + 1).toNatClampNeg) (xs (nI (4 * i) + 2).toNatClampNeg)
  refine lv_aload_n hx hb dL_law_276 rfl (lv_at hl 1 rfl) ?_
  refine lv_aload_n hx hb dL_law_277 rfl (lv_at hl 0 rfl) ?_
  refine lv_iload hx hb dL_law_278 (lv_at hl 4 rfl) ?_
  refine lv_iconst (v := 1) hx hb dL_law_280 (by decide) ?_
  refine lv_iadd hx hb dL_law_281 ?_
  refine va_sld hx hb hX hbl hbA hS hin1 dL_law_282 ?_
  refine lv_aload_n hx hb dL_law_283 rfl (lv_at hl 0 rfl) ?_
  refine lv_iload hx hb dL_law_284 (lv_at hl 4 rfl) ?_
  refine lv_iconst (v := 2) hx hb dL_law_286 (by decide) ?_
  refine lv_iadd hx hb dL_law_287 ?_
  refine va_sld hx hb hX hbl hbA hS hin2 dL_law_288 ?_
  refine lv_aload_n hx hb dL_law_289 rfl (lv_at hl 3 rfl) ?_
  have hP : va_P D vwCl ([] ++ ((LA qa cyI cyZ S ++ [LO o cyJ fJ]) ++ LB qb cyI cyZ M)) H := by rw [le1]; exact hP
  have hD : va_D (fun q : Nat => s.heap.size ≤ q) ([] ++ ((LA qa cyI cyZ S ++ [LO o cyJ fJ]) ++ LB qb cyI cyZ M)) := by rw [le1]; exact hD
  refine kwm_S (n1 := 0) (n2 := 34) (n3 := 13) (wl := []) (wc := LA qa cyI cyZ S ++ [LO o cyJ fJ]) (w1 := LA qa cyI cyZ S1 ++ [LO o cyJ fJ1]) (wr := LB qb cyI cyZ M) (As := [.ref (qa 0), .int (xs (nI (4 * i) + 1).toNatClampNeg), .int (xs (nI (4 * i) + 2).toNatClampNeg), .ref o]) (rest := []) rfl LA_34 LA_34 LB_l (by decide +kernel) hM1 ⟨hx, hb, hml, hown, hts⟩ (vx_cwSW 4 hts gL_law_L_pass rfl rfl rfl (by decide +kernel) ⟨Nat.le_of_ble_eq_true rfl, Nat.le_of_ble_eq_true rfl⟩) hK hY hP hD hS hA rfl hl.1 rfl (Nat.le_of_ble_eq_true rfl) dL_law_290 ⟨by omega, by omega⟩ (fun H locs hP hD hS => ?_)
  rw [le1] at hP hD
  refine lv_istore (lv' := [(5, .int k), (0, .ref b), (1, .ref (qa 0)), (2, .ref (qb 0)), (3, .ref o), (4, .int (nI (4 * i)))]) hx hb dL_law_293 hl (by decide) rfl (fun ls hl => ?_)
  refine lv_aload_n hx hb dL_law_295 rfl (lv_at hl 3 rfl) ?_
  refine lv_aload_n hx hb dL_law_296 rfl (lv_at hl 1 rfl) ?_
  refine lv_iload hx hb dL_law_297 (lv_at hl 5 rfl) ?_
  refine lv_iconst (v := 1) hx hb dL_law_299 (by decide) ?_
  refine lv_iadd hx hb dL_law_300 ?_
  refine va_sld hx hb hX hbl hbA hS hin1 dL_law_301 ?_
  refine lv_aload_n hx hb dL_law_302 rfl (lv_at hl 1 rfl) ?_
  refine lv_iload hx hb dL_law_303 (lv_at hl 5 rfl) ?_
  refine lv_iconst (v := 2) hx hb dL_law_305 (by decide) ?_
  refine lv_iadd hx hb dL_law_306 ?_
  refine va_sld hx hb hX hbl hbA hS hin2 dL_law_307 ?_
  have hP : va_P D vwCl ((LA qa cyI cyZ S1 ++ [LO o cyJ fJ1]) ++ (LB qb cyI cyZ M ++ [])) H := by rw [le2]; exact hP
  have hD : va_D (fun q : Nat => s.heap.size ≤ q) ((LA qa cyI cyZ S1 ++ [LO o cyJ fJ1]) ++ (LB qb cyI cyZ M ++ [])) := by rw [le2]; exact hD
  refine kcm_Vi (n1 := 34) (n2 := 13) (n3 := 0) (wl := LA qa cyI cyZ S1 ++ [LO o cyJ fJ1]) (wc := LB qb cyI cyZ M) (w1 := LB qb cyI cyZ M1) (wr := []) (As := [.int (xs (nI (4 * i) + 1).toNatClampNeg), .int (xs (nI (4 * i) + 2).toNatClampNeg)]) (rest := []) LA_34 LB_l LB_l rfl (by decide +kernel) hM2 ⟨hx, hb, hml, hown, hts⟩ (cwV 2 hts gL_law_X5_pass rfl rfl rfl (by decide +kernel) ⟨Nat.le_of_ble_eq_true rfl, Nat.le_of_ble_eq_true rfl⟩) hK2 hP hD hS hA LB_0 rfl rfl rfl hl.1 rfl (Nat.le_of_ble_eq_true rfl) dL_law_308 ⟨by omega, by omega⟩ (fun H locs hP hD hS => ?_)
  rw [le2] at hP hD
  refine lv_istore (lv' := [(6, .int v), (5, .int k), (0, .ref b), (1, .ref (qa 0)), (2, .ref (qb 0)), (3, .ref o), (4, .int (nI (4 * i)))]) hx hb dL_law_311 hl (by decide) rfl (fun ls hl => ?_)
  refine lv_aload_n hx hb dL_law_313 rfl (lv_at hl 4 rfl) ?_
  have hP : va_P D vwCl ((LA qa cyI cyZ S1 ++ [LO o cyJ fJ1]) ++ (LB qb cyI cyZ M1 ++ [])) H := by rw [le2]; exact hP
  have hD : va_D (fun q : Nat => s.heap.size ≤ q) ((LA qa cyI cyZ S1 ++ [LO o cyJ fJ1]) ++ (LB qb cyI cyZ M1 ++ [])) := by rw [le2]; exact hD
  refine kcm_Vi (n1 := 34) (n2 := 13) (n3 := 0) (wl := LA qa cyI cyZ S1 ++ [LO o cyJ fJ1]) (wc := LB qb cyI cyZ M1) (w1 := LB qb cyI cyZ M1) (wr := []) (As := []) (rest := []) LA_34 LB_l LB_l rfl (by decide +kernel) (m5_thrown l D cyI cyZ qb M1 M1.th rfl) ⟨hx, hb, hml, hown, hts⟩ (cwV 0 hts gL_law_X5_thrown rfl rfl rfl (by decide +kernel) ⟨Nat.le_of_ble_eq_true rfl, Nat.le_of_ble_eq_true rfl⟩) hK2 hP hD hS hA LB_0 rfl rfl rfl hl.1 rfl (Nat.le_of_ble_eq_true rfl) dL_law_314 ⟨by omega, by omega⟩ (fun H locs hP hD hS => ?_)
  rw [le2] at hP hD
  refine lv_iload hx hb dL_law_317 (lv_at hl 1 rfl) ?_
  refine lv_icmp_eq (tgt := 324) hx hb dL_law_319 (by decide) (fun cE => ?_) (fun cE => ?_)
  · refine lv_iload hx hb dL_law_324 (lv_at hl 1 rfl) ?_
    refine lv_if_ne (tgt := 341) hx hb dL_law_326 (by decide) (fun c0 => ?_) (fun c0 => ?_)
    · refine lv_goto (tgt := 1213) hx hb dL_law_341 (by decide) ?_
      refine W.widen (k := ci + 3) (n := si + 74) (by omega) (by omega) ?_
      exact nx _ _ _ _ _ _ hr1 hP hD hS (lv_sub hl [2, 3, 4, 5, 6] rfl)
    · refine lv_aload_n hx hb dL_law_329 rfl (lv_at hl 5 rfl) ?_
      refine lv_iconst (v := 0) hx hb dL_law_330 (by decide) ?_
      refine va_lald (f := fJ1) hx hb hK hP 33 2 (loAt LA_l) rfl vin01 dL_law_331 ?_
      rw [c00, hv c0]
      refine lv_iload hx hb dL_law_332 (lv_at hl 0 rfl) ?_
      refine lv_i2l hx hb dL_law_334 rfl ?_
      refine kl_cmp hx hb dL_law_335 ?_
      refine lv_if_eq (tgt := 341) hx hb dL_law_336 (by decide) (fun cE => ?_) (fun cE => ?_)
      · refine lv_goto (tgt := 1213) hx hb dL_law_341 (by decide) ?_
        refine W.widen (k := ci + 3) (n := si + 74) (by omega) (by omega) ?_
        exact nx _ _ _ _ _ _ hr1 hP hD hS (lv_sub hl [2, 3, 4, 5, 6] rfl)
      · exact absurd rfl cE
  · exact absurd hth cE
set_option maxHeartbeats 4000000 in
set_option maxRecDepth 100000 in
theorem case_3 {p : Program} {l : Launch} {e : Env} {s : State} {m : MethodId} {below : List Frame} {meth : Method} {c : Code} {b L : Nat} {xs : Nat → Int32} {D : va_G} {cyI cyZ cyJ : ClassId} {qa qb : Nat → Nat} {o i ci si : Nat} {Z : State → Prop} (K : LK p s m c b L xs l D cyI cyZ cyJ i ci si) {S : ZS} {M : ZM} {fJ : Nat → Int64} {H : Heap} {locs : List Loc} {ls : Array Slot} (hr : REL S M) (hP : va_P D vwCl (LA qa cyI cyZ S ++ ([LO o cyJ fJ] ++ LB qb cyI cyZ M)) H) (hD : va_D (fun q : Nat => s.heap.size ≤ q) (LA qa cyI cyZ S ++ ([LO o cyJ fJ] ++ LB qb cyI cyZ M))) (hS : va_S (fun q : Nat => s.heap.size ≤ q) s.heap H locs) (hl : lv_has ls 7 [(0, .ref b), (1, .ref (qa 0)), (2, .ref (qb 0)), (3, .ref o), (4, .int (nI (4 * i)))]) (nx : LN p l e s m below meth c b D cyI cyZ cyJ qa qb o i ci si Z) : W p l e room_1 s m #[.ref b] below meth c H locs ci si Z (F0 m 344 ls []) := by
  obtain ⟨hx, hb, hml, hown, hts, hX, hbl, hK, hY, hst, hi4, hL, hci, hsi⟩ := K
  have hK2 : va_K D vwCl (kT cyI cyZ) s := hK.sub [0, 1] rfl
  have hA : ∀ q : Nat, s.heap.size ≤ q → (fun q : Nat => s.heap.size ≤ q) q := fun _ h => h
  have hbA : ¬ (fun q : Nat => s.heap.size ≤ q) b := Nat.not_le.mpr hbl
  have hl : lv_has ls 7 [(0, .ref b), (1, .ref (qa 0)), (2, .ref (qb 0)), (3, .ref o), (4, .int (nI (4 * i)))] := hl
  have hin1 : vp_in (nI (4 * i) + 1) L := by rw [nI_1]; exact vp_in_nI (by omega) (by omega)
  have hin2 : vp_in (nI (4 * i) + 2) L := by rw [add2]; exact vp_in_nI (by omega) (by omega)
  obtain ⟨S1, M1, fJ1, k, v, hM1, hM2, hth, hv, hr1⟩ := st_change l hst D cyI cyZ cyJ qa qb o fJ hr (xs (nI (4 * i) + 1).toNatClampNeg) (xs (nI (4 * i) + 2).toNatClampNeg)
  refine lv_aload_n hx hb dL_law_344 rfl (lv_at hl 1 rfl) ?_
  refine lv_aload_n hx hb dL_law_345 rfl (lv_at hl 0 rfl) ?_
  refine lv_iload hx hb dL_law_346 (lv_at hl 4 rfl) ?_
  refine lv_iconst (v := 1) hx hb dL_law_348 (by decide) ?_
  refine lv_iadd hx hb dL_law_349 ?_
  refine va_sld hx hb hX hbl hbA hS hin1 dL_law_350 ?_
  refine lv_aload_n hx hb dL_law_351 rfl (lv_at hl 0 rfl) ?_
  refine lv_iload hx hb dL_law_352 (lv_at hl 4 rfl) ?_
  refine lv_iconst (v := 2) hx hb dL_law_354 (by decide) ?_
  refine lv_iadd hx hb dL_law_355 ?_
  refine va_sld hx hb hX hbl hbA hS hin2 dL_law_356 ?_
  refine lv_aload_n hx hb dL_law_357 rfl (lv_at hl 3 rfl) ?_
  have hP : va_P D vwCl ([] ++ ((LA qa cyI cyZ S ++ [LO o cyJ fJ]) ++ LB qb cyI cyZ M)) H := by rw [le1]; exact hP
  have hD : va_D (fun q : Nat => s.heap.size ≤ q) ([] ++ ((LA qa cyI cyZ S ++ [LO o cyJ fJ]) ++ LB qb cyI cyZ M)) := by rw [le1]; exact hD
  refine kwm_S (n1 := 0) (n2 := 34) (n3 := 13) (wl := []) (wc := LA qa cyI cyZ S ++ [LO o cyJ fJ]) (w1 := LA qa cyI cyZ S1 ++ [LO o cyJ fJ1]) (wr := LB qb cyI cyZ M) (As := [.ref (qa 0), .int (xs (nI (4 * i) + 1).toNatClampNeg), .int (xs (nI (4 * i) + 2).toNatClampNeg), .ref o]) (rest := []) rfl LA_34 LA_34 LB_l (by decide +kernel) hM1 ⟨hx, hb, hml, hown, hts⟩ (vx_cwSW 4 hts gL_law_L_change rfl rfl rfl (by decide +kernel) ⟨Nat.le_of_ble_eq_true rfl, Nat.le_of_ble_eq_true rfl⟩) hK hY hP hD hS hA rfl hl.1 rfl (Nat.le_of_ble_eq_true rfl) dL_law_358 ⟨by omega, by omega⟩ (fun H locs hP hD hS => ?_)
  rw [le1] at hP hD
  refine lv_istore (lv' := [(5, .int k), (0, .ref b), (1, .ref (qa 0)), (2, .ref (qb 0)), (3, .ref o), (4, .int (nI (4 * i)))]) hx hb dL_law_361 hl (by decide) rfl (fun ls hl => ?_)
  refine lv_aload_n hx hb dL_law_363 rfl (lv_at hl 3 rfl) ?_
  refine lv_aload_n hx hb dL_law_364 rfl (lv_at hl 1 rfl) ?_
  refine lv_iload hx hb dL_law_365 (lv_at hl 5 rfl) ?_
  refine lv_iconst (v := 1) hx hb dL_law_367 (by decide) ?_
  refine lv_iadd hx hb dL_law_368 ?_
  refine va_sld hx hb hX hbl hbA hS hin1 dL_law_369 ?_
  refine lv_aload_n hx hb dL_law_370 rfl (lv_at hl 1 rfl) ?_
  refine lv_iload hx hb dL_law_371 (lv_at hl 5 rfl) ?_
  refine lv_iconst (v := 2) hx hb dL_law_373 (by decide) ?_
  refine lv_iadd hx hb dL_law_374 ?_
  refine va_sld hx hb hX hbl hbA hS hin2 dL_law_375 ?_
  have hP : va_P D vwCl ((LA qa cyI cyZ S1 ++ [LO o cyJ fJ1]) ++ (LB qb cyI cyZ M ++ [])) H := by rw [le2]; exact hP
  have hD : va_D (fun q : Nat => s.heap.size ≤ q) ((LA qa cyI cyZ S1 ++ [LO o cyJ fJ1]) ++ (LB qb cyI cyZ M ++ [])) := by rw [le2]; exact hD
  refine kcm_Vi (n1 := 34) (n2 := 13) (n3 := 0) (wl := LA qa cyI cyZ S1 ++ [LO o cyJ fJ1]) (wc := LB qb cyI cyZ M) (w1 := LB qb cyI cyZ M1) (wr := []) (As := [.int (xs (nI (4 * i) + 1).toNatClampNeg), .int (xs (nI (4 * i) + 2).toNatClampNeg)]) (rest := []) LA_34 LB_l LB_l rfl (by decide +kernel) hM2 ⟨hx, hb, hml, hown, hts⟩ (cwV 2 hts gL_law_X5_change rfl rfl rfl (by decide +kernel) ⟨Nat.le_of_ble_eq_true rfl, Nat.le_of_ble_eq_true rfl⟩) hK2 hP hD hS hA LB_0 rfl rfl rfl hl.1 rfl (Nat.le_of_ble_eq_true rfl) dL_law_376 ⟨by omega, by omega⟩ (fun H locs hP hD hS => ?_)
  rw [le2] at hP hD
  refine lv_istore (lv' := [(6, .int v), (5, .int k), (0, .ref b), (1, .ref (qa 0)), (2, .ref (qb 0)), (3, .ref o), (4, .int (nI (4 * i)))]) hx hb dL_law_379 hl (by decide) rfl (fun ls hl => ?_)
  refine lv_aload_n hx hb dL_law_381 rfl (lv_at hl 4 rfl) ?_
  have hP : va_P D vwCl ((LA qa cyI cyZ S1 ++ [LO o cyJ fJ1]) ++ (LB qb cyI cyZ M1 ++ [])) H := by rw [le2]; exact hP
  have hD : va_D (fun q : Nat => s.heap.size ≤ q) ((LA qa cyI cyZ S1 ++ [LO o cyJ fJ1]) ++ (LB qb cyI cyZ M1 ++ [])) := by rw [le2]; exact hD
  refine kcm_Vi (n1 := 34) (n2 := 13) (n3 := 0) (wl := LA qa cyI cyZ S1 ++ [LO o cyJ fJ1]) (wc := LB qb cyI cyZ M1) (w1 := LB qb cyI cyZ M1) (wr := []) (As := []) (rest := []) LA_34 LB_l LB_l rfl (by decide +kernel) (m5_thrown l D cyI cyZ qb M1 M1.th rfl) ⟨hx, hb, hml, hown, hts⟩ (cwV 0 hts gL_law_X5_thrown rfl rfl rfl (by decide +kernel) ⟨Nat.le_of_ble_eq_true rfl, Nat.le_of_ble_eq_true rfl⟩) hK2 hP hD hS hA LB_0 rfl rfl rfl hl.1 rfl (Nat.le_of_ble_eq_true rfl) dL_law_382 ⟨by omega, by omega⟩ (fun H locs hP hD hS => ?_)
  rw [le2] at hP hD
  refine lv_iload hx hb dL_law_385 (lv_at hl 1 rfl) ?_
  refine lv_icmp_eq (tgt := 392) hx hb dL_law_387 (by decide) (fun cE => ?_) (fun cE => ?_)
  · refine lv_iload hx hb dL_law_392 (lv_at hl 1 rfl) ?_
    refine lv_if_ne (tgt := 409) hx hb dL_law_394 (by decide) (fun c0 => ?_) (fun c0 => ?_)
    · refine lv_goto (tgt := 1213) hx hb dL_law_409 (by decide) ?_
      refine W.widen (k := ci + 3) (n := si + 74) (by omega) (by omega) ?_
      exact nx _ _ _ _ _ _ hr1 hP hD hS (lv_sub hl [2, 3, 4, 5, 6] rfl)
    · refine lv_aload_n hx hb dL_law_397 rfl (lv_at hl 5 rfl) ?_
      refine lv_iconst (v := 0) hx hb dL_law_398 (by decide) ?_
      refine va_lald (f := fJ1) hx hb hK hP 33 2 (loAt LA_l) rfl vin01 dL_law_399 ?_
      rw [c00, hv c0]
      refine lv_iload hx hb dL_law_400 (lv_at hl 0 rfl) ?_
      refine lv_i2l hx hb dL_law_402 rfl ?_
      refine kl_cmp hx hb dL_law_403 ?_
      refine lv_if_eq (tgt := 409) hx hb dL_law_404 (by decide) (fun cE => ?_) (fun cE => ?_)
      · refine lv_goto (tgt := 1213) hx hb dL_law_409 (by decide) ?_
        refine W.widen (k := ci + 3) (n := si + 74) (by omega) (by omega) ?_
        exact nx _ _ _ _ _ _ hr1 hP hD hS (lv_sub hl [2, 3, 4, 5, 6] rfl)
      · exact absurd rfl cE
  · exact absurd hth cE
set_option maxHeartbeats 4000000 in
set_option maxRecDepth 100000 in
theorem case_4 {p : Program} {l : Launch} {e : Env} {s : State} {m : MethodId} {below : List Frame} {meth : Method} {c : Code} {b L : Nat} {xs : Nat → Int32} {D : va_G} {cyI cyZ cyJ : ClassId} {qa qb : Nat → Nat} {o i ci si : Nat} {Z : State → Prop} (K : LK p s m c b L xs l D cyI cyZ cyJ i ci si) {S : ZS} {M : ZM} {fJ : Nat → Int64} {H : Heap} {locs : List Loc} {ls : Array Slot} (hr : REL S M) (hP : va_P D vwCl (LA qa cyI cyZ S ++ ([LO o cyJ fJ] ++ LB qb cyI cyZ M)) H) (hD : va_D (fun q : Nat => s.heap.size ≤ q) (LA qa cyI cyZ S ++ ([LO o cyJ fJ] ++ LB qb cyI cyZ M))) (hS : va_S (fun q : Nat => s.heap.size ≤ q) s.heap H locs) (hl : lv_has ls 7 [(0, .ref b), (1, .ref (qa 0)), (2, .ref (qb 0)), (3, .ref o), (4, .int (nI (4 * i)))]) (nx : LN p l e s m below meth c b D cyI cyZ cyJ qa qb o i ci si Z) : W p l e room_1 s m #[.ref b] below meth c H locs ci si Z (F0 m 412 ls []) := by
  obtain ⟨hx, hb, hml, hown, hts, hX, hbl, hK, hY, hst, hi4, hL, hci, hsi⟩ := K
  have hK2 : va_K D vwCl (kT cyI cyZ) s := hK.sub [0, 1] rfl
  have hA : ∀ q : Nat, s.heap.size ≤ q → (fun q : Nat => s.heap.size ≤ q) q := fun _ h => h
  have hbA : ¬ (fun q : Nat => s.heap.size ≤ q) b := Nat.not_le.mpr hbl
  have hl : lv_has ls 7 [(0, .ref b), (1, .ref (qa 0)), (2, .ref (qb 0)), (3, .ref o), (4, .int (nI (4 * i)))] := hl
  have hin1 : vp_in (nI (4 * i) + 1) L := by rw [nI_1]; exact vp_in_nI (by omega) (by omega)
  obtain ⟨S1, M1, fJ1, k, v, hM1, hM2, hth, hv, hr1⟩ := st_cut l hst D cyI cyZ cyJ qa qb o fJ hr (xs (nI (4 * i) + 1).toNatClampNeg)
  refine lv_aload_n hx hb dL_law_412 rfl (lv_at hl 1 rfl) ?_
  refine lv_aload_n hx hb dL_law_413 rfl (lv_at hl 0 rfl) ?_
  refine lv_iload hx hb dL_law_414 (lv_at hl 4 rfl) ?_
  refine lv_iconst (v := 1) hx hb dL_law_416 (by decide) ?_
  refine lv_iadd hx hb dL_law_417 ?_
  refine va_sld hx hb hX hbl hbA hS hin1 dL_law_418 ?_
  refine lv_aload_n hx hb dL_law_419 rfl (lv_at hl 3 rfl) ?_
  have hP : va_P D vwCl ([] ++ ((LA qa cyI cyZ S ++ [LO o cyJ fJ]) ++ LB qb cyI cyZ M)) H := by rw [le1]; exact hP
  have hD : va_D (fun q : Nat => s.heap.size ≤ q) ([] ++ ((LA qa cyI cyZ S ++ [LO o cyJ fJ]) ++ LB qb cyI cyZ M)) := by rw [le1]; exact hD
  refine kwm_S (n1 := 0) (n2 := 34) (n3 := 13) (wl := []) (wc := LA qa cyI cyZ S ++ [LO o cyJ fJ]) (w1 := LA qa cyI cyZ S1 ++ [LO o cyJ fJ1]) (wr := LB qb cyI cyZ M) (As := [.ref (qa 0), .int (xs (nI (4 * i) + 1).toNatClampNeg), .ref o]) (rest := []) rfl LA_34 LA_34 LB_l (by decide +kernel) hM1 ⟨hx, hb, hml, hown, hts⟩ (vx_cwSW 3 hts gL_law_L_cut rfl rfl rfl (by decide +kernel) ⟨Nat.le_of_ble_eq_true rfl, Nat.le_of_ble_eq_true rfl⟩) hK hY hP hD hS hA rfl hl.1 rfl (Nat.le_of_ble_eq_true rfl) dL_law_420 ⟨by omega, by omega⟩ (fun H locs hP hD hS => ?_)
  rw [le1] at hP hD
  refine lv_istore (lv' := [(5, .int k), (0, .ref b), (1, .ref (qa 0)), (2, .ref (qb 0)), (3, .ref o), (4, .int (nI (4 * i)))]) hx hb dL_law_423 hl (by decide) rfl (fun ls hl => ?_)
  refine lv_aload_n hx hb dL_law_425 rfl (lv_at hl 3 rfl) ?_
  refine lv_aload_n hx hb dL_law_426 rfl (lv_at hl 1 rfl) ?_
  refine lv_iload hx hb dL_law_427 (lv_at hl 5 rfl) ?_
  refine lv_iconst (v := 1) hx hb dL_law_429 (by decide) ?_
  refine lv_iadd hx hb dL_law_430 ?_
  refine va_sld hx hb hX hbl hbA hS hin1 dL_law_431 ?_
  have hP : va_P D vwCl ((LA qa cyI cyZ S1 ++ [LO o cyJ fJ1]) ++ (LB qb cyI cyZ M ++ [])) H := by rw [le2]; exact hP
  have hD : va_D (fun q : Nat => s.heap.size ≤ q) ((LA qa cyI cyZ S1 ++ [LO o cyJ fJ1]) ++ (LB qb cyI cyZ M ++ [])) := by rw [le2]; exact hD
  refine kcm_Vi (n1 := 34) (n2 := 13) (n3 := 0) (wl := LA qa cyI cyZ S1 ++ [LO o cyJ fJ1]) (wc := LB qb cyI cyZ M) (w1 := LB qb cyI cyZ M1) (wr := []) (As := [.int (xs (nI (4 * i) + 1).toNatClampNeg)]) (rest := []) LA_34 LB_l LB_l rfl (by decide +kernel) hM2 ⟨hx, hb, hml, hown, hts⟩ (cwV 1 hts gL_law_X5_cut rfl rfl rfl (by decide +kernel) ⟨Nat.le_of_ble_eq_true rfl, Nat.le_of_ble_eq_true rfl⟩) hK2 hP hD hS hA LB_0 rfl rfl rfl hl.1 rfl (Nat.le_of_ble_eq_true rfl) dL_law_432 ⟨by omega, by omega⟩ (fun H locs hP hD hS => ?_)
  rw [le2] at hP hD
  refine lv_istore (lv' := [(6, .int v), (5, .int k), (0, .ref b), (1, .ref (qa 0)), (2, .ref (qb 0)), (3, .ref o), (4, .int (nI (4 * i)))]) hx hb dL_law_435 hl (by decide) rfl (fun ls hl => ?_)
  refine lv_aload_n hx hb dL_law_437 rfl (lv_at hl 4 rfl) ?_
  have hP : va_P D vwCl ((LA qa cyI cyZ S1 ++ [LO o cyJ fJ1]) ++ (LB qb cyI cyZ M1 ++ [])) H := by rw [le2]; exact hP
  have hD : va_D (fun q : Nat => s.heap.size ≤ q) ((LA qa cyI cyZ S1 ++ [LO o cyJ fJ1]) ++ (LB qb cyI cyZ M1 ++ [])) := by rw [le2]; exact hD
  refine kcm_Vi (n1 := 34) (n2 := 13) (n3 := 0) (wl := LA qa cyI cyZ S1 ++ [LO o cyJ fJ1]) (wc := LB qb cyI cyZ M1) (w1 := LB qb cyI cyZ M1) (wr := []) (As := []) (rest := []) LA_34 LB_l LB_l rfl (by decide +kernel) (m5_thrown l D cyI cyZ qb M1 M1.th rfl) ⟨hx, hb, hml, hown, hts⟩ (cwV 0 hts gL_law_X5_thrown rfl rfl rfl (by decide +kernel) ⟨Nat.le_of_ble_eq_true rfl, Nat.le_of_ble_eq_true rfl⟩) hK2 hP hD hS hA LB_0 rfl rfl rfl hl.1 rfl (Nat.le_of_ble_eq_true rfl) dL_law_438 ⟨by omega, by omega⟩ (fun H locs hP hD hS => ?_)
  rw [le2] at hP hD
  refine lv_iload hx hb dL_law_441 (lv_at hl 1 rfl) ?_
  refine lv_icmp_eq (tgt := 448) hx hb dL_law_443 (by decide) (fun cE => ?_) (fun cE => ?_)
  · refine lv_iload hx hb dL_law_448 (lv_at hl 1 rfl) ?_
    refine lv_if_ne (tgt := 465) hx hb dL_law_450 (by decide) (fun c0 => ?_) (fun c0 => ?_)
    · refine lv_goto (tgt := 1213) hx hb dL_law_465 (by decide) ?_
      refine W.widen (k := ci + 3) (n := si + 74) (by omega) (by omega) ?_
      exact nx _ _ _ _ _ _ hr1 hP hD hS (lv_sub hl [2, 3, 4, 5, 6] rfl)
    · refine lv_aload_n hx hb dL_law_453 rfl (lv_at hl 5 rfl) ?_
      refine lv_iconst (v := 0) hx hb dL_law_454 (by decide) ?_
      refine va_lald (f := fJ1) hx hb hK hP 33 2 (loAt LA_l) rfl vin01 dL_law_455 ?_
      rw [c00, hv c0]
      refine lv_iload hx hb dL_law_456 (lv_at hl 0 rfl) ?_
      refine lv_i2l hx hb dL_law_458 rfl ?_
      refine kl_cmp hx hb dL_law_459 ?_
      refine lv_if_eq (tgt := 465) hx hb dL_law_460 (by decide) (fun cE => ?_) (fun cE => ?_)
      · refine lv_goto (tgt := 1213) hx hb dL_law_465 (by decide) ?_
        refine W.widen (k := ci + 3) (n := si + 74) (by omega) (by omega) ?_
        exact nx _ _ _ _ _ _ hr1 hP hD hS (lv_sub hl [2, 3, 4, 5, 6] rfl)
      · exact absurd rfl cE
  · exact absurd hth cE
set_option maxHeartbeats 4000000 in
set_option maxRecDepth 100000 in
theorem case_5 {p : Program} {l : Launch} {e : Env} {s : State} {m : MethodId} {below : List Frame} {meth : Method} {c : Code} {b L : Nat} {xs : Nat → Int32} {D : va_G} {cyI cyZ cyJ : ClassId} {qa qb : Nat → Nat} {o i ci si : Nat} {Z : State → Prop} (K : LK p s m c b L xs l D cyI cyZ cyJ i ci si) {S : ZS} {M : ZM} {fJ : Nat → Int64} {H : Heap} {locs : List Loc} {ls : Array Slot} (hr : REL S M) (hP : va_P D vwCl (LA qa cyI cyZ S ++ ([LO o cyJ fJ] ++ LB qb cyI cyZ M)) H) (hD : va_D (fun q : Nat => s.heap.size ≤ q) (LA qa cyI cyZ S ++ ([LO o cyJ fJ] ++ LB qb cyI cyZ M))) (hS : va_S (fun q : Nat => s.heap.size ≤ q) s.heap H locs) (hl : lv_has ls 7 [(0, .ref b), (1, .ref (qa 0)), (2, .ref (qb 0)), (3, .ref o), (4, .int (nI (4 * i)))]) (nx : LN p l e s m below meth c b D cyI cyZ cyJ qa qb o i ci si Z) : W p l e room_1 s m #[.ref b] below meth c H locs ci si Z (F0 m 468 ls []) := by
  obtain ⟨hx, hb, hml, hown, hts, hX, hbl, hK, hY, hst, hi4, hL, hci, hsi⟩ := K
  have hK2 : va_K D vwCl (kT cyI cyZ) s := hK.sub [0, 1] rfl
  have hA : ∀ q : Nat, s.heap.size ≤ q → (fun q : Nat => s.heap.size ≤ q) q := fun _ h => h
  have hbA : ¬ (fun q : Nat => s.heap.size ≤ q) b := Nat.not_le.mpr hbl
  have hl : lv_has ls 7 [(0, .ref b), (1, .ref (qa 0)), (2, .ref (qb 0)), (3, .ref o), (4, .int (nI (4 * i)))] := hl
  obtain ⟨S1, M1, r, hM1, hM2, hr1⟩ := op_size l D cyI cyZ qa qb hr
  refine lv_aload_n hx hb dL_law_468 rfl (lv_at hl 1 rfl) ?_
  have hP : va_P D vwCl ([] ++ (LA qa cyI cyZ S ++ ([LO o cyJ fJ] ++ LB qb cyI cyZ M))) H := by rw [le3]; exact hP
  have hD : va_D (fun q : Nat => s.heap.size ≤ q) ([] ++ (LA qa cyI cyZ S ++ ([LO o cyJ fJ] ++ LB qb cyI cyZ M))) := by rw [le3]; exact hD
  refine kcm_Vi (n1 := 0) (n2 := 33) (n3 := 14) (wl := []) (wc := LA qa cyI cyZ S) (w1 := LA qa cyI cyZ S1) (wr := [LO o cyJ fJ] ++ LB qb cyI cyZ M) (As := []) (rest := []) rfl LA_l LA_l LB_14 (by decide +kernel) hM1 ⟨hx, hb, hml, hown, hts⟩ (cwV 0 hts gL_law_X4_size rfl rfl rfl (by decide +kernel) ⟨Nat.le_of_ble_eq_true rfl, Nat.le_of_ble_eq_true rfl⟩) hK2 hP hD hS hA LA_0 rfl rfl rfl hl.1 rfl (Nat.le_of_ble_eq_true rfl) dL_law_469 ⟨by omega, by omega⟩ (fun H locs hP hD hS => ?_)
  rw [le3] at hP hD
  refine lv_aload_n hx hb dL_law_472 rfl (lv_at hl 2 rfl) ?_
  have hP : va_P D vwCl ((LA qa cyI cyZ S1 ++ [LO o cyJ fJ]) ++ (LB qb cyI cyZ M ++ [])) H := by rw [le2]; exact hP
  have hD : va_D (fun q : Nat => s.heap.size ≤ q) ((LA qa cyI cyZ S1 ++ [LO o cyJ fJ]) ++ (LB qb cyI cyZ M ++ [])) := by rw [le2]; exact hD
  refine kcm_Vi (n1 := 34) (n2 := 13) (n3 := 0) (wl := LA qa cyI cyZ S1 ++ [LO o cyJ fJ]) (wc := LB qb cyI cyZ M) (w1 := LB qb cyI cyZ M1) (wr := []) (As := []) (rest := [.int r]) LA_34 LB_l LB_l rfl (by decide +kernel) hM2 ⟨hx, hb, hml, hown, hts⟩ (cwV 0 hts gL_law_X5_size rfl rfl rfl (by decide +kernel) ⟨Nat.le_of_ble_eq_true rfl, Nat.le_of_ble_eq_true rfl⟩) hK2 hP hD hS hA LB_0 rfl rfl rfl hl.1 rfl (Nat.le_of_ble_eq_true rfl) dL_law_473 ⟨by omega, by omega⟩ (fun H locs hP hD hS => ?_)
  rw [le2] at hP hD
  refine lv_icmp_eq (tgt := 1213) hx hb dL_law_476 (by decide) (fun cE => ?_) (fun cE => ?_)
  · refine W.widen (k := ci + 3) (n := si + 74) (by omega) (by omega) ?_
    exact nx _ _ _ _ _ _ hr1 hP hD hS (lv_sub hl [0, 1, 2, 3, 4] rfl)
  · exact absurd rfl cE
set_option maxHeartbeats 4000000 in
set_option maxRecDepth 100000 in
theorem case_6 {p : Program} {l : Launch} {e : Env} {s : State} {m : MethodId} {below : List Frame} {meth : Method} {c : Code} {b L : Nat} {xs : Nat → Int32} {D : va_G} {cyI cyZ cyJ : ClassId} {qa qb : Nat → Nat} {o i ci si : Nat} {Z : State → Prop} (K : LK p s m c b L xs l D cyI cyZ cyJ i ci si) {S : ZS} {M : ZM} {fJ : Nat → Int64} {H : Heap} {locs : List Loc} {ls : Array Slot} (hr : REL S M) (hP : va_P D vwCl (LA qa cyI cyZ S ++ ([LO o cyJ fJ] ++ LB qb cyI cyZ M)) H) (hD : va_D (fun q : Nat => s.heap.size ≤ q) (LA qa cyI cyZ S ++ ([LO o cyJ fJ] ++ LB qb cyI cyZ M))) (hS : va_S (fun q : Nat => s.heap.size ≤ q) s.heap H locs) (hl : lv_has ls 7 [(0, .ref b), (1, .ref (qa 0)), (2, .ref (qb 0)), (3, .ref o), (4, .int (nI (4 * i)))]) (nx : LN p l e s m below meth c b D cyI cyZ cyJ qa qb o i ci si Z) : W p l e room_1 s m #[.ref b] below meth c H locs ci si Z (F0 m 481 ls []) := by
  obtain ⟨hx, hb, hml, hown, hts, hX, hbl, hK, hY, hst, hi4, hL, hci, hsi⟩ := K
  have hK2 : va_K D vwCl (kT cyI cyZ) s := hK.sub [0, 1] rfl
  have hA : ∀ q : Nat, s.heap.size ≤ q → (fun q : Nat => s.heap.size ≤ q) q := fun _ h => h
  have hbA : ¬ (fun q : Nat => s.heap.size ≤ q) b := Nat.not_le.mpr hbl
  have hl : lv_has ls 7 [(0, .ref b), (1, .ref (qa 0)), (2, .ref (qb 0)), (3, .ref o), (4, .int (nI (4 * i)))] := hl
  have hin1 : vp_in (nI (4 * i) + 1) L := by rw [nI_1]; exact vp_in_nI (by omega) (by omega)
  obtain ⟨S1, M1, fJ1, k, v, hM1, hM2, hth, hv, hr1⟩ := st_kind l hst D cyI cyZ cyJ qa qb o fJ hr (xs (nI (4 * i) + 1).toNatClampNeg)
  refine lv_aload_n hx hb dL_law_481 rfl (lv_at hl 1 rfl) ?_
  refine lv_aload_n hx hb dL_law_482 rfl (lv_at hl 0 rfl) ?_
  refine lv_iload hx hb dL_law_483 (lv_at hl 4 rfl) ?_
  refine lv_iconst (v := 1) hx hb dL_law_485 (by decide) ?_
  refine lv_iadd hx hb dL_law_486 ?_
  refine va_sld hx hb hX hbl hbA hS hin1 dL_law_487 ?_
  refine lv_aload_n hx hb dL_law_488 rfl (lv_at hl 3 rfl) ?_
  have hP : va_P D vwCl ([] ++ ((LA qa cyI cyZ S ++ [LO o cyJ fJ]) ++ LB qb cyI cyZ M)) H := by rw [le1]; exact hP
  have hD : va_D (fun q : Nat => s.heap.size ≤ q) ([] ++ ((LA qa cyI cyZ S ++ [LO o cyJ fJ]) ++ LB qb cyI cyZ M)) := by rw [le1]; exact hD
  refine kwm_S (n1 := 0) (n2 := 34) (n3 := 13) (wl := []) (wc := LA qa cyI cyZ S ++ [LO o cyJ fJ]) (w1 := LA qa cyI cyZ S1 ++ [LO o cyJ fJ1]) (wr := LB qb cyI cyZ M) (As := [.ref (qa 0), .int (xs (nI (4 * i) + 1).toNatClampNeg), .ref o]) (rest := []) rfl LA_34 LA_34 LB_l (by decide +kernel) hM1 ⟨hx, hb, hml, hown, hts⟩ (vx_cwSW 3 hts gL_law_L_kind rfl rfl rfl (by decide +kernel) ⟨Nat.le_of_ble_eq_true rfl, Nat.le_of_ble_eq_true rfl⟩) hK hY hP hD hS hA rfl hl.1 rfl (Nat.le_of_ble_eq_true rfl) dL_law_489 ⟨by omega, by omega⟩ (fun H locs hP hD hS => ?_)
  rw [le1] at hP hD
  refine lv_istore (lv' := [(5, .int k), (0, .ref b), (1, .ref (qa 0)), (2, .ref (qb 0)), (3, .ref o), (4, .int (nI (4 * i)))]) hx hb dL_law_492 hl (by decide) rfl (fun ls hl => ?_)
  refine lv_aload_n hx hb dL_law_494 rfl (lv_at hl 3 rfl) ?_
  refine lv_aload_n hx hb dL_law_495 rfl (lv_at hl 1 rfl) ?_
  refine lv_iload hx hb dL_law_496 (lv_at hl 5 rfl) ?_
  refine lv_iconst (v := 1) hx hb dL_law_498 (by decide) ?_
  refine lv_iadd hx hb dL_law_499 ?_
  refine va_sld hx hb hX hbl hbA hS hin1 dL_law_500 ?_
  have hP : va_P D vwCl ((LA qa cyI cyZ S1 ++ [LO o cyJ fJ1]) ++ (LB qb cyI cyZ M ++ [])) H := by rw [le2]; exact hP
  have hD : va_D (fun q : Nat => s.heap.size ≤ q) ((LA qa cyI cyZ S1 ++ [LO o cyJ fJ1]) ++ (LB qb cyI cyZ M ++ [])) := by rw [le2]; exact hD
  refine kcm_Vi (n1 := 34) (n2 := 13) (n3 := 0) (wl := LA qa cyI cyZ S1 ++ [LO o cyJ fJ1]) (wc := LB qb cyI cyZ M) (w1 := LB qb cyI cyZ M1) (wr := []) (As := [.int (xs (nI (4 * i) + 1).toNatClampNeg)]) (rest := []) LA_34 LB_l LB_l rfl (by decide +kernel) hM2 ⟨hx, hb, hml, hown, hts⟩ (cwV 1 hts gL_law_X5_kind rfl rfl rfl (by decide +kernel) ⟨Nat.le_of_ble_eq_true rfl, Nat.le_of_ble_eq_true rfl⟩) hK2 hP hD hS hA LB_0 rfl rfl rfl hl.1 rfl (Nat.le_of_ble_eq_true rfl) dL_law_501 ⟨by omega, by omega⟩ (fun H locs hP hD hS => ?_)
  rw [le2] at hP hD
  refine lv_istore (lv' := [(6, .int v), (5, .int k), (0, .ref b), (1, .ref (qa 0)), (2, .ref (qb 0)), (3, .ref o), (4, .int (nI (4 * i)))]) hx hb dL_law_504 hl (by decide) rfl (fun ls hl => ?_)
  refine lv_aload_n hx hb dL_law_506 rfl (lv_at hl 4 rfl) ?_
  have hP : va_P D vwCl ((LA qa cyI cyZ S1 ++ [LO o cyJ fJ1]) ++ (LB qb cyI cyZ M1 ++ [])) H := by rw [le2]; exact hP
  have hD : va_D (fun q : Nat => s.heap.size ≤ q) ((LA qa cyI cyZ S1 ++ [LO o cyJ fJ1]) ++ (LB qb cyI cyZ M1 ++ [])) := by rw [le2]; exact hD
  refine kcm_Vi (n1 := 34) (n2 := 13) (n3 := 0) (wl := LA qa cyI cyZ S1 ++ [LO o cyJ fJ1]) (wc := LB qb cyI cyZ M1) (w1 := LB qb cyI cyZ M1) (wr := []) (As := []) (rest := []) LA_34 LB_l LB_l rfl (by decide +kernel) (m5_thrown l D cyI cyZ qb M1 M1.th rfl) ⟨hx, hb, hml, hown, hts⟩ (cwV 0 hts gL_law_X5_thrown rfl rfl rfl (by decide +kernel) ⟨Nat.le_of_ble_eq_true rfl, Nat.le_of_ble_eq_true rfl⟩) hK2 hP hD hS hA LB_0 rfl rfl rfl hl.1 rfl (Nat.le_of_ble_eq_true rfl) dL_law_507 ⟨by omega, by omega⟩ (fun H locs hP hD hS => ?_)
  rw [le2] at hP hD
  refine lv_iload hx hb dL_law_510 (lv_at hl 1 rfl) ?_
  refine lv_icmp_eq (tgt := 517) hx hb dL_law_512 (by decide) (fun cE => ?_) (fun cE => ?_)
  · refine lv_iload hx hb dL_law_517 (lv_at hl 1 rfl) ?_
    refine lv_if_ne (tgt := 534) hx hb dL_law_519 (by decide) (fun c0 => ?_) (fun c0 => ?_)
    · refine lv_goto (tgt := 1213) hx hb dL_law_534 (by decide) ?_
      refine W.widen (k := ci + 3) (n := si + 74) (by omega) (by omega) ?_
      exact nx _ _ _ _ _ _ hr1 hP hD hS (lv_sub hl [2, 3, 4, 5, 6] rfl)
    · refine lv_aload_n hx hb dL_law_522 rfl (lv_at hl 5 rfl) ?_
      refine lv_iconst (v := 0) hx hb dL_law_523 (by decide) ?_
      refine va_lald (f := fJ1) hx hb hK hP 33 2 (loAt LA_l) rfl vin01 dL_law_524 ?_
      rw [c00, hv c0]
      refine lv_iload hx hb dL_law_525 (lv_at hl 0 rfl) ?_
      refine lv_i2l hx hb dL_law_527 rfl ?_
      refine kl_cmp hx hb dL_law_528 ?_
      refine lv_if_eq (tgt := 534) hx hb dL_law_529 (by decide) (fun cE => ?_) (fun cE => ?_)
      · refine lv_goto (tgt := 1213) hx hb dL_law_534 (by decide) ?_
        refine W.widen (k := ci + 3) (n := si + 74) (by omega) (by omega) ?_
        exact nx _ _ _ _ _ _ hr1 hP hD hS (lv_sub hl [2, 3, 4, 5, 6] rfl)
      · exact absurd rfl cE
  · exact absurd hth cE
set_option maxHeartbeats 4000000 in
set_option maxRecDepth 100000 in
theorem case_7 {p : Program} {l : Launch} {e : Env} {s : State} {m : MethodId} {below : List Frame} {meth : Method} {c : Code} {b L : Nat} {xs : Nat → Int32} {D : va_G} {cyI cyZ cyJ : ClassId} {qa qb : Nat → Nat} {o i ci si : Nat} {Z : State → Prop} (K : LK p s m c b L xs l D cyI cyZ cyJ i ci si) {S : ZS} {M : ZM} {fJ : Nat → Int64} {H : Heap} {locs : List Loc} {ls : Array Slot} (hr : REL S M) (hP : va_P D vwCl (LA qa cyI cyZ S ++ ([LO o cyJ fJ] ++ LB qb cyI cyZ M)) H) (hD : va_D (fun q : Nat => s.heap.size ≤ q) (LA qa cyI cyZ S ++ ([LO o cyJ fJ] ++ LB qb cyI cyZ M))) (hS : va_S (fun q : Nat => s.heap.size ≤ q) s.heap H locs) (hl : lv_has ls 7 [(0, .ref b), (1, .ref (qa 0)), (2, .ref (qb 0)), (3, .ref o), (4, .int (nI (4 * i)))]) (nx : LN p l e s m below meth c b D cyI cyZ cyJ qa qb o i ci si Z) : W p l e room_1 s m #[.ref b] below meth c H locs ci si Z (F0 m 537 ls []) := by
  obtain ⟨hx, hb, hml, hown, hts, hX, hbl, hK, hY, hst, hi4, hL, hci, hsi⟩ := K
  have hK2 : va_K D vwCl (kT cyI cyZ) s := hK.sub [0, 1] rfl
  have hA : ∀ q : Nat, s.heap.size ≤ q → (fun q : Nat => s.heap.size ≤ q) q := fun _ h => h
  have hbA : ¬ (fun q : Nat => s.heap.size ≤ q) b := Nat.not_le.mpr hbl
  have hl : lv_has ls 7 [(0, .ref b), (1, .ref (qa 0)), (2, .ref (qb 0)), (3, .ref o), (4, .int (nI (4 * i)))] := hl
  have hin1 : vp_in (nI (4 * i) + 1) L := by rw [nI_1]; exact vp_in_nI (by omega) (by omega)
  obtain ⟨S1, M1, fJ1, k, v, hM1, hM2, hth, hv, hr1⟩ := st_counts l hst D cyI cyZ cyJ qa qb o fJ hr (xs (nI (4 * i) + 1).toNatClampNeg)
  refine lv_aload_n hx hb dL_law_537 rfl (lv_at hl 1 rfl) ?_
  refine lv_aload_n hx hb dL_law_538 rfl (lv_at hl 0 rfl) ?_
  refine lv_iload hx hb dL_law_539 (lv_at hl 4 rfl) ?_
  refine lv_iconst (v := 1) hx hb dL_law_541 (by decide) ?_
  refine lv_iadd hx hb dL_law_542 ?_
  refine va_sld hx hb hX hbl hbA hS hin1 dL_law_543 ?_
  refine lv_aload_n hx hb dL_law_544 rfl (lv_at hl 3 rfl) ?_
  have hP : va_P D vwCl ([] ++ ((LA qa cyI cyZ S ++ [LO o cyJ fJ]) ++ LB qb cyI cyZ M)) H := by rw [le1]; exact hP
  have hD : va_D (fun q : Nat => s.heap.size ≤ q) ([] ++ ((LA qa cyI cyZ S ++ [LO o cyJ fJ]) ++ LB qb cyI cyZ M)) := by rw [le1]; exact hD
  refine kwm_S (n1 := 0) (n2 := 34) (n3 := 13) (wl := []) (wc := LA qa cyI cyZ S ++ [LO o cyJ fJ]) (w1 := LA qa cyI cyZ S1 ++ [LO o cyJ fJ1]) (wr := LB qb cyI cyZ M) (As := [.ref (qa 0), .int (xs (nI (4 * i) + 1).toNatClampNeg), .ref o]) (rest := []) rfl LA_34 LA_34 LB_l (by decide +kernel) hM1 ⟨hx, hb, hml, hown, hts⟩ (vx_cwSW 3 hts gL_law_L_counts rfl rfl rfl (by decide +kernel) ⟨Nat.le_of_ble_eq_true rfl, Nat.le_of_ble_eq_true rfl⟩) hK hY hP hD hS hA rfl hl.1 rfl (Nat.le_of_ble_eq_true rfl) dL_law_545 ⟨by omega, by omega⟩ (fun H locs hP hD hS => ?_)
  rw [le1] at hP hD
  refine lv_istore (lv' := [(5, .int k), (0, .ref b), (1, .ref (qa 0)), (2, .ref (qb 0)), (3, .ref o), (4, .int (nI (4 * i)))]) hx hb dL_law_548 hl (by decide) rfl (fun ls hl => ?_)
  refine lv_aload_n hx hb dL_law_550 rfl (lv_at hl 3 rfl) ?_
  refine lv_aload_n hx hb dL_law_551 rfl (lv_at hl 1 rfl) ?_
  refine lv_iload hx hb dL_law_552 (lv_at hl 5 rfl) ?_
  refine lv_iconst (v := 1) hx hb dL_law_554 (by decide) ?_
  refine lv_iadd hx hb dL_law_555 ?_
  refine va_sld hx hb hX hbl hbA hS hin1 dL_law_556 ?_
  have hP : va_P D vwCl ((LA qa cyI cyZ S1 ++ [LO o cyJ fJ1]) ++ (LB qb cyI cyZ M ++ [])) H := by rw [le2]; exact hP
  have hD : va_D (fun q : Nat => s.heap.size ≤ q) ((LA qa cyI cyZ S1 ++ [LO o cyJ fJ1]) ++ (LB qb cyI cyZ M ++ [])) := by rw [le2]; exact hD
  refine kcm_Vi (n1 := 34) (n2 := 13) (n3 := 0) (wl := LA qa cyI cyZ S1 ++ [LO o cyJ fJ1]) (wc := LB qb cyI cyZ M) (w1 := LB qb cyI cyZ M1) (wr := []) (As := [.int (xs (nI (4 * i) + 1).toNatClampNeg)]) (rest := []) LA_34 LB_l LB_l rfl (by decide +kernel) hM2 ⟨hx, hb, hml, hown, hts⟩ (cwV 1 hts gL_law_X5_counts rfl rfl rfl (by decide +kernel) ⟨Nat.le_of_ble_eq_true rfl, Nat.le_of_ble_eq_true rfl⟩) hK2 hP hD hS hA LB_0 rfl rfl rfl hl.1 rfl (Nat.le_of_ble_eq_true rfl) dL_law_557 ⟨by omega, by omega⟩ (fun H locs hP hD hS => ?_)
  rw [le2] at hP hD
  refine lv_istore (lv' := [(6, .int v), (5, .int k), (0, .ref b), (1, .ref (qa 0)), (2, .ref (qb 0)), (3, .ref o), (4, .int (nI (4 * i)))]) hx hb dL_law_560 hl (by decide) rfl (fun ls hl => ?_)
  refine lv_aload_n hx hb dL_law_562 rfl (lv_at hl 4 rfl) ?_
  have hP : va_P D vwCl ((LA qa cyI cyZ S1 ++ [LO o cyJ fJ1]) ++ (LB qb cyI cyZ M1 ++ [])) H := by rw [le2]; exact hP
  have hD : va_D (fun q : Nat => s.heap.size ≤ q) ((LA qa cyI cyZ S1 ++ [LO o cyJ fJ1]) ++ (LB qb cyI cyZ M1 ++ [])) := by rw [le2]; exact hD
  refine kcm_Vi (n1 := 34) (n2 := 13) (n3 := 0) (wl := LA qa cyI cyZ S1 ++ [LO o cyJ fJ1]) (wc := LB qb cyI cyZ M1) (w1 := LB qb cyI cyZ M1) (wr := []) (As := []) (rest := []) LA_34 LB_l LB_l rfl (by decide +kernel) (m5_thrown l D cyI cyZ qb M1 M1.th rfl) ⟨hx, hb, hml, hown, hts⟩ (cwV 0 hts gL_law_X5_thrown rfl rfl rfl (by decide +kernel) ⟨Nat.le_of_ble_eq_true rfl, Nat.le_of_ble_eq_true rfl⟩) hK2 hP hD hS hA LB_0 rfl rfl rfl hl.1 rfl (Nat.le_of_ble_eq_true rfl) dL_law_563 ⟨by omega, by omega⟩ (fun H locs hP hD hS => ?_)
  rw [le2] at hP hD
  refine lv_iload hx hb dL_law_566 (lv_at hl 1 rfl) ?_
  refine lv_icmp_eq (tgt := 573) hx hb dL_law_568 (by decide) (fun cE => ?_) (fun cE => ?_)
  · refine lv_iload hx hb dL_law_573 (lv_at hl 1 rfl) ?_
    refine lv_if_ne (tgt := 597) hx hb dL_law_575 (by decide) (fun c0 => ?_) (fun c0 => ?_)
    · refine lv_goto (tgt := 1213) hx hb dL_law_597 (by decide) ?_
      refine W.widen (k := ci + 3) (n := si + 74) (by omega) (by omega) ?_
      exact nx _ _ _ _ _ _ hr1 hP hD hS (lv_sub hl [2, 3, 4, 5, 6] rfl)
    · refine lv_aload_n hx hb dL_law_578 rfl (lv_at hl 5 rfl) ?_
      refine lv_iconst (v := 0) hx hb dL_law_579 (by decide) ?_
      refine va_lald (f := fJ1) hx hb hK hP 33 2 (loAt LA_l) rfl vin01 dL_law_580 ?_
      rw [c00, hv c0]
      refine lv_iload hx hb dL_law_581 (lv_at hl 0 rfl) ?_
      refine lv_if_eq (tgt := 590) hx hb dL_law_583 (by decide) (fun cB => ?_) (fun cB => ?_)
      · dsimp only
        rw [if_pos cB]
        refine lv_lconst (v := 0) hx hb dL_law_590 (by decide) ?_
        refine kl_cmp hx hb dL_law_591 ?_
        refine lv_if_eq (tgt := 597) hx hb dL_law_592 (by decide) (fun cE => ?_) (fun cE => ?_)
        · refine lv_goto (tgt := 1213) hx hb dL_law_597 (by decide) ?_
          refine W.widen (k := ci + 3) (n := si + 74) (by omega) (by omega) ?_
          exact nx _ _ _ _ _ _ hr1 hP hD hS (lv_sub hl [2, 3, 4, 5, 6] rfl)
        · exact absurd rfl cE
      · dsimp only
        rw [if_neg cB]
        refine lv_lconst (v := 1) hx hb dL_law_586 (by decide) ?_
        refine lv_goto (tgt := 591) hx hb dL_law_587 (by decide) ?_
        refine kl_cmp hx hb dL_law_591 ?_
        refine lv_if_eq (tgt := 597) hx hb dL_law_592 (by decide) (fun cE => ?_) (fun cE => ?_)
        · refine lv_goto (tgt := 1213) hx hb dL_law_597 (by decide) ?_
          refine W.widen (k := ci + 3) (n := si + 74) (by omega) (by omega) ?_
          exact nx _ _ _ _ _ _ hr1 hP hD hS (lv_sub hl [2, 3, 4, 5, 6] rfl)
        · exact absurd rfl cE
  · exact absurd hth cE
set_option maxHeartbeats 4000000 in
set_option maxRecDepth 100000 in
theorem case_8 {p : Program} {l : Launch} {e : Env} {s : State} {m : MethodId} {below : List Frame} {meth : Method} {c : Code} {b L : Nat} {xs : Nat → Int32} {D : va_G} {cyI cyZ cyJ : ClassId} {qa qb : Nat → Nat} {o i ci si : Nat} {Z : State → Prop} (K : LK p s m c b L xs l D cyI cyZ cyJ i ci si) {S : ZS} {M : ZM} {fJ : Nat → Int64} {H : Heap} {locs : List Loc} {ls : Array Slot} (hr : REL S M) (hP : va_P D vwCl (LA qa cyI cyZ S ++ ([LO o cyJ fJ] ++ LB qb cyI cyZ M)) H) (hD : va_D (fun q : Nat => s.heap.size ≤ q) (LA qa cyI cyZ S ++ ([LO o cyJ fJ] ++ LB qb cyI cyZ M))) (hS : va_S (fun q : Nat => s.heap.size ≤ q) s.heap H locs) (hl : lv_has ls 7 [(0, .ref b), (1, .ref (qa 0)), (2, .ref (qb 0)), (3, .ref o), (4, .int (nI (4 * i)))]) (nx : LN p l e s m below meth c b D cyI cyZ cyJ qa qb o i ci si Z) : W p l e room_1 s m #[.ref b] below meth c H locs ci si Z (F0 m 600 ls []) := by
  obtain ⟨hx, hb, hml, hown, hts, hX, hbl, hK, hY, hst, hi4, hL, hci, hsi⟩ := K
  have hK2 : va_K D vwCl (kT cyI cyZ) s := hK.sub [0, 1] rfl
  have hA : ∀ q : Nat, s.heap.size ≤ q → (fun q : Nat => s.heap.size ≤ q) q := fun _ h => h
  have hbA : ¬ (fun q : Nat => s.heap.size ≤ q) b := Nat.not_le.mpr hbl
  have hl : lv_has ls 7 [(0, .ref b), (1, .ref (qa 0)), (2, .ref (qb 0)), (3, .ref o), (4, .int (nI (4 * i)))] := hl
  have hin1 : vp_in (nI (4 * i) + 1) L := by rw [nI_1]; exact vp_in_nI (by omega) (by omega)
  have hin2 : vp_in (nI (4 * i) + 2) L := by rw [add2]; exact vp_in_nI (by omega) (by omega)
  obtain ⟨S1, M1, fJ1, k, v, hM1, hM2, hth, hv, hr1⟩ := st_nextUse l hst D cyI cyZ cyJ qa qb o fJ hr (xs (nI (4 * i) + 1).toNatClampNeg) (xs (nI (4 * i) + 2).toNatClampNeg)
  refine lv_aload_n hx hb dL_law_600 rfl (lv_at hl 1 rfl) ?_
  refine lv_aload_n hx hb dL_law_601 rfl (lv_at hl 0 rfl) ?_
  refine lv_iload hx hb dL_law_602 (lv_at hl 4 rfl) ?_
  refine lv_iconst (v := 1) hx hb dL_law_604 (by decide) ?_
  refine lv_iadd hx hb dL_law_605 ?_
  refine va_sld hx hb hX hbl hbA hS hin1 dL_law_606 ?_
  refine lv_aload_n hx hb dL_law_607 rfl (lv_at hl 0 rfl) ?_
  refine lv_iload hx hb dL_law_608 (lv_at hl 4 rfl) ?_
  refine lv_iconst (v := 2) hx hb dL_law_610 (by decide) ?_
  refine lv_iadd hx hb dL_law_611 ?_
  refine va_sld hx hb hX hbl hbA hS hin2 dL_law_612 ?_
  refine lv_aload_n hx hb dL_law_613 rfl (lv_at hl 3 rfl) ?_
  have hP : va_P D vwCl ([] ++ ((LA qa cyI cyZ S ++ [LO o cyJ fJ]) ++ LB qb cyI cyZ M)) H := by rw [le1]; exact hP
  have hD : va_D (fun q : Nat => s.heap.size ≤ q) ([] ++ ((LA qa cyI cyZ S ++ [LO o cyJ fJ]) ++ LB qb cyI cyZ M)) := by rw [le1]; exact hD
  refine kwm_S (n1 := 0) (n2 := 34) (n3 := 13) (wl := []) (wc := LA qa cyI cyZ S ++ [LO o cyJ fJ]) (w1 := LA qa cyI cyZ S1 ++ [LO o cyJ fJ1]) (wr := LB qb cyI cyZ M) (As := [.ref (qa 0), .int (xs (nI (4 * i) + 1).toNatClampNeg), .int (xs (nI (4 * i) + 2).toNatClampNeg), .ref o]) (rest := []) rfl LA_34 LA_34 LB_l (by decide +kernel) hM1 ⟨hx, hb, hml, hown, hts⟩ (vx_cwSW 4 hts gL_law_L_nextUse rfl rfl rfl (by decide +kernel) ⟨Nat.le_of_ble_eq_true rfl, Nat.le_of_ble_eq_true rfl⟩) hK hY hP hD hS hA rfl hl.1 rfl (Nat.le_of_ble_eq_true rfl) dL_law_614 ⟨by omega, by omega⟩ (fun H locs hP hD hS => ?_)
  rw [le1] at hP hD
  refine lv_istore (lv' := [(5, .int k), (0, .ref b), (1, .ref (qa 0)), (2, .ref (qb 0)), (3, .ref o), (4, .int (nI (4 * i)))]) hx hb dL_law_617 hl (by decide) rfl (fun ls hl => ?_)
  refine lv_aload_n hx hb dL_law_619 rfl (lv_at hl 3 rfl) ?_
  refine lv_aload_n hx hb dL_law_620 rfl (lv_at hl 1 rfl) ?_
  refine lv_iload hx hb dL_law_621 (lv_at hl 5 rfl) ?_
  refine lv_iconst (v := 1) hx hb dL_law_623 (by decide) ?_
  refine lv_iadd hx hb dL_law_624 ?_
  refine va_sld hx hb hX hbl hbA hS hin1 dL_law_625 ?_
  refine lv_aload_n hx hb dL_law_626 rfl (lv_at hl 1 rfl) ?_
  refine lv_iload hx hb dL_law_627 (lv_at hl 5 rfl) ?_
  refine lv_iconst (v := 2) hx hb dL_law_629 (by decide) ?_
  refine lv_iadd hx hb dL_law_630 ?_
  refine va_sld hx hb hX hbl hbA hS hin2 dL_law_631 ?_
  have hP : va_P D vwCl ((LA qa cyI cyZ S1 ++ [LO o cyJ fJ1]) ++ (LB qb cyI cyZ M ++ [])) H := by rw [le2]; exact hP
  have hD : va_D (fun q : Nat => s.heap.size ≤ q) ((LA qa cyI cyZ S1 ++ [LO o cyJ fJ1]) ++ (LB qb cyI cyZ M ++ [])) := by rw [le2]; exact hD
  refine kcm_Vi (n1 := 34) (n2 := 13) (n3 := 0) (wl := LA qa cyI cyZ S1 ++ [LO o cyJ fJ1]) (wc := LB qb cyI cyZ M) (w1 := LB qb cyI cyZ M1) (wr := []) (As := [.int (xs (nI (4 * i) + 1).toNatClampNeg), .int (xs (nI (4 * i) + 2).toNatClampNeg)]) (rest := []) LA_34 LB_l LB_l rfl (by decide +kernel) hM2 ⟨hx, hb, hml, hown, hts⟩ (cwV 2 hts gL_law_X5_nextUse rfl rfl rfl (by decide +kernel) ⟨Nat.le_of_ble_eq_true rfl, Nat.le_of_ble_eq_true rfl⟩) hK2 hP hD hS hA LB_0 rfl rfl rfl hl.1 rfl (Nat.le_of_ble_eq_true rfl) dL_law_632 ⟨by omega, by omega⟩ (fun H locs hP hD hS => ?_)
  rw [le2] at hP hD
  refine lv_istore (lv' := [(6, .int v), (5, .int k), (0, .ref b), (1, .ref (qa 0)), (2, .ref (qb 0)), (3, .ref o), (4, .int (nI (4 * i)))]) hx hb dL_law_635 hl (by decide) rfl (fun ls hl => ?_)
  refine lv_aload_n hx hb dL_law_637 rfl (lv_at hl 4 rfl) ?_
  have hP : va_P D vwCl ((LA qa cyI cyZ S1 ++ [LO o cyJ fJ1]) ++ (LB qb cyI cyZ M1 ++ [])) H := by rw [le2]; exact hP
  have hD : va_D (fun q : Nat => s.heap.size ≤ q) ((LA qa cyI cyZ S1 ++ [LO o cyJ fJ1]) ++ (LB qb cyI cyZ M1 ++ [])) := by rw [le2]; exact hD
  refine kcm_Vi (n1 := 34) (n2 := 13) (n3 := 0) (wl := LA qa cyI cyZ S1 ++ [LO o cyJ fJ1]) (wc := LB qb cyI cyZ M1) (w1 := LB qb cyI cyZ M1) (wr := []) (As := []) (rest := []) LA_34 LB_l LB_l rfl (by decide +kernel) (m5_thrown l D cyI cyZ qb M1 M1.th rfl) ⟨hx, hb, hml, hown, hts⟩ (cwV 0 hts gL_law_X5_thrown rfl rfl rfl (by decide +kernel) ⟨Nat.le_of_ble_eq_true rfl, Nat.le_of_ble_eq_true rfl⟩) hK2 hP hD hS hA LB_0 rfl rfl rfl hl.1 rfl (Nat.le_of_ble_eq_true rfl) dL_law_638 ⟨by omega, by omega⟩ (fun H locs hP hD hS => ?_)
  rw [le2] at hP hD
  refine lv_iload hx hb dL_law_641 (lv_at hl 1 rfl) ?_
  refine lv_icmp_eq (tgt := 648) hx hb dL_law_643 (by decide) (fun cE => ?_) (fun cE => ?_)
  · refine lv_iload hx hb dL_law_648 (lv_at hl 1 rfl) ?_
    refine lv_if_ne (tgt := 665) hx hb dL_law_650 (by decide) (fun c0 => ?_) (fun c0 => ?_)
    · refine lv_goto (tgt := 1213) hx hb dL_law_665 (by decide) ?_
      refine W.widen (k := ci + 3) (n := si + 74) (by omega) (by omega) ?_
      exact nx _ _ _ _ _ _ hr1 hP hD hS (lv_sub hl [2, 3, 4, 5, 6] rfl)
    · refine lv_aload_n hx hb dL_law_653 rfl (lv_at hl 5 rfl) ?_
      refine lv_iconst (v := 0) hx hb dL_law_654 (by decide) ?_
      refine va_lald (f := fJ1) hx hb hK hP 33 2 (loAt LA_l) rfl vin01 dL_law_655 ?_
      rw [c00, hv c0]
      refine lv_iload hx hb dL_law_656 (lv_at hl 0 rfl) ?_
      refine lv_i2l hx hb dL_law_658 rfl ?_
      refine kl_cmp hx hb dL_law_659 ?_
      refine lv_if_eq (tgt := 665) hx hb dL_law_660 (by decide) (fun cE => ?_) (fun cE => ?_)
      · refine lv_goto (tgt := 1213) hx hb dL_law_665 (by decide) ?_
        refine W.widen (k := ci + 3) (n := si + 74) (by omega) (by omega) ?_
        exact nx _ _ _ _ _ _ hr1 hP hD hS (lv_sub hl [2, 3, 4, 5, 6] rfl)
      · exact absurd rfl cE
  · exact absurd hth cE
set_option maxHeartbeats 4000000 in
set_option maxRecDepth 100000 in
theorem case_9 {p : Program} {l : Launch} {e : Env} {s : State} {m : MethodId} {below : List Frame} {meth : Method} {c : Code} {b L : Nat} {xs : Nat → Int32} {D : va_G} {cyI cyZ cyJ : ClassId} {qa qb : Nat → Nat} {o i ci si : Nat} {Z : State → Prop} (K : LK p s m c b L xs l D cyI cyZ cyJ i ci si) {S : ZS} {M : ZM} {fJ : Nat → Int64} {H : Heap} {locs : List Loc} {ls : Array Slot} (hr : REL S M) (hP : va_P D vwCl (LA qa cyI cyZ S ++ ([LO o cyJ fJ] ++ LB qb cyI cyZ M)) H) (hD : va_D (fun q : Nat => s.heap.size ≤ q) (LA qa cyI cyZ S ++ ([LO o cyJ fJ] ++ LB qb cyI cyZ M))) (hS : va_S (fun q : Nat => s.heap.size ≤ q) s.heap H locs) (hl : lv_has ls 7 [(0, .ref b), (1, .ref (qa 0)), (2, .ref (qb 0)), (3, .ref o), (4, .int (nI (4 * i)))]) (nx : LN p l e s m below meth c b D cyI cyZ cyJ qa qb o i ci si Z) : W p l e room_1 s m #[.ref b] below meth c H locs ci si Z (F0 m 668 ls []) := by
  obtain ⟨hx, hb, hml, hown, hts, hX, hbl, hK, hY, hst, hi4, hL, hci, hsi⟩ := K
  have hK2 : va_K D vwCl (kT cyI cyZ) s := hK.sub [0, 1] rfl
  have hA : ∀ q : Nat, s.heap.size ≤ q → (fun q : Nat => s.heap.size ≤ q) q := fun _ h => h
  have hbA : ¬ (fun q : Nat => s.heap.size ≤ q) b := Nat.not_le.mpr hbl
  have hl : lv_has ls 7 [(0, .ref b), (1, .ref (qa 0)), (2, .ref (qb 0)), (3, .ref o), (4, .int (nI (4 * i)))] := hl
  have hin1 : vp_in (nI (4 * i) + 1) L := by rw [nI_1]; exact vp_in_nI (by omega) (by omega)
  obtain ⟨S1, M1, fJ1, k, v, hM1, hM2, hth, hv, hr1⟩ := st_pressure l hst D cyI cyZ cyJ qa qb o fJ hr (xs (nI (4 * i) + 1).toNatClampNeg)
  refine lv_aload_n hx hb dL_law_668 rfl (lv_at hl 1 rfl) ?_
  refine lv_aload_n hx hb dL_law_669 rfl (lv_at hl 0 rfl) ?_
  refine lv_iload hx hb dL_law_670 (lv_at hl 4 rfl) ?_
  refine lv_iconst (v := 1) hx hb dL_law_672 (by decide) ?_
  refine lv_iadd hx hb dL_law_673 ?_
  refine va_sld hx hb hX hbl hbA hS hin1 dL_law_674 ?_
  refine lv_aload_n hx hb dL_law_675 rfl (lv_at hl 3 rfl) ?_
  have hP : va_P D vwCl ([] ++ ((LA qa cyI cyZ S ++ [LO o cyJ fJ]) ++ LB qb cyI cyZ M)) H := by rw [le1]; exact hP
  have hD : va_D (fun q : Nat => s.heap.size ≤ q) ([] ++ ((LA qa cyI cyZ S ++ [LO o cyJ fJ]) ++ LB qb cyI cyZ M)) := by rw [le1]; exact hD
  refine kwm_S (n1 := 0) (n2 := 34) (n3 := 13) (wl := []) (wc := LA qa cyI cyZ S ++ [LO o cyJ fJ]) (w1 := LA qa cyI cyZ S1 ++ [LO o cyJ fJ1]) (wr := LB qb cyI cyZ M) (As := [.ref (qa 0), .int (xs (nI (4 * i) + 1).toNatClampNeg), .ref o]) (rest := []) rfl LA_34 LA_34 LB_l (by decide +kernel) hM1 ⟨hx, hb, hml, hown, hts⟩ (vx_cwSW 3 hts gL_law_L_pressure rfl rfl rfl (by decide +kernel) ⟨Nat.le_of_ble_eq_true rfl, Nat.le_of_ble_eq_true rfl⟩) hK hY hP hD hS hA rfl hl.1 rfl (Nat.le_of_ble_eq_true rfl) dL_law_676 ⟨by omega, by omega⟩ (fun H locs hP hD hS => ?_)
  rw [le1] at hP hD
  refine lv_istore (lv' := [(5, .int k), (0, .ref b), (1, .ref (qa 0)), (2, .ref (qb 0)), (3, .ref o), (4, .int (nI (4 * i)))]) hx hb dL_law_679 hl (by decide) rfl (fun ls hl => ?_)
  refine lv_aload_n hx hb dL_law_681 rfl (lv_at hl 3 rfl) ?_
  refine lv_aload_n hx hb dL_law_682 rfl (lv_at hl 1 rfl) ?_
  refine lv_iload hx hb dL_law_683 (lv_at hl 5 rfl) ?_
  refine lv_iconst (v := 1) hx hb dL_law_685 (by decide) ?_
  refine lv_iadd hx hb dL_law_686 ?_
  refine va_sld hx hb hX hbl hbA hS hin1 dL_law_687 ?_
  have hP : va_P D vwCl ((LA qa cyI cyZ S1 ++ [LO o cyJ fJ1]) ++ (LB qb cyI cyZ M ++ [])) H := by rw [le2]; exact hP
  have hD : va_D (fun q : Nat => s.heap.size ≤ q) ((LA qa cyI cyZ S1 ++ [LO o cyJ fJ1]) ++ (LB qb cyI cyZ M ++ [])) := by rw [le2]; exact hD
  refine kcm_Vi (n1 := 34) (n2 := 13) (n3 := 0) (wl := LA qa cyI cyZ S1 ++ [LO o cyJ fJ1]) (wc := LB qb cyI cyZ M) (w1 := LB qb cyI cyZ M1) (wr := []) (As := [.int (xs (nI (4 * i) + 1).toNatClampNeg)]) (rest := []) LA_34 LB_l LB_l rfl (by decide +kernel) hM2 ⟨hx, hb, hml, hown, hts⟩ (cwV 1 hts gL_law_X5_pressure rfl rfl rfl (by decide +kernel) ⟨Nat.le_of_ble_eq_true rfl, Nat.le_of_ble_eq_true rfl⟩) hK2 hP hD hS hA LB_0 rfl rfl rfl hl.1 rfl (Nat.le_of_ble_eq_true rfl) dL_law_688 ⟨by omega, by omega⟩ (fun H locs hP hD hS => ?_)
  rw [le2] at hP hD
  refine lv_istore (lv' := [(6, .int v), (5, .int k), (0, .ref b), (1, .ref (qa 0)), (2, .ref (qb 0)), (3, .ref o), (4, .int (nI (4 * i)))]) hx hb dL_law_691 hl (by decide) rfl (fun ls hl => ?_)
  refine lv_aload_n hx hb dL_law_693 rfl (lv_at hl 4 rfl) ?_
  have hP : va_P D vwCl ((LA qa cyI cyZ S1 ++ [LO o cyJ fJ1]) ++ (LB qb cyI cyZ M1 ++ [])) H := by rw [le2]; exact hP
  have hD : va_D (fun q : Nat => s.heap.size ≤ q) ((LA qa cyI cyZ S1 ++ [LO o cyJ fJ1]) ++ (LB qb cyI cyZ M1 ++ [])) := by rw [le2]; exact hD
  refine kcm_Vi (n1 := 34) (n2 := 13) (n3 := 0) (wl := LA qa cyI cyZ S1 ++ [LO o cyJ fJ1]) (wc := LB qb cyI cyZ M1) (w1 := LB qb cyI cyZ M1) (wr := []) (As := []) (rest := []) LA_34 LB_l LB_l rfl (by decide +kernel) (m5_thrown l D cyI cyZ qb M1 M1.th rfl) ⟨hx, hb, hml, hown, hts⟩ (cwV 0 hts gL_law_X5_thrown rfl rfl rfl (by decide +kernel) ⟨Nat.le_of_ble_eq_true rfl, Nat.le_of_ble_eq_true rfl⟩) hK2 hP hD hS hA LB_0 rfl rfl rfl hl.1 rfl (Nat.le_of_ble_eq_true rfl) dL_law_694 ⟨by omega, by omega⟩ (fun H locs hP hD hS => ?_)
  rw [le2] at hP hD
  refine lv_iload hx hb dL_law_697 (lv_at hl 1 rfl) ?_
  refine lv_icmp_eq (tgt := 704) hx hb dL_law_699 (by decide) (fun cE => ?_) (fun cE => ?_)
  · refine lv_iload hx hb dL_law_704 (lv_at hl 1 rfl) ?_
    refine lv_if_ne (tgt := 721) hx hb dL_law_706 (by decide) (fun c0 => ?_) (fun c0 => ?_)
    · refine lv_goto (tgt := 1213) hx hb dL_law_721 (by decide) ?_
      refine W.widen (k := ci + 3) (n := si + 74) (by omega) (by omega) ?_
      exact nx _ _ _ _ _ _ hr1 hP hD hS (lv_sub hl [2, 3, 4, 5, 6] rfl)
    · refine lv_aload_n hx hb dL_law_709 rfl (lv_at hl 5 rfl) ?_
      refine lv_iconst (v := 0) hx hb dL_law_710 (by decide) ?_
      refine va_lald (f := fJ1) hx hb hK hP 33 2 (loAt LA_l) rfl vin01 dL_law_711 ?_
      rw [c00, hv c0]
      refine lv_iload hx hb dL_law_712 (lv_at hl 0 rfl) ?_
      refine lv_i2l hx hb dL_law_714 rfl ?_
      refine kl_cmp hx hb dL_law_715 ?_
      refine lv_if_eq (tgt := 721) hx hb dL_law_716 (by decide) (fun cE => ?_) (fun cE => ?_)
      · refine lv_goto (tgt := 1213) hx hb dL_law_721 (by decide) ?_
        refine W.widen (k := ci + 3) (n := si + 74) (by omega) (by omega) ?_
        exact nx _ _ _ _ _ _ hr1 hP hD hS (lv_sub hl [2, 3, 4, 5, 6] rfl)
      · exact absurd rfl cE
  · exact absurd hth cE
set_option maxHeartbeats 4000000 in
set_option maxRecDepth 100000 in
theorem case_10 {p : Program} {l : Launch} {e : Env} {s : State} {m : MethodId} {below : List Frame} {meth : Method} {c : Code} {b L : Nat} {xs : Nat → Int32} {D : va_G} {cyI cyZ cyJ : ClassId} {qa qb : Nat → Nat} {o i ci si : Nat} {Z : State → Prop} (K : LK p s m c b L xs l D cyI cyZ cyJ i ci si) {S : ZS} {M : ZM} {fJ : Nat → Int64} {H : Heap} {locs : List Loc} {ls : Array Slot} (hr : REL S M) (hP : va_P D vwCl (LA qa cyI cyZ S ++ ([LO o cyJ fJ] ++ LB qb cyI cyZ M)) H) (hD : va_D (fun q : Nat => s.heap.size ≤ q) (LA qa cyI cyZ S ++ ([LO o cyJ fJ] ++ LB qb cyI cyZ M))) (hS : va_S (fun q : Nat => s.heap.size ≤ q) s.heap H locs) (hl : lv_has ls 7 [(0, .ref b), (1, .ref (qa 0)), (2, .ref (qb 0)), (3, .ref o), (4, .int (nI (4 * i)))]) (nx : LN p l e s m below meth c b D cyI cyZ cyJ qa qb o i ci si Z) : W p l e room_1 s m #[.ref b] below meth c H locs ci si Z (F0 m 724 ls []) := by
  obtain ⟨hx, hb, hml, hown, hts, hX, hbl, hK, hY, hst, hi4, hL, hci, hsi⟩ := K
  have hK2 : va_K D vwCl (kT cyI cyZ) s := hK.sub [0, 1] rfl
  have hA : ∀ q : Nat, s.heap.size ≤ q → (fun q : Nat => s.heap.size ≤ q) q := fun _ h => h
  have hbA : ¬ (fun q : Nat => s.heap.size ≤ q) b := Nat.not_le.mpr hbl
  have hl : lv_has ls 7 [(0, .ref b), (1, .ref (qa 0)), (2, .ref (qb 0)), (3, .ref o), (4, .int (nI (4 * i)))] := hl
  have hin1 : vp_in (nI (4 * i) + 1) L := by rw [nI_1]; exact vp_in_nI (by omega) (by omega)
  obtain ⟨S1, M1, fJ1, k, v, hM1, hM2, hth, hv, hr1⟩ := st_setRegisters l hst D cyI cyZ cyJ qa qb o fJ hr (xs (nI (4 * i) + 1).toNatClampNeg)
  refine lv_aload_n hx hb dL_law_724 rfl (lv_at hl 1 rfl) ?_
  refine lv_aload_n hx hb dL_law_725 rfl (lv_at hl 0 rfl) ?_
  refine lv_iload hx hb dL_law_726 (lv_at hl 4 rfl) ?_
  refine lv_iconst (v := 1) hx hb dL_law_728 (by decide) ?_
  refine lv_iadd hx hb dL_law_729 ?_
  refine va_sld hx hb hX hbl hbA hS hin1 dL_law_730 ?_
  refine lv_aload_n hx hb dL_law_731 rfl (lv_at hl 3 rfl) ?_
  have hP : va_P D vwCl ([] ++ ((LA qa cyI cyZ S ++ [LO o cyJ fJ]) ++ LB qb cyI cyZ M)) H := by rw [le1]; exact hP
  have hD : va_D (fun q : Nat => s.heap.size ≤ q) ([] ++ ((LA qa cyI cyZ S ++ [LO o cyJ fJ]) ++ LB qb cyI cyZ M)) := by rw [le1]; exact hD
  refine kwm_S (n1 := 0) (n2 := 34) (n3 := 13) (wl := []) (wc := LA qa cyI cyZ S ++ [LO o cyJ fJ]) (w1 := LA qa cyI cyZ S1 ++ [LO o cyJ fJ1]) (wr := LB qb cyI cyZ M) (As := [.ref (qa 0), .int (xs (nI (4 * i) + 1).toNatClampNeg), .ref o]) (rest := []) rfl LA_34 LA_34 LB_l (by decide +kernel) hM1 ⟨hx, hb, hml, hown, hts⟩ (vx_cwSW 3 hts gL_law_L_setRegisters rfl rfl rfl (by decide +kernel) ⟨Nat.le_of_ble_eq_true rfl, Nat.le_of_ble_eq_true rfl⟩) hK hY hP hD hS hA rfl hl.1 rfl (Nat.le_of_ble_eq_true rfl) dL_law_732 ⟨by omega, by omega⟩ (fun H locs hP hD hS => ?_)
  rw [le1] at hP hD
  refine lv_istore (lv' := [(5, .int k), (0, .ref b), (1, .ref (qa 0)), (2, .ref (qb 0)), (3, .ref o), (4, .int (nI (4 * i)))]) hx hb dL_law_735 hl (by decide) rfl (fun ls hl => ?_)
  refine lv_aload_n hx hb dL_law_737 rfl (lv_at hl 3 rfl) ?_
  refine lv_aload_n hx hb dL_law_738 rfl (lv_at hl 1 rfl) ?_
  refine lv_iload hx hb dL_law_739 (lv_at hl 5 rfl) ?_
  refine lv_iconst (v := 1) hx hb dL_law_741 (by decide) ?_
  refine lv_iadd hx hb dL_law_742 ?_
  refine va_sld hx hb hX hbl hbA hS hin1 dL_law_743 ?_
  have hP : va_P D vwCl ((LA qa cyI cyZ S1 ++ [LO o cyJ fJ1]) ++ (LB qb cyI cyZ M ++ [])) H := by rw [le2]; exact hP
  have hD : va_D (fun q : Nat => s.heap.size ≤ q) ((LA qa cyI cyZ S1 ++ [LO o cyJ fJ1]) ++ (LB qb cyI cyZ M ++ [])) := by rw [le2]; exact hD
  refine kcm_Vi (n1 := 34) (n2 := 13) (n3 := 0) (wl := LA qa cyI cyZ S1 ++ [LO o cyJ fJ1]) (wc := LB qb cyI cyZ M) (w1 := LB qb cyI cyZ M1) (wr := []) (As := [.int (xs (nI (4 * i) + 1).toNatClampNeg)]) (rest := []) LA_34 LB_l LB_l rfl (by decide +kernel) hM2 ⟨hx, hb, hml, hown, hts⟩ (cwV 1 hts gL_law_X5_setRegisters rfl rfl rfl (by decide +kernel) ⟨Nat.le_of_ble_eq_true rfl, Nat.le_of_ble_eq_true rfl⟩) hK2 hP hD hS hA LB_0 rfl rfl rfl hl.1 rfl (Nat.le_of_ble_eq_true rfl) dL_law_744 ⟨by omega, by omega⟩ (fun H locs hP hD hS => ?_)
  rw [le2] at hP hD
  refine lv_istore (lv' := [(6, .int v), (5, .int k), (0, .ref b), (1, .ref (qa 0)), (2, .ref (qb 0)), (3, .ref o), (4, .int (nI (4 * i)))]) hx hb dL_law_747 hl (by decide) rfl (fun ls hl => ?_)
  refine lv_aload_n hx hb dL_law_749 rfl (lv_at hl 4 rfl) ?_
  have hP : va_P D vwCl ((LA qa cyI cyZ S1 ++ [LO o cyJ fJ1]) ++ (LB qb cyI cyZ M1 ++ [])) H := by rw [le2]; exact hP
  have hD : va_D (fun q : Nat => s.heap.size ≤ q) ((LA qa cyI cyZ S1 ++ [LO o cyJ fJ1]) ++ (LB qb cyI cyZ M1 ++ [])) := by rw [le2]; exact hD
  refine kcm_Vi (n1 := 34) (n2 := 13) (n3 := 0) (wl := LA qa cyI cyZ S1 ++ [LO o cyJ fJ1]) (wc := LB qb cyI cyZ M1) (w1 := LB qb cyI cyZ M1) (wr := []) (As := []) (rest := []) LA_34 LB_l LB_l rfl (by decide +kernel) (m5_thrown l D cyI cyZ qb M1 M1.th rfl) ⟨hx, hb, hml, hown, hts⟩ (cwV 0 hts gL_law_X5_thrown rfl rfl rfl (by decide +kernel) ⟨Nat.le_of_ble_eq_true rfl, Nat.le_of_ble_eq_true rfl⟩) hK2 hP hD hS hA LB_0 rfl rfl rfl hl.1 rfl (Nat.le_of_ble_eq_true rfl) dL_law_750 ⟨by omega, by omega⟩ (fun H locs hP hD hS => ?_)
  rw [le2] at hP hD
  refine lv_iload hx hb dL_law_753 (lv_at hl 1 rfl) ?_
  refine lv_icmp_eq (tgt := 760) hx hb dL_law_755 (by decide) (fun cE => ?_) (fun cE => ?_)
  · refine lv_iload hx hb dL_law_760 (lv_at hl 1 rfl) ?_
    refine lv_if_ne (tgt := 777) hx hb dL_law_762 (by decide) (fun c0 => ?_) (fun c0 => ?_)
    · refine lv_goto (tgt := 1213) hx hb dL_law_777 (by decide) ?_
      refine W.widen (k := ci + 3) (n := si + 74) (by omega) (by omega) ?_
      exact nx _ _ _ _ _ _ hr1 hP hD hS (lv_sub hl [2, 3, 4, 5, 6] rfl)
    · refine lv_aload_n hx hb dL_law_765 rfl (lv_at hl 5 rfl) ?_
      refine lv_iconst (v := 0) hx hb dL_law_766 (by decide) ?_
      refine va_lald (f := fJ1) hx hb hK hP 33 2 (loAt LA_l) rfl vin01 dL_law_767 ?_
      rw [c00, hv c0]
      refine lv_iload hx hb dL_law_768 (lv_at hl 0 rfl) ?_
      refine lv_i2l hx hb dL_law_770 rfl ?_
      refine kl_cmp hx hb dL_law_771 ?_
      refine lv_if_eq (tgt := 777) hx hb dL_law_772 (by decide) (fun cE => ?_) (fun cE => ?_)
      · refine lv_goto (tgt := 1213) hx hb dL_law_777 (by decide) ?_
        refine W.widen (k := ci + 3) (n := si + 74) (by omega) (by omega) ?_
        exact nx _ _ _ _ _ _ hr1 hP hD hS (lv_sub hl [2, 3, 4, 5, 6] rfl)
      · exact absurd rfl cE
  · exact absurd hth cE
set_option maxHeartbeats 4000000 in
set_option maxRecDepth 100000 in
theorem case_11 {p : Program} {l : Launch} {e : Env} {s : State} {m : MethodId} {below : List Frame} {meth : Method} {c : Code} {b L : Nat} {xs : Nat → Int32} {D : va_G} {cyI cyZ cyJ : ClassId} {qa qb : Nat → Nat} {o i ci si : Nat} {Z : State → Prop} (K : LK p s m c b L xs l D cyI cyZ cyJ i ci si) {S : ZS} {M : ZM} {fJ : Nat → Int64} {H : Heap} {locs : List Loc} {ls : Array Slot} (hr : REL S M) (hP : va_P D vwCl (LA qa cyI cyZ S ++ ([LO o cyJ fJ] ++ LB qb cyI cyZ M)) H) (hD : va_D (fun q : Nat => s.heap.size ≤ q) (LA qa cyI cyZ S ++ ([LO o cyJ fJ] ++ LB qb cyI cyZ M))) (hS : va_S (fun q : Nat => s.heap.size ≤ q) s.heap H locs) (hl : lv_has ls 7 [(0, .ref b), (1, .ref (qa 0)), (2, .ref (qb 0)), (3, .ref o), (4, .int (nI (4 * i)))]) (nx : LN p l e s m below meth c b D cyI cyZ cyJ qa qb o i ci si Z) : W p l e room_1 s m #[.ref b] below meth c H locs ci si Z (F0 m 780 ls []) := by
  obtain ⟨hx, hb, hml, hown, hts, hX, hbl, hK, hY, hst, hi4, hL, hci, hsi⟩ := K
  have hK2 : va_K D vwCl (kT cyI cyZ) s := hK.sub [0, 1] rfl
  have hA : ∀ q : Nat, s.heap.size ≤ q → (fun q : Nat => s.heap.size ≤ q) q := fun _ h => h
  have hbA : ¬ (fun q : Nat => s.heap.size ≤ q) b := Nat.not_le.mpr hbl
  have hl : lv_has ls 7 [(0, .ref b), (1, .ref (qa 0)), (2, .ref (qb 0)), (3, .ref o), (4, .int (nI (4 * i)))] := hl
  obtain ⟨S1, M1, r, hM1, hM2, hr1⟩ := op_allocate l D cyI cyZ qa qb hr
  refine lv_aload_n hx hb dL_law_780 rfl (lv_at hl 1 rfl) ?_
  have hP : va_P D vwCl ([] ++ (LA qa cyI cyZ S ++ ([LO o cyJ fJ] ++ LB qb cyI cyZ M))) H := by rw [le3]; exact hP
  have hD : va_D (fun q : Nat => s.heap.size ≤ q) ([] ++ (LA qa cyI cyZ S ++ ([LO o cyJ fJ] ++ LB qb cyI cyZ M))) := by rw [le3]; exact hD
  refine kcm_Vi (n1 := 0) (n2 := 33) (n3 := 14) (wl := []) (wc := LA qa cyI cyZ S) (w1 := LA qa cyI cyZ S1) (wr := [LO o cyJ fJ] ++ LB qb cyI cyZ M) (As := []) (rest := []) rfl LA_l LA_l LB_14 (by decide +kernel) hM1 ⟨hx, hb, hml, hown, hts⟩ (cwV 0 hts gL_law_X4_allocate rfl rfl rfl (by decide +kernel) ⟨Nat.le_of_ble_eq_true rfl, Nat.le_of_ble_eq_true rfl⟩) hK2 hP hD hS hA LA_0 rfl rfl rfl hl.1 rfl (Nat.le_of_ble_eq_true rfl) dL_law_781 ⟨by omega, by omega⟩ (fun H locs hP hD hS => ?_)
  rw [le3] at hP hD
  refine lv_aload_n hx hb dL_law_784 rfl (lv_at hl 2 rfl) ?_
  have hP : va_P D vwCl ((LA qa cyI cyZ S1 ++ [LO o cyJ fJ]) ++ (LB qb cyI cyZ M ++ [])) H := by rw [le2]; exact hP
  have hD : va_D (fun q : Nat => s.heap.size ≤ q) ((LA qa cyI cyZ S1 ++ [LO o cyJ fJ]) ++ (LB qb cyI cyZ M ++ [])) := by rw [le2]; exact hD
  refine kcm_Vi (n1 := 34) (n2 := 13) (n3 := 0) (wl := LA qa cyI cyZ S1 ++ [LO o cyJ fJ]) (wc := LB qb cyI cyZ M) (w1 := LB qb cyI cyZ M1) (wr := []) (As := []) (rest := [.int r]) LA_34 LB_l LB_l rfl (by decide +kernel) hM2 ⟨hx, hb, hml, hown, hts⟩ (cwV 0 hts gL_law_X5_allocate rfl rfl rfl (by decide +kernel) ⟨Nat.le_of_ble_eq_true rfl, Nat.le_of_ble_eq_true rfl⟩) hK2 hP hD hS hA LB_0 rfl rfl rfl hl.1 rfl (Nat.le_of_ble_eq_true rfl) dL_law_785 ⟨by omega, by omega⟩ (fun H locs hP hD hS => ?_)
  rw [le2] at hP hD
  refine lv_icmp_eq (tgt := 1213) hx hb dL_law_788 (by decide) (fun cE => ?_) (fun cE => ?_)
  · refine W.widen (k := ci + 3) (n := si + 74) (by omega) (by omega) ?_
    exact nx _ _ _ _ _ _ hr1 hP hD hS (lv_sub hl [0, 1, 2, 3, 4] rfl)
  · exact absurd rfl cE
set_option maxHeartbeats 4000000 in
set_option maxRecDepth 100000 in
theorem case_12 {p : Program} {l : Launch} {e : Env} {s : State} {m : MethodId} {below : List Frame} {meth : Method} {c : Code} {b L : Nat} {xs : Nat → Int32} {D : va_G} {cyI cyZ cyJ : ClassId} {qa qb : Nat → Nat} {o i ci si : Nat} {Z : State → Prop} (K : LK p s m c b L xs l D cyI cyZ cyJ i ci si) {S : ZS} {M : ZM} {fJ : Nat → Int64} {H : Heap} {locs : List Loc} {ls : Array Slot} (hr : REL S M) (hP : va_P D vwCl (LA qa cyI cyZ S ++ ([LO o cyJ fJ] ++ LB qb cyI cyZ M)) H) (hD : va_D (fun q : Nat => s.heap.size ≤ q) (LA qa cyI cyZ S ++ ([LO o cyJ fJ] ++ LB qb cyI cyZ M))) (hS : va_S (fun q : Nat => s.heap.size ≤ q) s.heap H locs) (hl : lv_has ls 7 [(0, .ref b), (1, .ref (qa 0)), (2, .ref (qb 0)), (3, .ref o), (4, .int (nI (4 * i)))]) (nx : LN p l e s m below meth c b D cyI cyZ cyJ qa qb o i ci si Z) : W p l e room_1 s m #[.ref b] below meth c H locs ci si Z (F0 m 793 ls []) := by
  obtain ⟨hx, hb, hml, hown, hts, hX, hbl, hK, hY, hst, hi4, hL, hci, hsi⟩ := K
  have hK2 : va_K D vwCl (kT cyI cyZ) s := hK.sub [0, 1] rfl
  have hA : ∀ q : Nat, s.heap.size ≤ q → (fun q : Nat => s.heap.size ≤ q) q := fun _ h => h
  have hbA : ¬ (fun q : Nat => s.heap.size ≤ q) b := Nat.not_le.mpr hbl
  have hl : lv_has ls 7 [(0, .ref b), (1, .ref (qa 0)), (2, .ref (qb 0)), (3, .ref o), (4, .int (nI (4 * i)))] := hl
  obtain ⟨S1, M1, r, hM1, hM2, hr1⟩ := op_isAllocated l D cyI cyZ qa qb hr
  refine lv_aload_n hx hb dL_law_793 rfl (lv_at hl 1 rfl) ?_
  have hP : va_P D vwCl ([] ++ (LA qa cyI cyZ S ++ ([LO o cyJ fJ] ++ LB qb cyI cyZ M))) H := by rw [le3]; exact hP
  have hD : va_D (fun q : Nat => s.heap.size ≤ q) ([] ++ (LA qa cyI cyZ S ++ ([LO o cyJ fJ] ++ LB qb cyI cyZ M))) := by rw [le3]; exact hD
  refine kcm_Vi (n1 := 0) (n2 := 33) (n3 := 14) (wl := []) (wc := LA qa cyI cyZ S) (w1 := LA qa cyI cyZ S1) (wr := [LO o cyJ fJ] ++ LB qb cyI cyZ M) (As := []) (rest := []) rfl LA_l LA_l LB_14 (by decide +kernel) hM1 ⟨hx, hb, hml, hown, hts⟩ (cwV 0 hts gL_law_X4_isAllocated rfl rfl rfl (by decide +kernel) ⟨Nat.le_of_ble_eq_true rfl, Nat.le_of_ble_eq_true rfl⟩) hK2 hP hD hS hA LA_0 rfl rfl rfl hl.1 rfl (Nat.le_of_ble_eq_true rfl) dL_law_794 ⟨by omega, by omega⟩ (fun H locs hP hD hS => ?_)
  rw [le3] at hP hD
  refine lv_aload_n hx hb dL_law_797 rfl (lv_at hl 2 rfl) ?_
  have hP : va_P D vwCl ((LA qa cyI cyZ S1 ++ [LO o cyJ fJ]) ++ (LB qb cyI cyZ M ++ [])) H := by rw [le2]; exact hP
  have hD : va_D (fun q : Nat => s.heap.size ≤ q) ((LA qa cyI cyZ S1 ++ [LO o cyJ fJ]) ++ (LB qb cyI cyZ M ++ [])) := by rw [le2]; exact hD
  refine kcm_Vi (n1 := 34) (n2 := 13) (n3 := 0) (wl := LA qa cyI cyZ S1 ++ [LO o cyJ fJ]) (wc := LB qb cyI cyZ M) (w1 := LB qb cyI cyZ M1) (wr := []) (As := []) (rest := [.int r]) LA_34 LB_l LB_l rfl (by decide +kernel) hM2 ⟨hx, hb, hml, hown, hts⟩ (cwV 0 hts gL_law_X5_isAllocated rfl rfl rfl (by decide +kernel) ⟨Nat.le_of_ble_eq_true rfl, Nat.le_of_ble_eq_true rfl⟩) hK2 hP hD hS hA LB_0 rfl rfl rfl hl.1 rfl (Nat.le_of_ble_eq_true rfl) dL_law_798 ⟨by omega, by omega⟩ (fun H locs hP hD hS => ?_)
  rw [le2] at hP hD
  refine lv_icmp_eq (tgt := 1213) hx hb dL_law_801 (by decide) (fun cE => ?_) (fun cE => ?_)
  · refine W.widen (k := ci + 3) (n := si + 74) (by omega) (by omega) ?_
    exact nx _ _ _ _ _ _ hr1 hP hD hS (lv_sub hl [0, 1, 2, 3, 4] rfl)
  · exact absurd rfl cE
set_option maxHeartbeats 4000000 in
set_option maxRecDepth 100000 in
theorem case_13 {p : Program} {l : Launch} {e : Env} {s : State} {m : MethodId} {below : List Frame} {meth : Method} {c : Code} {b L : Nat} {xs : Nat → Int32} {D : va_G} {cyI cyZ cyJ : ClassId} {qa qb : Nat → Nat} {o i ci si : Nat} {Z : State → Prop} (K : LK p s m c b L xs l D cyI cyZ cyJ i ci si) {S : ZS} {M : ZM} {fJ : Nat → Int64} {H : Heap} {locs : List Loc} {ls : Array Slot} (hr : REL S M) (hP : va_P D vwCl (LA qa cyI cyZ S ++ ([LO o cyJ fJ] ++ LB qb cyI cyZ M)) H) (hD : va_D (fun q : Nat => s.heap.size ≤ q) (LA qa cyI cyZ S ++ ([LO o cyJ fJ] ++ LB qb cyI cyZ M))) (hS : va_S (fun q : Nat => s.heap.size ≤ q) s.heap H locs) (hl : lv_has ls 7 [(0, .ref b), (1, .ref (qa 0)), (2, .ref (qb 0)), (3, .ref o), (4, .int (nI (4 * i)))]) (nx : LN p l e s m below meth c b D cyI cyZ cyJ qa qb o i ci si Z) : W p l e room_1 s m #[.ref b] below meth c H locs ci si Z (F0 m 806 ls []) := by
  obtain ⟨hx, hb, hml, hown, hts, hX, hbl, hK, hY, hst, hi4, hL, hci, hsi⟩ := K
  have hK2 : va_K D vwCl (kT cyI cyZ) s := hK.sub [0, 1] rfl
  have hA : ∀ q : Nat, s.heap.size ≤ q → (fun q : Nat => s.heap.size ≤ q) q := fun _ h => h
  have hbA : ¬ (fun q : Nat => s.heap.size ≤ q) b := Nat.not_le.mpr hbl
  have hl : lv_has ls 7 [(0, .ref b), (1, .ref (qa 0)), (2, .ref (qb 0)), (3, .ref o), (4, .int (nI (4 * i)))] := hl
  have hin1 : vp_in (nI (4 * i) + 1) L := by rw [nI_1]; exact vp_in_nI (by omega) (by omega)
  have hin2 : vp_in (nI (4 * i) + 2) L := by rw [add2]; exact vp_in_nI (by omega) (by omega)
  obtain ⟨S1, M1, fJ1, k, v, hM1, hM2, hth, hv, hr1⟩ := st_step l hst D cyI cyZ cyJ qa qb o fJ hr (xs (nI (4 * i) + 1).toNatClampNeg) (xs (nI (4 * i) + 2).toNatClampNeg)
  refine lv_aload_n hx hb dL_law_806 rfl (lv_at hl 1 rfl) ?_
  refine lv_aload_n hx hb dL_law_807 rfl (lv_at hl 0 rfl) ?_
  refine lv_iload hx hb dL_law_808 (lv_at hl 4 rfl) ?_
  refine lv_iconst (v := 1) hx hb dL_law_810 (by decide) ?_
  refine lv_iadd hx hb dL_law_811 ?_
  refine va_sld hx hb hX hbl hbA hS hin1 dL_law_812 ?_
  refine lv_aload_n hx hb dL_law_813 rfl (lv_at hl 0 rfl) ?_
  refine lv_iload hx hb dL_law_814 (lv_at hl 4 rfl) ?_
  refine lv_iconst (v := 2) hx hb dL_law_816 (by decide) ?_
  refine lv_iadd hx hb dL_law_817 ?_
  refine va_sld hx hb hX hbl hbA hS hin2 dL_law_818 ?_
  refine lv_aload_n hx hb dL_law_819 rfl (lv_at hl 3 rfl) ?_
  have hP : va_P D vwCl ([] ++ ((LA qa cyI cyZ S ++ [LO o cyJ fJ]) ++ LB qb cyI cyZ M)) H := by rw [le1]; exact hP
  have hD : va_D (fun q : Nat => s.heap.size ≤ q) ([] ++ ((LA qa cyI cyZ S ++ [LO o cyJ fJ]) ++ LB qb cyI cyZ M)) := by rw [le1]; exact hD
  refine kwm_S (n1 := 0) (n2 := 34) (n3 := 13) (wl := []) (wc := LA qa cyI cyZ S ++ [LO o cyJ fJ]) (w1 := LA qa cyI cyZ S1 ++ [LO o cyJ fJ1]) (wr := LB qb cyI cyZ M) (As := [.ref (qa 0), .int (xs (nI (4 * i) + 1).toNatClampNeg), .int (xs (nI (4 * i) + 2).toNatClampNeg), .ref o]) (rest := []) rfl LA_34 LA_34 LB_l (by decide +kernel) hM1 ⟨hx, hb, hml, hown, hts⟩ (vx_cwSW 4 hts gL_law_L_step rfl rfl rfl (by decide +kernel) ⟨Nat.le_of_ble_eq_true rfl, Nat.le_of_ble_eq_true rfl⟩) hK hY hP hD hS hA rfl hl.1 rfl (Nat.le_of_ble_eq_true rfl) dL_law_820 ⟨by omega, by omega⟩ (fun H locs hP hD hS => ?_)
  rw [le1] at hP hD
  refine lv_istore (lv' := [(5, .int k), (0, .ref b), (1, .ref (qa 0)), (2, .ref (qb 0)), (3, .ref o), (4, .int (nI (4 * i)))]) hx hb dL_law_823 hl (by decide) rfl (fun ls hl => ?_)
  refine lv_aload_n hx hb dL_law_825 rfl (lv_at hl 3 rfl) ?_
  refine lv_aload_n hx hb dL_law_826 rfl (lv_at hl 1 rfl) ?_
  refine lv_iload hx hb dL_law_827 (lv_at hl 5 rfl) ?_
  refine lv_iconst (v := 1) hx hb dL_law_829 (by decide) ?_
  refine lv_iadd hx hb dL_law_830 ?_
  refine va_sld hx hb hX hbl hbA hS hin1 dL_law_831 ?_
  refine lv_aload_n hx hb dL_law_832 rfl (lv_at hl 1 rfl) ?_
  refine lv_iload hx hb dL_law_833 (lv_at hl 5 rfl) ?_
  refine lv_iconst (v := 2) hx hb dL_law_835 (by decide) ?_
  refine lv_iadd hx hb dL_law_836 ?_
  refine va_sld hx hb hX hbl hbA hS hin2 dL_law_837 ?_
  have hP : va_P D vwCl ((LA qa cyI cyZ S1 ++ [LO o cyJ fJ1]) ++ (LB qb cyI cyZ M ++ [])) H := by rw [le2]; exact hP
  have hD : va_D (fun q : Nat => s.heap.size ≤ q) ((LA qa cyI cyZ S1 ++ [LO o cyJ fJ1]) ++ (LB qb cyI cyZ M ++ [])) := by rw [le2]; exact hD
  refine kcm_Vi (n1 := 34) (n2 := 13) (n3 := 0) (wl := LA qa cyI cyZ S1 ++ [LO o cyJ fJ1]) (wc := LB qb cyI cyZ M) (w1 := LB qb cyI cyZ M1) (wr := []) (As := [.int (xs (nI (4 * i) + 1).toNatClampNeg), .int (xs (nI (4 * i) + 2).toNatClampNeg)]) (rest := []) LA_34 LB_l LB_l rfl (by decide +kernel) hM2 ⟨hx, hb, hml, hown, hts⟩ (cwV 2 hts gL_law_X5_step rfl rfl rfl (by decide +kernel) ⟨Nat.le_of_ble_eq_true rfl, Nat.le_of_ble_eq_true rfl⟩) hK2 hP hD hS hA LB_0 rfl rfl rfl hl.1 rfl (Nat.le_of_ble_eq_true rfl) dL_law_838 ⟨by omega, by omega⟩ (fun H locs hP hD hS => ?_)
  rw [le2] at hP hD
  refine lv_istore (lv' := [(6, .int v), (5, .int k), (0, .ref b), (1, .ref (qa 0)), (2, .ref (qb 0)), (3, .ref o), (4, .int (nI (4 * i)))]) hx hb dL_law_841 hl (by decide) rfl (fun ls hl => ?_)
  refine lv_aload_n hx hb dL_law_843 rfl (lv_at hl 4 rfl) ?_
  have hP : va_P D vwCl ((LA qa cyI cyZ S1 ++ [LO o cyJ fJ1]) ++ (LB qb cyI cyZ M1 ++ [])) H := by rw [le2]; exact hP
  have hD : va_D (fun q : Nat => s.heap.size ≤ q) ((LA qa cyI cyZ S1 ++ [LO o cyJ fJ1]) ++ (LB qb cyI cyZ M1 ++ [])) := by rw [le2]; exact hD
  refine kcm_Vi (n1 := 34) (n2 := 13) (n3 := 0) (wl := LA qa cyI cyZ S1 ++ [LO o cyJ fJ1]) (wc := LB qb cyI cyZ M1) (w1 := LB qb cyI cyZ M1) (wr := []) (As := []) (rest := []) LA_34 LB_l LB_l rfl (by decide +kernel) (m5_thrown l D cyI cyZ qb M1 M1.th rfl) ⟨hx, hb, hml, hown, hts⟩ (cwV 0 hts gL_law_X5_thrown rfl rfl rfl (by decide +kernel) ⟨Nat.le_of_ble_eq_true rfl, Nat.le_of_ble_eq_true rfl⟩) hK2 hP hD hS hA LB_0 rfl rfl rfl hl.1 rfl (Nat.le_of_ble_eq_true rfl) dL_law_844 ⟨by omega, by omega⟩ (fun H locs hP hD hS => ?_)
  rw [le2] at hP hD
  refine lv_iload hx hb dL_law_847 (lv_at hl 1 rfl) ?_
  refine lv_icmp_eq (tgt := 854) hx hb dL_law_849 (by decide) (fun cE => ?_) (fun cE => ?_)
  · refine lv_iload hx hb dL_law_854 (lv_at hl 1 rfl) ?_
    refine lv_if_ne (tgt := 871) hx hb dL_law_856 (by decide) (fun c0 => ?_) (fun c0 => ?_)
    · refine lv_goto (tgt := 1213) hx hb dL_law_871 (by decide) ?_
      refine W.widen (k := ci + 3) (n := si + 74) (by omega) (by omega) ?_
      exact nx _ _ _ _ _ _ hr1 hP hD hS (lv_sub hl [2, 3, 4, 5, 6] rfl)
    · refine lv_aload_n hx hb dL_law_859 rfl (lv_at hl 5 rfl) ?_
      refine lv_iconst (v := 0) hx hb dL_law_860 (by decide) ?_
      refine va_lald (f := fJ1) hx hb hK hP 33 2 (loAt LA_l) rfl vin01 dL_law_861 ?_
      rw [c00, hv c0]
      refine lv_iload hx hb dL_law_862 (lv_at hl 0 rfl) ?_
      refine lv_i2l hx hb dL_law_864 rfl ?_
      refine kl_cmp hx hb dL_law_865 ?_
      refine lv_if_eq (tgt := 871) hx hb dL_law_866 (by decide) (fun cE => ?_) (fun cE => ?_)
      · refine lv_goto (tgt := 1213) hx hb dL_law_871 (by decide) ?_
        refine W.widen (k := ci + 3) (n := si + 74) (by omega) (by omega) ?_
        exact nx _ _ _ _ _ _ hr1 hP hD hS (lv_sub hl [2, 3, 4, 5, 6] rfl)
      · exact absurd rfl cE
  · exact absurd hth cE
set_option maxHeartbeats 4000000 in
set_option maxRecDepth 100000 in
theorem case_14 {p : Program} {l : Launch} {e : Env} {s : State} {m : MethodId} {below : List Frame} {meth : Method} {c : Code} {b L : Nat} {xs : Nat → Int32} {D : va_G} {cyI cyZ cyJ : ClassId} {qa qb : Nat → Nat} {o i ci si : Nat} {Z : State → Prop} (K : LK p s m c b L xs l D cyI cyZ cyJ i ci si) {S : ZS} {M : ZM} {fJ : Nat → Int64} {H : Heap} {locs : List Loc} {ls : Array Slot} (hr : REL S M) (hP : va_P D vwCl (LA qa cyI cyZ S ++ ([LO o cyJ fJ] ++ LB qb cyI cyZ M)) H) (hD : va_D (fun q : Nat => s.heap.size ≤ q) (LA qa cyI cyZ S ++ ([LO o cyJ fJ] ++ LB qb cyI cyZ M))) (hS : va_S (fun q : Nat => s.heap.size ≤ q) s.heap H locs) (hl : lv_has ls 7 [(0, .ref b), (1, .ref (qa 0)), (2, .ref (qb 0)), (3, .ref o), (4, .int (nI (4 * i)))]) (nx : LN p l e s m below meth c b D cyI cyZ cyJ qa qb o i ci si Z) : W p l e room_1 s m #[.ref b] below meth c H locs ci si Z (F0 m 874 ls []) := by
  obtain ⟨hx, hb, hml, hown, hts, hX, hbl, hK, hY, hst, hi4, hL, hci, hsi⟩ := K
  have hK2 : va_K D vwCl (kT cyI cyZ) s := hK.sub [0, 1] rfl
  have hA : ∀ q : Nat, s.heap.size ≤ q → (fun q : Nat => s.heap.size ≤ q) q := fun _ h => h
  have hbA : ¬ (fun q : Nat => s.heap.size ≤ q) b := Nat.not_le.mpr hbl
  have hl : lv_has ls 7 [(0, .ref b), (1, .ref (qa 0)), (2, .ref (qb 0)), (3, .ref o), (4, .int (nI (4 * i)))] := hl
  have hin1 : vp_in (nI (4 * i) + 1) L := by rw [nI_1]; exact vp_in_nI (by omega) (by omega)
  obtain ⟨S1, M1, fJ1, k, v, hM1, hM2, hth, hv, hr1⟩ := st_stepCount l hst D cyI cyZ cyJ qa qb o fJ hr (xs (nI (4 * i) + 1).toNatClampNeg)
  refine lv_aload_n hx hb dL_law_874 rfl (lv_at hl 1 rfl) ?_
  refine lv_aload_n hx hb dL_law_875 rfl (lv_at hl 0 rfl) ?_
  refine lv_iload hx hb dL_law_876 (lv_at hl 4 rfl) ?_
  refine lv_iconst (v := 1) hx hb dL_law_878 (by decide) ?_
  refine lv_iadd hx hb dL_law_879 ?_
  refine va_sld hx hb hX hbl hbA hS hin1 dL_law_880 ?_
  refine lv_aload_n hx hb dL_law_881 rfl (lv_at hl 3 rfl) ?_
  have hP : va_P D vwCl ([] ++ ((LA qa cyI cyZ S ++ [LO o cyJ fJ]) ++ LB qb cyI cyZ M)) H := by rw [le1]; exact hP
  have hD : va_D (fun q : Nat => s.heap.size ≤ q) ([] ++ ((LA qa cyI cyZ S ++ [LO o cyJ fJ]) ++ LB qb cyI cyZ M)) := by rw [le1]; exact hD
  refine kwm_S (n1 := 0) (n2 := 34) (n3 := 13) (wl := []) (wc := LA qa cyI cyZ S ++ [LO o cyJ fJ]) (w1 := LA qa cyI cyZ S1 ++ [LO o cyJ fJ1]) (wr := LB qb cyI cyZ M) (As := [.ref (qa 0), .int (xs (nI (4 * i) + 1).toNatClampNeg), .ref o]) (rest := []) rfl LA_34 LA_34 LB_l (by decide +kernel) hM1 ⟨hx, hb, hml, hown, hts⟩ (vx_cwSW 3 hts gL_law_L_stepCount rfl rfl rfl (by decide +kernel) ⟨Nat.le_of_ble_eq_true rfl, Nat.le_of_ble_eq_true rfl⟩) hK hY hP hD hS hA rfl hl.1 rfl (Nat.le_of_ble_eq_true rfl) dL_law_882 ⟨by omega, by omega⟩ (fun H locs hP hD hS => ?_)
  rw [le1] at hP hD
  refine lv_istore (lv' := [(5, .int k), (0, .ref b), (1, .ref (qa 0)), (2, .ref (qb 0)), (3, .ref o), (4, .int (nI (4 * i)))]) hx hb dL_law_885 hl (by decide) rfl (fun ls hl => ?_)
  refine lv_aload_n hx hb dL_law_887 rfl (lv_at hl 3 rfl) ?_
  refine lv_aload_n hx hb dL_law_888 rfl (lv_at hl 1 rfl) ?_
  refine lv_iload hx hb dL_law_889 (lv_at hl 5 rfl) ?_
  refine lv_iconst (v := 1) hx hb dL_law_891 (by decide) ?_
  refine lv_iadd hx hb dL_law_892 ?_
  refine va_sld hx hb hX hbl hbA hS hin1 dL_law_893 ?_
  have hP : va_P D vwCl ((LA qa cyI cyZ S1 ++ [LO o cyJ fJ1]) ++ (LB qb cyI cyZ M ++ [])) H := by rw [le2]; exact hP
  have hD : va_D (fun q : Nat => s.heap.size ≤ q) ((LA qa cyI cyZ S1 ++ [LO o cyJ fJ1]) ++ (LB qb cyI cyZ M ++ [])) := by rw [le2]; exact hD
  refine kcm_Vi (n1 := 34) (n2 := 13) (n3 := 0) (wl := LA qa cyI cyZ S1 ++ [LO o cyJ fJ1]) (wc := LB qb cyI cyZ M) (w1 := LB qb cyI cyZ M1) (wr := []) (As := [.int (xs (nI (4 * i) + 1).toNatClampNeg)]) (rest := []) LA_34 LB_l LB_l rfl (by decide +kernel) hM2 ⟨hx, hb, hml, hown, hts⟩ (cwV 1 hts gL_law_X5_stepCount rfl rfl rfl (by decide +kernel) ⟨Nat.le_of_ble_eq_true rfl, Nat.le_of_ble_eq_true rfl⟩) hK2 hP hD hS hA LB_0 rfl rfl rfl hl.1 rfl (Nat.le_of_ble_eq_true rfl) dL_law_894 ⟨by omega, by omega⟩ (fun H locs hP hD hS => ?_)
  rw [le2] at hP hD
  refine lv_istore (lv' := [(6, .int v), (5, .int k), (0, .ref b), (1, .ref (qa 0)), (2, .ref (qb 0)), (3, .ref o), (4, .int (nI (4 * i)))]) hx hb dL_law_897 hl (by decide) rfl (fun ls hl => ?_)
  refine lv_aload_n hx hb dL_law_899 rfl (lv_at hl 4 rfl) ?_
  have hP : va_P D vwCl ((LA qa cyI cyZ S1 ++ [LO o cyJ fJ1]) ++ (LB qb cyI cyZ M1 ++ [])) H := by rw [le2]; exact hP
  have hD : va_D (fun q : Nat => s.heap.size ≤ q) ((LA qa cyI cyZ S1 ++ [LO o cyJ fJ1]) ++ (LB qb cyI cyZ M1 ++ [])) := by rw [le2]; exact hD
  refine kcm_Vi (n1 := 34) (n2 := 13) (n3 := 0) (wl := LA qa cyI cyZ S1 ++ [LO o cyJ fJ1]) (wc := LB qb cyI cyZ M1) (w1 := LB qb cyI cyZ M1) (wr := []) (As := []) (rest := []) LA_34 LB_l LB_l rfl (by decide +kernel) (m5_thrown l D cyI cyZ qb M1 M1.th rfl) ⟨hx, hb, hml, hown, hts⟩ (cwV 0 hts gL_law_X5_thrown rfl rfl rfl (by decide +kernel) ⟨Nat.le_of_ble_eq_true rfl, Nat.le_of_ble_eq_true rfl⟩) hK2 hP hD hS hA LB_0 rfl rfl rfl hl.1 rfl (Nat.le_of_ble_eq_true rfl) dL_law_900 ⟨by omega, by omega⟩ (fun H locs hP hD hS => ?_)
  rw [le2] at hP hD
  refine lv_iload hx hb dL_law_903 (lv_at hl 1 rfl) ?_
  refine lv_icmp_eq (tgt := 910) hx hb dL_law_905 (by decide) (fun cE => ?_) (fun cE => ?_)
  · refine lv_iload hx hb dL_law_910 (lv_at hl 1 rfl) ?_
    refine lv_if_ne (tgt := 927) hx hb dL_law_912 (by decide) (fun c0 => ?_) (fun c0 => ?_)
    · refine lv_goto (tgt := 1213) hx hb dL_law_927 (by decide) ?_
      refine W.widen (k := ci + 3) (n := si + 74) (by omega) (by omega) ?_
      exact nx _ _ _ _ _ _ hr1 hP hD hS (lv_sub hl [2, 3, 4, 5, 6] rfl)
    · refine lv_aload_n hx hb dL_law_915 rfl (lv_at hl 5 rfl) ?_
      refine lv_iconst (v := 0) hx hb dL_law_916 (by decide) ?_
      refine va_lald (f := fJ1) hx hb hK hP 33 2 (loAt LA_l) rfl vin01 dL_law_917 ?_
      rw [c00, hv c0]
      refine lv_iload hx hb dL_law_918 (lv_at hl 0 rfl) ?_
      refine lv_i2l hx hb dL_law_920 rfl ?_
      refine kl_cmp hx hb dL_law_921 ?_
      refine lv_if_eq (tgt := 927) hx hb dL_law_922 (by decide) (fun cE => ?_) (fun cE => ?_)
      · refine lv_goto (tgt := 1213) hx hb dL_law_927 (by decide) ?_
        refine W.widen (k := ci + 3) (n := si + 74) (by omega) (by omega) ?_
        exact nx _ _ _ _ _ _ hr1 hP hD hS (lv_sub hl [2, 3, 4, 5, 6] rfl)
      · exact absurd rfl cE
  · exact absurd hth cE
set_option maxHeartbeats 4000000 in
set_option maxRecDepth 100000 in
theorem case_15 {p : Program} {l : Launch} {e : Env} {s : State} {m : MethodId} {below : List Frame} {meth : Method} {c : Code} {b L : Nat} {xs : Nat → Int32} {D : va_G} {cyI cyZ cyJ : ClassId} {qa qb : Nat → Nat} {o i ci si : Nat} {Z : State → Prop} (K : LK p s m c b L xs l D cyI cyZ cyJ i ci si) {S : ZS} {M : ZM} {fJ : Nat → Int64} {H : Heap} {locs : List Loc} {ls : Array Slot} (hr : REL S M) (hP : va_P D vwCl (LA qa cyI cyZ S ++ ([LO o cyJ fJ] ++ LB qb cyI cyZ M)) H) (hD : va_D (fun q : Nat => s.heap.size ≤ q) (LA qa cyI cyZ S ++ ([LO o cyJ fJ] ++ LB qb cyI cyZ M))) (hS : va_S (fun q : Nat => s.heap.size ≤ q) s.heap H locs) (hl : lv_has ls 7 [(0, .ref b), (1, .ref (qa 0)), (2, .ref (qb 0)), (3, .ref o), (4, .int (nI (4 * i)))]) (nx : LN p l e s m below meth c b D cyI cyZ cyJ qa qb o i ci si Z) : W p l e room_1 s m #[.ref b] below meth c H locs ci si Z (F0 m 930 ls []) := by
  obtain ⟨hx, hb, hml, hown, hts, hX, hbl, hK, hY, hst, hi4, hL, hci, hsi⟩ := K
  have hK2 : va_K D vwCl (kT cyI cyZ) s := hK.sub [0, 1] rfl
  have hA : ∀ q : Nat, s.heap.size ≤ q → (fun q : Nat => s.heap.size ≤ q) q := fun _ h => h
  have hbA : ¬ (fun q : Nat => s.heap.size ≤ q) b := Nat.not_le.mpr hbl
  have hl : lv_has ls 7 [(0, .ref b), (1, .ref (qa 0)), (2, .ref (qb 0)), (3, .ref o), (4, .int (nI (4 * i)))] := hl
  obtain ⟨S1, M1, fJ1, k, v, hM1, hM2, hth, hv, hr1⟩ := st_slots l hst D cyI cyZ cyJ qa qb o fJ hr
  refine lv_aload_n hx hb dL_law_930 rfl (lv_at hl 1 rfl) ?_
  refine lv_aload_n hx hb dL_law_931 rfl (lv_at hl 3 rfl) ?_
  have hP : va_P D vwCl ([] ++ ((LA qa cyI cyZ S ++ [LO o cyJ fJ]) ++ LB qb cyI cyZ M)) H := by rw [le1]; exact hP
  have hD : va_D (fun q : Nat => s.heap.size ≤ q) ([] ++ ((LA qa cyI cyZ S ++ [LO o cyJ fJ]) ++ LB qb cyI cyZ M)) := by rw [le1]; exact hD
  refine kwm_S (n1 := 0) (n2 := 34) (n3 := 13) (wl := []) (wc := LA qa cyI cyZ S ++ [LO o cyJ fJ]) (w1 := LA qa cyI cyZ S1 ++ [LO o cyJ fJ1]) (wr := LB qb cyI cyZ M) (As := [.ref (qa 0), .ref o]) (rest := []) rfl LA_34 LA_34 LB_l (by decide +kernel) hM1 ⟨hx, hb, hml, hown, hts⟩ (vx_cwSW 2 hts gL_law_L_slots rfl rfl rfl (by decide +kernel) ⟨Nat.le_of_ble_eq_true rfl, Nat.le_of_ble_eq_true rfl⟩) hK hY hP hD hS hA rfl hl.1 rfl (Nat.le_of_ble_eq_true rfl) dL_law_932 ⟨by omega, by omega⟩ (fun H locs hP hD hS => ?_)
  rw [le1] at hP hD
  refine lv_istore (lv' := [(5, .int k), (0, .ref b), (1, .ref (qa 0)), (2, .ref (qb 0)), (3, .ref o), (4, .int (nI (4 * i)))]) hx hb dL_law_935 hl (by decide) rfl (fun ls hl => ?_)
  refine lv_aload_n hx hb dL_law_937 rfl (lv_at hl 3 rfl) ?_
  have hP : va_P D vwCl ((LA qa cyI cyZ S1 ++ [LO o cyJ fJ1]) ++ (LB qb cyI cyZ M ++ [])) H := by rw [le2]; exact hP
  have hD : va_D (fun q : Nat => s.heap.size ≤ q) ((LA qa cyI cyZ S1 ++ [LO o cyJ fJ1]) ++ (LB qb cyI cyZ M ++ [])) := by rw [le2]; exact hD
  refine kcm_Vi (n1 := 34) (n2 := 13) (n3 := 0) (wl := LA qa cyI cyZ S1 ++ [LO o cyJ fJ1]) (wc := LB qb cyI cyZ M) (w1 := LB qb cyI cyZ M1) (wr := []) (As := []) (rest := []) LA_34 LB_l LB_l rfl (by decide +kernel) hM2 ⟨hx, hb, hml, hown, hts⟩ (cwV 0 hts gL_law_X5_slots rfl rfl rfl (by decide +kernel) ⟨Nat.le_of_ble_eq_true rfl, Nat.le_of_ble_eq_true rfl⟩) hK2 hP hD hS hA LB_0 rfl rfl rfl hl.1 rfl (Nat.le_of_ble_eq_true rfl) dL_law_938 ⟨by omega, by omega⟩ (fun H locs hP hD hS => ?_)
  rw [le2] at hP hD
  refine lv_istore (lv' := [(6, .int v), (5, .int k), (0, .ref b), (1, .ref (qa 0)), (2, .ref (qb 0)), (3, .ref o), (4, .int (nI (4 * i)))]) hx hb dL_law_941 hl (by decide) rfl (fun ls hl => ?_)
  refine lv_aload_n hx hb dL_law_943 rfl (lv_at hl 4 rfl) ?_
  have hP : va_P D vwCl ((LA qa cyI cyZ S1 ++ [LO o cyJ fJ1]) ++ (LB qb cyI cyZ M1 ++ [])) H := by rw [le2]; exact hP
  have hD : va_D (fun q : Nat => s.heap.size ≤ q) ((LA qa cyI cyZ S1 ++ [LO o cyJ fJ1]) ++ (LB qb cyI cyZ M1 ++ [])) := by rw [le2]; exact hD
  refine kcm_Vi (n1 := 34) (n2 := 13) (n3 := 0) (wl := LA qa cyI cyZ S1 ++ [LO o cyJ fJ1]) (wc := LB qb cyI cyZ M1) (w1 := LB qb cyI cyZ M1) (wr := []) (As := []) (rest := []) LA_34 LB_l LB_l rfl (by decide +kernel) (m5_thrown l D cyI cyZ qb M1 M1.th rfl) ⟨hx, hb, hml, hown, hts⟩ (cwV 0 hts gL_law_X5_thrown rfl rfl rfl (by decide +kernel) ⟨Nat.le_of_ble_eq_true rfl, Nat.le_of_ble_eq_true rfl⟩) hK2 hP hD hS hA LB_0 rfl rfl rfl hl.1 rfl (Nat.le_of_ble_eq_true rfl) dL_law_944 ⟨by omega, by omega⟩ (fun H locs hP hD hS => ?_)
  rw [le2] at hP hD
  refine lv_iload hx hb dL_law_947 (lv_at hl 1 rfl) ?_
  refine lv_icmp_eq (tgt := 954) hx hb dL_law_949 (by decide) (fun cE => ?_) (fun cE => ?_)
  · refine lv_iload hx hb dL_law_954 (lv_at hl 1 rfl) ?_
    refine lv_if_ne (tgt := 971) hx hb dL_law_956 (by decide) (fun c0 => ?_) (fun c0 => ?_)
    · refine lv_goto (tgt := 1213) hx hb dL_law_971 (by decide) ?_
      refine W.widen (k := ci + 3) (n := si + 74) (by omega) (by omega) ?_
      exact nx _ _ _ _ _ _ hr1 hP hD hS (lv_sub hl [2, 3, 4, 5, 6] rfl)
    · refine lv_aload_n hx hb dL_law_959 rfl (lv_at hl 5 rfl) ?_
      refine lv_iconst (v := 0) hx hb dL_law_960 (by decide) ?_
      refine va_lald (f := fJ1) hx hb hK hP 33 2 (loAt LA_l) rfl vin01 dL_law_961 ?_
      rw [c00, hv c0]
      refine lv_iload hx hb dL_law_962 (lv_at hl 0 rfl) ?_
      refine lv_i2l hx hb dL_law_964 rfl ?_
      refine kl_cmp hx hb dL_law_965 ?_
      refine lv_if_eq (tgt := 971) hx hb dL_law_966 (by decide) (fun cE => ?_) (fun cE => ?_)
      · refine lv_goto (tgt := 1213) hx hb dL_law_971 (by decide) ?_
        refine W.widen (k := ci + 3) (n := si + 74) (by omega) (by omega) ?_
        exact nx _ _ _ _ _ _ hr1 hP hD hS (lv_sub hl [2, 3, 4, 5, 6] rfl)
      · exact absurd rfl cE
  · exact absurd hth cE
set_option maxHeartbeats 4000000 in
set_option maxRecDepth 100000 in
theorem case_16 {p : Program} {l : Launch} {e : Env} {s : State} {m : MethodId} {below : List Frame} {meth : Method} {c : Code} {b L : Nat} {xs : Nat → Int32} {D : va_G} {cyI cyZ cyJ : ClassId} {qa qb : Nat → Nat} {o i ci si : Nat} {Z : State → Prop} (K : LK p s m c b L xs l D cyI cyZ cyJ i ci si) {S : ZS} {M : ZM} {fJ : Nat → Int64} {H : Heap} {locs : List Loc} {ls : Array Slot} (hr : REL S M) (hP : va_P D vwCl (LA qa cyI cyZ S ++ ([LO o cyJ fJ] ++ LB qb cyI cyZ M)) H) (hD : va_D (fun q : Nat => s.heap.size ≤ q) (LA qa cyI cyZ S ++ ([LO o cyJ fJ] ++ LB qb cyI cyZ M))) (hS : va_S (fun q : Nat => s.heap.size ≤ q) s.heap H locs) (hl : lv_has ls 7 [(0, .ref b), (1, .ref (qa 0)), (2, .ref (qb 0)), (3, .ref o), (4, .int (nI (4 * i)))]) (nx : LN p l e s m below meth c b D cyI cyZ cyJ qa qb o i ci si Z) : W p l e room_1 s m #[.ref b] below meth c H locs ci si Z (F0 m 974 ls []) := by
  obtain ⟨hx, hb, hml, hown, hts, hX, hbl, hK, hY, hst, hi4, hL, hci, hsi⟩ := K
  have hK2 : va_K D vwCl (kT cyI cyZ) s := hK.sub [0, 1] rfl
  have hA : ∀ q : Nat, s.heap.size ≤ q → (fun q : Nat => s.heap.size ≤ q) q := fun _ h => h
  have hbA : ¬ (fun q : Nat => s.heap.size ≤ q) b := Nat.not_le.mpr hbl
  have hl : lv_has ls 7 [(0, .ref b), (1, .ref (qa 0)), (2, .ref (qb 0)), (3, .ref o), (4, .int (nI (4 * i)))] := hl
  obtain ⟨S1, M1, fJ1, k, v, hM1, hM2, hth, hv, hr1⟩ := st_pieceCount l hst D cyI cyZ cyJ qa qb o fJ hr
  refine lv_aload_n hx hb dL_law_974 rfl (lv_at hl 1 rfl) ?_
  refine lv_aload_n hx hb dL_law_975 rfl (lv_at hl 3 rfl) ?_
  have hP : va_P D vwCl ([] ++ ((LA qa cyI cyZ S ++ [LO o cyJ fJ]) ++ LB qb cyI cyZ M)) H := by rw [le1]; exact hP
  have hD : va_D (fun q : Nat => s.heap.size ≤ q) ([] ++ ((LA qa cyI cyZ S ++ [LO o cyJ fJ]) ++ LB qb cyI cyZ M)) := by rw [le1]; exact hD
  refine kwm_S (n1 := 0) (n2 := 34) (n3 := 13) (wl := []) (wc := LA qa cyI cyZ S ++ [LO o cyJ fJ]) (w1 := LA qa cyI cyZ S1 ++ [LO o cyJ fJ1]) (wr := LB qb cyI cyZ M) (As := [.ref (qa 0), .ref o]) (rest := []) rfl LA_34 LA_34 LB_l (by decide +kernel) hM1 ⟨hx, hb, hml, hown, hts⟩ (vx_cwSW 2 hts gL_law_L_pieceCount rfl rfl rfl (by decide +kernel) ⟨Nat.le_of_ble_eq_true rfl, Nat.le_of_ble_eq_true rfl⟩) hK hY hP hD hS hA rfl hl.1 rfl (Nat.le_of_ble_eq_true rfl) dL_law_976 ⟨by omega, by omega⟩ (fun H locs hP hD hS => ?_)
  rw [le1] at hP hD
  refine lv_istore (lv' := [(5, .int k), (0, .ref b), (1, .ref (qa 0)), (2, .ref (qb 0)), (3, .ref o), (4, .int (nI (4 * i)))]) hx hb dL_law_979 hl (by decide) rfl (fun ls hl => ?_)
  refine lv_aload_n hx hb dL_law_981 rfl (lv_at hl 3 rfl) ?_
  have hP : va_P D vwCl ((LA qa cyI cyZ S1 ++ [LO o cyJ fJ1]) ++ (LB qb cyI cyZ M ++ [])) H := by rw [le2]; exact hP
  have hD : va_D (fun q : Nat => s.heap.size ≤ q) ((LA qa cyI cyZ S1 ++ [LO o cyJ fJ1]) ++ (LB qb cyI cyZ M ++ [])) := by rw [le2]; exact hD
  refine kcm_Vi (n1 := 34) (n2 := 13) (n3 := 0) (wl := LA qa cyI cyZ S1 ++ [LO o cyJ fJ1]) (wc := LB qb cyI cyZ M) (w1 := LB qb cyI cyZ M1) (wr := []) (As := []) (rest := []) LA_34 LB_l LB_l rfl (by decide +kernel) hM2 ⟨hx, hb, hml, hown, hts⟩ (cwV 0 hts gL_law_X5_pieceCount rfl rfl rfl (by decide +kernel) ⟨Nat.le_of_ble_eq_true rfl, Nat.le_of_ble_eq_true rfl⟩) hK2 hP hD hS hA LB_0 rfl rfl rfl hl.1 rfl (Nat.le_of_ble_eq_true rfl) dL_law_982 ⟨by omega, by omega⟩ (fun H locs hP hD hS => ?_)
  rw [le2] at hP hD
  refine lv_istore (lv' := [(6, .int v), (5, .int k), (0, .ref b), (1, .ref (qa 0)), (2, .ref (qb 0)), (3, .ref o), (4, .int (nI (4 * i)))]) hx hb dL_law_985 hl (by decide) rfl (fun ls hl => ?_)
  refine lv_aload_n hx hb dL_law_987 rfl (lv_at hl 4 rfl) ?_
  have hP : va_P D vwCl ((LA qa cyI cyZ S1 ++ [LO o cyJ fJ1]) ++ (LB qb cyI cyZ M1 ++ [])) H := by rw [le2]; exact hP
  have hD : va_D (fun q : Nat => s.heap.size ≤ q) ((LA qa cyI cyZ S1 ++ [LO o cyJ fJ1]) ++ (LB qb cyI cyZ M1 ++ [])) := by rw [le2]; exact hD
  refine kcm_Vi (n1 := 34) (n2 := 13) (n3 := 0) (wl := LA qa cyI cyZ S1 ++ [LO o cyJ fJ1]) (wc := LB qb cyI cyZ M1) (w1 := LB qb cyI cyZ M1) (wr := []) (As := []) (rest := []) LA_34 LB_l LB_l rfl (by decide +kernel) (m5_thrown l D cyI cyZ qb M1 M1.th rfl) ⟨hx, hb, hml, hown, hts⟩ (cwV 0 hts gL_law_X5_thrown rfl rfl rfl (by decide +kernel) ⟨Nat.le_of_ble_eq_true rfl, Nat.le_of_ble_eq_true rfl⟩) hK2 hP hD hS hA LB_0 rfl rfl rfl hl.1 rfl (Nat.le_of_ble_eq_true rfl) dL_law_988 ⟨by omega, by omega⟩ (fun H locs hP hD hS => ?_)
  rw [le2] at hP hD
  refine lv_iload hx hb dL_law_991 (lv_at hl 1 rfl) ?_
  refine lv_icmp_eq (tgt := 998) hx hb dL_law_993 (by decide) (fun cE => ?_) (fun cE => ?_)
  · refine lv_iload hx hb dL_law_998 (lv_at hl 1 rfl) ?_
    refine lv_if_ne (tgt := 1015) hx hb dL_law_1000 (by decide) (fun c0 => ?_) (fun c0 => ?_)
    · refine lv_goto (tgt := 1213) hx hb dL_law_1015 (by decide) ?_
      refine W.widen (k := ci + 3) (n := si + 74) (by omega) (by omega) ?_
      exact nx _ _ _ _ _ _ hr1 hP hD hS (lv_sub hl [2, 3, 4, 5, 6] rfl)
    · refine lv_aload_n hx hb dL_law_1003 rfl (lv_at hl 5 rfl) ?_
      refine lv_iconst (v := 0) hx hb dL_law_1004 (by decide) ?_
      refine va_lald (f := fJ1) hx hb hK hP 33 2 (loAt LA_l) rfl vin01 dL_law_1005 ?_
      rw [c00, hv c0]
      refine lv_iload hx hb dL_law_1006 (lv_at hl 0 rfl) ?_
      refine lv_i2l hx hb dL_law_1008 rfl ?_
      refine kl_cmp hx hb dL_law_1009 ?_
      refine lv_if_eq (tgt := 1015) hx hb dL_law_1010 (by decide) (fun cE => ?_) (fun cE => ?_)
      · refine lv_goto (tgt := 1213) hx hb dL_law_1015 (by decide) ?_
        refine W.widen (k := ci + 3) (n := si + 74) (by omega) (by omega) ?_
        exact nx _ _ _ _ _ _ hr1 hP hD hS (lv_sub hl [2, 3, 4, 5, 6] rfl)
      · exact absurd rfl cE
  · exact absurd hth cE
set_option maxHeartbeats 4000000 in
set_option maxRecDepth 100000 in
theorem case_17 {p : Program} {l : Launch} {e : Env} {s : State} {m : MethodId} {below : List Frame} {meth : Method} {c : Code} {b L : Nat} {xs : Nat → Int32} {D : va_G} {cyI cyZ cyJ : ClassId} {qa qb : Nat → Nat} {o i ci si : Nat} {Z : State → Prop} (K : LK p s m c b L xs l D cyI cyZ cyJ i ci si) {S : ZS} {M : ZM} {fJ : Nat → Int64} {H : Heap} {locs : List Loc} {ls : Array Slot} (hr : REL S M) (hP : va_P D vwCl (LA qa cyI cyZ S ++ ([LO o cyJ fJ] ++ LB qb cyI cyZ M)) H) (hD : va_D (fun q : Nat => s.heap.size ≤ q) (LA qa cyI cyZ S ++ ([LO o cyJ fJ] ++ LB qb cyI cyZ M))) (hS : va_S (fun q : Nat => s.heap.size ≤ q) s.heap H locs) (hl : lv_has ls 7 [(0, .ref b), (1, .ref (qa 0)), (2, .ref (qb 0)), (3, .ref o), (4, .int (nI (4 * i)))]) (nx : LN p l e s m below meth c b D cyI cyZ cyJ qa qb o i ci si Z) : W p l e room_1 s m #[.ref b] below meth c H locs ci si Z (F0 m 1018 ls []) := by
  obtain ⟨hx, hb, hml, hown, hts, hX, hbl, hK, hY, hst, hi4, hL, hci, hsi⟩ := K
  have hK2 : va_K D vwCl (kT cyI cyZ) s := hK.sub [0, 1] rfl
  have hA : ∀ q : Nat, s.heap.size ≤ q → (fun q : Nat => s.heap.size ≤ q) q := fun _ h => h
  have hbA : ¬ (fun q : Nat => s.heap.size ≤ q) b := Nat.not_le.mpr hbl
  have hl : lv_has ls 7 [(0, .ref b), (1, .ref (qa 0)), (2, .ref (qb 0)), (3, .ref o), (4, .int (nI (4 * i)))] := hl
  have hin1 : vp_in (nI (4 * i) + 1) L := by rw [nI_1]; exact vp_in_nI (by omega) (by omega)
  have hin2 : vp_in (nI (4 * i) + 2) L := by rw [add2]; exact vp_in_nI (by omega) (by omega)
  obtain ⟨S1, M1, fJ1, k, v, hM1, hM2, hth, hv, hr1⟩ := st_piece l hst D cyI cyZ cyJ qa qb o fJ hr (xs (nI (4 * i) + 1).toNatClampNeg) (xs (nI (4 * i) + 2).toNatClampNeg)
  refine lv_aload_n hx hb dL_law_1018 rfl (lv_at hl 1 rfl) ?_
  refine lv_aload_n hx hb dL_law_1019 rfl (lv_at hl 0 rfl) ?_
  refine lv_iload hx hb dL_law_1020 (lv_at hl 4 rfl) ?_
  refine lv_iconst (v := 1) hx hb dL_law_1022 (by decide) ?_
  refine lv_iadd hx hb dL_law_1023 ?_
  refine va_sld hx hb hX hbl hbA hS hin1 dL_law_1024 ?_
  refine lv_aload_n hx hb dL_law_1025 rfl (lv_at hl 0 rfl) ?_
  refine lv_iload hx hb dL_law_1026 (lv_at hl 4 rfl) ?_
  refine lv_iconst (v := 2) hx hb dL_law_1028 (by decide) ?_
  refine lv_iadd hx hb dL_law_1029 ?_
  refine va_sld hx hb hX hbl hbA hS hin2 dL_law_1030 ?_
  refine lv_aload_n hx hb dL_law_1031 rfl (lv_at hl 3 rfl) ?_
  have hP : va_P D vwCl ([] ++ ((LA qa cyI cyZ S ++ [LO o cyJ fJ]) ++ LB qb cyI cyZ M)) H := by rw [le1]; exact hP
  have hD : va_D (fun q : Nat => s.heap.size ≤ q) ([] ++ ((LA qa cyI cyZ S ++ [LO o cyJ fJ]) ++ LB qb cyI cyZ M)) := by rw [le1]; exact hD
  refine kwm_S (n1 := 0) (n2 := 34) (n3 := 13) (wl := []) (wc := LA qa cyI cyZ S ++ [LO o cyJ fJ]) (w1 := LA qa cyI cyZ S1 ++ [LO o cyJ fJ1]) (wr := LB qb cyI cyZ M) (As := [.ref (qa 0), .int (xs (nI (4 * i) + 1).toNatClampNeg), .int (xs (nI (4 * i) + 2).toNatClampNeg), .ref o]) (rest := []) rfl LA_34 LA_34 LB_l (by decide +kernel) hM1 ⟨hx, hb, hml, hown, hts⟩ (vx_cwSW 4 hts gL_law_L_piece rfl rfl rfl (by decide +kernel) ⟨Nat.le_of_ble_eq_true rfl, Nat.le_of_ble_eq_true rfl⟩) hK hY hP hD hS hA rfl hl.1 rfl (Nat.le_of_ble_eq_true rfl) dL_law_1032 ⟨by omega, by omega⟩ (fun H locs hP hD hS => ?_)
  rw [le1] at hP hD
  refine lv_istore (lv' := [(5, .int k), (0, .ref b), (1, .ref (qa 0)), (2, .ref (qb 0)), (3, .ref o), (4, .int (nI (4 * i)))]) hx hb dL_law_1035 hl (by decide) rfl (fun ls hl => ?_)
  refine lv_aload_n hx hb dL_law_1037 rfl (lv_at hl 3 rfl) ?_
  refine lv_aload_n hx hb dL_law_1038 rfl (lv_at hl 1 rfl) ?_
  refine lv_iload hx hb dL_law_1039 (lv_at hl 5 rfl) ?_
  refine lv_iconst (v := 1) hx hb dL_law_1041 (by decide) ?_
  refine lv_iadd hx hb dL_law_1042 ?_
  refine va_sld hx hb hX hbl hbA hS hin1 dL_law_1043 ?_
  refine lv_aload_n hx hb dL_law_1044 rfl (lv_at hl 1 rfl) ?_
  refine lv_iload hx hb dL_law_1045 (lv_at hl 5 rfl) ?_
  refine lv_iconst (v := 2) hx hb dL_law_1047 (by decide) ?_
  refine lv_iadd hx hb dL_law_1048 ?_
  refine va_sld hx hb hX hbl hbA hS hin2 dL_law_1049 ?_
  have hP : va_P D vwCl ((LA qa cyI cyZ S1 ++ [LO o cyJ fJ1]) ++ (LB qb cyI cyZ M ++ [])) H := by rw [le2]; exact hP
  have hD : va_D (fun q : Nat => s.heap.size ≤ q) ((LA qa cyI cyZ S1 ++ [LO o cyJ fJ1]) ++ (LB qb cyI cyZ M ++ [])) := by rw [le2]; exact hD
  refine kcm_Vi (n1 := 34) (n2 := 13) (n3 := 0) (wl := LA qa cyI cyZ S1 ++ [LO o cyJ fJ1]) (wc := LB qb cyI cyZ M) (w1 := LB qb cyI cyZ M1) (wr := []) (As := [.int (xs (nI (4 * i) + 1).toNatClampNeg), .int (xs (nI (4 * i) + 2).toNatClampNeg)]) (rest := []) LA_34 LB_l LB_l rfl (by decide +kernel) hM2 ⟨hx, hb, hml, hown, hts⟩ (cwV 2 hts gL_law_X5_piece rfl rfl rfl (by decide +kernel) ⟨Nat.le_of_ble_eq_true rfl, Nat.le_of_ble_eq_true rfl⟩) hK2 hP hD hS hA LB_0 rfl rfl rfl hl.1 rfl (Nat.le_of_ble_eq_true rfl) dL_law_1050 ⟨by omega, by omega⟩ (fun H locs hP hD hS => ?_)
  rw [le2] at hP hD
  refine lv_istore (lv' := [(6, .int v), (5, .int k), (0, .ref b), (1, .ref (qa 0)), (2, .ref (qb 0)), (3, .ref o), (4, .int (nI (4 * i)))]) hx hb dL_law_1053 hl (by decide) rfl (fun ls hl => ?_)
  refine lv_aload_n hx hb dL_law_1055 rfl (lv_at hl 4 rfl) ?_
  have hP : va_P D vwCl ((LA qa cyI cyZ S1 ++ [LO o cyJ fJ1]) ++ (LB qb cyI cyZ M1 ++ [])) H := by rw [le2]; exact hP
  have hD : va_D (fun q : Nat => s.heap.size ≤ q) ((LA qa cyI cyZ S1 ++ [LO o cyJ fJ1]) ++ (LB qb cyI cyZ M1 ++ [])) := by rw [le2]; exact hD
  refine kcm_Vi (n1 := 34) (n2 := 13) (n3 := 0) (wl := LA qa cyI cyZ S1 ++ [LO o cyJ fJ1]) (wc := LB qb cyI cyZ M1) (w1 := LB qb cyI cyZ M1) (wr := []) (As := []) (rest := []) LA_34 LB_l LB_l rfl (by decide +kernel) (m5_thrown l D cyI cyZ qb M1 M1.th rfl) ⟨hx, hb, hml, hown, hts⟩ (cwV 0 hts gL_law_X5_thrown rfl rfl rfl (by decide +kernel) ⟨Nat.le_of_ble_eq_true rfl, Nat.le_of_ble_eq_true rfl⟩) hK2 hP hD hS hA LB_0 rfl rfl rfl hl.1 rfl (Nat.le_of_ble_eq_true rfl) dL_law_1056 ⟨by omega, by omega⟩ (fun H locs hP hD hS => ?_)
  rw [le2] at hP hD
  refine lv_iload hx hb dL_law_1059 (lv_at hl 1 rfl) ?_
  refine lv_icmp_eq (tgt := 1066) hx hb dL_law_1061 (by decide) (fun cE => ?_) (fun cE => ?_)
  · refine lv_iload hx hb dL_law_1066 (lv_at hl 1 rfl) ?_
    refine lv_if_ne (tgt := 1083) hx hb dL_law_1068 (by decide) (fun c0 => ?_) (fun c0 => ?_)
    · refine lv_goto (tgt := 1213) hx hb dL_law_1083 (by decide) ?_
      refine W.widen (k := ci + 3) (n := si + 74) (by omega) (by omega) ?_
      exact nx _ _ _ _ _ _ hr1 hP hD hS (lv_sub hl [2, 3, 4, 5, 6] rfl)
    · refine lv_aload_n hx hb dL_law_1071 rfl (lv_at hl 5 rfl) ?_
      refine lv_iconst (v := 0) hx hb dL_law_1072 (by decide) ?_
      refine va_lald (f := fJ1) hx hb hK hP 33 2 (loAt LA_l) rfl vin01 dL_law_1073 ?_
      rw [c00, hv c0]
      refine lv_iload hx hb dL_law_1074 (lv_at hl 0 rfl) ?_
      refine lv_i2l hx hb dL_law_1076 rfl ?_
      refine kl_cmp hx hb dL_law_1077 ?_
      refine lv_if_eq (tgt := 1083) hx hb dL_law_1078 (by decide) (fun cE => ?_) (fun cE => ?_)
      · refine lv_goto (tgt := 1213) hx hb dL_law_1083 (by decide) ?_
        refine W.widen (k := ci + 3) (n := si + 74) (by omega) (by omega) ?_
        exact nx _ _ _ _ _ _ hr1 hP hD hS (lv_sub hl [2, 3, 4, 5, 6] rfl)
      · exact absurd rfl cE
  · exact absurd hth cE
set_option maxHeartbeats 4000000 in
set_option maxRecDepth 100000 in
theorem case_18 {p : Program} {l : Launch} {e : Env} {s : State} {m : MethodId} {below : List Frame} {meth : Method} {c : Code} {b L : Nat} {xs : Nat → Int32} {D : va_G} {cyI cyZ cyJ : ClassId} {qa qb : Nat → Nat} {o i ci si : Nat} {Z : State → Prop} (K : LK p s m c b L xs l D cyI cyZ cyJ i ci si) {S : ZS} {M : ZM} {fJ : Nat → Int64} {H : Heap} {locs : List Loc} {ls : Array Slot} (hr : REL S M) (hP : va_P D vwCl (LA qa cyI cyZ S ++ ([LO o cyJ fJ] ++ LB qb cyI cyZ M)) H) (hD : va_D (fun q : Nat => s.heap.size ≤ q) (LA qa cyI cyZ S ++ ([LO o cyJ fJ] ++ LB qb cyI cyZ M))) (hS : va_S (fun q : Nat => s.heap.size ≤ q) s.heap H locs) (hl : lv_has ls 7 [(0, .ref b), (1, .ref (qa 0)), (2, .ref (qb 0)), (3, .ref o), (4, .int (nI (4 * i)))]) (nx : LN p l e s m below meth c b D cyI cyZ cyJ qa qb o i ci si Z) : W p l e room_1 s m #[.ref b] below meth c H locs ci si Z (F0 m 1086 ls []) := by
  obtain ⟨hx, hb, hml, hown, hts, hX, hbl, hK, hY, hst, hi4, hL, hci, hsi⟩ := K
  have hK2 : va_K D vwCl (kT cyI cyZ) s := hK.sub [0, 1] rfl
  have hA : ∀ q : Nat, s.heap.size ≤ q → (fun q : Nat => s.heap.size ≤ q) q := fun _ h => h
  have hbA : ¬ (fun q : Nat => s.heap.size ≤ q) b := Nat.not_le.mpr hbl
  have hl : lv_has ls 7 [(0, .ref b), (1, .ref (qa 0)), (2, .ref (qb 0)), (3, .ref o), (4, .int (nI (4 * i)))] := hl
  obtain ⟨S1, M1, r, hM1, hM2, hr1⟩ := op_comfortable l D cyI cyZ qa qb hr
  refine lv_aload_n hx hb dL_law_1086 rfl (lv_at hl 1 rfl) ?_
  have hP : va_P D vwCl ([] ++ (LA qa cyI cyZ S ++ ([LO o cyJ fJ] ++ LB qb cyI cyZ M))) H := by rw [le3]; exact hP
  have hD : va_D (fun q : Nat => s.heap.size ≤ q) ([] ++ (LA qa cyI cyZ S ++ ([LO o cyJ fJ] ++ LB qb cyI cyZ M))) := by rw [le3]; exact hD
  refine kcm_Vi (n1 := 0) (n2 := 33) (n3 := 14) (wl := []) (wc := LA qa cyI cyZ S) (w1 := LA qa cyI cyZ S1) (wr := [LO o cyJ fJ] ++ LB qb cyI cyZ M) (As := []) (rest := []) rfl LA_l LA_l LB_14 (by decide +kernel) hM1 ⟨hx, hb, hml, hown, hts⟩ (cwV 0 hts gL_law_X4_comfortable rfl rfl rfl (by decide +kernel) ⟨Nat.le_of_ble_eq_true rfl, Nat.le_of_ble_eq_true rfl⟩) hK2 hP hD hS hA LA_0 rfl rfl rfl hl.1 rfl (Nat.le_of_ble_eq_true rfl) dL_law_1087 ⟨by omega, by omega⟩ (fun H locs hP hD hS => ?_)
  rw [le3] at hP hD
  refine lv_aload_n hx hb dL_law_1090 rfl (lv_at hl 2 rfl) ?_
  have hP : va_P D vwCl ((LA qa cyI cyZ S1 ++ [LO o cyJ fJ]) ++ (LB qb cyI cyZ M ++ [])) H := by rw [le2]; exact hP
  have hD : va_D (fun q : Nat => s.heap.size ≤ q) ((LA qa cyI cyZ S1 ++ [LO o cyJ fJ]) ++ (LB qb cyI cyZ M ++ [])) := by rw [le2]; exact hD
  refine kcm_Vi (n1 := 34) (n2 := 13) (n3 := 0) (wl := LA qa cyI cyZ S1 ++ [LO o cyJ fJ]) (wc := LB qb cyI cyZ M) (w1 := LB qb cyI cyZ M1) (wr := []) (As := []) (rest := [.int r]) LA_34 LB_l LB_l rfl (by decide +kernel) hM2 ⟨hx, hb, hml, hown, hts⟩ (cwV 0 hts gL_law_X5_comfortable rfl rfl rfl (by decide +kernel) ⟨Nat.le_of_ble_eq_true rfl, Nat.le_of_ble_eq_true rfl⟩) hK2 hP hD hS hA LB_0 rfl rfl rfl hl.1 rfl (Nat.le_of_ble_eq_true rfl) dL_law_1091 ⟨by omega, by omega⟩ (fun H locs hP hD hS => ?_)
  rw [le2] at hP hD
  refine lv_icmp_eq (tgt := 1213) hx hb dL_law_1094 (by decide) (fun cE => ?_) (fun cE => ?_)
  · refine W.widen (k := ci + 3) (n := si + 74) (by omega) (by omega) ?_
    exact nx _ _ _ _ _ _ hr1 hP hD hS (lv_sub hl [0, 1, 2, 3, 4] rfl)
  · exact absurd rfl cE
set_option maxHeartbeats 4000000 in
set_option maxRecDepth 100000 in
theorem case_19 {p : Program} {l : Launch} {e : Env} {s : State} {m : MethodId} {below : List Frame} {meth : Method} {c : Code} {b L : Nat} {xs : Nat → Int32} {D : va_G} {cyI cyZ cyJ : ClassId} {qa qb : Nat → Nat} {o i ci si : Nat} {Z : State → Prop} (K : LK p s m c b L xs l D cyI cyZ cyJ i ci si) {S : ZS} {M : ZM} {fJ : Nat → Int64} {H : Heap} {locs : List Loc} {ls : Array Slot} (hr : REL S M) (hP : va_P D vwCl (LA qa cyI cyZ S ++ ([LO o cyJ fJ] ++ LB qb cyI cyZ M)) H) (hD : va_D (fun q : Nat => s.heap.size ≤ q) (LA qa cyI cyZ S ++ ([LO o cyJ fJ] ++ LB qb cyI cyZ M))) (hS : va_S (fun q : Nat => s.heap.size ≤ q) s.heap H locs) (hl : lv_has ls 7 [(0, .ref b), (1, .ref (qa 0)), (2, .ref (qb 0)), (3, .ref o), (4, .int (nI (4 * i)))]) (nx : LN p l e s m below meth c b D cyI cyZ cyJ qa qb o i ci si Z) : W p l e room_1 s m #[.ref b] below meth c H locs ci si Z (F0 m 1099 ls []) := by
  obtain ⟨hx, hb, hml, hown, hts, hX, hbl, hK, hY, hst, hi4, hL, hci, hsi⟩ := K
  have hK2 : va_K D vwCl (kT cyI cyZ) s := hK.sub [0, 1] rfl
  have hA : ∀ q : Nat, s.heap.size ≤ q → (fun q : Nat => s.heap.size ≤ q) q := fun _ h => h
  have hbA : ¬ (fun q : Nat => s.heap.size ≤ q) b := Nat.not_le.mpr hbl
  have hl : lv_has ls 7 [(0, .ref b), (1, .ref (qa 0)), (2, .ref (qb 0)), (3, .ref o), (4, .int (nI (4 * i)))] := hl
  obtain ⟨S1, M1, fJ1, k, v, hM1, hM2, hth, hv, hr1⟩ := st_run l hst D cyI cyZ cyJ qa qb o fJ hr
  refine lv_aload_n hx hb dL_law_1099 rfl (lv_at hl 1 rfl) ?_
  refine lv_aload_n hx hb dL_law_1100 rfl (lv_at hl 3 rfl) ?_
  have hP : va_P D vwCl ([] ++ ((LA qa cyI cyZ S ++ [LO o cyJ fJ]) ++ LB qb cyI cyZ M)) H := by rw [le1]; exact hP
  have hD : va_D (fun q : Nat => s.heap.size ≤ q) ([] ++ ((LA qa cyI cyZ S ++ [LO o cyJ fJ]) ++ LB qb cyI cyZ M)) := by rw [le1]; exact hD
  refine kwm_S (n1 := 0) (n2 := 34) (n3 := 13) (wl := []) (wc := LA qa cyI cyZ S ++ [LO o cyJ fJ]) (w1 := LA qa cyI cyZ S1 ++ [LO o cyJ fJ1]) (wr := LB qb cyI cyZ M) (As := [.ref (qa 0), .ref o]) (rest := []) rfl LA_34 LA_34 LB_l (by decide +kernel) hM1 ⟨hx, hb, hml, hown, hts⟩ (vx_cwSW 2 hts gL_law_L_run rfl rfl rfl (by decide +kernel) ⟨Nat.le_of_ble_eq_true rfl, Nat.le_of_ble_eq_true rfl⟩) hK hY hP hD hS hA rfl hl.1 rfl (Nat.le_of_ble_eq_true rfl) dL_law_1101 ⟨by omega, by omega⟩ (fun H locs hP hD hS => ?_)
  rw [le1] at hP hD
  refine lv_istore (lv' := [(5, .int k), (0, .ref b), (1, .ref (qa 0)), (2, .ref (qb 0)), (3, .ref o), (4, .int (nI (4 * i)))]) hx hb dL_law_1104 hl (by decide) rfl (fun ls hl => ?_)
  refine lv_aload_n hx hb dL_law_1106 rfl (lv_at hl 3 rfl) ?_
  have hP : va_P D vwCl ((LA qa cyI cyZ S1 ++ [LO o cyJ fJ1]) ++ (LB qb cyI cyZ M ++ [])) H := by rw [le2]; exact hP
  have hD : va_D (fun q : Nat => s.heap.size ≤ q) ((LA qa cyI cyZ S1 ++ [LO o cyJ fJ1]) ++ (LB qb cyI cyZ M ++ [])) := by rw [le2]; exact hD
  refine kcm_Vi (n1 := 34) (n2 := 13) (n3 := 0) (wl := LA qa cyI cyZ S1 ++ [LO o cyJ fJ1]) (wc := LB qb cyI cyZ M) (w1 := LB qb cyI cyZ M1) (wr := []) (As := []) (rest := []) LA_34 LB_l LB_l rfl (by decide +kernel) hM2 ⟨hx, hb, hml, hown, hts⟩ (cwV 0 hts gL_law_X5_run rfl rfl rfl (by decide +kernel) ⟨Nat.le_of_ble_eq_true rfl, Nat.le_of_ble_eq_true rfl⟩) hK2 hP hD hS hA LB_0 rfl rfl rfl hl.1 rfl (Nat.le_of_ble_eq_true rfl) dL_law_1107 ⟨by omega, by omega⟩ (fun H locs hP hD hS => ?_)
  rw [le2] at hP hD
  refine lv_istore (lv' := [(6, .int v), (5, .int k), (0, .ref b), (1, .ref (qa 0)), (2, .ref (qb 0)), (3, .ref o), (4, .int (nI (4 * i)))]) hx hb dL_law_1110 hl (by decide) rfl (fun ls hl => ?_)
  refine lv_aload_n hx hb dL_law_1112 rfl (lv_at hl 4 rfl) ?_
  have hP : va_P D vwCl ((LA qa cyI cyZ S1 ++ [LO o cyJ fJ1]) ++ (LB qb cyI cyZ M1 ++ [])) H := by rw [le2]; exact hP
  have hD : va_D (fun q : Nat => s.heap.size ≤ q) ((LA qa cyI cyZ S1 ++ [LO o cyJ fJ1]) ++ (LB qb cyI cyZ M1 ++ [])) := by rw [le2]; exact hD
  refine kcm_Vi (n1 := 34) (n2 := 13) (n3 := 0) (wl := LA qa cyI cyZ S1 ++ [LO o cyJ fJ1]) (wc := LB qb cyI cyZ M1) (w1 := LB qb cyI cyZ M1) (wr := []) (As := []) (rest := []) LA_34 LB_l LB_l rfl (by decide +kernel) (m5_thrown l D cyI cyZ qb M1 M1.th rfl) ⟨hx, hb, hml, hown, hts⟩ (cwV 0 hts gL_law_X5_thrown rfl rfl rfl (by decide +kernel) ⟨Nat.le_of_ble_eq_true rfl, Nat.le_of_ble_eq_true rfl⟩) hK2 hP hD hS hA LB_0 rfl rfl rfl hl.1 rfl (Nat.le_of_ble_eq_true rfl) dL_law_1113 ⟨by omega, by omega⟩ (fun H locs hP hD hS => ?_)
  rw [le2] at hP hD
  refine lv_iload hx hb dL_law_1116 (lv_at hl 1 rfl) ?_
  refine lv_icmp_eq (tgt := 1123) hx hb dL_law_1118 (by decide) (fun cE => ?_) (fun cE => ?_)
  · refine lv_iload hx hb dL_law_1123 (lv_at hl 1 rfl) ?_
    refine lv_if_ne (tgt := 1140) hx hb dL_law_1125 (by decide) (fun c0 => ?_) (fun c0 => ?_)
    · refine lv_goto (tgt := 1213) hx hb dL_law_1140 (by decide) ?_
      refine W.widen (k := ci + 3) (n := si + 74) (by omega) (by omega) ?_
      exact nx _ _ _ _ _ _ hr1 hP hD hS (lv_sub hl [2, 3, 4, 5, 6] rfl)
    · refine lv_aload_n hx hb dL_law_1128 rfl (lv_at hl 5 rfl) ?_
      refine lv_iconst (v := 0) hx hb dL_law_1129 (by decide) ?_
      refine va_lald (f := fJ1) hx hb hK hP 33 2 (loAt LA_l) rfl vin01 dL_law_1130 ?_
      rw [c00, hv c0]
      refine lv_iload hx hb dL_law_1131 (lv_at hl 0 rfl) ?_
      refine lv_i2l hx hb dL_law_1133 rfl ?_
      refine kl_cmp hx hb dL_law_1134 ?_
      refine lv_if_eq (tgt := 1140) hx hb dL_law_1135 (by decide) (fun cE => ?_) (fun cE => ?_)
      · refine lv_goto (tgt := 1213) hx hb dL_law_1140 (by decide) ?_
        refine W.widen (k := ci + 3) (n := si + 74) (by omega) (by omega) ?_
        exact nx _ _ _ _ _ _ hr1 hP hD hS (lv_sub hl [2, 3, 4, 5, 6] rfl)
      · exact absurd rfl cE
  · exact absurd hth cE
set_option maxHeartbeats 4000000 in
set_option maxRecDepth 100000 in
theorem case_20 {p : Program} {l : Launch} {e : Env} {s : State} {m : MethodId} {below : List Frame} {meth : Method} {c : Code} {b L : Nat} {xs : Nat → Int32} {D : va_G} {cyI cyZ cyJ : ClassId} {qa qb : Nat → Nat} {o i ci si : Nat} {Z : State → Prop} (K : LK p s m c b L xs l D cyI cyZ cyJ i ci si) {S : ZS} {M : ZM} {fJ : Nat → Int64} {H : Heap} {locs : List Loc} {ls : Array Slot} (hr : REL S M) (hP : va_P D vwCl (LA qa cyI cyZ S ++ ([LO o cyJ fJ] ++ LB qb cyI cyZ M)) H) (hD : va_D (fun q : Nat => s.heap.size ≤ q) (LA qa cyI cyZ S ++ ([LO o cyJ fJ] ++ LB qb cyI cyZ M))) (hS : va_S (fun q : Nat => s.heap.size ≤ q) s.heap H locs) (hl : lv_has ls 7 [(0, .ref b), (1, .ref (qa 0)), (2, .ref (qb 0)), (3, .ref o), (4, .int (nI (4 * i)))]) (nx : LN p l e s m below meth c b D cyI cyZ cyJ qa qb o i ci si Z) : W p l e room_1 s m #[.ref b] below meth c H locs ci si Z (F0 m 1143 ls []) := by
  obtain ⟨hx, hb, hml, hown, hts, hX, hbl, hK, hY, hst, hi4, hL, hci, hsi⟩ := K
  have hK2 : va_K D vwCl (kT cyI cyZ) s := hK.sub [0, 1] rfl
  have hA : ∀ q : Nat, s.heap.size ≤ q → (fun q : Nat => s.heap.size ≤ q) q := fun _ h => h
  have hbA : ¬ (fun q : Nat => s.heap.size ≤ q) b := Nat.not_le.mpr hbl
  have hl : lv_has ls 7 [(0, .ref b), (1, .ref (qa 0)), (2, .ref (qb 0)), (3, .ref o), (4, .int (nI (4 * i)))] := hl
  have hin1 : vp_in (nI (4 * i) + 1) L := by rw [nI_1]; exact vp_in_nI (by omega) (by omega)
  obtain ⟨S1, M1, fJ1, k, v, hM1, hM2, hth, hv, hr1⟩ := st_output l hst D cyI cyZ cyJ qa qb o fJ hr (xs (nI (4 * i) + 1).toNatClampNeg)
  refine lv_aload_n hx hb dL_law_1143 rfl (lv_at hl 1 rfl) ?_
  refine lv_aload_n hx hb dL_law_1144 rfl (lv_at hl 0 rfl) ?_
  refine lv_iload hx hb dL_law_1145 (lv_at hl 4 rfl) ?_
  refine lv_iconst (v := 1) hx hb dL_law_1147 (by decide) ?_
  refine lv_iadd hx hb dL_law_1148 ?_
  refine va_sld hx hb hX hbl hbA hS hin1 dL_law_1149 ?_
  refine lv_aload_n hx hb dL_law_1150 rfl (lv_at hl 3 rfl) ?_
  have hP : va_P D vwCl ([] ++ ((LA qa cyI cyZ S ++ [LO o cyJ fJ]) ++ LB qb cyI cyZ M)) H := by rw [le1]; exact hP
  have hD : va_D (fun q : Nat => s.heap.size ≤ q) ([] ++ ((LA qa cyI cyZ S ++ [LO o cyJ fJ]) ++ LB qb cyI cyZ M)) := by rw [le1]; exact hD
  refine kwm_S (n1 := 0) (n2 := 34) (n3 := 13) (wl := []) (wc := LA qa cyI cyZ S ++ [LO o cyJ fJ]) (w1 := LA qa cyI cyZ S1 ++ [LO o cyJ fJ1]) (wr := LB qb cyI cyZ M) (As := [.ref (qa 0), .int (xs (nI (4 * i) + 1).toNatClampNeg), .ref o]) (rest := []) rfl LA_34 LA_34 LB_l (by decide +kernel) hM1 ⟨hx, hb, hml, hown, hts⟩ (vx_cwSW 3 hts gL_law_L_output rfl rfl rfl (by decide +kernel) ⟨Nat.le_of_ble_eq_true rfl, Nat.le_of_ble_eq_true rfl⟩) hK hY hP hD hS hA rfl hl.1 rfl (Nat.le_of_ble_eq_true rfl) dL_law_1151 ⟨by omega, by omega⟩ (fun H locs hP hD hS => ?_)
  rw [le1] at hP hD
  refine lv_istore (lv' := [(5, .int k), (0, .ref b), (1, .ref (qa 0)), (2, .ref (qb 0)), (3, .ref o), (4, .int (nI (4 * i)))]) hx hb dL_law_1154 hl (by decide) rfl (fun ls hl => ?_)
  refine lv_aload_n hx hb dL_law_1156 rfl (lv_at hl 3 rfl) ?_
  refine lv_aload_n hx hb dL_law_1157 rfl (lv_at hl 1 rfl) ?_
  refine lv_iload hx hb dL_law_1158 (lv_at hl 5 rfl) ?_
  refine lv_iconst (v := 1) hx hb dL_law_1160 (by decide) ?_
  refine lv_iadd hx hb dL_law_1161 ?_
  refine va_sld hx hb hX hbl hbA hS hin1 dL_law_1162 ?_
  have hP : va_P D vwCl ((LA qa cyI cyZ S1 ++ [LO o cyJ fJ1]) ++ (LB qb cyI cyZ M ++ [])) H := by rw [le2]; exact hP
  have hD : va_D (fun q : Nat => s.heap.size ≤ q) ((LA qa cyI cyZ S1 ++ [LO o cyJ fJ1]) ++ (LB qb cyI cyZ M ++ [])) := by rw [le2]; exact hD
  refine kcm_Vi (n1 := 34) (n2 := 13) (n3 := 0) (wl := LA qa cyI cyZ S1 ++ [LO o cyJ fJ1]) (wc := LB qb cyI cyZ M) (w1 := LB qb cyI cyZ M1) (wr := []) (As := [.int (xs (nI (4 * i) + 1).toNatClampNeg)]) (rest := []) LA_34 LB_l LB_l rfl (by decide +kernel) hM2 ⟨hx, hb, hml, hown, hts⟩ (cwV 1 hts gL_law_X5_output rfl rfl rfl (by decide +kernel) ⟨Nat.le_of_ble_eq_true rfl, Nat.le_of_ble_eq_true rfl⟩) hK2 hP hD hS hA LB_0 rfl rfl rfl hl.1 rfl (Nat.le_of_ble_eq_true rfl) dL_law_1163 ⟨by omega, by omega⟩ (fun H locs hP hD hS => ?_)
  rw [le2] at hP hD
  refine lv_istore (lv' := [(6, .int v), (5, .int k), (0, .ref b), (1, .ref (qa 0)), (2, .ref (qb 0)), (3, .ref o), (4, .int (nI (4 * i)))]) hx hb dL_law_1166 hl (by decide) rfl (fun ls hl => ?_)
  refine lv_aload_n hx hb dL_law_1168 rfl (lv_at hl 4 rfl) ?_
  have hP : va_P D vwCl ((LA qa cyI cyZ S1 ++ [LO o cyJ fJ1]) ++ (LB qb cyI cyZ M1 ++ [])) H := by rw [le2]; exact hP
  have hD : va_D (fun q : Nat => s.heap.size ≤ q) ((LA qa cyI cyZ S1 ++ [LO o cyJ fJ1]) ++ (LB qb cyI cyZ M1 ++ [])) := by rw [le2]; exact hD
  refine kcm_Vi (n1 := 34) (n2 := 13) (n3 := 0) (wl := LA qa cyI cyZ S1 ++ [LO o cyJ fJ1]) (wc := LB qb cyI cyZ M1) (w1 := LB qb cyI cyZ M1) (wr := []) (As := []) (rest := []) LA_34 LB_l LB_l rfl (by decide +kernel) (m5_thrown l D cyI cyZ qb M1 M1.th rfl) ⟨hx, hb, hml, hown, hts⟩ (cwV 0 hts gL_law_X5_thrown rfl rfl rfl (by decide +kernel) ⟨Nat.le_of_ble_eq_true rfl, Nat.le_of_ble_eq_true rfl⟩) hK2 hP hD hS hA LB_0 rfl rfl rfl hl.1 rfl (Nat.le_of_ble_eq_true rfl) dL_law_1169 ⟨by omega, by omega⟩ (fun H locs hP hD hS => ?_)
  rw [le2] at hP hD
  refine lv_iload hx hb dL_law_1172 (lv_at hl 1 rfl) ?_
  refine lv_icmp_eq (tgt := 1179) hx hb dL_law_1174 (by decide) (fun cE => ?_) (fun cE => ?_)
  · refine lv_iload hx hb dL_law_1179 (lv_at hl 1 rfl) ?_
    refine lv_if_ne (tgt := 1196) hx hb dL_law_1181 (by decide) (fun c0 => ?_) (fun c0 => ?_)
    · refine lv_goto (tgt := 1213) hx hb dL_law_1196 (by decide) ?_
      refine W.widen (k := ci + 3) (n := si + 74) (by omega) (by omega) ?_
      exact nx _ _ _ _ _ _ hr1 hP hD hS (lv_sub hl [2, 3, 4, 5, 6] rfl)
    · refine lv_aload_n hx hb dL_law_1184 rfl (lv_at hl 5 rfl) ?_
      refine lv_iconst (v := 0) hx hb dL_law_1185 (by decide) ?_
      refine va_lald (f := fJ1) hx hb hK hP 33 2 (loAt LA_l) rfl vin01 dL_law_1186 ?_
      rw [c00, hv c0]
      refine lv_iload hx hb dL_law_1187 (lv_at hl 0 rfl) ?_
      refine lv_i2l hx hb dL_law_1189 rfl ?_
      refine kl_cmp hx hb dL_law_1190 ?_
      refine lv_if_eq (tgt := 1196) hx hb dL_law_1191 (by decide) (fun cE => ?_) (fun cE => ?_)
      · refine lv_goto (tgt := 1213) hx hb dL_law_1196 (by decide) ?_
        refine W.widen (k := ci + 3) (n := si + 74) (by omega) (by omega) ?_
        exact nx _ _ _ _ _ _ hr1 hP hD hS (lv_sub hl [2, 3, 4, 5, 6] rfl)
      · exact absurd rfl cE
  · exact absurd hth cE
set_option maxHeartbeats 4000000 in
set_option maxRecDepth 100000 in
theorem case_21 {p : Program} {l : Launch} {e : Env} {s : State} {m : MethodId} {below : List Frame} {meth : Method} {c : Code} {b L : Nat} {xs : Nat → Int32} {D : va_G} {cyI cyZ cyJ : ClassId} {qa qb : Nat → Nat} {o i ci si : Nat} {Z : State → Prop} (K : LK p s m c b L xs l D cyI cyZ cyJ i ci si) {S : ZS} {M : ZM} {fJ : Nat → Int64} {H : Heap} {locs : List Loc} {ls : Array Slot} (hr : REL S M) (hP : va_P D vwCl (LA qa cyI cyZ S ++ ([LO o cyJ fJ] ++ LB qb cyI cyZ M)) H) (hD : va_D (fun q : Nat => s.heap.size ≤ q) (LA qa cyI cyZ S ++ ([LO o cyJ fJ] ++ LB qb cyI cyZ M))) (hS : va_S (fun q : Nat => s.heap.size ≤ q) s.heap H locs) (hl : lv_has ls 7 [(0, .ref b), (1, .ref (qa 0)), (2, .ref (qb 0)), (3, .ref o), (4, .int (nI (4 * i)))]) (nx : LN p l e s m below meth c b D cyI cyZ cyJ qa qb o i ci si Z) : W p l e room_1 s m #[.ref b] below meth c H locs ci si Z (F0 m 1199 ls []) := by
  obtain ⟨hx, hb, hml, hown, hts, hX, hbl, hK, hY, hst, hi4, hL, hci, hsi⟩ := K
  have hK2 : va_K D vwCl (kT cyI cyZ) s := hK.sub [0, 1] rfl
  have hA : ∀ q : Nat, s.heap.size ≤ q → (fun q : Nat => s.heap.size ≤ q) q := fun _ h => h
  have hbA : ¬ (fun q : Nat => s.heap.size ≤ q) b := Nat.not_le.mpr hbl
  have hl : lv_has ls 7 [(0, .ref b), (1, .ref (qa 0)), (2, .ref (qb 0)), (3, .ref o), (4, .int (nI (4 * i)))] := hl
  obtain ⟨S1, M1, r, hM1, hM2, hr1⟩ := op_digest l D cyI cyZ qa qb hr
  refine lv_aload_n hx hb dL_law_1199 rfl (lv_at hl 1 rfl) ?_
  have hP : va_P D vwCl ([] ++ (LA qa cyI cyZ S ++ ([LO o cyJ fJ] ++ LB qb cyI cyZ M))) H := by rw [le3]; exact hP
  have hD : va_D (fun q : Nat => s.heap.size ≤ q) ([] ++ (LA qa cyI cyZ S ++ ([LO o cyJ fJ] ++ LB qb cyI cyZ M))) := by rw [le3]; exact hD
  refine kcm_Vl (n1 := 0) (n2 := 33) (n3 := 14) (wl := []) (wc := LA qa cyI cyZ S) (w1 := LA qa cyI cyZ S1) (wr := [LO o cyJ fJ] ++ LB qb cyI cyZ M) (As := []) (rest := []) rfl LA_l LA_l LB_14 (by decide +kernel) hM1 ⟨hx, hb, hml, hown, hts⟩ (cwV 0 hts gL_law_X4_digest rfl rfl rfl (by decide +kernel) ⟨Nat.le_of_ble_eq_true rfl, Nat.le_of_ble_eq_true rfl⟩) hK2 hP hD hS hA LA_0 rfl rfl rfl hl.1 rfl (Nat.le_of_ble_eq_true rfl) dL_law_1200 ⟨by omega, by omega⟩ (fun H locs hP hD hS => ?_)
  rw [le3] at hP hD
  refine lv_aload_n hx hb dL_law_1203 rfl (lv_at hl 2 rfl) ?_
  have hP : va_P D vwCl ((LA qa cyI cyZ S1 ++ [LO o cyJ fJ]) ++ (LB qb cyI cyZ M ++ [])) H := by rw [le2]; exact hP
  have hD : va_D (fun q : Nat => s.heap.size ≤ q) ((LA qa cyI cyZ S1 ++ [LO o cyJ fJ]) ++ (LB qb cyI cyZ M ++ [])) := by rw [le2]; exact hD
  refine kcm_Vl (n1 := 34) (n2 := 13) (n3 := 0) (wl := LA qa cyI cyZ S1 ++ [LO o cyJ fJ]) (wc := LB qb cyI cyZ M) (w1 := LB qb cyI cyZ M1) (wr := []) (As := []) (rest := [.long r]) LA_34 LB_l LB_l rfl (by decide +kernel) hM2 ⟨hx, hb, hml, hown, hts⟩ (cwV 0 hts gL_law_X5_digest rfl rfl rfl (by decide +kernel) ⟨Nat.le_of_ble_eq_true rfl, Nat.le_of_ble_eq_true rfl⟩) hK2 hP hD hS hA LB_0 rfl rfl rfl hl.1 rfl (Nat.le_of_ble_eq_true rfl) dL_law_1204 ⟨by omega, by omega⟩ (fun H locs hP hD hS => ?_)
  rw [le2] at hP hD
  refine kl_cmp hx hb dL_law_1207 ?_
  refine lv_if_eq (tgt := 1213) hx hb dL_law_1208 (by decide) (fun cE => ?_) (fun cE => ?_)
  · refine W.widen (k := ci + 3) (n := si + 74) (by omega) (by omega) ?_
    exact nx _ _ _ _ _ _ hr1 hP hD hS (lv_sub hl [0, 1, 2, 3, 4] rfl)
  · exact absurd rfl cE
