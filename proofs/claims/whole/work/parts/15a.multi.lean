/-! ===== multianewarray: rows of ints =====
One turn of the machine's loop is a function of ANY state (tn: a row behind the heap, its address into the outer array, which is read where it lies);
the loop is the fold of the turns over the list of places (wp_turns, tn_fold); what is known on the way is told of cells, room and stand at once (tnAt). -/
def tn (N : Addr) (r : Cell) (V : State) (i : Nat) : State :=
  match V.heap[N]? with
  | some k => (V.pushCell r).setCell N (k.setSlot i (.ref V.heap.size))
  | none => V
theorem tn_eq {N : Addr} {r : Cell} {V : State} {i a : Nat} {cA : ClassId} {z : Nat → Value} (h : V.heap[N]? = some (arrV cA a z)) : tn N r V i = (V.pushCell r).setCell N (arrV cA a (updV z i (.ref V.heap.size))) := by
  unfold tn
  rw [h, ← arrV_store]
theorem tn_fold {F : State → Nat → State} {P : Nat → State → Prop} {n : Nat} (hP : ∀ i V, i < n → P i V → P (i + 1) (F V i)) : ∀ k i V, i + k = n → P i V → P n ((List.range' i k).foldl F V)
  | 0, i, V, hn, h => by
    have e : i = n := hn
    subst e
    exact h
  | k + 1, i, V, hn, h => tn_fold hP k (i + 1) (F V i) (by omega) (hP i V (by omega) h)
/-- lengths that the machine takes -/
theorem len_ok {n : Nat} (h : n ≤ 1000) : (nI n < 0) = False ∧ (nI n).toNatClampNeg = n :=
  ⟨eq_false (fun q => by rw [i_lt, nI_toInt (by omega)] at q; have : (n : Int) < 0 := q; omega), cl_k (by omega)⟩
section
variable {E : CtlPost} {e : Env}
/-- a loop whose body is, under P, the function F of the state below one and the same frame -/
theorem wp_turns {f : Nat → PUnit → Sem (ForInStep PUnit)} {g : JFrame} {Q : PUnit → Pre} {F : State → Nat → State} {P : Nat → State → Prop} {n : Nat}
    (hf : ∀ i V d acts (K : ForInStep PUnit → Pre), i < n → P i V → (∀ d' acts', K (.yield PUnit.unit) d' acts' ((F V i).setTop g)) → wp (f i PUnit.unit) K E e d acts (V.setTop g))
    (hP : ∀ i V, i < n → P i V → P (i + 1) (F V i)) : ∀ k i V d acts, i + k = n → P i V → (∀ d' acts', Q PUnit.unit d' acts' (((List.range' i k).foldl F V).setTop g)) → wp (forIn (List.range' i k) PUnit.unit f) Q E e d acts (V.setTop g)
  | 0, i, V, d, acts, _, _, hq => by
    show wp (forIn [] PUnit.unit f) Q E e d acts (V.setTop g)
    rw [List.forIn_nil, wp_pure']
    exact hq d acts
  | k + 1, i, V, d, acts, hn, h, hq => by
    show wp (forIn (i :: List.range' (i + 1) k) PUnit.unit f) Q E e d acts (V.setTop g)
    rw [List.forIn_cons, wp_bind']
    exact hf i V d acts _ (by omega) h (fun d' acts' => wp_turns hf hP k (i + 1) (F V i) d' acts' (by omega) (hP i V (by omega) h) hq)
end
section
variable {p : Program} {l : Launch} {e : Env} {R : Room} {s : State} {m : MethodId} {args : Array Value} {below : List Frame} {meth : Method} {c : Code} {H : Heap} {locs : List Loc} {cells slots : Nat} {Q : State → Prop}
/-- a class of arrays at the start is one wherever the method stands -/
theorem kd_at {V : State} {cA cB : ClassId} {ty : FieldType} (X : Stand p l e R s m args below meth c V locs cells slots) (h : ∃ k, s.vm.classes[cA]? = some k ∧ k.kind = .array cB ty) : ∃ k, V.vm.classes[cA]? = some k ∧ k.kind = .array cB ty := by
  obtain ⟨k, h1, h2⟩ := h
  obtain ⟨k', h3, h4⟩ := X.warmed.alike.2.2 _ _ h1
  exact ⟨k', h3, by rw [h4]; exact h2⟩
/-- i rows lie behind H and its outer array -/
def tnAt (p : Program) (l : Launch) (e : Env) (R : Room) (s : State) (m : MethodId) (args : Array Value) (below : List Frame) (meth : Method) (c : Code) (H : Heap) (locs : List Loc) (cells slots : Nat) (c7 c0 : ClassId) (a b i : Nat) (V : State) : Prop :=
  Stand p l e R s m args below meth c V locs (cells + (1 + i)) (slots + (a + i * b)) ∧ V.heap.size = H.size + 1 + i ∧ (∀ q : Nat, q < H.size → V.heap[q]? = H[q]?) ∧ (∃ z, V.heap[H.size]? = some (arrV c7 a z) ∧ ∀ j, j < i → z j = .ref (H.size + 1 + j)) ∧ ∀ j : Nat, j < i → V.heap[H.size + 1 + j]? = some (arrV c0 b (fun _ => .int 0))
/-- none yet -/
theorem tnAt_0 {V : State} {c7 c0 : ClassId} {a b : Nat} (X : Stand p l e R s m args below meth c V locs cells slots) : tnAt p l e R s m args below meth c V.heap locs cells slots c7 c0 a b 0 (V.pushCell (arrV c7 a (fun _ => .null))) := by
  have x := X.pushed (arrV c7 a (fun _ => .null))
  rw [arrV_size, show slots + a = slots + (a + 0 * b) by omega] at x
  exact ⟨x, Array.size_push _, fun q hq => State.heap_pushCell_of_lt _ _ hq, ⟨_, State.heap_pushCell_size _ _, fun j hj => absurd hj (Nat.not_lt_zero j)⟩, fun j hj => absurd hj (Nat.not_lt_zero j)⟩
/-- one more -/
theorem tnAt_s {V : State} {c7 c0 : ClassId} {a b i : Nat} (hH : s.heap.size ≤ H.size) (h : tnAt p l e R s m args below meth c H locs cells slots c7 c0 a b i V) : tnAt p l e R s m args below meth c H locs cells slots c7 c0 a b (i + 1) (tn H.size (arrV c0 b (fun _ => .int 0)) V i) := by
  obtain ⟨X, n, o, ⟨z, hz, zr⟩, r⟩ := h
  have lt : H.size < V.heap.size := by omega
  have hz' : (V.pushCell (arrV c0 b (fun _ => .int 0))).heap[H.size]? = some (arrV c7 a z) := (State.heap_pushCell_of_lt _ _ lt).trans hz
  have old : ∀ q : Nat, q ≠ H.size → q < V.heap.size → (tn H.size (arrV c0 b (fun _ => .int 0)) V i).heap[q]? = V.heap[q]? := fun q h1 h2 => by
    rw [tn_eq hz, heapAt_setCell_ne _ (Ne.symm h1)]
    exact State.heap_pushCell_of_lt _ _ h2
  refine ⟨?_, ?_, fun q hq => (old q (by omega) (by omega)).trans (o q hq), ⟨updV z i (.ref V.heap.size), ?_, fun j hj => ?_⟩, fun j hj => ?_⟩
  · have x := ((X.pushed (arrV c0 b (fun _ => .int 0))).stored hz' i (.ref V.heap.size)).forget (fun y hy => by cases List.mem_singleton.mp hy; exact hH)
    rw [arrV_size, arrV_store, ← tn_eq hz, show slots + (a + i * b) + b = slots + (a + (i + 1) * b) by rw [Nat.succ_mul]; omega] at x
    exact x
  · rw [tn_eq hz, size_setCell]
    exact (Array.size_push _).trans (by rw [n]; omega)
  · rw [tn_eq hz]
    exact heapAt_setCell_self _ (Array.getElem?_eq_some_iff.mp hz').1
  · unfold updV
    by_cases q : j = i
    · rw [if_pos q, n, q]
    · rw [if_neg q]
      exact zr j (by omega)
  · by_cases q : j < i
    · exact (old _ (by omega) (by omega)).trans (r j q)
    · rw [show H.size + 1 + j = V.heap.size by omega, tn_eq hz, heapAt_setCell_ne _ (Nat.ne_of_lt lt)]
      exact State.heap_pushCell_size _ _
/-- one turn, over the machine -/
theorem tn_wp {E : CtlPost} {d : Bool} {acts : List Action} {V : State} {g : JFrame} {c7 c0 cc0 : ClassId} {a b i : Nat} (hb : b ≤ 1000) (hi : i < a) (h7 : ∃ k, s.vm.classes[c7]? = some k ∧ k.kind = .array c0 (.array .int)) (h0 : ∃ k, s.vm.classes[c0]? = some k ∧ k.kind = .array cc0 .int)
    (hc : cells + (1 + a) ≤ R.cells) (hs : slots + (a + a * b) ≤ R.slots) (h : tnAt p l e R s m args below meth c H locs cells slots c7 c0 a b i V) {K : ForInStep PUnit → Pre} (hq : ∀ d' acts', K (.yield PUnit.unit) d' acts' ((tn H.size (arrV c0 b (fun _ => .int 0)) V i).setTop g)) :
    wp (multianewarray.make c0 [nI b]) (fun r => wp (writeLoc H.size i (.ref r) >>= fun _ => Pure.pure (ForInStep.yield PUnit.unit)) K E e) E e d acts (V.setTop g) := by
  obtain ⟨X, n, -, ⟨z, hz, -⟩, -⟩ := h
  obtain ⟨k7, a1, a2⟩ := kd_at X h7
  obtain ⟨k0, b1, b2⟩ := kd_at X h0
  have more : (i + 1) * b ≤ a * b := Nat.mul_le_mul_right b hi
  rw [Nat.succ_mul] at more
  obtain ⟨r1, r2⟩ := X.roomAbove (a := 1) (b := b) (by omega) (by omega)
  rw [multianewarray.make]
  simp only [wp_bind', wp_pure', _root_.Jvm.W.ite, _root_.Jvm.W.theClass, State.vm_setTop, (len_ok hb).1, (len_ok hb).2, if_false, b1, b2, Option.some.injEq, exists_eq_left']
  refine _root_.Jvm.W.newArray_of (s := V.setTop g) b1 b2 (by rw [Launch.admits_arrayLengthLimit X.admits]; omega) (by rw [Launch.admits_maxHeapBytes X.admits]; show ¬ b * 4 > 536870912; omega) r1 r2 rfl (fun acts1 => ?_)
  rw [wp_bind']
  refine (_root_.Jvm.W.writeLoc ..).mpr ⟨arrV c7 a z, (State.heap_pushCell_of_lt _ _ (Array.getElem?_eq_some_iff.mp hz).1).trans hz, (fun q => by cases q), (by rw [arrV_size]; exact hi), ?_, ?_⟩
  · show State.fitsSlot _ c7 .none i _ = true
    simp [State.fitsSlot, State.slotType?, a1, a2]
    rfl
  · have x := hq true
    rw [tn_eq hz, ← arrV_store, ← arrV_new] at x
    rw [wp_pure']
    exact x _
/-- both dimensions, over the machine -/
theorem tn_make {E : CtlPost} {d : Bool} {acts : List Action} {V : State} {g : JFrame} {c7 c0 cc0 : ClassId} {a b : Nat} (X : Stand p l e R s m args below meth c V locs cells slots) (hV : s.heap.size ≤ V.heap.size) (ha : a ≤ 1000) (hb : b ≤ 1000) (h7 : ∃ k, s.vm.classes[c7]? = some k ∧ k.kind = .array c0 (.array .int)) (h0 : ∃ k, s.vm.classes[c0]? = some k ∧ k.kind = .array cc0 .int)
    (hc : cells + (1 + a) ≤ R.cells) (hs : slots + (a + a * b) ≤ R.slots) {K : Addr → Pre} (hq : ∀ d' acts', K V.heap.size d' acts' (((List.range' 0 a).foldl (tn V.heap.size (arrV c0 b (fun _ => .int 0))) (V.pushCell (arrV c7 a (fun _ => .null)))).setTop g)) :
    wp (multianewarray.make c7 [nI a, nI b]) K E e d acts (V.setTop g) := by
  obtain ⟨k7, a1, a2⟩ := kd_at X h7
  obtain ⟨r1, r2⟩ := X.roomAbove (a := 1) (b := a) (by omega) (by omega)
  have nb : [nI b].find? (fun x => decide (x < 0)) = none := List.find?_eq_none.mpr (fun x hx => by rw [List.mem_singleton.mp hx, decide_eq_true_eq, (len_ok hb).1]; exact not_false)
  rw [multianewarray.make]
  simp only [wp_bind', wp_pure', _root_.Jvm.W.ite, _root_.Jvm.W.theClass, State.vm_setTop, (len_ok ha).1, (len_ok ha).2, if_false, a1, a2, Option.some.injEq, exists_eq_left']
  refine _root_.Jvm.W.newArray_of (s := V.setTop g) a1 a2 (by rw [Launch.admits_arrayLengthLimit X.admits]; omega) (by rw [Launch.admits_maxHeapBytes X.admits]; show ¬ a * 4 > 536870912; omega) r1 r2 rfl (fun acts1 => ?_)
  rw [State.pushCell_setTop, arrV_new]
  simp only [nb, ite_self, wp_bind', Std.Legacy.Range.forIn_eq_forIn_range', Std.Legacy.Range.size, Nat.sub_zero, Nat.add_sub_cancel, Nat.div_one]
  refine wp_turns (F := tn V.heap.size (arrV c0 b (fun _ => .int 0))) (P := tnAt p l e R s m args below meth c V.heap locs cells slots c7 c0 a b) (n := a) (fun i U d1 acts2 K1 hi h hK => ?_) (fun i U _ h => tnAt_s hV h) a 0 _ _ _ (Nat.zero_add a) (tnAt_0 X) (fun d' acts' => ?_)
  · simp only [wp_bind']
    exact tn_wp hb hi h7 h0 hc hs h hK
  · rw [wp_pure']
    exact hq d' acts'
theorem W_multi {cc : ByteArray} (hexec : p.tables.exec = Jvm.exec) (hb : c.code = cc) {own : String} {index : Nat} (hown : s.vm.findClass own = some m.cls) (hclink : (Cond.classLink own index "[[I").before args s = true) {c7 c0 : ClassId} (h7 : s.vm.findClass "[[I" = some c7) (hk7 : ∃ k, s.vm.classes[c7]? = some k ∧ k.kind = .array c0 (.array .int)) (hk0 : ∃ k cc0, s.vm.classes[c0]? = some k ∧ k.kind = .array cc0 .int)
    {g : JFrame} (hg : g.method = m) (hdg : decode cc g.pc = .ok (.multianewarray index 2, 4)) {a b : Nat} (ha : a ≤ 1000) (hbb : b ≤ 1000) {rest : List Value} (hstack : g.stack = .int (nI b) :: .int (nI a) :: rest) (hcells : cells + (1 + a) ≤ R.cells) (hslots : slots + (a + a * b) ≤ R.slots) (hbase : s.heap.size ≤ H.size)
    (kk : ∀ H' : Heap, H'.size = H.size + 1 + a → (∀ q : Nat, q < H.size → H'[q]? = H[q]?) → H'[H.size]? = some (arrV c7 a (fun j => .ref (H.size + 1 + j))) → (∀ j : Nat, j < a → H'[H.size + 1 + j]? = some (arrV c0 b (fun _ => .int 0))) → W p l e R s m args below meth c H' locs (cells + (1 + a)) (slots + (a + a * b)) Q { g with pc := g.pc + 4, stack := .ref H.size :: rest }) : W p l e R s m args below meth c H locs cells slots Q g := by
  intro T hT X
  subst hT; subst hb; subst hg
  obtain ⟨k0, cc0, hk0⟩ := hk0
  obtain ⟨c9, f9, links⟩ := Cond.classLink_spec hown hclink e.platform (by rw [X.admits.platform])
  rw [h7] at f9
  cases f9
  obtain ⟨same, warm, ready⟩ := State.classEntry (e := e) X.warmed links
  generalize T.vm.noted g.method.cls index (.cls c7) = vm₁ at same warm ready
  have Y := X.noted warm
  have Y0 := tnAt_0 (c7 := c7) (c0 := c0) (a := a) (b := b) Y
  obtain ⟨Z, z1, z2, ⟨z, z3, z4⟩, z5⟩ := tn_fold (F := tn T.heap.size (arrV c0 b (fun _ => .int 0))) (P := tnAt p l e R s g.method args below meth c T.heap locs cells slots c7 c0 a b) (n := a) (fun i U _ h => tnAt_s hbase h) a 0 _ (Nat.zero_add a) Y0
  have out : arrV c7 a z = arrV c7 a (fun j => .ref (T.heap.size + 1 + j)) := by
    unfold arrV
    congr 2
    funext j
    exact z4 j j.isLt
  obtain ⟨t', go, done⟩ := kk _ z1 z2 (z3.trans (congrArg some out)) z5 _ rfl Z
  refine ⟨t', ?_, done⟩
  jvm_step X.here [hexec, hdg]
  have warmer : ∀ {K : Unit → Pre} {E' : CtlPost} {d' : Bool} {acts' : List Action}, wp (multianewarray.sem index 2) K E' e d' acts' ((T.setVm vm₁).setTop g) → wp (multianewarray.sem index 2) K E' e d' acts' (T.setTop g) := fun w => by
    unfold multianewarray.sem at w ⊢
    rw [wp_bind'] at w ⊢
    exact (_root_.Jvm.W.resolveClassAt_transfer (s := T.setTop g) (State.method?_setTop g X.here.top) same ready).mpr w
  refine warmer ?_
  unfold multianewarray.sem
  rw [wp_bind', _root_.Jvm.W.resolveClassAt_ready (State.method?_setTop g Y.here.top) ready, wp_bind']
  refine (popN_top (f := g) (args := [.int (nI a), .int (nI b)]) Y.here.top (by rw [hstack]; rfl)).mpr ?_
  simp only [List.mapM_cons, List.mapM_nil, pure_bind, wp_pure', wp_bind']
  refine tn_make Y hbase ha hbb hk7 ⟨k0, hk0⟩ hcells hslots (fun d' acts' => ?_)
  simp only [wp_bind', _root_.Jvm.W.mark, _root_.Jvm.W.pushRef]
  refine ⟨_, State.topJava?_setTop' _ Z.here.top, fun acts2 => ?_⟩
  rw [State.setTop_setTop, afterInstr_ok]
  exact go
end
