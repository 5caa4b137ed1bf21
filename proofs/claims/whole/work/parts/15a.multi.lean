/-! ===== multianewarray: rows of ints in a row ===== -/
def mOut (cA : ClassId) (a h0 i : Nat) : Cell := arrV cA a (fun j => if j < i then .ref (h0 + 1 + j) else .null)
theorem mOut_sz (cA : ClassId) (a h0 i : Nat) : (mOut cA a h0 i).slots.size = a := arrV_size _ _ _
theorem mOut_s (cA : ClassId) (a h0 i : Nat) : (mOut cA a h0 i).setSlot i (.ref (h0 + 1 + i)) = mOut cA a h0 (i + 1) := by
  unfold mOut
  rw [arrV_store]
  congr 1
  funext j
  unfold updV
  by_cases e : j = i
  · subst e
    rw [if_pos rfl, if_pos (Nat.lt_succ_self _)]
  · rw [if_neg e]
    dsimp only
    by_cases q : j < i
    · rw [if_pos q, if_pos (by omega)]
    · rw [if_neg q, if_neg (by omega)]
/-- the state with i rows laid -/
def mSt (T : State) (c7 c0 : ClassId) (a b : Nat) : Nat → State
  | 0 => T.pushCell (mOut c7 a T.heap.size 0)
  | i + 1 => ((mSt T c7 c0 a b i).pushCell (arrV c0 b (fun _ => .int 0))).setCell T.heap.size (mOut c7 a T.heap.size (i + 1))
theorem mSt_f (T : State) (c7 c0 : ClassId) (a b : Nat) : ∀ i, (mSt T c7 c0 a b i).heap.size = T.heap.size + 1 + i ∧ (mSt T c7 c0 a b i).heap[T.heap.size]? = some (mOut c7 a T.heap.size i) ∧ (mSt T c7 c0 a b i).vm = T.vm ∧ (mSt T c7 c0 a b i).slotsUsed = T.slotsUsed + a + i * b ∧ (∀ q, q < T.heap.size → (mSt T c7 c0 a b i).heap[q]? = T.heap[q]?) ∧ ∀ j, j < i → (mSt T c7 c0 a b i).heap[T.heap.size + 1 + j]? = some (arrV c0 b (fun _ => .int 0))
  | 0 => by
    refine ⟨by simp [mSt, State.pushCell], State.heap_pushCell_size _ _, rfl, ?_, fun q hq => State.heap_pushCell_of_lt _ _ hq, fun j hj => absurd hj (Nat.not_lt_zero _)⟩
    show T.slotsUsed + (mOut c7 a T.heap.size 0).slots.size = _
    rw [mOut_sz]
    omega
  | i + 1 => by
    obtain ⟨f1, f2, f3, f4, f5, f6⟩ := mSt_f T c7 c0 a b i
    have ps : ((mSt T c7 c0 a b i).pushCell (arrV c0 b (fun _ => .int 0))).heap.size = T.heap.size + 1 + i + 1 := by
      simp [State.pushCell, f1]
    have l1 : T.heap.size < ((mSt T c7 c0 a b i).pushCell (arrV c0 b (fun _ => .int 0))).heap.size := by rw [ps]; omega
    have l2 : ∀ q : Nat, q < T.heap.size + 1 + i → q < (mSt T c7 c0 a b i).heap.size := fun q hq => by rw [f1]; exact hq
    refine ⟨?_, ?_, ?_, ?_, fun q hq => ?_, fun j hj => ?_⟩
    · show (((mSt T c7 c0 a b i).pushCell (arrV c0 b (fun _ => .int 0))).setCell T.heap.size _).heap.size = _
      rw [size_setCell, ps]
      omega
    · exact heapAt_setCell_self _ l1
    · exact f3
    · show (mSt T c7 c0 a b i).slotsUsed + (arrV c0 b (fun _ => .int 0)).slots.size = _
      rw [f4, arrV_size, Nat.succ_mul]
      omega
    · show (((mSt T c7 c0 a b i).pushCell (arrV c0 b (fun _ => .int 0))).setCell T.heap.size _).heap[q]? = _
      rw [heapAt_setCell_ne _ (show T.heap.size ≠ q by omega), State.heap_pushCell_of_lt (h := l2 q (by omega))]
      exact f5 q hq
    · show (((mSt T c7 c0 a b i).pushCell (arrV c0 b (fun _ => .int 0))).setCell T.heap.size _).heap[T.heap.size + 1 + j]? = _
      rw [heapAt_setCell_ne _ (show T.heap.size ≠ T.heap.size + 1 + j by omega)]
      by_cases q : j < i
      · rw [State.heap_pushCell_of_lt (h := l2 _ (by omega))]
        exact f6 j q
      · have e : T.heap.size + 1 + j = (mSt T c7 c0 a b i).heap.size := by rw [f1]; omega
        rw [e]
        exact State.heap_pushCell_size _ _
theorem mSt_top (T : State) (f : JFrame) (c7 c0 : ClassId) (a b : Nat) : ∀ i, mSt (T.setTop f) c7 c0 a b i = (mSt T c7 c0 a b i).setTop f
  | 0 => rfl
  | i + 1 => by simp only [mSt, mSt_top T f c7 c0 a b i, State.heap_setTop, State.pushCell_setTop, State.setCell_setTop]
theorem nI_n0 {n : Nat} (h : n < 2147483648) : ¬ nI n < 0 := by
  rw [i_lt, nI_toInt (by omega)]
  show ¬ (n : Int) < 0
  omega
section
variable {E : CtlPost} {e : Env} {d : Bool} {acts : List Action} {s : State}
theorem wp_row {c0 cc0 : ClassId} {k0 : Class} {b : Nat} (hk : s.vm.classes[c0]? = some k0) (hkind : k0.kind = .array cc0 .int) (hb : b ≤ 1000) (hl : e.platform.arrayLengthLimit = 2147483645) (hm : e.platform.maxHeapBytes = 536870912) (h1 : s.heap.size < e.platform.maxCells) (h2 : s.slotsUsed + b ≤ e.platform.maxSlots) {Q : Addr → Pre} (hq : ∀ acts', Q s.heap.size d acts' (s.pushCell (arrV c0 b (fun _ => .int 0)))) : wp (multianewarray.make c0 [nI b]) Q E e d acts s := by
  have hc : (nI b).toNatClampNeg = b := cl_k (by omega)
  rw [multianewarray.make]
  simp only [wp_bind', _root_.Jvm.W.ite, nI_n0 (show b < 2147483648 by omega), if_false, wp_pure', _root_.Jvm.W.theClass, hk, hkind, Option.some.injEq, exists_eq_left', hc]
  refine _root_.Jvm.W.newArray_of hk hkind (by rw [hl]; omega) (by rw [hm]; show ¬ b * 4 > 536870912; omega) h1 h2 rfl (fun acts' => ?_)
  have x := hq acts'
  rw [← arrV_new] at x
  exact x
theorem wp_rows {c7 c0 cc0 : ClassId} {k7 k0 : Class} {a b : Nat} (hk7 : s.vm.classes[c7]? = some k7) (hkind7 : k7.kind = .array c0 (.array .int)) (hk : s.vm.classes[c0]? = some k0) (hkind : k0.kind = .array cc0 .int) (ha : a ≤ 1000) (hb : b ≤ 1000) (hl : e.platform.arrayLengthLimit = 2147483645) (hm : e.platform.maxHeapBytes = 536870912) (h1 : s.heap.size + 1 + a ≤ e.platform.maxCells) (h2 : s.slotsUsed + a + a * b ≤ e.platform.maxSlots) {Q : Addr → Pre} (hq : ∀ d' acts', Q s.heap.size d' acts' (mSt s c7 c0 a b a)) : wp (multianewarray.make c7 [nI a, nI b]) Q E e d acts s := by
  have hca : (nI a).toNatClampNeg = a := cl_k (by omega)
  have hfind : ([nI b].find? (· < 0)) = none := by simp [nI_n0 (show b < 2147483648 by omega)]
  rw [multianewarray.make]
  simp only [wp_bind', _root_.Jvm.W.ite, nI_n0 (show a < 2147483648 by omega), if_false, wp_pure', _root_.Jvm.W.theClass, hk7, hkind7, Option.some.injEq, exists_eq_left', hca]
  refine _root_.Jvm.W.newArray_of hk7 hkind7 (by rw [hl]; omega) (by rw [hm]; show ¬ a * 4 > 536870912; omega) (by omega) (by have := Nat.zero_le (a * b); omega) rfl (fun acts1 => ?_)
  have e0 : (s.pushCell { cls := c7, slots := Array.replicate a .null }) = mSt s c7 c0 a b 0 := by
    show s.pushCell _ = s.pushCell _
    congr 1
    rw [show ({ cls := c7, slots := Array.replicate a .null } : Cell) = arrV c7 a (fun _ => .null) from arrV_new _ _ _]
    unfold mOut
    congr 1
  rw [e0]
  simp only [hfind]
  rw [ite_self, wp_bind', Std.Legacy.Range.forIn_eq_forIn_range']
  have hsz : ([:a] : Std.Legacy.Range).size = a := by simp [Std.Legacy.Range.size]
  rw [hsz]
  show wp (forIn (List.range' 0 a 1) PUnit.unit _) _ E e d acts1 _
  refine wp_forIn_inv (fun rest s' => ∃ i, i ≤ a ∧ rest = List.range' i (a - i) ∧ s' = mSt s c7 c0 a b i) _ _ ⟨0, Nat.zero_le _, rfl, rfl⟩ ?_ ?_
  · intro x rest s' d' acts' Q' hI hnext
    obtain ⟨i, hi, hl', rfl⟩ := hI
    have hlt : i < a := by
      by_cases q : i < a
      · exact q
      · rw [show a - i = 0 by omega] at hl'
        cases hl'
    rw [show a - i = (a - (i + 1)) + 1 by omega, List.range'_succ] at hl'
    obtain ⟨rfl, hrest⟩ := List.cons.inj hl'
    obtain ⟨f1, f2, f3, f4, f5, f6⟩ := mSt_f s c7 c0 a b x
    have hmul : x * b + b ≤ a * b := by
      have := Nat.mul_le_mul_right b (show x + 1 ≤ a from hlt)
      rw [Nat.succ_mul] at this
      exact this
    have hlt0 : s.heap.size < (mSt s c7 c0 a b x).heap.size := by rw [f1]; omega
    simp only [wp_bind']
    refine wp_row (by rw [f3]; exact hk) hkind hb hl hm (by rw [f1]; omega) (by rw [f4]; omega) (fun acts2 => ?_)
    simp only [wp_bind', _root_.Jvm.W.writeLoc, wp_pure']
    refine ⟨mOut c7 a s.heap.size x, by rw [State.heap_pushCell_of_lt (h := hlt0)]; exact f2, (fun q => by cases q), by rw [mOut_sz]; exact hlt, ?_, hnext _ _ _ ⟨x + 1, hlt, hrest, ?_⟩⟩
    · show State.fitsSlot _ c7 .none x _ = true
      simp [State.fitsSlot, State.slotType?, f3, hk7, hkind7]
      rfl
    · show State.setCell _ _ _ = State.setCell _ _ _
      rw [f1, mOut_s]
  · intro s' d' acts' hI
    obtain ⟨i, hi, hl', rfl⟩ := hI
    have hiN : i = a := by
      by_cases q : i < a
      · rw [show a - i = (a - (i + 1)) + 1 by omega, List.range'_succ] at hl'
        cases hl'
      · omega
    subst hiN
    simp only [wp_pure']
    exact hq _ _
end
section
variable {p : Program} {l : Launch} {e : Env} {R : Room} {s : State} {m : MethodId} {args : Array Value} {below : List Frame} {meth : Method} {c : Code} {H : Heap} {locs : List Loc} {cells slots : Nat} {Q : State → Prop}
/-- the stand, row by row -/
theorem mSt_X {T : State} {c7 c0 : ClassId} {a b : Nat} (X : Stand p l e R s m args below meth c T locs cells slots) (hb : s.heap.size ≤ T.heap.size) : ∀ i, Stand p l e R s m args below meth c (mSt T c7 c0 a b i) locs (cells + (1 + i)) (slots + (a + i * b))
  | 0 => by
    have h := X.pushed (mOut c7 a T.heap.size 0)
    rw [mOut_sz] at h
    show Stand p l e R s m args below meth c (T.pushCell (mOut c7 a T.heap.size 0)) locs (cells + (1 + 0)) (slots + (a + 0 * b))
    rw [Nat.zero_mul]
    exact h
  | i + 1 => by
    obtain ⟨f1, f2, -, -, -, -⟩ := mSt_f T c7 c0 a b i
    have h := (mSt_X (c7 := c7) (c0 := c0) (a := a) (b := b) X hb i).pushed (arrV c0 b (fun _ => .int 0))
    rw [arrV_size] at h
    have hl : T.heap.size < (mSt T c7 c0 a b i).heap.size := by rw [f1]; omega
    have hc : ((mSt T c7 c0 a b i).pushCell (arrV c0 b (fun _ => .int 0))).heap[T.heap.size]? = some (mOut c7 a T.heap.size i) := by
      rw [State.heap_pushCell_of_lt (h := hl)]; exact f2
    have h2 := (h.stored hc i (.ref (T.heap.size + 1 + i))).forget (fun y hy => by
      rw [List.mem_singleton.mp hy]
      exact hb)
    rw [mOut_s] at h2
    have e1 : cells + (1 + i) + 1 = cells + (1 + (i + 1)) := by omega
    have e2 : slots + (a + i * b) + b = slots + (a + (i + 1) * b) := by rw [Nat.succ_mul]; omega
    rw [e1, e2] at h2
    exact h2
theorem W_multi {cc : ByteArray} (hexec : p.tables.exec = Jvm.exec) (hb : c.code = cc) {own : String} {index : Nat} (hown : s.vm.findClass own = some m.cls) (hclink : (Cond.classLink own index "[[I").before args s = true) {c7 c0 : ClassId} (h7 : s.vm.findClass "[[I" = some c7) (hk7 : ∃ k, s.vm.classes[c7]? = some k ∧ k.kind = .array c0 (.array .int)) (hk0 : ∃ k cc0, s.vm.classes[c0]? = some k ∧ k.kind = .array cc0 .int)
    {g : JFrame} (hg : g.method = m) (hdg : decode cc g.pc = .ok (.multianewarray index 2, 4)) {a b : Nat} (ha : a ≤ 1000) (hbb : b ≤ 1000) {rest : List Value} (hstack : g.stack = .int (nI b) :: .int (nI a) :: rest) (hcells : cells + (1 + a) ≤ R.cells) (hslots : slots + (a + a * b) ≤ R.slots) (hbase : s.heap.size ≤ H.size)
    (kk : ∀ H' : Heap, H'.size = H.size + 1 + a → (∀ q : Nat, q < H.size → H'[q]? = H[q]?) → H'[H.size]? = some (arrV c7 a (fun j => .ref (H.size + 1 + j))) → (∀ j : Nat, j < a → H'[H.size + 1 + j]? = some (arrV c0 b (fun _ => .int 0))) → W p l e R s m args below meth c H' locs (cells + (1 + a)) (slots + (a + a * b)) Q { g with pc := g.pc + 4, stack := .ref H.size :: rest }) : W p l e R s m args below meth c H locs cells slots Q g := by
  intro T hT X
  subst hT; subst hb; subst hg
  have hpl : e.platform.magicAccessors = ({} : Platform).magicAccessors := by rw [X.admits.platform]
  obtain ⟨cc', hfcc, hcl⟩ := Cond.classLink_spec hown hclink e.platform hpl
  cases h7.symm.trans hfcc
  obtain ⟨hg₁, hwarm₁, hready₁⟩ := State.classEntry (e := e) X.warmed hcl
  generalize T.vm.noted g.method.cls index (.cls c7) = vm₁ at hg₁ hwarm₁ hready₁
  have hal : s.vm.Alike vm₁ := hwarm₁.alike
  obtain ⟨k7, hk7, hkind7⟩ := hk7
  obtain ⟨k0, cc0, hk0, hkind0⟩ := hk0
  obtain ⟨k7', hk7', he7⟩ := hal.2.2 _ _ hk7
  obtain ⟨k0', hk0', he0⟩ := hal.2.2 _ _ hk0
  have hkind7' : k7'.kind = .array c0 (.array .int) := by rw [he7]; exact hkind7
  have hkind0' : k0'.kind = .array cc0 .int := by rw [he0]; exact hkind0
  have X₁ := X.noted hwarm₁
  have X₂ := mSt_X (c7 := c7) (c0 := c0) (a := a) (b := b) X₁ hbase a
  obtain ⟨hr1, hr2⟩ := X.roomAbove hcells hslots
  obtain ⟨f1, f2, f3, f4, f5, f6⟩ := mSt_f (T.setVm vm₁) c7 c0 a b a
  have f2' : (mSt (T.setVm vm₁) c7 c0 a b a).heap[T.heap.size]? = some (arrV c7 a (fun j => .ref (T.heap.size + 1 + j))) := by
    refine f2.trans (congrArg some ?_)
    unfold mOut arrV
    congr 1
    congr 1
    funext j
    show (if (j : Nat) < a then _ else _) = _
    rw [if_pos j.isLt]
    rfl
  obtain ⟨t', a1, b1⟩ := kk (mSt (T.setVm vm₁) c7 c0 a b a).heap f1 f5 f2' f6 (mSt (T.setVm vm₁) c7 c0 a b a) rfl X₂
  refine ⟨t', ?_, b1⟩
  jvm_step X.here [hexec, hdg]
  have cold : ∀ {Q' : Unit → Pre} {E' : CtlPost} {d' : Bool} {acts' : List Action}, wp (multianewarray.sem index 2) Q' E' e d' acts' (T.setTop g) ↔ wp (multianewarray.sem index 2) Q' E' e d' acts' ((T.setVm vm₁).setTop g) := by
    intro Q' E' d' acts'
    simp only [multianewarray.sem, wp_bind']
    exact _root_.Jvm.W.resolveClassAt_transfer (s := T.setTop g) (State.method?_setTop g X.here.top) hg₁ hready₁
  rw [cold]
  have hs : (T.setVm vm₁).topJava?.isSome := X.here.top
  unfold multianewarray.sem
  simp only [wp_bind']
  rw [_root_.Jvm.W.resolveClassAt_ready (s := (T.setVm vm₁).setTop g) (State.method?_setTop g hs) hready₁]
  rw [wp_bind']
  refine (popN_top (f := g) (args := [.int (nI a), .int (nI b)]) hs (by rw [hstack]; rfl)).mpr ?_
  simp only [List.mapM_cons, List.mapM_nil, wp_bind', wp_pure', pure_bind]
  refine wp_rows (s := (T.setVm vm₁).setTop _) hk7' hkind7' hk0' hkind0' ha hbb (Launch.admits_arrayLengthLimit X.admits) (Launch.admits_maxHeapBytes X.admits) ?_ ?_ (fun d' acts' => ?_)
  · show T.heap.size + 1 + a ≤ _
    omega
  · show T.slotsUsed + a + a * b ≤ _
    omega
  · rw [mSt_top]
    simp only [wp_bind', _root_.Jvm.W.mark, _root_.Jvm.W.pushRef]
    have hs2 : (mSt (T.setVm vm₁) c7 c0 a b a).topJava?.isSome := X₂.here.top
    simp only [State.topJava?_setTop' _ hs2, Option.some.injEq, exists_eq_left', State.setTop_setTop]
    intro acts2
    rw [afterInstr_ok]
    exact a1
end
