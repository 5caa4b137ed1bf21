/-! ===== making the objects: a block of cells, one behind the other from h on ===== -/
def wB (h : Nat) (E : List va_E) : va_W := E.mapIdx (fun k e => (h + k, e))
theorem wB_i {h k : Nat} {E : List va_E} {e : va_E} (he : E[k]? = some e) : (wB h E)[k]? = some (h + k, e) := by
  unfold wB
  rw [List.getElem?_mapIdx, he]
  rfl
theorem wB_q {h k : Nat} {E : List va_E} {q : Nat × va_E} (hk : (wB h E)[k]? = some q) : ∃ e, E[k]? = some e ∧ q = (h + k, e) := by
  unfold wB at hk
  rw [List.getElem?_mapIdx] at hk
  cases he : E[k]? with
  | none => rw [he] at hk; cases hk
  | some e => rw [he] at hk; exact ⟨e, rfl, (Option.some.inj hk).symm⟩
theorem wB_len (h : Nat) (E : List va_E) : (wB h E).length = E.length := by unfold wB; exact List.length_mapIdx
theorem wB_D (h : Nat) (E : List va_E) : va_D (fun q => h ≤ q) (wB h E) := by
  refine ⟨fun i j p q hi hj e => ?_, fun k q hk => ?_⟩
  · obtain ⟨a, -, rfl⟩ := wB_q hi
    obtain ⟨b, -, rfl⟩ := wB_q hj
    have e : h + i = h + j := e
    omega
  · obtain ⟨a, -, rfl⟩ := wB_q hk
    exact Nat.le_add_right _ _
theorem wB_set {h k : Nat} {E : List va_E} {e0 e : va_E} (he : E[k]? = some e0) : (wB h E).set k (h + k, e) = wB h (E.set k e) := by
  apply List.ext_getElem?
  intro j
  by_cases hj : k = j
  · subst hj
    have hl : k < E.length := (List.getElem?_eq_some_iff.mp he).1
    rw [wB_i (show (E.set k e)[k]? = some e by rw [List.getElem?_set_self hl]), List.getElem?_set_self (by rw [wB_len]; exact hl)]
  · rw [List.getElem?_set_ne hj]
    unfold wB
    rw [List.getElem?_mapIdx, List.getElem?_mapIdx, List.getElem?_set_ne hj]
theorem wB_app (h : Nat) (E F : List va_E) : wB h (E ++ F) = wB h E ++ wB (h + E.length) F := by
  unfold wB
  rw [List.mapIdx_append]
  congr 1
  apply List.ext_getElem?
  intro j
  rw [List.getElem?_mapIdx, List.getElem?_mapIdx]
  cases F[j]? with
  | none => rfl
  | some e =>
    show some (h + (j + E.length), e) = some (h + E.length + j, e)
    rw [Nat.add_assoc, Nat.add_comm E.length j]
theorem wB_one (h : Nat) (e : va_E) : wB h [e] = [(h, e)] := rfl
theorem wB_get {D : va_G} {h k : Nat} {E : List va_E} {e : va_E} {H : Heap} (hP : va_P D vwCl (wB h E) H) (he : E[k]? = some e) : va_at D vwCl (h + k, e) H := hP k _ (wB_i he)
theorem wB_P {D : va_G} {h : Nat} {E : List va_E} {H : Heap} (hE : ∀ k e, E[k]? = some e → va_at D vwCl (h + k, e) H) : va_P D vwCl (wB h E) H := fun k q hk => by
  obtain ⟨e, he, rfl⟩ := wB_q hk
  exact hE k e he
theorem new_at {D : va_G} {h q : Nat} {E : List va_E} {e : va_E} {H : Heap} (hP : va_P D vwCl (wB h E ++ [(q, e)]) H) (hD : va_D (fun q => h ≤ q) (wB h E ++ [(q, e)])) (hz : H.size ≤ h + E.length + 1) : q = h + E.length := by
  have i1 : (wB h E ++ [(q, e)])[E.length]? = some (q, e) := by
    rw [List.getElem?_append_right (by rw [wB_len]; exact Nat.le_refl _), wB_len, Nat.sub_self]
    rfl
  have lt : q < H.size := (hP _ _ i1).lt
  have ge : h ≤ q := hD.2 _ _ i1
  by_cases hq : q < h + E.length
  · have hk : q - h < E.length := by omega
    have i2 : (wB h E ++ [(q, e)])[q - h]? = some (h + (q - h), E[q - h]) := by
      rw [List.getElem?_append_left (by rw [wB_len]; exact hk)]
      exact wB_i (List.getElem?_eq_getElem hk)
    have := hD.1 _ _ _ _ i1 i2 (show q = h + (q - h) by omega)
    omega
  · omega
theorem RA_fun {s : State} {c1 c2 : ClassId} {ty : FieldType} (h1 : va_RA s c1 ty) (h2 : va_RA s c2 ty) : c1 = c2 := by
  cases ty with
  | object C =>
    obtain ⟨_, _, -, -, -, a⟩ := h1
    obtain ⟨_, _, -, -, -, b⟩ := h2
    exact Option.some.inj (a.symm.trans b)
  | _ => exact Option.some.inj (h1.symm.trans h2)
/-! what the makers need besides -/
def nwc : List Cond := [.methodLinkNest RX8 29 yX1_init RX8, .methodLinkNest RX8 36 yX4_init RX8, .methodLinkNest RX8 54 yX3_init RX8, .methodLinkNest RX1 11 yX7_init RX8, .methodLinkNest RX4 26 yX0_init RX8]
def zB (cy : Nat → ClassId) (U : State) : Prop := va_AO RX2 U ∧ va_AO RX3 U ∧ va_AO RX6 U ∧ (∀ w ∈ nwc, va_Nw w U) ∧ ∃ k, U.vm.classes[cy 7]? = some k ∧ k.kind = .array (cy 0) (.array .int)
theorem nwc_tab : ∀ w ∈ nwc, w.onTables = true := by decide +kernel
theorem zB_warm {cy : Nat → ClassId} {s U : State} (hW : s.WarmedH U.vm) (h : zB cy s) : zB cy U := by
  obtain ⟨h1, h2, h3, h4, k, h5, h6⟩ := h
  obtain ⟨k', hk', he⟩ := hW.alike.2.2 _ _ h5
  refine ⟨va_AO.moved hW.alike h1, va_AO.moved hW.alike h2, va_AO.moved hW.alike h3, fun w hw => ?_, k', hk', by rw [he]; exact h6⟩
  have h9 := h4 w hw
  simp only [nwc, List.mem_cons, List.not_mem_nil, or_false] at hw
  rcases hw with rfl | rfl | rfl | rfl | rfl <;> exact va_Nw.warmM hW h9
theorem zB_calling {cy : Nat → ClassId} {U : State} {g : JFrame} {mk : MethodId} {a : Array Value} (h : zB cy U) : zB cy (U.calling g mk a) := by
  obtain ⟨h1, h2, h3, h4, h5⟩ := h
  have e : U.vm.Alike (U.calling g mk a).vm := Vm.Alike.refl U.vm
  exact ⟨va_AO.moved e h1, va_AO.moved e h2, va_AO.moved e h3, fun w hw => va_Nw.same (u := U) (nwc_tab w hw) rfl (h4 w hw), h5⟩
def Bb (p : Program) (s : State) (m : MethodId) (args : Array Value) (meth : Method) (c : Code) (D : va_G) (cy : Nat → ClassId) (h : Nat) (cc : ByteArray) (nL : Nat) (own : String) : Prop :=
  p.tables.exec = Jvm.exec ∧ c.code = cc ∧ c.maxLocals = nL ∧ s.vm.findClass own = some m.cls ∧ (∀ w ∈ gw, w.before args s = true) ∧ va_K D vwCl (tyl cy) s ∧ zB cy s ∧ h ≤ s.heap.size ∧ meth.locks = false
/-- from every heap that holds the block E from h on, and ends there, at pc with these locals and this stack, the machine comes to Q -/
def BW (p : Program) (l : Launch) (e : Env) (R : Room) (s : State) (m : MethodId) (args : Array Value) (below : List Frame) (meth : Method) (c : Code) (Q : State → Prop) (D : va_G) (h cn sn nL pc : Nat) (lv : List (Nat × Value)) (st : List Value) (E : List va_E) : Prop :=
  s.heap.size + cn = h + E.length → ∀ (H : Heap) (locs : List Loc) (ls : Array Slot), va_P D vwCl (wB h E) H → va_S (fun q => h ≤ q) s.heap H locs → lv_has ls nL lv → W p l e R s m args below meth c H locs cn sn Q (F0 m pc ls st)
def QB (D : va_G) (h : Nat) (E1 : List va_E) : Array Value → State → Outcome → State → Prop := fun _ st oc t => oc = .returned none ∧ va_P D vwCl (wB h E1) t.heap ∧ va_F (fun q => h ≤ q) st t
/-- the contract of a maker: from the new cell at h, the heap's last, it lays the block E1 -/
def CtrB (l : Launch) (y : MethodName) (cc : ByteArray) (nL : Nat) (rm : Room) (D : va_G) (cy : Nat → ClassId) (h : Nat) (av : List Value) (e0 : va_E) (E1 : List va_E) (mc ms : Nat) : Prop :=
  Met l y (Cond.code y cc nL none :: gw) rm (va_Pc av (fun U => U.heap.size = h + 1 ∧ va_P D vwCl (wB h [e0]) U.heap ∧ va_K D vwCl (tyl cy) U ∧ zB cy U)) (QB D h E1) mc ms (fun q => h ≤ q)
theorem CtrB.of {l : Launch} {y : MethodName} {cc : ByteArray} {nL : Nat} {rm : Room} {D : va_G} {cy : Nat → ClassId} {h : Nat} {av : List Value} {e0 : va_E} {E1 : List va_E} {mc ms : Nat} (own : String) (hy : plainFor y = true) (ho : y.cls = own) (hnm : y.name = "<init>") (lv : List (Nat × Value)) (hlv : lv_args 0 av = lv) (hn : (lg_sl av).length ≤ nL)
    (body : ∀ (p : Program) (e : Env) (s : State) (m : MethodId) (below : List Frame) (meth : Method) (c : Code), Bb p s m av.toArray meth c D cy h cc nL own → meth.name = "<init>" → meth.sig.returnType = none → BW p l e rm s m av.toArray below meth c (MQ below (QB D h E1) av.toArray s mc ms (fun q => h ≤ q)) D h 0 0 nL 0 lv [] [e0]) : CtrB l y cc nL rm D cy h av e0 E1 mc ms := by
  unfold CtrB Met
  refine MetFree.of_bodySF (code := cc) (maxLocals := nL) (ret := none) hy ?_ ?_
  · intro args s m h hn'
    obtain ⟨meth, c, h1, h2, h3, h4, h5, h6, -, -⟩ := Cond.code_spec hn' (atoms_spec (ws := Cond.code y cc nL none :: gw) h _ List.mem_cons_self)
    exact ⟨meth, c, h1, h2, h3, h4, h5, h6⟩
  · intro p e s m args below meth c s₁ B hml hv _
    have hh0 : s₁.heap = s.heap := by rw [B.state]; rfl
    obtain ⟨rfl, hsz, hP, hK, hZ⟩ := hv
    have hts := atoms_spec (ws := Cond.code y cc nL none :: gw) B.pre
    have hown : s.vm.findClass own = some m.cls := by rw [← ho]; exact findClass_of_methodNamed B.named
    have hin : meth.name = "<init>" := by rw [← hnm]; exact (name_of_methodNamed B.named B.method).1
    have hl := lv_entry av (n := nL) hn
    rw [hlv] at hl
    have hw := body p e s m below meth c ⟨B.exec, B.bytes, hml, hown, fun w hw => hts w (List.mem_cons_of_mem _ hw), hK, hZ, by omega, B.notSynchronized⟩ hin B.returns (by rw [hsz]; rfl) s.heap [] _ hP va_S.rf hl
    rw [← lg_entry_eq] at hw
    obtain ⟨t, a1, o, b1, b2, b3⟩ := hw s₁ hh0 (Stand.of_body B)
    exact ⟨t, o, a1, b1, b2, ⟨b3.1, b3.2⟩⟩
section BR
variable {p : Program} {l : Launch} {e : Env} {R : Room} {s : State} {m : MethodId} {args : Array Value} {below : List Frame} {meth : Method} {c : Code} {Q : State → Prop} {D : va_G} {cy : Nat → ClassId} {h cn sn nL pc : Nat} {lv lv' : List (Nat × Value)} {rest : List Value} {E E' : List va_E} {cc : ByteArray} {own : String}
theorem W_sz {H : Heap} {locs : List Loc} {cells slots : Nat} {g : JFrame} (k : H.size ≤ s.heap.size + cells → W p l e R s m args below meth c H locs cells slots Q g) : W p l e R s m args below meth c H locs cells slots Q g := fun T hT X => k (by rw [← hT]; exact X.heapSize) T hT X
theorem b_iconst (B : Bb p s m args meth c D cy h cc nL own) {n : Int} {v : Int32} (d : decode cc pc = .ok (.iconst n, 1)) (hv : Int32.ofInt n = v) (kk : BW p l e R s m args below meth c Q D h cn sn nL (pc + 1) lv (.int v :: rest) E) : BW p l e R s m args below meth c Q D h cn sn nL pc lv rest E := fun hz H locs ls hP hS hl => lv_iconst B.1 B.2.1 d hv (kk hz H locs ls hP hS hl)
theorem b_bipush (B : Bb p s m args meth c D cy h cc nL own) {n : Int} {v : Int32} (d : decode cc pc = .ok (.bipush n, 2)) (hv : (Int8.ofInt n).toInt32 = v) (kk : BW p l e R s m args below meth c Q D h cn sn nL (pc + 2) lv (.int v :: rest) E) : BW p l e R s m args below meth c Q D h cn sn nL pc lv rest E := fun hz H locs ls hP hS hl => lv_bipush B.1 B.2.1 d hv (kk hz H locs ls hP hS hl)
theorem b_sipush (B : Bb p s m args meth c D cy h cc nL own) {n : Int} {v : Int32} (d : decode cc pc = .ok (.sipush n, 3)) (hv : (Int16.ofInt n).toInt32 = v) (kk : BW p l e R s m args below meth c Q D h cn sn nL (pc + 3) lv (.int v :: rest) E) : BW p l e R s m args below meth c Q D h cn sn nL pc lv rest E := fun hz H locs ls hP hS hl => lv_sipush B.1 B.2.1 d hv (kk hz H locs ls hP hS hl)
theorem b_iload_n (B : Bb p s m args meth c D cy h cc nL own) {k : Fin 4} {i : Nat} {x : Int32} (d : decode cc pc = .ok (.iload_n k, 1)) (j : Nat) (hlv : lv[j]? = some (i, .int x)) (hi : (k : Nat) = i) (kk : BW p l e R s m args below meth c Q D h cn sn nL (pc + 1) lv (.int x :: rest) E) : BW p l e R s m args below meth c Q D h cn sn nL pc lv rest E := fun hz H locs ls hP hS hl => lv_iload_n B.1 B.2.1 d hi (lv_at hl j hlv) (kk hz H locs ls hP hS hl)
theorem b_aload_n (B : Bb p s m args meth c D cy h cc nL own) {k : Fin 4} {i : Nat} {x : Nat} (d : decode cc pc = .ok (.aload_n k, 1)) (j : Nat) (hlv : lv[j]? = some (i, .ref x)) (hi : (k : Nat) = i) (kk : BW p l e R s m args below meth c Q D h cn sn nL (pc + 1) lv (.ref x :: rest) E) : BW p l e R s m args below meth c Q D h cn sn nL pc lv rest E := fun hz H locs ls hP hS hl => lv_aload_n B.1 B.2.1 d hi (lv_at hl j hlv) (kk hz H locs ls hP hS hl)
theorem b_istore_n (B : Bb p s m args meth c D cy h cc nL own) {k : Fin 4} {i : Nat} {x : Int32} (d : decode cc pc = .ok (.istore_n k, 1)) (hi : (k : Nat) = i) (hn : i < nL) (hlv : (i, Value.int x) :: lv.filter (fun q => !(q.1 == i) && !(q.1 + 1 == i && q.2.category == 2)) = lv') (kk : BW p l e R s m args below meth c Q D h cn sn nL (pc + 1) lv' rest E) : BW p l e R s m args below meth c Q D h cn sn nL pc lv (.int x :: rest) E := fun hz H locs ls hP hS hl => lv_istore_n B.1 B.2.1 d hi hl hn hlv (fun ls' h' => kk hz H locs ls' hP hS h')
theorem b_astore_n (B : Bb p s m args meth c D cy h cc nL own) {k : Fin 4} {i : Nat} {x : Nat} (d : decode cc pc = .ok (.astore_n k, 1)) (hi : (k : Nat) = i) (hn : i < nL) (hlv : (i, Value.ref x) :: lv.filter (fun q => !(q.1 == i) && !(q.1 + 1 == i && q.2.category == 2)) = lv') (kk : BW p l e R s m args below meth c Q D h cn sn nL (pc + 1) lv' rest E) : BW p l e R s m args below meth c Q D h cn sn nL pc lv (.ref x :: rest) E := fun hz H locs ls hP hS hl => lv_astore_n B.1 B.2.1 d hi hl hn hlv (fun ls' h' => kk hz H locs ls' hP hS h')
theorem b_iinc (B : Bb p s m args meth c D cy h cc nL own) {i k : Nat} {n : Int} {x v : Int32} (d : decode cc pc = .ok (.iinc i n, 3)) (hk : lv[k]? = some (i, .int x)) (hv : x + Int32.ofInt n = v) (hn : i < nL) (hlv : (i, Value.int v) :: lv.filter (fun q => !(q.1 == i) && !(q.1 + 1 == i && q.2.category == 2)) = lv') (kk : BW p l e R s m args below meth c Q D h cn sn nL (pc + 3) lv' rest E) : BW p l e R s m args below meth c Q D h cn sn nL pc lv rest E := fun hz H locs ls hP hS hl => lv_iinc B.1 B.2.1 d hl hk hv hn hlv (fun ls' h' => kk hz H locs ls' hP hS h')
theorem b_dup (B : Bb p s m args meth c D cy h cc nL own) {v : Value} (d : decode cc pc = .ok (.dup, 1)) (hv : v.category = 1) (kk : BW p l e R s m args below meth c Q D h cn sn nL (pc + 1) lv (v :: v :: rest) E) : BW p l e R s m args below meth c Q D h cn sn nL pc lv (v :: rest) E := fun hz H locs ls hP hS hl => lv_dup B.1 B.2.1 d hv (kk hz H locs ls hP hS hl)
theorem b_icmp_ge (B : Bb p s m args meth c D cy h cc nL own) {x y : Int32} {off : Int} (tgt : Nat) (d : decode cc pc = .ok (.if_icmp .ge off, 3)) (ht : (pc : Int) + off = (tgt : Int)) (kt : y ≤ x → BW p l e R s m args below meth c Q D h cn sn nL tgt lv rest E) (kf : ¬ (y ≤ x) → BW p l e R s m args below meth c Q D h cn sn nL (pc + 3) lv rest E) : BW p l e R s m args below meth c Q D h cn sn nL pc lv (.int y :: .int x :: rest) E := fun hz H locs ls hP hS hl => lv_icmp_ge B.1 B.2.1 d ht (fun q => kt q hz H locs ls hP hS hl) (fun q => kf q hz H locs ls hP hS hl)
theorem b_goto (B : Bb p s m args meth c D cy h cc nL own) {off : Int} (tgt : Nat) (d : decode cc pc = .ok (.goto off, 3)) (ht : (pc : Int) + off = (tgt : Int)) (kk : BW p l e R s m args below meth c Q D h cn sn nL tgt lv rest E) : BW p l e R s m args below meth c Q D h cn sn nL pc lv rest E := fun hz H locs ls hP hS hl => lv_goto B.1 B.2.1 d ht (kk hz H locs ls hP hS hl)
theorem b_ret {E1 : List va_E} (B : Bb p s m args meth c D cy h cc nL own) (hr : meth.sig.returnType = none) (d : decode cc pc = .ok (.return_, 1)) {mc ms : Nat} (hm : cn ≤ mc) (hs : sn ≤ ms) (hE : E = E1) : BW p l e R s m args below meth c (MQ below (QB D h E1) args s mc ms (fun q => h ≤ q)) D h cn sn nL pc lv [] E := fun hz H locs ls hP hS hl => by
  subst hE
  exact W.widen hm hs (W.vret B.1 B.2.1 hr (fun t ht hW => ⟨rfl, by rw [ht]; exact hP, hS.F ht⟩) hS.2.2 d B.2.2.2.2.2.2.2.2)
theorem b_obj (B : Bb p s m args meth c D cy h cc nL own) {idx a : Nat} (hl : Cond.methodLink own idx objectInit ∈ gw) (hf : 1 ≤ R.frames) (hlo : (rest.map fun v => v.category).sum + 12 ≤ R.locals) (d : decode cc pc = .ok (.invokespecial idx, 3)) (kk : BW p l e R s m args below meth c Q D h cn sn nL (pc + 3) lv rest E) : BW p l e R s m args below meth c Q D h cn sn nL pc lv (.ref a :: rest) E := fun hz H locs ls hP hS hl0 => by
  obtain ⟨hx, hb, hml, hown, hts, hK, hZ, hh, hlk⟩ := B
  exact W.objInit hx hb hown (hts _ hl) (hts _ ki_obj) (hts _ kc_obj) rfl (by rw [hml]; exact hl0.1) rfl d hf (by show 2 * 0 + _ + 12 ≤ _; omega) (kk hz H locs ls hP hS hl0)
theorem b_new (B : Bb p s m args meth c D cy h cc nL own) {index ci N : Nat} {C : String} {T : u_T} {ty : Nat → FieldType} {fs : List Value} (hin : ∀ w ∈ u_ws C T N, w ∈ gw) (hty : ∀ k, k < N → parseFieldDescriptor (T k).2.2.1 = some (ty k)) (hcl : Cond.classLink own index C ∈ gw) (hins : Cond.instantiable C N ∈ gw) (hini : Cond.initialized C ∈ gw) (hc : vwCl[ci]? = some (C, T, N)) (hfs : ∀ j, j < N → defaultValue (ty j) = vp_V fs j) (hR : cn + 1 ≤ R.cells ∧ sn + N ≤ R.slots) (d : decode cc pc = .ok (.new index, 3)) {k : Nat} (hk : E.length = k)
    (kk : BW p l e R s m args below meth c Q D h (cn + 1) (sn + N) nL (pc + 3) lv (.ref (h + k) :: rest) (E ++ [.inr (ci, fs)])) : BW p l e R s m args below meth c Q D h cn sn nL pc lv rest E := fun hz H locs ls hP hS hl => by
  subst hk
  obtain ⟨hx, hb, hml, hown, hts, hK, hZ, hh, hlk⟩ := B
  refine va_new (C := C) (T := T) (N := N) (ci := ci) (fs := fs) hx hb hts hin ty hty hown (hts _ hcl) (hts _ hins) (hts _ hini) hK hP (wB_D h E) hS (fun q hq => Nat.le_trans hh hq) hc hfs hR.1 hR.2 d (fun q H1 hP1 hD1 hS1 => ?_)
  refine W_sz (fun hsz => ?_)
  have eq := new_at hP1 hD1 (by omega)
  subst eq
  have hP2 : va_P D vwCl (wB h (E ++ [.inr (ci, fs)])) H1 := by rw [wB_app]; exact hP1
  exact kk (by rw [List.length_append]; show _ = h + (E.length + 1); omega) H1 locs ls hP2 hS1 hl
theorem b_newa (B : Bb p s m args meth c D cy h cc nL own) {atype : ArrayType} {ty : FieldType} {t : Nat} {n : Int32} {N' : Nat} {a0 : vp_A} (hw : Cond.arrayClass (newarray.typeOf atype) ∈ gw) (hty : newarray.typeOf atype = ty) (ht : (tyl cy)[t]? = some (cy t, ty)) (ha : ∀ cA : ClassId, vp_cell cA a0 = arrV cA N' (fun _ => defaultValue ty)) (hn : ¬ n < 0) (hN : n.toNatClampNeg = N') (hby : N' * componentBytes ty ≤ 536870912) (hR : cn + 1 ≤ R.cells ∧ sn + N' ≤ R.slots) (d : decode cc pc = .ok (.newarray atype, 2)) {k : Nat} (hk : E.length = k)
    (kk : BW p l e R s m args below meth c Q D h (cn + 1) (sn + N') nL (pc + 2) lv (.ref (h + k) :: rest) (E ++ [.inl (cy t, a0)])) : BW p l e R s m args below meth c Q D h cn sn nL pc lv (.int n :: rest) E := fun hz H locs ls hP hS hl => by
  subst hk
  obtain ⟨hx, hb, hml, hown, hts, hK, hZ, hh, hlk⟩ := B
  refine va_newa hx hb (hts _ hw) hty hK hP (wB_D h E) hS (fun q hq => Nat.le_trans hh hq) ha hn hN hby hR.1 hR.2 d (fun q cA H1 hK1 hP1 hD1 hS1 => ?_)
  have ec : cA = cy t := RA_fun (hK1.2 (tyl cy).length (cA, ty) (by rw [List.getElem?_append_right (Nat.le_refl _), Nat.sub_self]; rfl)).2 (hK.2 t _ ht).2
  subst ec
  refine W_sz (fun hsz => ?_)
  have eq := new_at hP1 hD1 (by omega)
  subst eq
  have hP2 : va_P D vwCl (wB h (E ++ [.inl (cy t, a0)])) H1 := by rw [wB_app]; exact hP1
  exact kk (by rw [List.length_append]; show _ = h + (E.length + 1); omega) H1 locs ls hP2 hS1 hl
theorem b_newq (B : Bb p s m args meth c D cy h cc nL own) {C : String} {index t : Nat} {n : Int32} {N' : Nat} (hcl : Cond.classLink own index C ∈ gw) (hao : va_AO C s) (ht : (tyl cy)[t]? = some (cy t, .object C)) (hn : ¬ n < 0) (hN : n.toNatClampNeg = N') (hby : N' * 4 ≤ 536870912) (hR : cn + 1 ≤ R.cells ∧ sn + N' ≤ R.slots) (d : decode cc pc = .ok (.anewarray index, 3)) {k : Nat} (hk : E.length = k)
    (kk : BW p l e R s m args below meth c Q D h (cn + 1) (sn + N') nL (pc + 3) lv (.ref (h + k) :: rest) (E ++ [.inl (cy t, N', .inr (.inr (.inr (.inr (fun _ => none)))))])) : BW p l e R s m args below meth c Q D h cn sn nL pc lv (.int n :: rest) E := fun hz H locs ls hP hS hl => by
  subst hk
  obtain ⟨hx, hb, hml, hown, hts, hK, hZ, hh, hlk⟩ := B
  refine va_newq hx hb hown (hts _ hcl) hao hK hP (wB_D h E) hS (fun q hq => Nat.le_trans hh hq) hn hN hby hR.1 hR.2 d (fun q cA H1 hK1 hP1 hD1 hS1 => ?_)
  have ec : cA = cy t := RA_fun (hK1.2 (tyl cy).length (cA, .object C) (by rw [List.getElem?_append_right (Nat.le_refl _), Nat.sub_self]; rfl)).2 (hK.2 t _ ht).2
  subst ec
  refine W_sz (fun hsz => ?_)
  have eq := new_at hP1 hD1 (by omega)
  subst eq
  have hP2 : va_P D vwCl (wB h (E ++ [.inl (cy t, N', .inr (.inr (.inr (.inr (fun _ => none)))))])) H1 := by rw [wB_app]; exact hP1
  exact kk (by rw [List.length_append]; show _ = h + (E.length + 1); omega) H1 locs ls hP2 hS1 hl
theorem b_get (B : Bb p s m args meth c D cy h cc nL own) {k a ci N j index : Nat} {fs : List Value} {C ref : String} {T : u_T} {v : Value} (ha : h + k = a) (he : E[k]? = some (.inr (ci, fs))) (hc : vwCl[ci]? = some (C, T, N)) (hj : j < N) (hv : fs[j]? = some v) (hin : ∀ w ∈ u_ws C T N, w ∈ gw) (hr : (T j).1 = ref) (hlink : Cond.fieldLink own index ref (T j).2.1 (T j).2.2.1 ∈ gw) (d : decode cc pc = .ok (.getfield index, 3)) (kk : BW p l e R s m args below meth c Q D h cn sn nL (pc + 3) lv (v :: rest) E) : BW p l e R s m args below meth c Q D h cn sn nL pc lv (.ref a :: rest) E := fun hz H locs ls hP hS hl => by
  subst ha; subst hr
  obtain ⟨hx, hb, hml, hown, hts, hK, hZ, hh, hlk⟩ := B
  exact va_get hx hb hts hin hown hK hP k (wB_i he) hc j hj (hts _ hlink) (fun _ h9 => h9) hv d (kk hz H locs ls hP hS hl)
theorem b_put (B : Bb p s m args meth c D cy h cc nL own) {k a ci N j index : Nat} {fs : List Value} {C ref : String} {T : u_T} {ty0 : Nat → FieldType} {v : Value} (ha : h + k = a) (he : E[k]? = some (.inr (ci, fs))) (hc : vwCl[ci]? = some (C, T, N)) (hj : j < N) (hl : j < fs.length) (hin : ∀ w ∈ u_ws C T N, w ∈ gw) (hty : ∀ k, k < N → parseFieldDescriptor (T k).2.2.1 = some (ty0 k)) (hnm : ∀ a, a < N → ∀ b, b < N → a ≠ b → (T a).2.1 ≠ (T b).2.1) (hr : (T j).1 = ref) (hlink : Cond.fieldLink own index ref (T j).2.1 (T j).2.2.1 ∈ gw) (hfin : (T j).2.2.2 = false) (hn : narrow (ty0 j) v = v) (hfit : fits (ty0 j) v = true) (hE : E.set k (.inr (ci, fs.set j v)) = E') (d : decode cc pc = .ok (.putfield index, 3)) (kk : BW p l e R s m args below meth c Q D h cn sn nL (pc + 3) lv rest E') : BW p l e R s m args below meth c Q D h cn sn nL pc lv (v :: .ref a :: rest) E := fun hz H locs ls hP hS hl0 => by
  subst ha; subst hr; subst hE
  obtain ⟨hx, hb, hml, hown, hts, hK, hZ, hh, hlk⟩ := B
  refine va_put (ty := ty0 j) hx hb hts hin ty0 hty hnm hown hK hP (wB_D h E) hS k (wB_i he) hc j hj (hts _ hlink) (fun _ h9 => h9) hfin (hty j hj) hn hfit hl d (fun H1 locs1 hP1 _ hS1 => ?_)
  rw [wB_set he] at hP1
  exact kk (by rw [List.length_set]; exact hz) H1 locs1 ls hP1 hS1 hl0
theorem b_putF (B : Bb p s m args meth c D cy h cc nL own) (hin2 : meth.name = "<init>") {k a ci N j index : Nat} {fs : List Value} {C ref : String} {T : u_T} {ty0 : Nat → FieldType} {v : Value} (ha : h + k = a) (he : E[k]? = some (.inr (ci, fs))) (hc : vwCl[ci]? = some (C, T, N)) (hj : j < N) (hl : j < fs.length) (hin : ∀ w ∈ u_ws C T N, w ∈ gw) (hty : ∀ k, k < N → parseFieldDescriptor (T k).2.2.1 = some (ty0 k)) (hnm : ∀ a, a < N → ∀ b, b < N → a ≠ b → (T a).2.1 ≠ (T b).2.1) (hr : (T j).1 = ref) (hlink : Cond.fieldLink own index ref (T j).2.1 (T j).2.2.1 ∈ gw) (hfin : (T j).2.2.2 = true) (hdecl : (T j).1 = own) (hn : narrow (ty0 j) v = v) (hfit : fits (ty0 j) v = true) (hE : E.set k (.inr (ci, fs.set j v)) = E') (d : decode cc pc = .ok (.putfield index, 3)) (kk : BW p l e R s m args below meth c Q D h cn sn nL (pc + 3) lv rest E') : BW p l e R s m args below meth c Q D h cn sn nL pc lv (v :: .ref a :: rest) E := fun hz H locs ls hP hS hl0 => by
  subst ha; subst hr; subst hE
  obtain ⟨hx, hb, hml, hown, hts, hK, hZ, hh, hlk⟩ := B
  refine va_putF (ty := ty0 j) hx hb hts hin ty0 hty hnm hown hK hP (wB_D h E) hS k (wB_i he) hc j hj (hts _ hlink) (fun _ h9 => h9) hfin hin2 hdecl (hty j hj) hn hfit hl d (fun H1 locs1 hP1 _ hS1 => ?_)
  rw [wB_set he] at hP1
  exact kk (by rw [List.length_set]; exact hz) H1 locs1 ls hP1 hS1 hl0
theorem b_iast (B : Bb p s m args meth c D cy h cc nL own) {k a n : Nat} {f : Nat → Int32} {i x : Int32} (ha : h + k = a) (he : E[k]? = some (.inl (cy 0, n, .inl f))) (hin : vp_in i n) (hE : E.set k (.inl (cy 0, n, .inl (upd f i.toNatClampNeg x))) = E') (d : decode cc pc = .ok (.iastore, 1)) (kk : BW p l e R s m args below meth c Q D h cn sn nL (pc + 1) lv rest E') : BW p l e R s m args below meth c Q D h cn sn nL pc lv (.int x :: .int i :: .ref a :: rest) E := fun hz H locs ls hP hS hl0 => by
  subst ha; subst hE
  obtain ⟨hx, hb, hml, hown, hts, hK, hZ, hh, hlk⟩ := B
  refine va_iast hx hb hK hP (wB_D h E) hS k 0 (wB_i he) rfl hin d (fun H1 locs1 hP1 _ hS1 => ?_)
  rw [wB_set he] at hP1
  exact kk (by rw [List.length_set]; exact hz) H1 locs1 ls hP1 hS1 hl0
theorem b_astq (B : Bb p s m args meth c D cy h cc nL own) {k a n t kv v ci : Nat} {r : vw_C} {vs : List Value} {f : Nat → Option Nat} {i : Int32} (ha : h + k = a) (he : E[k]? = some (.inl (cy t, n, .inr (.inr (.inr (.inr f)))))) (ht : (tyl cy)[t]? = some (cy t, .object r.1)) (hav : h + kv = v) (hv : E[kv]? = some (.inr (ci, vs))) (hc : vwCl[ci]? = some r) (hin : vp_in i n) (hE : E.set k (.inl (cy t, n, .inr (.inr (.inr (.inr (va_up f i.toNatClampNeg (some v))))))) = E') (d : decode cc pc = .ok (.aastore, 1)) (kk : BW p l e R s m args below meth c Q D h cn sn nL (pc + 1) lv rest E') : BW p l e R s m args below meth c Q D h cn sn nL pc lv (.ref v :: .int i :: .ref a :: rest) E := fun hz H locs ls hP hS hl0 => by
  subst ha; subst hav; subst hE
  obtain ⟨hx, hb, hml, hown, hts, hK, hZ, hh, hlk⟩ := B
  refine va_astq hx hb hK hP (wB_D h E) hS k t kv ci (wB_i he) ht (wB_i hv) hc hin d (fun H1 locs1 hP1 _ hS1 => ?_)
  rw [wB_set he] at hP1
  exact kk (by rw [List.length_set]; exact hz) H1 locs1 ls hP1 hS1 hl0
end BR
