/-! the words of the tables that hold in every state that the machine comes to -/
def gw : List Cond := lw_tbl.filter goodWord
theorem gw_mem {w : Cond} (i : Nat) (h : lw_tbl[i]? = some w) (hg : goodWord w = true) : w ∈ gw := List.mem_filter.mpr ⟨List.mem_of_getElem? h, hg⟩
theorem gw_good {big : List Cond} (h : ∀ w ∈ gw, w ∈ big) : GoodIn big gw := fun w hw => ⟨h w hw, good_of_word (List.mem_filter.mp hw).2⟩
theorem gw_one {w : Cond} (h : w ∈ gw) : w ∈ gw ∧ ((w.onTables && w.keeps) = true ∨ ∃ ty, w = .arrayClass ty) := ⟨h, good_of_word (List.mem_filter.mp h).2⟩
/-! the state of the two objects: ints by region, number, place; longs likewise -/
abbrev HS : Type := (Nat → Nat → Nat → Int32) × (Nat → Nat → Nat → Int64)
def gi (s : HS) (c k j : Nat) : Int32 := s.1 c k j
def gl (s : HS) (c k j : Nat) : Int64 := s.2 c k j
def ui (s : HS) (c k j : Nat) (v : Int32) : HS := (fun c' k' => if c' = c ∧ k' = k then upd (s.1 c k) j v else s.1 c' k', s.2)
def ul (s : HS) (c k j : Nat) (v : Int64) : HS := (s.1, fun c' k' => if c' = c ∧ k' = k then vp_updL (s.2 c k) j v else s.2 c' k')
theorem ui_at (s : HS) (c k j : Nat) (v : Int32) : (ui s c k j v).1 c k = upd (s.1 c k) j v := by simp [ui]
theorem ui_ne (s : HS) (c k j : Nat) (v : Int32) {c' k' : Nat} (h : ¬ (c' = c ∧ k' = k)) : (ui s c k j v).1 c' k' = s.1 c' k' := by simp only [ui]; rw [if_neg h]
theorem ul_at (s : HS) (c k j : Nat) (v : Int64) : (ul s c k j v).2 c k = vp_updL (s.2 c k) j v := by simp [ul]
theorem ul_ne (s : HS) (c k j : Nat) (v : Int64) {c' k' : Nat} (h : ¬ (c' = c ∧ k' = k)) : (ul s c k j v).2 c' k' = s.2 c' k' := by simp only [ul]; rw [if_neg h]
def mc (cs : List (Nat × Nat)) (c k : Nat) : Bool := cs.contains (c, k)
theorem mc_mem {cs : List (Nat × Nat)} {c k : Nat} (h : mc cs c k = true) : (c, k) ∈ cs := by simpa [mc] using h
def inb (i : Int32) (n : Nat) : Bool := decide (0 ≤ i.toInt) && decide (i.toInt < (n : Int))
theorem inb_in {i : Int32} {n : Nat} (h : inb i n = true) : vp_in i n := by
  simp only [inb, Bool.and_eq_true, decide_eq_true_eq] at h
  exact vp_in_iff.mpr h
/-! the pieces that the functions are made of -/
def lt_ {α β : Type} (x : α) (k : α → β) : β := k x
def ck {α : Type} (b : Bool) (x : Option α) : Option α := match b with
  | true => x
  | false => none
def ob {α β : Type} (x : Option (α × HS)) (k : α → HS → Option β) : Option β := match x with
  | some q => k q.1 q.2
  | none => none
theorem lt_e {α β : Type} {x : α} {k : α → β} {y : β} (h : lt_ x k = y) : ∃ z, z = x ∧ k z = y := ⟨x, rfl, h⟩
theorem ck_e {α : Type} {b : Bool} {x : Option α} {y : α} (h : ck b x = some y) : b = true ∧ x = some y := by
  cases b with
  | true => exact ⟨rfl, h⟩
  | false => cases h
theorem ob_e {α β : Type} {x : Option (α × HS)} {k : α → HS → Option β} {y : β} (h : ob x k = some y) : ∃ r s, x = some (r, s) ∧ k r s = some y := by
  cases x with
  | some q => exact ⟨q.1, q.2, rfl, h⟩
  | none => cases h
theorem if_t {α : Type} {c : Prop} [Decidable c] {a b y : α} (h : (if c then a else b) = y) (hc : c) : a = y := by rw [if_pos hc] at h; exact h
theorem if_f {α : Type} {c : Prop} [Decidable c] {a b y : α} (h : (if c then a else b) = y) (hc : ¬ c) : b = y := by rw [if_neg hc] at h; exact h
/-- 0 or 1 -/
def b01 (v : Int32) : Bool := decide (v = 0) || decide (v = 1)
theorem b01_n {v : Int32} (h : b01 v = true) : narrow .boolean (.int v) = .int v := by
  simp only [b01, Bool.or_eq_true, decide_eq_true_eq] at h
  rcases h with rfl | rfl <;> decide +kernel
theorem some_e {α : Type} {a b : α} {s t : HS} (h : some (a, s) = some (b, t)) : a = b ∧ s = t := by cases h; exact ⟨rfl, rfl⟩
def gn31 (k : Nat) : Nat := match k with
  | 0 => 208
  | 1 => 4
  | 2 => 4
  | 3 => 6
  | 4 => 6
  | 5 => 6
  | 6 => 7
  | 7 => 7
  | 8 => 7
  | 9 => 7
  | 10 => 7
  | 11 => 7
  | 12 => 7
  | 13 => 7
  | 14 => 7
  | 15 => 7
  | 16 => 6
  | 17 => 24
  | 18 => 500
  | 19 => 96
  | 20 => 7
  | 21 => 7
  | 22 => 7
  | 23 => 7
  | _ => 4
def gn32 (k : Nat) : Nat := match k with
  | 0 => 312
  | _ => 512
/-- what a cell holds: region c, number k, its ints f, its longs g -/
def sh (cy : Nat → ClassId) (ad : Nat → Nat → Nat) (c k : Nat) (f : Nat → Int32) (g : Nat → Int64) : va_E := match c with
  | 0 => .inr (8, [.ref (ad 1 0), .ref (ad 2 0), .ref (ad 3 0), .ref (ad 8 0), .ref (ad 12 0), .ref (ad 20 (f 5).toNatClampNeg), .ref (ad 20 (f 6).toNatClampNeg), .int (f 7), .int (f 8), .int (f 9), .int (f 10)])
  | 1 => .inl (cy 4, 4, .inr (.inr (.inr (.inr (fun j => some (ad 4 j))))))
  | 2 => .inl (cy 5, 6, .inr (.inr (.inr (.inr (fun j => some (ad 6 j))))))
  | 3 => .inl (cy 6, 7, .inr (.inr (.inr (.inr (fun j => some (ad 7 j))))))
  | 4 => .inr (2, [.int (f 0), .ref (ad 5 k), .int (f 2), .int (f 3)])
  | 5 => .inl (cy 0, 52, .inl f)
  | 6 => .inr (3, [.int (f 0), .int (f 1), .int (f 2)])
  | 7 => .inr (6, [.int (f 0), .int (f 1), .int (f 2), .int (f 3), .int (f 4), .int (f 5), .int (f 6), .int (f 7), .int (f 8), .int (f 9), .int (f 10)])
  | 8 => .inr (1, [.ref (ad 9 0), .int (f 1), .int (f 2), .int (f 3), .ref (ad 11 0)])
  | 9 => .inr (7, [.int (f 0), .int (f 1), .int (f 2), .int (f 3), .ref (ad 10 0), .int (f 5)])
  | 10 => .inl (cy 1, 500, .inl f)
  | 11 => .inl (cy 0, 3, .inl f)
  | 12 => .inr (4, [.int (f 0), .int (f 1), .ref (ad 13 0), .ref (ad 13 1), .ref (ad 13 2), .ref (ad 13 3), .int (f 6), .ref (ad 14 0), .ref (ad 15 0), .ref (ad 16 0), .ref (ad 16 1), .ref (ad 16 2), .ref (ad 17 0), .ref (ad 17 1), .ref (ad 18 0)])
  | 13 => .inl (cy 0, 7, .inl f)
  | 14 => .inr (0, [.int (f 0), .int (f 1)])
  | 15 => .inl (cy 3, 128, .inl f)
  | 16 => .inl (cy 0, 128, .inl f)
  | 17 => .inl (cy 2, 128, .inr (.inl g))
  | 18 => .inl (cy 7, 4, .inr (.inr (.inr (.inr (fun j => some (ad 19 j))))))
  | 19 => .inl (cy 0, 128, .inl f)
  | 20 => .inr (5, [.ref (ad 21 k), .ref (ad 22 k), .ref (ad 24 k)])
  | 21 => .inl (cy 0, 6, .inl f)
  | 22 => .inl (cy 7, 6, .inr (.inr (.inr (.inr (fun j => some (ad 23 (6 * k + j)))))))
  | 23 => .inl (cy 0, 4, .inl f)
  | 24 => .inl (cy 2, 6, .inr (.inl g))
  | 30 => .inr (9, [.int (f 0), .int (f 1), .int (f 2), .ref (ad 31 0), .ref (ad 31 1), .ref (ad 31 2), .ref (ad 31 3), .ref (ad 31 4), .ref (ad 31 5), .ref (ad 31 6), .ref (ad 31 7), .ref (ad 31 8), .ref (ad 31 9), .ref (ad 31 10), .ref (ad 31 11), .ref (ad 31 12), .ref (ad 31 13), .ref (ad 31 14), .ref (ad 31 15), .ref (ad 31 16), .ref (ad 31 17), .ref (ad 32 0), .ref (ad 31 18), .ref (ad 31 19), .int (f 24), .int (f 25), .int (f 26), .int (f 27), .int (f 28), .int (f 29), .int (f 30), .int (f 31), .int (f 32), .int (f 33), .int (f 34), .ref (ad 31 20), .int (f 36), .ref (ad 31 21), .ref (ad 32 1), .ref (ad 31 22), .ref (ad 31 23), .ref (ad 31 24), .int (f 42), .int (f 43)])
  | 31 => .inl (cy 0, (gn31 k), .inl f)
  | 32 => .inl (cy 3, (gn32 k), .inl f)
  | _ => .inr (0, [])
/-- how many cells a region has -/
def cnt (c : Nat) : Nat := match c with
  | 0 => 1
  | 1 => 1
  | 2 => 1
  | 3 => 1
  | 4 => 4
  | 5 => 4
  | 6 => 6
  | 7 => 7
  | 8 => 1
  | 9 => 1
  | 10 => 1
  | 11 => 1
  | 12 => 1
  | 13 => 4
  | 14 => 1
  | 15 => 1
  | 16 => 3
  | 17 => 2
  | 18 => 1
  | 19 => 4
  | 20 => 2
  | 21 => 2
  | 22 => 2
  | 23 => 12
  | 24 => 2
  | 30 => 1
  | 31 => 25
  | 32 => 2
  | _ => 0
abbrev tyl (cy : Nat → ClassId) : List (ClassId × FieldType) := [(cy 0, .int), (cy 1, .byte), (cy 2, .long), (cy 3, .boolean), (cy 4, .object "GlassValley$Family"), (cy 5, .object "GlassValley$Pattern"), (cy 6, .object "GlassValley$ShipOrder"), (cy 7, .array .int)]
/-! the world: the live cells cs at the addresses ad -/
def Wd (cs : List (Nat × Nat)) (cy : Nat → ClassId) (ad : Nat → Nat → Nat) (s : HS) : va_W := cs.map fun q => (ad q.1 q.2, sh cy ad q.1 q.2 (s.1 q.1 q.2) (s.2 q.1 q.2))
/-- the addresses are apart -/
def AdOk (cs : List (Nat × Nat)) (ad : Nat → Nat → Nat) : Prop := ∀ (i j : Nat) (x y : Nat × Nat), cs[i]? = some x → cs[j]? = some y → ad x.1 x.2 = ad y.1 y.2 → i = j
def gA (cs : List (Nat × Nat)) (ad : Nat → Nat → Nat) : Nat → Prop := fun q => ∃ x ∈ cs, q = ad x.1 x.2
theorem wd_q {cs : List (Nat × Nat)} {cy : Nat → ClassId} {ad : Nat → Nat → Nat} {s : HS} {i : Nat} {q : Nat × va_E} (h : (Wd cs cy ad s)[i]? = some q) : ∃ x, cs[i]? = some x ∧ q = (ad x.1 x.2, sh cy ad x.1 x.2 (s.1 x.1 x.2) (s.2 x.1 x.2)) := by
  unfold Wd at h
  rw [List.getElem?_map] at h
  cases hx : cs[i]? with
  | none => rw [hx] at h; cases h
  | some x => rw [hx] at h; exact ⟨x, rfl, (Option.some.inj h).symm⟩
theorem wd_i {cs : List (Nat × Nat)} {cy : Nat → ClassId} {ad : Nat → Nat → Nat} {s : HS} {i : Nat} {x : Nat × Nat} (h : cs[i]? = some x) : (Wd cs cy ad s)[i]? = some (ad x.1 x.2, sh cy ad x.1 x.2 (s.1 x.1 x.2) (s.2 x.1 x.2)) := by
  unfold Wd
  rw [List.getElem?_map, h]
  rfl
theorem wd_D {cs : List (Nat × Nat)} {cy : Nat → ClassId} {ad : Nat → Nat → Nat} {s : HS} (hA : AdOk cs ad) : va_D (gA cs ad) (Wd cs cy ad s) := by
  refine ⟨fun i j p q hi hj e => ?_, fun k q hk => ?_⟩
  · obtain ⟨x, hx, rfl⟩ := wd_q hi
    obtain ⟨y, hy, rfl⟩ := wd_q hj
    exact hA i j x y hx hy e
  · obtain ⟨x, hx, rfl⟩ := wd_q hk
    exact ⟨x, List.mem_of_getElem? hx, rfl⟩
theorem wd_at {cs : List (Nat × Nat)} {c k : Nat} (h : mc cs c k = true) : ∃ i : Nat, cs[i]? = some (c, k) := List.getElem?_of_mem (mc_mem h)
theorem wd_set {cs : List (Nat × Nat)} {cy : Nat → ClassId} {ad : Nat → Nat → Nat} {s s' : HS} (hA : AdOk cs ad) {i c k : Nat} {e : va_E} (hi : cs[i]? = some (c, k)) (he : sh cy ad c k (s'.1 c k) (s'.2 c k) = e) (hs : ∀ c' k', ¬ (c' = c ∧ k' = k) → s'.1 c' k' = s.1 c' k' ∧ s'.2 c' k' = s.2 c' k') : (Wd cs cy ad s).set i (ad c k, e) = Wd cs cy ad s' := by
  apply List.ext_getElem?
  intro j
  rw [List.getElem?_set]
  by_cases hij : i = j
  · subst hij
    have hlt : i < (Wd cs cy ad s).length := by
      have := (List.getElem?_eq_some_iff.mp hi).1
      simpa [Wd] using this
    rw [if_pos rfl, if_pos hlt, wd_i hi, ← he]
  · rw [if_neg hij]
    unfold Wd
    rw [List.getElem?_map, List.getElem?_map]
    cases hx : cs[j]? with
    | none => rfl
    | some x =>
      have hne : ¬ (x.1 = c ∧ x.2 = k) := fun h => hij (hA i j (c, k) x hi hx (by rw [h.1, h.2]))
      obtain ⟨h1, h2⟩ := hs x.1 x.2 hne
      simp only [Option.map_some, h1, h2]
/-! what else the methods look at: rows that nobody writes, texts, words of nest mates -/
def sTb (k : Nat) : List Int32 := match k with
  | 0 => [12, 5, 13, 2]
  | 1 => [12, 7, 13, 8, 14, 2]
  | 2 => [12, 10, 14, 7, 15, 2]
  | 3 => [12, 2]
  | _ => [15625, 3125, 625, 125, 25, 5, 1]
def sNm (k : Nat) : String := match k with
  | 0 => "OWN_FORM"
  | 1 => "LEND_FORM"
  | 2 => "BAR_FORM"
  | 3 => "FREE_FORM"
  | _ => "ORDER_UNITS"
def sLn (k : Nat) : Nat := (sTb k).length
def sVl (k j : Nat) : Int32 := (sTb k).getD j 0
def lenK : List Nat := [3, 2, 4, 2, 5, 3, 4, 4]
def bytK : List (List Int32) := [[111, 119, 110], [98, 121], [108, 101, 110, 100], [116, 111], [117, 110, 116, 105, 108], [98, 97, 114], [102, 114, 111, 109], [102, 114, 101, 101]]
def ixK : List Nat := [54, 60, 62, 64, 66, 68, 70, 72]
def txK : List String := ["own", "by", "lend", "to", "until", "bar", "from", "free"]
def nwl : List Cond := [.methodLinkNest RX1 88 yX8_isWithin RX8, .fieldLinkNest RX1 66 RX8 "OWN_FORM" "[I" RX8, .fieldLinkNest RX1 69 RX8 "LEND_FORM" "[I" RX8, .fieldLinkNest RX1 72 RX8 "BAR_FORM" "[I" RX8, .fieldLinkNest RX1 75 RX8 "FREE_FORM" "[I" RX8, .fieldLinkNest RX4 124 RX8 "ORDER_UNITS" "[I" RX8]
def fmtv (ad : Nat → Nat → Nat) : Value := va_rf (if ad 43 0 = 0 then none else some (ad 43 0 - 1))
theorem fmtv_cat (ad : Nat → Nat → Nat) : (fmtv ad).category = 1 := by
  unfold fmtv
  by_cases h : ad 43 0 = 0
  · rw [if_pos h]; rfl
  · rw [if_neg h]; rfl
def gZ (cs : List (Nat × Nat)) (ad : Nat → Nat → Nat) (U : State) : Prop :=
  (∀ k, k < 5 → va_Z RX8 (sNm k) "[I" (.ref (ad 40 k)) (gA cs ad) U U.heap ∧ va_T .int (ad 40 k) (sLn k) (fun j => .int (sVl k j)) (gA cs ad) U U.heap) ∧
  (∀ w ∈ nwl, va_Nw w U) ∧
  vk_S 8 lenK bytK (ad 41) (ad 42) (gA cs ad) U U.heap ∧
  (∀ i, i < 8 → vk_R RX7 (ixK.getD i 0) (txK.getD i "") (ad 41 i) U) ∧
  va_Z "java/lang/String" "COMPACT_STRINGS" "Z" (.int 1) (gA cs ad) U U.heap ∧
  va_Z "jdk/internal/util/Preconditions" "SIOOBE_FORMATTER" "Ljava/util/function/BiFunction;" (fmtv ad) (gA cs ad) U U.heap
theorem nw_warm {s U : State} (hW : s.WarmedH U.vm) (h : ∀ w ∈ nwl, va_Nw w s) : ∀ w ∈ nwl, va_Nw w U := by
  intro w hw
  have h1 := h w hw
  simp only [nwl, List.mem_cons, List.not_mem_nil, or_false] at hw
  rcases hw with rfl | rfl | rfl | rfl | rfl | rfl <;> first | exact va_Nw.warmF hW h1 | exact va_Nw.warmM hW h1
theorem nw_tab : ∀ w ∈ nwl, w.onTables = true := by decide +kernel
theorem gZ_moved {cs : List (Nat × Nat)} {ad : Nat → Nat → Nat} {s U : State} (hW : s.WarmedH U.vm) (hh : ∀ q : Nat, q < s.heap.size → ¬ gA cs ad q → U.heap[q]? = s.heap[q]?) (h : gZ cs ad s) : gZ cs ad U := by
  obtain ⟨h1, h2, h3, h4, h5, h6⟩ := h
  exact ⟨fun k hk => ⟨(va_Z.moved hW.alike (h1 k hk).1).kept hh, (va_T.moved hW.alike (h1 k hk).2).kept hh⟩, nw_warm hW h2, (vk_S.moved hW.alike h3).kept hh, fun i hi => (h4 i hi).warm hW, (va_Z.moved hW.alike h5).kept hh, (va_Z.moved hW.alike h6).kept hh⟩
theorem gZ_calling {cs : List (Nat × Nat)} {ad : Nat → Nat → Nat} {U : State} {g : JFrame} {mk : MethodId} {a : Array Value} (h : gZ cs ad U) : gZ cs ad (U.calling g mk a) := by
  obtain ⟨h1, h2, h3, h4, h5, h6⟩ := h
  have e : U.vm.Alike (U.calling g mk a).vm := Vm.Alike.refl U.vm
  exact ⟨fun k hk => ⟨va_Z.moved e (h1 k hk).1, va_T.moved e (h1 k hk).2⟩, fun w hw => va_Nw.same (u := U) (nw_tab w hw) rfl (h2 w hw), vk_S.moved e h3, fun i hi => (h4 i hi).same rfl, va_Z.moved e h5, va_Z.moved e h6⟩
/-- what a method may take along: it stays where nothing but the world's cells changes -/
def ZOk (cs : List (Nat × Nat)) (ad : Nat → Nat → Nat) (Zp : State → Prop) : Prop := (∀ s U : State, s.WarmedH U.vm → (∀ q : Nat, q < s.heap.size → ¬ gA cs ad q → U.heap[q]? = s.heap[q]?) → Zp s → Zp U) ∧ ∀ (U : State) (g : JFrame) (mk : MethodId) (a : Array Value), Zp U → Zp (U.calling g mk a)
theorem gZ_ok (cs : List (Nat × Nat)) (ad : Nat → Nat → Nat) : ZOk cs ad (gZ cs ad) := ⟨fun _ _ hW hh h => gZ_moved hW hh h, fun _ _ _ _ h => gZ_calling h⟩
theorem tt_ok (cs : List (Nat × Nat)) (ad : Nat → Nat → Nat) : ZOk cs ad (fun _ => True) := ⟨fun _ _ _ _ _ => trivial, fun _ _ _ _ _ => trivial⟩
def Bd (p : Program) (s : State) (m : MethodId) (args : Array Value) (meth : Method) (c : Code) (D : va_G) (cy : Nat → ClassId) (cs : List (Nat × Nat)) (ad : Nat → Nat → Nat) (Zp : State → Prop) (cc : ByteArray) (nL : Nat) (own : String) (ret : Option FieldType) : Prop :=
  p.tables.exec = Jvm.exec ∧ c.code = cc ∧ c.maxLocals = nL ∧ s.vm.findClass own = some m.cls ∧ (∀ w ∈ gw, w.before args s = true) ∧ va_K D vwCl (tyl cy) s ∧ AdOk cs ad ∧ meth.sig.returnType = ret ∧ meth.locks = false ∧ Zp s ∧ ZOk cs ad Zp
/-- from every heap that holds S, at pc with these locals and this stack, the machine comes to Q -/
def GW (p : Program) (l : Launch) (e : Env) (R : Room) (s : State) (m : MethodId) (args : Array Value) (below : List Frame) (meth : Method) (c : Code) (Q : State → Prop) (D : va_G) (cy : Nat → ClassId) (cs : List (Nat × Nat)) (ad : Nat → Nat → Nat) (cn sn nL pc : Nat) (lv : List (Nat × Value)) (st : List Value) (S : HS) : Prop :=
  ∀ (H : Heap) (locs : List Loc) (ls : Array Slot), va_P D vwCl (Wd cs cy ad S) H → va_S (gA cs ad) s.heap H locs → lv_has ls nL lv → W p l e R s m args below meth c H locs cn sn Q (F0 m pc ls st)
/-- a method's end: its answer, the state behind it, and nothing else changed -/
def QR (D : va_G) (cy : Nat → ClassId) (cs : List (Nat × Nat)) (ad : Nat → Nat → Nat) (o : Option Value) (S1 : HS) : Array Value → State → Outcome → State → Prop := fun _ st oc t => oc = .returned o ∧ va_P D vwCl (Wd cs cy ad S1) t.heap ∧ va_F (gA cs ad) st t
abbrev QM (below : List Frame) (args : Array Value) (s : State) (D : va_G) (cy : Nat → ClassId) (cs : List (Nat × Nat)) (ad : Nat → Nat → Nat) (o : Option Value) (S1 : HS) : State → Prop := MQ below (QR D cy cs ad o S1) args s 0 0 (gA cs ad)
/-- the contract of a method: from S0 with these arguments it answers o and leaves S1 -/
def Ctr (Zp : State → Prop) (l : Launch) (y : MethodName) (cc : ByteArray) (nL : Nat) (ret : Option FieldType) (rm : Room) (D : va_G) (cy : Nat → ClassId) (cs : List (Nat × Nat)) (ad : Nat → Nat → Nat) (av : List Value) (S0 : HS) (o : Option Value) (S1 : HS) : Prop :=
  Met l y (Cond.code y cc nL ret :: gw) rm (va_Pc av (fun U => va_P D vwCl (Wd cs cy ad S0) U.heap ∧ va_K D vwCl (tyl cy) U ∧ Zp U)) (QR D cy cs ad o S1) 0 0 (gA cs ad)
theorem Ctr.of {Zp : State → Prop} {l : Launch} {y : MethodName} {cc : ByteArray} {nL : Nat} {ret : Option FieldType} {rm : Room} {D : va_G} {cy : Nat → ClassId} {cs : List (Nat × Nat)} {ad : Nat → Nat → Nat} {av : List Value} {S0 : HS} {o : Option Value} {S1 : HS} (hA : AdOk cs ad) (hZo : ZOk cs ad Zp) (own : String) (hy : plainFor y = true) (ho : y.cls = own) (lv : List (Nat × Value)) (hlv : lv_args 0 av = lv) (hn : (lg_sl av).length ≤ nL)
    (body : ∀ (p : Program) (e : Env) (s : State) (m : MethodId) (below : List Frame) (meth : Method) (c : Code), Bd p s m av.toArray meth c D cy cs ad Zp cc nL own ret → GW p l e rm s m av.toArray below meth c (QM below av.toArray s D cy cs ad o S1) D cy cs ad 0 0 nL 0 lv [] S0) : Ctr Zp l y cc nL ret rm D cy cs ad av S0 o S1 := by
  unfold Ctr Met
  refine MetFree.of_bodySF (code := cc) (maxLocals := nL) (ret := ret) hy ?_ ?_
  · intro args s m h hn'
    obtain ⟨meth, c, h1, h2, h3, h4, h5, h6, -, -⟩ := Cond.code_spec hn' (atoms_spec (ws := Cond.code y cc nL ret :: gw) h _ List.mem_cons_self)
    exact ⟨meth, c, h1, h2, h3, h4, h5, h6⟩
  · intro p e s m args below meth c s₁ B hml hv _
    have hh0 : s₁.heap = s.heap := by rw [B.state]; rfl
    obtain ⟨rfl, hP, hK, hZ⟩ := hv
    have hts := atoms_spec (ws := Cond.code y cc nL ret :: gw) B.pre
    have hown : s.vm.findClass own = some m.cls := by rw [← ho]; exact findClass_of_methodNamed B.named
    have hl := lv_entry av (n := nL) hn
    rw [hlv] at hl
    have hw := body p e s m below meth c ⟨B.exec, B.bytes, hml, hown, fun w hw => hts w (List.mem_cons_of_mem _ hw), hK, hA, B.returns, B.notSynchronized, hZ, hZo⟩ s.heap [] _ hP va_S.rf hl
    rw [← lg_entry_eq] at hw
    obtain ⟨t, a1, o, b1, b2, b3⟩ := hw s₁ hh0 (Stand.of_body B)
    exact ⟨t, o, a1, b1, b2, ⟨b3.1, b3.2⟩⟩
section GR
variable {p : Program} {l : Launch} {e : Env} {R : Room} {s : State} {m : MethodId} {args : Array Value} {below : List Frame} {meth : Method} {c : Code} {Q : State → Prop} {D : va_G} {cy : Nat → ClassId} {cs : List (Nat × Nat)} {ad : Nat → Nat → Nat} {cn sn nL pc : Nat} {Zp : State → Prop} {lv lv' : List (Nat × Value)} {rest : List Value} {S : HS} {cc : ByteArray} {own : String} {ret : Option FieldType}
theorem g_sub (ks : List Nat) (hk : lv_pick lv ks = lv') (kk : GW p l e R s m args below meth c Q D cy cs ad cn sn nL pc lv' rest S) : GW p l e R s m args below meth c Q D cy cs ad cn sn nL pc lv rest S := fun H locs ls hP hS h => kk H locs ls hP hS (lv_sub h ks hk)
theorem g_get (B : Bd p s m args meth c D cy cs ad Zp cc nL own ret) {k0 k1 ci N j index : Nat} {fs : List Value} {C ref : String} {T : u_T} {v : Value} (hm : mc cs k0 k1 = true) (hsh : sh cy ad k0 k1 (S.1 k0 k1) (S.2 k0 k1) = .inr (ci, fs)) (hc : vwCl[ci]? = some (C, T, N)) (hj : j < N) (hv : fs[j]? = some v) (hin : ∀ w ∈ u_ws C T N, w ∈ gw) (hr : (T j).1 = ref) (hlink : Cond.fieldLink own index ref (T j).2.1 (T j).2.2.1 ∈ gw) (d : decode cc pc = .ok (.getfield index, 3)) (kk : GW p l e R s m args below meth c Q D cy cs ad cn sn nL (pc + 3) lv (v :: rest) S) : GW p l e R s m args below meth c Q D cy cs ad cn sn nL pc lv (.ref (ad k0 k1) :: rest) S := by
  intro H locs ls hP hS h
  obtain ⟨hx, hb, -, hown, hts, hK, -⟩ := B
  obtain ⟨i, hi⟩ := wd_at hm
  subst hr
  exact va_get hx hb hts hin hown hK hP i (by rw [wd_i hi]; exact congrArg (fun z => some (ad k0 k1, z)) hsh) hc j hj (hts _ hlink) (fun _ h9 => h9) hv d (kk H locs ls hP hS h)
theorem g_put (B : Bd p s m args meth c D cy cs ad Zp cc nL own ret) {k0 k1 ci N j index : Nat} {fs : List Value} {C ref : String} {T : u_T} {ty0 : Nat → FieldType} {v : Value} {S' : HS} (hm : mc cs k0 k1 = true) (hsh : sh cy ad k0 k1 (S.1 k0 k1) (S.2 k0 k1) = .inr (ci, fs)) (hc : vwCl[ci]? = some (C, T, N)) (hj : j < N) (hl : j < fs.length) (hin : ∀ w ∈ u_ws C T N, w ∈ gw) (hty : ∀ k, k < N → parseFieldDescriptor (T k).2.2.1 = some (ty0 k)) (hnm : ∀ a, a < N → ∀ b, b < N → a ≠ b → (T a).2.1 ≠ (T b).2.1) (hr : (T j).1 = ref) (hlink : Cond.fieldLink own index ref (T j).2.1 (T j).2.2.1 ∈ gw) (hfin : (T j).2.2.2 = false) (hn : narrow (ty0 j) v = v) (hfit : fits (ty0 j) v = true)
    (hsh' : sh cy ad k0 k1 (S'.1 k0 k1) (S'.2 k0 k1) = .inr (ci, fs.set j v)) (hs : ∀ c' k', ¬ (c' = k0 ∧ k' = k1) → S'.1 c' k' = S.1 c' k' ∧ S'.2 c' k' = S.2 c' k') (d : decode cc pc = .ok (.putfield index, 3)) (kk : GW p l e R s m args below meth c Q D cy cs ad cn sn nL (pc + 3) lv rest S') : GW p l e R s m args below meth c Q D cy cs ad cn sn nL pc lv (v :: .ref (ad k0 k1) :: rest) S := by
  intro H locs ls hP hS h
  obtain ⟨hx, hb, -, hown, hts, hK, hA, -⟩ := B
  obtain ⟨i, hi⟩ := wd_at hm
  subst hr
  refine va_put (ty := ty0 j) hx hb hts hin ty0 hty hnm hown hK hP (wd_D hA) hS i (by rw [wd_i hi]; exact congrArg (fun z => some (ad k0 k1, z)) hsh) hc j hj (hts _ hlink) (fun _ h9 => h9) hfin (hty j hj) hn hfit hl d (fun H1 locs1 hP1 _ hS1 => ?_)
  rw [wd_set hA hi hsh' hs] at hP1
  exact kk H1 locs1 ls hP1 hS1 h
end GR
section GI
variable {p : Program} {l : Launch} {e : Env} {R : Room} {s : State} {m : MethodId} {args : Array Value} {below : List Frame} {meth : Method} {c : Code} {Q : State → Prop} {D : va_G} {cy : Nat → ClassId} {cs : List (Nat × Nat)} {ad : Nat → Nat → Nat} {cn sn nL pc : Nat} {Zp : State → Prop} {lv lv' : List (Nat × Value)} {rest : List Value} {S : HS} {cc : ByteArray} {own : String} {ret : Option FieldType}
theorem g_iconst (B : Bd p s m args meth c D cy cs ad Zp cc nL own ret) {n : Int} {v : Int32} (d : decode cc pc = .ok (.iconst n, 1)) (hv : Int32.ofInt n = v) (kk : GW p l e R s m args below meth c Q D cy cs ad cn sn nL (pc + 1) lv (.int v :: rest) S) : GW p l e R s m args below meth c Q D cy cs ad cn sn nL pc lv (rest) S := fun H locs ls hP hS h => lv_iconst B.1 B.2.1 d hv (kk H locs ls hP hS h)
theorem g_bipush (B : Bd p s m args meth c D cy cs ad Zp cc nL own ret) {n : Int} {v : Int32} (d : decode cc pc = .ok (.bipush n, 2)) (hv : (Int8.ofInt n).toInt32 = v) (kk : GW p l e R s m args below meth c Q D cy cs ad cn sn nL (pc + 2) lv (.int v :: rest) S) : GW p l e R s m args below meth c Q D cy cs ad cn sn nL pc lv (rest) S := fun H locs ls hP hS h => lv_bipush B.1 B.2.1 d hv (kk H locs ls hP hS h)
theorem g_sipush (B : Bd p s m args meth c D cy cs ad Zp cc nL own ret) {n : Int} {v : Int32} (d : decode cc pc = .ok (.sipush n, 3)) (hv : (Int16.ofInt n).toInt32 = v) (kk : GW p l e R s m args below meth c Q D cy cs ad cn sn nL (pc + 3) lv (.int v :: rest) S) : GW p l e R s m args below meth c Q D cy cs ad cn sn nL pc lv (rest) S := fun H locs ls hP hS h => lv_sipush B.1 B.2.1 d hv (kk H locs ls hP hS h)
theorem g_lconst (B : Bd p s m args meth c D cy cs ad Zp cc nL own ret) {n : Fin 2} {v : Int64} (d : decode cc pc = .ok (.lconst n, 1)) (hv : Int64.ofNat (n : Nat) = v) (kk : GW p l e R s m args below meth c Q D cy cs ad cn sn nL (pc + 1) lv (.long v :: rest) S) : GW p l e R s m args below meth c Q D cy cs ad cn sn nL pc lv (rest) S := fun H locs ls hP hS h => lv_lconst B.1 B.2.1 d hv (kk H locs ls hP hS h)
theorem g_ldc (B : Bd p s m args meth c D cy cs ad Zp cc nL own ret) {index : Nat} {v : Int32} (d : decode cc pc = .ok (.ldc index, 2)) (hw : Cond.constant own index v ∈ gw) (kk : GW p l e R s m args below meth c Q D cy cs ad cn sn nL (pc + 2) lv (.int v :: rest) S) : GW p l e R s m args below meth c Q D cy cs ad cn sn nL pc lv (rest) S := fun H locs ls hP hS h => lv_ldc B.1 B.2.1 B.2.2.2.1 (B.2.2.2.2.1 _ hw) d (kk H locs ls hP hS h)
theorem g_ldc2 (B : Bd p s m args meth c D cy cs ad Zp cc nL own ret) {index : Nat} {v : Int64} (d : decode cc pc = .ok (.ldc2_w index, 3)) (hw : Cond.constantLong own index v ∈ gw) (kk : GW p l e R s m args below meth c Q D cy cs ad cn sn nL (pc + 3) lv (.long v :: rest) S) : GW p l e R s m args below meth c Q D cy cs ad cn sn nL pc lv (rest) S := fun H locs ls hP hS h => lv_ldc2 B.1 B.2.1 B.2.2.2.1 (B.2.2.2.2.1 _ hw) d (kk H locs ls hP hS h)
theorem g_iload_n (B : Bd p s m args meth c D cy cs ad Zp cc nL own ret) {k : Fin 4} {i : Nat} {x : Int32} (d : decode cc pc = .ok (.iload_n k, 1)) (j : Nat) (hl : lv[j]? = some (i, .int x)) (hi : (k : Nat) = i) (kk : GW p l e R s m args below meth c Q D cy cs ad cn sn nL (pc + 1) lv (.int x :: rest) S) : GW p l e R s m args below meth c Q D cy cs ad cn sn nL pc lv (rest) S := fun H locs ls hP hS h => lv_iload_n B.1 B.2.1 d hi (lv_at h j hl) (kk H locs ls hP hS h)
theorem g_iload (B : Bd p s m args meth c D cy cs ad Zp cc nL own ret) {i : Nat} {x : Int32} (d : decode cc pc = .ok (.iload i, 2)) (j : Nat) (hl : lv[j]? = some (i, .int x)) (kk : GW p l e R s m args below meth c Q D cy cs ad cn sn nL (pc + 2) lv (.int x :: rest) S) : GW p l e R s m args below meth c Q D cy cs ad cn sn nL pc lv (rest) S := fun H locs ls hP hS h => lv_iload B.1 B.2.1 d (lv_at h j hl) (kk H locs ls hP hS h)
theorem g_lload_n (B : Bd p s m args meth c D cy cs ad Zp cc nL own ret) {k : Fin 4} {i : Nat} {x : Int64} (d : decode cc pc = .ok (.lload_n k, 1)) (j : Nat) (hl : lv[j]? = some (i, .long x)) (hi : (k : Nat) = i) (kk : GW p l e R s m args below meth c Q D cy cs ad cn sn nL (pc + 1) lv (.long x :: rest) S) : GW p l e R s m args below meth c Q D cy cs ad cn sn nL pc lv (rest) S := fun H locs ls hP hS h => lv_lload_n B.1 B.2.1 d hi (lv_at h j hl) (kk H locs ls hP hS h)
theorem g_lload (B : Bd p s m args meth c D cy cs ad Zp cc nL own ret) {i : Nat} {x : Int64} (d : decode cc pc = .ok (.lload i, 2)) (j : Nat) (hl : lv[j]? = some (i, .long x)) (kk : GW p l e R s m args below meth c Q D cy cs ad cn sn nL (pc + 2) lv (.long x :: rest) S) : GW p l e R s m args below meth c Q D cy cs ad cn sn nL pc lv (rest) S := fun H locs ls hP hS h => lv_lload B.1 B.2.1 d (lv_at h j hl) (kk H locs ls hP hS h)
theorem g_aload_n (B : Bd p s m args meth c D cy cs ad Zp cc nL own ret) {k : Fin 4} {i : Nat} {x : Nat} (d : decode cc pc = .ok (.aload_n k, 1)) (j : Nat) (hl : lv[j]? = some (i, .ref x)) (hi : (k : Nat) = i) (kk : GW p l e R s m args below meth c Q D cy cs ad cn sn nL (pc + 1) lv (.ref x :: rest) S) : GW p l e R s m args below meth c Q D cy cs ad cn sn nL pc lv (rest) S := fun H locs ls hP hS h => lv_aload_n B.1 B.2.1 d hi (lv_at h j hl) (kk H locs ls hP hS h)
theorem g_aload (B : Bd p s m args meth c D cy cs ad Zp cc nL own ret) {i : Nat} {x : Nat} (d : decode cc pc = .ok (.aload i, 2)) (j : Nat) (hl : lv[j]? = some (i, .ref x)) (kk : GW p l e R s m args below meth c Q D cy cs ad cn sn nL (pc + 2) lv (.ref x :: rest) S) : GW p l e R s m args below meth c Q D cy cs ad cn sn nL pc lv (rest) S := fun H locs ls hP hS h => lv_aload B.1 B.2.1 d (lv_at h j hl) (kk H locs ls hP hS h)
theorem g_istore_n (B : Bd p s m args meth c D cy cs ad Zp cc nL own ret) {k : Fin 4} {i : Nat} {x : Int32} (d : decode cc pc = .ok (.istore_n k, 1)) (hi : (k : Nat) = i) (hn : i < nL) (hl : (i, Value.int x) :: lv.filter (fun q => !(q.1 == i) && !(q.1 + 1 == i && q.2.category == 2)) = lv') (kk : GW p l e R s m args below meth c Q D cy cs ad cn sn nL (pc + 1) lv' rest S) : GW p l e R s m args below meth c Q D cy cs ad cn sn nL pc lv (.int x :: rest) S := fun H locs ls hP hS h => lv_istore_n B.1 B.2.1 d hi h hn hl (fun ls' h' => kk H locs ls' hP hS h')
theorem g_istore (B : Bd p s m args meth c D cy cs ad Zp cc nL own ret) {i : Nat} {x : Int32} (d : decode cc pc = .ok (.istore i, 2)) (hn : i < nL) (hl : (i, Value.int x) :: lv.filter (fun q => !(q.1 == i) && !(q.1 + 1 == i && q.2.category == 2)) = lv') (kk : GW p l e R s m args below meth c Q D cy cs ad cn sn nL (pc + 2) lv' rest S) : GW p l e R s m args below meth c Q D cy cs ad cn sn nL pc lv (.int x :: rest) S := fun H locs ls hP hS h => lv_istore B.1 B.2.1 d h hn hl (fun ls' h' => kk H locs ls' hP hS h')
theorem g_lstore_n (B : Bd p s m args meth c D cy cs ad Zp cc nL own ret) {k : Fin 4} {i : Nat} {x : Int64} (d : decode cc pc = .ok (.lstore_n k, 1)) (hi : (k : Nat) = i) (hn : i + 1 < nL) (hl : (i, Value.long x) :: lv.filter (fun q => !(q.1 == i) && (!(q.1 == i + 1) && !(q.1 + 1 == i && q.2.category == 2))) = lv') (kk : GW p l e R s m args below meth c Q D cy cs ad cn sn nL (pc + 1) lv' rest S) : GW p l e R s m args below meth c Q D cy cs ad cn sn nL pc lv (.long x :: rest) S := fun H locs ls hP hS h => lv_lstore_n B.1 B.2.1 d hi h hn hl (fun ls' h' => kk H locs ls' hP hS h')
theorem g_lstore (B : Bd p s m args meth c D cy cs ad Zp cc nL own ret) {i : Nat} {x : Int64} (d : decode cc pc = .ok (.lstore i, 2)) (hn : i + 1 < nL) (hl : (i, Value.long x) :: lv.filter (fun q => !(q.1 == i) && (!(q.1 == i + 1) && !(q.1 + 1 == i && q.2.category == 2))) = lv') (kk : GW p l e R s m args below meth c Q D cy cs ad cn sn nL (pc + 2) lv' rest S) : GW p l e R s m args below meth c Q D cy cs ad cn sn nL pc lv (.long x :: rest) S := fun H locs ls hP hS h => lv_lstore B.1 B.2.1 d h hn hl (fun ls' h' => kk H locs ls' hP hS h')
theorem g_astore_n (B : Bd p s m args meth c D cy cs ad Zp cc nL own ret) {k : Fin 4} {i : Nat} {x : Nat} (d : decode cc pc = .ok (.astore_n k, 1)) (hi : (k : Nat) = i) (hn : i < nL) (hl : (i, Value.ref x) :: lv.filter (fun q => !(q.1 == i) && !(q.1 + 1 == i && q.2.category == 2)) = lv') (kk : GW p l e R s m args below meth c Q D cy cs ad cn sn nL (pc + 1) lv' rest S) : GW p l e R s m args below meth c Q D cy cs ad cn sn nL pc lv (.ref x :: rest) S := fun H locs ls hP hS h => lv_astore_n B.1 B.2.1 d hi h hn hl (fun ls' h' => kk H locs ls' hP hS h')
theorem g_astore (B : Bd p s m args meth c D cy cs ad Zp cc nL own ret) {i : Nat} {x : Nat} (d : decode cc pc = .ok (.astore i, 2)) (hn : i < nL) (hl : (i, Value.ref x) :: lv.filter (fun q => !(q.1 == i) && !(q.1 + 1 == i && q.2.category == 2)) = lv') (kk : GW p l e R s m args below meth c Q D cy cs ad cn sn nL (pc + 2) lv' rest S) : GW p l e R s m args below meth c Q D cy cs ad cn sn nL pc lv (.ref x :: rest) S := fun H locs ls hP hS h => lv_astore B.1 B.2.1 d h hn hl (fun ls' h' => kk H locs ls' hP hS h')
theorem g_iinc (B : Bd p s m args meth c D cy cs ad Zp cc nL own ret) {i k : Nat} {n : Int} {x v : Int32} (d : decode cc pc = .ok (.iinc i n, 3)) (hk : lv[k]? = some (i, .int x)) (hv : x + Int32.ofInt n = v) (hn : i < nL) (hl : (i, Value.int v) :: lv.filter (fun q => !(q.1 == i) && !(q.1 + 1 == i && q.2.category == 2)) = lv') (kk : GW p l e R s m args below meth c Q D cy cs ad cn sn nL (pc + 3) lv' rest S) : GW p l e R s m args below meth c Q D cy cs ad cn sn nL pc lv rest S := fun H locs ls hP hS h => lv_iinc B.1 B.2.1 d h hk hv hn hl (fun ls' h' => kk H locs ls' hP hS h')
theorem g_iadd (B : Bd p s m args meth c D cy cs ad Zp cc nL own ret) {x y : Int32} (d : decode cc pc = .ok (.iadd, 1))  (kk : GW p l e R s m args below meth c Q D cy cs ad cn sn nL (pc + 1) lv (.int (x + y) :: rest) S) : GW p l e R s m args below meth c Q D cy cs ad cn sn nL pc lv (.int y :: .int x :: rest) S := fun H locs ls hP hS h => lv_iadd B.1 B.2.1 d (kk H locs ls hP hS h)
theorem g_isub (B : Bd p s m args meth c D cy cs ad Zp cc nL own ret) {x y : Int32} (d : decode cc pc = .ok (.isub, 1))  (kk : GW p l e R s m args below meth c Q D cy cs ad cn sn nL (pc + 1) lv (.int (x - y) :: rest) S) : GW p l e R s m args below meth c Q D cy cs ad cn sn nL pc lv (.int y :: .int x :: rest) S := fun H locs ls hP hS h => lv_isub B.1 B.2.1 d (kk H locs ls hP hS h)
theorem g_imul (B : Bd p s m args meth c D cy cs ad Zp cc nL own ret) {x y : Int32} (d : decode cc pc = .ok (.imul, 1))  (kk : GW p l e R s m args below meth c Q D cy cs ad cn sn nL (pc + 1) lv (.int (x * y) :: rest) S) : GW p l e R s m args below meth c Q D cy cs ad cn sn nL pc lv (.int y :: .int x :: rest) S := fun H locs ls hP hS h => lv_imul B.1 B.2.1 d (kk H locs ls hP hS h)
theorem g_iand (B : Bd p s m args meth c D cy cs ad Zp cc nL own ret) {x y : Int32} (d : decode cc pc = .ok (.iand, 1))  (kk : GW p l e R s m args below meth c Q D cy cs ad cn sn nL (pc + 1) lv (.int (x &&& y) :: rest) S) : GW p l e R s m args below meth c Q D cy cs ad cn sn nL pc lv (.int y :: .int x :: rest) S := fun H locs ls hP hS h => lv_iand B.1 B.2.1 d (kk H locs ls hP hS h)
theorem g_ior (B : Bd p s m args meth c D cy cs ad Zp cc nL own ret) {x y : Int32} (d : decode cc pc = .ok (.ior, 1))  (kk : GW p l e R s m args below meth c Q D cy cs ad cn sn nL (pc + 1) lv (.int (x ||| y) :: rest) S) : GW p l e R s m args below meth c Q D cy cs ad cn sn nL pc lv (.int y :: .int x :: rest) S := fun H locs ls hP hS h => lv_ior B.1 B.2.1 d (kk H locs ls hP hS h)
theorem g_ixor (B : Bd p s m args meth c D cy cs ad Zp cc nL own ret) {x y : Int32} (d : decode cc pc = .ok (.ixor, 1))  (kk : GW p l e R s m args below meth c Q D cy cs ad cn sn nL (pc + 1) lv (.int (x ^^^ y) :: rest) S) : GW p l e R s m args below meth c Q D cy cs ad cn sn nL pc lv (.int y :: .int x :: rest) S := fun H locs ls hP hS h => lv_ixor B.1 B.2.1 d (kk H locs ls hP hS h)
theorem g_ishl (B : Bd p s m args meth c D cy cs ad Zp cc nL own ret) {x y : Int32} (d : decode cc pc = .ok (.ishl, 1))  (kk : GW p l e R s m args below meth c Q D cy cs ad cn sn nL (pc + 1) lv (.int (x <<< (y &&& 31)) :: rest) S) : GW p l e R s m args below meth c Q D cy cs ad cn sn nL pc lv (.int y :: .int x :: rest) S := fun H locs ls hP hS h => lv_ishl B.1 B.2.1 d (kk H locs ls hP hS h)
theorem g_ishr (B : Bd p s m args meth c D cy cs ad Zp cc nL own ret) {x y : Int32} (d : decode cc pc = .ok (.ishr, 1))  (kk : GW p l e R s m args below meth c Q D cy cs ad cn sn nL (pc + 1) lv (.int (x >>> (y &&& 31)) :: rest) S) : GW p l e R s m args below meth c Q D cy cs ad cn sn nL pc lv (.int y :: .int x :: rest) S := fun H locs ls hP hS h => lv_ishr B.1 B.2.1 d (kk H locs ls hP hS h)
theorem g_ineg (B : Bd p s m args meth c D cy cs ad Zp cc nL own ret) {x : Int32} (d : decode cc pc = .ok (.ineg, 1))  (kk : GW p l e R s m args below meth c Q D cy cs ad cn sn nL (pc + 1) lv (.int (-x) :: rest) S) : GW p l e R s m args below meth c Q D cy cs ad cn sn nL pc lv (.int x :: rest) S := fun H locs ls hP hS h => lv_ineg B.1 B.2.1 d (kk H locs ls hP hS h)
theorem g_idiv (B : Bd p s m args meth c D cy cs ad Zp cc nL own ret) {x y : Int32} (d : decode cc pc = .ok (.idiv, 1)) (hne : ¬ y = 0) (kk : GW p l e R s m args below meth c Q D cy cs ad cn sn nL (pc + 1) lv (.int (x / y) :: rest) S) : GW p l e R s m args below meth c Q D cy cs ad cn sn nL pc lv (.int y :: .int x :: rest) S := fun H locs ls hP hS h => lv_idiv B.1 B.2.1 d hne (kk H locs ls hP hS h)
theorem g_irem (B : Bd p s m args meth c D cy cs ad Zp cc nL own ret) {x y : Int32} (d : decode cc pc = .ok (.irem, 1)) (hne : ¬ y = 0) (kk : GW p l e R s m args below meth c Q D cy cs ad cn sn nL (pc + 1) lv (.int (x - x / y * y) :: rest) S) : GW p l e R s m args below meth c Q D cy cs ad cn sn nL pc lv (.int y :: .int x :: rest) S := fun H locs ls hP hS h => lv_irem B.1 B.2.1 d hne (kk H locs ls hP hS h)
theorem g_ladd (B : Bd p s m args meth c D cy cs ad Zp cc nL own ret) {x y : Int64} (d : decode cc pc = .ok (.ladd, 1))  (kk : GW p l e R s m args below meth c Q D cy cs ad cn sn nL (pc + 1) lv (.long (x + y) :: rest) S) : GW p l e R s m args below meth c Q D cy cs ad cn sn nL pc lv (.long y :: .long x :: rest) S := fun H locs ls hP hS h => lv_ladd B.1 B.2.1 d (kk H locs ls hP hS h)
theorem g_lsub (B : Bd p s m args meth c D cy cs ad Zp cc nL own ret) {x y : Int64} (d : decode cc pc = .ok (.lsub, 1))  (kk : GW p l e R s m args below meth c Q D cy cs ad cn sn nL (pc + 1) lv (.long (x - y) :: rest) S) : GW p l e R s m args below meth c Q D cy cs ad cn sn nL pc lv (.long y :: .long x :: rest) S := fun H locs ls hP hS h => lv_lsub B.1 B.2.1 d (kk H locs ls hP hS h)
theorem g_lmul (B : Bd p s m args meth c D cy cs ad Zp cc nL own ret) {x y : Int64} (d : decode cc pc = .ok (.lmul, 1))  (kk : GW p l e R s m args below meth c Q D cy cs ad cn sn nL (pc + 1) lv (.long (x * y) :: rest) S) : GW p l e R s m args below meth c Q D cy cs ad cn sn nL pc lv (.long y :: .long x :: rest) S := fun H locs ls hP hS h => lv_lmul B.1 B.2.1 d (kk H locs ls hP hS h)
theorem g_land (B : Bd p s m args meth c D cy cs ad Zp cc nL own ret) {x y : Int64} (d : decode cc pc = .ok (.land, 1))  (kk : GW p l e R s m args below meth c Q D cy cs ad cn sn nL (pc + 1) lv (.long (x &&& y) :: rest) S) : GW p l e R s m args below meth c Q D cy cs ad cn sn nL pc lv (.long y :: .long x :: rest) S := fun H locs ls hP hS h => lv_land B.1 B.2.1 d (kk H locs ls hP hS h)
theorem g_lor (B : Bd p s m args meth c D cy cs ad Zp cc nL own ret) {x y : Int64} (d : decode cc pc = .ok (.lor, 1))  (kk : GW p l e R s m args below meth c Q D cy cs ad cn sn nL (pc + 1) lv (.long (x ||| y) :: rest) S) : GW p l e R s m args below meth c Q D cy cs ad cn sn nL pc lv (.long y :: .long x :: rest) S := fun H locs ls hP hS h => lv_lor B.1 B.2.1 d (kk H locs ls hP hS h)
theorem g_lxor (B : Bd p s m args meth c D cy cs ad Zp cc nL own ret) {x y : Int64} (d : decode cc pc = .ok (.lxor, 1))  (kk : GW p l e R s m args below meth c Q D cy cs ad cn sn nL (pc + 1) lv (.long (x ^^^ y) :: rest) S) : GW p l e R s m args below meth c Q D cy cs ad cn sn nL pc lv (.long y :: .long x :: rest) S := fun H locs ls hP hS h => lv_lxor B.1 B.2.1 d (kk H locs ls hP hS h)
theorem g_lcmp (B : Bd p s m args meth c D cy cs ad Zp cc nL own ret) {x y : Int64} (d : decode cc pc = .ok (.lcmp, 1))  (kk : GW p l e R s m args below meth c Q D cy cs ad cn sn nL (pc + 1) lv (.int (lg_cmp x y) :: rest) S) : GW p l e R s m args below meth c Q D cy cs ad cn sn nL pc lv (.long y :: .long x :: rest) S := fun H locs ls hP hS h => W.lcmp B.1 B.2.1 d (kk H locs ls hP hS h)
theorem g_i2l (B : Bd p s m args meth c D cy cs ad Zp cc nL own ret) {x : Int32} (d : decode cc pc = .ok (.i2l, 1))  (kk : GW p l e R s m args below meth c Q D cy cs ad cn sn nL (pc + 1) lv (.long x.toInt64 :: rest) S) : GW p l e R s m args below meth c Q D cy cs ad cn sn nL pc lv (.int x :: rest) S := fun H locs ls hP hS h => lv_i2l B.1 B.2.1 d rfl (kk H locs ls hP hS h)
theorem g_l2i (B : Bd p s m args meth c D cy cs ad Zp cc nL own ret) {x : Int64} (d : decode cc pc = .ok (.l2i, 1))  (kk : GW p l e R s m args below meth c Q D cy cs ad cn sn nL (pc + 1) lv (.int x.toInt32 :: rest) S) : GW p l e R s m args below meth c Q D cy cs ad cn sn nL pc lv (.long x :: rest) S := fun H locs ls hP hS h => lv_l2i B.1 B.2.1 d rfl (kk H locs ls hP hS h)
theorem g_i2b (B : Bd p s m args meth c D cy cs ad Zp cc nL own ret) {x : Int32} (d : decode cc pc = .ok (.i2b, 1))  (kk : GW p l e R s m args below meth c Q D cy cs ad cn sn nL (pc + 1) lv (.int x.toInt8.toInt32 :: rest) S) : GW p l e R s m args below meth c Q D cy cs ad cn sn nL pc lv (.int x :: rest) S := fun H locs ls hP hS h => lv_i2b B.1 B.2.1 d rfl (kk H locs ls hP hS h)
theorem g_lshl (B : Bd p s m args meth c D cy cs ad Zp cc nL own ret) {x : Int64} {y : Int32} (d : decode cc pc = .ok (.lshl, 1))  (kk : GW p l e R s m args below meth c Q D cy cs ad cn sn nL (pc + 1) lv (.long (x <<< (y.toInt64 &&& 63)) :: rest) S) : GW p l e R s m args below meth c Q D cy cs ad cn sn nL pc lv (.int y :: .long x :: rest) S := fun H locs ls hP hS h => lv_lshl B.1 B.2.1 d rfl (kk H locs ls hP hS h)
theorem g_lshr (B : Bd p s m args meth c D cy cs ad Zp cc nL own ret) {x : Int64} {y : Int32} (d : decode cc pc = .ok (.lshr, 1))  (kk : GW p l e R s m args below meth c Q D cy cs ad cn sn nL (pc + 1) lv (.long (x >>> (y.toInt64 &&& 63)) :: rest) S) : GW p l e R s m args below meth c Q D cy cs ad cn sn nL pc lv (.int y :: .long x :: rest) S := fun H locs ls hP hS h => lv_lshr B.1 B.2.1 d rfl (kk H locs ls hP hS h)
theorem g_dup (B : Bd p s m args meth c D cy cs ad Zp cc nL own ret) {v : Value} (d : decode cc pc = .ok (.dup, 1)) (hv : v.category = 1) (kk : GW p l e R s m args below meth c Q D cy cs ad cn sn nL (pc + 1) lv (v :: v :: rest) S) : GW p l e R s m args below meth c Q D cy cs ad cn sn nL pc lv (v :: rest) S := fun H locs ls hP hS h => lv_dup B.1 B.2.1 d hv (kk H locs ls hP hS h)
theorem g_pop (B : Bd p s m args meth c D cy cs ad Zp cc nL own ret) {v : Value} (d : decode cc pc = .ok (.pop, 1)) (hv : v.category = 1) (kk : GW p l e R s m args below meth c Q D cy cs ad cn sn nL (pc + 1) lv (rest) S) : GW p l e R s m args below meth c Q D cy cs ad cn sn nL pc lv (v :: rest) S := fun H locs ls hP hS h => lv_pop B.1 B.2.1 d hv (kk H locs ls hP hS h)
theorem g_dup2 (B : Bd p s m args meth c D cy cs ad Zp cc nL own ret) {v w : Value} (d : decode cc pc = .ok (.dup2, 1)) (hv : v.category = 1) (hw : w.category = 1) (kk : GW p l e R s m args below meth c Q D cy cs ad cn sn nL (pc + 1) lv (v :: w :: v :: w :: rest) S) : GW p l e R s m args below meth c Q D cy cs ad cn sn nL pc lv (v :: w :: rest) S := fun H locs ls hP hS h => lv_dup2_11 B.1 B.2.1 d hv hw (kk H locs ls hP hS h)
theorem g_dup_x1 (B : Bd p s m args meth c D cy cs ad Zp cc nL own ret) {v w : Value} (d : decode cc pc = .ok (.dup_x1, 1)) (hv : v.category = 1) (hw : w.category = 1) (kk : GW p l e R s m args below meth c Q D cy cs ad cn sn nL (pc + 1) lv (v :: w :: v :: rest) S) : GW p l e R s m args below meth c Q D cy cs ad cn sn nL pc lv (v :: w :: rest) S := fun H locs ls hP hS h => lv_dup_x1 B.1 B.2.1 d hv hw (kk H locs ls hP hS h)
theorem g_if_eq (B : Bd p s m args meth c D cy cs ad Zp cc nL own ret) {x : Int32} {off : Int} (tgt : Nat) (d : decode cc pc = .ok (.ifCond .eq off, 3)) (ht : (pc : Int) + off = (tgt : Int)) (kt : x = 0 → GW p l e R s m args below meth c Q D cy cs ad cn sn nL tgt lv rest S) (kf : ¬ (x = 0) → GW p l e R s m args below meth c Q D cy cs ad cn sn nL (pc + 3) lv rest S) : GW p l e R s m args below meth c Q D cy cs ad cn sn nL pc lv (.int x :: rest) S := fun H locs ls hP hS h => lv_if_eq B.1 B.2.1 d ht (fun q => kt q H locs ls hP hS h) (fun q => kf q H locs ls hP hS h)
theorem g_icmp_eq (B : Bd p s m args meth c D cy cs ad Zp cc nL own ret) {x y : Int32} {off : Int} (tgt : Nat) (d : decode cc pc = .ok (.if_icmp .eq off, 3)) (ht : (pc : Int) + off = (tgt : Int)) (kt : x = y → GW p l e R s m args below meth c Q D cy cs ad cn sn nL tgt lv rest S) (kf : ¬ (x = y) → GW p l e R s m args below meth c Q D cy cs ad cn sn nL (pc + 3) lv rest S) : GW p l e R s m args below meth c Q D cy cs ad cn sn nL pc lv (.int y :: .int x :: rest) S := fun H locs ls hP hS h => lv_icmp_eq B.1 B.2.1 d ht (fun q => kt q H locs ls hP hS h) (fun q => kf q H locs ls hP hS h)
theorem g_if_ne (B : Bd p s m args meth c D cy cs ad Zp cc nL own ret) {x : Int32} {off : Int} (tgt : Nat) (d : decode cc pc = .ok (.ifCond .ne off, 3)) (ht : (pc : Int) + off = (tgt : Int)) (kt : ¬ x = 0 → GW p l e R s m args below meth c Q D cy cs ad cn sn nL tgt lv rest S) (kf : x = 0 → GW p l e R s m args below meth c Q D cy cs ad cn sn nL (pc + 3) lv rest S) : GW p l e R s m args below meth c Q D cy cs ad cn sn nL pc lv (.int x :: rest) S := fun H locs ls hP hS h => lv_if_ne B.1 B.2.1 d ht (fun q => kt q H locs ls hP hS h) (fun q => kf q H locs ls hP hS h)
theorem g_icmp_ne (B : Bd p s m args meth c D cy cs ad Zp cc nL own ret) {x y : Int32} {off : Int} (tgt : Nat) (d : decode cc pc = .ok (.if_icmp .ne off, 3)) (ht : (pc : Int) + off = (tgt : Int)) (kt : ¬ x = y → GW p l e R s m args below meth c Q D cy cs ad cn sn nL tgt lv rest S) (kf : x = y → GW p l e R s m args below meth c Q D cy cs ad cn sn nL (pc + 3) lv rest S) : GW p l e R s m args below meth c Q D cy cs ad cn sn nL pc lv (.int y :: .int x :: rest) S := fun H locs ls hP hS h => lv_icmp_ne B.1 B.2.1 d ht (fun q => kt q H locs ls hP hS h) (fun q => kf q H locs ls hP hS h)
theorem g_if_lt (B : Bd p s m args meth c D cy cs ad Zp cc nL own ret) {x : Int32} {off : Int} (tgt : Nat) (d : decode cc pc = .ok (.ifCond .lt off, 3)) (ht : (pc : Int) + off = (tgt : Int)) (kt : x < 0 → GW p l e R s m args below meth c Q D cy cs ad cn sn nL tgt lv rest S) (kf : ¬ (x < 0) → GW p l e R s m args below meth c Q D cy cs ad cn sn nL (pc + 3) lv rest S) : GW p l e R s m args below meth c Q D cy cs ad cn sn nL pc lv (.int x :: rest) S := fun H locs ls hP hS h => lv_if_lt B.1 B.2.1 d ht (fun q => kt q H locs ls hP hS h) (fun q => kf q H locs ls hP hS h)
theorem g_icmp_lt (B : Bd p s m args meth c D cy cs ad Zp cc nL own ret) {x y : Int32} {off : Int} (tgt : Nat) (d : decode cc pc = .ok (.if_icmp .lt off, 3)) (ht : (pc : Int) + off = (tgt : Int)) (kt : x < y → GW p l e R s m args below meth c Q D cy cs ad cn sn nL tgt lv rest S) (kf : ¬ (x < y) → GW p l e R s m args below meth c Q D cy cs ad cn sn nL (pc + 3) lv rest S) : GW p l e R s m args below meth c Q D cy cs ad cn sn nL pc lv (.int y :: .int x :: rest) S := fun H locs ls hP hS h => lv_icmp_lt B.1 B.2.1 d ht (fun q => kt q H locs ls hP hS h) (fun q => kf q H locs ls hP hS h)
theorem g_if_ge (B : Bd p s m args meth c D cy cs ad Zp cc nL own ret) {x : Int32} {off : Int} (tgt : Nat) (d : decode cc pc = .ok (.ifCond .ge off, 3)) (ht : (pc : Int) + off = (tgt : Int)) (kt : 0 ≤ x → GW p l e R s m args below meth c Q D cy cs ad cn sn nL tgt lv rest S) (kf : ¬ (0 ≤ x) → GW p l e R s m args below meth c Q D cy cs ad cn sn nL (pc + 3) lv rest S) : GW p l e R s m args below meth c Q D cy cs ad cn sn nL pc lv (.int x :: rest) S := fun H locs ls hP hS h => lv_if_ge B.1 B.2.1 d ht (fun q => kt q H locs ls hP hS h) (fun q => kf q H locs ls hP hS h)
theorem g_icmp_ge (B : Bd p s m args meth c D cy cs ad Zp cc nL own ret) {x y : Int32} {off : Int} (tgt : Nat) (d : decode cc pc = .ok (.if_icmp .ge off, 3)) (ht : (pc : Int) + off = (tgt : Int)) (kt : y ≤ x → GW p l e R s m args below meth c Q D cy cs ad cn sn nL tgt lv rest S) (kf : ¬ (y ≤ x) → GW p l e R s m args below meth c Q D cy cs ad cn sn nL (pc + 3) lv rest S) : GW p l e R s m args below meth c Q D cy cs ad cn sn nL pc lv (.int y :: .int x :: rest) S := fun H locs ls hP hS h => lv_icmp_ge B.1 B.2.1 d ht (fun q => kt q H locs ls hP hS h) (fun q => kf q H locs ls hP hS h)
theorem g_if_gt (B : Bd p s m args meth c D cy cs ad Zp cc nL own ret) {x : Int32} {off : Int} (tgt : Nat) (d : decode cc pc = .ok (.ifCond .gt off, 3)) (ht : (pc : Int) + off = (tgt : Int)) (kt : 0 < x → GW p l e R s m args below meth c Q D cy cs ad cn sn nL tgt lv rest S) (kf : ¬ (0 < x) → GW p l e R s m args below meth c Q D cy cs ad cn sn nL (pc + 3) lv rest S) : GW p l e R s m args below meth c Q D cy cs ad cn sn nL pc lv (.int x :: rest) S := fun H locs ls hP hS h => lv_if_gt B.1 B.2.1 d ht (fun q => kt q H locs ls hP hS h) (fun q => kf q H locs ls hP hS h)
theorem g_icmp_gt (B : Bd p s m args meth c D cy cs ad Zp cc nL own ret) {x y : Int32} {off : Int} (tgt : Nat) (d : decode cc pc = .ok (.if_icmp .gt off, 3)) (ht : (pc : Int) + off = (tgt : Int)) (kt : y < x → GW p l e R s m args below meth c Q D cy cs ad cn sn nL tgt lv rest S) (kf : ¬ (y < x) → GW p l e R s m args below meth c Q D cy cs ad cn sn nL (pc + 3) lv rest S) : GW p l e R s m args below meth c Q D cy cs ad cn sn nL pc lv (.int y :: .int x :: rest) S := fun H locs ls hP hS h => lv_icmp_gt B.1 B.2.1 d ht (fun q => kt q H locs ls hP hS h) (fun q => kf q H locs ls hP hS h)
theorem g_if_le (B : Bd p s m args meth c D cy cs ad Zp cc nL own ret) {x : Int32} {off : Int} (tgt : Nat) (d : decode cc pc = .ok (.ifCond .le off, 3)) (ht : (pc : Int) + off = (tgt : Int)) (kt : x ≤ 0 → GW p l e R s m args below meth c Q D cy cs ad cn sn nL tgt lv rest S) (kf : ¬ (x ≤ 0) → GW p l e R s m args below meth c Q D cy cs ad cn sn nL (pc + 3) lv rest S) : GW p l e R s m args below meth c Q D cy cs ad cn sn nL pc lv (.int x :: rest) S := fun H locs ls hP hS h => lv_if_le B.1 B.2.1 d ht (fun q => kt q H locs ls hP hS h) (fun q => kf q H locs ls hP hS h)
theorem g_icmp_le (B : Bd p s m args meth c D cy cs ad Zp cc nL own ret) {x y : Int32} {off : Int} (tgt : Nat) (d : decode cc pc = .ok (.if_icmp .le off, 3)) (ht : (pc : Int) + off = (tgt : Int)) (kt : x ≤ y → GW p l e R s m args below meth c Q D cy cs ad cn sn nL tgt lv rest S) (kf : ¬ (x ≤ y) → GW p l e R s m args below meth c Q D cy cs ad cn sn nL (pc + 3) lv rest S) : GW p l e R s m args below meth c Q D cy cs ad cn sn nL pc lv (.int y :: .int x :: rest) S := fun H locs ls hP hS h => lv_icmp_le B.1 B.2.1 d ht (fun q => kt q H locs ls hP hS h) (fun q => kf q H locs ls hP hS h)
theorem g_goto (B : Bd p s m args meth c D cy cs ad Zp cc nL own ret) {off : Int} (tgt : Nat) (d : decode cc pc = .ok (.goto off, 3)) (ht : (pc : Int) + off = (tgt : Int)) (kk : GW p l e R s m args below meth c Q D cy cs ad cn sn nL tgt lv rest S) : GW p l e R s m args below meth c Q D cy cs ad cn sn nL pc lv rest S := fun H locs ls hP hS h => lv_goto B.1 B.2.1 d ht (kk H locs ls hP hS h)
theorem g_tableIn (B : Bd p s m args meth c D cy cs ad Zp cc nL own ret) {dflt lo hi : Int} {offs : Array Int} {len : Nat} {x : Int32} {off : Int} (tgt : Nat) (d : decode cc pc = .ok (.tableswitch dflt lo hi offs, len)) (h1 : ¬ x.toInt < lo) (h2 : ¬ hi < x.toInt) (ho : offs[(x.toInt - lo).toNat]? = some off) (ht : (pc : Int) + off = (tgt : Int)) (kk : GW p l e R s m args below meth c Q D cy cs ad cn sn nL tgt lv rest S) : GW p l e R s m args below meth c Q D cy cs ad cn sn nL pc lv (.int x :: rest) S := fun H locs ls hP hS h => lv_tableIn B.1 B.2.1 d h1 h2 ho ht (kk H locs ls hP hS h)
theorem g_tableOut (B : Bd p s m args meth c D cy cs ad Zp cc nL own ret) {dflt lo hi : Int} {offs : Array Int} {len : Nat} {x : Int32} (tgt : Nat) (d : decode cc pc = .ok (.tableswitch dflt lo hi offs, len)) (h1 : x.toInt < lo ∨ hi < x.toInt) (ht : (pc : Int) + dflt = (tgt : Int)) (kk : GW p l e R s m args below meth c Q D cy cs ad cn sn nL tgt lv rest S) : GW p l e R s m args below meth c Q D cy cs ad cn sn nL pc lv (.int x :: rest) S := fun H locs ls hP hS h => lv_tableOut B.1 B.2.1 d h1 ht (kk H locs ls hP hS h)
theorem g_lookup (B : Bd p s m args meth c D cy cs ad Zp cc nL own ret) {dflt : Int} {ps : Array (Int × Int)} {len : Nat} {x : Int32} {off : Int} (tgt : Nat) (d : decode cc pc = .ok (.lookupswitch dflt ps, len)) (hp : (ps.toList.zip (ps.toList.drop 1)).all (fun (a, next) => a.1 < next.1) = true) (ho : Op.lookupswitch.offset ps.toList dflt x.toInt = off) (ht : (pc : Int) + off = (tgt : Int)) (kk : GW p l e R s m args below meth c Q D cy cs ad cn sn nL tgt lv rest S) : GW p l e R s m args below meth c Q D cy cs ad cn sn nL pc lv (.int x :: rest) S := fun H locs ls hP hS h => lv_lookup B.1 B.2.1 d hp ho ht (kk H locs ls hP hS h)
theorem g_iald (B : Bd p s m args meth c D cy cs ad Zp cc nL own ret) {k0 k1 n : Nat} {i : Int32} (hm : mc cs k0 k1 = true) (hsh : ∀ f, sh cy ad k0 k1 f (S.2 k0 k1) = .inl (cy 0, n, .inl f)) (hin : inb i n = true) (d : decode cc pc = .ok (.iaload, 1)) (kk : GW p l e R s m args below meth c Q D cy cs ad cn sn nL (pc + 1) lv (.int (gi S k0 k1 i.toNatClampNeg) :: rest) S) : GW p l e R s m args below meth c Q D cy cs ad cn sn nL pc lv (.int i :: .ref (ad k0 k1) :: rest) S := by
  intro H locs ls hP hS h
  obtain ⟨i, hi⟩ := wd_at hm
  exact va_iald B.1 B.2.1 B.2.2.2.2.2.1 hP i 0 (f := S.1 k0 k1) (by rw [wd_i hi]; exact congrArg (fun z => some (ad k0 k1, z)) (hsh (S.1 k0 k1))) rfl (inb_in hin) d (kk H locs ls hP hS h)
theorem g_bald (B : Bd p s m args meth c D cy cs ad Zp cc nL own ret) {k0 k1 n : Nat} {i : Int32} (hm : mc cs k0 k1 = true) (hsh : ∀ f, sh cy ad k0 k1 f (S.2 k0 k1) = .inl (cy 1, n, .inl f)) (hin : inb i n = true) (d : decode cc pc = .ok (.baload, 1)) (kk : GW p l e R s m args below meth c Q D cy cs ad cn sn nL (pc + 1) lv (.int (gi S k0 k1 i.toNatClampNeg) :: rest) S) : GW p l e R s m args below meth c Q D cy cs ad cn sn nL pc lv (.int i :: .ref (ad k0 k1) :: rest) S := by
  intro H locs ls hP hS h
  obtain ⟨i, hi⟩ := wd_at hm
  exact va_bald B.1 B.2.1 B.2.2.2.2.2.1 hP i 1 (f := S.1 k0 k1) (by rw [wd_i hi]; exact congrArg (fun z => some (ad k0 k1, z)) (hsh (S.1 k0 k1))) rfl (inb_in hin) d (kk H locs ls hP hS h)
theorem g_zald (B : Bd p s m args meth c D cy cs ad Zp cc nL own ret) {k0 k1 n : Nat} {i : Int32} (hm : mc cs k0 k1 = true) (hsh : ∀ f, sh cy ad k0 k1 f (S.2 k0 k1) = .inl (cy 3, n, .inl f)) (hin : inb i n = true) (d : decode cc pc = .ok (.baload, 1)) (kk : GW p l e R s m args below meth c Q D cy cs ad cn sn nL (pc + 1) lv (.int (gi S k0 k1 i.toNatClampNeg) :: rest) S) : GW p l e R s m args below meth c Q D cy cs ad cn sn nL pc lv (.int i :: .ref (ad k0 k1) :: rest) S := by
  intro H locs ls hP hS h
  obtain ⟨i, hi⟩ := wd_at hm
  exact va_zald B.1 B.2.1 B.2.2.2.2.2.1 hP i 3 (f := S.1 k0 k1) (by rw [wd_i hi]; exact congrArg (fun z => some (ad k0 k1, z)) (hsh (S.1 k0 k1))) rfl (inb_in hin) d (kk H locs ls hP hS h)
theorem g_lald (B : Bd p s m args meth c D cy cs ad Zp cc nL own ret) {k0 k1 n : Nat} {i : Int32} (hm : mc cs k0 k1 = true) (hsh : ∀ f, sh cy ad k0 k1 (S.1 k0 k1) f = .inl (cy 2, n, .inr (.inl f))) (hin : inb i n = true) (d : decode cc pc = .ok (.laload, 1)) (kk : GW p l e R s m args below meth c Q D cy cs ad cn sn nL (pc + 1) lv (.long (gl S k0 k1 i.toNatClampNeg) :: rest) S) : GW p l e R s m args below meth c Q D cy cs ad cn sn nL pc lv (.int i :: .ref (ad k0 k1) :: rest) S := by
  intro H locs ls hP hS h
  obtain ⟨i, hi⟩ := wd_at hm
  exact va_lald B.1 B.2.1 B.2.2.2.2.2.1 hP i 2 (f := S.2 k0 k1) (by rw [wd_i hi]; exact congrArg (fun z => some (ad k0 k1, z)) (hsh (S.2 k0 k1))) rfl (inb_in hin) d (kk H locs ls hP hS h)
theorem g_aald (B : Bd p s m args meth c D cy cs ad Zp cc nL own ret) {k0 k1 n : Nat} {f : Nat → Option Nat} {i : Int32} {t0 : Nat} {ty : FieldType} {a : Nat} (hty : (tyl cy)[t0]? = some (cy t0, ty)) (hre : ty.isReference = true) (hm : mc cs k0 k1 = true) (hsh : sh cy ad k0 k1 (S.1 k0 k1) (S.2 k0 k1) = .inl (cy t0, n, .inr (.inr (.inr (.inr f))))) (hin : inb i n = true) (hf : f i.toNatClampNeg = some a) (d : decode cc pc = .ok (.aaload, 1)) (kk : GW p l e R s m args below meth c Q D cy cs ad cn sn nL (pc + 1) lv (.ref a :: rest) S) : GW p l e R s m args below meth c Q D cy cs ad cn sn nL pc lv (.int i :: .ref (ad k0 k1) :: rest) S := by
  intro H locs ls hP hS h
  obtain ⟨i1, hi⟩ := wd_at hm
  have hn := inb_in hin
  have hlt : i.toNatClampNeg < n := Nat.not_le.mp fun q => hn (Or.inr q)
  have hK := B.2.2.2.2.2.1
  have hc : H[ad k0 k1]? = some (vp_cell (cy t0) (n, .inr (.inr (.inr (.inr f))))) := by
    have h9 := hP i1 _ (wd_i hi)
    simp only [hsh] at h9
    exact h9
  exact W.aald (v := .ref a) (ty := ty) B.1 B.2.1 hc ((hK.2 t0 _ hty).1 n (fun j => va_rf (f j))) hre (fun q => by cases q) (by show ¬ (i < 0 ∨ (arrV _ _ _).slots.size ≤ _); rw [arrV_size]; exact hn) (by show (arrV _ _ _).slots[_]? = _; rw [arrV_read _ _ hlt]; show some (va_rf (f i.toNatClampNeg)) = _; rw [hf]; rfl) rfl rfl d (kk H locs ls hP hS h)
theorem g_iast (B : Bd p s m args meth c D cy cs ad Zp cc nL own ret) {k0 k1 n : Nat} {i x : Int32} {S' : HS} (hm : mc cs k0 k1 = true) (hin : inb i n = true) (hsh' : ∀ f, sh cy ad k0 k1 f (S.2 k0 k1) = .inl (cy 0, n, .inl f)) (hS' : S' = ui S k0 k1 i.toNatClampNeg x) (d : decode cc pc = .ok (.iastore, 1)) (kk : GW p l e R s m args below meth c Q D cy cs ad cn sn nL (pc + 1) lv rest S') : GW p l e R s m args below meth c Q D cy cs ad cn sn nL pc lv (.int x :: .int i :: .ref (ad k0 k1) :: rest) S := by
  intro H locs ls hP hS h
  obtain ⟨i1, hi⟩ := wd_at hm
  refine va_iast B.1 B.2.1 B.2.2.2.2.2.1 hP (wd_D B.2.2.2.2.2.2.1) hS i1 0 (f := S.1 k0 k1) (by rw [wd_i hi]; exact congrArg (fun z => some (ad k0 k1, z)) (hsh' (S.1 k0 k1))) rfl (inb_in hin) d (fun H1 locs1 hP1 _ hS1 => ?_)
  rw [wd_set (s' := S') B.2.2.2.2.2.2.1 hi (by rw [hS', ui_at]; exact hsh' _) (fun c' k' q => by rw [hS']; exact ⟨ui_ne _ _ _ _ _ q, rfl⟩)] at hP1
  exact kk H1 locs1 ls hP1 hS1 h
theorem g_bast (B : Bd p s m args meth c D cy cs ad Zp cc nL own ret) {k0 k1 n : Nat} {i x : Int32} {S' : HS} (hm : mc cs k0 k1 = true) (hin : inb i n = true) (hsh' : ∀ f, sh cy ad k0 k1 f (S.2 k0 k1) = .inl (cy 1, n, .inl f)) (hS' : S' = ui S k0 k1 i.toNatClampNeg (vp_nar .byte x)) (d : decode cc pc = .ok (.bastore, 1)) (kk : GW p l e R s m args below meth c Q D cy cs ad cn sn nL (pc + 1) lv rest S') : GW p l e R s m args below meth c Q D cy cs ad cn sn nL pc lv (.int x :: .int i :: .ref (ad k0 k1) :: rest) S := by
  intro H locs ls hP hS h
  obtain ⟨i1, hi⟩ := wd_at hm
  refine va_bast B.1 B.2.1 B.2.2.2.2.2.1 hP (wd_D B.2.2.2.2.2.2.1) hS i1 1 (f := S.1 k0 k1) (by rw [wd_i hi]; exact congrArg (fun z => some (ad k0 k1, z)) (hsh' (S.1 k0 k1))) rfl (inb_in hin) d (fun H1 locs1 hP1 _ hS1 => ?_)
  rw [wd_set (s' := S') B.2.2.2.2.2.2.1 hi (by rw [hS', ui_at]; exact hsh' _) (fun c' k' q => by rw [hS']; exact ⟨ui_ne _ _ _ _ _ q, rfl⟩)] at hP1
  exact kk H1 locs1 ls hP1 hS1 h
theorem g_zast (B : Bd p s m args meth c D cy cs ad Zp cc nL own ret) {k0 k1 n : Nat} {i x : Int32} {S' : HS} (hm : mc cs k0 k1 = true) (hin : inb i n = true) (hsh' : ∀ f, sh cy ad k0 k1 f (S.2 k0 k1) = .inl (cy 3, n, .inl f)) (hS' : S' = ui S k0 k1 i.toNatClampNeg (vp_nar .boolean x)) (d : decode cc pc = .ok (.bastore, 1)) (kk : GW p l e R s m args below meth c Q D cy cs ad cn sn nL (pc + 1) lv rest S') : GW p l e R s m args below meth c Q D cy cs ad cn sn nL pc lv (.int x :: .int i :: .ref (ad k0 k1) :: rest) S := by
  intro H locs ls hP hS h
  obtain ⟨i1, hi⟩ := wd_at hm
  refine va_zast B.1 B.2.1 B.2.2.2.2.2.1 hP (wd_D B.2.2.2.2.2.2.1) hS i1 3 (f := S.1 k0 k1) (by rw [wd_i hi]; exact congrArg (fun z => some (ad k0 k1, z)) (hsh' (S.1 k0 k1))) rfl (inb_in hin) d (fun H1 locs1 hP1 _ hS1 => ?_)
  rw [wd_set (s' := S') B.2.2.2.2.2.2.1 hi (by rw [hS', ui_at]; exact hsh' _) (fun c' k' q => by rw [hS']; exact ⟨ui_ne _ _ _ _ _ q, rfl⟩)] at hP1
  exact kk H1 locs1 ls hP1 hS1 h
theorem g_last (B : Bd p s m args meth c D cy cs ad Zp cc nL own ret) {k0 k1 n : Nat} {i : Int32} {x : Int64} {S' : HS} (hm : mc cs k0 k1 = true) (hin : inb i n = true) (hsh' : ∀ f, sh cy ad k0 k1 (S.1 k0 k1) f = .inl (cy 2, n, .inr (.inl f))) (hS' : S' = ul S k0 k1 i.toNatClampNeg x) (d : decode cc pc = .ok (.lastore, 1)) (kk : GW p l e R s m args below meth c Q D cy cs ad cn sn nL (pc + 1) lv rest S') : GW p l e R s m args below meth c Q D cy cs ad cn sn nL pc lv (.long x :: .int i :: .ref (ad k0 k1) :: rest) S := by
  intro H locs ls hP hS h
  obtain ⟨i1, hi⟩ := wd_at hm
  refine va_last B.1 B.2.1 B.2.2.2.2.2.1 hP (wd_D B.2.2.2.2.2.2.1) hS i1 2 (f := S.2 k0 k1) (by rw [wd_i hi]; exact congrArg (fun z => some (ad k0 k1, z)) (hsh' (S.2 k0 k1))) rfl (inb_in hin) d (fun H1 locs1 hP1 _ hS1 => ?_)
  rw [wd_set (s' := S') B.2.2.2.2.2.2.1 hi (by rw [hS', ul_at]; exact hsh' _) (fun c' k' q => by rw [hS']; exact ⟨rfl, ul_ne _ _ _ _ _ q⟩)] at hP1
  exact kk H1 locs1 ls hP1 hS1 h
theorem g_topi {x y : Int32} (e1 : y = x) (kk : GW p l e R s m args below meth c Q D cy cs ad cn sn nL pc lv (.int y :: rest) S) : GW p l e R s m args below meth c Q D cy cs ad cn sn nL pc lv (.int x :: rest) S := e1 ▸ kk
theorem g_topl {x y : Int64} (e1 : y = x) (kk : GW p l e R s m args below meth c Q D cy cs ad cn sn nL pc lv (.long y :: rest) S) : GW p l e R s m args below meth c Q D cy cs ad cn sn nL pc lv (.long x :: rest) S := e1 ▸ kk
theorem g_iret (B : Bd p s m args meth c D cy cs ad Zp cc nL own (some .int)) {v : Int32} (d : decode cc pc = .ok (.ireturn, 1)) : GW p l e R s m args below meth c (QM below args s D cy cs ad (some (.int v)) S) D cy cs ad 0 0 nL pc lv [.int v] S := fun H locs ls hP hS h => W.iret B.1 B.2.1 B.2.2.2.2.2.2.2.1 (fun t ht hW => ⟨rfl, by rw [ht]; exact hP, hS.F ht⟩) hS.2.2 d B.2.2.2.2.2.2.2.2.1
theorem g_zret (B : Bd p s m args meth c D cy cs ad Zp cc nL own (some .boolean)) {v : Int32} (hn : b01 v = true) (d : decode cc pc = .ok (.ireturn, 1)) : GW p l e R s m args below meth c (QM below args s D cy cs ad (some (.int v)) S) D cy cs ad 0 0 nL pc lv [.int v] S := fun H locs ls hP hS h => W.zret B.1 B.2.1 B.2.2.2.2.2.2.2.1 (b01_n hn) (fun t ht hW => ⟨rfl, by rw [ht]; exact hP, hS.F ht⟩) hS.2.2 d B.2.2.2.2.2.2.2.2.1
theorem g_lret (B : Bd p s m args meth c D cy cs ad Zp cc nL own (some .long)) {v : Int64} (d : decode cc pc = .ok (.lreturn, 1)) : GW p l e R s m args below meth c (QM below args s D cy cs ad (some (.long v)) S) D cy cs ad 0 0 nL pc lv [.long v] S := fun H locs ls hP hS h => W.lret B.1 B.2.1 B.2.2.2.2.2.2.2.1 (fun t ht hW => ⟨rfl, by rw [ht]; exact hP, hS.F ht⟩) hS.2.2 d B.2.2.2.2.2.2.2.2.1
theorem g_vret (B : Bd p s m args meth c D cy cs ad Zp cc nL own (none)) (d : decode cc pc = .ok (.return_, 1)) : GW p l e R s m args below meth c (QM below args s D cy cs ad none S) D cy cs ad 0 0 nL pc lv [] S := fun H locs ls hP hS h => W.vret B.1 B.2.1 B.2.2.2.2.2.2.2.1 (fun t ht hW => ⟨rfl, by rw [ht]; exact hP, hS.F ht⟩) hS.2.2 d B.2.2.2.2.2.2.2.2.1
theorem g_aret {t : FieldType} (B : Bd p s m args meth c D cy cs ad Zp cc nL own (some (.array t))) {v : Nat} (d : decode cc pc = .ok (.areturn, 1)) : GW p l e R s m args below meth c (QM below args s D cy cs ad (some (.ref v)) S) D cy cs ad 0 0 nL pc lv [.ref v] S := fun H locs ls hP hS h => W.aret B.1 B.2.1 B.2.2.2.2.2.2.2.1 (Or.inr ⟨t, rfl⟩) (Or.inr ⟨v, rfl⟩) (fun t ht hW => ⟨rfl, by rw [ht]; exact hP, hS.F ht⟩) hS.2.2 d B.2.2.2.2.2.2.2.2.1
theorem gw_V {idx nL' : Nat} {own C : String} {y : MethodName} {cc' : ByteArray} {ret' : Option FieldType} (h1 : Cond.methodLink own idx y ∈ gw) (h2 : Cond.instanceMethod y ∈ gw) (h3 : Cond.selects C y y ∈ gw) (h4 : Cond.initialized C ∈ gw) (h5 : Cond.code y cc' nL' ret' ∈ gw) : GoodIn gw (wsV own idx C y (Cond.code y cc' nL' ret' :: gw)) := by
  intro w hw
  refine gw_one ?_
  simp only [wsV, List.cons_append, List.nil_append, List.mem_cons] at hw
  rcases hw with rfl | rfl | rfl | rfl | rfl | hw
  · exact h1
  · exact h2
  · exact h3
  · exact h4
  · exact h5
  · exact hw
theorem gw_S {nL' : Nat} {y : MethodName} {cc' : ByteArray} {ret' : Option FieldType} (h5 : Cond.code y cc' nL' ret' ∈ gw) : GoodIn gw (Cond.code y cc' nL' ret' :: gw) := by
  intro w hw
  refine gw_one ?_
  rcases List.mem_cons.mp hw with rfl | hw
  · exact h5
  · exact hw
/-- what a call looks up of an instance method -/
def MFV (y : MethodName) (cc' : ByteArray) (nL' : Nat) (ret' : Option FieldType) (C : String) (n : Nat) : Prop := Cond.instanceMethod y ∈ gw ∧ Cond.selects C y y ∈ gw ∧ Cond.initialized C ∈ gw ∧ Cond.code y cc' nL' ret' ∈ gw ∧ (y.cls = C ∧ y.cls ≠ "java/lang/invoke/MethodHandle" ∧ y.cls ≠ "java/lang/invoke/VarHandle" ∧ (parseMethodDescriptor y.desc).map (fun d => d.parameters.length) = some n)
def MFS (y : MethodName) (cc' : ByteArray) (nL' : Nat) (ret' : Option FieldType) (n : Nat) : Prop := Cond.static y ∈ gw ∧ Cond.initialized y.cls ∈ gw ∧ Cond.code y cc' nL' ret' ∈ gw ∧ (y.cls ≠ "java/lang/invoke/MethodHandle" ∧ y.cls ≠ "java/lang/invoke/VarHandle" ∧ (parseMethodDescriptor y.desc).map (fun d => d.parameters.length) = some n)
theorem Ctr.blind {Zp : State → Prop} {D : va_G} {cy : Nat → ClassId} {cs : List (Nat × Nat)} {ad : Nat → Nat → Nat} {av : List Value} {S0 : HS} (hZo : ZOk cs ad Zp) : FrameBlind (va_Pc av (fun U => va_P D vwCl (Wd cs cy ad S0) U.heap ∧ va_K D vwCl (tyl cy) U ∧ Zp U)) := fun a U g mk q => ⟨q.1, q.2.1, va_K.moved (u := U) (U := U.calling g mk a) (Vm.Alike.refl U.vm) q.2.2.1, hZo.2 _ _ _ _ q.2.2.2⟩
theorem g_run {H : Heap} {locs : List Loc} {ls : Array Slot} {st0 : List Value} {o : Option Value} {S1 : HS} {a : Array Value} (run : va_Run p l e R s m args below meth c H locs cn sn 0 0 (F0 m pc ls st0) rest (QR D cy cs ad o S1 a) (gA cs ad)) (hS : va_S (gA cs ad) s.heap H locs)
    (kk : ∀ (H1 : Heap) (locs1 : List Loc), va_P D vwCl (Wd cs cy ad S1) H1 → va_S (gA cs ad) s.heap H1 locs1 → W p l e R s m args below meth c H1 locs1 cn sn Q (F0 m (pc + 3) ls (o.toList ++ rest))) : W p l e R s m args below meth c H locs cn sn Q (F0 m pc ls st0) := by
  intro T hT X
  obtain ⟨v, st₀, t, T', L, h0, X', hL, e1, e2, ⟨hv, hp, hz, hk⟩, st⟩ := run T hT X
  cases hv
  rw [h0] at hz hk
  obtain ⟨t2, a1, b1⟩ := kk T'.heap (locs ++ L) (by rw [e1]; exact hp)
    ⟨Nat.le_trans hS.1 (by rw [e1]; exact hz), fun q h1 h2 => by rw [e1, hk q (Nat.lt_of_lt_of_le h1 hS.1) h2]; exact hS.2.1 q h1 h2, fun q hq => by
      rcases List.mem_append.mp hq with h | h
      · exact hS.2.2 q h
      · exact hL q h⟩ T' rfl X'
  exact ⟨t2, st t2 a1, b1⟩
theorem g_cv (B : Bd p s m args meth c D cy cs ad Zp cc nL own ret) {y : MethodName} {cc' : ByteArray} {nL' n idx k0 k1 ci N : Nat} {ret' : Option FieldType} {rm' : Room} {As st : List Value} {S1 : HS} {o : Option Value} {C : String} {T : u_T} {fs : List Value} (hM : Ctr Zp l y cc' nL' ret' rm' D cy cs ad (.ref (ad k0 k1) :: As) S o S1) (mf : MFV y cc' nL' ret' C n) (hl : Cond.methodLink own idx y ∈ gw) (hR : rm'.frames + 1 ≤ R.frames ∧ 8 + (nL' + 11) + rm'.locals ≤ R.locals) (hz : rm'.cells = 0 ∧ rm'.slots = 0) (hm : mc cs k0 k1 = true) (hsh : sh cy ad k0 k1 (S.1 k0 k1) (S.2 k0 k1) = .inr (ci, fs)) (hc : vwCl[ci]? = some (C, T, N)) (hst : st = As.reverse ++ .ref (ad k0 k1) :: rest) (hn : As.length = n) (hW : (rest.map fun v => v.category).sum ≤ 8) (hf : cn ≤ R.cells ∧ sn ≤ R.slots) (d : decode cc pc = .ok (.invokevirtual idx, 3)) (kk : GW p l e R s m args below meth c Q D cy cs ad cn sn nL (pc + 3) lv (o.toList ++ rest) S1) : GW p l e R s m args below meth c Q D cy cs ad cn sn nL pc lv st S := by
  intro H locs ls hP hS h
  obtain ⟨hx, hb, hml, hown, hts, hK, hA, -, -, hZ, hZo⟩ := B
  obtain ⟨i, hi⟩ := wd_at hm
  obtain ⟨f1, f2, f3, f4, f5⟩ := mf
  have he : (Wd cs cy ad S)[i]? = some (ad k0 k1, .inr (ci, fs)) := by rw [wd_i hi]; exact congrArg (fun z => some (ad k0 k1, z)) hsh
  refine g_run (va_runV (C := C) (n := n) (As := As) (rest := rest) ⟨hx, hb, hml, hown, hts⟩ hM (cwV n hts (gw_V hl f1 f2 f3 f4) rfl hz.1 hz.2 f5 hR) ⟨Ctr.blind hZo, va_recv hK hP (ci := ci) (q0 := i) hc he, fun U hU hW => ⟨rfl, by rw [hU]; exact hP, va_K.moved hW.alike hK, hZo.1 _ _ hW (fun q h1 h2 => by rw [hU]; exact hS.2.1 q h1 h2) hZ⟩⟩ rfl hn h.1 hst (lv_room hW) d hf) hS (fun H1 locs1 hP1 hS1 => kk H1 locs1 ls hP1 hS1 h)
theorem g_cs (B : Bd p s m args meth c D cy cs ad Zp cc nL own ret) {y : MethodName} {cc' : ByteArray} {nL' n idx : Nat} {ret' : Option FieldType} {rm' : Room} {As st : List Value} {S1 : HS} {o : Option Value} (hM : Ctr Zp l y cc' nL' ret' rm' D cy cs ad As S o S1) (mf : MFS y cc' nL' ret' n) (hl : Cond.methodLink own idx y ∈ gw) (hR : rm'.frames + 1 ≤ R.frames ∧ 8 + (nL' + 11) + rm'.locals ≤ R.locals) (hz : rm'.cells = 0 ∧ rm'.slots = 0) (hst : st = As.reverse ++ rest) (hn : As.length = n) (hW : (rest.map fun v => v.category).sum ≤ 8) (hf : cn ≤ R.cells ∧ sn ≤ R.slots) (d : decode cc pc = .ok (.invokestatic idx, 3)) (kk : GW p l e R s m args below meth c Q D cy cs ad cn sn nL (pc + 3) lv (o.toList ++ rest) S1) : GW p l e R s m args below meth c Q D cy cs ad cn sn nL pc lv st S := by
  intro H locs ls hP hS h
  obtain ⟨hx, hb, hml, hown, hts, hK, hA, -, -, hZ, hZo⟩ := B
  obtain ⟨f1, f2, f3, f4⟩ := mf
  refine g_run (va_runS (n := n) (As := As) (rest := rest) ⟨hx, hb, hml, hown, hts⟩ hM ⟨callB_of n hts (gw_S f3) rfl hz.1 hz.2 (hts _ f2) (hts _ hl) f4 hR, hts _ f1⟩ ⟨Ctr.blind hZo, fun U hU hW => ⟨rfl, by rw [hU]; exact hP, va_K.moved hW.alike hK, hZo.1 _ _ hW (fun q h1 h2 => by rw [hU]; exact hS.2.1 q h1 h2) hZ⟩⟩ rfl hn h.1 hst (lv_room hW) d hf) hS (fun H1 locs1 hP1 hS1 => kk H1 locs1 ls hP1 hS1 h)
theorem g_cvi (B : Bd p s m args meth c D cy cs ad Zp cc nL own ret) {y : MethodName} {cc' : ByteArray} {nL' n idx k0 k1 ci N : Nat} {ret' : Option FieldType} {rm' : Room} {As st : List Value} {S1 : HS} {C : String} {T : u_T} {fs : List Value} {r : Int32} (hM : Ctr Zp l y cc' nL' ret' rm' D cy cs ad (.ref (ad k0 k1) :: As) S (some (.int r)) S1) (mf : MFV y cc' nL' ret' C n) (hl : Cond.methodLink own idx y ∈ gw) (hR : rm'.frames + 1 ≤ R.frames ∧ 8 + (nL' + 11) + rm'.locals ≤ R.locals) (hz : rm'.cells = 0 ∧ rm'.slots = 0) (hm : mc cs k0 k1 = true) (hsh : sh cy ad k0 k1 (S.1 k0 k1) (S.2 k0 k1) = .inr (ci, fs)) (hc : vwCl[ci]? = some (C, T, N)) (hst : st = As.reverse ++ .ref (ad k0 k1) :: rest) (hn : As.length = n) (hW : (rest.map fun v => v.category).sum ≤ 8) (hf : cn ≤ R.cells ∧ sn ≤ R.slots) (d : decode cc pc = .ok (.invokevirtual idx, 3)) (kk : GW p l e R s m args below meth c Q D cy cs ad cn sn nL (pc + 3) lv (.int r :: rest) S1) : GW p l e R s m args below meth c Q D cy cs ad cn sn nL pc lv st S := g_cv B hM mf hl hR hz hm hsh hc hst hn hW hf d kk
theorem g_csi (B : Bd p s m args meth c D cy cs ad Zp cc nL own ret) {y : MethodName} {cc' : ByteArray} {nL' n idx : Nat} {ret' : Option FieldType} {rm' : Room} {As st : List Value} {S1 : HS} {r : Int32} (hM : Ctr Zp l y cc' nL' ret' rm' D cy cs ad As S (some (.int r)) S1) (mf : MFS y cc' nL' ret' n) (hl : Cond.methodLink own idx y ∈ gw) (hR : rm'.frames + 1 ≤ R.frames ∧ 8 + (nL' + 11) + rm'.locals ≤ R.locals) (hz : rm'.cells = 0 ∧ rm'.slots = 0) (hst : st = As.reverse ++ rest) (hn : As.length = n) (hW : (rest.map fun v => v.category).sum ≤ 8) (hf : cn ≤ R.cells ∧ sn ≤ R.slots) (d : decode cc pc = .ok (.invokestatic idx, 3)) (kk : GW p l e R s m args below meth c Q D cy cs ad cn sn nL (pc + 3) lv (.int r :: rest) S1) : GW p l e R s m args below meth c Q D cy cs ad cn sn nL pc lv st S := g_cs B hM mf hl hR hz hst hn hW hf d kk
theorem g_cvl (B : Bd p s m args meth c D cy cs ad Zp cc nL own ret) {y : MethodName} {cc' : ByteArray} {nL' n idx k0 k1 ci N : Nat} {ret' : Option FieldType} {rm' : Room} {As st : List Value} {S1 : HS} {C : String} {T : u_T} {fs : List Value} {r : Int64} (hM : Ctr Zp l y cc' nL' ret' rm' D cy cs ad (.ref (ad k0 k1) :: As) S (some (.long r)) S1) (mf : MFV y cc' nL' ret' C n) (hl : Cond.methodLink own idx y ∈ gw) (hR : rm'.frames + 1 ≤ R.frames ∧ 8 + (nL' + 11) + rm'.locals ≤ R.locals) (hz : rm'.cells = 0 ∧ rm'.slots = 0) (hm : mc cs k0 k1 = true) (hsh : sh cy ad k0 k1 (S.1 k0 k1) (S.2 k0 k1) = .inr (ci, fs)) (hc : vwCl[ci]? = some (C, T, N)) (hst : st = As.reverse ++ .ref (ad k0 k1) :: rest) (hn : As.length = n) (hW : (rest.map fun v => v.category).sum ≤ 8) (hf : cn ≤ R.cells ∧ sn ≤ R.slots) (d : decode cc pc = .ok (.invokevirtual idx, 3)) (kk : GW p l e R s m args below meth c Q D cy cs ad cn sn nL (pc + 3) lv (.long r :: rest) S1) : GW p l e R s m args below meth c Q D cy cs ad cn sn nL pc lv st S := g_cv B hM mf hl hR hz hm hsh hc hst hn hW hf d kk
theorem g_csl (B : Bd p s m args meth c D cy cs ad Zp cc nL own ret) {y : MethodName} {cc' : ByteArray} {nL' n idx : Nat} {ret' : Option FieldType} {rm' : Room} {As st : List Value} {S1 : HS} {r : Int64} (hM : Ctr Zp l y cc' nL' ret' rm' D cy cs ad As S (some (.long r)) S1) (mf : MFS y cc' nL' ret' n) (hl : Cond.methodLink own idx y ∈ gw) (hR : rm'.frames + 1 ≤ R.frames ∧ 8 + (nL' + 11) + rm'.locals ≤ R.locals) (hz : rm'.cells = 0 ∧ rm'.slots = 0) (hst : st = As.reverse ++ rest) (hn : As.length = n) (hW : (rest.map fun v => v.category).sum ≤ 8) (hf : cn ≤ R.cells ∧ sn ≤ R.slots) (d : decode cc pc = .ok (.invokestatic idx, 3)) (kk : GW p l e R s m args below meth c Q D cy cs ad cn sn nL (pc + 3) lv (.long r :: rest) S1) : GW p l e R s m args below meth c Q D cy cs ad cn sn nL pc lv st S := g_cs B hM mf hl hR hz hst hn hW hf d kk
theorem g_cvv (B : Bd p s m args meth c D cy cs ad Zp cc nL own ret) {y : MethodName} {cc' : ByteArray} {nL' n idx k0 k1 ci N : Nat} {ret' : Option FieldType} {rm' : Room} {As st : List Value} {S1 : HS} {C : String} {T : u_T} {fs : List Value}  (hM : Ctr Zp l y cc' nL' ret' rm' D cy cs ad (.ref (ad k0 k1) :: As) S none S1) (mf : MFV y cc' nL' ret' C n) (hl : Cond.methodLink own idx y ∈ gw) (hR : rm'.frames + 1 ≤ R.frames ∧ 8 + (nL' + 11) + rm'.locals ≤ R.locals) (hz : rm'.cells = 0 ∧ rm'.slots = 0) (hm : mc cs k0 k1 = true) (hsh : sh cy ad k0 k1 (S.1 k0 k1) (S.2 k0 k1) = .inr (ci, fs)) (hc : vwCl[ci]? = some (C, T, N)) (hst : st = As.reverse ++ .ref (ad k0 k1) :: rest) (hn : As.length = n) (hW : (rest.map fun v => v.category).sum ≤ 8) (hf : cn ≤ R.cells ∧ sn ≤ R.slots) (d : decode cc pc = .ok (.invokevirtual idx, 3)) (kk : GW p l e R s m args below meth c Q D cy cs ad cn sn nL (pc + 3) lv (rest) S1) : GW p l e R s m args below meth c Q D cy cs ad cn sn nL pc lv st S := g_cv B hM mf hl hR hz hm hsh hc hst hn hW hf d kk
theorem g_csv (B : Bd p s m args meth c D cy cs ad Zp cc nL own ret) {y : MethodName} {cc' : ByteArray} {nL' n idx : Nat} {ret' : Option FieldType} {rm' : Room} {As st : List Value} {S1 : HS}  (hM : Ctr Zp l y cc' nL' ret' rm' D cy cs ad As S none S1) (mf : MFS y cc' nL' ret' n) (hl : Cond.methodLink own idx y ∈ gw) (hR : rm'.frames + 1 ≤ R.frames ∧ 8 + (nL' + 11) + rm'.locals ≤ R.locals) (hz : rm'.cells = 0 ∧ rm'.slots = 0) (hst : st = As.reverse ++ rest) (hn : As.length = n) (hW : (rest.map fun v => v.category).sum ≤ 8) (hf : cn ≤ R.cells ∧ sn ≤ R.slots) (d : decode cc pc = .ok (.invokestatic idx, 3)) (kk : GW p l e R s m args below meth c Q D cy cs ad cn sn nL (pc + 3) lv (rest) S1) : GW p l e R s m args below meth c Q D cy cs ad cn sn nL pc lv st S := g_cs B hM mf hl hR hz hst hn hW hf d kk
theorem g_cvr (B : Bd p s m args meth c D cy cs ad Zp cc nL own ret) {y : MethodName} {cc' : ByteArray} {nL' n idx k0 k1 ci N : Nat} {ret' : Option FieldType} {rm' : Room} {As st : List Value} {S1 : HS} {C : String} {T : u_T} {fs : List Value} {r : Nat} (hM : Ctr Zp l y cc' nL' ret' rm' D cy cs ad (.ref (ad k0 k1) :: As) S (some (.ref r)) S1) (mf : MFV y cc' nL' ret' C n) (hl : Cond.methodLink own idx y ∈ gw) (hR : rm'.frames + 1 ≤ R.frames ∧ 8 + (nL' + 11) + rm'.locals ≤ R.locals) (hz : rm'.cells = 0 ∧ rm'.slots = 0) (hm : mc cs k0 k1 = true) (hsh : sh cy ad k0 k1 (S.1 k0 k1) (S.2 k0 k1) = .inr (ci, fs)) (hc : vwCl[ci]? = some (C, T, N)) (hst : st = As.reverse ++ .ref (ad k0 k1) :: rest) (hn : As.length = n) (hW : (rest.map fun v => v.category).sum ≤ 8) (hf : cn ≤ R.cells ∧ sn ≤ R.slots) (d : decode cc pc = .ok (.invokevirtual idx, 3)) (kk : GW p l e R s m args below meth c Q D cy cs ad cn sn nL (pc + 3) lv (.ref r :: rest) S1) : GW p l e R s m args below meth c Q D cy cs ad cn sn nL pc lv st S := g_cv B hM mf hl hR hz hm hsh hc hst hn hW hf d kk
theorem g_csr (B : Bd p s m args meth c D cy cs ad Zp cc nL own ret) {y : MethodName} {cc' : ByteArray} {nL' n idx : Nat} {ret' : Option FieldType} {rm' : Room} {As st : List Value} {S1 : HS} {r : Nat} (hM : Ctr Zp l y cc' nL' ret' rm' D cy cs ad As S (some (.ref r)) S1) (mf : MFS y cc' nL' ret' n) (hl : Cond.methodLink own idx y ∈ gw) (hR : rm'.frames + 1 ≤ R.frames ∧ 8 + (nL' + 11) + rm'.locals ≤ R.locals) (hz : rm'.cells = 0 ∧ rm'.slots = 0) (hst : st = As.reverse ++ rest) (hn : As.length = n) (hW : (rest.map fun v => v.category).sum ≤ 8) (hf : cn ≤ R.cells ∧ sn ≤ R.slots) (d : decode cc pc = .ok (.invokestatic idx, 3)) (kk : GW p l e R s m args below meth c Q D cy cs ad cn sn nL (pc + 3) lv (.ref r :: rest) S1) : GW p l e R s m args below meth c Q D cy cs ad cn sn nL pc lv st S := g_cs B hM mf hl hR hz hst hn hW hf d kk
theorem g_sld (B : Bd p s m args meth c D cy cs ad (gZ cs ad) cc nL own ret) {k : Nat} {i : Int32} (hk : k < 5) (hin : inb i (sLn k) = true) (d : decode cc pc = .ok (.iaload, 1)) (kk : GW p l e R s m args below meth c Q D cy cs ad cn sn nL (pc + 1) lv (.int (sVl k i.toNatClampNeg) :: rest) S) : GW p l e R s m args below meth c Q D cy cs ad cn sn nL pc lv (.int i :: .ref (ad 40 k) :: rest) S := fun H locs ls hP hS h => va_ti B.1 B.2.1 (B.2.2.2.2.2.2.2.2.2.1.1 k hk).2 hS (inb_in hin) rfl d (kk H locs ls hP hS h)
theorem g_slen (B : Bd p s m args meth c D cy cs ad (gZ cs ad) cc nL own ret) {k : Nat} (hk : k < 5) (d : decode cc pc = .ok (.arraylength, 1)) (kk : GW p l e R s m args below meth c Q D cy cs ad cn sn nL (pc + 1) lv (.int (nI (sLn k)) :: rest) S) : GW p l e R s m args below meth c Q D cy cs ad cn sn nL pc lv (.ref (ad 40 k) :: rest) S := fun H locs ls hP hS h => va_tlen B.1 B.2.1 (B.2.2.2.2.2.2.2.2.2.1.1 k hk).2 hS rfl d (kk H locs ls hP hS h)
theorem g_gets (B : Bd p s m args meth c D cy cs ad (gZ cs ad) cc nL own ret) {k index : Nat} {n : String} (hk : k < 5) (hn : sNm k = n) (hw : Cond.fieldLinkNest own index RX8 n "[I" RX8 ∈ nwl) (d : decode cc pc = .ok (.getstatic index, 3)) (kk : GW p l e R s m args below meth c Q D cy cs ad cn sn nL (pc + 3) lv (.ref (ad 40 k) :: rest) S) : GW p l e R s m args below meth c Q D cy cs ad cn sn nL pc lv rest S := fun H locs ls hP hS h => va_getsN (C := RX8) B.1 B.2.1 (B.2.2.2.2.2.2.2.2.2.1.1 k hk).1 hS B.2.2.2.1 (by rw [hn]; exact va_Nw.use rfl (B.2.2.2.2.2.2.2.2.2.1.2.1 _ hw)) (fun _ h9 => h9) d (kk H locs ls hP hS h)
theorem g_lds (own1 : String) (B : Bd p s m args meth c D cy cs ad (gZ cs ad) cc nL RX7 ret) {i index : Nat} (hi : i < 8) (hx : ixK.getD i 0 = index) (d : decode cc pc = .ok (.ldc index, 2)) (kk : GW p l e R s m args below meth c Q D cy cs ad cn sn nL (pc + 2) lv (.ref (ad 41 i) :: rest) S) : GW p l e R s m args below meth c Q D cy cs ad cn sn nL pc lv rest S := fun H locs ls hP hS h => va_ldcS B.1 B.2.1 B.2.2.2.1 (B.2.2.2.2.2.2.2.2.2.1.2.2.2.1 i hi) (by rw [hx]; exact d) (kk H locs ls hP hS h)
theorem g_kval (B : Bd p s m args meth c D cy cs ad (gZ cs ad) cc nL own ret) {i index : Nat} (hi : i < 8) (hl : Cond.fieldLink own index "java/lang/String" "value" "[B" ∈ gw) (d : decode cc pc = .ok (.getfield index, 3)) (kk : GW p l e R s m args below meth c Q D cy cs ad cn sn nL (pc + 3) lv (.ref (ad 42 i) :: rest) S) : GW p l e R s m args below meth c Q D cy cs ad cn sn nL pc lv (.ref (ad 41 i) :: rest) S := fun H locs ls hP hS h => vk_getf B.1 B.2.1 (B.2.2.2.2.2.2.2.2.2.1.2.2.1.1 i hi).2.2.1 hS B.2.2.2.1 (B.2.2.2.2.1 _ hl) (fun _ h9 => h9) d (kk H locs ls hP hS h)
theorem g_kcod (B : Bd p s m args meth c D cy cs ad (gZ cs ad) cc nL own ret) {i index : Nat} (hi : i < 8) (hl : Cond.fieldLink own index "java/lang/String" "coder" "B" ∈ gw) (d : decode cc pc = .ok (.getfield index, 3)) (kk : GW p l e R s m args below meth c Q D cy cs ad cn sn nL (pc + 3) lv (.int 0 :: rest) S) : GW p l e R s m args below meth c Q D cy cs ad cn sn nL pc lv (.ref (ad 41 i) :: rest) S := fun H locs ls hP hS h => vk_getf B.1 B.2.1 (B.2.2.2.2.2.2.2.2.2.1.2.2.1.1 i hi).2.1 hS B.2.2.2.1 (B.2.2.2.2.1 _ hl) (fun _ h9 => h9) d (kk H locs ls hP hS h)
theorem g_klen (B : Bd p s m args meth c D cy cs ad (gZ cs ad) cc nL own ret) {i : Nat} (hi : i < 8) (d : decode cc pc = .ok (.arraylength, 1)) (kk : GW p l e R s m args below meth c Q D cy cs ad cn sn nL (pc + 1) lv (.int (nI (lenK.getD i 0)) :: rest) S) : GW p l e R s m args below meth c Q D cy cs ad cn sn nL pc lv (.ref (ad 42 i) :: rest) S := fun H locs ls hP hS h => va_tlen B.1 B.2.1 (B.2.2.2.2.2.2.2.2.2.1.2.2.1.1 i hi).2.2.2 hS rfl d (kk H locs ls hP hS h)
theorem g_kld (B : Bd p s m args meth c D cy cs ad (gZ cs ad) cc nL own ret) {i : Nat} {j : Int32} (hi : i < 8) (hin : inb j (lenK.getD i 0) = true) (d : decode cc pc = .ok (.baload, 1)) (kk : GW p l e R s m args below meth c Q D cy cs ad cn sn nL (pc + 1) lv (.int ((bytK.getD i []).getD j.toNatClampNeg 0) :: rest) S) : GW p l e R s m args below meth c Q D cy cs ad cn sn nL pc lv (.int j :: .ref (ad 42 i) :: rest) S := fun H locs ls hP hS h => va_tb B.1 B.2.1 (B.2.2.2.2.2.2.2.2.2.1.2.2.1.1 i hi).2.2.2 hS (inb_in hin) rfl d (kk H locs ls hP hS h)
theorem g_gcs (B : Bd p s m args meth c D cy cs ad (gZ cs ad) cc nL own ret) {index : Nat} (hl : Cond.fieldLink own index "java/lang/String" "COMPACT_STRINGS" "Z" ∈ gw) (d : decode cc pc = .ok (.getstatic index, 3)) (kk : GW p l e R s m args below meth c Q D cy cs ad cn sn nL (pc + 3) lv (.int 1 :: rest) S) : GW p l e R s m args below meth c Q D cy cs ad cn sn nL pc lv rest S := fun H locs ls hP hS h => va_gets B.1 B.2.1 B.2.2.2.2.2.2.2.2.2.1.2.2.2.2.1 hS B.2.2.2.1 (B.2.2.2.2.1 _ hl) (fun _ h9 => h9) d (kk H locs ls hP hS h)
theorem g_gfm (B : Bd p s m args meth c D cy cs ad (gZ cs ad) cc nL own ret) {index : Nat} (hl : Cond.fieldLink own index "jdk/internal/util/Preconditions" "SIOOBE_FORMATTER" "Ljava/util/function/BiFunction;" ∈ gw) (d : decode cc pc = .ok (.getstatic index, 3)) (kk : GW p l e R s m args below meth c Q D cy cs ad cn sn nL (pc + 3) lv (fmtv ad :: rest) S) : GW p l e R s m args below meth c Q D cy cs ad cn sn nL pc lv rest S := fun H locs ls hP hS h => va_gets B.1 B.2.1 B.2.2.2.2.2.2.2.2.2.1.2.2.2.2.2 hS B.2.2.2.1 (B.2.2.2.2.1 _ hl) (fun _ h9 => h9) d (kk H locs ls hP hS h)
theorem g_i2c (B : Bd p s m args meth c D cy cs ad Zp cc nL own ret) {x : Int32} (d : decode cc pc = .ok (.i2c, 1)) (kk : GW p l e R s m args below meth c Q D cy cs ad cn sn nL (pc + 1) lv (.int (x.toUInt32 % 65536).toInt32 :: rest) S) : GW p l e R s m args below meth c Q D cy cs ad cn sn nL pc lv (.int x :: rest) S := fun H locs ls hP hS h => lv_i2c B.1 B.2.1 d rfl (kk H locs ls hP hS h)
def c16 (v : Int32) : Bool := decide ((v.toUInt32 % 65536).toInt32 = v)
theorem c16_n {v : Int32} (h : c16 v = true) : narrow .char (.int v) = .int v := by
  have h1 : (v.toUInt32 % 65536).toInt32 = v := of_decide_eq_true h
  rw [← h1]
  exact pk_nc v
theorem g_nret {ty : FieldType} (B : Bd p s m args meth c D cy cs ad Zp cc nL own (some ty)) {v : Int32} (hn : narrow ty (.int v) = .int v) (d : decode cc pc = .ok (.ireturn, 1)) : GW p l e R s m args below meth c (QM below args s D cy cs ad (some (.int v)) S) D cy cs ad 0 0 nL pc lv [.int v] S := fun H locs ls hP hS h => W.zret B.1 B.2.1 B.2.2.2.2.2.2.2.1 hn (fun t ht hW => ⟨rfl, by rw [ht]; exact hP, hS.F ht⟩) hS.2.2 d B.2.2.2.2.2.2.2.2.1
theorem g_cvk (B : Bd p s m args meth c D cy cs ad (gZ cs ad) cc nL own ret) {y : MethodName} {cc' : ByteArray} {nL' n idx i : Nat} {ret' : Option FieldType} {rm' : Room} {As st : List Value} {S1 : HS} {r : Int32} (hM : Ctr (gZ cs ad) l y cc' nL' ret' rm' D cy cs ad (.ref (ad 41 i) :: As) S (some (.int r)) S1) (mf : MFV y cc' nL' ret' RJ0 n) (hl : Cond.methodLink own idx y ∈ gw) (hR : rm'.frames + 1 ≤ R.frames ∧ 8 + (nL' + 11) + rm'.locals ≤ R.locals) (hz : rm'.cells = 0 ∧ rm'.slots = 0) (hi : i < 8) (hst : st = As.reverse ++ .ref (ad 41 i) :: rest) (hn : As.length = n) (hW : (rest.map fun v => v.category).sum ≤ 8) (hf : cn ≤ R.cells ∧ sn ≤ R.slots) (d : decode cc pc = .ok (.invokevirtual idx, 3)) (kk : GW p l e R s m args below meth c Q D cy cs ad cn sn nL (pc + 3) lv (.int r :: rest) S1) : GW p l e R s m args below meth c Q D cy cs ad cn sn nL pc lv st S := by
  intro H locs ls hP hS h
  obtain ⟨hx, hb, hml, hown, hts, hK, hA, -, -, hZ, hZo⟩ := B
  obtain ⟨f1, f2, f3, f4, f5⟩ := mf
  refine g_run (va_runV (C := RJ0) (n := n) (As := As) (rest := rest) ⟨hx, hb, hml, hown, hts⟩ hM (cwV n hts (gw_V hl f1 f2 f3 f4) rfl hz.1 hz.2 f5 hR) ⟨Ctr.blind hZo, vk_recv hZ.2.2.1 hi hS, fun U hU hW => ⟨rfl, by rw [hU]; exact hP, va_K.moved hW.alike hK, hZo.1 _ _ hW (fun q h1 h2 => by rw [hU]; exact hS.2.1 q h1 h2) hZ⟩⟩ rfl hn h.1 hst (lv_room hW) d hf) hS (fun H1 locs1 hP1 hS1 => kk H1 locs1 ls hP1 hS1 h)
theorem g_csni (B : Bd p s m args meth c D cy cs ad (gZ cs ad) cc nL own ret) {y : MethodName} {cc' : ByteArray} {nL' n idx : Nat} {ret' : Option FieldType} {rm' : Room} {As st : List Value} {S1 : HS} {r : Int32} (hM : Ctr (gZ cs ad) l y cc' nL' ret' rm' D cy cs ad As S (some (.int r)) S1) (mf : MFS y cc' nL' ret' n) (hl : Cond.methodLinkNest own idx y RX8 ∈ nwl) (hR : rm'.frames + 1 ≤ R.frames ∧ 8 + (nL' + 11) + rm'.locals ≤ R.locals) (hz : rm'.cells = 0 ∧ rm'.slots = 0) (hst : st = As.reverse ++ rest) (hn : As.length = n) (hW : (rest.map fun v => v.category).sum ≤ 8) (hf : cn ≤ R.cells ∧ sn ≤ R.slots) (d : decode cc pc = .ok (.invokestatic idx, 3)) (kk : GW p l e R s m args below meth c Q D cy cs ad cn sn nL (pc + 3) lv (.int r :: rest) S1) : GW p l e R s m args below meth c Q D cy cs ad cn sn nL pc lv st S := by
  intro H locs ls hP hS h
  obtain ⟨hx, hb, hml, hown, hts, hK, hA, -, -, hZ, hZo⟩ := B
  obtain ⟨f1, f2, f3, f4⟩ := mf
  refine g_run (va_runSN (n := n) (As := As) (rest := rest) ⟨hx, hb, hml, hown, hts⟩ hM ⟨va_cnB n hts (gw_S f3) rfl hz.1 hz.2 (hZ.2.1 _ hl) (hts _ f2) f4 hR, hts _ f1, trivial⟩ ⟨Ctr.blind hZo, fun U hU hW => ⟨rfl, by rw [hU]; exact hP, va_K.moved hW.alike hK, hZo.1 _ _ hW (fun q h1 h2 => by rw [hU]; exact hS.2.1 q h1 h2) hZ⟩⟩ rfl hn h.1 hst (lv_room hW) d hf) hS (fun H1 locs1 hP1 hS1 => kk H1 locs1 ls hP1 hS1 h)
theorem ti_ne {x : Int32} (v : Int32) (n : Int) (hv : v.toInt = n) (h : ¬ x = v) : x.toInt ≠ n := fun q => h (Int32.toInt_inj.mp (q.trans hv.symm))
end GI
