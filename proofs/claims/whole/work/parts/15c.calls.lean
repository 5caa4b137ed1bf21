/-! ===== blocks: calls, rows in a row ===== -/
def MFI (y : MethodName) (cc' : ByteArray) (nL' n : Nat) : Prop := Cond.instanceMethod y ∈ gw ∧ Cond.initialized y.cls ∈ gw ∧ Cond.code y cc' nL' none ∈ gw ∧ y.name = "<init>" ∧ (y.cls ≠ "java/lang/invoke/MethodHandle" ∧ y.cls ≠ "java/lang/invoke/VarHandle" ∧ (parseMethodDescriptor y.desc).map (fun d => d.parameters.length) = some n)
section BC
variable {p : Program} {l : Launch} {e : Env} {R : Room} {s : State} {m : MethodId} {args : Array Value} {below : List Frame} {meth : Method} {c : Code} {Q : State → Prop} {D : va_G} {cy : Nat → ClassId} {h cn sn nL pc : Nat} {lv lv' : List (Nat × Value)} {rest : List Value} {E E' : List va_E} {cc : ByteArray} {own : String}
theorem b_run {k mc ms : Nat} {E0 E1 : List va_E} {e0 : va_E} {H : Heap} {locs : List Loc} {ls : Array Slot} {st0 : List Value} {a : Array Value} (hk : E0.length = k) (hlen : E1.length = mc + 1) (hz : s.heap.size + cn = h + (E0 ++ [e0]).length) (hP : va_P D vwCl (wB h (E0 ++ [e0])) H) (hS : va_S (fun q => h ≤ q) s.heap H locs) (hl : lv_has ls nL lv)
    (run : va_Run p l e R s m args below meth c H locs cn sn mc ms (F0 m pc ls st0) rest (QB D (h + k) E1 a) (fun q => h + k ≤ q)) (kk : BW p l e R s m args below meth c Q D h (cn + mc) (sn + ms) nL (pc + 3) lv rest (E0 ++ E1)) : W p l e R s m args below meth c H locs cn sn Q (F0 m pc ls st0) := by
  intro T hT X
  obtain ⟨v, st₀, t, T', L, h0, X', hL, e1, e2, ⟨hv, hp, hzF, hkF⟩, stp⟩ := run T hT X
  cases hv
  rw [h0] at hzF hkF
  have hE0 : va_P D vwCl (wB h E0) H := fun j q hj => hP j q (by
    rw [wB_app, List.getElem?_append_left (List.getElem?_eq_some_iff.mp hj).1]
    exact hj)
  have hP2 : va_P D vwCl (wB h (E0 ++ E1)) T'.heap := by
    rw [wB_app, hk, e1]
    refine va_P.app (hE0.kept (fun j q hj => ?_)) hp
    have hlt : q.1 < H.size := (hE0 j q hj).lt
    obtain ⟨e, he, rfl⟩ := wB_q hj
    have hj2 := (List.getElem?_eq_some_iff.mp he).1
    exact hkF (h + j) hlt (by omega)
  rw [List.length_append] at hz
  have hz : s.heap.size + cn = h + (E0.length + 1) := hz
  obtain ⟨t2, a1, b1⟩ := kk (by rw [List.length_append]; omega) T'.heap (locs ++ L) ls hP2
    ⟨Nat.le_trans hS.1 (by rw [e1]; exact hzF), fun q h1 h2 => by rw [e1, hkF q (Nat.lt_of_lt_of_le h1 hS.1) (fun z => h2 (Nat.le_trans (Nat.le_add_right _ _) z))]; exact hS.2.1 q h1 h2, fun q hq => by
      rcases List.mem_append.mp hq with h | h
      · exact hS.2.2 q h
      · exact Nat.le_trans (Nat.le_add_right _ _) (hL q h)⟩ hl T' rfl X'
  exact ⟨t2, stp t2 a1, b1⟩
theorem b_initL (B : Bb p s m args meth c D cy h cc nL own) {y : MethodName} {cc' : ByteArray} {nL' n idx k mc ms : Nat} {rm' : Room} {As st : List Value} {E0 E1 : List va_E} {e0 : va_E} (hM : CtrB l y cc' nL' rm' D cy (h + k) (.ref (h + k) :: As) e0 E1 mc ms) (mf : MFI y cc' nL' n) (hl : Cond.methodLink own idx y ∈ gw) (hE : E = E0 ++ [e0]) (hk : E0.length = k) (hlen : E1.length = mc + 1) (hR : rm'.frames + 1 ≤ R.frames ∧ 8 + (nL' + 11) + rm'.locals ≤ R.locals) (hzr : rm'.cells = mc ∧ rm'.slots = ms) (hst : st = As.reverse ++ .ref (h + k) :: rest) (hn : As.length = n) (hW : (rest.map fun v => v.category).sum ≤ 8) (hf : cn + mc ≤ R.cells ∧ sn + ms ≤ R.slots) (d : decode cc pc = .ok (.invokespecial idx, 3)) (hE' : E0 ++ E1 = E') (kk : BW p l e R s m args below meth c Q D h (cn + mc) (sn + ms) nL (pc + 3) lv rest E') : BW p l e R s m args below meth c Q D h cn sn nL pc lv st E := fun hz H locs ls hP hS hl0 => by
  subst hE; subst hE'
  obtain ⟨hx, hb, hml, hown, hts, hK, hZ, hh, hlk⟩ := B
  obtain ⟨f1, f2, f3, f4, f5⟩ := mf
  refine W_sz (fun hsz => ?_)
  have hlast : (E0 ++ [e0])[k]? = some e0 := by rw [← hk]; exact List.getElem?_concat_length
  have hat := wB_get hP hlast
  have hlt : h + k < H.size := hat.lt
  have hz' : s.heap.size + cn = h + (E0.length + 1) := by rw [List.length_append] at hz; exact hz
  have hPe : va_P D vwCl (wB (h + k) [e0]) H := wB_P (fun j e he => by
    have hj := (List.getElem?_eq_some_iff.mp he).1
    have ej : j = 0 := by simp at hj; exact hj
    subst ej
    cases he
    exact hat)
  exact b_run hk hlen hz hP hS hl0 (va_runI (n := n) (As := As) (rest := rest) ⟨hx, hb, hml, hown, hts⟩ hM (cwI n hts (gw_S f3) rfl hzr.1 hzr.2 (hts _ f2) (hts _ hl) (hts _ f1) f4 f5 hR) ⟨fun a U g mk q => ⟨q.1, q.2.1, q.2.2.1, va_K.moved (u := U) (U := U.calling g mk a) (Vm.Alike.refl U.vm) q.2.2.2.1, zB_calling q.2.2.2.2⟩, fun U hU hW => ⟨rfl, by rw [hU]; omega, by rw [hU]; exact hPe, va_K.moved hW.alike hK, zB_warm hW hZ⟩⟩ rfl hn hl0.1 hst (lv_room hW) d hf) kk
theorem b_initN (B : Bb p s m args meth c D cy h cc nL own) {y : MethodName} {cc' : ByteArray} {nL' n idx k mc ms : Nat} {rm' : Room} {As st : List Value} {E0 E1 : List va_E} {e0 : va_E} (hM : CtrB l y cc' nL' rm' D cy (h + k) (.ref (h + k) :: As) e0 E1 mc ms) (mf : MFI y cc' nL' n) (hl : Cond.methodLinkNest own idx y RX8 ∈ nwc) (hE : E = E0 ++ [e0]) (hk : E0.length = k) (hlen : E1.length = mc + 1) (hR : rm'.frames + 1 ≤ R.frames ∧ 8 + (nL' + 11) + rm'.locals ≤ R.locals) (hzr : rm'.cells = mc ∧ rm'.slots = ms) (hst : st = As.reverse ++ .ref (h + k) :: rest) (hn : As.length = n) (hW : (rest.map fun v => v.category).sum ≤ 8) (hf : cn + mc ≤ R.cells ∧ sn + ms ≤ R.slots) (d : decode cc pc = .ok (.invokespecial idx, 3)) (hE' : E0 ++ E1 = E') (kk : BW p l e R s m args below meth c Q D h (cn + mc) (sn + ms) nL (pc + 3) lv rest E') : BW p l e R s m args below meth c Q D h cn sn nL pc lv st E := fun hz H locs ls hP hS hl0 => by
  subst hE; subst hE'
  obtain ⟨hx, hb, hml, hown, hts, hK, hZ, hh, hlk⟩ := B
  obtain ⟨f1, f2, f3, f4, f5⟩ := mf
  refine W_sz (fun hsz => ?_)
  have hlast : (E0 ++ [e0])[k]? = some e0 := by rw [← hk]; exact List.getElem?_concat_length
  have hat := wB_get hP hlast
  have hlt : h + k < H.size := hat.lt
  have hz' : s.heap.size + cn = h + (E0.length + 1) := by rw [List.length_append] at hz; exact hz
  have hPe : va_P D vwCl (wB (h + k) [e0]) H := wB_P (fun j e he => by
    have hj := (List.getElem?_eq_some_iff.mp he).1
    have ej : j = 0 := by simp at hj; exact hj
    subst ej
    cases he
    exact hat)
  exact b_run hk hlen hz hP hS hl0 (va_runIN (n := n) (As := As) (rest := rest) ⟨hx, hb, hml, hown, hts⟩ hM ⟨va_cnB n hts (gw_S f3) rfl hzr.1 hzr.2 (hZ.2.2.2.1 _ hl) (hts _ f2) f5 hR, f4, hts _ f1⟩ ⟨fun a U g mk q => ⟨q.1, q.2.1, q.2.2.1, va_K.moved (u := U) (U := U.calling g mk a) (Vm.Alike.refl U.vm) q.2.2.2.1, zB_calling q.2.2.2.2⟩, fun U hU hW => ⟨rfl, by rw [hU]; omega, by rw [hU]; exact hPe, va_K.moved hW.alike hK, zB_warm hW hZ⟩⟩ rfl hn hl0.1 hst (lv_room hW) d hf) kk
theorem b_multi (B : Bb p s m args meth c D cy h cc nL own) {index a b : Nat} {x y : Int32} (hcl : Cond.classLink own index "[[I" ∈ gw) (hxa : x = nI a) (hyb : y = nI b) (ha : a ≤ 1000) (hbb : b ≤ 1000) (hR : cn + (1 + a) ≤ R.cells ∧ sn + (a + a * b) ≤ R.slots) (d : decode cc pc = .ok (.multianewarray index 2, 4)) {k : Nat} (hk : E.length = k)
    (kk : BW p l e R s m args below meth c Q D h (cn + (1 + a)) (sn + (a + a * b)) nL (pc + 4) lv (.ref (h + k) :: rest) (E ++ .inl (cy 7, a, .inr (.inr (.inr (.inr (fun j => some (h + k + 1 + j)))))) :: List.replicate a (.inl (cy 0, b, .inl (fun _ => 0))))) : BW p l e R s m args below meth c Q D h cn sn nL pc lv (.int y :: .int x :: rest) E := fun hz H locs ls hP hS hl0 => by
  subst hk; subst hxa; subst hyb
  obtain ⟨hx, hb, hml, hown, hts, hK, hZ, hh, hlk⟩ := B
  refine W_sz (fun hsz => ?_)
  have hH : H.size = h + E.length := by
    have h0 := hS.1
    cases hE : E.length with
    | zero => rw [hE] at hz; omega
    | succ n =>
      have hn : n < E.length := by omega
      have := (wB_get hP (List.getElem?_eq_getElem hn)).lt
      have : h + n < H.size := this
      omega
  have h7 : s.vm.findClass "[[I" = some (cy 7) := by
    have e9 : "[" ++ (FieldType.array .int).toString = "[[I" := by decide
    rw [← e9]
    exact (hK.2 7 (cy 7, .array .int) rfl).2
  obtain ⟨-, k0, hk0, cc0, hkk0⟩ := (hK.2 0 (cy 0, .int) rfl).1 0 (fun _ => .null)
  refine W_multi hx hb hown (hts _ hcl) h7 hZ.2.2.2.2 ⟨k0, cc0, hk0, hkk0⟩ rfl d ha hbb rfl hR.1 hR.2 hS.1 (fun H' z1 z2 z3 z4 => ?_)
  have hP2 : va_P D vwCl (wB h (E ++ .inl (cy 7, a, .inr (.inr (.inr (.inr (fun j => some (h + E.length + 1 + j)))))) :: List.replicate a (.inl (cy 0, b, .inl (fun _ => 0))))) H' := by
    rw [wB_app]
    refine va_P.app (hP.kept (fun j q hj => z2 q.1 (hP j q hj).lt)) (wB_P (fun j e he => ?_))
    cases j with
    | zero =>
      cases he
      show H'[h + E.length + 0]? = some (vp_cell _ _)
      rw [Nat.add_zero, vp_cell_q, ← hH]
      exact z3
    | succ j =>
      rw [List.getElem?_cons_succ, List.getElem?_replicate] at he
      by_cases q : j < a
      · rw [if_pos q] at he
        cases he
        show H'[h + E.length + (j + 1)]? = some (vp_cell _ _)
        rw [vp_cell_i, ← hH, Nat.add_comm j 1, ← Nat.add_assoc]
        exact z4 j q
      · rw [if_neg q] at he
        cases he
  have e1 : (Value.ref H.size :: rest) = .ref (h + E.length) :: rest := by rw [hH]
  have hkk := kk (by rw [List.length_append, List.length_cons, List.length_replicate]; omega) H' locs ls hP2 ⟨Nat.le_trans hS.1 (by omega), fun q h1 h2 => by rw [z2 q (Nat.lt_of_lt_of_le h1 hS.1)]; exact hS.2.1 q h1 h2, hS.2.2⟩ hl0
  rw [← e1] at hkk
  exact hkk
theorem b_cvv (B : Bb p s m args meth c D cy h cc nL own) {cs : List (Nat × Nat)} {ad : Nat → Nat → Nat} {y : MethodName} {cc' : ByteArray} {nL' n idx k a0 ci N : Nat} {rm' : Room} {As st : List Value} {S0 S1 : HS} {C : String} {T : u_T} {fs : List Value} (hM : Ctr (fun _ => True) l y cc' nL' none rm' D cy cs ad (.ref a0 :: As) S0 none S1) (mf : MFV y cc' nL' none C n) (hl : Cond.methodLink own idx y ∈ gw) (hR : rm'.frames + 1 ≤ R.frames ∧ 8 + (nL' + 11) + rm'.locals ≤ R.locals) (hzr : rm'.cells = 0 ∧ rm'.slots = 0) (ha : h + k = a0) (he : E[k]? = some (.inr (ci, fs))) (hc : vwCl[ci]? = some (C, T, N)) (hst : st = As.reverse ++ .ref a0 :: rest) (hn : As.length = n) (hW : (rest.map fun v => v.category).sum ≤ 8) (hf : cn ≤ R.cells ∧ sn ≤ R.slots) (d : decode cc pc = .ok (.invokevirtual idx, 3))
    (c0 : ∀ H, va_P D vwCl (wB h E) H → va_P D vwCl (Wd cs cy ad S0) H) (c1 : ∀ H, va_P D vwCl (Wd cs cy ad S1) H → va_P D vwCl (wB h E') H) (hg : ∀ q, gA cs ad q → h ≤ q) (hlen : E'.length = E.length) (kk : BW p l e R s m args below meth c Q D h cn sn nL (pc + 3) lv rest E') : BW p l e R s m args below meth c Q D h cn sn nL pc lv st E := fun hz H locs ls hP hS hl0 => by
  subst ha
  obtain ⟨hx, hb, hml, hown, hts, hK, hZ, hh, hlk⟩ := B
  obtain ⟨f1, f2, f3, f4, f5⟩ := mf
  have run := va_runV (C := C) (n := n) (As := As) (rest := rest) (R := R) (cells := cn) (slots := sn) (locs := locs) (e := e) (below := below) (meth := meth) (g := F0 m pc ls st) (H := H) ⟨hx, hb, hml, hown, hts⟩ hM (cwV n hts (gw_V hl f1 f2 f3 f4) rfl hzr.1 hzr.2 f5 hR) ⟨Ctr.blind (tt_ok cs ad), va_recv hK hP (ci := ci) (q0 := k) hc (wB_i he), fun U hU hW => ⟨rfl, by rw [hU]; exact c0 H hP, va_K.moved hW.alike hK, trivial⟩⟩ rfl hn hl0.1 hst (lv_room hW) d hf
  intro T hT X
  obtain ⟨v, st₀, t, T', L, h0, X', hL, e1, e2, ⟨hv, hp, hzF, hkF⟩, stp⟩ := run T hT X
  cases hv
  rw [h0] at hzF hkF
  obtain ⟨t2, a1, b1⟩ := kk (by rw [hlen]; exact hz) T'.heap (locs ++ L) ls (by rw [e1]; exact c1 _ hp)
    ⟨Nat.le_trans hS.1 (by rw [e1]; exact hzF), fun q h1 h2 => by rw [e1, hkF q (Nat.lt_of_lt_of_le h1 hS.1) (fun z => h2 (hg q z))]; exact hS.2.1 q h1 h2, fun q hq => by
      rcases List.mem_append.mp hq with h | h
      · exact hS.2.2 q h
      · exact hg _ (hL q h)⟩ hl0 T' rfl X'
  exact ⟨t2, stp t2 a1, b1⟩
end BC
