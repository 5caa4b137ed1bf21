/-! THE CLAIM OUT OF ONE WALK OF THE LAW'S BODY. Your part is whole_start (and what it stands on); all else here is the same for every law, but numbers. -/
def R_law : String := "GlassValleyLaw"
def lw_P (b : Addr) (xs : List Int32) (args : Array Value) (s : State) : Prop := args = #[.ref b] ∧ s.IntsAt b xs ∧ xs.length ≤ 3072 ∧ (Jvm.Cond.and given_1 narrow_1).before args s = true
def lw_Q (_ : Array Value) (s : State) (o : Outcome) (t : State) : Prop := o = .returned (some (.int 1)) ∧ Framed s o t [] 600000 7302250
def lw_Z (below : List Frame) (a : Array Value) (s : State) : State → Prop := fun t => ∃ o, t.status = .running ∧ Ended t below o ∧ lw_Q a s o t
/-- the law's own end, with 1 on the stack, nothing written that was there before, its room as the claim has it -/
theorem lw_ret {p : Program} {l : Launch} {e : Env} {s : State} {m : MethodId} {below : List Frame} {meth : Method} {c : Code} {b : Nat} (hx : p.tables.exec = Jvm.exec) (hb : c.code = code) (hr : meth.sig.returnType = ret) (hlocks : meth.locks = false) {pc : Nat} {H : Heap} {ls : Array Slot} (hdg : decode code pc = .ok (.ireturn, 1)) : W p l e room_1 s m #[Value.ref b] below meth c H [] 600000 7302250 (lw_Z below #[Value.ref b] s) (F0 m pc ls [.int 1]) := by
  intro T hT X
  obtain ⟨fs, hret, hrun, hended, hW, hframe⟩ := X.leave (v := some (.int 1)) (hlocks := hlocks) (fun h => by rw [hr] at h; cases h)
  have hmeth' : T.vm.method? m = some meth := X.method'
  refine ⟨T.setFrames fs, ?_, .returned (some (.int 1)), hrun, hended, rfl, ⟨_, rfl⟩, hW, hframe⟩
  jvm_step X.here [X.here.top, hx, hb, hdg, hmeth', hr, ret, narrow_b1]
  (try refine ⟨rfl, ?_⟩); (try refine ⟨rfl, ?_⟩)
  first | (intro acts; rw [hret _ acts rfl rfl rfl]) | rw [hret _ _ rfl rfl rfl]
  exact Steps.refl _
/-- what holds at the law's entry: the machine, the code, the tables' words (any of lw_tbl by 'hts w (by decide +kernel)'), the script of L ints xs at the cell b, what the Statement gives of the start (any of its parts by flat_of_before) -/
def lw_At (p : Program) (s : State) (m : MethodId) (meth : Method) (c : Code) (b L : Nat) (xs : Nat → Int32) : Prop :=
  p.tables.exec = Jvm.exec ∧ c.code = code ∧ meth.sig.returnType = ret ∧ c.maxLocals = 4 ∧ s.vm.findClass R_law = some m.cls ∧ (∀ w ∈ lw_tbl, w.before #[Value.ref b] s = true) ∧ va_X b L xs s s.heap ∧ b < s.heap.size ∧ meth.locks = false ∧ (Jvm.Cond.and given_1 narrow_1).before #[Value.ref b] s = true
section GL
variable {b L : Nat} {xs : Nat → Int32} {p : Program} {l : Launch} {e : Env} {R : Room} {s : State} {m : MethodId} {args : Array Value} {below : List Frame} {meth : Method} {c : Code} {Q : State → Prop} {D : va_G} {cy : Nat → ClassId} {cs : List (Nat × Nat)} {ad : Nat → Nat → Nat} {cn sn nL pc : Nat} {Zp : State → Prop} {lv lv' : List (Nat × Value)} {rest : List Value} {S : HS} {cc : ByteArray} {own : String} {ret : Option FieldType}
theorem g_scl (B : Bd p s m #[Value.ref b] meth c D cy cs ad Zp cc nL own ret) (hX : va_X b L xs s s.heap) (hbl : b < s.heap.size) (hbA : ¬ gA cs ad b) {i : Int32} (hin : inb i L = true) (d : decode cc pc = .ok (.iaload, 1)) (kk : GW p l e room_1 s m #[Value.ref b] below meth c Q D cy cs ad cn sn nL (pc + 1) lv (.int (xs i.toNatClampNeg) :: rest) S) : GW p l e room_1 s m #[Value.ref b] below meth c Q D cy cs ad cn sn nL pc lv (.int i :: .ref b :: rest) S := fun H locs ls hP hS h => va_sld B.1 B.2.1 hX hbl hbA hS (inb_in hin) d (kk H locs ls hP hS h)
theorem g_scn (B : Bd p s m #[Value.ref b] meth c D cy cs ad Zp cc nL own ret) (hX : va_X b L xs s s.heap) (hbl : b < s.heap.size) (hbA : ¬ gA cs ad b) (d : decode cc pc = .ok (.arraylength, 1)) (kk : GW p l e room_1 s m #[Value.ref b] below meth c Q D cy cs ad cn sn nL (pc + 1) lv (.int (nI L) :: rest) S) : GW p l e room_1 s m #[Value.ref b] below meth c Q D cy cs ad cn sn nL pc lv (.ref b :: rest) S := fun H locs ls hP hS h => va_slen B.1 B.2.1 hX hbl hbA hS d (kk H locs ls hP hS h)
theorem g_lawret (B : Bd p s m #[Value.ref b] meth c D cy cs ad Zp code nL own Jvm.Pilot.@@N@@.ret) (hge : ∀ x ∈ cs, s.heap.size ≤ ad x.1 x.2) (hcn : cn ≤ 600000 ∧ sn ≤ 7302250) (d : decode code pc = .ok (.ireturn, 1)) : GW p l e room_1 s m #[Value.ref b] below meth c (lw_Z below #[Value.ref b] s) D cy cs ad cn sn nL pc lv [.int 1] S := fun H locs ls hP hS h => va_forget (fun q hq => by
  obtain ⟨x, hx, e1⟩ := hS.2.2 q hq
  rw [e1]
  exact hge x hx) (W.widen hcn.1 hcn.2 (lw_ret B.1 B.2.1 B.2.2.2.2.2.2.2.1 B.2.2.2.2.2.2.2.2.1 d))
end GL
def f_L_law_18 (cs : List (Nat × Nat)) (N : Nat) (xs : Nat → Int32) (L : Nat) : Nat → Int32 → HS → Option (Int32 × HS)
  | 0, _, _ => none
  | n + 1, v3, S =>
    if ((nI L) - (6 : Int32)) < v3 then (
      some ((1 : Int32), S))
    else (
      ck (inb v3 L) (
      if ((xs v3.toNatClampNeg) &&& (15 : Int32)) = (0 : Int32) then (
        ck (inb (v3 + (1 : Int32)) L) (
        ck (inb (v3 + (2 : Int32)) L) (
        ck (inb (v3 + (3 : Int32)) L) (
        ck (mc cs 0 0) (
        ob (f_X8_hours cs N (xs (v3 + (1 : Int32)).toNatClampNeg) (xs (v3 + (2 : Int32)).toNatClampNeg) (xs (v3 + (3 : Int32)).toNatClampNeg) S) (fun r8 S9 =>
        ck (inb (v3 + (1 : Int32)) L) (
        ck (inb (v3 + (2 : Int32)) L) (
        ck (inb (v3 + (3 : Int32)) L) (
        ck (mc cs 30 0) (
        ob (f_X9_hours cs N (xs (v3 + (1 : Int32)).toNatClampNeg) (xs (v3 + (2 : Int32)).toNatClampNeg) (xs (v3 + (3 : Int32)).toNatClampNeg) S9) (fun r15 S16 =>
        if r8 = r15 then (
          lt_ (v3 + (6 : Int32)) (fun x19 =>
          f_L_law_18 cs N xs L n x19 S16))
        else (
          some ((0 : Int32), S16)))))))))))))
      else (
      if ((xs v3.toNatClampNeg) &&& (15 : Int32)) = (1 : Int32) then (
        ck (inb (v3 + (1 : Int32)) L) (
        ck (inb (v3 + (2 : Int32)) L) (
        ck (inb (v3 + (3 : Int32)) L) (
        ck (inb (v3 + (4 : Int32)) L) (
        ck (mc cs 0 0) (
        ob (f_X8_pattern cs N (xs (v3 + (1 : Int32)).toNatClampNeg) (xs (v3 + (2 : Int32)).toNatClampNeg) (xs (v3 + (3 : Int32)).toNatClampNeg) (xs (v3 + (4 : Int32)).toNatClampNeg) S) (fun r27 S28 =>
        ck (inb (v3 + (1 : Int32)) L) (
        ck (inb (v3 + (2 : Int32)) L) (
        ck (inb (v3 + (3 : Int32)) L) (
        ck (inb (v3 + (4 : Int32)) L) (
        ck (mc cs 30 0) (
        ob (f_X9_pattern cs N (xs (v3 + (1 : Int32)).toNatClampNeg) (xs (v3 + (2 : Int32)).toNatClampNeg) (xs (v3 + (3 : Int32)).toNatClampNeg) (xs (v3 + (4 : Int32)).toNatClampNeg) S28) (fun r35 S36 =>
        if r27 = r35 then (
          lt_ (v3 + (6 : Int32)) (fun x39 =>
          f_L_law_18 cs N xs L n x39 S36))
        else (
          some ((0 : Int32), S36)))))))))))))))
      else (
      if ((xs v3.toNatClampNeg) &&& (15 : Int32)) = (2 : Int32) then (
        ck (inb (v3 + (1 : Int32)) L) (
        ck (inb (v3 + (2 : Int32)) L) (
        ck (mc cs 0 0) (
        ob (f_X8_lend cs N (xs (v3 + (1 : Int32)).toNatClampNeg) (xs (v3 + (2 : Int32)).toNatClampNeg) S) (fun r45 S46 =>
        ck (inb (v3 + (1 : Int32)) L) (
        ck (inb (v3 + (2 : Int32)) L) (
        ck (mc cs 30 0) (
        ob (f_X9_lend cs N (xs (v3 + (1 : Int32)).toNatClampNeg) (xs (v3 + (2 : Int32)).toNatClampNeg) S46) (fun r51 S52 =>
        if r45 = r51 then (
          lt_ (v3 + (6 : Int32)) (fun x55 =>
          f_L_law_18 cs N xs L n x55 S52))
        else (
          some ((0 : Int32), S52)))))))))))
      else (
      if ((xs v3.toNatClampNeg) &&& (15 : Int32)) = (3 : Int32) then (
        ck (inb (v3 + (1 : Int32)) L) (
        ck (mc cs 0 0) (
        ob (f_X8_bring cs N (xs (v3 + (1 : Int32)).toNatClampNeg) S) (fun r60 S61 =>
        ck (inb (v3 + (1 : Int32)) L) (
        ck (mc cs 30 0) (
        ob (f_X9_bring cs N (xs (v3 + (1 : Int32)).toNatClampNeg) S61) (fun r65 S66 =>
        if r60 = r65 then (
          lt_ (v3 + (6 : Int32)) (fun x69 =>
          f_L_law_18 cs N xs L n x69 S66))
        else (
          some ((0 : Int32), S66)))))))))
      else (
      if ((xs v3.toNatClampNeg) &&& (15 : Int32)) = (4 : Int32) then (
        ck (inb (v3 + (1 : Int32)) L) (
        ck (inb (v3 + (2 : Int32)) L) (
        ck (inb (v3 + (3 : Int32)) L) (
        ck (inb (v3 + (4 : Int32)) L) (
        ck (mc cs 0 0) (
        ob (f_X8_order cs N (xs (v3 + (1 : Int32)).toNatClampNeg) (xs (v3 + (2 : Int32)).toNatClampNeg) (xs (v3 + (3 : Int32)).toNatClampNeg) (xs (v3 + (4 : Int32)).toNatClampNeg) S) (fun r77 S78 =>
        ck (inb (v3 + (1 : Int32)) L) (
        ck (inb (v3 + (2 : Int32)) L) (
        ck (inb (v3 + (3 : Int32)) L) (
        ck (inb (v3 + (4 : Int32)) L) (
        ck (mc cs 30 0) (
        ob (f_X9_order cs N (xs (v3 + (1 : Int32)).toNatClampNeg) (xs (v3 + (2 : Int32)).toNatClampNeg) (xs (v3 + (3 : Int32)).toNatClampNeg) (xs (v3 + (4 : Int32)).toNatClampNeg) S78) (fun r85 S86 =>
        if r77 = r85 then (
          lt_ (v3 + (6 : Int32)) (fun x89 =>
          f_L_law_18 cs N xs L n x89 S86))
        else (
          some ((0 : Int32), S86)))))))))))))))
      else (
      if ((xs v3.toNatClampNeg) &&& (15 : Int32)) = (5 : Int32) then (
        ck (inb (v3 + (1 : Int32)) L) (
        ck (mc cs 0 0) (
        ob (f_X8_drop cs N (xs (v3 + (1 : Int32)).toNatClampNeg) S) (fun r94 S95 =>
        ck (inb (v3 + (1 : Int32)) L) (
        ck (mc cs 30 0) (
        ob (f_X9_drop cs N (xs (v3 + (1 : Int32)).toNatClampNeg) S95) (fun r99 S100 =>
        if r94 = r99 then (
          lt_ (v3 + (6 : Int32)) (fun x103 =>
          f_L_law_18 cs N xs L n x103 S100))
        else (
          some ((0 : Int32), S100)))))))))
      else (
      if ((xs v3.toNatClampNeg) &&& (15 : Int32)) = (6 : Int32) then (
        ck (inb (v3 + (1 : Int32)) L) (
        ck (inb (v3 + (2 : Int32)) L) (
        ck (inb (v3 + (3 : Int32)) L) (
        ck (inb (v3 + (4 : Int32)) L) (
        ck (inb (v3 + (5 : Int32)) L) (
        ck (mc cs 0 0) (
        ob (f_X8_feed cs N (xs (v3 + (1 : Int32)).toNatClampNeg) (xs (v3 + (2 : Int32)).toNatClampNeg) (xs (v3 + (3 : Int32)).toNatClampNeg) (xs (v3 + (4 : Int32)).toNatClampNeg) (xs (v3 + (5 : Int32)).toNatClampNeg) S) (fun r112 S113 =>
        ck (inb (v3 + (1 : Int32)) L) (
        ck (inb (v3 + (2 : Int32)) L) (
        ck (inb (v3 + (3 : Int32)) L) (
        ck (inb (v3 + (4 : Int32)) L) (
        ck (inb (v3 + (5 : Int32)) L) (
        ck (mc cs 30 0) (
        ob (f_X9_feed cs N (xs (v3 + (1 : Int32)).toNatClampNeg) (xs (v3 + (2 : Int32)).toNatClampNeg) (xs (v3 + (3 : Int32)).toNatClampNeg) (xs (v3 + (4 : Int32)).toNatClampNeg) (xs (v3 + (5 : Int32)).toNatClampNeg) S113) (fun r121 S122 =>
        if r112 = r121 then (
          lt_ (v3 + (6 : Int32)) (fun x125 =>
          f_L_law_18 cs N xs L n x125 S122))
        else (
          some ((0 : Int32), S122)))))))))))))))))
      else (
      if ((xs v3.toNatClampNeg) &&& (15 : Int32)) = (7 : Int32) then (
        ck (inb (v3 + (1 : Int32)) L) (
        ck (mc cs 0 0) (
        ob (f_X8_end cs N (xs (v3 + (1 : Int32)).toNatClampNeg) S) (fun r130 S131 =>
        ck (inb (v3 + (1 : Int32)) L) (
        ck (mc cs 30 0) (
        ob (f_X9_end cs N (xs (v3 + (1 : Int32)).toNatClampNeg) S131) (fun r135 S136 =>
        if r130 = r135 then (
          lt_ (v3 + (6 : Int32)) (fun x139 =>
          f_L_law_18 cs N xs L n x139 S136))
        else (
          some ((0 : Int32), S136)))))))))
      else (
      if ((xs v3.toNatClampNeg) &&& (15 : Int32)) = (8 : Int32) then (
        ck (mc cs 0 0) (
        ob (f_X8_custom cs N  S) (fun r143 S144 =>
        ck (mc cs 30 0) (
        ob (f_X9_custom cs N  S144) (fun r147 S148 =>
        if r143 = r147 then (
          lt_ (v3 + (6 : Int32)) (fun x151 =>
          f_L_law_18 cs N xs L n x151 S148))
        else (
          some ((0 : Int32), S148)))))))
      else (
      if ((xs v3.toNatClampNeg) &&& (15 : Int32)) = (9 : Int32) then (
        ck (inb (v3 + (1 : Int32)) L) (
        ck (mc cs 0 0) (
        ob (f_X8_fault cs N (xs (v3 + (1 : Int32)).toNatClampNeg) S) (fun r156 S157 =>
        ck (inb (v3 + (1 : Int32)) L) (
        ck (mc cs 30 0) (
        ob (f_X9_fault cs N (xs (v3 + (1 : Int32)).toNatClampNeg) S157) (fun r161 S162 =>
        if r156 = r161 then (
          lt_ (v3 + (6 : Int32)) (fun x165 =>
          f_L_law_18 cs N xs L n x165 S162))
        else (
          some ((0 : Int32), S162)))))))))
      else (
      if ((xs v3.toNatClampNeg) &&& (15 : Int32)) = (10 : Int32) then (
        ck (inb (v3 + (1 : Int32)) L) (
        ck (inb (v3 + (2 : Int32)) L) (
        ck (inb (v3 + (3 : Int32)) L) (
        ck (mc cs 0 0) (
        ob (f_X8_may cs N (xs (v3 + (1 : Int32)).toNatClampNeg) (xs (v3 + (2 : Int32)).toNatClampNeg) (xs (v3 + (3 : Int32)).toNatClampNeg) S) (fun r172 S173 =>
        ck (inb (v3 + (1 : Int32)) L) (
        ck (inb (v3 + (2 : Int32)) L) (
        ck (inb (v3 + (3 : Int32)) L) (
        ck (mc cs 30 0) (
        ob (f_X9_may cs N (xs (v3 + (1 : Int32)).toNatClampNeg) (xs (v3 + (2 : Int32)).toNatClampNeg) (xs (v3 + (3 : Int32)).toNatClampNeg) S173) (fun r179 S180 =>
        if r172 = r179 then (
          lt_ (v3 + (6 : Int32)) (fun x183 =>
          f_L_law_18 cs N xs L n x183 S180))
        else (
          some ((0 : Int32), S180)))))))))))))
      else (
      if ((xs v3.toNatClampNeg) &&& (15 : Int32)) = (11 : Int32) then (
        ck (inb (v3 + (1 : Int32)) L) (
        ck (mc cs 0 0) (
        ob (f_X8_look cs N (xs (v3 + (1 : Int32)).toNatClampNeg) S) (fun r188 S189 =>
        ck (inb (v3 + (1 : Int32)) L) (
        ck (mc cs 30 0) (
        ob (f_X9_look cs N (xs (v3 + (1 : Int32)).toNatClampNeg) S189) (fun r193 S194 =>
        if r188 = r193 then (
          lt_ (v3 + (6 : Int32)) (fun x197 =>
          f_L_law_18 cs N xs L n x197 S194))
        else (
          some ((0 : Int32), S194)))))))))
      else (
      if ((xs v3.toNatClampNeg) &&& (15 : Int32)) = (12 : Int32) then (
        ck (inb (v3 + (1 : Int32)) L) (
        ck (inb (v3 + (2 : Int32)) L) (
        ck (mc cs 0 0) (
        ob (f_X8_of cs N (xs (v3 + (1 : Int32)).toNatClampNeg) (xs (v3 + (2 : Int32)).toNatClampNeg) S) (fun r203 S204 =>
        ck (inb (v3 + (1 : Int32)) L) (
        ck (inb (v3 + (2 : Int32)) L) (
        ck (mc cs 30 0) (
        ob (f_X9_of cs N (xs (v3 + (1 : Int32)).toNatClampNeg) (xs (v3 + (2 : Int32)).toNatClampNeg) S204) (fun r209 S210 =>
        if r203 = r209 then (
          lt_ (v3 + (6 : Int32)) (fun x213 =>
          f_L_law_18 cs N xs L n x213 S210))
        else (
          some ((0 : Int32), S210)))))))))))
      else (
      if ((xs v3.toNatClampNeg) &&& (15 : Int32)) = (13 : Int32) then (
        ck (inb (v3 + (1 : Int32)) L) (
        ck (mc cs 0 0) (
        ob (f_X8_best cs N (xs (v3 + (1 : Int32)).toNatClampNeg) S) (fun r218 S219 =>
        ck (inb (v3 + (1 : Int32)) L) (
        ck (mc cs 30 0) (
        ob (f_X9_best cs N (xs (v3 + (1 : Int32)).toNatClampNeg) S219) (fun r223 S224 =>
        if r218 = r223 then (
          lt_ (v3 + (6 : Int32)) (fun x227 =>
          f_L_law_18 cs N xs L n x227 S224))
        else (
          some ((0 : Int32), S224)))))))))
      else (
      if ((xs v3.toNatClampNeg) &&& (15 : Int32)) = (14 : Int32) then (
        ck (mc cs 0 0) (
        ob (f_X8_work cs N  S) (fun r231 S232 =>
        ck (mc cs 30 0) (
        ob (f_X9_work cs N  S232) (fun r235 S236 =>
        if r231 = r235 then (
          lt_ (v3 + (6 : Int32)) (fun x239 =>
          f_L_law_18 cs N xs L n x239 S236))
        else (
          some ((0 : Int32), S236)))))))
      else (
      lt_ (v3 + (6 : Int32)) (fun x241 =>
      f_L_law_18 cs N xs L n x241 S))))))))))))))))))
set_option maxHeartbeats 8000000 in
set_option maxRecDepth 100000 in
theorem b_L_law_18 {p : Program} {l : Launch} {e : Env} {s : State} {m : MethodId} {below : List Frame} {meth : Method} {c : Code} {D : va_G} {cy : Nat → ClassId} {cs : List (Nat × Nat)} {ad : Nat → Nat → Nat} {b L cn sn : Nat} {xs : Nat → Int32} {Z : HS} (B : Bd p s m #[Value.ref b] meth c D cy cs ad (gZ cs ad) cL_law 4 RL Jvm.Pilot.@@N@@.ret) (hX : va_X b L xs s s.heap) (hbl : b < s.heap.size) (hbA : ¬ gA cs ad b) (hge : ∀ x ∈ cs, s.heap.size ≤ ad x.1 x.2) (hcn : cn ≤ 600000 ∧ sn ≤ 7302250) (N : Nat) : ∀ (n : Nat) (v3 : Int32) (S : HS), f_L_law_18 cs N xs L n v3 S = some (1, Z) → GW p l e room_1 s m #[Value.ref b] below meth c (lw_Z below #[Value.ref b] s) D cy cs ad cn sn 4 18 [(0, .ref b), (1, .ref (ad 0 0)), (2, .ref (ad 30 0)), (3, .int v3)] [] S := by
  have hA := B.2.2.2.2.2.2.1
  have hZ := B.2.2.2.2.2.2.2.2.2.2
  intro n
  induction n with
  | zero => intro v3 S h; cases h
  | succ n ih =>
    intro v3 S h
    rw [f_L_law_18] at h
    refine g_iload_n B dL_law_18 3 rfl rfl ?_
    refine g_aload_n B dL_law_19 0 rfl rfl ?_
    refine g_scn B hX hbl hbA dL_law_20 ?_
    refine g_bipush (v := (6 : Int32)) B dL_law_21 (by decide) ?_
    refine g_isub B dL_law_23 ?_
    refine g_icmp_gt B 599 dL_law_24 (by decide) (fun q1 => ?_) (fun q1 => ?_)
    · have h := if_t h q1
      refine g_iconst (v := (1 : Int32)) B dL_law_599 (by decide) ?_
      obtain ⟨-, rfl⟩ := some_e h
      exact g_lawret B hge hcn dL_law_600
    · have h := if_f h q1
      refine g_aload_n B dL_law_27 0 rfl rfl ?_
      refine g_iload_n B dL_law_28 3 rfl rfl ?_
      obtain ⟨b2, h⟩ := ck_e h
      refine g_scl B hX hbl hbA b2 dL_law_29 ?_
      refine g_bipush (v := (15 : Int32)) B dL_law_30 (by decide) ?_
      refine g_iand B dL_law_32 ?_
      by_cases q3 : ((xs v3.toNatClampNeg) &&& (15 : Int32)) = (0 : Int32)
      · have h := if_t h q3
        refine g_tableIn (off := 75) B 108 dL_law_33 (by rw [q3]; decide) (by rw [q3]; decide) (by rw [q3]; rfl) (by decide) ?_
        refine g_aload_n B dL_law_108 1 rfl rfl ?_
        refine g_aload_n B dL_law_109 0 rfl rfl ?_
        refine g_iload_n B dL_law_110 3 rfl rfl ?_
        refine g_iconst (v := (1 : Int32)) B dL_law_111 (by decide) ?_
        refine g_iadd B dL_law_112 ?_
        obtain ⟨b4, h⟩ := ck_e h
        refine g_scl B hX hbl hbA b4 dL_law_113 ?_
        refine g_aload_n B dL_law_114 0 rfl rfl ?_
        refine g_iload_n B dL_law_115 3 rfl rfl ?_
        refine g_iconst (v := (2 : Int32)) B dL_law_116 (by decide) ?_
        refine g_iadd B dL_law_117 ?_
        obtain ⟨b5, h⟩ := ck_e h
        refine g_scl B hX hbl hbA b5 dL_law_118 ?_
        refine g_aload_n B dL_law_119 0 rfl rfl ?_
        refine g_iload_n B dL_law_120 3 rfl rfl ?_
        refine g_iconst (v := (3 : Int32)) B dL_law_121 (by decide) ?_
        refine g_iadd B dL_law_122 ?_
        obtain ⟨b6, h⟩ := ck_e h
        refine g_scl B hX hbl hbA b6 dL_law_123 ?_
        obtain ⟨m7, h⟩ := ck_e h
        obtain ⟨r8, S9, e10, h⟩ := ob_e h
        refine g_cvi (rest := []) B (c_X8_hours hA hZ N _ _ _ _ _ _ e10) mf_X8_hours km_L_13 ⟨by decide, by decide⟩ ⟨rfl, rfl⟩ m7 rfl rfl rfl rfl (Nat.le_of_ble_eq_true rfl) hcn dL_law_124 ?_
        refine g_aload_n B dL_law_127 2 rfl rfl ?_
        refine g_aload_n B dL_law_128 0 rfl rfl ?_
        refine g_iload_n B dL_law_129 3 rfl rfl ?_
        refine g_iconst (v := (1 : Int32)) B dL_law_130 (by decide) ?_
        refine g_iadd B dL_law_131 ?_
        obtain ⟨b11, h⟩ := ck_e h
        refine g_scl B hX hbl hbA b11 dL_law_132 ?_
        refine g_aload_n B dL_law_133 0 rfl rfl ?_
        refine g_iload_n B dL_law_134 3 rfl rfl ?_
        refine g_iconst (v := (2 : Int32)) B dL_law_135 (by decide) ?_
        refine g_iadd B dL_law_136 ?_
        obtain ⟨b12, h⟩ := ck_e h
        refine g_scl B hX hbl hbA b12 dL_law_137 ?_
        refine g_aload_n B dL_law_138 0 rfl rfl ?_
        refine g_iload_n B dL_law_139 3 rfl rfl ?_
        refine g_iconst (v := (3 : Int32)) B dL_law_140 (by decide) ?_
        refine g_iadd B dL_law_141 ?_
        obtain ⟨b13, h⟩ := ck_e h
        refine g_scl B hX hbl hbA b13 dL_law_142 ?_
        obtain ⟨m14, h⟩ := ck_e h
        obtain ⟨r15, S16, e17, h⟩ := ob_e h
        refine g_cvi (rest := [.int r8]) B (c_X9_hours hA hZ N _ _ _ _ _ _ e17) mf_X9_hours km_L_17 ⟨by decide, by decide⟩ ⟨rfl, rfl⟩ m14 rfl rfl rfl rfl (Nat.le_of_ble_eq_true rfl) hcn dL_law_143 ?_
        refine g_icmp_eq B 593 dL_law_146 (by decide) (fun q18 => ?_) (fun q18 => ?_)
        · have h := if_t h q18
          obtain ⟨x19, e20, h⟩ := lt_e h
          refine g_iinc (v := x19) (lv' := [(3, .int x19), (0, .ref b), (1, .ref (ad 0 0)), (2, .ref (ad 30 0))]) B dL_law_593 (k := 3) rfl (by rw [e20]; rfl) (by decide) rfl ?_
          refine g_goto B 18 dL_law_596 (by decide) ?_
          refine g_sub [1, 2, 3, 0] rfl ?_
          exact ih _ _ h
        · have h := if_f h q18
          refine g_iconst (v := (0 : Int32)) B dL_law_149 (by decide) ?_
          exact absurd (some_e h).1 (by decide)
      have h := if_f h q3
      by_cases q21 : ((xs v3.toNatClampNeg) &&& (15 : Int32)) = (1 : Int32)
      · have h := if_t h q21
        refine g_tableIn (off := 118) B 151 dL_law_33 (by rw [q21]; decide) (by rw [q21]; decide) (by rw [q21]; rfl) (by decide) ?_
        refine g_aload_n B dL_law_151 1 rfl rfl ?_
        refine g_aload_n B dL_law_152 0 rfl rfl ?_
        refine g_iload_n B dL_law_153 3 rfl rfl ?_
        refine g_iconst (v := (1 : Int32)) B dL_law_154 (by decide) ?_
        refine g_iadd B dL_law_155 ?_
        obtain ⟨b22, h⟩ := ck_e h
        refine g_scl B hX hbl hbA b22 dL_law_156 ?_
        refine g_aload_n B dL_law_157 0 rfl rfl ?_
        refine g_iload_n B dL_law_158 3 rfl rfl ?_
        refine g_iconst (v := (2 : Int32)) B dL_law_159 (by decide) ?_
        refine g_iadd B dL_law_160 ?_
        obtain ⟨b23, h⟩ := ck_e h
        refine g_scl B hX hbl hbA b23 dL_law_161 ?_
        refine g_aload_n B dL_law_162 0 rfl rfl ?_
        refine g_iload_n B dL_law_163 3 rfl rfl ?_
        refine g_iconst (v := (3 : Int32)) B dL_law_164 (by decide) ?_
        refine g_iadd B dL_law_165 ?_
        obtain ⟨b24, h⟩ := ck_e h
        refine g_scl B hX hbl hbA b24 dL_law_166 ?_
        refine g_aload_n B dL_law_167 0 rfl rfl ?_
        refine g_iload_n B dL_law_168 3 rfl rfl ?_
        refine g_iconst (v := (4 : Int32)) B dL_law_169 (by decide) ?_
        refine g_iadd B dL_law_170 ?_
        obtain ⟨b25, h⟩ := ck_e h
        refine g_scl B hX hbl hbA b25 dL_law_171 ?_
        obtain ⟨m26, h⟩ := ck_e h
        obtain ⟨r27, S28, e29, h⟩ := ob_e h
        refine g_cvi (rest := []) B (c_X8_pattern hA hZ N _ _ _ _ _ _ _ e29) mf_X8_pattern km_L_18 ⟨by decide, by decide⟩ ⟨rfl, rfl⟩ m26 rfl rfl rfl rfl (Nat.le_of_ble_eq_true rfl) hcn dL_law_172 ?_
        refine g_aload_n B dL_law_175 2 rfl rfl ?_
        refine g_aload_n B dL_law_176 0 rfl rfl ?_
        refine g_iload_n B dL_law_177 3 rfl rfl ?_
        refine g_iconst (v := (1 : Int32)) B dL_law_178 (by decide) ?_
        refine g_iadd B dL_law_179 ?_
        obtain ⟨b30, h⟩ := ck_e h
        refine g_scl B hX hbl hbA b30 dL_law_180 ?_
        refine g_aload_n B dL_law_181 0 rfl rfl ?_
        refine g_iload_n B dL_law_182 3 rfl rfl ?_
        refine g_iconst (v := (2 : Int32)) B dL_law_183 (by decide) ?_
        refine g_iadd B dL_law_184 ?_
        obtain ⟨b31, h⟩ := ck_e h
        refine g_scl B hX hbl hbA b31 dL_law_185 ?_
        refine g_aload_n B dL_law_186 0 rfl rfl ?_
        refine g_iload_n B dL_law_187 3 rfl rfl ?_
        refine g_iconst (v := (3 : Int32)) B dL_law_188 (by decide) ?_
        refine g_iadd B dL_law_189 ?_
        obtain ⟨b32, h⟩ := ck_e h
        refine g_scl B hX hbl hbA b32 dL_law_190 ?_
        refine g_aload_n B dL_law_191 0 rfl rfl ?_
        refine g_iload_n B dL_law_192 3 rfl rfl ?_
        refine g_iconst (v := (4 : Int32)) B dL_law_193 (by decide) ?_
        refine g_iadd B dL_law_194 ?_
        obtain ⟨b33, h⟩ := ck_e h
        refine g_scl B hX hbl hbA b33 dL_law_195 ?_
        obtain ⟨m34, h⟩ := ck_e h
        obtain ⟨r35, S36, e37, h⟩ := ob_e h
        refine g_cvi (rest := [.int r27]) B (c_X9_pattern hA hZ N _ _ _ _ _ _ _ e37) mf_X9_pattern km_L_22 ⟨by decide, by decide⟩ ⟨rfl, rfl⟩ m34 rfl rfl rfl rfl (Nat.le_of_ble_eq_true rfl) hcn dL_law_196 ?_
        refine g_icmp_eq B 593 dL_law_199 (by decide) (fun q38 => ?_) (fun q38 => ?_)
        · have h := if_t h q38
          obtain ⟨x39, e40, h⟩ := lt_e h
          refine g_iinc (v := x39) (lv' := [(3, .int x39), (0, .ref b), (1, .ref (ad 0 0)), (2, .ref (ad 30 0))]) B dL_law_593 (k := 3) rfl (by rw [e40]; rfl) (by decide) rfl ?_
          refine g_goto B 18 dL_law_596 (by decide) ?_
          refine g_sub [1, 2, 3, 0] rfl ?_
          exact ih _ _ h
        · have h := if_f h q38
          refine g_iconst (v := (0 : Int32)) B dL_law_202 (by decide) ?_
          exact absurd (some_e h).1 (by decide)
      have h := if_f h q21
      by_cases q41 : ((xs v3.toNatClampNeg) &&& (15 : Int32)) = (2 : Int32)
      · have h := if_t h q41
        refine g_tableIn (off := 171) B 204 dL_law_33 (by rw [q41]; decide) (by rw [q41]; decide) (by rw [q41]; rfl) (by decide) ?_
        refine g_aload_n B dL_law_204 1 rfl rfl ?_
        refine g_aload_n B dL_law_205 0 rfl rfl ?_
        refine g_iload_n B dL_law_206 3 rfl rfl ?_
        refine g_iconst (v := (1 : Int32)) B dL_law_207 (by decide) ?_
        refine g_iadd B dL_law_208 ?_
        obtain ⟨b42, h⟩ := ck_e h
        refine g_scl B hX hbl hbA b42 dL_law_209 ?_
        refine g_aload_n B dL_law_210 0 rfl rfl ?_
        refine g_iload_n B dL_law_211 3 rfl rfl ?_
        refine g_iconst (v := (2 : Int32)) B dL_law_212 (by decide) ?_
        refine g_iadd B dL_law_213 ?_
        obtain ⟨b43, h⟩ := ck_e h
        refine g_scl B hX hbl hbA b43 dL_law_214 ?_
        obtain ⟨m44, h⟩ := ck_e h
        obtain ⟨r45, S46, e47, h⟩ := ob_e h
        refine g_cvi (rest := []) B (c_X8_lend hA hZ N _ _ _ _ _ e47) mf_X8_lend km_L_23 ⟨by decide, by decide⟩ ⟨rfl, rfl⟩ m44 rfl rfl rfl rfl (Nat.le_of_ble_eq_true rfl) hcn dL_law_215 ?_
        refine g_aload_n B dL_law_218 2 rfl rfl ?_
        refine g_aload_n B dL_law_219 0 rfl rfl ?_
        refine g_iload_n B dL_law_220 3 rfl rfl ?_
        refine g_iconst (v := (1 : Int32)) B dL_law_221 (by decide) ?_
        refine g_iadd B dL_law_222 ?_
        obtain ⟨b48, h⟩ := ck_e h
        refine g_scl B hX hbl hbA b48 dL_law_223 ?_
        refine g_aload_n B dL_law_224 0 rfl rfl ?_
        refine g_iload_n B dL_law_225 3 rfl rfl ?_
        refine g_iconst (v := (2 : Int32)) B dL_law_226 (by decide) ?_
        refine g_iadd B dL_law_227 ?_
        obtain ⟨b49, h⟩ := ck_e h
        refine g_scl B hX hbl hbA b49 dL_law_228 ?_
        obtain ⟨m50, h⟩ := ck_e h
        obtain ⟨r51, S52, e53, h⟩ := ob_e h
        refine g_cvi (rest := [.int r45]) B (c_X9_lend hA hZ N _ _ _ _ _ e53) mf_X9_lend km_L_27 ⟨by decide, by decide⟩ ⟨rfl, rfl⟩ m50 rfl rfl rfl rfl (Nat.le_of_ble_eq_true rfl) hcn dL_law_229 ?_
        refine g_icmp_eq B 593 dL_law_232 (by decide) (fun q54 => ?_) (fun q54 => ?_)
        · have h := if_t h q54
          obtain ⟨x55, e56, h⟩ := lt_e h
          refine g_iinc (v := x55) (lv' := [(3, .int x55), (0, .ref b), (1, .ref (ad 0 0)), (2, .ref (ad 30 0))]) B dL_law_593 (k := 3) rfl (by rw [e56]; rfl) (by decide) rfl ?_
          refine g_goto B 18 dL_law_596 (by decide) ?_
          refine g_sub [1, 2, 3, 0] rfl ?_
          exact ih _ _ h
        · have h := if_f h q54
          refine g_iconst (v := (0 : Int32)) B dL_law_235 (by decide) ?_
          exact absurd (some_e h).1 (by decide)
      have h := if_f h q41
      by_cases q57 : ((xs v3.toNatClampNeg) &&& (15 : Int32)) = (3 : Int32)
      · have h := if_t h q57
        refine g_tableIn (off := 204) B 237 dL_law_33 (by rw [q57]; decide) (by rw [q57]; decide) (by rw [q57]; rfl) (by decide) ?_
        refine g_aload_n B dL_law_237 1 rfl rfl ?_
        refine g_aload_n B dL_law_238 0 rfl rfl ?_
        refine g_iload_n B dL_law_239 3 rfl rfl ?_
        refine g_iconst (v := (1 : Int32)) B dL_law_240 (by decide) ?_
        refine g_iadd B dL_law_241 ?_
        obtain ⟨b58, h⟩ := ck_e h
        refine g_scl B hX hbl hbA b58 dL_law_242 ?_
        obtain ⟨m59, h⟩ := ck_e h
        obtain ⟨r60, S61, e62, h⟩ := ob_e h
        refine g_cvi (rest := []) B (c_X8_bring hA hZ N _ _ _ _ e62) mf_X8_bring km_L_28 ⟨by decide, by decide⟩ ⟨rfl, rfl⟩ m59 rfl rfl rfl rfl (Nat.le_of_ble_eq_true rfl) hcn dL_law_243 ?_
        refine g_aload_n B dL_law_246 2 rfl rfl ?_
        refine g_aload_n B dL_law_247 0 rfl rfl ?_
        refine g_iload_n B dL_law_248 3 rfl rfl ?_
        refine g_iconst (v := (1 : Int32)) B dL_law_249 (by decide) ?_
        refine g_iadd B dL_law_250 ?_
        obtain ⟨b63, h⟩ := ck_e h
        refine g_scl B hX hbl hbA b63 dL_law_251 ?_
        obtain ⟨m64, h⟩ := ck_e h
        obtain ⟨r65, S66, e67, h⟩ := ob_e h
        refine g_cvi (rest := [.int r60]) B (c_X9_bring hA hZ N _ _ _ _ e67) mf_X9_bring km_L_32 ⟨by decide, by decide⟩ ⟨rfl, rfl⟩ m64 rfl rfl rfl rfl (Nat.le_of_ble_eq_true rfl) hcn dL_law_252 ?_
        refine g_icmp_eq B 593 dL_law_255 (by decide) (fun q68 => ?_) (fun q68 => ?_)
        · have h := if_t h q68
          obtain ⟨x69, e70, h⟩ := lt_e h
          refine g_iinc (v := x69) (lv' := [(3, .int x69), (0, .ref b), (1, .ref (ad 0 0)), (2, .ref (ad 30 0))]) B dL_law_593 (k := 3) rfl (by rw [e70]; rfl) (by decide) rfl ?_
          refine g_goto B 18 dL_law_596 (by decide) ?_
          refine g_sub [1, 2, 3, 0] rfl ?_
          exact ih _ _ h
        · have h := if_f h q68
          refine g_iconst (v := (0 : Int32)) B dL_law_258 (by decide) ?_
          exact absurd (some_e h).1 (by decide)
      have h := if_f h q57
      by_cases q71 : ((xs v3.toNatClampNeg) &&& (15 : Int32)) = (4 : Int32)
      · have h := if_t h q71
        refine g_tableIn (off := 227) B 260 dL_law_33 (by rw [q71]; decide) (by rw [q71]; decide) (by rw [q71]; rfl) (by decide) ?_
        refine g_aload_n B dL_law_260 1 rfl rfl ?_
        refine g_aload_n B dL_law_261 0 rfl rfl ?_
        refine g_iload_n B dL_law_262 3 rfl rfl ?_
        refine g_iconst (v := (1 : Int32)) B dL_law_263 (by decide) ?_
        refine g_iadd B dL_law_264 ?_
        obtain ⟨b72, h⟩ := ck_e h
        refine g_scl B hX hbl hbA b72 dL_law_265 ?_
        refine g_aload_n B dL_law_266 0 rfl rfl ?_
        refine g_iload_n B dL_law_267 3 rfl rfl ?_
        refine g_iconst (v := (2 : Int32)) B dL_law_268 (by decide) ?_
        refine g_iadd B dL_law_269 ?_
        obtain ⟨b73, h⟩ := ck_e h
        refine g_scl B hX hbl hbA b73 dL_law_270 ?_
        refine g_aload_n B dL_law_271 0 rfl rfl ?_
        refine g_iload_n B dL_law_272 3 rfl rfl ?_
        refine g_iconst (v := (3 : Int32)) B dL_law_273 (by decide) ?_
        refine g_iadd B dL_law_274 ?_
        obtain ⟨b74, h⟩ := ck_e h
        refine g_scl B hX hbl hbA b74 dL_law_275 ?_
        refine g_aload_n B dL_law_276 0 rfl rfl ?_
        refine g_iload_n B dL_law_277 3 rfl rfl ?_
        refine g_iconst (v := (4 : Int32)) B dL_law_278 (by decide) ?_
        refine g_iadd B dL_law_279 ?_
        obtain ⟨b75, h⟩ := ck_e h
        refine g_scl B hX hbl hbA b75 dL_law_280 ?_
        obtain ⟨m76, h⟩ := ck_e h
        obtain ⟨r77, S78, e79, h⟩ := ob_e h
        refine g_cvi (rest := []) B (c_X8_order hA hZ N _ _ _ _ _ _ _ e79) mf_X8_order km_L_33 ⟨by decide, by decide⟩ ⟨rfl, rfl⟩ m76 rfl rfl rfl rfl (Nat.le_of_ble_eq_true rfl) hcn dL_law_281 ?_
        refine g_aload_n B dL_law_284 2 rfl rfl ?_
        refine g_aload_n B dL_law_285 0 rfl rfl ?_
        refine g_iload_n B dL_law_286 3 rfl rfl ?_
        refine g_iconst (v := (1 : Int32)) B dL_law_287 (by decide) ?_
        refine g_iadd B dL_law_288 ?_
        obtain ⟨b80, h⟩ := ck_e h
        refine g_scl B hX hbl hbA b80 dL_law_289 ?_
        refine g_aload_n B dL_law_290 0 rfl rfl ?_
        refine g_iload_n B dL_law_291 3 rfl rfl ?_
        refine g_iconst (v := (2 : Int32)) B dL_law_292 (by decide) ?_
        refine g_iadd B dL_law_293 ?_
        obtain ⟨b81, h⟩ := ck_e h
        refine g_scl B hX hbl hbA b81 dL_law_294 ?_
        refine g_aload_n B dL_law_295 0 rfl rfl ?_
        refine g_iload_n B dL_law_296 3 rfl rfl ?_
        refine g_iconst (v := (3 : Int32)) B dL_law_297 (by decide) ?_
        refine g_iadd B dL_law_298 ?_
        obtain ⟨b82, h⟩ := ck_e h
        refine g_scl B hX hbl hbA b82 dL_law_299 ?_
        refine g_aload_n B dL_law_300 0 rfl rfl ?_
        refine g_iload_n B dL_law_301 3 rfl rfl ?_
        refine g_iconst (v := (4 : Int32)) B dL_law_302 (by decide) ?_
        refine g_iadd B dL_law_303 ?_
        obtain ⟨b83, h⟩ := ck_e h
        refine g_scl B hX hbl hbA b83 dL_law_304 ?_
        obtain ⟨m84, h⟩ := ck_e h
        obtain ⟨r85, S86, e87, h⟩ := ob_e h
        refine g_cvi (rest := [.int r77]) B (c_X9_order hA hZ N _ _ _ _ _ _ _ e87) mf_X9_order km_L_37 ⟨by decide, by decide⟩ ⟨rfl, rfl⟩ m84 rfl rfl rfl rfl (Nat.le_of_ble_eq_true rfl) hcn dL_law_305 ?_
        refine g_icmp_eq B 593 dL_law_308 (by decide) (fun q88 => ?_) (fun q88 => ?_)
        · have h := if_t h q88
          obtain ⟨x89, e90, h⟩ := lt_e h
          refine g_iinc (v := x89) (lv' := [(3, .int x89), (0, .ref b), (1, .ref (ad 0 0)), (2, .ref (ad 30 0))]) B dL_law_593 (k := 3) rfl (by rw [e90]; rfl) (by decide) rfl ?_
          refine g_goto B 18 dL_law_596 (by decide) ?_
          refine g_sub [1, 2, 3, 0] rfl ?_
          exact ih _ _ h
        · have h := if_f h q88
          refine g_iconst (v := (0 : Int32)) B dL_law_311 (by decide) ?_
          exact absurd (some_e h).1 (by decide)
      have h := if_f h q71
      by_cases q91 : ((xs v3.toNatClampNeg) &&& (15 : Int32)) = (5 : Int32)
      · have h := if_t h q91
        refine g_tableIn (off := 280) B 313 dL_law_33 (by rw [q91]; decide) (by rw [q91]; decide) (by rw [q91]; rfl) (by decide) ?_
        refine g_aload_n B dL_law_313 1 rfl rfl ?_
        refine g_aload_n B dL_law_314 0 rfl rfl ?_
        refine g_iload_n B dL_law_315 3 rfl rfl ?_
        refine g_iconst (v := (1 : Int32)) B dL_law_316 (by decide) ?_
        refine g_iadd B dL_law_317 ?_
        obtain ⟨b92, h⟩ := ck_e h
        refine g_scl B hX hbl hbA b92 dL_law_318 ?_
        obtain ⟨m93, h⟩ := ck_e h
        obtain ⟨r94, S95, e96, h⟩ := ob_e h
        refine g_cvi (rest := []) B (c_X8_drop hA hZ N _ _ _ _ e96) mf_X8_drop km_L_38 ⟨by decide, by decide⟩ ⟨rfl, rfl⟩ m93 rfl rfl rfl rfl (Nat.le_of_ble_eq_true rfl) hcn dL_law_319 ?_
        refine g_aload_n B dL_law_322 2 rfl rfl ?_
        refine g_aload_n B dL_law_323 0 rfl rfl ?_
        refine g_iload_n B dL_law_324 3 rfl rfl ?_
        refine g_iconst (v := (1 : Int32)) B dL_law_325 (by decide) ?_
        refine g_iadd B dL_law_326 ?_
        obtain ⟨b97, h⟩ := ck_e h
        refine g_scl B hX hbl hbA b97 dL_law_327 ?_
        obtain ⟨m98, h⟩ := ck_e h
        obtain ⟨r99, S100, e101, h⟩ := ob_e h
        refine g_cvi (rest := [.int r94]) B (c_X9_drop hA hZ N _ _ _ _ e101) mf_X9_drop km_L_42 ⟨by decide, by decide⟩ ⟨rfl, rfl⟩ m98 rfl rfl rfl rfl (Nat.le_of_ble_eq_true rfl) hcn dL_law_328 ?_
        refine g_icmp_eq B 593 dL_law_331 (by decide) (fun q102 => ?_) (fun q102 => ?_)
        · have h := if_t h q102
          obtain ⟨x103, e104, h⟩ := lt_e h
          refine g_iinc (v := x103) (lv' := [(3, .int x103), (0, .ref b), (1, .ref (ad 0 0)), (2, .ref (ad 30 0))]) B dL_law_593 (k := 3) rfl (by rw [e104]; rfl) (by decide) rfl ?_
          refine g_goto B 18 dL_law_596 (by decide) ?_
          refine g_sub [1, 2, 3, 0] rfl ?_
          exact ih _ _ h
        · have h := if_f h q102
          refine g_iconst (v := (0 : Int32)) B dL_law_334 (by decide) ?_
          exact absurd (some_e h).1 (by decide)
      have h := if_f h q91
      by_cases q105 : ((xs v3.toNatClampNeg) &&& (15 : Int32)) = (6 : Int32)
      · have h := if_t h q105
        refine g_tableIn (off := 303) B 336 dL_law_33 (by rw [q105]; decide) (by rw [q105]; decide) (by rw [q105]; rfl) (by decide) ?_
        refine g_aload_n B dL_law_336 1 rfl rfl ?_
        refine g_aload_n B dL_law_337 0 rfl rfl ?_
        refine g_iload_n B dL_law_338 3 rfl rfl ?_
        refine g_iconst (v := (1 : Int32)) B dL_law_339 (by decide) ?_
        refine g_iadd B dL_law_340 ?_
        obtain ⟨b106, h⟩ := ck_e h
        refine g_scl B hX hbl hbA b106 dL_law_341 ?_
        refine g_aload_n B dL_law_342 0 rfl rfl ?_
        refine g_iload_n B dL_law_343 3 rfl rfl ?_
        refine g_iconst (v := (2 : Int32)) B dL_law_344 (by decide) ?_
        refine g_iadd B dL_law_345 ?_
        obtain ⟨b107, h⟩ := ck_e h
        refine g_scl B hX hbl hbA b107 dL_law_346 ?_
        refine g_aload_n B dL_law_347 0 rfl rfl ?_
        refine g_iload_n B dL_law_348 3 rfl rfl ?_
        refine g_iconst (v := (3 : Int32)) B dL_law_349 (by decide) ?_
        refine g_iadd B dL_law_350 ?_
        obtain ⟨b108, h⟩ := ck_e h
        refine g_scl B hX hbl hbA b108 dL_law_351 ?_
        refine g_aload_n B dL_law_352 0 rfl rfl ?_
        refine g_iload_n B dL_law_353 3 rfl rfl ?_
        refine g_iconst (v := (4 : Int32)) B dL_law_354 (by decide) ?_
        refine g_iadd B dL_law_355 ?_
        obtain ⟨b109, h⟩ := ck_e h
        refine g_scl B hX hbl hbA b109 dL_law_356 ?_
        refine g_aload_n B dL_law_357 0 rfl rfl ?_
        refine g_iload_n B dL_law_358 3 rfl rfl ?_
        refine g_iconst (v := (5 : Int32)) B dL_law_359 (by decide) ?_
        refine g_iadd B dL_law_360 ?_
        obtain ⟨b110, h⟩ := ck_e h
        refine g_scl B hX hbl hbA b110 dL_law_361 ?_
        obtain ⟨m111, h⟩ := ck_e h
        obtain ⟨r112, S113, e114, h⟩ := ob_e h
        refine g_cvi (rest := []) B (c_X8_feed hA hZ N _ _ _ _ _ _ _ _ e114) mf_X8_feed km_L_43 ⟨by decide, by decide⟩ ⟨rfl, rfl⟩ m111 rfl rfl rfl rfl (Nat.le_of_ble_eq_true rfl) hcn dL_law_362 ?_
        refine g_aload_n B dL_law_365 2 rfl rfl ?_
        refine g_aload_n B dL_law_366 0 rfl rfl ?_
        refine g_iload_n B dL_law_367 3 rfl rfl ?_
        refine g_iconst (v := (1 : Int32)) B dL_law_368 (by decide) ?_
        refine g_iadd B dL_law_369 ?_
        obtain ⟨b115, h⟩ := ck_e h
        refine g_scl B hX hbl hbA b115 dL_law_370 ?_
        refine g_aload_n B dL_law_371 0 rfl rfl ?_
        refine g_iload_n B dL_law_372 3 rfl rfl ?_
        refine g_iconst (v := (2 : Int32)) B dL_law_373 (by decide) ?_
        refine g_iadd B dL_law_374 ?_
        obtain ⟨b116, h⟩ := ck_e h
        refine g_scl B hX hbl hbA b116 dL_law_375 ?_
        refine g_aload_n B dL_law_376 0 rfl rfl ?_
        refine g_iload_n B dL_law_377 3 rfl rfl ?_
        refine g_iconst (v := (3 : Int32)) B dL_law_378 (by decide) ?_
        refine g_iadd B dL_law_379 ?_
        obtain ⟨b117, h⟩ := ck_e h
        refine g_scl B hX hbl hbA b117 dL_law_380 ?_
        refine g_aload_n B dL_law_381 0 rfl rfl ?_
        refine g_iload_n B dL_law_382 3 rfl rfl ?_
        refine g_iconst (v := (4 : Int32)) B dL_law_383 (by decide) ?_
        refine g_iadd B dL_law_384 ?_
        obtain ⟨b118, h⟩ := ck_e h
        refine g_scl B hX hbl hbA b118 dL_law_385 ?_
        refine g_aload_n B dL_law_386 0 rfl rfl ?_
        refine g_iload_n B dL_law_387 3 rfl rfl ?_
        refine g_iconst (v := (5 : Int32)) B dL_law_388 (by decide) ?_
        refine g_iadd B dL_law_389 ?_
        obtain ⟨b119, h⟩ := ck_e h
        refine g_scl B hX hbl hbA b119 dL_law_390 ?_
        obtain ⟨m120, h⟩ := ck_e h
        obtain ⟨r121, S122, e123, h⟩ := ob_e h
        refine g_cvi (rest := [.int r112]) B (c_X9_feed hA hZ N _ _ _ _ _ _ _ _ e123) mf_X9_feed km_L_47 ⟨by decide, by decide⟩ ⟨rfl, rfl⟩ m120 rfl rfl rfl rfl (Nat.le_of_ble_eq_true rfl) hcn dL_law_391 ?_
        refine g_icmp_eq B 593 dL_law_394 (by decide) (fun q124 => ?_) (fun q124 => ?_)
        · have h := if_t h q124
          obtain ⟨x125, e126, h⟩ := lt_e h
          refine g_iinc (v := x125) (lv' := [(3, .int x125), (0, .ref b), (1, .ref (ad 0 0)), (2, .ref (ad 30 0))]) B dL_law_593 (k := 3) rfl (by rw [e126]; rfl) (by decide) rfl ?_
          refine g_goto B 18 dL_law_596 (by decide) ?_
          refine g_sub [1, 2, 3, 0] rfl ?_
          exact ih _ _ h
        · have h := if_f h q124
          refine g_iconst (v := (0 : Int32)) B dL_law_397 (by decide) ?_
          exact absurd (some_e h).1 (by decide)
      have h := if_f h q105
      by_cases q127 : ((xs v3.toNatClampNeg) &&& (15 : Int32)) = (7 : Int32)
      · have h := if_t h q127
        refine g_tableIn (off := 366) B 399 dL_law_33 (by rw [q127]; decide) (by rw [q127]; decide) (by rw [q127]; rfl) (by decide) ?_
        refine g_aload_n B dL_law_399 1 rfl rfl ?_
        refine g_aload_n B dL_law_400 0 rfl rfl ?_
        refine g_iload_n B dL_law_401 3 rfl rfl ?_
        refine g_iconst (v := (1 : Int32)) B dL_law_402 (by decide) ?_
        refine g_iadd B dL_law_403 ?_
        obtain ⟨b128, h⟩ := ck_e h
        refine g_scl B hX hbl hbA b128 dL_law_404 ?_
        obtain ⟨m129, h⟩ := ck_e h
        obtain ⟨r130, S131, e132, h⟩ := ob_e h
        refine g_cvi (rest := []) B (c_X8_end hA hZ N _ _ _ _ e132) mf_X8_end km_L_48 ⟨by decide, by decide⟩ ⟨rfl, rfl⟩ m129 rfl rfl rfl rfl (Nat.le_of_ble_eq_true rfl) hcn dL_law_405 ?_
        refine g_aload_n B dL_law_408 2 rfl rfl ?_
        refine g_aload_n B dL_law_409 0 rfl rfl ?_
        refine g_iload_n B dL_law_410 3 rfl rfl ?_
        refine g_iconst (v := (1 : Int32)) B dL_law_411 (by decide) ?_
        refine g_iadd B dL_law_412 ?_
        obtain ⟨b133, h⟩ := ck_e h
        refine g_scl B hX hbl hbA b133 dL_law_413 ?_
        obtain ⟨m134, h⟩ := ck_e h
        obtain ⟨r135, S136, e137, h⟩ := ob_e h
        refine g_cvi (rest := [.int r130]) B (c_X9_end hA hZ N _ _ _ _ e137) mf_X9_end km_L_51 ⟨by decide, by decide⟩ ⟨rfl, rfl⟩ m134 rfl rfl rfl rfl (Nat.le_of_ble_eq_true rfl) hcn dL_law_414 ?_
        refine g_icmp_eq B 593 dL_law_417 (by decide) (fun q138 => ?_) (fun q138 => ?_)
        · have h := if_t h q138
          obtain ⟨x139, e140, h⟩ := lt_e h
          refine g_iinc (v := x139) (lv' := [(3, .int x139), (0, .ref b), (1, .ref (ad 0 0)), (2, .ref (ad 30 0))]) B dL_law_593 (k := 3) rfl (by rw [e140]; rfl) (by decide) rfl ?_
          refine g_goto B 18 dL_law_596 (by decide) ?_
          refine g_sub [1, 2, 3, 0] rfl ?_
          exact ih _ _ h
        · have h := if_f h q138
          refine g_iconst (v := (0 : Int32)) B dL_law_420 (by decide) ?_
          exact absurd (some_e h).1 (by decide)
      have h := if_f h q127
      by_cases q141 : ((xs v3.toNatClampNeg) &&& (15 : Int32)) = (8 : Int32)
      · have h := if_t h q141
        refine g_tableIn (off := 389) B 422 dL_law_33 (by rw [q141]; decide) (by rw [q141]; decide) (by rw [q141]; rfl) (by decide) ?_
        refine g_aload_n B dL_law_422 1 rfl rfl ?_
        obtain ⟨m142, h⟩ := ck_e h
        obtain ⟨r143, S144, e145, h⟩ := ob_e h
        refine g_cvi (rest := []) B (c_X8_custom hA N  _ _ _ e145) mf_X8_custom km_L_52 ⟨by decide, by decide⟩ ⟨rfl, rfl⟩ m142 rfl rfl rfl rfl (Nat.le_of_ble_eq_true rfl) hcn dL_law_423 ?_
        refine g_aload_n B dL_law_426 2 rfl rfl ?_
        obtain ⟨m146, h⟩ := ck_e h
        obtain ⟨r147, S148, e149, h⟩ := ob_e h
        refine g_cvi (rest := [.int r143]) B (c_X9_custom hA hZ N  _ _ _ e149) mf_X9_custom km_L_56 ⟨by decide, by decide⟩ ⟨rfl, rfl⟩ m146 rfl rfl rfl rfl (Nat.le_of_ble_eq_true rfl) hcn dL_law_427 ?_
        refine g_icmp_eq B 593 dL_law_430 (by decide) (fun q150 => ?_) (fun q150 => ?_)
        · have h := if_t h q150
          obtain ⟨x151, e152, h⟩ := lt_e h
          refine g_iinc (v := x151) (lv' := [(3, .int x151), (0, .ref b), (1, .ref (ad 0 0)), (2, .ref (ad 30 0))]) B dL_law_593 (k := 3) rfl (by rw [e152]; rfl) (by decide) rfl ?_
          refine g_goto B 18 dL_law_596 (by decide) ?_
          refine g_sub [1, 2, 3, 0] rfl ?_
          exact ih _ _ h
        · have h := if_f h q150
          refine g_iconst (v := (0 : Int32)) B dL_law_433 (by decide) ?_
          exact absurd (some_e h).1 (by decide)
      have h := if_f h q141
      by_cases q153 : ((xs v3.toNatClampNeg) &&& (15 : Int32)) = (9 : Int32)
      · have h := if_t h q153
        refine g_tableIn (off := 402) B 435 dL_law_33 (by rw [q153]; decide) (by rw [q153]; decide) (by rw [q153]; rfl) (by decide) ?_
        refine g_aload_n B dL_law_435 1 rfl rfl ?_
        refine g_aload_n B dL_law_436 0 rfl rfl ?_
        refine g_iload_n B dL_law_437 3 rfl rfl ?_
        refine g_iconst (v := (1 : Int32)) B dL_law_438 (by decide) ?_
        refine g_iadd B dL_law_439 ?_
        obtain ⟨b154, h⟩ := ck_e h
        refine g_scl B hX hbl hbA b154 dL_law_440 ?_
        obtain ⟨m155, h⟩ := ck_e h
        obtain ⟨r156, S157, e158, h⟩ := ob_e h
        refine g_cvi (rest := []) B (c_X8_fault hA hZ N _ _ _ _ e158) mf_X8_fault km_L_57 ⟨by decide, by decide⟩ ⟨rfl, rfl⟩ m155 rfl rfl rfl rfl (Nat.le_of_ble_eq_true rfl) hcn dL_law_441 ?_
        refine g_aload_n B dL_law_444 2 rfl rfl ?_
        refine g_aload_n B dL_law_445 0 rfl rfl ?_
        refine g_iload_n B dL_law_446 3 rfl rfl ?_
        refine g_iconst (v := (1 : Int32)) B dL_law_447 (by decide) ?_
        refine g_iadd B dL_law_448 ?_
        obtain ⟨b159, h⟩ := ck_e h
        refine g_scl B hX hbl hbA b159 dL_law_449 ?_
        obtain ⟨m160, h⟩ := ck_e h
        obtain ⟨r161, S162, e163, h⟩ := ob_e h
        refine g_cvi (rest := [.int r156]) B (c_X9_fault hA hZ N _ _ _ _ e163) mf_X9_fault km_L_60 ⟨by decide, by decide⟩ ⟨rfl, rfl⟩ m160 rfl rfl rfl rfl (Nat.le_of_ble_eq_true rfl) hcn dL_law_450 ?_
        refine g_icmp_eq B 593 dL_law_453 (by decide) (fun q164 => ?_) (fun q164 => ?_)
        · have h := if_t h q164
          obtain ⟨x165, e166, h⟩ := lt_e h
          refine g_iinc (v := x165) (lv' := [(3, .int x165), (0, .ref b), (1, .ref (ad 0 0)), (2, .ref (ad 30 0))]) B dL_law_593 (k := 3) rfl (by rw [e166]; rfl) (by decide) rfl ?_
          refine g_goto B 18 dL_law_596 (by decide) ?_
          refine g_sub [1, 2, 3, 0] rfl ?_
          exact ih _ _ h
        · have h := if_f h q164
          refine g_iconst (v := (0 : Int32)) B dL_law_456 (by decide) ?_
          exact absurd (some_e h).1 (by decide)
      have h := if_f h q153
      by_cases q167 : ((xs v3.toNatClampNeg) &&& (15 : Int32)) = (10 : Int32)
      · have h := if_t h q167
        refine g_tableIn (off := 425) B 458 dL_law_33 (by rw [q167]; decide) (by rw [q167]; decide) (by rw [q167]; rfl) (by decide) ?_
        refine g_aload_n B dL_law_458 1 rfl rfl ?_
        refine g_aload_n B dL_law_459 0 rfl rfl ?_
        refine g_iload_n B dL_law_460 3 rfl rfl ?_
        refine g_iconst (v := (1 : Int32)) B dL_law_461 (by decide) ?_
        refine g_iadd B dL_law_462 ?_
        obtain ⟨b168, h⟩ := ck_e h
        refine g_scl B hX hbl hbA b168 dL_law_463 ?_
        refine g_aload_n B dL_law_464 0 rfl rfl ?_
        refine g_iload_n B dL_law_465 3 rfl rfl ?_
        refine g_iconst (v := (2 : Int32)) B dL_law_466 (by decide) ?_
        refine g_iadd B dL_law_467 ?_
        obtain ⟨b169, h⟩ := ck_e h
        refine g_scl B hX hbl hbA b169 dL_law_468 ?_
        refine g_aload_n B dL_law_469 0 rfl rfl ?_
        refine g_iload_n B dL_law_470 3 rfl rfl ?_
        refine g_iconst (v := (3 : Int32)) B dL_law_471 (by decide) ?_
        refine g_iadd B dL_law_472 ?_
        obtain ⟨b170, h⟩ := ck_e h
        refine g_scl B hX hbl hbA b170 dL_law_473 ?_
        obtain ⟨m171, h⟩ := ck_e h
        obtain ⟨r172, S173, e174, h⟩ := ob_e h
        refine g_cvi (rest := []) B (c_X8_may hA hZ N _ _ _ _ _ _ e174) mf_X8_may km_L_61 ⟨by decide, by decide⟩ ⟨rfl, rfl⟩ m171 rfl rfl rfl rfl (Nat.le_of_ble_eq_true rfl) hcn dL_law_474 ?_
        refine g_aload_n B dL_law_477 2 rfl rfl ?_
        refine g_aload_n B dL_law_478 0 rfl rfl ?_
        refine g_iload_n B dL_law_479 3 rfl rfl ?_
        refine g_iconst (v := (1 : Int32)) B dL_law_480 (by decide) ?_
        refine g_iadd B dL_law_481 ?_
        obtain ⟨b175, h⟩ := ck_e h
        refine g_scl B hX hbl hbA b175 dL_law_482 ?_
        refine g_aload_n B dL_law_483 0 rfl rfl ?_
        refine g_iload_n B dL_law_484 3 rfl rfl ?_
        refine g_iconst (v := (2 : Int32)) B dL_law_485 (by decide) ?_
        refine g_iadd B dL_law_486 ?_
        obtain ⟨b176, h⟩ := ck_e h
        refine g_scl B hX hbl hbA b176 dL_law_487 ?_
        refine g_aload_n B dL_law_488 0 rfl rfl ?_
        refine g_iload_n B dL_law_489 3 rfl rfl ?_
        refine g_iconst (v := (3 : Int32)) B dL_law_490 (by decide) ?_
        refine g_iadd B dL_law_491 ?_
        obtain ⟨b177, h⟩ := ck_e h
        refine g_scl B hX hbl hbA b177 dL_law_492 ?_
        obtain ⟨m178, h⟩ := ck_e h
        obtain ⟨r179, S180, e181, h⟩ := ob_e h
        refine g_cvi (rest := [.int r172]) B (c_X9_may hA hZ N _ _ _ _ _ _ e181) mf_X9_may km_L_65 ⟨by decide, by decide⟩ ⟨rfl, rfl⟩ m178 rfl rfl rfl rfl (Nat.le_of_ble_eq_true rfl) hcn dL_law_493 ?_
        refine g_icmp_eq B 593 dL_law_496 (by decide) (fun q182 => ?_) (fun q182 => ?_)
        · have h := if_t h q182
          obtain ⟨x183, e184, h⟩ := lt_e h
          refine g_iinc (v := x183) (lv' := [(3, .int x183), (0, .ref b), (1, .ref (ad 0 0)), (2, .ref (ad 30 0))]) B dL_law_593 (k := 3) rfl (by rw [e184]; rfl) (by decide) rfl ?_
          refine g_goto B 18 dL_law_596 (by decide) ?_
          refine g_sub [1, 2, 3, 0] rfl ?_
          exact ih _ _ h
        · have h := if_f h q182
          refine g_iconst (v := (0 : Int32)) B dL_law_499 (by decide) ?_
          exact absurd (some_e h).1 (by decide)
      have h := if_f h q167
      by_cases q185 : ((xs v3.toNatClampNeg) &&& (15 : Int32)) = (11 : Int32)
      · have h := if_t h q185
        refine g_tableIn (off := 468) B 501 dL_law_33 (by rw [q185]; decide) (by rw [q185]; decide) (by rw [q185]; rfl) (by decide) ?_
        refine g_aload_n B dL_law_501 1 rfl rfl ?_
        refine g_aload_n B dL_law_502 0 rfl rfl ?_
        refine g_iload_n B dL_law_503 3 rfl rfl ?_
        refine g_iconst (v := (1 : Int32)) B dL_law_504 (by decide) ?_
        refine g_iadd B dL_law_505 ?_
        obtain ⟨b186, h⟩ := ck_e h
        refine g_scl B hX hbl hbA b186 dL_law_506 ?_
        obtain ⟨m187, h⟩ := ck_e h
        obtain ⟨r188, S189, e190, h⟩ := ob_e h
        refine g_cvi (rest := []) B (c_X8_look hA hZ N _ _ _ _ e190) mf_X8_look km_L_66 ⟨by decide, by decide⟩ ⟨rfl, rfl⟩ m187 rfl rfl rfl rfl (Nat.le_of_ble_eq_true rfl) hcn dL_law_507 ?_
        refine g_aload_n B dL_law_510 2 rfl rfl ?_
        refine g_aload_n B dL_law_511 0 rfl rfl ?_
        refine g_iload_n B dL_law_512 3 rfl rfl ?_
        refine g_iconst (v := (1 : Int32)) B dL_law_513 (by decide) ?_
        refine g_iadd B dL_law_514 ?_
        obtain ⟨b191, h⟩ := ck_e h
        refine g_scl B hX hbl hbA b191 dL_law_515 ?_
        obtain ⟨m192, h⟩ := ck_e h
        obtain ⟨r193, S194, e195, h⟩ := ob_e h
        refine g_cvi (rest := [.int r188]) B (c_X9_look hA hZ N _ _ _ _ e195) mf_X9_look km_L_69 ⟨by decide, by decide⟩ ⟨rfl, rfl⟩ m192 rfl rfl rfl rfl (Nat.le_of_ble_eq_true rfl) hcn dL_law_516 ?_
        refine g_icmp_eq B 593 dL_law_519 (by decide) (fun q196 => ?_) (fun q196 => ?_)
        · have h := if_t h q196
          obtain ⟨x197, e198, h⟩ := lt_e h
          refine g_iinc (v := x197) (lv' := [(3, .int x197), (0, .ref b), (1, .ref (ad 0 0)), (2, .ref (ad 30 0))]) B dL_law_593 (k := 3) rfl (by rw [e198]; rfl) (by decide) rfl ?_
          refine g_goto B 18 dL_law_596 (by decide) ?_
          refine g_sub [1, 2, 3, 0] rfl ?_
          exact ih _ _ h
        · have h := if_f h q196
          refine g_iconst (v := (0 : Int32)) B dL_law_522 (by decide) ?_
          exact absurd (some_e h).1 (by decide)
      have h := if_f h q185
      by_cases q199 : ((xs v3.toNatClampNeg) &&& (15 : Int32)) = (12 : Int32)
      · have h := if_t h q199
        refine g_tableIn (off := 491) B 524 dL_law_33 (by rw [q199]; decide) (by rw [q199]; decide) (by rw [q199]; rfl) (by decide) ?_
        refine g_aload_n B dL_law_524 1 rfl rfl ?_
        refine g_aload_n B dL_law_525 0 rfl rfl ?_
        refine g_iload_n B dL_law_526 3 rfl rfl ?_
        refine g_iconst (v := (1 : Int32)) B dL_law_527 (by decide) ?_
        refine g_iadd B dL_law_528 ?_
        obtain ⟨b200, h⟩ := ck_e h
        refine g_scl B hX hbl hbA b200 dL_law_529 ?_
        refine g_aload_n B dL_law_530 0 rfl rfl ?_
        refine g_iload_n B dL_law_531 3 rfl rfl ?_
        refine g_iconst (v := (2 : Int32)) B dL_law_532 (by decide) ?_
        refine g_iadd B dL_law_533 ?_
        obtain ⟨b201, h⟩ := ck_e h
        refine g_scl B hX hbl hbA b201 dL_law_534 ?_
        obtain ⟨m202, h⟩ := ck_e h
        obtain ⟨r203, S204, e205, h⟩ := ob_e h
        refine g_cvi (rest := []) B (c_X8_of hA hZ N _ _ _ _ _ e205) mf_X8_of km_L_70 ⟨by decide, by decide⟩ ⟨rfl, rfl⟩ m202 rfl rfl rfl rfl (Nat.le_of_ble_eq_true rfl) hcn dL_law_535 ?_
        refine g_aload_n B dL_law_538 2 rfl rfl ?_
        refine g_aload_n B dL_law_539 0 rfl rfl ?_
        refine g_iload_n B dL_law_540 3 rfl rfl ?_
        refine g_iconst (v := (1 : Int32)) B dL_law_541 (by decide) ?_
        refine g_iadd B dL_law_542 ?_
        obtain ⟨b206, h⟩ := ck_e h
        refine g_scl B hX hbl hbA b206 dL_law_543 ?_
        refine g_aload_n B dL_law_544 0 rfl rfl ?_
        refine g_iload_n B dL_law_545 3 rfl rfl ?_
        refine g_iconst (v := (2 : Int32)) B dL_law_546 (by decide) ?_
        refine g_iadd B dL_law_547 ?_
        obtain ⟨b207, h⟩ := ck_e h
        refine g_scl B hX hbl hbA b207 dL_law_548 ?_
        obtain ⟨m208, h⟩ := ck_e h
        obtain ⟨r209, S210, e211, h⟩ := ob_e h
        refine g_cvi (rest := [.int r203]) B (c_X9_of hA hZ N _ _ _ _ _ e211) mf_X9_of km_L_74 ⟨by decide, by decide⟩ ⟨rfl, rfl⟩ m208 rfl rfl rfl rfl (Nat.le_of_ble_eq_true rfl) hcn dL_law_549 ?_
        refine g_icmp_eq B 593 dL_law_552 (by decide) (fun q212 => ?_) (fun q212 => ?_)
        · have h := if_t h q212
          obtain ⟨x213, e214, h⟩ := lt_e h
          refine g_iinc (v := x213) (lv' := [(3, .int x213), (0, .ref b), (1, .ref (ad 0 0)), (2, .ref (ad 30 0))]) B dL_law_593 (k := 3) rfl (by rw [e214]; rfl) (by decide) rfl ?_
          refine g_goto B 18 dL_law_596 (by decide) ?_
          refine g_sub [1, 2, 3, 0] rfl ?_
          exact ih _ _ h
        · have h := if_f h q212
          refine g_iconst (v := (0 : Int32)) B dL_law_555 (by decide) ?_
          exact absurd (some_e h).1 (by decide)
      have h := if_f h q199
      by_cases q215 : ((xs v3.toNatClampNeg) &&& (15 : Int32)) = (13 : Int32)
      · have h := if_t h q215
        refine g_tableIn (off := 524) B 557 dL_law_33 (by rw [q215]; decide) (by rw [q215]; decide) (by rw [q215]; rfl) (by decide) ?_
        refine g_aload_n B dL_law_557 1 rfl rfl ?_
        refine g_aload_n B dL_law_558 0 rfl rfl ?_
        refine g_iload_n B dL_law_559 3 rfl rfl ?_
        refine g_iconst (v := (1 : Int32)) B dL_law_560 (by decide) ?_
        refine g_iadd B dL_law_561 ?_
        obtain ⟨b216, h⟩ := ck_e h
        refine g_scl B hX hbl hbA b216 dL_law_562 ?_
        obtain ⟨m217, h⟩ := ck_e h
        obtain ⟨r218, S219, e220, h⟩ := ob_e h
        refine g_cvi (rest := []) B (c_X8_best hA N _ _ _ _ e220) mf_X8_best km_L_75 ⟨by decide, by decide⟩ ⟨rfl, rfl⟩ m217 rfl rfl rfl rfl (Nat.le_of_ble_eq_true rfl) hcn dL_law_563 ?_
        refine g_aload_n B dL_law_566 2 rfl rfl ?_
        refine g_aload_n B dL_law_567 0 rfl rfl ?_
        refine g_iload_n B dL_law_568 3 rfl rfl ?_
        refine g_iconst (v := (1 : Int32)) B dL_law_569 (by decide) ?_
        refine g_iadd B dL_law_570 ?_
        obtain ⟨b221, h⟩ := ck_e h
        refine g_scl B hX hbl hbA b221 dL_law_571 ?_
        obtain ⟨m222, h⟩ := ck_e h
        obtain ⟨r223, S224, e225, h⟩ := ob_e h
        refine g_cvi (rest := [.int r218]) B (c_X9_best hA hZ N _ _ _ _ e225) mf_X9_best km_L_78 ⟨by decide, by decide⟩ ⟨rfl, rfl⟩ m222 rfl rfl rfl rfl (Nat.le_of_ble_eq_true rfl) hcn dL_law_572 ?_
        refine g_icmp_eq B 593 dL_law_575 (by decide) (fun q226 => ?_) (fun q226 => ?_)
        · have h := if_t h q226
          obtain ⟨x227, e228, h⟩ := lt_e h
          refine g_iinc (v := x227) (lv' := [(3, .int x227), (0, .ref b), (1, .ref (ad 0 0)), (2, .ref (ad 30 0))]) B dL_law_593 (k := 3) rfl (by rw [e228]; rfl) (by decide) rfl ?_
          refine g_goto B 18 dL_law_596 (by decide) ?_
          refine g_sub [1, 2, 3, 0] rfl ?_
          exact ih _ _ h
        · have h := if_f h q226
          refine g_iconst (v := (0 : Int32)) B dL_law_578 (by decide) ?_
          exact absurd (some_e h).1 (by decide)
      have h := if_f h q215
      by_cases q229 : ((xs v3.toNatClampNeg) &&& (15 : Int32)) = (14 : Int32)
      · have h := if_t h q229
        refine g_tableIn (off := 547) B 580 dL_law_33 (by rw [q229]; decide) (by rw [q229]; decide) (by rw [q229]; rfl) (by decide) ?_
        refine g_aload_n B dL_law_580 1 rfl rfl ?_
        obtain ⟨m230, h⟩ := ck_e h
        obtain ⟨r231, S232, e233, h⟩ := ob_e h
        refine g_cvi (rest := []) B (c_X8_work hA N  _ _ _ e233) mf_X8_work km_L_79 ⟨by decide, by decide⟩ ⟨rfl, rfl⟩ m230 rfl rfl rfl rfl (Nat.le_of_ble_eq_true rfl) hcn dL_law_581 ?_
        refine g_aload_n B dL_law_584 2 rfl rfl ?_
        obtain ⟨m234, h⟩ := ck_e h
        obtain ⟨r235, S236, e237, h⟩ := ob_e h
        refine g_cvi (rest := [.int r231]) B (c_X9_work hA hZ N  _ _ _ e237) mf_X9_work km_L_82 ⟨by decide, by decide⟩ ⟨rfl, rfl⟩ m234 rfl rfl rfl rfl (Nat.le_of_ble_eq_true rfl) hcn dL_law_585 ?_
        refine g_icmp_eq B 593 dL_law_588 (by decide) (fun q238 => ?_) (fun q238 => ?_)
        · have h := if_t h q238
          obtain ⟨x239, e240, h⟩ := lt_e h
          refine g_iinc (v := x239) (lv' := [(3, .int x239), (0, .ref b), (1, .ref (ad 0 0)), (2, .ref (ad 30 0))]) B dL_law_593 (k := 3) rfl (by rw [e240]; rfl) (by decide) rfl ?_
          refine g_goto B 18 dL_law_596 (by decide) ?_
          refine g_sub [1, 2, 3, 0] rfl ?_
          exact ih _ _ h
        · have h := if_f h q238
          refine g_iconst (v := (0 : Int32)) B dL_law_591 (by decide) ?_
          exact absurd (some_e h).1 (by decide)
      have h := if_f h q229
      refine g_tableOut B 593 dL_law_33 (by have t0 := ti_ne (0 : Int32) (0) (by decide) q3; have t1 := ti_ne (1 : Int32) (1) (by decide) q21; have t2 := ti_ne (2 : Int32) (2) (by decide) q41; have t3 := ti_ne (3 : Int32) (3) (by decide) q57; have t4 := ti_ne (4 : Int32) (4) (by decide) q71; have t5 := ti_ne (5 : Int32) (5) (by decide) q91; have t6 := ti_ne (6 : Int32) (6) (by decide) q105; have t7 := ti_ne (7 : Int32) (7) (by decide) q127; have t8 := ti_ne (8 : Int32) (8) (by decide) q141; have t9 := ti_ne (9 : Int32) (9) (by decide) q153; have t10 := ti_ne (10 : Int32) (10) (by decide) q167; have t11 := ti_ne (11 : Int32) (11) (by decide) q185; have t12 := ti_ne (12 : Int32) (12) (by decide) q199; have t13 := ti_ne (13 : Int32) (13) (by decide) q215; have t14 := ti_ne (14 : Int32) (14) (by decide) q229; omega) (by decide) ?_
      obtain ⟨x241, e242, h⟩ := lt_e h
      refine g_iinc (v := x241) (lv' := [(3, .int x241), (0, .ref b), (1, .ref (ad 0 0)), (2, .ref (ad 30 0))]) B dL_law_593 (k := 3) rfl (by rw [e242]; rfl) (by decide) rfl ?_
      refine g_goto B 18 dL_law_596 (by decide) ?_
      refine g_sub [1, 2, 3, 0] rfl ?_
      exact ih _ _ h
