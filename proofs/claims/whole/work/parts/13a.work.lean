/-! ===== work ===== -/
def toB (g hn : Nat → Nat) (i : Nat) : Bool := decide (g i < 4) && decide (0 < hn i)
def dnB (D : Pb) (g hn : Nat → Nat) (i : Nat) : Bool := decide (g i < 4) && decide (hn i = D 3 (g i) i)
def vE (D : Pb) (g hn : Nat → Nat) (i : Nat) : Int := if dnB D g hn i = true then (D 6 i 0 : Int) else 0
def vF (D : Pb) (g hn : Nat → Nat) (f i : Nat) : Int := if (dnB D g hn i && decide (g i = f)) = true then (D 7 i 0 : Int) else 0
def sI (T : Nat → Bool) (v : Nat → Int) : Int32 := Int32.ofInt (sum7 (fun i => if T i = true then v i else 0))
theorem oI_n (n : Nat) : Int32.ofInt (n : Int) = nI n := by
  apply Int32.toBitVec_inj.mp
  show BitVec.ofInt 32 (n : Int) = BitVec.ofNat 32 n
  exact BitVec.ofInt_natCast 32 n
theorem oI_add (x y : Int) : Int32.ofInt x + Int32.ofInt y = Int32.ofInt (x + y) := (Int32.ofInt_add x y).symm
theorem sI_ins {T T' : Nat → Bool} {i : Nat} (hi : i < 7) (hT : T i = false) (h : ∀ j, T' j = (T j || decide (j = i))) (v : Nat → Int) : sI T' v = sI T v + Int32.ofInt (v i) := by
  unfold sI
  rw [oI_add]
  congr 1
  have e : (fun j => if T' j = true then v j else 0) = fun j => if j = i then v i else (fun j => if T j = true then v j else 0) j := by
    funext j
    rw [h j]
    by_cases q : j = i
    · subst q; simp
    · simp [q]
  rw [e, sum7_upd _ hi]
  simp [hT]
theorem sI_cg {T T' : Nat → Bool} {v : Nat → Int} (h : ∀ i, i < 7 → (if T i = true then v i else 0) = if T' i = true then v i else 0) : sI T v = sI T' v := by
  unfold sI
  rw [sum7_cg h]
theorem sI_0 (T : Nat → Bool) (v : Nat → Int) (h : ∀ i, T i = false) : sI T v = 0 := by
  unfold sI
  have e : (fun i => if T i = true then v i else 0) = fun _ => 0 := by funext i; simp [h i]
  rw [e, sum7_0]
  rfl
/-- the plan as work needs it -/
def Pl (S : HS) (D : Pb) (g hn : Nat → Nat) : Prop := isBest D g ∧ ∀ i, i < 7 → gi S 13 0 i = gvI (g i) ∧ gi S 13 2 i = nI (hn i) ∧ (¬ g i < 4 → hn i = 0) ∧ (g i < 4 → ∃ wk, planAt D g i wk (hn i))
theorem planAt_le {D : Pb} {g : Nat → Nat} {i wk hn : Nat} (h : planAt D g i wk hn) : hn ≤ D 3 (g i) i := by
  obtain ⟨l, b, b', -, -, -, -, -, e⟩ := h
  rw [e]
  split
  · exact Nat.min_le_left _ _
  · omega
theorem Pl.of {S : HS} {D : Pb} (hD : dC S = D) (hk : dOk D) (hp : PlanOk S) : ∃ g hn, Pl S D g hn := by
  obtain ⟨g, g1, -, -, g4⟩ := hp.cells hD
  refine ⟨g, fun i => nat (gi S 13 2 i), g1, fun i hi => ?_⟩
  obtain ⟨a, b⟩ := g4 i hi
  refine ⟨a, ?_⟩
  rcases b with ⟨b1, b2, b3⟩ | ⟨b1, wk, n, b2, b3, b4⟩
  · dsimp only
    rw [b3]
    exact ⟨rfl, fun _ => rfl, fun x => absurd x b1⟩
  · have hle := planAt_le b2
    have hop := g1.1.2.1 i b1
    have h3 := (hk.2.2.2.1 (g i) i b1 hop.1 hop.2).2
    dsimp only
    rw [b4, nat_nI (by omega)]
    exact ⟨rfl, fun x => absurd b1 x, fun _ => ⟨wk, b2⟩⟩
theorem Pl.le {S : HS} {D : Pb} {g hn : Nat → Nat} (h : Pl S D g hn) {i : Nat} (hi : i < 7) (hg : g i < 4) : hn i ≤ D 3 (g i) i := by
  obtain ⟨wk, hp⟩ := (h.2 i hi).2.2.2 hg
  exact planAt_le hp
def wkN (S0 : HS) (D : Pb) (g hn : Nat → Nat) (i : Nat) : Nat := nat (gi S0 7 i 6) - D 3 (g i) i + hn i
theorem X8_workAsPlanned_eq (N : Nat) {S S0 : HS} {D : Pb} {g hn : Nat → Nat} (hx : Fx S0 D) (hp : Pl S0 D g hn) {i : Nat} (hi : i < D 0 0 1) (e13 : ∀ k, gi S 13 k i = gi S0 13 k i) (e8 : gi S 7 i 8 = gi S0 7 i 8) (e9 : gi S 7 i 9 = gi S0 7 i 9) (e10 : gi S 7 i 10 = gi S0 7 i 10) (e7 : ∀ c, c ≠ 8 → c ≠ 9 → c ≠ 10 → gi S 7 i c = gi S0 7 i c) :
    ∃ Z, f_X8_workAsPlanned csF N i S = some ((), Z) ∧ gi Z 7 i 9 = (if toB g hn i = true then nI (wkN S0 D g hn i) else gi S0 7 i 9) ∧ gi Z 7 i 10 = (if toB g hn i = true then nI (g i) else gi S0 7 i 10) ∧ gi Z 7 i 8 = (if dnB D g hn i = true then 1 else gi S0 7 i 8) ∧ (∀ f, f < 4 → gi Z 4 f 2 = gi S 4 f 2 - Int32.ofInt (vF D g hn f i) ∧ gi Z 4 f 3 = gi S 4 f 3 + Int32.ofInt (vF D g hn f i)) ∧ gi Z 0 0 10 = gi S 0 0 10 + Int32.ofInt (vE D g hn i) ∧ ∀ j c, j ≠ i → gi Z 7 j c = gi S 7 j c := by
  obtain ⟨h7, ho⟩ := hx.oo hi
  have hoo := hx.o hi
  obtain ⟨p1, p2, p3, p4⟩ := hp.2 i h7
  have m7 : mc csF 7 i = true := mF (by decide) h7
  have m0 : mc csF 0 0 = true := mF (by decide) (by decide)
  have n0 : gi S 7 i 0 = nI i := by rw [e7 0 (by decide) (by decide) (by decide)]; exact hx.n h7
  have i7 : inb (nI i) 7 = true := inb_k h7 (by decide)
  have c7 : (nI i).toNatClampNeg = i := cl_k (by omega)
  have head : f_X8_workAsPlanned csF N i S = (if (bif_ (btw 0 (gvI (g i)) 3) 1 0 : Int32) = 0 then some ((), S) else if nI (hn i) = 0 then some ((), S) else ob (f_X6_workBy csF N i (gvI (g i)) (nI (hn i)) S) (fun _ S18 => if gi S18 7 i 9 < gi S18 7 i 6 then some ((), S18) else lt_ (ui S18 7 i 8 1) (fun S21 => ck (mc csF 1 0) (ck (inb (gvI (g i)) 4) (ck (mc csF 4 (gvI (g i)).toNatClampNeg) (lt_ (ui S21 4 (gvI (g i)).toNatClampNeg 2 (gi S21 4 (gvI (g i)).toNatClampNeg 2 - gi S21 7 i 7)) (fun S26 => ck (inb (gvI (g i)) 4) (lt_ (ui S26 4 (gvI (g i)).toNatClampNeg 3 (gi S26 4 (gvI (g i)).toNatClampNeg 3 + gi S26 7 i 7)) (fun S29 => lt_ (ui S29 0 0 10 (gi S29 0 0 10 + gi S29 7 i 4)) (fun S31 => some ((), S31))))))))))) := by
    rw [f_X8_workAsPlanned, m0, ck_t, mF (by decide) (by decide), ck_t, m7, ck_t, mF (by decide) (by decide), ck_t, n0, i7, ck_t, lt_s_, mF (by decide) (by decide), ck_t, ck_t, lt_s_, c7, e13 0, e13 2, p1, p2, X8_isFamily_eq, ob_s]
  by_cases hg : g i < 4
  · have eg : gvI (g i) = nI (g i) := by unfold gvI; rw [if_pos hg]
    have hb : btw 0 (nI (g i)) 3 := by
      have : btw (nI 0) (nI (g i)) (nI 3) := (btw_nn (by decide) (by omega) (by decide)).mpr (by omega)
      exact this
    have hop := hp.1.1.2.1 i hg
    have hll := hx.l hg hi N
    have hle := hp.le h7 hg
    have h3 := hll.2.2.2 hop.2
    have c4 : (nI (g i)).toNatClampNeg = g i := cl_k (by omega)
    rw [head, eg, bif_t _ _ hb, if_neg (by decide), c4]
    by_cases h0 : hn i = 0
    · have t0 : toB g hn i = false := by simp [toB, h0]
      have d0 : dnB D g hn i = false := by simp [dnB, h0]; omega
      have vE0 : vE D g hn i = 0 := by simp [vE, d0]
      have vF0 : ∀ f, vF D g hn f i = 0 := fun f => by simp [vF, d0]
      have z : Int32.ofInt 0 = 0 := rfl
      rw [if_pos (by rw [h0]; rfl)]
      refine ⟨S, rfl, ?_, ?_, ?_, fun f hf => ?_, ?_, fun _ _ _ => rfl⟩
      · rw [t0, if_neg (by decide)]; exact e9
      · rw [t0, if_neg (by decide)]; exact e10
      · rw [d0, if_neg (by decide)]; exact e8
      · rw [vF0 f, z]; simp
      · rw [vE0, z]; simp
    · have t1 : toB g hn i = true := by simp [toB, hg]; omega
      rw [if_neg (by rw [show (0 : Int32) = nI 0 from rfl, nI_eq (by omega) (by omega)]; exact h0)]
      -- what is worked then
      obtain ⟨o1, o2, o3, o4, o5, o6, o7, o8, o9, o10, o11, o12⟩ := ho
      have q6 := nat_rg (x := gi S0 31 11 i) (hi := 6000) ⟨by have := o6.2.1; omega, o6.2.2⟩
      have q9 := nat_rg o11
      have le9 : nat (gi S0 31 14 i) ≤ nat (gi S0 31 11 i) := by
        have y : (gi S0 31 14 i).toInt ≤ (gi S0 31 11 i).toInt := o11.2
        unfold nat
        omega
      have eD3 : D 3 (g i) i = if gi S0 7 i 10 = nI (g i) then nat (gi S0 7 i 6) - nat (gi S0 7 i 9) else nat (gi S0 7 i 6) := by rw [← hx.2]; rfl
      have H6 : gi S0 7 i 6 = nI (nat (gi S0 7 i 6)) := by rw [o6.1]; exact q6.1
      have H9 : gi S0 7 i 9 = nI (nat (gi S0 7 i 9)) := by rw [o9]; exact q9.1
      have b6 : nat (gi S0 7 i 6) ≤ 6000 := by rw [o6.1]; omega
      have b9 : nat (gi S0 7 i 9) ≤ nat (gi S0 7 i 6) := by rw [o9, o6.1]; exact le9
      have d36 : D 3 (g i) i ≤ nat (gi S0 7 i 6) := by rw [eD3]; split <;> omega
      have wb : ∃ S18, f_X6_workBy csF N i (nI (g i)) (nI (hn i)) S = some ((), S18) ∧ gi S18 7 i 9 = nI (wkN S0 D g hn i) ∧ gi S18 7 i 10 = nI (g i) ∧ Md [(7, none, some 9), (7, none, some 10)] S S18 ∧ ∀ j c, j ≠ i → gi S18 7 j c = gi S 7 j c := by
        rw [f_X6_workBy, m7, ck_t, e10]
        by_cases qf : gi S0 7 i 10 = nI (g i)
        · rw [if_pos qf, lt_s_]
          refine ⟨_, rfl, ?_, ?_, (Md.rf _ S).ui rfl rfl, fun j c hj => by simp [gi_ui, hj]⟩
          · rw [gi_ui_s, e9, H9, nI_add]
            congr 1
            unfold wkN
            rw [eD3, if_pos qf]
            omega
          · rw [gi_ui_j _ _ _ _ _ _ (by decide), e10]; exact qf
        · rw [if_neg qf, lt_s_, lt_s_, lt_s_]
          refine ⟨_, rfl, ?_, ?_, (((Md.rf _ S).ui rfl rfl).ui rfl rfl).ui rfl rfl, fun j c hj => by simp [gi_ui, hj]⟩
          · rw [gi_ui_s, gi_ui_s, show (0 : Int32) = nI 0 from rfl, nI_add]
            congr 1
            unfold wkN
            rw [eD3, if_neg qf]
            omega
          · simp [gi_ui]
      obtain ⟨S18, w1, w2, w3, w4, w5⟩ := wb
      rw [w1, ob_s, w2, w4.gi 7 i 6 rfl, e7 6 (by decide) (by decide) (by decide), H6]
      have wle : wkN S0 D g hn i ≤ 6000 := by unfold wkN; omega
      by_cases dn : hn i = D 3 (g i) i
      · have d1 : dnB D g hn i = true := by simp [dnB, hg, dn]
        rw [if_neg (by rw [nI_ltI (by omega) (by omega)]; unfold wkN; omega), lt_s_, mF (by decide) (by decide), ck_t, inb_k hg (by decide), ck_t, mF (by decide) (show g i < 4 from hg), ck_t, lt_s_, ck_t, lt_s_, lt_s_]
        have e77 : gi S18 7 i 7 = nI (D 7 i 0) := by rw [w4.gi 7 i 7 rfl, e7 7 (by decide) (by decide) (by decide)]; exact hoo.2.2.1.1
        have e74 : gi S18 7 i 4 = nI (D 6 i 0) := by rw [w4.gi 7 i 4 rfl, e7 4 (by decide) (by decide) (by decide)]; exact hoo.2.1.1
        have vEe : Int32.ofInt (vE D g hn i) = nI (D 6 i 0) := by unfold vE; rw [if_pos d1, oI_n]
        refine ⟨_, rfl, ?_, ?_, ?_, fun f hf => ?_, ?_, fun j c hj => ?_⟩
        · rw [t1, if_pos rfl]; simp [gi_ui]; exact w2
        · rw [t1, if_pos rfl]; simp [gi_ui]; exact w3
        · rw [d1, if_pos rfl]; simp [gi_ui]
        · by_cases ef : g i = f
          · have vFe : Int32.ofInt (vF D g hn f i) = nI (D 7 i 0) := by unfold vF; rw [if_pos (by simp [d1, ef]), oI_n]
            rw [vFe, ← ef]
            have a2 := w4.gi 4 (g i) 2 rfl
            have a3 := w4.gi 4 (g i) 3 rfl
            simp [gi_ui, e77, a2, a3]
          · have vFe : Int32.ofInt (vF D g hn f i) = 0 := by unfold vF; rw [if_neg (by simp [ef])]; rfl
            have ef' : ¬ f = g i := fun x => ef x.symm
            have a2 := w4.gi 4 f 2 rfl
            have a3 := w4.gi 4 f 3 rfl
            rw [vFe]
            simp [gi_ui, ef', a2, a3]
        · rw [vEe]
          have a0 := w4.gi 0 0 10 rfl
          simp [gi_ui, e74, a0]
        · simp [gi_ui, hj]
          exact w5 j c hj
      · have d0 : dnB D g hn i = false := by simp [dnB, dn]
        rw [if_pos (by rw [nI_ltI (by omega) (by omega)]; unfold wkN; omega)]
        have vE0 : vE D g hn i = 0 := by simp [vE, d0]
        have vF0 : ∀ f, vF D g hn f i = 0 := fun f => by simp [vF, d0]
        have z : Int32.ofInt 0 = 0 := rfl
        refine ⟨S18, rfl, ?_, ?_, ?_, fun f hf => ?_, ?_, w5⟩
        · rw [t1, if_pos rfl]; exact w2
        · rw [t1, if_pos rfl]; exact w3
        · rw [d0, if_neg (by decide), w4.gi 7 i 8 rfl]; exact e8
        · rw [vF0 f, z, w4.gi 4 f 2 rfl, w4.gi 4 f 3 rfl]; simp
        · rw [vE0, z, w4.gi 0 0 10 rfl]; simp
  · have eg : gvI (g i) = -1 := gvI_n1.mpr hg
    have hb : ¬ btw 0 (-1) 3 := by unfold btw; decide
    have t0 : toB g hn i = false := by simp [toB, hg]
    have d0 : dnB D g hn i = false := by simp [dnB, hg]
    have vE0 : vE D g hn i = 0 := by simp [vE, d0]
    have vF0 : ∀ f, vF D g hn f i = 0 := fun f => by simp [vF, d0]
    have z : Int32.ofInt 0 = 0 := rfl
    rw [head, eg, bif_f _ _ hb, if_pos rfl]
    refine ⟨S, rfl, ?_, ?_, ?_, fun f hf => ?_, ?_, fun _ _ _ => rfl⟩
    · rw [t0, if_neg (by decide)]; exact e9
    · rw [t0, if_neg (by decide)]; exact e10
    · rw [d0, if_neg (by decide)]; exact e8
    · rw [vF0 f, z]; simp
    · rw [vE0, z]; simp
