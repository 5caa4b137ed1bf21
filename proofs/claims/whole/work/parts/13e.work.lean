/-! ===== work: equal answers, the relation stays ===== -/
theorem lostI_rg {st due wk : Int32} (h : rg st 0 3) : rg (lostI st due wk) 0 3 := by
  unfold lostI
  by_cases q : st = 0
  · rw [if_pos q]
    by_cases r : wk ≤ due
    · rw [if_pos r]; exact h
    · rw [if_neg r]; unfold rg; decide
  · rw [if_neg q]; exact h
theorem lostI_0 {st due wk : Int32} (h : lostI st due wk = 0) : st = 0 := by
  unfold lostI at h
  by_cases q : st = 0
  · exact q
  · rw [if_neg q] at h; exact h
theorem op_work (N : Nat) (hN : 200 ≤ N) : OpOk (f_X8_work csF N) (f_X9_work csF N) := by
  intro S hI
  obtain ⟨hA, hF, hH, hP, hO, hR, hT, hE, hB⟩ := id hI
  by_cases q : gi S 30 0 0 = 51
  · exact ⟨-1, S, S, by rw [f_X8_work, mF (by decide) (by decide), ck_t, hA.1, q, if_neg (by decide)], by rw [f_X9_work, mF (by decide) (by decide), ck_t, if_pos q], hI⟩
  · have hx0 := Fx.of hI
    obtain ⟨S1, z1, hx, h7, hp⟩ := bring_eq N hN hI
    obtain ⟨D, hDe⟩ : ∃ D, D = dC S := ⟨_, rfl⟩
    rw [← hDe] at hx hx0
    have hD := hx.ok
    have ha := hx.a
    have now51 : D 0 0 0 < 51 := by
      have a : ¬ D 0 0 0 = 51 := fun e => q (by rw [hx0.a.2.1, e]; rfl)
      omega
    have e8S : gi S 0 0 8 = nI (D 0 0 0) := hx0.a.1
    obtain ⟨g, hn, hPl⟩ := Pl.of hx.2 hD hp
    have hw := hPl.1.1
    have hc := cand_way hw
    have td : ∀ i, (toB g hn i = true ∨ dnB D g hn i = true) → g i < 4 := fun i h => by
      rcases h with h | h
      · unfold toB at h
        rw [Bool.and_eq_true] at h
        exact of_decide_eq_true h.1
      · unfold dnB at h
        rw [Bool.and_eq_true] at h
        exact of_decide_eq_true h.1
    -- the class
    obtain ⟨Z1, c1, c2, c3, c4⟩ := cw17 N hx hPl (D 0 0 1) N 0 S1 (by omega) (by omega) (Md.rf _ _) ((Wk.rf D g hn (wkN S1 D g hn) (vC S1)).cg (fun j _ => by simp)) (fun _ _ _ => rfl)
    have c8 : gi Z1 0 0 8 = nI (D 0 0 0) := by rw [c2.gi 0 0 8 rfl]; exact ha.1
    rw [c8, nI_1] at c1
    obtain ⟨U1, hU1⟩ : ∃ U, U = ui Z1 0 0 8 (nI (D 0 0 0 + 1)) := ⟨_, rfl⟩
    rw [← hU1] at c1
    have u8 : gi U1 0 0 8 = nI (D 0 0 0 + 1) := by rw [hU1, gi_ui_s]
    have mU1 : Md [(0, some 0, some 8)] Z1 U1 := (Md.rf _ Z1).ui hU1 rfl
    obtain ⟨Z2, d1, d2, d3, d4, d5⟩ := cw53 N (c := D 0 0 1) (by omega) (D 0 0 1) N 0 U1 (by omega) (by omega) (by rw [mU1.gi 0 0 9 rfl, c2.gi 0 0 9 rfl]; exact ha.2.2.1)
    rw [u8] at d1
    have eC : f_X8_work csF N S = some (nI (D 0 0 0 + 1), Z2) := by
      rw [f_X8_work, mF (by decide) (by decide), ck_t, if_pos (by rw [e8S, show (51 : Int32) = nI 51 from rfl, nI_ltI (by omega) (by omega)]; exact now51), z1, ob_s]
      exact c1.trans d1
    -- the other
    have zhi : ∀ c k j, 30 ≤ c → gi Z2 c k j = gi S1 c k j := fun c k j h => (md_hi d5 (by decide) c k j h).1.trans ((md_hi mU1 (by decide) c k j h).1.trans (md_hi c2 (by decide) c k j h).1)
    have mxZ : Mx Z2 D := ((hx.mx.cl (md_hi c2 (by decide))).cl (md_hi mU1 (by decide))).cl (md_hi d5 (by decide))
    obtain ⟨M0, h, y1, y2, y3, y4, y5, y6⟩ := X9_finds_eq N hN mxZ
    have eh : h = g := funext (best_one hD y2 hPl.1)
    rw [eh] at y5
    have mx0 : Mx M0 D := mxZ.sub y6 (by decide)
    have vM0 : vM M0 = vM S1 := by
      funext a i
      unfold vM
      split <;> exact (y6.gi _ _ _ rfl).trans (zhi _ _ _ (by decide))
    have bnd : ∀ i, i < D 0 0 1 → gi S1 7 i 6 = nI (nat (gi S1 7 i 6)) ∧ nat (gi S1 7 i 6) ≤ 6000 ∧ ∀ f, D 3 f i ≤ nat (gi S1 7 i 6) := fun i hi => by
      obtain ⟨-, -, -, -, -, o6, -⟩ := (hx.oo hi).2
      have q6 := nat_rg (x := gi S1 31 11 i) (hi := 6000) ⟨by have := o6.2.1; omega, o6.2.2⟩
      refine ⟨by rw [o6.1]; exact q6.1, by rw [o6.1]; omega, fun f => ?_⟩
      have eD3 : D 3 f i = if gi S1 7 i 10 = nI f then nat (gi S1 7 i 6) - nat (gi S1 7 i 9) else nat (gi S1 7 i 6) := by rw [← hx.2]; rfl
      rw [eD3]
      split <;> omega
    have hwn : ∀ i, i < D 0 0 1 → g i < 4 → nI (wkN S1 D g hn i) = gi M0 31 11 i - nI (D 3 (g i) i) + nI (hn i) := fun i hi _ => by
      obtain ⟨b1, b2, b3⟩ := bnd i hi
      have e : gi M0 31 11 i = nI (nat (gi S1 7 i 6)) := by
        rw [y6.gi 31 11 i rfl, zhi 31 11 i (by decide)]
        obtain ⟨-, -, -, -, -, o6, -⟩ := (hx.oo hi).2
        rw [← o6.1]
        exact b1
      rw [e, nI_sb (b3 _) (by omega), nI_add]
      rfl
    obtain ⟨Z3, x1, x2, x3⟩ := mw17 N (by omega) mx0 hw (fun i hi => (hPl.2 i (by have := (hc.2 i hi).1; omega)).2.2.2 hi) hwn y5 4 N 0 M0 (by omega) (by omega) (Md.rf _ _) ((Wk.rf D g hn (wkN S1 D g hn) (vM M0)).cg (fun j _ => by simp))
    have e0 : gi Z3 30 0 0 = nI (D 0 0 0) := by rw [x2.gi 30 0 0 rfl]; exact mx0.a.2.1
    rw [e0, nI_1] at x1
    obtain ⟨U2, hU2⟩ : ∃ U, U = ui Z3 30 0 0 (nI (D 0 0 0 + 1)) := ⟨_, rfl⟩
    rw [← hU2] at x1
    have u30 : gi U2 30 0 0 = nI (D 0 0 0 + 1) := by rw [hU2, gi_ui_s]
    have mU2 : Md [(30, some 0, some 0)] Z3 U2 := (Md.rf _ Z3).ui hU2 rfl
    obtain ⟨Z4, w1, w2, w3⟩ := mw45 N (c := D 0 0 1) (by omega) (D 0 0 1) N 0 U2 (by omega) (by omega) (by rw [mU2.gi 30 0 1 rfl, x2.gi 30 0 1 rfl]; exact mx0.a.2.2.2.1)
    rw [u30] at w1
    have eM : f_X9_work csF N Z2 = some (nI (D 0 0 0 + 1), Z4) := by
      rw [f_X9_work, mF (by decide) (by decide), ck_t, if_neg (by rw [zhi 30 0 0 (by decide), ha.2.1, show (51 : Int32) = nI 51 from rfl, nI_eq (by omega) (by omega)]; omega), y1, ob_s]
      exact x1.trans w1
    refine ⟨nI (D 0 0 0 + 1), Z2, Z4, eC, eM, ?_⟩
    -- what holds behind it
    have mC : Md ml_X8_work S Z2 := md_X8_work _ _ _ _ _ eC
    have mM : Md ml_X9_work Z2 Z4 := md_X9_work _ _ _ _ _ eM
    have mm := Md.app mC mM
    have mS := Md.app (Md.app (Md.app c2 mU1) d5) mM
    have low : ∀ c k j, c < 30 → gi Z4 c k j = gi Z2 c k j := fun c k j h => (md_lo mM (by decide) c k j h).1
    have wC := c3.cg (T' := fun _ => true) (fun i hi => decide_eq_true (hc.2 i (td i hi)).1)
    have wM := x3.cg (T' := fun _ => true) (fun i hi => decide_eq_true (td i hi))
    rw [vM0] at wM
    have hxA := hx.1.1
    have g8 : gi Z4 0 0 8 = nI (D 0 0 0 + 1) := by rw [low 0 0 8 (by decide), d5.gi 0 0 8 rfl, u8]
    have g30 : gi Z4 30 0 0 = nI (D 0 0 0 + 1) := by rw [w3.gi 30 0 0 rfl, u30]
    have g9 : gi Z4 0 0 9 = nI (D 0 0 1) := by rw [mS.gi 0 0 9 rfl]; exact ha.2.2.1
    have g31 : gi Z4 30 0 1 = nI (D 0 0 1) := by rw [mS.gi 30 0 1 rfl]; exact ha.2.2.2.1
    refine ⟨⟨by rw [g8, g30], by rw [g30]; exact nI_rg (by omega) (by omega) (by omega), by rw [g9, g31], by rw [g31]; exact nI_rg (by omega) (by omega) (by omega), ?_⟩, fun f hf => ?_, IvH_md mm (fun _ _ => rfl) (fun _ => rfl) hH, IvP_md mm (fun _ _ => rfl) (fun _ => rfl) (fun _ => rfl) (fun _ => rfl) hP, fun i hi => ?_, IvR_md mm rfl rfl (fun _ _ => rfl) (fun _ _ => rfl) (fun _ _ => rfl) (fun _ => rfl) (fun _ => rfl) (fun _ => rfl) hR, IvT_md mm rfl rfl (fun _ => rfl) (fun _ => rfl) hT, IvE_md mm rfl rfl rfl rfl hE, Or.inl (by rw [low 0 0 7 (by decide)]; exact d4)⟩
    · have a : gi Z1 0 0 10 = gi S1 0 0 10 + sI (fun _ => true) (vE D g hn) := wC.2.2
      have b : gi Z3 30 0 2 = gi S1 30 0 2 + sI (fun _ => true) (vE D g hn) := wM.2.2
      rw [low 0 0 10 (by decide), d5.gi 0 0 10 rfl, mU1.gi 0 0 10 rfl, a, w3.gi 30 0 2 rfl, mU2.gi 30 0 2 rfl, b, hxA.2.2.2.2]
    · obtain ⟨a1, a2⟩ := wC.2.1 f hf
      obtain ⟨b1, b2⟩ := wM.2.1 f hf
      have a1 : gi Z1 4 f 2 = gi S1 4 f 2 - sI (fun _ => true) (vF D g hn f) := a1
      have a2 : gi Z1 4 f 3 = gi S1 4 f 3 + sI (fun _ => true) (vF D g hn f) := a2
      have b1 : gi Z3 31 1 f = gi S1 31 1 f - sI (fun _ => true) (vF D g hn f) := b1
      have b2 : gi Z3 31 2 f = gi S1 31 2 f + sI (fun _ => true) (vF D g hn f) := b2
      obtain ⟨f0, f1, f2, f3⟩ := hx.1.2.1 f hf
      obtain ⟨l, l1, l2⟩ := row_ex mx0.sx hc hf
      obtain ⟨n, n1, n2⟩ := sum_vF (hn := hn) hD hw hf l1 l2
      have hf4 := hx.f hf
      refine ⟨by rw [mS.gi 4 f 0 rfl]; exact f0, ?_, ?_, ?_⟩
      · rw [low 4 f 2 (by decide), d5.gi 4 f 2 rfl, mU1.gi 4 f 2 rfl, a1, w3.gi 31 1 f rfl, mU2.gi 31 1 f rfl, b1, f1]
      · rw [w3.gi 31 1 f rfl, mU2.gi 31 1 f rfl, b1, n2, hf4.2.2.1, nI_sb n1 (by omega)]
        exact nI_rg (by omega) (by omega) (by omega)
      · rw [low 4 f 3 (by decide), d5.gi 4 f 3 rfl, mU1.gi 4 f 3 rfl, a2, w3.gi 31 2 f rfl, mU2.gi 31 2 f rfl, b2, f3]
    · refine ⟨by rw [mS.gi 7 i 0 rfl]; exact hx.n hi, fun hi' => ?_, fun hi' => ?_⟩
      · rw [g31, nI_toInt (by omega)] at hi'
        have hic : i < D 0 0 1 := by omega
        obtain ⟨o1, o2, o3, o4, o5, o6, o7, o8, o9, o10, o11, o12⟩ := (hx.oo hic).2
        obtain ⟨a0, a1, a2⟩ := wC.all hic
        obtain ⟨b0, b1, b2⟩ := wM.all hic
        have a0 : gi Z1 7 i 9 = if toB g hn i = true then nI (wkN S1 D g hn i) else gi S1 7 i 9 := a0
        have a1 : gi Z1 7 i 10 = if toB g hn i = true then nI (g i) else gi S1 7 i 10 := a1
        have a2 : gi Z1 7 i 8 = if dnB D g hn i = true then 1 else gi S1 7 i 8 := a2
        have b0 : gi Z3 31 14 i = if toB g hn i = true then nI (wkN S1 D g hn i) else gi S1 31 14 i := b0
        have b1 : gi Z3 31 15 i = if toB g hn i = true then nI (g i) else gi S1 31 15 i := b1
        have b2 : gi Z3 31 13 i = if dnB D g hn i = true then 1 else gi S1 31 13 i := b2
        have k9 : gi Z4 7 i 9 = gi Z1 7 i 9 := by rw [low 7 i 9 (by decide), d5.gi 7 i 9 rfl, mU1.gi 7 i 9 rfl]
        have k10 : gi Z4 7 i 10 = gi Z1 7 i 10 := by rw [low 7 i 10 (by decide), d5.gi 7 i 10 rfl, mU1.gi 7 i 10 rfl]
        have k14 : gi Z4 31 14 i = gi Z3 31 14 i := by rw [w3.gi 31 14 i rfl, mU2.gi 31 14 i rfl]
        have k15 : gi Z4 31 15 i = gi Z3 31 15 i := by rw [w3.gi 31 15 i rfl, mU2.gi 31 15 i rfl]
        have k3 : gi Z1 7 i 3 = gi S1 31 8 i := by rw [c2.gi 7 i 3 rfl]; exact o3.1
        have k8' : gi Z3 31 8 i = gi S1 31 8 i := by rw [x2.gi 31 8 i rfl, y6.gi 31 8 i rfl, zhi 31 8 i (by decide)]
        have k8 : gi Z4 7 i 8 = lostI (if dnB D g hn i = true then 1 else gi S1 31 13 i) (gi S1 31 8 i) (nI (D 0 0 0 + 1)) := by
          rw [low 7 i 8 (by decide), d2 i hic, if_neg (by omega), mU1.gi 7 i 8 rfl, mU1.gi 7 i 3 rfl, u8, k3, a2, o8.1]
        have k13 : gi Z4 31 13 i = lostI (if dnB D g hn i = true then 1 else gi S1 31 13 i) (gi S1 31 8 i) (nI (D 0 0 0 + 1)) := by
          rw [w2 i hic, if_neg (by omega), mU2.gi 31 13 i rfl, mU2.gi 31 8 i rfl, u30, k8', b2]
        have r13 : rg (if dnB D g hn i = true then 1 else gi S1 31 13 i) 0 3 := by
          split
          · unfold rg; decide
          · exact o8.2
        have e11 : gi Z4 31 11 i = gi S1 31 11 i := mS.gi 31 11 i rfl
        obtain ⟨w6, w7, w8⟩ := bnd i hic
        have t11 : (gi S1 31 11 i).toInt = (nat (gi S1 7 i 6) : Int) := by
          have p := o6.2.1
          rw [← o6.1] at p ⊢
          unfold nat
          omega
        refine ⟨?_, ?_, ?_, ?_, ?_, ?_, ?_, ?_, ?_, ?_, ?_, ?_⟩
        · rw [mS.gi 7 i 1 rfl, mS.gi 31 6 i rfl]; exact o1
        · rw [mS.gi 7 i 2 rfl, mS.gi 31 7 i rfl]; exact o2
        · rw [mS.gi 7 i 3 rfl, mS.gi 31 8 i rfl]; exact o3
        · rw [mS.gi 7 i 4 rfl, mS.gi 31 9 i rfl]; exact o4
        · rw [mS.gi 7 i 5 rfl, mS.gi 31 10 i rfl]; exact o5
        · rw [mS.gi 7 i 6 rfl, mS.gi 31 11 i rfl]; exact o6
        · rw [mS.gi 7 i 7 rfl, mS.gi 31 12 i rfl]; exact o7
        · exact ⟨by rw [k8, k13], by rw [k13]; exact lostI_rg r13⟩
        · rw [k9, k14, a0, b0, o9]
        · refine ⟨by rw [k10, k15, a1, b1, o10.1], ?_⟩
          rw [k15, b1]
          split
          · next t =>
            have := td i (Or.inl t)
            exact nI_rg (by omega) (by omega) (by omega)
          · exact o10.2
        · rw [k14, e11, b0]
          split
          · next t =>
            have hg4 := td i (Or.inl t)
            have := hPl.le hi hg4
            have := w8 (g i)
            have hw6 : wkN S1 D g hn i ≤ nat (gi S1 7 i 6) := by unfold wkN; omega
            rw [t11]
            exact nI_rg (by omega) (by omega) (by omega)
          · exact o11
        · intro hz
          rw [k13] at hz
          have hz := lostI_0 hz
          have dn : ¬ dnB D g hn i = true := fun x => by rw [if_pos x] at hz; exact absurd hz (by decide)
          rw [if_neg dn] at hz
          rw [k14, e11, b0]
          split
          · next t =>
            have hg4 := td i (Or.inl t)
            have e1 := hPl.le hi hg4
            have e2 := w8 (g i)
            have e3 : ¬ hn i = D 3 (g i) i := fun x => dn (by simp [dnB, hg4, x])
            have hw6 : wkN S1 D g hn i + 1 ≤ nat (gi S1 7 i 6) := by unfold wkN; omega
            rw [t11]
            exact nI_rg (by omega) (by omega) (by omega)
          · exact o12 hz
      · rw [g31, nI_toInt (by omega)] at hi'
        have hic : D 0 0 1 ≤ i := by omega
        rw [low 7 i 8 (by decide), d3 i hic, mU1.gi 7 i 8 rfl, c4 i 8 hic]
        exact (hx.1.2.2.2.2.1 i hi).2.2 (by rw [ha.2.2.2.1, nI_toInt (by omega)]; omega)
