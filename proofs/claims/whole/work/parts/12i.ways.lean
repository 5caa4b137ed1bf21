/-! ===== best: sets by families and ways ===== -/
theorem and_bits {q s : Nat} : q &&& s = q ↔ ∀ p, q.testBit p = true → s.testBit p = true := by
  constructor
  · intro h p hp
    have : (q &&& s).testBit p = true := by rw [h]; exact hp
    rw [Nat.testBit_and, hp] at this
    simpa using this
  · intro h
    apply Nat.eq_of_testBit_eq
    intro p
    rw [Nat.testBit_and]
    cases hq : q.testBit p with
    | false => rfl
    | true => rw [h p hq]; rfl
theorem lt_bits {q m : Nat} (h : ∀ p, m ≤ p → q.testBit p = false) : q < 2 ^ m := Nat.lt_pow_two_of_testBit q h
/-- disjoint sets below 2^m -/
def Ws (Q : Nat → Nat) (m : Nat) : Prop := (∀ f, f < 4 → Q f < 2 ^ m) ∧ ∀ p f f', f < 4 → f' < 4 → (Q f).testBit p = true → (Q f').testBit p = true → f = f'
abbrev q4 (Q : Nat → Nat) : List Nat := [Q 3, Q 2, Q 1, Q 0]
def ssQ (Q : Nat → Nat) (m : Nat) (F : Nat) : Nat := match F with
  | 0 => 2 ^ m - 1 ^^^ Q 3 ^^^ Q 2 ^^^ Q 1
  | 1 => 2 ^ m - 1 ^^^ Q 3 ^^^ Q 2
  | 2 => 2 ^ m - 1 ^^^ Q 3
  | _ => 2 ^ m - 1
theorem wy_Q {Cn : Nat → Nat → Prop} {m : Nat} {qs : List Nat} (h : wyOk Cn 4 (2 ^ m - 1) qs) : ∃ Q, qs = q4 Q ∧ (∀ f, f < 4 → Q f &&& ssQ Q m f = Q f) ∧ ∀ f, f < 4 → Cn f (Q f) := by
  obtain ⟨q3, r3, rfl, a3, c3, q2, r2, rfl, a2, c2, q1, r1, rfl, a1, c1, q0, r0, rfl, a0, c0, rfl⟩ := h
  refine ⟨fun f => match f with
    | 0 => q0
    | 1 => q1
    | 2 => q2
    | _ => q3, rfl, fun f hf => ?_, fun f hf => ?_⟩
  · rcases (show f = 0 ∨ f = 1 ∨ f = 2 ∨ f = 3 by omega) with rfl | rfl | rfl | rfl
    · exact a0
    · exact a1
    · exact a2
    · exact a3
  · rcases (show f = 0 ∨ f = 1 ∨ f = 2 ∨ f = 3 by omega) with rfl | rfl | rfl | rfl
    · exact c0
    · exact c1
    · exact c2
    · exact c3
theorem Q_ws {Q : Nat → Nat} {m : Nat} (h : ∀ f, f < 4 → Q f &&& ssQ Q m f = Q f) : Ws Q m := by
  have b3 := fun p => and_bits.mp (h 3 (by decide)) p
  have b2 := fun p => and_bits.mp (h 2 (by decide)) p
  have b1 := fun p => and_bits.mp (h 1 (by decide)) p
  have b0 := fun p => and_bits.mp (h 0 (by decide)) p
  simp only [ssQ, Nat.testBit_xor, Nat.testBit_two_pow_sub_one] at b0 b1 b2 b3
  refine ⟨fun f hf => lt_bits (fun p hp => ?_), fun p f f' hf hf' x y => ?_⟩
  · have hd : decide (p < m) = false := by simp; omega
    have c3 := b3 p; have c2 := b2 p; have c1 := b1 p; have c0 := b0 p
    rw [hd] at c0 c1 c2 c3
    rcases (show f = 0 ∨ f = 1 ∨ f = 2 ∨ f = 3 by omega) with rfl | rfl | rfl | rfl <;>
      (cases e3 : (Q 3).testBit p <;> cases e2 : (Q 2).testBit p <;> cases e1 : (Q 1).testBit p <;> cases e0 : (Q 0).testBit p <;> simp [e0, e1, e2, e3] at c0 c1 c2 c3 ⊢)
  · have c3 := b3 p; have c2 := b2 p; have c1 := b1 p; have c0 := b0 p
    rcases (show f = 0 ∨ f = 1 ∨ f = 2 ∨ f = 3 by omega) with rfl | rfl | rfl | rfl <;> rcases (show f' = 0 ∨ f' = 1 ∨ f' = 2 ∨ f' = 3 by omega) with rfl | rfl | rfl | rfl <;> first | rfl | (exfalso; cases ed : decide (p < m) <;> cases e3 : (Q 3).testBit p <;> cases e2 : (Q 2).testBit p <;> cases e1 : (Q 1).testBit p <;> cases e0 : (Q 0).testBit p <;> simp [ed, e0, e1, e2, e3] at c0 c1 c2 c3 x y)
theorem ws_Q {Q : Nat → Nat} {m : Nat} (h : Ws Q m) : ∀ f, f < 4 → Q f &&& ssQ Q m f = Q f := by
  intro f hf
  rw [and_bits]
  intro p hp
  have hpm : decide (p < m) = true := by
    apply decide_eq_true
    apply Classical.byContradiction
    intro hn
    rw [tb_lt (h.1 f hf) (by omega)] at hp
    cases hp
  have no : ∀ f', f' < 4 → f' ≠ f → (Q f').testBit p = false := fun f' hf' hne => by
    cases e : (Q f').testBit p with
    | false => rfl
    | true => exact absurd (h.2 p f' f hf' hf e hp) hne
  rcases (show f = 0 ∨ f = 1 ∨ f = 2 ∨ f = 3 by omega) with rfl | rfl | rfl | rfl
  · simp only [ssQ, Nat.testBit_xor, Nat.testBit_two_pow_sub_one, hpm, no 1 (by decide) (by decide), no 2 (by decide) (by decide), no 3 (by decide) (by decide)]
    rfl
  · simp only [ssQ, Nat.testBit_xor, Nat.testBit_two_pow_sub_one, hpm, no 2 (by decide) (by decide), no 3 (by decide) (by decide)]
    rfl
  · simp only [ssQ, Nat.testBit_xor, Nat.testBit_two_pow_sub_one, hpm, no 3 (by decide) (by decide)]
    rfl
  · simp only [ssQ, Nat.testBit_two_pow_sub_one, hpm]
theorem Q_wy {Cn : Nat → Nat → Prop} {Q : Nat → Nat} {m : Nat} (h : Ws Q m) (hC : ∀ f, f < 4 → Cn f (Q f)) : wyOk Cn 4 (2 ^ m - 1) (q4 Q) := by
  have a := ws_Q h
  exact ⟨_, _, rfl, a 3 (by decide), hC 3 (by decide), _, _, rfl, a 2 (by decide), hC 2 (by decide), _, _, rfl, a 1 (by decide), hC 1 (by decide), _, _, rfl, a 0 (by decide), hC 0 (by decide), rfl⟩
theorem q4_val (rk : Nat → Nat → Int) (Q : Nat → Nat) : wyVal rk 4 (q4 Q) = rk 0 (Q 0) + rk 1 (Q 1) + rk 2 (Q 2) + rk 3 (Q 3) := by
  show rk 3 (Q 3) + (rk 2 (Q 2) + (rk 1 (Q 1) + (rk 0 (Q 0) + 0))) = _
  omega
theorem mask_ex (P : Nat → Bool) : ∀ m, ∃ q, q < 2 ^ m ∧ ∀ p, p < m → q.testBit p = P p
  | 0 => ⟨0, by decide, fun p hp => by omega⟩
  | m + 1 => by
    obtain ⟨q, h1, h2⟩ := mask_ex P m
    have hp : 2 ^ (m + 1) = 2 ^ m + 2 ^ m := by rw [Nat.pow_succ]; omega
    cases e : P m with
    | false =>
      refine ⟨q, by omega, fun p hpm => ?_⟩
      by_cases x : p = m
      · subst x; rw [e]; exact tb_lt h1 (Nat.le_refl _)
      · exact h2 p (by omega)
    | true =>
      refine ⟨2 ^ m + q, by omega, fun p hpm => ?_⟩
      by_cases x : p = m
      · subst x
        rw [e, Nat.testBit_two_pow_add_eq, tb_lt h1 (Nat.le_refl _)]
        rfl
      · rw [Nat.testBit_two_pow_add_gt (by omega), h2 p (by omega)]
/-- sums by families are sums over seven -/
theorem sum_fam {g : Nat → Nat} (hg : ∀ i, g i ≤ 4) {L : Nat → List Nat} (hn : ∀ f, f < 4 → (L f).Nodup) (h7 : ∀ f, f < 4 → ∀ i, i ∈ L f → i < 7) (hL : ∀ f, f < 4 → ∀ i, i ∈ L f ↔ g i = f) (h : Nat → Nat → Int) : ((L 0).map (h 0)).sum + ((L 1).map (h 1)).sum + ((L 2).map (h 2)).sum + ((L 3).map (h 3)).sum = sum7 (fun i => if g i < 4 then h (g i) i else 0) := by
  have e : ∀ f, f < 4 → ((L f).map (h f)).sum = sum7 (fun i => if g i = f then h f i else 0) := fun f hf => by
    rw [sum7_list (h f) (L f) (hn f hf) (h7 f hf)]
    apply sum7_cg
    intro i _
    by_cases q : g i = f
    · rw [if_pos ((hL f hf i).mpr q), if_pos q]
    · rw [if_neg (fun x => q ((hL f hf i).mp x)), if_neg q]
  rw [e 0 (by decide), e 1 (by decide), e 2 (by decide), e 3 (by decide), ← sum7_add, ← sum7_add, ← sum7_add]
  apply sum7_cg
  intro i _
  have := hg i
  rcases (show g i = 0 ∨ g i = 1 ∨ g i = 2 ∨ g i = 3 ∨ g i = 4 by omega) with q | q | q | q | q <;> simp [q]
theorem rankD_4 (D : Pb) (g : Nat → Nat) : sum7 (fun i => if g i < 4 then gainD D (g i) i else 0) = rankD D g := by
  unfold rankD
  apply sum7_cg
  intro i _
  by_cases q : g i < 4
  · rw [if_pos q]
  · rw [if_neg q]; unfold gainD; rw [if_neg q]
theorem l0_pos {D : Pb} {l0 : List Nat} (h : rowOk D l0) {p p' : Nat} (hp : p < l0.length) (hp' : p' < l0.length) (e : l0.getD p 0 = l0.getD p' 0) : p = p' := by
  apply Classical.byContradiction
  intro hne
  rcases (show p < p' ∨ p' < p by omega) with q | q
  · have := row_get h q hp'
    rw [e] at this
    exact bef_ir this
  · have := row_get h q hp
    rw [e] at this
    exact bef_ir this
/-- sets of families and ways are the same -/
theorem way_Q {D : Pb} (hD : dOk D) {l0 : List Nat} (h0 : rowOk D l0) (hl : l0.length ≤ 7) (hm : ∀ j, j ∈ l0 ↔ j < D 0 0 1 ∧ D 8 j 0 = 1) {g : Nat → Nat} (hg : wayOk D g) : ∃ Q, Ws Q l0.length ∧ (∀ f, f < 4 → canD D f (sel l0 (Q f))) ∧ rkD D l0 0 (Q 0) + rkD D l0 1 (Q 1) + rkD D l0 2 (Q 2) + rkD D l0 3 (Q 3) = rankD D g := by
  obtain ⟨g1, g2, g3⟩ := hg
  obtain ⟨q0, a0, b0⟩ := mask_ex (fun p => decide (g (l0.getD p 0) = 0)) l0.length
  obtain ⟨q1, a1, b1⟩ := mask_ex (fun p => decide (g (l0.getD p 0) = 1)) l0.length
  obtain ⟨q2, a2, b2⟩ := mask_ex (fun p => decide (g (l0.getD p 0) = 2)) l0.length
  obtain ⟨q3, a3, b3⟩ := mask_ex (fun p => decide (g (l0.getD p 0) = 3)) l0.length
  have hQ : ∃ Q : Nat → Nat, ∀ f, f < 4 → Q f < 2 ^ l0.length ∧ ∀ p, p < l0.length → (Q f).testBit p = decide (g (l0.getD p 0) = f) := by
    refine ⟨fun f => match f with
      | 0 => q0
      | 1 => q1
      | 2 => q2
      | _ => q3, fun f hf => ?_⟩
    rcases (show f = 0 ∨ f = 1 ∨ f = 2 ∨ f = 3 by omega) with rfl | rfl | rfl | rfl
    · exact ⟨a0, b0⟩
    · exact ⟨a1, b1⟩
    · exact ⟨a2, b2⟩
    · exact ⟨a3, b3⟩
  obtain ⟨Q, hQ⟩ := hQ
  have mem : ∀ f, f < 4 → ∀ i, i ∈ sel l0 (Q f) ↔ g i = f := fun f hf i => by
    rw [sel_mem hl (hQ f hf).1]
    constructor
    · rintro ⟨p, p1, p2, p3⟩
      rw [(hQ f hf).2 p p1] at p2
      rw [← p3]
      exact of_decide_eq_true p2
    · intro e
      obtain ⟨p, p1, p2⟩ := mem_getD ((hm i).mpr (g2 i (by omega)))
      exact ⟨p, p1, by rw [(hQ f hf).2 p p1, p2]; exact decide_eq_true e, p2⟩
  have row : ∀ f, f < 4 → rowOk D (sel l0 (Q f)) := fun f hf => sel_row h0 hl (hQ f hf).1
  refine ⟨Q, ⟨fun f hf => (hQ f hf).1, fun p f f' hf hf' x y => ?_⟩, fun f hf => g3 f hf _ (row f hf) (mem f hf), ?_⟩
  · by_cases hp : p < l0.length
    · rw [(hQ f hf).2 p hp] at x
      rw [(hQ f' hf').2 p hp] at y
      have x' := of_decide_eq_true x
      have y' := of_decide_eq_true y
      omega
    · rw [tb_lt (hQ f hf).1 (by omega)] at x
      cases x
  · rw [← rankD_4]
    exact sum_fam g1 (fun f hf => row_nd (row f hf)) (fun f hf i hi => by have h1 := (g2 i (by rw [(mem f hf i).mp hi]; exact hf)).1; have := hD.1; omega) mem (fun f i => gainD D f i)
theorem Q_way {D : Pb} (hD : dOk D) {l0 : List Nat} (h0 : rowOk D l0) (hl : l0.length ≤ 7) (hm : ∀ j, j ∈ l0 ↔ j < D 0 0 1 ∧ D 8 j 0 = 1) {Q : Nat → Nat} (hW : Ws Q l0.length) (hC : ∀ f, f < 4 → canD D f (sel l0 (Q f))) : ∃ g, wayOk D g ∧ (∀ f, f < 4 → ∀ i, i ∈ sel l0 (Q f) ↔ g i = f) ∧ rankD D g = rkD D l0 0 (Q 0) + rkD D l0 1 (Q 1) + rkD D l0 2 (Q 2) + rkD D l0 3 (Q 3) := by
  have row : ∀ f, f < 4 → rowOk D (sel l0 (Q f)) := fun f hf => sel_row h0 hl (hW.1 f hf)
  have dis : ∀ f f' i, f < 4 → f' < 4 → i ∈ sel l0 (Q f) → i ∈ sel l0 (Q f') → f = f' := fun f f' i hf hf' x y => by
    obtain ⟨p, p1, p2, p3⟩ := (sel_mem hl (hW.1 f hf)).mp x
    obtain ⟨p', p1', p2', p3'⟩ := (sel_mem hl (hW.1 f' hf')).mp y
    have e := l0_pos h0 p1 p1' (by rw [p3, p3'])
    subst e
    exact hW.2 p f f' hf hf' p2 p2'
  have hg : ∃ g : Nat → Nat, ∀ i, g i ≤ 4 ∧ ∀ f, f < 4 → (i ∈ sel l0 (Q f) ↔ g i = f) := by
    refine ⟨fun i => if i ∈ sel l0 (Q 0) then 0 else if i ∈ sel l0 (Q 1) then 1 else if i ∈ sel l0 (Q 2) then 2 else if i ∈ sel l0 (Q 3) then 3 else 4, fun i => ⟨?_, fun f hf => ?_⟩⟩
    · dsimp only
      repeat' split
      all_goals omega
    · dsimp only
      constructor
      · intro x
        have no : ∀ f', f' < 4 → f' ≠ f → ¬ i ∈ sel l0 (Q f') := fun f' hf' hne y => hne (dis f' f i hf' hf y x)
        rcases (show f = 0 ∨ f = 1 ∨ f = 2 ∨ f = 3 by omega) with rfl | rfl | rfl | rfl
        · rw [if_pos x]
        · rw [if_neg (no 0 (by decide) (by decide)), if_pos x]
        · rw [if_neg (no 0 (by decide) (by decide)), if_neg (no 1 (by decide) (by decide)), if_pos x]
        · rw [if_neg (no 0 (by decide) (by decide)), if_neg (no 1 (by decide) (by decide)), if_neg (no 2 (by decide) (by decide)), if_pos x]
      · intro e
        by_cases x0 : i ∈ sel l0 (Q 0)
        · rw [if_pos x0] at e; rw [← e]; exact x0
        · rw [if_neg x0] at e
          by_cases x1 : i ∈ sel l0 (Q 1)
          · rw [if_pos x1] at e; rw [← e]; exact x1
          · rw [if_neg x1] at e
            by_cases x2 : i ∈ sel l0 (Q 2)
            · rw [if_pos x2] at e; rw [← e]; exact x2
            · rw [if_neg x2] at e
              by_cases x3 : i ∈ sel l0 (Q 3)
              · rw [if_pos x3] at e; rw [← e]; exact x3
              · rw [if_neg x3] at e
                omega
  obtain ⟨g, hg⟩ := hg
  have mem : ∀ f, f < 4 → ∀ i, i ∈ sel l0 (Q f) ↔ g i = f := fun f hf i => (hg i).2 f hf
  have opn : ∀ i, g i < 4 → i < D 0 0 1 ∧ D 8 i 0 = 1 := fun i hi => by
    have x := (mem (g i) hi i).mpr rfl
    obtain ⟨p, p1, p2, p3⟩ := (sel_mem hl (hW.1 _ hi)).mp x
    rw [← p3]
    exact (hm _).mp (getD_mem p1)
  refine ⟨g, ⟨fun i => (hg i).1, opn, fun f hf l r1 r2 => ?_⟩, mem, ?_⟩
  · rw [row_uq l (sel l0 (Q f)) r1 (row f hf) (fun i => by rw [r2 i, mem f hf i])]
    exact hC f hf
  · rw [← rankD_4]
    exact (sum_fam (fun i => (hg i).1) (fun f hf => row_nd (row f hf)) (fun f hf i hi => by have h1 := (opn i (by rw [(mem f hf i).mp hi]; exact hf)).1; have := hD.1; omega) mem (fun f i => gainD D f i)).symm
/-- what the tables of all four families say -/
theorem best_Q {S : HS} {D : Pb} (hD : dOk D) {l0 : List Nat} (h0 : rowOk D l0) (hl : l0.length ≤ 7) (hm : ∀ j, j ∈ l0 ↔ j < D 0 0 1 ∧ D 8 j 0 = 1) (hF : Fam S D l0 4) : ∃ Q g, Ws Q l0.length ∧ (∀ F, F < 4 → pC S F (ssQ Q l0.length F) = Q F) ∧ (∀ f, f < 4 → canD D f (sel l0 (Q f))) ∧ isBest D g ∧ ∀ f, f < 4 → ∀ i, i ∈ sel l0 (Q f) ↔ g i = f := by
  obtain ⟨v, -, -, -, ⟨b1, b2, b3⟩, -⟩ := hF (2 ^ l0.length - 1) (by have := Nat.two_pow_pos l0.length; omega)
  obtain ⟨Q, e, c1, c2⟩ := wy_Q b1
  have hW := Q_ws c1
  obtain ⟨g, w1, w2, w3⟩ := Q_way hD h0 hl hm hW c2
  have t3 : Q 3 = pC S 3 (2 ^ l0.length - 1) := by
    have : (trc (pC S) 4 (2 ^ l0.length - 1)).getD 0 0 = (q4 Q).getD 0 0 := by rw [e]
    exact this.symm
  have t2 : Q 2 = pC S 2 (2 ^ l0.length - 1 ^^^ Q 3) := by
    have : (trc (pC S) 4 (2 ^ l0.length - 1)).getD 1 0 = (q4 Q).getD 1 0 := by rw [e]
    rw [t3]
    exact this.symm
  have t1 : Q 1 = pC S 1 (2 ^ l0.length - 1 ^^^ Q 3 ^^^ Q 2) := by
    have : (trc (pC S) 4 (2 ^ l0.length - 1)).getD 2 0 = (q4 Q).getD 2 0 := by rw [e]
    rw [t2, t3]
    exact this.symm
  have t0 : Q 0 = pC S 0 (2 ^ l0.length - 1 ^^^ Q 3 ^^^ Q 2 ^^^ Q 1) := by
    have : (trc (pC S) 4 (2 ^ l0.length - 1)).getD 3 0 = (q4 Q).getD 3 0 := by rw [e]
    rw [t1, t2, t3]
    exact this.symm
  refine ⟨Q, g, hW, fun F hF4 => ?_, c2, ⟨w1, fun g' hg' => ?_⟩, w2⟩
  · rcases (show F = 0 ∨ F = 1 ∨ F = 2 ∨ F = 3 by omega) with rfl | rfl | rfl | rfl
    · exact t0.symm
    · exact t1.symm
    · exact t2.symm
    · exact t3.symm
  · obtain ⟨Q', x1, x2, x3⟩ := way_Q hD h0 hl hm hg'
    have y := b3 (q4 Q') (Q_wy (Cn := CnD D l0) x1 x2)
    rw [q4_val, x3] at y
    rw [e, q4_val, ← w3] at b2
    omega
