/-! ===== the law's loop, over the relation ===== -/
theorem law_loop (N : Nat) (hN : 501 ≤ N) (xs : Nat → Int32) {L : Nat} (hL : L ≤ 3072) : ∀ (n v : Nat) (S : HS), L + 6 < v + n → v ≤ L + 6 → Inv S → ∃ Z, f_L_law_18 csF N xs L n (nI v) S = some (1, Z) := by
  intro n
  induction n with
  | zero =>
    intro v S h1 h2 hI
    omega
  | succ n ih =>
    intro v S h1 h2 hI
    have eL : (nI L - 6).toInt = (L : Int) - 6 := by
      have a := nI_toInt (n := L) (by omega)
      have b : (6 : Int32).toInt = 6 := rfl
      rw [i_sub (by omega) (by omega), a, b]
    have ev := nI_toInt (n := v) (by omega)
    by_cases q : nI L - 6 < nI v
    · exact ⟨S, by rw [f_L_law_18, if_pos q]⟩
    · have hv : v + 6 ≤ L := by
        rw [i_lt, eL, ev] at q
        omega
      have i0 : inb (nI v) L = true := inb_k (by omega) (by omega)
      have i1 : inb (nI v + 1) L = true := by rw [show (1 : Int32) = nI 1 from rfl, nI_add]; exact inb_k (by omega) (by omega)
      have i2 : inb (nI v + 2) L = true := by rw [show (2 : Int32) = nI 2 from rfl, nI_add]; exact inb_k (by omega) (by omega)
      have i3 : inb (nI v + 3) L = true := by rw [show (3 : Int32) = nI 3 from rfl, nI_add]; exact inb_k (by omega) (by omega)
      have i4 : inb (nI v + 4) L = true := by rw [show (4 : Int32) = nI 4 from rfl, nI_add]; exact inb_k (by omega) (by omega)
      have i5 : inb (nI v + 5) L = true := by rw [show (5 : Int32) = nI 5 from rfl, nI_add]; exact inb_k (by omega) (by omega)
      have v6 : nI v + 6 = nI (v + 6) := by rw [show (6 : Int32) = nI 6 from rfl, nI_add]
      have m0 : mc csF 0 0 = true := mF (by decide) (by decide)
      have m30 : mc csF 30 0 = true := mF (by decide) (by decide)
      have nx : ∀ S2, Inv S2 → ∃ Z, f_L_law_18 csF N xs L n (nI (v + 6)) S2 = some (1, Z) := fun S2 hI2 => ih (v + 6) S2 (by omega) (by omega) hI2
      rw [f_L_law_18, if_neg q, i0, ck_t]
      by_cases q0 : xs (nI v).toNatClampNeg &&& 15 = 0
      · obtain ⟨r, S1, S2, e1, e2, hI2⟩ := op_hours N (xs (nI v + 1).toNatClampNeg) (xs (nI v + 2).toNatClampNeg) (xs (nI v + 3).toNatClampNeg) S hI
        rw [if_pos q0]
        simp only [i1, i2, i3, m0, m30, ck_t, e1, ob_s, e2, eq_self, if_true, lt_s_, v6]
        exact nx S2 hI2
      rw [if_neg q0]
      by_cases q1 : xs (nI v).toNatClampNeg &&& 15 = 1
      · obtain ⟨r, S1, S2, e1, e2, hI2⟩ := op_pattern N (by omega) (xs (nI v + 1).toNatClampNeg) (xs (nI v + 2).toNatClampNeg) (xs (nI v + 3).toNatClampNeg) (xs (nI v + 4).toNatClampNeg) S hI
        rw [if_pos q1]
        simp only [i1, i2, i3, i4, m0, m30, ck_t, e1, ob_s, e2, eq_self, if_true, lt_s_, v6]
        exact nx S2 hI2
      rw [if_neg q1]
      by_cases q2 : xs (nI v).toNatClampNeg &&& 15 = 2
      · obtain ⟨r, S1, S2, e1, e2, hI2⟩ := op_lend N (xs (nI v + 1).toNatClampNeg) (xs (nI v + 2).toNatClampNeg) S hI
        rw [if_pos q2]
        simp only [i1, i2, m0, m30, ck_t, e1, ob_s, e2, eq_self, if_true, lt_s_, v6]
        exact nx S2 hI2
      rw [if_neg q2]
      by_cases q3 : xs (nI v).toNatClampNeg &&& 15 = 3
      · obtain ⟨r, S1, S2, e1, e2, hI2⟩ := op_bring N (xs (nI v + 1).toNatClampNeg) S hI
        rw [if_pos q3]
        simp only [i1, m0, m30, ck_t, e1, ob_s, e2, eq_self, if_true, lt_s_, v6]
        exact nx S2 hI2
      rw [if_neg q3]
      by_cases q4 : xs (nI v).toNatClampNeg &&& 15 = 4
      · obtain ⟨r, S1, S2, e1, e2, hI2⟩ := op_order N (by omega) (xs (nI v + 1).toNatClampNeg) (xs (nI v + 2).toNatClampNeg) (xs (nI v + 3).toNatClampNeg) (xs (nI v + 4).toNatClampNeg) S hI
        rw [if_pos q4]
        simp only [i1, i2, i3, i4, m0, m30, ck_t, e1, ob_s, e2, eq_self, if_true, lt_s_, v6]
        exact nx S2 hI2
      rw [if_neg q4]
      by_cases q5 : xs (nI v).toNatClampNeg &&& 15 = 5
      · obtain ⟨r, S1, S2, e1, e2, hI2⟩ := op_drop N (xs (nI v + 1).toNatClampNeg) S hI
        rw [if_pos q5]
        simp only [i1, m0, m30, ck_t, e1, ob_s, e2, eq_self, if_true, lt_s_, v6]
        exact nx S2 hI2
      rw [if_neg q5]
      by_cases q6 : xs (nI v).toNatClampNeg &&& 15 = 6
      · obtain ⟨r, S1, S2, e1, e2, hI2⟩ := op_feed N (by omega) (xs (nI v + 1).toNatClampNeg) (xs (nI v + 2).toNatClampNeg) (xs (nI v + 3).toNatClampNeg) (xs (nI v + 4).toNatClampNeg) (xs (nI v + 5).toNatClampNeg) S hI
        rw [if_pos q6]
        simp only [i1, i2, i3, i4, i5, m0, m30, ck_t, e1, ob_s, e2, eq_self, if_true, lt_s_, v6]
        exact nx S2 hI2
      rw [if_neg q6]
      by_cases q7 : xs (nI v).toNatClampNeg &&& 15 = 7
      · obtain ⟨r, S1, S2, e1, e2, hI2⟩ := op_end N (xs (nI v + 1).toNatClampNeg) S hI
        rw [if_pos q7]
        simp only [i1, m0, m30, ck_t, e1, ob_s, e2, eq_self, if_true, lt_s_, v6]
        exact nx S2 hI2
      rw [if_neg q7]
      by_cases q8 : xs (nI v).toNatClampNeg &&& 15 = 8
      · obtain ⟨r, S1, S2, e1, e2, hI2⟩ := op_custom N (by omega)  S hI
        rw [if_pos q8]
        simp only [m0, m30, ck_t, e1, ob_s, e2, eq_self, if_true, lt_s_, v6]
        exact nx S2 hI2
      rw [if_neg q8]
      by_cases q9 : xs (nI v).toNatClampNeg &&& 15 = 9
      · obtain ⟨r, S1, S2, e1, e2, hI2⟩ := op_fault N (xs (nI v + 1).toNatClampNeg) S hI
        rw [if_pos q9]
        simp only [i1, m0, m30, ck_t, e1, ob_s, e2, eq_self, if_true, lt_s_, v6]
        exact nx S2 hI2
      rw [if_neg q9]
      by_cases q10 : xs (nI v).toNatClampNeg &&& 15 = 10
      · obtain ⟨r, S1, S2, e1, e2, hI2⟩ := op_may N (xs (nI v + 1).toNatClampNeg) (xs (nI v + 2).toNatClampNeg) (xs (nI v + 3).toNatClampNeg) S hI
        rw [if_pos q10]
        simp only [i1, i2, i3, m0, m30, ck_t, e1, ob_s, e2, eq_self, if_true, lt_s_, v6]
        exact nx S2 hI2
      rw [if_neg q10]
      by_cases q11 : xs (nI v).toNatClampNeg &&& 15 = 11
      · obtain ⟨r, S1, S2, e1, e2, hI2⟩ := op_look N (by omega) (xs (nI v + 1).toNatClampNeg) S hI
        rw [if_pos q11]
        simp only [i1, m0, m30, ck_t, e1, ob_s, e2, eq_self, if_true, lt_s_, v6]
        exact nx S2 hI2
      rw [if_neg q11]
      by_cases q12 : xs (nI v).toNatClampNeg &&& 15 = 12
      · obtain ⟨r, S1, S2, e1, e2, hI2⟩ := op_of N (xs (nI v + 1).toNatClampNeg) (xs (nI v + 2).toNatClampNeg) S hI
        rw [if_pos q12]
        simp only [i1, i2, m0, m30, ck_t, e1, ob_s, e2, eq_self, if_true, lt_s_, v6]
        exact nx S2 hI2
      rw [if_neg q12]
      by_cases q13 : xs (nI v).toNatClampNeg &&& 15 = 13
      · obtain ⟨r, S1, S2, e1, e2, hI2⟩ := op_best N (by omega) (xs (nI v + 1).toNatClampNeg) S hI
        rw [if_pos q13]
        simp only [i1, m0, m30, ck_t, e1, ob_s, e2, eq_self, if_true, lt_s_, v6]
        exact nx S2 hI2
      rw [if_neg q13]
      by_cases q14 : xs (nI v).toNatClampNeg &&& 15 = 14
      · obtain ⟨r, S1, S2, e1, e2, hI2⟩ := op_work N (by omega)  S hI
        rw [if_pos q14]
        simp only [m0, m30, ck_t, e1, ob_s, e2, eq_self, if_true, lt_s_, v6]
        exact nx S2 hI2
      rw [if_neg q14]
      rw [lt_s_, v6]
      exact nx S hI
