/-! ===== best: the rows are made ===== -/
def HoC (S : HS) (l : List Nat) (k : Nat) : Prop := ∀ j, (j < k → gi S 13 3 j = nI (l.getD j 0)) ∧ (k ≤ j → j < l.length → gi S 13 3 (j + 1) = nI (l.getD j 0))
def RowC (S : HS) (l : List Nat) : Prop := gi S 12 0 6 = nI l.length ∧ ∀ j, j < l.length → gi S 13 3 j = nI (l.getD j 0)
theorem lineUp27 (N : Nat) (K : Int32 → Int32 → HS → Option (Unit × HS)) (v2 : Int32) {D : Pb} {i : Nat} (hi : i < D 0 0 1) {l : List Nat} (hl : l.length ≤ 6) (hm : ∀ j, j ∈ l → j < D 0 0 1) : ∀ (k n : Nat) (S : HS), Fx S D → k ≤ l.length → k < n → HoC S l k → (∀ j, k ≤ j → j < l.length → D 5 i 0 < D 5 (l.getD j 0) 0) → ∃ k' Z, f_X4_lineUp_27 csF N K n v2 (nI i) (nI k) S = f_X4_lineUp_77 csF N K v2 (nI i) (nI k') Z ∧ k' ≤ l.length ∧ HoC Z l k' ∧ (∀ j, k' ≤ j → j < l.length → D 5 i 0 < D 5 (l.getD j 0) 0) ∧ (k' = 0 ∨ D 5 (l.getD (k' - 1) 0) 0 ≤ D 5 i 0) ∧ Md [(13, some 3, none)] S Z := by
  intro k
  induction k with
  | zero =>
    intro n S hx h1 h2 h3 h4
    obtain ⟨n, rfl⟩ : ∃ k, n = k + 1 := ⟨n - 1, by omega⟩
    refine ⟨0, S, ?_, h1, h3, h4, Or.inl rfl, Md.rf _ S⟩
    rw [f_X4_lineUp_27, if_pos (by decide)]
  | succ k ih =>
    intro n S hx h1 h2 h3 h4
    obtain ⟨n, rfl⟩ : ∃ k, n = k + 1 := ⟨n - 1, by omega⟩
    have hi7 := (hx.oo hi).1
    have hk : l.getD k 0 < D 0 0 1 := hm _ (getD_mem (by omega))
    have hk7 := (hx.oo hk).1
    have e1 : nI (k + 1) - 1 = nI k := nI_sb (a := k + 1) (b := 1) (by omega) (by omega)
    have e2 : nI (k + 1) + -1 = nI k := by rw [i_eq, i_add (by rw [nI_toInt (by omega)]; simp; omega) (by rw [nI_toInt (by omega)]; simp; omega), nI_toInt (by omega), nI_toInt (by omega)]; simp; omega
    have ec : gi S 13 3 k = nI (l.getD k 0) := (h3 k).1 (by omega)
    rw [f_X4_lineUp_27, if_neg (by rw [show (0 : Int32) = nI 0 from rfl, nI_leI (by omega) (by omega)]; omega), mF (by decide) (by decide), ck_t, mF (by decide) (by decide), ck_t, e1, e2, inb_k (show k < 7 by omega) (by decide), ck_t, mF (by decide) (by decide), ck_t, cl_k (show k < 2147483648 by omega), ec, inb_k hk7 (by decide), ck_t, cl_k (show l.getD k 0 < 2147483648 by omega), mF (by decide) (show l.getD k 0 < 7 from hk7), ck_t, inb_k hi7 (by decide), ck_t, cl_k (show i < 2147483648 by omega), mF (by decide) (show i < 7 from hi7), ck_t, (hx.o hk).1.1, (hx.o hi).1.1]
    have d1 := (hx.o hk).1.2.2; have d2 := (hx.o hi).1.2.2
    by_cases q : D 5 (l.getD k 0) 0 ≤ D 5 i 0
    · rw [if_pos (by rw [nI_leI (by omega) (by omega)]; exact q)]
      exact ⟨k + 1, S, rfl, h1, h3, h4, Or.inr q, Md.rf _ S⟩
    · rw [if_neg (by rw [nI_leI (by omega) (by omega)]; exact q), ck_t, inb_k (show k + 1 < 7 by omega) (by decide), ck_t, lt_s_, lt_s_, cl_k (show k + 1 < 2147483648 by omega)]
      have mu : Md [(13, some 3, none)] S (ui S 13 3 (k + 1) (nI (l.getD k 0))) := (Md.rf _ S).ui rfl rfl
      obtain ⟨k', Z, z1, z2, z3, z4, z5, z6⟩ := ih n (ui S 13 3 (k + 1) (nI (l.getD k 0))) (hx.sub mu (by decide)) (by omega) (by omega) (fun j => by
        refine ⟨fun hj => ?_, fun hj hj2 => ?_⟩
        · rw [gi_ui_j _ _ _ _ _ _ (by omega)]; exact (h3 j).1 (by omega)
        · by_cases e : j = k
          · rw [e, gi_ui_s]
          · rw [gi_ui_j _ _ _ _ _ _ (by omega)]; exact (h3 j).2 (by omega) hj2) (fun j hj hj2 => by
        by_cases e : j = k
        · rw [e]; omega
        · exact h4 j (by omega) hj2)
      exact ⟨k', Z, z1, z2, z3, z4, z5, mu.trans z6⟩
theorem lineUp7 (N : Nat) (hN : 10 ≤ N) {D : Pb} : ∀ (m n i : Nat) (S : HS) (l : List Nat), Fx S D → i + m = D 0 0 1 → m < n → RowC S l → rowOk D l → l.length ≤ i → (∀ j, j ∈ l ↔ j < i ∧ D 8 j 0 = 1) → ∃ Z l', f_X4_lineUp_7 csF N n (nI (D 0 0 1)) (nI i) S = some ((), Z) ∧ RowC Z l' ∧ rowOk D l' ∧ l'.length ≤ D 0 0 1 ∧ (∀ j, j ∈ l' ↔ j < D 0 0 1 ∧ D 8 j 0 = 1) := by
  intro m
  induction m with
  | zero =>
    intro n i S l hx h1 h2 h3 h4 h5 h6
    obtain ⟨n, rfl⟩ : ∃ k, n = k + 1 := ⟨n - 1, by omega⟩
    have := hx.a
    refine ⟨S, l, ?_, h3, h4, by omega, fun j => by rw [h6 j, show i = D 0 0 1 by omega]⟩
    rw [f_X4_lineUp_7, if_pos (by rw [nI_leI (by omega) (by omega)]; omega)]
  | succ m ih =>
    intro n i S l hx h1 h2 h3 h4 h5 h6
    obtain ⟨n, rfl⟩ : ∃ k, n = k + 1 := ⟨n - 1, by omega⟩
    have ha := hx.a
    have hi : i < D 0 0 1 := by omega
    have hi7 := (hx.oo hi).1
    obtain ⟨-, -, -, o8, o9⟩ := hx.o hi
    rw [f_X4_lineUp_7, if_neg (by rw [nI_leI (by omega) (by omega)]; omega), mF (by decide) (by decide), ck_t, inb_k hi7 (by decide), ck_t, cl_k (by omega), mF (by decide) (show i < 7 from hi7), ck_t, o8]
    by_cases q : D 8 i 0 = 1
    · rw [if_pos (o9.mpr q), mF (by decide) (by decide), ck_t, lt_s_, h3.1]
      obtain ⟨k, Z, z1, z2, z3, z4, z5, z6⟩ := lineUp27 N (f_X4_lineUp_7 csF N n) (nI (D 0 0 1)) hi (l := l) (by omega) (fun j hj => by have := (h6 j).mp hj; omega) l.length N S hx (Nat.le_refl _) (by omega) (fun j => ⟨fun hj => h3.2 j hj, fun hj hj2 => by omega⟩) (fun j hj hj2 => by omega)
      rw [z1, f_X4_lineUp_77, mF (by decide) (by decide), ck_t, mF (by decide) (by decide), ck_t, inb_k (show k < 7 by omega) (by decide), ck_t, lt_s_, lt_s_, lt_s_, cl_k (show k < 2147483648 by omega), nI_1, gi_ui_c _ _ _ _ _ _ (by decide), z6.gi 12 0 6 rfl, h3.1, nI_1]
      have mu : Md [(12, some 0, some 6), (13, some 3, none)] Z (ui (ui Z 13 3 k (nI i)) 12 0 6 (nI (l.length + 1))) := ((Md.rf _ Z).ui rfl rfl).ui rfl rfl
      have hlen : (l.take k ++ i :: l.drop k).length = l.length + 1 := ins_len z2
      refine ih n (i + 1) _ (l.take k ++ i :: l.drop k) ((hx.sub z6 (by decide)).sub mu (by decide)) (by omega) (by omega) ⟨by rw [gi_ui_s, hlen], fun j hj => ?_⟩ (ins_ok h4 (fun j hj => ((h6 j).mp hj).1) z2 z4 z5) (by omega) (fun j => ?_)
      · rw [gi_ui_c _ _ _ _ _ _ (by decide), ins_get z2]
        rw [hlen] at hj
        by_cases q1 : j < k
        · rw [if_pos q1, gi_ui_j _ _ _ _ _ _ (by omega)]; exact (z3 j).1 q1
        · rw [if_neg q1]
          by_cases q2 : j = k
          · rw [if_pos q2, q2, gi_ui_s]
          · rw [if_neg q2, gi_ui_j _ _ _ _ _ _ q2]
            have := (z3 (j - 1)).2 (by omega) (by omega)
            rw [show j - 1 + 1 = j by omega] at this
            exact this
      · rw [ins_mem, h6 j]
        constructor
        · rintro (x | x)
          · rw [x]; exact ⟨by omega, q⟩
          · exact ⟨by omega, x.2⟩
        · rintro ⟨x, y⟩
          by_cases e : j = i
          · exact Or.inl e
          · exact Or.inr ⟨by omega, y⟩
    · rw [if_neg (fun x => q (o9.mp x)), lt_s_, nI_1]
      refine ih n (i + 1) S l hx (by omega) (by omega) h3 h4 (by omega) (fun j => ?_)
      rw [h6 j]
      constructor
      · rintro ⟨x, y⟩; exact ⟨by omega, y⟩
      · rintro ⟨x, y⟩
        refine ⟨?_, y⟩
        by_cases e : j = i
        · rw [e] at y; exact absurd y q
        · omega
theorem X4_lineUp_eq (N : Nat) (hN : 10 ≤ N) {S : HS} {D : Pb} (hx : Fx S D) : ∃ Z l, f_X4_lineUp csF N (nI (D 0 0 1)) S = some ((), Z) ∧ RowC Z l ∧ rowOk D l ∧ l.length ≤ D 0 0 1 ∧ (∀ j, j ∈ l ↔ j < D 0 0 1 ∧ D 8 j 0 = 1) ∧ Md ml_X4_lineUp S Z := by
  have mu : Md [(12, some 0, some 6)] S (ui S 12 0 6 0) := (Md.rf _ S).ui rfl rfl
  have ha := hx.a
  obtain ⟨Z, l, z1, z2, z3, z4, z5⟩ := lineUp7 N hN (D 0 0 1) N 0 (ui S 12 0 6 0) [] (hx.sub mu (by decide)) (by omega) (by omega) ⟨by rw [gi_ui_s]; rfl, fun j hj => by simp at hj⟩ (row_nil D) (by simp) (fun j => by simp)
  have e : f_X4_lineUp csF N (nI (D 0 0 1)) S = some ((), Z) := by
    rw [f_X4_lineUp, mF (by decide) (by decide), ck_t, lt_s_]
    exact z1
  exact ⟨Z, l, e, z2, z3, z4, z5, md_X4_lineUp _ _ _ _ _ _ e⟩
/-! the same in the other object, for a set -/
theorem bit_0 : ∀ s, s < 128 → ∀ i, i < 7 → ((nI s >>> (nI i &&& 31)) &&& 1 = 0 ↔ s.testBit i = false) := by decide +kernel
theorem bit_1 : ∀ s, s < 128 → ∀ i, i < 7 → ((nI s >>> (nI i &&& 31)) &&& 1 = 1 ↔ s.testBit i = true) := by decide +kernel
def HoM (S : HS) (l : List Nat) (k : Nat) : Prop := ∀ j, (j < k → gi S 31 20 j = nI (l.getD j 0)) ∧ (k ≤ j → j < l.length → gi S 31 20 (j + 1) = nI (l.getD j 0))
def RowM (S : HS) (l : List Nat) : Prop := gi S 30 0 36 = nI l.length ∧ ∀ j, j < l.length → gi S 31 20 j = nI (l.getD j 0)
theorem sorts31 (N : Nat) (K : Int32 → Int32 → HS → Option (Unit × HS)) (v1 : Int32) {D : Pb} {i : Nat} (hi : i < D 0 0 1) {l : List Nat} (hl : l.length ≤ 6) (hm : ∀ j, j ∈ l → j < D 0 0 1) : ∀ (k n : Nat) (S : HS), Sx S D → k ≤ l.length → k < n → HoM S l k → (∀ j, k ≤ j → j < l.length → D 5 i 0 < D 5 (l.getD j 0) 0) → ∃ k' Z, f_X9_sorts_31 csF N K n v1 (nI i) (nI k) S = f_X9_sorts_77 csF N K v1 (nI i) (nI k') Z ∧ k' ≤ l.length ∧ HoM Z l k' ∧ (∀ j, k' ≤ j → j < l.length → D 5 i 0 < D 5 (l.getD j 0) 0) ∧ (k' = 0 ∨ D 5 (l.getD (k' - 1) 0) 0 ≤ D 5 i 0) ∧ Md [(31, some 20, none)] S Z := by
  intro k
  induction k with
  | zero =>
    intro n S hx h1 h2 h3 h4
    obtain ⟨n, rfl⟩ : ∃ k, n = k + 1 := ⟨n - 1, by omega⟩
    refine ⟨0, S, ?_, h1, h3, h4, Or.inl rfl, Md.rf _ S⟩
    rw [f_X9_sorts_31, if_pos (by decide)]
  | succ k ih =>
    intro n S hx h1 h2 h3 h4
    obtain ⟨n, rfl⟩ : ∃ k, n = k + 1 := ⟨n - 1, by omega⟩
    have hi7 := (hx.oo hi).1
    have hk : l.getD k 0 < D 0 0 1 := hm _ (getD_mem (by omega))
    have hk7 := (hx.oo hk).1
    have e1 : nI (k + 1) - 1 = nI k := nI_sb (a := k + 1) (b := 1) (by omega) (by omega)
    have e2 : nI (k + 1) + -1 = nI k := by rw [i_eq, i_add (by rw [nI_toInt (by omega)]; simp; omega) (by rw [nI_toInt (by omega)]; simp; omega), nI_toInt (by omega), nI_toInt (by omega)]; simp; omega
    have ec : gi S 31 20 k = nI (l.getD k 0) := (h3 k).1 (by omega)
    rw [f_X9_sorts_31, if_neg (by rw [show (0 : Int32) = nI 0 from rfl, nI_leI (by omega) (by omega)]; omega), mF (by decide) (by decide), ck_t, mF (by decide) (by decide), ck_t, e1, e2, inb_k (show k < 7 by omega) (by decide), ck_t, mF (by decide) (by decide), ck_t, cl_k (show k < 2147483648 by omega), ec, inb_k hk7 (by decide), ck_t, cl_k (show l.getD k 0 < 2147483648 by omega), inb_k hi7 (by decide), ck_t, cl_k (show i < 2147483648 by omega), (hx.o hk).1.2.1, (hx.o hi).1.2.1]
    have d1 := (hx.o hk).1.2.2; have d2 := (hx.o hi).1.2.2
    by_cases q : D 5 (l.getD k 0) 0 ≤ D 5 i 0
    · rw [if_pos (by rw [nI_leI (by omega) (by omega)]; exact q)]
      exact ⟨k + 1, S, rfl, h1, h3, h4, Or.inr q, Md.rf _ S⟩
    · rw [if_neg (by rw [nI_leI (by omega) (by omega)]; exact q), ck_t, inb_k (show k + 1 < 7 by omega) (by decide), ck_t, lt_s_, lt_s_, cl_k (show k + 1 < 2147483648 by omega)]
      have mu : Md [(31, some 20, none)] S (ui S 31 20 (k + 1) (nI (l.getD k 0))) := (Md.rf _ S).ui rfl rfl
      obtain ⟨k', Z, z1, z2, z3, z4, z5, z6⟩ := ih n (ui S 31 20 (k + 1) (nI (l.getD k 0))) (hx.md mu rfl (fun _ => rfl)) (by omega) (by omega) (fun j => by
        refine ⟨fun hj => ?_, fun hj hj2 => ?_⟩
        · rw [gi_ui_j _ _ _ _ _ _ (by omega)]; exact (h3 j).1 (by omega)
        · by_cases e : j = k
          · rw [e, gi_ui_s]
          · rw [gi_ui_j _ _ _ _ _ _ (by omega)]; exact (h3 j).2 (by omega) hj2) (fun j hj hj2 => by
        by_cases e : j = k
        · rw [e]; omega
        · exact h4 j (by omega) hj2)
      exact ⟨k', Z, z1, z2, z3, z4, z5, mu.trans z6⟩
theorem sorts7 (N : Nat) (hN : 10 ≤ N) {D : Pb} {s : Nat} (hs : s < 128) : ∀ (m n i : Nat) (S : HS) (l : List Nat), Sx S D → i + m = D 0 0 1 → m < n → RowM S l → rowOk D l → l.length ≤ i → (∀ j, j ∈ l ↔ j < i ∧ s.testBit j = true) → ∃ Z l', f_X9_sorts_7 csF N n (nI s) (nI i) S = some ((), Z) ∧ RowM Z l' ∧ rowOk D l' ∧ l'.length ≤ D 0 0 1 ∧ (∀ j, j ∈ l' ↔ j < D 0 0 1 ∧ s.testBit j = true) := by
  intro m
  induction m with
  | zero =>
    intro n i S l hx h1 h2 h3 h4 h5 h6
    obtain ⟨n, rfl⟩ : ∃ k, n = k + 1 := ⟨n - 1, by omega⟩
    have ha := hx.a
    refine ⟨S, l, ?_, h3, h4, by omega, fun j => by rw [h6 j, show i = D 0 0 1 by omega]⟩
    rw [f_X9_sorts_7, mF (by decide) (by decide), ck_t, ha.2.2.2.1, if_pos (by rw [nI_leI (by omega) (by omega)]; omega)]
  | succ m ih =>
    intro n i S l hx h1 h2 h3 h4 h5 h6
    obtain ⟨n, rfl⟩ : ∃ k, n = k + 1 := ⟨n - 1, by omega⟩
    have ha := hx.a
    have hi : i < D 0 0 1 := by omega
    have hi7 := (hx.oo hi).1
    rw [f_X9_sorts_7, mF (by decide) (by decide), ck_t, ha.2.2.2.1, if_neg (by rw [nI_leI (by omega) (by omega)]; omega)]
    by_cases q : s.testBit i = true
    · rw [if_neg (by rw [bit_0 s hs i hi7, q]; decide), lt_s_, h3.1]
      obtain ⟨k, Z, z1, z2, z3, z4, z5, z6⟩ := sorts31 N (f_X9_sorts_7 csF N n) (nI s) hi (l := l) (by omega) (fun j hj => by have := (h6 j).mp hj; omega) l.length N S hx (Nat.le_refl _) (by omega) (fun j => ⟨fun hj => h3.2 j hj, fun hj hj2 => by omega⟩) (fun j hj hj2 => by omega)
      rw [z1, f_X9_sorts_77, mF (by decide) (by decide), ck_t, mF (by decide) (by decide), ck_t, inb_k (show k < 7 by omega) (by decide), ck_t, lt_s_, lt_s_, lt_s_, cl_k (show k < 2147483648 by omega), nI_1, gi_ui_c _ _ _ _ _ _ (by decide), z6.gi 30 0 36 rfl, h3.1, nI_1]
      have mu : Md [(30, some 0, some 36), (31, some 20, none)] Z (ui (ui Z 31 20 k (nI i)) 30 0 36 (nI (l.length + 1))) := ((Md.rf _ Z).ui rfl rfl).ui rfl rfl
      have hlen : (l.take k ++ i :: l.drop k).length = l.length + 1 := ins_len z2
      refine ih n (i + 1) _ (l.take k ++ i :: l.drop k) ((hx.md z6 rfl (fun _ => rfl)).md mu rfl (fun _ => rfl)) (by omega) (by omega) ⟨by rw [gi_ui_s, hlen], fun j hj => ?_⟩ (ins_ok h4 (fun j hj => ((h6 j).mp hj).1) z2 z4 z5) (by omega) (fun j => ?_)
      · rw [gi_ui_c _ _ _ _ _ _ (by decide), ins_get z2]
        rw [hlen] at hj
        by_cases q1 : j < k
        · rw [if_pos q1, gi_ui_j _ _ _ _ _ _ (by omega)]; exact (z3 j).1 q1
        · rw [if_neg q1]
          by_cases q2 : j = k
          · rw [if_pos q2, q2, gi_ui_s]
          · rw [if_neg q2, gi_ui_j _ _ _ _ _ _ q2]
            have := (z3 (j - 1)).2 (by omega) (by omega)
            rw [show j - 1 + 1 = j by omega] at this
            exact this
      · rw [ins_mem, h6 j]
        constructor
        · rintro (x | x)
          · rw [x]; exact ⟨by omega, q⟩
          · exact ⟨by omega, x.2⟩
        · rintro ⟨x, y⟩
          by_cases e : j = i
          · exact Or.inl e
          · exact Or.inr ⟨by omega, y⟩
    · rw [if_pos (by rw [bit_0 s hs i hi7]; simpa using q), lt_s_, nI_1]
      refine ih n (i + 1) S l hx (by omega) (by omega) h3 h4 (by omega) (fun j => ?_)
      rw [h6 j]
      constructor
      · rintro ⟨x, y⟩; exact ⟨by omega, y⟩
      · rintro ⟨x, y⟩
        refine ⟨?_, y⟩
        by_cases e : j = i
        · rw [e] at y; exact absurd y q
        · omega
theorem X9_sorts_eq (N : Nat) (hN : 10 ≤ N) {S : HS} {D : Pb} (hx : Sx S D) {s : Nat} (hs : s < 128) : ∃ Z l, f_X9_sorts csF N (nI s) S = some ((), Z) ∧ RowM Z l ∧ rowOk D l ∧ l.length ≤ D 0 0 1 ∧ (∀ j, j ∈ l ↔ j < D 0 0 1 ∧ s.testBit j = true) ∧ Md ml_X9_sorts S Z := by
  have mu : Md [(30, some 0, some 36)] S (ui S 30 0 36 0) := (Md.rf _ S).ui rfl rfl
  have ha := hx.a
  obtain ⟨Z, l, z1, z2, z3, z4, z5⟩ := sorts7 N hN hs (D 0 0 1) N 0 (ui S 30 0 36 0) [] (hx.md mu rfl (fun _ => rfl)) (by omega) (by omega) ⟨by rw [gi_ui_s]; rfl, fun j hj => by simp at hj⟩ (row_nil D) (by simp) (fun j => by simp)
  have e : f_X9_sorts csF N (nI s) S = some ((), Z) := by
    rw [f_X9_sorts, mF (by decide) (by decide), ck_t, lt_s_]
    exact z1
  exact ⟨Z, l, e, z2, z3, z4, z5, md_X9_sorts _ _ _ _ _ _ e⟩
