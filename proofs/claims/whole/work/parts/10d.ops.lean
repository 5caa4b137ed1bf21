theorem btw_10 (a : Int32) : btw 0 (a - 10) 3 ↔ btw 10 a 13 := by
  have h1 := i_lo a
  have h2 := i_hi a
  have h10 : (10 : Int32).toInt = 10 := rfl
  have h13 : (13 : Int32).toInt = 13 := rfl
  have h3 : (3 : Int32).toInt = 3 := rfl
  have h0 : (0 : Int32).toInt = 0 := rfl
  unfold btw
  rw [Int32.toInt_sub, h10, h13, h3, h0, Int.bmod_def]
  constructor
  · intro q
    split at q <;> omega
  · intro q
    split <;> omega
theorem btw_20 (a : Int32) : btw 0 (a - 20) 3 ↔ btw 20 a 23 := by
  have h1 := i_lo a
  have h2 := i_hi a
  have h10 : (20 : Int32).toInt = 20 := rfl
  have h13 : (23 : Int32).toInt = 23 := rfl
  have h3 : (3 : Int32).toInt = 3 := rfl
  have h0 : (0 : Int32).toInt = 0 := rfl
  unfold btw
  rw [Int32.toInt_sub, h10, h13, h3, h0, Int.bmod_def]
  constructor
  · intro q
    split at q <;> omega
  · intro q
    split <;> omega
theorem op_look (N : Nat) (hN : 8 ≤ N) (a : Int32) : OpOk (f_X8_look csF N a) (f_X9_look csF N a) := by
  intro S hI
  obtain ⟨hA, hF, hH, hP, hO, hR, hT, hE, hB⟩ := id hI
  obtain ⟨a1, a2, a3, a4, a5⟩ := id hA
  obtain ⟨e9, hc⟩ := nat_rg a4
  have hc7 : nat (gi S 30 0 1) ≤ 7 := by omega
  have e9' : gi S 0 0 9 = nI (nat (gi S 30 0 1)) := a3.trans e9
  have hcn : ∀ st : Int32, cnh (fun j => decide (gi S 7 j 8 = st)) (nat (gi S 30 0 1)) 0 = cnh (fun j => decide (gi S 31 13 j = st)) (nat (gi S 30 0 1)) 0 := by
    intro st
    apply cnh_congr
    intro j _ h2
    have : (j : Int) < (gi S 30 0 1).toInt := by rw [e9, nI_toInt (by omega)]; omega
    rw [((hO j (by omega)).2.1 this).2.2.2.2.2.2.2.1.1]
  have hC : ∀ st : Int32, f_X8_countOrders csF N st S = some (nI (cnh (fun j => decide (gi S 31 13 j = st)) (nat (gi S 30 0 1)) 0), S) := by
    intro st
    have := X8_count_loop N S st hc7 e9' (nat (gi S 30 0 1)) N 0 0 (by omega) (by omega)
    unfold f_X8_countOrders
    rw [← hcn st]
    simpa [nI_0] using this
  have hM : ∀ what st : Int32, ((what = 2 ∧ st = 0) ∨ (what = 3 ∧ st = 1) ∨ (what = 4 ∧ st = 3)) → f_X9_look_52 csF N N what 0 0 S = some (nI (cnh (fun j => decide (gi S 31 13 j = st)) (nat (gi S 30 0 1)) 0), S) := by
    intro what st hw
    have := X9_look_loop N S what st hw hc7 e9 (nat (gi S 30 0 1)) N 0 0 (by omega) (by omega)
    simpa [nI_0] using this
  have n10 : ∀ b : Int32, ¬ btw 10 b 13 ↔ ¬ btw 0 (b - 10) 3 := fun b => not_congr (btw_10 b).symm
  by_cases h1 : btw 10 a 13
  · have h1' := (btw_10 a).mpr h1
    obtain ⟨k, hk, ek⟩ := btw_nI (hi := 3) h1' (by decide)
    have hk4 : k < 4 := by omega
    have ck4 : (nI k).toNatClampNeg = k := cl_k (by omega)
    have ib4 : inb (nI k) 4 = true := inb_k hk4 (by decide)
    obtain ⟨q0, q1, q2, q3⟩ := hF k hk4
    have ne : ∀ v : Int32, v.toInt < 10 → ¬ a = v := fun v hv q => by subst q; unfold btw at h1; simp at h1; omega
    have n0 := ne 0 (by decide); have n1 := ne 1 (by decide); have n2 := ne 2 (by decide); have n3 := ne 3 (by decide); have n4 := ne 4 (by decide); have n5 := ne 5 (by decide)
    refine ⟨gi S 31 1 k, S, S, ?_, ?_, hI⟩
    · rw [ek] at h1'
      simp [f_X8_look, X8_isFamily_eq, ob_s, if_bif, bif_t _ _ h1', mcF, cnt, ck_t, ek, ck4, ib4, hk4, q1]
    · simp [f_X9_look, X9_isIn_eq, ob_s, if_bif, n0, n1, n2, n3, n4, n5, bif_t _ _ h1, mcF, cnt, ck_t, ek, ck4, ib4]
  · have h1' : ¬ btw 0 (a - 10) 3 := fun q => h1 ((btw_10 a).mp q)
    by_cases h2 : btw 20 a 23
    · have h2' := (btw_20 a).mpr h2
      obtain ⟨k, hk, ek⟩ := btw_nI (hi := 3) h2' (by decide)
      have hk4 : k < 4 := by omega
      have ck4 : (nI k).toNatClampNeg = k := cl_k (by omega)
      have ib4 : inb (nI k) 4 = true := inb_k hk4 (by decide)
      obtain ⟨q0, q1, q2, q3⟩ := hF k hk4
      have ne : ∀ v : Int32, v.toInt < 10 → ¬ a = v := fun v hv q => by subst q; unfold btw at h2; simp at h2; omega
      have n0 := ne 0 (by decide); have n1 := ne 1 (by decide); have n2 := ne 2 (by decide); have n3 := ne 3 (by decide); have n4 := ne 4 (by decide); have n5 := ne 5 (by decide)
      refine ⟨gi S 31 2 k, S, S, ?_, ?_, hI⟩
      · rw [ek] at h2'
        simp [f_X8_look, X8_isFamily_eq, ob_s, if_bif, bif_f _ _ h1', bif_t _ _ h2', mcF, cnt, ck_t, ek, ck4, ib4, hk4, q3]
      · simp [f_X9_look, X9_isIn_eq, ob_s, if_bif, n0, n1, n2, n3, n4, n5, bif_f _ _ h1, bif_t _ _ h2, mcF, cnt, ck_t, ek, ck4, ib4]
    · have h2' : ¬ btw 0 (a - 20) 3 := fun q => h2 ((btw_20 a).mp q)
      by_cases n0 : a = 0
      · refine ⟨gi S 30 0 0, S, S, ?_, ?_, hI⟩
        · simp only [f_X8_look, X8_isFamily_eq, ob_s, if_bif, bif_f _ _ h1', bif_f _ _ h2', if_pos n0, mcF, cnt, ck_t, a1]; simp [ck_t]
        · simp only [f_X9_look, if_pos n0, mcF, cnt, ck_t]; simp [ck_t]
      · by_cases n1 : a = 1
        · refine ⟨gi S 30 0 1, S, S, ?_, ?_, hI⟩
          · simp only [f_X8_look, X8_isFamily_eq, ob_s, if_bif, bif_f _ _ h1', bif_f _ _ h2', if_neg n0, if_pos n1, mcF, cnt, ck_t, a3]; simp [ck_t]
          · simp only [f_X9_look, if_neg n0, if_pos n1, mcF, cnt, ck_t]; simp [ck_t]
        · by_cases n2 : a = 2
          · refine ⟨nI (cnh (fun j => decide (gi S 31 13 j = 0)) (nat (gi S 30 0 1)) 0), S, S, ?_, ?_, hI⟩
            rotate_left
            · simp only [f_X9_look, if_neg n0, if_neg n1, if_pos n2]
              exact hM a 0 (Or.inl ⟨n2, rfl⟩)
            · simp only [f_X8_look, X8_isFamily_eq, ob_s, if_bif, bif_f _ _ h1', bif_f _ _ h2', if_neg n0, if_neg n1, if_pos n2, mcF, cnt, ck_t, hC]; simp [ck_t]
          · by_cases n3 : a = 3
            · refine ⟨nI (cnh (fun j => decide (gi S 31 13 j = 1)) (nat (gi S 30 0 1)) 0), S, S, ?_, ?_, hI⟩
              rotate_left
              · simp only [f_X9_look, if_neg n0, if_neg n1, if_neg n2, if_pos n3]
                exact hM a 1 (Or.inr (Or.inl ⟨n3, rfl⟩))
              · simp only [f_X8_look, X8_isFamily_eq, ob_s, if_bif, bif_f _ _ h1', bif_f _ _ h2', if_neg n0, if_neg n1, if_neg n2, if_pos n3, mcF, cnt, ck_t, hC]; simp [ck_t]
            · by_cases n4 : a = 4
              · refine ⟨nI (cnh (fun j => decide (gi S 31 13 j = 3)) (nat (gi S 30 0 1)) 0), S, S, ?_, ?_, hI⟩
                rotate_left
                · simp only [f_X9_look, if_neg n0, if_neg n1, if_neg n2, if_neg n3, if_pos n4]
                  exact hM a 3 (Or.inr (Or.inr ⟨n4, rfl⟩))
                · simp only [f_X8_look, X8_isFamily_eq, ob_s, if_bif, bif_f _ _ h1', bif_f _ _ h2', if_neg n0, if_neg n1, if_neg n2, if_neg n3, if_pos n4, mcF, cnt, ck_t, hC]; simp [ck_t]
              · by_cases n5 : a = 5
                · refine ⟨gi S 30 0 2, S, S, ?_, ?_, hI⟩
                  · simp only [f_X8_look, X8_isFamily_eq, ob_s, if_bif, bif_f _ _ h1', bif_f _ _ h2', if_neg n0, if_neg n1, if_neg n2, if_neg n3, if_neg n4, if_pos n5, mcF, cnt, ck_t, a5]; simp [ck_t]
                  · simp only [f_X9_look, if_neg n0, if_neg n1, if_neg n2, if_neg n3, if_neg n4, if_pos n5, mcF, cnt, ck_t]; simp [ck_t]
                · refine ⟨-1, S, S, ?_, ?_, hI⟩
                  · simp only [f_X8_look, X8_isFamily_eq, ob_s, if_bif, bif_f _ _ h1', bif_f _ _ h2', if_neg n0, if_neg n1, if_neg n2, if_neg n3, if_neg n4, if_neg n5]; simp
                  · simp only [f_X9_look, X9_isIn_eq, ob_s, if_bif, bif_f _ _ h1, bif_f _ _ h2, if_neg n0, if_neg n1, if_neg n2, if_neg n3, if_neg n4, if_neg n5]; simp
/-! how many gross are made -/
def brk (b m : Nat) : Nat := (m * b + 99) / 100
theorem brk_i {b m : Nat} (hb : b ≤ 90) (hm : m ≤ 200) : ((nI m * nI b) + 99) / 100 = nI (brk b m) ∧ brk b m ≤ m ∧ nI m - nI (brk b m) = nI (m - brk b m) := by
  have h1 : m * b ≤ 200 * 90 := Nat.mul_le_mul hm hb
  have h3 : brk b m ≤ m := by
    unfold brk
    have : m * b ≤ m * 90 := Nat.mul_le_mul_left m hb
    omega
  refine ⟨?_, h3, pk_sub h3⟩
  rw [show (99 : Int32) = nI 99 from rfl, show (100 : Int32) = nI 100 from rfl, pk_mul, nI_add, pk_div (by omega) (by decide) (by decide)]
  rfl
/-- the fewest of which g come whole, looked for from m on, at most n steps -/
def mkF (g b : Nat) : Nat → Nat → Nat
  | 0, m => m
  | n + 1, m => if g ≤ m - brk b m then m else mkF g b n (m + 1)
def mk (g b : Nat) : Nat := mkF g b (200 - g) g
theorem mkF_le (g b : Nat) : ∀ n m, m ≤ mkF g b n m ∧ mkF g b n m ≤ m + n
  | 0, m => ⟨Nat.le_refl m, Nat.le_refl m⟩
  | n + 1, m => by
    unfold mkF
    split
    · omega
    · have := mkF_le g b n (m + 1)
      omega
theorem mk_rng {g b : Nat} (hg : 1 ≤ g) (hg2 : g ≤ 20) : 1 ≤ mk g b ∧ mk g b ≤ 200 := by
  have := mkF_le g b (200 - g) g
  unfold mk
  omega
theorem X3_gross_loop (N : Nat) (S : HS) {k g b : Nat} (hk : k < 6) (hb : b ≤ 90) (hg2 : g ≤ 20) (e : gi S 6 k 2 = nI b) : ∀ (n j m : Nat), m + j = 200 → j < n → f_X3_grossToMake_2 csF N n k (nI g) (nI m) S = some (nI (mkF g b j m), S) := by
  intro n
  induction n with
  | zero => intro j m h1 h2; omega
  | succ n ih =>
    intro j m h1 h2
    cases j with
    | zero =>
      have : (200 : Int32) ≤ nI m := by rw [show (200 : Int32) = nI 200 from rfl, nI_leI (by omega) (by omega)]; omega
      have em : m = 200 := by omega
      subst em
      simp [f_X3_grossToMake_2, this, mkF]
      rfl
    | succ j =>
      have h200 : ¬ (200 : Int32) ≤ nI m := by rw [show (200 : Int32) = nI 200 from rfl, nI_leI (by omega) (by omega)]; omega
      obtain ⟨b1, b2, b3⟩ := brk_i hb (show m ≤ 200 by omega)
      by_cases q : g ≤ m - brk b m
      · have : ¬ nI (m - brk b m) < nI g := by rw [nI_ltI (by omega) (by omega)]; omega
        simp [f_X3_grossToMake_2, h200, mcF, cnt, hk, ck_t, lt_s_, e, b1, b3, this, mkF, q]
      · have : nI (m - brk b m) < nI g := by rw [nI_ltI (by omega) (by omega)]; omega
        simp [f_X3_grossToMake_2, h200, mcF, cnt, hk, ck_t, lt_s_, e, b1, b3, this, mkF, q, nI_1, ih j (m + 1) (by omega) (by omega)]
/-- what reckoning anew makes of an order -/
def rkA (S : HS) (i : Nat) (m t n : Int32) : HS := ui (ui (ui (ui (ui S 7 i 5 m) 7 i 6 (m * t)) 7 i 7 (m * n)) 7 i 9 0) 7 i 10 (-1)
theorem X6_reckon_eq (N : Nat) (hN : 201 ≤ N) (S : HS) {i p g b : Nat} (hi : i < 7) (hp : p < 6) (hg : 1 ≤ g) (hg2 : g ≤ 20) (hb : b ≤ 90) (e1 : gi S 7 i 2 = nI g) (e2 : gi S 6 p 2 = nI b) : f_X6_reckonAnew csF N i p S = some ((), rkA S i (nI (mk g b)) (gi S 6 p 0) (gi S 6 p 1)) := by
  have h := X3_gross_loop N S hp hb hg2 e2 N (200 - g) g (by omega) (by omega)
  unfold f_X6_reckonAnew f_X3_grossToMake rkA
  simp [mcF, cnt, hi, hp, ck_t, lt_s_, ob_s, e1, h, gi_ui, mk]
def rkB (S : HS) (i : Nat) (m t n : Int32) : HS := ui (ui (ui (ui (ui S 31 10 i m) 31 11 i (m * t)) 31 12 i (m * n)) 31 14 i 0) 31 15 i (-1)
theorem X9_counts_loop (N : Nat) (S : HS) {i p g b : Nat} (hi : i < 7) (hp : p < 6) (hb : b ≤ 90) (hg2 : g ≤ 20) (e1 : gi S 31 7 i = nI g) (e2 : gi S 31 5 p = nI b) : ∀ (n j m : Nat), m + j = 200 → j < n → f_X9_counts_14 csF N n (nI i) (nI p) (nI m) S = some ((), rkB S i (nI (mkF g b j m)) (gi S 31 3 p) (gi S 31 4 p)) := by
  have ci : (nI i).toNatClampNeg = i := cl_k (by omega)
  have ii : inb (nI i) 7 = true := inb_k hi (by decide)
  have cp : (nI p).toNatClampNeg = p := cl_k (by omega)
  have ip : inb (nI p) 6 = true := inb_k hp (by decide)
  intro n
  induction n with
  | zero => intro j m h1 h2; omega
  | succ n ih =>
    intro j m h1 h2
    obtain ⟨b1, b2, b3⟩ := brk_i hb (show m ≤ 200 by omega)
    cases j with
    | zero =>
      have em : m = 200 := by omega
      subst em
      have q : g ≤ 200 - brk b 200 := by unfold brk; omega
      have : nI g ≤ nI (200 - brk b 200) := by rw [nI_leI (by omega) (by omega)]; exact q
      simp [f_X9_counts_14, mcF, cnt, ck_t, lt_s_, ci, ii, cp, ip, e1, e2, b1, b3, this, mkF, rkB, gi_ui]
    | succ j =>
      by_cases q : g ≤ m - brk b m
      · have : nI g ≤ nI (m - brk b m) := by rw [nI_leI (by omega) (by omega)]; exact q
        simp [f_X9_counts_14, mcF, cnt, ck_t, lt_s_, ci, ii, cp, ip, e1, e2, b1, b3, this, mkF, q, rkB, gi_ui]
      · have : ¬ nI g ≤ nI (m - brk b m) := by rw [nI_leI (by omega) (by omega)]; exact q
        simp [f_X9_counts_14, mcF, cnt, ck_t, lt_s_, ci, ii, cp, ip, e1, e2, b1, b3, this, mkF, q, nI_1, ih j (m + 1) (by omega) (by omega)]
theorem X9_counts_eq (N : Nat) (hN : 201 ≤ N) (S : HS) {i p g b : Nat} (hi : i < 7) (hp : p < 6) (hb : b ≤ 90) (hg2 : g ≤ 20) (e0 : gi S 31 6 i = nI p) (e1 : gi S 31 7 i = nI g) (e2 : gi S 31 5 p = nI b) : f_X9_counts csF N (nI i) S = some ((), rkB S i (nI (mk g b)) (gi S 31 3 p) (gi S 31 4 p)) := by
  have h := X9_counts_loop N S hi hp hb hg2 e1 e2 N (200 - g) g (by omega) (by omega)
  have ci : (nI i).toNatClampNeg = i := cl_k (by omega)
  have ii : inb (nI i) 7 = true := inb_k hi (by decide)
  unfold f_X9_counts mk
  simp [mcF, cnt, ck_t, lt_s_, ci, ii, e0, e1, h]
