/-! ===== best: sets of orders ===== -/
def selN (l : List Nat) : Nat → Nat → List Nat
  | 0, _ => []
  | n + 1, s => selN l n s ++ (if s.testBit n = true then [l.getD n 0] else [])
def sel (l : List Nat) (s : Nat) : List Nat := selN l 7 s
theorem selN_cg {l : List Nat} {s s' : Nat} : ∀ n, (∀ j, j < n → s.testBit j = s'.testBit j) → selN l n s = selN l n s'
  | 0, _ => rfl
  | n + 1, h => by
    unfold selN
    rw [selN_cg n (fun j hj => h j (by omega)), h n (by omega)]
theorem tb_lt {s k j : Nat} (h : s < 2 ^ k) (hj : k ≤ j) : s.testBit j = false := Nat.testBit_lt_two_pow (Nat.lt_of_lt_of_le h (Nat.pow_le_pow_right (by decide) hj))
theorem selN_st {l : List Nat} {s k : Nat} (h : s < 2 ^ k) : ∀ d, selN l (k + d) s = selN l k s
  | 0 => rfl
  | d + 1 => by
    show selN l (k + d) s ++ (if s.testBit (k + d) = true then [l.getD (k + d) 0] else []) = _
    rw [tb_lt h (by omega), selN_st h d]
    simp
theorem sel_k {l : List Nat} {s k : Nat} (h : s < 2 ^ k) (hk : k ≤ 7) : sel l s = selN l k s := by
  have := selN_st (l := l) h (7 - k)
  rw [show k + (7 - k) = 7 by omega] at this
  exact this
theorem sel_0 (l : List Nat) : sel l 0 = [] := by rw [sel_k (k := 0) (by decide) (by decide)]; rfl
theorem sel_add {l : List Nat} {a k : Nat} (h : a < 2 ^ k) (hk : k < 7) : sel l (2 ^ k + a) = sel l a ++ [l.getD k 0] := by
  have h2 : 2 ^ k + a < 2 ^ (k + 1) := by rw [Nat.pow_succ]; omega
  rw [sel_k h2 (by omega), sel_k h (by omega)]
  show selN l k (2 ^ k + a) ++ (if (2 ^ k + a).testBit k = true then [l.getD k 0] else []) = _
  have e : (2 ^ k + a).testBit k = true := by
    rw [Nat.testBit_two_pow_add_eq, tb_lt h (Nat.le_refl k)]
    rfl
  rw [e, if_pos rfl, selN_cg k (fun j hj => Nat.testBit_two_pow_add_gt hj a)]
theorem selN_mem {l : List Nat} {s i : Nat} : ∀ n, i ∈ selN l n s ↔ ∃ j, j < n ∧ s.testBit j = true ∧ l.getD j 0 = i
  | 0 => by simp [selN]
  | n + 1 => by
    unfold selN
    rw [List.mem_append, selN_mem n]
    constructor
    · rintro (⟨j, h1, h2, h3⟩ | h)
      · exact ⟨j, by omega, h2, h3⟩
      · by_cases q : s.testBit n = true
        · rw [if_pos q] at h
          exact ⟨n, by omega, q, (List.mem_singleton.mp h).symm⟩
        · rw [if_neg q] at h
          cases h
    · rintro ⟨j, h1, h2, h3⟩
      by_cases q : j = n
      · subst q
        rw [if_pos h2]
        exact Or.inr (List.mem_singleton.mpr h3.symm)
      · exact Or.inl ⟨j, by omega, h2, h3⟩
theorem selN_len {l : List Nat} {s : Nat} : ∀ n, (selN l n s).length ≤ n
  | 0 => by simp [selN]
  | n + 1 => by
    unfold selN
    have := selN_len (l := l) (s := s) n
    rw [List.length_append]
    split <;> simp <;> omega
theorem selN_row {D : Pb} {l : List Nat} {s : Nat} (h : rowOk D l) : ∀ n, n ≤ l.length → rowOk D (selN l n s)
  | 0, _ => row_nil D
  | n + 1, hn => by
    unfold selN
    rw [row_app]
    refine ⟨selN_row h n (by omega), ?_, fun a ha b hb => ?_⟩
    · split
      · exact List.pairwise_singleton _ _
      · exact row_nil D
    · by_cases q : s.testBit n = true
      · rw [if_pos q] at hb
        rw [List.mem_singleton.mp hb]
        obtain ⟨j, h1, h2, h3⟩ := (selN_mem n).mp ha
        rw [← h3]
        exact row_get h h1 (by omega)
      · rw [if_neg q] at hb
        cases hb
theorem sel_row {D : Pb} {l : List Nat} {s : Nat} (h : rowOk D l) (hl : l.length ≤ 7) (hs : s < 2 ^ l.length) : rowOk D (sel l s) := by
  rw [sel_k hs hl]
  exact selN_row h _ (Nat.le_refl _)
theorem sel_mem {l : List Nat} {s i : Nat} (hl : l.length ≤ 7) (hs : s < 2 ^ l.length) : i ∈ sel l s ↔ ∃ j, j < l.length ∧ s.testBit j = true ∧ l.getD j 0 = i := by
  rw [sel_k hs hl]
  exact selN_mem _
def rnk (D : Pb) (f : Nat) (l : List Nat) : Int := (l.map (gainD D f)).sum
theorem rnk_app (D : Pb) (f : Nat) (l l' : List Nat) : rnk D f (l ++ l') = rnk D f l + rnk D f l' := by unfold rnk; rw [List.map_append, List.sum_append]
theorem un5_le (i : Nat) : un5 i ≤ 15625 ∧ 1 ≤ un5 i := by
  unfold un5
  split <;> omega
theorem gain_rg {D : Pb} (hD : dOk D) {f i : Nat} (hf : f < 4) (hi : i < D 0 0 1) (h8 : D 8 i 0 = 1) : -100000000000000 ≤ gainD D f i ∧ gainD D f i ≤ 100000000000000 := by
  have a := hD.2.2.1 i hi
  have b := hD.2.2.2.1 f i hf hi h8
  have c := un5_le i
  unfold gainD
  rw [if_pos hf]
  rcases (show f = 0 ∨ f = 1 ∨ f = 2 ∨ f = 3 by omega) with e | e | e | e <;> subst e <;> simp <;> omega
theorem rnk_rg {D : Pb} (hD : dOk D) {f : Nat} (hf : f < 4) : ∀ l : List Nat, (∀ i, i ∈ l → i < D 0 0 1 ∧ D 8 i 0 = 1) → -100000000000000 * (l.length : Int) ≤ rnk D f l ∧ rnk D f l ≤ 100000000000000 * (l.length : Int)
  | [], _ => by simp [rnk]
  | i :: l, h => by
    have a := rnk_rg hD hf l (fun j hj => h j (List.mem_cons_of_mem _ hj))
    have b := h i List.mem_cons_self
    have c := gain_rg hD hf b.1 b.2
    have e : rnk D f (i :: l) = gainD D f i + rnk D f l := by unfold rnk; rw [List.map_cons, List.sum_cons]
    rw [e, List.length_cons]
    omega
/-! what a set needs, in the cells -/
abbrev lI (x : Int) : Int64 := Int64.ofInt x
theorem lI_add (x y : Int) : lI x + lI y = lI (x + y) := (Int64.ofInt_add x y).symm
theorem i64 (x : Int32) : x.toInt64 = lI x.toInt := by
  rw [← Int64.toInt_inj]
  have h1 := i_lo x; have h2 := i_hi x
  rw [Int32.toInt_toInt64, Int64.toInt_ofInt, show Int64.size = 18446744073709551616 from rfl]
  rw [Int.bmod_def]
  split <;> omega
theorem un5_t : ∀ j, j < 7 → sVl 4 j = nI (un5 j) := by decide +kernel
theorem sLn4 : sLn 4 = 7 := by decide +kernel
theorem X4_rankOf_eq (N : Nat) {S : HS} {D : Pb} (h : Fx S D) {f i : Nat} (hf : f < 4) (hi : i < D 0 0 1) : f_X4_rankOf csF N i (nI f) S = some (lI (gainD D f i), S) := by
  have h7 := (h.oo hi).1
  have hl := h.l hf hi N
  have ho := h.o hi
  have hu := un5_le i
  rw [f_X4_rankOf, mF (by decide) (show i < 7 from h7), ck_t, hl.1, ob_s, h.n h7, sLn4, inb_k h7 (by decide), ck_t, cl_k (by omega), un5_t i h7, ho.2.1.1]
  have e4 : (4 : Int32) - nI f = nI (4 - f) := nI_sb (a := 4) (by omega) (by decide)
  have hm : (4 - f) * un5 i < 2147483648 := by
    have : (4 - f) * un5 i ≤ 4 * 15625 := Nat.mul_le_mul (by omega) hu.1
    omega
  rw [e4, pk_mul, i64, i64, i64, nI_toInt (by omega), nI_toInt (by omega), nI_toInt hm]
  have c1 : (10000000000 : Int64) = lI 10000000000 := rfl
  have c2 : (100000 : Int64) = lI 100000 := rfl
  rw [c1, c2]
  have m1 : ∀ x y : Int, lI x * lI y = lI (x * y) := fun x y => (Int64.ofInt_mul x y).symm
  have s1 : ∀ x y : Int, lI x - lI y = lI (x - y) := fun x y => (Int64.ofInt_sub x y).symm
  rw [m1, m1, s1, lI_add]
  unfold gainD
  rw [if_pos hf]
  congr 3
  rw [Int.natCast_mul, Int.natCast_sub (by omega)]
  rfl
def TbC (S : HS) (D : Pb) (l0 : List Nat) (f s : Nat) : Prop := gi S 16 2 s = nI (silD D (sel l0 s)) ∧ gl S 17 0 s = lI (rnk D f (sel l0 s)) ∧ ((canD D f (sel l0 s) ∧ gi S 15 0 s = 1 ∧ ∃ b : Nat × Nat, runD D f (sel l0 s) (st0 D f) = some b ∧ gi S 16 0 s = nI b.1 ∧ gi S 16 1 s = nI b.2 ∧ b.1 ≤ 51 ∧ b.2 ≤ 99) ∨ (¬ canD D f (sel l0 s) ∧ gi S 15 0 s = 0))
theorem TbC_ne {S Z : HS} {D : Pb} {l0 : List Nat} {f s : Nat} (h : TbC S D l0 f s) (e1 : gi Z 16 2 s = gi S 16 2 s) (e2 : gl Z 17 0 s = gl S 17 0 s) (e3 : gi Z 15 0 s = gi S 15 0 s) (e4 : gi Z 16 0 s = gi S 16 0 s) (e5 : gi Z 16 1 s = gi S 16 1 s) : TbC Z D l0 f s := by
  unfold TbC at h ⊢
  rw [e1, e2, e3, e4, e5]
  exact h
def adT (S : HS) (s a : Nat) (t : Int32) (v : Int64) : HS := ul (ui (ui (ui S 15 0 s t) 16 0 s (gi S 14 0 0)) 16 1 s (gi S 14 0 1)) 17 0 s (gl S 17 0 a + v)
theorem ad128 (N : Nat) (K : Nat → Nat → Nat → Int32 → Int64 → Int32 → HS → Option (Unit × HS)) (k2 k3 k4 : Nat) (v5 : Int32) (v6 : Int64) {a s : Nat} (ha : a < 128) (hs : s < 128) (t : Int32) (ht : t = 0 ∨ t = 1) (S : HS) : f_X4_addToSets_128 csF N K k2 k3 k4 v5 v6 (nI a) (nI s) t (nI s) S = K k2 k3 k4 v5 v6 (nI (a + 1)) (adT S s a t v6) := by
  have hn : vp_nar .boolean t = t := by rcases ht with e | e <;> rw [e] <;> decide
  rw [f_X4_addToSets_128, mF (by decide) (by decide), ck_t, inb_k hs (by decide), ck_t, lt_s_, mF (by decide) (by decide), ck_t, mF (by decide) (by decide), ck_t, mF (by decide) (by decide), ck_t, ck_t, lt_s_, mF (by decide) (by decide), ck_t, ck_t, lt_s_, mF (by decide) (by decide), ck_t, inb_k ha (by decide), ck_t, ck_t, lt_s_, lt_s_, nI_1, cl_k (show a < 2147483648 by omega), cl_k (show s < 2147483648 by omega), hn]
  unfold adT
  rw [gi_ui_c _ _ _ _ _ _ (by decide), gi_ui_c _ _ _ _ _ _ (by decide), gi_ui_c _ _ _ _ _ _ (by decide), gl_ui, gl_ui, gl_ui]
theorem or_ad : ∀ k, k < 7 → ∀ a, a < 2 ^ k → nI a ||| nI (2 ^ k) = nI (2 ^ k + a) := by decide +kernel
theorem sh_p : ∀ k, k < 8 → (1 : Int32) <<< (nI k &&& 31) = nI (2 ^ k) := by decide +kernel
theorem pw_le {k : Nat} (h : k ≤ 7) : 2 ^ k ≤ 128 := Nat.pow_le_pow_right (by decide) h
