/-! ===== best: the other object tries all ===== -/
def CaM (S : HS) (D : Pb) (f s : Nat) : Prop := ∃ l, rowOk D l ∧ (∀ j, j ∈ l ↔ j < D 0 0 1 ∧ s.testBit j = true) ∧ gi S 32 1 (128 * f + s) = if mdo D f l 0 (st0 D f) = true then 1 else 0
theorem CaM.eq {S Z : HS} {D : Pb} {f s : Nat} (h : CaM S D f s) (e : gi Z 32 1 (128 * f + s) = gi S 32 1 (128 * f + s)) : CaM Z D f s := by
  obtain ⟨l, a, b, c⟩ := h
  exact ⟨l, a, b, e.trans c⟩
theorem ix128 (k w : Nat) : (128 : Int32) * nI k + nI w = nI (128 * k + w) := by rw [show (128 : Int32) = nI 128 from rfl, pk_mul, nI_add]
abbrev mlF : List (Nat × Option Nat × Option Nat) := [(30, some 0, some 36), (31, some 20, none), (31, some 21, none), (32, some 1, none)]
theorem fi16 (N : Nat) (hN : 60 ≤ N) (K : Int32 → HS → Option (Unit × HS)) {D : Pb} {f : Nat} (hf : f < 4) : ∀ (m n s : Nat) (S : HS), s + m = 2 ^ D 0 0 1 → m < n → Mx S D → (∀ t, t < s → CaM S D f t) → ∃ Z, f_X9_finds_16 csF N K n (nI f) (nI s) S = K (nI (f + 1)) Z ∧ (∀ t, t < 2 ^ D 0 0 1 → CaM Z D f t) ∧ (∀ j, ¬ (128 * f ≤ j ∧ j < 128 * f + 128) → gi Z 32 1 j = gi S 32 1 j) ∧ Md mlF S Z := by
  intro m
  induction m with
  | zero =>
    intro n s S h1 h2 hx h3
    obtain ⟨n, rfl⟩ : ∃ k, n = k + 1 := ⟨n - 1, by omega⟩
    have ha := hx.a
    have hp := pw_le ha.2.2.2.2.2
    refine ⟨S, ?_, fun t ht => h3 t (by omega), fun _ _ => rfl, Md.rf _ S⟩
    rw [f_X9_finds_16, mF (by decide) (by decide), ck_t, ha.2.2.2.1, sh_p _ (by omega), if_pos (by rw [nI_leI (by omega) (by omega)]; omega), lt_s_, nI_1]
  | succ m ih =>
    intro n s S h1 h2 hx h3
    obtain ⟨n, rfl⟩ : ∃ k, n = k + 1 := ⟨n - 1, by omega⟩
    have ha := hx.a
    have hp := pw_le ha.2.2.2.2.2
    have hs : s < 128 := by omega
    obtain ⟨Z1, l, z1, z2, z3, -, z5⟩ := X9_does_eq N hN hx hf hs
    have m1 : Md mlF S Z1 := z5.mono (by decide)
    have mu : Md mlF Z1 (ui Z1 32 1 (128 * f + s) (if mdo D f l 0 (st0 D f) = true then 1 else 0)) := (Md.rf _ Z1).ui rfl rfl
    have m2 := m1.trans mu
    obtain ⟨Z, y1, y2, y3, y4⟩ := ih n (s + 1) (ui Z1 32 1 (128 * f + s) (if mdo D f l 0 (st0 D f) = true then 1 else 0)) (by omega) (by omega) (hx.sub m2 (by decide)) (fun t ht => by
      by_cases e : t = s
      · subst e
        exact ⟨l, z2, z3, by rw [gi_ui_s]⟩
      · exact (h3 t (by omega)).eq (by rw [gi_ui_j _ _ _ _ _ _ (by omega), z5.gi _ _ _ rfl]))
    refine ⟨Z, ?_, y2, fun j hj => ?_, m2.trans y4⟩
    · rw [f_X9_finds_16, mF (by decide) (by decide), ck_t, ha.2.2.2.1, sh_p _ (by omega), if_neg (by rw [nI_leI (by omega) (by omega)]; omega), z1, ob_s, mF (by decide) (by decide), ck_t, ix128, inb_k (show 128 * f + s < 512 by omega) (by decide), ck_t, lt_s_, lt_s_, nI_1, cl_k (by omega)]
      have : vp_nar .boolean (if mdo D f l 0 (st0 D f) = true then (1 : Int32) else 0) = (if mdo D f l 0 (st0 D f) = true then 1 else 0) := by split <;> decide
      rw [this]
      exact y1
    · rw [y3 j hj, gi_ui_j _ _ _ _ _ _ (by omega), z5.gi _ _ _ rfl]
theorem fi2 (N : Nat) (hN : 200 ≤ N) {D : Pb} : ∀ (m n f : Nat) (S : HS), f + m = 4 → m < n → Mx S D → (∀ f', f' < f → gi S 31 24 f' = 0 ∧ ∀ t, t < 2 ^ D 0 0 1 → CaM S D f' t) → ∃ Z, f_X9_finds_2 csF N n (nI f) S = ob (f_X9_tries csF N 9 0 0 0 (ui Z 30 0 42 (-1))) (fun _ S6 => some ((), S6)) ∧ Mx Z D ∧ ∀ f', f' < 4 → gi Z 31 24 f' = 0 ∧ ∀ t, t < 2 ^ D 0 0 1 → CaM Z D f' t := by
  intro m
  induction m with
  | zero =>
    intro n f S h1 h2 hx h3
    obtain ⟨n, rfl⟩ : ∃ k, n = k + 1 := ⟨n - 1, by omega⟩
    refine ⟨S, ?_, hx, fun f' hf' => h3 f' (by omega)⟩
    rw [f_X9_finds_2, if_pos (by rw [show (4 : Int32) = nI 4 from rfl, nI_leI (by omega) (by omega)]; omega), mF (by decide) (by decide), ck_t, lt_s_]
  | succ m ih =>
    intro n f S h1 h2 hx h3
    obtain ⟨n, rfl⟩ : ∃ k, n = k + 1 := ⟨n - 1, by omega⟩
    have hf : f < 4 := by omega
    have ha := hx.a
    have hp := pw_le ha.2.2.2.2.2
    have mu : Md [(31, some 24, none)] S (ui S 31 24 f 0) := (Md.rf _ S).ui rfl rfl
    obtain ⟨Z1, z1, z2, z3, z4⟩ := fi16 N (by omega) (f_X9_finds_2 csF N n) hf (2 ^ D 0 0 1) N 0 (ui S 31 24 f 0) (by omega) (by omega) (hx.sub mu (by decide)) (fun t ht => by omega)
    obtain ⟨Z, y1, y2⟩ := ih n (f + 1) Z1 (by omega) (by omega) ((hx.sub mu (by decide)).sub z4 (by decide)) (fun f' hf' => by
      by_cases e : f' = f
      · subst e
        exact ⟨by rw [z4.gi _ _ _ rfl, gi_ui_s], z2⟩
      · obtain ⟨a, b⟩ := h3 f' (by omega)
        refine ⟨by rw [z4.gi _ _ _ rfl, gi_ui_j _ _ _ _ _ _ e]; exact a, fun t ht => (b t ht).eq ?_⟩
        rw [z3 _ (by omega), mu.gi _ _ _ rfl])
    refine ⟨Z, ?_, y2⟩
    rw [f_X9_finds_2, if_neg (by rw [show (4 : Int32) = nI 4 from rfl, nI_leI (by omega) (by omega)]; omega), mF (by decide) (by decide), ck_t, mF (by decide) (by decide), ck_t, inb_k hf (by decide), ck_t, lt_s_, cl_k (by omega)]
    rw [show nI 0 = 0 from rfl] at z1
    rw [z1]
    exact y1
/-! masks of a way -/
def mskB (b : Nat → Bool) : Nat := (if b 0 = true then 1 else 0) + (if b 1 = true then 2 else 0) + (if b 2 = true then 4 else 0) + (if b 3 = true then 8 else 0) + (if b 4 = true then 16 else 0) + (if b 5 = true then 32 else 0) + (if b 6 = true then 64 else 0)
def msk (g : Nat → Nat) (f : Nat) : Nat := mskB (fun j => decide (g j = f))
theorem mskB_bits (b0 b1 b2 b3 b4 b5 b6 : Bool) : ∀ j, j < 7 → ((if b0 = true then 1 else 0) + (if b1 = true then 2 else 0) + (if b2 = true then 4 else 0) + (if b3 = true then 8 else 0) + (if b4 = true then 16 else 0) + (if b5 = true then 32 else 0) + (if b6 = true then 64 else 0) : Nat).testBit j = (match j with
  | 0 => b0
  | 1 => b1
  | 2 => b2
  | 3 => b3
  | 4 => b4
  | 5 => b5
  | _ => b6) := by
  revert b0 b1 b2 b3 b4 b5 b6
  decide +kernel
theorem msk_bits (g : Nat → Nat) (f : Nat) {j : Nat} (hj : j < 7) : (msk g f).testBit j = decide (g j = f) := by
  have h := mskB_bits (decide (g 0 = f)) (decide (g 1 = f)) (decide (g 2 = f)) (decide (g 3 = f)) (decide (g 4 = f)) (decide (g 5 = f)) (decide (g 6 = f)) j hj
  show (mskB _).testBit j = _
  unfold mskB
  rw [h]
  rcases (show j = 0 ∨ j = 1 ∨ j = 2 ∨ j = 3 ∨ j = 4 ∨ j = 5 ∨ j = 6 by omega) with e | e | e | e | e | e | e <;> subst e <;> rfl
theorem msk_lt (g : Nat → Nat) (f : Nat) : msk g f < 128 := by
  unfold msk mskB
  repeat' split
  all_goals omega
theorem eq_bits7 {a b : Nat} (ha : a < 128) (hb : b < 128) (h : ∀ j, j < 7 → a.testBit j = b.testBit j) : a = b := by
  apply Nat.eq_of_testBit_eq
  intro j
  by_cases q : j < 7
  · exact h j q
  · rw [tb_lt (k := 7) ha (by omega), tb_lt (k := 7) hb (by omega)]
theorem msk_pw {g : Nat → Nat} {n : Nat} (hg : ∀ i, i < 7 → g i < 4 → i < n) {f : Nat} (hf : f < 4) : msk g f < 2 ^ n := by
  by_cases h7 : 7 ≤ n
  · exact Nat.lt_of_lt_of_le (msk_lt g f) (Nat.pow_le_pow_right (n := 2) (by decide) h7)
  · apply lt_bits
    intro p hp
    by_cases q : p < 7
    · rw [msk_bits g f q]
      apply decide_eq_false
      intro e
      have := hg p q (by omega)
      omega
    · exact tb_lt (k := 7) (msk_lt g f) (by omega)
/-- one more order goes to a family -/
def gup (g : Nat → Nat) (i f : Nat) : Nat → Nat := fun j => if j = i then f else g j
theorem or_bt : ∀ x, x < 128 → ∀ i, i < 7 → x.testBit i = false → nI x ||| nI (2 ^ i) = nI (x + 2 ^ i) ∧ nI (x + 2 ^ i) &&& (nI (2 ^ i) ^^^ -1) = nI x ∧ x + 2 ^ i < 128 ∧ ∀ j, j < 7 → (x + 2 ^ i).testBit j = (x.testBit j || decide (j = i)) := by decide +kernel
theorem msk_up {g : Nat → Nat} {i f : Nat} (hi : i < 7) (hf : f < 4) (h4 : g i = 4) : msk (gup g i f) f = msk g f + 2 ^ i ∧ (msk g f).testBit i = false ∧ ∀ f', f' < 4 → f' ≠ f → msk (gup g i f) f' = msk g f' := by
  have b : (msk g f).testBit i = false := by rw [msk_bits g f hi, h4]; apply decide_eq_false; omega
  obtain ⟨-, -, o3, o5⟩ := or_bt _ (msk_lt g f) i hi b
  refine ⟨eq_bits7 (msk_lt _ _) o3 (fun j hj => ?_), b, fun f' hf' hne => eq_bits7 (msk_lt _ _) (msk_lt _ _) (fun j hj => ?_)⟩
  · rw [msk_bits _ _ hj]
    by_cases e : j = i
    · subst e; rw [o5 j hj]; simp [gup]
    · rw [o5 j hj, msk_bits _ _ hj]; simp [gup, e]
  · rw [msk_bits _ _ hj, msk_bits _ _ hj]
    by_cases e : j = i
    · subst e
      simp [gup, h4]
      omega
    · simp [gup, e]
/-! digits -/
def pw5 (i : Nat) : Nat := match i with
  | 0 => 78125
  | 1 => 15625
  | 2 => 3125
  | 3 => 625
  | 4 => 125
  | 5 => 25
  | 6 => 5
  | _ => 1
theorem pw5_s {i : Nat} (h : i < 7) : pw5 (i + 1) = un5 i ∧ pw5 i = 5 * un5 i := by
  rcases (show i = 0 ∨ i = 1 ∨ i = 2 ∨ i = 3 ∨ i = 4 ∨ i = 5 ∨ i = 6 by omega) with e | e | e | e | e | e | e <;> subst e <;> decide
theorem dg_sum {g : Nat → Nat} (h : ∀ i, g i ≤ 4) : dgD g = sum7 fun i => (4 - (g i : Int)) * (un5 i : Int) := by
  unfold dgD
  congr 1
  funext i
  by_cases q : g i < 4
  · rw [if_pos q]
  · rw [if_neg q]
    have := h i
    rw [show g i = 4 by omega]
    simp
theorem dg_pre {g g' : Nat → Nat} (h : ∀ i, g i ≤ 4) (h' : ∀ i, g' i ≤ 4) {i : Nat} (hi : i ≤ 7) (h4 : ∀ j, i ≤ j → g j = 4) (e1 : dgD g ≤ dgD g') (e2 : dgD g' < dgD g + pw5 i) : ∀ j, j < i → g' j = g j := by
  rw [dg_sum h, dg_sum h'] at e1 e2
  unfold sum7 at e1 e2
  simp only [un5] at e1 e2
  have a0 := h 0; have a1 := h 1; have a2 := h 2; have a3 := h 3; have a4 := h 4; have a5 := h 5; have a6 := h 6
  have b0 := h' 0; have b1 := h' 1; have b2 := h' 2; have b3 := h' 3; have b4 := h' 4; have b5 := h' 5; have b6 := h' 6
  intro j hj
  rcases (show i = 0 ∨ i = 1 ∨ i = 2 ∨ i = 3 ∨ i = 4 ∨ i = 5 ∨ i = 6 ∨ i = 7 by omega) with e | e | e | e | e | e | e | e <;> subst e
  · omega
  · have c1 := h4 1 (by decide); have c2 := h4 2 (by decide); have c3 := h4 3 (by decide); have c4 := h4 4 (by decide); have c5 := h4 5 (by decide); have c6 := h4 6 (by decide)
    simp only [pw5] at e2
    have d0 : g' 0 = g 0 := by omega
    rcases (show j = 0 by omega) with rfl
    exact d0
  · have c2 := h4 2 (by decide); have c3 := h4 3 (by decide); have c4 := h4 4 (by decide); have c5 := h4 5 (by decide); have c6 := h4 6 (by decide)
    simp only [pw5] at e2
    have d0 : g' 0 = g 0 := by omega
    have d1 : g' 1 = g 1 := by omega
    rcases (show j = 0 ∨ j = 1 by omega) with rfl | rfl
    · exact d0
    · exact d1
  · have c3 := h4 3 (by decide); have c4 := h4 4 (by decide); have c5 := h4 5 (by decide); have c6 := h4 6 (by decide)
    simp only [pw5] at e2
    have d0 : g' 0 = g 0 := by omega
    have d1 : g' 1 = g 1 := by omega
    have d2 : g' 2 = g 2 := by omega
    rcases (show j = 0 ∨ j = 1 ∨ j = 2 by omega) with rfl | rfl | rfl
    · exact d0
    · exact d1
    · exact d2
  · have c4 := h4 4 (by decide); have c5 := h4 5 (by decide); have c6 := h4 6 (by decide)
    simp only [pw5] at e2
    have d0 : g' 0 = g 0 := by omega
    have d1 : g' 1 = g 1 := by omega
    have d2 : g' 2 = g 2 := by omega
    have d3 : g' 3 = g 3 := by omega
    rcases (show j = 0 ∨ j = 1 ∨ j = 2 ∨ j = 3 by omega) with rfl | rfl | rfl | rfl
    · exact d0
    · exact d1
    · exact d2
    · exact d3
  · have c5 := h4 5 (by decide); have c6 := h4 6 (by decide)
    simp only [pw5] at e2
    have d0 : g' 0 = g 0 := by omega
    have d1 : g' 1 = g 1 := by omega
    have d2 : g' 2 = g 2 := by omega
    have d3 : g' 3 = g 3 := by omega
    have d4 : g' 4 = g 4 := by omega
    rcases (show j = 0 ∨ j = 1 ∨ j = 2 ∨ j = 3 ∨ j = 4 by omega) with rfl | rfl | rfl | rfl | rfl
    · exact d0
    · exact d1
    · exact d2
    · exact d3
    · exact d4
  · have c6 := h4 6 (by decide)
    simp only [pw5] at e2
    have d0 : g' 0 = g 0 := by omega
    have d1 : g' 1 = g 1 := by omega
    have d2 : g' 2 = g 2 := by omega
    have d3 : g' 3 = g 3 := by omega
    have d4 : g' 4 = g 4 := by omega
    have d5 : g' 5 = g 5 := by omega
    rcases (show j = 0 ∨ j = 1 ∨ j = 2 ∨ j = 3 ∨ j = 4 ∨ j = 5 by omega) with rfl | rfl | rfl | rfl | rfl | rfl
    · exact d0
    · exact d1
    · exact d2
    · exact d3
    · exact d4
    · exact d5
  · simp only [pw5] at e2
    have d0 : g' 0 = g 0 := by omega
    have d1 : g' 1 = g 1 := by omega
    have d2 : g' 2 = g 2 := by omega
    have d3 : g' 3 = g 3 := by omega
    have d4 : g' 4 = g 4 := by omega
    have d5 : g' 5 = g 5 := by omega
    have d6 : g' 6 = g 6 := by omega
    rcases (show j = 0 ∨ j = 1 ∨ j = 2 ∨ j = 3 ∨ j = 4 ∨ j = 5 ∨ j = 6 by omega) with rfl | rfl | rfl | rfl | rfl | rfl | rfl
    · exact d0
    · exact d1
    · exact d2
    · exact d3
    · exact d4
    · exact d5
    · exact d6
