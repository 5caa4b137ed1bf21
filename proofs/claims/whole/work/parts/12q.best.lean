/-! ===== best ===== -/
theorem Fx.of {S : HS} (h : Inv S) : Fx S (dC S) := ⟨⟨h.1, h.2.1, h.2.2.1, h.2.2.2.1, h.2.2.2.2.1, h.2.2.2.2.2.1, h.2.2.2.2.2.2.1, h.2.2.2.2.2.2.2.1⟩, rfl⟩
theorem Fx.inv {S : HS} {D : Pb} (h : Fx S D) (hB : IvB S) : Inv S := ⟨h.1.1, h.1.2.1, h.1.2.2.1, h.1.2.2.2.1, h.1.2.2.2.2.1, h.1.2.2.2.2.2.1, h.1.2.2.2.2.2.2.1, h.1.2.2.2.2.2.2.2, hB⟩
theorem Fx.seven {S : HS} {D : Pb} (h : Fx S D) (v : Int32) : Fx (ui S 0 0 7 v) D := by
  have hm : Md [(0, some 0, some 7)] S (ui S 0 0 7 v) := (Md.rf _ S).ui rfl rfl
  obtain ⟨⟨hA, hF, hH, hP, hO, hR, hT, hE⟩, hD⟩ := h
  exact ⟨⟨IvA_md hm rfl rfl rfl rfl rfl rfl hA, IvF_md hm (fun _ => rfl) (fun _ => rfl) (fun _ => rfl) (fun _ => rfl) (fun _ => rfl) hF, IvH_md hm (fun _ _ => rfl) (fun _ => rfl) hH, IvP_md hm (fun _ _ => rfl) (fun _ => rfl) (fun _ => rfl) (fun _ => rfl) hP, IvO_md hm rfl (fun _ _ => rfl) (pm_r (by decide)) hO, IvR_md hm rfl rfl (fun _ _ => rfl) (fun _ _ => rfl) (fun _ _ => rfl) (fun _ => rfl) (fun _ => rfl) (fun _ => rfl) hR, IvT_md hm rfl rfl (fun _ => rfl) (fun _ => rfl) hT, IvE_md hm rfl rfl rfl rfl hE⟩, (dC_md hm rfl rfl rfl (fun _ => rfl) (fun _ _ => rfl) (fun _ _ => rfl) (fun _ _ => rfl) (fun _ _ => rfl) (fun _ _ => rfl)).trans hD⟩
theorem bring_eq (N : Nat) (hN : 200 ≤ N) {S : HS} (hI : Inv S) : ∃ Z, f_X8_bringPlanUpToDate csF N S = some ((), Z) ∧ Fx Z (dC S) ∧ gi Z 0 0 7 = 1 ∧ PlanOk Z := by
  have hx := Fx.of hI
  have ha := hx.a
  obtain ⟨-, -, -, -, -, -, -, -, hB⟩ := hI
  rcases hB with h0 | ⟨h1, hP⟩
  · obtain ⟨Z, z1, z2, z3⟩ := X4_find_eq N hN hx
    have hm : Md [(0, some 0, some 7)] Z (ui Z 0 0 7 1) := (Md.rf _ Z).ui rfl rfl
    refine ⟨ui Z 0 0 7 1, ?_, z2.seven 1, gi_ui_s _ _ _ _ _, PlanOk_md hm rfl rfl rfl (fun _ => rfl) (fun _ _ => rfl) (fun _ _ => rfl) (fun _ _ => rfl) (fun _ _ => rfl) (fun _ _ => rfl) (fun _ _ => rfl) (fun _ _ => rfl) z3⟩
    rw [f_X8_bringPlanUpToDate, mF (by decide) (by decide), ck_t, if_pos h0, mF (by decide) (by decide), ck_t, ha.2.2.1, hx.r.2, ha.1, z1, ob_s, lt_s_]
  · refine ⟨S, ?_, hx, h1, hP⟩
    rw [f_X8_bringPlanUpToDate, mF (by decide) (by decide), ck_t, h1, if_neg (by decide)]
theorem btw_sh {a c : Int32} (hc : rg c 0 7) : (btw 0 (a - 10) (c - 1) ↔ btw 10 a (9 + c)) ∧ (btw 0 (a - 20) (c - 1) ↔ btw 20 a (19 + c)) := by
  have l := i_lo a; have h := i_hi a
  obtain ⟨c1, c2⟩ := hc
  have e1 : (c - 1).toInt = c.toInt - 1 := by
    rw [i_sub (by simp; omega) (by simp; omega)]; rfl
  have e9 : (9 + c).toInt = 9 + c.toInt := by
    rw [i_add (by simp; omega) (by simp; omega)]; rfl
  have e19 : (19 + c).toInt = 19 + c.toInt := by
    rw [i_add (by simp; omega) (by simp; omega)]; rfl
  have s10 : (a - 10).toInt = (a.toInt - 10).bmod 4294967296 := by rw [Int32.toInt_sub]; rfl
  have s20 : (a - 20).toInt = (a.toInt - 20).bmod 4294967296 := by rw [Int32.toInt_sub]; rfl
  have z0 : (0 : Int32).toInt = 0 := rfl
  have z10 : (10 : Int32).toInt = 10 := rfl
  have z20 : (20 : Int32).toInt = 20 := rfl
  unfold btw
  rw [e1, e9, e19, s10, s20, z0, z10, z20, Int.bmod_def, Int.bmod_def]
  constructor
  · split <;> omega
  · split <;> omega
theorem gvI_nI {k f : Nat} (hf : f < 4) (hk : k ≤ 4) : gvI k = nI f ↔ k = f := by
  unfold gvI
  by_cases q : k < 4
  · rw [if_pos q, nI_eq (by omega) (by omega)]
  · rw [if_neg q]
    constructor
    · intro e; exact absurd e.symm (nI_nm1 (by omega))
    · intro e; omega
theorem gvI_n1 {k : Nat} : gvI k = -1 ↔ ¬ k < 4 := by
  unfold gvI
  by_cases q : k < 4
  · rw [if_pos q]
    exact ⟨fun e => absurd e (nI_nm1 (by omega)), fun h => absurd q h⟩
  · rw [if_neg q]
    exact ⟨fun _ => q, fun _ => rfl⟩
/-! the set of a family -/
def mskK (h : Nat → Nat) (f k : Nat) : Nat := mskB (fun j => decide (j < k) && decide (h j = f))
theorem mskK_bits (h : Nat → Nat) (f k : Nat) {j : Nat} (hj : j < 7) : (mskK h f k).testBit j = (decide (j < k) && decide (h j = f)) := by
  have q := mskB_bits (decide (0 < k) && decide (h 0 = f)) (decide (1 < k) && decide (h 1 = f)) (decide (2 < k) && decide (h 2 = f)) (decide (3 < k) && decide (h 3 = f)) (decide (4 < k) && decide (h 4 = f)) (decide (5 < k) && decide (h 5 = f)) (decide (6 < k) && decide (h 6 = f)) j hj
  show (mskB _).testBit j = _
  unfold mskB
  rw [q]
  rcases (show j = 0 ∨ j = 1 ∨ j = 2 ∨ j = 3 ∨ j = 4 ∨ j = 5 ∨ j = 6 by omega) with e | e | e | e | e | e | e <;> subst e <;> rfl
theorem mskB_lt (b : Nat → Bool) : mskB b < 128 := by
  unfold mskB
  repeat' split
  all_goals omega
theorem setOf_loop (N : Nat) {S : HS} {D : Pb} (hx : Sx S D) {h : Nat → Nat} (hh : ∀ i, h i ≤ 4) {f : Nat} (hf : f < 4) (h23 : ∀ j, j < D 0 0 1 → gi S 31 23 j = gvI (h j)) : ∀ (m n k : Nat), k + m = D 0 0 1 → m < n → f_X9_setOf_4 csF N n (nI f) (nI (mskK h f k)) (nI k) S = some (nI (mskK h f (D 0 0 1)), S) := by
  have ha := hx.a
  intro m
  induction m with
  | zero =>
    intro n k h1 h2
    obtain ⟨n, rfl⟩ : ∃ k, n = k + 1 := ⟨n - 1, by omega⟩
    rw [f_X9_setOf_4, mF (by decide) (by decide), ck_t, ha.2.2.2.1, if_pos (by rw [nI_leI (by omega) (by omega)]; omega), show k = D 0 0 1 by omega]
  | succ m ih =>
    intro n k h1 h2
    obtain ⟨n, rfl⟩ : ∃ k, n = k + 1 := ⟨n - 1, by omega⟩
    have hk7 : k < 7 := by omega
    have lt : mskK h f k < 128 := mskB_lt _
    have nb : (mskK h f k).testBit k = false := by rw [mskK_bits h f k hk7]; simp
    obtain ⟨o1, -, o3, o4⟩ := or_bt _ lt k hk7 nb
    rw [f_X9_setOf_4, mF (by decide) (by decide), ck_t, ha.2.2.2.1, if_neg (by rw [nI_leI (by omega) (by omega)]; omega), mF (by decide) (by decide), ck_t, inb_k hk7 (by decide), ck_t, cl_k (by omega), h23 k (by omega)]
    by_cases q : h k = f
    · rw [if_pos ((gvI_nI hf (hh k)).mpr q), lt_s_, lt_s_, sh_p k (by omega), o1, nI_1]
      have e : mskK h f k + 2 ^ k = mskK h f (k + 1) := eq_bits7 o3 (mskB_lt _) (fun j hj => by
        rw [o4 j hj, mskK_bits _ _ _ hj, mskK_bits _ _ _ hj]
        by_cases e : j = k
        · subst e; simp [q]
        · by_cases l : j < k
          · simp [e, l, show j < k + 1 by omega]
          · simp [e, l, show ¬ j < k + 1 by omega])
      rw [e]
      exact ih n (k + 1) (by omega) (by omega)
    · rw [if_neg (fun x => q ((gvI_nI hf (hh k)).mp x)), lt_s_, lt_s_, nI_1]
      have e : mskK h f k = mskK h f (k + 1) := eq_bits7 lt (mskB_lt _) (fun j hj => by
        rw [mskK_bits _ _ _ hj, mskK_bits _ _ _ hj]
        by_cases e : j = k
        · subst e; simp [q]
        · by_cases l : j < k
          · simp [l, show j < k + 1 by omega]
          · simp [l, show ¬ j < k + 1 by omega])
      have z : nI (mskK h f k) ||| 0 = nI (mskK h f (k + 1)) := by rw [Int32.or_zero, e]
      rw [z]
      exact ih n (k + 1) (by omega) (by omega)
theorem setOf_eq (N : Nat) (hN : 10 ≤ N) {S : HS} {D : Pb} (hx : Sx S D) {h : Nat → Nat} (hh : cand D h) {f : Nat} (hf : f < 4) (h23 : ∀ j, j < D 0 0 1 → gi S 31 23 j = gvI (h j)) : f_X9_setOf csF N (nI f) S = some (nI (msk h f), S) := by
  have ha := hx.a
  have := setOf_loop N hx hh.1 hf h23 (D 0 0 1) N 0 (by omega) (by omega)
  have e0 : mskK h f 0 = 0 := by simp [mskK, mskB]
  have e1 : mskK h f (D 0 0 1) = msk h f := eq_bits7 (mskB_lt _) (msk_lt _ _) (fun j hj => by
    rw [mskK_bits _ _ _ hj, msk_bits _ _ hj]
    by_cases q : h j = f
    · have := (hh.2 j (by omega)).1
      simp [q, this]
    · simp [q])
  rw [e0, e1] at this
  exact this
theorem OvM_split {Z : HS} {D : Pb} (hD : dOk D) {f : Nat} (hf : f < 4) {i : Nat} {q : List Nat} : ∀ (p : List Nat) (b0 : Nat × Nat), (∀ j, j ∈ p ++ i :: q → j < D 0 0 1 ∧ D 8 j 0 = 1) → b0.1 ≤ 51 → b0.2 ≤ 99 → OvM Z D f (p ++ i :: q) b0 → ∃ b b', runD D f p b0 = some b ∧ layD D f i b = some b' ∧ gi Z 31 21 i = nI b'.1
  | [], b0, hm, h1, h2, ho => by
    obtain ⟨b', e1, e2, -⟩ := ho
    have hi := hm i (by simp)
    rw [mlD_eq h1 (hD.2.2.1 i hi.1).2.1 (hD.2.2.2.1 f i hf hi.1 hi.2).1] at e1
    exact ⟨b0, b', rfl, e1, e2⟩
  | j :: p, b0, hm, h1, h2, ho => by
    obtain ⟨b', e1, e2, e3⟩ := ho
    have hj := hm j (by simp)
    have rg := mlD_rg hD hf h1 h2 e1
    rw [mlD_eq h1 (hD.2.2.1 j hj.1).2.1 (hD.2.2.2.1 f j hf hj.1 hj.2).1] at e1
    obtain ⟨b, b'', x1, x2, x3⟩ := OvM_split hD hf p b' (fun k hk => hm k (List.mem_cons_of_mem _ hk)) rg.2.1 rg.2.2 e3
    refine ⟨b, b'', ?_, x2, x3⟩
    unfold runD
    rw [e1]
    exact x1
theorem split_row {D : Pb} {L : List Nat} (h : rowOk D L) {i : Nat} (hi : i ∈ L) : ∃ p q, L = p ++ i :: q ∧ rowOk D p ∧ ∀ j, j ∈ p ↔ j ∈ L ∧ bef D j i = true := by
  obtain ⟨p, q, e⟩ := List.append_of_mem hi
  subst e
  have hr := row_app.mp h
  have hc := row_cons.mp hr.2.1
  refine ⟨p, q, rfl, hr.1, fun j => ?_⟩
  rw [List.mem_append, List.mem_cons]
  constructor
  · intro hj
    exact ⟨Or.inl hj, hr.2.2 j hj i List.mem_cons_self⟩
  · rintro ⟨y | y | y, hb⟩
    · exact y
    · rw [y] at hb; exact absurd hb bef_ir
    · exact absurd hb (bef_as (hc.1 j y))
/-- the row of a family in the other object -/
theorem does_best (N : Nat) (hN : 60 ≤ N) {S : HS} {D : Pb} (hx : Mx S D) {h : Nat → Nat} (hh : wayOk D h) {i : Nat} (hi : h i < 4) : ∃ Z, f_X9_does csF N (nI (h i)) (nI (msk h (h i))) S = some (1, Z) ∧ ∀ wk hn, planAt D h i wk hn → gi Z 31 21 i = nI wk := by
  have hD := hx.ok
  have ha := hx.a
  have hhh := hx.h hi (show D 0 0 0 < 52 by omega)
  obtain ⟨Z, L, z1, z2, z3, z4, -⟩ := X9_does_eq N hN hx hi (msk_lt h (h i))
  have mem : ∀ j, j ∈ L ↔ h j = h i := fun j => by
    rw [z3 j]
    constructor
    · rintro ⟨a, b⟩
      rw [msk_bits _ _ (by omega)] at b
      exact of_decide_eq_true b
    · intro e
      have := (hh.2.1 j (by omega)).1
      exact ⟨this, by rw [msk_bits _ _ (by omega)]; exact decide_eq_true e⟩
  have opn : ∀ j, j ∈ L → j < D 0 0 1 ∧ D 8 j 0 = 1 := fun j hj => hh.2.1 j (by rw [(mem j).mp hj]; exact hi)
  have hdo : mdo D (h i) L 0 (st0 D (h i)) = true := by
    rw [mdo_iff hD hi L 0 (st0 D (h i)) opn (Nat.zero_le _) ha.2.2.2.2.1 hhh.2.2, Nat.zero_add]
    exact hh.2.2 (h i) hi L z2 mem
  rw [hdo, if_pos rfl] at z1
  refine ⟨Z, z1, fun wk hn hp => ?_⟩
  obtain ⟨l, b, b', r1, r2, r3, r4, r5, -⟩ := hp
  obtain ⟨p, q, e, p1, p2⟩ := split_row z2 ((mem i).mpr rfl)
  have epl : p = l := row_uq p l p1 (row_app.mp r1).1 (fun j => by rw [p2 j, r2 j, mem j])
  subst epl
  obtain ⟨c, c', x1, x2, x3⟩ := OvM_split hD hi p (st0 D (h i)) (by rw [← e]; exact opn) ha.2.2.2.2.1 hhh.2.2 (by rw [← e]; exact z4 hdo)
  rw [r3] at x1
  injection x1 with x1
  subst x1
  rw [r4] at x2
  injection x2 with x2
  subst x2
  rw [x3, r5]
