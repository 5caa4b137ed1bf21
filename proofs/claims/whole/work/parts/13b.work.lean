/-! ===== work: what both sides do ===== -/
theorem i_ss (a x y : Int32) : a - x - y = a - (x + y) := by
  first | grind | (rw [Int32.sub_eq_add_neg, Int32.sub_eq_add_neg, Int32.sub_eq_add_neg, Int32.neg_add, Int32.add_assoc])
theorem i_as (a x y : Int32) : a + x + y = a + (x + y) := Int32.add_assoc a x y
/-- worked, by, state, silver, used, earned -/
def vC (S : HS) : Nat → Nat → Int32 := fun a i => match a with
  | 0 => gi S 7 i 9
  | 1 => gi S 7 i 10
  | 2 => gi S 7 i 8
  | 3 => gi S 4 i 2
  | 4 => gi S 4 i 3
  | _ => gi S 0 0 10
def vM (S : HS) : Nat → Nat → Int32 := fun a i => match a with
  | 0 => gi S 31 14 i
  | 1 => gi S 31 15 i
  | 2 => gi S 31 13 i
  | 3 => gi S 31 1 i
  | 4 => gi S 31 2 i
  | _ => gi S 30 0 2
/-- the orders of T have been worked at -/
def Wk (D : Pb) (g hn wn : Nat → Nat) (T : Nat → Bool) (A A0 : Nat → Nat → Int32) : Prop :=
  (∀ i, i < D 0 0 1 → A 0 i = (if (T i && toB g hn i) = true then nI (wn i) else A0 0 i) ∧ A 1 i = (if (T i && toB g hn i) = true then nI (g i) else A0 1 i) ∧ A 2 i = (if (T i && dnB D g hn i) = true then 1 else A0 2 i)) ∧
  (∀ f, f < 4 → A 3 f = A0 3 f - sI T (vF D g hn f) ∧ A 4 f = A0 4 f + sI T (vF D g hn f)) ∧ A 5 0 = A0 5 0 + sI T (vE D g hn)
theorem Wk.rf (D : Pb) (g hn wn : Nat → Nat) (A : Nat → Nat → Int32) : Wk D g hn wn (fun _ => false) A A := by
  refine ⟨fun i _ => ⟨?_, ?_, ?_⟩, fun f _ => ?_, ?_⟩
  · rw [Bool.false_and, if_neg (by decide)]
  · rw [Bool.false_and, if_neg (by decide)]
  · rw [Bool.false_and, if_neg (by decide)]
  · rw [sI_0 _ _ (fun _ => rfl)]
    exact ⟨(Int32.sub_zero _).symm, (Int32.add_zero _).symm⟩
  · rw [sI_0 _ _ (fun _ => rfl)]
    exact (Int32.add_zero _).symm
theorem Wk.cg {D : Pb} {g hn wn : Nat → Nat} {T T' : Nat → Bool} {A A0 : Nat → Nat → Int32} (h : Wk D g hn wn T A A0) (e : ∀ i, (toB g hn i = true ∨ dnB D g hn i = true) → T i = T' i) : Wk D g hn wn T' A A0 := by
  have eT : ∀ i, (T i && toB g hn i) = (T' i && toB g hn i) := fun i => by
    cases q : toB g hn i with
    | true => rw [e i (Or.inl q)]
    | false => rw [Bool.and_false, Bool.and_false]
  have eD : ∀ i, (T i && dnB D g hn i) = (T' i && dnB D g hn i) := fun i => by
    cases q : dnB D g hn i with
    | true => rw [e i (Or.inr q)]
    | false => rw [Bool.and_false, Bool.and_false]
  refine ⟨fun i hi => ?_, fun f hf => ?_, ?_⟩
  · rw [← eT i, ← eD i]
    exact h.1 i hi
  · have x : sI T (vF D g hn f) = sI T' (vF D g hn f) := sI_cg fun i _ => by
      cases q : dnB D g hn i with
      | true => rw [e i (Or.inr q)]
      | false =>
        have z : vF D g hn f i = 0 := by simp [vF, q]
        simp [z]
    rw [← x]
    exact h.2.1 f hf
  · have x : sI T (vE D g hn) = sI T' (vE D g hn) := sI_cg fun i _ => by
      cases q : dnB D g hn i with
      | true => rw [e i (Or.inr q)]
      | false =>
        have z : vE D g hn i = 0 := by simp [vE, q]
        simp [z]
    rw [← x]
    exact h.2.2
theorem Wk.step {D : Pb} {g hn wn : Nat → Nat} {T T' : Nat → Bool} {A A' A0 : Nat → Nat → Int32} {i : Nat} (h : Wk D g hn wn T A A0) (h7 : i < 7) (hT : T i = false) (hT' : ∀ j, T' j = (T j || decide (j = i)))
    (e0 : A' 0 i = if toB g hn i = true then nI (wn i) else A 0 i) (e1 : A' 1 i = if toB g hn i = true then nI (g i) else A 1 i) (e2 : A' 2 i = if dnB D g hn i = true then 1 else A 2 i)
    (e3 : ∀ f, f < 4 → A' 3 f = A 3 f - Int32.ofInt (vF D g hn f i) ∧ A' 4 f = A 4 f + Int32.ofInt (vF D g hn f i)) (e5 : A' 5 0 = A 5 0 + Int32.ofInt (vE D g hn i)) (ej : ∀ j, j ≠ i → A' 0 j = A 0 j ∧ A' 1 j = A 1 j ∧ A' 2 j = A 2 j) : Wk D g hn wn T' A' A0 := by
  have hTi : T' i = true := by rw [hT' i]; simp
  refine ⟨fun j hj => ?_, fun f hf => ?_, ?_⟩
  · by_cases q : j = i
    · subst q
      obtain ⟨a, b, c⟩ := h.1 j hj
      rw [hT, Bool.false_and, if_neg (by decide)] at a b c
      rw [e0, e1, e2, hTi, Bool.true_and, Bool.true_and, a, b, c]
      exact ⟨rfl, rfl, rfl⟩
    · obtain ⟨a, b, c⟩ := ej j q
      have x : T' j = T j := by rw [hT' j, decide_eq_false q, Bool.or_false]
      rw [a, b, c, x]
      exact h.1 j hj
  · obtain ⟨a, b⟩ := h.2.1 f hf
    obtain ⟨c, d⟩ := e3 f hf
    rw [c, d, a, b, sI_ins h7 hT hT' (vF D g hn f)]
    exact ⟨i_ss _ _ _, i_as _ _ _⟩
  · rw [e5, h.2.2, sI_ins h7 hT hT' (vE D g hn)]
    exact i_as _ _ _
/-! the class: the orders one by one -/
theorem cw17 (N : Nat) {S0 : HS} {D : Pb} {g hn : Nat → Nat} (hx : Fx S0 D) (hp : Pl S0 D g hn) : ∀ (m n k : Nat) (S : HS), k + m = D 0 0 1 → m < n → Md ml_X8_workAsPlanned S0 S → Wk D g hn (wkN S0 D g hn) (fun j => decide (j < k)) (vC S) (vC S0) → (∀ j c, k ≤ j → gi S 7 j c = gi S0 7 j c) → ∃ Z, f_X8_work_17 csF N n (nI k) S = f_X8_work_53 csF N N 0 (ui Z 0 0 8 (gi Z 0 0 8 + 1)) ∧ Md ml_X8_workAsPlanned S0 Z ∧ Wk D g hn (wkN S0 D g hn) (fun j => decide (j < D 0 0 1)) (vC Z) (vC S0) ∧ (∀ j c, D 0 0 1 ≤ j → gi Z 7 j c = gi S0 7 j c) := by
  have ha := hx.a
  intro m
  induction m with
  | zero =>
    intro n k S hk hn' hM hW hr
    obtain ⟨n, rfl⟩ : ∃ q, n = q + 1 := ⟨n - 1, by omega⟩
    have e : k = D 0 0 1 := by omega
    subst e
    have e9 : gi S 0 0 9 = nI (D 0 0 1) := by rw [hM.gi 0 0 9 rfl]; exact ha.2.2.1
    refine ⟨S, ?_, hM, hW, hr⟩
    rw [f_X8_work_17, mF (by decide) (by decide), ck_t, e9, if_pos (by rw [nI_leI (by omega) (by omega)]; omega), lt_s_]
  | succ m ih =>
    intro n k S hk hn' hM hW hr
    obtain ⟨n, rfl⟩ : ∃ q, n = q + 1 := ⟨n - 1, by omega⟩
    have hk' : k < D 0 0 1 := by omega
    have h7 : k < 7 := (hx.oo hk').1
    have e9 : gi S 0 0 9 = nI (D 0 0 1) := by rw [hM.gi 0 0 9 rfl]; exact ha.2.2.1
    obtain ⟨Z1, z1, z2, z3, z4, z5, z6, z7⟩ := X8_workAsPlanned_eq N hx hp hk' (fun c => hM.gi 13 c k rfl) (hr k 8 (Nat.le_refl _)) (hr k 9 (Nat.le_refl _)) (hr k 10 (Nat.le_refl _)) (fun c _ _ _ => hr k c (Nat.le_refl _))
    have m1 : Md ml_X8_workAsPlanned S Z1 := md_X8_workAsPlanned _ _ _ _ _ _ z1
    have hW1 : Wk D g hn (wkN S0 D g hn) (fun j => decide (j < k + 1)) (vC Z1) (vC S0) := by
      refine hW.step h7 (by simp) (fun j => ?_) ?_ ?_ ?_ (fun f hf => z5 f hf) z6 (fun j hj => ⟨z7 j 9 hj, z7 j 10 hj, z7 j 8 hj⟩)
      · by_cases a : j < k
        · have a' : j < k + 1 := by omega
          simp [a, a']
        · by_cases b : j = k
          · simp [b]
          · have a' : ¬ j < k + 1 := by omega
            simp [a, b, a']
      · show gi Z1 7 k 9 = if toB g hn k = true then nI (wkN S0 D g hn k) else gi S 7 k 9
        rw [z2, hr k 9 (Nat.le_refl _)]
      · show gi Z1 7 k 10 = if toB g hn k = true then nI (g k) else gi S 7 k 10
        rw [z3, hr k 10 (Nat.le_refl _)]
      · show gi Z1 7 k 8 = if dnB D g hn k = true then 1 else gi S 7 k 8
        rw [z4, hr k 8 (Nat.le_refl _)]
    obtain ⟨Z, y1, y2, y3, y4⟩ := ih n (k + 1) Z1 (by omega) (by omega) (hM.trans m1) hW1 (fun j c hj => by rw [z7 j c (by omega)]; exact hr j c (by omega))
    refine ⟨Z, ?_, y2, y3, y4⟩
    rw [f_X8_work_17, mF (by decide) (by decide), ck_t, e9, if_neg (by rw [nI_leI (by omega) (by omega)]; omega), mF (by decide) (by decide), ck_t, inb_k h7 (by decide), ck_t, cl_k (show k < 2147483648 by omega), z1, ob_s, lt_s_, nI_1]
    exact y1
/-! what is lost -/
def lostI (st due wk : Int32) : Int32 := if st = 0 then (if wk ≤ due then st else 3) else st
theorem cw53 (N : Nat) {c : Nat} (hc : c ≤ 7) : ∀ (m n k : Nat) (S : HS), k + m = c → m < n → gi S 0 0 9 = nI c → ∃ Z, f_X8_work_53 csF N n (nI k) S = some (gi S 0 0 8, Z) ∧ (∀ j, j < c → gi Z 7 j 8 = if j < k then gi S 7 j 8 else lostI (gi S 7 j 8) (gi S 7 j 3) (gi S 0 0 8)) ∧ (∀ j, c ≤ j → gi Z 7 j 8 = gi S 7 j 8) ∧ gi Z 0 0 7 = 0 ∧ Md [(7, none, some 8), (0, some 0, some 7)] S Z := by
  intro m
  induction m with
  | zero =>
    intro n k S hk hn' h9
    obtain ⟨n, rfl⟩ : ∃ q, n = q + 1 := ⟨n - 1, by omega⟩
    refine ⟨ui S 0 0 7 0, ?_, fun j hj => ?_, fun j hj => ?_, gi_ui_s _ _ _ _ _, (Md.rf _ S).ui rfl rfl⟩
    · rw [f_X8_work_53, mF (by decide) (by decide), ck_t, h9, if_pos (by rw [nI_leI (by omega) (by omega)]; omega), lt_s_, gi_ui_j _ _ _ _ _ _ (by decide)]
    · rw [if_pos (by omega), gi_ui_c _ _ _ _ _ _ (by decide)]
    · rw [gi_ui_c _ _ _ _ _ _ (by decide)]
  | succ m ih =>
    intro n k S hk hn' h9
    obtain ⟨n, rfl⟩ : ∃ q, n = q + 1 := ⟨n - 1, by omega⟩
    have h7 : k < 7 := by omega
    have hd : f_X8_work_53 csF N (n + 1) (nI k) S = (if gi S 7 k 8 = 0 then (if gi S 0 0 8 ≤ gi S 7 k 3 then f_X8_work_53 csF N n (nI (k + 1)) S else f_X8_work_53 csF N n (nI (k + 1)) (ui S 7 k 8 3)) else f_X8_work_53 csF N n (nI (k + 1)) S) := by
      rw [f_X8_work_53, mF (by decide) (by decide), ck_t, h9, if_neg (by rw [nI_leI (by omega) (by omega)]; omega), mF (by decide) (by decide), ck_t, inb_k h7 (by decide), ck_t, cl_k (show k < 2147483648 by omega), mF (by decide) (show k < 7 from h7), ck_t]
      simp only [lt_s_, ck_t, nI_1]
    have step : ∃ S', f_X8_work_53 csF N (n + 1) (nI k) S = f_X8_work_53 csF N n (nI (k + 1)) S' ∧ gi S' 7 k 8 = lostI (gi S 7 k 8) (gi S 7 k 3) (gi S 0 0 8) ∧ (∀ j, j ≠ k → gi S' 7 j 8 = gi S 7 j 8) ∧ Md [(7, none, some 8)] S S' := by
      by_cases q0 : gi S 7 k 8 = 0
      · by_cases q1 : gi S 0 0 8 ≤ gi S 7 k 3
        · exact ⟨S, by rw [hd, if_pos q0, if_pos q1], by rw [lostI, if_pos q0, if_pos q1], fun _ _ => rfl, Md.rf _ S⟩
        · exact ⟨ui S 7 k 8 3, by rw [hd, if_pos q0, if_neg q1], by rw [lostI, if_pos q0, if_neg q1, gi_ui_s], fun j hj => gi_ui_k _ _ _ _ _ _ hj, (Md.rf _ S).ui rfl rfl⟩
      · exact ⟨S, by rw [hd, if_neg q0], by rw [lostI, if_neg q0], fun _ _ => rfl, Md.rf _ S⟩
    obtain ⟨S', s1, s2, s3, s4⟩ := step
    obtain ⟨Z, y1, y2, y3, y4, y5⟩ := ih n (k + 1) S' (by omega) (by omega) (by rw [s4.gi 0 0 9 rfl]; exact h9)
    have e8 : gi S' 0 0 8 = gi S 0 0 8 := s4.gi 0 0 8 rfl
    refine ⟨Z, by rw [s1, y1, e8], fun j hj => ?_, fun j hj => by rw [y3 j hj, s3 j (by omega)], y4, (s4.mono (fun q hq => by rw [List.mem_singleton] at hq; rw [hq]; exact List.mem_cons_self)).trans y5⟩
    rw [y2 j hj, e8, s4.gi 7 j 3 rfl]
    by_cases a : j < k
    · rw [if_pos (show j < k + 1 by omega), if_pos a, s3 j (by omega)]
    · by_cases b : j = k
      · subst b
        rw [if_pos (show j < j + 1 by omega), if_neg a, s2]
      · rw [if_neg (show ¬ j < k + 1 by omega), if_neg a, s3 j b]
theorem mw45 (N : Nat) {c : Nat} (hc : c ≤ 7) : ∀ (m n k : Nat) (S : HS), k + m = c → m < n → gi S 30 0 1 = nI c → ∃ Z, f_X9_work_45 csF N n (nI k) S = some (gi S 30 0 0, Z) ∧ (∀ j, j < c → gi Z 31 13 j = if j < k then gi S 31 13 j else lostI (gi S 31 13 j) (gi S 31 8 j) (gi S 30 0 0)) ∧ Md [(31, some 13, none)] S Z := by
  intro m
  induction m with
  | zero =>
    intro n k S hk hn' h9
    obtain ⟨n, rfl⟩ : ∃ q, n = q + 1 := ⟨n - 1, by omega⟩
    refine ⟨S, ?_, fun j hj => ?_, Md.rf _ S⟩
    · rw [f_X9_work_45, mF (by decide) (by decide), ck_t, h9, if_pos (by rw [nI_leI (by omega) (by omega)]; omega)]
    · rw [if_pos (by omega)]
  | succ m ih =>
    intro n k S hk hn' h9
    obtain ⟨n, rfl⟩ : ∃ q, n = q + 1 := ⟨n - 1, by omega⟩
    have h7 : k < 7 := by omega
    have io := X9_isOpen_eq N k S h7 (by rw [h9]; exact nI_rg (by omega) (by omega) (by omega)) (by rw [h9, nI_toInt (by omega)]; omega)
    have hd : f_X9_work_45 csF N (n + 1) (nI k) S = bif_ (gi S 31 13 k = 0) (if gi S 30 0 0 ≤ gi S 31 8 k then f_X9_work_45 csF N n (nI (k + 1)) S else f_X9_work_45 csF N n (nI (k + 1)) (ui S 31 13 k 3)) (f_X9_work_45 csF N n (nI (k + 1)) S) := by
      rw [f_X9_work_45, mF (by decide) (by decide), ck_t, h9, if_neg (by rw [nI_leI (by omega) (by omega)]; omega), io, ob_s, if_bif, mF (by decide) (by decide), ck_t, inb_k h7 (by decide), ck_t, cl_k (show k < 2147483648 by omega), mF (by decide) (by decide), ck_t, ck_t]
      simp only [lt_s_, nI_1]
    have step : ∃ S', f_X9_work_45 csF N (n + 1) (nI k) S = f_X9_work_45 csF N n (nI (k + 1)) S' ∧ gi S' 31 13 k = lostI (gi S 31 13 k) (gi S 31 8 k) (gi S 30 0 0) ∧ (∀ j, j ≠ k → gi S' 31 13 j = gi S 31 13 j) ∧ Md [(31, some 13, none)] S S' := by
      by_cases q0 : gi S 31 13 k = 0
      · by_cases q1 : gi S 30 0 0 ≤ gi S 31 8 k
        · exact ⟨S, by rw [hd, bif_t _ _ q0, if_pos q1], by rw [lostI, if_pos q0, if_pos q1], fun _ _ => rfl, Md.rf _ S⟩
        · exact ⟨ui S 31 13 k 3, by rw [hd, bif_t _ _ q0, if_neg q1], by rw [lostI, if_pos q0, if_neg q1, gi_ui_s], fun j hj => gi_ui_j _ _ _ _ _ _ hj, (Md.rf _ S).ui rfl rfl⟩
      · exact ⟨S, by rw [hd, bif_f _ _ q0], by rw [lostI, if_neg q0], fun _ _ => rfl, Md.rf _ S⟩
    obtain ⟨S', s1, s2, s3, s4⟩ := step
    obtain ⟨Z, y1, y2, y5⟩ := ih n (k + 1) S' (by omega) (by omega) (by rw [s4.gi 30 0 1 rfl]; exact h9)
    have e8 : gi S' 30 0 0 = gi S 30 0 0 := s4.gi 30 0 0 rfl
    refine ⟨Z, by rw [s1, y1, e8], fun j hj => ?_, s4.trans y5⟩
    rw [y2 j hj, e8, s4.gi 31 8 j rfl]
    by_cases a : j < k
    · rw [if_pos (show j < k + 1 by omega), if_pos a, s3 j (by omega)]
    · by_cases b : j = k
      · subst b
        rw [if_pos (show j < j + 1 by omega), if_neg a, s2]
      · rw [if_neg (show ¬ j < k + 1 by omega), if_neg a, s3 j b]
