/-! ===== work: a family, all families ===== -/
theorem vM_sorts {S Z : HS} (m : Md ml_X9_sorts S Z) : vM Z = vM S := by
  funext a i
  unfold vM
  split <;> exact m.gi _ _ _ rfl
theorem mwF (N : Nat) (hN : 10 ≤ N) {M0 : HS} {D : Pb} {g hn wn : Nat → Nat} (hx : Mx M0 D) (hg : wayOk D g) (hpl : ∀ i, g i < 4 → ∃ wk, planAt D g i wk (hn i)) (hwn : ∀ i, i < D 0 0 1 → g i < 4 → nI (wn i) = gi M0 31 11 i - nI (D 3 (g i) i) + nI (hn i)) (h23 : ∀ j, j < D 0 0 1 → gi M0 31 23 j = gvI (g j)) {f : Nat} (hf : f < 4) {S : HS} (hM : Md ml_X9_works M0 S) (hW : Wk D g hn wn (fun j => decide (g j < f)) (vM S) (vM M0)) : ∃ Z, f_X9_works csF N (nI f) S = some ((), Z) ∧ Md ml_X9_works M0 Z ∧ Wk D g hn wn (fun j => decide (g j < f + 1)) (vM Z) (vM M0) := by
  have ha := hx.a
  have hc := cand_way hg
  have sx : Sx S D := hx.sx.md hM rfl (fun _ => rfl)
  have e1 := setOf_eq N hN sx hc hf (fun j hj => by rw [hM.gi 31 23 j rfl]; exact h23 j hj)
  obtain ⟨Z1, l, z1, z2, z3, z4, z5, z6⟩ := X9_sorts_eq N hN sx (msk_lt g f)
  have hl : ∀ j, j ∈ l ↔ g j = f := fun j => by
    rw [z5 j]
    constructor
    · rintro ⟨a, b⟩
      rw [msk_bits g f (by omega)] at b
      exact of_decide_eq_true b
    · intro e
      have a := (hc.2 j (by omega)).1
      exact ⟨a, by rw [msk_bits g f (by omega), decide_eq_true e]⟩
  have hM1 : Md ml_X9_works M0 Z1 := hM.trans (z6.mono (by decide))
  have hh := (hx.h hf (show D 0 0 0 < 52 by omega)).2
  have e0 : gi Z1 30 0 0 = nI (D 0 0 0) := by rw [hM1.gi 30 0 0 rfl]; exact ha.2.1
  have eh : gi Z1 31 0 (52 * f + D 0 0 0) = nI (D 2 f (D 0 0 0)) := by rw [hM1.gi 31 0 _ rfl]; exact hh.1
  have n0 : nlD D (st0 D f) = D 2 f (D 0 0 0) := by unfold nlD st0; rw [if_pos rfl]
  have hH : Hn D f hn l (st0 D f) := Hn_of z3 hl (fun i hi => hpl i (by rw [(hl i).mp hi]; exact hf)) l [] (st0 D f) rfl rfl
  obtain ⟨Z, y1, y2⟩ := mw26 N hx hf hwn (L := l) (by omega) (fun i hi => by
    have a := (hl i).mp hi
    have b := hc.2 i (by omega)
    exact ⟨b.1, b.2, a⟩) l N 0 (st0 D f) (fun j => decide (g j < f)) Z1 rfl (by simp) (by omega) (row_nd z3) hM1 z2 (by rw [vM_sorts z6]; exact hW) (fun j hj => by
      have a := (hl j).mp hj
      exact decide_eq_false (by omega)) (by rw [n0]; exact hh.2) (Nat.le_refl _) hH
  have e : f_X9_works csF N (nI f) S = some ((), Z) := by
    rw [f_X9_works, mF (by decide) (by decide), ck_t, e1, ob_s, z1, ob_s, mF (by decide) (by decide), ck_t, e0, ix52, inb_k (show 52 * f + D 0 0 0 < 208 by omega) (by decide), ck_t, lt_s_, cl_k (by omega), eh]
    rw [n0] at y1
    exact y1
  refine ⟨Z, e, hM.trans (md_X9_works _ _ _ _ _ _ e), y2.cg (fun j _ => ?_)⟩
  by_cases a : g j < f
  · have b : g j < f + 1 := by omega
    simp [a, b]
  · by_cases q : g j = f
    · have c := (hl j).mpr q
      simp [c, q]
    · have c : ¬ j ∈ l := fun x => q ((hl j).mp x)
      have b : ¬ g j < f + 1 := by omega
      simp [a, b, c]
theorem mw17 (N : Nat) (hN : 10 ≤ N) {M0 : HS} {D : Pb} {g hn wn : Nat → Nat} (hx : Mx M0 D) (hg : wayOk D g) (hpl : ∀ i, g i < 4 → ∃ wk, planAt D g i wk (hn i)) (hwn : ∀ i, i < D 0 0 1 → g i < 4 → nI (wn i) = gi M0 31 11 i - nI (D 3 (g i) i) + nI (hn i)) (h23 : ∀ j, j < D 0 0 1 → gi M0 31 23 j = gvI (g j)) : ∀ (m n f : Nat) (S : HS), f + m = 4 → m < n → Md ml_X9_works M0 S → Wk D g hn wn (fun j => decide (g j < f)) (vM S) (vM M0) → ∃ Z, f_X9_work_17 csF N n (nI f) S = f_X9_work_45 csF N N 0 (ui Z 30 0 0 (gi Z 30 0 0 + 1)) ∧ Md ml_X9_works M0 Z ∧ Wk D g hn wn (fun j => decide (g j < 4)) (vM Z) (vM M0) := by
  intro m
  induction m with
  | zero =>
    intro n f S h1 h2 hM hW
    obtain ⟨n, rfl⟩ : ∃ q, n = q + 1 := ⟨n - 1, by omega⟩
    have e : f = 4 := by omega
    subst e
    refine ⟨S, ?_, hM, hW⟩
    rw [f_X9_work_17, if_pos (by decide), mF (by decide) (by decide), ck_t, lt_s_]
  | succ m ih =>
    intro n f S h1 h2 hM hW
    obtain ⟨n, rfl⟩ : ∃ q, n = q + 1 := ⟨n - 1, by omega⟩
    obtain ⟨Z1, z1, z2, z3⟩ := mwF N hN hx hg hpl hwn h23 (f := f) (by omega) hM hW
    obtain ⟨Z, y1, y2, y3⟩ := ih n (f + 1) Z1 (by omega) (by omega) z2 z3
    refine ⟨Z, ?_, y2, y3⟩
    rw [f_X9_work_17, if_neg (by rw [show (4 : Int32) = nI 4 from rfl, nI_leI (by omega) (by omega)]; omega), mF (by decide) (by decide), ck_t, z1, ob_s, lt_s_, nI_1]
    exact y1
theorem md_hi {M : List (Nat × Option Nat × Option Nat)} {S Z : HS} (m : Md M S Z) (h : M.all (fun q => decide (q.1 < 30)) = true) : ∀ c k j, 30 ≤ c → Z.1 c k j = S.1 c k j ∧ Z.2 c k j = S.2 c k j := fun c k j hc => m c k j (by
  unfold pm
  rw [List.any_eq_false]
  intro q hq
  have a := of_decide_eq_true (List.all_eq_true.mp h q hq)
  have b : (q.1 == c) = false := by
    apply Bool.eq_false_iff.mpr
    intro x
    have := eq_of_beq x
    omega
  simp [b])
theorem md_lo {M : List (Nat × Option Nat × Option Nat)} {S Z : HS} (m : Md M S Z) (h : M.all (fun q => decide (30 ≤ q.1)) = true) : ∀ c k j, c < 30 → Z.1 c k j = S.1 c k j ∧ Z.2 c k j = S.2 c k j := fun c k j hc => m c k j (by
  unfold pm
  rw [List.any_eq_false]
  intro q hq
  have a := of_decide_eq_true (List.all_eq_true.mp h q hq)
  have b : (q.1 == c) = false := by
    apply Bool.eq_false_iff.mpr
    intro x
    have := eq_of_beq x
    omega
  simp [b])
/-- all that was worked at -/
theorem Wk.all {D : Pb} {g hn wn : Nat → Nat} {A A0 : Nat → Nat → Int32} (h : Wk D g hn wn (fun _ => true) A A0) {i : Nat} (hi : i < D 0 0 1) : A 0 i = (if toB g hn i = true then nI (wn i) else A0 0 i) ∧ A 1 i = (if toB g hn i = true then nI (g i) else A0 1 i) ∧ A 2 i = (if dnB D g hn i = true then 1 else A0 2 i) := by
  have x := h.1 i hi
  rw [Bool.true_and, Bool.true_and] at x
  exact x
/-- what a family's done orders take is at most what it has -/
theorem row_ex {S : HS} {D : Pb} (sx : Sx S D) {g : Nat → Nat} (hc : cand D g) {f : Nat} (hf : f < 4) : ∃ l, rowOk D l ∧ ∀ i, i ∈ l ↔ g i = f := by
  have ha := sx.a
  obtain ⟨Z1, l, z1, z2, z3, z4, z5, z6⟩ := X9_sorts_eq 10 (by decide) sx (msk_lt g f)
  refine ⟨l, z3, fun j => ?_⟩
  rw [z5 j]
  constructor
  · rintro ⟨a, b⟩
    rw [msk_bits g f (by omega)] at b
    exact of_decide_eq_true b
  · intro e
    have a := (hc.2 j (by omega)).1
    exact ⟨a, by rw [msk_bits g f (by omega), decide_eq_true e]⟩
theorem sum_vF {D : Pb} {g hn : Nat → Nat} (hD : dOk D) (hg : wayOk D g) {f : Nat} (hf : f < 4) {l : List Nat} (l1 : rowOk D l) (l2 : ∀ i, i ∈ l ↔ g i = f) : ∃ n : Nat, n ≤ D 4 f 0 ∧ sI (fun _ => true) (vF D g hn f) = nI n := by
  have pos : ∀ i, 0 ≤ vF D g hn f i := fun i => by unfold vF; split <;> omega
  have hs : 0 ≤ sum7 (fun i => vF D g hn f i) := by
    unfold sum7
    have := pos 0; have := pos 1; have := pos 2; have := pos 3; have := pos 4; have := pos 5; have := pos 6
    dsimp only
    omega
  have e0 : sI (fun _ => true) (vF D g hn f) = Int32.ofInt (sum7 (fun i => vF D g hn f i)) := by
    unfold sI
    simp
  refine ⟨(sum7 (fun i => vF D g hn f i)).toNat, ?_, ?_⟩
  · have hcan := (hg.2.2 f hf l l1 l2).1
    have c := cand_way hg
    have h7 : ∀ i, i ∈ l → i < 7 := fun i hi => by
      have a := (c.2 i (by rw [(l2 i).mp hi]; exact hf)).1
      have := hD.1
      omega
    have e1 := sum7_list (fun i => (D 7 i 0 : Int)) l (row_nd l1) h7
    have e2 : ((silD D l : Nat) : Int) = (l.map (fun i => (D 7 i 0 : Int))).sum := by unfold silD; exact sum_cast (fun i => D 7 i 0) l
    have le : sum7 (fun i => vF D g hn f i) ≤ sum7 (fun i => if i ∈ l then (D 7 i 0 : Int) else 0) := by
      have pt : ∀ i, vF D g hn f i ≤ if i ∈ l then (D 7 i 0 : Int) else 0 := fun i => by
        unfold vF
        by_cases a : g i = f
        · rw [if_pos ((l2 i).mpr a)]
          split <;> omega
        · rw [if_neg (fun x => a ((l2 i).mp x)), if_neg (by simp [a])]
          omega
      unfold sum7
      have := pt 0; have := pt 1; have := pt 2; have := pt 3; have := pt 4; have := pt 5; have := pt 6
      dsimp only
      omega
    omega
  · rw [e0, ← oI_n]
    congr 1
    omega
