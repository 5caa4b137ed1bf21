/-! ===== the relation between the two objects ===== -/
def rg (x : Int32) (lo hi : Int) : Prop := lo ≤ x.toInt ∧ x.toInt ≤ hi
theorem rg_nI {x : Int32} {hi : Int} (h : rg x 0 hi) (hh : hi < 2147483648) : ∃ n : Nat, (n : Int) ≤ hi ∧ x = nI n := by
  obtain ⟨h1, h2⟩ := h
  refine ⟨x.toInt.toNat, by omega, ?_⟩
  rw [i_eq, nI_toInt (by omega)]
  omega
theorem nI_rg {n : Nat} {lo hi : Int} (h1 : lo ≤ n) (h2 : (n : Int) ≤ hi) (h3 : n < 2 ^ 31) : rg (nI n) lo hi := by
  unfold rg; rw [nI_toInt h3]; exact ⟨h1, h2⟩
/-- an int as a number from 0 on -/
def nat (x : Int32) : Nat := x.toInt.toNat
theorem nat_nI {n : Nat} (h : n < 2 ^ 31) : nat (nI n) = n := by unfold nat; rw [nI_toInt h]; rfl
theorem nat_rg {x : Int32} {hi : Int} (h : rg x 0 hi) : x = nI (nat x) ∧ (nat x : Int) ≤ hi := by
  obtain ⟨h1, h2⟩ := h
  have := i_hi x
  refine ⟨?_, by unfold nat; omega⟩
  rw [i_eq, nI_toInt (by unfold nat; omega)]
  unfold nat; omega
theorem btw_nI {a : Int32} {hi : Nat} (h : btw 0 a (nI hi)) (hh : hi < 2 ^ 31) : ∃ n : Nat, n ≤ hi ∧ a = nI n := by
  unfold btw at h
  rw [nI_toInt hh] at h
  have h0 : (0 : Int32).toInt = 0 := rfl
  rw [h0] at h
  refine ⟨a.toInt.toNat, by omega, ?_⟩
  rw [i_eq, nI_toInt (by omega)]
  omega
/-! the problem, read off the class's cells -/
def rkC (S : HS) : Nat := nat (gi S 0 0 5)
def bitC (x : Int64) (w : Nat) : Bool := x.toBitVec.getLsbD w
def okC (S : HS) (f p w : Nat) : Bool := !bitC (gl S 24 (rkC S) p) w && (decide (gi S 21 (rkC S) p = -1) || decide (gi S 21 (rkC S) p = nI f) || decide ((w : Int) ≤ (gi S 23 (6 * rkC S + p) f).toInt))
def dC (S : HS) : Nat → Nat → Nat → Nat := fun c a b => match c with
  | 0 => if b = 0 then nat (gi S 0 0 8) else nat (gi S 0 0 9)
  | 2 => nat (gi S 5 a b)
  | 3 => if gi S 7 b 10 = nI a then nat (gi S 7 b 6) - nat (gi S 7 b 9) else nat (gi S 7 b 6)
  | 4 => nat (gi S 4 a 2)
  | 5 => nat (gi S 7 a 3)
  | 6 => nat (gi S 7 a 4)
  | 7 => nat (gi S 7 a 7)
  | 8 => if gi S 7 a 8 = 0 then 1 else 0
  | 9 => if okC S (a / 7) (nat (gi S 7 (a % 7) 1) % 6) b = true then 1 else 0
  | _ => 0
/-- the week in which the last order of a row is over -/
def overD (D : Nat → Nat → Nat → Nat) (f : Nat) (l : List Nat) : Nat := match runD D f l (st0 D f) with
  | some b => b.1
  | none => 0
/-- the orders of family f in the row's order up to i -/
def planAt (D : Nat → Nat → Nat → Nat) (g : Nat → Nat) (i wk hn : Nat) : Prop := ∃ (l : List Nat) (b b' : Nat × Nat), rowOk D (l ++ [i]) ∧ (∀ j, j ∈ l ↔ g j = g i ∧ bef D j i = true) ∧ runD D (g i) l (st0 D (g i)) = some b ∧ layD D (g i) i b = some b' ∧ wk = b'.1 ∧ hn = (if b.1 = D 0 0 0 then min (D 3 (g i) i) b.2 else 0)
/-- the plan in the class's cells is BEST -/
def PlanOk (S : HS) : Prop := ∃ g, isBest (dC S) g ∧ gi S 12 0 0 = nI (prD (dC S) g).toNat ∧ gi S 12 0 1 = nI (wkD (dC S) g).toNat ∧
  ∀ i, i < 7 → (¬ g i < 4 ∧ gi S 13 0 i = -1 ∧ gi S 13 1 i = -1 ∧ gi S 13 2 i = 0) ∨ (g i < 4 ∧ gi S 13 0 i = nI (g i) ∧ ∃ wk hn, planAt (dC S) g i wk hn ∧ gi S 13 1 i = nI wk ∧ gi S 13 2 i = nI hn)
def IvA (S : HS) : Prop := gi S 0 0 8 = gi S 30 0 0 ∧ rg (gi S 30 0 0) 0 51 ∧ gi S 0 0 9 = gi S 30 0 1 ∧ rg (gi S 30 0 1) 0 7 ∧ gi S 0 0 10 = gi S 30 0 2
def IvF (S : HS) : Prop := ∀ f, f < 4 → gi S 4 f 0 = nI f ∧ gi S 4 f 2 = gi S 31 1 f ∧ rg (gi S 31 1 f) 0 99999 ∧ gi S 4 f 3 = gi S 31 2 f
def IvH (S : HS) : Prop := ∀ f, f < 4 → ∀ w, w < 52 → gi S 5 f w = gi S 31 0 (52 * f + w) ∧ rg (gi S 31 0 (52 * f + w)) 0 99
def IvP (S : HS) : Prop := ∀ p, p < 6 → gi S 6 p 0 = gi S 31 3 p ∧ rg (gi S 31 3 p) 1 30 ∧ gi S 6 p 1 = gi S 31 4 p ∧ rg (gi S 31 4 p) 0 20 ∧ gi S 6 p 2 = gi S 31 5 p ∧ rg (gi S 31 5 p) 0 90
def OrdOk (S : HS) (i : Nat) : Prop := (gi S 7 i 1 = gi S 31 6 i ∧ rg (gi S 31 6 i) 0 5) ∧ (gi S 7 i 2 = gi S 31 7 i ∧ rg (gi S 31 7 i) 1 20) ∧ (gi S 7 i 3 = gi S 31 8 i ∧ rg (gi S 31 8 i) 0 51) ∧ (gi S 7 i 4 = gi S 31 9 i ∧ rg (gi S 31 9 i) 1 9999) ∧ gi S 7 i 5 = gi S 31 10 i ∧ (gi S 7 i 6 = gi S 31 11 i ∧ rg (gi S 31 11 i) 1 6000) ∧ (gi S 7 i 7 = gi S 31 12 i ∧ rg (gi S 31 12 i) 0 4000) ∧ (gi S 7 i 8 = gi S 31 13 i ∧ rg (gi S 31 13 i) 0 3) ∧ gi S 7 i 9 = gi S 31 14 i ∧ (gi S 7 i 10 = gi S 31 15 i ∧ rg (gi S 31 15 i) (-1) 3) ∧ rg (gi S 31 14 i) 0 (gi S 31 11 i).toInt ∧ (gi S 31 13 i = 0 → rg (gi S 31 14 i) 0 ((gi S 31 11 i).toInt - 1))
def IvO (S : HS) : Prop := ∀ i, i < 7 → gi S 7 i 0 = nI i ∧ ((i : Int) < (gi S 30 0 1).toInt → OrdOk S i) ∧ ((gi S 30 0 1).toInt ≤ i → gi S 7 i 8 = 0)
def IvR (S : HS) : Prop := ((gi S 0 0 5 = 0 ∧ gi S 0 0 6 = 1) ∨ (gi S 0 0 5 = 1 ∧ gi S 0 0 6 = 0)) ∧ ∀ p, p < 6 → gi S 21 (rkC S) p = gi S 31 16 p ∧ rg (gi S 31 16 p) (-1) 3 ∧ (¬ gi S 31 16 p = -1 → ∀ f, f < 4 → gi S 23 (6 * rkC S + p) f = gi S 31 17 (4 * p + f)) ∧ ∀ w, w < 52 → (gi S 32 0 (52 * p + w) = if bitC (gl S 24 (rkC S) p) w = true then 1 else 0)
def IvT (S : HS) : Prop := gi S 9 0 0 = gi S 30 0 24 ∧ rg (gi S 30 0 24) 0 500 ∧ ∀ j : Nat, (j : Int) < (gi S 30 0 24).toInt → rg (gi S 31 18 j) 0 255 ∧ gi S 10 0 j = (gi S 31 18 j).toInt8.toInt32
def IvE (S : HS) : Prop := gi S 8 0 2 = gi S 30 0 31 ∧ gi S 8 0 3 = gi S 30 0 34
def IvB (S : HS) : Prop := gi S 0 0 7 = 0 ∨ (gi S 0 0 7 = 1 ∧ PlanOk S)
def Inv (S : HS) : Prop := IvA S ∧ IvF S ∧ IvH S ∧ IvP S ∧ IvO S ∧ IvR S ∧ IvT S ∧ IvE S ∧ IvB S
/-! a piece stays where its places stay -/
theorem IvA_md {M : List (Nat × Option Nat × Option Nat)} {S Z : HS} (h : Md M S Z) (h1 : pm M 0 0 8 = false) (h2 : pm M 0 0 9 = false) (h3 : pm M 0 0 10 = false) (h4 : pm M 30 0 0 = false) (h5 : pm M 30 0 1 = false) (h6 : pm M 30 0 2 = false) (q : IvA S) : IvA Z := by
  unfold IvA at q ⊢
  rw [h.gi _ _ _ h1, h.gi _ _ _ h2, h.gi _ _ _ h3, h.gi _ _ _ h4, h.gi _ _ _ h5, h.gi _ _ _ h6]
  exact q
theorem IvF_md {M : List (Nat × Option Nat × Option Nat)} {S Z : HS} (h : Md M S Z) (h1 : ∀ k, pm M 4 k 0 = false) (h2 : ∀ k, pm M 4 k 2 = false) (h3 : ∀ k, pm M 4 k 3 = false) (h4 : ∀ j, pm M 31 1 j = false) (h5 : ∀ j, pm M 31 2 j = false) (q : IvF S) : IvF Z := by
  intro f hf
  rw [h.gi _ _ _ (h1 f), h.gi _ _ _ (h2 f), h.gi _ _ _ (h3 f), h.gi _ _ _ (h4 f), h.gi _ _ _ (h5 f)]
  exact q f hf
theorem IvH_md {M : List (Nat × Option Nat × Option Nat)} {S Z : HS} (h : Md M S Z) (h1 : ∀ k j, pm M 5 k j = false) (h2 : ∀ j, pm M 31 0 j = false) (q : IvH S) : IvH Z := by
  intro f hf w hw
  rw [h.gi _ _ _ (h1 f w), h.gi _ _ _ (h2 _)]
  exact q f hf w hw
theorem IvP_md {M : List (Nat × Option Nat × Option Nat)} {S Z : HS} (h : Md M S Z) (h1 : ∀ k j, pm M 6 k j = false) (h3 : ∀ j, pm M 31 3 j = false) (h4 : ∀ j, pm M 31 4 j = false) (h5 : ∀ j, pm M 31 5 j = false) (q : IvP S) : IvP Z := by
  intro p hp
  rw [h.gi _ _ _ (h1 p 0), h.gi _ _ _ (h1 p 1), h.gi _ _ _ (h1 p 2), h.gi _ _ _ (h3 p), h.gi _ _ _ (h4 p), h.gi _ _ _ (h5 p)]
  exact q p hp
theorem OrdOk_md {M : List (Nat × Option Nat × Option Nat)} {S Z : HS} (h : Md M S Z) (h1 : ∀ k j, pm M 7 k j = false) (h2 : ∀ k j, 6 ≤ k → k ≤ 15 → pm M 31 k j = false) {i : Nat} (q : OrdOk S i) : OrdOk Z i := by
  unfold OrdOk at q ⊢
  rw [h.gi 7 i 1 (h1 _ _), h.gi 7 i 2 (h1 _ _), h.gi 7 i 3 (h1 _ _), h.gi 7 i 4 (h1 _ _), h.gi 7 i 5 (h1 _ _), h.gi 7 i 6 (h1 _ _), h.gi 7 i 7 (h1 _ _), h.gi 7 i 8 (h1 _ _), h.gi 7 i 9 (h1 _ _), h.gi 7 i 10 (h1 _ _),
    h.gi 31 6 i (h2 _ _ (by decide) (by decide)), h.gi 31 7 i (h2 _ _ (by decide) (by decide)), h.gi 31 8 i (h2 _ _ (by decide) (by decide)), h.gi 31 9 i (h2 _ _ (by decide) (by decide)), h.gi 31 10 i (h2 _ _ (by decide) (by decide)), h.gi 31 11 i (h2 _ _ (by decide) (by decide)), h.gi 31 12 i (h2 _ _ (by decide) (by decide)), h.gi 31 13 i (h2 _ _ (by decide) (by decide)), h.gi 31 14 i (h2 _ _ (by decide) (by decide)), h.gi 31 15 i (h2 _ _ (by decide) (by decide))]
  exact q
theorem pm_r {M : List (Nat × Option Nat × Option Nat)} {a b : Nat} (h : (List.range (b + 1)).all (fun k => decide (k < a) || M.all (fun q => !(q.1 == 31) || (match q.2.1 with
  | none => false
  | some z => !(z == k)))) = true) : ∀ k j, a ≤ k → k ≤ b → pm M 31 k j = false := by
  intro k j h1 h2
  have h3 := List.all_eq_true.mp h k (List.mem_range.mpr (by omega))
  rw [decide_eq_false (by omega), Bool.false_or] at h3
  unfold pm
  rw [List.any_eq_false]
  intro q hq
  have h4 := List.all_eq_true.mp h3 q hq
  by_cases e : q.1 = 31
  · simp [e] at h4 ⊢
    cases hz : q.2.1 with
    | none => rw [hz] at h4; cases h4
    | some z =>
      rw [hz] at h4
      simp at h4 ⊢
      intro e2
      exact absurd e2 h4
  · simp [e]
theorem IvO_md {M : List (Nat × Option Nat × Option Nat)} {S Z : HS} (h : Md M S Z) (h0 : pm M 30 0 1 = false) (h1 : ∀ k j, pm M 7 k j = false) (h2 : ∀ k j, 6 ≤ k → k ≤ 15 → pm M 31 k j = false) (q : IvO S) : IvO Z := by
  intro i hi
  rw [h.gi _ _ _ (h1 i 0), h.gi _ _ _ (h1 i 8), h.gi _ _ _ h0]
  exact ⟨(q i hi).1, fun x => OrdOk_md h h1 h2 ((q i hi).2.1 x), (q i hi).2.2⟩
theorem rkC_md {M : List (Nat × Option Nat × Option Nat)} {S Z : HS} (h : Md M S Z) (h0 : pm M 0 0 5 = false) : rkC Z = rkC S := by unfold rkC; rw [h.gi _ _ _ h0]
theorem IvR_md {M : List (Nat × Option Nat × Option Nat)} {S Z : HS} (h : Md M S Z) (h0 : pm M 0 0 5 = false) (h00 : pm M 0 0 6 = false) (h1 : ∀ k j, pm M 21 k j = false) (h2 : ∀ k j, pm M 23 k j = false) (h3 : ∀ k j, pm M 24 k j = false) (h4 : ∀ j, pm M 31 16 j = false) (h5 : ∀ j, pm M 31 17 j = false) (h6 : ∀ j, pm M 32 0 j = false) (q : IvR S) : IvR Z := by
  unfold IvR at q ⊢
  rw [rkC_md h h0, h.gi _ _ _ h0, h.gi _ _ _ h00]
  refine ⟨q.1, fun p hp => ?_⟩
  obtain ⟨q1, q2, q3, q4⟩ := q.2 p hp
  rw [h.gi _ _ _ (h1 _ p), h.gi _ _ _ (h4 p), h.gl _ _ _ (h3 _ p)]
  exact ⟨q1, q2, fun x f hf => by rw [h.gi _ _ _ (h2 _ f), h.gi _ _ _ (h5 _)]; exact q3 x f hf, fun w hw => by rw [h.gi _ _ _ (h6 _)]; exact q4 w hw⟩
theorem IvT_md {M : List (Nat × Option Nat × Option Nat)} {S Z : HS} (h : Md M S Z) (h0 : pm M 9 0 0 = false) (h1 : pm M 30 0 24 = false) (h2 : ∀ j, pm M 10 0 j = false) (h3 : ∀ j, pm M 31 18 j = false) (q : IvT S) : IvT Z := by
  unfold IvT at q ⊢
  rw [h.gi _ _ _ h0, h.gi _ _ _ h1]
  refine ⟨q.1, q.2.1, fun j hj => ?_⟩
  rw [h.gi _ _ _ (h2 j), h.gi _ _ _ (h3 j)]
  exact q.2.2 j hj
theorem IvE_md {M : List (Nat × Option Nat × Option Nat)} {S Z : HS} (h : Md M S Z) (h0 : pm M 8 0 2 = false) (h1 : pm M 8 0 3 = false) (h2 : pm M 30 0 31 = false) (h3 : pm M 30 0 34 = false) (q : IvE S) : IvE Z := by
  unfold IvE at q ⊢
  rw [h.gi _ _ _ h0, h.gi _ _ _ h1, h.gi _ _ _ h2, h.gi _ _ _ h3]
  exact q
theorem Md.app {M1 M2 : List (Nat × Option Nat × Option Nat)} {S T Z : HS} (h1 : Md M1 S T) (h2 : Md M2 T Z) : Md (M1 ++ M2) S Z := (h1.mono (fun q hq => List.mem_append_left _ hq)).trans (h2.mono (fun q hq => List.mem_append_right _ hq))
