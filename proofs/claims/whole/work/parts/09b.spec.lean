/-! ===== what BEST is: a problem D by codes: D 0 0 0 the week, D 0 0 1 how many orders came; D 2 f w hours; D 3 f i hours left; D 4 f 0 silver; D 5 i 0 due; D 6 i 0 price; D 7 i 0 silver of an order; D 8 i 0 open (1); D 9 (7 f + i) w may be made then (1) ===== -/
/-- one order behind another: m weeks may be looked at from w on, has hours left in w, toDo hours to do -/
def lay1 (hr : Nat → Nat) (ok : Nat → Bool) : Nat → Nat → Nat → Nat → Bool → Option (Nat × Nat)
  | 0, _, _, _, _ => none
  | m + 1, w, has, toDo, bg => if ((bg || decide (0 < has)) && !ok w) = true then none else if toDo ≤ has then some (w, has - toDo) else lay1 hr ok m (w + 1) (hr (w + 1)) (toDo - has) (bg || decide (0 < has))
/-- order i laid by family f behind the bench (w, l) -/
def layD (D : Nat → Nat → Nat → Nat) (f i : Nat) (b : Nat × Nat) : Option (Nat × Nat) := lay1 (D 2 f) (fun w => decide (D 9 (7 * f + i) w = 1)) (D 5 i 0 + 1 - b.1) b.1 b.2 (D 3 f i) false
/-- a row of orders, one behind the other -/
def runD (D : Nat → Nat → Nat → Nat) (f : Nat) : List Nat → Nat × Nat → Option (Nat × Nat)
  | [], b => some b
  | i :: l, b => match layD D f i b with
    | none => none
    | some b' => runD D f l b'
def st0 (D : Nat → Nat → Nat → Nat) (f : Nat) : Nat × Nat := (D 0 0 0, D 2 f (D 0 0 0))
/-- i goes ahead of j -/
def bef (D : Nat → Nat → Nat → Nat) (i j : Nat) : Bool := decide (D 5 i 0 < D 5 j 0) || (decide (D 5 i 0 = D 5 j 0) && decide (i < j))
/-- a row is in order -/
def rowOk (D : Nat → Nat → Nat → Nat) (l : List Nat) : Prop := l.Pairwise (fun i j => bef D i j = true)
def silD (D : Nat → Nat → Nat → Nat) (l : List Nat) : Nat := (l.map fun i => D 7 i 0).sum
/-- family f can do the orders of the row l -/
def canD (D : Nat → Nat → Nat → Nat) (f : Nat) (l : List Nat) : Prop := silD D l ≤ D 4 f 0 ∧ (runD D f l (st0 D f)).isSome = true
/-- a way: order i goes to family g i (4: to none) -/
def wayOk (D : Nat → Nat → Nat → Nat) (g : Nat → Nat) : Prop := (∀ i, g i ≤ 4) ∧ (∀ i, g i < 4 → i < D 0 0 1 ∧ D 8 i 0 = 1) ∧ ∀ f, f < 4 → ∀ l : List Nat, rowOk D l → (∀ i, i ∈ l ↔ g i = f) → canD D f l
def un5 (i : Nat) : Nat := match i with
  | 0 => 15625
  | 1 => 3125
  | 2 => 625
  | 3 => 125
  | 4 => 25
  | 5 => 5
  | _ => 1
/-- what an order brings by a family, as one number -/
def gainD (D : Nat → Nat → Nat → Nat) (f i : Nat) : Int := if f < 4 then (D 6 i 0 : Int) * 10000000000 - (D 3 f i : Int) * 100000 + (4 - (f : Int)) * (un5 i : Int) else 0
def sum7 (h : Nat → Int) : Int := h 0 + h 1 + h 2 + h 3 + h 4 + h 5 + h 6
def rankD (D : Nat → Nat → Nat → Nat) (g : Nat → Nat) : Int := sum7 fun i => gainD D (g i) i
def prD (D : Nat → Nat → Nat → Nat) (g : Nat → Nat) : Int := sum7 fun i => if g i < 4 then (D 6 i 0 : Int) else 0
def wkD (D : Nat → Nat → Nat → Nat) (g : Nat → Nat) : Int := sum7 fun i => if g i < 4 then (D 3 (g i) i : Int) else 0
def dgD (g : Nat → Nat) : Int := sum7 fun i => if g i < 4 then (4 - (g i : Int)) * (un5 i : Int) else 0
def isBest (D : Nat → Nat → Nat → Nat) (g : Nat → Nat) : Prop := wayOk D g ∧ ∀ g', wayOk D g' → rankD D g' ≤ rankD D g
/-- the bounds that the rank rests on -/
def dOk (D : Nat → Nat → Nat → Nat) : Prop := D 0 0 1 ≤ 7 ∧ D 0 0 0 ≤ 51 ∧ (∀ i, i < D 0 0 1 → D 6 i 0 ≤ 9999 ∧ D 5 i 0 ≤ 51 ∧ D 7 i 0 ≤ 4000) ∧ (∀ f i, f < 4 → i < D 0 0 1 → D 8 i 0 = 1 → 1 ≤ D 3 f i ∧ D 3 f i ≤ 6000) ∧ (∀ f w, f < 4 → w < 52 → D 2 f w ≤ 99) ∧ ∀ f, f < 4 → D 4 f 0 ≤ 99999
theorem rank_split (D : Nat → Nat → Nat → Nat) (g : Nat → Nat) : rankD D g = prD D g * 10000000000 - wkD D g * 100000 + dgD g := by
  have h : ∀ i, gainD D (g i) i = (if g i < 4 then (D 6 i 0 : Int) else 0) * 10000000000 - (if g i < 4 then (D 3 (g i) i : Int) else 0) * 100000 + (if g i < 4 then (4 - (g i : Int)) * (un5 i : Int) else 0) := by
    intro i
    unfold gainD
    by_cases q : g i < 4
    · simp [q]
    · simp [q]
  unfold rankD prD wkD dgD sum7
  simp only [h]
  omega
theorem dg_inj {g g' : Nat → Nat} (h : ∀ i, g i ≤ 4) (h' : ∀ i, g' i ≤ 4) (e : dgD g = dgD g') : ∀ i, i < 7 → g i = g' i := by
  have v : ∀ (k : Nat → Nat), (∀ i, k i ≤ 4) → dgD k = sum7 fun i => (4 - (k i : Int)) * (un5 i : Int) := by
    intro k hk
    unfold dgD
    congr 1
    funext i
    by_cases q : k i < 4
    · rw [if_pos q]
    · rw [if_neg q]
      have := hk i
      rw [show k i = 4 by omega]
      simp
  rw [v g h, v g' h'] at e
  unfold sum7 at e
  simp only [un5] at e
  have a0 := h 0; have a1 := h 1; have a2 := h 2; have a3 := h 3; have a4 := h 4; have a5 := h 5; have a6 := h 6
  have b0 := h' 0; have b1 := h' 1; have b2 := h' 2; have b3 := h' 3; have b4 := h' 4; have b5 := h' 5; have b6 := h' 6
  intro i hi
  have e0 : g 0 = g' 0 := by omega
  have e1 : g 1 = g' 1 := by omega
  have e2 : g 2 = g' 2 := by omega
  have e3 : g 3 = g' 3 := by omega
  have e4 : g 4 = g' 4 := by omega
  have e5 : g 5 = g' 5 := by omega
  have e6 : g 6 = g' 6 := by omega
  match i, hi with
  | 0, _ => exact e0
  | 1, _ => exact e1
  | 2, _ => exact e2
  | 3, _ => exact e3
  | 4, _ => exact e4
  | 5, _ => exact e5
  | 6, _ => exact e6
theorem dg_rng {g : Nat → Nat} (h : ∀ i, g i ≤ 4) : 0 ≤ dgD g ∧ dgD g ≤ 78124 := by
  have v : ∀ i, 0 ≤ (if g i < 4 then (4 - (g i : Int)) * (un5 i : Int) else 0) ∧ (if g i < 4 then (4 - (g i : Int)) * (un5 i : Int) else 0) ≤ 4 * (un5 i : Int) := by
    intro i
    have hi := h i
    by_cases q : g i < 4
    · rw [if_pos q]
      rcases (show g i = 0 ∨ g i = 1 ∨ g i = 2 ∨ g i = 3 by omega) with e | e | e | e <;> rw [e] <;> constructor <;> simp <;> omega
    · rw [if_neg q]
      constructor <;> omega
  have v0 := v 0; have v1 := v 1; have v2 := v 2; have v3 := v 3; have v4 := v 4; have v5 := v 5; have v6 := v 6
  unfold dgD sum7
  simp only [un5] at v0 v1 v2 v3 v4 v5 v6 ⊢
  omega
theorem wk_rng {D : Nat → Nat → Nat → Nat} {g : Nat → Nat} (hD : dOk D) (hg : ∀ i, g i < 4 → i < D 0 0 1 ∧ D 8 i 0 = 1) : 0 ≤ wkD D g ∧ wkD D g ≤ 42000 := by
  have v : ∀ i, i < 7 → 0 ≤ (if g i < 4 then (D 3 (g i) i : Int) else 0) ∧ (if g i < 4 then (D 3 (g i) i : Int) else 0) ≤ 6000 := by
    intro i hi
    by_cases q : g i < 4
    · rw [if_pos q]
      have := hD.2.2.2.1 (g i) i q (hg i q).1 (hg i q).2
      omega
    · rw [if_neg q]
      omega
  have v0 := v 0 (by decide); have v1 := v 1 (by decide); have v2 := v 2 (by decide); have v3 := v 3 (by decide); have v4 := v 4 (by decide); have v5 := v 5 (by decide); have v6 := v 6 (by decide)
  unfold wkD sum7
  dsimp only
  omega
theorem pr_rng {D : Nat → Nat → Nat → Nat} {g : Nat → Nat} (hD : dOk D) (hg : ∀ i, g i < 4 → i < D 0 0 1 ∧ D 8 i 0 = 1) : 0 ≤ prD D g ∧ prD D g ≤ 69993 := by
  have v : ∀ i, i < 7 → 0 ≤ (if g i < 4 then (D 6 i 0 : Int) else 0) ∧ (if g i < 4 then (D 6 i 0 : Int) else 0) ≤ 9999 := by
    intro i hi
    by_cases q : g i < 4
    · rw [if_pos q]
      have := hD.2.2.1 i (hg i q).1
      omega
    · rw [if_neg q]
      omega
  have v0 := v 0 (by decide); have v1 := v 1 (by decide); have v2 := v 2 (by decide); have v3 := v 3 (by decide); have v4 := v 4 (by decide); have v5 := v 5 (by decide); have v6 := v 6 (by decide)
  unfold prD sum7
  dsimp only
  omega
/-- one rank: one sum, one work, one way -/
theorem rank_inj {D : Nat → Nat → Nat → Nat} {g g' : Nat → Nat} (hD : dOk D) (h : ∀ i, g i ≤ 4) (h' : ∀ i, g' i ≤ 4) (hg : ∀ i, g i < 4 → i < D 0 0 1 ∧ D 8 i 0 = 1) (hg' : ∀ i, g' i < 4 → i < D 0 0 1 ∧ D 8 i 0 = 1) (e : rankD D g = rankD D g') : prD D g = prD D g' ∧ wkD D g = wkD D g' ∧ dgD g = dgD g' := by
  rw [rank_split, rank_split] at e
  have a := dg_rng h; have b := dg_rng h'; have c := wk_rng (g := g) hD hg; have d := wk_rng (g := g') hD hg'
  have p1 := pr_rng (g := g) hD hg; have p2 := pr_rng (g := g') hD hg'
  refine ⟨?_, ?_, ?_⟩ <;> omega
theorem best_one {D : Nat → Nat → Nat → Nat} {g g' : Nat → Nat} (hD : dOk D) (h : isBest D g) (h' : isBest D g') : ∀ i, g i = g' i := by
  have e : rankD D g = rankD D g' := Int.le_antisymm (h'.2 g h.1) (h.2 g' h'.1)
  have := (rank_inj hD h.1.1 h'.1.1 h.1.2.1 h'.1.2.1 e).2.2
  have h7 := dg_inj h.1.1 h'.1.1 this
  intro i
  by_cases hi : i < 7
  · exact h7 i hi
  · have a := h.1.1 i; have b := h'.1.1 i
    have c : ¬ g i < 4 := fun q => by have := (h.1.2.1 i q).1; have := hD.1; omega
    have d : ¬ g' i < 4 := fun q => by have := (h'.1.2.1 i q).1; have := hD.1; omega
    omega
/-- rank compares as sum, then work, then the families -/
theorem rank_le {D : Nat → Nat → Nat → Nat} {g g' : Nat → Nat} (hD : dOk D) (h : ∀ i, g i ≤ 4) (h' : ∀ i, g' i ≤ 4) (hg : ∀ i, g i < 4 → i < D 0 0 1 ∧ D 8 i 0 = 1) (hg' : ∀ i, g' i < 4 → i < D 0 0 1 ∧ D 8 i 0 = 1) : rankD D g ≤ rankD D g' ↔ prD D g < prD D g' ∨ (prD D g = prD D g' ∧ (wkD D g' < wkD D g ∨ (wkD D g = wkD D g' ∧ dgD g ≤ dgD g'))) := by
  rw [rank_split, rank_split]
  have a := dg_rng h; have b := dg_rng h'; have c := wk_rng (g := g) hD hg; have d := wk_rng (g := g') hD hg'
  have p1 := pr_rng (g := g) hD hg; have p2 := pr_rng (g := g') hD hg'
  constructor
  · intro q
    omega
  · intro q
    omega
