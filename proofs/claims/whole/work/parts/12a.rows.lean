/-! ===== best: rows of orders ===== -/
abbrev Pb : Type := Nat → Nat → Nat → Nat
theorem bef_iff {D : Pb} {i j : Nat} : bef D i j = true ↔ D 5 i 0 < D 5 j 0 ∨ (D 5 i 0 = D 5 j 0 ∧ i < j) := by
  unfold bef
  simp
theorem bef_ir {D : Pb} {i : Nat} : ¬ bef D i i = true := by rw [bef_iff]; omega
theorem bef_as {D : Pb} {i j : Nat} (h : bef D i j = true) : ¬ bef D j i = true := by rw [bef_iff] at h ⊢; omega
theorem bef_tr {D : Pb} {i j k : Nat} (h : bef D i j = true) (h' : bef D j k = true) : bef D i k = true := by rw [bef_iff] at h h' ⊢; omega
theorem bef_to {D : Pb} {i j : Nat} (h : i ≠ j) : bef D i j = true ∨ bef D j i = true := by rw [bef_iff, bef_iff]; omega
theorem row_nd {D : Pb} {l : List Nat} (h : rowOk D l) : l.Nodup := by
  unfold rowOk at h
  exact h.imp (fun {a b} x e => by subst e; exact bef_ir x)
theorem row_uq {D : Pb} : ∀ l l' : List Nat, rowOk D l → rowOk D l' → (∀ i, i ∈ l ↔ i ∈ l') → l = l'
  | [], l', _, _, h => by
    cases l' with
    | nil => rfl
    | cons b r => exact absurd ((h b).mpr List.mem_cons_self) (by simp)
  | a :: r, l', h1, h2, h => by
    cases l' with
    | nil => exact absurd ((h a).mp List.mem_cons_self) (by simp)
    | cons b r' =>
      unfold rowOk at h1 h2
      rw [List.pairwise_cons] at h1 h2
      have e : a = b := by
        by_cases e : a = b
        · exact e
        · have x := (h a).mp List.mem_cons_self
          have y := (h b).mpr List.mem_cons_self
          have x' : a ∈ r' := (List.mem_cons.mp x).resolve_left e
          have y' : b ∈ r := (List.mem_cons.mp y).resolve_left (fun q => e q.symm)
          exact absurd (h1.1 b y') (bef_as (h2.1 a x'))
      subst e
      rw [row_uq r r' h1.2 h2.2 (fun i => ?_)]
      constructor
      · intro hi
        have := (h i).mp (List.mem_cons_of_mem _ hi)
        exact (List.mem_cons.mp this).resolve_left (fun q => by subst q; exact bef_ir (h1.1 _ hi))
      · intro hi
        have := (h i).mpr (List.mem_cons_of_mem _ hi)
        exact (List.mem_cons.mp this).resolve_left (fun q => by subst q; exact bef_ir (h2.1 _ hi))
theorem row_app {D : Pb} {l l' : List Nat} : rowOk D (l ++ l') ↔ rowOk D l ∧ rowOk D l' ∧ ∀ a, a ∈ l → ∀ b, b ∈ l' → bef D a b = true := by
  unfold rowOk; exact List.pairwise_append
theorem row_cons {D : Pb} {i : Nat} {l : List Nat} : rowOk D (i :: l) ↔ (∀ b, b ∈ l → bef D i b = true) ∧ rowOk D l := by
  unfold rowOk; exact List.pairwise_cons
theorem row_nil (D : Pb) : rowOk D [] := List.Pairwise.nil
theorem row_get {D : Pb} {l : List Nat} (h : rowOk D l) {i j : Nat} (hij : i < j) (hj : j < l.length) : bef D (l.getD i 0) (l.getD j 0) = true := by
  unfold rowOk at h
  have := (List.pairwise_iff_getElem.mp h) i j (by omega) hj hij
  simpa [List.getD, show i < l.length by omega, hj] using this
theorem mem_getD {l : List Nat} {a : Nat} (h : a ∈ l) : ∃ j, j < l.length ∧ l.getD j 0 = a := by
  obtain ⟨j, hj, e⟩ := List.getElem_of_mem h
  exact ⟨j, hj, by simp [hj, e]⟩
theorem getD_mem {l : List Nat} {j : Nat} (h : j < l.length) : l.getD j 0 ∈ l := by simp [h]
/-- an order goes into the row -/
theorem ins_ok {D : Pb} {l : List Nat} {i k : Nat} (h : rowOk D l) (hl : ∀ j, j ∈ l → j < i) (hk : k ≤ l.length) (h1 : ∀ j, k ≤ j → j < l.length → D 5 i 0 < D 5 (l.getD j 0) 0) (h2 : k = 0 ∨ D 5 (l.getD (k - 1) 0) 0 ≤ D 5 i 0) : rowOk D (l.take k ++ i :: l.drop k) := by
  have hs : rowOk D (l.take k ++ l.drop k) := by rw [List.take_append_drop]; exact h
  rw [row_app] at hs
  rw [row_app, row_cons]
  have ht : ∀ a, a ∈ l.take k → bef D a i = true := by
    intro a ha
    have hai := hl a (List.mem_of_mem_take ha)
    obtain ⟨j, hj, e⟩ := mem_getD ha
    have hjk : j < k ∧ j < l.length := by simp at hj; omega
    have e' : l.getD j 0 = a := by rw [← e]; simp [List.getElem?_take, hjk.1]
    have le : D 5 a 0 ≤ D 5 i 0 := by
      rcases h2 with h2 | h2
      · omega
      · by_cases q : j = k - 1
        · rw [← e', q]; exact h2
        · have := row_get h (show j < k - 1 by omega) (by omega)
          rw [e', bef_iff] at this
          omega
    rw [bef_iff]
    omega
  refine ⟨hs.1, ⟨fun b hb => ?_, hs.2.1⟩, fun a ha b hb => ?_⟩
  · obtain ⟨j, hj, e⟩ := mem_getD hb
    have hj' : k + j < l.length := by simp at hj; omega
    have e' : l.getD (k + j) 0 = b := by rw [← e]; simp [List.getElem?_drop]
    have := h1 (k + j) (by omega) hj'
    rw [e'] at this
    rw [bef_iff]
    exact Or.inl this
  · rcases List.mem_cons.mp hb with q | q
    · rw [q]; exact ht a ha
    · exact hs.2.2 a ha b q
theorem ins_mem {l : List Nat} {i k a : Nat} : a ∈ l.take k ++ i :: l.drop k ↔ a = i ∨ a ∈ l := by
  rw [List.mem_append, List.mem_cons]
  constructor
  · rintro (x | x | x)
    · exact Or.inr (List.mem_of_mem_take x)
    · exact Or.inl x
    · exact Or.inr (List.mem_of_mem_drop x)
  · rintro (x | x)
    · exact Or.inr (Or.inl x)
    · rw [← List.take_append_drop k l] at x
      rcases List.mem_append.mp x with y | y
      · exact Or.inl y
      · exact Or.inr (Or.inr y)
theorem ins_len {l : List Nat} {i k : Nat} (hk : k ≤ l.length) : (l.take k ++ i :: l.drop k).length = l.length + 1 := by
  simp; omega
theorem ins_get {l : List Nat} {i k j : Nat} (hk : k ≤ l.length) : (l.take k ++ i :: l.drop k).getD j 0 = if j < k then l.getD j 0 else if j = k then i else l.getD (j - 1) 0 := by
  simp only [List.getD_eq_getElem?_getD]
  by_cases h1 : j < k
  · rw [if_pos h1, List.getElem?_append_left (by simp; omega), List.getElem?_take, if_pos h1]
  · rw [if_neg h1, List.getElem?_append_right (by simp; omega)]
    have : (l.take k).length = k := by simp; omega
    rw [this]
    by_cases h2 : j = k
    · rw [if_pos h2, h2]; simp
    · rw [if_neg h2]
      obtain ⟨d, rfl⟩ : ∃ d, j = k + 1 + d := ⟨j - k - 1, by omega⟩
      rw [show k + 1 + d - k = d + 1 by omega, List.getElem?_cons_succ, List.getElem?_drop, show k + 1 + d - 1 = k + d by omega]
theorem nI_sb {a b : Nat} (h : b ≤ a) (ha : a < 2147483648) : nI a - nI b = nI (a - b) := by
  rw [i_eq, i_sub (by rw [nI_toInt (by omega), nI_toInt (by omega)]; omega) (by rw [nI_toInt (by omega), nI_toInt (by omega)]; omega), nI_toInt (by omega), nI_toInt (by omega), nI_toInt (by omega)]
  omega
/-! a row runs piece by piece -/
theorem run_app {D : Pb} {f : Nat} : ∀ (l l' : List Nat) (b : Nat × Nat), runD D f (l ++ l') b = (match runD D f l b with
    | none => none
    | some b' => runD D f l' b')
  | [], l', b => rfl
  | i :: l, l', b => by
    simp only [List.cons_append, runD]
    cases layD D f i b with
    | none => rfl
    | some b' => exact run_app l l' b'
theorem sil_app {D : Pb} (l l' : List Nat) : silD D (l ++ l') = silD D l + silD D l' := by unfold silD; rw [List.map_append, List.sum_append]
/-- what can be done behind another can be done without it behind -/
theorem can_pre {D : Pb} {f : Nat} {l l' : List Nat} (h : canD D f (l ++ l')) : canD D f l := by
  obtain ⟨h1, h2⟩ := h
  rw [sil_app] at h1
  refine ⟨by omega, ?_⟩
  rw [run_app] at h2
  cases hq : runD D f l (st0 D f) with
  | none => rw [hq] at h2; cases h2
  | some b => rfl
/-! sums over seven -/
theorem sum7_upd (h : Nat → Int) {a : Nat} (ha : a < 7) (v : Int) : sum7 (fun i => if i = a then v else h i) = sum7 h - h a + v := by
  unfold sum7
  rcases (show a = 0 ∨ a = 1 ∨ a = 2 ∨ a = 3 ∨ a = 4 ∨ a = 5 ∨ a = 6 by omega) with e | e | e | e | e | e | e <;> subst e <;> simp <;> omega
theorem sum7_cg {h h' : Nat → Int} (e : ∀ i, i < 7 → h i = h' i) : sum7 h = sum7 h' := by
  unfold sum7
  rw [e 0 (by decide), e 1 (by decide), e 2 (by decide), e 3 (by decide), e 4 (by decide), e 5 (by decide), e 6 (by decide)]
theorem sum7_add (h h' : Nat → Int) : sum7 (fun i => h i + h' i) = sum7 h + sum7 h' := by unfold sum7; dsimp only; omega
theorem sum7_0 : sum7 (fun _ => 0) = 0 := by decide
theorem sum7_list (h : Nat → Int) : ∀ l : List Nat, l.Nodup → (∀ i, i ∈ l → i < 7) → (l.map h).sum = sum7 (fun i => if i ∈ l then h i else 0)
  | [], _, _ => by simp [sum7_0]
  | a :: l, h1, h2 => by
    rw [List.nodup_cons] at h1
    have ih := sum7_list h l h1.2 (fun i hi => h2 i (List.mem_cons_of_mem _ hi))
    rw [List.map_cons, List.sum_cons, ih]
    have e : (fun i => if i ∈ a :: l then h i else 0) = fun i => if i = a then h a else (fun i => if i ∈ l then h i else 0) i := by
      funext i
      by_cases q : i = a
      · simp [q]
      · simp [q]
    rw [e, sum7_upd _ (h2 a List.mem_cons_self)]
    simp only [if_neg h1.1]
    omega
