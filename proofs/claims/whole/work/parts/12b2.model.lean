/-! what the other object's cells alone say -/
def Mx (S : HS) (D : Pb) : Prop := ∃ A, Fx A D ∧ ∀ c k j, 30 ≤ c → S.1 c k j = A.1 c k j ∧ S.2 c k j = A.2 c k j
theorem Fx.mx {S : HS} {D : Pb} (h : Fx S D) : Mx S D := ⟨S, h, fun _ _ _ _ => ⟨rfl, rfl⟩⟩
theorem Mx.cl {S Z : HS} {D : Pb} (h : Mx S D) (e : ∀ c k j, 30 ≤ c → Z.1 c k j = S.1 c k j ∧ Z.2 c k j = S.2 c k j) : Mx Z D := by
  obtain ⟨A, a, b⟩ := h
  exact ⟨A, a, fun c k j hc => ⟨(e c k j hc).1.trans (b c k j hc).1, (e c k j hc).2.trans (b c k j hc).2⟩⟩
theorem Mx.sub {M : List (Nat × Option Nat × Option Nat)} {S Z : HS} {D : Pb} (h : Mx S D) (m : Md M S Z) (hM : M.all (fun q => mlS.contains q || mlS.contains (q.1, none, none)) = true) : Mx Z D := by
  obtain ⟨A, a, b⟩ := h
  refine ⟨(fun c k j => if c < 30 then A.1 c k j else Z.1 c k j, fun c k j => if c < 30 then A.2 c k j else Z.2 c k j), Fx.md a (fun c k j hc => ?_), fun c k j hc => ?_⟩
  · by_cases q : c < 30
    · simp [q]
    · simp only [if_neg q]
      have hc' : pm M c k j = false := by
        unfold pm at hc ⊢
        rw [List.any_eq_false] at hc ⊢
        intro x hx
        have := List.all_eq_true.mp hM x hx
        rw [Bool.or_eq_true, List.contains_iff_mem, List.contains_iff_mem] at this
        rcases this with y | y
        · exact hc x y
        · have := hc _ y
          simp at this
          intro z
          simp at z
          exact this z.1
      have e1 := m c k j hc'
      have e2 := b c k j (by omega)
      exact ⟨e1.1.trans e2.1, e1.2.trans e2.2⟩
  · have : ¬ c < 30 := by omega
    simp [this]
theorem mx_gi {S A : HS} (b : ∀ c k j, 30 ≤ c → S.1 c k j = A.1 c k j ∧ S.2 c k j = A.2 c k j) (c k j : Nat) (hc : 30 ≤ c) : gi S c k j = gi A c k j := (b c k j hc).1
theorem Mx.a {S : HS} {D : Pb} (h : Mx S D) : True ∧ gi S 30 0 0 = nI (D 0 0 0) ∧ True ∧ gi S 30 0 1 = nI (D 0 0 1) ∧ D 0 0 0 ≤ 51 ∧ D 0 0 1 ≤ 7 := by
  obtain ⟨A, a, b⟩ := h
  have h := a.a
  rw [mx_gi b _ _ _ (by decide), mx_gi b _ _ _ (by decide)]
  exact ⟨trivial, h.2.1, trivial, h.2.2.2.1, h.2.2.2.2⟩
theorem Mx.c {S : HS} {D : Pb} (h : Mx S D) : rg (gi S 30 0 1) 0 7 := by
  have := h.a
  rw [this.2.2.2.1]
  exact nI_rg (by omega) (by omega) (by omega)
theorem Mx.f {S : HS} {D : Pb} (h : Mx S D) {f : Nat} (hf : f < 4) : True ∧ True ∧ gi S 31 1 f = nI (D 4 f 0) ∧ D 4 f 0 ≤ 99999 := by
  obtain ⟨A, a, b⟩ := h
  have h := a.f hf
  rw [mx_gi b _ _ _ (by decide)]
  exact ⟨trivial, trivial, h.2.2⟩
theorem Mx.h {S : HS} {D : Pb} (h : Mx S D) {f w : Nat} (hf : f < 4) (hw : w < 52) : True ∧ gi S 31 0 (52 * f + w) = nI (D 2 f w) ∧ D 2 f w ≤ 99 := by
  obtain ⟨A, a, b⟩ := h
  have h := a.h hf hw
  rw [mx_gi b _ _ _ (by decide)]
  exact ⟨trivial, h.2⟩
theorem Mx.oo {S : HS} {D : Pb} (h : Mx S D) {i : Nat} (hi : i < D 0 0 1) : i < 7 ∧ True := ⟨by have := h.a; omega, trivial⟩
theorem Mx.o {S : HS} {D : Pb} (h : Mx S D) {i : Nat} (hi : i < D 0 0 1) : (True ∧ gi S 31 8 i = nI (D 5 i 0) ∧ D 5 i 0 ≤ 51) ∧ (True ∧ gi S 31 9 i = nI (D 6 i 0) ∧ D 6 i 0 ≤ 9999) ∧ (True ∧ gi S 31 12 i = nI (D 7 i 0) ∧ D 7 i 0 ≤ 4000) ∧ (True ∧ (gi S 31 13 i = 0 ↔ D 8 i 0 = 1)) := by
  obtain ⟨A, a, b⟩ := h
  have h := a.o hi
  rw [mx_gi b _ _ _ (by decide), mx_gi b _ _ _ (by decide), mx_gi b _ _ _ (by decide), mx_gi b _ _ _ (by decide)]
  exact ⟨⟨trivial, h.1.2⟩, ⟨trivial, h.2.1.2⟩, ⟨trivial, h.2.2.1.2⟩, trivial, h.2.2.2.2⟩
theorem left_raw (N : Nat) (S : HS) {i : Nat} (h7 : i < 7) (f : Int32) : f_X9_left csF N f (nI i) S = some (if gi S 31 15 i = f then gi S 31 11 i - gi S 31 14 i else gi S 31 11 i, S) := by
  rw [f_X9_left, mF (by decide) (by decide), ck_t, mF (by decide) (by decide), ck_t, inb_k h7 (by decide), ck_t, cl_k (by omega), mF (show 31 < 33 by decide) (show 11 < cnt 31 by decide), mF (show 31 < 33 by decide) (show 14 < cnt 31 by decide)]
  simp only [ck_t]
  split <;> rfl
theorem Mx.l {S : HS} {D : Pb} (h : Mx S D) {f i : Nat} (hf : f < 4) (hi : i < D 0 0 1) (N : Nat) : True ∧ f_X9_left csF N (nI f) (nI i) S = some (nI (D 3 f i), S) ∧ D 3 f i ≤ 6000 ∧ (D 8 i 0 = 1 → 1 ≤ D 3 f i) := by
  have h7 := (h.oo hi).1
  obtain ⟨A, a, b⟩ := h
  have h := a.l hf hi N
  refine ⟨trivial, ?_, h.2.2⟩
  have e := h.2.1
  rw [left_raw N A h7] at e
  injection e with e
  injection e with e _
  rw [left_raw N S h7, mx_gi b _ _ _ (by decide), mx_gi b _ _ _ (by decide), mx_gi b _ _ _ (by decide), e]
theorem Mx.k {S : HS} {D : Pb} (h : Mx S D) {f i w : Nat} (hf : f < 4) (hi : i < D 0 0 1) (hw : w < 52) (N : Nat) : True ∧ f_X9_isAllowed csF N (nI f) (gi S 31 6 i) (nI w) S = some (if D 9 (7 * f + i) w = 1 then 1 else 0, S) := by
  obtain ⟨A, a, b⟩ := h
  have h := (a.k hf hi hw N).2
  obtain ⟨-, ho⟩ := a.oo hi
  obtain ⟨o1, -⟩ := ho
  obtain ⟨b1, b2⟩ := nat_rg o1.2
  have hp : nat (gi A 31 6 i) < 6 := by omega
  refine ⟨trivial, ?_⟩
  rw [mx_gi b 31 6 i (by decide)]
  rw [b1] at h ⊢
  rw [X9_isAllowed_eq N A hf hp hw] at h
  rw [X9_isAllowed_eq N S hf hp hw]
  injection h with h
  injection h with h _
  have e : okM S f (nat (gi A 31 6 i)) w = okM A f (nat (gi A 31 6 i)) w := by
    unfold okM
    rw [mx_gi b _ _ _ (by decide), mx_gi b _ _ _ (by decide), mx_gi b _ _ _ (by decide)]
  rw [e, h]
theorem Mx.ok {S : HS} {D : Pb} (h : Mx S D) : dOk D := by
  obtain ⟨A, a, -⟩ := h
  exact a.ok
/-- as much as the rows need -/
def Sx (S : HS) (D : Pb) : Prop := (gi S 30 0 1 = nI (D 0 0 1) ∧ D 0 0 1 ≤ 7) ∧ ∀ i, i < D 0 0 1 → gi S 31 8 i = nI (D 5 i 0) ∧ D 5 i 0 ≤ 51
theorem Mx.sx {S : HS} {D : Pb} (h : Mx S D) : Sx S D := ⟨⟨h.a.2.2.2.1, h.a.2.2.2.2.2⟩, fun i hi => (h.o hi).1.2⟩
theorem Sx.a {S : HS} {D : Pb} (h : Sx S D) : True ∧ True ∧ True ∧ gi S 30 0 1 = nI (D 0 0 1) ∧ True ∧ D 0 0 1 ≤ 7 := ⟨trivial, trivial, trivial, h.1.1, trivial, h.1.2⟩
theorem Sx.oo {S : HS} {D : Pb} (h : Sx S D) {i : Nat} (hi : i < D 0 0 1) : i < 7 ∧ True := ⟨by have := h.a; omega, trivial⟩
theorem Sx.o {S : HS} {D : Pb} (h : Sx S D) {i : Nat} (hi : i < D 0 0 1) : (True ∧ gi S 31 8 i = nI (D 5 i 0) ∧ D 5 i 0 ≤ 51) ∧ True := ⟨⟨trivial, h.2 i hi⟩, trivial⟩
theorem Sx.md {M : List (Nat × Option Nat × Option Nat)} {S Z : HS} {D : Pb} (h : Sx S D) (m : Md M S Z) (h1 : pm M 30 0 1 = false) (h2 : ∀ j, pm M 31 8 j = false) : Sx Z D := ⟨⟨(m.gi _ _ _ h1).trans h.1.1, h.1.2⟩, fun i hi => ⟨(m.gi _ _ _ (h2 i)).trans (h.2 i hi).1, (h.2 i hi).2⟩⟩
