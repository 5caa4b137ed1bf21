/-! ===== custom: tokens ===== -/
def sb (c : Nat) : Int32 := (nI c).toInt8.toInt32
def blk (c : Nat) : Bool := c == 32 || c == 10
def ltr (c : Nat) : Bool := (decide (97 ≤ c) && decide (c ≤ 122)) || (decide (65 ≤ c) && decide (c ≤ 90))
def dgt (c : Nat) : Bool := decide (48 ≤ c) && decide (c ≤ 57)
theorem sb32 : ∀ c, c < 256 → (sb c = 32 ↔ c = 32) := by decide +kernel
theorem sb10 : ∀ c, c < 256 → (sb c = 10 ↔ c = 10) := by decide +kernel
theorem sb59 : ∀ c, c < 256 → (sb c = 59 ↔ c = 59) := by decide +kernel
theorem sb97 : ∀ c, c < 256 → (sb c < 97 ↔ ¬ (97 ≤ c ∧ c < 128)) := by decide +kernel
theorem sb122 : ∀ c, c < 256 → (sb c ≤ 122 ↔ ¬ (122 < c ∧ c < 128)) := by decide +kernel
theorem sb65 : ∀ c, c < 256 → (sb c < 65 ↔ ¬ (65 ≤ c ∧ c < 128)) := by decide +kernel
theorem sb90 : ∀ c, c < 256 → (90 < sb c ↔ (90 < c ∧ c < 128)) := by decide +kernel
theorem sb48 : ∀ c, c < 256 → (sb c < 48 ↔ ¬ (48 ≤ c ∧ c < 128)) := by decide +kernel
theorem sb57 : ∀ c, c < 256 → (57 < sb c ↔ (57 < c ∧ c < 128)) := by decide +kernel
theorem sbv : ∀ c, c < 128 → sb c = nI c := by decide +kernel
theorem X7_isLetter_eq (N : Nat) (S : HS) {c : Nat} (hc : c < 256) : f_X7_isLetter csF N (sb c) S = some (if ltr c = true then 1 else 0, S) := by
  unfold f_X7_isLetter f_X7_isLetter_12 ltr
  simp only [sb97 c hc, sb122 c hc, sb65 c hc, sb90 c hc]
  by_cases h1 : 97 ≤ c ∧ c < 128
  · by_cases h2 : c ≤ 122
    · have h3 : ¬ (122 < c ∧ c < 128) := by omega
      simp [h1, h2, h3]
    · have h3 : 122 < c ∧ c < 128 := by omega
      have h4 : 65 ≤ c ∧ c < 128 := by omega
      have h5 : 90 < c ∧ c < 128 := by omega
      have h6 : ¬ c ≤ 90 := by omega
      simp [h1, h2, h3, h4, h5, h6]
  · by_cases h4 : 65 ≤ c ∧ c < 128
    · by_cases h5 : 90 < c ∧ c < 128
      · have a1 : ¬ 97 ≤ c := by omega
        have a2 : ¬ c ≤ 90 := by omega
        simp [h1, h4, h5, a1, a2]
      · have a1 : ¬ 97 ≤ c := by omega
        have a2 : c ≤ 90 := by omega
        have a3 : ¬ 90 < c := by omega
        simp [h1, h4, a1, a2, a3]
    · have a1 : ¬ (97 ≤ c ∧ c ≤ 122) := by omega
      have a2 : ¬ (65 ≤ c ∧ c ≤ 90) := by omega
      simp [h1, h4]
      omega
theorem X7_isDigit_eq (N : Nat) (S : HS) {c : Nat} (hc : c < 256) : f_X7_isDigit csF N (sb c) S = some (if dgt c = true then 1 else 0, S) := by
  unfold f_X7_isDigit dgt
  simp only [sb48 c hc, sb57 c hc]
  by_cases h1 : 48 ≤ c ∧ c < 128
  · by_cases h2 : 57 < c ∧ c < 128
    · have a1 : ¬ c ≤ 57 := by omega
      simp [h1, h2, a1]
    · have a1 : c ≤ 57 := by omega
      have a2 : ¬ 57 < c := by omega
      simp [h1, a1, a2]
  · have a1 : ¬ (48 ≤ c ∧ c ≤ 57) := by omega
    simp [h1]
    intro a
    omega
theorem btw_nn {lo c hi : Nat} (h1 : lo < 2147483648) (h2 : c < 2147483648) (h3 : hi < 2147483648) : btw (nI lo) (nI c) (nI hi) ↔ lo ≤ c ∧ c ≤ hi := by
  unfold btw
  rw [nI_toInt (by omega), nI_toInt (by omega), nI_toInt (by omega)]
  omega
theorem X9_isLetter_eq (N : Nat) (S : HS) {c : Nat} (hc : c < 256) : f_X9_isLetter csF N (nI c) S = some (if ltr c = true then 1 else 0, S) := by
  unfold f_X9_isLetter ltr
  have e1 : btw 97 (nI c) 122 ↔ 97 ≤ c ∧ c ≤ 122 := btw_nn (by decide) (by omega) (by decide)
  have e2 : btw 65 (nI c) 90 ↔ 65 ≤ c ∧ c ≤ 90 := btw_nn (by decide) (by omega) (by decide)
  by_cases h1 : 97 ≤ c ∧ c ≤ 122
  · simp [X9_isIn_eq, ob_s, if_bif, bif_t _ _ (e1.mpr h1), h1]
  · have n1 : ¬ btw 97 (nI c) 122 := fun x => h1 (e1.mp x)
    by_cases h2 : 65 ≤ c ∧ c ≤ 90
    · simp [X9_isIn_eq, ob_s, if_bif, bif_f _ _ n1, bif_t _ _ (e2.mpr h2), h2]
    · have n2 : ¬ btw 65 (nI c) 90 := fun x => h2 (e2.mp x)
      have : ¬ ((97 ≤ c ∧ c ≤ 122) ∨ (65 ≤ c ∧ c ≤ 90)) := by omega
      simp [X9_isIn_eq, ob_s, if_bif, bif_f _ _ n1, bif_f _ _ n2]
      omega
theorem X9_isDigit_eq (N : Nat) (S : HS) {c : Nat} (hc : c < 256) : f_X9_isDigit csF N (nI c) S = some (if dgt c = true then 1 else 0, S) := by
  unfold f_X9_isDigit dgt
  have e1 : btw 48 (nI c) 57 ↔ 48 ≤ c ∧ c ≤ 57 := btw_nn (by decide) (by omega) (by decide)
  by_cases h1 : 48 ≤ c ∧ c ≤ 57
  · simp [X9_isIn_eq, ob_s, bif_t _ _ (e1.mpr h1), h1, b01_1, ck_t]
  · have n1 : ¬ btw 48 (nI c) 57 := fun x => h1 (e1.mp x)
    simp [X9_isIn_eq, ob_s, bif_f _ _ n1, b01_0, ck_t]
    omega
/-! the tape -/
def TpC (S : HS) (L : Nat) (t : Nat → Nat) : Prop := gi S 9 0 0 = nI L ∧ ∀ j, j < L → gi S 10 0 j = sb (t j)
def TpM (S : HS) (L : Nat) (t : Nat → Nat) : Prop := gi S 30 0 24 = nI L ∧ ∀ j, j < L → gi S 31 18 j = nI (t j)
theorem TpC.md {M : List (Nat × Option Nat × Option Nat)} {S Z : HS} {L : Nat} {t : Nat → Nat} (h : TpC S L t) (m : Md M S Z) (h1 : pm M 9 0 0 = false) (h2 : ∀ j, pm M 10 0 j = false) : TpC Z L t := ⟨(m.gi _ _ _ h1).trans h.1, fun j hj => (m.gi _ _ _ (h2 j)).trans (h.2 j hj)⟩
theorem TpM.md {M : List (Nat × Option Nat × Option Nat)} {S Z : HS} {L : Nat} {t : Nat → Nat} (h : TpM S L t) (m : Md M S Z) (h1 : pm M 30 0 24 = false) (h2 : ∀ j, pm M 31 18 j = false) : TpM Z L t := ⟨(m.gi _ _ _ h1).trans h.1, fun j hj => (m.gi _ _ _ (h2 j)).trans (h.2 j hj)⟩
/-- as long as q holds from p on, below L -/
def adv (q : Nat → Bool) (t : Nat → Nat) (L : Nat) : Nat → Nat → Nat
  | 0, p => p
  | n + 1, p => if p < L ∧ q (t p) = true then adv q t L n (p + 1) else p
def advL (q : Nat → Bool) (t : Nat → Nat) (L p : Nat) : Nat := adv q t L (L - p) p
theorem advL_stop {q : Nat → Bool} {t : Nat → Nat} {L p : Nat} (h : ¬ (p < L ∧ q (t p) = true)) : advL q t L p = p := by
  unfold advL
  cases L - p with
  | zero => rfl
  | succ n => unfold adv; rw [if_neg h]
theorem advL_step {q : Nat → Bool} {t : Nat → Nat} {L p : Nat} (h1 : p < L) (h2 : q (t p) = true) : advL q t L p = advL q t L (p + 1) := by
  unfold advL
  rw [show L - p = (L - (p + 1)) + 1 by omega]
  conv => lhs; unfold adv
  rw [if_pos ⟨h1, h2⟩]
theorem adv_rng (q : Nat → Bool) (t : Nat → Nat) (L : Nat) : ∀ n p, p ≤ adv q t L n p ∧ (p ≤ L → adv q t L n p ≤ L) ∧ ∀ j, p ≤ j → j < adv q t L n p → q (t j) = true
  | 0, p => ⟨Nat.le_refl p, fun h => h, fun j h1 h2 => by unfold adv at h2; omega⟩
  | n + 1, p => by
    unfold adv
    by_cases h : p < L ∧ q (t p) = true
    · rw [if_pos h]
      obtain ⟨a, b, c⟩ := adv_rng q t L n (p + 1)
      refine ⟨by omega, fun _ => b (by omega), fun j h1 h2 => ?_⟩
      by_cases e : j = p
      · rw [e]; exact h.2
      · exact c j (by omega) h2
    · rw [if_neg h]
      exact ⟨Nat.le_refl p, fun h => h, fun j h1 h2 => by omega⟩
theorem advL_rng (q : Nat → Bool) (t : Nat → Nat) (L p : Nat) : p ≤ advL q t L p ∧ (p ≤ L → advL q t L p ≤ L) ∧ ∀ j, p ≤ j → j < advL q t L p → q (t j) = true := adv_rng q t L (L - p) p
theorem adv_end (q : Nat → Bool) (t : Nat → Nat) (L : Nat) : ∀ n p, L ≤ p + n → ¬ (adv q t L n p < L ∧ q (t (adv q t L n p)) = true)
  | 0, p, h => by unfold adv; omega
  | n + 1, p, h => by
    unfold adv
    by_cases e : p < L ∧ q (t p) = true
    · rw [if_pos e]; exact adv_end q t L n (p + 1) (by omega)
    · rw [if_neg e]; exact e
theorem advL_end (q : Nat → Bool) (t : Nat → Nat) (L p : Nat) : ¬ (advL q t L p < L ∧ q (t (advL q t L p)) = true) := adv_end q t L (L - p) p (by omega)
/-- the bytes from p to e -/
def seg (t : Nat → Nat) (p e : Nat) : List Nat := (List.range (e - p)).map fun i => t (p + i)
def kws : List (List Nat) := [[111, 119, 110], [98, 121], [108, 101, 110, 100], [116, 111], [117, 110, 116, 105, 108], [98, 97, 114], [102, 114, 111, 109], [102, 114, 101, 101]]
def kwS (w : List Nat) : Nat := if w = [111, 119, 110] then 4 else if w = [98, 121] then 5 else if w = [108, 101, 110, 100] then 6 else if w = [116, 111] then 7 else if w = [117, 110, 116, 105, 108] then 8 else if w = [98, 97, 114] then 9 else if w = [102, 114, 111, 109] then 10 else if w = [102, 114, 101, 101] then 11 else 0
/-- the value of the first two digits -/
def valS (t : Nat → Nat) (p e : Nat) : Nat := if e - p = 1 then t p - 48 else (t p - 48) * 10 + (t (p + 1) - 48)
/-- the token from p on: kind, place, what is behind it, value -/
def tokS (t : Nat → Nat) (L p : Nat) : Nat × Nat × Nat × Nat :=
  let a := advL blk t L p
  if a < L then
    if ltr (t a) = true then (kwS (seg t a (advL ltr t L a)), a, advL ltr t L a, 0)
    else if dgt (t a) = true then (if advL dgt t L a - a ≤ 2 then 3 else 0, a, advL dgt t L a, valS t a (advL dgt t L a))
    else (if t a = 59 then 2 else 0, a, a + 1, 0)
  else (1, a, a, 0)
theorem tok_rng (t : Nat → Nat) {L p : Nat} (h : p ≤ L) : (tokS t L p).2.1 ≤ L ∧ (tokS t L p).2.2.1 ≤ L ∧ p ≤ (tokS t L p).2.1 ∧ (tokS t L p).1 ≤ 11 ∧ ((tokS t L p).1 ≠ 1 → (tokS t L p).2.1 < (tokS t L p).2.2.1) := by
  obtain ⟨a1, a2, a3⟩ := advL_rng blk t L p
  have hk : ∀ w, kwS w ≤ 11 := by
    intro w
    unfold kwS
    repeat' split
    all_goals omega
  unfold tokS
  simp only
  by_cases h1 : advL blk t L p < L
  · rw [if_pos h1]
    by_cases h2 : ltr (t (advL blk t L p)) = true
    · rw [if_pos h2]
      obtain ⟨b1, b2, b3⟩ := advL_rng ltr t L (advL blk t L p + 1)
      rw [advL_step h1 h2]
      exact ⟨by simp; omega, by simp; exact b2 (by omega), by simp; omega, hk _, by simp; omega⟩
    · rw [if_neg h2]
      by_cases h3 : dgt (t (advL blk t L p)) = true
      · rw [if_pos h3]
        obtain ⟨b1, b2, b3⟩ := advL_rng dgt t L (advL blk t L p + 1)
        rw [advL_step h1 h3]
        refine ⟨by simp; omega, by simp; exact b2 (by omega), by simp; omega, ?_, by simp; omega⟩
        simp only
        split <;> omega
      · rw [if_neg h3]
        refine ⟨by simp; omega, by simp; omega, by simp; omega, ?_, by simp⟩
        simp only
        split <;> omega
  · rw [if_neg h1]
    exact ⟨by simp; omega, by simp; omega, by simp; omega, by simp, by simp⟩
