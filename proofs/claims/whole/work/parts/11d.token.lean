/-! tokens, as the reference reads them -/
theorem X9_see_eq (N : Nat) {L p : Nat} {t : Nat → Nat} {S : HS} (hL : L ≤ 500) (hT : TpM S L t) (hp : p ≤ L) : f_X9_see csF N (nI p) S = some (if p < L then nI (t p) else -1, S) := by
  rw [f_X9_see, mF (by decide) (by decide), ck_t, hT.1]
  by_cases h : p < L
  · have h1 : ¬ nI L ≤ nI p := by rw [nI_leI (by omega) (by omega)]; omega
    rw [if_neg h1, mF (by decide) (by decide), ck_t, inb_k (by omega) (by decide), ck_t, cl_k (by omega), hT.2 p h, if_pos h]
  · have h1 : nI L ≤ nI p := by rw [nI_leI (by omega) (by omega)]; omega
    rw [if_pos h1, if_neg h]
theorem X9_isLetter_none (N : Nat) (S : HS) : f_X9_isLetter csF N (-1) S = some (0, S) := by
  have n1 : ¬ btw 97 (-1) 122 := by unfold btw; decide
  have n2 : ¬ btw 65 (-1) 90 := by unfold btw; decide
  simp [f_X9_isLetter, X9_isIn_eq, ob_s, if_bif, bif_f _ _ n1, bif_f _ _ n2]
theorem X9_isDigit_none (N : Nat) (S : HS) : f_X9_isDigit csF N (-1) S = some (0, S) := by
  have n1 : ¬ btw 48 (-1) 57 := by unfold btw; decide
  simp [f_X9_isDigit, X9_isIn_eq, ob_s, bif_f _ _ n1, b01_0, ck_t]
theorem lg_eq (x y : Int64) : lg_cmp x y = 0 ↔ x = y := by
  unfold lg_cmp
  by_cases h : x > y
  · rw [if_pos h]
    constructor
    · intro q; cases q
    · intro q; subst q
      exact absurd h (by simp [Int64.lt_iff_toInt_lt])
  · rw [if_neg h]
    by_cases h2 : x = y
    · simp [h2]
    · rw [if_neg h2]
      constructor
      · intro q; cases q
      · intro q; exact absurd q h2
/-- the letters as one number -/
def pkV (t : Nat → Nat) (a : Nat) : Nat → Nat
  | 0 => 0
  | i + 1 => pkV t a i * 256 + t (a + i)
theorem pkV_lt {t : Nat → Nat} (ht : ∀ j, t j < 256) (a : Nat) : ∀ i, pkV t a i < 256 ^ i
  | 0 => by simp [pkV]
  | i + 1 => by
    have h1 := pkV_lt ht a i
    have h2 := ht (a + i)
    unfold pkV
    rw [Nat.pow_succ]
    omega
theorem sh8 : (((8 : Int32).toInt64 &&& 63).toBitVec.smod 64) = 8#64 := by decide
theorem lpk {V c : Nat} (hV : V < 2 ^ 48) (hc : c < 256) : (lN V <<< ((8 : Int32).toInt64 &&& 63)) ||| (nI c).toInt64 = lN (V * 256 + c) := by
  rw [nI_l (by omega)]
  apply Int64.toBitVec_inj.mp
  rw [Int64.toBitVec_or, Int64.toBitVec_shiftLeft, sh8]
  apply BitVec.eq_of_toNat_eq
  have e1 : (lN V).toBitVec.toNat = V := by
    show (BitVec.ofNat 64 V).toNat = V
    rw [BitVec.toNat_ofNat]; omega
  have e2 : (lN c).toBitVec.toNat = c := by
    show (BitVec.ofNat 64 c).toNat = c
    rw [BitVec.toNat_ofNat]; omega
  have e3 : (lN (V * 256 + c)).toBitVec.toNat = V * 256 + c := by
    show (BitVec.ofNat 64 (V * 256 + c)).toNat = _
    rw [BitVec.toNat_ofNat]; omega
  have e4 : (8#64).toNat = 8 := rfl
  rw [BitVec.toNat_or, BitVec.shiftLeft_eq', BitVec.toNat_shiftLeft, e1, e2, e3, e4, Nat.mod_eq_of_lt (by rw [Nat.shiftLeft_eq]; omega), ← Nat.shiftLeft_add_eq_or_of_lt (by omega : c < 2 ^ 8), Nat.shiftLeft_eq]
/-- the reference's codes of kinds -/
def mcd (k : Nat) : Nat := match k with
  | 0 => 1
  | 1 => 0
  | 2 => 59
  | 3 => 2
  | 4 => 3
  | 5 => 7
  | 6 => 4
  | 7 => 8
  | 8 => 9
  | 9 => 5
  | 10 => 10
  | 11 => 6
  | _ => 1
def wdV (V : Nat) : Nat := if V = 7305070 then 3 else if V = 1818586724 then 4 else if V = 6447474 then 5 else if V = 1718773093 then 6 else if V = 25209 then 7 else if V = 29807 then 8 else if V = 504364296556 then 9 else if V = 1718775661 then 10 else 1
theorem X9_word_eq (N : Nat) (S : HS) {V : Nat} (hV : V < 2 ^ 48) : f_X9_word csF N (lN V) S = some (nI (wdV V), S) := by
  have q : ∀ K : Nat, K < 2 ^ 48 → (lg_cmp (lN V) (lN K) = 0 ↔ V = K) := fun K hK => by rw [lg_eq, pk_lEQ (by omega) (by omega)]
  unfold f_X9_word wdV
  rw [show (7305070 : Int64) = lN 7305070 from rfl, show (1818586724 : Int64) = lN 1818586724 from rfl, show (6447474 : Int64) = lN 6447474 from rfl, show (1718773093 : Int64) = lN 1718773093 from rfl, show (25209 : Int64) = lN 25209 from rfl, show (29807 : Int64) = lN 29807 from rfl, show (504364296556 : Int64) = lN 504364296556 from rfl, show (1718775661 : Int64) = lN 1718775661 from rfl]
  simp only [q 7305070 (by decide), q 1818586724 (by decide), q 6447474 (by decide), q 1718773093 (by decide), q 25209 (by decide), q 29807 (by decide), q 504364296556 (by decide), q 1718775661 (by decide)]
  repeat' split
  all_goals rfl
theorem seg_n {t : Nat → Nat} {a e : Nat} (n : Nat) (h : e - a = n) : seg t a e = (List.range n).map fun i => t (a + i) := by unfold seg; rw [h]
theorem wd_kw {t : Nat → Nat} {a e : Nat} (h0 : a < e) (h5 : e - a ≤ 5) (hl : ∀ j, a ≤ j → j < e → ltr (t j) = true) : wdV (pkV t a (e - a)) = mcd (kwS (seg t a e)) := by
  have b : ∀ i, i < e - a → 65 ≤ t (a + i) ∧ t (a + i) ≤ 122 := fun i hi => ltr_lt (hl (a + i) (by omega) (by omega))
  rcases (show e - a = 1 ∨ e - a = 2 ∨ e - a = 3 ∨ e - a = 4 ∨ e - a = 5 by omega) with h | h | h | h | h
  · rw [seg_n 1 h, h]
    have b0 := b 0 (by omega)
    have e1 : pkV t a 1 = t a := by simp [pkV]
    rw [e1]
    simp only [List.range, List.range.loop, List.map, Nat.add_zero] at b0 ⊢
    unfold wdV kwS
    simp
    repeat' split
    all_goals first | omega | rfl
  · rw [seg_n 2 h, h]
    have b0 := b 0 (by omega); have b1 := b 1 (by omega)
    have e1 : pkV t a 2 = t a * 256 + t (a + 1) := by simp [pkV]
    rw [e1]
    simp only [List.range, List.range.loop, List.map, Nat.add_zero] at b0 b1 ⊢
    generalize t a = x0 at *; generalize t (a + 1) = x1 at *
    unfold wdV kwS
    simp
    by_cases q1 : x0 = 98 ∧ x1 = 121
    · obtain ⟨rfl, rfl⟩ := q1; decide
    · by_cases q2 : x0 = 116 ∧ x1 = 111
      · obtain ⟨rfl, rfl⟩ := q2; decide
      · simp only [q1, q2, if_false]
        repeat' split
        all_goals first | omega | rfl
  · rw [seg_n 3 h, h]
    have b0 := b 0 (by omega); have b1 := b 1 (by omega); have b2 := b 2 (by omega)
    have e1 : pkV t a 3 = (t a * 256 + t (a + 1)) * 256 + t (a + 2) := by simp [pkV]
    rw [e1]
    simp only [List.range, List.range.loop, List.map, Nat.add_zero] at b0 b1 b2 ⊢
    generalize t a = x0 at *; generalize t (a + 1) = x1 at *; generalize t (a + 2) = x2 at *
    unfold wdV kwS
    simp
    by_cases q1 : x0 = 111 ∧ x1 = 119 ∧ x2 = 110
    · obtain ⟨rfl, rfl, rfl⟩ := q1; decide
    · by_cases q2 : x0 = 98 ∧ x1 = 97 ∧ x2 = 114
      · obtain ⟨rfl, rfl, rfl⟩ := q2; decide
      · simp only [q1, q2, if_false]
        repeat' split
        all_goals first | omega | rfl
  · rw [seg_n 4 h, h]
    have b0 := b 0 (by omega); have b1 := b 1 (by omega); have b2 := b 2 (by omega); have b3 := b 3 (by omega)
    have e1 : pkV t a 4 = ((t a * 256 + t (a + 1)) * 256 + t (a + 2)) * 256 + t (a + 3) := by simp [pkV]
    rw [e1]
    simp only [List.range, List.range.loop, List.map, Nat.add_zero] at b0 b1 b2 b3 ⊢
    generalize t a = x0 at *; generalize t (a + 1) = x1 at *; generalize t (a + 2) = x2 at *; generalize t (a + 3) = x3 at *
    unfold wdV kwS
    simp
    by_cases q1 : x0 = 108 ∧ x1 = 101 ∧ x2 = 110 ∧ x3 = 100
    · obtain ⟨rfl, rfl, rfl, rfl⟩ := q1; decide
    · by_cases q2 : x0 = 102 ∧ x1 = 114 ∧ x2 = 111 ∧ x3 = 109
      · obtain ⟨rfl, rfl, rfl, rfl⟩ := q2; decide
      · by_cases q3 : x0 = 102 ∧ x1 = 114 ∧ x2 = 101 ∧ x3 = 101
        · obtain ⟨rfl, rfl, rfl, rfl⟩ := q3; decide
        · simp only [q1, q2, q3, if_false]
          repeat' split
          all_goals first | omega | rfl
  · rw [seg_n 5 h, h]
    have b0 := b 0 (by omega); have b1 := b 1 (by omega); have b2 := b 2 (by omega); have b3 := b 3 (by omega); have b4 := b 4 (by omega)
    have e1 : pkV t a 5 = (((t a * 256 + t (a + 1)) * 256 + t (a + 2)) * 256 + t (a + 3)) * 256 + t (a + 4) := by simp [pkV]
    rw [e1]
    simp only [List.range, List.range.loop, List.map, Nat.add_zero] at b0 b1 b2 b3 b4 ⊢
    generalize t a = x0 at *; generalize t (a + 1) = x1 at *; generalize t (a + 2) = x2 at *; generalize t (a + 3) = x3 at *; generalize t (a + 4) = x4 at *
    unfold wdV kwS
    simp
    by_cases q1 : x0 = 117 ∧ x1 = 110 ∧ x2 = 116 ∧ x3 = 105 ∧ x4 = 108
    · obtain ⟨rfl, rfl, rfl, rfl, rfl⟩ := q1; decide
    · simp only [q1, if_false]
      repeat' split
      all_goals first | omega | rfl
theorem kw_long {t : Nat → Nat} {a e : Nat} (h : 6 ≤ e - a) : kwS (seg t a e) = 0 := by
  have hn : ∀ w : List Nat, w.length ≤ 5 → ¬ seg t a e = w := fun w hw q => by
    have := congrArg List.length q
    simp [seg] at this
    omega
  unfold kwS
  rw [if_neg (hn _ (by decide)), if_neg (hn _ (by decide)), if_neg (hn _ (by decide)), if_neg (hn _ (by decide)), if_neg (hn _ (by decide)), if_neg (hn _ (by decide)), if_neg (hn _ (by decide)), if_neg (hn _ (by decide))]
