/-! may, look -/
theorem sh_amt : ∀ w, w < 64 → (((nI w).toInt64 &&& 63).toBitVec.smod 64).toNat = w := by decide +kernel
theorem shr_bv (x : Int64) {w : Nat} (hw : w < 64) : (x >>> ((nI w).toInt64 &&& 63)).toBitVec = x.toBitVec.sshiftRight w := by
  rw [Int64.toBitVec_shiftRight, BitVec.sshiftRight', sh_amt w hw]
theorem lg0 (x : Int64) : lg_cmp x 0 = 0 ↔ x = 0 := by
  unfold lg_cmp
  by_cases h : x > 0
  · rw [if_pos h]
    constructor
    · intro q; cases q
    · intro q; subst q; exact absurd h (by decide)
  · rw [if_neg h]
    by_cases h2 : x = 0
    · simp [h2]
    · rw [if_neg h2]
      constructor
      · intro q; cases q
      · intro q; exact absurd q h2
theorem bit_eq (x : Int64) {w : Nat} (hw : w < 64) : lg_cmp ((x >>> ((nI w).toInt64 &&& 63)) &&& 1) 0 = 0 ↔ bitC x w = false := by
  rw [lg0, ← Int64.toBitVec_inj, Int64.toBitVec_and, shr_bv x hw]
  have h1 : (1 : Int64).toBitVec = 1#64 := rfl
  have h0 : (0 : Int64).toBitVec = 0#64 := rfl
  rw [h1, h0, BitVec.and_one_eq_setWidth_ofBool_getLsbD, BitVec.getLsbD_sshiftRight]
  unfold bitC
  simp only [Nat.add_zero, hw, if_true]
  cases x.toBitVec.getLsbD w <;> decide
/-- the rights of number k -/
def okK (S : HS) (k f p w : Nat) : Bool := !bitC (gl S 24 k p) w && (decide (gi S 21 k p = -1) || decide (gi S 21 k p = nI f) || decide ((w : Int) ≤ (gi S 23 (6 * k + p) f).toInt))
theorem X5_allow_eq (N : Nat) (S : HS) {k f p w : Nat} (hk : k < 2) (hf : f < 4) (hp : p < 6) (hw : w < 52) : f_X5_allow csF N k (nI f) (nI p) (nI w) S = some (if okK S k f p w = true then 1 else 0, S) := by
  have c1 : (nI p).toNatClampNeg = p := cl_k (by omega)
  have c2 : (nI f).toNatClampNeg = f := cl_k (by omega)
  have i1 : inb (nI p) 6 = true := inb_k hp (by decide)
  have i2 : inb (nI f) 4 = true := inb_k hf (by decide)
  have hk6 : 6 * k + p < 12 := by omega
  unfold f_X5_allow okK
  simp only [mcF, cnt, ck_t, c1, c2, i1, i2, hk, hk6, decide_true, Bool.and_self, Nat.reduceLT]
  by_cases hb : bitC (gl S 24 k p) w = true
  · have : ¬ lg_cmp ((gl S 24 k p >>> ((nI w).toInt64 &&& 63)) &&& 1) 0 = 0 := fun q => by rw [(bit_eq _ (by omega)).mp q] at hb; cases hb
    simp [this, hb]
  · have hb' : bitC (gl S 24 k p) w = false := by simpa using hb
    have : lg_cmp ((gl S 24 k p >>> ((nI w).toInt64 &&& 63)) &&& 1) 0 = 0 := (bit_eq _ (by omega)).mpr hb'
    simp only [this, hb', if_true]
    by_cases h1 : gi S 21 k p = -1
    · simp [h1]
    · by_cases h2 : gi S 21 k p = nI f
      · simp [h1, h2]
      · by_cases h3 : gi S 23 (6 * k + p) f < nI w
        · have h3' : ¬ (w : Int) ≤ (gi S 23 (6 * k + p) f).toInt := by rw [i_lt, nI_toInt (by omega)] at h3; omega
          simp [h1, h2, h3, h3']
        · have h3' : (w : Int) ≤ (gi S 23 (6 * k + p) f).toInt := by rw [i_lt, nI_toInt (by omega)] at h3; omega
          simp [h1, h2, h3, h3']
def okM (S : HS) (f p w : Nat) : Bool := decide (gi S 32 0 (52 * p + w) = 0) && (decide (gi S 31 16 p = -1) || decide (gi S 31 16 p = nI f) || decide ((w : Int) ≤ (gi S 31 17 (4 * p + f)).toInt))
theorem X9_isAllowed_eq (N : Nat) (S : HS) {f p w : Nat} (hf : f < 4) (hp : p < 6) (hw : w < 52) : f_X9_isAllowed csF N (nI f) (nI p) (nI w) S = some (if okM S f p w = true then 1 else 0, S) := by
  have c1 : (nI p).toNatClampNeg = p := cl_k (by omega)
  have i1 : inb (nI p) 6 = true := inb_k hp (by decide)
  have cx : (nI (52 * p + w)).toNatClampNeg = 52 * p + w := cl_k (by omega)
  have ibx : inb (nI (52 * p + w)) 312 = true := inb_k (by omega) (by decide)
  have cy : (nI (4 * p + f)).toNatClampNeg = 4 * p + f := cl_k (by omega)
  have iby : inb (nI (4 * p + f)) 24 = true := inb_k (by omega) (by decide)
  unfold f_X9_isAllowed okM
  simp only [mcF, cnt, ck_t, ix52, ix4, c1, i1, cx, ibx, cy, iby, decide_true, Bool.and_self, Nat.reduceLT]
  by_cases hb : gi S 32 0 (52 * p + w) = 0
  · simp only [hb, if_true]
    by_cases h1 : gi S 31 16 p = -1
    · simp [h1]
    · by_cases h2 : gi S 31 16 p = nI f
      · simp [h1, h2]
      · by_cases h3 : gi S 31 17 (4 * p + f) < nI w
        · have h3' : ¬ (w : Int) ≤ (gi S 31 17 (4 * p + f)).toInt := by rw [i_lt, nI_toInt (by omega)] at h3; omega
          simp [h1, h2, h3, h3']
        · have h3' : (w : Int) ≤ (gi S 31 17 (4 * p + f)).toInt := by rw [i_lt, nI_toInt (by omega)] at h3; omega
          simp [h1, h2, h3, h3']
  · simp [hb]
theorem IvR.rk {S : HS} (h : IvR S) : rkC S < 2 ∧ gi S 0 0 5 = nI (rkC S) := by
  rcases h.1 with q | q <;> unfold rkC <;> rw [q.1] <;> decide
theorem ok_eq {S : HS} (h : IvR S) {f p w : Nat} (hf : f < 4) (hp : p < 6) (hw : w < 52) : okK S (rkC S) f p w = okM S f p w := by
  obtain ⟨q1, q2, q3, q4⟩ := h.2 p hp
  unfold okK okM
  rw [q1, q4 w hw]
  by_cases h1 : gi S 31 16 p = -1
  · cases bitC (gl S 24 (rkC S) p) w <;> simp [h1]
  · rw [q3 h1 f hf]
    cases bitC (gl S 24 (rkC S) p) w <;> simp
theorem op_may (N : Nat) (a b c : Int32) : OpOk (f_X8_may csF N a b c) (f_X9_may csF N a b c) := by
  intro S hI
  obtain ⟨hA, hF, hH, hP, hO, hR, hT, hE, hB⟩ := id hI
  by_cases h1 : btw 0 a 3
  · by_cases h2 : btw 0 b 5
    · by_cases h3 : btw 0 c 51
      · obtain ⟨f, hf, rfl⟩ := btw_nI (hi := 3) h1 (by decide)
        obtain ⟨p, hp, rfl⟩ := btw_nI (hi := 5) h2 (by decide)
        obtain ⟨w, hw, rfl⟩ := btw_nI (hi := 51) h3 (by decide)
        obtain ⟨r1, r2⟩ := hR.rk
        have crk : (nI (rkC S)).toNatClampNeg = rkC S := cl_k (by omega)
        have eC := X5_allow_eq N S r1 (show f < 4 by omega) (show p < 6 by omega) (show w < 52 by omega)
        have eM := X9_isAllowed_eq N S (show f < 4 by omega) (show p < 6 by omega) (show w < 52 by omega)
        rw [← ok_eq hR (show f < 4 by omega) (show p < 6 by omega) (show w < 52 by omega)] at eM
        refine ⟨if okK S (rkC S) f p w = true then 1 else 0, S, S, ?_, ?_, hI⟩
        · simp only [f_X8_may, X8_isFamily_eq, X8_isPattern_eq, X8_isWithin_eq, ob_s, if_bif, bif_t _ _ h1, bif_t _ _ h2, bif_t _ _ h3, mcF, cnt, ck_t, r2, crk, r1, eC, decide_true, Bool.and_self, Nat.reduceLT]
          cases okK S (rkC S) f p w <;> rfl
        · simp only [f_X9_may, X9_isFamily_eq, X9_isPattern_eq, X9_isWeek_eq, ob_s, if_bif, bif_t _ _ h1, bif_t _ _ h2, bif_t _ _ h3, mcF, cnt, ck_t, eM, decide_true, Bool.and_self, Nat.reduceLT]
          cases okK S (rkC S) f p w <;> rfl
      · exact ⟨-1, S, S, by simp [f_X8_may, X8_isFamily_eq, X8_isPattern_eq, X8_isWithin_eq, ob_s, if_bif, bif_t _ _ h1, bif_t _ _ h2, bif_f _ _ h3], by simp [f_X9_may, X9_isFamily_eq, X9_isPattern_eq, X9_isWeek_eq, ob_s, if_bif, bif_t _ _ h1, bif_t _ _ h2, bif_f _ _ h3], hI⟩
    · exact ⟨-1, S, S, by simp [f_X8_may, X8_isFamily_eq, X8_isPattern_eq, ob_s, if_bif, bif_t _ _ h1, bif_f _ _ h2], by simp [f_X9_may, X9_isFamily_eq, X9_isPattern_eq, ob_s, if_bif, bif_t _ _ h1, bif_f _ _ h2], hI⟩
  · exact ⟨-1, S, S, by simp [f_X8_may, X8_isFamily_eq, ob_s, if_bif, bif_f _ _ h1], by simp [f_X9_may, X9_isFamily_eq, ob_s, if_bif, bif_f _ _ h1], hI⟩
/-- how many of the m from i on are so -/
def cnh (h : Nat → Bool) : Nat → Nat → Nat
  | 0, _ => 0
  | m + 1, i => (if h i = true then 1 else 0) + cnh h m (i + 1)
theorem cnh_le (h : Nat → Bool) : ∀ m i, cnh h m i ≤ m
  | 0, _ => Nat.le_refl 0
  | m + 1, i => by
    have := cnh_le h m (i + 1)
    unfold cnh
    split <;> omega
theorem X8_count_loop (N : Nat) (S : HS) (st : Int32) {c : Nat} (hc : c ≤ 7) (h9 : gi S 0 0 9 = nI c) : ∀ (m n i a : Nat), i + m = c → m < n → f_X8_countOrders_4 csF N n st (nI a) (nI i) S = some (nI (a + cnh (fun j => decide (gi S 7 j 8 = st)) m i), S) := by
  intro m
  induction m with
  | zero =>
    intro n i a h1 h2
    obtain ⟨n, rfl⟩ : ∃ k, n = k + 1 := ⟨n - 1, by omega⟩
    have hle : nI c ≤ nI i := by rw [nI_leI (by omega) (by omega)]; omega
    simp [f_X8_countOrders_4, mcF, cnt, ck_t, h9, hle, cnh]
  | succ m ih =>
    intro n i a h1 h2
    obtain ⟨n, rfl⟩ : ∃ k, n = k + 1 := ⟨n - 1, by omega⟩
    have hle : ¬ nI c ≤ nI i := by rw [nI_leI (by omega) (by omega)]; omega
    have ci : (nI i).toNatClampNeg = i := cl_k (by omega)
    have ii : inb (nI i) 7 = true := inb_k (by omega) (by decide)
    have hi7 : i < 7 := by omega
    by_cases hst : gi S 7 i 8 = st
    · simp [f_X8_countOrders_4, mcF, cnt, ck_t, lt_s_, h9, hle, ci, ii, hi7, hst, nI_1, ih n (i + 1) (a + 1) (by omega) (by omega), cnh, Nat.add_assoc]
    · simp [f_X8_countOrders_4, mcF, cnt, ck_t, lt_s_, h9, hle, ci, ii, hi7, hst, nI_1, ih n (i + 1) a (by omega) (by omega), cnh]
theorem X9_look_loop (N : Nat) (S : HS) (what st : Int32) (hw : (what = 2 ∧ st = 0) ∨ (what = 3 ∧ st = 1) ∨ (what = 4 ∧ st = 3)) {c : Nat} (hc : c ≤ 7) (h9 : gi S 30 0 1 = nI c) : ∀ (m n i a : Nat), i + m = c → m < n → f_X9_look_52 csF N n what (nI a) (nI i) S = some (nI (a + cnh (fun j => decide (gi S 31 13 j = st)) m i), S) := by
  intro m
  induction m with
  | zero =>
    intro n i a h1 h2
    obtain ⟨n, rfl⟩ : ∃ k, n = k + 1 := ⟨n - 1, by omega⟩
    have hle : nI c ≤ nI i := by rw [nI_leI (by omega) (by omega)]; omega
    simp [f_X9_look_52, mcF, cnt, ck_t, h9, hle, cnh]
  | succ m ih =>
    intro n i a h1 h2
    obtain ⟨n, rfl⟩ : ∃ k, n = k + 1 := ⟨n - 1, by omega⟩
    have hle : ¬ nI c ≤ nI i := by rw [nI_leI (by omega) (by omega)]; omega
    have ci : (nI i).toNatClampNeg = i := cl_k (by omega)
    have ii : inb (nI i) 7 = true := inb_k (by omega) (by decide)
    have hi7 : i < 7 := by omega
    have h0 : nI a + 0 = nI a := by simp
    rcases hw with ⟨rfl, rfl⟩ | ⟨rfl, rfl⟩ | ⟨rfl, rfl⟩
    · by_cases hst : gi S 31 13 i = 0
      · simp [f_X9_look_52, f_X9_look_86, mcF, cnt, ck_t, lt_s_, h9, hle, ci, ii, hi7, hst, nI_1, h0, ih n (i + 1) (a + 1) (by omega) (by omega), cnh, Nat.add_assoc]
      · simp [f_X9_look_52, f_X9_look_86, mcF, cnt, ck_t, lt_s_, h9, hle, ci, ii, hi7, hst, nI_1, h0, ih n (i + 1) a (by omega) (by omega), cnh]
    · by_cases hst : gi S 31 13 i = 1
      · simp [f_X9_look_52, f_X9_look_86, mcF, cnt, ck_t, lt_s_, h9, hle, ci, ii, hi7, hst, nI_1, h0, ih n (i + 1) (a + 1) (by omega) (by omega), cnh, Nat.add_assoc]
      · simp [f_X9_look_52, f_X9_look_86, mcF, cnt, ck_t, lt_s_, h9, hle, ci, ii, hi7, hst, nI_1, h0, ih n (i + 1) a (by omega) (by omega), cnh]
    · by_cases hst : gi S 31 13 i = 3
      · simp [f_X9_look_52, f_X9_look_86, mcF, cnt, ck_t, lt_s_, h9, hle, ci, ii, hi7, hst, nI_1, h0, ih n (i + 1) (a + 1) (by omega) (by omega), cnh, Nat.add_assoc]
      · simp [f_X9_look_52, f_X9_look_86, mcF, cnt, ck_t, lt_s_, h9, hle, ci, ii, hi7, hst, nI_1, h0, ih n (i + 1) a (by omega) (by omega), cnh]
theorem cnh_congr {h h' : Nat → Bool} : ∀ m i, (∀ j, i ≤ j → j < i + m → h j = h' j) → cnh h m i = cnh h' m i
  | 0, _, _ => rfl
  | m + 1, i, q => by
    unfold cnh
    rw [q i (by omega) (by omega), cnh_congr m (i + 1) (fun j h1 h2 => q j (by omega) (by omega))]
