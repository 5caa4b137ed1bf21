/-! tokens, as the class reads them -/
theorem ui_ui (S : HS) (c k j : Nat) (v w : Int32) : ui (ui S c k j v) c k j w = ui S c k j w := by
  unfold ui
  refine Prod.ext ?_ rfl
  funext c' k'
  dsimp only
  by_cases h : c' = c ∧ k' = k
  · rw [if_pos h, if_pos h, if_pos ⟨rfl, rfl⟩]
    funext j'
    simp only [upd]
    split <;> rfl
  · rw [if_neg h, if_neg h, if_neg h]
theorem ui_self {S : HS} {c k j : Nat} {v : Int32} (h : gi S c k j = v) : ui S c k j v = S := by
  unfold ui
  refine Prod.ext ?_ rfl
  funext c' k'
  dsimp only
  by_cases e : c' = c ∧ k' = k
  · obtain ⟨rfl, rfl⟩ := e
    rw [if_pos ⟨rfl, rfl⟩]
    funext j'
    simp only [upd]
    split
    · rename_i h1; subst h1; exact h.symm
    · rfl
  · rw [if_neg e]
theorem X7_skip_loop (N : Nat) {L : Nat} {t : Nat → Nat} (hL : L ≤ 500) (ht : ∀ j, t j < 256) : ∀ (m n p : Nat) (S : HS), p + m = L → m < n → TpC S L t → gi S 9 0 5 = nI p → f_X7_skipBlanks_0 csF N n S = some ((), ui S 9 0 5 (nI (advL blk t L p))) := by
  intro m
  induction m with
  | zero =>
    intro n p S h1 h2 hT h5
    obtain ⟨n, rfl⟩ : ∃ k, n = k + 1 := ⟨n - 1, by omega⟩
    have hle : nI L ≤ nI p := by rw [nI_leI (by omega) (by omega)]; omega
    rw [advL_stop (by omega), ui_self h5]
    simp [f_X7_skipBlanks_0, mcF, cnt, ck_t, hT.1, h5, hle]
  | succ m ih =>
    intro n p S h1 h2 hT h5
    obtain ⟨n, rfl⟩ : ∃ k, n = k + 1 := ⟨n - 1, by omega⟩
    have hle : ¬ nI L ≤ nI p := by rw [nI_leI (by omega) (by omega)]; omega
    have ip : inb (nI p) 500 = true := inb_k (by omega) (by decide)
    have cp : (nI p).toNatClampNeg = p := cl_k (by omega)
    have eb := hT.2 p (by omega)
    by_cases hb : blk (t p) = true
    · have hT' : TpC (ui S 9 0 5 (nI (p + 1))) L t := hT.md (M := [(9, some 0, some 5)]) ((Md.rf _ S).ui rfl rfl) rfl (fun _ => rfl)
      have := ih n (p + 1) (ui S 9 0 5 (nI (p + 1))) (by omega) (by omega) hT' (by simp [gi_ui])
      rw [ui_ui] at this
      rw [advL_step (by omega) hb]
      unfold blk at hb
      by_cases h32 : t p = 32
      · simp [f_X7_skipBlanks_0, mcF, cnt, ck_t, lt_s_, hT.1, h5, hle, ip, cp, eb, (sb32 _ (ht p)).mpr h32, nI_1, this]
      · have h10 : t p = 10 := by simpa [h32] using hb
        simp [f_X7_skipBlanks_0, mcF, cnt, ck_t, lt_s_, hT.1, h5, hle, ip, cp, eb, sb32 _ (ht p), h32, (sb10 _ (ht p)).mpr h10, nI_1, this]
    · rw [advL_stop (fun x => hb x.2), ui_self h5]
      have h32 : ¬ t p = 32 := fun x => hb (by rw [x]; rfl)
      have h10 : ¬ t p = 10 := fun x => hb (by rw [x]; rfl)
      simp [f_X7_skipBlanks_0, mcF, cnt, ck_t, lt_s_, hT.1, h5, hle, ip, cp, eb, sb32 _ (ht p), sb10 _ (ht p), h32, h10]
theorem J0_length_eq (N : Nat) (S : HS) {k : Nat} (hk : k < 8) : f_J0_length_8abf5 csF N k S = some (nI (lenK.getD k 0), S) := by
  have h : ∀ k, k < 8 → nI (lenK.getD k 0) >>> ((0 : Int32) &&& 31) = nI (lenK.getD k 0) := by decide +kernel
  simp [f_J0_length_8abf5, f_J0_coder_7d493, ob_s, ck_t, hk]
theorem kw_ch : ∀ k, k < 8 → ∀ j, j < lenK.getD k 0 → ((((bytK.getD k []).getD j 0) &&& 255).toUInt32 % 65536).toInt32 = nI ((kws.getD k []).getD j 0) ∧ c16 (nI ((kws.getD k []).getD j 0)) = true ∧ (kws.getD k []).getD j 0 < 128 := by decide +kernel
theorem kw_len : ∀ k, k < 8 → lenK.getD k 0 = (kws.getD k []).length ∧ lenK.getD k 0 ≤ 5 ∧ 1 ≤ lenK.getD k 0 := by decide +kernel
theorem J0_charAt_eq (N : Nat) (S : HS) {k j : Nat} (hk : k < 8) (hj : j < lenK.getD k 0) : f_J0_charAt_5068e csF N k (nI j) S = some (nI ((kws.getD k []).getD j 0), S) := by
  obtain ⟨e1, e2, -⟩ := kw_ch k hk j hj
  have h5 := (kw_len k hk).2.1
  have cj : (nI j).toNatClampNeg = j := cl_k (by omega)
  have n0 : ¬ nI j < 0 := nI_pos (by omega)
  have l1 : nI j < nI (lenK.getD k 0) := by rw [nI_ltI (by omega) (by omega)]; exact hj
  have ij : inb (nI j) (lenK.getD k 0) = true := inb_k hj (by omega)
  rw [f_J0_charAt_5068e, decide_eq_true hk, ck_t, f_J0_isLatin1_aae02, if_neg (by decide), decide_eq_true hk, ck_t, if_pos rfl, ob_s, if_neg (by decide), f_J1_charAt_3b067, decide_eq_true hk, ck_t, f_J0_checkIndex_df160, f_J3_checkIndex_8e157, if_neg n0, if_pos l1, ob_s, ob_s, ij, ck_t, cj, e1, e2, ck_t, ob_s, e2, ck_t]
/-- the rest of the word matches -/
def mtW (t : Nat → Nat) (a : Nat) (w : List Nat) : Nat → Nat → Bool
  | 0, _ => true
  | m + 1, j => if t (a + j) = w.getD j 0 then mtW t a w m (j + 1) else false
theorem mtW_iff (t : Nat → Nat) (a : Nat) (w : List Nat) : ∀ m j, mtW t a w m j = true ↔ ∀ i, j ≤ i → i < j + m → t (a + i) = w.getD i 0
  | 0, j => by simp [mtW]; intro i h1 h2; omega
  | m + 1, j => by
    unfold mtW
    by_cases h : t (a + j) = w.getD j 0
    · rw [if_pos h, mtW_iff t a w m (j + 1)]
      constructor
      · intro q i h1 h2
        by_cases e : i = j
        · rw [e]; exact h
        · exact q i (by omega) (by omega)
      · intro q i h1 h2
        exact q i (by omega) (by omega)
    · rw [if_neg h]
      constructor
      · intro q; cases q
      · intro q; exact absurd (q j (Nat.le_refl j) (by omega)) h
theorem seg_eq (t : Nat → Nat) (a e : Nat) (w : List Nat) : seg t a e = w ↔ e - a = w.length ∧ ∀ i, i < w.length → t (a + i) = w.getD i 0 := by
  unfold seg
  constructor
  · intro h
    subst h
    refine ⟨by simp, fun i hi => ?_⟩
    simp at hi
    simp [List.getD, hi]
  · rintro ⟨h1, h2⟩
    apply List.ext_getElem?
    intro i
    by_cases hi : i < w.length
    · have := h2 i hi
      simp [List.getD] at this
      simp [h1, hi, this]
    · simp [h1, hi]
theorem X7_isWord_loop (N : Nat) {L a : Nat} {t : Nat → Nat} {S : HS} (hL : L ≤ 500) (hT : TpC S L t) (h2 : gi S 9 0 2 = nI a) {k : Nat} (hk : k < 8) (hal : a + lenK.getD k 0 ≤ L) (hlt : ∀ j, a ≤ j → j < a + lenK.getD k 0 → t j < 128) : ∀ (m n j : Nat), j + m = lenK.getD k 0 → m < n → f_X7_isWord_20 csF N n k (nI j) S = some (if mtW t a (kws.getD k []) m j = true then 1 else 0, S) := by
  have h5 := (kw_len k hk).2.1
  intro m
  induction m with
  | zero =>
    intro n j h1 h3
    obtain ⟨n, rfl⟩ : ∃ k, n = k + 1 := ⟨n - 1, by omega⟩
    have hle : nI (lenK.getD k 0) ≤ nI j := by rw [nI_leI (by omega) (by omega)]; omega
    rw [f_X7_isWord_20, decide_eq_true hk, ck_t, J0_length_eq N S hk, ob_s, if_pos hle]
    rfl
  | succ m ih =>
    intro n j h1 h3
    obtain ⟨n, rfl⟩ : ∃ k, n = k + 1 := ⟨n - 1, by omega⟩
    have hle : ¬ nI (lenK.getD k 0) ≤ nI j := by rw [nI_leI (by omega) (by omega)]; omega
    have ix : nI a + nI j = nI (a + j) := nI_add a j
    have ip : inb (nI (a + j)) 500 = true := inb_k (by omega) (by decide)
    have cp : (nI (a + j)).toNatClampNeg = a + j := cl_k (by omega)
    have eb : gi S 10 0 (a + j) = nI (t (a + j)) := by rw [hT.2 (a + j) (by omega), sbv _ (hlt (a + j) (by omega) (by omega))]
    have hc := (kw_ch k hk j (by omega)).2.2
    have htj := hlt (a + j) (by omega) (by omega)
    rw [f_X7_isWord_20, decide_eq_true hk, ck_t, J0_length_eq N S hk, ob_s, if_neg hle, mF (by decide) (by decide), ck_t, mF (by decide) (by decide), ck_t, h2, ix, ip, ck_t, J0_charAt_eq N S hk (by omega), ob_s, cp, eb]
    unfold mtW
    by_cases q : t (a + j) = (kws.getD k []).getD j 0
    · rw [if_pos (by rw [q]), if_pos q, lt_s_, nI_1]
      exact ih n (j + 1) (by omega) (by omega)
    · rw [if_neg (by rw [nI_eq (by omega) (by omega)]; exact q), if_neg q]
      rfl
theorem X7_isWord_eq (N : Nat) (hN : 6 ≤ N) {L a e : Nat} {t : Nat → Nat} {S : HS} (hL : L ≤ 500) (hT : TpC S L t) (h2 : gi S 9 0 2 = nI a) (h5 : gi S 9 0 5 = nI e) (hae : a ≤ e) (heL : e ≤ L) (hlt : ∀ j, a ≤ j → j < e → t j < 128) {k : Nat} (hk : k < 8) : f_X7_isWord csF N k S = some (if seg t a e = kws.getD k [] then 1 else 0, S) := by
  obtain ⟨l1, l2, l3⟩ := kw_len k hk
  have hs : nI e - nI a = nI (e - a) := pk_sub hae
  rw [f_X7_isWord, mF (by decide) (by decide), ck_t, decide_eq_true hk, ck_t, J0_length_eq N S hk, ob_s, h5, h2, hs]
  by_cases q : e - a = lenK.getD k 0
  · rw [if_pos (by rw [q])]
    have lp := X7_isWord_loop N hL hT h2 hk (by omega) (fun j x1 x2 => hlt j x1 (by omega)) (lenK.getD k 0) N 0 (by omega) (by omega)
    rw [show nI 0 = 0 from rfl] at lp
    rw [lp]
    have : (mtW t a (kws.getD k []) (lenK.getD k 0) 0 = true) ↔ (seg t a e = kws.getD k []) := by
      rw [mtW_iff, seg_eq]
      constructor
      · intro x
        exact ⟨by omega, fun i hi => x i (Nat.zero_le i) (by omega)⟩
      · rintro ⟨-, x⟩ i h1 h3
        exact x i (by omega)
    simp only [this]
  · rw [if_neg (by rw [nI_eq (by omega) (by omega)]; exact q), if_neg (by rw [seg_eq]; rintro ⟨x, -⟩; omega)]
theorem X7_keyword_eq (N : Nat) (hN : 6 ≤ N) {L a e : Nat} {t : Nat → Nat} {S : HS} (hL : L ≤ 500) (hT : TpC S L t) (h2 : gi S 9 0 2 = nI a) (h5 : gi S 9 0 5 = nI e) (hae : a ≤ e) (heL : e ≤ L) (hlt : ∀ j, a ≤ j → j < e → t j < 128) : f_X7_keyword csF N S = some (nI (kwS (seg t a e)), S) := by
  have w := fun k (hk : k < 8) => X7_isWord_eq N hN hL hT h2 h5 hae heL hlt hk
  have w0 := w 0 (by decide); have w1 := w 1 (by decide); have w2 := w 2 (by decide); have w3 := w 3 (by decide); have w4 := w 4 (by decide); have w5 := w 5 (by decide); have w6 := w 6 (by decide); have w7 := w 7 (by decide)
  generalize hseg : seg t a e = x at *
  have g : ∀ (p : Prop) [Decidable p] (A B : Option (Int32 × HS)), (if (if p then (1 : Int32) else 0) = 0 then A else B) = if p then B else A := by
    intro p _ A B
    by_cases h : p
    · rw [if_pos h, if_pos h]; rfl
    · rw [if_neg h, if_neg h]; rfl
  rw [f_X7_keyword, mF (by decide) (by decide), ck_t, w0, ob_s, g, w1, ob_s, g, w2, ob_s, g, w3, ob_s, g, w4, ob_s, g, w5, ob_s, g, w6, ob_s, g, w7, ob_s, g]
  unfold kwS
  simp only [kws, List.getD_cons_zero, List.getD_cons_succ]
  repeat' split
  all_goals first | rfl | (simp_all; done)
