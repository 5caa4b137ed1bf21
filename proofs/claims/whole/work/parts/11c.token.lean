theorem dgt_lt {c : Nat} (h : dgt c = true) : 48 ≤ c ∧ c ≤ 57 := by
  unfold dgt at h
  simpa using h
theorem ltr_lt {c : Nat} (h : ltr c = true) : 65 ≤ c ∧ c ≤ 122 := by
  unfold ltr at h
  simp at h
  omega
theorem X7_word_loop (N : Nat) {L : Nat} {t : Nat → Nat} (hL : L ≤ 500) (ht : ∀ j, t j < 256) : ∀ (m n p : Nat) (S : HS), p + m = L → m < n → TpC S L t → gi S 9 0 5 = nI p → f_X7_skipLetters_0 csF N n S = some ((), ui S 9 0 5 (nI (advL ltr t L p))) := by
  intro m
  induction m with
  | zero =>
    intro n p S h1 h3 hT h5
    obtain ⟨n, rfl⟩ : ∃ k, n = k + 1 := ⟨n - 1, by omega⟩
    have hle : nI L ≤ nI p := by rw [nI_leI (by omega) (by omega)]; omega
    rw [advL_stop (by omega), ui_self h5, f_X7_skipLetters_0, mF (by decide) (by decide), ck_t, hT.1, h5, if_pos hle]
  | succ m ih =>
    intro n p S h1 h3 hT h5
    obtain ⟨n, rfl⟩ : ∃ k, n = k + 1 := ⟨n - 1, by omega⟩
    have hle : ¬ nI L ≤ nI p := by rw [nI_leI (by omega) (by omega)]; omega
    have ip : inb (nI p) 500 = true := inb_k (by omega) (by decide)
    have cp : (nI p).toNatClampNeg = p := cl_k (by omega)
    have eb := hT.2 p (by omega)
    rw [f_X7_skipLetters_0, mF (by decide) (by decide), ck_t, hT.1, h5, if_neg hle, mF (by decide) (by decide), ck_t, ip, ck_t, cp, eb, X7_isLetter_eq N S (ht p), ob_s]
    by_cases q : ltr (t p) = true
    · rw [if_pos q, if_neg (by decide), lt_s_, h5, nI_1]
      have hT' : TpC (ui S 9 0 5 (nI (p + 1))) L t := hT.md (M := [(9, some 0, some 5)]) ((Md.rf _ S).ui rfl rfl) rfl (fun _ => rfl)
      have := ih n (p + 1) (ui S 9 0 5 (nI (p + 1))) (by omega) (by omega) hT' (by simp [gi_ui])
      rw [ui_ui] at this
      rw [advL_step (by omega) q]
      exact this
    · rw [if_neg q, if_pos rfl, advL_stop (fun x => q x.2), ui_self h5]
/-- what the digits read so far are worth, while there are at most two -/
def valP (t : Nat → Nat) (a p : Nat) : Nat := if p = a then 0 else if p = a + 1 then t a - 48 else (t a - 48) * 10 + (t (a + 1) - 48)
theorem X7_num_loop (N : Nat) {L a : Nat} {t : Nat → Nat} (hL : L ≤ 500) (ht : ∀ j, t j < 256) : ∀ (m n p : Nat) (S : HS), p + m = L → m < n → TpC S L t → gi S 9 0 5 = nI p → gi S 9 0 2 = nI a → a ≤ p → (∀ j, a ≤ j → j < p → dgt (t j) = true) → (p - a ≤ 2 → gi S 9 0 3 = nI (valP t a p)) → ∃ Z, f_X7_readNumber_5 csF N n S = some ((), Z) ∧ gi Z 9 0 5 = nI (advL dgt t L p) ∧ gi Z 9 0 2 = nI a ∧ gi Z 9 0 1 = (if advL dgt t L p - a ≤ 2 then 3 else 0) ∧ (advL dgt t L p - a ≤ 2 → gi Z 9 0 3 = nI (valP t a (advL dgt t L p))) := by
  intro m
  have stop : ∀ (p : Nat) (S : HS), p ≤ L → gi S 9 0 5 = nI p → gi S 9 0 2 = nI a → a ≤ p → (p - a ≤ 2 → gi S 9 0 3 = nI (valP t a p)) → ∃ Z, f_X7_readNumber_68 csF N S = some ((), Z) ∧ gi Z 9 0 5 = nI p ∧ gi Z 9 0 2 = nI a ∧ gi Z 9 0 1 = (if p - a ≤ 2 then 3 else 0) ∧ (p - a ≤ 2 → gi Z 9 0 3 = nI (valP t a p)) := by
    intro p S hp h5 h2 hap hv
    have hs : nI p - nI a = nI (p - a) := pk_sub hap
    by_cases q : p - a ≤ 2
    · have : ¬ (2 : Int32) < nI (p - a) := by rw [show (2 : Int32) = nI 2 from rfl, nI_ltI (by omega) (by omega)]; omega
      refine ⟨ui S 9 0 1 3, by rw [f_X7_readNumber_68, mF (by decide) (by decide), ck_t, h5, h2, hs, if_neg this, lt_s_], by simp [gi_ui]; exact h5, by simp [gi_ui]; exact h2, by simp [gi_ui, q], fun _ => by simp [gi_ui]; exact hv q⟩
    · have : (2 : Int32) < nI (p - a) := by rw [show (2 : Int32) = nI 2 from rfl, nI_ltI (by omega) (by omega)]; omega
      refine ⟨ui S 9 0 1 0, by rw [f_X7_readNumber_68, mF (by decide) (by decide), ck_t, h5, h2, hs, if_pos this, lt_s_], by simp [gi_ui]; exact h5, by simp [gi_ui]; exact h2, by simp [gi_ui, q], fun x => absurd x q⟩
  induction m with
  | zero =>
    intro n p S h1 h3 hT h5 h2 hap hl hv
    obtain ⟨n, rfl⟩ : ∃ k, n = k + 1 := ⟨n - 1, by omega⟩
    have hle : nI L ≤ nI p := by rw [nI_leI (by omega) (by omega)]; omega
    rw [advL_stop (by omega), f_X7_readNumber_5, mF (by decide) (by decide), ck_t, hT.1, h5, if_pos hle]
    exact stop p S (by omega) h5 h2 hap hv
  | succ m ih =>
    intro n p S h1 h3 hT h5 h2 hap hl hv
    obtain ⟨n, rfl⟩ : ∃ k, n = k + 1 := ⟨n - 1, by omega⟩
    have hle : ¬ nI L ≤ nI p := by rw [nI_leI (by omega) (by omega)]; omega
    have ip : inb (nI p) 500 = true := inb_k (by omega) (by decide)
    have cp : (nI p).toNatClampNeg = p := cl_k (by omega)
    have eb := hT.2 p (by omega)
    rw [f_X7_readNumber_5, mF (by decide) (by decide), ck_t, hT.1, h5, if_neg hle, mF (by decide) (by decide), ck_t, ip, ck_t, cp, eb, X7_isDigit_eq N S (ht p), ob_s]
    by_cases q : dgt (t p) = true
    · have hd := dgt_lt q
      rw [if_pos q, if_neg (by decide), h5, ip, ck_t, lt_s_, lt_s_, cp, eb, sbv _ (by omega), gi_ui_j _ _ _ _ _ _ (by decide), h5, nI_1, advL_step (by omega) q]
      generalize hv1 : gi S 9 0 3 * 10 + (nI (t p) - 48) = v1
      have hT' : TpC (ui (ui S 9 0 3 v1) 9 0 5 (nI (p + 1))) L t := hT.md (M := [(9, some 0, some 3), (9, some 0, some 5)]) (((Md.rf _ S).ui rfl rfl).ui rfl rfl) rfl (fun _ => rfl)
      refine ih n (p + 1) _ (by omega) (by omega) hT' (by simp [gi_ui]) (by simp [gi_ui]; exact h2) (by omega) (fun j x1 x2 => by
        by_cases e : j = p
        · rw [e]; exact q
        · exact hl j x1 (by omega)) (fun hle2 => ?_)
      simp [gi_ui]
      rw [← hv1, hv (by omega), show (48 : Int32) = nI 48 from rfl, show (10 : Int32) = nI 10 from rfl, pk_sub hd.1, pk_mul, nI_add]
      congr 1
      unfold valP
      by_cases e : p = a
      · subst e
        simp
      · have e2 : p = a + 1 := by omega
        subst e2
        simp
        intro x
        omega
    · rw [if_neg q, if_pos rfl, advL_stop (fun x => q x.2)]
      exact stop p S (by omega) h5 h2 hap hv
/-- the class's current token is tok -/
def TkC (S : HS) (tok : Nat × Nat × Nat × Nat) : Prop := gi S 9 0 1 = nI tok.1 ∧ gi S 9 0 2 = nI tok.2.1 ∧ gi S 9 0 5 = nI tok.2.2.1 ∧ (tok.1 = 3 → gi S 9 0 3 = nI tok.2.2.2)
theorem X7_token (N : Nat) (hN : 501 ≤ N) {L p : Nat} {t : Nat → Nat} (hL : L ≤ 500) (ht : ∀ j, t j < 256) {S : HS} (hT : TpC S L t) (h5 : gi S 9 0 5 = nI p) (hp : p ≤ L) : ∃ Z, f_X7_readToken csF N S = some ((), Z) ∧ TkC Z (tokS t L p) ∧ Md ml_X7_readToken S Z := by
  have main : ∃ Z, f_X7_readToken csF N S = some ((), Z) ∧ TkC Z (tokS t L p) := by
    have sk := X7_skip_loop N hL ht (L - p) N p S (by omega) (by omega) hT h5
    obtain ⟨a1, a2, a3⟩ := advL_rng blk t L p
    have a2 := a2 hp
    generalize hae : advL blk t L p = a at *
    have hT1 : TpC (ui (ui S 9 0 5 (nI a)) 9 0 2 (nI a)) L t := hT.md (M := [(9, some 0, some 5), (9, some 0, some 2)]) (((Md.rf _ S).ui rfl rfl).ui rfl rfl) rfl (fun _ => rfl)
    have e5 : gi (ui (ui S 9 0 5 (nI a)) 9 0 2 (nI a)) 9 0 5 = nI a := by simp [gi_ui]
    have e2 : gi (ui (ui S 9 0 5 (nI a)) 9 0 2 (nI a)) 9 0 2 = nI a := by simp [gi_ui]
    have s5 : gi (ui S 9 0 5 (nI a)) 9 0 5 = nI a := by simp [gi_ui]
    unfold tokS
    simp only [hae]
    rw [f_X7_readToken, mF (by decide) (by decide), ck_t, f_X7_skipBlanks, sk, ob_s, lt_s_, s5]
    generalize hT1e : ui (ui S 9 0 5 (nI a)) 9 0 2 (nI a) = T at *
    rw [e5, hT1.1]
    by_cases h1 : a < L
    · have hlt : nI a < nI L := by rw [nI_ltI (by omega) (by omega)]; exact h1
      have ip : inb (nI a) 500 = true := inb_k (by omega) (by decide)
      have cp : (nI a).toNatClampNeg = a := cl_k (by omega)
      have eb := hT1.2 a h1
      rw [if_pos hlt, if_pos h1, mF (by decide) (by decide), ck_t, ip, ck_t, cp, eb, X7_isLetter_eq N T (ht a), ob_s]
      by_cases h2 : ltr (t a) = true
      · rw [if_pos h2, if_neg (by decide), if_pos h2]
        have wl := X7_word_loop N hL ht (L - a) N a T (by omega) (by omega) hT1 e5
        obtain ⟨w1, w2, w3⟩ := advL_rng ltr t L a
        have w2 := w2 a2
        have hT3 : TpC (ui T 9 0 5 (nI (advL ltr t L a))) L t := hT1.md (M := [(9, some 0, some 5)]) ((Md.rf _ T).ui rfl rfl) rfl (fun _ => rfl)
        have kw := X7_keyword_eq N (by omega) hL hT3 (by simp [gi_ui]; exact e2) (by simp [gi_ui]) w1 w2 (fun j x1 x2 => by have := ltr_lt (w3 j x1 x2); omega)
        rw [f_X7_skipLetters, wl, ob_s, kw, ob_s, lt_s_]
        exact ⟨_, rfl, by simp [gi_ui], by simp [gi_ui]; exact e2, by simp [gi_ui], fun x => by
          have : ∀ w, kwS w ≠ 3 := by
            intro w
            unfold kwS
            repeat' split
            all_goals decide
          exact absurd x (this _)⟩
      · rw [if_neg h2, if_pos rfl, if_neg h2, e5, ip, ck_t, cp, eb, X7_isDigit_eq N T (ht a), ob_s]
        by_cases h3 : dgt (t a) = true
        · rw [if_pos h3, if_neg (by decide), if_pos h3]
          have hT2 : TpC (ui T 9 0 3 0) L t := hT1.md (M := [(9, some 0, some 3)]) ((Md.rf _ T).ui rfl rfl) rfl (fun _ => rfl)
          obtain ⟨Z, z1, z2, z3, z4, z5⟩ := X7_num_loop N (a := a) hL ht (L - a) N a (ui T 9 0 3 0) (by omega) (by omega) hT2 (by simp [gi_ui]; exact e5) (by simp [gi_ui]; exact e2) (Nat.le_refl a) (fun j x1 x2 => by omega) (fun _ => by simp [gi_ui, valP]; rfl)
          have r1 := (advL_rng dgt t L (a + 1)).1
          have r2 := advL_step (q := dgt) (t := t) h1 h3
          rw [f_X7_readNumber, mF (by decide) (by decide), ck_t, lt_s_, z1, ob_s]
          refine ⟨Z, rfl, ?_, z3, z2, fun x => ?_⟩
          · simp only
            rw [z4]
            split <;> rfl
          · simp only at x ⊢
            by_cases hq : advL dgt t L a - a ≤ 2
            · rw [z5 hq]
              unfold valP valS
              congr 1
              by_cases e1 : advL dgt t L a = a + 1
              · simp [e1]
              · have e3 : ¬ advL dgt t L a = a := by omega
                have e4 : ¬ advL dgt t L a - a = 1 := by omega
                simp [e1, e3, e4]
            · rw [if_neg hq] at x
              exact absurd x (by decide)
        · rw [if_neg h3, if_pos rfl, if_neg h3, e5, ip, ck_t, cp, eb]
          by_cases h4 : t a = 59
          · rw [if_pos ((sb59 _ (ht a)).mpr h4), lt_s_, lt_s_, gi_ui_j _ _ _ _ _ _ (by decide), e5, nI_1]
            exact ⟨_, rfl, by simp [gi_ui, h4]; rfl, by simp [gi_ui]; exact e2, by simp [gi_ui], fun x => by simp [h4] at x⟩
          · rw [if_neg (fun x => h4 ((sb59 _ (ht a)).mp x)), lt_s_, lt_s_, gi_ui_j _ _ _ _ _ _ (by decide), e5, nI_1]
            exact ⟨_, rfl, by simp [gi_ui, h4]; rfl, by simp [gi_ui]; exact e2, by simp [gi_ui], fun x => by simp [h4] at x⟩
    · have hlt : ¬ nI a < nI L := by rw [nI_ltI (by omega) (by omega)]; exact h1
      rw [if_neg hlt, if_neg h1, lt_s_]
      exact ⟨_, rfl, by simp [gi_ui]; rfl, by simp [gi_ui]; exact e2, by simp [gi_ui]; exact e5, fun x => by simp at x⟩
  obtain ⟨Z, z1, z2⟩ := main
  exact ⟨Z, z1, z2, md_X7_readToken _ _ _ _ _ z1⟩
