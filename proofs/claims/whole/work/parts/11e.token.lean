theorem X9_word_loop (N : Nat) {L a : Nat} {t : Nat → Nat} (hL : L ≤ 500) (ht : ∀ j, t j < 256) : ∀ (m n p : Nat) (S : HS), p + m = L → m < n → TpM S L t → gi S 30 0 25 = nI p → a ≤ p → a < L → (a = p → ltr (t a) = true) → (∀ j, a ≤ j → j < p → ltr (t j) = true) → f_X9_next0_80 csF N n (nI (p - a)) (lN (pkV t a (min (p - a) 6))) S = some ((), ui (ui S 30 0 25 (nI (advL ltr t L p))) 30 0 26 (nI (mcd (kwS (seg t a (advL ltr t L p)))))) := by
  have stop : ∀ (p : Nat) (S : HS), p ≤ L → a < p → gi S 30 0 25 = nI p → (∀ j, a ≤ j → j < p → ltr (t j) = true) → (if (6 : Int32) ≤ nI (p - a) then lt_ (ui S 30 0 26 1) (fun S10 => some ((), S10)) else ob (f_X9_word csF N (lN (pkV t a (min (p - a) 6))) S) (fun r12 S13 => lt_ (ui S13 30 0 26 r12) (fun S15 => some ((), S15)))) = some ((), ui S 30 0 26 (nI (mcd (kwS (seg t a p))))) := by
    intro p S hp hap h25 hl
    by_cases q : 6 ≤ p - a
    · rw [if_pos (by rw [show (6 : Int32) = nI 6 from rfl, nI_leI (by omega) (by omega)]; exact q), lt_s_, kw_long q]
      rfl
    · rw [if_neg (by rw [show (6 : Int32) = nI 6 from rfl, nI_leI (by omega) (by omega)]; exact q), Nat.min_eq_left (by omega)]
      have hlt : pkV t a (p - a) < 2 ^ 48 := by
        have h1 := pkV_lt ht a (p - a)
        have h2 : 256 ^ (p - a) ≤ 256 ^ 6 := Nat.pow_le_pow_right (by decide) (by omega)
        have h3 : 256 ^ 6 = 2 ^ 48 := by decide
        omega
      rw [X9_word_eq N S hlt, ob_s, lt_s_, wd_kw hap (by omega) hl]
  intro m
  induction m with
  | zero =>
    intro n p S h1 h3 hT h25 hap haL h0 hl
    obtain ⟨n, rfl⟩ : ∃ k, n = k + 1 := ⟨n - 1, by omega⟩
    rw [f_X9_next0_80, mF (by decide) (by decide), ck_t, h25, X9_see_eq N hL hT (by omega), ob_s, if_neg (by omega), X9_isLetter_none, ob_s, if_pos rfl, advL_stop (by omega), ui_self h25]
    exact stop p S (by omega) (by omega) h25 hl
  | succ m ih =>
    intro n p S h1 h3 hT h25 hap haL h0 hl
    obtain ⟨n, rfl⟩ : ∃ k, n = k + 1 := ⟨n - 1, by omega⟩
    rw [f_X9_next0_80, mF (by decide) (by decide), ck_t, h25, X9_see_eq N hL hT (by omega), ob_s, if_pos (by omega : p < L), X9_isLetter_eq N S (ht p), ob_s]
    by_cases q : ltr (t p) = true
    · have hT' : TpM (ui S 30 0 25 (nI (p + 1))) L t := hT.md (M := [(30, some 0, some 25)]) ((Md.rf _ S).ui rfl rfl) rfl (fun _ => rfl)
      have ihp := ih n (p + 1) (ui S 30 0 25 (nI (p + 1))) (by omega) (by omega) hT' (by simp [gi_ui]) (by omega) haL (fun x => by omega) (fun j x1 x2 => by
        by_cases e : j = p
        · rw [e]; exact q
        · exact hl j x1 (by omega))
      rw [ui_ui] at ihp
      rw [if_pos q, if_neg (by decide), advL_step (by omega) q, ← ihp]
      by_cases q6 : 6 ≤ p - a
      · rw [if_pos (by rw [show (6 : Int32) = nI 6 from rfl, nI_leI (by omega) (by omega)]; exact q6), f_X9_next0_115, lt_s_, mF (by decide) (by decide), ck_t, lt_s_, h25, nI_1, nI_1, Nat.min_eq_right q6, Nat.min_eq_right (by omega), show p - a + 1 = p + 1 - a by omega]
      · rw [if_neg (by rw [show (6 : Int32) = nI 6 from rfl, nI_leI (by omega) (by omega)]; exact q6), h25, X9_see_eq N hL hT (by omega), ob_s, if_pos (by omega : p < L), lt_s_, Nat.min_eq_left (by omega), Nat.min_eq_left (by omega), f_X9_next0_115, lt_s_, mF (by decide) (by decide), ck_t, lt_s_, h25, nI_1, nI_1, show p + 1 - a = p - a + 1 by omega]
        have hlt : pkV t a (p - a) < 2 ^ 48 := by
          have h1 := pkV_lt ht a (p - a)
          have h2 : 256 ^ (p - a) ≤ 256 ^ 6 := Nat.pow_le_pow_right (by decide) (by omega)
          have h3 : 256 ^ 6 = 2 ^ 48 := by decide
          omega
        rw [lpk hlt (ht p)]
        show _ = f_X9_next0_80 csF N n (nI (p - a + 1)) (lN (pkV t a (p - a) * 256 + t (a + (p - a)))) _
        rw [show a + (p - a) = p by omega]
    · rw [if_neg q, if_pos rfl, advL_stop (fun x => q x.2), ui_self h25]
      exact stop p S (by omega) (by
        by_cases e : a = p
        · exact absurd (by rw [← e]; exact h0 e) q
        · omega) h25 hl
theorem X9_num_loop (N : Nat) {L a : Nat} {t : Nat → Nat} (hL : L ≤ 500) (ht : ∀ j, t j < 256) : ∀ (m n p : Nat) (S : HS), p + m = L → m < n → TpM S L t → gi S 30 0 25 = nI p → a ≤ p → (∀ j, a ≤ j → j < p → dgt (t j) = true) → (p - a ≤ 2 → gi S 30 0 28 = nI (valP t a p)) → ∃ Z, f_X9_next0_164 csF N n (nI (p - a)) S = some ((), Z) ∧ gi Z 30 0 25 = nI (advL dgt t L p) ∧ gi Z 30 0 27 = gi S 30 0 27 ∧ gi Z 30 0 26 = (if advL dgt t L p - a ≤ 2 then 2 else 1) ∧ (advL dgt t L p - a ≤ 2 → gi Z 30 0 28 = nI (valP t a (advL dgt t L p))) := by
  intro m
  have stop : ∀ (p : Nat) (S : HS), p ≤ L → gi S 30 0 25 = nI p → a ≤ p → (p - a ≤ 2 → gi S 30 0 28 = nI (valP t a p)) → ∃ Z, (if (3 : Int32) ≤ nI (p - a) then lt_ (ui S 30 0 26 1) (fun S10 => (some ((), S10) : Option (Unit × HS))) else lt_ (ui S 30 0 26 2) (fun S12 => some ((), S12))) = some ((), Z) ∧ gi Z 30 0 25 = nI p ∧ gi Z 30 0 27 = gi S 30 0 27 ∧ gi Z 30 0 26 = (if p - a ≤ 2 then 2 else 1) ∧ (p - a ≤ 2 → gi Z 30 0 28 = nI (valP t a p)) := by
    intro p S hp h25 hap hv
    by_cases q : p - a ≤ 2
    · have : ¬ (3 : Int32) ≤ nI (p - a) := by rw [show (3 : Int32) = nI 3 from rfl, nI_leI (by omega) (by omega)]; omega
      exact ⟨ui S 30 0 26 2, by rw [if_neg this, lt_s_], by simp [gi_ui]; exact h25, by simp [gi_ui], by simp [gi_ui, q], fun _ => by simp [gi_ui]; exact hv q⟩
    · have : (3 : Int32) ≤ nI (p - a) := by rw [show (3 : Int32) = nI 3 from rfl, nI_leI (by omega) (by omega)]; omega
      exact ⟨ui S 30 0 26 1, by rw [if_pos this, lt_s_], by simp [gi_ui]; exact h25, by simp [gi_ui], by simp [gi_ui, q], fun x => absurd x q⟩
  induction m with
  | zero =>
    intro n p S h1 h3 hT h25 hap hl hv
    obtain ⟨n, rfl⟩ : ∃ k, n = k + 1 := ⟨n - 1, by omega⟩
    rw [f_X9_next0_164, mF (by decide) (by decide), ck_t, h25, X9_see_eq N hL hT (by omega), ob_s, if_neg (by omega), X9_isDigit_none, ob_s, if_pos rfl, advL_stop (by omega)]
    exact stop p S (by omega) h25 hap hv
  | succ m ih =>
    intro n p S h1 h3 hT h25 hap hl hv
    obtain ⟨n, rfl⟩ : ∃ k, n = k + 1 := ⟨n - 1, by omega⟩
    rw [f_X9_next0_164, mF (by decide) (by decide), ck_t, h25, X9_see_eq N hL hT (by omega), ob_s, if_pos (by omega : p < L), X9_isDigit_eq N S (ht p), ob_s]
    by_cases q : dgt (t p) = true
    · have hd := dgt_lt q
      have hl' : ∀ j, a ≤ j → j < p + 1 → dgt (t j) = true := fun j x1 x2 => by
        by_cases e : j = p
        · rw [e]; exact q
        · exact hl j x1 (by omega)
      rw [if_pos q, if_neg (by decide), advL_step (by omega) q]
      by_cases q2 : 2 ≤ p - a
      · have hT' : TpM (ui S 30 0 25 (nI (p + 1))) L t := hT.md (M := [(30, some 0, some 25)]) ((Md.rf _ S).ui rfl rfl) rfl (fun _ => rfl)
        rw [if_pos (by rw [show (2 : Int32) = nI 2 from rfl, nI_leI (by omega) (by omega)]; exact q2), f_X9_next0_206, lt_s_, mF (by decide) (by decide), ck_t, lt_s_, h25, nI_1, nI_1, show p - a + 1 = p + 1 - a by omega]
        obtain ⟨Z, z1, z2, z3, z4, z5⟩ := ih n (p + 1) (ui S 30 0 25 (nI (p + 1))) (by omega) (by omega) hT' (by simp [gi_ui]) (by omega) hl' (fun x => by omega)
        exact ⟨Z, z1, z2, by rw [z3]; simp [gi_ui], z4, z5⟩
      · rw [if_neg (by rw [show (2 : Int32) = nI 2 from rfl, nI_leI (by omega) (by omega)]; exact q2), h25, X9_see_eq N hL hT (by omega), ob_s, if_pos (by omega : p < L), lt_s_]
        generalize hv1 : (10 : Int32) * gi S 30 0 28 + nI (t p) - 48 = v1
        have hT' : TpM (ui (ui S 30 0 28 v1) 30 0 25 (nI (p + 1))) L t := hT.md (M := [(30, some 0, some 28), (30, some 0, some 25)]) (((Md.rf _ S).ui rfl rfl).ui rfl rfl) rfl (fun _ => rfl)
        rw [f_X9_next0_206, lt_s_, mF (by decide) (by decide), ck_t, lt_s_, gi_ui_j _ _ _ _ _ _ (by decide), h25, nI_1, nI_1, show p - a + 1 = p + 1 - a by omega]
        obtain ⟨Z, z1, z2, z3, z4, z5⟩ := ih n (p + 1) (ui (ui S 30 0 28 v1) 30 0 25 (nI (p + 1))) (by omega) (by omega) hT' (by simp [gi_ui]) (by omega) hl' (fun hle2 => by
          simp [gi_ui]
          rw [← hv1, hv (by omega), show (48 : Int32) = nI 48 from rfl, show (10 : Int32) = nI 10 from rfl, pk_mul, nI_add, pk_sub (by omega)]
          congr 1
          unfold valP
          by_cases e : p = a
          · subst e
            simp
          · have e2 : p = a + 1 := by omega
            subst e2
            simp [show ¬ a + 1 + 1 = a by omega]
            omega)
        exact ⟨Z, z1, z2, by rw [z3]; simp [gi_ui], z4, z5⟩
    · rw [if_neg q, if_pos rfl, advL_stop (fun x => q x.2)]
      exact stop p S (by omega) h25 hap hv
/-- the reference's current token is tok -/
def TkM (S : HS) (tok : Nat × Nat × Nat × Nat) : Prop := gi S 30 0 26 = nI (mcd tok.1) ∧ gi S 30 0 27 = nI tok.2.1 ∧ gi S 30 0 25 = nI tok.2.2.1 ∧ (tok.1 = 3 → gi S 30 0 28 = nI tok.2.2.2)
theorem nI_nm1 {c : Nat} (h : c < 2147483648) : ¬ nI c = -1 := by
  intro q
  have := congrArg Int32.toInt q
  rw [nI_toInt (by omega)] at this
  have e : (-1 : Int32).toInt = -1 := rfl
  omega
theorem X9_skip_loop (N : Nat) (hN : 501 ≤ N) {L : Nat} {t : Nat → Nat} (hL : L ≤ 500) (ht : ∀ j, t j < 256) : ∀ (m n p : Nat) (S : HS), p + m = L → m < n → TpM S L t → gi S 30 0 25 = nI p → ∃ Z, f_X9_next0_0 csF N n S = some ((), Z) ∧ TkM Z (tokS t L p) := by
  intro m
  induction m with
  | zero =>
    intro n p S h1 h3 hT h25
    obtain ⟨n, rfl⟩ : ∃ k, n = k + 1 := ⟨n - 1, by omega⟩
    have hT1 : TpM (ui S 30 0 27 (nI p)) L t := hT.md (M := [(30, some 0, some 27)]) ((Md.rf _ S).ui rfl rfl) rfl (fun _ => rfl)
    have e25 : gi (ui S 30 0 27 (nI p)) 30 0 25 = nI p := by simp [gi_ui]; exact h25
    rw [f_X9_next0_0, mF (by decide) (by decide), ck_t, h25, X9_see_eq N hL hT (by omega), ob_s, if_neg (by omega : ¬ p < L), if_neg (by decide), h25, X9_see_eq N hL hT (by omega), ob_s, if_neg (by omega : ¬ p < L), if_neg (by decide), lt_s_, h25, e25, X9_see_eq N hL hT1 (by omega), ob_s, if_neg (by omega : ¬ p < L), if_pos rfl, lt_s_]
    refine ⟨_, rfl, ?_⟩
    unfold tokS
    rw [advL_stop (by omega)]
    simp only [if_neg (by omega : ¬ p < L)]
    exact ⟨by simp [gi_ui]; rfl, by simp [gi_ui], by simp [gi_ui]; exact h25, fun x => by simp at x⟩
  | succ m ih =>
    intro n p S h1 h3 hT h25
    obtain ⟨n, rfl⟩ : ∃ k, n = k + 1 := ⟨n - 1, by omega⟩
    have hpL : p < L := by omega
    have htp := ht p
    have c32 : nI (t p) = 32 ↔ t p = 32 := by rw [show (32 : Int32) = nI 32 from rfl]; exact nI_eq (by omega) (by omega)
    have c10 : nI (t p) = 10 ↔ t p = 10 := by rw [show (10 : Int32) = nI 10 from rfl]; exact nI_eq (by omega) (by omega)
    have c59 : nI (t p) = 59 ↔ t p = 59 := by rw [show (59 : Int32) = nI 59 from rfl]; exact nI_eq (by omega) (by omega)
    rw [f_X9_next0_0, mF (by decide) (by decide), ck_t, h25, X9_see_eq N hL hT (by omega), ob_s, if_pos hpL]
    by_cases hb : blk (t p) = true
    · have hT' : TpM (ui S 30 0 25 (nI (p + 1))) L t := hT.md (M := [(30, some 0, some 25)]) ((Md.rf _ S).ui rfl rfl) rfl (fun _ => rfl)
      have et : tokS t L p = tokS t L (p + 1) := by unfold tokS; rw [advL_step hpL hb]
      rw [et]
      obtain ⟨Z, z1, z2⟩ := ih n (p + 1) (ui S 30 0 25 (nI (p + 1))) (by omega) (by omega) hT' (by simp [gi_ui])
      by_cases h32 : t p = 32
      · rw [if_pos (c32.mpr h32), lt_s_, h25, nI_1]
        exact ⟨Z, z1, z2⟩
      · have h10 : t p = 10 := by unfold blk at hb; simpa [h32] using hb
        rw [if_neg (fun x => h32 (c32.mp x)), h25, X9_see_eq N hL hT (by omega), ob_s, if_pos hpL, if_pos (c10.mpr h10), lt_s_, h25, nI_1]
        exact ⟨Z, z1, z2⟩
    · have h32 : ¬ t p = 32 := fun x => hb (by rw [x]; rfl)
      have h10 : ¬ t p = 10 := fun x => hb (by rw [x]; rfl)
      have hT1 : TpM (ui S 30 0 27 (nI p)) L t := hT.md (M := [(30, some 0, some 27)]) ((Md.rf _ S).ui rfl rfl) rfl (fun _ => rfl)
      have e25 : gi (ui S 30 0 27 (nI p)) 30 0 25 = nI p := by simp [gi_ui]; exact h25
      have e27 : gi (ui S 30 0 27 (nI p)) 30 0 27 = nI p := by simp [gi_ui]
      rw [if_neg (fun x => h32 (c32.mp x)), h25, X9_see_eq N hL hT (by omega), ob_s, if_pos hpL, if_neg (fun x => h10 (c10.mp x)), lt_s_, h25]
      generalize hTe : ui S 30 0 27 (nI p) = T at *
      rw [e25, X9_see_eq N hL hT1 (by omega), ob_s, if_pos hpL, if_neg (nI_nm1 (by omega)), X9_isLetter_eq N T htp, ob_s]
      unfold tokS
      rw [advL_stop (fun x => hb x.2)]
      simp only [if_pos hpL]
      by_cases h2 : ltr (t p) = true
      · rw [if_pos h2, if_neg (by decide), if_pos h2]
        have wl := X9_word_loop N (a := p) hL ht (L - p) N p T (by omega) (by omega) hT1 e25 (Nat.le_refl p) hpL (fun _ => h2) (fun j x1 x2 => by omega)
        rw [Nat.sub_self] at wl
        have e0 : lN (pkV t p (min 0 6)) = 0 := rfl
        rw [e0, show nI 0 = 0 from rfl] at wl
        rw [wl]
        exact ⟨_, rfl, by simp [gi_ui], by simp [gi_ui]; exact e27, by simp [gi_ui], fun x => by
          have : ∀ w, kwS w ≠ 3 := by
            intro w
            unfold kwS
            repeat' split
            all_goals decide
          exact absurd x (this _)⟩
      · rw [if_neg h2, if_pos rfl, if_neg h2, X9_isDigit_eq N T htp, ob_s]
        by_cases h3 : dgt (t p) = true
        · rw [if_pos h3, if_neg (by decide), if_pos h3, lt_s_]
          have hT2 : TpM (ui T 30 0 28 0) L t := hT1.md (M := [(30, some 0, some 28)]) ((Md.rf _ T).ui rfl rfl) rfl (fun _ => rfl)
          obtain ⟨Z, z1, z2, z3, z4, z5⟩ := X9_num_loop N (a := p) hL ht (L - p) N p (ui T 30 0 28 0) (by omega) (by omega) hT2 (by simp [gi_ui]; exact e25) (Nat.le_refl p) (fun j x1 x2 => by omega) (fun _ => by simp [gi_ui, valP]; rfl)
          rw [Nat.sub_self, show nI 0 = 0 from rfl] at z1
          rw [z1]
          have r1 := (advL_rng dgt t L (p + 1)).1
          have r2 := advL_step (q := dgt) (t := t) hpL h3
          refine ⟨Z, rfl, ?_, by rw [z3]; simp [gi_ui]; exact e27, z2, fun x => ?_⟩
          · simp only
            rw [z4]
            split <;> rfl
          · simp only at x ⊢
            by_cases hq : advL dgt t L p - p ≤ 2
            · rw [z5 hq]
              unfold valP valS
              congr 1
              by_cases e1 : advL dgt t L p = p + 1
              · simp [e1]
              · have e3 : ¬ advL dgt t L p = p := by omega
                have e4 : ¬ advL dgt t L p - p = 1 := by omega
                simp [e1, e3, e4]
            · rw [if_neg hq] at x
              exact absurd x (by decide)
        · rw [if_neg h3, if_pos rfl, if_neg h3, lt_s_, e25, nI_1]
          by_cases h4 : t p = 59
          · rw [if_pos (c59.mpr h4), lt_s_]
            exact ⟨_, rfl, by simp [gi_ui, h4]; rfl, by simp [gi_ui]; exact e27, by simp [gi_ui], fun x => by simp [h4] at x⟩
          · rw [if_neg (fun x => h4 (c59.mp x)), lt_s_]
            exact ⟨_, rfl, by simp [gi_ui, h4]; rfl, by simp [gi_ui]; exact e27, by simp [gi_ui], fun x => by simp [h4] at x⟩
theorem X9_token (N : Nat) (hN : 501 ≤ N) {L p : Nat} {t : Nat → Nat} (hL : L ≤ 500) (ht : ∀ j, t j < 256) {S : HS} (hT : TpM S L t) (h25 : gi S 30 0 25 = nI p) (hp : p ≤ L) : ∃ Z, f_X9_next0 csF N S = some ((), Z) ∧ TkM Z (tokS t L p) ∧ Md ml_X9_next0 S Z := by
  obtain ⟨Z, z1, z2⟩ := X9_skip_loop N hN hL ht (L - p) N p S (by omega) (by omega) hT h25
  exact ⟨Z, z1, z2, md_X9_next0 _ _ _ _ _ z1⟩
