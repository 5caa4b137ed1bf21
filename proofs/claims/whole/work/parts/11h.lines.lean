/-! ===== custom: all lines ===== -/
abbrev Tok : Type := Nat × Nat × Nat × Nat
def fmk (k : Nat) : Nat := if k = 4 then 0 else if k = 6 then 1 else if k = 9 then 2 else 3
abbrev kOk (k : Nat) : Prop := k = 4 ∨ k = 6 ∨ k = 9 ∨ k = 11
/-- all lines: a fault and its place, or the lines -/
def prS (t : Nat → Nat) (L : Nat) : Nat → List (Nat × List Nat) → Tok → (Nat × Nat) ⊕ List (Nat × List Nat)
  | 0, ls, _ => .inr ls
  | n + 1, ls, tok => if tok.1 = 1 then .inr ls else if kOk tok.1 then (if ls.length < 24 then (match ptS t L (sTn (fmk tok.1)) [] (tokS t L tok.2.2.1) with
    | .inl f => .inl f
    | .inr q => prS t L n (ls ++ [(tok.1, q.1)]) q.2) else .inl (3, tok.2.1)) else .inl (1, tok.2.1)
theorem pt_num {t : Nat → Nat} {L c : Nat} {r ns : List Nat} {tok : Tok} {q : List Nat × Tok} (hc : 12 ≤ c) (h : ptS t L (c :: r) ns tok = .inr q) : ∃ v, loS c ns ≤ v ∧ v ≤ hiS c ∧ ptS t L r (ns ++ [v]) (tokS t L tok.2.2.1) = .inr q := by
  unfold ptS at h
  rw [if_pos hc] at h
  by_cases h1 : tok.1 = 3
  · rw [if_pos h1] at h
    by_cases h2 : loS c ns ≤ tok.2.2.2 ∧ tok.2.2.2 ≤ hiS c
    · rw [if_pos h2] at h
      exact ⟨_, h2.1, h2.2, h⟩
    · rw [if_neg h2] at h; cases h
  · rw [if_neg h1] at h; cases h
theorem pt_tok {t : Nat → Nat} {L c : Nat} {r ns : List Nat} {tok : Tok} {q : List Nat × Tok} (hc : ¬ 12 ≤ c) (h : ptS t L (c :: r) ns tok = .inr q) : ptS t L r ns (tokS t L tok.2.2.1) = .inr q := by
  unfold ptS at h
  rw [if_neg hc] at h
  by_cases h1 : tok.1 = c
  · rw [if_pos h1] at h; exact h
  · rw [if_neg h1] at h; cases h
theorem pt_nil {t : Nat → Nat} {L : Nat} {ns : List Nat} {tok : Tok} {q : List Nat × Tok} (h : ptS t L [] ns tok = .inr q) : q.1 = ns := by
  unfold ptS at h
  injection h with h
  rw [← h]
theorem pt_ok0 {t : Nat → Nat} {L : Nat} {tok : Tok} {q : List Nat × Tok} (h : ptS t L (sTn 0) [] tok = .inr q) : lnOk 4 q.1 := by
  obtain ⟨a, a1, a2, h⟩ := pt_num (by decide) h
  have h := pt_tok (by decide) h
  obtain ⟨b, b1, b2, h⟩ := pt_num (by decide) h
  have h := pt_nil (pt_tok (by decide) h)
  simp [hiS] at a2 b2
  rw [h]
  exact Or.inl ⟨rfl, rfl, by simp; omega, by simp; omega⟩
theorem pt_ok1 {t : Nat → Nat} {L : Nat} {tok : Tok} {q : List Nat × Tok} (h : ptS t L (sTn 1) [] tok = .inr q) : lnOk 6 q.1 := by
  obtain ⟨a, a1, a2, h⟩ := pt_num (by decide) h
  have h := pt_tok (by decide) h
  obtain ⟨b, b1, b2, h⟩ := pt_num (by decide) h
  have h := pt_tok (by decide) h
  obtain ⟨c, c1, c2, h⟩ := pt_num (by decide) h
  have h := pt_nil (pt_tok (by decide) h)
  simp [hiS] at a2 b2 c2
  rw [h]
  exact Or.inr (Or.inl ⟨rfl, rfl, by simp; omega, by simp; omega, by simp; omega⟩)
theorem pt_ok2 {t : Nat → Nat} {L : Nat} {tok : Tok} {q : List Nat × Tok} (h : ptS t L (sTn 2) [] tok = .inr q) : lnOk 9 q.1 := by
  obtain ⟨a, a1, a2, h⟩ := pt_num (by decide) h
  have h := pt_tok (by decide) h
  obtain ⟨b, b1, b2, h⟩ := pt_num (by decide) h
  have h := pt_tok (by decide) h
  obtain ⟨c, c1, c2, h⟩ := pt_num (by decide) h
  have h := pt_nil (pt_tok (by decide) h)
  simp [hiS] at a2 b2 c2
  simp [loS] at c1
  rw [h]
  exact Or.inr (Or.inr (Or.inl ⟨rfl, rfl, by simp; omega, by simp; omega, by simp; omega⟩))
theorem pt_ok3 {t : Nat → Nat} {L : Nat} {tok : Tok} {q : List Nat × Tok} (h : ptS t L (sTn 3) [] tok = .inr q) : lnOk 11 q.1 := by
  obtain ⟨a, a1, a2, h⟩ := pt_num (by decide) h
  have h := pt_nil (pt_tok (by decide) h)
  simp [hiS] at a2
  rw [h]
  exact Or.inr (Or.inr (Or.inr ⟨rfl, rfl, by simp; omega⟩))
theorem pt_ok {t : Nat → Nat} {L k : Nat} {tok : Tok} {q : List Nat × Tok} (hk : kOk k) (h : ptS t L (sTn (fmk k)) [] tok = .inr q) : lnOk k q.1 := by
  rcases hk with rfl | rfl | rfl | rfl
  · exact pt_ok0 h
  · exact pt_ok1 h
  · exact pt_ok2 h
  · exact pt_ok3 h
theorem prS_ok {t : Nat → Nat} {L : Nat} : ∀ (m : Nat) (ls : List (Nat × List Nat)) (tok : Tok) (ls' : List (Nat × List Nat)), ls.length ≤ 24 → (∀ l, l ∈ ls → lnOk l.1 l.2) → prS t L m ls tok = .inr ls' → ls'.length ≤ 24 ∧ ∀ l, l ∈ ls' → lnOk l.1 l.2 := by
  intro m
  induction m with
  | zero =>
    intro ls tok ls' h1 h2 h
    unfold prS at h
    injection h with h
    subst h
    exact ⟨h1, h2⟩
  | succ m ih =>
    intro ls tok ls' h1 h2 h
    unfold prS at h
    by_cases a1 : tok.1 = 1
    · rw [if_pos a1] at h
      injection h with h
      subst h
      exact ⟨h1, h2⟩
    · rw [if_neg a1] at h
      by_cases a2 : kOk tok.1
      · rw [if_pos a2] at h
        by_cases a3 : ls.length < 24
        · rw [if_pos a3] at h
          cases hp : ptS t L (sTn (fmk tok.1)) [] (tokS t L tok.2.2.1) with
          | inl f => rw [hp] at h; cases h
          | inr q =>
            rw [hp] at h
            refine ih _ _ _ ?_ ?_ h
            · simp; omega
            · intro l hl
              rcases List.mem_append.mp hl with x | x
              · exact h2 l x
              · rw [List.mem_singleton.mp x]
                exact pt_ok a2 hp
        · rw [if_neg a3] at h; cases h
      · rw [if_neg a2] at h; cases h
theorem fmOk_0 {k : Nat} (h : k < 4) : fmOk (sTn k) 0 = true := by
  rcases (show k = 0 ∨ k = 1 ∨ k = 2 ∨ k = 3 by omega) with rfl | rfl | rfl | rfl <;> decide
theorem fmk_lt (k : Nat) : fmk k < 4 := by unfold fmk; repeat' split
                                           all_goals omega
theorem formOf_eq (N : Nat) (S : HS) {k : Nat} (hk : k ≤ 11) : f_X1_formOf csF N (nI k) S = some (fmk k, S) := by
  unfold f_X1_formOf fmk
  simp only [show (4 : Int32) = nI 4 from rfl, show (6 : Int32) = nI 6 from rfl, show (9 : Int32) = nI 9 from rfl, nI_eq (show k < 2147483648 by omega) (show 4 < 2147483648 by decide), nI_eq (show k < 2147483648 by omega) (show 6 < 2147483648 by decide), nI_eq (show k < 2147483648 by omega) (show 9 < 2147483648 by decide)]
  repeat' split
  all_goals rfl
def foR (ls : List (Nat × List Nat)) : R3 := ls.foldl (fun r l => apC3 l.1 l.2 r) r30
theorem foR_app (ls : List (Nat × List Nat)) (l : Nat × List Nat) : foR (ls ++ [l]) = apC3 l.1 l.2 (foR ls) := by unfold foR; rw [List.foldl_append]; rfl
theorem X1_readParts_eq (N : Nat) (hN : 501 ≤ N) {L : Nat} {t : Nat → Nat} (hL : L ≤ 500) (ht : ∀ j, t j < 256) {k : Nat} (hk : k < 4) (tok : Tok) (S : HS) (hT : TpC S L t) (hTk : TkC S tok) (hok : tokOk L tok) : ∃ a Z, f_X1_readParts csF N k S = some (a, Z) ∧ Md ml_X1_readParts S Z ∧ (match ptS t L (sTn k) [] tok with
      | .inl f => a = 0 ∧ FtC Z f.1 f.2
      | .inr q => a = 1 ∧ NmC Z q.1 ∧ TkC Z q.2 ∧ tokOk L q.2 ∧ gi Z 8 0 2 = gi S 8 0 2 ∧ gi Z 8 0 3 = gi S 8 0 3) := by
  obtain ⟨a, Z, h1, h2⟩ := X1_parts_loop N hN hL ht hk (sTn k) N 0 [] tok S rfl (by simp) (by have := (sTn_ok k hk).2.1; omega) (fmOk_0 hk) hT hTk hok (fun i hi => by simp at hi)
  have h1' : f_X1_readParts csF N k S = some (a, Z) := h1
  exact ⟨a, Z, h1', md_X1_readParts _ _ _ _ _ _ h1', h2⟩
theorem X1_line_eq (N : Nat) (hN : 501 ≤ N) {L : Nat} {t : Nat → Nat} (hL : L ≤ 500) (ht : ∀ j, t j < 256) {k : Nat} (hk : k < 2) {n : Nat} (hn : n ≤ 24) (tok : Tok) (S : HS) (r : R3) (hT : TpC S L t) (hTk : TkC S tok) (hok : tokOk L tok) (hr : RtC S k r) (h1 : gi S 8 0 1 = nI n) :
    ∃ a Z, f_X1_readLine csF N k S = some (a, Z) ∧ Oth k S Z ∧ (if kOk tok.1 then (if n < 24 then (match ptS t L (sTn (fmk tok.1)) [] (tokS t L tok.2.2.1) with
      | .inl f => a = 0 ∧ FtC Z f.1 f.2
      | .inr q => a = 1 ∧ TpC Z L t ∧ TkC Z q.2 ∧ tokOk L q.2 ∧ RtC Z k (apC3 tok.1 q.1 r) ∧ gi Z 8 0 1 = nI (n + 1) ∧ gi Z 8 0 2 = gi S 8 0 2 ∧ gi Z 8 0 3 = gi S 8 0 3) else a = 0 ∧ FtC Z 3 tok.2.1) else a = 0 ∧ FtC Z 1 tok.2.1) := by
  have m8 : mc csF 8 0 = true := mF (by decide) (by decide)
  have m9 : mc csF 9 0 = true := mF (by decide) (by decide)
  obtain ⟨ok1, ok2, ok3, ok4⟩ := hok
  have hoth : ∀ (v : Int32), Oth k S (ui (ui S 8 0 2 v) 8 0 3 (nI tok.2.1)) := fun v => ⟨fun _ _ _ => by simp [gi_ui], fun _ _ _ => by simp [gi_ui], fun _ _ _ => by simp [gl_ui]⟩
  by_cases hkk : kOk tok.1
  · simp only [if_pos hkk]
    have e37 : f_X1_readLine csF N k S = f_X1_readLine_37 csF N k (nI tok.1) S := by
      rw [f_X1_readLine, m8, ck_t, m9, ck_t, lt_s_, hTk.1]
      rcases hkk with h | h | h | h <;> rw [h]
      · rw [if_pos (by decide)]
      · rw [if_neg (by decide), if_pos (by decide)]
      · rw [if_neg (by decide), if_neg (by decide), if_pos (by decide)]
      · rw [if_neg (by decide), if_neg (by decide), if_neg (by decide), if_pos (by decide)]
    rw [e37, f_X1_readLine_37, m8, ck_t, h1]
    by_cases h24 : n < 24
    · rw [if_pos (by rw [show (24 : Int32) = nI 24 from rfl, nI_ltI (by omega) (by omega)]; exact h24), m9, ck_t]
      simp only [if_pos h24]
      obtain ⟨Z1, z1, z2, z3⟩ := X7_token N hN hL ht hT hTk.2.2.1 ok2
      obtain ⟨r1, r2, r3, r4, -⟩ := tok_rng t (L := L) (p := tok.2.2.1) ok2
      have hok' : tokOk L (tokS t L tok.2.2.1) := ⟨r1, r2, r4, by have := val_lt t L tok.2.2.1; omega⟩
      obtain ⟨a, Z2, y1, y2, y3⟩ := X1_readParts_eq N hN hL ht (fmk_lt tok.1) _ Z1 (hT.md z3 rfl (fun _ => rfl)) z2 hok'
      rw [z1, ob_s, formOf_eq N Z1 ok3, ob_s, y1, ob_s]
      have o2 : Oth k S Z2 := (Oth.md z3 (fun _ _ => rfl) (fun _ _ => rfl) (fun _ _ => rfl)).trans (Oth.md y2 (fun _ _ => rfl) (fun _ _ => rfl) (fun _ _ => rfl))
      cases hp : ptS t L (sTn (fmk tok.1)) [] (tokS t L tok.2.2.1) with
      | inl f =>
        rw [hp] at y3
        obtain ⟨rfl, y3⟩ := y3
        rw [if_pos rfl]
        exact ⟨0, Z2, rfl, o2, rfl, y3⟩
      | inr q =>
        rw [hp] at y3
        obtain ⟨rfl, y4, y5, y6, y7, y8⟩ := y3
        rw [if_neg (by decide)]
        have hr2 : RtC Z2 k r := (hr.md z3 (fun _ _ => rfl) (fun _ _ => rfl) (fun _ _ => rfl)).md y2 (fun _ _ => rfl) (fun _ _ => rfl) (fun _ _ => rfl)
        obtain ⟨Z3, x1, x2, x3, x4⟩ := X1_tell_eq N (by omega) hk (pt_ok hkk hp) hr2 y4
        rw [x1, ob_s, lt_s_]
        have e1 : gi Z3 8 0 1 = nI n := by rw [x4.gi _ _ _ rfl, y2.gi _ _ _ rfl, z3.gi _ _ _ rfl, h1]
        have mu : Md [(8, some 0, some 1)] Z3 (ui Z3 8 0 1 (gi Z3 8 0 1 + 1)) := (Md.rf _ Z3).ui rfl rfl
        refine ⟨1, _, rfl, (o2.trans x2).trans (Oth.md mu (fun _ _ => rfl) (fun _ _ => rfl) (fun _ _ => rfl)), rfl, (((hT.md z3 rfl (fun _ => rfl)).md y2 rfl (fun _ => rfl)).md x4 rfl (fun _ => rfl)).md mu rfl (fun _ => rfl), ?_, y6, x3.md mu (fun _ _ => rfl) (fun _ _ => rfl) (fun _ _ => rfl), ?_, ?_, ?_⟩
        · unfold TkC
          rw [mu.gi 9 0 1 rfl, mu.gi 9 0 2 rfl, mu.gi 9 0 5 rfl, mu.gi 9 0 3 rfl, x4.gi 9 0 1 rfl, x4.gi 9 0 2 rfl, x4.gi 9 0 5 rfl, x4.gi 9 0 3 rfl]
          exact y5
        · rw [gi_ui_s, e1, nI_1]
        · rw [mu.gi _ _ _ rfl, x4.gi _ _ _ rfl, y7, z3.gi _ _ _ rfl]
        · rw [mu.gi _ _ _ rfl, x4.gi _ _ _ rfl, y8, z3.gi _ _ _ rfl]
    · rw [if_neg (by rw [show (24 : Int32) = nI 24 from rfl, nI_ltI (by omega) (by omega)]; exact h24), stop_eq N S 3 hTk.2.1, ob_s, b01_0, ck_t]
      simp only [if_neg h24]
      exact ⟨0, _, rfl, hoth _, rfl, by simp [gi_ui]; rfl, by simp [gi_ui]⟩
  · simp only [if_neg hkk]
    have q4 : ¬ nI tok.1 = 4 := by rw [show (4 : Int32) = nI 4 from rfl, nI_eq (by omega) (by omega)]; exact fun x => hkk (Or.inl x)
    have q6 : ¬ nI tok.1 = 6 := by rw [show (6 : Int32) = nI 6 from rfl, nI_eq (by omega) (by omega)]; exact fun x => hkk (Or.inr (Or.inl x))
    have q9 : ¬ nI tok.1 = 9 := by rw [show (9 : Int32) = nI 9 from rfl, nI_eq (by omega) (by omega)]; exact fun x => hkk (Or.inr (Or.inr (Or.inl x)))
    have q11 : ¬ nI tok.1 = 11 := by rw [show (11 : Int32) = nI 11 from rfl, nI_eq (by omega) (by omega)]; exact fun x => hkk (Or.inr (Or.inr (Or.inr x)))
    rw [f_X1_readLine, m8, ck_t, m9, ck_t, lt_s_, hTk.1, if_neg q4, if_neg q6, if_neg q9, if_neg q11, stop_eq N S 1 hTk.2.1, ob_s, b01_0, ck_t]
    exact ⟨0, _, rfl, hoth _, rfl, by simp [gi_ui]; rfl, by simp [gi_ui]⟩
theorem X1_into_loop (N : Nat) (hN : 501 ≤ N) {L : Nat} {t : Nat → Nat} (hL : L ≤ 500) (ht : ∀ j, t j < 256) {k : Nat} (hk : k < 2) : ∀ (m n : Nat) (ls : List (Nat × List Nat)) (tok : Tok) (S : HS), ls.length + m = 25 → 0 < m → m < n → TpC S L t → TkC S tok → tokOk L tok → RtC S k (foR ls) → gi S 8 0 1 = nI ls.length → gi S 8 0 2 = 0 → gi S 8 0 3 = -1 →
    ∃ a Z, f_X1_readInto_28 csF N n k (nI ls.length) S = some (a, Z) ∧ Oth k S Z ∧ (match prS t L m ls tok with
      | .inl f => a = 0 ∧ FtC Z f.1 f.2
      | .inr ls' => a = 1 ∧ RtC Z k (foR ls') ∧ gi Z 8 0 1 = nI ls'.length ∧ gi Z 8 0 2 = 0 ∧ gi Z 8 0 3 = -1) := by
  intro m
  induction m with
  | zero => intro n ls tok S h1 h2; omega
  | succ m ih =>
    intro n ls tok S h1 h2 h3 hT hTk hok hr e1 e2 e3
    obtain ⟨n, rfl⟩ : ∃ k, n = k + 1 := ⟨n - 1, by omega⟩
    have l24 : ¬ (24 : Int32) < nI ls.length := by rw [show (24 : Int32) = nI 24 from rfl, nI_ltI (by omega) (by omega)]; omega
    rw [f_X1_readInto_28, if_neg l24, mF (by decide) (by decide), ck_t, mF (by decide) (by decide), ck_t, hTk.1]
    unfold prS
    by_cases a1 : tok.1 = 1
    · rw [if_pos (by rw [a1]; rfl), if_pos a1]
      exact ⟨1, S, rfl, Oth.rf k S, rfl, hr, e1, e2, e3⟩
    · rw [if_neg (by rw [show (1 : Int32) = nI 1 from rfl, nI_eq (by have := hok.2.2.1; omega) (by omega)]; exact a1), if_neg a1]
      obtain ⟨a, Z, z1, z2, z3⟩ := X1_line_eq N hN hL ht hk (n := ls.length) (by omega) tok S (foR ls) hT hTk hok hr e1
      rw [z1, ob_s]
      by_cases a2 : kOk tok.1
      · rw [if_pos a2] at z3 ⊢
        by_cases a3 : ls.length < 24
        · rw [if_pos a3] at z3 ⊢
          cases hp : ptS t L (sTn (fmk tok.1)) [] (tokS t L tok.2.2.1) with
          | inl f =>
            rw [hp] at z3
            obtain ⟨rfl, z3⟩ := z3
            rw [if_pos rfl]
            exact ⟨0, Z, rfl, z2, rfl, z3⟩
          | inr q =>
            rw [hp] at z3
            obtain ⟨rfl, y1, y2, y3, y4, y5, y6, y7⟩ := z3
            rw [if_neg (by decide), lt_s_, nI_1]
            have hl : (ls ++ [(tok.1, q.1)]).length = ls.length + 1 := by simp
            obtain ⟨a', Z', x1, x2, x3⟩ := ih n (ls ++ [(tok.1, q.1)]) q.2 Z (by rw [hl]; omega) (by omega) (by omega) y1 y2 y3 (by rw [foR_app]; exact y4) (by rw [hl]; exact y5) (y6.trans e2) (y7.trans e3)
            rw [hl] at x1
            exact ⟨a', Z', x1, z2.trans x2, x3⟩
        · rw [if_neg a3] at z3 ⊢
          obtain ⟨rfl, z3⟩ := z3
          rw [if_pos rfl]
          exact ⟨0, Z, rfl, z2, rfl, z3⟩
      · rw [if_neg a2] at z3 ⊢
        obtain ⟨rfl, z3⟩ := z3
        rw [if_pos rfl]
        exact ⟨0, Z, rfl, z2, rfl, z3⟩
theorem X1_into_eq (N : Nat) (hN : 501 ≤ N) {L : Nat} {t : Nat → Nat} (hL : L ≤ 500) (ht : ∀ j, t j < 256) {k : Nat} (hk : k < 2) (S : HS) (hT : TpC S L t) :
    ∃ a Z, f_X1_readInto csF N k S = some (a, Z) ∧ Oth k S Z ∧ Md ml_X1_readInto S Z ∧ (match prS t L 25 [] (tokS t L 0) with
      | .inl f => a = 0 ∧ FtC Z f.1 f.2
      | .inr ls' => a = 1 ∧ RtC Z k (foR ls') ∧ gi Z 8 0 1 = nI ls'.length ∧ gi Z 8 0 2 = 0 ∧ gi Z 8 0 3 = -1) := by
  have m3 : Md [(8, some 0, some 1), (8, some 0, some 2), (8, some 0, some 3)] S (ui (ui (ui S 8 0 1 0) 8 0 2 0) 8 0 3 (-1)) := (((Md.rf _ S).ui rfl rfl).ui rfl rfl).ui rfl rfl
  obtain ⟨Z1, z1, z2, z3, z4⟩ := X5_forget_eq N (by omega) hk (ui (ui (ui S 8 0 1 0) 8 0 2 0) 8 0 3 (-1))
  have m5 : Md [(9, some 0, some 5)] Z1 (ui Z1 9 0 5 0) := (Md.rf _ Z1).ui rfl rfl
  have hT1 : TpC (ui Z1 9 0 5 0) L t := ((hT.md m3 rfl (fun _ => rfl)).md z4 rfl (fun _ => rfl)).md m5 rfl (fun _ => rfl)
  obtain ⟨Z2, y1, y2, y3⟩ := X7_token N hN hL ht hT1 (p := 0) (by rw [gi_ui_s]; rfl) (by omega)
  obtain ⟨r1, r2, r3, r4, -⟩ := tok_rng t (L := L) (p := 0) (by omega)
  have hok' : tokOk L (tokS t L 0) := ⟨r1, r2, r4, by have := val_lt t L 0; omega⟩
  have hr : RtC Z2 k r30 := (z3.md m5 (fun _ _ => rfl) (fun _ _ => rfl) (fun _ _ => rfl)).md y3 (fun _ _ => rfl) (fun _ _ => rfl) (fun _ _ => rfl)
  have g8 : ∀ j, gi Z2 8 0 j = gi (ui (ui (ui S 8 0 1 0) 8 0 2 0) 8 0 3 (-1)) 8 0 j := fun j => by rw [y3.gi _ _ _ rfl, m5.gi _ _ _ rfl, z4.gi _ _ _ rfl]
  obtain ⟨a, Z, x1, x2, x3⟩ := X1_into_loop N hN hL ht hk 25 N [] (tokS t L 0) Z2 rfl (by omega) (by omega) (hT1.md y3 rfl (fun _ => rfl)) y2 hok' hr (by rw [g8]; simp [gi_ui]; rfl) (by rw [g8]; simp [gi_ui]) (by rw [g8]; simp [gi_ui])
  have e : f_X1_readInto csF N k S = some (a, Z) := by
    rw [f_X1_readInto, mF (by decide) (by decide), ck_t, lt_s_, lt_s_, lt_s_, mF (by decide) (show k < 2 from hk), ck_t, z1, ob_s, mF (by decide) (by decide), ck_t, f_X7_rewind, mF (by decide) (by decide), ck_t, lt_s_, y1, ob_s, ob_s]
    exact x1
  exact ⟨a, Z, e, ((((Oth.md m3 (fun _ _ => rfl) (fun _ _ => rfl) (fun _ _ => rfl)).trans z2).trans (Oth.md m5 (fun _ _ => rfl) (fun _ _ => rfl) (fun _ _ => rfl))).trans (Oth.md y3 (fun _ _ => rfl) (fun _ _ => rfl) (fun _ _ => rfl))).trans x2, md_X1_readInto _ _ _ _ _ _ e, x3⟩
