/-! ===== custom: the lines in the other object ===== -/
theorem mcd_inj : ∀ a, a < 12 → ∀ b, b < 12 → (mcd a = mcd b ↔ a = b) := by decide +kernel
theorem mcd_lt : ∀ a, a < 12 → mcd a < 60 := by decide +kernel
def FtM (S : HS) (k pl : Nat) : Prop := gi S 30 0 29 = nI k ∧ gi S 30 0 30 = nI pl
def LnM (S : HS) (i wh : Nat) (ns : List Nat) : Prop := gi S 31 19 (4 * i) = nI (mcd wh) ∧ ∀ j, j < ns.length → gi S 31 19 (4 * i + (j + 1)) = nI (ns.getD j 0)
/-- in the midst of line n -/
abbrev LnS (t : Nat → Nat) (L : Nat) (S0 : HS) (b n : Nat) (tok : Tok) (S : HS) : Prop := TpM S L t ∧ TkM S tok ∧ tokOk L tok ∧ gi S 30 0 32 = nI n ∧ gi S 30 0 29 = gi S0 30 0 29 ∧ ∀ j, j < 4 * b → gi S 31 19 j = gi S0 31 19 j
theorem LnS.tp {t : Nat → Nat} {L : Nat} {S0 : HS} {b n : Nat} {tok : Tok} {S : HS} (h : LnS t L S0 b n tok S) : TpM S L t := h.1
theorem LnS.tk {t : Nat → Nat} {L : Nat} {S0 : HS} {b n : Nat} {tok : Tok} {S : HS} (h : LnS t L S0 b n tok S) : TkM S tok := h.2.1
theorem LnS.ok {t : Nat → Nat} {L : Nat} {S0 : HS} {b n : Nat} {tok : Tok} {S : HS} (h : LnS t L S0 b n tok S) : tokOk L tok := h.2.2.1
theorem LnS.ln {t : Nat → Nat} {L : Nat} {S0 : HS} {b n : Nat} {tok : Tok} {S : HS} (h : LnS t L S0 b n tok S) : gi S 30 0 32 = nI n := h.2.2.2.1
theorem LnS.wr {t : Nat → Nat} {L : Nat} {S0 : HS} {b n : Nat} {tok : Tok} {S : HS} (h : LnS t L S0 b n tok S) : gi S 30 0 29 = gi S0 30 0 29 := h.2.2.2.2.1
theorem LnS.bf {t : Nat → Nat} {L : Nat} {S0 : HS} {b n : Nat} {tok : Tok} {S : HS} (h : LnS t L S0 b n tok S) : ∀ j, j < 4 * b → gi S 31 19 j = gi S0 31 19 j := h.2.2.2.2.2
def LnR (t : Nat → Nat) (L : Nat) (S0 : HS) (n wh : Nat) (x : Option (Int32 × HS)) (res : (Nat × Nat) ⊕ (List Nat × Tok)) : Prop := ∃ a Z, x = some (a, Z) ∧ match res with
  | .inl f => a = 0 ∧ FtM Z f.1 f.2
  | .inr q => a = 1 ∧ LnS t L S0 n (n + 1) q.2 Z ∧ LnM Z n wh q.1
theorem bad_eq (N : Nat) (S : HS) {pl : Nat} (k : Int32) (h : gi S 30 0 27 = nI pl) : f_X9_bad csF N k S = some (0, ui (ui S 30 0 29 k) 30 0 30 (nI pl)) := by
  rw [f_X9_bad, mF (by decide) (by decide), ck_t, lt_s_, lt_s_, gi_ui_j _ _ _ _ _ _ (by decide), h]
theorem tk_next (N : Nat) (hN : 501 ≤ N) {L : Nat} {t : Nat → Nat} (hL : L ≤ 500) (ht : ∀ j, t j < 256) {S0 : HS} {n : Nat} {tok : Tok} {S : HS} (h : LnS t L S0 n n tok S) : ∃ Z, f_X9_next0 csF N S = some ((), Z) ∧ LnS t L S0 n n (tokS t L tok.2.2.1) Z ∧ Md ml_X9_next0 S Z := by
  obtain ⟨ok1, ok2, ok3, ok4⟩ := h.ok
  obtain ⟨Z, z1, z2, z3⟩ := X9_token N hN hL ht h.tp h.tk.2.2.1 ok2
  obtain ⟨r1, r2, r3, r4, -⟩ := tok_rng t (L := L) (p := tok.2.2.1) ok2
  exact ⟨Z, z1, ⟨h.tp.md z3 rfl (fun _ => rfl), z2, ⟨r1, r2, r4, by have := val_lt t L tok.2.2.1; omega⟩, (z3.gi _ _ _ rfl).trans h.ln, (z3.gi _ _ _ rfl).trans h.wr, fun j hj => (z3.gi _ _ _ rfl).trans (h.bf j hj)⟩, z3⟩
theorem LnM.md {M : List (Nat × Option Nat × Option Nat)} {S Z : HS} {i wh : Nat} {ns : List Nat} (h : LnM S i wh ns) (m : Md M S Z) (h1 : ∀ j, pm M 31 19 j = false) : LnM Z i wh ns := ⟨(m.gi _ _ _ (h1 _)).trans h.1, fun j hj => (m.gi _ _ _ (h1 _)).trans (h.2 j hj)⟩
theorem need_st (N : Nat) (hN : 501 ≤ N) {L : Nat} {t : Nat → Nat} (hL : L ≤ 500) (ht : ∀ j, t j < 256) {S0 : HS} {n wh c : Nat} {r ns : List Nat} {tok : Tok} {S : HS} (h : LnS t L S0 n n tok S) (hl : LnM S n wh ns) (hc : c < 12) (k : HS → Option (Int32 × HS)) (hk : ∀ Z, LnS t L S0 n n (tokS t L tok.2.2.1) Z → LnM Z n wh ns → LnR t L S0 n wh (k Z) (ptS t L r ns (tokS t L tok.2.2.1))) : LnR t L S0 n wh (ob (f_X9_need csF N (nI (mcd c)) S) (fun r2 S3 => if r2 = 0 then some (0, S3) else k S3)) (ptS t L (c :: r) ns tok) := by
  have ok3 := h.ok.2.2.1
  have a1 := mcd_lt tok.1 (by omega); have a2 := mcd_lt c hc
  unfold ptS
  rw [if_neg (by omega), f_X9_need, mF (by decide) (by decide), ck_t, h.tk.1]
  by_cases q : tok.1 = c
  · rw [if_pos (by rw [q]), if_pos q]
    obtain ⟨Z, z1, z2, z3⟩ := tk_next N hN hL ht h
    rw [z1, ob_s, ob_s, if_neg (by decide)]
    exact hk Z z2 (hl.md z3 (fun _ => rfl))
  · rw [if_neg (by rw [nI_eq (by omega) (by omega), mcd_inj _ (by omega) _ hc]; exact q), if_neg q, bad_eq N S 1 h.tk.2.1, ob_s, b01_0, ck_t, ob_s, if_pos rfl]
    exact ⟨0, _, rfl, rfl, by simp [gi_ui]; rfl, by simp [gi_ui]⟩
theorem num_st (N : Nat) (hN : 501 ≤ N) {L : Nat} {t : Nat → Nat} (hL : L ≤ 500) (ht : ∀ j, t j < 256) {S0 : HS} {n wh c : Nat} {r ns : List Nat} {tok : Tok} {S : HS} (h : LnS t L S0 n n tok S) (hc : 12 ≤ c) (lo hi : Int32) (hlo : lo = nI (loS c ns)) (hlb : loS c ns < 1000) (hhi : hi = nI (hiS c)) (k : HS → Option (Int32 × HS)) (hk : ∀ v Z, v < 1000 → LnS t L S0 n n (tokS t L tok.2.2.1) Z → gi Z 30 0 33 = nI v → (∀ j, gi Z 31 19 j = gi S 31 19 j) → LnR t L S0 n wh (k Z) (ptS t L r (ns ++ [v]) (tokS t L tok.2.2.1))) : LnR t L S0 n wh (ob (f_X9_aNumber csF N lo hi S) (fun r2 S3 => if r2 = 0 then some (0, S3) else k S3)) (ptS t L (c :: r) ns tok) := by
  obtain ⟨ok1, ok2, ok3, ok4⟩ := h.ok
  subst hlo hhi
  unfold ptS
  rw [if_pos hc, f_X9_aNumber, mF (by decide) (by decide), ck_t, h.tk.1]
  have a1 := mcd_lt tok.1 (by omega)
  by_cases q3 : tok.1 = 3
  · rw [if_pos (by rw [q3]; rfl), if_pos q3, h.tk.2.2.2 q3, X9_isIn_eq, ob_s, if_bif]
    have hb : btw (nI (loS c ns)) (nI tok.2.2.2) (nI (hiS c)) ↔ loS c ns ≤ tok.2.2.2 ∧ tok.2.2.2 ≤ hiS c := btw_nn (by omega) (by omega) (by unfold hiS; split <;> (try split) <;> decide)
    by_cases hin : loS c ns ≤ tok.2.2.2 ∧ tok.2.2.2 ≤ hiS c
    · rw [bif_t _ _ (hb.mpr hin), if_pos hin, lt_s_]
      have mu : Md [(30, some 0, some 33)] S (ui S 30 0 33 (nI tok.2.2.2)) := (Md.rf _ S).ui rfl rfl
      have h' : LnS t L S0 n n tok (ui S 30 0 33 (nI tok.2.2.2)) := ⟨h.tp.md mu rfl (fun _ => rfl), by unfold TkM; rw [mu.gi _ _ _ rfl, mu.gi _ _ _ rfl, mu.gi _ _ _ rfl, mu.gi _ _ _ rfl]; exact h.tk, h.ok, (mu.gi _ _ _ rfl).trans h.ln, (mu.gi _ _ _ rfl).trans h.wr, fun j hj => (mu.gi _ _ _ rfl).trans (h.bf j hj)⟩
      obtain ⟨Z, z1, z2, z3⟩ := tk_next N hN hL ht h'
      rw [h.tk.2.2.2 q3, z1, ob_s, ob_s, if_neg (by decide)]
      exact hk _ Z ok4 z2 (by rw [z3.gi _ _ _ rfl, gi_ui_s]) (fun j => by rw [z3.gi _ _ _ rfl, mu.gi _ _ _ rfl])
    · rw [bif_f _ _ (fun x => hin (hb.mp x)), if_neg hin, bad_eq N S 2 h.tk.2.1, ob_s, b01_0, ck_t, ob_s, if_pos rfl]
      exact ⟨0, _, rfl, rfl, by simp [gi_ui]; rfl, by simp [gi_ui]⟩
  · rw [if_neg (by rw [show (2 : Int32) = nI (mcd 3) from rfl, nI_eq (by omega) (by decide), mcd_inj _ (by omega) _ (by decide)]; exact q3), if_neg q3, bad_eq N S 1 h.tk.2.1, ob_s, b01_0, ck_t, ob_s, if_pos rfl]
    exact ⟨0, _, rfl, rfl, by simp [gi_ui]; rfl, by simp [gi_ui]⟩
theorem ix4' (n j : Nat) : (4 : Int32) * nI n + nI j = nI (4 * n + j) := ix4 n j
/-- the next number of line n is written down -/
theorem wr_num {t : Nat → Nat} {L : Nat} {S0 : HS} {n wh v : Nat} {ns : List Nat} {tok : Tok} {S : HS} (h : LnS t L S0 n n tok S) (hl : LnM S n wh ns) : LnS t L S0 n n tok (ui S 31 19 (4 * n + (ns.length + 1)) (nI v)) ∧ LnM (ui S 31 19 (4 * n + (ns.length + 1)) (nI v)) n wh (ns ++ [v]) := by
  have mu : Md [(31, some 19, none)] S (ui S 31 19 (4 * n + (ns.length + 1)) (nI v)) := (Md.rf _ S).ui rfl rfl
  refine ⟨⟨h.tp.md mu rfl (fun _ => rfl), by unfold TkM; rw [mu.gi _ _ _ rfl, mu.gi _ _ _ rfl, mu.gi _ _ _ rfl, mu.gi _ _ _ rfl]; exact h.tk, h.ok, (mu.gi _ _ _ rfl).trans h.ln, (mu.gi _ _ _ rfl).trans h.wr, fun j hj => ?_⟩, ?_, fun j hj => ?_⟩
  · rw [gi_ui_j _ _ _ _ _ _ (by omega)]; exact h.bf j hj
  · rw [gi_ui_j _ _ _ _ _ _ (by omega)]; exact hl.1
  · by_cases e : j = ns.length
    · subst e
      rw [gi_ui_s]
      simp
    · have hj' : j < ns.length := by simp at hj; omega
      rw [gi_ui_j _ _ _ _ _ _ (by omega), hl.2 j hj']
      simp [List.getElem?_append_left hj']
theorem aL232 (N : Nat) (hN : 501 ≤ N) {L : Nat} {t : Nat → Nat} (hL : L ≤ 500) (ht : ∀ j, t j < 256) {S0 : HS} {n wh : Nat} {ns : List Nat} {tok : Tok} {S : HS} (h : LnS t L S0 n n tok S) (hl : LnM S n wh ns) : LnR t L S0 n wh (f_X9_aLine_232 csF N S) (ptS t L [2] ns tok) := by
  have ok3 := h.ok.2.2.1
  have a1 := mcd_lt tok.1 (by omega)
  have m30 : mc csF 30 0 = true := mF (by decide) (by decide)
  rw [f_X9_aLine_232, m30, ck_t, lt_s_, h.ln, nI_1, f_X9_need, m30, ck_t, gi_ui_j _ _ _ _ _ _ (by decide), h.tk.1]
  have mu : Md [(30, some 0, some 32)] S (ui S 30 0 32 (nI (n + 1))) := (Md.rf _ S).ui rfl rfl
  unfold ptS
  rw [if_neg (show ¬ 12 ≤ 2 by decide)]
  by_cases q : tok.1 = 2
  · rw [if_pos (by rw [q]; rfl), if_pos q]
    obtain ⟨ok1, ok2, -, ok4⟩ := h.ok
    obtain ⟨Z, z1, z2, z3⟩ := X9_token N hN hL ht (h.tp.md mu rfl (fun _ => rfl)) ((mu.gi _ _ _ rfl).trans h.tk.2.2.1) ok2
    obtain ⟨r1, r2, r3, r4, -⟩ := tok_rng t (L := L) (p := tok.2.2.1) ok2
    rw [z1, ob_s, ob_s, b01_1, ck_t]
    unfold ptS
    refine ⟨1, Z, rfl, rfl, ⟨(h.tp.md mu rfl (fun _ => rfl)).md z3 rfl (fun _ => rfl), z2, ⟨r1, r2, r4, Nat.lt_trans (val_lt t L _) (by decide)⟩, ?_, ?_, fun j hj => ?_⟩, (hl.md mu (fun _ => rfl)).md z3 (fun _ => rfl)⟩
    · rw [z3.gi _ _ _ rfl, gi_ui_s]
    · rw [z3.gi _ _ _ rfl, mu.gi _ _ _ rfl]; exact h.wr
    · rw [z3.gi _ _ _ rfl, mu.gi _ _ _ rfl]; exact h.bf j hj
  · rw [if_neg (by rw [show (59 : Int32) = nI (mcd 2) from rfl, nI_eq (by omega) (by decide), mcd_inj _ (by omega) _ (by decide)]; exact q), if_neg q, bad_eq N _ 1 ((mu.gi _ _ _ rfl).trans h.tk.2.1), ob_s, b01_0, ck_t, ob_s, b01_0, ck_t]
    exact ⟨0, _, rfl, rfl, by simp [gi_ui]; rfl, by simp [gi_ui]⟩
theorem aL205 (N : Nat) (hN : 501 ≤ N) {L : Nat} {t : Nat → Nat} (hL : L ≤ 500) (ht : ∀ j, t j < 256) {S0 : HS} {n wh c : Nat} {ns : List Nat} {tok : Tok} {S : HS} (hn : n < 24) (h : LnS t L S0 n n tok S) (hl : LnM S n wh ns) (hns : ns.length = 2) (hc : c = 14 ∨ c = 15) (lo : Int32) (hlo : lo = nI (loS c ns)) (hlb : loS c ns < 1000) : LnR t L S0 n wh (f_X9_aLine_205 csF N lo S) (ptS t L [c, 2] ns tok) := by
  have m30 : mc csF 30 0 = true := mF (by decide) (by decide)
  have m19 : mc csF 31 19 = true := mF (by decide) (by decide)
  rw [f_X9_aLine_205, m30, ck_t]
  refine num_st N hN hL ht h (by omega) lo 51 hlo hlb (by rcases hc with rfl | rfl <;> rfl) _ (fun v Z hv z1 z2 z3 => ?_)
  have hl' : LnM Z n wh ns := ⟨(z3 _).trans hl.1, fun j hj => (z3 _).trans (hl.2 j hj)⟩
  have e : (4 : Int32) * gi Z 30 0 32 + 3 = nI (4 * n + (ns.length + 1)) := by rw [z1.ln, hns, show (3 : Int32) = nI 3 from rfl, ix4]
  rw [m19, ck_t, e, inb_k (by omega) (by decide), ck_t, lt_s_, cl_k (by omega), z2]
  obtain ⟨w1, w2⟩ := wr_num (v := v) z1 hl'
  exact aL232 N hN hL ht w1 w2
theorem aL176 (N : Nat) (hN : 501 ≤ N) {L : Nat} {t : Nat → Nat} (hL : L ≤ 500) (ht : ∀ j, t j < 256) {S0 : HS} {n wh : Nat} {ns : List Nat} {tok : Tok} {S : HS} (hn : n < 24) (h : LnS t L S0 n n tok S) (hl : LnM S n wh ns) (hns : ns.length = 2) (hb : ns.getD 1 0 < 1000) (hw : wh = 6 ∨ wh = 9) : LnR t L S0 n wh (f_X9_aLine_163 csF N (nI (mcd wh)) S) (ptS t L (if wh = 6 then [8, 14, 2] else [7, 15, 2]) ns tok) := by
  have m30 : mc csF 30 0 = true := mF (by decide) (by decide)
  have m19 : mc csF 31 19 = true := mF (by decide) (by decide)
  rcases hw with rfl | rfl
  · rw [f_X9_aLine_163, if_pos (by decide), if_pos rfl, f_X9_aLine_176, m30, ck_t]
    refine need_st N hN hL ht (c := 8) h hl (by decide) _ (fun Z z1 z2 => ?_)
    rw [if_pos (by decide)]
    exact aL205 N hN hL ht hn z1 z2 hns (Or.inl rfl) 0 rfl (by unfold loS; simp)
  · rw [f_X9_aLine_163, if_neg (by decide), if_neg (by decide), f_X9_aLine_176, m30, ck_t]
    refine need_st N hN hL ht (c := 7) h hl (by decide) _ (fun Z z1 z2 => ?_)
    have e : (4 : Int32) * gi Z 30 0 32 + 2 = nI (4 * n + 2) := by rw [z1.ln, show (2 : Int32) = nI 2 from rfl, ix4]
    rw [if_neg (by decide), m19, ck_t, e, inb_k (by omega) (by decide), ck_t, cl_k (by omega), z2.2 1 (by omega)]
    exact aL205 N hN hL ht hn z1 z2 hns (Or.inr rfl) _ (by unfold loS; simp) (by unfold loS; simp at hb ⊢; exact hb)
theorem aL128 (N : Nat) (hN : 501 ≤ N) {L : Nat} {t : Nat → Nat} (hL : L ≤ 500) (ht : ∀ j, t j < 256) {S0 : HS} {n wh c : Nat} {ns : List Nat} {tok : Tok} {S : HS} (hn : n < 24) (h : LnS t L S0 n n tok S) (hl : LnM S n wh ns) (hns : ns.length = 1) (hc : c = 13 ∨ c = 14) (hi : Int32) (hhi : hi = nI (hiS c)) (hw : wh = 4 ∨ wh = 6 ∨ wh = 9) : LnR t L S0 n wh (f_X9_aLine_128 csF N (nI (mcd wh)) hi 0 S) (ptS t L (c :: (if wh = 4 then [2] else if wh = 6 then [8, 14, 2] else [7, 15, 2])) ns tok) := by
  have m30 : mc csF 30 0 = true := mF (by decide) (by decide)
  have m19 : mc csF 31 19 = true := mF (by decide) (by decide)
  have l0 : loS c ns = 0 := by unfold loS; rw [if_neg (by omega)]
  rw [f_X9_aLine_128, m30, ck_t]
  refine num_st N hN hL ht h (by omega) 0 hi (by rw [l0]; rfl) (by omega) hhi _ (fun v Z hv z1 z2 z3 => ?_)
  have hl' : LnM Z n wh ns := ⟨(z3 _).trans hl.1, fun j hj => (z3 _).trans (hl.2 j hj)⟩
  have e : (4 : Int32) * gi Z 30 0 32 + 2 = nI (4 * n + (ns.length + 1)) := by rw [z1.ln, hns, show (2 : Int32) = nI 2 from rfl, ix4]
  rw [m19, ck_t, e, inb_k (by omega) (by decide), ck_t, lt_s_, cl_k (by omega), z2]
  obtain ⟨w1, w2⟩ := wr_num (v := v) z1 hl'
  have hl2 : (ns ++ [v]).length = 2 := by simp [hns]
  have hg : (ns ++ [v]).getD 1 0 < 1000 := by
    rw [← hns]; simp; exact hv
  rcases hw with rfl | rfl | rfl
  · rw [f_X9_aLine_153, if_neg (by decide), if_neg (by decide), if_pos rfl]
    exact aL232 N hN hL ht w1 w2
  · rw [f_X9_aLine_153, if_pos (by decide), if_neg (by decide), if_pos rfl]
    exact aL176 N hN hL ht hn w1 w2 hl2 hg (Or.inl rfl)
  · rw [f_X9_aLine_153, if_neg (by decide), if_pos (by decide), if_neg (by decide), if_neg (by decide)]
    exact aL176 N hN hL ht hn w1 w2 hl2 hg (Or.inr rfl)
theorem X9_aLine_eq (N : Nat) (hN : 501 ≤ N) {L : Nat} {t : Nat → Nat} (hL : L ≤ 500) (ht : ∀ j, t j < 256) {n : Nat} {tok : Tok} {S : HS} (hn : n ≤ 24) (h : LnS t L S n n tok S) : LnR t L S n tok.1 (f_X9_aLine csF N S) (if kOk tok.1 then (if n < 24 then ptS t L (sTn (fmk tok.1)) [] (tokS t L tok.2.2.1) else .inl (3, tok.2.1)) else .inl (1, tok.2.1)) := by
  have m30 : mc csF 30 0 = true := mF (by decide) (by decide)
  have m19 : mc csF 31 19 = true := mF (by decide) (by decide)
  have ok3 := h.ok.2.2.1
  have a1 := mcd_lt tok.1 (by omega)
  have hk : btw 3 (nI (mcd tok.1)) 6 ↔ kOk tok.1 := by
    have b : btw 3 (nI (mcd tok.1)) 6 ↔ 3 ≤ mcd tok.1 ∧ mcd tok.1 ≤ 6 := btw_nn (by decide) (by omega) (by decide)
    rw [b]
    have : ∀ k, k < 12 → (3 ≤ mcd k ∧ mcd k ≤ 6 ↔ kOk k) := by decide +kernel
    exact this _ (by omega)
  rw [f_X9_aLine, m30, ck_t, lt_s_, h.tk.1, X9_isIn_eq, ob_s, if_bif]
  by_cases q : kOk tok.1
  · rw [bif_t _ _ (hk.mpr q), if_pos q, h.ln]
    by_cases q2 : n < 24
    · rw [if_neg (by rw [show (24 : Int32) = nI 24 from rfl, nI_eq (by omega) (by omega)]; omega), if_pos q2]
      obtain ⟨Z, z1, z2, z3⟩ := tk_next N hN hL ht h
      have fm : ∃ r, sTn (fmk tok.1) = 12 :: r := by
        rcases q with e | e | e | e <;> rw [e] <;> exact ⟨_, rfl⟩
      obtain ⟨r, hr⟩ := fm
      rw [z1, ob_s, hr]
      refine num_st N hN hL ht z2 (by omega) 0 5 rfl (by unfold loS; simp) rfl _ (fun v Z2 hv y1 y2 y3 => ?_)
      have e0 : (4 : Int32) * gi Z2 30 0 32 = nI (4 * n) := by rw [y1.ln, show (4 : Int32) = nI 4 from rfl, pk_mul]
      rw [m19, ck_t, e0, inb_k (by omega) (by decide), ck_t, lt_s_, cl_k (by omega)]
      have mu : Md [(31, some 19, none)] Z2 (ui Z2 31 19 (4 * n) (nI (mcd tok.1))) := (Md.rf _ Z2).ui rfl rfl
      have h3 : LnS t L S n n (tokS t L (tokS t L tok.2.2.1).2.2.1) (ui Z2 31 19 (4 * n) (nI (mcd tok.1))) := ⟨y1.tp.md mu rfl (fun _ => rfl), by unfold TkM; rw [mu.gi _ _ _ rfl, mu.gi _ _ _ rfl, mu.gi _ _ _ rfl, mu.gi _ _ _ rfl]; exact y1.tk, y1.ok, (mu.gi _ _ _ rfl).trans y1.ln, (mu.gi _ _ _ rfl).trans y1.wr, fun j hj => by rw [gi_ui_j _ _ _ _ _ _ (by omega)]; exact y1.bf j hj⟩
      have l3 : LnM (ui Z2 31 19 (4 * n) (nI (mcd tok.1))) n tok.1 [] := ⟨by rw [gi_ui_s], fun j hj => by simp at hj⟩
      have e1 : (4 : Int32) * gi (ui Z2 31 19 (4 * n) (nI (mcd tok.1))) 30 0 32 + 1 = nI (4 * n + 1) := by rw [h3.ln, show (1 : Int32) = nI 1 from rfl, ix4]
      rw [e1, inb_k (by omega) (by decide), ck_t, lt_s_, cl_k (by omega), mu.gi 30 0 33 rfl, y2]
      obtain ⟨w1, w2⟩ := wr_num (v := v) h3 l3
      simp only [List.length_nil, Nat.zero_add, List.nil_append] at w1 w2 ⊢
      generalize hW : ui (ui Z2 31 19 (4 * n) (nI (mcd tok.1))) 31 19 (4 * n + 1) (nI v) = W at w1 w2 ⊢
      rcases q with e | e | e | e <;> rw [e] at hr w2 ⊢
      · have hr' : r = [5, 13, 2] := by injection hr with _ hr; exact hr.symm
        subst hr'
        rw [if_neg (by decide), if_pos (by decide), f_X9_aLine_109, m30, ck_t]
        refine need_st N hN hL ht (c := 5) w1 w2 (by decide) _ (fun Z4 x1 x2 => ?_)
        rw [if_neg (by decide)]
        exact aL128 N hN hL ht q2 x1 x2 rfl (Or.inl rfl) 3 rfl (Or.inl rfl)
      · have hr' : r = [7, 13, 8, 14, 2] := by injection hr with _ hr; exact hr.symm
        subst hr'
        rw [if_neg (by decide), if_neg (by decide), if_pos (by decide), f_X9_aLine_109, m30, ck_t]
        refine need_st N hN hL ht (c := 7) w1 w2 (by decide) _ (fun Z4 x1 x2 => ?_)
        rw [if_neg (by decide)]
        exact aL128 N hN hL ht q2 x1 x2 rfl (Or.inl rfl) 3 rfl (Or.inr (Or.inl rfl))
      · have hr' : r = [10, 14, 7, 15, 2] := by injection hr with _ hr; exact hr.symm
        subst hr'
        rw [if_neg (by decide), if_neg (by decide), if_neg (by decide), f_X9_aLine_109, m30, ck_t]
        refine need_st N hN hL ht (c := 10) w1 w2 (by decide) _ (fun Z4 x1 x2 => ?_)
        rw [if_pos (by decide)]
        exact aL128 N hN hL ht q2 x1 x2 rfl (Or.inr rfl) 51 rfl (Or.inr (Or.inr rfl))
      · have hr' : r = [2] := by injection hr with _ hr; exact hr.symm
        subst hr'
        rw [if_pos (by decide), f_X9_aLine_153, if_neg (by decide), if_neg (by decide)]
        exact aL232 N hN hL ht w1 w2
    · rw [if_pos (by rw [show (24 : Int32) = nI 24 from rfl, nI_eq (by omega) (by omega)]; omega), if_neg q2, bad_eq N S 3 h.tk.2.1, ob_s, b01_0, ck_t]
      exact ⟨0, _, rfl, rfl, by simp [gi_ui]; rfl, by simp [gi_ui]⟩
  · rw [bif_f _ _ (fun x => q (hk.mp x)), if_neg q, bad_eq N S 1 h.tk.2.1, ob_s, b01_0, ck_t]
    exact ⟨0, _, rfl, rfl, by simp [gi_ui]; rfl, by simp [gi_ui]⟩
