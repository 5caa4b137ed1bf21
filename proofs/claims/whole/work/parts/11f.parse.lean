/-! ===== custom: lines ===== -/
def sTn (k : Nat) : List Nat := match k with
  | 0 => [12, 5, 13, 2]
  | 1 => [12, 7, 13, 8, 14, 2]
  | 2 => [12, 10, 14, 7, 15, 2]
  | _ => [12, 2]
theorem sTn_ok : ∀ k, k < 4 → sLn k = (sTn k).length ∧ (sTn k).length ≤ 6 ∧ ∀ j, j < 6 → j < (sTn k).length → sVl k j = nI ((sTn k).getD j 0) ∧ (sTn k).getD j 0 ≤ 15 := by decide +kernel
def loS (c : Nat) (ns : List Nat) : Nat := if c = 15 then ns.getD 1 0 else 0
def hiS (c : Nat) : Nat := if c = 12 then 5 else if c = 13 then 3 else 51
/-- what stands behind a line's first word: a fault and its place, or the numbers and the next token -/
def ptS (t : Nat → Nat) (L : Nat) : List Nat → List Nat → Nat × Nat × Nat × Nat → (Nat × Nat) ⊕ (List Nat × (Nat × Nat × Nat × Nat))
  | [], ns, tok => .inr (ns, tok)
  | c :: r, ns, tok => if 12 ≤ c then (if tok.1 = 3 then (if loS c ns ≤ tok.2.2.2 ∧ tok.2.2.2 ≤ hiS c then ptS t L r (ns ++ [tok.2.2.2]) (tokS t L tok.2.2.1) else .inl (2, tok.2.1)) else .inl (1, tok.2.1)) else (if tok.1 = c then ptS t L r ns (tokS t L tok.2.2.1) else .inl (1, tok.2.1))
/-- how many of a form are numbers -/
def nmS (r : List Nat) : Nat := (r.filter fun c => decide (12 ≤ c)).length
def tokOk (L : Nat) (tok : Nat × Nat × Nat × Nat) : Prop := tok.2.1 ≤ L ∧ tok.2.2.1 ≤ L ∧ tok.1 ≤ 11 ∧ tok.2.2.2 < 1000
theorem val_lt (t : Nat → Nat) (L p : Nat) : (tokS t L p).2.2.2 < 100 := by
  unfold tokS
  simp only
  by_cases h1 : advL blk t L p < L
  · rw [if_pos h1]
    by_cases h2 : ltr (t (advL blk t L p)) = true
    · rw [if_pos h2]; simp
    · rw [if_neg h2]
      by_cases h3 : dgt (t (advL blk t L p)) = true
      · rw [if_pos h3]
        have hs := advL_step (q := dgt) (t := t) h1 h3
        have r := advL_rng dgt t L (advL blk t L p)
        have d0 := dgt_lt h3
        show valS t _ _ < 100
        unfold valS
        by_cases q : advL dgt t L (advL blk t L p) - advL blk t L p = 1
        · rw [if_pos q]; omega
        · rw [if_neg q]
          have hb := (advL_rng dgt t L (advL blk t L p + 1)).1
          have d1 := dgt_lt (r.2.2 (advL blk t L p + 1) (by omega) (by omega))
          omega
      · rw [if_neg h3]; simp
  · rw [if_neg h1]; simp
/-- the numbers read so far -/
def NmC (S : HS) (ns : List Nat) : Prop := ∀ i, i < ns.length → gi S 11 0 i = nI (ns.getD i 0) ∧ ns.getD i 0 < 1000
theorem stop_eq (N : Nat) (S : HS) {pl : Nat} (k : Int32) (h : gi S 9 0 2 = nI pl) : f_X1_stopAt csF N k S = some (0, ui (ui S 8 0 2 k) 8 0 3 (nI pl)) := by
  rw [f_X1_stopAt, mF (by decide) (by decide), ck_t, lt_s_, mF (by decide) (by decide), ck_t, lt_s_, gi_ui_c _ _ _ _ _ _ (by decide), h]
def FtC (S : HS) (k pl : Nat) : Prop := gi S 8 0 2 = nI k ∧ gi S 8 0 3 = nI pl
abbrev mlPt : List (Nat × Option Nat × Option Nat) := ml_X1_readParts
theorem lo_eq (N : Nat) (S : HS) (ns : List Nat) (hn : NmC S ns) {c : Nat} (hc : 12 ≤ c) (hc2 : c ≤ 15) (h15 : c = 15 → 2 ≤ ns.length) : f_X1_leastOf csF N (nI c) S = some (nI (loS c ns), S) := by
  unfold f_X1_leastOf loS
  by_cases q : c = 15
  · subst q
    have := (hn 1 (by have := h15 rfl; omega)).1
    rw [if_pos (by decide), if_pos rfl, mF (by decide) (by decide), ck_t, mF (by decide) (by decide), ck_t, show inb 1 3 = true by decide, ck_t, show (1 : Int32).toNatClampNeg = 1 from rfl, this]
  · rw [if_neg (by rw [show (15 : Int32) = nI 15 from rfl, nI_eq (by omega) (by omega)]; exact q), if_neg q]
    rfl
theorem hi_eq (N : Nat) (S : HS) {c : Nat} (hc : 12 ≤ c) (hc2 : c ≤ 15) : f_X1_mostOf csF N (nI c) S = some (nI (hiS c), S) := by
  rcases (show c = 12 ∨ c = 13 ∨ c = 14 ∨ c = 15 by omega) with rfl | rfl | rfl | rfl <;> unfold f_X1_mostOf hiS
  · rw [if_pos (by decide)]; rfl
  · rw [if_neg (by decide), if_pos (by decide)]; rfl
  · rw [if_neg (by decide), if_neg (by decide)]; rfl
  · rw [if_neg (by decide), if_neg (by decide)]; rfl
/-- every 15 of a form has two numbers ahead of it, and there are at most three -/
def fmOk : List Nat → Nat → Bool
  | [], n => decide (n ≤ 3)
  | c :: r, n => decide (c ≤ 15) && (if 12 ≤ c then decide (n < 3) && (decide (c ≠ 15) || decide (2 ≤ n)) && fmOk r (n + 1) else fmOk r n)
theorem X1_parts_loop (N : Nat) (hN : 501 ≤ N) {L : Nat} {t : Nat → Nat} (hL : L ≤ 500) (ht : ∀ j, t j < 256) {k : Nat} (hk : k < 4) : ∀ (r : List Nat) (n j : Nat) (ns : List Nat) (tok : Nat × Nat × Nat × Nat) (S : HS), (sTn k).drop j = r → j + r.length = (sTn k).length → r.length < n → fmOk r ns.length = true → TpC S L t → TkC S tok → tokOk L tok → NmC S ns →
    ∃ a Z, f_X1_readParts_4 csF N n k (nI ns.length) (nI j) S = some (a, Z) ∧ (match ptS t L r ns tok with
      | .inl f => a = 0 ∧ FtC Z f.1 f.2
      | .inr q => a = 1 ∧ NmC Z q.1 ∧ TkC Z q.2 ∧ tokOk L q.2 ∧ gi Z 8 0 2 = gi S 8 0 2 ∧ gi Z 8 0 3 = gi S 8 0 3) := by
  obtain ⟨s1, s2, s3⟩ := sTn_ok k hk
  have hk5 : k < 5 := by omega
  intro r
  induction r with
  | nil =>
    intro n j ns tok S hd hj hn hf hT hTk hok hNm
    obtain ⟨n, rfl⟩ : ∃ k, n = k + 1 := ⟨n - 1, by omega⟩
    have hj' : j = (sTn k).length := by simpa using hj
    have hle : nI (sLn k) ≤ nI j := by rw [nI_leI (by omega) (by omega)]; omega
    refine ⟨1, S, ?_, ?_⟩
    · rw [f_X1_readParts_4, decide_eq_true hk5, ck_t, if_pos hle]
    · exact ⟨rfl, hNm, hTk, hok, rfl, rfl⟩
  | cons c r ih =>
    intro n j ns tok S hd hj hn hf hT hTk hok hNm
    obtain ⟨n, rfl⟩ : ∃ k, n = k + 1 := ⟨n - 1, by omega⟩
    have hjl : j < (sTn k).length := by simp at hj; omega
    have hle : ¬ nI (sLn k) ≤ nI j := by rw [nI_leI (by omega) (by omega)]; omega
    have cj : (nI j).toNatClampNeg = j := cl_k (by omega)
    have ij : inb (nI j) (sLn k) = true := inb_k (by omega) (by omega)
    have hc : (sTn k).getD j 0 = c := by
      have h1 : ((sTn k).drop j)[0]? = some c := by rw [hd]; rfl
      rw [List.getElem?_drop] at h1
      simp [List.getD] at h1 ⊢
      rw [h1]; rfl
    have hd' : (sTn k).drop (j + 1) = r := by
      rw [← List.drop_drop, hd]; rfl
    obtain ⟨v1, v2⟩ := s3 j (by omega) hjl
    rw [hc] at v1 v2
    unfold fmOk at hf
    obtain ⟨ok1, ok2, ok3, ok4⟩ := hok
    -- the step behind a part: the next token, and on
    have step : ∀ (ns' : List Nat) (S' : HS), fmOk r ns'.length = true → TpC S' L t → gi S' 9 0 5 = nI tok.2.2.1 → NmC S' ns' → gi S' 8 0 2 = gi S 8 0 2 → gi S' 8 0 3 = gi S 8 0 3 → ∃ a Z, f_X1_readParts_111 csF N (f_X1_readParts_4 csF N n) k (nI ns'.length) (nI j) S' = some (a, Z) ∧ (match ptS t L r ns' (tokS t L tok.2.2.1) with
      | .inl f => a = 0 ∧ FtC Z f.1 f.2
      | .inr q => a = 1 ∧ NmC Z q.1 ∧ TkC Z q.2 ∧ tokOk L q.2 ∧ gi Z 8 0 2 = gi S 8 0 2 ∧ gi Z 8 0 3 = gi S 8 0 3) := by
      intro ns' S' hf' hT' h5 hN' e2 e3
      obtain ⟨Z1, z1, z2, z3⟩ := X7_token N hN hL ht hT' h5 ok2
      obtain ⟨r1, r2, r3, r4, -⟩ := tok_rng t (L := L) (p := tok.2.2.1) ok2
      have hok' : tokOk L (tokS t L tok.2.2.1) := ⟨r1, r2, r4, by have := val_lt t L tok.2.2.1; omega⟩
      obtain ⟨a, Z, y1, y2⟩ := ih n (j + 1) ns' (tokS t L tok.2.2.1) Z1 hd' (by simp at hj; omega) (by simp at hn; omega) hf' (hT'.md z3 rfl (fun _ => rfl)) z2 hok' (fun i hi => by rw [z3.gi _ _ _ rfl]; exact hN' i hi)
      refine ⟨a, Z, ?_, ?_⟩
      · rw [f_X1_readParts_111, mF (by decide) (by decide), ck_t, mF (by decide) (by decide), ck_t, z1, ob_s, lt_s_, nI_1]
        exact y1
      · rw [z3.gi 8 0 2 rfl, z3.gi 8 0 3 rfl, e2, e3] at y2
        exact y2
    rw [f_X1_readParts_4, decide_eq_true hk5, ck_t, if_neg hle, ij, ck_t, cj, v1]
    unfold ptS
    by_cases h12 : 12 ≤ c
    · rw [if_pos h12] at hf ⊢
      simp only [Bool.and_eq_true, decide_eq_true_eq, Bool.or_eq_true] at hf
      obtain ⟨hf0, ⟨hf1, hf2⟩, hf3⟩ := hf
      rw [if_neg (by rw [show (12 : Int32) = nI 12 from rfl, nI_ltI (by omega) (by omega)]; omega), f_X1_readParts_23, mF (by decide) (by decide), ck_t, mF (by decide) (by decide), ck_t, if_neg (by decide), f_X1_readParts_44, hTk.1]
      by_cases q3 : tok.1 = 3
      · rw [if_pos (by rw [q3]; rfl), if_neg (by decide), if_neg (by rw [show (3 : Int32) = nI 3 from rfl, nI_leI (by omega) (by omega)]; omega), mF (by decide) (by decide), ck_t, mF (by decide) (by decide), ck_t, decide_eq_true hk5, ck_t, ij, ck_t, cj, v1, lo_eq N S ns hNm h12 hf0 (fun e => by rcases hf2 with x | x; exact absurd e x; exact x), ob_s, ck_t, hi_eq N S h12 hf0, ob_s, X8_isWithin_eq, ob_s, if_bif, hTk.2.2.2 q3, if_pos q3]
        have hv : ∀ i, i < ns.length → True := fun _ _ => trivial
        have hlo : loS c ns < 2147483648 ∨ True := Or.inr trivial
        by_cases hlob : loS c ns < 2147483648
        · have hb : btw (nI (loS c ns)) (nI tok.2.2.2) (nI (hiS c)) ↔ loS c ns ≤ tok.2.2.2 ∧ tok.2.2.2 ≤ hiS c := btw_nn hlob (by omega) (by unfold hiS; split <;> (try split) <;> decide)
          by_cases hin : loS c ns ≤ tok.2.2.2 ∧ tok.2.2.2 ≤ hiS c
          · rw [bif_t _ _ (hb.mpr hin), if_pos hin, mF (by decide) (by decide), ck_t, inb_k hf1 (by decide), ck_t, lt_s_, lt_s_, cl_k (by omega), nI_1]
            have hlen : (ns ++ [tok.2.2.2]).length = ns.length + 1 := by simp
            rw [← hlen]
            refine step (ns ++ [tok.2.2.2]) (ui S 11 0 ns.length (nI tok.2.2.2)) (by rw [hlen]; exact hf3) (hT.md (M := [(11, some 0, none)]) ((Md.rf _ S).ui rfl rfl) rfl (fun _ => rfl)) (by simp [gi_ui]; exact hTk.2.2.1) (fun i hi => ?_) (by simp [gi_ui]) (by simp [gi_ui])
            by_cases e : i = ns.length
            · subst e
              simp [gi_ui]
              omega
            · have hi' : i < ns.length := by rw [hlen] at hi; omega
              have := hNm i hi'
              simp [gi_ui, e, List.getElem?_append_left hi'] at this ⊢
              exact this
          · rw [bif_f _ _ (fun x => hin (hb.mp x)), if_neg hin, stop_eq N S 2 hTk.2.1, ob_s, b01_0, ck_t]
            exact ⟨0, _, rfl, rfl, by simp [gi_ui]; rfl, by simp [gi_ui]⟩
        · exfalso
          apply hlob
          unfold loS
          split
          · rename_i e15
            have h2 : 2 ≤ ns.length := by rcases hf2 with x | x; exact absurd e15 x; exact x
            have := (hNm 1 (by omega)).2
            omega
          · omega
      · rw [if_neg (by rw [show (3 : Int32) = nI 3 from rfl, nI_eq (by omega) (by omega)]; exact q3), if_neg q3, mF (by decide) (by decide), ck_t, stop_eq N S 1 hTk.2.1, ob_s, b01_0, ck_t]
        exact ⟨0, _, rfl, rfl, by simp [gi_ui]; rfl, by simp [gi_ui]⟩
    · rw [if_neg h12] at hf ⊢
      simp only [Bool.and_eq_true, decide_eq_true_eq] at hf
      rw [if_pos (by rw [show (12 : Int32) = nI 12 from rfl, nI_ltI (by omega) (by omega)]; omega), f_X1_readParts_23, mF (by decide) (by decide), ck_t, mF (by decide) (by decide), ck_t, if_pos rfl, decide_eq_true hk5, ck_t, ij, ck_t, cj, v1, f_X1_readParts_44, hTk.1]
      by_cases qc : tok.1 = c
      · rw [if_pos (by rw [qc]), if_pos rfl, if_pos qc]
        exact step ns S hf.2 hT hTk.2.2.1 hNm rfl rfl
      · rw [if_neg (by rw [nI_eq (by omega) (by omega)]; exact qc), if_neg qc, mF (by decide) (by decide), ck_t, stop_eq N S 1 hTk.2.1, ob_s, b01_0, ck_t]
        exact ⟨0, _, rfl, rfl, by simp [gi_ui]; rfl, by simp [gi_ui]⟩
