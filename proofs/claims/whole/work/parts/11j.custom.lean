/-! ===== custom: both ===== -/
def LsM (S : HS) (ls : List (Nat × List Nat)) : Prop := ∀ i, i < ls.length → LnM S i (ls.getD i (0, [])).1 (ls.getD i (0, [])).2
theorem LsM.md {M : List (Nat × Option Nat × Option Nat)} {S Z : HS} {ls : List (Nat × List Nat)} (h : LsM S ls) (m : Md M S Z) (h1 : ∀ j, pm M 31 19 j = false) : LsM Z ls := fun i hi => (h i hi).md m h1
theorem lnOk_len {wh : Nat} {ns : List Nat} (h : lnOk wh ns) : ns.length ≤ 3 := by
  rcases h with h | h | h | h <;> omega
theorem X9_custom_loop (N : Nat) (hN : 501 ≤ N) {L : Nat} {t : Nat → Nat} (hL : L ≤ 500) (ht : ∀ j, t j < 256) : ∀ (m n : Nat) (ls : List (Nat × List Nat)) (tok : Tok) (S : HS), ls.length + m = 25 → 0 < m → m < n → TpM S L t → TkM S tok → tokOk L tok → (∀ l, l ∈ ls → lnOk l.1 l.2) → LsM S ls → gi S 30 0 32 = nI ls.length → gi S 30 0 29 = 0 →
    ∃ a Z, f_X9_custom_21 csF N n 1 S = f_X9_custom_40 csF N a Z ∧ Md ml_X9_aLine S Z ∧ (match prS t L m ls tok with
      | .inl f => a = 0 ∧ FtM Z f.1 f.2
      | .inr ls' => a = 1 ∧ LsM Z ls' ∧ gi Z 30 0 32 = nI ls'.length ∧ gi Z 30 0 29 = 0) := by
  intro m
  induction m with
  | zero => intro n ls tok S h1 h2; omega
  | succ m ih =>
    intro n ls tok S h1 h2 h3 hT hTk hok hls hL' e1 e2
    obtain ⟨n, rfl⟩ : ∃ k, n = k + 1 := ⟨n - 1, by omega⟩
    have ok3 := hok.2.2.1
    have a0 := mcd_lt tok.1 (by omega)
    rw [f_X9_custom_21, if_neg (by decide), mF (by decide) (by decide), ck_t, hTk.1]
    unfold prS
    by_cases a1 : tok.1 = 1
    · rw [if_pos (by rw [a1]; rfl), if_pos a1]
      exact ⟨1, S, rfl, Md.rf _ S, rfl, hL', e1, e2⟩
    · rw [if_neg (by rw [show (0 : Int32) = nI (mcd 1) from rfl, nI_eq (by omega) (by decide), mcd_inj _ (by omega) _ (by decide)]; exact a1), if_neg a1]
      obtain ⟨a, Z, z1, z3⟩ := X9_aLine_eq N hN hL ht (n := ls.length) (by omega) (S := S) (tok := tok) ⟨hT, hTk, hok, e1, rfl, fun _ _ => rfl⟩
      have zm : Md ml_X9_aLine S Z := md_X9_aLine _ _ _ _ _ z1
      rw [z1, ob_s]
      obtain ⟨n, rfl⟩ : ∃ k, n = k + 1 := ⟨n - 1, by omega⟩
      by_cases a2 : kOk tok.1
      · rw [if_pos a2] at z3 ⊢
        by_cases a3 : ls.length < 24
        · rw [if_pos a3] at z3 ⊢
          cases hp : ptS t L (sTn (fmk tok.1)) [] (tokS t L tok.2.2.1) with
          | inl f =>
            rw [hp] at z3
            obtain ⟨rfl, z3⟩ := z3
            rw [f_X9_custom_21, if_pos rfl]
            exact ⟨0, Z, rfl, zm, rfl, z3⟩
          | inr q =>
            rw [hp] at z3
            obtain ⟨rfl, y1, y2⟩ := z3
            have hl : (ls ++ [(tok.1, q.1)]).length = ls.length + 1 := by simp
            have hmem : ∀ l, l ∈ ls ++ [(tok.1, q.1)] → lnOk l.1 l.2 := fun l x => by
              rcases List.mem_append.mp x with x | x
              · exact hls l x
              · rw [List.mem_singleton.mp x]; exact pt_ok a2 hp
            obtain ⟨a', Z', x1, x2, x3⟩ := ih (n + 1) (ls ++ [(tok.1, q.1)]) q.2 Z (by rw [hl]; omega) (by omega) (by omega) y1.tp y1.tk y1.ok hmem (fun i hi => by
              by_cases e : i = ls.length
              · subst e
                simp
                exact y2
              · have hi' : i < ls.length := by rw [hl] at hi; omega
                have := hL' i hi'
                have eg : (ls ++ [(tok.1, q.1)]).getD i (0, []) = ls.getD i (0, []) := by simp [List.getElem?_append_left hi']
                rw [eg]
                have hlen : (ls.getD i (0, [])).2.length ≤ 3 := by
                  have : ls.getD i (0, []) ∈ ls := by
                    simp [hi']
                  exact lnOk_len (hls _ this)
                exact ⟨(y1.bf _ (by omega)).trans this.1, fun j hj => (y1.bf _ (by omega)).trans (this.2 j hj)⟩) (by rw [hl]; exact y1.ln) (y1.wr.trans e2)
            exact ⟨a', Z', x1, zm.trans x2, x3⟩
        · rw [if_neg a3] at z3 ⊢
          obtain ⟨rfl, z3⟩ := z3
          rw [f_X9_custom_21, if_pos rfl]
          exact ⟨0, Z, rfl, zm, rfl, z3⟩
      · rw [if_neg a2] at z3 ⊢
        obtain ⟨rfl, z3⟩ := z3
        rw [f_X9_custom_21, if_pos rfl]
        exact ⟨0, Z, rfl, zm, rfl, z3⟩
/-! all is forgotten -/
def clr (S : HS) (q : Nat) : Prop := gi S 31 16 q = -1 ∧ (∀ f, f < 4 → gi S 31 17 (4 * q + f) = -1) ∧ ∀ w, w < 52 → gi S 32 0 (52 * q + w) = 0
theorem nar0 : vp_nar .boolean (0 : Int32) = 0 := by decide
theorem nar1 : vp_nar .boolean (1 : Int32) = 1 := by decide
theorem cl116 (N : Nat) (K : Int32 → HS → Option (Int32 × HS)) {p : Nat} (hp : p < 6) : ∀ (m n w : Nat) (S : HS), w + m = 52 → m < n → (∀ v, v < w → gi S 32 0 (52 * p + v) = 0) → ∃ Z, f_X9_custom_116 csF N K n (nI p) (nI w) S = K (nI (p + 1)) Z ∧ Md [(32, some 0, none)] S Z ∧ (∀ j, ¬ (52 * p ≤ j ∧ j < 52 * p + 52) → gi Z 32 0 j = gi S 32 0 j) ∧ ∀ v, v < 52 → gi Z 32 0 (52 * p + v) = 0 := by
  intro m
  induction m with
  | zero =>
    intro n w S h1 h2 h3
    obtain ⟨n, rfl⟩ : ∃ k, n = k + 1 := ⟨n - 1, by omega⟩
    refine ⟨S, ?_, Md.rf _ S, fun _ _ => rfl, fun v hv => h3 v (by omega)⟩
    rw [f_X9_custom_116, if_pos (by rw [show (52 : Int32) = nI 52 from rfl, nI_leI (by omega) (by omega)]; omega), lt_s_, nI_1]
  | succ m ih =>
    intro n w S h1 h2 h3
    obtain ⟨n, rfl⟩ : ∃ k, n = k + 1 := ⟨n - 1, by omega⟩
    obtain ⟨Z, z1, z2, z3, z4⟩ := ih n (w + 1) (ui S 32 0 (52 * p + w) 0) (by omega) (by omega) (fun v hv => by
      by_cases e : v = w
      · rw [e, gi_ui_s]
      · rw [gi_ui_j _ _ _ _ _ _ (by omega)]; exact h3 v (by omega))
    refine ⟨Z, ?_, ((Md.rf _ S).ui rfl rfl).trans z2, fun j hj => ?_, z4⟩
    · rw [f_X9_custom_116, if_neg (by rw [show (52 : Int32) = nI 52 from rfl, nI_leI (by omega) (by omega)]; omega), mF (by decide) (by decide), ck_t, mF (by decide) (by decide), ck_t, ix52, inb_k (by omega) (by decide), ck_t, lt_s_, lt_s_, cl_k (by omega), nar0, nI_1]
      exact z1
    · rw [z3 j hj, gi_ui_j _ _ _ _ _ _ (by omega)]
theorem cl92 (N : Nat) (K : Int32 → HS → Option (Int32 × HS)) {p : Nat} (hp : p < 6) : ∀ (m n w : Nat) (S : HS), w + m = 4 → m < n → (∀ v, v < w → gi S 31 17 (4 * p + v) = -1) → ∃ Z, f_X9_custom_92 csF N K n (nI p) (nI w) S = f_X9_custom_116 csF N K N (nI p) 0 Z ∧ Md [(31, some 17, none)] S Z ∧ (∀ j, ¬ (4 * p ≤ j ∧ j < 4 * p + 4) → gi Z 31 17 j = gi S 31 17 j) ∧ ∀ v, v < 4 → gi Z 31 17 (4 * p + v) = -1 := by
  intro m
  induction m with
  | zero =>
    intro n w S h1 h2 h3
    obtain ⟨n, rfl⟩ : ∃ k, n = k + 1 := ⟨n - 1, by omega⟩
    refine ⟨S, ?_, Md.rf _ S, fun _ _ => rfl, fun v hv => h3 v (by omega)⟩
    rw [f_X9_custom_92, if_pos (by rw [show (4 : Int32) = nI 4 from rfl, nI_leI (by omega) (by omega)]; omega)]
  | succ m ih =>
    intro n w S h1 h2 h3
    obtain ⟨n, rfl⟩ : ∃ k, n = k + 1 := ⟨n - 1, by omega⟩
    obtain ⟨Z, z1, z2, z3, z4⟩ := ih n (w + 1) (ui S 31 17 (4 * p + w) (-1)) (by omega) (by omega) (fun v hv => by
      by_cases e : v = w
      · rw [e, gi_ui_s]
      · rw [gi_ui_j _ _ _ _ _ _ (by omega)]; exact h3 v (by omega))
    refine ⟨Z, ?_, ((Md.rf _ S).ui rfl rfl).trans z2, fun j hj => ?_, z4⟩
    · rw [f_X9_custom_92, if_neg (by rw [show (4 : Int32) = nI 4 from rfl, nI_leI (by omega) (by omega)]; omega), mF (by decide) (by decide), ck_t, mF (by decide) (by decide), ck_t, ix4, inb_k (by omega) (by decide), ck_t, lt_s_, lt_s_, cl_k (by omega), nI_1]
      exact z1
    · rw [z3 j hj, gi_ui_j _ _ _ _ _ _ (by omega)]
theorem cl77 (N : Nat) (hN : 60 ≤ N) : ∀ (m n p : Nat) (S : HS), p + m = 6 → m < n → (∀ q, q < p → clr S q) → ∃ Z, f_X9_custom_77 csF N n (nI p) S = f_X9_custom_148 csF N N 0 Z ∧ Md [(31, some 16, none), (31, some 17, none), (32, some 0, none)] S Z ∧ ∀ q, q < 6 → clr Z q := by
  intro m
  induction m with
  | zero =>
    intro n w S h1 h2 h3
    obtain ⟨n, rfl⟩ : ∃ k, n = k + 1 := ⟨n - 1, by omega⟩
    refine ⟨S, ?_, Md.rf _ S, fun v hv => h3 v (by omega)⟩
    rw [f_X9_custom_77, if_pos (by rw [show (6 : Int32) = nI 6 from rfl, nI_leI (by omega) (by omega)]; omega)]
  | succ m ih =>
    intro n p S h1 h2 h3
    obtain ⟨n, rfl⟩ : ∃ k, n = k + 1 := ⟨n - 1, by omega⟩
    obtain ⟨Z1, a1, a2, a3, a4⟩ := cl92 N (f_X9_custom_77 csF N n) (show p < 6 by omega) 4 N 0 (ui S 31 16 p (-1)) rfl (by omega) (fun v hv => by omega)
    obtain ⟨Z2, b1, b2, b3, b4⟩ := cl116 N (f_X9_custom_77 csF N n) (show p < 6 by omega) 52 N 0 Z1 rfl (by omega) (fun v hv => by omega)
    obtain ⟨Z, z1, z2, z3⟩ := ih n (p + 1) Z2 (by omega) (by omega) (fun q hq => by
      unfold clr
      by_cases e : q = p
      · subst e
        refine ⟨by rw [b2.gi _ _ _ rfl, a2.gi _ _ _ rfl, gi_ui_s], fun f hf => by rw [b2.gi _ _ _ rfl]; exact a4 f hf, b4⟩
      · obtain ⟨c1, c2, c3⟩ := h3 q (by omega)
        refine ⟨by rw [b2.gi _ _ _ rfl, a2.gi _ _ _ rfl, gi_ui_j _ _ _ _ _ _ e]; exact c1, fun f hf => by rw [b2.gi _ _ _ rfl, a3 _ (by omega), gi_ui_k _ _ _ _ _ _ (by decide)]; exact c2 f hf, fun w hw => by rw [b3 _ (by omega), a2.gi _ _ _ rfl, gi_ui_c _ _ _ _ _ _ (by decide)]; exact c3 w hw⟩)
    refine ⟨Z, ?_, ?_, z3⟩
    · rw [f_X9_custom_77, if_neg (by rw [show (6 : Int32) = nI 6 from rfl, nI_leI (by omega) (by omega)]; omega), mF (by decide) (by decide), ck_t, mF (by decide) (by decide), ck_t, inb_k (by omega) (by decide), ck_t, lt_s_, cl_k (by omega)]
      rw [show nI 0 = 0 from rfl] at a1 b1
      rw [a1, b1]
      exact z1
    · exact ((((Md.rf _ S).ui rfl rfl).trans (a2.mono (by simp))).trans (b2.mono (by simp))).trans z2
/-! the lines are told -/
def RtM (S : HS) (r : R3) : Prop := ∀ p, p < 6 → gi S 31 16 p = r.1 p ∧ (¬ r.1 p = -1 → ∀ f, f < 4 → gi S 31 17 (4 * p + f) = r.2.1 p f) ∧ ∀ w, w < 52 → gi S 32 0 (52 * p + w) = if r.2.2 p w = true then 1 else 0
theorem tl78 (N : Nat) {p : Nat} (hp : p < 6) : ∀ (m n w : Nat) (S : HS), w + m = 4 → m < n → (∀ v, v < w → gi S 31 17 (4 * p + v) = -1) → ∃ Z, f_X9_tells_78 csF N n (nI p) (nI w) S = some ((), Z) ∧ Md [(31, some 17, none)] S Z ∧ (∀ j, ¬ (4 * p ≤ j ∧ j < 4 * p + 4) → gi Z 31 17 j = gi S 31 17 j) ∧ ∀ v, v < 4 → gi Z 31 17 (4 * p + v) = -1 := by
  intro m
  induction m with
  | zero =>
    intro n w S h1 h2 h3
    obtain ⟨n, rfl⟩ : ∃ k, n = k + 1 := ⟨n - 1, by omega⟩
    refine ⟨S, ?_, Md.rf _ S, fun _ _ => rfl, fun v hv => h3 v (by omega)⟩
    rw [f_X9_tells_78, if_pos (by rw [show (4 : Int32) = nI 4 from rfl, nI_leI (by omega) (by omega)]; omega)]
  | succ m ih =>
    intro n w S h1 h2 h3
    obtain ⟨n, rfl⟩ : ∃ k, n = k + 1 := ⟨n - 1, by omega⟩
    obtain ⟨Z, z1, z2, z3, z4⟩ := ih n (w + 1) (ui S 31 17 (4 * p + w) (-1)) (by omega) (by omega) (fun v hv => by
      by_cases e : v = w
      · rw [e, gi_ui_s]
      · rw [gi_ui_j _ _ _ _ _ _ (by omega)]; exact h3 v (by omega))
    refine ⟨Z, ?_, ((Md.rf _ S).ui rfl rfl).trans z2, fun j hj => ?_, z4⟩
    · rw [f_X9_tells_78, if_neg (by rw [show (4 : Int32) = nI 4 from rfl, nI_leI (by omega) (by omega)]; omega), mF (by decide) (by decide), ck_t, mF (by decide) (by decide), ck_t, ix4, inb_k (by omega) (by decide), ck_t, lt_s_, lt_s_, cl_k (by omega), nI_1]
      exact z1
    · rw [z3 j hj, gi_ui_j _ _ _ _ _ _ (by omega)]
theorem tl151 (N : Nat) {p c : Nat} (hp : p < 6) (hc : c < 52) : ∀ (m n b : Nat) (S : HS), b + m = c + 1 → m < n → ∃ Z, f_X9_tells_151 csF N n (nI p) (nI c) (nI b) S = some ((), Z) ∧ Md [(32, some 0, none)] S Z ∧ ∀ j, gi Z 32 0 j = if 52 * p + b ≤ j ∧ j ≤ 52 * p + c then 1 else gi S 32 0 j := by
  intro m
  induction m with
  | zero =>
    intro n b S h1 h2
    obtain ⟨n, rfl⟩ : ∃ k, n = k + 1 := ⟨n - 1, by omega⟩
    refine ⟨S, ?_, Md.rf _ S, fun j => by rw [if_neg (by omega)]⟩
    rw [f_X9_tells_151, if_pos (by rw [nI_ltI (by omega) (by omega)]; omega)]
  | succ m ih =>
    intro n b S h1 h2
    obtain ⟨n, rfl⟩ : ∃ k, n = k + 1 := ⟨n - 1, by omega⟩
    obtain ⟨Z, z1, z2, z3⟩ := ih n (b + 1) (ui S 32 0 (52 * p + b) 1) (by omega) (by omega)
    refine ⟨Z, ?_, ((Md.rf _ S).ui rfl rfl).trans z2, fun j => ?_⟩
    · rw [f_X9_tells_151, if_neg (by rw [nI_ltI (by omega) (by omega)]; omega), mF (by decide) (by decide), ck_t, mF (by decide) (by decide), ck_t, ix52, inb_k (by omega) (by decide), ck_t, lt_s_, lt_s_, cl_k (by omega), nar1, nI_1]
      exact z1
    · rw [z3 j]
      by_cases e : j = 52 * p + b
      · subst e
        rw [if_neg (by omega), gi_ui_s, if_pos (by omega)]
      · rw [gi_ui_j _ _ _ _ _ _ e]
        by_cases q : 52 * p + b ≤ j ∧ j ≤ 52 * p + c
        · rw [if_pos q, if_pos (by omega)]
        · rw [if_neg q, if_neg (by omega)]
theorem nI_ne1 {n : Nat} (h : n < 2147483648) : ¬ nI n = -1 := nI_nm1 h
