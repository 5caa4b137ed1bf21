theorem nI_m1 {c : Nat} (h : c < 2147483647) : nI (c + 1) + -1 = nI c := by
  rw [i_eq, i_add (by rw [nI_toInt (by omega)]; simp; omega) (by rw [nI_toInt (by omega)]; simp; omega), nI_toInt (by omega), nI_toInt (by omega)]
  simp
  omega
theorem TbC.md {M : List (Nat × Option Nat × Option Nat)} {S Z : HS} {D : Pb} {l0 : List Nat} {f s : Nat} (h : TbC S D l0 f s) (m : Md M S Z) (h1 : ∀ k j, pm M 15 k j = false) (h2 : ∀ k j, pm M 16 k j = false) (h3 : ∀ j, pm M 17 0 j = false) : TbC Z D l0 f s := TbC_ne h (m.gi _ _ _ (h2 _ _)) (m.gl _ _ _ (h3 _)) (m.gi _ _ _ (h1 _ _)) (m.gi _ _ _ (h2 _ _)) (m.gi _ _ _ (h2 _ _))
theorem shr9 (N : Nat) (hN : 200 ≤ N) {D : Pb} (hD : dOk D) {l0 : List Nat} {f : Nat} (hf : f < 4) (hl : l0.length ≤ 7) (hm : ∀ j, j ∈ l0 → j < D 0 0 1 ∧ D 8 j 0 = 1) {B : Nat → Int} (hBr : ∀ t, t < 2 ^ l0.length → 0 ≤ B t ∧ B t ≤ 1000000000000000 * (f : Int)) : ∀ (c n : Nat) (S : HS), c ≤ 2 ^ l0.length → c < n → (∀ t, t < 2 ^ l0.length → TbC S D l0 f t) → (∀ t, t < c → gl S 17 1 t = lI (B t)) → ∃ Z, f_X4_shareAlsoWith_9 csF N n (nI f) (nI c + -1) S = some ((), Z) ∧ (∀ t, t < c → ∃ most tk, gl Z 17 1 t = lI most ∧ gi Z 19 f t = nI tk ∧ Opt (fun t => canD D f (sel l0 t)) (fun t => rnk D f (sel l0 t)) B t (t + 1) most tk) ∧ (∀ t, c ≤ t → gl Z 17 1 t = gl S 17 1 t ∧ gi Z 19 f t = gi S 19 f t) ∧ (∀ f' t, f' ≠ f → gi Z 19 f' t = gi S 19 f' t) := by
  have hp := pw_le hl
  intro c
  induction c with
  | zero =>
    intro n S h1 h2 hT hB
    obtain ⟨n, rfl⟩ : ∃ k, n = k + 1 := ⟨n - 1, by omega⟩
    refine ⟨S, ?_, fun t ht => by omega, fun _ _ => ⟨rfl, rfl⟩, fun _ _ _ => rfl⟩
    rw [f_X4_shareAlsoWith_9, if_pos (by decide)]
  | succ c ih =>
    intro n S h1 h2 hT hB
    obtain ⟨n, rfl⟩ : ∃ k, n = k + 1 := ⟨n - 1, by omega⟩
    have e0 : Opt (fun t => canD D f (sel l0 t)) (fun t => rnk D f (sel l0 t)) B c 1 (B c) 0 := by
      refine ⟨by simp, ?_, ?_, fun q hq h3 h4 => ?_⟩
      · show canD D f (sel l0 0)
        rw [sel_0]
        exact ⟨by simp [silD], rfl⟩
      · show B c = rnk D f (sel l0 0) + B (c ^^^ 0)
        rw [sel_0, Nat.xor_zero]
        simp [rnk]
      · have : q = 0 := by omega
        subst this
        show rnk D f (sel l0 0) + B (c ^^^ 0) ≤ B c
        rw [sel_0, Nat.xor_zero]
        simp [rnk]
    obtain ⟨most, tk, z1, z2⟩ := shr26 N (f_X4_shareAlsoWith_9 csF N n) hD hf hl hm (s := c) (by omega) hT (fun t ht => hB t (by omega)) (fun t ht => hBr t (by omega)) c N 1 (B c) 0 (by omega) (by omega) e0
    have mu : Md [(17, some 1, none), (19, none, none)] S (ui (ul S 17 1 c (lI most)) 19 f c (nI tk)) := ((Md.rf _ S).ul rfl rfl).ui rfl rfl
    obtain ⟨Z, y1, y2, y3, y4⟩ := ih n (ui (ul S 17 1 c (lI most)) 19 f c (nI tk)) (by omega) (by omega) (fun t ht => (hT t ht).md mu (fun _ _ => rfl) (fun _ _ => rfl) (fun _ => rfl)) (fun t ht => by rw [gl_ui, gl_ul, if_neg (fun x => by omega)]; exact hB t (by omega))
    refine ⟨Z, ?_, fun t ht => ?_, fun t ht => ?_, fun f' t hf' => ?_⟩
    · rw [f_X4_shareAlsoWith_9, nI_m1 (by omega), if_neg (by rw [show (0 : Int32) = nI 0 from rfl, nI_ltI (by omega) (by omega)]; omega), mF (by decide) (by decide), ck_t, mF (by decide) (by decide), ck_t, inb_k (show c < 128 by omega) (by decide), ck_t, lt_s_, cl_k (by omega), hB c (by omega)]
      rw [show nI 0 = 0 from rfl, show nI 1 = 1 from rfl] at z1
      rw [z1]
      exact y1
    · by_cases e : t = c
      · subst e
        refine ⟨most, tk, ?_, ?_, z2⟩
        · rw [(y3 t (Nat.le_refl t)).1, gl_ui, gl_ul_s]
        · rw [(y3 t (Nat.le_refl t)).2, gi_ui_s]
      · exact y2 t (by omega)
    · obtain ⟨a, b⟩ := y3 t (by omega)
      rw [a, b]
      exact ⟨by rw [gl_ui, gl_ul, if_neg (fun x => by omega)], by rw [gi_ui_j _ _ _ _ _ _ (by omega), gi_ul]⟩
    · rw [y4 f' t hf', gi_ui_k _ _ _ _ _ _ hf', gi_ul]
abbrev CnD (D : Pb) (l0 : List Nat) : Nat → Nat → Prop := fun f t => canD D f (sel l0 t)
abbrev rkD (D : Pb) (l0 : List Nat) : Nat → Nat → Int := fun f t => rnk D f (sel l0 t)
def Fam (S : HS) (D : Pb) (l0 : List Nat) (F : Nat) : Prop := ∀ s, s < 2 ^ l0.length → ∃ v, gl S 17 1 s = lI v ∧ 0 ≤ v ∧ v ≤ 1000000000000000 * (F : Int) ∧ Bst (CnD D l0) (rkD D l0) (pC S) F s v ∧ ∀ f, f < F → gi S 19 f s = nI (pC S f s)
theorem Fam.md {M : List (Nat × Option Nat × Option Nat)} {S Z : HS} {D : Pb} {l0 : List Nat} {F : Nat} (h : Fam S D l0 F) (m : Md M S Z) (h1 : ∀ j, pm M 17 1 j = false) (h2 : ∀ k j, pm M 19 k j = false) : Fam Z D l0 F := fun s hs => by
  obtain ⟨v, a, b, c, d, d'⟩ := h s hs
  have e : pC Z = pC S := by funext f t; unfold pC; rw [m.gi _ _ _ (h2 _ _)]
  refine ⟨v, by rw [m.gl _ _ _ (h1 _)]; exact a, b, c, by rw [e]; exact d, fun f hf => by rw [e, m.gi _ _ _ (h2 _ _)]; exact d' f hf⟩
theorem RowC.md {M : List (Nat × Option Nat × Option Nat)} {S Z : HS} {l0 : List Nat} (h : RowC S l0) (m : Md M S Z) (h1 : pm M 12 0 6 = false) (h2 : ∀ j, pm M 13 3 j = false) : RowC Z l0 := ⟨by rw [m.gi _ _ _ h1]; exact h.1, fun j hj => by rw [m.gi _ _ _ (h2 j)]; exact h.2 j hj⟩
theorem X4_share_eq (N : Nat) (hN : 200 ≤ N) {S : HS} {D : Pb} (hD : dOk D) {l0 : List Nat} {f : Nat} (hf : f < 4) (hl : l0.length ≤ 7) (hm : ∀ j, j ∈ l0 → j < D 0 0 1 ∧ D 8 j 0 = 1) (hR : RowC S l0) (hT : ∀ t, t < 2 ^ l0.length → TbC S D l0 f t) (hF : Fam S D l0 f) : ∃ Z, f_X4_shareAlsoWith csF N (nI f) S = some ((), Z) ∧ Fam Z D l0 (f + 1) ∧ Md ml_X4_shareAlsoWith S Z := by
  have hp := pw_le hl
  have hB : ∀ s, s < 2 ^ l0.length → gl S 17 1 s = lI (gl S 17 1 s).toInt ∧ 0 ≤ (gl S 17 1 s).toInt ∧ (gl S 17 1 s).toInt ≤ 1000000000000000 * (f : Int) ∧ Bst (CnD D l0) (rkD D l0) (pC S) f s (gl S 17 1 s).toInt := fun s hs => by
    obtain ⟨v, a, b, c, d, -⟩ := hF s hs
    have e : (gl S 17 1 s).toInt = v := by rw [a, lI_toInt (by omega) (by omega)]
    rw [e]
    exact ⟨a, b, c, d⟩
  obtain ⟨Z, z1, z2, z3, z4⟩ := shr9 N hN hD hf hl hm (B := fun s => (gl S 17 1 s).toInt) (fun t ht => ⟨(hB t ht).2.1, (hB t ht).2.2.1⟩) (2 ^ l0.length) N S (Nat.le_refl _) (by omega) hT (fun t ht => (hB t ht).1)
  have e : f_X4_shareAlsoWith csF N (nI f) S = some ((), Z) := by
    rw [f_X4_shareAlsoWith, mF (by decide) (by decide), ck_t, lt_s_, hR.1, sh_p _ (by omega), Int32.sub_eq_add_neg]
    exact z1
  refine ⟨Z, e, fun s hs => ?_, md_X4_shareAlsoWith _ _ _ _ _ _ e⟩
  obtain ⟨most, tk, y1, y2, y3⟩ := z2 s hs
  have htk : tk < 128 := by have := and_le y3.1; omega
  have hP : pC Z f s = tk := by unfold pC; rw [y2]; exact nat_nI (by omega)
  have hq := hB (s ^^^ tk) (xor_and y3.1 hs)
  have hr : rnk D f (sel l0 tk) ≤ 1000000000000000 := by
    have h1 := rnk_rg hD hf (sel l0 tk) (fun j hj => by
      obtain ⟨p, p1, p2, p3⟩ := (sel_mem hl (Nat.lt_of_le_of_lt (and_le y3.1) hs)).mp hj
      rw [← p3]
      exact hm _ (getD_mem p1))
    have h2 : (sel l0 tk).length ≤ 7 := selN_len 7
    omega
  have y33 : most = rnk D f (sel l0 tk) + (gl S 17 1 (s ^^^ tk)).toInt := y3.2.2.1
  have low : 0 ≤ most := by
    have h1 : rnk D f (sel l0 0) + (gl S 17 1 (s ^^^ 0)).toInt ≤ most := y3.2.2.2 0 (by omega) (by simp) (by
      show canD D f (sel l0 0)
      rw [sel_0]
      exact ⟨by simp [silD], rfl⟩)
    rw [sel_0, Nat.xor_zero] at h1
    have h2 := (hB s hs).2.1
    simp [rnk] at h1
    omega
  refine ⟨most, y1, low, ?_, ?_, fun f' hf' => ?_⟩
  · have := hq.2.2.1
    rw [Int.natCast_add]
    omega
  · refine Bst_step hs (B := fun s => (gl S 17 1 s).toInt) (fun t ht => ?_) (by rw [hP]; exact y3)
    obtain ⟨b1, b2, b3⟩ := (hB t ht).2.2.2
    have et : trc (pC Z) f t = trc (pC S) f t := trc_cg f t (fun f' hf' u => by unfold pC; rw [z4 f' u (by omega)])
    exact ⟨by rw [et]; exact b1, by rw [et]; exact b2, b3⟩
  · by_cases q : f' = f
    · subst q
      rw [hP]
      exact y2
    · obtain ⟨-, -, -, -, -, d'⟩ := hF s hs
      have := d' f' (by omega)
      unfold pC at this ⊢
      rw [z4 f' s q]
      exact this
theorem X4_startAt_eq (N : Nat) {S : HS} {D : Pb} (hx : Fx S D) {f : Nat} (hf : f < 4) (l0 : List Nat) : ∃ Z, f_X4_startAt csF N f (nI (D 0 0 0)) S = some ((), Z) ∧ TbC Z D l0 f 0 ∧ Md ml_X4_startAt S Z := by
  have ha := hx.a
  have hh := hx.h hf (show D 0 0 0 < 52 by omega)
  have i0 : inb 0 128 = true := by decide
  have c0 : (0 : Int32).toNatClampNeg = 0 := rfl
  have e : f_X4_startAt csF N f (nI (D 0 0 0)) S = some ((), ul (ui (ui (ui (ui S 15 0 0 1) 16 0 0 (nI (D 0 0 0))) 16 1 0 (nI (D 2 f (D 0 0 0)))) 16 2 0 0) 17 0 0 0) := by
    rw [f_X4_startAt, mF (by decide) (by decide), ck_t, mF (by decide) (by decide), ck_t, i0, ck_t, lt_s_, mF (by decide) (by decide), ck_t, ck_t, lt_s_, mF (by decide) (show f < 4 from hf), ck_t, mF (by decide) (show f < 4 from hf), ck_t, inb_k (show D 0 0 0 < 52 by omega) (by decide), ck_t, mF (by decide) (by decide), ck_t, ck_t, lt_s_, mF (by decide) (by decide), ck_t, ck_t, lt_s_, mF (by decide) (by decide), ck_t, ck_t, lt_s_, c0, nar1, cl_k (by omega), gi_ui_c _ _ _ _ _ _ (by decide), gi_ui_c _ _ _ _ _ _ (by decide), hh.1]
  refine ⟨_, e, ?_, md_X4_startAt _ _ _ _ _ _ _ e⟩
  unfold TbC
  rw [sel_0]
  refine ⟨by simp [gi_ul, gi_ui, silD]; rfl, by rw [gl_ul_s]; simp [rnk]; rfl, Or.inl ⟨⟨by simp [silD], rfl⟩, by simp [gi_ul, gi_ui], st0 D f, rfl, by simp [gi_ul, gi_ui]; rfl, by simp [gi_ul, gi_ui]; rfl, ha.2.2.2.2.1, hh.2.2⟩⟩
theorem find56 (N : Nat) (hN : 200 ≤ N) (K : Nat → Int32 → Int32 → HS → Option (Unit × HS)) (v5 : Int32) {D : Pb} {l0 : List Nat} {f : Nat} (hf : f < 4) (hl : l0.length ≤ 7) (hm : ∀ j, j ∈ l0 → j < D 0 0 1 ∧ D 8 j 0 = 1) (rr : Nat) : ∀ (m n k : Nat) (S : HS), k + m = l0.length → m < n → Fx S D → rkC S = rr → RowC S l0 → (∀ s, s < 2 ^ k → TbC S D l0 f s) → ∃ Z, f_X4_find_56 csF N K n rr v5 (nI f) (nI k) S = ob (f_X4_shareAlsoWith csF N (nI f) Z) (fun _ S4 => K rr v5 (nI (f + 1)) S4) ∧ (∀ s, s < 2 ^ l0.length → TbC Z D l0 f s) ∧ Md ml_X4_addToSets S Z := by
  intro m
  induction m with
  | zero =>
    intro n k S h1 h2 hx hr hR hT
    obtain ⟨n, rfl⟩ : ∃ k, n = k + 1 := ⟨n - 1, by omega⟩
    have e : k = l0.length := by omega
    subst e
    refine ⟨S, ?_, hT, Md.rf _ S⟩
    rw [f_X4_find_56, mF (by decide) (by decide), ck_t, hR.1, if_pos (by rw [nI_leI (by omega) (by omega)]; omega)]
    simp only [lt_s_, nI_1]
  | succ m ih =>
    intro n k S h1 h2 hx hr hR hT
    obtain ⟨n, rfl⟩ : ∃ k, n = k + 1 := ⟨n - 1, by omega⟩
    have hk : k < l0.length := by omega
    have hi := hm _ (getD_mem hk)
    have hi7 := (hx.oo hi.1).1
    have hp := pw_le hl
    have hpk : 2 ^ k ≤ 64 := Nat.le_trans (Nat.pow_le_pow_right (by decide) (show k ≤ 6 by omega)) (by decide)
    obtain ⟨Z1, z1, z2⟩ := add18 N (by omega) hf hk hl hm rr (2 ^ k) N 0 S (by omega) (by omega) hx hr (fun s hs => hT s (by omega))
    have e1 : f_X4_addToSets csF N (nI k) (l0.getD k 0) f rr S = some ((), Z1) := by
      rw [f_X4_addToSets, lt_s_, mF (by decide) (show f < 4 from hf), ck_t, (hx.f hf).1, X4_rankOf_eq N hx hf hi.1, ob_s, sh_p k (by omega)]
      exact z1
    have m1 : Md ml_X4_addToSets S Z1 := md_X4_addToSets _ _ _ _ _ _ _ _ _ e1
    obtain ⟨Z, y1, y2, y3⟩ := ih n (k + 1) Z1 (by omega) (by omega) (hx.sub m1 (by decide)) (by rw [rkC_md m1 rfl]; exact hr) (hR.md m1 rfl (fun _ => rfl)) z2
    refine ⟨Z, ?_, y2, m1.trans y3⟩
    rw [f_X4_find_56, mF (by decide) (by decide), ck_t, hR.1, if_neg (by rw [nI_leI (by omega) (by omega)]; omega), mF (by decide) (by decide), ck_t, inb_k (show k < 7 by omega) (by decide), ck_t, mF (by decide) (by decide), ck_t, cl_k (show k < 2147483648 by omega), hR.2 k hk, inb_k hi7 (by decide), ck_t, mF (by decide) (by decide), ck_t, inb_k hf (by decide), ck_t, cl_k (show l0.getD k 0 < 2147483648 by omega), cl_k (show f < 2147483648 by omega), e1, ob_s, lt_s_, nI_1]
    exact y1
theorem find37 (N : Nat) (hN : 200 ≤ N) {D : Pb} {l0 : List Nat} (hl : l0.length ≤ 7) (hm : ∀ j, j ∈ l0 → j < D 0 0 1 ∧ D 8 j 0 = 1) (rr : Nat) : ∀ (m n f : Nat) (S : HS), f + m = 4 → m < n → Fx S D → rkC S = rr → RowC S l0 → Fam S D l0 f → ∃ Z, f_X4_find_37 csF N n rr (nI (D 0 0 0)) (nI f) S = ob (f_X4_tellWay csF N rr (nI (D 0 0 0)) Z) (fun _ S4 => some ((), S4)) ∧ Fx Z D ∧ rkC Z = rr ∧ RowC Z l0 ∧ Fam Z D l0 4 := by
  intro m
  induction m with
  | zero =>
    intro n f S h1 h2 hx hr hR hF
    obtain ⟨n, rfl⟩ : ∃ k, n = k + 1 := ⟨n - 1, by omega⟩
    have e : f = 4 := by omega
    subst e
    refine ⟨S, ?_, hx, hr, hR, hF⟩
    rw [f_X4_find_37, if_pos (by decide), mF (by decide) (by decide), ck_t]
  | succ m ih =>
    intro n f S h1 h2 hx hr hR hF
    obtain ⟨n, rfl⟩ : ∃ k, n = k + 1 := ⟨n - 1, by omega⟩
    have hf : f < 4 := by omega
    obtain ⟨Z1, z1, z2, z3⟩ := X4_startAt_eq N hx hf l0
    obtain ⟨Z2, y1, y2, y3⟩ := find56 N hN (f_X4_find_37 csF N n) (nI (D 0 0 0)) hf hl hm rr l0.length N 0 Z1 (by omega) (by omega) (hx.sub z3 (by decide)) (by rw [rkC_md z3 rfl]; exact hr) (hR.md z3 rfl (fun _ => rfl)) (fun s hs => by
      have : s = 0 := by simp at hs; exact hs
      subst this
      exact z2)
    have hx2 := (hx.sub z3 (by decide)).sub y3 (by decide)
    have hR2 := (hR.md z3 rfl (fun _ => rfl)).md y3 rfl (fun _ => rfl)
    have hF2 : Fam Z2 D l0 f := (hF.md z3 (fun _ => rfl) (fun _ _ => rfl)).md y3 (fun _ => rfl) (fun _ _ => rfl)
    obtain ⟨Z3, x1, x2, x3⟩ := X4_share_eq N hN hx.ok hf hl hm hR2 y2 hF2
    obtain ⟨Z, w1, w2⟩ := ih n (f + 1) Z3 (by omega) (by omega) (hx2.sub x3 (by decide)) (by rw [rkC_md x3 rfl, rkC_md y3 rfl, rkC_md z3 rfl]; exact hr) (hR2.md x3 rfl (fun _ => rfl)) x2
    refine ⟨Z, ?_, w2⟩
    rw [f_X4_find_37, if_neg (by rw [show (4 : Int32) = nI 4 from rfl, nI_leI (by omega) (by omega)]; omega), mF (by decide) (by decide), ck_t, inb_k hf (by decide), ck_t, mF (by decide) (by decide), ck_t, cl_k (by omega), z1, ob_s]
    rw [show nI 0 = 0 from rfl] at y1
    rw [y1, x1, ob_s]
    exact w1
theorem find9 (N : Nat) (hN : 200 ≤ N) {l0 : List Nat} (hl : l0.length ≤ 7) (rr : Nat) (v5 : Int32) : ∀ (m n s : Nat) (S : HS), s + m = 2 ^ l0.length → m < n → RowC S l0 → (∀ t, t < s → gl S 17 1 t = lI 0) → ∃ Z, f_X4_find_9 csF N n rr v5 (nI s) S = f_X4_find_37 csF N N rr v5 0 Z ∧ (∀ t, t < 2 ^ l0.length → gl Z 17 1 t = lI 0) ∧ Md [(17, some 1, none)] S Z := by
  have hp := pw_le hl
  intro m
  induction m with
  | zero =>
    intro n s S h1 h2 hR h3
    obtain ⟨n, rfl⟩ : ∃ k, n = k + 1 := ⟨n - 1, by omega⟩
    refine ⟨S, ?_, fun t ht => h3 t (by omega), Md.rf _ S⟩
    rw [f_X4_find_9, mF (by decide) (by decide), ck_t, hR.1, sh_p _ (by omega), if_pos (by rw [nI_leI (by omega) (by omega)]; omega)]
  | succ m ih =>
    intro n s S h1 h2 hR h3
    obtain ⟨n, rfl⟩ : ∃ k, n = k + 1 := ⟨n - 1, by omega⟩
    have mu : Md [(17, some 1, none)] S (ul S 17 1 s 0) := (Md.rf _ S).ul rfl rfl
    obtain ⟨Z, z1, z2, z3⟩ := ih n (s + 1) (ul S 17 1 s 0) (by omega) (by omega) (hR.md mu rfl (fun _ => rfl)) (fun t ht => by
      by_cases e : t = s
      · rw [e, gl_ul_s]; rfl
      · rw [gl_ul, if_neg (fun x => e x.2.2)]; exact h3 t (by omega))
    refine ⟨Z, ?_, z2, mu.trans z3⟩
    rw [f_X4_find_9, mF (by decide) (by decide), ck_t, hR.1, sh_p _ (by omega), if_neg (by rw [nI_leI (by omega) (by omega)]; omega), mF (by decide) (by decide), ck_t, inb_k (show s < 128 by omega) (by decide), ck_t, lt_s_, lt_s_, cl_k (by omega), nI_1]
    exact z1
/-- all ahead of the telling -/
theorem X4_find_pre (N : Nat) (hN : 200 ≤ N) {S : HS} {D : Pb} (hx : Fx S D) : ∃ Z l0, f_X4_find csF N (nI (D 0 0 1)) (rkC S) (nI (D 0 0 0)) S = ob (f_X4_tellWay csF N (rkC S) (nI (D 0 0 0)) Z) (fun _ S4 => some ((), S4)) ∧ Fx Z D ∧ rkC Z = rkC S ∧ RowC Z l0 ∧ rowOk D l0 ∧ l0.length ≤ 7 ∧ (∀ j, j ∈ l0 ↔ j < D 0 0 1 ∧ D 8 j 0 = 1) ∧ Fam Z D l0 4 := by
  have ha := hx.a
  obtain ⟨Z1, l0, z1, z2, z3, z4, z5, z6⟩ := X4_lineUp_eq N (by omega) hx
  have hl : l0.length ≤ 7 := by omega
  have hp := pw_le hl
  obtain ⟨Z2, y1, y2, y3⟩ := find9 N hN hl (rkC S) (nI (D 0 0 0)) (2 ^ l0.length) N 0 Z1 (by omega) (by omega) z2 (fun t ht => by omega)
  have hx2 := (hx.sub z6 (by decide)).sub y3 (by decide)
  obtain ⟨Z, w1, w2, w3, w4, w5⟩ := find37 N hN hl (fun j hj => (z5 j).mp hj) (rkC S) 4 N 0 Z2 (by omega) (by omega) hx2 (by rw [rkC_md y3 rfl, rkC_md z6 rfl]) (z2.md y3 rfl (fun _ => rfl)) (fun s hs => ⟨0, y2 s hs, by omega, by simp, ⟨rfl, rfl, fun qs hq => by
    show (0 : Int) ≤ 0
    omega⟩, fun f hf => by omega⟩)
  refine ⟨Z, l0, ?_, w2, w3, w4, z3, hl, z5, w5⟩
  rw [f_X4_find, mF (by decide) (by decide), ck_t, z1, ob_s]
  rw [show nI 0 = 0 from rfl] at y1 w1
  rw [y1]
  exact w1
